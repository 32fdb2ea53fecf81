/-! ===== the rest of players and bells; chairs taken away; copies ===== -/
def x_us (x : Int32) (k : Int32) : Int32 := (x.toUInt32 >>> (k.toUInt32 &&& Int32.toUInt32 31)).toInt32
def x_bc (x : Int32) : Int32 :=
  let a := x - (x_us x (nI 1) &&& 1431655765)
  let b := (a &&& 858993459) + (x_us a (nI 2) &&& 858993459)
  let c := (b + x_us b (nI 4)) &&& 252645135
  let e := c + x_us c (nI 8)
  (e + x_us e (nI 16)) &&& nI 63
set_option maxRecDepth 100000 in
theorem x_bc_all : (List.range 4096).all (fun m => decide (x_bc (nI m) = nI (x_pop m 12))) = true := by decide +kernel
theorem x_bc_ok {m : Nat} (h : m < 4096) : x_bc (nI m) = nI (x_pop m 12) := of_decide_eq_true (List.all_eq_true.mp x_bc_all m (List.mem_range.mpr h))
set_option maxHeartbeats 4000000 in
theorem c_bitCount (d m : Nat) (g : xG) (Q : xQ) (h : m < 4096) (k : Q (some (.int (nI (x_pop m 12)))) g) : Cx (d + 1) i_Int_bitCount [.int (nI m)] g Q := by
  refine r_cl (L0 := [some (.int (nI m))]) rfl (Or.inl rfl) rfl rfl rfl ?_
  refine r_run 400 rfl rfl ?_
  refine r_iret rfl rfl ?_
  show Q (some (.int (x_bc (nI m)))) g
  rw [x_bc_ok h]
  exact k
/-- the row i of the chairs, the worn one taken out k times -/
def x_rm (f : Nat → Int32) (w : Nat) : Nat → Int32 := fun i => if i < w then f i else f (i + 1)
def x_tq : Nat → Nat → xG → xG
  | 0, _, R => R
  | k + 1, n, R => x_tq k (n - 1) (fun r => x_rm (R r) (x_mw (R 1) (n - 1)))
theorem x_mw_congr {f f' : Nat → Int32} : ∀ n, (∀ i, i ≤ n → f i = f' i) → x_mw f n = x_mw f' n
  | 0, _ => rfl
  | n + 1, h => by
    have e := x_mw_congr n (fun i hi => h i (by omega))
    unfold x_mw
    rw [e, h (n + 1) (Nat.le_refl _), h (x_mw f' n) (by have := x_mw_le f' n; omega)]
theorem x_tq_congr : ∀ (k n : Nat) (R R' : xG), k < n → (∀ r i, r < 3 → i < n → R r i = R' r i) → ∀ r i, r < 3 → i < n - k → x_tq k n R r i = x_tq k n R' r i
  | 0, n, R, R', _, h => fun r i h1 h2 => h r i h1 (by omega)
  | k + 1, n, R, R', hk, h => fun r i h1 h2 => by
    have hw : x_mw (R 1) (n - 1) = x_mw (R' 1) (n - 1) := x_mw_congr _ (fun i hi => h 1 i (by omega) (by omega))
    refine x_tq_congr k (n - 1) _ _ (by omega) (fun r i h3 h4 => ?_) r i h1 (by omega)
    show x_rm (R r) _ i = x_rm (R' r) _ i
    rw [hw]
    unfold x_rm
    split
    · exact h r i h3 (by omega)
    · exact h r (i + 1) h3 (by omega)
set_option maxHeartbeats 4000000 in
theorem c_howMany_2 (d m : Nat) (g : xG) (Q : xQ) (hm : g 7 8 = nI m) (h : m < 4096) (k : Q (some (.int (nI (x_pop m 12)))) g) : Cx (d + 2) i_Players_howManyPlay [.ref 7] g Q := by
  refine r_cl (L0 := [some (.ref 7)]) rfl (Or.inr ⟨_, _, _, rfl, rfl⟩) rfl rfl rfl ?_
  refine r_run 400 rfl rfl ?_
  simp only [x_up_app, x_ce_app, x_ce_same, Nat.reduceAdd, Nat.reduceEqDiff, ↓reduceIte, Nat.reduceSub, Nat.reduceMul, reduceCtorEq, hm]
  refine r_ins rfl rfl rfl rfl ?_
  refine c_bitCount d m g _ h ?_
  exact r_iret rfl rfl k
set_option maxHeartbeats 4000000 in
theorem c_leave_2 (d p : Nat) (r : Int32) (g : xG) (Q : xQ) (hp : p < 12) (k : Q none (x_up (x_up g 7 8 (g 7 8 &&& ((nI 1 <<< (nI p &&& 31)) ^^^ (-1)))) 14 p r)) : Cx (d + 1) i_Players_leave [.ref 7, .int (nI p), .int r] g Q := by
  refine r_cl (L0 := [some (.ref 7), some (.int (nI p)), some (.int r)]) rfl (Or.inr ⟨_, _, _, rfl, rfl⟩) rfl rfl rfl ?_
  refine r_run 400 rfl rfl ?_
  refine r_ast (j := p) rfl rfl (rfl) (by omega) (Nat.le_of_ble_eq_true rfl) ?_
  refine r_run 400 rfl rfl ?_
  exact r_ret rfl rfl k
set_option maxHeartbeats 4000000 in
theorem c_first_2 (d n m : Nat) (g : xG) (Q : xQ) (hn : g 7 9 = nI n) (h12 : n ≤ 12) (hm : g 7 8 = nI m) (hm2 : m < 2 ^ 31) (k1 : ∀ p, p < n → x_bit m p → (∀ q, q < p → ¬ x_bit m q) → Q (some (.int (nI p))) g) (k2 : (∀ p, p < n → ¬ x_bit m p) → Q (some (.int (-1000004))) g) : Cx (d + 2) i_Players_firstPlaying [.ref 7] g Q := by
  refine r_cl (L0 := [some (.ref 7), none]) rfl (Or.inr ⟨_, _, _, rfl, rfl⟩) rfl rfl rfl ?_
  have loop : ∀ p, p ≤ n → (∀ q, q < p → ¬ x_bit m q) → Rx (d + 1) m_Players_firstPlaying Q 2 [some (.ref 7), some (.int (nI p))] [] g := by
    refine r_for ?_ ?_
    · intro h
      refine r_run 400 rfl rfl ?_
      simp only [x_up_app, x_ce_app, x_ce_same, Nat.reduceAdd, Nat.reduceEqDiff, ↓reduceIte, Nat.reduceSub, Nat.reduceMul, reduceCtorEq, hn]
      refine n_ige rfl (by omega) (by omega) (fun _ => ?_) (fun h2 => by omega)
      refine r_run 400 rfl rfl ?_
      exact r_iret rfl rfl (k2 h)
    · intro p hp ih h
      refine r_run 400 rfl rfl ?_
      simp only [x_up_app, x_ce_app, x_ce_same, Nat.reduceAdd, Nat.reduceEqDiff, ↓reduceIte, Nat.reduceSub, Nat.reduceMul, reduceCtorEq, hn]
      refine n_ige rfl (by omega) (by omega) (fun _ => by omega) (fun _ => ?_)
      refine r_run 400 rfl rfl ?_
      refine r_inv rfl rfl rfl ?_
      refine c_isPlaying_2 d p g _ hm hm2 (by omega) (fun hb => ?_) (fun hb => ?_)
      · refine t_eq1 rfl ?_
        refine r_run 400 rfl rfl ?_
        exact r_iret rfl rfl (k1 p hp hb h)
      · refine t_eq0 rfl ?_
        refine r_to 2 60 rfl rfl ?_
        simp only [x_up_app, x_ce_app, x_ce_same, Nat.reduceAdd, Nat.reduceEqDiff, ↓reduceIte, Nat.reduceSub, Nat.reduceMul, reduceCtorEq, nI_add]
        refine ih (fun q hq => ?_)
        by_cases e : q = p
        · subst e
          exact hb
        · exact h q (by omega)
  refine r_to 2 60 rfl rfl ?_
  exact loop 0 (Nat.zero_le _) (fun q hq => absurd hq (Nat.not_lt_zero _))
set_option maxHeartbeats 4000000 in
theorem c_allSittings_2 (d n : Nat) (g : xG) (Q : xQ) (hn : g 7 9 = nI n) (h12 : n ≤ 12) (k : Q (some (.int (x_sm (g 11) n))) g) : Cx (d + 2) i_Players_allSittings [.ref 7] g Q := by
  refine r_cl (L0 := [some (.ref 7)]) rfl (Or.inr ⟨_, _, _, rfl, rfl⟩) rfl rfl rfl ?_
  refine r_run 400 rfl rfl ?_
  refine r_inv rfl rfl rfl ?_
  refine c_sum_2 d n 10 g _ hn h12 rfl ?_
  exact r_iret rfl rfl k
set_option maxHeartbeats 4000000 in
theorem c_allBumps_2 (d n : Nat) (g : xG) (Q : xQ) (hn : g 7 9 = nI n) (h12 : n ≤ 12) (k : Q (some (.int (x_sm (g 12) n))) g) : Cx (d + 2) i_Players_allBumps [.ref 7] g Q := by
  refine r_cl (L0 := [some (.ref 7)]) rfl (Or.inr ⟨_, _, _, rfl, rfl⟩) rfl rfl rfl ?_
  refine r_run 400 rfl rfl ?_
  refine r_inv rfl rfl rfl ?_
  refine c_sum_2 d n 11 g _ hn h12 rfl ?_
  exact r_iret rfl rfl k
set_option maxHeartbeats 4000000 in
theorem c_allSteps_2 (d n : Nat) (g : xG) (Q : xQ) (hn : g 7 9 = nI n) (h12 : n ≤ 12) (k : Q (some (.int (x_sm (g 13) n))) g) : Cx (d + 2) i_Players_allSteps [.ref 7] g Q := by
  refine r_cl (L0 := [some (.ref 7)]) rfl (Or.inr ⟨_, _, _, rfl, rfl⟩) rfl rfl rfl ?_
  refine r_run 400 rfl rfl ?_
  refine r_inv rfl rfl rfl ?_
  refine c_sum_2 d n 12 g _ hn h12 rfl ?_
  exact r_iret rfl rfl k
set_option maxHeartbeats 4000000 in
theorem c_walk_2 (d n c m b : Nat) (st qp : Nat → Nat) (g : xG) (Q : xQ) (hn : g 7 9 = nI n) (h12 : n ≤ 12) (hc : g 3 3 = nI c) (hc1 : 1 ≤ c) (hc16 : c ≤ 16) (hm : g 7 8 = nI m) (hm2 : m < 2 ^ 31) (hb : b ≤ 1000) (hs : ∀ p, p < n → g 8 p = nI (st p) ∧ st p ≤ 9) (hq : ∀ p, p < n → x_bit m p → g 10 p = nI (qp p) ∧ qp p < 16)
    (k : ∀ g' : xG, (∀ p, p < n → x_bit m p → g' 10 p = nI ((qp p + st p * b) % c) ∧ g' 13 p = g 13 p + nI (st p * b)) → (∀ p, p < n → ¬ x_bit m p → g' 10 p = g 10 p ∧ g' 13 p = g 13 p) → (∀ a, a ≠ 10 → a ≠ 13 → g' a = g a) → Q none g') : Cx (d + 2) i_Players_walk [.ref 7, .ref 3, .int (nI b)] g Q := by
  refine r_cl (L0 := [some (.ref 7), some (.ref 3), some (.int (nI b)), none, none]) rfl (Or.inr ⟨_, _, _, rfl, rfl⟩) rfl rfl rfl ?_
  have loop : ∀ p, p ≤ n → ∀ (g' : xG) (l4 : Option Value), (∀ q, q < p → x_bit m q → g' 10 q = nI ((qp q + st q * b) % c) ∧ g' 13 q = g 13 q + nI (st q * b)) → (∀ q, (p ≤ q ∨ ¬ x_bit m q) → g' 10 q = g 10 q ∧ g' 13 q = g 13 q) → (∀ a, a ≠ 10 → a ≠ 13 → g' a = g a) → Rx (d + 1) m_Players_walk Q 2 [some (.ref 7), some (.ref 3), some (.int (nI b)), some (.int (nI p)), l4] [] g' := by
    refine r_for ?_ ?_
    · intro g' l4 h1 h3 h2
      refine r_run 400 rfl rfl ?_
      simp only [x_up_app, x_ce_app, x_ce_same, Nat.reduceAdd, Nat.reduceEqDiff, ↓reduceIte, Nat.reduceSub, Nat.reduceMul, reduceCtorEq, h2 7 (by decide) (by decide), hn]
      refine n_ige rfl (by omega) (by omega) (fun _ => ?_) (fun h2 => by omega)
      refine r_run 400 rfl rfl ?_
      exact r_ret rfl rfl (k g' h1 (fun p _ hb => h3 p (Or.inr hb)) h2)
    · intro p hp ih g' l4 h1 h3 h2
      obtain ⟨hs1, hs2⟩ := hs p hp
      refine r_run 400 rfl rfl ?_
      simp only [x_up_app, x_ce_app, x_ce_same, Nat.reduceAdd, Nat.reduceEqDiff, ↓reduceIte, Nat.reduceSub, Nat.reduceMul, reduceCtorEq, h2 7 (by decide) (by decide), hn]
      refine n_ige rfl (by omega) (by omega) (fun _ => by omega) (fun _ => ?_)
      refine r_run 400 rfl rfl ?_
      refine r_inv rfl rfl rfl ?_
      refine c_isPlaying_2 d p g' _ (by rw [h2 7 (by decide) (by decide)]; exact hm) hm2 (by omega) (fun hbt => ?_) (fun hbt => ?_)
      · obtain ⟨hq1, hq2⟩ := hq p hp hbt
        have hmul : st p * b ≤ 9 * 1000 := Nat.mul_le_mul hs2 hb
        refine t_eq1 rfl ?_
        refine r_run 400 rfl rfl ?_
        refine r_ald (j := p) rfl rfl (rfl) (by omega) (Nat.le_of_ble_eq_true rfl) ?_
        refine r_run 400 rfl rfl ?_
        simp only [x_up_app, x_ce_app, x_ce_same, Nat.reduceAdd, Nat.reduceEqDiff, ↓reduceIte, Nat.reduceSub, Nat.reduceMul, reduceCtorEq, h2 8 (by decide) (by decide), hs1, pk_mul]
        refine r_ald (j := p) rfl rfl (rfl) (by omega) (Nat.le_of_ble_eq_true rfl) ?_
        refine r_run 400 rfl rfl ?_
        simp only [x_up_app, x_ce_app, x_ce_same, Nat.reduceAdd, Nat.reduceEqDiff, ↓reduceIte, Nat.reduceSub, Nat.reduceMul, reduceCtorEq, (h3 p (Or.inl (Nat.le_refl _))).1, hq1]
        refine r_inv rfl rfl rfl ?_
        refine c_Chairs_onFrom_2 d (qp p) (st p * b) g' _ (by rw [h2 3 (by decide) (by decide)]; exact hc) hc1 hc16 (by omega) ?_
        refine r_ast (j := p) rfl rfl rfl (by omega) (Nat.le_of_ble_eq_true rfl) ?_
        refine r_run 400 rfl rfl ?_
        refine r_ald (j := p) rfl rfl (rfl) (by omega) (Nat.le_of_ble_eq_true rfl) ?_
        refine r_run 400 rfl rfl ?_
        simp only [x_up_app, x_ce_app, x_ce_same, Nat.reduceAdd, Nat.reduceEqDiff, ↓reduceIte, Nat.reduceSub, Nat.reduceMul, reduceCtorEq]
        refine r_ast (j := p) rfl rfl (rfl) (by omega) (Nat.le_of_ble_eq_true rfl) ?_
        refine r_to 2 60 rfl rfl ?_
        simp only [x_up_app, x_ce_app, x_ce_same, Nat.reduceAdd, Nat.reduceEqDiff, ↓reduceIte, Nat.reduceSub, Nat.reduceMul, reduceCtorEq, nI_add]
        refine ih _ _ (fun q hqq hqb => ?_) (fun q hqq => ?_) (fun a ha hb2 => ?_)
        · simp only [x_up_app, x_ce_app, x_ce_same, Nat.reduceAdd, Nat.reduceEqDiff, ↓reduceIte, Nat.reduceSub, Nat.reduceMul, reduceCtorEq]
          split
          · rename_i e
            subst e
            rw [(h3 q (Or.inl (Nat.le_refl _))).2]
            exact ⟨rfl, rfl⟩
          · exact h1 q (by omega) hqb
        · have hne : ¬ q = p := by
            rcases hqq with h | h
            · omega
            · intro e
              subst e
              exact h hbt
          simp only [x_up_app, x_ce_app, x_ce_same, Nat.reduceAdd, Nat.reduceEqDiff, ↓reduceIte, Nat.reduceSub, Nat.reduceMul, reduceCtorEq, if_neg hne]
          exact h3 q (hqq.imp (fun h => by omega) id)
        · rw [x_up_row hb2, x_up_row ha]
          exact h2 a ha hb2
      · refine t_eq0 rfl ?_
        refine r_to 2 60 rfl rfl ?_
        simp only [x_up_app, x_ce_app, x_ce_same, Nat.reduceAdd, Nat.reduceEqDiff, ↓reduceIte, Nat.reduceSub, Nat.reduceMul, reduceCtorEq, nI_add]
        refine ih _ _ (fun q hqq hqb => ?_) (fun q hqq => h3 q (hqq.imp (fun h => by omega) id)) h2
        by_cases e : q = p
        · subst e
          exact absurd hqb hbt
        · exact h1 q (by omega) hqb
  refine r_to 2 60 rfl rfl ?_
  exact loop 0 (Nat.zero_le _) g none (fun i hi => absurd hi (Nat.not_lt_zero _)) (fun q _ => ⟨rfl, rfl⟩) (fun _ _ _ => rfl)
set_option maxHeartbeats 4000000 in
theorem c_ring_2 (d nx kp : Nat) (r t c tn p : Int32) (g : xG) (Q : xQ) (hx : g 16 5 = nI nx) (h1 : nx < 12) (hk : g 16 6 = nI kp) (h2 : kp ≤ 12) (k : Q none (x_up (x_up (x_up (x_up (x_up (x_up (x_up g 17 nx r) 18 nx t) 19 nx c) 20 nx tn) 21 nx p) 16 5 (nI ((nx + 1) % 12))) 16 6 (nI (min (kp + 1) 12)))) : Cx (d + 2) i_Bells_ring [.ref 16, .int r, .int t, .int c, .int tn, .int p] g Q := by
  refine r_cl (L0 := [some (.ref 16), some (.int r), some (.int t), some (.int c), some (.int tn), some (.int p)]) rfl (Or.inr ⟨_, _, _, rfl, rfl⟩) rfl rfl rfl ?_
  refine r_run 400 rfl rfl ?_
  simp only [x_up_app, x_ce_app, x_ce_same, Nat.reduceAdd, Nat.reduceEqDiff, ↓reduceIte, Nat.reduceSub, Nat.reduceMul, reduceCtorEq, hx]
  refine r_ast (j := nx) rfl rfl (rfl) (by omega) (Nat.le_of_ble_eq_true rfl) ?_
  refine r_run 400 rfl rfl ?_
  simp only [x_up_app, x_ce_app, x_ce_same, Nat.reduceAdd, Nat.reduceEqDiff, ↓reduceIte, Nat.reduceSub, Nat.reduceMul, reduceCtorEq, hx]
  refine r_ast (j := nx) rfl rfl (rfl) (by omega) (Nat.le_of_ble_eq_true rfl) ?_
  refine r_run 400 rfl rfl ?_
  simp only [x_up_app, x_ce_app, x_ce_same, Nat.reduceAdd, Nat.reduceEqDiff, ↓reduceIte, Nat.reduceSub, Nat.reduceMul, reduceCtorEq, hx]
  refine r_ast (j := nx) rfl rfl (rfl) (by omega) (Nat.le_of_ble_eq_true rfl) ?_
  refine r_run 400 rfl rfl ?_
  simp only [x_up_app, x_ce_app, x_ce_same, Nat.reduceAdd, Nat.reduceEqDiff, ↓reduceIte, Nat.reduceSub, Nat.reduceMul, reduceCtorEq, hx]
  refine r_ast (j := nx) rfl rfl (rfl) (by omega) (Nat.le_of_ble_eq_true rfl) ?_
  refine r_run 400 rfl rfl ?_
  simp only [x_up_app, x_ce_app, x_ce_same, Nat.reduceAdd, Nat.reduceEqDiff, ↓reduceIte, Nat.reduceSub, Nat.reduceMul, reduceCtorEq, hx]
  refine r_ast (j := nx) rfl rfl (rfl) (by omega) (Nat.le_of_ble_eq_true rfl) ?_
  refine r_run 400 rfl rfl ?_
  simp only [x_up_app, x_ce_app, x_ce_same, Nat.reduceAdd, Nat.reduceEqDiff, ↓reduceIte, Nat.reduceSub, Nat.reduceMul, reduceCtorEq, hx, nI_add]
  refine n_rem rfl (by omega) (by omega) (by omega) ?_
  refine r_run 400 rfl rfl ?_
  simp only [x_up_app, x_ce_app, x_ce_same, Nat.reduceAdd, Nat.reduceEqDiff, ↓reduceIte, Nat.reduceSub, Nat.reduceMul, reduceCtorEq, hk, nI_add]
  refine r_ins rfl rfl rfl rfl ?_
  refine c_min d (kp + 1) 12 _ _ (by omega) (by omega) ?_
  refine r_run 400 rfl rfl ?_
  exact r_ret rfl rfl k
set_option maxHeartbeats 4000000 in
theorem c_leaveOnly_2 (d n : Nat) (most : Int32) (g : xG) (Q : xQ) (hn : g 3 3 = nI n) (h16 : n ≤ 16) (hmost : nI 1 ≤ most)
    (k : ∀ (g' : xG) (t : Nat), t ≤ n → (0 < t → t < n) → ¬ most < nI (n - t) → (∀ u, u < t → most < nI (n - u)) → (∀ r i, r < 3 → i < n - t → g' (4 + r) i = x_tq t n (fun r i => g (4 + r) i) r i) → g' 3 3 = nI (n - t) → (∀ a, (a < 3 ∨ 6 < a) → g' a = g a) → Q (some (.int (nI t))) g') : Cx (d + 2) i_Chairs_leaveOnly [.ref 3, .int most] g Q := by
  refine r_cl (L0 := [some (.ref 3), some (.int most), none, none]) rfl (Or.inr ⟨_, _, _, rfl, rfl⟩) rfl rfl rfl ?_
  have hpos : ∀ u, most < nI u → u < 2 ^ 31 → 1 < u := by
    intro u hu hu2
    have h3 : nI 1 < nI u := Int32.lt_of_le_of_lt hmost hu
    exact (nI_ltI (by omega) hu2).mp h3
  have loop : ∀ w, ∀ t, n - t = w → t ≤ n → (0 < t → t < n) → ∀ g' : xG, (∀ u, u < t → most < nI (n - u)) → (∀ r i, r < 3 → i < n - t → g' (4 + r) i = x_tq t n (fun r i => g (4 + r) i) r i) → g' 3 3 = nI (n - t) → (∀ a, (a < 3 ∨ 6 < a) → g' a = g a) → Rx (d + 1) m_Chairs_leaveOnly Q 4 [some (.ref 3), some (.int most), some (.int (nI t)), some (.int (nI t))] [] g' := by
    intro w
    induction w with
    | zero =>
      intro t hw ht ht0 g' h0 h1 h2 h3
      have hlast : ¬ most < nI (n - t) := fun z => by
        have := hpos _ z (by omega)
        omega
      refine r_run 400 rfl rfl ?_
      refine n_ige rfl (by omega) (by omega) (fun _ => ?_) (fun _ => ?_)
      · refine r_run 400 rfl rfl ?_
        exact r_iret rfl rfl (k g' t ht ht0 hlast h0 h1 h2 h3)
      · refine r_run 400 rfl rfl ?_
        simp only [x_up_app, x_ce_app, x_ce_same, Nat.reduceAdd, Nat.reduceEqDiff, ↓reduceIte, Nat.reduceSub, Nat.reduceMul, reduceCtorEq, h2]
        refine r_ile rfl (fun _ => ?_) (fun h => absurd (Int32.not_le.mp h) hlast)
        refine r_run 400 rfl rfl ?_
        exact r_iret rfl rfl (k g' t ht ht0 hlast h0 h1 h2 h3)
    | succ w ih =>
      intro t hw ht ht0 g' h0 h1 h2 h3
      refine r_run 400 rfl rfl ?_
      refine n_ige rfl (by omega) (by omega) (fun _ => by omega) (fun _ => ?_)
      refine r_run 400 rfl rfl ?_
      simp only [x_up_app, x_ce_app, x_ce_same, Nat.reduceAdd, Nat.reduceEqDiff, ↓reduceIte, Nat.reduceSub, Nat.reduceMul, reduceCtorEq, h2]
      refine r_ile rfl (fun h => ?_) (fun h => ?_)
      · refine r_run 400 rfl rfl ?_
        exact r_iret rfl rfl (k g' t ht ht0 (Int32.not_lt.mpr h) h0 h1 h2 h3)
      · have hlt := Int32.not_le.mp h
        have h1n := hpos _ hlt (by omega)
        have hww := x_mw_le (g' 5) (n - t - 1)
        refine r_run 400 rfl rfl ?_
        refine r_inv rfl rfl rfl ?_
        refine c_mostWorn_2 d (n - t) g' _ h2 (by omega) (by omega) ?_
        refine r_inv rfl rfl rfl ?_
        refine c_takeAway_2 d (n - t) (x_mw (g' 5) (n - t - 1)) g' _ h2 (by omega) (by omega) (fun g2 a1 a2 a3 => ?_)
        refine r_to 4 60 rfl rfl ?_
        simp only [x_up_app, x_ce_app, x_ce_same, Nat.reduceAdd, Nat.reduceEqDiff, ↓reduceIte, Nat.reduceSub, Nat.reduceMul, reduceCtorEq, nI_add]
        refine ih (t + 1) (by omega) (by omega) (fun _ => by omega) g2 (fun u hu => ?_) (fun r i hr hi => ?_) (by rw [a2]; congr 1) (fun a ha => by rw [a3 a ha]; exact h3 a ha)
        · by_cases e : u = t
          · subst e
            exact hlt
          · exact h0 u (by omega)
        · have e1 : ∀ (tt nn : Nat) (RR : xG), tt + 1 < nn → x_tq (tt + 1) nn RR r i = x_rm (x_tq tt nn RR r) (x_mw (x_tq tt nn RR 1) (nn - tt - 1)) i := by
            intro tt
            induction tt with
            | zero => intro nn RR _; rfl
            | succ tt iht =>
              intro nn RR hnn
              show x_tq (tt + 1) (nn - 1) _ r i = _
              rw [iht (nn - 1) _ (by omega)]
              show x_rm (x_tq tt (nn - 1) _ r) (x_mw (x_tq tt (nn - 1) _ 1) (nn - 1 - tt - 1)) i = x_rm (x_tq tt (nn - 1) _ r) (x_mw (x_tq tt (nn - 1) _ 1) (nn - (tt + 1) - 1)) i
              rw [show nn - 1 - tt - 1 = nn - (tt + 1) - 1 by omega]
          rw [e1 t n _ (by omega)]
          have hwe : x_mw (x_tq t n (fun r i => g (4 + r) i) 1) (n - t - 1) = x_mw (g' 5) (n - t - 1) := x_mw_congr _ (fun i hi => (h1 1 i (by omega) (by omega)).symm)
          rw [hwe]
          obtain ⟨b1, b2⟩ := a1 (4 + r) (by omega) (by omega)
          unfold x_rm
          split
          · rename_i hi2
            rw [b1 i hi2]
            exact h1 r i hr (by omega)
          · rename_i hi2
            rw [b2 i (by omega) (by omega)]
            exact h1 r (i + 1) hr (by omega)
  refine r_to 4 60 rfl rfl ?_
  exact loop n 0 (by omega) (by omega) (fun h => absurd h (by omega)) g (fun u hu => absurd hu (Nat.not_lt_zero _)) (fun r i _ _ => rfl) hn (fun _ _ => rfl)
set_option maxHeartbeats 4000000 in
theorem c_howMany_137 (d m : Nat) (g : xG) (Q : xQ) (hm : g 142 8 = nI m) (h : m < 4096) (k : Q (some (.int (nI (x_pop m 12)))) g) : Cx (d + 2) i_Players_howManyPlay [.ref 142] g Q := by
  refine r_cl (L0 := [some (.ref 142)]) rfl (Or.inr ⟨_, _, _, rfl, rfl⟩) rfl rfl rfl ?_
  refine r_run 400 rfl rfl ?_
  simp only [x_up_app, x_ce_app, x_ce_same, Nat.reduceAdd, Nat.reduceEqDiff, ↓reduceIte, Nat.reduceSub, Nat.reduceMul, reduceCtorEq, hm]
  refine r_ins rfl rfl rfl rfl ?_
  refine c_bitCount d m g _ h ?_
  exact r_iret rfl rfl k
set_option maxHeartbeats 4000000 in
theorem c_leave_137 (d p : Nat) (r : Int32) (g : xG) (Q : xQ) (hp : p < 12) (k : Q none (x_up (x_up g 142 8 (g 142 8 &&& ((nI 1 <<< (nI p &&& 31)) ^^^ (-1)))) 149 p r)) : Cx (d + 1) i_Players_leave [.ref 142, .int (nI p), .int r] g Q := by
  refine r_cl (L0 := [some (.ref 142), some (.int (nI p)), some (.int r)]) rfl (Or.inr ⟨_, _, _, rfl, rfl⟩) rfl rfl rfl ?_
  refine r_run 400 rfl rfl ?_
  refine r_ast (j := p) rfl rfl (rfl) (by omega) (Nat.le_of_ble_eq_true rfl) ?_
  refine r_run 400 rfl rfl ?_
  exact r_ret rfl rfl k
set_option maxHeartbeats 4000000 in
theorem c_first_137 (d n m : Nat) (g : xG) (Q : xQ) (hn : g 142 9 = nI n) (h12 : n ≤ 12) (hm : g 142 8 = nI m) (hm2 : m < 2 ^ 31) (k1 : ∀ p, p < n → x_bit m p → (∀ q, q < p → ¬ x_bit m q) → Q (some (.int (nI p))) g) (k2 : (∀ p, p < n → ¬ x_bit m p) → Q (some (.int (-1000004))) g) : Cx (d + 2) i_Players_firstPlaying [.ref 142] g Q := by
  refine r_cl (L0 := [some (.ref 142), none]) rfl (Or.inr ⟨_, _, _, rfl, rfl⟩) rfl rfl rfl ?_
  have loop : ∀ p, p ≤ n → (∀ q, q < p → ¬ x_bit m q) → Rx (d + 1) m_Players_firstPlaying Q 2 [some (.ref 142), some (.int (nI p))] [] g := by
    refine r_for ?_ ?_
    · intro h
      refine r_run 400 rfl rfl ?_
      simp only [x_up_app, x_ce_app, x_ce_same, Nat.reduceAdd, Nat.reduceEqDiff, ↓reduceIte, Nat.reduceSub, Nat.reduceMul, reduceCtorEq, hn]
      refine n_ige rfl (by omega) (by omega) (fun _ => ?_) (fun h2 => by omega)
      refine r_run 400 rfl rfl ?_
      exact r_iret rfl rfl (k2 h)
    · intro p hp ih h
      refine r_run 400 rfl rfl ?_
      simp only [x_up_app, x_ce_app, x_ce_same, Nat.reduceAdd, Nat.reduceEqDiff, ↓reduceIte, Nat.reduceSub, Nat.reduceMul, reduceCtorEq, hn]
      refine n_ige rfl (by omega) (by omega) (fun _ => by omega) (fun _ => ?_)
      refine r_run 400 rfl rfl ?_
      refine r_inv rfl rfl rfl ?_
      refine c_isPlaying_137 d p g _ hm hm2 (by omega) (fun hb => ?_) (fun hb => ?_)
      · refine t_eq1 rfl ?_
        refine r_run 400 rfl rfl ?_
        exact r_iret rfl rfl (k1 p hp hb h)
      · refine t_eq0 rfl ?_
        refine r_to 2 60 rfl rfl ?_
        simp only [x_up_app, x_ce_app, x_ce_same, Nat.reduceAdd, Nat.reduceEqDiff, ↓reduceIte, Nat.reduceSub, Nat.reduceMul, reduceCtorEq, nI_add]
        refine ih (fun q hq => ?_)
        by_cases e : q = p
        · subst e
          exact hb
        · exact h q (by omega)
  refine r_to 2 60 rfl rfl ?_
  exact loop 0 (Nat.zero_le _) (fun q hq => absurd hq (Nat.not_lt_zero _))
set_option maxHeartbeats 4000000 in
theorem c_allSittings_137 (d n : Nat) (g : xG) (Q : xQ) (hn : g 142 9 = nI n) (h12 : n ≤ 12) (k : Q (some (.int (x_sm (g 146) n))) g) : Cx (d + 2) i_Players_allSittings [.ref 142] g Q := by
  refine r_cl (L0 := [some (.ref 142)]) rfl (Or.inr ⟨_, _, _, rfl, rfl⟩) rfl rfl rfl ?_
  refine r_run 400 rfl rfl ?_
  refine r_inv rfl rfl rfl ?_
  refine c_sum_137 d n 145 g _ hn h12 rfl ?_
  exact r_iret rfl rfl k
set_option maxHeartbeats 4000000 in
theorem c_allBumps_137 (d n : Nat) (g : xG) (Q : xQ) (hn : g 142 9 = nI n) (h12 : n ≤ 12) (k : Q (some (.int (x_sm (g 147) n))) g) : Cx (d + 2) i_Players_allBumps [.ref 142] g Q := by
  refine r_cl (L0 := [some (.ref 142)]) rfl (Or.inr ⟨_, _, _, rfl, rfl⟩) rfl rfl rfl ?_
  refine r_run 400 rfl rfl ?_
  refine r_inv rfl rfl rfl ?_
  refine c_sum_137 d n 146 g _ hn h12 rfl ?_
  exact r_iret rfl rfl k
set_option maxHeartbeats 4000000 in
theorem c_allSteps_137 (d n : Nat) (g : xG) (Q : xQ) (hn : g 142 9 = nI n) (h12 : n ≤ 12) (k : Q (some (.int (x_sm (g 148) n))) g) : Cx (d + 2) i_Players_allSteps [.ref 142] g Q := by
  refine r_cl (L0 := [some (.ref 142)]) rfl (Or.inr ⟨_, _, _, rfl, rfl⟩) rfl rfl rfl ?_
  refine r_run 400 rfl rfl ?_
  refine r_inv rfl rfl rfl ?_
  refine c_sum_137 d n 147 g _ hn h12 rfl ?_
  exact r_iret rfl rfl k
set_option maxHeartbeats 4000000 in
theorem c_walk_137 (d n c m b : Nat) (st qp : Nat → Nat) (g : xG) (Q : xQ) (hn : g 142 9 = nI n) (h12 : n ≤ 12) (hc : g 138 3 = nI c) (hc1 : 1 ≤ c) (hc16 : c ≤ 16) (hm : g 142 8 = nI m) (hm2 : m < 2 ^ 31) (hb : b ≤ 1000) (hs : ∀ p, p < n → g 143 p = nI (st p) ∧ st p ≤ 9) (hq : ∀ p, p < n → x_bit m p → g 145 p = nI (qp p) ∧ qp p < 16)
    (k : ∀ g' : xG, (∀ p, p < n → x_bit m p → g' 145 p = nI ((qp p + st p * b) % c) ∧ g' 148 p = g 148 p + nI (st p * b)) → (∀ p, p < n → ¬ x_bit m p → g' 145 p = g 145 p ∧ g' 148 p = g 148 p) → (∀ a, a ≠ 145 → a ≠ 148 → g' a = g a) → Q none g') : Cx (d + 2) i_Players_walk [.ref 142, .ref 138, .int (nI b)] g Q := by
  refine r_cl (L0 := [some (.ref 142), some (.ref 138), some (.int (nI b)), none, none]) rfl (Or.inr ⟨_, _, _, rfl, rfl⟩) rfl rfl rfl ?_
  have loop : ∀ p, p ≤ n → ∀ (g' : xG) (l4 : Option Value), (∀ q, q < p → x_bit m q → g' 145 q = nI ((qp q + st q * b) % c) ∧ g' 148 q = g 148 q + nI (st q * b)) → (∀ q, (p ≤ q ∨ ¬ x_bit m q) → g' 145 q = g 145 q ∧ g' 148 q = g 148 q) → (∀ a, a ≠ 145 → a ≠ 148 → g' a = g a) → Rx (d + 1) m_Players_walk Q 2 [some (.ref 142), some (.ref 138), some (.int (nI b)), some (.int (nI p)), l4] [] g' := by
    refine r_for ?_ ?_
    · intro g' l4 h1 h3 h2
      refine r_run 400 rfl rfl ?_
      simp only [x_up_app, x_ce_app, x_ce_same, Nat.reduceAdd, Nat.reduceEqDiff, ↓reduceIte, Nat.reduceSub, Nat.reduceMul, reduceCtorEq, h2 142 (by decide) (by decide), hn]
      refine n_ige rfl (by omega) (by omega) (fun _ => ?_) (fun h2 => by omega)
      refine r_run 400 rfl rfl ?_
      exact r_ret rfl rfl (k g' h1 (fun p _ hb => h3 p (Or.inr hb)) h2)
    · intro p hp ih g' l4 h1 h3 h2
      obtain ⟨hs1, hs2⟩ := hs p hp
      refine r_run 400 rfl rfl ?_
      simp only [x_up_app, x_ce_app, x_ce_same, Nat.reduceAdd, Nat.reduceEqDiff, ↓reduceIte, Nat.reduceSub, Nat.reduceMul, reduceCtorEq, h2 142 (by decide) (by decide), hn]
      refine n_ige rfl (by omega) (by omega) (fun _ => by omega) (fun _ => ?_)
      refine r_run 400 rfl rfl ?_
      refine r_inv rfl rfl rfl ?_
      refine c_isPlaying_137 d p g' _ (by rw [h2 142 (by decide) (by decide)]; exact hm) hm2 (by omega) (fun hbt => ?_) (fun hbt => ?_)
      · obtain ⟨hq1, hq2⟩ := hq p hp hbt
        have hmul : st p * b ≤ 9 * 1000 := Nat.mul_le_mul hs2 hb
        refine t_eq1 rfl ?_
        refine r_run 400 rfl rfl ?_
        refine r_ald (j := p) rfl rfl (rfl) (by omega) (Nat.le_of_ble_eq_true rfl) ?_
        refine r_run 400 rfl rfl ?_
        simp only [x_up_app, x_ce_app, x_ce_same, Nat.reduceAdd, Nat.reduceEqDiff, ↓reduceIte, Nat.reduceSub, Nat.reduceMul, reduceCtorEq, h2 143 (by decide) (by decide), hs1, pk_mul]
        refine r_ald (j := p) rfl rfl (rfl) (by omega) (Nat.le_of_ble_eq_true rfl) ?_
        refine r_run 400 rfl rfl ?_
        simp only [x_up_app, x_ce_app, x_ce_same, Nat.reduceAdd, Nat.reduceEqDiff, ↓reduceIte, Nat.reduceSub, Nat.reduceMul, reduceCtorEq, (h3 p (Or.inl (Nat.le_refl _))).1, hq1]
        refine r_inv rfl rfl rfl ?_
        refine c_Chairs_onFrom_137 d (qp p) (st p * b) g' _ (by rw [h2 138 (by decide) (by decide)]; exact hc) hc1 hc16 (by omega) ?_
        refine r_ast (j := p) rfl rfl rfl (by omega) (Nat.le_of_ble_eq_true rfl) ?_
        refine r_run 400 rfl rfl ?_
        refine r_ald (j := p) rfl rfl (rfl) (by omega) (Nat.le_of_ble_eq_true rfl) ?_
        refine r_run 400 rfl rfl ?_
        simp only [x_up_app, x_ce_app, x_ce_same, Nat.reduceAdd, Nat.reduceEqDiff, ↓reduceIte, Nat.reduceSub, Nat.reduceMul, reduceCtorEq]
        refine r_ast (j := p) rfl rfl (rfl) (by omega) (Nat.le_of_ble_eq_true rfl) ?_
        refine r_to 2 60 rfl rfl ?_
        simp only [x_up_app, x_ce_app, x_ce_same, Nat.reduceAdd, Nat.reduceEqDiff, ↓reduceIte, Nat.reduceSub, Nat.reduceMul, reduceCtorEq, nI_add]
        refine ih _ _ (fun q hqq hqb => ?_) (fun q hqq => ?_) (fun a ha hb2 => ?_)
        · simp only [x_up_app, x_ce_app, x_ce_same, Nat.reduceAdd, Nat.reduceEqDiff, ↓reduceIte, Nat.reduceSub, Nat.reduceMul, reduceCtorEq]
          split
          · rename_i e
            subst e
            rw [(h3 q (Or.inl (Nat.le_refl _))).2]
            exact ⟨rfl, rfl⟩
          · exact h1 q (by omega) hqb
        · have hne : ¬ q = p := by
            rcases hqq with h | h
            · omega
            · intro e
              subst e
              exact h hbt
          simp only [x_up_app, x_ce_app, x_ce_same, Nat.reduceAdd, Nat.reduceEqDiff, ↓reduceIte, Nat.reduceSub, Nat.reduceMul, reduceCtorEq, if_neg hne]
          exact h3 q (hqq.imp (fun h => by omega) id)
        · rw [x_up_row hb2, x_up_row ha]
          exact h2 a ha hb2
      · refine t_eq0 rfl ?_
        refine r_to 2 60 rfl rfl ?_
        simp only [x_up_app, x_ce_app, x_ce_same, Nat.reduceAdd, Nat.reduceEqDiff, ↓reduceIte, Nat.reduceSub, Nat.reduceMul, reduceCtorEq, nI_add]
        refine ih _ _ (fun q hqq hqb => ?_) (fun q hqq => h3 q (hqq.imp (fun h => by omega) id)) h2
        by_cases e : q = p
        · subst e
          exact absurd hqb hbt
        · exact h1 q (by omega) hqb
  refine r_to 2 60 rfl rfl ?_
  exact loop 0 (Nat.zero_le _) g none (fun i hi => absurd hi (Nat.not_lt_zero _)) (fun q _ => ⟨rfl, rfl⟩) (fun _ _ _ => rfl)
set_option maxHeartbeats 4000000 in
theorem c_ring_137 (d nx kp : Nat) (r t c tn p : Int32) (g : xG) (Q : xQ) (hx : g 151 5 = nI nx) (h1 : nx < 12) (hk : g 151 6 = nI kp) (h2 : kp ≤ 12) (k : Q none (x_up (x_up (x_up (x_up (x_up (x_up (x_up g 152 nx r) 153 nx t) 154 nx c) 155 nx tn) 156 nx p) 151 5 (nI ((nx + 1) % 12))) 151 6 (nI (min (kp + 1) 12)))) : Cx (d + 2) i_Bells_ring [.ref 151, .int r, .int t, .int c, .int tn, .int p] g Q := by
  refine r_cl (L0 := [some (.ref 151), some (.int r), some (.int t), some (.int c), some (.int tn), some (.int p)]) rfl (Or.inr ⟨_, _, _, rfl, rfl⟩) rfl rfl rfl ?_
  refine r_run 400 rfl rfl ?_
  simp only [x_up_app, x_ce_app, x_ce_same, Nat.reduceAdd, Nat.reduceEqDiff, ↓reduceIte, Nat.reduceSub, Nat.reduceMul, reduceCtorEq, hx]
  refine r_ast (j := nx) rfl rfl (rfl) (by omega) (Nat.le_of_ble_eq_true rfl) ?_
  refine r_run 400 rfl rfl ?_
  simp only [x_up_app, x_ce_app, x_ce_same, Nat.reduceAdd, Nat.reduceEqDiff, ↓reduceIte, Nat.reduceSub, Nat.reduceMul, reduceCtorEq, hx]
  refine r_ast (j := nx) rfl rfl (rfl) (by omega) (Nat.le_of_ble_eq_true rfl) ?_
  refine r_run 400 rfl rfl ?_
  simp only [x_up_app, x_ce_app, x_ce_same, Nat.reduceAdd, Nat.reduceEqDiff, ↓reduceIte, Nat.reduceSub, Nat.reduceMul, reduceCtorEq, hx]
  refine r_ast (j := nx) rfl rfl (rfl) (by omega) (Nat.le_of_ble_eq_true rfl) ?_
  refine r_run 400 rfl rfl ?_
  simp only [x_up_app, x_ce_app, x_ce_same, Nat.reduceAdd, Nat.reduceEqDiff, ↓reduceIte, Nat.reduceSub, Nat.reduceMul, reduceCtorEq, hx]
  refine r_ast (j := nx) rfl rfl (rfl) (by omega) (Nat.le_of_ble_eq_true rfl) ?_
  refine r_run 400 rfl rfl ?_
  simp only [x_up_app, x_ce_app, x_ce_same, Nat.reduceAdd, Nat.reduceEqDiff, ↓reduceIte, Nat.reduceSub, Nat.reduceMul, reduceCtorEq, hx]
  refine r_ast (j := nx) rfl rfl (rfl) (by omega) (Nat.le_of_ble_eq_true rfl) ?_
  refine r_run 400 rfl rfl ?_
  simp only [x_up_app, x_ce_app, x_ce_same, Nat.reduceAdd, Nat.reduceEqDiff, ↓reduceIte, Nat.reduceSub, Nat.reduceMul, reduceCtorEq, hx, nI_add]
  refine n_rem rfl (by omega) (by omega) (by omega) ?_
  refine r_run 400 rfl rfl ?_
  simp only [x_up_app, x_ce_app, x_ce_same, Nat.reduceAdd, Nat.reduceEqDiff, ↓reduceIte, Nat.reduceSub, Nat.reduceMul, reduceCtorEq, hk, nI_add]
  refine r_ins rfl rfl rfl rfl ?_
  refine c_min d (kp + 1) 12 _ _ (by omega) (by omega) ?_
  refine r_run 400 rfl rfl ?_
  exact r_ret rfl rfl k
set_option maxHeartbeats 4000000 in
theorem c_leaveOnly_137 (d n : Nat) (most : Int32) (g : xG) (Q : xQ) (hn : g 138 3 = nI n) (h16 : n ≤ 16) (hmost : nI 1 ≤ most)
    (k : ∀ (g' : xG) (t : Nat), t ≤ n → (0 < t → t < n) → ¬ most < nI (n - t) → (∀ u, u < t → most < nI (n - u)) → (∀ r i, r < 3 → i < n - t → g' (139 + r) i = x_tq t n (fun r i => g (139 + r) i) r i) → g' 138 3 = nI (n - t) → (∀ a, (a < 138 ∨ 141 < a) → g' a = g a) → Q (some (.int (nI t))) g') : Cx (d + 2) i_Chairs_leaveOnly [.ref 138, .int most] g Q := by
  refine r_cl (L0 := [some (.ref 138), some (.int most), none, none]) rfl (Or.inr ⟨_, _, _, rfl, rfl⟩) rfl rfl rfl ?_
  have hpos : ∀ u, most < nI u → u < 2 ^ 31 → 1 < u := by
    intro u hu hu2
    have h3 : nI 1 < nI u := Int32.lt_of_le_of_lt hmost hu
    exact (nI_ltI (by omega) hu2).mp h3
  have loop : ∀ w, ∀ t, n - t = w → t ≤ n → (0 < t → t < n) → ∀ g' : xG, (∀ u, u < t → most < nI (n - u)) → (∀ r i, r < 3 → i < n - t → g' (139 + r) i = x_tq t n (fun r i => g (139 + r) i) r i) → g' 138 3 = nI (n - t) → (∀ a, (a < 138 ∨ 141 < a) → g' a = g a) → Rx (d + 1) m_Chairs_leaveOnly Q 4 [some (.ref 138), some (.int most), some (.int (nI t)), some (.int (nI t))] [] g' := by
    intro w
    induction w with
    | zero =>
      intro t hw ht ht0 g' h0 h1 h2 h3
      have hlast : ¬ most < nI (n - t) := fun z => by
        have := hpos _ z (by omega)
        omega
      refine r_run 400 rfl rfl ?_
      refine n_ige rfl (by omega) (by omega) (fun _ => ?_) (fun _ => ?_)
      · refine r_run 400 rfl rfl ?_
        exact r_iret rfl rfl (k g' t ht ht0 hlast h0 h1 h2 h3)
      · refine r_run 400 rfl rfl ?_
        simp only [x_up_app, x_ce_app, x_ce_same, Nat.reduceAdd, Nat.reduceEqDiff, ↓reduceIte, Nat.reduceSub, Nat.reduceMul, reduceCtorEq, h2]
        refine r_ile rfl (fun _ => ?_) (fun h => absurd (Int32.not_le.mp h) hlast)
        refine r_run 400 rfl rfl ?_
        exact r_iret rfl rfl (k g' t ht ht0 hlast h0 h1 h2 h3)
    | succ w ih =>
      intro t hw ht ht0 g' h0 h1 h2 h3
      refine r_run 400 rfl rfl ?_
      refine n_ige rfl (by omega) (by omega) (fun _ => by omega) (fun _ => ?_)
      refine r_run 400 rfl rfl ?_
      simp only [x_up_app, x_ce_app, x_ce_same, Nat.reduceAdd, Nat.reduceEqDiff, ↓reduceIte, Nat.reduceSub, Nat.reduceMul, reduceCtorEq, h2]
      refine r_ile rfl (fun h => ?_) (fun h => ?_)
      · refine r_run 400 rfl rfl ?_
        exact r_iret rfl rfl (k g' t ht ht0 (Int32.not_lt.mpr h) h0 h1 h2 h3)
      · have hlt := Int32.not_le.mp h
        have h1n := hpos _ hlt (by omega)
        have hww := x_mw_le (g' 140) (n - t - 1)
        refine r_run 400 rfl rfl ?_
        refine r_inv rfl rfl rfl ?_
        refine c_mostWorn_137 d (n - t) g' _ h2 (by omega) (by omega) ?_
        refine r_inv rfl rfl rfl ?_
        refine c_takeAway_137 d (n - t) (x_mw (g' 140) (n - t - 1)) g' _ h2 (by omega) (by omega) (fun g2 a1 a2 a3 => ?_)
        refine r_to 4 60 rfl rfl ?_
        simp only [x_up_app, x_ce_app, x_ce_same, Nat.reduceAdd, Nat.reduceEqDiff, ↓reduceIte, Nat.reduceSub, Nat.reduceMul, reduceCtorEq, nI_add]
        refine ih (t + 1) (by omega) (by omega) (fun _ => by omega) g2 (fun u hu => ?_) (fun r i hr hi => ?_) (by rw [a2]; congr 1) (fun a ha => by rw [a3 a ha]; exact h3 a ha)
        · by_cases e : u = t
          · subst e
            exact hlt
          · exact h0 u (by omega)
        · have e1 : ∀ (tt nn : Nat) (RR : xG), tt + 1 < nn → x_tq (tt + 1) nn RR r i = x_rm (x_tq tt nn RR r) (x_mw (x_tq tt nn RR 1) (nn - tt - 1)) i := by
            intro tt
            induction tt with
            | zero => intro nn RR _; rfl
            | succ tt iht =>
              intro nn RR hnn
              show x_tq (tt + 1) (nn - 1) _ r i = _
              rw [iht (nn - 1) _ (by omega)]
              show x_rm (x_tq tt (nn - 1) _ r) (x_mw (x_tq tt (nn - 1) _ 1) (nn - 1 - tt - 1)) i = x_rm (x_tq tt (nn - 1) _ r) (x_mw (x_tq tt (nn - 1) _ 1) (nn - (tt + 1) - 1)) i
              rw [show nn - 1 - tt - 1 = nn - (tt + 1) - 1 by omega]
          rw [e1 t n _ (by omega)]
          have hwe : x_mw (x_tq t n (fun r i => g (139 + r) i) 1) (n - t - 1) = x_mw (g' 140) (n - t - 1) := x_mw_congr _ (fun i hi => (h1 1 i (by omega) (by omega)).symm)
          rw [hwe]
          obtain ⟨b1, b2⟩ := a1 (139 + r) (by omega) (by omega)
          unfold x_rm
          split
          · rename_i hi2
            rw [b1 i hi2]
            exact h1 r i hr (by omega)
          · rename_i hi2
            rw [b2 i (by omega) (by omega)]
            exact h1 r (i + 1) hr (by omega)
  refine r_to 4 60 rfl rfl ?_
  exact loop n 0 (by omega) (by omega) (fun h => absurd h (by omega)) g (fun u hu => absurd hu (Nat.not_lt_zero _)) (fun r i _ _ => rfl) hn (fun _ _ => rfl)
