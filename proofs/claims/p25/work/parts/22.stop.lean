/-! ===== what a stop leaves ===== -/
/-- rings kept, the latest first -/
abbrev xR : Type := Nat × (Nat → Nat → Int32)
def x_r1 (e : Nat → Int32) (b : xR) : xR := (min (b.1 + 1) 12, fun a w => if a = 0 then e w else b.2 (a - 1) w)
def x_rj (E : Nat → Nat → Int32) (W : Nat → Nat) (t : Nat) : Nat → xR → xR
  | 0, b => b
  | j + 1, b => if W j = t then x_r1 (E j) (x_rj E W t j b) else x_rj E W t j b
def x_rt (E : Nat → Nat → Nat → Int32) (W : Nat → Nat) (c : Nat) : Nat → xR → xR
  | 0, b => b
  | t + 1, b => x_rj (E (t + 1)) W (t + 1) c (x_rt E W c t b)
/-- the class's bells hold them -/
def x_bl (g : xG) (B : Nat) (b : xR) : Prop := ∃ nx, g (B + 14) 5 = nI nx ∧ nx < 12 ∧ g (B + 14) 6 = nI b.1 ∧ b.1 ≤ 12 ∧ ∀ a w, a < b.1 → w < 5 → g (B + 15 + w) ((nx + 11 - a) % 12) = b.2 a w
def x_e5 (r t c tn p : Int32) (w : Nat) : Int32 := if w = 0 then r else if w = 1 then t else if w = 2 then c else if w = 3 then tn else p
theorem x_pop_tb (m : Nat) : ∀ k, x_pop m k = x_cnt (fun i => m.testBit i) k
  | 0 => rfl
  | k + 1 => by
    show x_pop m k + m / 2 ^ k % 2 = x_cnt _ k + _
    rw [x_pop_tb m k]
    congr 1
    show _ = if m.testBit k = true then 1 else 0
    rw [Nat.testBit_eq_decide_div_mod_eq]
    have := Nat.mod_lt (m / 2 ^ k) (show 0 < 2 by omega)
    by_cases h : m / 2 ^ k % 2 = 1
    · simp [h]
    · simp [h]
      omega
theorem x_cnt_congr {f f' : Nat → Bool} : ∀ k, (∀ i, i < k → f i = f' i) → x_cnt f k = x_cnt f' k
  | 0, _ => rfl
  | k + 1, h => by
    show x_cnt f k + _ = x_cnt f' k + _
    rw [x_cnt_congr k (fun i hi => h i (by omega)), h k (by omega)]
theorem x_cnt_ext {f : Nat → Bool} {n : Nat} (h : ∀ i, n ≤ i → f i = false) : ∀ k, x_cnt f (n + k) = x_cnt f n
  | 0 => rfl
  | k + 1 => by
    show x_cnt f (n + k) + (if f (n + k) = true then 1 else 0) = _
    rw [x_cnt_ext h k, h (n + k) (by omega)]
    rfl
theorem x_pop_mk {m n : Nat} {f : Nat → Bool} (hm : m < 2 ^ n) (hf : ∀ i, i < n → m.testBit i = f i) (h12 : n ≤ 12) : x_pop m 12 = x_cnt f n := by
  rw [x_pop_tb]
  have e := x_cnt_ext (f := fun i => m.testBit i) (n := n) (fun i hi => Nat.testBit_lt_two_pow (Nat.lt_of_lt_of_le hm (Nat.pow_le_pow_right (by omega) hi))) (12 - n)
  rw [show n + (12 - n) = 12 by omega] at e
  rw [e]
  exact x_cnt_congr n hf
set_option maxHeartbeats 4000000 in
theorem c_rings_2 (d : Nat) (b : xR) (r t c tn p : Int32) (g : xG) (Q : xQ) (h : x_bl g 2 b) (k : ∀ g' : xG, x_bl g' 2 (x_r1 (x_e5 r t c tn p) b) → (∀ a, (a < 16 ∨ 21 < a) → g' a = g a) → Q none g') : Cx (d + 2) i_Bells_ring [.ref 16, .int r, .int t, .int c, .int tn, .int p] g Q := by
  obtain ⟨nx, h1, h2, h3, h4, h5⟩ := h
  refine c_ring_2 d nx b.1 r t c tn p g Q h1 h2 h3 h4 (k _ ⟨(nx + 1) % 12, ?_, Nat.mod_lt _ (by omega), ?_, ?_, fun a w ha hw => ?_⟩ (fun a ha => ?_))
  · simp only [x_up_app, x_ce_app, x_ce_same, Nat.reduceAdd, Nat.reduceEqDiff, ↓reduceIte, Nat.reduceSub, Nat.reduceMul, reduceCtorEq]
  · simp only [x_up_app, x_ce_app, x_ce_same, Nat.reduceAdd, Nat.reduceEqDiff, ↓reduceIte, Nat.reduceSub, Nat.reduceMul, reduceCtorEq]
    rfl
  · show min (b.1 + 1) 12 ≤ 12
    exact Nat.min_le_right _ _
  · have ha : a < min (b.1 + 1) 12 := ha
    show _ = if a = 0 then x_e5 r t c tn p w else b.2 (a - 1) w
    have hrow : ∀ (k : Nat), ((nx + 1) % 12 + 11 - a) % 12 = k → (a = 0 → k = nx) ∧ (¬ a = 0 → ¬ k = nx ∧ k = (nx + 11 - (a - 1)) % 12) := by
      intro k hk
      subst hk
      omega
    obtain ⟨e1, e2⟩ := hrow _ rfl
    by_cases hz : a = 0
    · rw [e1 hz, if_pos hz]
      have hw5 : w = 0 ∨ w = 1 ∨ w = 2 ∨ w = 3 ∨ w = 4 := by omega
      rcases hw5 with rfl | rfl | rfl | rfl | rfl <;> (simp only [x_up_app, Nat.reduceAdd, Nat.reduceEqDiff, ↓reduceIte, x_e5])
    · obtain ⟨e3, e4⟩ := e2 hz
      rw [if_neg hz]
      have h6 := h5 (a - 1) w (by omega) hw
      rw [← e4] at h6
      rw [← h6]
      generalize ((nx + 1) % 12 + 11 - a) % 12 = kk at e3
      have hw5 : w = 0 ∨ w = 1 ∨ w = 2 ∨ w = 3 ∨ w = 4 := by omega
      rcases hw5 with rfl | rfl | rfl | rfl | rfl <;> (simp only [x_up_app, Nat.reduceAdd, Nat.reduceEqDiff, ↓reduceIte, if_neg e3])
  · repeat rw [x_up_row (by omega)]
set_option maxHeartbeats 4000000 in
theorem c_settlePlayers_2 (d n : Nat) (g : xG) (Q : xQ) (In : Nat → Bool) (S : Nat → Option Nat) (hn : g 7 9 = nI n) (h12 : n ≤ 12) (hm : x_mk (g 7 8) n In) (hS : ∀ p, p < n → g 129 p = x_on (S p)) (hS2 : ∀ p q, S p = some q → q < 65536)
    (k : ∀ g' : xG, x_mk (g' 7 8) n (fun p => In p && (S p).isSome) → (∀ j, j ≠ 8 → g' 7 j = g 7 j) → (∀ p, p < n → g' 12 p = (if In p = true then g 12 p + g 130 p else g 12 p) ∧ g' 15 p = (if In p = true then g 131 p else g 15 p) ∧ g' 14 p = (if (In p && (S p).isNone) = true then g 2 5 else g 14 p) ∧ g' 11 p = (if (In p && (S p).isSome) = true then g 11 p + nI 1 else g 11 p)) → (∀ a, a ≠ 7 → a ≠ 11 → a ≠ 12 → a ≠ 14 → a ≠ 15 → g' a = g a) → Q none g') : Cx (d + 2) i_Game_settlePlayers [.ref 2, .ref 124] g Q := by
  refine r_cl (L0 := [some (.ref 2), some (.ref 124), none]) rfl (Or.inr ⟨_, _, _, rfl, rfl⟩) rfl rfl rfl ?_
  have loop : ∀ p, p ≤ n → ∀ g' : xG, x_mk (g' 7 8) n (fun q => if q < p then In q && (S q).isSome else In q) → (∀ j, j ≠ 8 → g' 7 j = g 7 j) → (∀ q, q < n → g' 12 q = (if q < p ∧ In q = true then g 12 q + g 130 q else g 12 q) ∧ g' 15 q = (if q < p ∧ In q = true then g 131 q else g 15 q) ∧ g' 14 q = (if q < p ∧ (In q && (S q).isNone) = true then g 2 5 else g 14 q) ∧ g' 11 q = (if q < p ∧ (In q && (S q).isSome) = true then g 11 q + nI 1 else g 11 q)) → (∀ a, a ≠ 7 → a ≠ 11 → a ≠ 12 → a ≠ 14 → a ≠ 15 → g' a = g a) → Rx (d + 1) m_Game_settlePlayers Q 2 [some (.ref 2), some (.ref 124), some (.int (nI p))] [] g' := by
    refine r_for ?_ ?_
    · intro g' a1 a2 a3 a4
      refine r_run 400 rfl rfl ?_
      simp only [x_up_app, x_ce_app, x_ce_same, Nat.reduceAdd, Nat.reduceEqDiff, ↓reduceIte, Nat.reduceSub, Nat.reduceMul, reduceCtorEq, a2 9 (by decide), hn]
      refine n_ige rfl (by omega) (by omega) (fun _ => ?_) (fun h2 => by omega)
      refine r_run 400 rfl rfl ?_
      refine r_ret rfl rfl (k g' (x_mk_congr a1 (fun i hi => if_pos hi)) a2 (fun p hp => ?_) a4)
      have := a3 p hp
      simp only [hp, true_and] at this
      exact this
    · intro p hp ih g' a1 a2 a3 a4
      obtain ⟨mm, hm1, hm2, hm3⟩ := x_mk_t a1 hp (by omega)
      simp only [Nat.lt_irrefl, if_false] at hm3
      obtain ⟨z1, z2, z3, z4⟩ := a3 p hp
      simp only [Nat.lt_irrefl, false_and, if_false] at z1 z2 z3 z4
      -- the other players
      have others : ∀ q, ¬ q = p → ((q < p + 1) = (q < p)) := fun q hq => propext (by omega)
      refine r_run 400 rfl rfl ?_
      simp only [x_up_app, x_ce_app, x_ce_same, Nat.reduceAdd, Nat.reduceEqDiff, ↓reduceIte, Nat.reduceSub, Nat.reduceMul, reduceCtorEq, a2 9 (by decide), hn]
      refine n_ige rfl (by omega) (by omega) (fun _ => by omega) (fun _ => ?_)
      refine r_run 400 rfl rfl ?_
      refine r_inv rfl rfl rfl ?_
      refine c_isPlaying_2 d p g' _ hm1 hm2 (by omega) (fun hb => ?_) (fun hb => ?_)
      · have hin : In p = true := hm3.mp hb
        refine t_eq1 rfl ?_
        refine r_run 400 rfl rfl ?_
        refine r_ald (j := p) rfl rfl (rfl) (by omega) (Nat.le_of_ble_eq_true rfl) ?_
        refine r_run 400 rfl rfl ?_
        refine r_ald (j := p) rfl rfl (rfl) (by omega) (Nat.le_of_ble_eq_true rfl) ?_
        refine r_run 400 rfl rfl ?_
        refine r_ast (j := p) rfl rfl (rfl) (by omega) (Nat.le_of_ble_eq_true rfl) ?_
        refine r_run 400 rfl rfl ?_
        refine r_ald (j := p) rfl rfl (rfl) (by omega) (Nat.le_of_ble_eq_true rfl) ?_
        refine r_run 400 rfl rfl ?_
        refine r_ast (j := p) rfl rfl (rfl) (by omega) (Nat.le_of_ble_eq_true rfl) ?_
        refine r_run 400 rfl rfl ?_
        refine r_ald (j := p) rfl rfl (rfl) (by omega) (Nat.le_of_ble_eq_true rfl) ?_
        simp only [x_up_app, x_ce_app, x_ce_same, Nat.reduceAdd, Nat.reduceEqDiff, ↓reduceIte, Nat.reduceSub, Nat.reduceMul, reduceCtorEq, a4 129 (by decide) (by decide) (by decide) (by decide) (by decide), a4 130 (by decide) (by decide) (by decide) (by decide) (by decide), a4 131 (by decide) (by decide) (by decide) (by decide) (by decide), hS p hp, z1]
        refine r_run 400 rfl rfl ?_
        cases hsp : S p with
        | none =>
          refine r_ine rfl (fun h => absurd rfl h) (fun _ => ?_)
          refine r_run 400 rfl rfl ?_
          refine r_inv rfl rfl rfl ?_
          refine c_leave_2 d p _ _ _ (by omega) ?_
          refine r_to 2 60 rfl rfl ?_
          simp only [x_up_app, x_ce_app, x_ce_same, Nat.reduceAdd, Nat.reduceEqDiff, ↓reduceIte, Nat.reduceSub, Nat.reduceMul, reduceCtorEq, nI_add, a4 2 (by decide) (by decide) (by decide) (by decide) (by decide)]
          refine ih _ ?_ (fun j hj => ?_) (fun q hq => ?_) (fun a b1 b2 b3 b4 b5 => ?_)
          · simp only [x_up_app, x_ce_app, x_ce_same, Nat.reduceAdd, Nat.reduceEqDiff, ↓reduceIte, Nat.reduceSub, Nat.reduceMul, reduceCtorEq]
            refine x_mk_clr a1 hp (by omega) (fun j hj => ?_)
            by_cases e : j = p
            · subst e
              simp [hsp]
            · simp only [others j e, e, decide_false, Bool.not_false, Bool.and_true]
          · simp only [x_up_app, x_ce_app, x_ce_same, Nat.reduceAdd, Nat.reduceEqDiff, ↓reduceIte, Nat.reduceSub, Nat.reduceMul, reduceCtorEq]
            rw [if_neg hj]
            exact a2 j hj
          · simp only [x_up_app, x_ce_app, x_ce_same, Nat.reduceAdd, Nat.reduceEqDiff, ↓reduceIte, Nat.reduceSub, Nat.reduceMul, reduceCtorEq]
            by_cases e : q = p
            · subst e
              simp [hin, hsp, z4]
            · simp only [if_neg e, others q e]
              exact a3 q hq
          · rw [x_up_row b4, x_up_row b1, x_up_row b5, x_up_row b3]
            exact a4 a b1 b2 b3 b4 b5
        | some s =>
          refine r_ine rfl (fun _ => ?_) (fun h => ?_)
          · refine r_run 400 rfl rfl ?_
            refine r_ald (j := p) rfl rfl (rfl) (by omega) (Nat.le_of_ble_eq_true rfl) ?_
            refine r_run 400 rfl rfl ?_
            simp only [x_up_app, x_ce_app, x_ce_same, Nat.reduceAdd, Nat.reduceEqDiff, ↓reduceIte, Nat.reduceSub, Nat.reduceMul, reduceCtorEq, z4]
            refine r_ast (j := p) rfl rfl (rfl) (by omega) (Nat.le_of_ble_eq_true rfl) ?_
            refine r_to 2 60 rfl rfl ?_
            simp only [x_up_app, x_ce_app, x_ce_same, Nat.reduceAdd, Nat.reduceEqDiff, ↓reduceIte, Nat.reduceSub, Nat.reduceMul, reduceCtorEq, nI_add]
            refine ih _ ?_ (fun j hj => ?_) (fun q hq => ?_) (fun a b1 b2 b3 b4 b5 => ?_)
            · simp only [x_up_app, x_ce_app, x_ce_same, Nat.reduceAdd, Nat.reduceEqDiff, ↓reduceIte, Nat.reduceSub, Nat.reduceMul, reduceCtorEq]
              refine x_mk_congr a1 (fun j hj => ?_)
              by_cases e : j = p
              · subst e
                simp [hsp]
              · simp only [others j e]
            · simp only [x_up_app, x_ce_app, x_ce_same, Nat.reduceAdd, Nat.reduceEqDiff, ↓reduceIte, Nat.reduceSub, Nat.reduceMul, reduceCtorEq]
              exact a2 j hj
            · simp only [x_up_app, x_ce_app, x_ce_same, Nat.reduceAdd, Nat.reduceEqDiff, ↓reduceIte, Nat.reduceSub, Nat.reduceMul, reduceCtorEq]
              by_cases e : q = p
              · subst e
                simp [hin, hsp, z3]
              · simp only [if_neg e, others q e]
                exact a3 q hq
            · rw [x_up_row b2, x_up_row b5, x_up_row b3]
              exact a4 a b1 b2 b3 b4 b5
          · exfalso
            have := hS2 p s hsp
            have h3 : nI s < 0 := by
              rw [show nI s = -1 from h]
              decide
            exact nI_pos (by omega) h3
      · have hin : In p = false := by
          cases h : In p with
          | false => rfl
          | true => exact absurd (hm3.mpr h) hb
        refine t_eq0 rfl ?_
        refine r_to 2 60 rfl rfl ?_
        simp only [x_up_app, x_ce_app, x_ce_same, Nat.reduceAdd, Nat.reduceEqDiff, ↓reduceIte, Nat.reduceSub, Nat.reduceMul, reduceCtorEq, nI_add]
        refine ih g' (x_mk_congr a1 (fun j hj => ?_)) a2 (fun q hq => ?_) a4
        · by_cases e : j = p
          · subst e
            simp [hin]
          · simp only [others j e]
        · by_cases e : q = p
          · subst e
            simp [hin, z1, z2, z3, z4]
          · simp only [others q e]
            exact a3 q hq
  refine r_to 2 60 rfl rfl ?_
  exact loop 0 (Nat.zero_le _) g (x_mk_congr hm (fun i _ => (if_neg (Nat.not_lt_zero _)).symm)) (fun _ _ => rfl) (fun q _ => by simp) (fun _ _ _ _ _ _ => rfl)
set_option maxHeartbeats 4000000 in
theorem c_count_2 (d n : Nat) (g : xG) (Q : xQ) (In : Nat → Bool) (hm : x_mk (g 7 8) n In) (h12 : n ≤ 12) (k : Q (some (.int (nI (x_cnt In n)))) g) : Cx (d + 2) i_Players_howManyPlay [.ref 7] g Q := by
  obtain ⟨m, h1, h2, h3⟩ := hm
  refine c_howMany_2 d m g Q h1 (Nat.lt_of_lt_of_le h2 (show 2 ^ n ≤ 2 ^ 12 from Nat.pow_le_pow_right (by omega) h12)) ?_
  rw [x_pop_mk h2 h3 h12]
  exact k
set_option maxHeartbeats 4000000 in
theorem c_settleChairs_2 (d c T : Nat) (g : xG) (Q : xQ) (W : Nat → Nat) (b : xR) (hc : g 3 3 = nI c) (h16 : c ≤ 16) (hW : ∀ j, j < c → g 133 j = nI (W j) ∧ W j ≤ 17) (hT : g 124 11 = nI T) (h17 : T ≤ 17) (hb : x_bl g 2 b)
    (k : ∀ g' : xG, (∀ j, j < c → g' 5 j = (if 1 ≤ W j ∧ W j ≤ T then g 5 j + nI 1 else g 5 j) ∧ g' 6 j = (if 1 ≤ W j ∧ W j ≤ T then g 132 j else g 6 j)) → x_bl g' 2 (x_rt (fun t j => x_e5 (g 2 5) (nI t) (nI j) (g 4 j) (g 132 j)) W c T b) → (∀ a, a ≠ 5 → a ≠ 6 → (a < 16 ∨ 21 < a) → g' a = g a) → Q none g') : Cx (d + 3) i_Game_settleChairs [.ref 2, .ref 124] g Q := by
  generalize hE : (fun t j => x_e5 (g 2 5) (nI t) (nI j) (g 4 j) (g 132 j)) = E at k
  refine r_cl (L0 := [some (.ref 2), some (.ref 124), none, none, none]) rfl (Or.inr ⟨_, _, _, rfl, rfl⟩) rfl rfl rfl ?_
  have loop : ∀ t, t ≤ T → ∀ (g' : xG) (l3 l4 : Option Value), (∀ j, j < c → g' 5 j = (if 1 ≤ W j ∧ W j ≤ t then g 5 j + nI 1 else g 5 j) ∧ g' 6 j = (if 1 ≤ W j ∧ W j ≤ t then g 132 j else g 6 j)) → x_bl g' 2 (x_rt E W c t b) → (∀ a, a ≠ 5 → a ≠ 6 → (a < 16 ∨ 21 < a) → g' a = g a) → Rx (d + 2) m_Game_settleChairs Q 2 [some (.ref 2), some (.ref 124), some (.int (nI (t + 1))), l3, l4] [] g' := by
    refine r_for ?_ ?_
    · intro g' l3 l4 a1 a2 a3
      refine r_run 400 rfl rfl ?_
      simp only [x_up_app, x_ce_app, x_ce_same, Nat.reduceAdd, Nat.reduceEqDiff, ↓reduceIte, Nat.reduceSub, Nat.reduceMul, reduceCtorEq, a3 124 (by decide) (by decide) (by decide), hT]
      refine n_igt rfl (by omega) (by omega) (fun _ => ?_) (fun h2 => by omega)
      refine r_run 400 rfl rfl ?_
      exact r_ret rfl rfl (k g' a1 a2 a3)
    · intro t ht ih g' l3 l4 a1 a2 a3
      have inner : ∀ j, j ≤ c → ∀ (g2 : xG) (l4 : Option Value), (∀ i, i < c → g2 5 i = (if 1 ≤ W i ∧ (W i ≤ t ∨ (W i = t + 1 ∧ i < j)) then g 5 i + nI 1 else g 5 i) ∧ g2 6 i = (if 1 ≤ W i ∧ (W i ≤ t ∨ (W i = t + 1 ∧ i < j)) then g 132 i else g 6 i)) → x_bl g2 2 (x_rj (E (t + 1)) W (t + 1) j (x_rt E W c t b)) → (∀ a, a ≠ 5 → a ≠ 6 → (a < 16 ∨ 21 < a) → g2 a = g a) → Rx (d + 2) m_Game_settleChairs Q 12 [some (.ref 2), some (.ref 124), some (.int (nI (t + 1))), some (.int (nI j)), l4] [] g2 := by
        refine r_for ?_ ?_
        · intro g2 l4 b1 b2 b3
          refine r_run 400 rfl rfl ?_
          simp only [x_up_app, x_ce_app, x_ce_same, Nat.reduceAdd, Nat.reduceEqDiff, ↓reduceIte, Nat.reduceSub, Nat.reduceMul, reduceCtorEq, b3 3 (by decide) (by decide) (by decide), hc]
          refine n_ige rfl (by omega) (by omega) (fun _ => ?_) (fun h2 => by omega)
          refine r_to 2 60 rfl rfl ?_
          simp only [x_up_app, x_ce_app, x_ce_same, Nat.reduceAdd, Nat.reduceEqDiff, ↓reduceIte, Nat.reduceSub, Nat.reduceMul, reduceCtorEq, nI_add]
          refine ih g2 _ _ (fun i hi => ?_) b2 b3
          have e : (1 ≤ W i ∧ W i ≤ t + 1) = (1 ≤ W i ∧ (W i ≤ t ∨ (W i = t + 1 ∧ i < c))) := propext (by omega)
          simp only [e]
          exact b1 i hi
        · intro j hj ih2 g2 l4 b1 b2 b3
          obtain ⟨w1, w2⟩ := hW j hj
          refine r_run 400 rfl rfl ?_
          simp only [x_up_app, x_ce_app, x_ce_same, Nat.reduceAdd, Nat.reduceEqDiff, ↓reduceIte, Nat.reduceSub, Nat.reduceMul, reduceCtorEq, b3 3 (by decide) (by decide) (by decide), hc]
          refine n_ige rfl (by omega) (by omega) (fun _ => by omega) (fun _ => ?_)
          refine r_run 400 rfl rfl ?_
          refine r_ald (j := j) rfl rfl (rfl) (by omega) (Nat.le_of_ble_eq_true rfl) ?_
          refine r_run 400 rfl rfl ?_
          simp only [x_up_app, x_ce_app, x_ce_same, Nat.reduceAdd, Nat.reduceEqDiff, ↓reduceIte, Nat.reduceSub, Nat.reduceMul, reduceCtorEq, b3 133 (by decide) (by decide) (by decide), w1]
          have hs : x_rj (E (t + 1)) W (t + 1) (j + 1) (x_rt E W c t b) = if W j = t + 1 then x_r1 (E (t + 1) j) (x_rj (E (t + 1)) W (t + 1) j (x_rt E W c t b)) else x_rj (E (t + 1)) W (t + 1) j (x_rt E W c t b) := rfl
          refine n_ine rfl (by omega) (by omega) (fun hne => ?_) (fun heq => ?_)
          · rw [hs, if_neg hne] at ih2
            refine r_to 12 60 rfl rfl ?_
            simp only [x_up_app, x_ce_app, x_ce_same, Nat.reduceAdd, Nat.reduceEqDiff, ↓reduceIte, Nat.reduceSub, Nat.reduceMul, reduceCtorEq, nI_add]
            refine ih2 g2 _ (fun i hi => ?_) b2 b3
            have e : (1 ≤ W i ∧ (W i ≤ t ∨ (W i = t + 1 ∧ i < j + 1))) = (1 ≤ W i ∧ (W i ≤ t ∨ (W i = t + 1 ∧ i < j))) := propext (by
              by_cases e : i = j
              · subst e
                omega
              · omega)
            simp only [e]
            exact b1 i hi
          · rw [hs, if_pos heq] at ih2
            obtain ⟨y1, y2⟩ := b1 j hj
            rw [if_neg (by omega)] at y1
            refine r_run 400 rfl rfl ?_
            refine r_ald (j := j) rfl rfl (rfl) (by omega) (Nat.le_of_ble_eq_true rfl) ?_
            refine r_run 400 rfl rfl ?_
            simp only [x_up_app, x_ce_app, x_ce_same, Nat.reduceAdd, Nat.reduceEqDiff, ↓reduceIte, Nat.reduceSub, Nat.reduceMul, reduceCtorEq, b3 132 (by decide) (by decide) (by decide)]
            refine r_inv rfl rfl rfl ?_
            refine c_seat_2 (d + 1) j _ _ _ (by omega) ?_
            refine r_run 400 rfl rfl ?_
            refine r_ald (j := j) rfl rfl rfl (by omega) (Nat.le_of_ble_eq_true rfl) ?_
            refine r_run 400 rfl rfl ?_
            simp only [x_up_app, x_ce_app, x_ce_same, Nat.reduceAdd, Nat.reduceEqDiff, ↓reduceIte, Nat.reduceSub, Nat.reduceMul, reduceCtorEq, b3 4 (by decide) (by decide) (by decide), b3 2 (by decide) (by decide) (by decide), y1]
            refine r_inv rfl rfl rfl ?_
            obtain ⟨nx, z1, z2, z3, z4, z5⟩ := b2
            refine c_rings_2 d (x_rj (E (t + 1)) W (t + 1) j (x_rt E W c t b)) _ _ _ _ _ _ _ ⟨nx, ?_, z2, ?_, z4, fun a w ha hw => ?_⟩ (fun g3 n1 n2 => ?_)
            · simp only [x_up_app, x_ce_app, x_ce_same, Nat.reduceAdd, Nat.reduceEqDiff, ↓reduceIte, Nat.reduceSub, Nat.reduceMul, reduceCtorEq]
              exact z1
            · simp only [x_up_app, x_ce_app, x_ce_same, Nat.reduceAdd, Nat.reduceEqDiff, ↓reduceIte, Nat.reduceSub, Nat.reduceMul, reduceCtorEq]
              exact z3
            · rw [x_up_row (by omega), x_up_row (by omega)]
              exact z5 a w ha hw
            refine r_to 12 60 rfl rfl ?_
            simp only [x_up_app, x_ce_app, x_ce_same, Nat.reduceAdd, Nat.reduceEqDiff, ↓reduceIte, Nat.reduceSub, Nat.reduceMul, reduceCtorEq, nI_add]
            refine ih2 g3 _ (fun i hi => ?_) ?_ (fun a h1 h2 h3 => ?_)
            · rw [n2 5 (by decide), n2 6 (by decide)]
              simp only [x_up_app, x_ce_app, x_ce_same, Nat.reduceAdd, Nat.reduceEqDiff, ↓reduceIte, Nat.reduceSub, Nat.reduceMul, reduceCtorEq]
              by_cases e : i = j
              · subst e
                rw [if_pos rfl, if_pos rfl, if_pos (by omega), if_pos (by omega)]
                exact ⟨rfl, rfl⟩
              · have e2 : (1 ≤ W i ∧ (W i ≤ t ∨ (W i = t + 1 ∧ i < j + 1))) = (1 ≤ W i ∧ (W i ≤ t ∨ (W i = t + 1 ∧ i < j))) := propext (by omega)
                simp only [e2, if_neg e]
                exact b1 i hi
            · rw [← hE]
              rw [← hE] at n1
              exact n1
            · rw [n2 a h3, x_up_row h1, x_up_row h2]
              exact b3 a h1 h2 h3
      refine r_run 400 rfl rfl ?_
      simp only [x_up_app, x_ce_app, x_ce_same, Nat.reduceAdd, Nat.reduceEqDiff, ↓reduceIte, Nat.reduceSub, Nat.reduceMul, reduceCtorEq, a3 124 (by decide) (by decide) (by decide), hT]
      refine n_igt rfl (by omega) (by omega) (fun _ => by omega) (fun _ => ?_)
      refine r_to 12 60 rfl rfl ?_
      refine inner 0 (Nat.zero_le _) g' _ (fun i hi => ?_) a2 a3
      have e : (1 ≤ W i ∧ (W i ≤ t ∨ (W i = t + 1 ∧ i < 0))) = (1 ≤ W i ∧ W i ≤ t) := propext (by omega)
      simp only [e]
      exact a1 i hi
  refine r_to 2 60 rfl rfl ?_
  refine loop 0 (Nat.zero_le _) g none none (fun i hi => ?_) hb (fun _ _ _ _ => rfl)
  rw [if_neg (by omega), if_neg (by omega)]
  exact ⟨rfl, rfl⟩
set_option maxHeartbeats 4000000 in
theorem c_goOn_2 (d n c fw : Nat) (g : xG) (Q : xQ) (In : Nat → Bool) (hm : x_mk (g 7 8) n In) (h12 : n ≤ 12) (hc : g 3 3 = nI c) (h16 : c ≤ 16) (hf : g 2 4 = nI fw) (hf1 : 1 ≤ fw) (hf3 : fw ≤ 3) (k1 : x_cnt In n ≤ 1 → Q none (x_up g 2 3 (nI 2)))
    (k2 : 1 < x_cnt In n → ∀ (g' : xG) (t : Nat), t = c - max (x_cnt In n - fw) 1 → (∀ r i, r < 3 → i < c - t → g' (4 + r) i = x_tq t c (fun r i => g (4 + r) i) r i) → g' 3 3 = nI (c - t) → (∀ j, j ≠ 3 → j ≠ 8 → g' 2 j = g 2 j) → g' 2 3 = nI 0 → g' 2 8 = g 2 8 + nI t → (∀ a, a ≠ 2 → (a < 3 ∨ 6 < a) → g' a = g a) → Q none g') : Cx (d + 3) i_Game_goOn [.ref 2] g Q := by
  have hcnt := x_cnt_le In n
  refine r_cl (L0 := [some (.ref 2), none]) rfl (Or.inr ⟨_, _, _, rfl, rfl⟩) rfl rfl rfl ?_
  refine r_run 400 rfl rfl ?_
  refine r_inv rfl rfl rfl ?_
  refine c_count_2 d n g _ In hm h12 ?_
  refine r_run 400 rfl rfl ?_
  generalize x_cnt In n = q at hcnt k1 k2 ⊢
  refine n_igt rfl (by omega) (by omega) (fun h => ?_) (fun h => ?_)
  · refine r_run 400 rfl rfl ?_
    simp only [x_up_app, x_ce_app, x_ce_same, Nat.reduceAdd, Nat.reduceEqDiff, ↓reduceIte, Nat.reduceSub, Nat.reduceMul, reduceCtorEq, hf]
    refine r_ins rfl rfl rfl rfl ?_
    have k2 := k2 h
    have go : ∀ M, M = max (q - fw) 1 → Rx (d + 2) m_Game_goOn Q 43 [some (.ref 2), some (.int (nI q))] [.int (nI M), .ref 3, .int (g 2 8), .ref 2] (x_up g 2 3 (nI 0)) := by
      intro M hM
      refine r_inv rfl rfl rfl ?_
      refine c_leaveOnly_2 d c (nI M) _ _ (by simp only [x_up_app, Nat.reduceAdd, Nat.reduceEqDiff, ↓reduceIte]; exact hc) h16 ((nI_leI (by omega) (by omega)).mpr (by omega)) (fun g2 t t1 t2 t3 t4 t5 t6 t7 => ?_)
      refine r_run 400 rfl rfl ?_
      refine r_ret rfl rfl (k2 _ t ?_ (fun r i hr hi => ?_) ?_ (fun j h1 h2 => ?_) ?_ ?_ (fun a h1 h2 => ?_))
      · have e1 : c - t ≤ M := by
          rw [nI_ltI (by omega) (by omega)] at t3
          omega
        by_cases ez : t = 0
        · omega
        · have e2 := t4 (t - 1) (by omega)
          rw [nI_ltI (by omega) (by omega)] at e2
          omega
      · have e0 : ∀ x, x_up g2 2 8 x (4 + r) = g2 (4 + r) := fun x => x_up_row (by omega)
        rw [e0, t5 r i hr hi]
        refine x_tq_congr t c _ _ ?_ (fun r i h1 h2 => ?_) r i hr hi
        · by_cases ez : t = 0
          · omega
          · exact t2 (by omega)
        · show x_up g 2 3 (nI 0) (4 + r) i = _
          rw [x_up_row (by omega)]
      · have e0 : ∀ x, x_up g2 2 8 x 3 = g2 3 := fun x => x_up_row (by decide)
        rw [e0]
        exact t6
      · have e := t7 2 (by omega)
        simp only [x_up_app, Nat.reduceAdd, Nat.reduceEqDiff, ↓reduceIte, if_neg h2, e, if_neg h1]
      · have e := t7 2 (by omega)
        simp only [x_up_app, Nat.reduceAdd, Nat.reduceEqDiff, ↓reduceIte, e]
      · simp only [x_up_app, Nat.reduceAdd, Nat.reduceEqDiff, ↓reduceIte]
      · rw [x_up_row h1, t7 a h2, x_up_row h1]
    refine c_max (d + 1) _ _ _ _ (fun hlt => ?_) (fun hlt => ?_)
    · refine go 1 ?_
      by_cases e : fw ≤ q
      · rw [pk_sub e, nI_ltI (by omega) (by omega)] at hlt
        omega
      · omega
    · by_cases e : fw ≤ q
      · rw [pk_sub e] at hlt ⊢
        rw [nI_ltI (by omega) (by omega)] at hlt
        exact go (q - fw) (by omega)
      · exfalso
        have e1 : q = 2 := by omega
        have e2 : fw = 3 := by omega
        subst e1 e2
        exact hlt (by decide)
  · refine r_run 400 rfl rfl ?_
    exact r_ret rfl rfl (k1 h)
set_option maxHeartbeats 4000000 in
theorem c_rings_137 (d : Nat) (b : xR) (r t c tn p : Int32) (g : xG) (Q : xQ) (h : x_bl g 137 b) (k : ∀ g' : xG, x_bl g' 137 (x_r1 (x_e5 r t c tn p) b) → (∀ a, (a < 151 ∨ 156 < a) → g' a = g a) → Q none g') : Cx (d + 2) i_Bells_ring [.ref 151, .int r, .int t, .int c, .int tn, .int p] g Q := by
  obtain ⟨nx, h1, h2, h3, h4, h5⟩ := h
  refine c_ring_137 d nx b.1 r t c tn p g Q h1 h2 h3 h4 (k _ ⟨(nx + 1) % 12, ?_, Nat.mod_lt _ (by omega), ?_, ?_, fun a w ha hw => ?_⟩ (fun a ha => ?_))
  · simp only [x_up_app, x_ce_app, x_ce_same, Nat.reduceAdd, Nat.reduceEqDiff, ↓reduceIte, Nat.reduceSub, Nat.reduceMul, reduceCtorEq]
  · simp only [x_up_app, x_ce_app, x_ce_same, Nat.reduceAdd, Nat.reduceEqDiff, ↓reduceIte, Nat.reduceSub, Nat.reduceMul, reduceCtorEq]
    rfl
  · show min (b.1 + 1) 12 ≤ 12
    exact Nat.min_le_right _ _
  · have ha : a < min (b.1 + 1) 12 := ha
    show _ = if a = 0 then x_e5 r t c tn p w else b.2 (a - 1) w
    have hrow : ∀ (k : Nat), ((nx + 1) % 12 + 11 - a) % 12 = k → (a = 0 → k = nx) ∧ (¬ a = 0 → ¬ k = nx ∧ k = (nx + 11 - (a - 1)) % 12) := by
      intro k hk
      subst hk
      omega
    obtain ⟨e1, e2⟩ := hrow _ rfl
    by_cases hz : a = 0
    · rw [e1 hz, if_pos hz]
      have hw5 : w = 0 ∨ w = 1 ∨ w = 2 ∨ w = 3 ∨ w = 4 := by omega
      rcases hw5 with rfl | rfl | rfl | rfl | rfl <;> (simp only [x_up_app, Nat.reduceAdd, Nat.reduceEqDiff, ↓reduceIte, x_e5])
    · obtain ⟨e3, e4⟩ := e2 hz
      rw [if_neg hz]
      have h6 := h5 (a - 1) w (by omega) hw
      rw [← e4] at h6
      rw [← h6]
      generalize ((nx + 1) % 12 + 11 - a) % 12 = kk at e3
      have hw5 : w = 0 ∨ w = 1 ∨ w = 2 ∨ w = 3 ∨ w = 4 := by omega
      rcases hw5 with rfl | rfl | rfl | rfl | rfl <;> (simp only [x_up_app, Nat.reduceAdd, Nat.reduceEqDiff, ↓reduceIte, if_neg e3])
  · repeat rw [x_up_row (by omega)]
set_option maxHeartbeats 4000000 in
theorem c_settlePlayers_137 (d n : Nat) (g : xG) (Q : xQ) (In : Nat → Bool) (S : Nat → Option Nat) (hn : g 142 9 = nI n) (h12 : n ≤ 12) (hm : x_mk (g 142 8) n In) (hS : ∀ p, p < n → g 129 p = x_on (S p)) (hS2 : ∀ p q, S p = some q → q < 65536)
    (k : ∀ g' : xG, x_mk (g' 142 8) n (fun p => In p && (S p).isSome) → (∀ j, j ≠ 8 → g' 142 j = g 142 j) → (∀ p, p < n → g' 147 p = (if In p = true then g 147 p + g 130 p else g 147 p) ∧ g' 150 p = (if In p = true then g 131 p else g 150 p) ∧ g' 149 p = (if (In p && (S p).isNone) = true then g 137 5 else g 149 p) ∧ g' 146 p = (if (In p && (S p).isSome) = true then g 146 p + nI 1 else g 146 p)) → (∀ a, a ≠ 142 → a ≠ 146 → a ≠ 147 → a ≠ 149 → a ≠ 150 → g' a = g a) → Q none g') : Cx (d + 2) i_Game_settlePlayers [.ref 137, .ref 124] g Q := by
  refine r_cl (L0 := [some (.ref 137), some (.ref 124), none]) rfl (Or.inr ⟨_, _, _, rfl, rfl⟩) rfl rfl rfl ?_
  have loop : ∀ p, p ≤ n → ∀ g' : xG, x_mk (g' 142 8) n (fun q => if q < p then In q && (S q).isSome else In q) → (∀ j, j ≠ 8 → g' 142 j = g 142 j) → (∀ q, q < n → g' 147 q = (if q < p ∧ In q = true then g 147 q + g 130 q else g 147 q) ∧ g' 150 q = (if q < p ∧ In q = true then g 131 q else g 150 q) ∧ g' 149 q = (if q < p ∧ (In q && (S q).isNone) = true then g 137 5 else g 149 q) ∧ g' 146 q = (if q < p ∧ (In q && (S q).isSome) = true then g 146 q + nI 1 else g 146 q)) → (∀ a, a ≠ 142 → a ≠ 146 → a ≠ 147 → a ≠ 149 → a ≠ 150 → g' a = g a) → Rx (d + 1) m_Game_settlePlayers Q 2 [some (.ref 137), some (.ref 124), some (.int (nI p))] [] g' := by
    refine r_for ?_ ?_
    · intro g' a1 a2 a3 a4
      refine r_run 400 rfl rfl ?_
      simp only [x_up_app, x_ce_app, x_ce_same, Nat.reduceAdd, Nat.reduceEqDiff, ↓reduceIte, Nat.reduceSub, Nat.reduceMul, reduceCtorEq, a2 9 (by decide), hn]
      refine n_ige rfl (by omega) (by omega) (fun _ => ?_) (fun h2 => by omega)
      refine r_run 400 rfl rfl ?_
      refine r_ret rfl rfl (k g' (x_mk_congr a1 (fun i hi => if_pos hi)) a2 (fun p hp => ?_) a4)
      have := a3 p hp
      simp only [hp, true_and] at this
      exact this
    · intro p hp ih g' a1 a2 a3 a4
      obtain ⟨mm, hm1, hm2, hm3⟩ := x_mk_t a1 hp (by omega)
      simp only [Nat.lt_irrefl, if_false] at hm3
      obtain ⟨z1, z2, z3, z4⟩ := a3 p hp
      simp only [Nat.lt_irrefl, false_and, if_false] at z1 z2 z3 z4
      -- the other players
      have others : ∀ q, ¬ q = p → ((q < p + 1) = (q < p)) := fun q hq => propext (by omega)
      refine r_run 400 rfl rfl ?_
      simp only [x_up_app, x_ce_app, x_ce_same, Nat.reduceAdd, Nat.reduceEqDiff, ↓reduceIte, Nat.reduceSub, Nat.reduceMul, reduceCtorEq, a2 9 (by decide), hn]
      refine n_ige rfl (by omega) (by omega) (fun _ => by omega) (fun _ => ?_)
      refine r_run 400 rfl rfl ?_
      refine r_inv rfl rfl rfl ?_
      refine c_isPlaying_137 d p g' _ hm1 hm2 (by omega) (fun hb => ?_) (fun hb => ?_)
      · have hin : In p = true := hm3.mp hb
        refine t_eq1 rfl ?_
        refine r_run 400 rfl rfl ?_
        refine r_ald (j := p) rfl rfl (rfl) (by omega) (Nat.le_of_ble_eq_true rfl) ?_
        refine r_run 400 rfl rfl ?_
        refine r_ald (j := p) rfl rfl (rfl) (by omega) (Nat.le_of_ble_eq_true rfl) ?_
        refine r_run 400 rfl rfl ?_
        refine r_ast (j := p) rfl rfl (rfl) (by omega) (Nat.le_of_ble_eq_true rfl) ?_
        refine r_run 400 rfl rfl ?_
        refine r_ald (j := p) rfl rfl (rfl) (by omega) (Nat.le_of_ble_eq_true rfl) ?_
        refine r_run 400 rfl rfl ?_
        refine r_ast (j := p) rfl rfl (rfl) (by omega) (Nat.le_of_ble_eq_true rfl) ?_
        refine r_run 400 rfl rfl ?_
        refine r_ald (j := p) rfl rfl (rfl) (by omega) (Nat.le_of_ble_eq_true rfl) ?_
        simp only [x_up_app, x_ce_app, x_ce_same, Nat.reduceAdd, Nat.reduceEqDiff, ↓reduceIte, Nat.reduceSub, Nat.reduceMul, reduceCtorEq, a4 129 (by decide) (by decide) (by decide) (by decide) (by decide), a4 130 (by decide) (by decide) (by decide) (by decide) (by decide), a4 131 (by decide) (by decide) (by decide) (by decide) (by decide), hS p hp, z1]
        refine r_run 400 rfl rfl ?_
        cases hsp : S p with
        | none =>
          refine r_ine rfl (fun h => absurd rfl h) (fun _ => ?_)
          refine r_run 400 rfl rfl ?_
          refine r_inv rfl rfl rfl ?_
          refine c_leave_137 d p _ _ _ (by omega) ?_
          refine r_to 2 60 rfl rfl ?_
          simp only [x_up_app, x_ce_app, x_ce_same, Nat.reduceAdd, Nat.reduceEqDiff, ↓reduceIte, Nat.reduceSub, Nat.reduceMul, reduceCtorEq, nI_add, a4 137 (by decide) (by decide) (by decide) (by decide) (by decide)]
          refine ih _ ?_ (fun j hj => ?_) (fun q hq => ?_) (fun a b1 b2 b3 b4 b5 => ?_)
          · simp only [x_up_app, x_ce_app, x_ce_same, Nat.reduceAdd, Nat.reduceEqDiff, ↓reduceIte, Nat.reduceSub, Nat.reduceMul, reduceCtorEq]
            refine x_mk_clr a1 hp (by omega) (fun j hj => ?_)
            by_cases e : j = p
            · subst e
              simp [hsp]
            · simp only [others j e, e, decide_false, Bool.not_false, Bool.and_true]
          · simp only [x_up_app, x_ce_app, x_ce_same, Nat.reduceAdd, Nat.reduceEqDiff, ↓reduceIte, Nat.reduceSub, Nat.reduceMul, reduceCtorEq]
            rw [if_neg hj]
            exact a2 j hj
          · simp only [x_up_app, x_ce_app, x_ce_same, Nat.reduceAdd, Nat.reduceEqDiff, ↓reduceIte, Nat.reduceSub, Nat.reduceMul, reduceCtorEq]
            by_cases e : q = p
            · subst e
              simp [hin, hsp, z4]
            · simp only [if_neg e, others q e]
              exact a3 q hq
          · rw [x_up_row b4, x_up_row b1, x_up_row b5, x_up_row b3]
            exact a4 a b1 b2 b3 b4 b5
        | some s =>
          refine r_ine rfl (fun _ => ?_) (fun h => ?_)
          · refine r_run 400 rfl rfl ?_
            refine r_ald (j := p) rfl rfl (rfl) (by omega) (Nat.le_of_ble_eq_true rfl) ?_
            refine r_run 400 rfl rfl ?_
            simp only [x_up_app, x_ce_app, x_ce_same, Nat.reduceAdd, Nat.reduceEqDiff, ↓reduceIte, Nat.reduceSub, Nat.reduceMul, reduceCtorEq, z4]
            refine r_ast (j := p) rfl rfl (rfl) (by omega) (Nat.le_of_ble_eq_true rfl) ?_
            refine r_to 2 60 rfl rfl ?_
            simp only [x_up_app, x_ce_app, x_ce_same, Nat.reduceAdd, Nat.reduceEqDiff, ↓reduceIte, Nat.reduceSub, Nat.reduceMul, reduceCtorEq, nI_add]
            refine ih _ ?_ (fun j hj => ?_) (fun q hq => ?_) (fun a b1 b2 b3 b4 b5 => ?_)
            · simp only [x_up_app, x_ce_app, x_ce_same, Nat.reduceAdd, Nat.reduceEqDiff, ↓reduceIte, Nat.reduceSub, Nat.reduceMul, reduceCtorEq]
              refine x_mk_congr a1 (fun j hj => ?_)
              by_cases e : j = p
              · subst e
                simp [hsp]
              · simp only [others j e]
            · simp only [x_up_app, x_ce_app, x_ce_same, Nat.reduceAdd, Nat.reduceEqDiff, ↓reduceIte, Nat.reduceSub, Nat.reduceMul, reduceCtorEq]
              exact a2 j hj
            · simp only [x_up_app, x_ce_app, x_ce_same, Nat.reduceAdd, Nat.reduceEqDiff, ↓reduceIte, Nat.reduceSub, Nat.reduceMul, reduceCtorEq]
              by_cases e : q = p
              · subst e
                simp [hin, hsp, z3]
              · simp only [if_neg e, others q e]
                exact a3 q hq
            · rw [x_up_row b2, x_up_row b5, x_up_row b3]
              exact a4 a b1 b2 b3 b4 b5
          · exfalso
            have := hS2 p s hsp
            have h3 : nI s < 0 := by
              rw [show nI s = -1 from h]
              decide
            exact nI_pos (by omega) h3
      · have hin : In p = false := by
          cases h : In p with
          | false => rfl
          | true => exact absurd (hm3.mpr h) hb
        refine t_eq0 rfl ?_
        refine r_to 2 60 rfl rfl ?_
        simp only [x_up_app, x_ce_app, x_ce_same, Nat.reduceAdd, Nat.reduceEqDiff, ↓reduceIte, Nat.reduceSub, Nat.reduceMul, reduceCtorEq, nI_add]
        refine ih g' (x_mk_congr a1 (fun j hj => ?_)) a2 (fun q hq => ?_) a4
        · by_cases e : j = p
          · subst e
            simp [hin]
          · simp only [others j e]
        · by_cases e : q = p
          · subst e
            simp [hin, z1, z2, z3, z4]
          · simp only [others q e]
            exact a3 q hq
  refine r_to 2 60 rfl rfl ?_
  exact loop 0 (Nat.zero_le _) g (x_mk_congr hm (fun i _ => (if_neg (Nat.not_lt_zero _)).symm)) (fun _ _ => rfl) (fun q _ => by simp) (fun _ _ _ _ _ _ => rfl)
set_option maxHeartbeats 4000000 in
theorem c_count_137 (d n : Nat) (g : xG) (Q : xQ) (In : Nat → Bool) (hm : x_mk (g 142 8) n In) (h12 : n ≤ 12) (k : Q (some (.int (nI (x_cnt In n)))) g) : Cx (d + 2) i_Players_howManyPlay [.ref 142] g Q := by
  obtain ⟨m, h1, h2, h3⟩ := hm
  refine c_howMany_137 d m g Q h1 (Nat.lt_of_lt_of_le h2 (show 2 ^ n ≤ 2 ^ 12 from Nat.pow_le_pow_right (by omega) h12)) ?_
  rw [x_pop_mk h2 h3 h12]
  exact k
set_option maxHeartbeats 4000000 in
theorem c_settleChairs_137 (d c T : Nat) (g : xG) (Q : xQ) (W : Nat → Nat) (b : xR) (hc : g 138 3 = nI c) (h16 : c ≤ 16) (hW : ∀ j, j < c → g 133 j = nI (W j) ∧ W j ≤ 17) (hT : g 124 11 = nI T) (h17 : T ≤ 17) (hb : x_bl g 137 b)
    (k : ∀ g' : xG, (∀ j, j < c → g' 140 j = (if 1 ≤ W j ∧ W j ≤ T then g 140 j + nI 1 else g 140 j) ∧ g' 141 j = (if 1 ≤ W j ∧ W j ≤ T then g 132 j else g 141 j)) → x_bl g' 137 (x_rt (fun t j => x_e5 (g 137 5) (nI t) (nI j) (g 139 j) (g 132 j)) W c T b) → (∀ a, a ≠ 140 → a ≠ 141 → (a < 151 ∨ 156 < a) → g' a = g a) → Q none g') : Cx (d + 3) i_Game_settleChairs [.ref 137, .ref 124] g Q := by
  generalize hE : (fun t j => x_e5 (g 137 5) (nI t) (nI j) (g 139 j) (g 132 j)) = E at k
  refine r_cl (L0 := [some (.ref 137), some (.ref 124), none, none, none]) rfl (Or.inr ⟨_, _, _, rfl, rfl⟩) rfl rfl rfl ?_
  have loop : ∀ t, t ≤ T → ∀ (g' : xG) (l3 l4 : Option Value), (∀ j, j < c → g' 140 j = (if 1 ≤ W j ∧ W j ≤ t then g 140 j + nI 1 else g 140 j) ∧ g' 141 j = (if 1 ≤ W j ∧ W j ≤ t then g 132 j else g 141 j)) → x_bl g' 137 (x_rt E W c t b) → (∀ a, a ≠ 140 → a ≠ 141 → (a < 151 ∨ 156 < a) → g' a = g a) → Rx (d + 2) m_Game_settleChairs Q 2 [some (.ref 137), some (.ref 124), some (.int (nI (t + 1))), l3, l4] [] g' := by
    refine r_for ?_ ?_
    · intro g' l3 l4 a1 a2 a3
      refine r_run 400 rfl rfl ?_
      simp only [x_up_app, x_ce_app, x_ce_same, Nat.reduceAdd, Nat.reduceEqDiff, ↓reduceIte, Nat.reduceSub, Nat.reduceMul, reduceCtorEq, a3 124 (by decide) (by decide) (by decide), hT]
      refine n_igt rfl (by omega) (by omega) (fun _ => ?_) (fun h2 => by omega)
      refine r_run 400 rfl rfl ?_
      exact r_ret rfl rfl (k g' a1 a2 a3)
    · intro t ht ih g' l3 l4 a1 a2 a3
      have inner : ∀ j, j ≤ c → ∀ (g2 : xG) (l4 : Option Value), (∀ i, i < c → g2 140 i = (if 1 ≤ W i ∧ (W i ≤ t ∨ (W i = t + 1 ∧ i < j)) then g 140 i + nI 1 else g 140 i) ∧ g2 141 i = (if 1 ≤ W i ∧ (W i ≤ t ∨ (W i = t + 1 ∧ i < j)) then g 132 i else g 141 i)) → x_bl g2 137 (x_rj (E (t + 1)) W (t + 1) j (x_rt E W c t b)) → (∀ a, a ≠ 140 → a ≠ 141 → (a < 151 ∨ 156 < a) → g2 a = g a) → Rx (d + 2) m_Game_settleChairs Q 12 [some (.ref 137), some (.ref 124), some (.int (nI (t + 1))), some (.int (nI j)), l4] [] g2 := by
        refine r_for ?_ ?_
        · intro g2 l4 b1 b2 b3
          refine r_run 400 rfl rfl ?_
          simp only [x_up_app, x_ce_app, x_ce_same, Nat.reduceAdd, Nat.reduceEqDiff, ↓reduceIte, Nat.reduceSub, Nat.reduceMul, reduceCtorEq, b3 138 (by decide) (by decide) (by decide), hc]
          refine n_ige rfl (by omega) (by omega) (fun _ => ?_) (fun h2 => by omega)
          refine r_to 2 60 rfl rfl ?_
          simp only [x_up_app, x_ce_app, x_ce_same, Nat.reduceAdd, Nat.reduceEqDiff, ↓reduceIte, Nat.reduceSub, Nat.reduceMul, reduceCtorEq, nI_add]
          refine ih g2 _ _ (fun i hi => ?_) b2 b3
          have e : (1 ≤ W i ∧ W i ≤ t + 1) = (1 ≤ W i ∧ (W i ≤ t ∨ (W i = t + 1 ∧ i < c))) := propext (by omega)
          simp only [e]
          exact b1 i hi
        · intro j hj ih2 g2 l4 b1 b2 b3
          obtain ⟨w1, w2⟩ := hW j hj
          refine r_run 400 rfl rfl ?_
          simp only [x_up_app, x_ce_app, x_ce_same, Nat.reduceAdd, Nat.reduceEqDiff, ↓reduceIte, Nat.reduceSub, Nat.reduceMul, reduceCtorEq, b3 138 (by decide) (by decide) (by decide), hc]
          refine n_ige rfl (by omega) (by omega) (fun _ => by omega) (fun _ => ?_)
          refine r_run 400 rfl rfl ?_
          refine r_ald (j := j) rfl rfl (rfl) (by omega) (Nat.le_of_ble_eq_true rfl) ?_
          refine r_run 400 rfl rfl ?_
          simp only [x_up_app, x_ce_app, x_ce_same, Nat.reduceAdd, Nat.reduceEqDiff, ↓reduceIte, Nat.reduceSub, Nat.reduceMul, reduceCtorEq, b3 133 (by decide) (by decide) (by decide), w1]
          have hs : x_rj (E (t + 1)) W (t + 1) (j + 1) (x_rt E W c t b) = if W j = t + 1 then x_r1 (E (t + 1) j) (x_rj (E (t + 1)) W (t + 1) j (x_rt E W c t b)) else x_rj (E (t + 1)) W (t + 1) j (x_rt E W c t b) := rfl
          refine n_ine rfl (by omega) (by omega) (fun hne => ?_) (fun heq => ?_)
          · rw [hs, if_neg hne] at ih2
            refine r_to 12 60 rfl rfl ?_
            simp only [x_up_app, x_ce_app, x_ce_same, Nat.reduceAdd, Nat.reduceEqDiff, ↓reduceIte, Nat.reduceSub, Nat.reduceMul, reduceCtorEq, nI_add]
            refine ih2 g2 _ (fun i hi => ?_) b2 b3
            have e : (1 ≤ W i ∧ (W i ≤ t ∨ (W i = t + 1 ∧ i < j + 1))) = (1 ≤ W i ∧ (W i ≤ t ∨ (W i = t + 1 ∧ i < j))) := propext (by
              by_cases e : i = j
              · subst e
                omega
              · omega)
            simp only [e]
            exact b1 i hi
          · rw [hs, if_pos heq] at ih2
            obtain ⟨y1, y2⟩ := b1 j hj
            rw [if_neg (by omega)] at y1
            refine r_run 400 rfl rfl ?_
            refine r_ald (j := j) rfl rfl (rfl) (by omega) (Nat.le_of_ble_eq_true rfl) ?_
            refine r_run 400 rfl rfl ?_
            simp only [x_up_app, x_ce_app, x_ce_same, Nat.reduceAdd, Nat.reduceEqDiff, ↓reduceIte, Nat.reduceSub, Nat.reduceMul, reduceCtorEq, b3 132 (by decide) (by decide) (by decide)]
            refine r_inv rfl rfl rfl ?_
            refine c_seat_137 (d + 1) j _ _ _ (by omega) ?_
            refine r_run 400 rfl rfl ?_
            refine r_ald (j := j) rfl rfl rfl (by omega) (Nat.le_of_ble_eq_true rfl) ?_
            refine r_run 400 rfl rfl ?_
            simp only [x_up_app, x_ce_app, x_ce_same, Nat.reduceAdd, Nat.reduceEqDiff, ↓reduceIte, Nat.reduceSub, Nat.reduceMul, reduceCtorEq, b3 139 (by decide) (by decide) (by decide), b3 137 (by decide) (by decide) (by decide), y1]
            refine r_inv rfl rfl rfl ?_
            obtain ⟨nx, z1, z2, z3, z4, z5⟩ := b2
            refine c_rings_137 d (x_rj (E (t + 1)) W (t + 1) j (x_rt E W c t b)) _ _ _ _ _ _ _ ⟨nx, ?_, z2, ?_, z4, fun a w ha hw => ?_⟩ (fun g3 n1 n2 => ?_)
            · simp only [x_up_app, x_ce_app, x_ce_same, Nat.reduceAdd, Nat.reduceEqDiff, ↓reduceIte, Nat.reduceSub, Nat.reduceMul, reduceCtorEq]
              exact z1
            · simp only [x_up_app, x_ce_app, x_ce_same, Nat.reduceAdd, Nat.reduceEqDiff, ↓reduceIte, Nat.reduceSub, Nat.reduceMul, reduceCtorEq]
              exact z3
            · rw [x_up_row (by omega), x_up_row (by omega)]
              exact z5 a w ha hw
            refine r_to 12 60 rfl rfl ?_
            simp only [x_up_app, x_ce_app, x_ce_same, Nat.reduceAdd, Nat.reduceEqDiff, ↓reduceIte, Nat.reduceSub, Nat.reduceMul, reduceCtorEq, nI_add]
            refine ih2 g3 _ (fun i hi => ?_) ?_ (fun a h1 h2 h3 => ?_)
            · rw [n2 140 (by decide), n2 141 (by decide)]
              simp only [x_up_app, x_ce_app, x_ce_same, Nat.reduceAdd, Nat.reduceEqDiff, ↓reduceIte, Nat.reduceSub, Nat.reduceMul, reduceCtorEq]
              by_cases e : i = j
              · subst e
                rw [if_pos rfl, if_pos rfl, if_pos (by omega), if_pos (by omega)]
                exact ⟨rfl, rfl⟩
              · have e2 : (1 ≤ W i ∧ (W i ≤ t ∨ (W i = t + 1 ∧ i < j + 1))) = (1 ≤ W i ∧ (W i ≤ t ∨ (W i = t + 1 ∧ i < j))) := propext (by omega)
                simp only [e2, if_neg e]
                exact b1 i hi
            · rw [← hE]
              rw [← hE] at n1
              exact n1
            · rw [n2 a h3, x_up_row h1, x_up_row h2]
              exact b3 a h1 h2 h3
      refine r_run 400 rfl rfl ?_
      simp only [x_up_app, x_ce_app, x_ce_same, Nat.reduceAdd, Nat.reduceEqDiff, ↓reduceIte, Nat.reduceSub, Nat.reduceMul, reduceCtorEq, a3 124 (by decide) (by decide) (by decide), hT]
      refine n_igt rfl (by omega) (by omega) (fun _ => by omega) (fun _ => ?_)
      refine r_to 12 60 rfl rfl ?_
      refine inner 0 (Nat.zero_le _) g' _ (fun i hi => ?_) a2 a3
      have e : (1 ≤ W i ∧ (W i ≤ t ∨ (W i = t + 1 ∧ i < 0))) = (1 ≤ W i ∧ W i ≤ t) := propext (by omega)
      simp only [e]
      exact a1 i hi
  refine r_to 2 60 rfl rfl ?_
  refine loop 0 (Nat.zero_le _) g none none (fun i hi => ?_) hb (fun _ _ _ _ => rfl)
  rw [if_neg (by omega), if_neg (by omega)]
  exact ⟨rfl, rfl⟩
set_option maxHeartbeats 4000000 in
theorem c_goOn_137 (d n c fw : Nat) (g : xG) (Q : xQ) (In : Nat → Bool) (hm : x_mk (g 142 8) n In) (h12 : n ≤ 12) (hc : g 138 3 = nI c) (h16 : c ≤ 16) (hf : g 137 4 = nI fw) (hf1 : 1 ≤ fw) (hf3 : fw ≤ 3) (k1 : x_cnt In n ≤ 1 → Q none (x_up g 137 3 (nI 2)))
    (k2 : 1 < x_cnt In n → ∀ (g' : xG) (t : Nat), t = c - max (x_cnt In n - fw) 1 → (∀ r i, r < 3 → i < c - t → g' (139 + r) i = x_tq t c (fun r i => g (139 + r) i) r i) → g' 138 3 = nI (c - t) → (∀ j, j ≠ 3 → j ≠ 8 → g' 137 j = g 137 j) → g' 137 3 = nI 0 → g' 137 8 = g 137 8 + nI t → (∀ a, a ≠ 137 → (a < 138 ∨ 141 < a) → g' a = g a) → Q none g') : Cx (d + 3) i_Game_goOn [.ref 137] g Q := by
  have hcnt := x_cnt_le In n
  refine r_cl (L0 := [some (.ref 137), none]) rfl (Or.inr ⟨_, _, _, rfl, rfl⟩) rfl rfl rfl ?_
  refine r_run 400 rfl rfl ?_
  refine r_inv rfl rfl rfl ?_
  refine c_count_137 d n g _ In hm h12 ?_
  refine r_run 400 rfl rfl ?_
  generalize x_cnt In n = q at hcnt k1 k2 ⊢
  refine n_igt rfl (by omega) (by omega) (fun h => ?_) (fun h => ?_)
  · refine r_run 400 rfl rfl ?_
    simp only [x_up_app, x_ce_app, x_ce_same, Nat.reduceAdd, Nat.reduceEqDiff, ↓reduceIte, Nat.reduceSub, Nat.reduceMul, reduceCtorEq, hf]
    refine r_ins rfl rfl rfl rfl ?_
    have k2 := k2 h
    have go : ∀ M, M = max (q - fw) 1 → Rx (d + 2) m_Game_goOn Q 43 [some (.ref 137), some (.int (nI q))] [.int (nI M), .ref 138, .int (g 137 8), .ref 137] (x_up g 137 3 (nI 0)) := by
      intro M hM
      refine r_inv rfl rfl rfl ?_
      refine c_leaveOnly_137 d c (nI M) _ _ (by simp only [x_up_app, Nat.reduceAdd, Nat.reduceEqDiff, ↓reduceIte]; exact hc) h16 ((nI_leI (by omega) (by omega)).mpr (by omega)) (fun g2 t t1 t2 t3 t4 t5 t6 t7 => ?_)
      refine r_run 400 rfl rfl ?_
      refine r_ret rfl rfl (k2 _ t ?_ (fun r i hr hi => ?_) ?_ (fun j h1 h2 => ?_) ?_ ?_ (fun a h1 h2 => ?_))
      · have e1 : c - t ≤ M := by
          rw [nI_ltI (by omega) (by omega)] at t3
          omega
        by_cases ez : t = 0
        · omega
        · have e2 := t4 (t - 1) (by omega)
          rw [nI_ltI (by omega) (by omega)] at e2
          omega
      · have e0 : ∀ x, x_up g2 137 8 x (139 + r) = g2 (139 + r) := fun x => x_up_row (by omega)
        rw [e0, t5 r i hr hi]
        refine x_tq_congr t c _ _ ?_ (fun r i h1 h2 => ?_) r i hr hi
        · by_cases ez : t = 0
          · omega
          · exact t2 (by omega)
        · show x_up g 137 3 (nI 0) (139 + r) i = _
          rw [x_up_row (by omega)]
      · have e0 : ∀ x, x_up g2 137 8 x 138 = g2 138 := fun x => x_up_row (by decide)
        rw [e0]
        exact t6
      · have e := t7 137 (by omega)
        simp only [x_up_app, Nat.reduceAdd, Nat.reduceEqDiff, ↓reduceIte, if_neg h2, e, if_neg h1]
      · have e := t7 137 (by omega)
        simp only [x_up_app, Nat.reduceAdd, Nat.reduceEqDiff, ↓reduceIte, e]
      · simp only [x_up_app, Nat.reduceAdd, Nat.reduceEqDiff, ↓reduceIte]
      · rw [x_up_row h1, t7 a h2, x_up_row h1]
    refine c_max (d + 1) _ _ _ _ (fun hlt => ?_) (fun hlt => ?_)
    · refine go 1 ?_
      by_cases e : fw ≤ q
      · rw [pk_sub e, nI_ltI (by omega) (by omega)] at hlt
        omega
      · omega
    · by_cases e : fw ≤ q
      · rw [pk_sub e] at hlt ⊢
        rw [nI_ltI (by omega) (by omega)] at hlt
        exact go (q - fw) (by omega)
      · exfalso
        have e1 : q = 2 := by omega
        have e2 : fw = 3 := by omega
        subst e1 e2
        exact hlt (by decide)
  · refine r_run 400 rfl rfl ?_
    exact r_ret rfl rfl (k1 h)
