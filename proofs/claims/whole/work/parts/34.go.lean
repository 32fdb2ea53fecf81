/-! ===== the reference: a player comes, the music starts, they walk ===== -/
theorem x_sm_add {f f' : Nat → Int32} {p : Nat} {δ : Int32} (h1 : f' p = f p + δ) (h2 : ∀ q, q ≠ p → f' q = f q) : ∀ n, p < n → x_sm f' n = x_sm f n + δ
  | 0, h => by omega
  | n + 1, h => by
    show x_sm f' n + f' n = x_sm f n + f n + δ
    by_cases e : p = n
    · subst e
      rw [h1, x_sm_congr p (fun i hi => h2 i (by omega)), Int32.add_assoc]
    · rw [x_sm_add h1 h2 n (by omega), h2 n (fun z => e z.symm), Int32.add_assoc, Int32.add_assoc, Int32.add_comm δ]
set_option maxHeartbeats 4000000 in
theorem m_goPlayer (d : Nat) (V : xV) (P : Nat → Nat) (s e : Int32) (g : xG) (Q : xQ) (h : MG (g 158) V P) (hc : vc V ≤ 16) (hn : vn V < 12) (hph : ¬ vph V = 1) (k : ∀ g' : xG, MG (g' 158) (vPlayer V (iN s) (iN e)) P → (∀ a, a ≠ 158 → g' a = g a) → Q (some (.int (nI (vn V)))) g') : Cx (d + 2) i_Md_goPlayer [.ref 157, .int s, .int e] g Q := by
  obtain ⟨⟨w0, w1, w2, w3, w4, w5, w6, w7, w9, w10, w11, w13, w16⟩, h2, h3, h4, h5⟩ := h
  refine r_cl (L0 := [some (.ref 157), some (.int s), some (.int e), none, none]) rfl (Or.inr ⟨_, _, _, rfl, rfl⟩) rfl rfl rfl ?_
  have loop : ∀ i, i ≤ 9 → ∀ g' : xG, (∀ j, j < i → g' 158 (65 + 9 * vn V + j) = nI 0) → (∀ b, (b < 65 + 9 * vn V ∨ 65 + 9 * vn V + 9 ≤ b) → g' 158 b = g 158 b) → (∀ a, a ≠ 158 → g' a = g a) → Rx (d + 1) m_Md_goPlayer Q 10 [some (.ref 157), some (.int s), some (.int e), some (.int (nI (vn V))), some (.int (nI i))] [] g' := by
    refine r_for ?_ ?_
    · intro g' a1 a2 a3
      refine r_run 400 rfl rfl ?_
      refine n_ige rfl (by omega) (by omega) (fun _ => ?_) (fun h => by omega)
      refine r_run 400 rfl rfl ?_
      refine r_inv rfl rfl rfl ?_
      refine m_lays d (vn V) 0 _ _ _ hn (by omega) ?_
      refine r_run 400 rfl rfl ?_
      refine r_inv rfl rfl rfl ?_
      refine m_lays d (vn V) 1 _ _ _ hn (by omega) ?_
      refine r_run 400 rfl rfl ?_
      refine r_inv rfl rfl rfl ?_
      refine m_lays d (vn V) 2 _ _ _ hn (by omega) ?_
      refine r_run 400 rfl rfl ?_
      refine r_ald (j := 2) rfl rfl rfl (by decide) (Nat.le_of_ble_eq_true rfl) ?_
      have e2 := a2 2 (by omega)
      simp only [Nat.reduceAdd]
      simp (disch := omega) only [x_up_o, x_up_n, x_up_e, e2, w2]
      refine r_run 400 rfl rfl ?_
      refine r_ast (j := 2) rfl rfl rfl (by decide) (Nat.le_of_ble_eq_true rfl) ?_
      refine r_run 400 rfl rfl ?_
      simp only [x_up_app, x_ce_app, x_ce_same, Nat.reduceAdd, Nat.reduceEqDiff, ↓reduceIte, Nat.reduceSub, Nat.reduceMul, reduceCtorEq, nI_add]
      refine r_iret rfl rfl (k _ ⟨?_, fun j hj => ?_, fun p hp => ?_, h4, fun a w ha hw => ?_⟩ (fun a ha => ?_))
      · simp (disch := omega) only [x_up_o, x_up_n, x_up_e]
        rw [a2 0 (by omega), a2 1 (by omega), a2 3 (by omega), a2 4 (by omega), a2 5 (by omega), a2 6 (by omega), a2 7 (by omega), a2 9 (by omega), a2 10 (by omega), a2 11 (by omega), a2 13 (by omega), a2 16 (by omega)]
        have es : ∀ (f : Nat → Int32), x_sm (fun p => if p = vn V then nI 0 else f p) (vn V + 1) = x_sm f (vn V) := fun f => x_sm_0 (fun i hi => if_neg (by omega)) (if_pos rfl)
        refine ⟨w0, w1, rfl, w3, w4, w5, ?_, ?_, w9, ?_, w11, w13, w16⟩
        · rw [w6]
          exact (es (vss V)).symm
        · rw [w7]
          exact (es (vbu V)).symm
        · rw [w10]
          exact (es (vwa V)).symm
      · have hj : j < vc V := hj
        simp (disch := omega) only [x_up_o, x_up_n, x_up_e]
        rw [a2 _ (by omega), a2 _ (by omega), a2 _ (by omega)]
        exact h2 j hj
      · have hp : p < vn V + 1 := hp
        show _ = nI (if p = vn V then iN s else vst V p) ∧ _ = nI (if p = vn V then iN e else vea V p) ∧ _ = x_b (if p = vn V then true else vin V p) ∧ (vph V = 1 → _ → _) ∧ _ = (if p = vn V then nI 0 else vss V p) ∧ _ = (if p = vn V then nI 0 else vbu V p) ∧ _ = (if p = vn V then nI 0 else vwa V p) ∧ _ = (if p = vn V then nI 0 else vou V p) ∧ _ = nI (if p = vn V then 0 else vti V p)
        by_cases e : p = vn V
        · subst e
          simp only [if_pos, nI_iN]
          simp (disch := omega) only [x_up_o, x_up_n, x_up_e]
          rw [a1 4 (by omega), a1 5 (by omega), a1 6 (by omega), a1 7 (by omega), a1 8 (by omega)]
          exact ⟨trivial, trivial, rfl, fun z => absurd z hph, rfl, rfl, rfl, rfl, rfl⟩
        · simp only [if_neg e]
          obtain ⟨z1, z2, z3, z4, z5, z6, z7, z8, z9⟩ := h3 p (by omega)
          simp (disch := omega) only [x_up_o, x_up_n, x_up_e]
          rw [a2 _ (by omega), a2 _ (by omega), a2 _ (by omega), a2 (65 + 9 * p + 4) (by omega), a2 (65 + 9 * p + 5) (by omega), a2 (65 + 9 * p + 6) (by omega), a2 (65 + 9 * p + 7) (by omega), a2 (65 + 9 * p + 8) (by omega)]
          exact ⟨z1, z2, z3, fun z => absurd z hph, z5, z6, z7, z8, z9⟩
      · have ha : a < (vR V).1 := ha
        simp (disch := omega) only [x_up_o, x_up_n, x_up_e]
        rw [a2 _ (by omega)]
        exact h5 a w ha hw
      · repeat rw [x_up_row ha]
        exact a3 a ha
    · intro i hi ih g' a1 a2 a3
      refine r_run 400 rfl rfl ?_
      refine n_ige rfl (by omega) (by omega) (fun _ => by omega) (fun _ => ?_)
      refine r_run 400 rfl rfl ?_
      refine r_inv rfl rfl rfl ?_
      refine m_lays d (vn V) i _ _ _ hn (by omega) ?_
      refine r_to 10 60 rfl rfl ?_
      simp only [x_up_app, x_ce_app, x_ce_same, Nat.reduceAdd, Nat.reduceEqDiff, ↓reduceIte, Nat.reduceSub, Nat.reduceMul, reduceCtorEq, nI_add]
      refine ih _ (fun j hj => ?_) (fun b hb => ?_) (fun a ha => by rw [x_up_row ha]; exact a3 a ha)
      · by_cases e : j = i
        · subst e
          simp (disch := omega) only [x_up_o, x_up_n, x_up_e]
        · simp (disch := omega) only [x_up_o, x_up_n, x_up_e]
          exact a1 j (by omega)
      · simp (disch := omega) only [x_up_o, x_up_n, x_up_e]
        exact a2 b hb
  refine r_run 400 rfl rfl ?_
  refine r_ald (j := 2) rfl rfl rfl (by decide) (Nat.le_of_ble_eq_true rfl) ?_
  simp only [x_up_app, x_ce_app, x_ce_same, Nat.reduceAdd, Nat.reduceEqDiff, ↓reduceIte, Nat.reduceSub, Nat.reduceMul, reduceCtorEq, w2]
  refine r_to 10 60 rfl rfl ?_
  exact loop 0 (Nat.zero_le _) g (fun j hj => absurd hj (Nat.not_lt_zero _)) (fun _ _ => rfl) (fun _ _ => rfl)
set_option maxHeartbeats 4000000 in
theorem m_goStart (d : Nat) (V : xV) (P : Nat → Nat) (g : xG) (Q : xQ) (h : MG (g 158) V P) (hk : vOk V) (he : eStart V = nI 0) (k : ∀ g' : xG, MG (g' 158) (vStart V) (vpl (vStart V)) → (∀ a, a ≠ 158 → g' a = g a) → Q (some (.int (nI (x_cnt (vin V) (vn V))))) g') : Cx (d + 3) i_Md_goStart [.ref 157] g Q := by
  obtain ⟨⟨w0, w1, w2, w3, w4, w5, w6, w7, w9, w10, w11, w13, w16⟩, h2, h3, h4, h5⟩ := h
  obtain ⟨e1, e2, e3⟩ := eStart_0 he
  obtain ⟨⟨v1, v2, v3, v4, v5, v6⟩, hb0, -⟩ := hk
  have hbt := hb0 (by omega)
  refine r_cl (L0 := [some (.ref 157), none, none]) rfl (Or.inr ⟨_, _, _, rfl, rfl⟩) rfl rfl rfl ?_
  -- the chairs
  have loop2 : ∀ j, j ≤ vc V → ∀ g' : xG, (∀ p, p < vn V → vin V p = true → g' 158 (65 + 9 * p + 3) = nI (x_cnt (vin V) p % vc V)) → (∀ i, i < j → g' 158 (17 + 3 * i + 2) = nI 0) → (∀ b, (∀ p, p < vn V → ¬ b = 65 + 9 * p + 3) → (∀ i, i < vc V → ¬ b = 17 + 3 * i + 2) → g' 158 b = g 158 b) → (∀ a, a ≠ 158 → g' a = g a) → Rx (d + 2) m_Md_goStart Q 57 [some (.ref 157), some (.int (nI (x_cnt (vin V) (vn V)))), some (.int (nI j))] [] g' := by
    refine r_for ?_ ?_
    · intro g' a1 a2 a3 a4
      have f : ∀ b, b < 17 → g' 158 b = g 158 b := fun b hb => a3 b (fun p _ => by omega) (fun i _ => by omega)
      refine r_run 400 rfl rfl ?_
      refine r_ald (j := 1) rfl rfl rfl (by decide) (Nat.le_of_ble_eq_true rfl) ?_
      simp only [x_up_app, x_ce_app, x_ce_same, Nat.reduceAdd, Nat.reduceEqDiff, ↓reduceIte, Nat.reduceSub, Nat.reduceMul, reduceCtorEq, f 1 (by omega), w1]
      refine n_ige rfl (by omega) (by omega) (fun _ => ?_) (fun h => by omega)
      refine r_run 400 rfl rfl ?_
      refine r_ast (j := 5) rfl rfl rfl (by decide) (Nat.le_of_ble_eq_true rfl) ?_
      refine r_run 400 rfl rfl ?_
      refine r_ast (j := 0) rfl rfl rfl (by decide) (Nat.le_of_ble_eq_true rfl) ?_
      refine r_run 400 rfl rfl ?_
      simp only [Nat.reduceAdd]
      refine r_iret rfl rfl (k _ ⟨?_, fun j hj => ?_, fun p hp => ?_, h4, fun a w ha hw => ?_⟩ (fun a ha => ?_))
      · simp (disch := omega) only [x_up_o, x_up_n, x_up_e]
        rw [f 1 (by omega), f 2 (by omega), f 3 (by omega), f 4 (by omega), f 6 (by omega), f 7 (by omega), f 9 (by omega), f 10 (by omega), f 11 (by omega), f 13 (by omega), f 16 (by omega)]
        exact ⟨rfl, w1, w2, w3, w4, (by rw [show vbt (vStart V) = vbt V from rfl, hbt]), w6, w7, w9, w10, w11, w13, w16⟩
      · have hj : j < vc V := hj
        simp (disch := omega) only [x_up_o, x_up_n, x_up_e]
        rw [a2 j hj, a3 _ (fun p _ => by omega) (fun i _ => by omega), a3 _ (fun p _ => by omega) (fun i _ => by omega)]
        exact ⟨(h2 j hj).1, (h2 j hj).2.1, rfl⟩
      · have hp : p < vn V := hp
        obtain ⟨z1, z2, z3, z4, z5, z6, z7, z8, z9⟩ := h3 p hp
        have f2 : ∀ i, i < 9 → ¬ i = 3 → g' 158 (65 + 9 * p + i) = g 158 (65 + 9 * p + i) := fun i hi h3 => a3 _ (fun q _ => by omega) (fun j _ => by omega)
        simp (disch := omega) only [x_up_o, x_up_n, x_up_e]
        rw [f2 0 (by omega) (by omega), f2 1 (by omega) (by omega), f2 2 (by omega) (by omega), f2 4 (by omega) (by omega), f2 5 (by omega) (by omega), f2 6 (by omega) (by omega), f2 7 (by omega) (by omega), f2 8 (by omega) (by omega)]
        refine ⟨z1, z2, z3, fun _ hi => ?_, z5, z6, z7, z8, z9⟩
        have hi : vin V p = true := hi
        rw [a1 p hp hi]
        show _ = nI (if vin V p = true then x_cnt (vin V) p % vc V else vpl V p)
        rw [if_pos hi]
      · have ha : a < (vR V).1 := ha
        simp (disch := omega) only [x_up_o, x_up_n, x_up_e]
        rw [a3 _ (fun p _ => by omega) (fun i _ => by omega)]
        exact h5 a w ha hw
      · rw [x_up_row ha, x_up_row ha]
        exact a4 a ha
    · intro j hj ih g' a1 a2 a3 a4
      have f : ∀ b, b < 17 → g' 158 b = g 158 b := fun b hb => a3 b (fun p _ => by omega) (fun i _ => by omega)
      refine r_run 400 rfl rfl ?_
      refine r_ald (j := 1) rfl rfl rfl (by decide) (Nat.le_of_ble_eq_true rfl) ?_
      simp only [x_up_app, x_ce_app, x_ce_same, Nat.reduceAdd, Nat.reduceEqDiff, ↓reduceIte, Nat.reduceSub, Nat.reduceMul, reduceCtorEq, f 1 (by omega), w1]
      refine n_ige rfl (by omega) (by omega) (fun _ => by omega) (fun _ => ?_)
      refine r_run 400 rfl rfl ?_
      refine r_inv rfl rfl rfl ?_
      refine m_laysChair (d + 1) j 2 _ _ _ (by omega) (by omega) ?_
      refine r_to 57 60 rfl rfl ?_
      simp only [x_up_app, x_ce_app, x_ce_same, Nat.reduceAdd, Nat.reduceEqDiff, ↓reduceIte, Nat.reduceSub, Nat.reduceMul, reduceCtorEq, nI_add]
      refine ih _ (fun p hp hi => ?_) (fun i hi => ?_) (fun b h1 h2 => ?_) (fun a ha => by rw [x_up_row ha]; exact a4 a ha)
      · simp (disch := omega) only [x_up_o, x_up_n, x_up_e]
        exact a1 p hp hi
      · by_cases e : i = j
        · subst e
          simp (disch := omega) only [x_up_o, x_up_n, x_up_e]
        · simp (disch := omega) only [x_up_o, x_up_n, x_up_e]
          exact a2 i (by omega)
      · have := h2 j hj
        simp (disch := omega) only [x_up_o, x_up_n, x_up_e]
        exact a3 b h1 h2
  have loop1 : ∀ p, p ≤ vn V → ∀ g' : xG, (∀ q, q < p → vin V q = true → g' 158 (65 + 9 * q + 3) = nI (x_cnt (vin V) q % vc V)) → (∀ b, (∀ p, p < vn V → ¬ b = 65 + 9 * p + 3) → g' 158 b = g 158 b) → (∀ a, a ≠ 158 → g' a = g a) → Rx (d + 2) m_Md_goStart Q 4 [some (.ref 157), some (.int (nI (x_cnt (vin V) p))), some (.int (nI p))] [] g' := by
    refine r_for ?_ ?_
    · intro g' a1 a3 a4
      have f : ∀ b, b < 17 → g' 158 b = g 158 b := fun b hb => a3 b (fun p _ => by omega)
      refine r_run 400 rfl rfl ?_
      refine r_ald (j := 2) rfl rfl rfl (by decide) (Nat.le_of_ble_eq_true rfl) ?_
      simp only [x_up_app, x_ce_app, x_ce_same, Nat.reduceAdd, Nat.reduceEqDiff, ↓reduceIte, Nat.reduceSub, Nat.reduceMul, reduceCtorEq, f 2 (by omega), w2]
      refine n_ige rfl (by omega) (by omega) (fun _ => ?_) (fun h => by omega)
      refine r_to 57 60 rfl rfl ?_
      exact loop2 0 (Nat.zero_le _) g' a1 (fun i hi => absurd hi (Nat.not_lt_zero _)) (fun b h1 _ => a3 b h1) a4
    · intro p hp ih g' a1 a3 a4
      have hcn := x_cnt_le (vin V) p
      have f : ∀ b, b < 17 → g' 158 b = g 158 b := fun b hb => a3 b (fun p _ => by omega)
      have fin : g' 158 (65 + 9 * p + 2) = x_b (vin V p) := by rw [a3 _ (fun q _ => by omega)]; exact (h3 p hp).2.2.1
      have e : nI (x_cnt (vin V) p) + x_b (vin V p) = nI (x_cnt (vin V) (p + 1)) := by
        show nI (x_cnt (vin V) p) + (if vin V p = true then nI 1 else nI 0) = nI (x_cnt (vin V) p + if vin V p = true then 1 else 0)
        split
        · rw [nI_add]
        · exact Int32.add_zero _
      -- behind the place
      have behind : ∀ v : Int32, (vin V p = true → v = nI (x_cnt (vin V) p % vc V)) → Rx (d + 2) m_Md_goStart Q 37 [some (.ref 157), some (.int (nI (x_cnt (vin V) p))), some (.int (nI p))] [.int v, .int (nI 3), .int (nI p), .ref 157] g' := by
        intro v hv
        refine r_inv rfl rfl rfl ?_
        refine m_lays (d + 1) p 3 _ _ _ (by omega) (by omega) ?_
        refine r_run 400 rfl rfl ?_
        refine r_inv rfl rfl rfl ?_
        refine m_of (d + 1) p 2 _ _ (by omega) (by omega) ?_
        refine r_to 4 60 rfl rfl ?_
        simp (disch := omega) only [x_up_o, x_up_n, x_up_e, fin]
        rw [e]
        simp only [nI_add]
        refine ih _ (fun q hq hi => ?_) (fun b h1 => ?_) (fun a ha => by rw [x_up_row ha]; exact a4 a ha)
        · by_cases eq : q = p
          · subst eq
            simp (disch := omega) only [x_up_o, x_up_n, x_up_e]
            exact hv hi
          · simp (disch := omega) only [x_up_o, x_up_n, x_up_e]
            exact a1 q (by omega) hi
        · have := h1 p hp
          simp (disch := omega) only [x_up_o, x_up_n, x_up_e]
          exact a3 b h1
      refine r_run 400 rfl rfl ?_
      refine r_ald (j := 2) rfl rfl rfl (by decide) (Nat.le_of_ble_eq_true rfl) ?_
      simp only [x_up_app, x_ce_app, x_ce_same, Nat.reduceAdd, Nat.reduceEqDiff, ↓reduceIte, Nat.reduceSub, Nat.reduceMul, reduceCtorEq, f 2 (by omega), w2]
      refine n_ige rfl (by omega) (by omega) (fun _ => by omega) (fun _ => ?_)
      refine r_run 400 rfl rfl ?_
      refine r_inv rfl rfl rfl ?_
      refine m_isIn d p (vin V p) g' _ (by omega) fin (fun hi => ?_) (fun hi => ?_)
      · refine t_eq1 rfl ?_
        refine r_run 400 rfl rfl ?_
        refine r_ald (j := 1) rfl rfl rfl (by decide) (Nat.le_of_ble_eq_true rfl) ?_
        simp only [x_up_app, x_ce_app, x_ce_same, Nat.reduceAdd, Nat.reduceEqDiff, ↓reduceIte, Nat.reduceSub, Nat.reduceMul, reduceCtorEq, f 1 (by omega), w1]
        refine n_rem rfl (by omega) (by omega) (by omega) ?_
        refine r_to 37 60 rfl rfl ?_
        exact behind _ (fun _ => rfl)
      · refine t_eq0 rfl ?_
        refine r_to 37 60 rfl rfl ?_
        exact behind _ (fun z => by rw [hi] at z; cases z)
  refine r_to 4 60 rfl rfl ?_
  exact loop1 0 (Nat.zero_le _) g (fun q hq => absurd hq (Nat.not_lt_zero _)) (fun _ _ => rfl) (fun _ _ => rfl)
set_option maxHeartbeats 4000000 in
theorem m_goBeat (d b : Nat) (V : xV) (P : Nat → Nat) (g : xG) (Q : xQ) (h : MG (g 158) V P) (v5 : vc V ≤ 16) (v6 : vn V ≤ 12) (hc1 : 1 ≤ vc V) (hst : ∀ p, p < vn V → vst V p ≤ 9) (hP : ∀ p, p < vn V → vin V p = true → P p < 16) (hph : vph V = 1) (hb : b ≤ 1000) (k : ∀ g' : xG, MG (g' 158) (vBeat V b) (fun p => (P p + vst V p * b) % vc V) → (∀ a, a ≠ 158 → g' a = g a) → Q (some (.int (nI (vbt V + b)))) g') : Cx (d + 3) i_Md_goBeat [.ref 157, .int (nI b)] g Q := by
  obtain ⟨⟨w0, w1, w2, w3, w4, w5, w6, w7, w9, w10, w11, w13, w16⟩, h2, h3, h4, h5⟩ := h
  refine r_cl (L0 := [some (.ref 157), some (.int (nI b)), none, none]) rfl (Or.inr ⟨_, _, _, rfl, rfl⟩) rfl rfl rfl ?_
  have loop : ∀ p, p ≤ vn V → ∀ (g' : xG) (l3 : Option Value), (∀ q, q < p → vin V q = true → g' 158 (65 + 9 * q + 3) = nI ((P q + vst V q * b) % vc V)) → (∀ q, q < vn V → g' 158 (65 + 9 * q + 6) = if q < p ∧ vin V q = true then vwa V q + nI (vst V q * b) else vwa V q) → g' 158 10 = x_sm (fun q => if q < p ∧ vin V q = true then vwa V q + nI (vst V q * b) else vwa V q) (vn V) → (∀ c, ¬ c = 10 → (∀ q, q < p → ¬ c = 65 + 9 * q + 3) → (∀ q, q < vn V → ¬ c = 65 + 9 * q + 6) → g' 158 c = g 158 c) → (∀ a, a ≠ 158 → g' a = g a) → Rx (d + 2) m_Md_goBeat Q 2 [some (.ref 157), some (.int (nI b)), some (.int (nI p)), l3] [] g' := by
    refine r_for ?_ ?_
    · intro g' l3 a1 a2 a3 a4 a5
      have f : ∀ c, c < 17 → ¬ c = 10 → g' 158 c = g 158 c := fun c hc h10 => a4 c h10 (fun q _ => by omega) (fun q _ => by omega)
      refine r_run 400 rfl rfl ?_
      refine r_ald (j := 2) rfl rfl rfl (by decide) (Nat.le_of_ble_eq_true rfl) ?_
      simp only [x_up_app, x_ce_app, x_ce_same, Nat.reduceAdd, Nat.reduceEqDiff, ↓reduceIte, Nat.reduceSub, Nat.reduceMul, reduceCtorEq, f 2 (by omega) (by omega), w2]
      refine n_ige rfl (by omega) (by omega) (fun _ => ?_) (fun h => by omega)
      refine r_run 400 rfl rfl ?_
      refine r_ald (j := 5) rfl rfl rfl (by decide) (Nat.le_of_ble_eq_true rfl) ?_
      simp only [x_up_app, x_ce_app, x_ce_same, Nat.reduceAdd, Nat.reduceEqDiff, ↓reduceIte, Nat.reduceSub, Nat.reduceMul, reduceCtorEq, f 5 (by omega) (by omega), w5]
      refine r_run 400 rfl rfl ?_
      simp only [x_up_app, x_ce_app, x_ce_same, Nat.reduceAdd, Nat.reduceEqDiff, ↓reduceIte, Nat.reduceSub, Nat.reduceMul, reduceCtorEq, nI_add]
      refine r_ast (j := 5) rfl rfl rfl (by decide) (Nat.le_of_ble_eq_true rfl) ?_
      refine r_run 400 rfl rfl ?_
      refine r_ald (j := 5) rfl rfl rfl (by decide) (Nat.le_of_ble_eq_true rfl) ?_
      simp only [x_up_app, x_ce_app, x_ce_same, Nat.reduceAdd, Nat.reduceEqDiff, ↓reduceIte, Nat.reduceSub, Nat.reduceMul, reduceCtorEq]
      refine r_run 400 rfl rfl ?_
      refine r_iret rfl rfl (k _ ⟨?_, fun j hj => ?_, fun p hp => ?_, h4, fun a w ha hw => ?_⟩ (fun a ha => ?_))
      · simp (disch := omega) only [x_up_o, x_up_n, x_up_e]
        rw [f 0 (by omega) (by omega), f 1 (by omega) (by omega), f 2 (by omega) (by omega), f 3 (by omega) (by omega), f 4 (by omega) (by omega), f 6 (by omega) (by omega), f 7 (by omega) (by omega), f 9 (by omega) (by omega), f 11 (by omega) (by omega), f 13 (by omega) (by omega), f 16 (by omega) (by omega)]
        refine ⟨w0, w1, w2, w3, w4, rfl, w6, w7, w9, ?_, w11, w13, w16⟩
        rw [a3]
        refine x_sm_congr _ (fun i hi => ?_)
        show _ = if vin V i = true then vwa V i + nI (vst V i * b) else vwa V i
        simp only [hi, true_and]
      · have hj : j < vc V := hj
        simp (disch := omega) only [x_up_o, x_up_n, x_up_e]
        rw [a4 _ (by omega) (fun q _ => by omega) (fun q _ => by omega), a4 _ (by omega) (fun q _ => by omega) (fun q _ => by omega), a4 _ (by omega) (fun q _ => by omega) (fun q _ => by omega)]
        exact h2 j hj
      · have hp : p < vn V := hp
        obtain ⟨z1, z2, z3, z4, z5, z6, z7, z8, z9⟩ := h3 p hp
        have f2 : ∀ i, i < 9 → ¬ i = 3 → ¬ i = 6 → g' 158 (65 + 9 * p + i) = g 158 (65 + 9 * p + i) := fun i hi h3 h6 => a4 _ (by omega) (fun q _ => by omega) (fun j _ => by omega)
        simp (disch := omega) only [x_up_o, x_up_n, x_up_e]
        rw [f2 0 (by omega) (by omega) (by omega), f2 1 (by omega) (by omega) (by omega), f2 2 (by omega) (by omega) (by omega), f2 4 (by omega) (by omega) (by omega), f2 5 (by omega) (by omega) (by omega), f2 7 (by omega) (by omega) (by omega), f2 8 (by omega) (by omega) (by omega), a2 p hp]
        refine ⟨z1, z2, z3, fun _ hi => a1 p hp hi, z5, z6, ?_, z8, z9⟩
        show _ = if vin V p = true then vwa V p + nI (vst V p * b) else vwa V p
        simp only [hp, true_and]
      · have ha : a < (vR V).1 := ha
        simp (disch := omega) only [x_up_o, x_up_n, x_up_e]
        rw [a4 _ (by omega) (fun q _ => by omega) (fun q _ => by omega)]
        exact h5 a w ha hw
      · rw [x_up_row ha]
        exact a5 a ha
    · intro p hp ih g' l3 a1 a2 a3 a4 a5
      have f : ∀ c, c < 17 → ¬ c = 10 → g' 158 c = g 158 c := fun c hc h10 => a4 c h10 (fun q _ => by omega) (fun q _ => by omega)
      obtain ⟨z1, z2, z3, z4, z5, z6, z7, z8, z9⟩ := h3 p hp
      have f2 : ∀ i, i < 9 → ¬ i = 6 → g' 158 (65 + 9 * p + i) = g 158 (65 + 9 * p + i) := fun i hi h6 => a4 _ (by omega) (fun q _ => by omega) (fun j _ => by omega)
      have hmul : vst V p * b ≤ 9 * 1000 := Nat.mul_le_mul (hst p hp) hb
      -- the walk: x; the place behind it: y
      have behind : ∀ x y : Int32, x = (if vin V p = true then nI (vst V p * b) else nI 0) → (vin V p = true → y = nI ((P p + vst V p * b) % vc V)) → Rx (d + 2) m_Md_goBeat Q 51 [some (.ref 157), some (.int (nI b)), some (.int (nI p)), some (.int x)] [.int y, .int (nI 3), .int (nI p), .ref 157] g' := by
        intro x y hx hy
        refine r_inv rfl rfl rfl ?_
        refine m_lays (d + 1) p 3 _ _ _ (by omega) (by omega) ?_
        refine r_run 400 rfl rfl ?_
        refine r_inv rfl rfl rfl ?_
        refine m_of (d + 1) p 6 _ _ (by omega) (by omega) ?_
        refine r_run 400 rfl rfl ?_
        refine r_inv rfl rfl rfl ?_
        refine m_lays (d + 1) p 6 _ _ _ (by omega) (by omega) ?_
        refine r_run 400 rfl rfl ?_
        refine r_ald (j := 10) rfl rfl rfl (by decide) (Nat.le_of_ble_eq_true rfl) ?_
        refine r_run 400 rfl rfl ?_
        refine r_ast (j := 10) rfl rfl rfl (by decide) (Nat.le_of_ble_eq_true rfl) ?_
        refine r_to 2 60 rfl rfl ?_
        simp only [nI_add, Nat.reduceAdd]
        simp (disch := omega) only [x_up_o, x_up_n, x_up_e, a2 p hp, a3]
        simp only [Nat.lt_irrefl, false_and, if_false]
        have hw : (if p < p + 1 ∧ vin V p = true then vwa V p + nI (vst V p * b) else vwa V p) = vwa V p + x := by
          rw [hx]
          by_cases hi : vin V p = true
          · rw [if_pos ⟨by omega, hi⟩, if_pos hi]
          · rw [if_neg (fun z => hi z.2), if_neg hi]
            exact (Int32.add_zero _).symm
        have hq : ∀ q, q ≠ p → (if q < p + 1 ∧ vin V q = true then vwa V q + nI (vst V q * b) else vwa V q) = (if q < p ∧ vin V q = true then vwa V q + nI (vst V q * b) else vwa V q) := by
          intro q hq
          have e : (q < p + 1 ∧ vin V q = true) = (q < p ∧ vin V q = true) := propext (by
            have : q < p + 1 ↔ q < p := by omega
            rw [this])
          simp only [e]
        refine ih _ _ (fun q hq hi => ?_) (fun q hqn => ?_) ?_ (fun c h1 h2 h3 => ?_) (fun a ha => by rw [x_up_row ha, x_up_row ha, x_up_row ha]; exact a5 a ha)
        · by_cases e : q = p
          · subst e
            simp (disch := omega) only [x_up_o, x_up_n, x_up_e]
            exact hy hi
          · simp (disch := omega) only [x_up_o, x_up_n, x_up_e]
            exact a1 q (by omega) hi
        · by_cases e : q = p
          · subst e
            rw [hw]
            simp (disch := omega) only [x_up_o, x_up_n, x_up_e]
          · rw [hq q e]
            simp (disch := omega) only [x_up_o, x_up_n, x_up_e]
            exact a2 q hqn
        · rw [x_sm_add (f' := fun q => if q < p + 1 ∧ vin V q = true then vwa V q + nI (vst V q * b) else vwa V q) (f := fun q => if q < p ∧ vin V q = true then vwa V q + nI (vst V q * b) else vwa V q) (p := p) (δ := x) (by
            rw [hw, if_neg (fun z => by omega)]) hq (vn V) hp]
          simp (disch := omega) only [x_up_o, x_up_n, x_up_e]
        · have := h2 p (by omega)
          have := h3 p hp
          simp (disch := omega) only [x_up_o, x_up_n, x_up_e]
          exact a4 c h1 (fun q hq => h2 q (by omega)) h3
      have place : ∀ x : Int32, x = (if vin V p = true then nI (vst V p * b) else nI 0) → Rx (d + 2) m_Md_goBeat Q 33 [some (.ref 157), some (.int (nI b)), some (.int (nI p)), some (.int x)] [] g' := by
        intro x hx
        refine r_run 400 rfl rfl ?_
        refine r_inv rfl rfl rfl ?_
        refine m_of (d + 1) p 3 _ _ (by omega) (by omega) ?_
        refine r_run 400 rfl rfl ?_
        refine r_ald (j := 1) rfl rfl rfl (by decide) (Nat.le_of_ble_eq_true rfl) ?_
        simp only [x_up_app, x_ce_app, x_ce_same, Nat.reduceAdd, Nat.reduceEqDiff, ↓reduceIte, Nat.reduceSub, Nat.reduceMul, reduceCtorEq, f 1 (by omega) (by omega), w1]
        by_cases hi : vin V p = true
        · rw [f2 3 (by omega) (by omega), z4 hph hi]
          have hx2 := hx
          rw [if_pos hi] at hx2
          subst hx2
          have hPp := hP p hp hi
          simp only [nI_add]
          refine n_rem rfl (by omega) (by omega) (by omega) ?_
          exact behind _ _ hx (fun _ => rfl)
        · refine r_rem rfl (nI_ne0 (by omega) (by omega)) ?_
          exact behind _ _ hx (fun z => absurd z hi)
      refine r_run 400 rfl rfl ?_
      refine r_ald (j := 2) rfl rfl rfl (by decide) (Nat.le_of_ble_eq_true rfl) ?_
      simp only [x_up_app, x_ce_app, x_ce_same, Nat.reduceAdd, Nat.reduceEqDiff, ↓reduceIte, Nat.reduceSub, Nat.reduceMul, reduceCtorEq, f 2 (by omega) (by omega), w2]
      refine n_ige rfl (by omega) (by omega) (fun _ => by omega) (fun _ => ?_)
      refine r_run 400 rfl rfl ?_
      refine r_inv rfl rfl rfl ?_
      refine m_isIn d p (vin V p) g' _ (by omega) (by rw [f2 2 (by omega) (by omega)]; exact z3) (fun hi => ?_) (fun hi => ?_)
      · refine t_eq1 rfl ?_
        refine r_run 400 rfl rfl ?_
        refine r_inv rfl rfl rfl ?_
        refine m_of (d + 1) p 0 _ _ (by omega) (by omega) ?_
        rw [f2 0 (by omega) (by omega), z1]
        refine r_to 33 60 rfl rfl ?_
        simp only [pk_mul]
        refine place _ ?_
        rw [if_pos hi, Nat.mul_comm]
      · refine t_eq0 rfl ?_
        refine r_to 33 60 rfl rfl ?_
        refine place _ ?_
        rw [hi]
        rfl
  refine r_to 2 60 rfl rfl ?_
  refine loop 0 (Nat.zero_le _) g none (fun q hq => absurd hq (Nat.not_lt_zero _)) (fun q hq => ?_) ?_ (fun _ _ _ _ => rfl) (fun _ _ => rfl)
  · rw [if_neg (fun z => by omega)]
    exact (h3 q hq).2.2.2.2.2.2.1
  · rw [w10]
    exact x_sm_congr _ (fun i hi => (if_neg (fun z => by omega)).symm)
