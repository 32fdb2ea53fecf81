/-! ===== the reference's row holds a state ===== -/
theorem x_up_o {g : xG} {k j a b : Nat} {x : Int32} (h : a ≠ k) : x_up g k j x a b = g a b := by
  rw [x_up_app, if_neg h]
theorem x_up_n {g : xG} {k j b : Nat} {x : Int32} (h : b ≠ j) : x_up g k j x k b = g k b := by
  rw [x_up_app, if_pos rfl, if_neg h]
theorem x_up_e {g : xG} {k j b : Nat} {x : Int32} (h : b = j) : x_up g k j x k b = x := by
  rw [x_up_app, if_pos rfl, if_pos h]
def x_o1 : Option Nat → Int32
  | none => nI 0
  | some q => nI (q + 1)
def x_b (b : Bool) : Int32 := if b = true then nI 1 else nI 0
def MG (f : Nat → Int32) (V : xV) (P : Nat → Nat) : Prop :=
  (f 0 = nI (vph V) ∧ f 1 = nI (vc V) ∧ f 2 = nI (vn V) ∧ f 3 = nI (vfw V) ∧ f 4 = vrd V ∧ f 5 = nI (vbt V) ∧ f 6 = x_sm (vss V) (vn V) ∧ f 7 = x_sm (vbu V) (vn V) ∧ f 9 = vlo V ∧ f 10 = x_sm (vwa V) (vn V) ∧ f 11 = vtk V ∧ f 13 = nI (vR V).1 ∧ f 16 = vtg V) ∧
  (∀ j, j < vc V → f (17 + 3 * j + 0) = nI (vtn V j) ∧ f (17 + 3 * j + 1) = vsa V j ∧ f (17 + 3 * j + 2) = x_o1 (vsi V j)) ∧
  (∀ p, p < vn V → f (65 + 9 * p + 0) = nI (vst V p) ∧ f (65 + 9 * p + 1) = nI (vea V p) ∧ f (65 + 9 * p + 2) = x_b (vin V p) ∧ (vph V = 1 → vin V p = true → f (65 + 9 * p + 3) = nI (P p)) ∧ f (65 + 9 * p + 4) = vss V p ∧ f (65 + 9 * p + 5) = vbu V p ∧ f (65 + 9 * p + 6) = vwa V p ∧ f (65 + 9 * p + 7) = vou V p ∧ f (65 + 9 * p + 8) = nI (vti V p)) ∧
  ((vR V).1 ≤ 12 ∧ ∀ a w, a < (vR V).1 → w < 5 → f (173 + 5 * a + w) = (vR V).2 a w)
theorem MG_eq {f f' : Nat → Int32} {V : xV} {P : Nat → Nat} (hk : vc V ≤ 16 ∧ vn V ≤ 12) (h : MG f V P) (e : ∀ k, k < 233 → f' k = f k) : MG f' V P := by
  obtain ⟨h1, h2, h3, h4, h5⟩ := h
  refine ⟨?_, fun j hj => ?_, fun p hp => ?_, h4, fun a w ha hw => ?_⟩
  · rw [e 0 (by omega), e 1 (by omega), e 2 (by omega), e 3 (by omega), e 4 (by omega), e 5 (by omega), e 6 (by omega), e 7 (by omega), e 9 (by omega), e 10 (by omega), e 11 (by omega), e 13 (by omega), e 16 (by omega)]
    exact h1
  · rw [e _ (by omega), e _ (by omega), e _ (by omega)]
    exact h2 j hj
  · rw [e _ (by omega), e _ (by omega), e _ (by omega), e (65 + 9 * p + 3) (by omega), e _ (by omega), e _ (by omega), e _ (by omega), e _ (by omega), e _ (by omega)]
    exact h3 p hp
  · rw [e _ (by omega)]
    exact h5 a w ha hw
theorem x_sm_0 {f f' : Nat → Int32} {n : Nat} (h : ∀ i, i < n → f i = f' i) (h0 : f n = nI 0) : x_sm f (n + 1) = x_sm f' n := by
  show x_sm f n + f n = _
  rw [h0, x_sm_congr n h]
  exact Int32.add_zero _
set_option maxHeartbeats 4000000 in
theorem m_goChair (d : Nat) (V : xV) (P : Nat → Nat) (t : Int32) (g : xG) (Q : xQ) (h : MG (g 158) V P) (hc : vc V < 16) (hn : vn V ≤ 12) (k : ∀ g' : xG, MG (g' 158) (vChair V (iN t)) P → (∀ a, a ≠ 158 → g' a = g a) → Q (some (.int (nI (vc V)))) g') : Cx (d + 2) i_Md_goChair [.ref 157, .int t] g Q := by
  obtain ⟨⟨w0, w1, w2, w3, w4, w5, w6, w7, w9, w10, w11, w13, w16⟩, h2, h3, h4, h5⟩ := h
  refine r_cl (L0 := [some (.ref 157), some (.int t)]) rfl (Or.inr ⟨_, _, _, rfl, rfl⟩) rfl rfl rfl ?_
  refine r_run 400 rfl rfl ?_
  refine r_ald (j := 1) rfl rfl rfl (by decide) (Nat.le_of_ble_eq_true rfl) ?_
  simp only [x_up_app, x_ce_app, x_ce_same, Nat.reduceAdd, Nat.reduceEqDiff, ↓reduceIte, Nat.reduceSub, Nat.reduceMul, reduceCtorEq, w1]
  refine r_run 400 rfl rfl ?_
  refine r_inv rfl rfl rfl ?_
  refine m_laysChair d (vc V) 0 _ _ _ hc (by omega) ?_
  refine r_run 400 rfl rfl ?_
  refine r_ald (j := 1) rfl rfl rfl (by decide) (Nat.le_of_ble_eq_true rfl) ?_
  simp only [Nat.reduceAdd]
  simp (disch := omega) only [x_up_o, x_up_n, x_up_e, w1]
  refine r_run 400 rfl rfl ?_
  refine r_inv rfl rfl rfl ?_
  refine m_laysChair d (vc V) 1 _ _ _ hc (by omega) ?_
  refine r_run 400 rfl rfl ?_
  refine r_ald (j := 1) rfl rfl rfl (by decide) (Nat.le_of_ble_eq_true rfl) ?_
  simp only [Nat.reduceAdd]
  simp (disch := omega) only [x_up_o, x_up_n, x_up_e, w1]
  refine r_run 400 rfl rfl ?_
  refine r_inv rfl rfl rfl ?_
  refine m_laysChair d (vc V) 2 _ _ _ hc (by omega) ?_
  refine r_run 400 rfl rfl ?_
  refine r_ald (j := 1) rfl rfl rfl (by decide) (Nat.le_of_ble_eq_true rfl) ?_
  simp only [Nat.reduceAdd]
  simp (disch := omega) only [x_up_o, x_up_n, x_up_e, w1]
  refine r_run 400 rfl rfl ?_
  refine r_ast (j := 1) rfl rfl rfl (by decide) (Nat.le_of_ble_eq_true rfl) ?_
  refine r_run 400 rfl rfl ?_
  refine r_ald (j := 1) rfl rfl rfl (by decide) (Nat.le_of_ble_eq_true rfl) ?_
  simp only [Nat.reduceAdd]
  simp (disch := omega) only [x_up_o, x_up_n, x_up_e, nI_add]
  refine r_run 400 rfl rfl ?_
  rw [pk_sub (by omega), show vc V + 1 - 1 = vc V by omega]
  refine r_iret rfl rfl (k _ ⟨?_, fun j hj => ?_, fun p hp => ?_, h4, fun a w ha hw => ?_⟩ (fun a ha => ?_))
  · simp (disch := omega) only [x_up_o, x_up_n, x_up_e]
    exact ⟨w0, rfl, w2, w3, w4, w5, w6, w7, w9, w10, w11, w13, w16⟩
  · have hj : j < vc V + 1 := hj
    show _ = nI (if j = vc V then iN t else vtn V j) ∧ _ = (if j = vc V then nI 0 else vsa V j) ∧ _ = x_o1 (if j = vc V then none else vsi V j)
    by_cases e : j = vc V
    · subst e
      rw [if_pos rfl, if_pos rfl, if_pos rfl, nI_iN]
      simp (disch := omega) only [x_up_o, x_up_n, x_up_e]
      exact ⟨trivial, trivial, rfl⟩
    · rw [if_neg e, if_neg e, if_neg e]
      simp (disch := omega) only [x_up_o, x_up_n, x_up_e]
      exact h2 j (by omega)
  · have hp : p < vn V := hp
    have z := h3 p hp
    simp (disch := omega) only [x_up_o, x_up_n, x_up_e]
    exact z
  · have ha : a < (vR V).1 := ha
    simp (disch := omega) only [x_up_o, x_up_n, x_up_e]
    exact h5 a w ha hw
  · repeat rw [x_up_row ha]
