/-! ===== the reference: errors, copies, the states kept ===== -/
set_option maxHeartbeats 4000000 in
theorem m_errorChair (d : Nat) (V : xV) (P : Nat → Nat) (t : Int32) (g : xG) (Q : xQ) (h : MG (g 158) V P) (v1 : vph V ≤ 2) (v5 : vc V ≤ 16) (k : Q (some (.int (eChair V t))) g) : Cx (d + 2) i_Md_errorChair [.ref 157, .int t] g Q := by
  obtain ⟨⟨w0, w1, -⟩, -⟩ := h
  unfold eChair at k
  refine r_cl (L0 := [some (.ref 157), some (.int t)]) rfl (Or.inr ⟨_, _, _, rfl, rfl⟩) rfl rfl rfl ?_
  refine r_run 400 rfl rfl ?_
  refine r_ins rfl rfl rfl rfl rfl ?_
  refine m_in d t (nI 0) (nI 8) g _ (fun h1 h2 => ?_) (fun h => ?_)
  · rw [if_pos ⟨h1, h2⟩] at k
    refine t_ne1 rfl ?_
    refine r_run 400 rfl rfl ?_
    refine r_ald (j := 0) rfl rfl rfl (by decide) (Nat.le_of_ble_eq_true rfl) ?_
    simp only [x_up_app, x_ce_app, x_ce_same, Nat.reduceAdd, Nat.reduceEqDiff, ↓reduceIte, Nat.reduceSub, Nat.reduceMul, reduceCtorEq, w0]
    refine r_eq0 rfl (fun z => ?_) (fun z => ?_)
    · have z : vph V = 0 := (nI_eq (b := 0) (by omega) (by omega)).mp z
      rw [if_pos z] at k
      refine r_run 400 rfl rfl ?_
      refine r_ald (j := 1) rfl rfl rfl (by decide) (Nat.le_of_ble_eq_true rfl) ?_
      refine r_run 400 rfl rfl ?_
      simp only [x_up_app, x_ce_app, x_ce_same, Nat.reduceAdd, Nat.reduceEqDiff, ↓reduceIte, Nat.reduceSub, Nat.reduceMul, reduceCtorEq, w1]
      refine n_ine rfl (by omega) (by omega) (fun z => ?_) (fun z => ?_)
      · rw [if_neg z] at k
        refine r_run 400 rfl rfl ?_
        exact r_iret rfl rfl k
      · rw [if_pos z] at k
        refine r_run 400 rfl rfl ?_
        exact r_iret rfl rfl k
    · rw [if_neg (fun e => z (by rw [e]; rfl))] at k
      refine r_run 400 rfl rfl ?_
      exact r_iret rfl rfl k
  · rw [if_neg h] at k
    refine t_ne0 rfl ?_
    refine r_run 400 rfl rfl ?_
    exact r_iret rfl rfl k
set_option maxHeartbeats 4000000 in
theorem m_errorPlayer (d : Nat) (V : xV) (P : Nat → Nat) (s e : Int32) (g : xG) (Q : xQ) (h : MG (g 158) V P) (v1 : vph V ≤ 2) (v6 : vn V ≤ 12) (k : Q (some (.int (ePlayer V s e))) g) : Cx (d + 2) i_Md_errorPlayer [.ref 157, .int s, .int e] g Q := by
  obtain ⟨⟨w0, w1, w2, -⟩, -⟩ := h
  unfold ePlayer at k
  refine r_cl (L0 := [some (.ref 157), some (.int s), some (.int e)]) rfl (Or.inr ⟨_, _, _, rfl, rfl⟩) rfl rfl rfl ?_
  refine r_run 400 rfl rfl ?_
  refine r_ins rfl rfl rfl rfl rfl ?_
  refine m_in d s (nI 0) (nI 9) g _ (fun h1 h2 => ?_) (fun h => ?_)
  · refine t_eq1 rfl ?_
    refine r_run 400 rfl rfl ?_
    refine r_ins rfl rfl rfl rfl rfl ?_
    refine m_in d e (nI 0) (nI 511) g _ (fun h3 h4 => ?_) (fun h => ?_)
    · rw [if_pos ⟨⟨h1, h2⟩, h3, h4⟩] at k
      refine t_ne1 rfl ?_
      refine r_run 400 rfl rfl ?_
      refine r_ald (j := 0) rfl rfl rfl (by decide) (Nat.le_of_ble_eq_true rfl) ?_
      simp only [x_up_app, x_ce_app, x_ce_same, Nat.reduceAdd, Nat.reduceEqDiff, ↓reduceIte, Nat.reduceSub, Nat.reduceMul, reduceCtorEq, w0]
      refine r_eq0 rfl (fun z => ?_) (fun z => ?_)
      · have z : vph V = 0 := (nI_eq (b := 0) (by omega) (by omega)).mp z
        rw [if_pos z] at k
        refine r_run 400 rfl rfl ?_
        refine r_ald (j := 2) rfl rfl rfl (by decide) (Nat.le_of_ble_eq_true rfl) ?_
        refine r_run 400 rfl rfl ?_
        simp only [x_up_app, x_ce_app, x_ce_same, Nat.reduceAdd, Nat.reduceEqDiff, ↓reduceIte, Nat.reduceSub, Nat.reduceMul, reduceCtorEq, w2]
        refine n_ine rfl (by omega) (by omega) (fun z => ?_) (fun z => ?_)
        · rw [if_neg z] at k
          refine r_run 400 rfl rfl ?_
          exact r_iret rfl rfl k
        · rw [if_pos z] at k
          refine r_run 400 rfl rfl ?_
          exact r_iret rfl rfl k
      · rw [if_neg (fun e => z (by rw [e]; rfl))] at k
        refine r_run 400 rfl rfl ?_
        exact r_iret rfl rfl k
    · rw [if_neg (fun z => h z.2)] at k
      refine t_ne0 rfl ?_
      refine r_run 400 rfl rfl ?_
      exact r_iret rfl rfl k
  · rw [if_neg (fun z => h z.1)] at k
    refine t_eq0 rfl ?_
    refine r_run 400 rfl rfl ?_
    exact r_iret rfl rfl k
set_option maxHeartbeats 4000000 in
theorem m_errorStart (d : Nat) (V : xV) (P : Nat → Nat) (g : xG) (Q : xQ) (h : MG (g 158) V P) (v1 : vph V ≤ 2) (v5 : vc V ≤ 16) (v6 : vn V ≤ 12) (k : Q (some (.int (eStart V))) g) : Cx (d + 3) i_Md_errorStart [.ref 157] g Q := by
  obtain ⟨⟨w0, w1, w2, -⟩, -, h3, -⟩ := h
  have hcn := x_cnt_le (vin V) (vn V)
  have bad : ¬ (vph V = 0 ∧ 1 ≤ vc V ∧ vc V < x_cnt (vin V) (vn V)) → Rx (d + 2) m_Md_errorStart Q 31 [some (.ref 157)] [] g := by
    intro hno
    unfold eStart at k
    rw [if_neg hno] at k
    refine r_run 400 rfl rfl ?_
    exact r_iret rfl rfl k
  refine r_cl (L0 := [some (.ref 157)]) rfl (Or.inr ⟨_, _, _, rfl, rfl⟩) rfl rfl rfl ?_
  refine r_run 400 rfl rfl ?_
  refine r_ald (j := 0) rfl rfl rfl (by decide) (Nat.le_of_ble_eq_true rfl) ?_
  simp only [x_up_app, x_ce_app, x_ce_same, Nat.reduceAdd, Nat.reduceEqDiff, ↓reduceIte, Nat.reduceSub, Nat.reduceMul, reduceCtorEq, w0]
  refine r_ne0 rfl (fun z => bad (fun y => z (by rw [y.1]; rfl))) (fun z => ?_)
  have z : vph V = 0 := (nI_eq (b := 0) (by omega) (by omega)).mp z
  refine r_run 400 rfl rfl ?_
  refine r_ald (j := 1) rfl rfl rfl (by decide) (Nat.le_of_ble_eq_true rfl) ?_
  simp only [x_up_app, x_ce_app, x_ce_same, Nat.reduceAdd, Nat.reduceEqDiff, ↓reduceIte, Nat.reduceSub, Nat.reduceMul, reduceCtorEq, w1]
  refine r_eq0 rfl (fun y => bad (fun x => by have := (nI_eq (b := 0) (by omega) (by omega)).mp y; omega)) (fun y => ?_)
  have y : ¬ vc V = 0 := fun e => y (by rw [e]; rfl)
  refine r_run 400 rfl rfl ?_
  refine r_inv rfl rfl rfl ?_
  refine m_inPlay d (vn V) (vin V) g _ w2 v6 (fun p hp => (h3 p hp).2.2.1) ?_
  refine r_run 400 rfl rfl ?_
  refine r_ald (j := 1) rfl rfl rfl (by decide) (Nat.le_of_ble_eq_true rfl) ?_
  simp only [x_up_app, x_ce_app, x_ce_same, Nat.reduceAdd, Nat.reduceEqDiff, ↓reduceIte, Nat.reduceSub, Nat.reduceMul, reduceCtorEq, w1]
  refine n_igt rfl (by omega) (by omega) (fun x => ?_) (fun x => bad (fun u => by omega))
  unfold eStart at k
  rw [if_pos ⟨z, by omega, x⟩] at k
  refine r_run 400 rfl rfl ?_
  exact r_iret rfl rfl k
set_option maxHeartbeats 4000000 in
theorem m_errorBeat (d : Nat) (V : xV) (P : Nat → Nat) (b : Int32) (g : xG) (Q : xQ) (h : MG (g 158) V P) (v1 : vph V ≤ 2) (v4 : vbt V ≤ 999) (k : Q (some (.int (eBeat V b))) g) : Cx (d + 2) i_Md_errorBeat [.ref 157, .int b] g Q := by
  obtain ⟨⟨w0, w1, w2, w3, w4, w5, -⟩, -⟩ := h
  unfold eBeat at k
  refine r_cl (L0 := [some (.ref 157), some (.int b)]) rfl (Or.inr ⟨_, _, _, rfl, rfl⟩) rfl rfl rfl ?_
  refine r_run 400 rfl rfl ?_
  refine r_ins rfl rfl rfl rfl rfl ?_
  refine m_in d b (nI 1) (nI 99) g _ (fun h1 h2 => ?_) (fun h => ?_)
  · rw [if_pos ⟨h1, h2⟩] at k
    obtain ⟨j, rfl, hj1, hj2⟩ := x_in_nat (by omega) (by omega) h1 h2
    rw [iN_nI (by omega)] at k
    refine t_ne1 rfl ?_
    refine r_run 400 rfl rfl ?_
    refine r_ald (j := 0) rfl rfl rfl (by decide) (Nat.le_of_ble_eq_true rfl) ?_
    refine r_run 400 rfl rfl ?_
    simp only [x_up_app, x_ce_app, x_ce_same, Nat.reduceAdd, Nat.reduceEqDiff, ↓reduceIte, Nat.reduceSub, Nat.reduceMul, reduceCtorEq, w0]
    refine n_ieq rfl (by omega) (by omega) (fun z => ?_) (fun z => ?_)
    · rw [if_pos z] at k
      refine r_run 400 rfl rfl ?_
      refine r_ald (j := 5) rfl rfl rfl (by decide) (Nat.le_of_ble_eq_true rfl) ?_
      refine r_run 400 rfl rfl ?_
      simp only [x_up_app, x_ce_app, x_ce_same, Nat.reduceAdd, Nat.reduceEqDiff, ↓reduceIte, Nat.reduceSub, Nat.reduceMul, reduceCtorEq, w5, nI_add]
      refine n_ile rfl (by omega) (by omega) (fun z => ?_) (fun z => ?_)
      · rw [if_pos z] at k
        refine r_run 400 rfl rfl ?_
        exact r_iret rfl rfl k
      · rw [if_neg (by omega)] at k
        refine r_run 400 rfl rfl ?_
        exact r_iret rfl rfl k
    · rw [if_neg z] at k
      refine r_run 400 rfl rfl ?_
      exact r_iret rfl rfl k
  · rw [if_neg h] at k
    refine t_ne0 rfl ?_
    refine r_run 400 rfl rfl ?_
    exact r_iret rfl rfl k
set_option maxHeartbeats 4000000 in
theorem m_copies_158_161 (d a b : Nat) (g : xG) (Q : xQ) (ha : a + 233 ≤ 233) (hb : b + 233 ≤ 932) (k : ∀ g' : xG, (∀ i, i < 233 → g' 161 (b + i) = g 158 (a + i)) → (∀ c, (c < b ∨ b + 233 ≤ c) → g' 161 c = g 161 c) → (∀ r, r ≠ 161 → g' r = g r) → Q none g') : Cx (d + 1) i_Md_copies [.ref 158, .int (nI a), .ref 161, .int (nI b)] g Q := by
  refine r_cl (L0 := [some (.ref 158), some (.int (nI a)), some (.ref 161), some (.int (nI b)), none]) rfl (Or.inl rfl) rfl rfl rfl ?_
  have loop : ∀ i, i ≤ 233 → ∀ g' : xG, (∀ j, j < i → g' 161 (b + j) = g 158 (a + j)) → (∀ c, (c < b ∨ b + i ≤ c) → g' 161 c = g 161 c) → (∀ r, r ≠ 161 → g' r = g r) → Rx d m_Md_copies Q 3 [some (.ref 158), some (.int (nI a)), some (.ref 161), some (.int (nI b)), some (.int (nI i))] [] g' := by
    refine r_for ?_ ?_
    · intro g' a1 a2 a3
      refine r_run 400 rfl rfl ?_
      refine n_ige rfl (by omega) (by omega) (fun _ => ?_) (fun h => by omega)
      refine r_run 400 rfl rfl ?_
      exact r_ret rfl rfl (k g' a1 a2 a3)
    · intro i hi ih g' a1 a2 a3
      refine r_run 400 rfl rfl ?_
      refine n_ige rfl (by omega) (by omega) (fun _ => by omega) (fun _ => ?_)
      refine r_run 400 rfl rfl ?_
      simp only [nI_add]
      refine r_ald (j := a + i) rfl rfl rfl (by omega) (Nat.le_of_ble_eq_true rfl) ?_
      refine r_ast (j := b + i) rfl rfl rfl (by omega) (Nat.le_of_ble_eq_true rfl) ?_
      refine r_to 3 60 rfl rfl ?_
      simp only [nI_add, Nat.reduceAdd]
      refine ih _ (fun j hj => ?_) (fun c hc => ?_) (fun r hr => ?_)
      · by_cases e : j = i
        · subst e
          rw [x_up_e rfl, a3 158 (by decide)]
        · rw [x_up_n (by omega)]
          exact a1 j (by omega)
      · rw [x_up_n (by omega)]
        exact a2 c (by omega)
      · rw [x_up_row hr]
        exact a3 r hr
  refine r_to 3 60 rfl rfl ?_
  exact loop 0 (Nat.zero_le _) g (fun j hj => absurd hj (Nat.not_lt_zero _)) (fun _ _ => rfl) (fun _ _ => rfl)
set_option maxHeartbeats 4000000 in
theorem m_copies_161_158 (d a b : Nat) (g : xG) (Q : xQ) (ha : a + 233 ≤ 932) (hb : b + 233 ≤ 233) (k : ∀ g' : xG, (∀ i, i < 233 → g' 158 (b + i) = g 161 (a + i)) → (∀ c, (c < b ∨ b + 233 ≤ c) → g' 158 c = g 158 c) → (∀ r, r ≠ 158 → g' r = g r) → Q none g') : Cx (d + 1) i_Md_copies [.ref 161, .int (nI a), .ref 158, .int (nI b)] g Q := by
  refine r_cl (L0 := [some (.ref 161), some (.int (nI a)), some (.ref 158), some (.int (nI b)), none]) rfl (Or.inl rfl) rfl rfl rfl ?_
  have loop : ∀ i, i ≤ 233 → ∀ g' : xG, (∀ j, j < i → g' 158 (b + j) = g 161 (a + j)) → (∀ c, (c < b ∨ b + i ≤ c) → g' 158 c = g 158 c) → (∀ r, r ≠ 158 → g' r = g r) → Rx d m_Md_copies Q 3 [some (.ref 161), some (.int (nI a)), some (.ref 158), some (.int (nI b)), some (.int (nI i))] [] g' := by
    refine r_for ?_ ?_
    · intro g' a1 a2 a3
      refine r_run 400 rfl rfl ?_
      refine n_ige rfl (by omega) (by omega) (fun _ => ?_) (fun h => by omega)
      refine r_run 400 rfl rfl ?_
      exact r_ret rfl rfl (k g' a1 a2 a3)
    · intro i hi ih g' a1 a2 a3
      refine r_run 400 rfl rfl ?_
      refine n_ige rfl (by omega) (by omega) (fun _ => by omega) (fun _ => ?_)
      refine r_run 400 rfl rfl ?_
      simp only [nI_add]
      refine r_ald (j := a + i) rfl rfl rfl (by omega) (Nat.le_of_ble_eq_true rfl) ?_
      refine r_ast (j := b + i) rfl rfl rfl (by omega) (Nat.le_of_ble_eq_true rfl) ?_
      refine r_to 3 60 rfl rfl ?_
      simp only [nI_add, Nat.reduceAdd]
      refine ih _ (fun j hj => ?_) (fun c hc => ?_) (fun r hr => ?_)
      · by_cases e : j = i
        · subst e
          rw [x_up_e rfl, a3 161 (by decide)]
        · rw [x_up_n (by omega)]
          exact a1 j (by omega)
      · rw [x_up_n (by omega)]
        exact a2 c (by omega)
      · rw [x_up_row hr]
        exact a3 r hr
  refine r_to 3 60 rfl rfl ?_
  exact loop 0 (Nat.zero_le _) g (fun j hj => absurd hj (Nat.not_lt_zero _)) (fun _ _ => rfl) (fun _ _ => rfl)
set_option maxHeartbeats 4000000 in
theorem m_copies_158_159 (d a b : Nat) (g : xG) (Q : xQ) (ha : a + 233 ≤ 233) (hb : b + 233 ≤ 233) (k : ∀ g' : xG, (∀ i, i < 233 → g' 159 (b + i) = g 158 (a + i)) → (∀ c, (c < b ∨ b + 233 ≤ c) → g' 159 c = g 159 c) → (∀ r, r ≠ 159 → g' r = g r) → Q none g') : Cx (d + 1) i_Md_copies [.ref 158, .int (nI a), .ref 159, .int (nI b)] g Q := by
  refine r_cl (L0 := [some (.ref 158), some (.int (nI a)), some (.ref 159), some (.int (nI b)), none]) rfl (Or.inl rfl) rfl rfl rfl ?_
  have loop : ∀ i, i ≤ 233 → ∀ g' : xG, (∀ j, j < i → g' 159 (b + j) = g 158 (a + j)) → (∀ c, (c < b ∨ b + i ≤ c) → g' 159 c = g 159 c) → (∀ r, r ≠ 159 → g' r = g r) → Rx d m_Md_copies Q 3 [some (.ref 158), some (.int (nI a)), some (.ref 159), some (.int (nI b)), some (.int (nI i))] [] g' := by
    refine r_for ?_ ?_
    · intro g' a1 a2 a3
      refine r_run 400 rfl rfl ?_
      refine n_ige rfl (by omega) (by omega) (fun _ => ?_) (fun h => by omega)
      refine r_run 400 rfl rfl ?_
      exact r_ret rfl rfl (k g' a1 a2 a3)
    · intro i hi ih g' a1 a2 a3
      refine r_run 400 rfl rfl ?_
      refine n_ige rfl (by omega) (by omega) (fun _ => by omega) (fun _ => ?_)
      refine r_run 400 rfl rfl ?_
      simp only [nI_add]
      refine r_ald (j := a + i) rfl rfl rfl (by omega) (Nat.le_of_ble_eq_true rfl) ?_
      refine r_ast (j := b + i) rfl rfl rfl (by omega) (Nat.le_of_ble_eq_true rfl) ?_
      refine r_to 3 60 rfl rfl ?_
      simp only [nI_add, Nat.reduceAdd]
      refine ih _ (fun j hj => ?_) (fun c hc => ?_) (fun r hr => ?_)
      · by_cases e : j = i
        · subst e
          rw [x_up_e rfl, a3 158 (by decide)]
        · rw [x_up_n (by omega)]
          exact a1 j (by omega)
      · rw [x_up_n (by omega)]
        exact a2 c (by omega)
      · rw [x_up_row hr]
        exact a3 r hr
  refine r_to 3 60 rfl rfl ?_
  exact loop 0 (Nat.zero_le _) g (fun j hj => absurd hj (Nat.not_lt_zero _)) (fun _ _ => rfl) (fun _ _ => rfl)
set_option maxHeartbeats 4000000 in
theorem m_copies_159_158 (d a b : Nat) (g : xG) (Q : xQ) (ha : a + 233 ≤ 233) (hb : b + 233 ≤ 233) (k : ∀ g' : xG, (∀ i, i < 233 → g' 158 (b + i) = g 159 (a + i)) → (∀ c, (c < b ∨ b + 233 ≤ c) → g' 158 c = g 158 c) → (∀ r, r ≠ 158 → g' r = g r) → Q none g') : Cx (d + 1) i_Md_copies [.ref 159, .int (nI a), .ref 158, .int (nI b)] g Q := by
  refine r_cl (L0 := [some (.ref 159), some (.int (nI a)), some (.ref 158), some (.int (nI b)), none]) rfl (Or.inl rfl) rfl rfl rfl ?_
  have loop : ∀ i, i ≤ 233 → ∀ g' : xG, (∀ j, j < i → g' 158 (b + j) = g 159 (a + j)) → (∀ c, (c < b ∨ b + i ≤ c) → g' 158 c = g 158 c) → (∀ r, r ≠ 158 → g' r = g r) → Rx d m_Md_copies Q 3 [some (.ref 159), some (.int (nI a)), some (.ref 158), some (.int (nI b)), some (.int (nI i))] [] g' := by
    refine r_for ?_ ?_
    · intro g' a1 a2 a3
      refine r_run 400 rfl rfl ?_
      refine n_ige rfl (by omega) (by omega) (fun _ => ?_) (fun h => by omega)
      refine r_run 400 rfl rfl ?_
      exact r_ret rfl rfl (k g' a1 a2 a3)
    · intro i hi ih g' a1 a2 a3
      refine r_run 400 rfl rfl ?_
      refine n_ige rfl (by omega) (by omega) (fun _ => by omega) (fun _ => ?_)
      refine r_run 400 rfl rfl ?_
      simp only [nI_add]
      refine r_ald (j := a + i) rfl rfl rfl (by omega) (Nat.le_of_ble_eq_true rfl) ?_
      refine r_ast (j := b + i) rfl rfl rfl (by omega) (Nat.le_of_ble_eq_true rfl) ?_
      refine r_to 3 60 rfl rfl ?_
      simp only [nI_add, Nat.reduceAdd]
      refine ih _ (fun j hj => ?_) (fun c hc => ?_) (fun r hr => ?_)
      · by_cases e : j = i
        · subst e
          rw [x_up_e rfl, a3 159 (by decide)]
        · rw [x_up_n (by omega)]
          exact a1 j (by omega)
      · rw [x_up_n (by omega)]
        exact a2 c (by omega)
      · rw [x_up_row hr]
        exact a3 r hr
  refine r_to 3 60 rfl rfl ?_
  exact loop 0 (Nat.zero_le _) g (fun j hj => absurd hj (Nat.not_lt_zero _)) (fun _ _ => rfl) (fun _ _ => rfl)
set_option maxHeartbeats 4000000 in
theorem m_copies_158_160 (d a b : Nat) (g : xG) (Q : xQ) (ha : a + 233 ≤ 233) (hb : b + 233 ≤ 233) (k : ∀ g' : xG, (∀ i, i < 233 → g' 160 (b + i) = g 158 (a + i)) → (∀ c, (c < b ∨ b + 233 ≤ c) → g' 160 c = g 160 c) → (∀ r, r ≠ 160 → g' r = g r) → Q none g') : Cx (d + 1) i_Md_copies [.ref 158, .int (nI a), .ref 160, .int (nI b)] g Q := by
  refine r_cl (L0 := [some (.ref 158), some (.int (nI a)), some (.ref 160), some (.int (nI b)), none]) rfl (Or.inl rfl) rfl rfl rfl ?_
  have loop : ∀ i, i ≤ 233 → ∀ g' : xG, (∀ j, j < i → g' 160 (b + j) = g 158 (a + j)) → (∀ c, (c < b ∨ b + i ≤ c) → g' 160 c = g 160 c) → (∀ r, r ≠ 160 → g' r = g r) → Rx d m_Md_copies Q 3 [some (.ref 158), some (.int (nI a)), some (.ref 160), some (.int (nI b)), some (.int (nI i))] [] g' := by
    refine r_for ?_ ?_
    · intro g' a1 a2 a3
      refine r_run 400 rfl rfl ?_
      refine n_ige rfl (by omega) (by omega) (fun _ => ?_) (fun h => by omega)
      refine r_run 400 rfl rfl ?_
      exact r_ret rfl rfl (k g' a1 a2 a3)
    · intro i hi ih g' a1 a2 a3
      refine r_run 400 rfl rfl ?_
      refine n_ige rfl (by omega) (by omega) (fun _ => by omega) (fun _ => ?_)
      refine r_run 400 rfl rfl ?_
      simp only [nI_add]
      refine r_ald (j := a + i) rfl rfl rfl (by omega) (Nat.le_of_ble_eq_true rfl) ?_
      refine r_ast (j := b + i) rfl rfl rfl (by omega) (Nat.le_of_ble_eq_true rfl) ?_
      refine r_to 3 60 rfl rfl ?_
      simp only [nI_add, Nat.reduceAdd]
      refine ih _ (fun j hj => ?_) (fun c hc => ?_) (fun r hr => ?_)
      · by_cases e : j = i
        · subst e
          rw [x_up_e rfl, a3 158 (by decide)]
        · rw [x_up_n (by omega)]
          exact a1 j (by omega)
      · rw [x_up_n (by omega)]
        exact a2 c (by omega)
      · rw [x_up_row hr]
        exact a3 r hr
  refine r_to 3 60 rfl rfl ?_
  exact loop 0 (Nat.zero_le _) g (fun j hj => absurd hj (Nat.not_lt_zero _)) (fun _ _ => rfl) (fun _ _ => rfl)
set_option maxHeartbeats 4000000 in
theorem m_copies_160_158 (d a b : Nat) (g : xG) (Q : xQ) (ha : a + 233 ≤ 233) (hb : b + 233 ≤ 233) (k : ∀ g' : xG, (∀ i, i < 233 → g' 158 (b + i) = g 160 (a + i)) → (∀ c, (c < b ∨ b + 233 ≤ c) → g' 158 c = g 158 c) → (∀ r, r ≠ 158 → g' r = g r) → Q none g') : Cx (d + 1) i_Md_copies [.ref 160, .int (nI a), .ref 158, .int (nI b)] g Q := by
  refine r_cl (L0 := [some (.ref 160), some (.int (nI a)), some (.ref 158), some (.int (nI b)), none]) rfl (Or.inl rfl) rfl rfl rfl ?_
  have loop : ∀ i, i ≤ 233 → ∀ g' : xG, (∀ j, j < i → g' 158 (b + j) = g 160 (a + j)) → (∀ c, (c < b ∨ b + i ≤ c) → g' 158 c = g 158 c) → (∀ r, r ≠ 158 → g' r = g r) → Rx d m_Md_copies Q 3 [some (.ref 160), some (.int (nI a)), some (.ref 158), some (.int (nI b)), some (.int (nI i))] [] g' := by
    refine r_for ?_ ?_
    · intro g' a1 a2 a3
      refine r_run 400 rfl rfl ?_
      refine n_ige rfl (by omega) (by omega) (fun _ => ?_) (fun h => by omega)
      refine r_run 400 rfl rfl ?_
      exact r_ret rfl rfl (k g' a1 a2 a3)
    · intro i hi ih g' a1 a2 a3
      refine r_run 400 rfl rfl ?_
      refine n_ige rfl (by omega) (by omega) (fun _ => by omega) (fun _ => ?_)
      refine r_run 400 rfl rfl ?_
      simp only [nI_add]
      refine r_ald (j := a + i) rfl rfl rfl (by omega) (Nat.le_of_ble_eq_true rfl) ?_
      refine r_ast (j := b + i) rfl rfl rfl (by omega) (Nat.le_of_ble_eq_true rfl) ?_
      refine r_to 3 60 rfl rfl ?_
      simp only [nI_add, Nat.reduceAdd]
      refine ih _ (fun j hj => ?_) (fun c hc => ?_) (fun r hr => ?_)
      · by_cases e : j = i
        · subst e
          rw [x_up_e rfl, a3 160 (by decide)]
        · rw [x_up_n (by omega)]
          exact a1 j (by omega)
      · rw [x_up_n (by omega)]
        exact a2 c (by omega)
      · rw [x_up_row hr]
        exact a3 r hr
  refine r_to 3 60 rfl rfl ?_
  exact loop 0 (Nat.zero_le _) g (fun j hj => absurd hj (Nat.not_lt_zero _)) (fun _ _ => rfl) (fun _ _ => rfl)
/-- the reference holds a whole state -/
def MS (g : xG) (T : xT) : Prop := MG (g 158) (tV T) (vpl (tV T)) ∧ g 157 4 = nI (tK T) ∧ (∀ a, a < tK T → MG (fun k => g 161 (233 * (tK T - 1 - a) + k)) (tH T a) (vpl (tH T a))) ∧ g 157 6 = nI (tL T) ∧ (∀ i, i < tL T → g 162 i = nI (tX T i))
set_option maxHeartbeats 4000000 in
theorem m_records (d : Nat) (T : xT) (g : xG) (Q : xQ) (h : MS g T) (hk : tOk T) (k : ∀ g' : xG, g' 157 4 = nI (min (tK T + 1) 4) → (∀ a, a < min (tK T + 1) 4 → MG (fun k => g' 161 (233 * (min (tK T + 1) 4 - 1 - a) + k)) (tPush (tV T) (tH T) a) (vpl (tPush (tV T) (tH T) a))) → (∀ j, j ≠ 4 → g' 157 j = g 157 j) → (∀ r, r ≠ 157 → r ≠ 161 → g' r = g r) → Q none g') : Cx (d + 2) i_Md_records [.ref 157] g Q := by
  obtain ⟨h1, h2, h3, h4, h5⟩ := h
  obtain ⟨hk1, hk2, hk3, -⟩ := hk
  have hv : ∀ a, a < tK T → vc (tH T a) ≤ 16 ∧ vn (tH T a) ≤ 12 := fun a ha => ⟨(hk3 a ha).1.2.2.2.2.1, (hk3 a ha).1.2.2.2.2.2⟩
  -- behind the shift: m states at the beginning of the row
  have rest : ∀ (m : Nat) (g' : xG), m < 4 → min (tK T + 1) 4 = m + 1 → g' 157 4 = nI m → (∀ a, a < m → ∀ i, i < 233 → g' 161 (233 * (m - 1 - a) + i) = g 161 (233 * (tK T - 1 - a) + i)) → (∀ j, j ≠ 4 → g' 157 j = g 157 j) → (∀ r, r ≠ 157 → r ≠ 161 → g' r = g r) → Rx (d + 1) m_Md_records Q 49 [some (.ref 157), none] [] g' ∧ ∀ x, Rx (d + 1) m_Md_records Q 49 [some (.ref 157), some x] [] g' := by
    intro m g' hm hm1 a1 a2 a3 a4
    have fin : ∀ l : Option Value, ∀ g2 : xG, (∀ i, i < 233 → g2 161 (233 * m + i) = g' 158 (0 + i)) → (∀ c, (c < 233 * m ∨ 233 * m + 233 ≤ c) → g2 161 c = g' 161 c) → (∀ r, r ≠ 161 → g2 r = g' r) → Rx (d + 1) m_Md_records Q 69 [some (.ref 157), l] [] g2 := by
      intro l g2 b1 b2 b3
      refine r_run 400 rfl rfl ?_
      refine r_ret rfl rfl (k _ ?_ (fun a ha => ?_) (fun j hj => ?_) (fun r h1 h2 => ?_))
      · simp only [x_up_app, x_ce_app, x_ce_same, Nat.reduceAdd, Nat.reduceEqDiff, ↓reduceIte, Nat.reduceSub, Nat.reduceMul, reduceCtorEq, b3 157 (by decide), a1, nI_add, hm1]
      · rw [hm1] at ha ⊢
        show MG _ (if a = 0 then tV T else tH T (a - 1)) (vpl (if a = 0 then tV T else tH T (a - 1)))
        by_cases e : a = 0
        · rw [if_pos e]
          subst e
          refine MG_eq ⟨hk1.1.2.2.2.2.1, hk1.1.2.2.2.2.2⟩ h1 (fun i hi => ?_)
          dsimp only
          rw [x_up_row (by decide), show m + 1 - 1 - 0 = m by omega, b1 i hi, Nat.zero_add, a4 158 (by decide) (by decide)]
        · rw [if_neg e]
          refine MG_eq (hv (a - 1) (by omega)) (h3 (a - 1) (by omega)) (fun i hi => ?_)
          dsimp only
          rw [x_up_row (by decide), show m + 1 - 1 - a = m - 1 - (a - 1) by omega, b2 _ (Or.inl (by
            have : 233 * (m - 1 - (a - 1)) + 233 ≤ 233 * m := by omega
            omega)), a2 (a - 1) (by omega) i hi]
      · simp only [x_up_app, x_ce_app, x_ce_same, Nat.reduceAdd, Nat.reduceEqDiff, ↓reduceIte, Nat.reduceSub, Nat.reduceMul, reduceCtorEq]
        rw [if_neg hj, b3 157 (by decide)]
        exact a3 j hj
      · rw [x_up_row h1, b3 r h2]
        exact a4 r h1 h2
    constructor
    · refine r_run 400 rfl rfl ?_
      simp only [x_up_app, x_ce_app, x_ce_same, Nat.reduceAdd, Nat.reduceEqDiff, ↓reduceIte, Nat.reduceSub, Nat.reduceMul, reduceCtorEq, a1, pk_mul]
      refine r_ins rfl rfl rfl rfl rfl ?_
      refine m_copies_158_161 d 0 (233 * m) g' _ (by omega) (by omega) (fun g2 b1 b2 b3 => ?_)
      exact fin _ g2 b1 b2 b3
    · intro x
      refine r_run 400 rfl rfl ?_
      simp only [x_up_app, x_ce_app, x_ce_same, Nat.reduceAdd, Nat.reduceEqDiff, ↓reduceIte, Nat.reduceSub, Nat.reduceMul, reduceCtorEq, a1, pk_mul]
      refine r_ins rfl rfl rfl rfl rfl ?_
      refine m_copies_158_161 d 0 (233 * m) g' _ (by omega) (by omega) (fun g2 b1 b2 b3 => ?_)
      exact fin _ g2 b1 b2 b3
  refine r_cl (L0 := [some (.ref 157), none]) rfl (Or.inr ⟨_, _, _, rfl, rfl⟩) rfl rfl rfl ?_
  refine r_run 400 rfl rfl ?_
  simp only [x_up_app, x_ce_app, x_ce_same, Nat.reduceAdd, Nat.reduceEqDiff, ↓reduceIte, Nat.reduceSub, Nat.reduceMul, reduceCtorEq, h2]
  refine n_ine rfl (by omega) (by omega) (fun hne => ?_) (fun he => ?_)
  · exact (rest (tK T) g (by omega) (by omega) h2 (fun a ha i hi => rfl) (fun _ _ => rfl) (fun _ _ _ => rfl)).1
  · have loop : ∀ i, i ≤ 699 → ∀ g' : xG, (∀ j, j < i → g' 161 j = g 161 (j + 233)) → (∀ j, i ≤ j → g' 161 j = g 161 j) → (∀ r, r ≠ 161 → g' r = g r) → Rx (d + 1) m_Md_records Q 10 [some (.ref 157), some (.int (nI i))] [] g' := by
      refine r_for ?_ ?_
      · intro g' a1 a2 a3
        refine r_run 400 rfl rfl ?_
        refine n_ige rfl (by omega) (by omega) (fun _ => ?_) (fun h => by omega)
        refine r_to 49 60 rfl rfl ?_
        refine (rest 3 _ (by omega) (by omega) ?_ (fun a ha i hi => ?_) (fun j hj => ?_) (fun r h1 h2 => ?_)).2 _
        · simp only [x_up_app, x_ce_app, x_ce_same, Nat.reduceAdd, Nat.reduceEqDiff, ↓reduceIte, Nat.reduceSub, Nat.reduceMul, reduceCtorEq, a3 157 (by decide), h2]
          rw [pk_sub (by omega), he]
        · rw [x_up_row (by decide), a1 _ (by omega)]
          congr 1
          omega
        · simp only [x_up_app, x_ce_app, x_ce_same, Nat.reduceAdd, Nat.reduceEqDiff, ↓reduceIte, Nat.reduceSub, Nat.reduceMul, reduceCtorEq]
          rw [if_neg hj, a3 157 (by decide)]
        · rw [x_up_row h1]
          exact a3 r h2
      · intro i hi ih g' a1 a2 a3
        refine r_run 400 rfl rfl ?_
        refine n_ige rfl (by omega) (by omega) (fun _ => by omega) (fun _ => ?_)
        refine r_run 400 rfl rfl ?_
        simp only [nI_add]
        refine r_ald (j := i + 233) rfl rfl rfl (by omega) (Nat.le_of_ble_eq_true rfl) ?_
        refine r_ast (j := i) rfl rfl rfl (by omega) (Nat.le_of_ble_eq_true rfl) ?_
        refine r_to 10 60 rfl rfl ?_
        simp only [nI_add, Nat.reduceAdd]
        refine ih _ (fun j hj => ?_) (fun j hj => ?_) (fun r hr => ?_)
        · by_cases e : j = i
          · subst e
            rw [x_up_e rfl, a2 _ (by omega)]
          · rw [x_up_n e]
            exact a1 j (by omega)
        · rw [x_up_n (by omega)]
          exact a2 j (by omega)
        · rw [x_up_row hr]
          exact a3 r hr
    refine r_to 10 60 rfl rfl ?_
    exact loop 0 (Nat.zero_le _) g (fun j hj => absurd hj (Nat.not_lt_zero _)) (fun _ _ => rfl) (fun _ _ => rfl)
