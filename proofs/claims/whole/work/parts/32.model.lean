/-! ===== the reference: its row, its small methods ===== -/
set_option maxHeartbeats 4000000 in
theorem m_in (d : Nat) (v a b : Int32) (g : xG) (Q : xQ) (ht : a ≤ v → v ≤ b → Q (some (.int (nI 1))) g) (hf : ¬ (a ≤ v ∧ v ≤ b) → Q (some (.int (nI 0))) g) : Cx (d + 1) i_Md_in [.int v, .int a, .int b] g Q := by
  refine r_cl (L0 := [some (.int v), some (.int a), some (.int b)]) rfl (Or.inl rfl) rfl rfl rfl ?_
  refine r_run 400 rfl rfl ?_
  refine r_ilt rfl (fun h1 => ?_) (fun h1 => ?_)
  · refine r_run 400 rfl rfl ?_
    exact r_zret rfl rfl (by decide) (hf (fun z => Int32.not_le.mpr h1 z.1))
  · refine r_run 400 rfl rfl ?_
    refine r_igt rfl (fun h2 => ?_) (fun h2 => ?_)
    · refine r_run 400 rfl rfl ?_
      exact r_zret rfl rfl (by decide) (hf (fun z => Int32.not_le.mpr h2 z.2))
    · refine r_run 400 rfl rfl ?_
      exact r_zret rfl rfl (by decide) (ht (Int32.not_lt.mp h1) (Int32.not_lt.mp h2))
set_option maxHeartbeats 4000000 in
theorem m_of (d p k0 : Nat) (g : xG) (Q : xQ) (hp : p < 12) (hk : k0 < 9) (k : Q (some (.int (g 158 (65 + 9 * p + k0)))) g) : Cx (d + 1) i_Md_of [.ref 157, .int (nI p), .int (nI k0)] g Q := by
  refine r_cl (L0 := [some (.ref 157), some (.int (nI p)), some (.int (nI k0))]) rfl (Or.inr ⟨_, _, _, rfl, rfl⟩) rfl rfl rfl ?_
  refine r_run 400 rfl rfl ?_
  simp only [x_up_app, x_ce_app, x_ce_same, Nat.reduceAdd, Nat.reduceEqDiff, ↓reduceIte, Nat.reduceSub, Nat.reduceMul, reduceCtorEq, nI_add, pk_mul]
  refine r_ald (j := 65 + 9 * p + k0) rfl rfl (rfl) (by omega) (Nat.le_of_ble_eq_true rfl) ?_
  refine r_run 400 rfl rfl ?_
  exact r_iret rfl rfl k
set_option maxHeartbeats 4000000 in
theorem m_lays (d p k0 : Nat) (v : Int32) (g : xG) (Q : xQ) (hp : p < 12) (hk : k0 < 9) (k : Q none (x_up g 158 (65 + 9 * p + k0) v)) : Cx (d + 1) i_Md_lays [.ref 157, .int (nI p), .int (nI k0), .int v] g Q := by
  refine r_cl (L0 := [some (.ref 157), some (.int (nI p)), some (.int (nI k0)), some (.int v)]) rfl (Or.inr ⟨_, _, _, rfl, rfl⟩) rfl rfl rfl ?_
  refine r_run 400 rfl rfl ?_
  simp only [x_up_app, x_ce_app, x_ce_same, Nat.reduceAdd, Nat.reduceEqDiff, ↓reduceIte, Nat.reduceSub, Nat.reduceMul, reduceCtorEq, nI_add, pk_mul]
  refine r_ast (j := 65 + 9 * p + k0) rfl rfl (rfl) (by omega) (Nat.le_of_ble_eq_true rfl) ?_
  refine r_run 400 rfl rfl ?_
  exact r_ret rfl rfl k
set_option maxHeartbeats 4000000 in
theorem m_ofChair (d j k0 : Nat) (g : xG) (Q : xQ) (hj : j < 16) (hk : k0 < 3) (k : Q (some (.int (g 158 (17 + 3 * j + k0)))) g) : Cx (d + 1) i_Md_ofChair [.ref 157, .int (nI j), .int (nI k0)] g Q := by
  refine r_cl (L0 := [some (.ref 157), some (.int (nI j)), some (.int (nI k0))]) rfl (Or.inr ⟨_, _, _, rfl, rfl⟩) rfl rfl rfl ?_
  refine r_run 400 rfl rfl ?_
  simp only [x_up_app, x_ce_app, x_ce_same, Nat.reduceAdd, Nat.reduceEqDiff, ↓reduceIte, Nat.reduceSub, Nat.reduceMul, reduceCtorEq, nI_add, pk_mul]
  refine r_ald (j := 17 + 3 * j + k0) rfl rfl (rfl) (by omega) (Nat.le_of_ble_eq_true rfl) ?_
  refine r_run 400 rfl rfl ?_
  exact r_iret rfl rfl k
set_option maxHeartbeats 4000000 in
theorem m_laysChair (d j k0 : Nat) (v : Int32) (g : xG) (Q : xQ) (hj : j < 16) (hk : k0 < 3) (k : Q none (x_up g 158 (17 + 3 * j + k0) v)) : Cx (d + 1) i_Md_laysChair [.ref 157, .int (nI j), .int (nI k0), .int v] g Q := by
  refine r_cl (L0 := [some (.ref 157), some (.int (nI j)), some (.int (nI k0)), some (.int v)]) rfl (Or.inr ⟨_, _, _, rfl, rfl⟩) rfl rfl rfl ?_
  refine r_run 400 rfl rfl ?_
  simp only [x_up_app, x_ce_app, x_ce_same, Nat.reduceAdd, Nat.reduceEqDiff, ↓reduceIte, Nat.reduceSub, Nat.reduceMul, reduceCtorEq, nI_add, pk_mul]
  refine r_ast (j := 17 + 3 * j + k0) rfl rfl (rfl) (by omega) (Nat.le_of_ble_eq_true rfl) ?_
  refine r_run 400 rfl rfl ?_
  exact r_ret rfl rfl k
set_option maxHeartbeats 4000000 in
theorem m_isChair (d n : Nat) (v : Int32) (g : xG) (Q : xQ) (hn : g 158 1 = nI n) (hn2 : n ≤ 16) (ht : iN v < n → Q (some (.int (nI 1))) g) (hf : ¬ iN v < n → Q (some (.int (nI 0))) g) : Cx (d + 2) i_Md_isChair [.ref 157, .int v] g Q := by
  refine r_cl (L0 := [some (.ref 157), some (.int v)]) rfl (Or.inr ⟨_, _, _, rfl, rfl⟩) rfl rfl rfl ?_
  refine r_run 400 rfl rfl ?_
  refine r_ald (j := 1) rfl rfl rfl (by decide) (Nat.le_of_ble_eq_true rfl) ?_
  refine r_run 400 rfl rfl ?_
  simp only [x_up_app, x_ce_app, x_ce_same, Nat.reduceAdd, Nat.reduceEqDiff, ↓reduceIte, Nat.reduceSub, Nat.reduceMul, reduceCtorEq, hn]
  refine r_ins rfl rfl rfl rfl rfl ?_
  refine m_in d v _ _ g _ (fun h1 h2 => ?_) (fun h => ?_)
  · refine r_zret rfl rfl (by decide) (ht ?_)
    by_cases e : 1 ≤ n
    · rw [pk_sub e] at h2
      have := iN_in (by omega) (by omega) ⟨h1, h2⟩
      omega
    · exfalso
      have e : n = 0 := by omega
      subst e
      have := Int32.le_trans h1 h2
      exact absurd this (by decide)
  · refine r_zret rfl rfl (by decide) (hf (fun z => h ?_))
    rw [← nI_iN v, pk_sub (by omega)]
    exact ⟨(nI_leI (by omega) (by omega)).mpr (by omega), (nI_leI (by omega) (by omega)).mpr (by omega)⟩
set_option maxHeartbeats 4000000 in
theorem m_isPlayer (d n : Nat) (v : Int32) (g : xG) (Q : xQ) (hn : g 158 2 = nI n) (hn2 : n ≤ 12) (ht : iN v < n → Q (some (.int (nI 1))) g) (hf : ¬ iN v < n → Q (some (.int (nI 0))) g) : Cx (d + 2) i_Md_isPlayer [.ref 157, .int v] g Q := by
  refine r_cl (L0 := [some (.ref 157), some (.int v)]) rfl (Or.inr ⟨_, _, _, rfl, rfl⟩) rfl rfl rfl ?_
  refine r_run 400 rfl rfl ?_
  refine r_ald (j := 2) rfl rfl rfl (by decide) (Nat.le_of_ble_eq_true rfl) ?_
  refine r_run 400 rfl rfl ?_
  simp only [x_up_app, x_ce_app, x_ce_same, Nat.reduceAdd, Nat.reduceEqDiff, ↓reduceIte, Nat.reduceSub, Nat.reduceMul, reduceCtorEq, hn]
  refine r_ins rfl rfl rfl rfl rfl ?_
  refine m_in d v _ _ g _ (fun h1 h2 => ?_) (fun h => ?_)
  · refine r_zret rfl rfl (by decide) (ht ?_)
    by_cases e : 1 ≤ n
    · rw [pk_sub e] at h2
      have := iN_in (by omega) (by omega) ⟨h1, h2⟩
      omega
    · exfalso
      have e : n = 0 := by omega
      subst e
      have := Int32.le_trans h1 h2
      exact absurd this (by decide)
  · refine r_zret rfl rfl (by decide) (hf (fun z => h ?_))
    rw [← nI_iN v, pk_sub (by omega)]
    exact ⟨(nI_leI (by omega) (by omega)).mpr (by omega), (nI_leI (by omega) (by omega)).mpr (by omega)⟩
set_option maxHeartbeats 4000000 in
theorem m_isIn (d p : Nat) (b : Bool) (g : xG) (Q : xQ) (hp : p < 12) (h : g 158 (65 + 9 * p + 2) = if b = true then nI 1 else nI 0) (ht : b = true → Q (some (.int (nI 1))) g) (hf : b = false → Q (some (.int (nI 0))) g) : Cx (d + 2) i_Md_isIn [.ref 157, .int (nI p)] g Q := by
  refine r_cl (L0 := [some (.ref 157), some (.int (nI p))]) rfl (Or.inr ⟨_, _, _, rfl, rfl⟩) rfl rfl rfl ?_
  refine r_run 400 rfl rfl ?_
  refine r_inv rfl rfl rfl ?_
  refine m_of d p 2 g _ hp (by omega) ?_
  rw [h]
  refine r_run 400 rfl rfl ?_
  cases b with
  | true =>
    refine n_ine rfl (by omega) (by omega) (fun z => absurd rfl z) (fun _ => ?_)
    refine r_run 400 rfl rfl ?_
    exact r_zret rfl rfl (by decide) (ht rfl)
  | false =>
    refine n_ine rfl (by omega) (by omega) (fun _ => ?_) (fun z => by omega)
    refine r_run 400 rfl rfl ?_
    exact r_zret rfl rfl (by decide) (hf rfl)
set_option maxHeartbeats 4000000 in
theorem m_inPlay (d n : Nat) (In : Nat → Bool) (g : xG) (Q : xQ) (hn : g 158 2 = nI n) (h12 : n ≤ 12) (h : ∀ p, p < n → g 158 (65 + 9 * p + 2) = if In p = true then nI 1 else nI 0) (k : Q (some (.int (nI (x_cnt In n)))) g) : Cx (d + 2) i_Md_inPlay [.ref 157] g Q := by
  refine r_cl (L0 := [some (.ref 157), none, none]) rfl (Or.inr ⟨_, _, _, rfl, rfl⟩) rfl rfl rfl ?_
  have loop : ∀ p, p ≤ n → Rx (d + 1) m_Md_inPlay Q 4 [some (.ref 157), some (.int (nI (x_cnt In p))), some (.int (nI p))] [] g := by
    refine r_for ?_ ?_
    · refine r_run 400 rfl rfl ?_
      refine r_ald (j := 2) rfl rfl rfl (by decide) (Nat.le_of_ble_eq_true rfl) ?_
      simp only [x_up_app, x_ce_app, x_ce_same, Nat.reduceAdd, Nat.reduceEqDiff, ↓reduceIte, Nat.reduceSub, Nat.reduceMul, reduceCtorEq, hn]
      refine n_ige rfl (by omega) (by omega) (fun _ => ?_) (fun h2 => by omega)
      refine r_run 400 rfl rfl ?_
      exact r_iret rfl rfl k
    · intro p hp ih
      have hc := x_cnt_le In p
      refine r_run 400 rfl rfl ?_
      refine r_ald (j := 2) rfl rfl rfl (by decide) (Nat.le_of_ble_eq_true rfl) ?_
      simp only [x_up_app, x_ce_app, x_ce_same, Nat.reduceAdd, Nat.reduceEqDiff, ↓reduceIte, Nat.reduceSub, Nat.reduceMul, reduceCtorEq, hn]
      refine n_ige rfl (by omega) (by omega) (fun _ => by omega) (fun _ => ?_)
      refine r_run 400 rfl rfl ?_
      refine r_inv rfl rfl rfl ?_
      refine m_of d p 2 g _ (by omega) (by omega) ?_
      rw [h p hp]
      have e : nI (x_cnt In p) + (if In p = true then nI 1 else nI 0) = nI (x_cnt In (p + 1)) := by
        show _ = nI (x_cnt In p + if In p = true then 1 else 0)
        split
        · rw [nI_add]
        · exact Int32.add_zero _
      refine r_to 4 60 rfl rfl ?_
      simp only [x_up_app, x_ce_app, x_ce_same, Nat.reduceAdd, Nat.reduceEqDiff, ↓reduceIte, Nat.reduceSub, Nat.reduceMul, reduceCtorEq, nI_add]
      rw [e]
      exact ih
  refine r_to 4 60 rfl rfl ?_
  exact loop 0 (Nat.zero_le _)
set_option maxHeartbeats 4000000 in
theorem m_doesHear (d p j : Nat) (ea tn : Nat) (g : xG) (Q : xQ) (hp : p < 12) (hj : j < 16) (h1 : g 158 (65 + 9 * p + 1) = nI ea) (h2 : g 158 (17 + 3 * j + 0) = nI tn) (he : ea < 512) (ht8 : tn ≤ 8) (ht : ea.testBit tn = true → Q (some (.int (nI 1))) g) (hf : ea.testBit tn = false → Q (some (.int (nI 0))) g) : Cx (d + 2) i_Md_doesHear [.ref 157, .int (nI p), .int (nI j)] g Q := by
  refine r_cl (L0 := [some (.ref 157), some (.int (nI p)), some (.int (nI j))]) rfl (Or.inr ⟨_, _, _, rfl, rfl⟩) rfl rfl rfl ?_
  refine r_run 400 rfl rfl ?_
  refine r_inv rfl rfl rfl ?_
  refine m_of d p 1 g _ hp (by omega) ?_
  rw [h1]
  refine r_run 400 rfl rfl ?_
  refine r_inv rfl rfl rfl ?_
  refine m_ofChair d j 0 g _ hj (by omega) ?_
  rw [h2]
  refine r_run 400 rfl rfl ?_
  refine r_ine rfl (fun z => ?_) (fun z => ?_)
  · refine r_run 400 rfl rfl ?_
    refine r_zret rfl rfl (by decide) (hf ?_)
    cases hh : ea.testBit tn with
    | false => rfl
    | true => exact absurd ((x_sh1 _ rfl (by omega) (by omega)).mpr (x_bit_tb.mpr hh)) z
  · refine r_run 400 rfl rfl ?_
    exact r_zret rfl rfl (by decide) (ht (x_bit_tb.mp ((x_sh1 _ rfl (by omega) (by omega)).mp z)))
