/-! ===== the law from its entry ===== -/
set_option maxRecDepth 100000 in
set_option maxHeartbeats 4000000 in
theorem zz_all (len : Nat) (a : Nat → Int32) (Q : xQ) (hl : len ≤ 260) (hQ : ∀ g, Q (some (.int (nI 1))) g) : Rn (x_cl 10) m_law (some (len, a)) SK Q 0 [some (.ref 0), none, none, none, none, none, none, none, none, none, none] [] [] g0 := by
  obtain ⟨⟨S1, g1⟩, h1, h4, h5⟩ := y_made
  dsimp only at h4 h5
  subst h4
  obtain ⟨a1, -, a3⟩ := y_ok _ _ _ _ _ _ _ _ _ _ h1
  -- new BellChairs
  refine Rn.in ?_
  unfold x_F
  rw [show x_at m_law.2.2.2.2 0 = some (.new 14, 3, 8, 0) from rfl]
  refine ⟨⟨Nat.le_of_ble_eq_true rfl, Nat.le_of_ble_eq_true rfl⟩, ?_⟩
  show Rn (x_cl 10) m_law (some (len, a)) SK Q 3 [some (.ref 0), none, none, none, none, none, none, none, none, none, none] [.ref 1] [.inr (.inl (8, x_new 8))] (x_z g0 1)
  refine Rn.in ?_
  unfold x_F
  rw [show x_at m_law.2.2.2.2 3 = some (.dup, 1, 0, 0) from rfl]
  show Rn (x_cl 10) m_law (some (len, a)) SK Q 4 [some (.ref 0), none, none, none, none, none, none, none, none, none, none] [.ref 1, .ref 1] [.inr (.inl (8, x_new 8))] (x_z g0 1)
  refine Rn.in ?_
  unfold x_F
  rw [show x_at m_law.2.2.2.2 4 = some (.invokespecial 108, 3, 68, 0) from rfl]
  show (([.ref 1] : List Value).map fun v => v.category).sum ≤ 8 ∧ ∃ Lc S1 Q1, (Lc = none ∨ Lc = some (len, a)) ∧ x_cl (9 + 1) Lc 68 [.ref 1] [.inr (.inl (8, x_new 8))] (x_z g0 1) S1 Q1 ∧ (S1.length ≤ SK.length ∧ x_sz S1 ≤ x_sz SK) ∧ ∀ v g1, Q1 v g1 → Rn (x_cl 10) m_law (some (len, a)) SK Q 7 [some (.ref 0), none, none, none, none, none, none, none, none, none, none] (v.toList ++ [.ref 1]) S1 g1
  refine ⟨by decide, none, SK, fun v g' => v = none ∧ g' = g1, Or.inl rfl, ⟨(m_Bc_init, yX8_init, cX8_init, 2, 0), rfl, Or.inr ⟨0, x_new 8, [], rfl, rfl⟩, Nat.le_of_ble_eq_true rfl, (fun v hv => by rw [List.mem_singleton.mp hv]; rfl), a1, a3 _ ⟨rfl, rfl⟩⟩, ⟨Nat.le_refl _, Nat.le_refl _⟩, fun v g' hv => ?_⟩
  obtain ⟨rfl, rfl⟩ := hv
  have hA := tA_0
  have hk := hA.1
  have main : Lz 10 m_law (some (len, a)) Q 7 [some (.ref 0), none, none, none, none, none, none, none, none, none, none] [.ref 1] T0 := by
    refine y_run 400 hk rfl ?_
    refine y_holds hA (by omega) rfl rfl ?_
    refine y_run 400 hk rfl ?_
    refine y_ifF rfl (by first | (rw [k0_lt (by omega)] <;> omega) | (rw [k0_ge (by omega)] <;> omega) | (rw [k0_gt (by omega)] <;> omega) | (rw [k0_le (by omega)] <;> omega) | (rw [k0_eq (by omega)] <;> omega) | (rw [k0_ne (by omega)] <;> omega)) ?_
    refine y_run 400 hk rfl ?_
    refine y_would hA rfl rfl ?_
    refine y_run 400 hk rfl ?_
    refine y_ifF rfl (by first | (rw [k0_lt (by omega)] <;> omega) | (rw [k0_ge (by omega)] <;> omega) | (rw [k0_gt (by omega)] <;> omega) | (rw [k0_le (by omega)] <;> omega) | (rw [k0_eq (by omega)] <;> omega) | (rw [k0_ne (by omega)] <;> omega)) ?_
    refine y_run 400 hk rfl ?_
    refine y_undo hA rfl rfl ?_
    rw [show aUndo T0 = -1000002 from rfl, show pUndo T0 = T0 from rfl]
    refine y_run 400 hk rfl ?_
    refine y_icF rfl (kx_same) ?_
    refine y_to 40 400 hk rfl ?_
    exact zz_loop len a Q hl hQ 0 (by omega) T0 _ _ _ _ _ _ _ hA
  exact main g' h5
