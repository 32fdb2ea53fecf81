/-! ===== the law from its entry ===== -/
set_option maxRecDepth 100000 in
set_option maxHeartbeats 4000000 in
theorem l_loop (len : Nat) (a : Nat → Int32) (Q : xQ) (hl : len ≤ 2048) (hQ : ∀ g, Q (some (.int (nI 1))) g) : ∀ k, k ≤ len / 4 → ∀ (g : xG) (T : xT), SG g T → MS g T → tOk T → tBd T (1020 * k) → Lx len a Q 18 [some (.ref 0), some (.ref 1), some (.ref 157), some (.int (nI (4 * k)))] [] g := by
  refine r_for ?_ ?_
  · intro g T hS hM hk hb
    refine l_run 400 rfl ?_
    refine l_ic rfl (fun _ => ?_) (fun hno => ?_)
    · refine l_run 400 rfl ?_
      exact l_zret rfl (by decide) (hQ g)
    · exfalso
      refine hno ?_
      show nI len - nI 4 < nI (4 * (len / 4))
      by_cases h4 : 4 ≤ len
      · rw [pk_sub h4, nI_ltI (by omega) (by omega)]
        omega
      · have hd : ∀ len, len < 4 → nI len - nI 4 < nI (4 * (len / 4)) := by decide
        exact hd len (by omega)
  · intro k hk4 ih g T hS hM hk hb
    have e1 : 4 * (k + 1) = 4 * k + 4 := by omega
    have e2 : 1020 * (k + 1) = 1020 * k + 1020 := by omega
    rw [e1, e2] at ih
    have hi : 4 * k + 4 ≤ len := by omega
    have hN : 1020 * k ≤ 600000 := by omega
    refine l_run 400 rfl ?_
    refine l_ic rfl (fun hgt => ?_) (fun _ => ?_)
    · exfalso
      have hgt : nI len - nI 4 < nI (4 * k) := hgt
      rw [pk_sub (by omega), nI_ltI (by omega) (by omega)] at hgt
      omega
    · refine l_run 400 rfl ?_
      refine l_sld (j := 4 * k) rfl rfl (by omega) (by omega) ?_
      refine l_run 400 rfl ?_
      refine l_tsw rfl rfl ⟨fun x hx e => ?_, fun _ => ?_⟩
      · simp only [List.mem_cons, List.not_mem_nil, or_false] at hx
        rcases hx with rfl | rfl | rfl | rfl | rfl | rfl | rfl | rfl | rfl | rfl | rfl | rfl | rfl | rfl | rfl | rfl | rfl | rfl | rfl | rfl | rfl | rfl
        · exact l_chair len k (1020 * k) a Q T g hl hi hS hM hk hb hN ih
        · exact l_player len k (1020 * k) a Q T g hl hi hS hM hk hb hN ih
        · exact l_tune len k (1020 * k) a Q T g hl hi hS hM hk hb hN ih
        · exact l_train len k (1020 * k) a Q T g hl hi hS hM hk hb hN ih
        · exact l_start len k (1020 * k) a Q T g hl hi hS hM hk hb hN ih
        · exact l_beat len k (1020 * k) a Q T g hl hi hS hM hk hb hN ih
        · exact l_stop len k (1020 * k) a Q T g hl hi hS hM hk hb hN ih
        · exact l_set len k (1020 * k) a Q T g hl hi hS hM hk hb hN ih
        · exact l_chairOf len k (1020 * k) a Q T g hl hi hS hM hk hb hN ih
        · exact l_playerOf len k (1020 * k) a Q T g hl hi hS hM hk hb hN ih
        · exact l_hears len k (1020 * k) a Q T g hl hi hS hM hk hb hN ih
        · exact l_bell len k (1020 * k) a Q T g hl hi hS hM hk hb hN ih
        · exact l_ifStopped len k (1020 * k) a Q T g hl hi hS hM hk hb hN ih
        · exact l_outs len k (1020 * k) a Q T g hl hi hS hM hk hb hN ih
        · exact l_safeIn len k (1020 * k) a Q T g hl hi hS hM hk hb hN ih
        · exact l_mean len k (1020 * k) a Q T g hl hi hS hM hk hb hN ih
        · exact l_count len k (1020 * k) a Q T g hl hi hS hM hk hb hN ih
        · exact l_undo len k (1020 * k) a Q T g hl hi hS hM hk hb hN ih
        · exact l_type len k (1020 * k) a Q T g hl hi hS hM hk hb hN ih
        · exact l_clearText len k (1020 * k) a Q T g hl hi hS hM hk hb hN ih
        · exact l_fault len k (1020 * k) a Q T g hl hi hS hM hk hb hN ih
        · exact l_play len k (1020 * k) a Q T g hl hi hS hM hk hb hN ih
      · refine l_to 18 60 rfl ?_
        simp only [nI_add]
        exact ih g T hS hM hk (tBd_le hb (by omega))
set_option maxRecDepth 100000 in
set_option maxHeartbeats 4000000 in
theorem l_all (len : Nat) (a : Nat → Int32) (Q : xQ) (hl : len ≤ 2048) (hQ : ∀ g, Q (some (.int (nI 1))) g) : Rn (x_cl 10) m_law (some (len, a)) SK Q 0 [some (.ref 0), none, none, none] [] [] g0 := by
  obtain ⟨⟨S1, g1⟩, ⟨S2, g2⟩, h1, h2, h3, h4, h5, h6⟩ := y_made
  dsimp only at h2 h4 h5 h6
  obtain ⟨a1, -, a3⟩ := y_ok _ _ _ _ _ _ _ _ _ _ h1
  obtain ⟨b1, -, b3⟩ := y_ok _ _ _ _ _ _ _ _ _ _ h3
  subst h4
  dsimp only at b1 b3
  have hz1 : x_sz S1 + 22 ≤ x_sz SK := by
    have := b1.2
    rw [x_sz_app] at this
    exact this
  have hz0 : x_sz S1 ≤ x_sz SK := by omega
  have hlen : S1.length ≤ SK.length := by rw [h2]; decide
  -- new BellChairs
  refine Rn.in ?_
  unfold x_F
  rw [show x_at m_law.2.2.2.2 0 = some (.new 7, 3, 8, 0) from rfl]
  refine ⟨⟨Nat.le_of_ble_eq_true rfl, Nat.le_of_ble_eq_true rfl⟩, ?_⟩
  show Rn (x_cl 10) m_law (some (len, a)) SK Q 3 [some (.ref 0), none, none, none] [.ref 1] [.inr (.inl (8, x_new 8))] (x_z g0 1)
  refine Rn.in ?_
  unfold x_F
  rw [show x_at m_law.2.2.2.2 3 = some (.dup, 1, 0, 0) from rfl]
  show Rn (x_cl 10) m_law (some (len, a)) SK Q 4 [some (.ref 0), none, none, none] [.ref 1, .ref 1] [.inr (.inl (8, x_new 8))] (x_z g0 1)
  refine Rn.in ?_
  unfold x_F
  rw [show x_at m_law.2.2.2.2 4 = some (.invokespecial 9, 3, 68, 0) from rfl]
  show (([.ref 1] : List Value).map fun v => v.category).sum ≤ 8 ∧ ∃ S1 Q1, x_cl (9 + 1) 68 [.ref 1] [.inr (.inl (8, x_new 8))] (x_z g0 1) S1 Q1 ∧ (S1.length ≤ SK.length ∧ x_sz S1 ≤ x_sz SK) ∧ ∀ v g1, Q1 v g1 → Rn (x_cl 10) m_law (some (len, a)) SK Q 7 [some (.ref 0), none, none, none] (v.toList ++ [.ref 1]) S1 g1
  refine ⟨by decide, S1, fun v g' => v = none ∧ g' = g1, ⟨(m_Bc_init, yX8_init, cX8_init, 2, 0), rfl, Or.inr ⟨0, x_new 8, [], rfl, rfl⟩, Nat.le_of_ble_eq_true rfl, (fun v hv => by rw [List.mem_singleton.mp hv]; rfl), a1, a3 _ ⟨rfl, rfl⟩⟩, ⟨hlen, hz0⟩, fun v g' hv => ?_⟩
  obtain ⟨rfl, rfl⟩ := hv
  refine Rn.in ?_
  unfold x_F
  rw [show x_at m_law.2.2.2.2 7 = some (.astore_n 1, 1, 0, 0) from rfl]
  show Rn (x_cl 10) m_law (some (len, a)) SK Q 8 [some (.ref 0), some (.ref 1), none, none] [] S1 g'
  -- new BellChairsModel
  refine Rn.in ?_
  unfold x_F
  rw [show x_at m_law.2.2.2.2 8 = some (.new 10, 3, 9, 0) from rfl]
  refine ⟨⟨by rw [h2]; exact Nat.le_of_ble_eq_true rfl, hz1⟩, ?_⟩
  rw [h2]
  show Rn (x_cl 10) m_law (some (len, a)) SK Q 11 [some (.ref 0), some (.ref 1), none, none] [.ref 157] (S1 ++ [.inr (.inl (9, x_new 9))]) (x_z g' 157)
  refine Rn.in ?_
  unfold x_F
  rw [show x_at m_law.2.2.2.2 11 = some (.dup, 1, 0, 0) from rfl]
  show Rn (x_cl 10) m_law (some (len, a)) SK Q 12 [some (.ref 0), some (.ref 1), none, none] [.ref 157, .ref 157] (S1 ++ [.inr (.inl (9, x_new 9))]) (x_z g' 157)
  refine Rn.in ?_
  unfold x_F
  rw [show x_at m_law.2.2.2.2 12 = some (.invokespecial 12, 3, 95, 0) from rfl]
  show (([.ref 157] : List Value).map fun v => v.category).sum ≤ 8 ∧ ∃ S2 Q1, x_cl (9 + 1) 95 [.ref 157] (S1 ++ [.inr (.inl (9, x_new 9))]) (x_z g' 157) S2 Q1 ∧ (S2.length ≤ SK.length ∧ x_sz S2 ≤ x_sz SK) ∧ ∀ v g1, Q1 v g1 → Rn (x_cl 10) m_law (some (len, a)) SK Q 15 [some (.ref 0), some (.ref 1), none, none] (v.toList ++ [.ref 157]) S2 g1
  refine ⟨by decide, SK, fun v g'' => v = none ∧ g'' = g2, ⟨(m_Md_init, yX9_init, cX9_init, 2, 0), rfl, Or.inr ⟨156, x_new 9, [], rfl, ?_⟩, Nat.le_of_ble_eq_true rfl, (fun v hv => by rw [List.mem_singleton.mp hv]; rfl), b1, b3 _ ⟨rfl, rfl⟩⟩, ⟨Nat.le_refl _, Nat.le_refl _⟩, fun v g'' hv => ?_⟩
  · rw [List.getElem?_append_right (by omega), h2]
    rfl
  obtain ⟨rfl, rfl⟩ := hv
  refine Rn.in ?_
  unfold x_F
  rw [show x_at m_law.2.2.2.2 15 = some (.astore_n 2, 1, 0, 0) from rfl]
  show Rn (x_cl 10) m_law (some (len, a)) SK Q 16 [some (.ref 0), some (.ref 1), some (.ref 157), none] [] SK g''
  refine Rn.in ?_
  unfold x_F
  rw [show x_at m_law.2.2.2.2 16 = some (.iconst 0, 1, 0, 0) from rfl]
  show Rn (x_cl 10) m_law (some (len, a)) SK Q 17 [some (.ref 0), some (.ref 1), some (.ref 157), none] [.int (nI 0)] SK g''
  refine Rn.in ?_
  unfold x_F
  rw [show x_at m_law.2.2.2.2 17 = some (.istore_n 3, 1, 0, 0) from rfl]
  show Rn (x_cl 10) m_law (some (len, a)) SK Q 18 [some (.ref 0), some (.ref 1), some (.ref 157), some (.int (nI 0))] [] SK g''
  exact l_loop len a Q hl hQ 0 (Nat.zero_le _) g'' T0 h5 h6 tOk_0 tBd_0
