/-! ===== the law's beats ===== -/
theorem k0_neg {x : Int32} (h : x < 0) : ¬ x_c .ge x 0 := fun z => by
  have z : (0 : Int32) ≤ x := z
  exact absurd h (Int32.not_lt.mpr z)
set_option maxRecDepth 100000 in
set_option maxHeartbeats 16000000 in
theorem zz_music1 (d n0 : Nat) (T : xT) (y : Int32) (Q : xQ) (hA : tA T n0) (hn0 : n0 < 1000) (k : ∀ T', tS T T' → tA T' (n0 + 1) → ∀ g, SG g T' → Q (some (.int (nI 1))) g) : Zx (d + 5) m_Law_music Q 128 (mL 1 y (tV T) none none none none none none none none) [] T := by
  have hk := hA.1
  have hk0 := hk.1
  obtain ⟨⟨o1, o2, o3, o4, o5, o6⟩, o7, o8, o9, o10, o11, o12⟩ := hk0
  have hA2 := fun b : Int32 => tA_beat (b := b) hA
  have hS2 : ∀ b : Int32, tS T (pCh T (eBeat (tV T) b) (vBeat (tV T) (iN b))) := fun b => tS_ch
  generalize hV : tV T = V at *
  -- the call
  have at244 : ∀ b p inn, b < 102 → p ≤ vn V → ((inn = 1 ∧ p < vn V ∧ vph V = 1 ∧ vin V p = true) ∨ inn = 0) → ∀ bad : Nat, (bad = if b = 0 ∨ 99 < b then 1 else 0) → ∀ a11 a12 : Nat, (inn = 1 → a11 = vpl V p ∧ a12 = vst V p) → Zx (d + 5) m_Law_music Q 262 (mL 1 y V (some (.int (nI b))) (some (.int (nI bad))) (some (.int (nI (vbt V)))) (some (.int (nI p))) (some (.int (nI inn))) (some (.int (nI a11))) (some (.int (nI a12))) none) [] T := by
    intro b p inn hb hp hin bad hbad a11 a12 h11
    -- the end
    have fin : ∀ T' told, tS T T' → tA T' (n0 + 1) → (inn = 1 → (told < 0 ∧ qPlayer (tV T') (nI p) (nI 3) = nI a11) ∨ (∃ u, told = nI u ∧ u < 1100 ∧ qPlayer (tV T') (nI p) (nI 3) = nI ((a11 + a12 * b) % vc V))) → Zx (d + 5) m_Law_music Q 316 (mL 1 y V (some (.int (nI b))) (some (.int (nI bad))) (some (.int (nI (vbt V)))) (some (.int (nI p))) (some (.int (nI inn))) (some (.int (nI a11))) (some (.int (nI a12))) (some (.int told))) [] T' := by
      intro T' told hS' hA' hq
      have hk := hA'.1
      refine z_run 400 hk rfl ?_
      rcases hin with ⟨rfl, hpn, h1, hi⟩ | rfl
      · refine z_ifF rfl (by first | (rw [k0_lt (by omega)] <;> omega) | (rw [k0_ge (by omega)] <;> omega) | (rw [k0_gt (by omega)] <;> omega) | (rw [k0_le (by omega)] <;> omega) | (rw [k0_eq (by omega)] <;> omega) | (rw [k0_ne (by omega)] <;> omega)) ?_
        refine z_run 400 hk rfl ?_
        obtain ⟨rfl, rfl⟩ := h11 rfl
        rcases hq rfl with ⟨ht, hq3⟩ | ⟨u, rfl, hu, hq3⟩
        · refine z_ifF rfl (k0_neg ht) ?_
          refine z_run 400 hk rfl ?_
          rw [hq3]
          refine z_icF rfl (kx_same) ?_
          refine z_run 400 hk rfl ?_
          exact z_zret rfl rfl (by decide) (k T' hS' hA')
        · have hs9 := (o11 p hpn).1
          have hp16 := (o11 p hpn).2.2.1
          have hc1 := (o8 h1).1
          have hm : vst V p * b ≤ 9 * 102 := Nat.mul_le_mul hs9 (by omega)
          refine z_ifT rfl (by first | (rw [k0_lt (by omega)] <;> omega) | (rw [k0_ge (by omega)] <;> omega) | (rw [k0_gt (by omega)] <;> omega) | (rw [k0_le (by omega)] <;> omega) | (rw [k0_eq (by omega)] <;> omega) | (rw [k0_ne (by omega)] <;> omega)) ?_
          refine z_run 400 hk rfl ?_
          rw [pk_mul, nI_add]
          refine z_remN rfl (by omega) (by omega) (by omega) ?_
          rw [hq3]
          refine z_icF rfl (kx_same) ?_
          refine z_run 400 hk rfl ?_
          exact z_zret rfl rfl (by decide) (k T' hS' hA')
      · refine z_ifT rfl (by first | (rw [k0_lt (by omega)] <;> omega) | (rw [k0_ge (by omega)] <;> omega) | (rw [k0_gt (by omega)] <;> omega) | (rw [k0_le (by omega)] <;> omega) | (rw [k0_eq (by omega)] <;> omega) | (rw [k0_ne (by omega)] <;> omega)) ?_
        refine z_run 400 hk rfl ?_
        exact z_zret rfl rfl (by decide) (k T' hS' hA')
    have hq3 : inn = 1 → qPlayer V (nI p) (nI 3) = nI a11 := fun z => by
      rcases hin with ⟨-, hpn, h1, hi⟩ | z2
      · rw [(h11 z).1]
        exact qp3T hpn o6 h1 hi
      · omega
    have ib : iN (nI b) = b := iN_nI (by omega)
    have hB1 : nI 1 ≤ nI b ↔ 1 ≤ b := nI_leI (by omega) (by omega)
    have hB2 : nI b ≤ nI 99 ↔ b ≤ 99 := nI_leI (by omega) (by omega)
    have hA3 := hA2 (nI b)
    have hS3 := hS2 (nI b)
    refine z_run 400 hk rfl ?_
    refine z_beat hk rfl rfl ?_
    rw [hV]
    by_cases hbd : b = 0 ∨ 99 < b
    · rw [if_pos hbd] at hbad
      have eB : eBeat V (nI b) = -1000001 := by
        unfold eBeat
        rw [if_neg (by rw [hB1, hB2]; omega)]
      have hneg : eBeat V (nI b) < 0 := by rw [eB]; decide
      rw [pCh_no hneg] at hA3 hS3
      rw [aCh_no hneg, pCh_no hneg, eB]
      rw [hbad] at fin ⊢
      refine z_run 400 hk rfl ?_
      refine z_ifF rfl (by first | (rw [k0_lt (by omega)] <;> omega) | (rw [k0_ge (by omega)] <;> omega) | (rw [k0_gt (by omega)] <;> omega) | (rw [k0_le (by omega)] <;> omega) | (rw [k0_eq (by omega)] <;> omega) | (rw [k0_ne (by omega)] <;> omega)) ?_
      refine z_run 400 hk rfl ?_
      refine z_icF rfl (kx_same) ?_
      exact fin T (-1000001) hS3 hA3 (fun z => Or.inl ⟨by decide, by rw [hV]; exact hq3 z⟩)
    · rw [if_neg hbd] at hbad
      have hcond : nI 1 ≤ nI b ∧ nI b ≤ nI 99 := by rw [hB1, hB2]; omega
      by_cases h1 : vph V = 1
      · by_cases h9 : vbt V + b ≤ 999
        · have eB : eBeat V (nI b) = nI 0 := by
            unfold eBeat
            rw [if_pos hcond, if_pos h1, if_pos (by rw [ib]; exact h9)]
          have eV := pCh_V (T := T) (V' := vBeat V (iN (nI b))) eB
          rw [aCh_V eB, ib]
          rw [ib] at eV hA3 hS3
          generalize hT2 : pCh T (eBeat V (nI b)) (vBeat V b) = T2 at *
          rw [hbad] at fin ⊢
          have hk := hA3.1
          refine z_run 400 hk rfl ?_
          refine z_ifT rfl (by first | (rw [k0_lt (by omega)] <;> omega) | (rw [k0_ge (by omega)] <;> omega) | (rw [k0_gt (by omega)] <;> omega) | (rw [k0_le (by omega)] <;> omega) | (rw [k0_eq (by omega)] <;> omega) | (rw [k0_ne (by omega)] <;> omega)) ?_
          refine z_run 400 hk rfl ?_
          refine z_icT rfl (by first | exact kx_same | exact kx_eq | (rw [k_lt (by omega) (by omega)] <;> omega) | (rw [k_ge (by omega) (by omega)] <;> omega) | (rw [k_gt (by omega) (by omega)] <;> omega) | (rw [k_le (by omega) (by omega)] <;> omega) | (rw [k_eq (by omega) (by omega)] <;> omega) | (rw [k_ne (by omega) (by omega)] <;> omega)) ?_
          refine z_run 400 hk rfl ?_
          rw [nI_add]
          refine z_icT rfl (by first | exact kx_same | exact kx_eq | (rw [k_lt (by omega) (by omega)] <;> omega) | (rw [k_ge (by omega) (by omega)] <;> omega) | (rw [k_gt (by omega) (by omega)] <;> omega) | (rw [k_le (by omega) (by omega)] <;> omega) | (rw [k_eq (by omega) (by omega)] <;> omega) | (rw [k_ne (by omega) (by omega)] <;> omega)) ?_
          refine z_run 400 hk rfl ?_
          rw [nI_add]
          refine z_icF rfl (kx_same) ?_
          refine fin T2 (nI (vbt V + b)) hS3 hA3 (fun z => Or.inr ⟨_, rfl, by omega, ?_⟩)
          rcases hin with ⟨-, hpn, -, hi⟩ | z2
          · rw [eV, qp3T (V := vBeat V b) hpn o6 h1 hi, (h11 z).1, (h11 z).2]
            show nI (if vin V p = true then (vpl V p + vst V p * b) % vc V else vpl V p) = _
            rw [if_pos hi]
          · omega
        · have eB : eBeat V (nI b) = -1000003 := by
            unfold eBeat
            rw [if_pos hcond, if_pos h1, if_neg (by rw [ib]; exact h9)]
          have hneg : eBeat V (nI b) < 0 := by rw [eB]; decide
          rw [pCh_no hneg] at hA3 hS3
          rw [aCh_no hneg, pCh_no hneg, eB]
          rw [hbad] at fin ⊢
          refine z_run 400 hk rfl ?_
          refine z_ifT rfl (by first | (rw [k0_lt (by omega)] <;> omega) | (rw [k0_ge (by omega)] <;> omega) | (rw [k0_gt (by omega)] <;> omega) | (rw [k0_le (by omega)] <;> omega) | (rw [k0_eq (by omega)] <;> omega) | (rw [k0_ne (by omega)] <;> omega)) ?_
          refine z_run 400 hk rfl ?_
          refine z_icT rfl (by first | exact kx_same | exact kx_eq | (rw [k_lt (by omega) (by omega)] <;> omega) | (rw [k_ge (by omega) (by omega)] <;> omega) | (rw [k_gt (by omega) (by omega)] <;> omega) | (rw [k_le (by omega) (by omega)] <;> omega) | (rw [k_eq (by omega) (by omega)] <;> omega) | (rw [k_ne (by omega) (by omega)] <;> omega)) ?_
          refine z_run 400 hk rfl ?_
          rw [nI_add]
          refine z_icF rfl (by first | exact kx_same | exact kx_eq | (rw [k_lt (by omega) (by omega)] <;> omega) | (rw [k_ge (by omega) (by omega)] <;> omega) | (rw [k_gt (by omega) (by omega)] <;> omega) | (rw [k_le (by omega) (by omega)] <;> omega) | (rw [k_eq (by omega) (by omega)] <;> omega) | (rw [k_ne (by omega) (by omega)] <;> omega)) ?_
          refine z_run 400 hk rfl ?_
          refine z_icF rfl (kx_same) ?_
          exact fin T (-1000003) hS3 hA3 (fun z => Or.inl ⟨by decide, by rw [hV]; exact hq3 z⟩)
      · have eB : eBeat V (nI b) = -1000002 := by
          unfold eBeat
          rw [if_pos hcond, if_neg h1]
        have hneg : eBeat V (nI b) < 0 := by rw [eB]; decide
        rw [pCh_no hneg] at hA3 hS3
        rw [aCh_no hneg, pCh_no hneg, eB]
        rw [hbad] at fin ⊢
        refine z_run 400 hk rfl ?_
        refine z_ifT rfl (by first | (rw [k0_lt (by omega)] <;> omega) | (rw [k0_ge (by omega)] <;> omega) | (rw [k0_gt (by omega)] <;> omega) | (rw [k0_le (by omega)] <;> omega) | (rw [k0_eq (by omega)] <;> omega) | (rw [k0_ne (by omega)] <;> omega)) ?_
        refine z_run 400 hk rfl ?_
        refine z_icF rfl (by first | exact kx_same | exact kx_eq | (rw [k_lt (by omega) (by omega)] <;> omega) | (rw [k_ge (by omega) (by omega)] <;> omega) | (rw [k_gt (by omega) (by omega)] <;> omega) | (rw [k_le (by omega) (by omega)] <;> omega) | (rw [k_eq (by omega) (by omega)] <;> omega) | (rw [k_ne (by omega) (by omega)] <;> omega)) ?_
        refine z_run 400 hk rfl ?_
        refine z_icF rfl (kx_same) ?_
        exact fin T (-1000002) hS3 hA3 (fun z => Or.inl ⟨by decide, by rw [hV]; exact hq3 z⟩)
  -- who is looked at
  have at171 : ∀ b bad, b < 102 → (bad = if b = 0 ∨ 99 < b then 1 else 0) → Zx (d + 5) m_Law_music Q 171 (mL 1 y V (some (.int (nI b))) (some (.int (nI bad))) none none none none none none) [] T := by
    intro b bad hb hbad
    refine z_run 400 hk rfl ?_
    rw [qc5, qc2, hV, nI_add]
    refine z_ins rfl rfl rfl rfl (l_low d T _ _ _ hk (by omega) (by omega) ?_)
    have hp : lo (y >>> (nI 5 &&& 31)) (vn V + 1) ≤ vn V := Nat.le_of_lt_succ (lo_lt (by omega))
    generalize lo (y >>> (nI 5 &&& 31)) (vn V + 1) = p at *
    have at223 : Zx (d + 5) m_Law_music Q 223 (mL 1 y V (some (.int (nI b))) (some (.int (nI bad))) (some (.int (nI (vbt V)))) (some (.int (nI p))) none none none none) [] T := by
      refine z_run 400 hk rfl ?_
      refine z_ifT rfl (by first | (rw [k0_lt (by omega)] <;> omega) | (rw [k0_ge (by omega)] <;> omega) | (rw [k0_gt (by omega)] <;> omega) | (rw [k0_le (by omega)] <;> omega) | (rw [k0_eq (by omega)] <;> omega) | (rw [k0_ne (by omega)] <;> omega)) ?_
      refine z_run 400 hk rfl ?_
      refine z_ifT rfl (by first | (rw [k0_lt (by omega)] <;> omega) | (rw [k0_ge (by omega)] <;> omega) | (rw [k0_gt (by omega)] <;> omega) | (rw [k0_le (by omega)] <;> omega) | (rw [k0_eq (by omega)] <;> omega) | (rw [k0_ne (by omega)] <;> omega)) ?_
      refine z_to 262 400 hk rfl ?_
      exact at244 b p 0 hb hp (Or.inr rfl) bad hbad 0 0 (fun z => absurd z (by decide))
    refine z_run 400 hk rfl ?_
    rw [qc2, hV]
    by_cases hpn : p < vn V
    · refine z_icF rfl (by first | exact kx_same | exact kx_eq | (rw [k_lt (by omega) (by omega)] <;> omega) | (rw [k_ge (by omega) (by omega)] <;> omega) | (rw [k_gt (by omega) (by omega)] <;> omega) | (rw [k_le (by omega) (by omega)] <;> omega) | (rw [k_eq (by omega) (by omega)] <;> omega) | (rw [k_ne (by omega) (by omega)] <;> omega)) ?_
      refine z_run 400 hk rfl ?_
      by_cases h1 : vph V = 1
      · refine z_icF rfl (by first | exact kx_same | exact kx_eq | (rw [k_lt (by omega) (by omega)] <;> omega) | (rw [k_ge (by omega) (by omega)] <;> omega) | (rw [k_gt (by omega) (by omega)] <;> omega) | (rw [k_le (by omega) (by omega)] <;> omega) | (rw [k_eq (by omega) (by omega)] <;> omega) | (rw [k_ne (by omega) (by omega)] <;> omega)) ?_
        refine z_run 400 hk rfl ?_
        cases hin : vin V p with
        | true =>
          have q2 : qPlayer (tV T) (nI p) (nI 2) = nI 1 := by rw [hV]; exact qp2T hpn o6 hin
          have q3 : qPlayer (tV T) (nI p) (nI 3) = nI (vpl V p) := by rw [hV]; exact qp3T hpn o6 h1 hin
          have q0 : qPlayer (tV T) (nI p) (nI 0) = nI (vst V p) := by rw [hV]; exact qp0 hpn o6
          rw [q2]
          refine z_icF rfl (by first | exact kx_same | exact kx_eq | (rw [k_lt (by omega) (by omega)] <;> omega) | (rw [k_ge (by omega) (by omega)] <;> omega) | (rw [k_gt (by omega) (by omega)] <;> omega) | (rw [k_le (by omega) (by omega)] <;> omega) | (rw [k_eq (by omega) (by omega)] <;> omega) | (rw [k_ne (by omega) (by omega)] <;> omega)) ?_
          refine z_run 400 hk rfl ?_
          refine z_ifF rfl (by first | (rw [k0_lt (by omega)] <;> omega) | (rw [k0_ge (by omega)] <;> omega) | (rw [k0_gt (by omega)] <;> omega) | (rw [k0_le (by omega)] <;> omega) | (rw [k0_eq (by omega)] <;> omega) | (rw [k0_ne (by omega)] <;> omega)) ?_
          refine z_run 400 hk rfl ?_
          rw [q3]
          refine z_ifF rfl (by first | (rw [k0_lt (by omega)] <;> omega) | (rw [k0_ge (by omega)] <;> omega) | (rw [k0_gt (by omega)] <;> omega) | (rw [k0_le (by omega)] <;> omega) | (rw [k0_eq (by omega)] <;> omega) | (rw [k0_ne (by omega)] <;> omega)) ?_
          refine z_to 262 400 hk rfl ?_
          rw [q0]
          exact at244 b p 1 hb hp (Or.inl ⟨rfl, hpn, h1, hin⟩) bad hbad (vpl V p) (vst V p) (fun _ => ⟨rfl, rfl⟩)
        | false =>
          have q2 : qPlayer (tV T) (nI p) (nI 2) = nI 0 := by rw [hV]; exact qp2F hpn o6 hin
          rw [q2]
          refine z_icT rfl (by first | exact kx_same | exact kx_eq | (rw [k_lt (by omega) (by omega)] <;> omega) | (rw [k_ge (by omega) (by omega)] <;> omega) | (rw [k_gt (by omega) (by omega)] <;> omega) | (rw [k_le (by omega) (by omega)] <;> omega) | (rw [k_eq (by omega) (by omega)] <;> omega) | (rw [k_ne (by omega) (by omega)] <;> omega)) ?_
          exact at223
      · refine z_icT rfl (by first | exact kx_same | exact kx_eq | (rw [k_lt (by omega) (by omega)] <;> omega) | (rw [k_ge (by omega) (by omega)] <;> omega) | (rw [k_gt (by omega) (by omega)] <;> omega) | (rw [k_le (by omega) (by omega)] <;> omega) | (rw [k_eq (by omega) (by omega)] <;> omega) | (rw [k_ne (by omega) (by omega)] <;> omega)) ?_
        exact at223
    · refine z_icT rfl (by first | exact kx_same | exact kx_eq | (rw [k_lt (by omega) (by omega)] <;> omega) | (rw [k_ge (by omega) (by omega)] <;> omega) | (rw [k_gt (by omega) (by omega)] <;> omega) | (rw [k_le (by omega) (by omega)] <;> omega) | (rw [k_eq (by omega) (by omega)] <;> omega) | (rw [k_ne (by omega) (by omega)] <;> omega)) ?_
      exact at223
  -- how many beats
  have at147 : ∀ m, m = 102 ∨ m = 30 → Zx (d + 5) m_Law_music Q 147 (mL 1 y V none none none none none none none none) [.int (nI m), .int y] T := by
    intro m hm
    refine z_ins rfl rfl rfl rfl (l_low d T _ _ _ hk (by omega) (by omega) ?_)
    have hb : lo y m < 102 := Nat.lt_of_lt_of_le (lo_lt (by omega)) (by omega)
    generalize lo y m = b at *
    refine z_run 400 hk rfl ?_
    by_cases h0 : b = 0
    · refine z_ifT rfl (by first | (rw [k0_lt (by omega)] <;> omega) | (rw [k0_ge (by omega)] <;> omega) | (rw [k0_gt (by omega)] <;> omega) | (rw [k0_le (by omega)] <;> omega) | (rw [k0_eq (by omega)] <;> omega) | (rw [k0_ne (by omega)] <;> omega)) ?_
      refine z_to 171 400 hk rfl ?_
      exact at171 b 1 hb (by rw [if_pos (Or.inl h0)])
    · refine z_ifF rfl (by first | (rw [k0_lt (by omega)] <;> omega) | (rw [k0_ge (by omega)] <;> omega) | (rw [k0_gt (by omega)] <;> omega) | (rw [k0_le (by omega)] <;> omega) | (rw [k0_eq (by omega)] <;> omega) | (rw [k0_ne (by omega)] <;> omega)) ?_
      refine z_run 400 hk rfl ?_
      by_cases h99 : b ≤ 99
      · refine z_icT rfl (by first | exact kx_same | exact kx_eq | (rw [k_lt (by omega) (by omega)] <;> omega) | (rw [k_ge (by omega) (by omega)] <;> omega) | (rw [k_gt (by omega) (by omega)] <;> omega) | (rw [k_le (by omega) (by omega)] <;> omega) | (rw [k_eq (by omega) (by omega)] <;> omega) | (rw [k_ne (by omega) (by omega)] <;> omega)) ?_
        refine z_to 171 400 hk rfl ?_
        exact at171 b 0 hb (by rw [if_neg (by omega)])
      · refine z_icF rfl (by first | exact kx_same | exact kx_eq | (rw [k_lt (by omega) (by omega)] <;> omega) | (rw [k_ge (by omega) (by omega)] <;> omega) | (rw [k_gt (by omega) (by omega)] <;> omega) | (rw [k_le (by omega) (by omega)] <;> omega) | (rw [k_eq (by omega) (by omega)] <;> omega) | (rw [k_ne (by omega) (by omega)] <;> omega)) ?_
        refine z_to 171 400 hk rfl ?_
        exact at171 b 1 hb (by rw [if_pos (by omega)])
  refine z_run 400 hk rfl ?_
  refine z_ins rfl rfl rfl rfl (l_low d T _ _ _ hk (by omega) (by omega) ?_)
  have h5 : lo (y >>> (nI 8 &&& 31)) 5 < 5 := lo_lt (by omega)
  generalize lo (y >>> (nI 8 &&& 31)) 5 = z at *
  by_cases h0 : z = 0
  · refine z_ifF rfl (by first | (rw [k0_lt (by omega)] <;> omega) | (rw [k0_ge (by omega)] <;> omega) | (rw [k0_gt (by omega)] <;> omega) | (rw [k0_le (by omega)] <;> omega) | (rw [k0_eq (by omega)] <;> omega) | (rw [k0_ne (by omega)] <;> omega)) ?_
    refine z_to 147 400 hk rfl ?_
    exact at147 102 (Or.inl rfl)
  · refine z_ifT rfl (by first | (rw [k0_lt (by omega)] <;> omega) | (rw [k0_ge (by omega)] <;> omega) | (rw [k0_gt (by omega)] <;> omega) | (rw [k0_le (by omega)] <;> omega) | (rw [k0_eq (by omega)] <;> omega) | (rw [k0_ne (by omega)] <;> omega)) ?_
    refine z_to 147 400 hk rfl ?_
    exact at147 30 (Or.inr rfl)
