/-! ===== the law's stop ===== -/
set_option maxRecDepth 100000 in
set_option maxHeartbeats 16000000 in
theorem zz_music2 (d n0 : Nat) (T : xT) (y : Int32) (Q : xQ) (hA : tA T n0) (hn0 : n0 < 1000) (k : ∀ T', tS T T' → tA T' (n0 + 1) → ∀ g, SG g T' → Q (some (.int (nI 1))) g) : Zx (d + 5) m_Law_music Q 358 (mL 2 y (tV T) none none none none none none none none) [] T := by
  have hk := hA.1
  have hk0 := hk.1
  have hkV := hk.1
  obtain ⟨⟨o1, o2, o3, o4, o5, o6⟩, o7, o8, o9, o10, o11, o12⟩ := hk0
  have hA2 := tA_stop hA hn0
  have hS2 : tS T (pCh T (eStop (tV T)) (vStop (tV T) (vTT (tV T) 0))) := tS_ch
  generalize hV : tV T = V at *
  -- the call; a9: bumps and those to come, a10: the tick, a11: sittings
  have at472 : ∀ p inn, p ≤ vn V → ((inn = 1 ∧ p < vn V ∧ vph V = 1 ∧ vin V p = true) ∨ inn = 0) → ∀ a9 a10 a11 : Int32, (inn = 1 → a9 = vbu V p + nI (XB (vX V 0 (vTT V 0)) p) ∧ a10 = nI (XT (vX V 0 (vTT V 0)) p) ∧ a11 = vss V p) → Zx (d + 5) m_Law_music Q 472 (mL 2 y V (some (.int (qOuts V))) (some (.int (nI p))) (some (.int (nI inn))) (some (.int a9)) (some (.int a10)) (some (.int a11)) none none) [] T := by
    intro p inn hp hin a9 a10 a11 h9
    refine z_run 400 hk rfl ?_
    refine z_stop hk rfl rfl ?_
    rw [hV]
    by_cases h1 : vph V = 1
    · have hg := vGE (b := 0) hkV h1
      have eE : eStop V = nI 0 := if_pos h1
      have eV := pCh_V (T := T) (V' := vStop V (vTT V 0)) eE
      rw [aCh_V eE, qc4, hV]
      generalize hT2 : pCh T (eStop V) (vStop V (vTT V 0)) = T2 at *
      have hk := hA2.1
      obtain ⟨f1, f2, f3, f4, f5, f6, f7⟩ := st_f V (vTT V 0)
      have hout := wo_1 h1
      have hIn : ∀ i, i < vn V → vIn V (vTT V 0) i = (vin V i && !XO (vX V 0 (vTT V 0)) i) := fun i hi => by
        show (vin V i && (XS (vX V 0 (vTT V 0)) i).isSome) = _
        cases hi2 : vin V i with
        | false => rfl
        | true =>
          have hd := hg.2.2.2.2.2 i hi hi2
          cases hs : XS (vX V 0 (vTT V 0)) i with
          | none => rw [hd.mpr hs]; rfl
          | some q =>
            cases ho : XO (vX V 0 (vTT V 0)) i with
            | false => rfl
            | true => rw [hd.mp ho] at hs; cases hs
      have e4 : qCount T2 (iN (nI 4)) = vrd V + nI 1 := by rw [qc4, eV, f2]
      have e3 : qCount T2 (iN (nI 3)) = nI (x_enc (vIn V (vTT V 0)) (vn V)) := by rw [qc3, eV, f3, f1]
      have e0 : qCount T2 (iN (nI 0)) = nI (if x_cnt (vIn V (vTT V 0)) (vn V) ≤ 1 then 2 else 0) := by rw [qc0, eV, f7]
      have ean : nI (x_enc (vin V) (vn V)) &&& (nI (x_enc (XO (vX V 0 (vTT V 0))) (vn V)) ^^^ (-1)) = nI (x_enc (vIn V (vTT V 0)) (vn V)) := enc_andnot hIn
      rw [hout]
      have end630 : ∀ a8 a9 a10 a11, Zx (d + 5) m_Law_music Q 630 (mL 2 y V (some (.int (nI (x_enc (XO (vX V 0 (vTT V 0))) (vn V))))) (some (.int (nI p))) a8 a9 a10 a11 (some (.int (vrd V))) (some (.int (nI (x_enc (XO (vX V 0 (vTT V 0))) (vn V)))))) [] T2 := by
        intro a8 a9 a10 a11
        refine z_run 400 hk rfl ?_
        exact z_zret rfl rfl (by decide) (k T2 hS2 hA2)
      have at571 : Zx (d + 5) m_Law_music Q 571 (mL 2 y V (some (.int (nI (x_enc (XO (vX V 0 (vTT V 0))) (vn V))))) (some (.int (nI p))) (some (.int (nI inn))) (some (.int a9)) (some (.int a10)) (some (.int a11)) (some (.int (vrd V))) (some (.int (nI (x_enc (XO (vX V 0 (vTT V 0))) (vn V)))))) [] T2 := by
        refine z_run 400 hk rfl ?_
        rcases hin with ⟨rfl, hpn, -, hi⟩ | rfl
        · obtain ⟨rfl, rfl, rfl⟩ := h9 rfl
          obtain ⟨b1, b2, b3⟩ := wf_T hkV hpn ⟨h1, hi⟩
          have hpn2 : p < vn (vStop V (vTT V 0)) := by rw [f1]; exact hpn
          have hn2 : vn (vStop V (vTT V 0)) ≤ 12 := by rw [f1]; exact o6
          have q5 : qPlayer (tV T2) (nI p) (nI 5) = vbu V p + nI (XB (vX V 0 (vTT V 0)) p) := by
            rw [eV, qp5 hpn2 hn2, f4]
            exact if_pos hi
          have e8 : vti (vStop V (vTT V 0)) p = XT (vX V 0 (vTT V 0)) p := by
            rw [f5]
            exact if_pos hi
          have q8 : qPlayer (tV T2) (nI p) (nI 8) = nI (XT (vX V 0 (vTT V 0)) p) := by
            rw [eV, qp8S hpn2 hn2 (by rw [e8]; omega), e8]
          have q4 : qPlayer (tV T2) (nI p) (nI 4) = (if vIn V (vTT V 0) p = true then vss V p + nI 1 else vss V p) := by
            rw [eV, qp4 hpn2 hn2, f6]
          refine z_ifF rfl (by first | (rw [k0_lt (by omega)] <;> omega) | (rw [k0_ge (by omega)] <;> omega) | (rw [k0_gt (by omega)] <;> omega) | (rw [k0_le (by omega)] <;> omega) | (rw [k0_eq (by omega)] <;> omega) | (rw [k0_ne (by omega)] <;> omega)) ?_
          refine z_run 400 hk rfl ?_
          rw [q5]
          refine z_icF rfl (kx_same) ?_
          refine z_run 400 hk rfl ?_
          rw [q8]
          refine z_icF rfl (kx_same) ?_
          refine z_run 400 hk rfl ?_
          rw [q4, enc_bit (by omega) (by omega)]
          cases ho : XO (vX V 0 (vTT V 0)) p with
          | true =>
            rw [hIn p hpn, hi, ho, if_pos (by simp [hpn]), if_neg (by decide)]
            refine z_icF rfl (by first | exact kx_same | exact kx_eq | (rw [k_lt (by omega) (by omega)] <;> omega) | (rw [k_ge (by omega) (by omega)] <;> omega) | (rw [k_gt (by omega) (by omega)] <;> omega) | (rw [k_le (by omega) (by omega)] <;> omega) | (rw [k_eq (by omega) (by omega)] <;> omega) | (rw [k_ne (by omega) (by omega)] <;> omega)) ?_
            refine z_run 400 hk rfl ?_
            refine z_icF rfl ((fun z => z (by rw [show vss V p + nI 0 = vss V p + 0 from rfl, Int32.add_zero]))) ?_
            exact end630 _ _ _ _
          | false =>
            rw [hIn p hpn, hi, ho, if_neg (by simp), if_pos (by decide)]
            refine z_icT rfl (by first | exact kx_same | exact kx_eq | (rw [k_lt (by omega) (by omega)] <;> omega) | (rw [k_ge (by omega) (by omega)] <;> omega) | (rw [k_gt (by omega) (by omega)] <;> omega) | (rw [k_le (by omega) (by omega)] <;> omega) | (rw [k_eq (by omega) (by omega)] <;> omega) | (rw [k_ne (by omega) (by omega)] <;> omega)) ?_
            refine z_run 400 hk rfl ?_
            refine z_icF rfl (kx_same) ?_
            exact end630 _ _ _ _
        · refine z_ifT rfl (by first | (rw [k0_lt (by omega)] <;> omega) | (rw [k0_ge (by omega)] <;> omega) | (rw [k0_gt (by omega)] <;> omega) | (rw [k0_le (by omega)] <;> omega) | (rw [k0_eq (by omega)] <;> omega) | (rw [k0_ne (by omega)] <;> omega)) ?_
          exact end630 _ _ _ _
      refine z_run 400 hk rfl ?_
      refine z_icF rfl (kx_same) ?_
      refine z_run 400 hk rfl ?_
      refine z_icT rfl (by first | exact kx_same | exact kx_eq | (rw [k_lt (by omega) (by omega)] <;> omega) | (rw [k_ge (by omega) (by omega)] <;> omega) | (rw [k_gt (by omega) (by omega)] <;> omega) | (rw [k_le (by omega) (by omega)] <;> omega) | (rw [k_eq (by omega) (by omega)] <;> omega) | (rw [k_ne (by omega) (by omega)] <;> omega)) ?_
      refine z_run 400 hk rfl ?_
      rw [e4]
      refine z_icF rfl (kx_same) ?_
      refine z_run 400 hk rfl ?_
      rw [e3, ean]
      refine z_icF rfl (kx_same) ?_
      refine z_run 400 hk rfl ?_
      rw [e0, ean]
      refine z_ins rfl rfl rfl rfl (l_ones d T2 _ _ hk (by have := enc_31 (f := vIn V (vTT V 0)) (n := vn V) (by omega); omega) ?_)
      rw [enc_cnt (by omega)]
      have hcle := x_cnt_le (vIn V (vTT V 0)) (vn V)
      refine z_run 400 hk rfl ?_
      by_cases h2 : x_cnt (vIn V (vTT V 0)) (vn V) ≤ 1
      · rw [if_pos h2]
        refine z_icF rfl (by first | exact kx_same | exact kx_eq | (rw [k_lt (by omega) (by omega)] <;> omega) | (rw [k_ge (by omega) (by omega)] <;> omega) | (rw [k_gt (by omega) (by omega)] <;> omega) | (rw [k_le (by omega) (by omega)] <;> omega) | (rw [k_eq (by omega) (by omega)] <;> omega) | (rw [k_ne (by omega) (by omega)] <;> omega)) ?_
        refine z_run 400 hk rfl ?_
        refine z_icF rfl (by first | exact kx_same | exact kx_eq | (rw [k_lt (by omega) (by omega)] <;> omega) | (rw [k_ge (by omega) (by omega)] <;> omega) | (rw [k_gt (by omega) (by omega)] <;> omega) | (rw [k_le (by omega) (by omega)] <;> omega) | (rw [k_eq (by omega) (by omega)] <;> omega) | (rw [k_ne (by omega) (by omega)] <;> omega)) ?_
        exact at571
      · rw [if_neg h2]
        refine z_icT rfl (by first | exact kx_same | exact kx_eq | (rw [k_lt (by omega) (by omega)] <;> omega) | (rw [k_ge (by omega) (by omega)] <;> omega) | (rw [k_gt (by omega) (by omega)] <;> omega) | (rw [k_le (by omega) (by omega)] <;> omega) | (rw [k_eq (by omega) (by omega)] <;> omega) | (rw [k_ne (by omega) (by omega)] <;> omega)) ?_
        refine z_run 400 hk rfl ?_
        refine z_icF rfl (by first | exact kx_same | exact kx_eq | (rw [k_lt (by omega) (by omega)] <;> omega) | (rw [k_ge (by omega) (by omega)] <;> omega) | (rw [k_gt (by omega) (by omega)] <;> omega) | (rw [k_le (by omega) (by omega)] <;> omega) | (rw [k_eq (by omega) (by omega)] <;> omega) | (rw [k_ne (by omega) (by omega)] <;> omega)) ?_
        exact at571
    · have eE : eStop V = -1000002 := if_neg h1
      have hneg : eStop V < 0 := by rw [eE]; decide
      rw [pCh_no hneg] at hA2 hS2
      rw [aCh_no hneg, pCh_no hneg, eE, wo_0 h1, qc4, hV]
      refine z_run 400 hk rfl ?_
      refine z_icF rfl (kx_same) ?_
      refine z_run 400 hk rfl ?_
      refine z_icF rfl (by first | exact kx_same | exact kx_eq | (rw [k_lt (by omega) (by omega)] <;> omega) | (rw [k_ge (by omega) (by omega)] <;> omega) | (rw [k_gt (by omega) (by omega)] <;> omega) | (rw [k_le (by omega) (by omega)] <;> omega) | (rw [k_eq (by omega) (by omega)] <;> omega) | (rw [k_ne (by omega) (by omega)] <;> omega)) ?_
      refine z_run 400 hk rfl ?_
      refine z_icF rfl (kx_same) ?_
      refine z_run 400 hk rfl ?_
      rw [qc4, hV]
      refine z_icF rfl (kx_same) ?_
      refine z_run 400 hk rfl ?_
      exact z_zret rfl rfl (by decide) (k T hS2 hA2)
  refine z_run 400 hk rfl ?_
  rw [qc2, hV, nI_add]
  refine z_ins rfl rfl rfl rfl (l_low d T _ _ _ hk (by omega) (by omega) ?_)
  have hp : lo y (vn V + 1) ≤ vn V := Nat.le_of_lt_succ (lo_lt (by omega))
  generalize lo y (vn V + 1) = p at *
  have at407 : Zx (d + 5) m_Law_music Q 407 (mL 2 y V (some (.int (qOuts V))) (some (.int (nI p))) none none none none none none) [] T := by
    refine z_run 400 hk rfl ?_
    refine z_ifT rfl (by first | (rw [k0_lt (by omega)] <;> omega) | (rw [k0_ge (by omega)] <;> omega) | (rw [k0_gt (by omega)] <;> omega) | (rw [k0_le (by omega)] <;> omega) | (rw [k0_eq (by omega)] <;> omega) | (rw [k0_ne (by omega)] <;> omega)) ?_
    refine z_run 400 hk rfl ?_
    refine z_ifT rfl (by first | (rw [k0_lt (by omega)] <;> omega) | (rw [k0_ge (by omega)] <;> omega) | (rw [k0_gt (by omega)] <;> omega) | (rw [k0_le (by omega)] <;> omega) | (rw [k0_eq (by omega)] <;> omega) | (rw [k0_ne (by omega)] <;> omega)) ?_
    refine z_run 400 hk rfl ?_
    refine z_ifT rfl (by first | (rw [k0_lt (by omega)] <;> omega) | (rw [k0_ge (by omega)] <;> omega) | (rw [k0_gt (by omega)] <;> omega) | (rw [k0_le (by omega)] <;> omega) | (rw [k0_eq (by omega)] <;> omega) | (rw [k0_ne (by omega)] <;> omega)) ?_
    refine z_to 472 400 hk rfl ?_
    exact at472 p 0 hp (Or.inr rfl) _ _ _ (fun z => absurd z (by decide))
  refine z_run 400 hk rfl ?_
  rw [qc2, hV]
  by_cases hpn : p < vn V
  · refine z_icF rfl (by first | exact kx_same | exact kx_eq | (rw [k_lt (by omega) (by omega)] <;> omega) | (rw [k_ge (by omega) (by omega)] <;> omega) | (rw [k_gt (by omega) (by omega)] <;> omega) | (rw [k_le (by omega) (by omega)] <;> omega) | (rw [k_eq (by omega) (by omega)] <;> omega) | (rw [k_ne (by omega) (by omega)] <;> omega)) ?_
    refine z_run 400 hk rfl ?_
    by_cases h1 : vph V = 1
    · refine z_icF rfl (by first | exact kx_same | exact kx_eq | (rw [k_lt (by omega) (by omega)] <;> omega) | (rw [k_ge (by omega) (by omega)] <;> omega) | (rw [k_gt (by omega) (by omega)] <;> omega) | (rw [k_le (by omega) (by omega)] <;> omega) | (rw [k_eq (by omega) (by omega)] <;> omega) | (rw [k_ne (by omega) (by omega)] <;> omega)) ?_
      refine z_run 400 hk rfl ?_
      cases hin : vin V p with
      | true =>
        have q2 : qPlayer (tV T) (nI p) (nI 2) = nI 1 := by rw [hV]; exact qp2T hpn o6 hin
        have q5 : qPlayer (tV T) (nI p) (nI 5) = vbu V p := by rw [hV]; exact qp5 hpn o6
        have q4 : qPlayer (tV T) (nI p) (nI 4) = vss V p := by rw [hV]; exact qp4 hpn o6
        have i1 : qIf (tV T) (nI p) (nI 1) = nI (XB (vX V 0 (vTT V 0)) p) := by rw [hV]; exact wf_1 hkV hpn ⟨h1, hin⟩
        have i2 : qIf (tV T) (nI p) (nI 2) = nI (XT (vX V 0 (vTT V 0)) p) := by rw [hV]; exact wf_2 hkV hpn ⟨h1, hin⟩
        rw [q2]
        refine z_icF rfl (by first | exact kx_same | exact kx_eq | (rw [k_lt (by omega) (by omega)] <;> omega) | (rw [k_ge (by omega) (by omega)] <;> omega) | (rw [k_gt (by omega) (by omega)] <;> omega) | (rw [k_le (by omega) (by omega)] <;> omega) | (rw [k_eq (by omega) (by omega)] <;> omega) | (rw [k_ne (by omega) (by omega)] <;> omega)) ?_
        refine z_run 400 hk rfl ?_
        refine z_ifF rfl (by first | (rw [k0_lt (by omega)] <;> omega) | (rw [k0_ge (by omega)] <;> omega) | (rw [k0_gt (by omega)] <;> omega) | (rw [k0_le (by omega)] <;> omega) | (rw [k0_eq (by omega)] <;> omega) | (rw [k0_ne (by omega)] <;> omega)) ?_
        refine z_run 400 hk rfl ?_
        rw [q5, i1]
        refine z_ifF rfl (by first | (rw [k0_lt (by omega)] <;> omega) | (rw [k0_ge (by omega)] <;> omega) | (rw [k0_gt (by omega)] <;> omega) | (rw [k0_le (by omega)] <;> omega) | (rw [k0_eq (by omega)] <;> omega) | (rw [k0_ne (by omega)] <;> omega)) ?_
        refine z_run 400 hk rfl ?_
        rw [i2]
        refine z_ifF rfl (by first | (rw [k0_lt (by omega)] <;> omega) | (rw [k0_ge (by omega)] <;> omega) | (rw [k0_gt (by omega)] <;> omega) | (rw [k0_le (by omega)] <;> omega) | (rw [k0_eq (by omega)] <;> omega) | (rw [k0_ne (by omega)] <;> omega)) ?_
        refine z_to 472 400 hk rfl ?_
        rw [q4]
        exact at472 p 1 hp (Or.inl ⟨rfl, hpn, h1, hin⟩) _ _ _ (fun _ => ⟨rfl, rfl, rfl⟩)
      | false =>
        have q2 : qPlayer (tV T) (nI p) (nI 2) = nI 0 := by rw [hV]; exact qp2F hpn o6 hin
        rw [q2]
        refine z_icT rfl (by first | exact kx_same | exact kx_eq | (rw [k_lt (by omega) (by omega)] <;> omega) | (rw [k_ge (by omega) (by omega)] <;> omega) | (rw [k_gt (by omega) (by omega)] <;> omega) | (rw [k_le (by omega) (by omega)] <;> omega) | (rw [k_eq (by omega) (by omega)] <;> omega) | (rw [k_ne (by omega) (by omega)] <;> omega)) ?_
        exact at407
    · refine z_icT rfl (by first | exact kx_same | exact kx_eq | (rw [k_lt (by omega) (by omega)] <;> omega) | (rw [k_ge (by omega) (by omega)] <;> omega) | (rw [k_gt (by omega) (by omega)] <;> omega) | (rw [k_le (by omega) (by omega)] <;> omega) | (rw [k_eq (by omega) (by omega)] <;> omega) | (rw [k_ne (by omega) (by omega)] <;> omega)) ?_
      exact at407
  · refine z_icT rfl (by first | exact kx_same | exact kx_eq | (rw [k_lt (by omega) (by omega)] <;> omega) | (rw [k_ge (by omega) (by omega)] <;> omega) | (rw [k_gt (by omega) (by omega)] <;> omega) | (rw [k_le (by omega) (by omega)] <;> omega) | (rw [k_eq (by omega) (by omega)] <;> omega) | (rw [k_ne (by omega) (by omega)] <;> omega)) ?_
    exact at407
set_option maxHeartbeats 16000000 in
set_option maxRecDepth 100000 in
theorem zz_music (d n0 : Nat) (T : xT) (h : Nat) (y : Int32) (Q : xQ) (hh : h < 3) (hA : tA T n0) (hn0 : n0 < 1000) (k : ∀ T', tS T T' → tA T' (n0 + 1) → ∀ g, SG g T' → Q (some (.int (nI 1))) g) : ∀ g, SG g T → Cx (d + 6) i_Law_music [.ref 1, .int (nI h), .int y] g Q := by
  have hk := hA.1
  refine z_cl (L0 := [some (.ref 1), some (.int (nI h)), some (.int y), none, none, none, none, none, none, none, none, none, none, none]) rfl rfl rfl rfl ?_
  refine z_to (L' := mL h y (tV T) none none none none none none none none) 20 400 hk rfl ?_
  refine z_run 400 hk rfl ?_
  have h3 : h = 0 ∨ h = 1 ∨ h = 2 := by omega
  rcases h3 with rfl | rfl | rfl
  · refine z_ifF rfl (by first | (rw [k0_lt (by omega)] <;> omega) | (rw [k0_ge (by omega)] <;> omega) | (rw [k0_gt (by omega)] <;> omega) | (rw [k0_le (by omega)] <;> omega) | (rw [k0_eq (by omega)] <;> omega) | (rw [k0_ne (by omega)] <;> omega)) ?_
    exact zz_music0 d n0 T y Q hA hn0 k
  · refine z_ifT rfl (by first | (rw [k0_lt (by omega)] <;> omega) | (rw [k0_ge (by omega)] <;> omega) | (rw [k0_gt (by omega)] <;> omega) | (rw [k0_le (by omega)] <;> omega) | (rw [k0_eq (by omega)] <;> omega) | (rw [k0_ne (by omega)] <;> omega)) ?_
    refine z_run 400 hk rfl ?_
    refine z_icF rfl (by first | exact kx_same | exact kx_eq | (rw [k_lt (by omega) (by omega)] <;> omega) | (rw [k_ge (by omega) (by omega)] <;> omega) | (rw [k_gt (by omega) (by omega)] <;> omega) | (rw [k_le (by omega) (by omega)] <;> omega) | (rw [k_eq (by omega) (by omega)] <;> omega) | (rw [k_ne (by omega) (by omega)] <;> omega)) ?_
    exact zz_music1 d n0 T y Q hA hn0 k
  · refine z_ifT rfl (by first | (rw [k0_lt (by omega)] <;> omega) | (rw [k0_ge (by omega)] <;> omega) | (rw [k0_gt (by omega)] <;> omega) | (rw [k0_le (by omega)] <;> omega) | (rw [k0_eq (by omega)] <;> omega) | (rw [k0_ne (by omega)] <;> omega)) ?_
    refine z_run 400 hk rfl ?_
    refine z_icT rfl (by first | exact kx_same | exact kx_eq | (rw [k_lt (by omega) (by omega)] <;> omega) | (rw [k_ge (by omega) (by omega)] <;> omega) | (rw [k_gt (by omega) (by omega)] <;> omega) | (rw [k_le (by omega) (by omega)] <;> omega) | (rw [k_eq (by omega) (by omega)] <;> omega) | (rw [k_ne (by omega) (by omega)] <;> omega)) ?_
    exact zz_music2 d n0 T y Q hA hn0 k
