/-! ===== the law's acts ===== -/
theorem z_chair {d : Nat} {mm : xM} {Q : xQ} {T : xT} {pc i len : Nat} {L : xL} {r : List Value} {t : Int32} (hk : tOk T) (h : x_at mm.2.2.2.2 pc = some (.invokevirtual i, len, i_Bc_chair, 1)) (hc : Nat.ble ((r.map fun v => v.category).sum) 8 = true) (k : Zx (d + 5) mm Q (pc + len) L (.int (aCh (eChair (tV T) t) (vc (tV T))) :: r) (pCh T (eChair (tV T) t) (vChair (tV T) (iN t)))) : Zx (d + 5) mm Q pc L (.int t :: .ref 1 :: r) T :=
  z_inv h rfl hc (fun g hg => s_chair d T t g _ hg hk (fun g' hg' _ => k g' hg'))
theorem z_player {d : Nat} {mm : xM} {Q : xQ} {T : xT} {pc i len : Nat} {L : xL} {r : List Value} {s e : Int32} (hk : tOk T) (h : x_at mm.2.2.2.2 pc = some (.invokevirtual i, len, i_Bc_player, 2)) (hc : Nat.ble ((r.map fun v => v.category).sum) 8 = true) (k : Zx (d + 5) mm Q (pc + len) L (.int (aCh (ePlayer (tV T) s e) (vn (tV T))) :: r) (pCh T (ePlayer (tV T) s e) (vPlayer (tV T) (iN s) (iN e)))) : Zx (d + 5) mm Q pc L (.int e :: .int s :: .ref 1 :: r) T :=
  z_inv h rfl hc (fun g hg => s_player d T s e g _ hg hk (fun g' hg' _ => k g' hg'))
theorem z_tune {d : Nat} {mm : xM} {Q : xQ} {T : xT} {pc i len : Nat} {L : xL} {r : List Value} {j t : Int32} (hk : tOk T) (h : x_at mm.2.2.2.2 pc = some (.invokevirtual i, len, i_Bc_tune, 2)) (hc : Nat.ble ((r.map fun v => v.category).sum) 8 = true) (k : Zx (d + 5) mm Q (pc + len) L (.int (aCh (eTune (tV T) j t) (vtn (tV T) (iN j))) :: r) (pCh T (eTune (tV T) j t) (vTune (tV T) (iN j) (iN t)))) : Zx (d + 5) mm Q pc L (.int t :: .int j :: .ref 1 :: r) T :=
  z_inv h rfl hc (fun g hg => s_tune d T j t g _ hg hk (fun g' hg' _ => k g' hg'))
theorem z_train {d : Nat} {mm : xM} {Q : xQ} {T : xT} {pc i len : Nat} {L : xL} {r : List Value} {q s e : Int32} (hk : tOk T) (h : x_at mm.2.2.2.2 pc = some (.invokevirtual i, len, i_Bc_train, 3)) (hc : Nat.ble ((r.map fun v => v.category).sum) 8 = true) (k : Zx (d + 5) mm Q (pc + len) L (.int (aCh (eTrain (tV T) q s e) (vea (tV T) (iN q))) :: r) (pCh T (eTrain (tV T) q s e) (vTrain (tV T) (iN q) (iN s) (iN e)))) : Zx (d + 5) mm Q pc L (.int e :: .int s :: .int q :: .ref 1 :: r) T :=
  z_inv h rfl hc (fun g hg => s_train d T q s e g _ hg hk (fun g' hg' _ => k g' hg'))
theorem z_set {d : Nat} {mm : xM} {Q : xQ} {T : xT} {pc i len : Nat} {L : xL} {r : List Value} {w v : Int32} (hk : tOk T) (h : x_at mm.2.2.2.2 pc = some (.invokevirtual i, len, i_Bc_set, 2)) (hc : Nat.ble ((r.map fun v => v.category).sum) 8 = true) (k : Zx (d + 5) mm Q (pc + len) L (.int (aCh (eSet w v) (vfw (tV T))) :: r) (pCh T (eSet w v) (vSet (tV T) (iN v)))) : Zx (d + 5) mm Q pc L (.int v :: .int w :: .ref 1 :: r) T :=
  z_inv h rfl hc (fun g hg => s_set d T w v g _ hg hk (fun g' hg' _ => k g' hg'))
abbrev aL (x y : Int32) (h : Nat) (V : xV) (a7 a8 a9 a10 a11 : Option Value) : xL := [some (.ref 1), some (.int x), some (.int y), some (.int (nI h)), some (.int (nI (vph V))), some (.int (nI (vc V))), some (.int (nI (vn V))), a7, a8, a9, a10, a11]
set_option maxRecDepth 100000 in
set_option maxHeartbeats 16000000 in
theorem zz_act0 (d n0 : Nat) (T : xT) (x y : Int32) (h : Nat) (Q : xQ) (hA : tA T n0) (k : ∀ T', tS T T' → tA T' (n0 + 1) → ∀ g, SG g T' → Q (some (.int (nI 1))) g) : Zx (d + 5) m_Law_acts Q 33 (aL x y h (tV T) none none none none none) [] T := by
  have hk := hA.1
  have hk0 := hk.1
  obtain ⟨⟨o1, o2, o3, o4, o5, o6⟩, o7, o8, o9, o10, o11, o12⟩ := hk0
  have hA2 := fun t : Int32 => tA_chair (t := t) hA
  have hS2 : ∀ t : Int32, tS T (pCh T (eChair (tV T) t) (vChair (tV T) (iN t))) := fun b => tS_ch
  generalize hV : tV T = V at *
  have at60 : ∀ (t : Int32) (bad : Nat), ((bad = 1 ∧ eChair V t = -1000001) ∨ (bad = 0 ∧ ∃ j, j ≤ 8 ∧ t = nI j)) → Zx (d + 5) m_Law_acts Q 62 (aL x y h V (some (.int t)) (some (.int (nI bad))) none none none) [] T := by
    intro t bad hbad
    have hA3 := hA2 t
    have hS3 := hS2 t
    have finN : ∀ told, told < 0 → tA T (n0 + 1) → tS T T → Zx (d + 5) m_Law_acts Q 109 (aL x y h V (some (.int t)) (some (.int (nI bad))) (some (.int told)) none none) [] T := by
      intro told ht hA3 hS3
      refine z_run 400 hk rfl ?_
      rw [qc1, hV]
      refine z_ifF rfl (k0_neg ht) ?_
      refine z_run 400 hk rfl ?_
      rw [nI_add]
      refine z_icF rfl (by first | exact kx_same | exact kx_eq | (rw [k_lt (by omega) (by omega)] <;> omega) | (rw [k_ge (by omega) (by omega)] <;> omega) | (rw [k_gt (by omega) (by omega)] <;> omega) | (rw [k_le (by omega) (by omega)] <;> omega) | (rw [k_eq (by omega) (by omega)] <;> omega) | (rw [k_ne (by omega) (by omega)] <;> omega)) ?_
      refine z_run 400 hk rfl ?_
      refine z_ifT rfl (ht) ?_
      refine z_run 400 hk rfl ?_
      exact z_zret rfl rfl (by decide) (k T hS3 hA3)
    refine z_run 400 hk rfl ?_
    refine z_chair hk rfl rfl ?_
    rw [hV]
    rcases hbad with ⟨rfl, hE⟩ | ⟨rfl, j, hj, rfl⟩
    · have hneg : eChair V t < 0 := by rw [hE]; decide
      rw [pCh_no hneg] at hA3 hS3
      rw [aCh_no hneg, pCh_no hneg, hE]
      refine z_run 400 hk rfl ?_
      refine z_ifF rfl (by first | (rw [k0_lt (by omega)] <;> omega) | (rw [k0_ge (by omega)] <;> omega) | (rw [k0_gt (by omega)] <;> omega) | (rw [k0_le (by omega)] <;> omega) | (rw [k0_eq (by omega)] <;> omega) | (rw [k0_ne (by omega)] <;> omega)) ?_
      refine z_run 400 hk rfl ?_
      refine z_icF rfl (kx_same) ?_
      exact finN _ (by decide) hA3 hS3
    · have hcond : nI 0 ≤ nI j ∧ nI j ≤ nI 8 := ⟨(nI_leI (by omega) (by omega)).mpr (by omega), (nI_leI (by omega) (by omega)).mpr hj⟩
      by_cases h0 : vph V = 0
      · by_cases h16 : vc V = 16
        · have hE : eChair V (nI j) = -1000003 := by
            unfold eChair
            rw [if_pos hcond, if_pos h0, if_pos h16]
          have hneg : eChair V (nI j) < 0 := by rw [hE]; decide
          rw [pCh_no hneg] at hA3 hS3
          rw [aCh_no hneg, pCh_no hneg, hE]
          refine z_run 400 hk rfl ?_
          refine z_ifT rfl (by first | (rw [k0_lt (by omega)] <;> omega) | (rw [k0_ge (by omega)] <;> omega) | (rw [k0_gt (by omega)] <;> omega) | (rw [k0_le (by omega)] <;> omega) | (rw [k0_eq (by omega)] <;> omega) | (rw [k0_ne (by omega)] <;> omega)) ?_
          refine z_run 400 hk rfl ?_
          refine z_ifT rfl (by first | (rw [k0_lt (by omega)] <;> omega) | (rw [k0_ge (by omega)] <;> omega) | (rw [k0_gt (by omega)] <;> omega) | (rw [k0_le (by omega)] <;> omega) | (rw [k0_eq (by omega)] <;> omega) | (rw [k0_ne (by omega)] <;> omega)) ?_
          refine z_run 400 hk rfl ?_
          refine z_icF rfl (by first | exact kx_same | exact kx_eq | (rw [k_lt (by omega) (by omega)] <;> omega) | (rw [k_ge (by omega) (by omega)] <;> omega) | (rw [k_gt (by omega) (by omega)] <;> omega) | (rw [k_le (by omega) (by omega)] <;> omega) | (rw [k_eq (by omega) (by omega)] <;> omega) | (rw [k_ne (by omega) (by omega)] <;> omega)) ?_
          refine z_run 400 hk rfl ?_
          refine z_icF rfl (kx_same) ?_
          exact finN _ (by decide) hA3 hS3
        · have hE : eChair V (nI j) = nI 0 := by
            unfold eChair
            rw [if_pos hcond, if_pos h0, if_neg h16]
          have eV := pCh_V (T := T) (V' := vChair V (iN (nI j))) hE
          rw [iN_nI (by omega)] at eV hA3 hS3
          rw [aCh_V hE, iN_nI (by omega)]
          generalize hT2 : pCh T (eChair V (nI j)) (vChair V j) = T2 at *
          have hk := hA3.1
          have hlt : vc V < vc (vChair V j) := Nat.lt_succ_self _
          have hle : vc (vChair V j) ≤ 16 := by show vc V + 1 ≤ 16; omega
          have e1 : qCount T2 (iN (nI 1)) = nI (vc V + 1) := by rw [qc1, eV]; rfl
          have c0 : qChair (tV T2) (nI (vc V)) (nI 0) = nI j := by
            rw [eV, qh0 hlt hle]
            show nI (if vc V = vc V then j else vtn V (vc V)) = _
            rw [if_pos rfl]
          have c1 : qChair (tV T2) (nI (vc V)) (nI 1) = nI 0 := by
            rw [eV, qh1 hlt hle, nI_iN]
            show (if vc V = vc V then nI 0 else vsa V (vc V)) = _
            rw [if_pos rfl]
          have c2 : qChair (tV T2) (nI (vc V)) (nI 2) = -1000004 := by
            rw [eV]
            exact qh2N hlt hle (if_pos rfl)
          refine z_run 400 hk rfl ?_
          refine z_ifT rfl (by first | (rw [k0_lt (by omega)] <;> omega) | (rw [k0_ge (by omega)] <;> omega) | (rw [k0_gt (by omega)] <;> omega) | (rw [k0_le (by omega)] <;> omega) | (rw [k0_eq (by omega)] <;> omega) | (rw [k0_ne (by omega)] <;> omega)) ?_
          refine z_run 400 hk rfl ?_
          refine z_ifT rfl (by first | (rw [k0_lt (by omega)] <;> omega) | (rw [k0_ge (by omega)] <;> omega) | (rw [k0_gt (by omega)] <;> omega) | (rw [k0_le (by omega)] <;> omega) | (rw [k0_eq (by omega)] <;> omega) | (rw [k0_ne (by omega)] <;> omega)) ?_
          refine z_run 400 hk rfl ?_
          refine z_icT rfl (by first | exact kx_same | exact kx_eq | (rw [k_lt (by omega) (by omega)] <;> omega) | (rw [k_ge (by omega) (by omega)] <;> omega) | (rw [k_gt (by omega) (by omega)] <;> omega) | (rw [k_le (by omega) (by omega)] <;> omega) | (rw [k_eq (by omega) (by omega)] <;> omega) | (rw [k_ne (by omega) (by omega)] <;> omega)) ?_
          refine z_run 400 hk rfl ?_
          refine z_icF rfl (kx_same) ?_
          refine z_run 400 hk rfl ?_
          rw [e1]
          refine z_ifT rfl (by first | (rw [k0_lt (by omega)] <;> omega) | (rw [k0_ge (by omega)] <;> omega) | (rw [k0_gt (by omega)] <;> omega) | (rw [k0_le (by omega)] <;> omega) | (rw [k0_eq (by omega)] <;> omega) | (rw [k0_ne (by omega)] <;> omega)) ?_
          refine z_run 400 hk rfl ?_
          rw [nI_add]
          refine z_icF rfl (kx_same) ?_
          refine z_run 400 hk rfl ?_
          refine z_ifF rfl (by first | (rw [k0_lt (by omega)] <;> omega) | (rw [k0_ge (by omega)] <;> omega) | (rw [k0_gt (by omega)] <;> omega) | (rw [k0_le (by omega)] <;> omega) | (rw [k0_eq (by omega)] <;> omega) | (rw [k0_ne (by omega)] <;> omega)) ?_
          refine z_run 400 hk rfl ?_
          rw [c0]
          refine z_icF rfl (kx_same) ?_
          refine z_run 400 hk rfl ?_
          rw [c1]
          refine z_ifF rfl (by first | (rw [k0_lt (by omega)] <;> omega) | (rw [k0_ge (by omega)] <;> omega) | (rw [k0_gt (by omega)] <;> omega) | (rw [k0_le (by omega)] <;> omega) | (rw [k0_eq (by omega)] <;> omega) | (rw [k0_ne (by omega)] <;> omega)) ?_
          refine z_run 400 hk rfl ?_
          rw [c2]
          refine z_icF rfl (kx_same) ?_
          refine z_run 400 hk rfl ?_
          exact z_zret rfl rfl (by decide) (k T2 hS3 hA3)
      · have hE : eChair V (nI j) = -1000002 := by
          unfold eChair
          rw [if_pos hcond, if_neg h0]
        have hneg : eChair V (nI j) < 0 := by rw [hE]; decide
        rw [pCh_no hneg] at hA3 hS3
        rw [aCh_no hneg, pCh_no hneg, hE]
        refine z_run 400 hk rfl ?_
        refine z_ifT rfl (by first | (rw [k0_lt (by omega)] <;> omega) | (rw [k0_ge (by omega)] <;> omega) | (rw [k0_gt (by omega)] <;> omega) | (rw [k0_le (by omega)] <;> omega) | (rw [k0_eq (by omega)] <;> omega) | (rw [k0_ne (by omega)] <;> omega)) ?_
        refine z_run 400 hk rfl ?_
        refine z_ifF rfl (by first | (rw [k0_lt (by omega)] <;> omega) | (rw [k0_ge (by omega)] <;> omega) | (rw [k0_gt (by omega)] <;> omega) | (rw [k0_le (by omega)] <;> omega) | (rw [k0_eq (by omega)] <;> omega) | (rw [k0_ne (by omega)] <;> omega)) ?_
        refine z_run 400 hk rfl ?_
        refine z_icF rfl (kx_same) ?_
        exact finN _ (by decide) hA3 hS3
  refine z_run 400 hk rfl ?_
  refine z_ins rfl rfl rfl rfl (l_low d T _ _ _ hk (by omega) (by omega) ?_)
  have hi : lo y 11 < 11 := lo_lt (by omega)
  generalize lo y 11 = i at *
  refine z_run 400 hk rfl ?_
  by_cases h0 : i = 0
  · rw [show nI i - nI 1 = -1 by rw [h0]; decide]
    refine z_ifT rfl ((show (-1 : Int32) < 0 by decide)) ?_
    refine z_to 62 400 hk rfl ?_
    exact at60 (-1) 1 (Or.inl ⟨rfl, if_neg (by decide)⟩)
  · rw [pk_sub (show 1 ≤ i by omega)]
    refine z_ifF rfl (by first | (rw [k0_lt (by omega)] <;> omega) | (rw [k0_ge (by omega)] <;> omega) | (rw [k0_gt (by omega)] <;> omega) | (rw [k0_le (by omega)] <;> omega) | (rw [k0_eq (by omega)] <;> omega) | (rw [k0_ne (by omega)] <;> omega)) ?_
    refine z_run 400 hk rfl ?_
    by_cases h9 : i - 1 ≤ 8
    · refine z_icT rfl (by first | exact kx_same | exact kx_eq | (rw [k_lt (by omega) (by omega)] <;> omega) | (rw [k_ge (by omega) (by omega)] <;> omega) | (rw [k_gt (by omega) (by omega)] <;> omega) | (rw [k_le (by omega) (by omega)] <;> omega) | (rw [k_eq (by omega) (by omega)] <;> omega) | (rw [k_ne (by omega) (by omega)] <;> omega)) ?_
      refine z_to 62 400 hk rfl ?_
      exact at60 _ 0 (Or.inr ⟨rfl, i - 1, h9, rfl⟩)
    · refine z_icF rfl (by first | exact kx_same | exact kx_eq | (rw [k_lt (by omega) (by omega)] <;> omega) | (rw [k_ge (by omega) (by omega)] <;> omega) | (rw [k_gt (by omega) (by omega)] <;> omega) | (rw [k_le (by omega) (by omega)] <;> omega) | (rw [k_eq (by omega) (by omega)] <;> omega) | (rw [k_ne (by omega) (by omega)] <;> omega)) ?_
      refine z_to 62 400 hk rfl ?_
      exact at60 _ 1 (Or.inl ⟨rfl, if_neg (fun z => by have := (nI_leI (by omega) (by omega)).mp z.2; omega)⟩)
set_option maxRecDepth 100000 in
set_option maxHeartbeats 16000000 in
theorem zz_act1 (d n0 : Nat) (T : xT) (x y : Int32) (h : Nat) (Q : xQ) (hA : tA T n0) (k : ∀ T', tS T T' → tA T' (n0 + 1) → ∀ g, SG g T' → Q (some (.int (nI 1))) g) : Zx (d + 5) m_Law_acts Q 181 (aL x y h (tV T) none none none none none) [] T := by
  have hk := hA.1
  have hk0 := hk.1
  obtain ⟨⟨o1, o2, o3, o4, o5, o6⟩, o7, o8, o9, o10, o11, o12⟩ := hk0
  have hA2 := fun s e : Int32 => tA_player (s := s) (e := e) hA
  have hS2 : ∀ s e : Int32, tS T (pCh T (ePlayer (tV T) s e) (vPlayer (tV T) (iN s) (iN e))) := fun s e => tS_ch
  generalize hV : tV T = V at *
  have at257 : ∀ s e bad : Nat, s ≤ 10 → e ≤ 512 → (bad = if s = 10 ∨ e = 512 then 1 else 0) → Zx (d + 5) m_Law_acts Q 257 (aL x y h V (some (.int (nI s))) (some (.int (nI e))) (some (.int (nI bad))) none none) [] T := by
    intro s e bad hs he hbad
    have hA3 := hA2 (nI s) (nI e)
    have hS3 := hS2 (nI s) (nI e)
    have finN : ∀ told, told < 0 → tA T (n0 + 1) → tS T T → Zx (d + 5) m_Law_acts Q 306 (aL x y h V (some (.int (nI s))) (some (.int (nI e))) (some (.int (nI bad))) (some (.int told)) none) [] T := by
      intro told ht hA3 hS3
      refine z_run 400 hk rfl ?_
      rw [qc2, hV]
      refine z_ifF rfl (k0_neg ht) ?_
      refine z_run 400 hk rfl ?_
      rw [nI_add]
      refine z_icF rfl (by first | exact kx_same | exact kx_eq | (rw [k_lt (by omega) (by omega)] <;> omega) | (rw [k_ge (by omega) (by omega)] <;> omega) | (rw [k_gt (by omega) (by omega)] <;> omega) | (rw [k_le (by omega) (by omega)] <;> omega) | (rw [k_eq (by omega) (by omega)] <;> omega) | (rw [k_ne (by omega) (by omega)] <;> omega)) ?_
      refine z_run 400 hk rfl ?_
      refine z_ifT rfl (ht) ?_
      refine z_run 400 hk rfl ?_
      exact z_zret rfl rfl (by decide) (k T hS3 hA3)
    have hsc : (nI 0 ≤ nI s ∧ nI s ≤ nI 9) ↔ s ≤ 9 := by rw [nI_leI (by omega) (by omega), nI_leI (by omega) (by omega)]; omega
    have hec : (nI 0 ≤ nI e ∧ nI e ≤ nI 511) ↔ e ≤ 511 := by rw [nI_leI (by omega) (by omega), nI_leI (by omega) (by omega)]; omega
    refine z_run 400 hk rfl ?_
    refine z_player hk rfl rfl ?_
    rw [hV]
    by_cases hbd : s = 10 ∨ e = 512
    · rw [if_pos hbd] at hbad
      have hE : ePlayer V (nI s) (nI e) = -1000001 := by
        unfold ePlayer
        exact if_neg (fun z => by have z1 := hsc.mp z.1; have z2 := hec.mp z.2; omega)
      have hneg : ePlayer V (nI s) (nI e) < 0 := by rw [hE]; decide
      rw [pCh_no hneg] at hA3 hS3
      rw [aCh_no hneg, pCh_no hneg, hE]
      rw [hbad] at finN ⊢
      refine z_run 400 hk rfl ?_
      refine z_ifF rfl (by first | (rw [k0_lt (by omega)] <;> omega) | (rw [k0_ge (by omega)] <;> omega) | (rw [k0_gt (by omega)] <;> omega) | (rw [k0_le (by omega)] <;> omega) | (rw [k0_eq (by omega)] <;> omega) | (rw [k0_ne (by omega)] <;> omega)) ?_
      refine z_run 400 hk rfl ?_
      refine z_icF rfl (kx_same) ?_
      exact finN _ (by decide) hA3 hS3
    · rw [if_neg hbd] at hbad
      have hcond : (nI 0 ≤ nI s ∧ nI s ≤ nI 9) ∧ nI 0 ≤ nI e ∧ nI e ≤ nI 511 := by rw [hsc, hec]; omega
      by_cases h0 : vph V = 0
      · by_cases h12 : vn V = 12
        · have hE : ePlayer V (nI s) (nI e) = -1000003 := by
            unfold ePlayer
            rw [if_pos hcond, if_pos h0, if_pos h12]
          have hneg : ePlayer V (nI s) (nI e) < 0 := by rw [hE]; decide
          rw [pCh_no hneg] at hA3 hS3
          rw [aCh_no hneg, pCh_no hneg, hE]
          rw [hbad] at finN ⊢
          refine z_run 400 hk rfl ?_
          refine z_ifT rfl (by first | (rw [k0_lt (by omega)] <;> omega) | (rw [k0_ge (by omega)] <;> omega) | (rw [k0_gt (by omega)] <;> omega) | (rw [k0_le (by omega)] <;> omega) | (rw [k0_eq (by omega)] <;> omega) | (rw [k0_ne (by omega)] <;> omega)) ?_
          refine z_run 400 hk rfl ?_
          refine z_ifT rfl (by first | (rw [k0_lt (by omega)] <;> omega) | (rw [k0_ge (by omega)] <;> omega) | (rw [k0_gt (by omega)] <;> omega) | (rw [k0_le (by omega)] <;> omega) | (rw [k0_eq (by omega)] <;> omega) | (rw [k0_ne (by omega)] <;> omega)) ?_
          refine z_run 400 hk rfl ?_
          refine z_icF rfl (by first | exact kx_same | exact kx_eq | (rw [k_lt (by omega) (by omega)] <;> omega) | (rw [k_ge (by omega) (by omega)] <;> omega) | (rw [k_gt (by omega) (by omega)] <;> omega) | (rw [k_le (by omega) (by omega)] <;> omega) | (rw [k_eq (by omega) (by omega)] <;> omega) | (rw [k_ne (by omega) (by omega)] <;> omega)) ?_
          refine z_run 400 hk rfl ?_
          refine z_icF rfl (kx_same) ?_
          exact finN _ (by decide) hA3 hS3
        · have hE : ePlayer V (nI s) (nI e) = nI 0 := by
            unfold ePlayer
            rw [if_pos hcond, if_pos h0, if_neg h12]
          have eV := pCh_V (T := T) (V' := vPlayer V (iN (nI s)) (iN (nI e))) hE
          rw [iN_nI (by omega), iN_nI (by omega)] at eV hA3 hS3
          rw [aCh_V hE, iN_nI (by omega), iN_nI (by omega)]
          generalize hT2 : pCh T (ePlayer V (nI s) (nI e)) (vPlayer V s e) = T2 at *
          have hk := hA3.1
          have hlt : vn V < vn (vPlayer V s e) := Nat.lt_succ_self _
          have hle : vn (vPlayer V s e) ≤ 12 := by show vn V + 1 ≤ 12; omega
          have e2 : qCount T2 (iN (nI 2)) = nI (vn V + 1) := by rw [qc2, eV]; rfl
          have c0 : qPlayer (tV T2) (nI (vn V)) (nI 0) = nI s := by
            rw [eV, qp0 hlt hle]
            show nI (if vn V = vn V then s else vst V (vn V)) = _
            rw [if_pos rfl]
          have c1 : qPlayer (tV T2) (nI (vn V)) (nI 1) = nI e := by
            rw [eV, qp1 hlt hle]
            show nI (if vn V = vn V then e else vea V (vn V)) = _
            rw [if_pos rfl]
          have c2 : qPlayer (tV T2) (nI (vn V)) (nI 2) = nI 1 := by
            rw [eV]
            exact qp2T hlt hle (if_pos rfl)
          have c4 : qPlayer (tV T2) (nI (vn V)) (nI 4) = nI 0 := by
            rw [eV, qp4 hlt hle]
            exact if_pos rfl
          have c5 : qPlayer (tV T2) (nI (vn V)) (nI 5) = nI 0 := by
            rw [eV, qp5 hlt hle]
            exact if_pos rfl
          have c6 : qPlayer (tV T2) (nI (vn V)) (nI 6) = nI 0 := by
            rw [eV, qp6 hlt hle]
            exact if_pos rfl
          have c8 : qPlayer (tV T2) (nI (vn V)) (nI 8) = -1000004 := by
            rw [eV]
            exact qp8N hlt hle (if_pos rfl)
          rw [hbad]
          refine z_run 400 hk rfl ?_
          refine z_ifT rfl (by first | (rw [k0_lt (by omega)] <;> omega) | (rw [k0_ge (by omega)] <;> omega) | (rw [k0_gt (by omega)] <;> omega) | (rw [k0_le (by omega)] <;> omega) | (rw [k0_eq (by omega)] <;> omega) | (rw [k0_ne (by omega)] <;> omega)) ?_
          refine z_run 400 hk rfl ?_
          refine z_ifT rfl (by first | (rw [k0_lt (by omega)] <;> omega) | (rw [k0_ge (by omega)] <;> omega) | (rw [k0_gt (by omega)] <;> omega) | (rw [k0_le (by omega)] <;> omega) | (rw [k0_eq (by omega)] <;> omega) | (rw [k0_ne (by omega)] <;> omega)) ?_
          refine z_run 400 hk rfl ?_
          refine z_icT rfl (by first | exact kx_same | exact kx_eq | (rw [k_lt (by omega) (by omega)] <;> omega) | (rw [k_ge (by omega) (by omega)] <;> omega) | (rw [k_gt (by omega) (by omega)] <;> omega) | (rw [k_le (by omega) (by omega)] <;> omega) | (rw [k_eq (by omega) (by omega)] <;> omega) | (rw [k_ne (by omega) (by omega)] <;> omega)) ?_
          refine z_run 400 hk rfl ?_
          refine z_icF rfl (kx_same) ?_
          refine z_run 400 hk rfl ?_
          rw [e2]
          refine z_ifT rfl (by first | (rw [k0_lt (by omega)] <;> omega) | (rw [k0_ge (by omega)] <;> omega) | (rw [k0_gt (by omega)] <;> omega) | (rw [k0_le (by omega)] <;> omega) | (rw [k0_eq (by omega)] <;> omega) | (rw [k0_ne (by omega)] <;> omega)) ?_
          refine z_run 400 hk rfl ?_
          rw [nI_add]
          refine z_icF rfl (kx_same) ?_
          refine z_run 400 hk rfl ?_
          refine z_ifF rfl (by first | (rw [k0_lt (by omega)] <;> omega) | (rw [k0_ge (by omega)] <;> omega) | (rw [k0_gt (by omega)] <;> omega) | (rw [k0_le (by omega)] <;> omega) | (rw [k0_eq (by omega)] <;> omega) | (rw [k0_ne (by omega)] <;> omega)) ?_
          refine z_run 400 hk rfl ?_
          rw [c0]
          refine z_icF rfl (kx_same) ?_
          refine z_run 400 hk rfl ?_
          rw [c1]
          refine z_icF rfl (kx_same) ?_
          refine z_run 400 hk rfl ?_
          rw [c2]
          refine z_icF rfl (kx_same) ?_
          refine z_run 400 hk rfl ?_
          rw [c4, c5, c6, nI_add, nI_add]
          refine z_ifF rfl (by first | (rw [k0_lt (by omega)] <;> omega) | (rw [k0_ge (by omega)] <;> omega) | (rw [k0_gt (by omega)] <;> omega) | (rw [k0_le (by omega)] <;> omega) | (rw [k0_eq (by omega)] <;> omega) | (rw [k0_ne (by omega)] <;> omega)) ?_
          refine z_run 400 hk rfl ?_
          rw [c8]
          refine z_icF rfl (kx_same) ?_
          refine z_run 400 hk rfl ?_
          exact z_zret rfl rfl (by decide) (k T2 hS3 hA3)
      · have hE : ePlayer V (nI s) (nI e) = -1000002 := by
          unfold ePlayer
          rw [if_pos hcond, if_neg h0]
        have hneg : ePlayer V (nI s) (nI e) < 0 := by rw [hE]; decide
        rw [pCh_no hneg] at hA3 hS3
        rw [aCh_no hneg, pCh_no hneg, hE]
        rw [hbad] at finN ⊢
        refine z_run 400 hk rfl ?_
        refine z_ifT rfl (by first | (rw [k0_lt (by omega)] <;> omega) | (rw [k0_ge (by omega)] <;> omega) | (rw [k0_gt (by omega)] <;> omega) | (rw [k0_le (by omega)] <;> omega) | (rw [k0_eq (by omega)] <;> omega) | (rw [k0_ne (by omega)] <;> omega)) ?_
        refine z_run 400 hk rfl ?_
        refine z_ifF rfl (by first | (rw [k0_lt (by omega)] <;> omega) | (rw [k0_ge (by omega)] <;> omega) | (rw [k0_gt (by omega)] <;> omega) | (rw [k0_le (by omega)] <;> omega) | (rw [k0_eq (by omega)] <;> omega) | (rw [k0_ne (by omega)] <;> omega)) ?_
        refine z_run 400 hk rfl ?_
        refine z_icF rfl (kx_same) ?_
        exact finN _ (by decide) hA3 hS3
  have at230 : ∀ s m : Nat, s ≤ 10 → (m = 513 ∨ m = 512) → Zx (d + 5) m_Law_acts Q 230 (aL x y h V (some (.int (nI s))) none none none none) [.int (nI m), .int (y >>> (nI 4 &&& 31))] T := by
    intro s m hs hm
    refine z_ins rfl rfl rfl rfl (l_low d T _ _ _ hk (by omega) (by omega) ?_)
    have he : lo (y >>> (nI 4 &&& 31)) m ≤ 512 := by
      have := lo_lt (v := y >>> (nI 4 &&& 31)) (show 0 < m by omega)
      omega
    generalize lo (y >>> (nI 4 &&& 31)) m = e at *
    refine z_run 400 hk rfl ?_
    by_cases hs10 : s = 10
    · refine z_icT rfl (by first | exact kx_same | exact kx_eq | (rw [k_lt (by omega) (by omega)] <;> omega) | (rw [k_ge (by omega) (by omega)] <;> omega) | (rw [k_gt (by omega) (by omega)] <;> omega) | (rw [k_le (by omega) (by omega)] <;> omega) | (rw [k_eq (by omega) (by omega)] <;> omega) | (rw [k_ne (by omega) (by omega)] <;> omega)) ?_
      refine z_to 257 400 hk rfl ?_
      exact at257 s e 1 hs he (by rw [if_pos (Or.inl hs10)])
    · refine z_icF rfl (by first | exact kx_same | exact kx_eq | (rw [k_lt (by omega) (by omega)] <;> omega) | (rw [k_ge (by omega) (by omega)] <;> omega) | (rw [k_gt (by omega) (by omega)] <;> omega) | (rw [k_le (by omega) (by omega)] <;> omega) | (rw [k_eq (by omega) (by omega)] <;> omega) | (rw [k_ne (by omega) (by omega)] <;> omega)) ?_
      refine z_run 400 hk rfl ?_
      by_cases he5 : e = 512
      · refine z_icF rfl (by first | exact kx_same | exact kx_eq | (rw [k_lt (by omega) (by omega)] <;> omega) | (rw [k_ge (by omega) (by omega)] <;> omega) | (rw [k_gt (by omega) (by omega)] <;> omega) | (rw [k_le (by omega) (by omega)] <;> omega) | (rw [k_eq (by omega) (by omega)] <;> omega) | (rw [k_ne (by omega) (by omega)] <;> omega)) ?_
        refine z_to 257 400 hk rfl ?_
        exact at257 s e 1 hs he (by rw [if_pos (Or.inr he5)])
      · refine z_icT rfl (by first | exact kx_same | exact kx_eq | (rw [k_lt (by omega) (by omega)] <;> omega) | (rw [k_ge (by omega) (by omega)] <;> omega) | (rw [k_gt (by omega) (by omega)] <;> omega) | (rw [k_le (by omega) (by omega)] <;> omega) | (rw [k_eq (by omega) (by omega)] <;> omega) | (rw [k_ne (by omega) (by omega)] <;> omega)) ?_
        refine z_to 257 400 hk rfl ?_
        exact at257 s e 0 hs he (by rw [if_neg (by omega)])
  have at201 : ∀ m : Nat, (m = 11 ∨ m = 10) → Zx (d + 5) m_Law_acts Q 201 (aL x y h V none none none none none) [.int (nI m), .int y] T := by
    intro m hm
    refine z_ins rfl rfl rfl rfl (l_low d T _ _ _ hk (by omega) (by omega) ?_)
    have hs : lo y m ≤ 10 := by
      have := lo_lt (v := y) (show 0 < m by omega)
      omega
    generalize lo y m = s at *
    refine z_run 400 hk rfl ?_
    refine z_ins rfl rfl rfl rfl (l_low d T _ _ _ hk (by omega) (by omega) ?_)
    have h7 : lo (y >>> (nI 15 &&& 31)) 7 < 7 := lo_lt (by omega)
    generalize lo (y >>> (nI 15 &&& 31)) 7 = z at *
    by_cases h0 : z = 0
    · refine z_ifF rfl (by first | (rw [k0_lt (by omega)] <;> omega) | (rw [k0_ge (by omega)] <;> omega) | (rw [k0_gt (by omega)] <;> omega) | (rw [k0_le (by omega)] <;> omega) | (rw [k0_eq (by omega)] <;> omega) | (rw [k0_ne (by omega)] <;> omega)) ?_
      refine z_to 230 400 hk rfl ?_
      exact at230 s 513 hs (Or.inl rfl)
    · refine z_ifT rfl (by first | (rw [k0_lt (by omega)] <;> omega) | (rw [k0_ge (by omega)] <;> omega) | (rw [k0_gt (by omega)] <;> omega) | (rw [k0_le (by omega)] <;> omega) | (rw [k0_eq (by omega)] <;> omega) | (rw [k0_ne (by omega)] <;> omega)) ?_
      refine z_to 230 400 hk rfl ?_
      exact at230 s 512 hs (Or.inr rfl)
  refine z_run 400 hk rfl ?_
  refine z_ins rfl rfl rfl rfl (l_low d T _ _ _ hk (by omega) (by omega) ?_)
  have h7 : lo (y >>> (nI 14 &&& 31)) 7 < 7 := lo_lt (by omega)
  generalize lo (y >>> (nI 14 &&& 31)) 7 = z at *
  by_cases h0 : z = 0
  · refine z_ifF rfl (by first | (rw [k0_lt (by omega)] <;> omega) | (rw [k0_ge (by omega)] <;> omega) | (rw [k0_gt (by omega)] <;> omega) | (rw [k0_le (by omega)] <;> omega) | (rw [k0_eq (by omega)] <;> omega) | (rw [k0_ne (by omega)] <;> omega)) ?_
    refine z_to 201 400 hk rfl ?_
    exact at201 11 (Or.inl rfl)
  · refine z_ifT rfl (by first | (rw [k0_lt (by omega)] <;> omega) | (rw [k0_ge (by omega)] <;> omega) | (rw [k0_gt (by omega)] <;> omega) | (rw [k0_le (by omega)] <;> omega) | (rw [k0_eq (by omega)] <;> omega) | (rw [k0_ne (by omega)] <;> omega)) ?_
    refine z_to 201 400 hk rfl ?_
    exact at201 10 (Or.inr rfl)
