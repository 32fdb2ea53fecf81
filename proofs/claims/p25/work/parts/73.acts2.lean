/-! ===== the law's acts, the others ===== -/
set_option maxRecDepth 100000 in
set_option maxHeartbeats 16000000 in
theorem zz_act2 (d n0 : Nat) (T : xT) (x y : Int32) (h : Nat) (Q : xQ) (hA : tA T n0) (k : ∀ T', tS T T' → tA T' (n0 + 1) → ∀ g, SG g T' → Q (some (.int (nI 1))) g) : Zx (d + 5) m_Law_acts Q 452 (aL x y h (tV T) none none none none none) [] T := by
  have hk := hA.1
  have hk0 := hk.1
  obtain ⟨⟨o1, o2, o3, o4, o5, o6⟩, o7, o8, o9, o10, o11, o12⟩ := hk0
  have hA2 := fun j t : Int32 => tA_tune (j := j) (t := t) hA
  have hS2 : ∀ j t : Int32, tS T (pCh T (eTune (tV T) j t) (vTune (tV T) (iN j) (iN t))) := fun s e => tS_ch
  generalize hV : tV T = V at *
  have at493 : ∀ c t bad : Nat, c ≤ vc V → t ≤ 9 → (bad = if c = vc V ∨ t = 9 then 1 else 0) → Zx (d + 5) m_Law_acts Q 493 (aL x y h V (some (.int (nI c))) (some (.int (nI t))) (some (.int (nI bad))) none none) [] T := by
    intro c t bad hc ht hbad
    have hA3 := hA2 (nI c) (nI t)
    have hS3 := hS2 (nI c) (nI t)
    have htc : (nI 0 ≤ nI t ∧ nI t ≤ nI 8) ↔ t ≤ 8 := by rw [nI_leI (by omega) (by omega), nI_leI (by omega) (by omega)]; omega
    have ic : iN (nI c) = c := iN_nI (by omega)
    have it : iN (nI t) = t := iN_nI (by omega)
    have at513 : ∀ had : Nat, (c < vc V → had = vtn V c) → Zx (d + 5) m_Law_acts Q 513 (aL x y h V (some (.int (nI c))) (some (.int (nI t))) (some (.int (nI bad))) (some (.int (nI had))) none) [] T := by
      intro had hhad
      refine z_run 400 hk rfl ?_
      refine z_tune hk rfl rfl ?_
      rw [hV]
      by_cases hbd : c = vc V ∨ t = 9
      · rw [if_pos hbd] at hbad
        have hE : eTune V (nI c) (nI t) = -1000001 := by
          unfold eTune
          exact if_neg (fun z => by
            have z2 := htc.mp z.2
            have z1 := z.1
            rw [ic] at z1
            omega)
        have hneg : eTune V (nI c) (nI t) < 0 := by rw [hE]; decide
        rw [pCh_no hneg] at hA3 hS3
        rw [aCh_no hneg, pCh_no hneg, hE]
        rw [hbad]
        refine z_run 400 hk rfl ?_
        refine z_ifF rfl (by first | (rw [k0_lt (by omega)] <;> omega) | (rw [k0_ge (by omega)] <;> omega) | (rw [k0_gt (by omega)] <;> omega) | (rw [k0_le (by omega)] <;> omega) | (rw [k0_eq (by omega)] <;> omega) | (rw [k0_ne (by omega)] <;> omega)) ?_
        refine z_run 400 hk rfl ?_
        refine z_icF rfl (kx_same) ?_
        refine z_run 400 hk rfl ?_
        by_cases hcc : c = vc V
        · refine z_icT rfl (by first | exact kx_same | exact kx_eq | (rw [k_lt (by omega) (by omega)] <;> omega) | (rw [k_ge (by omega) (by omega)] <;> omega) | (rw [k_gt (by omega) (by omega)] <;> omega) | (rw [k_le (by omega) (by omega)] <;> omega) | (rw [k_eq (by omega) (by omega)] <;> omega) | (rw [k_ne (by omega) (by omega)] <;> omega)) ?_
          refine z_run 400 hk rfl ?_
          exact z_zret rfl rfl (by decide) (k T hS3 hA3)
        · refine z_icF rfl (by first | exact kx_same | exact kx_eq | (rw [k_lt (by omega) (by omega)] <;> omega) | (rw [k_ge (by omega) (by omega)] <;> omega) | (rw [k_gt (by omega) (by omega)] <;> omega) | (rw [k_le (by omega) (by omega)] <;> omega) | (rw [k_eq (by omega) (by omega)] <;> omega) | (rw [k_ne (by omega) (by omega)] <;> omega)) ?_
          refine z_run 400 hk rfl ?_
          refine z_ifF rfl (by first | (rw [k0_lt (by omega)] <;> omega) | (rw [k0_ge (by omega)] <;> omega) | (rw [k0_gt (by omega)] <;> omega) | (rw [k0_le (by omega)] <;> omega) | (rw [k0_eq (by omega)] <;> omega) | (rw [k0_ne (by omega)] <;> omega)) ?_
          refine z_run 400 hk rfl ?_
          have q0 : qChair (tV T) (nI c) (nI 0) = nI (vtn V c) := by rw [hV]; exact qh0 (by omega) o5
          rw [q0, hhad (by omega)]
          refine z_icF rfl (kx_same) ?_
          refine z_run 400 hk rfl ?_
          exact z_zret rfl rfl (by decide) (k T hS3 hA3)
      · rw [if_neg hbd] at hbad
        have hlt : c < vc V := by omega
        have hE : eTune V (nI c) (nI t) = nI 0 := by
          unfold eTune
          exact if_pos ⟨by rw [ic]; exact hlt, htc.mpr (by omega)⟩
        have eV := pCh_V (T := T) (V' := vTune V (iN (nI c)) (iN (nI t))) hE
        rw [ic, it] at eV hA3 hS3
        rw [aCh_V hE, ic, it]
        generalize hT2 : pCh T (eTune V (nI c) (nI t)) (vTune V c t) = T2 at *
        have hk := hA3.1
        rw [hbad, hhad hlt]
        refine z_run 400 hk rfl ?_
        refine z_ifT rfl (by first | (rw [k0_lt (by omega)] <;> omega) | (rw [k0_ge (by omega)] <;> omega) | (rw [k0_gt (by omega)] <;> omega) | (rw [k0_le (by omega)] <;> omega) | (rw [k0_eq (by omega)] <;> omega) | (rw [k0_ne (by omega)] <;> omega)) ?_
        refine z_run 400 hk rfl ?_
        refine z_icF rfl (kx_same) ?_
        refine z_run 400 hk rfl ?_
        refine z_icF rfl (by first | exact kx_same | exact kx_eq | (rw [k_lt (by omega) (by omega)] <;> omega) | (rw [k_ge (by omega) (by omega)] <;> omega) | (rw [k_gt (by omega) (by omega)] <;> omega) | (rw [k_le (by omega) (by omega)] <;> omega) | (rw [k_eq (by omega) (by omega)] <;> omega) | (rw [k_ne (by omega) (by omega)] <;> omega)) ?_
        refine z_run 400 hk rfl ?_
        refine z_ifT rfl (by first | (rw [k0_lt (by omega)] <;> omega) | (rw [k0_ge (by omega)] <;> omega) | (rw [k0_gt (by omega)] <;> omega) | (rw [k0_le (by omega)] <;> omega) | (rw [k0_eq (by omega)] <;> omega) | (rw [k0_ne (by omega)] <;> omega)) ?_
        refine z_run 400 hk rfl ?_
        have q0 : qChair (tV T2) (nI c) (nI 0) = nI t := by
          rw [eV, qh0 (V := vTune V c t) hlt o5]
          show nI (if c = c then t else vtn V c) = _
          rw [if_pos rfl]
        rw [q0]
        refine z_icF rfl (kx_same) ?_
        refine z_run 400 hk rfl ?_
        exact z_zret rfl rfl (by decide) (k T2 hS3 hA3)
    refine z_run 400 hk rfl ?_
    by_cases hcc : c = vc V
    · refine z_icF rfl (by first | exact kx_same | exact kx_eq | (rw [k_lt (by omega) (by omega)] <;> omega) | (rw [k_ge (by omega) (by omega)] <;> omega) | (rw [k_gt (by omega) (by omega)] <;> omega) | (rw [k_le (by omega) (by omega)] <;> omega) | (rw [k_eq (by omega) (by omega)] <;> omega) | (rw [k_ne (by omega) (by omega)] <;> omega)) ?_
      refine z_to 513 400 hk rfl ?_
      exact at513 0 (fun z => by omega)
    · refine z_icT rfl (by first | exact kx_same | exact kx_eq | (rw [k_lt (by omega) (by omega)] <;> omega) | (rw [k_ge (by omega) (by omega)] <;> omega) | (rw [k_gt (by omega) (by omega)] <;> omega) | (rw [k_le (by omega) (by omega)] <;> omega) | (rw [k_eq (by omega) (by omega)] <;> omega) | (rw [k_ne (by omega) (by omega)] <;> omega)) ?_
      refine z_to 513 400 hk rfl ?_
      have q0 : qChair (tV T) (nI c) (nI 0) = nI (vtn V c) := by rw [hV]; exact qh0 (by omega) o5
      rw [q0]
      exact at513 _ (fun _ => rfl)
  refine z_run 400 hk rfl ?_
  rw [nI_add]
  refine z_ins rfl rfl rfl rfl (l_low d T _ _ _ hk (by omega) (by omega) ?_)
  have hc : lo y (vc V + 1) ≤ vc V := Nat.le_of_lt_succ (lo_lt (by omega))
  generalize lo y (vc V + 1) = c at *
  refine z_run 400 hk rfl ?_
  refine z_ins rfl rfl rfl rfl (l_low d T _ _ _ hk (by omega) (by omega) ?_)
  have ht : lo (y >>> (nI 4 &&& 31)) 10 < 10 := lo_lt (by omega)
  generalize lo (y >>> (nI 4 &&& 31)) 10 = t at *
  refine z_run 400 hk rfl ?_
  by_cases hcc : c = vc V
  · refine z_icT rfl (by first | exact kx_same | exact kx_eq | (rw [k_lt (by omega) (by omega)] <;> omega) | (rw [k_ge (by omega) (by omega)] <;> omega) | (rw [k_gt (by omega) (by omega)] <;> omega) | (rw [k_le (by omega) (by omega)] <;> omega) | (rw [k_eq (by omega) (by omega)] <;> omega) | (rw [k_ne (by omega) (by omega)] <;> omega)) ?_
    refine z_to 493 400 hk rfl ?_
    exact at493 c t 1 hc (by omega) (by rw [if_pos (Or.inl hcc)])
  · refine z_icF rfl (by first | exact kx_same | exact kx_eq | (rw [k_lt (by omega) (by omega)] <;> omega) | (rw [k_ge (by omega) (by omega)] <;> omega) | (rw [k_gt (by omega) (by omega)] <;> omega) | (rw [k_le (by omega) (by omega)] <;> omega) | (rw [k_eq (by omega) (by omega)] <;> omega) | (rw [k_ne (by omega) (by omega)] <;> omega)) ?_
    refine z_run 400 hk rfl ?_
    by_cases h9 : t = 9
    · refine z_icF rfl (by first | exact kx_same | exact kx_eq | (rw [k_lt (by omega) (by omega)] <;> omega) | (rw [k_ge (by omega) (by omega)] <;> omega) | (rw [k_gt (by omega) (by omega)] <;> omega) | (rw [k_le (by omega) (by omega)] <;> omega) | (rw [k_eq (by omega) (by omega)] <;> omega) | (rw [k_ne (by omega) (by omega)] <;> omega)) ?_
      refine z_to 493 400 hk rfl ?_
      exact at493 c t 1 hc (by omega) (by rw [if_pos (Or.inr h9)])
    · refine z_icT rfl (by first | exact kx_same | exact kx_eq | (rw [k_lt (by omega) (by omega)] <;> omega) | (rw [k_ge (by omega) (by omega)] <;> omega) | (rw [k_gt (by omega) (by omega)] <;> omega) | (rw [k_le (by omega) (by omega)] <;> omega) | (rw [k_eq (by omega) (by omega)] <;> omega) | (rw [k_ne (by omega) (by omega)] <;> omega)) ?_
      refine z_to 493 400 hk rfl ?_
      exact at493 c t 0 hc (by omega) (by rw [if_neg (by omega)])
set_option maxRecDepth 100000 in
set_option maxHeartbeats 16000000 in
theorem zz_act3 (d n0 : Nat) (T : xT) (x y : Int32) (h : Nat) (Q : xQ) (hA : tA T n0) (k : ∀ T', tS T T' → tA T' (n0 + 1) → ∀ g, SG g T' → Q (some (.int (nI 1))) g) : Zx (d + 5) m_Law_acts Q 577 (aL x y h (tV T) none none none none none) [] T := by
  have hk := hA.1
  have hk0 := hk.1
  obtain ⟨⟨o1, o2, o3, o4, o5, o6⟩, o7, o8, o9, o10, o11, o12⟩ := hk0
  have hA2 := fun q s e : Int32 => tA_train (q := q) (s := s) (e := e) hA
  have hS2 : ∀ q s e : Int32, tS T (pCh T (eTrain (tV T) q s e) (vTrain (tV T) (iN q) (iN s) (iN e))) := fun q s e => tS_ch
  generalize hV : tV T = V at *
  have at655 : ∀ p s e bad : Nat, p ≤ vn V → s ≤ 10 → e ≤ 512 → (bad = if p = vn V ∨ s = 10 ∨ e = 512 then 1 else 0) → Zx (d + 5) m_Law_acts Q 655 (aL x y h V (some (.int (nI p))) (some (.int (nI s))) (some (.int (nI e))) (some (.int (nI bad))) none) [] T := by
    intro p s e bad hp hs he hbad
    have hA3 := hA2 (nI p) (nI s) (nI e)
    have hS3 := hS2 (nI p) (nI s) (nI e)
    have hsc : (nI 0 ≤ nI s ∧ nI s ≤ nI 9) ↔ s ≤ 9 := by rw [nI_leI (by omega) (by omega), nI_leI (by omega) (by omega)]; omega
    have hec : (nI 0 ≤ nI e ∧ nI e ≤ nI 511) ↔ e ≤ 511 := by rw [nI_leI (by omega) (by omega), nI_leI (by omega) (by omega)]; omega
    have ip : iN (nI p) = p := iN_nI (by omega)
    have is : iN (nI s) = s := iN_nI (by omega)
    have ie : iN (nI e) = e := iN_nI (by omega)
    have at675 : ∀ had : Nat, (p < vn V → had = vea V p) → Zx (d + 5) m_Law_acts Q 675 (aL x y h V (some (.int (nI p))) (some (.int (nI s))) (some (.int (nI e))) (some (.int (nI bad))) (some (.int (nI had)))) [] T := by
      intro had hhad
      refine z_run 400 hk rfl ?_
      refine z_train hk rfl rfl ?_
      rw [hV]
      by_cases hbd : p = vn V ∨ s = 10 ∨ e = 512
      · rw [if_pos hbd] at hbad
        have hE : eTrain V (nI p) (nI s) (nI e) = -1000001 := by
          unfold eTrain
          exact if_neg (fun z => by
            have z1 := z.1
            have z2 := hsc.mp z.2.1
            have z3 := hec.mp z.2.2
            rw [ip] at z1
            omega)
        have hneg : eTrain V (nI p) (nI s) (nI e) < 0 := by rw [hE]; decide
        rw [pCh_no hneg] at hA3 hS3
        rw [aCh_no hneg, pCh_no hneg, hE]
        rw [hbad]
        refine z_run 400 hk rfl ?_
        refine z_ifF rfl (by first | (rw [k0_lt (by omega)] <;> omega) | (rw [k0_ge (by omega)] <;> omega) | (rw [k0_gt (by omega)] <;> omega) | (rw [k0_le (by omega)] <;> omega) | (rw [k0_eq (by omega)] <;> omega) | (rw [k0_ne (by omega)] <;> omega)) ?_
        refine z_run 400 hk rfl ?_
        refine z_icF rfl (kx_same) ?_
        refine z_run 400 hk rfl ?_
        by_cases hpp : p = vn V
        · refine z_icT rfl (by first | exact kx_same | exact kx_eq | (rw [k_lt (by omega) (by omega)] <;> omega) | (rw [k_ge (by omega) (by omega)] <;> omega) | (rw [k_gt (by omega) (by omega)] <;> omega) | (rw [k_le (by omega) (by omega)] <;> omega) | (rw [k_eq (by omega) (by omega)] <;> omega) | (rw [k_ne (by omega) (by omega)] <;> omega)) ?_
          refine z_run 400 hk rfl ?_
          exact z_zret rfl rfl (by decide) (k T hS3 hA3)
        · refine z_icF rfl (by first | exact kx_same | exact kx_eq | (rw [k_lt (by omega) (by omega)] <;> omega) | (rw [k_ge (by omega) (by omega)] <;> omega) | (rw [k_gt (by omega) (by omega)] <;> omega) | (rw [k_le (by omega) (by omega)] <;> omega) | (rw [k_eq (by omega) (by omega)] <;> omega) | (rw [k_ne (by omega) (by omega)] <;> omega)) ?_
          refine z_run 400 hk rfl ?_
          refine z_ifF rfl (by first | (rw [k0_lt (by omega)] <;> omega) | (rw [k0_ge (by omega)] <;> omega) | (rw [k0_gt (by omega)] <;> omega) | (rw [k0_le (by omega)] <;> omega) | (rw [k0_eq (by omega)] <;> omega) | (rw [k0_ne (by omega)] <;> omega)) ?_
          refine z_run 400 hk rfl ?_
          have q1 : qPlayer (tV T) (nI p) (nI 1) = nI (vea V p) := by rw [hV]; exact qp1 (by omega) o6
          rw [q1, hhad (by omega)]
          refine z_icF rfl (kx_same) ?_
          refine z_run 400 hk rfl ?_
          exact z_zret rfl rfl (by decide) (k T hS3 hA3)
      · rw [if_neg hbd] at hbad
        have hlt : p < vn V := by omega
        have hE : eTrain V (nI p) (nI s) (nI e) = nI 0 := by
          unfold eTrain
          exact if_pos ⟨by rw [ip]; exact hlt, hsc.mpr (by omega), hec.mpr (by omega)⟩
        have eV := pCh_V (T := T) (V' := vTrain V (iN (nI p)) (iN (nI s)) (iN (nI e))) hE
        rw [ip, is, ie] at eV hA3 hS3
        rw [aCh_V hE, ip, is, ie]
        generalize hT2 : pCh T (eTrain V (nI p) (nI s) (nI e)) (vTrain V p s e) = T2 at *
        have hk := hA3.1
        rw [hbad, hhad hlt]
        refine z_run 400 hk rfl ?_
        refine z_ifT rfl (by first | (rw [k0_lt (by omega)] <;> omega) | (rw [k0_ge (by omega)] <;> omega) | (rw [k0_gt (by omega)] <;> omega) | (rw [k0_le (by omega)] <;> omega) | (rw [k0_eq (by omega)] <;> omega) | (rw [k0_ne (by omega)] <;> omega)) ?_
        refine z_run 400 hk rfl ?_
        refine z_icF rfl (kx_same) ?_
        refine z_run 400 hk rfl ?_
        refine z_icF rfl (by first | exact kx_same | exact kx_eq | (rw [k_lt (by omega) (by omega)] <;> omega) | (rw [k_ge (by omega) (by omega)] <;> omega) | (rw [k_gt (by omega) (by omega)] <;> omega) | (rw [k_le (by omega) (by omega)] <;> omega) | (rw [k_eq (by omega) (by omega)] <;> omega) | (rw [k_ne (by omega) (by omega)] <;> omega)) ?_
        refine z_run 400 hk rfl ?_
        refine z_ifT rfl (by first | (rw [k0_lt (by omega)] <;> omega) | (rw [k0_ge (by omega)] <;> omega) | (rw [k0_gt (by omega)] <;> omega) | (rw [k0_le (by omega)] <;> omega) | (rw [k0_eq (by omega)] <;> omega) | (rw [k0_ne (by omega)] <;> omega)) ?_
        refine z_run 400 hk rfl ?_
        have q1 : qPlayer (tV T2) (nI p) (nI 1) = nI e := by
          rw [eV, qp1 (V := vTrain V p s e) hlt o6]
          show nI (if p = p then e else vea V p) = _
          rw [if_pos rfl]
        rw [q1]
        refine z_icF rfl (kx_same) ?_
        refine z_run 400 hk rfl ?_
        exact z_zret rfl rfl (by decide) (k T2 hS3 hA3)
    refine z_run 400 hk rfl ?_
    by_cases hpp : p = vn V
    · refine z_icF rfl (by first | exact kx_same | exact kx_eq | (rw [k_lt (by omega) (by omega)] <;> omega) | (rw [k_ge (by omega) (by omega)] <;> omega) | (rw [k_gt (by omega) (by omega)] <;> omega) | (rw [k_le (by omega) (by omega)] <;> omega) | (rw [k_eq (by omega) (by omega)] <;> omega) | (rw [k_ne (by omega) (by omega)] <;> omega)) ?_
      refine z_to 675 400 hk rfl ?_
      exact at675 0 (fun z => by omega)
    · refine z_icT rfl (by first | exact kx_same | exact kx_eq | (rw [k_lt (by omega) (by omega)] <;> omega) | (rw [k_ge (by omega) (by omega)] <;> omega) | (rw [k_gt (by omega) (by omega)] <;> omega) | (rw [k_le (by omega) (by omega)] <;> omega) | (rw [k_eq (by omega) (by omega)] <;> omega) | (rw [k_ne (by omega) (by omega)] <;> omega)) ?_
      refine z_to 675 400 hk rfl ?_
      have q1 : qPlayer (tV T) (nI p) (nI 1) = nI (vea V p) := by rw [hV]; exact qp1 (by omega) o6
      rw [q1]
      exact at675 _ (fun _ => rfl)
  have at609 : ∀ p m : Nat, p ≤ vn V → (m = 11 ∨ m = 10) → Zx (d + 5) m_Law_acts Q 609 (aL x y h V (some (.int (nI p))) none none none none) [.int (nI m), .int (y >>> (nI 4 &&& 31))] T := by
    intro p m hp hm
    refine z_ins rfl rfl rfl rfl (l_low d T _ _ _ hk (by omega) (by omega) ?_)
    have hs : lo (y >>> (nI 4 &&& 31)) m ≤ 10 := by
      have := lo_lt (v := y >>> (nI 4 &&& 31)) (show 0 < m by omega)
      omega
    generalize lo (y >>> (nI 4 &&& 31)) m = s at *
    refine z_run 400 hk rfl ?_
    refine z_ins rfl rfl rfl rfl (l_low d T _ _ _ hk (by omega) (by omega) ?_)
    have he : lo (y >>> (nI 7 &&& 31)) 513 < 513 := lo_lt (by omega)
    generalize lo (y >>> (nI 7 &&& 31)) 513 = e at *
    refine z_run 400 hk rfl ?_
    by_cases hpp : p = vn V
    · refine z_icT rfl (by first | exact kx_same | exact kx_eq | (rw [k_lt (by omega) (by omega)] <;> omega) | (rw [k_ge (by omega) (by omega)] <;> omega) | (rw [k_gt (by omega) (by omega)] <;> omega) | (rw [k_le (by omega) (by omega)] <;> omega) | (rw [k_eq (by omega) (by omega)] <;> omega) | (rw [k_ne (by omega) (by omega)] <;> omega)) ?_
      refine z_to 655 400 hk rfl ?_
      exact at655 p s e 1 hp hs (by omega) (by rw [if_pos (Or.inl hpp)])
    · refine z_icF rfl (by first | exact kx_same | exact kx_eq | (rw [k_lt (by omega) (by omega)] <;> omega) | (rw [k_ge (by omega) (by omega)] <;> omega) | (rw [k_gt (by omega) (by omega)] <;> omega) | (rw [k_le (by omega) (by omega)] <;> omega) | (rw [k_eq (by omega) (by omega)] <;> omega) | (rw [k_ne (by omega) (by omega)] <;> omega)) ?_
      refine z_run 400 hk rfl ?_
      by_cases hs10 : s = 10
      · refine z_icT rfl (by first | exact kx_same | exact kx_eq | (rw [k_lt (by omega) (by omega)] <;> omega) | (rw [k_ge (by omega) (by omega)] <;> omega) | (rw [k_gt (by omega) (by omega)] <;> omega) | (rw [k_le (by omega) (by omega)] <;> omega) | (rw [k_eq (by omega) (by omega)] <;> omega) | (rw [k_ne (by omega) (by omega)] <;> omega)) ?_
        refine z_to 655 400 hk rfl ?_
        exact at655 p s e 1 hp hs (by omega) (by rw [if_pos (by omega)])
      · refine z_icF rfl (by first | exact kx_same | exact kx_eq | (rw [k_lt (by omega) (by omega)] <;> omega) | (rw [k_ge (by omega) (by omega)] <;> omega) | (rw [k_gt (by omega) (by omega)] <;> omega) | (rw [k_le (by omega) (by omega)] <;> omega) | (rw [k_eq (by omega) (by omega)] <;> omega) | (rw [k_ne (by omega) (by omega)] <;> omega)) ?_
        refine z_run 400 hk rfl ?_
        by_cases he5 : e = 512
        · refine z_icF rfl (by first | exact kx_same | exact kx_eq | (rw [k_lt (by omega) (by omega)] <;> omega) | (rw [k_ge (by omega) (by omega)] <;> omega) | (rw [k_gt (by omega) (by omega)] <;> omega) | (rw [k_le (by omega) (by omega)] <;> omega) | (rw [k_eq (by omega) (by omega)] <;> omega) | (rw [k_ne (by omega) (by omega)] <;> omega)) ?_
          refine z_to 655 400 hk rfl ?_
          exact at655 p s e 1 hp hs (by omega) (by rw [if_pos (by omega)])
        · refine z_icT rfl (by first | exact kx_same | exact kx_eq | (rw [k_lt (by omega) (by omega)] <;> omega) | (rw [k_ge (by omega) (by omega)] <;> omega) | (rw [k_gt (by omega) (by omega)] <;> omega) | (rw [k_le (by omega) (by omega)] <;> omega) | (rw [k_eq (by omega) (by omega)] <;> omega) | (rw [k_ne (by omega) (by omega)] <;> omega)) ?_
          refine z_to 655 400 hk rfl ?_
          exact at655 p s e 0 hp hs (by omega) (by rw [if_neg (by omega)])
  refine z_run 400 hk rfl ?_
  rw [nI_add]
  refine z_ins rfl rfl rfl rfl (l_low d T _ _ _ hk (by omega) (by omega) ?_)
  have hp : lo y (vn V + 1) ≤ vn V := Nat.le_of_lt_succ (lo_lt (by omega))
  generalize lo y (vn V + 1) = p at *
  refine z_run 400 hk rfl ?_
  refine z_ins rfl rfl rfl rfl (l_low d T _ _ _ hk (by omega) (by omega) ?_)
  have h7 : lo (y >>> (nI 14 &&& 31)) 7 < 7 := lo_lt (by omega)
  generalize lo (y >>> (nI 14 &&& 31)) 7 = z at *
  by_cases h0 : z = 0
  · refine z_ifF rfl (by first | (rw [k0_lt (by omega)] <;> omega) | (rw [k0_ge (by omega)] <;> omega) | (rw [k0_gt (by omega)] <;> omega) | (rw [k0_le (by omega)] <;> omega) | (rw [k0_eq (by omega)] <;> omega) | (rw [k0_ne (by omega)] <;> omega)) ?_
    refine z_to 609 400 hk rfl ?_
    exact at609 p 11 hp (Or.inl rfl)
  · refine z_ifT rfl (by first | (rw [k0_lt (by omega)] <;> omega) | (rw [k0_ge (by omega)] <;> omega) | (rw [k0_gt (by omega)] <;> omega) | (rw [k0_le (by omega)] <;> omega) | (rw [k0_eq (by omega)] <;> omega) | (rw [k0_ne (by omega)] <;> omega)) ?_
    refine z_to 609 400 hk rfl ?_
    exact at609 p 10 hp (Or.inr rfl)
set_option maxRecDepth 100000 in
set_option maxHeartbeats 16000000 in
theorem zz_act4 (d n0 : Nat) (T : xT) (x y : Int32) (h : Nat) (Q : xQ) (hA : tA T n0) (k : ∀ T', tS T T' → tA T' (n0 + 1) → ∀ g, SG g T' → Q (some (.int (nI 1))) g) : Zx (d + 5) m_Law_acts Q 741 (aL x y h (tV T) none none none none none) [] T := by
  have hk := hA.1
  have hk0 := hk.1
  obtain ⟨⟨o1, o2, o3, o4, o5, o6⟩, o7, o8, o9, o10, o11, o12⟩ := hk0
  have hA2 := fun w v : Int32 => tA_set (w := w) (v := v) hA
  have hS2 : ∀ w v : Int32, tS T (pCh T (eSet w v) (vSet (tV T) (iN v))) := fun w v => tS_ch
  generalize hV : tV T = V at *
  have at797 : ∀ w v bad : Nat, w < 2 → v < 5 → (bad = if w = 1 ∨ v = 0 ∨ v = 4 then 1 else 0) → Zx (d + 5) m_Law_acts Q 797 (aL x y h V (some (.int (nI w))) (some (.int (nI v))) (some (.int (nI (vfw V)))) (some (.int (nI bad))) none) [] T := by
    intro w v bad hw hv hbad
    have hA3 := hA2 (nI w) (nI v)
    have hS3 := hS2 (nI w) (nI v)
    have hvc : (nI 1 ≤ nI v ∧ nI v ≤ nI 3) ↔ 1 ≤ v ∧ v ≤ 3 := by rw [nI_leI (by omega) (by omega), nI_leI (by omega) (by omega)]
    have hwc : nI w = 0 ↔ w = 0 := nI_eq (b := 0) (by omega) (by omega)
    have iv : iN (nI v) = v := iN_nI (by omega)
    refine z_run 400 hk rfl ?_
    refine z_set hk rfl rfl ?_
    rw [hV]
    by_cases hbd : w = 1 ∨ v = 0 ∨ v = 4
    · rw [if_pos hbd] at hbad
      have hE : eSet (nI w) (nI v) = -1000001 := by
        unfold eSet
        exact if_neg (fun z => by
          have z1 := hwc.mp z.1
          have z2 := hvc.mp z.2
          omega)
      have hneg : eSet (nI w) (nI v) < 0 := by rw [hE]; decide
      rw [pCh_no hneg] at hA3 hS3
      rw [aCh_no hneg, pCh_no hneg, hE]
      rw [hbad]
      refine z_run 400 hk rfl ?_
      refine z_ifF rfl (by first | (rw [k0_lt (by omega)] <;> omega) | (rw [k0_ge (by omega)] <;> omega) | (rw [k0_gt (by omega)] <;> omega) | (rw [k0_le (by omega)] <;> omega) | (rw [k0_eq (by omega)] <;> omega) | (rw [k0_ne (by omega)] <;> omega)) ?_
      refine z_run 400 hk rfl ?_
      refine z_icF rfl (kx_same) ?_
      refine z_run 400 hk rfl ?_
      rw [qc20, hV]
      refine z_ifF rfl (by first | (rw [k0_lt (by omega)] <;> omega) | (rw [k0_ge (by omega)] <;> omega) | (rw [k0_gt (by omega)] <;> omega) | (rw [k0_le (by omega)] <;> omega) | (rw [k0_eq (by omega)] <;> omega) | (rw [k0_ne (by omega)] <;> omega)) ?_
      refine z_run 400 hk rfl ?_
      refine z_icF rfl (kx_same) ?_
      refine z_run 400 hk rfl ?_
      exact z_zret rfl rfl (by decide) (k T hS3 hA3)
    · rw [if_neg hbd] at hbad
      have hE : eSet (nI w) (nI v) = nI 0 := by
        unfold eSet
        exact if_pos ⟨hwc.mpr (by omega), hvc.mpr (by omega)⟩
      have eV := pCh_V (T := T) (V' := vSet V (iN (nI v))) hE
      rw [iv] at eV hA3 hS3
      rw [aCh_V hE, iv]
      generalize hT2 : pCh T (eSet (nI w) (nI v)) (vSet V v) = T2 at *
      have hk := hA3.1
      have e20 : qCount T2 (iN (nI 20)) = nI v := by rw [qc20, eV]; rfl
      rw [hbad]
      refine z_run 400 hk rfl ?_
      refine z_ifT rfl (by first | (rw [k0_lt (by omega)] <;> omega) | (rw [k0_ge (by omega)] <;> omega) | (rw [k0_gt (by omega)] <;> omega) | (rw [k0_le (by omega)] <;> omega) | (rw [k0_eq (by omega)] <;> omega) | (rw [k0_ne (by omega)] <;> omega)) ?_
      refine z_run 400 hk rfl ?_
      refine z_icF rfl (kx_same) ?_
      refine z_run 400 hk rfl ?_
      rw [e20]
      refine z_ifT rfl (by first | (rw [k0_lt (by omega)] <;> omega) | (rw [k0_ge (by omega)] <;> omega) | (rw [k0_gt (by omega)] <;> omega) | (rw [k0_le (by omega)] <;> omega) | (rw [k0_eq (by omega)] <;> omega) | (rw [k0_ne (by omega)] <;> omega)) ?_
      refine z_run 400 hk rfl ?_
      refine z_icF rfl (kx_same) ?_
      refine z_run 400 hk rfl ?_
      exact z_zret rfl rfl (by decide) (k T2 hS3 hA3)
  have at754 : ∀ w : Nat, w < 2 → Zx (d + 5) m_Law_acts Q 754 (aL x y h V none none none none none) [.int (nI w)] T := by
    intro w hw
    refine z_run 400 hk rfl ?_
    refine z_ins rfl rfl rfl rfl (l_low d T _ _ _ hk (by omega) (by omega) ?_)
    have hv : lo (y >>> (nI 3 &&& 31)) 5 < 5 := lo_lt (by omega)
    generalize lo (y >>> (nI 3 &&& 31)) 5 = v at *
    refine z_run 400 hk rfl ?_
    rw [qc20, hV]
    by_cases h1 : w = 1
    · refine z_icT rfl (by first | exact kx_same | exact kx_eq | (rw [k_lt (by omega) (by omega)] <;> omega) | (rw [k_ge (by omega) (by omega)] <;> omega) | (rw [k_gt (by omega) (by omega)] <;> omega) | (rw [k_le (by omega) (by omega)] <;> omega) | (rw [k_eq (by omega) (by omega)] <;> omega) | (rw [k_ne (by omega) (by omega)] <;> omega)) ?_
      refine z_to 797 400 hk rfl ?_
      exact at797 w v 1 hw hv (by rw [if_pos (Or.inl h1)])
    · refine z_icF rfl (by first | exact kx_same | exact kx_eq | (rw [k_lt (by omega) (by omega)] <;> omega) | (rw [k_ge (by omega) (by omega)] <;> omega) | (rw [k_gt (by omega) (by omega)] <;> omega) | (rw [k_le (by omega) (by omega)] <;> omega) | (rw [k_eq (by omega) (by omega)] <;> omega) | (rw [k_ne (by omega) (by omega)] <;> omega)) ?_
      refine z_run 400 hk rfl ?_
      by_cases h0 : v = 0
      · refine z_ifT rfl (by first | (rw [k0_lt (by omega)] <;> omega) | (rw [k0_ge (by omega)] <;> omega) | (rw [k0_gt (by omega)] <;> omega) | (rw [k0_le (by omega)] <;> omega) | (rw [k0_eq (by omega)] <;> omega) | (rw [k0_ne (by omega)] <;> omega)) ?_
        refine z_to 797 400 hk rfl ?_
        exact at797 w v 1 hw hv (by rw [if_pos (by omega)])
      · refine z_ifF rfl (by first | (rw [k0_lt (by omega)] <;> omega) | (rw [k0_ge (by omega)] <;> omega) | (rw [k0_gt (by omega)] <;> omega) | (rw [k0_le (by omega)] <;> omega) | (rw [k0_eq (by omega)] <;> omega) | (rw [k0_ne (by omega)] <;> omega)) ?_
        refine z_run 400 hk rfl ?_
        by_cases h4 : v = 4
        · refine z_icF rfl (by first | exact kx_same | exact kx_eq | (rw [k_lt (by omega) (by omega)] <;> omega) | (rw [k_ge (by omega) (by omega)] <;> omega) | (rw [k_gt (by omega) (by omega)] <;> omega) | (rw [k_le (by omega) (by omega)] <;> omega) | (rw [k_eq (by omega) (by omega)] <;> omega) | (rw [k_ne (by omega) (by omega)] <;> omega)) ?_
          refine z_to 797 400 hk rfl ?_
          exact at797 w v 1 hw hv (by rw [if_pos (by omega)])
        · refine z_icT rfl (by first | exact kx_same | exact kx_eq | (rw [k_lt (by omega) (by omega)] <;> omega) | (rw [k_ge (by omega) (by omega)] <;> omega) | (rw [k_gt (by omega) (by omega)] <;> omega) | (rw [k_le (by omega) (by omega)] <;> omega) | (rw [k_eq (by omega) (by omega)] <;> omega) | (rw [k_ne (by omega) (by omega)] <;> omega)) ?_
          refine z_to 797 400 hk rfl ?_
          exact at797 w v 0 hw hv (by rw [if_neg (by omega)])
  refine z_run 400 hk rfl ?_
  refine z_ins rfl rfl rfl rfl (l_low d T _ _ _ hk (by omega) (by omega) ?_)
  have h5 : lo y 5 < 5 := lo_lt (by omega)
  generalize lo y 5 = z at *
  by_cases h0 : z = 0
  · refine z_ifF rfl (by first | (rw [k0_lt (by omega)] <;> omega) | (rw [k0_ge (by omega)] <;> omega) | (rw [k0_gt (by omega)] <;> omega) | (rw [k0_le (by omega)] <;> omega) | (rw [k0_eq (by omega)] <;> omega) | (rw [k0_ne (by omega)] <;> omega)) ?_
    refine z_to 754 400 hk rfl ?_
    exact at754 1 (by omega)
  · refine z_ifT rfl (by first | (rw [k0_lt (by omega)] <;> omega) | (rw [k0_ge (by omega)] <;> omega) | (rw [k0_gt (by omega)] <;> omega) | (rw [k0_le (by omega)] <;> omega) | (rw [k0_eq (by omega)] <;> omega) | (rw [k0_ne (by omega)] <;> omega)) ?_
    refine z_to 754 400 hk rfl ?_
    exact at754 0 (by omega)
set_option maxRecDepth 100000 in
set_option maxHeartbeats 16000000 in
theorem zz_acts (d n0 : Nat) (T : xT) (x y : Int32) (Q : xQ) (hA : tA T n0) (hn0 : n0 < 1000) (k : ∀ T', tS T T' → tA T' (n0 + 1) → ∀ g, SG g T' → Q (some (.int (nI 1))) g) : ∀ g, SG g T → Cx (d + 9) i_Law_acts [.ref 1, .int x, .int y] g Q := by
  have hk := hA.1
  refine z_cl (L0 := [some (.ref 1), some (.int x), some (.int y), none, none, none, none, none, none, none, none, none]) rfl rfl rfl rfl ?_
  refine z_run 400 hk rfl ?_
  refine z_ins rfl rfl rfl rfl (l_low (d + 3) T _ _ _ hk (by omega) (by omega) ?_)
  have hh : lo x 30 < 30 := lo_lt (by omega)
  generalize lo x 30 = h at *
  refine z_to (L' := aL x y h (tV T) none none none none none) 28 400 hk rfl ?_
  refine z_run 400 hk rfl ?_
  by_cases h4 : h < 4
  · refine z_icF rfl (by first | exact kx_same | exact kx_eq | (rw [k_lt (by omega) (by omega)] <;> omega) | (rw [k_ge (by omega) (by omega)] <;> omega) | (rw [k_gt (by omega) (by omega)] <;> omega) | (rw [k_le (by omega) (by omega)] <;> omega) | (rw [k_eq (by omega) (by omega)] <;> omega) | (rw [k_ne (by omega) (by omega)] <;> omega)) ?_
    exact zz_act0 (d + 3) n0 T x y h Q hA k
  · refine z_icT rfl (by first | exact kx_same | exact kx_eq | (rw [k_lt (by omega) (by omega)] <;> omega) | (rw [k_ge (by omega) (by omega)] <;> omega) | (rw [k_gt (by omega) (by omega)] <;> omega) | (rw [k_le (by omega) (by omega)] <;> omega) | (rw [k_eq (by omega) (by omega)] <;> omega) | (rw [k_ne (by omega) (by omega)] <;> omega)) ?_
    refine z_run 400 hk rfl ?_
    by_cases h10 : h < 10
    · refine z_icF rfl (by first | exact kx_same | exact kx_eq | (rw [k_lt (by omega) (by omega)] <;> omega) | (rw [k_ge (by omega) (by omega)] <;> omega) | (rw [k_gt (by omega) (by omega)] <;> omega) | (rw [k_le (by omega) (by omega)] <;> omega) | (rw [k_eq (by omega) (by omega)] <;> omega) | (rw [k_ne (by omega) (by omega)] <;> omega)) ?_
      exact zz_act1 (d + 3) n0 T x y h Q hA k
    · refine z_icT rfl (by first | exact kx_same | exact kx_eq | (rw [k_lt (by omega) (by omega)] <;> omega) | (rw [k_ge (by omega) (by omega)] <;> omega) | (rw [k_gt (by omega) (by omega)] <;> omega) | (rw [k_le (by omega) (by omega)] <;> omega) | (rw [k_eq (by omega) (by omega)] <;> omega) | (rw [k_ne (by omega) (by omega)] <;> omega)) ?_
      refine z_run 400 hk rfl ?_
      by_cases h22 : h < 22
      · refine z_icF rfl (by first | exact kx_same | exact kx_eq | (rw [k_lt (by omega) (by omega)] <;> omega) | (rw [k_ge (by omega) (by omega)] <;> omega) | (rw [k_gt (by omega) (by omega)] <;> omega) | (rw [k_le (by omega) (by omega)] <;> omega) | (rw [k_eq (by omega) (by omega)] <;> omega) | (rw [k_ne (by omega) (by omega)] <;> omega)) ?_
        refine z_run 400 hk rfl ?_
        have mus : ∀ u, u < 3 → Zx (d + 8) m_Law_acts Q 441 (aL x y h (tV T) none none none none none) [.int (nI u), .ref 1] T := by
          intro u hu
          refine z_run 400 hk rfl ?_
          refine z_ins rfl rfl rfl rfl (zz_music (d + 2) n0 T u y _ hu hA hn0 (fun T' hS' hA' g hg => ?_))
          exact z_zret (T := T') rfl rfl (by decide) (k T' hS' hA') g hg
        by_cases h14 : h < 14
        · refine z_icF rfl (by first | exact kx_same | exact kx_eq | (rw [k_lt (by omega) (by omega)] <;> omega) | (rw [k_ge (by omega) (by omega)] <;> omega) | (rw [k_gt (by omega) (by omega)] <;> omega) | (rw [k_le (by omega) (by omega)] <;> omega) | (rw [k_eq (by omega) (by omega)] <;> omega) | (rw [k_ne (by omega) (by omega)] <;> omega)) ?_
          refine z_to 441 400 hk rfl ?_
          exact mus 0 (by omega)
        · refine z_icT rfl (by first | exact kx_same | exact kx_eq | (rw [k_lt (by omega) (by omega)] <;> omega) | (rw [k_ge (by omega) (by omega)] <;> omega) | (rw [k_gt (by omega) (by omega)] <;> omega) | (rw [k_le (by omega) (by omega)] <;> omega) | (rw [k_eq (by omega) (by omega)] <;> omega) | (rw [k_ne (by omega) (by omega)] <;> omega)) ?_
          refine z_run 400 hk rfl ?_
          by_cases h18 : h < 18
          · refine z_icF rfl (by first | exact kx_same | exact kx_eq | (rw [k_lt (by omega) (by omega)] <;> omega) | (rw [k_ge (by omega) (by omega)] <;> omega) | (rw [k_gt (by omega) (by omega)] <;> omega) | (rw [k_le (by omega) (by omega)] <;> omega) | (rw [k_eq (by omega) (by omega)] <;> omega) | (rw [k_ne (by omega) (by omega)] <;> omega)) ?_
            refine z_to 441 400 hk rfl ?_
            exact mus 1 (by omega)
          · refine z_icT rfl (by first | exact kx_same | exact kx_eq | (rw [k_lt (by omega) (by omega)] <;> omega) | (rw [k_ge (by omega) (by omega)] <;> omega) | (rw [k_gt (by omega) (by omega)] <;> omega) | (rw [k_le (by omega) (by omega)] <;> omega) | (rw [k_eq (by omega) (by omega)] <;> omega) | (rw [k_ne (by omega) (by omega)] <;> omega)) ?_
            refine z_to 441 400 hk rfl ?_
            exact mus 2 (by omega)
      · refine z_icT rfl (by first | exact kx_same | exact kx_eq | (rw [k_lt (by omega) (by omega)] <;> omega) | (rw [k_ge (by omega) (by omega)] <;> omega) | (rw [k_gt (by omega) (by omega)] <;> omega) | (rw [k_le (by omega) (by omega)] <;> omega) | (rw [k_eq (by omega) (by omega)] <;> omega) | (rw [k_ne (by omega) (by omega)] <;> omega)) ?_
        refine z_run 400 hk rfl ?_
        by_cases e22 : h = 22
        · refine z_icF rfl (by first | exact kx_same | exact kx_eq | (rw [k_lt (by omega) (by omega)] <;> omega) | (rw [k_ge (by omega) (by omega)] <;> omega) | (rw [k_gt (by omega) (by omega)] <;> omega) | (rw [k_le (by omega) (by omega)] <;> omega) | (rw [k_eq (by omega) (by omega)] <;> omega) | (rw [k_ne (by omega) (by omega)] <;> omega)) ?_
          exact zz_act2 (d + 3) n0 T x y h Q hA k
        · refine z_icT rfl (by first | exact kx_same | exact kx_eq | (rw [k_lt (by omega) (by omega)] <;> omega) | (rw [k_ge (by omega) (by omega)] <;> omega) | (rw [k_gt (by omega) (by omega)] <;> omega) | (rw [k_le (by omega) (by omega)] <;> omega) | (rw [k_eq (by omega) (by omega)] <;> omega) | (rw [k_ne (by omega) (by omega)] <;> omega)) ?_
          refine z_run 400 hk rfl ?_
          by_cases h25 : h < 25
          · refine z_icF rfl (by first | exact kx_same | exact kx_eq | (rw [k_lt (by omega) (by omega)] <;> omega) | (rw [k_ge (by omega) (by omega)] <;> omega) | (rw [k_gt (by omega) (by omega)] <;> omega) | (rw [k_le (by omega) (by omega)] <;> omega) | (rw [k_eq (by omega) (by omega)] <;> omega) | (rw [k_ne (by omega) (by omega)] <;> omega)) ?_
            exact zz_act3 (d + 3) n0 T x y h Q hA k
          · refine z_icT rfl (by first | exact kx_same | exact kx_eq | (rw [k_lt (by omega) (by omega)] <;> omega) | (rw [k_ge (by omega) (by omega)] <;> omega) | (rw [k_gt (by omega) (by omega)] <;> omega) | (rw [k_le (by omega) (by omega)] <;> omega) | (rw [k_eq (by omega) (by omega)] <;> omega) | (rw [k_ne (by omega) (by omega)] <;> omega)) ?_
            refine z_run 400 hk rfl ?_
            by_cases e25 : h = 25
            · refine z_icF rfl (by first | exact kx_same | exact kx_eq | (rw [k_lt (by omega) (by omega)] <;> omega) | (rw [k_ge (by omega) (by omega)] <;> omega) | (rw [k_gt (by omega) (by omega)] <;> omega) | (rw [k_le (by omega) (by omega)] <;> omega) | (rw [k_eq (by omega) (by omega)] <;> omega) | (rw [k_ne (by omega) (by omega)] <;> omega)) ?_
              exact zz_act4 (d + 3) n0 T x y h Q hA k
            · refine z_icT rfl (by first | exact kx_same | exact kx_eq | (rw [k_lt (by omega) (by omega)] <;> omega) | (rw [k_ge (by omega) (by omega)] <;> omega) | (rw [k_gt (by omega) (by omega)] <;> omega) | (rw [k_le (by omega) (by omega)] <;> omega) | (rw [k_eq (by omega) (by omega)] <;> omega) | (rw [k_ne (by omega) (by omega)] <;> omega)) ?_
              refine z_run 400 hk rfl ?_
              refine z_ins rfl rfl rfl rfl (zz_reads d n0 T y _ hA hn0 (fun T' hS' hA' g hg => ?_))
              exact z_zret (T := T') rfl rfl (by decide) (k T' hS' hA') g hg
