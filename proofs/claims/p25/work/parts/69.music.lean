/-! ===== the law's music ===== -/
theorem vBd_eqV {V W : xV} {N : Nat} (h : vBd V N) (hn : vn W = vn V) (hb : vbu W = vbu V) : vBd W (N + 1020) := by
  refine vBd_le (N := N) ?_ (by omega)
  unfold vBd at h ⊢
  rw [hn, hb]
  exact h
section TA
variable {T : xT} {n : Nat}
theorem tA_chair {t : Int32} (h : tA T n) : tA (pCh T (eChair (tV T) t) (vChair (tV T) (iN t))) (n + 1) :=
  tA_ch h (by unfold eChair; exact eE_if (eE_if (eE_if eE_3 eE_0) eE_2) eE_1) (fun e => ⟨vOk_chair h.1.1 e, vBd_eqV h.2.1.1 rfl rfl, vJ_le (vJ_chair h.2.2.1 (eChair_0 e).2.1) (by omega)⟩)
theorem tA_player {s e : Int32} (h : tA T n) : tA (pCh T (ePlayer (tV T) s e) (vPlayer (tV T) (iN s) (iN e))) (n + 1) :=
  tA_ch h (by unfold ePlayer; exact eE_if (eE_if (eE_if eE_3 eE_0) eE_2) eE_1) (fun z => ⟨vOk_player h.1.1 z, vBd_le (vBd_player h.2.1.1) (by omega), vJ_le (vJ_player h.2.2.1 (ePlayer_0 z).2.1) (by omega)⟩)
theorem tA_tune {j t : Int32} (h : tA T n) : tA (pCh T (eTune (tV T) j t) (vTune (tV T) (iN j) (iN t))) (n + 1) :=
  tA_ch h (by unfold eTune; exact eE_if eE_0 eE_1) (fun e => ⟨vOk_tune h.1.1 e, vBd_eqV h.2.1.1 rfl rfl, vJ_le (show vJ (vTune (tV T) (iN j) (iN t)) (60 * n) from h.2.2.1) (by omega)⟩)
theorem tA_train {q s e : Int32} (h : tA T n) : tA (pCh T (eTrain (tV T) q s e) (vTrain (tV T) (iN q) (iN s) (iN e))) (n + 1) :=
  tA_ch h (by unfold eTrain; exact eE_if eE_0 eE_1) (fun z => ⟨vOk_train h.1.1 z, vBd_eqV h.2.1.1 rfl rfl, vJ_le (show vJ (vTrain (tV T) (iN q) (iN s) (iN e)) (60 * n) from h.2.2.1) (by omega)⟩)
theorem tA_start (h : tA T n) : tA (pCh T (eStart (tV T)) (vStart (tV T))) (n + 1) :=
  tA_ch h (by unfold eStart; exact eE_if eE_0 eE_2) (fun e => ⟨vOk_start h.1.1 e, vBd_eqV h.2.1.1 rfl rfl, vJ_le (vJ_start h.2.2.1) (by omega)⟩)
theorem tA_beat {b : Int32} (h : tA T n) : tA (pCh T (eBeat (tV T) b) (vBeat (tV T) (iN b))) (n + 1) :=
  tA_ch h (by unfold eBeat; exact eE_if (eE_if (eE_if eE_0 eE_3) eE_2) eE_1) (fun e => ⟨vOk_beat h.1.1 e, vBd_eqV h.2.1.1 rfl rfl, vJ_le (show vJ (vBeat (tV T) (iN b)) (60 * n) from h.2.2.1) (by omega)⟩)
theorem tA_stop (h : tA T n) (hn : n < 1000) : tA (pCh T (eStop (tV T)) (vStop (tV T) (vTT (tV T) 0))) (n + 1) :=
  tA_ch h (by unfold eStop; exact eE_if eE_0 eE_2) (fun e => ⟨vOk_stop h.1.1 e, vBd_le (vBd_stop h.2.1.1 h.1.1 e) (by omega), vJ_le (vJ_stop h.2.2.1 h.1.1 e (by omega)) (by omega)⟩)
theorem tA_set {w v : Int32} (h : tA T n) : tA (pCh T (eSet w v) (vSet (tV T) (iN v))) (n + 1) :=
  tA_ch h (by unfold eSet; exact eE_if eE_0 eE_1) (fun e => ⟨vOk_set h.1.1 e, vBd_eqV h.2.1.1 rfl rfl, vJ_le (show vJ (vSet (tV T) (iN v)) (60 * n) from h.2.2.1) (by omega)⟩)
end TA
theorem pCh_no {T : xT} {E : Int32} {V' : xV} (h : E < 0) : pCh T E V' = T := if_pos h
theorem aCh_no {E : Int32} {k : Nat} (h : E < 0) : aCh E k = E := if_pos h
theorem pCh_V {T : xT} {E : Int32} {V' : xV} (h : E = nI 0) : tV (pCh T E V') = V' := by
  rw [h]
  rfl
theorem aCh_V {E : Int32} {k : Nat} (h : E = nI 0) : aCh E k = nI k := by
  rw [h]
  rfl
/-- a stop's state, by what the law looks at -/
theorem st_f (V : xV) (T : Nat) : vn (vStop V T) = vn V ∧ vrd (vStop V T) = vrd V + nI 1 ∧ vin (vStop V T) = vIn V T ∧ vbu (vStop V T) = (fun p => if vin V p = true then vbu V p + nI (XB (vX V 0 T) p) else vbu V p) ∧ vti (vStop V T) = (fun p => if vin V p = true then XT (vX V 0 T) p else vti V p) ∧ vss (vStop V T) = (fun p => if vIn V T p = true then vss V p + nI 1 else vss V p) ∧ vph (vStop V T) = (if x_cnt (vIn V T) (vn V) ≤ 1 then 2 else 0) := by
  unfold vStop
  split
  · exact ⟨rfl, rfl, rfl, rfl, rfl, rfl, rfl⟩
  · obtain ⟨a1, a2, a3, a4, a5, a6, a7, a8, a9, a10⟩ := vTk_fix (vc V - max (x_cnt (vIn V T) (vn V) - vfw V) 1) (vEnd V T 0)
    refine ⟨a5, a6, ?_, ?_, ?_, ?_, a1⟩
    · unfold vin
      rw [a10]
      rfl
    · unfold vbu
      rw [a10]
      rfl
    · unfold vti
      rw [a10]
      rfl
    · unfold vss
      rw [a10]
      rfl
theorem z_start {d : Nat} {mm : xM} {Q : xQ} {T : xT} {pc i len : Nat} {L : xL} {r : List Value} (hk : tOk T) (h : x_at mm.2.2.2.2 pc = some (.invokevirtual i, len, i_Bc_start, 0)) (hc : Nat.ble ((r.map fun v => v.category).sum) 8 = true) (k : Zx (d + 5) mm Q (pc + len) L (.int (aCh (eStart (tV T)) (x_cnt (vin (tV T)) (vn (tV T)))) :: r) (pCh T (eStart (tV T)) (vStart (tV T)))) : Zx (d + 5) mm Q pc L (.ref 1 :: r) T :=
  z_inv h rfl hc (fun g hg => s_start d T g _ hg hk (fun g' hg' _ => k g' hg'))
theorem z_beat {d : Nat} {mm : xM} {Q : xQ} {T : xT} {pc i len : Nat} {L : xL} {r : List Value} {b : Int32} (hk : tOk T) (h : x_at mm.2.2.2.2 pc = some (.invokevirtual i, len, i_Bc_beat, 1)) (hc : Nat.ble ((r.map fun v => v.category).sum) 8 = true) (k : Zx (d + 5) mm Q (pc + len) L (.int (aCh (eBeat (tV T) b) (vbt (tV T) + iN b)) :: r) (pCh T (eBeat (tV T) b) (vBeat (tV T) (iN b)))) : Zx (d + 5) mm Q pc L (.int b :: .ref 1 :: r) T :=
  z_inv h rfl hc (fun g hg => s_beat d T b g _ hg hk (fun g' hg' _ => k g' hg'))
theorem z_stop {d : Nat} {mm : xM} {Q : xQ} {T : xT} {pc i len : Nat} {L : xL} {r : List Value} (hk : tOk T) (h : x_at mm.2.2.2.2 pc = some (.invokevirtual i, len, i_Bc_stop, 0)) (hc : Nat.ble ((r.map fun v => v.category).sum) 8 = true) (k : Zx (d + 5) mm Q (pc + len) L (.int (aCh (eStop (tV T)) (x_enc (XO (vX (tV T) 0 (vTT (tV T) 0))) (vn (tV T)))) :: r) (pCh T (eStop (tV T)) (vStop (tV T) (vTT (tV T) 0)))) : Zx (d + 5) mm Q pc L (.ref 1 :: r) T :=
  z_inv h rfl hc (fun g hg => s_stop d T g _ hg hk (fun g' hg' _ => k g' hg'))
abbrev mL (h : Nat) (y : Int32) (V : xV) (a6 a7 a8 a9 a10 a11 a12 a13 : Option Value) : xL := [some (.ref 1), some (.int (nI h)), some (.int y), some (.int (nI (vph V))), some (.int (nI (vc V))), some (.int (nI (x_enc (vin V) (vn V)))), a6, a7, a8, a9, a10, a11, a12, a13]
set_option maxRecDepth 100000 in
set_option maxHeartbeats 16000000 in
theorem zz_music0 (d n0 : Nat) (T : xT) (y : Int32) (Q : xQ) (hA : tA T n0) (hn0 : n0 < 1000) (k : ∀ T', tS T T' → tA T' (n0 + 1) → ∀ g, SG g T' → Q (some (.int (nI 1))) g) : Zx (d + 5) m_Law_music Q 24 (mL 0 y (tV T) none none none none none none none none) [] T := by
  have hk := hA.1
  have hk0 := hk.1
  obtain ⟨⟨o1, o2, o3, o4, o5, o6⟩, o7, o8, o9, o10, o11, o12⟩ := hk0
  have hA2 := tA_start hA
  have hS2 : tS T (pCh T (eStart (tV T)) (vStart (tV T))) := tS_ch
  generalize hV : tV T = V at *
  have hcle := x_cnt_le (vin V) (vn V)
  have hones : ∀ (T : xT) (Q : xQ), tOk T → (∀ g, SG g T → Q (some (.int (nI (x_cnt (vin V) (vn V))))) g) → ∀ g, SG g T → Cx (d + 5) i_Law_ones [.int (nI (x_enc (vin V) (vn V)))] g Q := fun T Q hk k => l_ones d T _ Q hk (by have := enc_31 (f := vin V) (n := vn V) (by omega); omega) (fun g hg => by rw [enc_cnt (by omega)]; exact k g hg)
  by_cases hcan : vph V = 0 ∧ 1 ≤ vc V ∧ vc V < x_cnt (vin V) (vn V)
  · obtain ⟨h1, h2, h3⟩ := id hcan
    have eS : eStart V = nI 0 := if_pos hcan
    have eV := pCh_V (T := T) (V' := vStart V) eS
    have hb0 := o7 (by omega)
    refine z_run 400 hk rfl ?_
    refine z_ifF rfl (by first | (rw [k0_lt (by omega)] <;> omega) | (rw [k0_ge (by omega)] <;> omega) | (rw [k0_gt (by omega)] <;> omega) | (rw [k0_le (by omega)] <;> omega) | (rw [k0_eq (by omega)] <;> omega) | (rw [k0_ne (by omega)] <;> omega)) ?_
    refine z_run 400 hk rfl ?_
    refine z_ifF rfl (by first | (rw [k0_lt (by omega)] <;> omega) | (rw [k0_ge (by omega)] <;> omega) | (rw [k0_gt (by omega)] <;> omega) | (rw [k0_le (by omega)] <;> omega) | (rw [k0_eq (by omega)] <;> omega) | (rw [k0_ne (by omega)] <;> omega)) ?_
    refine z_run 400 hk rfl ?_
    refine z_ins rfl rfl rfl rfl (hones T _ hk ?_)
    refine z_run 400 hk rfl ?_
    refine z_icF rfl (by first | exact kx_same | exact kx_eq | (rw [k_lt (by omega) (by omega)] <;> omega) | (rw [k_ge (by omega) (by omega)] <;> omega) | (rw [k_gt (by omega) (by omega)] <;> omega) | (rw [k_le (by omega) (by omega)] <;> omega) | (rw [k_eq (by omega) (by omega)] <;> omega) | (rw [k_ne (by omega) (by omega)] <;> omega)) ?_
    refine z_run 400 hk rfl ?_
    refine z_start hk rfl rfl ?_
    rw [hV, aCh_V eS]
    generalize hT2 : pCh T (eStart V) (vStart V) = T2 at *
    have hk := hA2.1
    have e0 : qCount T2 (iN (nI 0)) = nI 1 := by rw [qc0, eV]; rfl
    have e1 : qCount T2 (iN (nI 1)) = nI (vc V) := by rw [qc1, eV]; rfl
    have e5 : qCount T2 (iN (nI 5)) = nI 0 := by rw [qc5, eV, ← hb0]; rfl
    refine z_run 400 hk rfl ?_
    refine z_ifF rfl (by first | (rw [k0_lt (by omega)] <;> omega) | (rw [k0_ge (by omega)] <;> omega) | (rw [k0_gt (by omega)] <;> omega) | (rw [k0_le (by omega)] <;> omega) | (rw [k0_eq (by omega)] <;> omega) | (rw [k0_ne (by omega)] <;> omega)) ?_
    refine z_run 400 hk rfl ?_
    refine z_ins rfl rfl rfl rfl (hones T2 _ hk ?_)
    refine z_run 400 hk rfl ?_
    refine z_icF rfl (kx_same) ?_
    refine z_run 400 hk rfl ?_
    refine z_ifF rfl (by first | (rw [k0_lt (by omega)] <;> omega) | (rw [k0_ge (by omega)] <;> omega) | (rw [k0_gt (by omega)] <;> omega) | (rw [k0_le (by omega)] <;> omega) | (rw [k0_eq (by omega)] <;> omega) | (rw [k0_ne (by omega)] <;> omega)) ?_
    refine z_run 400 hk rfl ?_
    rw [e0]
    refine z_icF rfl (kx_same) ?_
    refine z_run 400 hk rfl ?_
    refine z_ifF rfl (by first | (rw [k0_lt (by omega)] <;> omega) | (rw [k0_ge (by omega)] <;> omega) | (rw [k0_gt (by omega)] <;> omega) | (rw [k0_le (by omega)] <;> omega) | (rw [k0_eq (by omega)] <;> omega) | (rw [k0_ne (by omega)] <;> omega)) ?_
    refine z_run 400 hk rfl ?_
    rw [e5]
    refine z_ifF rfl (by first | (rw [k0_lt (by omega)] <;> omega) | (rw [k0_ge (by omega)] <;> omega) | (rw [k0_gt (by omega)] <;> omega) | (rw [k0_le (by omega)] <;> omega) | (rw [k0_eq (by omega)] <;> omega) | (rw [k0_ne (by omega)] <;> omega)) ?_
    refine z_run 400 hk rfl ?_
    rw [e1]
    refine z_icF rfl (kx_same) ?_
    refine z_run 400 hk rfl ?_
    exact z_zret rfl rfl (by decide) (k T2 hS2 hA2)
  · have eS : eStart V = -1000002 := if_neg hcan
    have hneg : eStart V < 0 := by rw [eS]; decide
    have at47 : Zx (d + 5) m_Law_music Q 47 (mL 0 y V none none none none none none none none) [] T := by
      refine z_run 400 hk rfl ?_
      refine z_start hk rfl rfl ?_
      rw [hV, aCh_no hneg, pCh_no hneg, eS]
      rw [pCh_no hneg] at hS2 hA2
      refine z_run 400 hk rfl ?_
      refine z_ifT rfl (by first | (rw [k0_lt (by omega)] <;> omega) | (rw [k0_ge (by omega)] <;> omega) | (rw [k0_gt (by omega)] <;> omega) | (rw [k0_le (by omega)] <;> omega) | (rw [k0_eq (by omega)] <;> omega) | (rw [k0_ne (by omega)] <;> omega)) ?_
      refine z_run 400 hk rfl ?_
      refine z_icF rfl (kx_same) ?_
      refine z_run 400 hk rfl ?_
      refine z_ifT rfl (by first | (rw [k0_lt (by omega)] <;> omega) | (rw [k0_ge (by omega)] <;> omega) | (rw [k0_gt (by omega)] <;> omega) | (rw [k0_le (by omega)] <;> omega) | (rw [k0_eq (by omega)] <;> omega) | (rw [k0_ne (by omega)] <;> omega)) ?_
      refine z_run 400 hk rfl ?_
      rw [qc0, hV]
      refine z_icF rfl (kx_same) ?_
      refine z_run 400 hk rfl ?_
      refine z_ifT rfl (by first | (rw [k0_lt (by omega)] <;> omega) | (rw [k0_ge (by omega)] <;> omega) | (rw [k0_gt (by omega)] <;> omega) | (rw [k0_le (by omega)] <;> omega) | (rw [k0_eq (by omega)] <;> omega) | (rw [k0_ne (by omega)] <;> omega)) ?_
      refine z_run 400 hk rfl ?_
      exact z_zret rfl rfl (by decide) (k T hS2 hA2)
    refine z_run 400 hk rfl ?_
    by_cases h1 : vph V = 0
    · refine z_ifF rfl (by first | (rw [k0_lt (by omega)] <;> omega) | (rw [k0_ge (by omega)] <;> omega) | (rw [k0_gt (by omega)] <;> omega) | (rw [k0_le (by omega)] <;> omega) | (rw [k0_eq (by omega)] <;> omega) | (rw [k0_ne (by omega)] <;> omega)) ?_
      refine z_run 400 hk rfl ?_
      by_cases h2 : 1 ≤ vc V
      · refine z_ifF rfl (by first | (rw [k0_lt (by omega)] <;> omega) | (rw [k0_ge (by omega)] <;> omega) | (rw [k0_gt (by omega)] <;> omega) | (rw [k0_le (by omega)] <;> omega) | (rw [k0_eq (by omega)] <;> omega) | (rw [k0_ne (by omega)] <;> omega)) ?_
        refine z_run 400 hk rfl ?_
        refine z_ins rfl rfl rfl rfl (hones T _ hk ?_)
        refine z_run 400 hk rfl ?_
        refine z_icT rfl (by first | exact kx_same | exact kx_eq | (rw [k_lt (by omega) (by omega)] <;> omega) | (rw [k_ge (by omega) (by omega)] <;> omega) | (rw [k_gt (by omega) (by omega)] <;> omega) | (rw [k_le (by omega) (by omega)] <;> omega) | (rw [k_eq (by omega) (by omega)] <;> omega) | (rw [k_ne (by omega) (by omega)] <;> omega)) ?_
        exact at47
      · refine z_ifT rfl (by first | (rw [k0_lt (by omega)] <;> omega) | (rw [k0_ge (by omega)] <;> omega) | (rw [k0_gt (by omega)] <;> omega) | (rw [k0_le (by omega)] <;> omega) | (rw [k0_eq (by omega)] <;> omega) | (rw [k0_ne (by omega)] <;> omega)) ?_
        exact at47
    · refine z_ifT rfl (by first | (rw [k0_lt (by omega)] <;> omega) | (rw [k0_ge (by omega)] <;> omega) | (rw [k0_gt (by omega)] <;> omega) | (rw [k0_le (by omega)] <;> omega) | (rw [k0_eq (by omega)] <;> omega) | (rw [k0_ne (by omega)] <;> omega)) ?_
      exact at47
