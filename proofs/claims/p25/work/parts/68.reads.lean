/-! ===== the law reads a text ===== -/
/-- what an act leaves: the same, or one state more in the history -/
def tS (T T' : xT) : Prop := (tV T' = tV T ∧ tK T' = tK T ∧ tH T' = tH T) ∨ (tK T' = min (tK T + 1) 4 ∧ tH T' = tPush (tV T) (tH T))
theorem tA_same {T T' : xT} {n : Nat} (h : tA T n) (h1 : tV T' = tV T) (h2 : tK T' = tK T) (h3 : tH T' = tH T) (hk : tOk T') : tA T' n := by
  obtain ⟨-, ⟨b1, b2⟩, c1, c2⟩ := h
  refine ⟨hk, ⟨by rw [h1]; exact b1, fun a ha => ?_⟩, by rw [h1]; exact c1, fun a ha => ?_⟩
  · rw [h2] at ha
    rw [h3]
    exact b2 a ha
  · rw [h2] at ha
    rw [h3]
    exact c2 a ha
/-- a change's bounds -/
theorem tA_ch {T : xT} {E : Int32} {V' : xV} {n : Nat} (h : tA T n) (he : eE E) (hV : E = nI 0 → vOk V' ∧ vBd V' (1020 * n + 1020) ∧ vJ V' (60 * n + 60)) : tA (pCh T E V') (n + 1) := by
  obtain ⟨h1, h2⟩ := tk_ch (T := T) (E := E) (V' := V') (N := 1020 * n) h.1 h.2.1 he (fun z => ⟨(hV z).1, (hV z).2.1⟩)
  refine ⟨h1, h2, ?_⟩
  refine tJ_ch (m := 60 * n) h.2.2 (by omega) (fun z => ?_)
  rcases he with he | he
  · exact absurd he z
  · exact (hV he).2.2
theorem tS_ch {T : xT} {E : Int32} {V' : xV} : tS T (pCh T E V') := by
  unfold pCh
  split
  · exact Or.inl ⟨rfl, rfl, rfl⟩
  · exact Or.inr ⟨rfl, rfl⟩
theorem tS_same {T T1 T' : xT} (h1 : tV T1 = tV T) (h2 : tK T1 = tK T) (h3 : tH T1 = tH T) (h : tS T1 T') : tS T T' := by
  unfold tS at h ⊢
  rw [h1, h2, h3] at h
  exact h
theorem ePlay_E (T : xT) : eE (ePlay T) := by
  unfold ePlay
  exact eE_if eE_0 eE_2
theorem tA_play {T : xT} {n : Nat} (h : tA T n) (hn : n < 1000) : tA (pCh T (ePlay T) (tRun T).1) (n + 1) :=
  tA_ch h (ePlay_E T) (fun _ => ⟨oRun_ok 60 0 0 h.1.1, vBd_run 60 0 0 h.1.1 h.2.1.1, vJ_run 60 0 0 h.1.1 h.2.2.1 (by omega)⟩)
abbrev rL (x : Int32) (n l4 l5 : Nat) (f0 f1 f2 told : Int32) (l10 : Option Value) : xL := [some (.ref 1), some (.int x), some (.int (nI n)), some (.int (nI 1)), some (.int (nI l4)), some (.int (nI l5)), some (.int f0), some (.int f1), some (.int f2), some (.int told), l10]
theorem qf_no {T : xT} {w : Nat} (hw : w < 3) (h : (tRun T).2.2.1 = 0) : qFault T (nI w) = -1000004 := by
  unfold qFault
  rw [iN_nI (by omega), if_pos hw, if_pos h]
theorem qf_0 {T : xT} (h : ¬ (tRun T).2.2.1 = 0) : qFault T (nI 0) = nI (tRun T).2.2.2.1 := by
  unfold qFault
  rw [iN_nI (by omega), if_pos (by omega), if_neg h, if_pos rfl]
theorem qf_1 {T : xT} (h : ¬ (tRun T).2.2.1 = 0) : qFault T (nI 1) = nI (tRun T).2.2.1 := by
  unfold qFault
  rw [iN_nI (by omega), if_pos (by omega), if_neg h, if_neg (by omega), if_pos rfl]
theorem qf_2 {T : xT} (h : ¬ (tRun T).2.2.1 = 0) : qFault T (nI 2) = (tRun T).2.2.2.2 := by
  unfold qFault
  rw [iN_nI (by omega), if_pos (by omega), if_neg h, if_neg (by omega), if_neg (by omega)]
theorem z_fault {d : Nat} {mm : xM} {Q : xQ} {T : xT} {pc i len : Nat} {L : xL} {r : List Value} {w : Int32} (hk : tOk T) (h : x_at mm.2.2.2.2 pc = some (.invokevirtual i, len, i_Bc_fault, 1)) (hc : Nat.ble ((r.map fun v => v.category).sum) 8 = true) (k : Zx (d + 7) mm Q (pc + len) L (.int (qFault T w) :: r) T) : Zx (d + 7) mm Q pc L (.int w :: .ref 1 :: r) T :=
  z_inv h rfl hc (fun g hg => s_fault d T w g _ hg hk (fun g' hg' _ => k g' hg'))
theorem z_play {d : Nat} {mm : xM} {Q : xQ} {T : xT} {pc i len : Nat} {L : xL} {r : List Value} (hk : tOk T) (h : x_at mm.2.2.2.2 pc = some (.invokevirtual i, len, i_Bc_play, 0)) (hc : Nat.ble ((r.map fun v => v.category).sum) 8 = true) (k : Zx (d + 7) mm Q (pc + len) L (.int (aCh (ePlay T) (tRun T).2.1) :: r) (pCh T (ePlay T) (tRun T).1)) : Zx (d + 7) mm Q pc L (.ref 1 :: r) T :=
  z_inv h rfl hc (fun g hg => s_play d T g _ hg hk (fun g' hg' _ => k g' hg'))
set_option maxRecDepth 100000 in
set_option maxHeartbeats 16000000 in
theorem zz_reads (d n0 : Nat) (T : xT) (x : Int32) (Q : xQ) (hA : tA T n0) (hn0 : n0 < 1000) (k : ∀ T', tS T T' → tA T' (n0 + 1) → ∀ g, SG g T' → Q (some (.int (nI 1))) g) : ∀ g, SG g T → Cx (d + 8) i_Law_reads [.ref 1, .int x] g Q := by
  have hk := hA.1
  have hn : lo x 8 < 8 := lo_lt (by omega)
  refine z_cl (L0 := [some (.ref 1), some (.int x), none, none, none, none, none, none, none, none, none]) rfl rfl rfl rfl ?_
  refine z_run 400 hk rfl ?_
  refine z_ins rfl rfl rfl rfl (l_low (d + 2) T _ _ _ hk (by omega) (by omega) ?_)
  refine z_run 400 hk rfl ?_
  refine z_ins rfl rfl rfl rfl (zz_types (d + 1) T x _ hk (fun T1 h1 h2 h3 hk hcu => ?_))
  have hA1 := tA_same hA h1 h2 h3 hk
  have hR := tRun_at hk
  have hL := hk.2.2.2.1
  have hK := hk.2.1
  generalize hn8 : lo x 8 = n at *
  refine z_run 400 hk rfl ?_
  refine z_fault hk rfl rfl ?_
  refine z_run 400 hk rfl ?_
  refine z_fault hk rfl rfl ?_
  refine z_run 400 hk rfl ?_
  refine z_fault hk rfl rfl ?_
  refine z_run 400 hk rfl ?_
  refine z_play hk rfl rfl ?_
  have hA2 := tA_play hA1 hn0
  have hS2 : tS T (pCh T1 (ePlay T1) (tRun T1).1) := tS_same h1 h2 h3 tS_ch
  by_cases hf : (tRun T1).2.2.1 = 0
  · -- no fault
    obtain ⟨r1, r2⟩ := hR.1 hf
    have r3 := hcu r2
    have eP : ePlay T1 = nI 0 := if_pos hf
    have eA : aCh (ePlay T1) (tRun T1).2.1 = nI n := by
      rw [eP, r1, r3]
      exact if_neg (by decide)
    have eT : pCh T1 (ePlay T1) (tRun T1).1 = ((tRun T1).1, min (tK T1 + 1) 4, tPush (tV T1) (tH T1), tL T1, tX T1) := by
      rw [eP]
      exact if_neg (by decide)
    generalize hT2 : pCh T1 (ePlay T1) (tRun T1).1 = T2 at *
    have hk := hA2.1
    have l2 : tL T2 = tL T1 := by rw [eT]; rfl
    have k2 : tK T2 = min (tK T1 + 1) 4 := by rw [eT]; rfl
    rw [eA, qf_no (by omega) hf, qf_no (by omega) hf, qf_no (by omega) hf]
    refine z_to (L' := rL x n (tL T1) (tK T1) (-1000004) (-1000004) (-1000004) (nI n) none) 56 400 hk rfl ?_
    refine z_run 400 hk rfl ?_
    refine z_ifF rfl (by first | (rw [k0_lt (by omega)] <;> omega) | (rw [k0_ge (by omega)] <;> omega) | (rw [k0_gt (by omega)] <;> omega) | (rw [k0_le (by omega)] <;> omega) | (rw [k0_eq (by omega)] <;> omega) | (rw [k0_ne (by omega)] <;> omega)) ?_
    refine z_run 400 hk rfl ?_
    rw [qc15, l2]
    refine z_icF rfl (kx_same) ?_
    refine z_run 400 hk rfl ?_
    refine z_icF rfl (kx_same) ?_
    refine z_run 400 hk rfl ?_
    refine z_icF rfl (kx_same) ?_
    refine z_run 400 hk rfl ?_
    refine z_icF rfl (kx_same) ?_
    refine z_run 400 hk rfl ?_
    refine z_icF rfl (kx_same) ?_
    refine z_run 400 hk rfl ?_
    refine z_icF rfl (kx_same) ?_
    refine z_run 400 hk rfl ?_
    refine z_icF rfl (kx_same) ?_
    refine z_run 400 hk rfl ?_
    refine z_icT rfl (fun z => k_nn (by omega) (by decide) z) ?_
    refine z_run 400 hk rfl ?_
    refine z_ifT rfl ((show (-1000004 : Int32) < 0 by decide)) ?_
    refine z_run 400 hk rfl ?_
    refine z_icF rfl (kx_same) ?_
    refine z_run 400 hk rfl ?_
    refine z_ifF rfl (by first | (rw [k0_lt (by omega)] <;> omega) | (rw [k0_ge (by omega)] <;> omega) | (rw [k0_gt (by omega)] <;> omega) | (rw [k0_le (by omega)] <;> omega) | (rw [k0_eq (by omega)] <;> omega) | (rw [k0_ne (by omega)] <;> omega)) ?_
    refine z_run 400 hk rfl ?_
    refine z_ifT rfl ((show (-1000004 : Int32) < 0 by decide)) ?_
    refine z_run 400 hk rfl ?_
    refine z_icF rfl (kx_same) ?_
    refine z_run 400 hk rfl ?_
    rw [qc14, k2]
    by_cases h4 : 4 ≤ tK T1
    · refine z_icT rfl (by first | exact kx_same | exact kx_eq | (rw [k_lt (by omega) (by omega)] <;> omega) | (rw [k_ge (by omega) (by omega)] <;> omega) | (rw [k_gt (by omega) (by omega)] <;> omega) | (rw [k_le (by omega) (by omega)] <;> omega) | (rw [k_eq (by omega) (by omega)] <;> omega) | (rw [k_ne (by omega) (by omega)] <;> omega)) ?_
      refine z_run 400 hk rfl ?_
      refine z_icF rfl (by first | exact kx_same | exact kx_eq | (rw [k_lt (by omega) (by omega)] <;> omega) | (rw [k_ge (by omega) (by omega)] <;> omega) | (rw [k_gt (by omega) (by omega)] <;> omega) | (rw [k_le (by omega) (by omega)] <;> omega) | (rw [k_eq (by omega) (by omega)] <;> omega) | (rw [k_ne (by omega) (by omega)] <;> omega)) ?_
      refine z_run 400 hk rfl ?_
      exact z_zret rfl rfl (by decide) (k T2 hS2 hA2)
    · refine z_icF rfl (by first | exact kx_same | exact kx_eq | (rw [k_lt (by omega) (by omega)] <;> omega) | (rw [k_ge (by omega) (by omega)] <;> omega) | (rw [k_gt (by omega) (by omega)] <;> omega) | (rw [k_le (by omega) (by omega)] <;> omega) | (rw [k_eq (by omega) (by omega)] <;> omega) | (rw [k_ne (by omega) (by omega)] <;> omega)) ?_
      refine z_run 400 hk rfl ?_
      rw [nI_add]
      refine z_icF rfl (by first | exact kx_same | exact kx_eq | (rw [k_lt (by omega) (by omega)] <;> omega) | (rw [k_ge (by omega) (by omega)] <;> omega) | (rw [k_gt (by omega) (by omega)] <;> omega) | (rw [k_le (by omega) (by omega)] <;> omega) | (rw [k_eq (by omega) (by omega)] <;> omega) | (rw [k_ne (by omega) (by omega)] <;> omega)) ?_
      refine z_run 400 hk rfl ?_
      exact z_zret rfl rfl (by decide) (k T2 hS2 hA2)
  · -- a fault
    obtain ⟨r1, r2⟩ := hR.2 hf
    have eP : ePlay T1 = -1000002 := if_neg hf
    have eA : aCh (ePlay T1) (tRun T1).2.1 = -1000002 := by
      rw [eP]
      exact if_pos (by decide)
    have eT : pCh T1 (ePlay T1) (tRun T1).1 = T1 := by
      rw [eP]
      exact if_pos (by decide)
    rw [eT] at hA2 hS2
    rw [eA, eT, qf_0 hf, qf_1 hf, qf_2 hf]
    generalize (tRun T1).2.2.2.1 = ps at *
    generalize (tRun T1).2.2.2.2 = cs at *
    generalize (tRun T1).2.2.1 = rs at *
    refine z_to (L' := rL x n (tL T1) (tK T1) (nI ps) (nI rs) cs (-1000002) none) 56 400 hk rfl ?_
    have hrs : rs < 3 := by
      rcases r2 with ⟨z, -⟩ | ⟨z, -⟩ <;> omega
    have hcs : ¬ cs = -1000004 := by
      rcases r2 with ⟨-, kk, rfl, hkk⟩ | ⟨-, rfl | rfl | rfl⟩
      · exact k_nn (by omega) (by decide)
      · decide
      · decide
      · decide
    have end225 : Zx (d + 7) m_Law_reads Q 225 (rL x n (tL T1) (tK T1) (nI ps) (nI rs) cs (-1000002) (some (.int (nI 1)))) [] T1 := by
      refine z_run 400 hk rfl ?_
      rw [qc14]
      refine z_icF rfl (kx_same) ?_
      refine z_run 400 hk rfl ?_
      exact z_zret rfl rfl (by decide) (k T1 hS2 hA2)
    refine z_run 400 hk rfl ?_
    refine z_ifF rfl (by first | (rw [k0_lt (by omega)] <;> omega) | (rw [k0_ge (by omega)] <;> omega) | (rw [k0_gt (by omega)] <;> omega) | (rw [k0_le (by omega)] <;> omega) | (rw [k0_eq (by omega)] <;> omega) | (rw [k0_ne (by omega)] <;> omega)) ?_
    refine z_run 400 hk rfl ?_
    rw [qc15]
    refine z_icF rfl (kx_same) ?_
    refine z_run 400 hk rfl ?_
    refine z_icT rfl (fun z => k_nn (by omega) (by decide) z) ?_
    refine z_run 400 hk rfl ?_
    refine z_icT rfl (fun z => k_nn (by omega) (by decide) z) ?_
    refine z_run 400 hk rfl ?_
    refine z_icF rfl (kx_same) ?_
    refine z_run 400 hk rfl ?_
    refine z_icT rfl (fun z => k_nn (by omega) (by decide) z) ?_
    refine z_run 400 hk rfl ?_
    refine z_icT rfl (hcs) ?_
    refine z_run 400 hk rfl ?_
    refine z_icF rfl (kx_same) ?_
    refine z_run 400 hk rfl ?_
    refine z_icF rfl (kx_same) ?_
    refine z_run 400 hk rfl ?_
    refine z_ifF rfl (by first | (rw [k0_lt (by omega)] <;> omega) | (rw [k0_ge (by omega)] <;> omega) | (rw [k0_gt (by omega)] <;> omega) | (rw [k0_le (by omega)] <;> omega) | (rw [k0_eq (by omega)] <;> omega) | (rw [k0_ne (by omega)] <;> omega)) ?_
    refine z_run 400 hk rfl ?_
    refine z_icF rfl (kx_same) ?_
    refine z_run 400 hk rfl ?_
    refine z_ifF rfl (by first | (rw [k0_lt (by omega)] <;> omega) | (rw [k0_ge (by omega)] <;> omega) | (rw [k0_gt (by omega)] <;> omega) | (rw [k0_le (by omega)] <;> omega) | (rw [k0_eq (by omega)] <;> omega) | (rw [k0_ne (by omega)] <;> omega)) ?_
    refine z_run 400 hk rfl ?_
    refine z_ifF rfl (by first | (rw [k0_lt (by omega)] <;> omega) | (rw [k0_ge (by omega)] <;> omega) | (rw [k0_gt (by omega)] <;> omega) | (rw [k0_le (by omega)] <;> omega) | (rw [k0_eq (by omega)] <;> omega) | (rw [k0_ne (by omega)] <;> omega)) ?_
    refine z_run 400 hk rfl ?_
    refine z_icF rfl (by first | exact kx_same | exact kx_eq | (rw [k_lt (by omega) (by omega)] <;> omega) | (rw [k_ge (by omega) (by omega)] <;> omega) | (rw [k_gt (by omega) (by omega)] <;> omega) | (rw [k_le (by omega) (by omega)] <;> omega) | (rw [k_eq (by omega) (by omega)] <;> omega) | (rw [k_ne (by omega) (by omega)] <;> omega)) ?_
    refine z_run 400 hk rfl ?_
    rcases r2 with ⟨rfl, kk, rfl, hkk⟩ | ⟨rfl, hc⟩
    · refine z_icF rfl (by first | exact kx_same | exact kx_eq | (rw [k_lt (by omega) (by omega)] <;> omega) | (rw [k_ge (by omega) (by omega)] <;> omega) | (rw [k_gt (by omega) (by omega)] <;> omega) | (rw [k_le (by omega) (by omega)] <;> omega) | (rw [k_eq (by omega) (by omega)] <;> omega) | (rw [k_ne (by omega) (by omega)] <;> omega)) ?_
      refine z_run 400 hk rfl ?_
      refine z_ifF rfl (by first | (rw [k0_lt (by omega)] <;> omega) | (rw [k0_ge (by omega)] <;> omega) | (rw [k0_gt (by omega)] <;> omega) | (rw [k0_le (by omega)] <;> omega) | (rw [k0_eq (by omega)] <;> omega) | (rw [k0_ne (by omega)] <;> omega)) ?_
      refine z_run 400 hk rfl ?_
      rw [nI_add]
      refine z_icF rfl (by first | exact kx_same | exact kx_eq | (rw [k_lt (by omega) (by omega)] <;> omega) | (rw [k_ge (by omega) (by omega)] <;> omega) | (rw [k_gt (by omega) (by omega)] <;> omega) | (rw [k_le (by omega) (by omega)] <;> omega) | (rw [k_eq (by omega) (by omega)] <;> omega) | (rw [k_ne (by omega) (by omega)] <;> omega)) ?_
      refine z_to 225 400 hk rfl ?_
      exact end225
    · refine z_icT rfl (by first | exact kx_same | exact kx_eq | (rw [k_lt (by omega) (by omega)] <;> omega) | (rw [k_ge (by omega) (by omega)] <;> omega) | (rw [k_gt (by omega) (by omega)] <;> omega) | (rw [k_le (by omega) (by omega)] <;> omega) | (rw [k_eq (by omega) (by omega)] <;> omega) | (rw [k_ne (by omega) (by omega)] <;> omega)) ?_
      refine z_run 400 hk rfl ?_
      refine z_icF rfl (by first | exact kx_same | exact kx_eq | (rw [k_lt (by omega) (by omega)] <;> omega) | (rw [k_ge (by omega) (by omega)] <;> omega) | (rw [k_gt (by omega) (by omega)] <;> omega) | (rw [k_le (by omega) (by omega)] <;> omega) | (rw [k_eq (by omega) (by omega)] <;> omega) | (rw [k_ne (by omega) (by omega)] <;> omega)) ?_
      refine z_run 400 hk rfl ?_
      rcases hc with rfl | rfl | rfl
      · refine z_icT rfl (kx_eq) ?_
        exact end225
      · refine z_icF rfl ((show ¬ (-1000002 : Int32) = -1000001 by decide)) ?_
        refine z_run 400 hk rfl ?_
        refine z_icT rfl (kx_eq) ?_
        exact end225
      · refine z_icF rfl ((show ¬ (-1000003 : Int32) = -1000001 by decide)) ?_
        refine z_run 400 hk rfl ?_
        refine z_icF rfl ((show ¬ (-1000003 : Int32) = -1000002 by decide)) ?_
        refine z_run 400 hk rfl ?_
        refine z_icF rfl (kx_same) ?_
        exact end225
