/-! ===== the law's check of an object ===== -/
/-- the numbers of a state, as the law's check wants them -/
def vN (V : xV) : Prop := iN (vrd V) < 1000000 ∧ x_ns (fun p => iN (vss V p)) (vn V) < 100000000
theorem vN_of {V : xV} {m : Nat} (h : vJ V m) (hk : vOk V) (hm : m < 1000000) : vN V := by
  have h1 := x_ns_le (f := fun p => iN (vss V p)) (vn V) h.2.1
  have h2 : vn V * m ≤ 12 * m := Nat.mul_le_mul_right m hk.1.2.2.2.2.2
  have h3 := h.1
  exact ⟨by omega, by omega⟩
set_option maxRecDepth 100000 in
set_option maxHeartbeats 16000000 in
theorem zz_holds (d N m : Nat) (T : xT) (Q : xQ) (hk : tOk T) (hb : vBd (tV T) N) (hN : N ≤ 600000) (hJ : vJ (tV T) m) (hm : m < 1000000) (k : ∀ g, SG g T → Q (some (.int (nI 1))) g) : ∀ g, SG g T → Cx (d + 6) i_Law_holds [.ref 1] g Q := by
  obtain ⟨n1, n2⟩ := vN_of hJ hk.1 hm
  have hJ' := hJ
  obtain ⟨j1, j2, j3, j4, j5, j6, ⟨j7, j7b⟩, j8, j9, j10⟩ := hJ
  have hk0 := hk.1
  obtain ⟨⟨o1, o2, o3, o4, o5, o6⟩, o7, o8, o9, o10, o11, o12⟩ := hk0
  generalize hV : tV T = V at *
  have e0 : qCount T (iN (nI 0)) = nI (vph V) := by rw [qc0, hV]
  have e1 : qCount T (iN (nI 1)) = nI (vc V) := by rw [qc1, hV]
  have e2 : qCount T (iN (nI 2)) = nI (vn V) := by rw [qc2, hV]
  have e3 : qCount T (iN (nI 3)) = nI (x_enc (vin V) (vn V)) := by rw [qc3, hV]
  have e4 : qCount T (iN (nI 4)) = nI (iN (vrd V)) := by rw [qc4, hV, nI_iN]
  have e5 : qCount T (iN (nI 5)) = nI (vbt V) := by rw [qc5, hV]
  have e6 : qCount T (iN (nI 6)) = nI (x_ns (fun p => iN (vss V p)) (vn V)) := by rw [qc6, hV, x_sm_ns]
  have e7 : qCount T (iN (nI 7)) = x_sm (vbu V) (vn V) := by rw [qc7, hV]
  have e8 : qCount T (iN (nI 8)) = nI (vn V) - nI (x_cnt (vin V) (vn V)) := by rw [qc8, hV]
  have e9 : qCount T (iN (nI 9)) = nI (vn V) - nI (x_cnt (vin V) (vn V)) := by rw [qc9, hV, j9]
  have e10 : qCount T (iN (nI 10)) = x_sm (vwa V) (vn V) := by rw [qc10, hV]
  have e12 : qCount T (iN (nI 12)) = if x_cnt (vin V) (vn V) = 1 then nI (vFirst V) else -1000004 := by rw [qc12, hV]
  have e13 : qCount T (iN (nI 13)) = nI (vR V).1 := by rw [qc13, hV]
  have e20 : qCount T (iN (nI 20)) = nI (vfw V) := by rw [qc20, hV]
  have hones : ∀ (Q : xQ), (∀ g, SG g T → Q (some (.int (nI (x_cnt (vin V) (vn V))))) g) → ∀ g, SG g T → Cx (d + 5) i_Law_ones [.int (nI (x_enc (vin V) (vn V)))] g Q := fun Q k => l_ones d T _ Q hk (by have := enc_31 (f := vin V) (n := vn V) (by omega); omega) (fun g hg => by rw [enc_cnt (by omega)]; exact k g hg)
  have hcle := x_cnt_le (vin V) (vn V)
  refine z_cl (L0 := [some (.ref 1), none, none, none, none, none, none, none, none, none, none, none]) rfl rfl rfl rfl ?_
  refine z_to (L' := [some (.ref 1), some (.int (qCount T (iN (nI 0)))), some (.int (qCount T (iN (nI 1)))), some (.int (qCount T (iN (nI 2)))), some (.int (nI 0)), some (.int (nI 0)), some (.int (nI 0)), some (.int (nI 0)), some (.int (-1000004)), none, none, none]) 34 60 hk rfl ?_
  rw [e0, e1, e2]
  -- the end
  have fin844 : ∀ a4 a5 a6 a7 a8 l9 l10 l11, Zx (d + 5) m_Law_holds Q 844 [some (.ref 1), some (.int (nI (vph V))), some (.int (nI (vc V))), some (.int (nI (vn V))), a4, a5, a6, a7, a8, l9, l10, l11] [] T := by
    intro a4 a5 a6 a7 a8 l9 l10 l11
    refine z_run 400 hk rfl ?_
    refine z_inv rfl rfl rfl (fun g hg => s_mean (d + 2) N T g _ hg hk (by rw [hV]; exact hb) hN ?_)
    revert hg
    revert g
    show Zx (d + 5) m_Law_holds Q 848 [some (.ref 1), some (.int (nI (vph V))), some (.int (nI (vc V))), some (.int (nI (vn V))), a4, a5, a6, a7, a8, l9, l10, l11] [.int (qMean (tV T))] T
    rw [hV]
    refine z_run 400 hk rfl ?_
    by_cases h0 : vn V = 0
    · have hq : qMean V = -1000004 := if_pos h0
      rw [hq]
      refine z_icF rfl (kx_same) ?_
      refine z_run 400 hk rfl ?_
      rw [h0]
      refine z_ifF rfl (by first | (rw [k0_lt (by omega)] <;> omega) | (rw [k0_ge (by omega)] <;> omega) | (rw [k0_gt (by omega)] <;> omega) | (rw [k0_le (by omega)] <;> omega) | (rw [k0_eq (by omega)] <;> omega) | (rw [k0_ne (by omega)] <;> omega)) ?_
      refine z_run 400 hk rfl ?_
      refine z_icF rfl (kx_same) ?_
      refine z_run 400 hk rfl ?_
      exact z_zret rfl rfl (by decide) k
    · refine z_icT rfl (qMean_nn hb hN h0 o6) ?_
      refine z_run 400 hk rfl ?_
      refine z_ifT rfl (by first | (rw [k0_lt (by omega)] <;> omega) | (rw [k0_ge (by omega)] <;> omega) | (rw [k0_gt (by omega)] <;> omega) | (rw [k0_le (by omega)] <;> omega) | (rw [k0_eq (by omega)] <;> omega) | (rw [k0_ne (by omega)] <;> omega)) ?_
      refine z_run 400 hk rfl ?_
      refine z_icF rfl (kx_same) ?_
      refine z_run 400 hk rfl ?_
      exact z_zret rfl rfl (by decide) k
  have fin830 : ∀ a5 a6 a7 a8 l9 l10 l11, Zx (d + 5) m_Law_holds Q 830 [some (.ref 1), some (.int (nI (vph V))), some (.int (nI (vc V))), some (.int (nI (vn V))), some (.int (nI (x_enc (vin V) (vn V)))), a5, a6, a7, a8, l9, l10, l11] [] T := by
    intro a5 a6 a7 a8 l9 l10 l11
    refine z_run 400 hk rfl ?_
    by_cases h2 : vph V = 2
    · have := j10 h2
      refine z_icF rfl (by first | exact kx_same | exact kx_eq | (rw [k_lt (by omega) (by omega)] <;> omega) | (rw [k_ge (by omega) (by omega)] <;> omega) | (rw [k_gt (by omega) (by omega)] <;> omega) | (rw [k_le (by omega) (by omega)] <;> omega) | (rw [k_eq (by omega) (by omega)] <;> omega) | (rw [k_ne (by omega) (by omega)] <;> omega)) ?_
      refine z_run 400 hk rfl ?_
      refine z_ins rfl rfl rfl rfl (hones _ ?_)
      refine z_run 400 hk rfl ?_
      refine z_icF rfl (by first | exact kx_same | exact kx_eq | (rw [k_lt (by omega) (by omega)] <;> omega) | (rw [k_ge (by omega) (by omega)] <;> omega) | (rw [k_gt (by omega) (by omega)] <;> omega) | (rw [k_le (by omega) (by omega)] <;> omega) | (rw [k_eq (by omega) (by omega)] <;> omega) | (rw [k_ne (by omega) (by omega)] <;> omega)) ?_
      exact fin844 _ _ _ _ _ _ _ _
    · refine z_icT rfl (by first | exact kx_same | exact kx_eq | (rw [k_lt (by omega) (by omega)] <;> omega) | (rw [k_ge (by omega) (by omega)] <;> omega) | (rw [k_gt (by omega) (by omega)] <;> omega) | (rw [k_le (by omega) (by omega)] <;> omega) | (rw [k_eq (by omega) (by omega)] <;> omega) | (rw [k_ne (by omega) (by omega)] <;> omega)) ?_
      exact fin844 _ _ _ _ _ _ _ _
  have fin812 : ∀ a5 a6 a7 a8 l9 l10 l11, Zx (d + 5) m_Law_holds Q 812 [some (.ref 1), some (.int (nI (vph V))), some (.int (nI (vc V))), some (.int (nI (vn V))), some (.int (nI (x_enc (vin V) (vn V)))), a5, a6, a7, a8, l9, l10, l11] [] T := by
    intro a5 a6 a7 a8 l9 l10 l11
    refine z_run 400 hk rfl ?_
    by_cases h2 : vph V = 1
    · obtain ⟨z1, z2⟩ := o8 h2
      refine z_icF rfl (by first | exact kx_same | exact kx_eq | (rw [k_lt (by omega) (by omega)] <;> omega) | (rw [k_ge (by omega) (by omega)] <;> omega) | (rw [k_gt (by omega) (by omega)] <;> omega) | (rw [k_le (by omega) (by omega)] <;> omega) | (rw [k_eq (by omega) (by omega)] <;> omega) | (rw [k_ne (by omega) (by omega)] <;> omega)) ?_
      refine z_run 400 hk rfl ?_
      refine z_ins rfl rfl rfl rfl (hones _ ?_)
      refine z_run 400 hk rfl ?_
      refine z_icF rfl (by first | exact kx_same | exact kx_eq | (rw [k_lt (by omega) (by omega)] <;> omega) | (rw [k_ge (by omega) (by omega)] <;> omega) | (rw [k_gt (by omega) (by omega)] <;> omega) | (rw [k_le (by omega) (by omega)] <;> omega) | (rw [k_eq (by omega) (by omega)] <;> omega) | (rw [k_ne (by omega) (by omega)] <;> omega)) ?_
      refine z_run 400 hk rfl ?_
      refine z_ifF rfl (by first | (rw [k0_lt (by omega)] <;> omega) | (rw [k0_ge (by omega)] <;> omega) | (rw [k0_gt (by omega)] <;> omega) | (rw [k0_le (by omega)] <;> omega) | (rw [k0_eq (by omega)] <;> omega) | (rw [k0_ne (by omega)] <;> omega)) ?_
      exact fin830 _ _ _ _ _ _ _
    · refine z_icT rfl (by first | exact kx_same | exact kx_eq | (rw [k_lt (by omega) (by omega)] <;> omega) | (rw [k_ge (by omega) (by omega)] <;> omega) | (rw [k_gt (by omega) (by omega)] <;> omega) | (rw [k_le (by omega) (by omega)] <;> omega) | (rw [k_eq (by omega) (by omega)] <;> omega) | (rw [k_ne (by omega) (by omega)] <;> omega)) ?_
      exact fin830 _ _ _ _ _ _ _
  have fin787 : ∀ a5 a6 a7 l9 l10 l11, Zx (d + 5) m_Law_holds Q 787 [some (.ref 1), some (.int (nI (vph V))), some (.int (nI (vc V))), some (.int (nI (vn V))), some (.int (nI (x_enc (vin V) (vn V)))), a5, a6, a7, some (.int (vOne (vin V) (vn V))), l9, l10, l11] [] T := by
    intro a5 a6 a7 l9 l10 l11
    refine z_run 400 hk rfl ?_
    rw [e12]
    refine z_ins rfl rfl rfl rfl (hones _ ?_)
    refine z_run 400 hk rfl ?_
    by_cases h2 : x_cnt (vin V) (vn V) = 1
    · rw [if_pos h2]
      refine z_icF rfl (by first | exact kx_same | exact kx_eq | (rw [k_lt (by omega) (by omega)] <;> omega) | (rw [k_ge (by omega) (by omega)] <;> omega) | (rw [k_gt (by omega) (by omega)] <;> omega) | (rw [k_le (by omega) (by omega)] <;> omega) | (rw [k_eq (by omega) (by omega)] <;> omega) | (rw [k_ne (by omega) (by omega)] <;> omega)) ?_
      refine z_run 400 hk rfl ?_
      rw [(cnt1_one h2).1]
      refine z_icF rfl (kx_same) ?_
      exact fin812 _ _ _ _ _ _ _
    · rw [if_neg h2]
      refine z_icT rfl (by first | exact kx_same | exact kx_eq | (rw [k_lt (by omega) (by omega)] <;> omega) | (rw [k_ge (by omega) (by omega)] <;> omega) | (rw [k_gt (by omega) (by omega)] <;> omega) | (rw [k_le (by omega) (by omega)] <;> omega) | (rw [k_eq (by omega) (by omega)] <;> omega) | (rw [k_ne (by omega) (by omega)] <;> omega)) ?_
      refine z_run 400 hk rfl ?_
      refine z_icF rfl (kx_same) ?_
      exact fin812 _ _ _ _ _ _ _
  have fin708 : ∀ l10 l11, Zx (d + 5) m_Law_holds Q 708 [some (.ref 1), some (.int (nI (vph V))), some (.int (nI (vc V))), some (.int (nI (vn V))), some (.int (nI (x_enc (vin V) (vn V)))), some (.int (nI (x_ns (fun p => iN (vss V p)) (vn V)))), some (.int (x_sm (vbu V) (vn V))), some (.int (x_sm (vwa V) (vn V))), some (.int (vOne (vin V) (vn V))), some (.int (nI 1)), l10, l11] [] T := by
    intro l10 l11
    refine z_run 400 hk rfl ?_
    refine z_ifF rfl (by first | (rw [k0_lt (by omega)] <;> omega) | (rw [k0_ge (by omega)] <;> omega) | (rw [k0_gt (by omega)] <;> omega) | (rw [k0_le (by omega)] <;> omega) | (rw [k0_eq (by omega)] <;> omega) | (rw [k0_ne (by omega)] <;> omega)) ?_
    refine z_run 400 hk rfl ?_
    rw [e3]
    refine z_icF rfl (kx_same) ?_
    refine z_run 400 hk rfl ?_
    rw [e6]
    refine z_icF rfl (kx_same) ?_
    refine z_run 400 hk rfl ?_
    rw [e7]
    refine z_icF rfl (kx_same) ?_
    refine z_run 400 hk rfl ?_
    rw [e10]
    refine z_icF rfl (kx_same) ?_
    refine z_run 400 hk rfl ?_
    rw [e8]
    refine z_ins rfl rfl rfl rfl (hones _ ?_)
    refine z_run 400 hk rfl ?_
    refine z_icF rfl (kx_same) ?_
    refine z_run 400 hk rfl ?_
    rw [e8, e9]
    refine z_icF rfl (kx_same) ?_
    exact fin787 _ _ _ _ _ _
  -- the bells
  have bells : ∀ i, i ≤ (vR V).1 → ∀ l11, Zx (d + 5) m_Law_holds Q 599 [some (.ref 1), some (.int (nI (vph V))), some (.int (nI (vc V))), some (.int (nI (vn V))), some (.int (nI (x_enc (vin V) (vn V)))), some (.int (nI (x_ns (fun p => iN (vss V p)) (vn V)))), some (.int (x_sm (vbu V) (vn V))), some (.int (x_sm (vwa V) (vn V))), some (.int (vOne (vin V) (vn V))), some (.int (nI 1)), some (.int (nI i)), l11] [] T := by
    refine r_for ?_ ?_
    · intro l11
      refine z_run 400 hk rfl ?_
      rw [e13]
      refine z_icT rfl (by first | exact kx_same | exact kx_eq | (rw [k_lt (by omega) (by omega)] <;> omega) | (rw [k_ge (by omega) (by omega)] <;> omega) | (rw [k_gt (by omega) (by omega)] <;> omega) | (rw [k_le (by omega) (by omega)] <;> omega) | (rw [k_eq (by omega) (by omega)] <;> omega) | (rw [k_ne (by omega) (by omega)] <;> omega)) ?_
      exact fin708 _ _
    · intro i hi ih l11
      obtain ⟨b1, b2, b3, b4, b5, b6⟩ := j8 i hi
      have q0 : qBell (tV T) (nI i) (nI 0) = nI (iN ((vR V).2 i 0)) := by rw [hV]; exact qb_in hi j7b (by omega)
      have q1 : qBell (tV T) (nI i) (nI 1) = nI (iN ((vR V).2 i 1)) := by rw [hV]; exact qb_in hi j7b (by omega)
      have q2 : qBell (tV T) (nI i) (nI 2) = nI (iN ((vR V).2 i 2)) := by rw [hV]; exact qb_in hi j7b (by omega)
      have q4 : qBell (tV T) (nI i) (nI 4) = nI (iN ((vR V).2 i 4)) := by rw [hV]; exact qb_in hi j7b (by omega)
      refine z_run 400 hk rfl ?_
      rw [e13]
      refine z_icF rfl (by first | exact kx_same | exact kx_eq | (rw [k_lt (by omega) (by omega)] <;> omega) | (rw [k_ge (by omega) (by omega)] <;> omega) | (rw [k_gt (by omega) (by omega)] <;> omega) | (rw [k_le (by omega) (by omega)] <;> omega) | (rw [k_eq (by omega) (by omega)] <;> omega) | (rw [k_ne (by omega) (by omega)] <;> omega)) ?_
      refine z_run 400 hk rfl ?_
      refine z_ifF rfl (by first | (rw [k0_lt (by omega)] <;> omega) | (rw [k0_ge (by omega)] <;> omega) | (rw [k0_gt (by omega)] <;> omega) | (rw [k0_le (by omega)] <;> omega) | (rw [k0_eq (by omega)] <;> omega) | (rw [k0_ne (by omega)] <;> omega)) ?_
      refine z_run 400 hk rfl ?_
      rw [q0]
      refine z_icF rfl (by first | exact kx_same | exact kx_eq | (rw [k_lt (by omega) (by omega)] <;> omega) | (rw [k_ge (by omega) (by omega)] <;> omega) | (rw [k_gt (by omega) (by omega)] <;> omega) | (rw [k_le (by omega) (by omega)] <;> omega) | (rw [k_eq (by omega) (by omega)] <;> omega) | (rw [k_ne (by omega) (by omega)] <;> omega)) ?_
      refine z_run 400 hk rfl ?_
      rw [q0, e4]
      refine z_icF rfl (by first | exact kx_same | exact kx_eq | (rw [k_lt (by omega) (by omega)] <;> omega) | (rw [k_ge (by omega) (by omega)] <;> omega) | (rw [k_gt (by omega) (by omega)] <;> omega) | (rw [k_le (by omega) (by omega)] <;> omega) | (rw [k_eq (by omega) (by omega)] <;> omega) | (rw [k_ne (by omega) (by omega)] <;> omega)) ?_
      refine z_run 400 hk rfl ?_
      rw [q1]
      refine z_icF rfl (by first | exact kx_same | exact kx_eq | (rw [k_lt (by omega) (by omega)] <;> omega) | (rw [k_ge (by omega) (by omega)] <;> omega) | (rw [k_gt (by omega) (by omega)] <;> omega) | (rw [k_le (by omega) (by omega)] <;> omega) | (rw [k_eq (by omega) (by omega)] <;> omega) | (rw [k_ne (by omega) (by omega)] <;> omega)) ?_
      refine z_run 400 hk rfl ?_
      rw [q2]
      refine z_ifF rfl (by first | (rw [k0_lt (by omega)] <;> omega) | (rw [k0_ge (by omega)] <;> omega) | (rw [k0_gt (by omega)] <;> omega) | (rw [k0_le (by omega)] <;> omega) | (rw [k0_eq (by omega)] <;> omega) | (rw [k0_ne (by omega)] <;> omega)) ?_
      refine z_run 400 hk rfl ?_
      rw [q2]
      refine z_icF rfl (by first | exact kx_same | exact kx_eq | (rw [k_lt (by omega) (by omega)] <;> omega) | (rw [k_ge (by omega) (by omega)] <;> omega) | (rw [k_gt (by omega) (by omega)] <;> omega) | (rw [k_le (by omega) (by omega)] <;> omega) | (rw [k_eq (by omega) (by omega)] <;> omega) | (rw [k_ne (by omega) (by omega)] <;> omega)) ?_
      refine z_run 400 hk rfl ?_
      rw [q4]
      refine z_ifF rfl (by first | (rw [k0_lt (by omega)] <;> omega) | (rw [k0_ge (by omega)] <;> omega) | (rw [k0_gt (by omega)] <;> omega) | (rw [k0_le (by omega)] <;> omega) | (rw [k0_eq (by omega)] <;> omega) | (rw [k0_ne (by omega)] <;> omega)) ?_
      refine z_run 400 hk rfl ?_
      rw [q4]
      refine z_icF rfl (by first | exact kx_same | exact kx_eq | (rw [k_lt (by omega) (by omega)] <;> omega) | (rw [k_ge (by omega) (by omega)] <;> omega) | (rw [k_gt (by omega) (by omega)] <;> omega) | (rw [k_le (by omega) (by omega)] <;> omega) | (rw [k_eq (by omega) (by omega)] <;> omega) | (rw [k_ne (by omega) (by omega)] <;> omega)) ?_
      refine z_to 599 400 hk rfl ?_
      have := ih l11
      rw [← nI_add i 1] at this
      exact this
  -- the chairs
  have chairs : ∀ i, i ≤ vc V → ∀ l11, Zx (d + 5) m_Law_holds Q 498 [some (.ref 1), some (.int (nI (vph V))), some (.int (nI (vc V))), some (.int (nI (vn V))), some (.int (nI (x_enc (vin V) (vn V)))), some (.int (nI (x_ns (fun p => iN (vss V p)) (vn V)))), some (.int (x_sm (vbu V) (vn V))), some (.int (x_sm (vwa V) (vn V))), some (.int (vOne (vin V) (vn V))), some (.int (nI 1)), some (.int (nI i)), l11] [] T := by
    refine r_for ?_ ?_
    · intro l11
      refine z_run 400 hk rfl ?_
      refine z_icT rfl (by first | exact kx_same | exact kx_eq | (rw [k_lt (by omega) (by omega)] <;> omega) | (rw [k_ge (by omega) (by omega)] <;> omega) | (rw [k_gt (by omega) (by omega)] <;> omega) | (rw [k_le (by omega) (by omega)] <;> omega) | (rw [k_eq (by omega) (by omega)] <;> omega) | (rw [k_ne (by omega) (by omega)] <;> omega)) ?_
      refine z_to 599 400 hk rfl ?_
      exact bells 0 (Nat.zero_le _) _
    · intro i hi ih l11
      have t8 := o9 i hi
      have s3 := j3 i hi
      have q0 : qChair (tV T) (nI i) (nI 0) = nI (vtn V i) := by rw [hV]; exact qh0 hi o5
      have q1 : qChair (tV T) (nI i) (nI 1) = nI (iN (vsa V i)) := by rw [hV]; exact qh1 hi o5
      have next : ∀ l11, Zx (d + 5) m_Law_holds Q 583 [some (.ref 1), some (.int (nI (vph V))), some (.int (nI (vc V))), some (.int (nI (vn V))), some (.int (nI (x_enc (vin V) (vn V)))), some (.int (nI (x_ns (fun p => iN (vss V p)) (vn V)))), some (.int (x_sm (vbu V) (vn V))), some (.int (x_sm (vwa V) (vn V))), some (.int (vOne (vin V) (vn V))), some (.int (nI 1)), some (.int (nI i)), l11] [] T := by
        intro l11
        refine z_to 498 400 hk rfl ?_
        have := ih l11
        rw [← nI_add i 1] at this
        exact this
      refine z_run 400 hk rfl ?_
      refine z_icF rfl (by first | exact kx_same | exact kx_eq | (rw [k_lt (by omega) (by omega)] <;> omega) | (rw [k_ge (by omega) (by omega)] <;> omega) | (rw [k_gt (by omega) (by omega)] <;> omega) | (rw [k_le (by omega) (by omega)] <;> omega) | (rw [k_eq (by omega) (by omega)] <;> omega) | (rw [k_ne (by omega) (by omega)] <;> omega)) ?_
      refine z_run 400 hk rfl ?_
      refine z_ifF rfl (by first | (rw [k0_lt (by omega)] <;> omega) | (rw [k0_ge (by omega)] <;> omega) | (rw [k0_gt (by omega)] <;> omega) | (rw [k0_le (by omega)] <;> omega) | (rw [k0_eq (by omega)] <;> omega) | (rw [k0_ne (by omega)] <;> omega)) ?_
      refine z_run 400 hk rfl ?_
      rw [q0]
      refine z_ifF rfl (by first | (rw [k0_lt (by omega)] <;> omega) | (rw [k0_ge (by omega)] <;> omega) | (rw [k0_gt (by omega)] <;> omega) | (rw [k0_le (by omega)] <;> omega) | (rw [k0_eq (by omega)] <;> omega) | (rw [k0_ne (by omega)] <;> omega)) ?_
      refine z_run 400 hk rfl ?_
      rw [q0]
      refine z_icF rfl (by first | exact kx_same | exact kx_eq | (rw [k_lt (by omega) (by omega)] <;> omega) | (rw [k_ge (by omega) (by omega)] <;> omega) | (rw [k_gt (by omega) (by omega)] <;> omega) | (rw [k_le (by omega) (by omega)] <;> omega) | (rw [k_eq (by omega) (by omega)] <;> omega) | (rw [k_ne (by omega) (by omega)] <;> omega)) ?_
      refine z_run 400 hk rfl ?_
      rw [q1]
      refine z_ifF rfl (by first | (rw [k0_lt (by omega)] <;> omega) | (rw [k0_ge (by omega)] <;> omega) | (rw [k0_gt (by omega)] <;> omega) | (rw [k0_le (by omega)] <;> omega) | (rw [k0_eq (by omega)] <;> omega) | (rw [k0_ne (by omega)] <;> omega)) ?_
      refine z_run 400 hk rfl ?_
      cases hs : vsi V i with
      | none =>
        have q2 : qChair (tV T) (nI i) (nI 2) = -1000004 := by rw [hV]; exact qh2N hi o5 hs
        rw [q2]
        refine z_icT rfl (kx_eq) ?_
        exact next _
      | some q =>
        obtain ⟨c1, c2, c3, c4⟩ := j6 i q hi hs
        have q2 : qChair (tV T) (nI i) (nI 2) = nI q := by rw [hV]; exact qh2S hi o5 hs
        rw [q2]
        refine z_icF rfl (k_nn (by omega) (by decide)) ?_
        refine z_run 400 hk rfl ?_
        refine z_icF rfl (by first | exact kx_same | exact kx_eq | (rw [k_lt (by omega) (by omega)] <;> omega) | (rw [k_ge (by omega) (by omega)] <;> omega) | (rw [k_gt (by omega) (by omega)] <;> omega) | (rw [k_le (by omega) (by omega)] <;> omega) | (rw [k_eq (by omega) (by omega)] <;> omega) | (rw [k_ne (by omega) (by omega)] <;> omega)) ?_
        refine z_run 400 hk rfl ?_
        rw [q1]
        refine z_ifF rfl (by first | (rw [k0_lt (by omega)] <;> omega) | (rw [k0_ge (by omega)] <;> omega) | (rw [k0_gt (by omega)] <;> omega) | (rw [k0_le (by omega)] <;> omega) | (rw [k0_eq (by omega)] <;> omega) | (rw [k0_ne (by omega)] <;> omega)) ?_
        refine z_run 400 hk rfl ?_
        rw [enc_bit (by omega) (by omega), if_pos (by simp [c2, c3])]
        refine z_icF rfl (by first | exact kx_same | exact kx_eq | (rw [k_lt (by omega) (by omega)] <;> omega) | (rw [k_ge (by omega) (by omega)] <;> omega) | (rw [k_gt (by omega) (by omega)] <;> omega) | (rw [k_le (by omega) (by omega)] <;> omega) | (rw [k_eq (by omega) (by omega)] <;> omega) | (rw [k_ne (by omega) (by omega)] <;> omega)) ?_
        exact next _
  -- the players
  have players : ∀ i, i ≤ vn V → ∀ l11, Zx (d + 5) m_Law_holds Q 189 [some (.ref 1), some (.int (nI (vph V))), some (.int (nI (vc V))), some (.int (nI (vn V))), some (.int (nI (x_enc (vin V) i))), some (.int (nI (x_ns (fun p => iN (vss V p)) i))), some (.int (x_sm (vbu V) i)), some (.int (x_sm (vwa V) i)), some (.int (vOne (vin V) i)), some (.int (nI 1)), some (.int (nI i)), l11] [] T := by
    refine r_for ?_ ?_
    · intro l11
      refine z_run 400 hk rfl ?_
      refine z_icT rfl (by first | exact kx_same | exact kx_eq | (rw [k_lt (by omega) (by omega)] <;> omega) | (rw [k_ge (by omega) (by omega)] <;> omega) | (rw [k_gt (by omega) (by omega)] <;> omega) | (rw [k_le (by omega) (by omega)] <;> omega) | (rw [k_eq (by omega) (by omega)] <;> omega) | (rw [k_ne (by omega) (by omega)] <;> omega)) ?_
      refine z_to 498 400 hk rfl ?_
      exact chairs 0 (Nat.zero_le _) _
    · intro i hi ih l11
      obtain ⟨s1, s2, s3, s4⟩ := o11 i hi
      have q0 : qPlayer (tV T) (nI i) (nI 0) = nI (vst V i) := by rw [hV]; exact qp0 hi o6
      have q1 : qPlayer (tV T) (nI i) (nI 1) = nI (vea V i) := by rw [hV]; exact qp1 hi o6
      have q4 : qPlayer (tV T) (nI i) (nI 4) = nI (iN (vss V i)) := by rw [hV, nI_iN]; exact qp4 hi o6
      have q5 : qPlayer (tV T) (nI i) (nI 5) = vbu V i := by rw [hV]; exact qp5 hi o6
      have q6 : qPlayer (tV T) (nI i) (nI 6) = vwa V i := by rw [hV]; exact qp6 hi o6
      -- behind the sums
      have next482 : ∀ l11, Zx (d + 5) m_Law_holds Q 482 [some (.ref 1), some (.int (nI (vph V))), some (.int (nI (vc V))), some (.int (nI (vn V))), some (.int (nI (x_enc (vin V) (i + 1)))), some (.int (nI (x_ns (fun p => iN (vss V p)) (i + 1)))), some (.int (x_sm (vbu V) (i + 1))), some (.int (x_sm (vwa V) (i + 1))), some (.int (vOne (vin V) (i + 1))), some (.int (nI 1)), some (.int (nI i)), l11] [] T := by
        intro l11
        refine z_to 189 400 hk rfl ?_
        have := ih l11
        rw [← nI_add i 1] at this
        exact this
      have next439_1 : vin V i = true → Zx (d + 5) m_Law_holds Q 439 [some (.ref 1), some (.int (nI (vph V))), some (.int (nI (vc V))), some (.int (nI (vn V))), some (.int (nI (x_enc (vin V) (i + 1)))), some (.int (nI (x_ns (fun p => iN (vss V p)) (i + 1)))), some (.int (x_sm (vbu V) (i + 1))), some (.int (x_sm (vwa V) (i + 1))), some (.int (vOne (vin V) (i + 1))), some (.int (nI 1)), some (.int (nI i)), some (.int (nI 1))] [] T := by
        intro hin
        refine z_run 400 hk rfl ?_
        by_cases h8 : vti V i = 0
        · obtain ⟨z1, z2⟩ := j5 i hi h8
          have q8 : qPlayer (tV T) (nI i) (nI 8) = -1000004 := by rw [hV]; exact qp8N hi o6 h8
          rw [q8]
          refine z_icF rfl (kx_same) ?_
          refine z_run 400 hk rfl ?_
          rw [q4, z2, iN_0]
          refine z_ifF rfl (by first | (rw [k0_lt (by omega)] <;> omega) | (rw [k0_ge (by omega)] <;> omega) | (rw [k0_gt (by omega)] <;> omega) | (rw [k0_le (by omega)] <;> omega) | (rw [k0_eq (by omega)] <;> omega) | (rw [k0_ne (by omega)] <;> omega)) ?_
          refine z_run 400 hk rfl ?_
          refine z_ifF rfl (by first | (rw [k0_lt (by omega)] <;> omega) | (rw [k0_ge (by omega)] <;> omega) | (rw [k0_gt (by omega)] <;> omega) | (rw [k0_le (by omega)] <;> omega) | (rw [k0_eq (by omega)] <;> omega) | (rw [k0_ne (by omega)] <;> omega)) ?_
          refine z_to 482 400 hk rfl ?_
          exact next482 _
        · have q8 : qPlayer (tV T) (nI i) (nI 8) = nI (vti V i) := by rw [hV]; exact qp8S hi o6 h8
          rw [q8]
          refine z_icT rfl (fun z => k_nn (by omega) (by decide) z) ?_
          refine z_run 400 hk rfl ?_
          rw [q8]
          refine z_icF rfl (by first | exact kx_same | exact kx_eq | (rw [k_lt (by omega) (by omega)] <;> omega) | (rw [k_ge (by omega) (by omega)] <;> omega) | (rw [k_gt (by omega) (by omega)] <;> omega) | (rw [k_le (by omega) (by omega)] <;> omega) | (rw [k_eq (by omega) (by omega)] <;> omega) | (rw [k_ne (by omega) (by omega)] <;> omega)) ?_
          exact next482 _
      have next393_1 : vin V i = true → Zx (d + 5) m_Law_holds Q 393 [some (.ref 1), some (.int (nI (vph V))), some (.int (nI (vc V))), some (.int (nI (vn V))), some (.int (nI (x_enc (vin V) (i + 1)))), some (.int (nI (x_ns (fun p => iN (vss V p)) (i + 1)))), some (.int (x_sm (vbu V) (i + 1))), some (.int (x_sm (vwa V) (i + 1))), some (.int (vOne (vin V) (i + 1))), some (.int (nI 1)), some (.int (nI i)), some (.int (nI 1))] [] T := by
        intro hin
        refine z_run 400 hk rfl ?_
        by_cases h1 : vph V = 1
        · refine z_icF rfl (by first | exact kx_same | exact kx_eq | (rw [k_lt (by omega) (by omega)] <;> omega) | (rw [k_ge (by omega) (by omega)] <;> omega) | (rw [k_gt (by omega) (by omega)] <;> omega) | (rw [k_le (by omega) (by omega)] <;> omega) | (rw [k_eq (by omega) (by omega)] <;> omega) | (rw [k_ne (by omega) (by omega)] <;> omega)) ?_
          refine z_run 400 hk rfl ?_
          have h3 := o12 h1 i hi hin
          have q3 : qPlayer (tV T) (nI i) (nI 3) = nI (vpl V i) := by rw [hV]; exact qp3T hi o6 h1 hin
          refine z_ifF rfl (by first | (rw [k0_lt (by omega)] <;> omega) | (rw [k0_ge (by omega)] <;> omega) | (rw [k0_gt (by omega)] <;> omega) | (rw [k0_le (by omega)] <;> omega) | (rw [k0_eq (by omega)] <;> omega) | (rw [k0_ne (by omega)] <;> omega)) ?_
          refine z_run 400 hk rfl ?_
          rw [q3]
          refine z_ifF rfl (by first | (rw [k0_lt (by omega)] <;> omega) | (rw [k0_ge (by omega)] <;> omega) | (rw [k0_gt (by omega)] <;> omega) | (rw [k0_le (by omega)] <;> omega) | (rw [k0_eq (by omega)] <;> omega) | (rw [k0_ne (by omega)] <;> omega)) ?_
          refine z_run 400 hk rfl ?_
          rw [q3]
          refine z_icF rfl (by first | exact kx_same | exact kx_eq | (rw [k_lt (by omega) (by omega)] <;> omega) | (rw [k_ge (by omega) (by omega)] <;> omega) | (rw [k_gt (by omega) (by omega)] <;> omega) | (rw [k_le (by omega) (by omega)] <;> omega) | (rw [k_eq (by omega) (by omega)] <;> omega) | (rw [k_ne (by omega) (by omega)] <;> omega)) ?_
          refine z_to 439 400 hk rfl ?_
          exact next439_1 hin
        · have q3 : qPlayer (tV T) (nI i) (nI 3) = -1000004 := by rw [hV]; exact qp3F hi o6 (fun z => h1 z.1)
          refine z_icT rfl (by first | exact kx_same | exact kx_eq | (rw [k_lt (by omega) (by omega)] <;> omega) | (rw [k_ge (by omega) (by omega)] <;> omega) | (rw [k_gt (by omega) (by omega)] <;> omega) | (rw [k_le (by omega) (by omega)] <;> omega) | (rw [k_eq (by omega) (by omega)] <;> omega) | (rw [k_ne (by omega) (by omega)] <;> omega)) ?_
          refine z_run 400 hk rfl ?_
          rw [q3]
          refine z_icF rfl (kx_same) ?_
          exact next439_1 hin
      have next439_0 : vin V i = false → Zx (d + 5) m_Law_holds Q 439 [some (.ref 1), some (.int (nI (vph V))), some (.int (nI (vc V))), some (.int (nI (vn V))), some (.int (nI (x_enc (vin V) (i + 1)))), some (.int (nI (x_ns (fun p => iN (vss V p)) (i + 1)))), some (.int (x_sm (vbu V) (i + 1))), some (.int (x_sm (vwa V) (i + 1))), some (.int (vOne (vin V) (i + 1))), some (.int (nI 1)), some (.int (nI i)), some (.int (nI 0))] [] T := by
        intro hin
        refine z_run 400 hk rfl ?_
        by_cases h8 : vti V i = 0
        · obtain ⟨z1, z2⟩ := j5 i hi h8
          have q8 : qPlayer (tV T) (nI i) (nI 8) = -1000004 := by rw [hV]; exact qp8N hi o6 h8
          rw [q8]
          refine z_icF rfl (kx_same) ?_
          refine z_run 400 hk rfl ?_
          rw [q4, z2, iN_0]
          refine z_ifF rfl (by first | (rw [k0_lt (by omega)] <;> omega) | (rw [k0_ge (by omega)] <;> omega) | (rw [k0_gt (by omega)] <;> omega) | (rw [k0_le (by omega)] <;> omega) | (rw [k0_eq (by omega)] <;> omega) | (rw [k0_ne (by omega)] <;> omega)) ?_
          rw [z1] at hin
          cases hin
        · have q8 : qPlayer (tV T) (nI i) (nI 8) = nI (vti V i) := by rw [hV]; exact qp8S hi o6 h8
          rw [q8]
          refine z_icT rfl (fun z => k_nn (by omega) (by decide) z) ?_
          refine z_run 400 hk rfl ?_
          rw [q8]
          refine z_icF rfl (by first | exact kx_same | exact kx_eq | (rw [k_lt (by omega) (by omega)] <;> omega) | (rw [k_ge (by omega) (by omega)] <;> omega) | (rw [k_gt (by omega) (by omega)] <;> omega) | (rw [k_le (by omega) (by omega)] <;> omega) | (rw [k_eq (by omega) (by omega)] <;> omega) | (rw [k_ne (by omega) (by omega)] <;> omega)) ?_
          exact next482 _
      have next393_0 : vin V i = false → Zx (d + 5) m_Law_holds Q 393 [some (.ref 1), some (.int (nI (vph V))), some (.int (nI (vc V))), some (.int (nI (vn V))), some (.int (nI (x_enc (vin V) (i + 1)))), some (.int (nI (x_ns (fun p => iN (vss V p)) (i + 1)))), some (.int (x_sm (vbu V) (i + 1))), some (.int (x_sm (vwa V) (i + 1))), some (.int (vOne (vin V) (i + 1))), some (.int (nI 1)), some (.int (nI i)), some (.int (nI 0))] [] T := by
        intro hin
        refine z_run 400 hk rfl ?_
        by_cases h1 : vph V = 1
        · refine z_icF rfl (by first | exact kx_same | exact kx_eq | (rw [k_lt (by omega) (by omega)] <;> omega) | (rw [k_ge (by omega) (by omega)] <;> omega) | (rw [k_gt (by omega) (by omega)] <;> omega) | (rw [k_le (by omega) (by omega)] <;> omega) | (rw [k_eq (by omega) (by omega)] <;> omega) | (rw [k_ne (by omega) (by omega)] <;> omega)) ?_
          refine z_run 400 hk rfl ?_
          have q3 : qPlayer (tV T) (nI i) (nI 3) = -1000004 := by rw [hV]; exact qp3F hi o6 (fun z => by rw [hin] at z; cases z.2)
          refine z_ifT rfl (by first | (rw [k0_lt (by omega)] <;> omega) | (rw [k0_ge (by omega)] <;> omega) | (rw [k0_gt (by omega)] <;> omega) | (rw [k0_le (by omega)] <;> omega) | (rw [k0_eq (by omega)] <;> omega) | (rw [k0_ne (by omega)] <;> omega)) ?_
          refine z_run 400 hk rfl ?_
          rw [q3]
          refine z_icF rfl (kx_same) ?_
          exact next439_0 hin
        · have q3 : qPlayer (tV T) (nI i) (nI 3) = -1000004 := by rw [hV]; exact qp3F hi o6 (fun z => h1 z.1)
          refine z_icT rfl (by first | exact kx_same | exact kx_eq | (rw [k_lt (by omega) (by omega)] <;> omega) | (rw [k_ge (by omega) (by omega)] <;> omega) | (rw [k_gt (by omega) (by omega)] <;> omega) | (rw [k_le (by omega) (by omega)] <;> omega) | (rw [k_eq (by omega) (by omega)] <;> omega) | (rw [k_ne (by omega) (by omega)] <;> omega)) ?_
          refine z_run 400 hk rfl ?_
          rw [q3]
          refine z_icF rfl (kx_same) ?_
          exact next439_0 hin
      refine z_run 400 hk rfl ?_
      refine z_icF rfl (by first | exact kx_same | exact kx_eq | (rw [k_lt (by omega) (by omega)] <;> omega) | (rw [k_ge (by omega) (by omega)] <;> omega) | (rw [k_gt (by omega) (by omega)] <;> omega) | (rw [k_le (by omega) (by omega)] <;> omega) | (rw [k_eq (by omega) (by omega)] <;> omega) | (rw [k_ne (by omega) (by omega)] <;> omega)) ?_
      refine z_run 400 hk rfl ?_
      refine z_ifF rfl (by first | (rw [k0_lt (by omega)] <;> omega) | (rw [k0_ge (by omega)] <;> omega) | (rw [k0_gt (by omega)] <;> omega) | (rw [k0_le (by omega)] <;> omega) | (rw [k0_eq (by omega)] <;> omega) | (rw [k0_ne (by omega)] <;> omega)) ?_
      refine z_run 400 hk rfl ?_
      cases hin : vin V i with
      | true =>
        have q2 : qPlayer (tV T) (nI i) (nI 2) = nI 1 := by rw [hV]; exact qp2T hi o6 hin
        rw [q2]
        refine z_icF rfl (by first | exact kx_same | exact kx_eq | (rw [k_lt (by omega) (by omega)] <;> omega) | (rw [k_ge (by omega) (by omega)] <;> omega) | (rw [k_gt (by omega) (by omega)] <;> omega) | (rw [k_le (by omega) (by omega)] <;> omega) | (rw [k_eq (by omega) (by omega)] <;> omega) | (rw [k_ne (by omega) (by omega)] <;> omega)) ?_
        refine z_run 400 hk rfl ?_
        refine z_ifF rfl (by first | (rw [k0_lt (by omega)] <;> omega) | (rw [k0_ge (by omega)] <;> omega) | (rw [k0_gt (by omega)] <;> omega) | (rw [k0_le (by omega)] <;> omega) | (rw [k0_eq (by omega)] <;> omega) | (rw [k0_ne (by omega)] <;> omega)) ?_
        refine z_run 400 hk rfl ?_
        refine z_ifF rfl (by first | (rw [k0_lt (by omega)] <;> omega) | (rw [k0_ge (by omega)] <;> omega) | (rw [k0_gt (by omega)] <;> omega) | (rw [k0_le (by omega)] <;> omega) | (rw [k0_eq (by omega)] <;> omega) | (rw [k0_ne (by omega)] <;> omega)) ?_
        refine z_to 287 400 hk rfl ?_
        rw [q4, q5, q6]
        have u1 : nI (x_enc (vin V) i) ||| (nI 1 <<< (nI i &&& 31)) = nI (x_enc (vin V) (i + 1)) := enc_or (by omega) hin
        have u2 : nI (x_ns (fun p => iN (vss V p)) i) + nI (iN (vss V i)) = nI (x_ns (fun p => iN (vss V p)) (i + 1)) := nI_add _ _
        have u3 : nI i = vOne (vin V) (i + 1) := by
          show _ = (if vin V i = true then nI i else vOne (vin V) i)
          rw [hin]
          rfl
        suffices F : ∀ x : Int32, x = vOne (vin V) (i + 1) → Zx (d + 5) m_Law_holds Q 287 [some (.ref 1), some (.int (nI (vph V))), some (.int (nI (vc V))), some (.int (nI (vn V))), some (.int (nI (x_enc (vin V) i) ||| (nI 1 <<< (nI i &&& 31)))), some (.int (nI (x_ns (fun p => iN (vss V p)) i) + nI (iN (vss V i)))), some (.int (x_sm (vbu V) (i + 1))), some (.int (x_sm (vwa V) (i + 1))), some (.int x), some (.int (nI 1)), some (.int (nI i)), some (.int (nI 1))] [] T from F _ u3
        intro x hx
        rw [u1, u2, hx]
        refine z_run 400 hk rfl ?_
        rw [q0]
        refine z_ifF rfl (by first | (rw [k0_lt (by omega)] <;> omega) | (rw [k0_ge (by omega)] <;> omega) | (rw [k0_gt (by omega)] <;> omega) | (rw [k0_le (by omega)] <;> omega) | (rw [k0_eq (by omega)] <;> omega) | (rw [k0_ne (by omega)] <;> omega)) ?_
        refine z_run 400 hk rfl ?_
        rw [q0]
        refine z_icF rfl (by first | exact kx_same | exact kx_eq | (rw [k_lt (by omega) (by omega)] <;> omega) | (rw [k_ge (by omega) (by omega)] <;> omega) | (rw [k_gt (by omega) (by omega)] <;> omega) | (rw [k_le (by omega) (by omega)] <;> omega) | (rw [k_eq (by omega) (by omega)] <;> omega) | (rw [k_ne (by omega) (by omega)] <;> omega)) ?_
        refine z_run 400 hk rfl ?_
        rw [q1]
        refine z_ifF rfl (by first | (rw [k0_lt (by omega)] <;> omega) | (rw [k0_ge (by omega)] <;> omega) | (rw [k0_gt (by omega)] <;> omega) | (rw [k0_le (by omega)] <;> omega) | (rw [k0_eq (by omega)] <;> omega) | (rw [k0_ne (by omega)] <;> omega)) ?_
        refine z_run 400 hk rfl ?_
        rw [q1]
        refine z_icF rfl (by first | exact kx_same | exact kx_eq | (rw [k_lt (by omega) (by omega)] <;> omega) | (rw [k_ge (by omega) (by omega)] <;> omega) | (rw [k_gt (by omega) (by omega)] <;> omega) | (rw [k_le (by omega) (by omega)] <;> omega) | (rw [k_eq (by omega) (by omega)] <;> omega) | (rw [k_ne (by omega) (by omega)] <;> omega)) ?_
        refine z_run 400 hk rfl ?_
        refine z_ifF rfl (by first | (rw [k0_lt (by omega)] <;> omega) | (rw [k0_ge (by omega)] <;> omega) | (rw [k0_gt (by omega)] <;> omega) | (rw [k0_le (by omega)] <;> omega) | (rw [k0_eq (by omega)] <;> omega) | (rw [k0_ne (by omega)] <;> omega)) ?_
        refine z_run 400 hk rfl ?_
        have q7 : qPlayer (tV T) (nI i) (nI 7) = -1000004 := by rw [hV]; exact qp7T hi o6 hin
        rw [q7]
        refine z_icF rfl (kx_same) ?_
        refine z_to 393 400 hk rfl ?_
        exact next393_1 hin
      | false =>
        have q2 : qPlayer (tV T) (nI i) (nI 2) = nI 0 := by rw [hV]; exact qp2F hi o6 hin
        rw [q2]
        refine z_icT rfl (by first | exact kx_same | exact kx_eq | (rw [k_lt (by omega) (by omega)] <;> omega) | (rw [k_ge (by omega) (by omega)] <;> omega) | (rw [k_gt (by omega) (by omega)] <;> omega) | (rw [k_le (by omega) (by omega)] <;> omega) | (rw [k_eq (by omega) (by omega)] <;> omega) | (rw [k_ne (by omega) (by omega)] <;> omega)) ?_
        refine z_run 400 hk rfl ?_
        refine z_ifT rfl (by first | (rw [k0_lt (by omega)] <;> omega) | (rw [k0_ge (by omega)] <;> omega) | (rw [k0_gt (by omega)] <;> omega) | (rw [k0_le (by omega)] <;> omega) | (rw [k0_eq (by omega)] <;> omega) | (rw [k0_ne (by omega)] <;> omega)) ?_
        refine z_run 400 hk rfl ?_
        refine z_ifT rfl (by first | (rw [k0_lt (by omega)] <;> omega) | (rw [k0_ge (by omega)] <;> omega) | (rw [k0_gt (by omega)] <;> omega) | (rw [k0_le (by omega)] <;> omega) | (rw [k0_eq (by omega)] <;> omega) | (rw [k0_ne (by omega)] <;> omega)) ?_
        refine z_to 287 400 hk rfl ?_
        rw [q4, q5, q6]
        have u1 : nI (x_enc (vin V) i) ||| nI 0 = nI (x_enc (vin V) (i + 1)) := enc_no hin
        have u2 : nI (x_ns (fun p => iN (vss V p)) i) + nI (iN (vss V i)) = nI (x_ns (fun p => iN (vss V p)) (i + 1)) := nI_add _ _
        have u3 : vOne (vin V) i = vOne (vin V) (i + 1) := by
          show _ = (if vin V i = true then nI i else vOne (vin V) i)
          rw [hin]
          rfl
        suffices F : ∀ x : Int32, x = vOne (vin V) (i + 1) → Zx (d + 5) m_Law_holds Q 287 [some (.ref 1), some (.int (nI (vph V))), some (.int (nI (vc V))), some (.int (nI (vn V))), some (.int (nI (x_enc (vin V) i) ||| nI 0)), some (.int (nI (x_ns (fun p => iN (vss V p)) i) + nI (iN (vss V i)))), some (.int (x_sm (vbu V) (i + 1))), some (.int (x_sm (vwa V) (i + 1))), some (.int x), some (.int (nI 1)), some (.int (nI i)), some (.int (nI 0))] [] T from F _ u3
        intro x hx
        rw [u1, u2, hx]
        refine z_run 400 hk rfl ?_
        rw [q0]
        refine z_ifF rfl (by first | (rw [k0_lt (by omega)] <;> omega) | (rw [k0_ge (by omega)] <;> omega) | (rw [k0_gt (by omega)] <;> omega) | (rw [k0_le (by omega)] <;> omega) | (rw [k0_eq (by omega)] <;> omega) | (rw [k0_ne (by omega)] <;> omega)) ?_
        refine z_run 400 hk rfl ?_
        rw [q0]
        refine z_icF rfl (by first | exact kx_same | exact kx_eq | (rw [k_lt (by omega) (by omega)] <;> omega) | (rw [k_ge (by omega) (by omega)] <;> omega) | (rw [k_gt (by omega) (by omega)] <;> omega) | (rw [k_le (by omega) (by omega)] <;> omega) | (rw [k_eq (by omega) (by omega)] <;> omega) | (rw [k_ne (by omega) (by omega)] <;> omega)) ?_
        refine z_run 400 hk rfl ?_
        rw [q1]
        refine z_ifF rfl (by first | (rw [k0_lt (by omega)] <;> omega) | (rw [k0_ge (by omega)] <;> omega) | (rw [k0_gt (by omega)] <;> omega) | (rw [k0_le (by omega)] <;> omega) | (rw [k0_eq (by omega)] <;> omega) | (rw [k0_ne (by omega)] <;> omega)) ?_
        refine z_run 400 hk rfl ?_
        rw [q1]
        refine z_icF rfl (by first | exact kx_same | exact kx_eq | (rw [k_lt (by omega) (by omega)] <;> omega) | (rw [k_ge (by omega) (by omega)] <;> omega) | (rw [k_gt (by omega) (by omega)] <;> omega) | (rw [k_le (by omega) (by omega)] <;> omega) | (rw [k_eq (by omega) (by omega)] <;> omega) | (rw [k_ne (by omega) (by omega)] <;> omega)) ?_
        refine z_run 400 hk rfl ?_
        refine z_ifT rfl (by first | (rw [k0_lt (by omega)] <;> omega) | (rw [k0_ge (by omega)] <;> omega) | (rw [k0_gt (by omega)] <;> omega) | (rw [k0_le (by omega)] <;> omega) | (rw [k0_eq (by omega)] <;> omega) | (rw [k0_ne (by omega)] <;> omega)) ?_
        refine z_run 400 hk rfl ?_
        obtain ⟨z1, z2, z3⟩ := j4 i hi hin
        have q7 : qPlayer (tV T) (nI i) (nI 7) = nI (iN (vou V i)) := by rw [hV]; exact qp7F hi o6 hin
        have q8 : qPlayer (tV T) (nI i) (nI 8) = nI (vti V i) := by rw [hV]; exact qp8S hi o6 (by omega)
        rw [q7]
        refine z_icF rfl (by first | exact kx_same | exact kx_eq | (rw [k_lt (by omega) (by omega)] <;> omega) | (rw [k_ge (by omega) (by omega)] <;> omega) | (rw [k_gt (by omega) (by omega)] <;> omega) | (rw [k_le (by omega) (by omega)] <;> omega) | (rw [k_eq (by omega) (by omega)] <;> omega) | (rw [k_ne (by omega) (by omega)] <;> omega)) ?_
        refine z_run 400 hk rfl ?_
        rw [q7, e4]
        refine z_icF rfl (by first | exact kx_same | exact kx_eq | (rw [k_lt (by omega) (by omega)] <;> omega) | (rw [k_ge (by omega) (by omega)] <;> omega) | (rw [k_gt (by omega) (by omega)] <;> omega) | (rw [k_le (by omega) (by omega)] <;> omega) | (rw [k_eq (by omega) (by omega)] <;> omega) | (rw [k_ne (by omega) (by omega)] <;> omega)) ?_
        refine z_run 400 hk rfl ?_
        rw [q8]
        refine z_icF rfl (by first | exact kx_same | exact kx_eq | (rw [k_lt (by omega) (by omega)] <;> omega) | (rw [k_ge (by omega) (by omega)] <;> omega) | (rw [k_gt (by omega) (by omega)] <;> omega) | (rw [k_le (by omega) (by omega)] <;> omega) | (rw [k_eq (by omega) (by omega)] <;> omega) | (rw [k_ne (by omega) (by omega)] <;> omega)) ?_
        exact next393_0 hin
  -- ahead of the loops
  have at95 : Zx (d + 5) m_Law_holds Q 95 [some (.ref 1), some (.int (nI (vph V))), some (.int (nI (vc V))), some (.int (nI (vn V))), some (.int (nI 0)), some (.int (nI 0)), some (.int (nI 0)), some (.int (nI 0)), some (.int (-1000004)), none, none, none] [] T := by
    have qa : qChair (tV T) (nI (vc V)) (nI 0) = -1000001 := by rw [hV]; exact qh_out o5 _
    have qb : qPlayer (tV T) (nI (vn V)) (nI 0) = -1000001 := by rw [hV]; exact qp_out o6 _
    have qd : qBell (tV T) (nI (vR V).1) (nI 0) = -1000004 := by rw [hV]; exact qb_out j7b (by omega)
    refine z_run 400 hk rfl ?_
    rw [e13]
    refine z_icF rfl (by first | exact kx_same | exact kx_eq | (rw [k_lt (by omega) (by omega)] <;> omega) | (rw [k_ge (by omega) (by omega)] <;> omega) | (rw [k_gt (by omega) (by omega)] <;> omega) | (rw [k_le (by omega) (by omega)] <;> omega) | (rw [k_eq (by omega) (by omega)] <;> omega) | (rw [k_ne (by omega) (by omega)] <;> omega)) ?_
    refine z_run 400 hk rfl ?_
    rw [e13, e6]
    refine z_icF rfl (by first | exact kx_same | exact kx_eq | (rw [k_lt (by omega) (by omega)] <;> omega) | (rw [k_ge (by omega) (by omega)] <;> omega) | (rw [k_gt (by omega) (by omega)] <;> omega) | (rw [k_le (by omega) (by omega)] <;> omega) | (rw [k_eq (by omega) (by omega)] <;> omega) | (rw [k_ne (by omega) (by omega)] <;> omega)) ?_
    refine z_run 400 hk rfl ?_
    rw [qa]
    refine z_icF rfl (kx_same) ?_
    refine z_run 400 hk rfl ?_
    rw [qb]
    refine z_icF rfl (kx_same) ?_
    refine z_run 400 hk rfl ?_
    rw [e13, qd]
    refine z_icF rfl (kx_same) ?_
    refine z_run 400 hk rfl ?_
    rw [e20]
    refine z_icF rfl (by first | exact kx_same | exact kx_eq | (rw [k_lt (by omega) (by omega)] <;> omega) | (rw [k_ge (by omega) (by omega)] <;> omega) | (rw [k_gt (by omega) (by omega)] <;> omega) | (rw [k_le (by omega) (by omega)] <;> omega) | (rw [k_eq (by omega) (by omega)] <;> omega) | (rw [k_ne (by omega) (by omega)] <;> omega)) ?_
    refine z_run 400 hk rfl ?_
    rw [e20]
    refine z_icF rfl (by first | exact kx_same | exact kx_eq | (rw [k_lt (by omega) (by omega)] <;> omega) | (rw [k_ge (by omega) (by omega)] <;> omega) | (rw [k_gt (by omega) (by omega)] <;> omega) | (rw [k_le (by omega) (by omega)] <;> omega) | (rw [k_eq (by omega) (by omega)] <;> omega) | (rw [k_ne (by omega) (by omega)] <;> omega)) ?_
    refine z_to 189 400 hk rfl ?_
    exact players 0 (Nat.zero_le _) none
  refine z_run 400 hk rfl ?_
  refine z_ifF rfl (by first | (rw [k0_lt (by omega)] <;> omega) | (rw [k0_ge (by omega)] <;> omega) | (rw [k0_gt (by omega)] <;> omega) | (rw [k0_le (by omega)] <;> omega) | (rw [k0_eq (by omega)] <;> omega) | (rw [k0_ne (by omega)] <;> omega)) ?_
  refine z_run 400 hk rfl ?_
  refine z_icF rfl (by first | exact kx_same | exact kx_eq | (rw [k_lt (by omega) (by omega)] <;> omega) | (rw [k_ge (by omega) (by omega)] <;> omega) | (rw [k_gt (by omega) (by omega)] <;> omega) | (rw [k_le (by omega) (by omega)] <;> omega) | (rw [k_eq (by omega) (by omega)] <;> omega) | (rw [k_ne (by omega) (by omega)] <;> omega)) ?_
  refine z_run 400 hk rfl ?_
  refine z_ifF rfl (by first | (rw [k0_lt (by omega)] <;> omega) | (rw [k0_ge (by omega)] <;> omega) | (rw [k0_gt (by omega)] <;> omega) | (rw [k0_le (by omega)] <;> omega) | (rw [k0_eq (by omega)] <;> omega) | (rw [k0_ne (by omega)] <;> omega)) ?_
  refine z_run 400 hk rfl ?_
  refine z_icF rfl (by first | exact kx_same | exact kx_eq | (rw [k_lt (by omega) (by omega)] <;> omega) | (rw [k_ge (by omega) (by omega)] <;> omega) | (rw [k_gt (by omega) (by omega)] <;> omega) | (rw [k_le (by omega) (by omega)] <;> omega) | (rw [k_eq (by omega) (by omega)] <;> omega) | (rw [k_ne (by omega) (by omega)] <;> omega)) ?_
  refine z_run 400 hk rfl ?_
  refine z_ifF rfl (by first | (rw [k0_lt (by omega)] <;> omega) | (rw [k0_ge (by omega)] <;> omega) | (rw [k0_gt (by omega)] <;> omega) | (rw [k0_le (by omega)] <;> omega) | (rw [k0_eq (by omega)] <;> omega) | (rw [k0_ne (by omega)] <;> omega)) ?_
  refine z_run 400 hk rfl ?_
  refine z_icF rfl (by first | exact kx_same | exact kx_eq | (rw [k_lt (by omega) (by omega)] <;> omega) | (rw [k_ge (by omega) (by omega)] <;> omega) | (rw [k_gt (by omega) (by omega)] <;> omega) | (rw [k_le (by omega) (by omega)] <;> omega) | (rw [k_eq (by omega) (by omega)] <;> omega) | (rw [k_ne (by omega) (by omega)] <;> omega)) ?_
  refine z_run 400 hk rfl ?_
  rw [e5]
  refine z_ifF rfl (by first | (rw [k0_lt (by omega)] <;> omega) | (rw [k0_ge (by omega)] <;> omega) | (rw [k0_gt (by omega)] <;> omega) | (rw [k0_le (by omega)] <;> omega) | (rw [k0_eq (by omega)] <;> omega) | (rw [k0_ne (by omega)] <;> omega)) ?_
  refine z_run 400 hk rfl ?_
  rw [e5]
  refine z_icF rfl (by first | exact kx_same | exact kx_eq | (rw [k_lt (by omega) (by omega)] <;> omega) | (rw [k_ge (by omega) (by omega)] <;> omega) | (rw [k_gt (by omega) (by omega)] <;> omega) | (rw [k_le (by omega) (by omega)] <;> omega) | (rw [k_eq (by omega) (by omega)] <;> omega) | (rw [k_ne (by omega) (by omega)] <;> omega)) ?_
  refine z_run 400 hk rfl ?_
  by_cases h1 : vph V = 1
  · refine z_icT rfl (by first | exact kx_same | exact kx_eq | (rw [k_lt (by omega) (by omega)] <;> omega) | (rw [k_ge (by omega) (by omega)] <;> omega) | (rw [k_gt (by omega) (by omega)] <;> omega) | (rw [k_le (by omega) (by omega)] <;> omega) | (rw [k_eq (by omega) (by omega)] <;> omega) | (rw [k_ne (by omega) (by omega)] <;> omega)) ?_
    exact at95
  · refine z_icF rfl (by first | exact kx_same | exact kx_eq | (rw [k_lt (by omega) (by omega)] <;> omega) | (rw [k_ge (by omega) (by omega)] <;> omega) | (rw [k_gt (by omega) (by omega)] <;> omega) | (rw [k_le (by omega) (by omega)] <;> omega) | (rw [k_eq (by omega) (by omega)] <;> omega) | (rw [k_ne (by omega) (by omega)] <;> omega)) ?_
    refine z_run 400 hk rfl ?_
    rw [e5, o7 h1]
    refine z_ifF rfl (by first | (rw [k0_lt (by omega)] <;> omega) | (rw [k0_ge (by omega)] <;> omega) | (rw [k0_gt (by omega)] <;> omega) | (rw [k0_le (by omega)] <;> omega) | (rw [k0_eq (by omega)] <;> omega) | (rw [k0_ne (by omega)] <;> omega)) ?_
    exact at95
