/-! ===== the mean, on both sides ===== -/
theorem nI_m1 {k : Nat} : nI (k + 1) + -1 = nI k := by
  rw [← nI_add, Int32.add_assoc, show nI 1 + -1 = 0 by decide, Int32.add_zero]
theorem f_self {E T : Nat} (h1 : 1 ≤ E) (hE : E ≤ 254) (hT : T < 8388608) : FP.fcmp (fl E T) (fl E T) = some .eq := by
  show FP.Core.order (FP.Core.decode FP.Core.b32 (fl E T).toNat) (FP.Core.decode FP.Core.b32 (fl E T).toNat) = _
  rw [dec_fl h1 hE hT]
  show some (compare _ _) = _
  rw [x_cmp, if_neg (Int.lt_irrefl _), if_pos rfl]
theorem f_nan1 {T : Nat} (hT : T < 8388608) : vf_n32 (FP.fsub (fl 127 T) FP.fconst1) ∧ vf_n32 (FP.fmul (FP.fsub (fl 127 T) FP.fconst1) 1258291200) := by
  by_cases h0 : T = 0
  · subst h0
    unfold vf_n32
    decide +kernel
  · obtain ⟨-, r2, r3, r4⟩ := rr_whole (a := T) (e := -23) (by omega) (by omega) (by omega) (by omega)
    rw [f_rest (by omega) hT, f_up (by omega) (by omega) (by omega)]
    exact ⟨f_nan (by omega) (by omega), f_nan (by omega) (by omega)⟩
/-- what a mean is -/
def fMn (v : UInt32) : Prop := v = 0 ∨ ∃ E T, 100 ≤ E ∧ E ≤ 160 ∧ T < 8388608 ∧ v = fl E T
theorem fMn_nan {v : UInt32} (h : fMn v) : vf_n32 v := by
  rcases h with rfl | ⟨E, T, h1, h2, h3, rfl⟩
  · exact f_nan0
  · exact f_nan (by omega) h3
theorem fMn_self {v : UInt32} (h : fMn v) : FP.fcmp v v = some .eq := by
  rcases h with rfl | ⟨E, T, h1, h2, h3, rfl⟩
  · decide +kernel
  · exact f_self (by omega) (by omega) h3
theorem f_mean {b n : Nat} (hb : b < 16777216) (hn : 0 < n) (hn2 : n ≤ 12) : fMn (FP.fdiv (FP.i2f (nI b)) (FP.i2f (nI n))) := by
  obtain ⟨E2, T2, e2, l2, m2, t2⟩ := f_i2f (a := n) hn (by omega)
  rw [e2]
  by_cases h0 : b = 0
  · subst h0
    exact Or.inl (f_div0 (by omega) (by omega) t2)
  · obtain ⟨E1, T1, e1, l1, m1, t1⟩ := f_i2f (a := b) (by omega) hb
    rw [e1]
    obtain ⟨E, T, z1, z2, z3, z4⟩ := f_div (E1 := E1) (T1 := T1) (E2 := E2) (T2 := T2) (by omega) m1 t1 (by omega) m2 t2
    exact Or.inr ⟨E, T, z2, z3, z4, z1⟩
set_option maxHeartbeats 8000000 in
theorem c_bitsOf (d : Nat) (v : UInt32) (g : xG) (Q : xQ) (hv : fMn v) (k : Q (some (.int v.toInt32)) g) : Cx (d + 1) i_Bc_bitsOf [.float v] g Q := by
  refine r_cl (L0 := [some (.float v), none, none, none]) rfl (Or.inl rfl) rfl rfl rfl ?_
  refine r_run 400 rfl rfl ?_
  rcases hv with rfl | ⟨E, T, h1, h2, hT, rfl⟩
  · have e : Op.cmpValue (FP.fcmp 0 FP.fconst0) .l = nI 0 := by decide +kernel
    rw [e]
    refine r_gt0 rfl (fun z => absurd z (by decide)) (fun _ => ?_)
    refine r_run 400 rfl rfl ?_
    exact r_iret rfl rfl k
  · rw [f_pos (by omega) (by omega) hT]
    refine r_gt0 rfl (fun _ => ?_) (fun z => absurd (by decide) z)
    have c1 : ∀ E', 1 ≤ E' → E' ≤ 254 → (E' < 128 → Op.cmpValue (FP.fcmp (fl E' T) FP.fconst2) .l = -1) ∧ (128 ≤ E' → ¬ Op.cmpValue (FP.fcmp (fl E' T) FP.fconst2) .l < 0) := by
      intro E' a1 a2
      rw [f_c2]
      obtain ⟨z1, z2⟩ := f_cmp (E := E') (T := T) (E2 := 128) a1 a2 hT (by omega) (by omega)
      refine ⟨fun h => by rw [z1 h]; rfl, fun h => ?_⟩
      rcases z2 h with z | z
      · rw [z]; decide
      · rw [z]; decide
    have c2 : ∀ E', 1 ≤ E' → E' ≤ 254 → (E' < 127 → ¬ 0 ≤ Op.cmpValue (FP.fcmp (fl E' T) FP.fconst1) .g) ∧ (127 ≤ E' → 0 ≤ Op.cmpValue (FP.fcmp (fl E' T) FP.fconst1) .g) := by
      intro E' a1 a2
      rw [f_c1]
      obtain ⟨z1, z2⟩ := f_cmp (E := E') (T := T) (E2 := 127) a1 a2 hT (by omega) (by omega)
      refine ⟨fun h => by rw [z1 h]; decide, fun h => ?_⟩
      rcases z2 h with z | z
      · rw [z]; decide
      · rw [z]; decide
    -- the end
    have fin : ∀ l3 : Option Value, Rx d m_Bc_bitsOf Q 67 [some (.float (fl E T)), some (.float (fl 127 T)), some (.int (nI E)), l3] [] g := by
      intro l3
      obtain ⟨n1, n2⟩ := f_nan1 hT
      refine r_run 400 rfl rfl ?_
      refine r_fsub rfl n1 ?_
      refine r_run 400 rfl rfl ?_
      refine r_fmul rfl n2 ?_
      refine r_run 400 rfl rfl ?_
      rw [f_frac hT]
      have es : nI E <<< (nI 23 &&& 31) = nI (E * 8388608) := pk_shlN (n := E) _ 23 (by decide) (show E * 8388608 < 4294967296 by omega)
      rw [es, nI_add, ← fl_32]
      exact r_iret rfl rfl k
    -- doubled
    have loop2 : ∀ E1 X, 100 ≤ E1 → E1 ≤ 127 → X = E + (127 - E1) → ∀ i, i ≤ 127 - E1 → Rx d m_Bc_bitsOf Q 42 [some (.float (fl E T)), some (.float (fl (E1 + i) T)), some (.int (nI (X - i))), some (.int (nI i))] [] g := by
      intro E1 X a1 a2 hX
      refine r_for ?_ ?_
      · have e1 : E1 + (127 - E1) = 127 := by omega
        have e2 : X - (127 - E1) = E := by omega
        refine r_run 400 rfl rfl ?_
        refine n_ige rfl (by omega) (by omega) (fun h => by omega) (fun _ => ?_)
        refine r_run 400 rfl rfl ?_
        rw [e1, e2]
        refine r_ge0 rfl (fun _ => fin _) (fun z => absurd ((c2 127 (by omega) (by omega)).2 (by omega)) z)
      · intro i hi ih
        refine r_run 400 rfl rfl ?_
        refine n_ige rfl (by omega) (by omega) (fun h => by omega) (fun _ => ?_)
        refine r_run 400 rfl rfl ?_
        refine r_ge0 rfl (fun z => absurd z ((c2 (E1 + i) (by omega) (by omega)).1 (by omega))) (fun _ => ?_)
        refine r_run 400 rfl rfl ?_
        refine r_fmul rfl (by rw [f_dbl (by omega) (by omega) hT]; exact f_nan (by omega) hT) ?_
        rw [f_dbl (by omega) (by omega) hT]
        refine r_to 42 60 rfl rfl ?_
        have e1 : nI (X - i) + -1 = nI (X - (i + 1)) := by
          rw [show X - i = X - (i + 1) + 1 by omega]
          exact nI_m1
        simp only [nI_add]
        rw [e1]
        exact ih
    -- halved
    have loop1 : ∀ i, i ≤ E - 127 → Rx d m_Bc_bitsOf Q 15 [some (.float (fl E T)), some (.float (fl (E - i) T)), some (.int (nI (127 + i))), some (.int (nI i))] [] g := by
      refine r_for ?_ ?_
      · refine r_run 400 rfl rfl ?_
        refine n_ige rfl (by omega) (by omega) (fun h => by omega) (fun _ => ?_)
        refine r_run 400 rfl rfl ?_
        rw [(c1 (E - (E - 127)) (by omega) (by omega)).1 (by omega)]
        refine r_lt0 rfl (fun _ => ?_) (fun z => absurd (by decide) z)
        refine r_to 42 60 rfl rfl ?_
        have hl := loop2 (E - (E - 127)) (127 + (E - 127)) (by omega) (by omega) (by omega) 0 (Nat.zero_le _)
        rw [Nat.add_zero, Nat.sub_zero] at hl
        exact hl
      · intro i hi ih
        refine r_run 400 rfl rfl ?_
        refine n_ige rfl (by omega) (by omega) (fun h => by omega) (fun _ => ?_)
        refine r_run 400 rfl rfl ?_
        refine r_lt0 rfl (fun z => absurd z ((c1 (E - i) (by omega) (by omega)).2 (by omega))) (fun _ => ?_)
        refine r_run 400 rfl rfl ?_
        refine r_fdiv rfl (by rw [f_half (by omega) (by omega) hT]; exact f_nan (by omega) hT) ?_
        rw [f_half (by omega) (by omega) hT]
        refine r_to 15 60 rfl rfl ?_
        simp only [nI_add]
        rw [show E - i - 1 = E - (i + 1) by omega, show 127 + i + 1 = 127 + (i + 1) by omega]
        exact ih
    refine r_to 15 60 rfl rfl ?_
    exact loop1 0 (Nat.zero_le _)
/-! how many bumps there can be -/
def vBd (V : xV) (N : Nat) : Prop := ∀ p, p < vn V → ∃ b, b ≤ N ∧ vbu V p = nI b
theorem vBd_le {V : xV} {N M : Nat} (h : vBd V N) (hm : N ≤ M) : vBd V M := fun p hp => by
  obtain ⟨b, h1, h2⟩ := h p hp
  exact ⟨b, by omega, h2⟩
theorem x_sm_bd {f : Nat → Int32} {N : Nat} : ∀ n, (∀ p, p < n → ∃ b, b ≤ N ∧ f p = nI b) → ∃ b, b ≤ n * N ∧ x_sm f n = nI b
  | 0, _ => ⟨0, Nat.zero_le _, rfl⟩
  | n + 1, h => by
    obtain ⟨b, h1, h2⟩ := x_sm_bd n (fun p hp => h p (by omega))
    obtain ⟨c, h3, h4⟩ := h n (by omega)
    refine ⟨b + c, by rw [Nat.succ_mul]; omega, ?_⟩
    show x_sm f n + f n = _
    rw [h2, h4, nI_add]
def qMean (V : xV) : Int32 := if vn V = 0 then -1000004 else (FP.fdiv (FP.i2f (x_sm (vbu V) (vn V))) (FP.i2f (nI (vn V)))).toInt32
theorem vMn {V : xV} {N : Nat} (h : vBd V N) (hN : N ≤ 600000) (h0 : ¬ vn V = 0) (h12 : vn V ≤ 12) : fMn (FP.fdiv (FP.i2f (x_sm (vbu V) (vn V))) (FP.i2f (nI (vn V)))) := by
  obtain ⟨b, h1, h2⟩ := x_sm_bd (vn V) h
  rw [h2]
  have : vn V * N ≤ 12 * 600000 := Nat.mul_le_mul h12 hN
  exact f_mean (by omega) (by omega) h12
set_option maxHeartbeats 4000000 in
theorem s_mean (d N : Nat) (T : xT) (g : xG) (Q : xQ) (h : SG g T) (hk : tOk T) (hb : vBd (tV T) N) (hN : N ≤ 600000) (k : Q (some (.int (qMean (tV T)))) g) : Cx (d + 3) i_Bc_mean [.ref 1] g Q := by
  obtain ⟨nx, h, -⟩ := h
  obtain ⟨⟨v1, v2, v3, v4, v5, v6⟩, -⟩ := hk.1
  have hn : g 7 9 = nI (vn (tV T)) := h.2.2.2.1.2
  have hbu : ∀ p, p < vn (tV T) → g 12 p = vbu (tV T) p := fun p hp => (h.2.2.2.2.1 p hp).2.2.2.2.1
  unfold qMean at k
  refine r_cl (L0 := [some (.ref 1), none]) rfl (Or.inr ⟨_, _, _, rfl, rfl⟩) rfl rfl rfl ?_
  refine r_run 400 rfl rfl ?_
  simp only [x_up_app, x_ce_app, x_ce_same, Nat.reduceAdd, Nat.reduceEqDiff, ↓reduceIte, Nat.reduceSub, Nat.reduceMul, reduceCtorEq, hn]
  refine n_ige rfl (by omega) (by omega) (fun hge => ?_) (fun hlt => ?_)
  · have h0 : ¬ vn (tV T) = 0 := by omega
    rw [if_neg h0] at k
    have hm := vMn hb hN h0 v6
    refine r_run 400 rfl rfl ?_
    refine r_inv rfl rfl rfl ?_
    refine c_allBumps_2 d (vn (tV T)) g _ hn v6 ?_
    rw [x_sm_congr (f' := vbu (tV T)) _ hbu]
    refine r_run 400 rfl rfl ?_
    refine r_fdiv rfl (fMn_nan hm) ?_
    refine r_ins rfl rfl rfl rfl ?_
    refine c_bitsOf (d + 1) _ g _ hm ?_
    exact r_iret rfl rfl k
  · rw [if_pos (by omega)] at k
    refine r_run 400 rfl rfl ?_
    exact r_iret rfl rfl k
