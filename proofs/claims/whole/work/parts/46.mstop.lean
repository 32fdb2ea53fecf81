/-! ===== the reference's stop ===== -/
def vLo (V : xV) (x : Int32) : xV := vV (vph V) (vfw V) (vbt V) (vc V) (vn V) (vrd V) (vtk V) (vtg V) x (vtn V) (vsa V) (vsi V) (vst V) (vea V) (vin V) (vpl V) (vss V) (vbu V) (vwa V) (vou V) (vti V) (vR V)
theorem x_cnt_0 {f : Nat → Bool} : ∀ n, (∀ p, p < n → f p = false) → x_cnt f n = 0
  | 0, _ => rfl
  | n + 1, h => by
    show x_cnt f n + _ = 0
    rw [x_cnt_0 n (fun p hp => h p (by omega)), h n (by omega)]
    rfl
theorem vT_pos {V : xV} {b T : Nat} (h : vT V b T) (hc : vc V < x_cnt (vin V) (vn V)) : 1 ≤ T := by
  apply Classical.byContradiction
  intro hT
  have e : T = 0 := by omega
  subst e
  have := x_cnt_0 (f := vin V) (vn V) (fun p hp => h.2.1 p hp)
  omega
theorem x_subi {c a b : Nat} (hc : 1 ≤ c) (hc2 : c ≤ 16) (ha : a ≤ 12) (hb : b ≤ 3) : (nI c ≤ nI a - nI b) ↔ c ≤ a - b := by
  by_cases h : b ≤ a
  · rw [pk_sub h, nI_leI (by omega) (by omega)]
  · have hd : ∀ b, b < 4 → ∀ a, a < b → nI a - nI b < 0 := by decide
    have := hd b (by omega) a (by omega)
    constructor
    · intro z
      exact absurd (Int32.lt_of_le_of_lt z this) (nI_pos (by omega))
    · intro z
      omega
theorem vTk_ph (k : Nat) (V : xV) : vph (vTk k V) = vph V := (vTk_fix k V).1
theorem vStop_ph (V : xV) (T : Nat) : ¬ vph (vStop V T) = 1 := by
  unfold vStop
  split
  · show ¬ (2 : Nat) = 1
    omega
  · rw [vTk_ph]
    show ¬ (0 : Nat) = 1
    omega
set_option maxHeartbeats 4000000 in
theorem k_taking (d : Nat) (P : Nat → Nat) (Q : xQ) : ∀ (m : Nat) (W : xV) (g' : xG), MG (g' 158) W P → vc W ≤ 16 → vn W ≤ 12 → vph W = 0 → vfw W ≤ 3 → vc W - max (x_cnt (vin W) (vn W) - vfw W) 1 = m → (∀ g2 : xG, MG (g2 158) (vTk m W) P → (∀ a, a ≠ 158 → g2 a = g' a) → Rx (d + 6) m_Md_goStop Q 107 [some (.ref 157)] [] g2) → Rx (d + 6) m_Md_goStop Q 61 [some (.ref 157)] [] g' := by
  intro m
  induction m with
  | zero =>
    intro W g' h v5 v6 v0 vf hm k
    have hcn := x_cnt_le (vin W) (vn W)
    have k := k g' h (fun _ _ => rfl)
    obtain ⟨⟨w0, w1, w2, w3, -⟩, -, h3, -⟩ := h
    rw [v0] at w0
    refine r_run 400 rfl rfl ?_
    refine r_ald (j := 0) rfl rfl rfl (by decide) (Nat.le_of_ble_eq_true rfl) ?_
    simp only [Nat.reduceAdd]
    rw [w0]
    refine t_ne0 rfl ?_
    refine r_run 400 rfl rfl ?_
    refine r_ald (j := 1) rfl rfl rfl (by decide) (Nat.le_of_ble_eq_true rfl) ?_
    refine r_run 400 rfl rfl ?_
    simp only [Nat.reduceAdd]
    rw [w1]
    refine n_ile rfl (by omega) (by omega) (fun _ => k) (fun hgt => ?_)
    refine r_run 400 rfl rfl ?_
    refine r_ald (j := 1) rfl rfl rfl (by decide) (Nat.le_of_ble_eq_true rfl) ?_
    refine r_run 400 rfl rfl ?_
    refine r_inv rfl rfl rfl ?_
    refine m_inPlay (d + 4) (vn W) (vin W) g' _ w2 v6 (fun p hp => (h3 p hp).2.2.1) ?_
    refine r_run 400 rfl rfl ?_
    refine r_ald (j := 3) rfl rfl rfl (by decide) (Nat.le_of_ble_eq_true rfl) ?_
    refine r_run 400 rfl rfl ?_
    simp only [Nat.reduceAdd]
    rw [w1, w3]
    refine r_ile rfl (fun _ => k) (fun hno => ?_)
    rw [x_subi (by omega) v5 (by omega) vf] at hno
    omega
  | succ m IH =>
    intro W g' h v5 v6 v0 vf hm k
    have hcn := x_cnt_le (vin W) (vn W)
    have h0 := h
    obtain ⟨⟨w0, w1, w2, w3, -⟩, -, h3, -⟩ := h
    rw [v0] at w0
    refine r_run 400 rfl rfl ?_
    refine r_ald (j := 0) rfl rfl rfl (by decide) (Nat.le_of_ble_eq_true rfl) ?_
    simp only [Nat.reduceAdd]
    rw [w0]
    refine t_ne0 rfl ?_
    refine r_run 400 rfl rfl ?_
    refine r_ald (j := 1) rfl rfl rfl (by decide) (Nat.le_of_ble_eq_true rfl) ?_
    refine r_run 400 rfl rfl ?_
    simp only [Nat.reduceAdd]
    rw [w1]
    refine n_ile rfl (by omega) (by omega) (fun _ => by omega) (fun hgt => ?_)
    refine r_run 400 rfl rfl ?_
    refine r_ald (j := 1) rfl rfl rfl (by decide) (Nat.le_of_ble_eq_true rfl) ?_
    refine r_run 400 rfl rfl ?_
    refine r_inv rfl rfl rfl ?_
    refine m_inPlay (d + 4) (vn W) (vin W) g' _ w2 v6 (fun p hp => (h3 p hp).2.2.1) ?_
    refine r_run 400 rfl rfl ?_
    refine r_ald (j := 3) rfl rfl rfl (by decide) (Nat.le_of_ble_eq_true rfl) ?_
    refine r_run 400 rfl rfl ?_
    simp only [Nat.reduceAdd]
    rw [w1, w3]
    refine r_ile rfl (fun hle => ?_) (fun hno => ?_)
    · rw [x_subi (by omega) v5 (by omega) vf] at hle
      omega
    · refine r_run 400 rfl rfl ?_
      refine r_inv rfl rfl rfl ?_
      refine m_takesChair (d + 4) W P g' _ h0 (by omega) v5 v6 (fun g2 c1 c2 => ?_)
      refine r_to 61 60 rfl rfl ?_
      refine IH (vTk1 W) g2 c1 (show vc W - 1 ≤ 16 by omega) v6 v0 vf (show vc W - 1 - max (x_cnt (vin W) (vn W) - vfw W) 1 = m by omega) (fun g3 e1 e2 => k g3 e1 (fun a ha => by rw [e2 a ha, c2 a ha]))
set_option maxHeartbeats 16000000 in
theorem m_goStop (d : Nat) (V : xV) (g : xG) (Q : xQ) (h : MG (g 158) V (vpl V)) (hk : vOk V) (h1 : vph V = 1) (k : ∀ g' : xG, MG (g' 158) (vStop V (vTT V 0)) (vpl (vStop V (vTT V 0))) → (∀ j, j ≠ 12 → g' 157 j = g 157 j) → (∀ a, (a < 157 ∨ (158 < a ∧ a < 163) ∨ 168 < a) → g' a = g a) → Q (some (.int (aStop V))) g') : Cx (d + 7) i_Md_goStop [.ref 157] g Q := by
  have hw := vOk_w hk
  obtain ⟨⟨b1, b2, b3, b4, b5, b6⟩, hbt, hc1', vt8, wsi, wpl, wpp⟩ := id hk
  obtain ⟨hc1, hc2⟩ := hc1' h1
  have hT := vT_ex (b := 0) hc1 b5
  have hT2 := vT_pos hT hc2
  have hI := vIv (V := V) (b := 0) hc1 (vTT V 0)
  have hJ : xJ V (vX V 0 (vTT V 0)) := xJ_it (vTT V 0)
  unfold aStop at k
  generalize hTT : vTT V 0 = T at hT hT2 k hI hJ
  obtain ⟨hT17, hT0, hT1⟩ := hT
  have hcn := x_cnt_le (vin V) (vn V)
  obtain ⟨⟨w0, w1, w2, w3, w4, w5, w6, w7, w9, w10, w11, w13, w16⟩, h2, h3, h4, h5⟩ := id h
  refine r_cl (L0 := [some (.ref 157)]) rfl (Or.inr ⟨_, _, _, rfl, rfl⟩) rfl rfl rfl ?_
  refine r_run 400 rfl rfl ?_
  refine r_ald (j := 9) rfl rfl rfl (by decide) (Nat.le_of_ble_eq_true rfl) ?_
  refine r_run 400 rfl rfl ?_
  refine r_inv rfl rfl rfl ?_
  refine m_inPlay (d + 4) (vn V) (vin V) g _ w2 b6 (fun p hp => (h3 p hp).2.2.1) ?_
  refine r_run 400 rfl rfl ?_
  refine r_ald (j := 1) rfl rfl rfl (by decide) (Nat.le_of_ble_eq_true rfl) ?_
  refine r_run 400 rfl rfl ?_
  refine r_ast (j := 9) rfl rfl rfl (by decide) (Nat.le_of_ble_eq_true rfl) ?_
  simp only [Nat.reduceAdd]
  rw [w1, w9]
  have hM1 : MG (x_up g 158 9 (vlo V + (nI (x_cnt (vin V) (vn V)) - nI (vc V))) 158) (vLo V (vlo V + (nI (x_cnt (vin V) (vn V)) - nI (vc V)))) (vpl V) := by
    refine ⟨?_, fun j hj => ?_, fun q hq => ?_, h4, fun a w ha hw => ?_⟩
    · simp (disch := omega) only [x_up_o, x_up_n, x_up_e]
      exact ⟨w0, w1, w2, w3, w4, w5, w6, w7, rfl, w10, w11, w13, w16⟩
    · have hj : j < vc V := hj
      have z := h2 j hj
      simp (disch := omega) only [x_up_o, x_up_n, x_up_e]
      exact z
    · have hq : q < vn V := hq
      have z := h3 q hq
      simp (disch := omega) only [x_up_o, x_up_n, x_up_e]
      exact z
    · have ha : a < (vR V).1 := ha
      simp (disch := omega) only [x_up_o, x_up_n, x_up_e]
      exact h5 a w ha hw
  refine r_run 400 rfl rfl ?_
  refine r_inv rfl rfl rfl ?_
  refine m_gropesAll d T (vLo V (vlo V + (nI (x_cnt (vin V) (vn V)) - nI (vc V)))) (fun p => (vpl V p + vst V p * 0) % vc V) (vpl V) _ _ hM1 hw h1 (fun p => Nat.mod_lt _ (by omega)) (fun p hp hi => ?_) hT17 hT2 hT0 hT1 (fun g2 P2 c1 c2 c3 c4 => ?_)
  · show vpl V p = (vpl V p + vst V p * 0) % vc V
    rw [Nat.mul_zero, Nat.add_zero, Nat.mod_eq_of_lt (wpp h1 p hp hi)]
  have c1' : MG (g2 158) (wS (vTick (vLo V (vlo V + (nI (x_cnt (vin V) (vn V)) - nI (vc V)))) T) _ _ _ _ _ _ _ _) P2 := c1
  rw [MG_wS] at c1'
  obtain ⟨⟨u0, u1, u2, u3, u4, u5, u6, u7, u9, u10, u11, u13, u16⟩, y2, y3, y4, y5⟩ := c1'
  obtain ⟨j1, j2, j3, j4, j5⟩ := hJ
  have c2o : x_mk (g2 157 12) (vn V) (XO (vX V 0 T)) := c2.1
  have e4 : g2 158 4 = vrd V := u4
  have e2 : g2 158 2 = nI (vn V) := u2
  have e1 : g2 158 1 = nI (vc V) := u1
  -- who plays on
  have hin : ∀ p, p < vn V → (vin V p && !XO (vX V 0 T) p) = vIn V T p := fun p hp => by
    unfold vIn
    have h0 := hT0 p hp
    rw [j1 p] at h0
    cases hv : vin V p with
    | false => rfl
    | true =>
      rw [hv] at h0
      cases ho : XO (vX V 0 T) p with
      | true =>
        rw [(j2 p ho).1]
        rfl
      | false =>
        rw [ho] at h0
        cases hs : XS (vX V 0 T) p with
        | none => rw [hs] at h0; cases h0
        | some q => rfl
  have hcnt : x_cnt (fun p => vin V p && !XO (vX V 0 T) p) (vn V) = x_cnt (vIn V T) (vn V) := x_cnt_congr _ hin
  have hcn2 := x_cnt_le (vIn V T) (vn V)
  have core : ∀ (g3 : xG) (ph : Nat), g3 158 0 = nI ph → g3 158 4 = vrd V + nI 1 → g3 158 5 = nI 0 → (∀ j, ¬ j = 0 → ¬ j = 4 → ¬ j = 5 → g3 158 j = g2 158 j) → (¬ ph = 1) → MG (g3 158) (vEnd V T ph) P2 := by
    intro g3 ph q0 q4 q5 q hph
    refine ⟨⟨q0, ?_, ?_, ?_, q4, q5, ?_, ?_, ?_, ?_, ?_, ?_, ?_⟩, fun j hj => ?_, fun p hp => ?_, ?_, fun a w ha hw => ?_⟩
    · rw [q 1 (by omega) (by omega) (by omega)]; exact u1
    · rw [q 2 (by omega) (by omega) (by omega)]; exact u2
    · rw [q 3 (by omega) (by omega) (by omega)]; exact u3
    · rw [q 6 (by omega) (by omega) (by omega), u6]
      refine x_sm_congr _ (fun p hp => ?_)
      show (if (XS (vX V 0 T) p).isSome = true then vss V p + nI 1 else vss V p) = (if vIn V T p = true then vss V p + nI 1 else vss V p)
      unfold vIn
      cases hs : (XS (vX V 0 T) p).isSome with
      | true => rw [j3 p hs]; rfl
      | false => rw [Bool.and_false]
    · rw [q 7 (by omega) (by omega) (by omega), u7]
      refine x_sm_congr _ (fun p hp => ?_)
      show vbu V p + nI (XB (vX V 0 T) p) = (if vin V p = true then vbu V p + nI (XB (vX V 0 T) p) else vbu V p)
      cases hv : vin V p with
      | true => rfl
      | false =>
        rw [j4 p hv]
        exact Int32.add_zero _
    · rw [q 9 (by omega) (by omega) (by omega)]; exact u9
    · rw [q 10 (by omega) (by omega) (by omega)]; exact u10
    · rw [q 11 (by omega) (by omega) (by omega)]; exact u11
    · rw [q 13 (by omega) (by omega) (by omega)]; exact u13
    · rw [q 16 (by omega) (by omega) (by omega)]; exact u16
    · have hj : j < vc V := hj
      obtain ⟨z1, z2, z3⟩ := y2 j hj
      rw [q _ (by omega) (by omega) (by omega), q _ (by omega) (by omega) (by omega), q _ (by omega) (by omega) (by omega)]
      have hww := hI.1 j
      have hjw := j5 j
      refine ⟨z1, z2.trans ?_, z3.trans ?_⟩
      · show (if (XI (vX V 0 T) j).isSome = true then vsa V j + nI 1 else vsa V j) = (if 1 ≤ XW (vX V 0 T) j ∧ XW (vX V 0 T) j ≤ T then vsa V j + nI 1 else vsa V j)
        by_cases e : 1 ≤ XW (vX V 0 T) j
        · rw [if_pos (hjw.mpr e), if_pos ⟨e, hww⟩]
        · rw [if_neg (fun z => e (hjw.mp z)), if_neg (fun z => e z.1)]
      · show x_o1 (if (XI (vX V 0 T) j).isSome = true then XI (vX V 0 T) j else vsi V j) = x_o1 (if 1 ≤ XW (vX V 0 T) j ∧ XW (vX V 0 T) j ≤ T then XI (vX V 0 T) j else vsi V j)
        by_cases e : 1 ≤ XW (vX V 0 T) j
        · rw [if_pos (hjw.mpr e), if_pos ⟨e, hww⟩]
        · rw [if_neg (fun z => e (hjw.mp z)), if_neg (fun z => e z.1)]
    · have hp : p < vn V := hp
      obtain ⟨z1, z2, z3, z4, z5, z6, z7, z8, z9⟩ := y3 p hp
      have f : ∀ i, i < 9 → g3 158 (65 + 9 * p + i) = g2 158 (65 + 9 * p + i) := fun i hi => q _ (by omega) (by omega) (by omega)
      rw [f 0 (by omega), f 1 (by omega), f 2 (by omega), f 4 (by omega), f 5 (by omega), f 6 (by omega), f 7 (by omega), f 8 (by omega)]
      have h0 := hT0 p hp
      rw [j1 p] at h0
      refine ⟨z1, z2, z3.trans ?_, fun z => absurd z hph, z5.trans ?_, z6.trans ?_, z7, z8.trans ?_, z9.trans ?_⟩
      · exact congrArg x_b (hin p hp)
      · show (if (XS (vX V 0 T) p).isSome = true then vss V p + nI 1 else vss V p) = (if vIn V T p = true then vss V p + nI 1 else vss V p)
        unfold vIn
        cases hs : (XS (vX V 0 T) p).isSome with
        | true => rw [j3 p hs]; rfl
        | false => rw [Bool.and_false]
      · show vbu V p + nI (XB (vX V 0 T) p) = (if vin V p = true then vbu V p + nI (XB (vX V 0 T) p) else vbu V p)
        cases hv : vin V p with
        | true => rfl
        | false =>
          rw [j4 p hv]
          exact Int32.add_zero _
      · show (if XO (vX V 0 T) p = true then vrd V + nI 1 else vou V p) = (if (vin V p && (XS (vX V 0 T) p).isNone) = true then vrd V + nI 1 else vou V p)
        have e : XO (vX V 0 T) p = (vin V p && (XS (vX V 0 T) p).isNone) := by
          cases ho : XO (vX V 0 T) p with
          | true =>
            rw [(j2 p ho).1, (j2 p ho).2]
            rfl
          | false =>
            rw [ho, Bool.not_false, Bool.and_true] at h0
            exact h0.symm
        rw [e]
      · show nI (if (XO (vX V 0 T) p || (XS (vX V 0 T) p).isSome) = true then XT (vX V 0 T) p else vti V p) = nI (if vin V p = true then XT (vX V 0 T) p else vti V p)
        have e : (XO (vX V 0 T) p || (XS (vX V 0 T) p).isSome) = vin V p := by
          cases hv : vin V p with
          | false =>
            cases ho : XO (vX V 0 T) p with
            | true => rw [(j2 p ho).2] at hv; cases hv
            | false =>
              cases hs : (XS (vX V 0 T) p).isSome with
              | true => rw [j3 p hs] at hv; cases hv
              | false => rfl
          | true =>
            rw [hv] at h0
            cases ho : XO (vX V 0 T) p with
            | true => rfl
            | false =>
              rw [ho] at h0
              cases hs : XS (vX V 0 T) p with
              | none => rw [hs] at h0; cases h0
              | some q => rfl
        rw [e]
    · exact y4
    · rw [q _ (by omega) (by omega) (by omega)]
      exact y5 a w ha hw
  have fin : ∀ g4 : xG, MG (g4 158) (vStop V T) P2 → g4 157 = g2 157 → (∀ a, (a < 157 ∨ (158 < a ∧ a < 163) ∨ 168 < a) → g4 a = g2 a) → Rx (d + 6) m_Md_goStop Q 107 [some (.ref 157)] [] g4 := by
    intro g4 q1 q2 q3
    refine r_run 400 rfl rfl ?_
    simp only [Nat.reduceAdd]
    rw [q2, x_mk_enc c2o]
    refine r_iret rfl rfl (k g4 (MG_P q1 (fun z => absurd z (vStop_ph V T))) (fun j hj => ?_) (fun a ha => ?_))
    · rw [q2, c3 j hj, x_up_row (by decide)]
    · rw [q3 a ha, c4 a ha, x_up_row (by omega)]
  refine r_run 400 rfl rfl ?_
  refine r_ald (j := 4) rfl rfl rfl (by decide) (Nat.le_of_ble_eq_true rfl) ?_
  simp only [Nat.reduceAdd]
  rw [e4]
  refine r_run 400 rfl rfl ?_
  refine r_ast (j := 4) rfl rfl rfl (by decide) (Nat.le_of_ble_eq_true rfl) ?_
  refine r_run 400 rfl rfl ?_
  refine r_ast (j := 5) rfl rfl rfl (by decide) (Nat.le_of_ble_eq_true rfl) ?_
  refine r_run 400 rfl rfl ?_
  refine r_inv rfl rfl rfl ?_
  simp only [Nat.reduceAdd]
  refine m_inPlay (d + 4) (vn V) (fun p => vin V p && !XO (vX V 0 T) p) _ _ (by simp (disch := omega) only [x_up_o, x_up_n, x_up_e]; exact e2) b6 (fun p hp => by simp (disch := omega) only [x_up_o, x_up_n, x_up_e]; exact (y3 p hp).2.2.1) ?_
  rw [hcnt]
  refine r_run 400 rfl rfl ?_
  refine n_ige rfl (by omega) (by omega) (fun hge => ?_) (fun hlt => ?_)
  · refine r_run 400 rfl rfl ?_
    refine r_ast (j := 0) rfl rfl rfl (by decide) (Nat.le_of_ble_eq_true rfl) ?_
    simp only [Nat.reduceAdd]
    have hE := core (x_up (x_up (x_up g2 158 4 (vrd V + nI 1)) 158 5 (nI 0)) 158 0 (nI 0)) 0 (by simp (disch := omega) only [x_up_o, x_up_n, x_up_e]) (by simp (disch := omega) only [x_up_o, x_up_n, x_up_e]) (by simp (disch := omega) only [x_up_o, x_up_n, x_up_e]) (fun j z1 z2 z3 => by simp (disch := omega) only [x_up_o, x_up_n, x_up_e]) (by omega)
    refine k_taking d P2 Q _ (vEnd V T 0) _ hE b5 b6 rfl b3 rfl (fun g4 q1 q2 => ?_)
    refine fin g4 ?_ ?_ (fun a ha => ?_)
    · unfold vStop
      rw [if_neg (by omega)]
      exact q1
    · rw [q2 157 (by decide), x_up_row (by decide), x_up_row (by decide), x_up_row (by decide)]
    · rw [q2 a (by omega), x_up_row (by omega), x_up_row (by omega), x_up_row (by omega)]
  · refine r_run 400 rfl rfl ?_
    refine r_ast (j := 0) rfl rfl rfl (by decide) (Nat.le_of_ble_eq_true rfl) ?_
    simp only [Nat.reduceAdd]
    have hE := core (x_up (x_up (x_up g2 158 4 (vrd V + nI 1)) 158 5 (nI 0)) 158 0 (nI 2)) 2 (by simp (disch := omega) only [x_up_o, x_up_n, x_up_e]) (by simp (disch := omega) only [x_up_o, x_up_n, x_up_e]) (by simp (disch := omega) only [x_up_o, x_up_n, x_up_e]) (fun j z1 z2 z3 => by simp (disch := omega) only [x_up_o, x_up_n, x_up_e]) (by omega)
    refine r_run 400 rfl rfl ?_
    refine r_ald (j := 0) rfl rfl rfl (by decide) (Nat.le_of_ble_eq_true rfl) ?_
    simp only [Nat.reduceAdd]
    rw [x_up_e rfl]
    refine r_ne0 rfl (fun _ => ?_) (fun z => absurd z (by decide))
    refine fin _ ?_ ?_ (fun a ha => ?_)
    · unfold vStop
      rw [if_pos (by omega)]
      exact hE
    · rw [x_up_row (by decide), x_up_row (by decide), x_up_row (by decide)]
    · rw [x_up_row (by omega), x_up_row (by omega), x_up_row (by omega)]
theorem MS_ch2 {g g1 g2 : xG} {T : xT} {V' : xV} (h : MS g T) (r1 : g1 157 4 = nI (min (tK T + 1) 4)) (r2 : ∀ a, a < min (tK T + 1) 4 → MG (fun k => g1 161 (233 * (min (tK T + 1) 4 - 1 - a) + k)) (tPush (tV T) (tH T) a) (vpl (tPush (tV T) (tH T) a))) (r3 : ∀ j, j ≠ 4 → g1 157 j = g 157 j) (r4 : ∀ r, r ≠ 157 → r ≠ 161 → g1 r = g r) (hV : MG (g2 158) V' (vpl V')) (f4 : g2 157 4 = g1 157 4) (f6 : g2 157 6 = g1 157 6) (f161 : g2 161 = g1 161) (f162 : g2 162 = g1 162) : MS g2 (V', min (tK T + 1) 4, tPush (tV T) (tH T), tL T, tX T) := by
  obtain ⟨h1, h2, h3, h4, h5⟩ := h
  refine ⟨hV, ?_, fun a ha => ?_, ?_, fun i hi => ?_⟩
  · rw [f4]
    exact r1
  · rw [f161]
    exact r2 a ha
  · rw [f6, r3 6 (by decide)]
    exact h4
  · rw [f162, r4 162 (by decide) (by decide)]
    exact h5 i hi
set_option maxHeartbeats 4000000 in
theorem n_stop (d : Nat) (T : xT) (g : xG) (Q : xQ) (h : MS g T) (hk : tOk T) (k : ∀ g' : xG, MS g' (pCh T (eStop (tV T)) (vStop (tV T) (vTT (tV T) 0))) → (∀ a, a < 157 → g' a = g a) → Q (some (.int (aCh (eStop (tV T)) (x_enc (XO (vX (tV T) 0 (vTT (tV T) 0))) (vn (tV T)))))) g') : Cx (d + 8) i_Md_stop [.ref 157] g Q := by
  have hvk := hk.1
  obtain ⟨⟨v1, v2, v3, v4, v5, v6⟩, -⟩ := id hvk
  have w0 : g 158 0 = nI (vph (tV T)) := h.1.1.1
  refine r_cl (L0 := [some (.ref 157)]) rfl (Or.inr ⟨_, _, _, rfl, rfl⟩) rfl rfl rfl ?_
  refine r_run 400 rfl rfl ?_
  refine r_ald (j := 0) rfl rfl rfl (by decide) (Nat.le_of_ble_eq_true rfl) ?_
  refine r_run 400 rfl rfl ?_
  simp only [Nat.reduceAdd]
  rw [w0]
  refine n_ieq rfl (by omega) (by omega) (fun z => ?_) (fun z => ?_)
  · have he : eStop (tV T) = nI 0 := if_pos z
    have hz : ¬ eStop (tV T) < 0 := by rw [he]; decide
    unfold pCh aCh at k
    rw [if_neg hz] at k
    rw [if_neg hz] at k
    refine r_run 400 rfl rfl ?_
    refine r_inv rfl rfl rfl ?_
    refine m_records (d + 5) T g _ h hk (fun g1 r1 r2 r3 r4 => ?_)
    refine r_run 400 rfl rfl ?_
    refine r_inv rfl rfl rfl ?_
    have h158 : g1 158 = g 158 := r4 158 (by decide) (by decide)
    refine m_goStop d (tV T) g1 _ (by rw [h158]; exact h.1) hvk z (fun g2 b1 b2 b3 => ?_)
    refine r_iret rfl rfl (k g2 (MS_ch2 h r1 r2 r3 r4 b1 (b2 4 (by decide)) (b2 6 (by decide)) (b3 161 (by decide)) (b3 162 (by decide))) (fun a ha => by rw [b3 a (by omega), r4 a (by omega) (by omega)]))
  · have he : eStop (tV T) = -1000002 := if_neg z
    have hz : eStop (tV T) < 0 := by rw [he]; decide
    unfold pCh aCh at k
    rw [if_pos hz] at k
    rw [if_pos hz, he] at k
    refine r_run 400 rfl rfl ?_
    exact r_iret rfl rfl (k g h (fun _ _ => rfl))
