/-! ===== the reference gropes until all sit or are out ===== -/
def vTick (V : xV) (T : Nat) : xV := vV (vph V) (vfw V) (vbt V) (vc V) (vn V) (vrd V) (vtk V + nI T) (vtg V) (vlo V) (vtn V) (vsa V) (vsi V) (vst V) (vea V) (vin V) (vpl V) (vss V) (vbu V) (vwa V) (vou V) (vti V) (vR V)
theorem MG_0 {f : Nat → Int32} {V : xV} {P P0 : Nat → Nat} (h : MG f V P) : MG f (wX V (xBeg (vin V) P0) 0) P := by
  have h2 : MG f (wS V (vsa V) (vsi V) (vin V) (vss V) (vbu V) (vou V) (vti V) (vR V)) P := h
  refine MG_wc h2 (fun j hj => ⟨rfl, rfl⟩) (fun p hp => ⟨?_, rfl, ?_, rfl, rfl, fun _ _ => rfl⟩) rfl
  · show vin V p = (vin V p && !false)
    rw [Bool.not_false, Bool.and_true]
  · show vbu V p = vbu V p + nI 0
    exact (Int32.add_zero _).symm
set_option maxHeartbeats 16000000 in
theorem m_gropesAll (d T : Nat) (V : xV) (P0 P : Nat → Nat) (g : xG) (Q : xQ) (h : MG (g 158) V P) (hk : vOkw V) (h1 : vph V = 1) (hP0 : ∀ p, P0 p < vc V) (hP : ∀ p, p < vn V → vin V p = true → P p = P0 p) (hT : T ≤ 17) (hT2 : 1 ≤ T) (hT0 : ∀ p, p < vn V → XG (xIt (vn V) (vc V) (vhr V) (xBeg (vin V) P0) T) p = false) (hT1 : ∀ t, t < T → ∃ p, p < vn V ∧ XG (xIt (vn V) (vc V) (vhr V) (xBeg (vin V) P0) t) p = true)
    (k : ∀ (g' : xG) (P' : Nat → Nat), MG (g' 158) (wX (vTick V T) (xIt (vn V) (vc V) (vhr V) (xBeg (vin V) P0) T) T) P' → MX g' V (xIt (vn V) (vc V) (vhr V) (xBeg (vin V) P0) T) → (∀ j, j ≠ 12 → g' 157 j = g 157 j) → (∀ a, (a < 157 ∨ (158 < a ∧ a < 163) ∨ 168 < a) → g' a = g a) → Q none g') : Cx (d + 6) i_Md_gropesAll [.ref 157] g Q := by
  obtain ⟨⟨b1, b2, b3, b4, b5, b6⟩, -, hc1, -⟩ := id hk
  obtain ⟨hc1, -⟩ := hc1 h1
  have w1 : g 158 1 = nI (vc V) := h.1.2.1
  have w2 : g 158 2 = nI (vn V) := h.1.2.2.1
  generalize hX0 : xBeg (vin V) P0 = X0 at *
  have hI0 : xIv (vn V) (vc V) 0 X0 := by
    subst hX0
    exact ⟨fun j => Nat.le_refl _, fun j q (h : (none : Option Nat) = some q) => (by cases h), fun p _ _ => hP0 p, fun p => Nat.le_refl _, fun p => Nat.le_refl _, fun p q (h : (none : Option Nat) = some q) => (by cases h)⟩
  have hJt : ∀ t, xJ V (xIt (vn V) (vc V) (vhr V) X0 t) := fun t => by
    subst hX0
    exact xJ_it t
  have hM0 : MG (g 158) (wX V X0 0) P := by
    subst hX0
    exact MG_0 h
  have hPX : ∀ p, p < vn V → XG X0 p = true → P p = XP X0 p := by
    subst hX0
    exact fun p hp hg => hP p hp hg
  have hz0 : (∀ i, i < vn V → XO X0 i = false) ∧ (∀ p j, XK X0 p j = false) ∧ (∀ p, XS X0 p = none) ∧ (∀ j, XI X0 j = none) := by
    subst hX0
    exact ⟨fun _ _ => rfl, fun _ _ => rfl, fun _ => rfl, fun _ => rfl⟩
  clear hX0
  obtain ⟨z1, z2, z3, z4⟩ := hz0
  refine r_cl (L0 := [some (.ref 157), none, none]) rfl (Or.inr ⟨_, _, _, rfl, rfl⟩) rfl rfl rfl ?_
  -- the ticks
  have loop3 : ∀ t, t ≤ T → ∀ (g' : xG) (P' : Nat → Nat), MG (g' 158) (wX V (xIt (vn V) (vc V) (vhr V) X0 t) t) P' → (∀ p, p < vn V → XG (xIt (vn V) (vc V) (vhr V) X0 t) p = true → P' p = XP (xIt (vn V) (vc V) (vhr V) X0 t) p) → MX g' V (xIt (vn V) (vc V) (vhr V) X0 t) → (∀ j, j ≠ 12 → g' 157 j = g 157 j) → (∀ a, (a < 157 ∨ (158 < a ∧ a < 163) ∨ 168 < a) → g' a = g a) → Rx (d + 5) m_Md_gropesAll Q 66 [some (.ref 157), some (.int (nI t)), some (.int (x_b (x_ex (XG (xIt (vn V) (vc V) (vhr V) X0 t)) (vn V))))] [] g' := by
    refine r_for ?_ ?_
    · intro g' P' a1 a2 a3 a4 a5
      have he : x_ex (XG (xIt (vn V) (vc V) (vhr V) X0 T)) (vn V) = false := by
        cases hh : x_ex (XG (xIt (vn V) (vc V) (vhr V) X0 T)) (vn V) with
        | false => rfl
        | true =>
          obtain ⟨p, hp, hg⟩ := (x_ex_iff _).mp hh
          rw [hT0 p hp] at hg
          cases hg
      rw [he]
      have a1' : MG (g' 158) (wS V _ _ _ _ _ _ _ _) P' := a1
      rw [MG_wS] at a1'
      obtain ⟨⟨u0, u1, u2, u3, u4, u5, u6, u7, u9, u10, u11, u13, u16⟩, h2, h3, h4, h5⟩ := a1'
      refine r_run 400 rfl rfl ?_
      refine t_eq0 rfl ?_
      refine r_run 400 rfl rfl ?_
      refine r_ald (j := 11) rfl rfl rfl (by decide) (Nat.le_of_ble_eq_true rfl) ?_
      refine r_run 400 rfl rfl ?_
      refine r_ast (j := 11) rfl rfl rfl (by decide) (Nat.le_of_ble_eq_true rfl) ?_
      refine r_run 400 rfl rfl ?_
      simp only [Nat.reduceAdd]
      rw [u11]
      refine r_ret rfl rfl (k _ P' ?_ ?_ (fun j hj => ?_) (fun a ha => ?_))
      · show MG _ (wS (vTick V T) _ _ _ _ _ _ _ _) P'
        rw [MG_wS]
        refine ⟨?_, fun j hj => ?_, fun q hq => ?_, h4, fun a w ha hw => ?_⟩
        · simp (disch := omega) only [x_up_o, x_up_n, x_up_e]
          exact ⟨u0, u1, u2, u3, u4, u5, u6, u7, u9, u10, rfl, u13, u16⟩
        · have hj : j < vc V := hj
          have z := h2 j hj
          simp (disch := omega) only [x_up_o, x_up_n, x_up_e]
          exact z
        · have hq : q < vn V := hq
          have z := h3 q hq
          simp (disch := omega) only [x_up_o, x_up_n, x_up_e]
          exact z
        · have z := h5 a w ha hw
          simp (disch := omega) only [x_up_o, x_up_n, x_up_e]
          exact z
      · exact a3
      · exact a4 j hj
      · rw [x_up_row (by omega)]
        exact a5 a ha
    · intro t ht ih g' P' a1 a2 a3 a4 a5
      have he : x_ex (XG (xIt (vn V) (vc V) (vhr V) X0 t)) (vn V) = true := (x_ex_iff _).mpr (hT1 t ht)
      rw [he]
      refine r_run 400 rfl rfl ?_
      refine t_eq1 rfl ?_
      refine r_run 400 rfl rfl ?_
      simp only [nI_add]
      refine r_inv rfl rfl rfl ?_
      refine m_ticks d t V _ P' g' _ a1 hk h1 (hJt t) (xIv_it hc1 hI0 t) a2 a3 (fun g2 P2 c1 c2 c3 c4 c5 => ?_)
      refine r_to 66 60 rfl rfl ?_
      exact ih g2 P2 c1 c2 c3 (fun j hj => by rw [c4 j hj]; exact a4 j hj) (fun a ha => by rw [c5 a ha]; exact a5 a ha)
  -- the chairs
  have loop2 : ∀ j, j ≤ vc V → ∀ g' : xG, g' 157 12 = nI 0 → (∀ p, p < vn V → g' 163 p = nI 0 ∧ g' 164 p = -1) → (∀ i, i < j → g' 167 i = -1) → (∀ j, j ≠ 12 → g' 157 j = g 157 j) → (∀ a, a ≠ 157 → a ≠ 163 → a ≠ 164 → a ≠ 167 → g' a = g a) → Rx (d + 5) m_Md_gropesAll Q 39 [some (.ref 157), some (.int (nI j)), none] [] g' := by
    refine r_for ?_ ?_
    · intro g' a1 a2 a3 a4 a5
      have e158 := a5 158 (by decide) (by decide) (by decide) (by decide)
      refine r_run 400 rfl rfl ?_
      refine r_ald (j := 1) rfl rfl rfl (by decide) (Nat.le_of_ble_eq_true rfl) ?_
      simp only [Nat.reduceAdd]
      rw [e158, w1]
      refine n_ige rfl (by omega) (by omega) (fun _ => ?_) (fun h => by omega)
      refine r_to 66 60 rfl rfl ?_
      have l3 := loop3 0 (Nat.zero_le _) g' P (MG_f e158 hM0) hPX ⟨by rw [a1]; exact x_mk_0 z1, fun p hp => by rw [(a2 p hp).1]; exact x_mk_0 (fun i _ => z2 p i), fun p hp => by rw [(a2 p hp).2, show XS (xIt (vn V) (vc V) (vhr V) X0 0) p = none from z3 p]; rfl, fun j hj => by rw [a3 j hj, show XI (xIt (vn V) (vc V) (vhr V) X0 0) j = none from z4 j]; rfl⟩ a4 (fun a ha => a5 a (by omega) (by omega) (by omega) (by omega))
      have he : x_ex (XG (xIt (vn V) (vc V) (vhr V) X0 0)) (vn V) = true := (x_ex_iff _).mpr (hT1 0 (by omega))
      rw [he] at l3
      exact l3
    · intro j hj ih g' a1 a2 a3 a4 a5
      have e158 := a5 158 (by decide) (by decide) (by decide) (by decide)
      refine r_run 400 rfl rfl ?_
      refine r_ald (j := 1) rfl rfl rfl (by decide) (Nat.le_of_ble_eq_true rfl) ?_
      simp only [Nat.reduceAdd]
      rw [e158, w1]
      refine n_ige rfl (by omega) (by omega) (fun _ => by omega) (fun _ => ?_)
      refine r_run 400 rfl rfl ?_
      refine r_ast (j := j) rfl rfl rfl (by omega) (Nat.le_of_ble_eq_true rfl) ?_
      refine r_to 39 60 rfl rfl ?_
      simp only [nI_add, Nat.reduceAdd]
      refine ih _ (by rw [x_up_row (by decide)]; exact a1) (fun p hp => by rw [x_up_row (by decide), x_up_row (by decide)]; exact a2 p hp) (fun i hi => ?_) (fun j hj => by rw [x_up_row (by decide)]; exact a4 j hj) (fun a h1 h2 h3 h4 => by rw [x_up_row h4]; exact a5 a h1 h2 h3 h4)
      by_cases e : i = j
      · subst e
        rw [x_up_e rfl]
      · rw [x_up_n e]
        exact a3 i (by omega)
  -- the players
  have loop1 : ∀ p, p ≤ vn V → ∀ g' : xG, g' 157 12 = nI 0 → (∀ q, q < p → g' 163 q = nI 0 ∧ g' 164 q = -1) → (∀ j, j ≠ 12 → g' 157 j = g 157 j) → (∀ a, a ≠ 157 → a ≠ 163 → a ≠ 164 → g' a = g a) → Rx (d + 5) m_Md_gropesAll Q 7 [some (.ref 157), some (.int (nI p)), none] [] g' := by
    refine r_for ?_ ?_
    · intro g' a1 a2 a3 a4
      have e158 := a4 158 (by decide) (by decide) (by decide)
      refine r_run 400 rfl rfl ?_
      refine r_ald (j := 2) rfl rfl rfl (by decide) (Nat.le_of_ble_eq_true rfl) ?_
      simp only [Nat.reduceAdd]
      rw [e158, w2]
      refine n_ige rfl (by omega) (by omega) (fun _ => ?_) (fun h => by omega)
      refine r_to 39 60 rfl rfl ?_
      exact loop2 0 (Nat.zero_le _) g' a1 a2 (fun i hi => absurd hi (Nat.not_lt_zero _)) a3 (fun a h1 h2 h3 _ => a4 a h1 h2 h3)
    · intro p hp ih g' a1 a2 a3 a4
      have e158 := a4 158 (by decide) (by decide) (by decide)
      refine r_run 400 rfl rfl ?_
      refine r_ald (j := 2) rfl rfl rfl (by decide) (Nat.le_of_ble_eq_true rfl) ?_
      simp only [Nat.reduceAdd]
      rw [e158, w2]
      refine n_ige rfl (by omega) (by omega) (fun _ => by omega) (fun _ => ?_)
      refine r_run 400 rfl rfl ?_
      refine r_ast (j := p) rfl rfl rfl (by omega) (Nat.le_of_ble_eq_true rfl) ?_
      refine r_run 400 rfl rfl ?_
      refine r_ast (j := p) rfl rfl rfl (by omega) (Nat.le_of_ble_eq_true rfl) ?_
      refine r_to 7 60 rfl rfl ?_
      simp only [nI_add, Nat.reduceAdd]
      refine ih _ (by rw [x_up_row (by decide), x_up_row (by decide)]; exact a1) (fun q hq => ?_) (fun j hj => by rw [x_up_row (by decide), x_up_row (by decide)]; exact a3 j hj) (fun a h1 h2 h3 => by rw [x_up_row h3, x_up_row h2]; exact a4 a h1 h2 h3)
      by_cases e : q = p
      · subst e
        simp (disch := omega) only [x_up_o, x_up_n, x_up_e]
        exact ⟨trivial, trivial⟩
      · simp (disch := omega) only [x_up_o, x_up_n, x_up_e]
        exact a2 q (by omega)
  refine r_to 7 60 rfl rfl ?_
  refine loop1 0 (Nat.zero_le _) _ ?_ (fun q hq => absurd hq (Nat.not_lt_zero _)) (fun j hj => ?_) (fun a h1 _ _ => by rw [x_up_row h1])
  · simp (disch := omega) only [x_up_o, x_up_n, x_up_e]
  · simp (disch := omega) only [x_up_o, x_up_n, x_up_e]
set_option maxHeartbeats 4000000 in
theorem m_takesChair (d : Nat) (V : xV) (P : Nat → Nat) (g : xG) (Q : xQ) (h : MG (g 158) V P) (hc1 : 1 ≤ vc V) (h16 : vc V ≤ 16) (h12 : vn V ≤ 12) (k : ∀ g' : xG, MG (g' 158) (vTk1 V) P → (∀ a, a ≠ 158 → g' a = g a) → Q none g') : Cx (d + 2) i_Md_takesChair [.ref 157] g Q := by
  obtain ⟨⟨w0, w1, w2, w3, w4, w5, w6, w7, w9, w10, w11, w13, w16⟩, h2, h3, h4, h5⟩ := h
  have hmw := x_mw_le (vsa V) (vc V - 1)
  generalize hw : x_mw (vsa V) (vc V - 1) = w at hmw
  refine r_cl (L0 := [some (.ref 157), none, none]) rfl (Or.inr ⟨_, _, _, rfl, rfl⟩) rfl rfl rfl ?_
  -- those behind it move up
  have loop2 : ∀ i, i ≤ 48 - 3 * w → ∀ g' : xG, (∀ b, b < 17 + 3 * w + i → 17 + 3 * w ≤ b → b + 3 < 65 → g' 158 b = g 158 (b + 3)) → g' 158 1 = nI (vc V - 1) → g' 158 16 = vtg V + nI 1 → (∀ b, ¬ b = 1 → ¬ b = 16 → (b < 17 + 3 * w ∨ 17 + 3 * w + i ≤ b) → g' 158 b = g 158 b) → (∀ a, a ≠ 158 → g' a = g a) → Rx (d + 1) m_Md_takesChair Q 69 [some (.ref 157), some (.int (nI w)), some (.int (nI (17 + 3 * w + i)))] [] g' := by
    refine r_for ?_ ?_
    · intro g' a1 a2 a3 a4 a5
      refine r_run 400 rfl rfl ?_
      refine n_ige rfl (by omega) (by omega) (fun _ => ?_) (fun h => by omega)
      refine r_run 400 rfl rfl ?_
      refine r_ret rfl rfl (k g' ⟨?_, fun j hj => ?_, fun q hq => ?_, h4, fun a w ha hw => ?_⟩ a5)
      · rw [a4 0 (by omega) (by omega) (by omega), a2, a4 2 (by omega) (by omega) (by omega), a4 3 (by omega) (by omega) (by omega), a4 4 (by omega) (by omega) (by omega), a4 5 (by omega) (by omega) (by omega), a4 6 (by omega) (by omega) (by omega), a4 7 (by omega) (by omega) (by omega), a4 9 (by omega) (by omega) (by omega), a4 10 (by omega) (by omega) (by omega), a4 11 (by omega) (by omega) (by omega), a4 13 (by omega) (by omega) (by omega), a3]
        exact ⟨w0, rfl, w2, w3, w4, w5, w6, w7, w9, w10, w11, w13, rfl⟩
      · have hj : j < vc V - 1 := hj
        show _ = nI (if j < x_mw (vsa V) (vc V - 1) then vtn V j else vtn V (j + 1)) ∧ _ = (if j < x_mw (vsa V) (vc V - 1) then vsa V j else vsa V (j + 1)) ∧ _ = x_o1 (if j < x_mw (vsa V) (vc V - 1) then vsi V j else vsi V (j + 1))
        rw [hw]
        by_cases e : j < w
        · rw [if_pos e, if_pos e, if_pos e, a4 _ (by omega) (by omega) (by omega), a4 _ (by omega) (by omega) (by omega), a4 _ (by omega) (by omega) (by omega)]
          exact h2 j (by omega)
        · rw [if_neg e, if_neg e, if_neg e, a1 _ (by omega) (by omega) (by omega), a1 _ (by omega) (by omega) (by omega), a1 _ (by omega) (by omega) (by omega)]
          have := h2 (j + 1) (by omega)
          rw [show 17 + 3 * (j + 1) + 0 = 17 + 3 * j + 0 + 3 by omega, show 17 + 3 * (j + 1) + 1 = 17 + 3 * j + 1 + 3 by omega, show 17 + 3 * (j + 1) + 2 = 17 + 3 * j + 2 + 3 by omega] at this
          exact this
      · have hq : q < vn V := hq
        have f : ∀ i, i < 9 → g' 158 (65 + 9 * q + i) = g 158 (65 + 9 * q + i) := fun i hi => a4 _ (by omega) (by omega) (by omega)
        rw [f 0 (by omega), f 1 (by omega), f 2 (by omega), f 3 (by omega), f 4 (by omega), f 5 (by omega), f 6 (by omega), f 7 (by omega), f 8 (by omega)]
        exact h3 q hq
      · have ha : a < (vR V).1 := ha
        rw [a4 _ (by omega) (by omega) (by omega)]
        exact h5 a w ha hw
    · intro i hi ih g' a1 a2 a3 a4 a5
      have fin : ∀ v : Int32, (17 + 3 * w + i + 3 < 65 → v = g 158 (17 + 3 * w + i + 3)) → Rx (d + 1) m_Md_takesChair Q 100 [some (.ref 157), some (.int (nI w)), some (.int (nI (17 + 3 * w + i)))] [.int v, .int (nI (17 + 3 * w + i)), .ref 158] g' := by
        intro v hv
        refine r_ast (j := 17 + 3 * w + i) rfl rfl rfl (by omega) (Nat.le_of_ble_eq_true rfl) ?_
        refine r_to 69 60 rfl rfl ?_
        simp only [nI_add, Nat.reduceAdd]
        refine ih _ (fun b h1 h2 h3 => ?_) ?_ ?_ (fun b h1 h2 h3 => ?_) (fun a ha => by rw [x_up_row ha]; exact a5 a ha)
        · by_cases e : b = 17 + 3 * w + i
          · subst e
            rw [x_up_e rfl]
            exact hv h3
          · rw [x_up_n e]
            exact a1 b (by omega) h2 h3
        · simp (disch := omega) only [x_up_o, x_up_n, x_up_e]
          exact a2
        · simp (disch := omega) only [x_up_o, x_up_n, x_up_e]
          exact a3
        · simp (disch := omega) only [x_up_o, x_up_n, x_up_e]
          exact a4 b h1 h2 (by omega)
      refine r_run 400 rfl rfl ?_
      refine n_ige rfl (by omega) (by omega) (fun _ => by omega) (fun _ => ?_)
      refine r_run 400 rfl rfl ?_
      simp only [nI_add]
      refine n_ige rfl (by omega) (by omega) (fun hge => ?_) (fun hlt => ?_)
      · refine r_to 100 60 rfl rfl ?_
        exact fin _ (fun z => by omega)
      · refine r_run 400 rfl rfl ?_
        simp only [nI_add]
        refine r_ald (j := 17 + 3 * w + i + 3) rfl rfl rfl (by omega) (Nat.le_of_ble_eq_true rfl) ?_
        refine r_to 100 60 rfl rfl ?_
        simp only [Nat.reduceAdd]
        rw [a4 _ (by omega) (by omega) (by omega)]
        exact fin _ (fun _ => rfl)
  -- the most worn one
  have loop1 : ∀ i, i ≤ vc V - 1 → Rx (d + 1) m_Md_takesChair Q 4 [some (.ref 157), some (.int (nI (x_mw (vsa V) i))), some (.int (nI (i + 1)))] [] g := by
    refine r_for ?_ ?_
    · refine r_run 400 rfl rfl ?_
      refine r_ald (j := 1) rfl rfl rfl (by decide) (Nat.le_of_ble_eq_true rfl) ?_
      simp only [Nat.reduceAdd]
      rw [w1, hw]
      refine n_ige rfl (by omega) (by omega) (fun _ => ?_) (fun h => by omega)
      refine r_run 400 rfl rfl ?_
      refine r_ald (j := 1) rfl rfl rfl (by decide) (Nat.le_of_ble_eq_true rfl) ?_
      simp only [Nat.reduceAdd]
      rw [w1]
      refine r_run 400 rfl rfl ?_
      rw [pk_sub (by omega)]
      refine r_ast (j := 1) rfl rfl rfl (by decide) (Nat.le_of_ble_eq_true rfl) ?_
      refine r_run 400 rfl rfl ?_
      refine r_ald (j := 16) rfl rfl rfl (by decide) (Nat.le_of_ble_eq_true rfl) ?_
      refine r_run 400 rfl rfl ?_
      refine r_ast (j := 16) rfl rfl rfl (by decide) (Nat.le_of_ble_eq_true rfl) ?_
      refine r_to 69 60 rfl rfl ?_
      simp only [Nat.reduceAdd, pk_mul, nI_add]
      refine loop2 0 (Nat.zero_le _) _ (fun b h1 h2 h3 => by omega) ?_ ?_ (fun b h1 h2 h3 => ?_) (fun a ha => by rw [x_up_row ha, x_up_row ha])
      · simp (disch := omega) only [x_up_o, x_up_n, x_up_e]
      · simp (disch := omega) only [x_up_o, x_up_n, x_up_e, w16]
      · simp (disch := omega) only [x_up_o, x_up_n, x_up_e]
    · intro i hi ih
      have hm := x_mw_le (vsa V) i
      refine r_run 400 rfl rfl ?_
      refine r_ald (j := 1) rfl rfl rfl (by decide) (Nat.le_of_ble_eq_true rfl) ?_
      simp only [Nat.reduceAdd]
      rw [w1]
      refine n_ige rfl (by omega) (by omega) (fun _ => by omega) (fun _ => ?_)
      refine r_run 400 rfl rfl ?_
      refine r_inv rfl rfl rfl ?_
      refine m_ofChair d (i + 1) 1 _ _ (by omega) (by omega) ?_
      refine r_run 400 rfl rfl ?_
      refine r_inv rfl rfl rfl ?_
      refine m_ofChair d (x_mw (vsa V) i) 1 _ _ (by omega) (by omega) ?_
      refine r_run 400 rfl rfl ?_
      rw [(h2 (i + 1) (by omega)).2.1, (h2 (x_mw (vsa V) i) (by omega)).2.1]
      have hs : x_mw (vsa V) (i + 1) = if vsa V (x_mw (vsa V) i) ≤ vsa V (i + 1) then i + 1 else x_mw (vsa V) i := rfl
      rw [hs] at ih
      refine r_ilt rfl (fun hlt => ?_) (fun hge => ?_)
      · rw [if_neg (Int32.not_le.mpr hlt)] at ih
        refine r_to 4 60 rfl rfl ?_
        simp only [nI_add]
        exact ih
      · rw [if_pos (Int32.not_lt.mp hge)] at ih
        refine r_to 4 60 rfl rfl ?_
        simp only [nI_add]
        exact ih
  refine r_to 4 60 rfl rfl ?_
  exact loop1 0 (Nat.zero_le _)
