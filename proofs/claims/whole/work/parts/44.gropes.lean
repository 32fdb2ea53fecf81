/-! ===== the reference gropes: all ticks ===== -/
theorem x_rj_cg {E E' : Nat → Nat → Int32} {W W' : Nat → Nat} {t : Nat} {b : xR} : ∀ c, (∀ j, j < c → (W j = t ↔ W' j = t) ∧ (W j = t → E j = E' j)) → x_rj E W t c b = x_rj E' W' t c b
  | 0, _ => rfl
  | c + 1, h => by
    show (if W c = t then x_r1 (E c) (x_rj E W t c b) else x_rj E W t c b) = (if W' c = t then x_r1 (E' c) (x_rj E' W' t c b) else x_rj E' W' t c b)
    rw [x_rj_cg c (fun j hj => h j (by omega))]
    obtain ⟨h1, h2⟩ := h c (by omega)
    by_cases e : W c = t
    · rw [if_pos e, if_pos (h1.mp e), h2 e]
    · rw [if_neg e, if_neg (fun z => e (h1.mpr z))]
theorem x_rt_cg {E E' : Nat → Nat → Nat → Int32} {W W' : Nat → Nat} {c : Nat} {b : xR} : ∀ T, (∀ t, 1 ≤ t → t ≤ T → ∀ j, j < c → (W j = t ↔ W' j = t) ∧ (W j = t → E t j = E' t j)) → x_rt E W c T b = x_rt E' W' c T b
  | 0, _ => rfl
  | T + 1, h => by
    show x_rj (E (T + 1)) W (T + 1) c (x_rt E W c T b) = x_rj (E' (T + 1)) W' (T + 1) c (x_rt E' W' c T b)
    rw [x_rt_cg T (fun t h1 h2 => h t h1 (by omega))]
    exact x_rj_cg c (h (T + 1) (by omega) (by omega))
theorem x_rk_rj {E E' : Nat → Nat → Int32} {b : Nat → Bool} {W : Nat → Nat} {t : Nat} {r : xR} : ∀ c, (∀ j, j < c → (b j = true ↔ W j = t) ∧ (b j = true → E j = E' j)) → x_rk E b c r = x_rj E' W t c r
  | 0, _ => rfl
  | c + 1, h => by
    show (if b c = true then x_r1 (E c) (x_rk E b c r) else x_rk E b c r) = (if W c = t then x_r1 (E' c) (x_rj E' W t c r) else x_rj E' W t c r)
    rw [x_rk_rj c (fun j hj => h j (by omega))]
    obtain ⟨h1, h2⟩ := h c (by omega)
    by_cases e : b c = true
    · rw [if_pos e, if_pos (h1.mp e), h2 e]
    · rw [if_neg e, if_neg (fun z => e (h1.mpr z))]
theorem MG_f {f f' : Nat → Int32} {V : xV} {P : Nat → Nat} (e : f' = f) (h : MG f V P) : MG f' V P := e ▸ h
/-- the state t ticks behind the music's end -/
def wX (V : xV) (X : xX) (t : Nat) : xV := wS V (fun j => if (XI X j).isSome = true then vsa V j + nI 1 else vsa V j) (fun j => if (XI X j).isSome = true then XI X j else vsi V j) (fun p => vin V p && !XO X p) (fun p => if (XS X p).isSome = true then vss V p + nI 1 else vss V p) (fun p => vbu V p + nI (XB X p)) (fun p => if XO X p = true then vrd V + nI 1 else vou V p) (fun p => if (XO X p || (XS X p).isSome) = true then XT X p else vti V p)
  (x_rt (fun t j => x_e5 (vrd V + nI 1) (nI t) (nI j) (nI (vtn V j)) (x_on (XI X j))) (XW X) (vc V) t (vR V))
/-- what the picture's parts say of one another -/
def xJ (V : xV) (X : xX) : Prop := (∀ p, XG X p = ((vin V p && !XO X p) && (XS X p).isNone)) ∧ (∀ p, XO X p = true → XS X p = none ∧ vin V p = true) ∧ (∀ p, (XS X p).isSome = true → vin V p = true) ∧ (∀ p, vin V p = false → XB X p = 0) ∧ (∀ j, (XI X j).isSome = true ↔ 1 ≤ XW X j)
theorem xSat_gr {n c : Nat} {X : xX} {p : Nat} (h : xSat n c X p = true) : xGr c X p = true ∧ (xAim c X p).isSome = true := by
  obtain ⟨j, hj, hg⟩ := x_sat_iff.mp h
  have := (xGet_lt (X := X) hg).2
  exact ⟨(xAim_gr this).1, by rw [this]; rfl⟩
theorem xJ_0 {V : xV} {P0 : Nat → Nat} : xJ V (xBeg (vin V) P0) :=
  ⟨fun p => by
    show vin V p = ((vin V p && !false) && true)
    cases vin V p <;> rfl, fun p (h : false = true) => (by cases h), fun p (h : false = true) => (by cases h), fun p _ => rfl, fun j => ⟨fun (h : false = true) => (by cases h), fun (h : 1 ≤ 0) => (by omega)⟩⟩
theorem xJ_step {V : xV} {X : xX} {hr : Nat → Nat → Bool} {t : Nat} (h : xJ V X) : xJ V (xStep (vn V) (vc V) hr (t + 1) X) := by
  obtain ⟨h1, h2, h3, h4, h5⟩ := h
  have gr : ∀ p, xGr (vc V) X p = true → XG X p = true ∧ x_all (vc V) (XK X p) = false := fun p hg => by
    unfold xGr at hg
    rw [Bool.and_eq_true] at hg
    exact ⟨hg.1, by simpa using hg.2⟩
  have un : ∀ p, XG X p = true → vin V p = true ∧ XO X p = false ∧ XS X p = none := fun p hg => by
    rw [h1, Bool.and_eq_true, Bool.and_eq_true] at hg
    obtain ⟨⟨z1, z2⟩, z3⟩ := hg
    exact ⟨z1, by simpa using z2, by simpa using z3⟩
  refine ⟨fun p => ?_, fun p hp => ?_, fun p hp => ?_, fun p hp => ?_, fun j => ?_⟩
  · show (xGr (vc V) X p && !xSat (vn V) (vc V) X p) = ((vin V p && !(XO X p || xOut (vc V) X p)) && (if xSat (vn V) (vc V) X p = true then xAim (vc V) X p else XS X p).isNone)
    cases hs : xSat (vn V) (vc V) X p with
    | true =>
      obtain ⟨-, s2⟩ := xSat_gr hs
      rw [if_pos rfl]
      cases ha : xAim (vc V) X p with
      | none => rw [ha] at s2; cases s2
      | some q => simp
    | false =>
      rw [if_neg (show ¬ false = true by decide)]
      unfold xGr xOut
      rw [h1 p]
      cases vin V p <;> cases XO X p <;> cases (XS X p).isNone <;> cases x_all (vc V) (XK X p) <;> rfl
  · have hp : (XO X p || xOut (vc V) X p) = true := hp
    show (if xSat (vn V) (vc V) X p = true then xAim (vc V) X p else XS X p) = none ∧ _
    rw [Bool.or_eq_true] at hp
    have hns : xSat (vn V) (vc V) X p = false := by
      cases hs : xSat (vn V) (vc V) X p with
      | false => rfl
      | true =>
        obtain ⟨g1, g2⟩ := gr p (xSat_gr hs).1
        have u := un p g1
        rcases hp with hp | hp
        · rw [u.2.1] at hp
          cases hp
        · unfold xOut at hp
          rw [g2, Bool.and_false] at hp
          cases hp
    rw [hns, if_neg (show ¬ false = true by decide)]
    rcases hp with hp | hp
    · exact h2 p hp
    · unfold xOut at hp
      rw [Bool.and_eq_true] at hp
      have u := un p hp.1
      exact ⟨u.2.2, u.1⟩
  · have hp : (if xSat (vn V) (vc V) X p = true then xAim (vc V) X p else XS X p).isSome = true := hp
    by_cases hs : xSat (vn V) (vc V) X p = true
    · exact (un p (gr p (xSat_gr hs).1).1).1
    · rw [if_neg hs] at hp
      exact h3 p hp
  · show (if (xHit (vn V) (vc V) X p).isSome = true then XB X p + 1 else XB X p) = 0
    rw [if_neg ?_]
    · exact h4 p hp
    · intro z
      obtain ⟨q, hq⟩ := Option.isSome_iff_exists.mp z
      have := (un p (gr p (xHit_some hq).1).1).1
      rw [hp] at this
      cases this
  · show (if (xGet (vn V) (vc V) X j).isSome = true then xGet (vn V) (vc V) X j else XI X j).isSome = true ↔ 1 ≤ (if (xGet (vn V) (vc V) X j).isSome = true then t + 1 else XW X j)
    by_cases hs : (xGet (vn V) (vc V) X j).isSome = true
    · rw [if_pos hs, if_pos hs]
      exact ⟨fun _ => by omega, fun _ => hs⟩
    · rw [if_neg hs, if_neg hs]
      exact h5 j
theorem xJ_it {V : xV} {P0 : Nat → Nat} {hr : Nat → Nat → Bool} : ∀ t, xJ V (xIt (vn V) (vc V) hr (xBeg (vin V) P0) t)
  | 0 => xJ_0
  | t + 1 => xJ_step (xJ_it t)
/-- the reference's own rows hold the picture -/
def MX (g : xG) (V : xV) (X : xX) : Prop := x_mk (g 157 12) (vn V) (XO X) ∧ (∀ p, p < vn V → x_mk (g 163 p) (vc V) (XK X p)) ∧ (∀ p, p < vn V → g 164 p = x_on (XS X p)) ∧ (∀ j, j < vc V → g 167 j = x_on (XI X j))
set_option maxHeartbeats 16000000 in
theorem m_ticks (d t : Nat) (V : xV) (X : xX) (P : Nat → Nat) (g : xG) (Q : xQ) (h : MG (g 158) (wX V X t) P) (hk : vOkw V) (h1 : vph V = 1) (hJ : xJ V X) (hI : xIv (vn V) (vc V) t X) (hP : ∀ p, p < vn V → XG X p = true → P p = XP X p) (hM : MX g V X)
    (k : ∀ (g' : xG) (P' : Nat → Nat), MG (g' 158) (wX V (xStep (vn V) (vc V) (vhr V) (t + 1) X) (t + 1)) P' → (∀ p, p < vn V → XG (xStep (vn V) (vc V) (vhr V) (t + 1) X) p = true → P' p = XP (xStep (vn V) (vc V) (vhr V) (t + 1) X) p) → MX g' V (xStep (vn V) (vc V) (vhr V) (t + 1) X) → (∀ j, j ≠ 12 → g' 157 j = g 157 j) → (∀ a, (a < 157 ∨ (158 < a ∧ a < 163) ∨ 168 < a) → g' a = g a) → Q (some (.int (x_b (x_ex (XG (xStep (vn V) (vc V) (vhr V) (t + 1) X)) (vn V))))) g') : Cx (d + 5) i_Md_ticks [.ref 157, .int (nI (t + 1))] g Q := by
  have hJ0 := hJ
  obtain ⟨j1, j2, j3, j4, j5⟩ := hJ
  obtain ⟨i1, i2, i3, i4, i5, i6⟩ := id hI
  obtain ⟨m1, m2, m3, m4⟩ := hM
  obtain ⟨⟨b1, b2, b3, b4, b5, b6⟩, -, hc1, -⟩ := id hk
  obtain ⟨hc1, -⟩ := hc1 h1
  have hS2 : ∀ p q, XS X p = some q → q < 65536 := fun p q hq => by have := i6 p q hq; omega
  have hI2 : ∀ p q, XI X p = some q → q < 65536 := fun p q hq => by have := i2 p q hq; omega
  have gr : ∀ p, xGr (vc V) X p = true → XG X p = true ∧ x_all (vc V) (XK X p) = false := fun p hg => by
    unfold xGr at hg
    rw [Bool.and_eq_true] at hg
    exact ⟨hg.1, by simpa using hg.2⟩
  have un : ∀ p, XG X p = true → vin V p = true ∧ XO X p = false ∧ XS X p = none := fun p hg => by
    rw [j1, Bool.and_eq_true, Bool.and_eq_true] at hg
    obtain ⟨⟨z1, z2⟩, z3⟩ := hg
    exact ⟨z1, by simpa using z2, by simpa using z3⟩
  have hG2 : ∀ p, p < vn V → (x_st (fun p => vin V p && !XO X p) (fun _ => false) (xOut (vc V) X) (vn V) p && (XS X p).isNone) = xGr (vc V) X p := fun p hp => by
    rw [x_st_i hp]
    unfold xOut xGr
    rw [j1 p]
    cases vin V p <;> cases XO X p <;> cases (XS X p).isNone <;> cases x_all (vc V) (XK X p) <;> rfl
  refine r_cl (L0 := [some (.ref 157), some (.int (nI (t + 1))), none, none]) rfl (Or.inr ⟨_, _, _, rfl, rfl⟩) rfl rfl rfl ?_
  refine k_tick1 d (t + 1) V X _ _ _ _ _ _ _ _ P g Q none none h hk j1 hS2 m1 m2 m3 (fun g1 a1 a2 a3 a4 => ?_)
  refine k_tick2 d (t + 1) V X _ _ _ _ _ _ _ _ P g1 Q _ none a1 hk h1 hG2 (fun p hp hg => ⟨hP p hp (gr p hg).1, i3 p hp (gr p hg).1⟩) hS2 (fun p hp => by rw [a4 163 (by decide) (by decide)]; exact m2 p hp) (fun p hp => by rw [a4 164 (by decide) (by decide)]; exact m3 p hp) (fun g2 c1 c2 => ?_)
  have f2 : ∀ a, a ≠ 157 → a ≠ 158 → a ≠ 165 → a ≠ 166 → g2 a = g a := fun a z1 z2 z3 z4 => by rw [c2 a z3 z4, a4 a z1 z2]
  have s2 := MG_f (c2 158 (by decide) (by decide)) a1
  refine k_tick3 d (t + 1) V X _ _ _ _ _ _ _ _ P g2 Q _ none s2 hk h1 hG2 (fun p hp hg => i3 p hp (gr p hg).1) hS2 (fun p hp => by rw [f2 164 (by decide) (by decide) (by decide) (by decide)]; exact m3 p hp) hI2 (fun j hj => by rw [f2 167 (by decide) (by decide) (by decide) (by decide)]; exact m4 j hj) c1 (fun g3 d1 d2 => ?_)
  have f3 : ∀ a, a ≠ 157 → a ≠ 158 → a ≠ 165 → a ≠ 166 → a ≠ 168 → g3 a = g a := fun a z1 z2 z3 z4 z5 => by rw [d2 a z5, f2 a z1 z2 z3 z4]
  have s3 := MG_f (d2 158 (by decide)) s2
  refine k_tick4 d (t + 1) V X _ _ _ _ _ _ _ _ P g3 Q _ none s3 hk h1 hG2 hS2 (fun p hp => by rw [f3 164 (by decide) (by decide) (by decide) (by decide) (by decide)]; exact m3 p hp) (fun q hq hg => by rw [d2 165 (by decide)]; exact (c1 q hq hg).1) d1 (fun p hp => by rw [f3 163 (by decide) (by decide) (by decide) (by decide) (by decide)]; exact m2 p hp) (fun g4 e1 e2 e3 => ?_)
  refine k_tick5 d (t + 1) V X _ _ _ _ _ _ _ _ _ g4 Q _ none e1 hk (fun j hj => by rw [e3 168 (by decide) (by decide)]; exact d1 j hj) (fun p hp => by rw [e3 164 (by decide) (by decide), f3 164 (by decide) (by decide) (by decide) (by decide) (by decide)]; exact m3 p hp) (fun j hj => by rw [e3 167 (by decide) (by decide), f3 167 (by decide) (by decide) (by decide) (by decide) (by decide)]; exact m4 j hj) (fun g5 P5 p1 p2 p3 p4 p5 => ?_)
  refine k_tick6 d (t + 1) V X _ _ _ _ _ _ _ _ P5 (fun p j => XK X p j || decide (xHit (vn V) (vc V) X p = some j)) g5 Q _ none p1 hk (fun j hj => by rw [p5 168 (by decide) (by decide) (by decide), e3 168 (by decide) (by decide)]; exact d1 j hj) (fun p hp => by rw [p5 163 (by decide) (by decide) (by decide)]; exact e2 p hp) (fun g6 q1 q2 q3 => ?_)
  have g164 : ∀ p, p < vn V → g6 164 p = x_on (XS (xStep (vn V) (vc V) (vhr V) (t + 1) X) p) := fun p hp => by
    rw [q3 164 (by decide) (by decide)]
    exact p3 p hp
  have g167 : ∀ j, j < vc V → g6 167 j = x_on (XI (xStep (vn V) (vc V) (vhr V) (t + 1) X) j) := fun p hp => by
    rw [q3 167 (by decide) (by decide)]
    exact p4 p hp
  have hJ' := xJ_step (hr := vhr V) (t := t) hJ0
  have hI' := xIv_step (hr := vhr V) hc1 hI
  have hfin : MG (g6 158) (wX V (xStep (vn V) (vc V) (vhr V) (t + 1) X) (t + 1)) P5 := by
    refine MG_wc q1 (fun j hj => ?_) (fun p hp => ?_) ?_
    · rw [x_st_i hj, x_st_i hj]
      show _ = (if (if (xGet (vn V) (vc V) X j).isSome = true then xGet (vn V) (vc V) X j else XI X j).isSome = true then _ else _) ∧ _ = (if (if (xGet (vn V) (vc V) X j).isSome = true then xGet (vn V) (vc V) X j else XI X j).isSome = true then (if (xGet (vn V) (vc V) X j).isSome = true then xGet (vn V) (vc V) X j else XI X j) else _)
      unfold xGo
      by_cases hs : (xGet (vn V) (vc V) X j).isSome = true
      · obtain ⟨p, hp⟩ := Option.isSome_iff_exists.mp hs
        have hn := (x_get_ok hp).2.2
        simp only [if_pos hs, hn, Option.isSome_none, if_neg (show ¬ false = true by decide), and_self]
      · simp only [if_neg hs, and_self]
    · rw [x_st_i hp, x_st_i hp, x_st_i hp, x_st_i hp]
      show (if xOut (vc V) X p = true then false else vin V p && !XO X p) = (vin V p && !(XO X p || xOut (vc V) X p)) ∧ (if xSat (vn V) (vc V) X p = true then _ else _) = (if (if xSat (vn V) (vc V) X p = true then xAim (vc V) X p else XS X p).isSome = true then _ else _) ∧ (if xHt (vn V) (vc V) X p = true then _ else _) = vbu V p + nI (if (xHit (vn V) (vc V) X p).isSome = true then XB X p + 1 else XB X p) ∧ (if xOut (vc V) X p = true then _ else _) = (if (XO X p || xOut (vc V) X p) = true then vrd V + nI 1 else vou V p) ∧ (if xSat (vn V) (vc V) X p = true then t + 1 else if xOut (vc V) X p = true then t + 1 else _) = (if ((XO X p || xOut (vc V) X p) || (if xSat (vn V) (vc V) X p = true then xAim (vc V) X p else XS X p).isSome) = true then (if (xOut (vc V) X p || xSat (vn V) (vc V) X p) = true then t + 1 else XT X p) else vti V p) ∧ _
      refine ⟨?_, ?_, ?_, ?_, ?_, fun _ _ => rfl⟩
      · cases xOut (vc V) X p <;> cases vin V p <;> cases XO X p <;> rfl
      · by_cases hs : xSat (vn V) (vc V) X p = true
        · obtain ⟨s1, s2⟩ := xSat_gr hs
          have u := un p (gr p s1).1
          rw [if_pos hs, if_pos hs, if_pos s2, u.2.2]
          rfl
        · rw [if_neg hs, if_neg hs]
      · unfold xHt
        split
        · rw [Int32.add_assoc, nI_add]
        · rfl
      · cases xOut (vc V) X p <;> cases XO X p <;> rfl
      · by_cases hs : xSat (vn V) (vc V) X p = true
        · obtain ⟨s1, s2⟩ := xSat_gr hs
          simp only [hs, s2, if_true, Bool.or_true]
        · have hs : xSat (vn V) (vc V) X p = false := by simpa using hs
          simp only [hs, if_neg (show ¬ false = true by decide), Bool.or_false]
          cases xOut (vc V) X p <;> cases XO X p <;> simp
    · have E' : ∀ j, j < vc V → g5 167 j = x_on (XI (xStep (vn V) (vc V) (vhr V) (t + 1) X) j) := p4
      show x_rk _ _ _ _ = x_rj _ (XW (xStep (vn V) (vc V) (vhr V) (t + 1) X)) (t + 1) (vc V) (x_rt _ (XW (xStep (vn V) (vc V) (vhr V) (t + 1) X)) (vc V) t (vR V))
      have hrt : x_rt (fun t j => x_e5 (vrd V + nI 1) (nI t) (nI j) (nI (vtn V j)) (x_on (XI X j))) (XW X) (vc V) t (vR V) = x_rt (fun t' j => x_e5 (vrd V + nI 1) (nI t') (nI j) (nI (vtn V j)) (x_on (XI (xStep (vn V) (vc V) (vhr V) (t + 1) X) j))) (XW (xStep (vn V) (vc V) (vhr V) (t + 1) X)) (vc V) t (vR V) := by
        refine x_rt_cg t (fun u h1 h2 j hj => ?_)
        show (_ ↔ (if (xGet (vn V) (vc V) X j).isSome = true then t + 1 else XW X j) = u) ∧ (_ → _ = x_e5 _ _ _ _ (x_on (if (xGet (vn V) (vc V) X j).isSome = true then xGet (vn V) (vc V) X j else XI X j)))
        by_cases hs : (xGet (vn V) (vc V) X j).isSome = true
        · obtain ⟨p, hp⟩ := Option.isSome_iff_exists.mp hs
          have hn := (x_get_ok hp).2.2
          have h0 : ¬ 1 ≤ XW X j := fun z => by
            have := (j5 j).mpr z
            rw [hn] at this
            cases this
          rw [if_pos hs]
          exact ⟨⟨fun z => by omega, fun z => by omega⟩, fun z => by omega⟩
        · rw [if_neg hs, if_neg hs]
          exact ⟨Iff.rfl, fun _ => rfl⟩
      rw [← hrt]
      refine x_rk_rj (vc V) (fun j hj => ?_)
      show ((xGet (vn V) (vc V) X j).isSome = true ↔ (if (xGet (vn V) (vc V) X j).isSome = true then t + 1 else XW X j) = t + 1) ∧ _
      refine ⟨?_, fun _ => by rw [E' j hj]⟩
      by_cases hs : (xGet (vn V) (vc V) X j).isSome = true
      · rw [if_pos hs]
        exact ⟨fun _ => rfl, fun _ => hs⟩
      · rw [if_neg hs]
        have := i1 j
        exact ⟨fun z => absurd z hs, fun z => by omega⟩
  refine k_tick7 d (t + 1) V _ _ _ _ _ _ _ _ P5 (XS (xStep (vn V) (vc V) (vhr V) (t + 1) X)) (XG (xStep (vn V) (vc V) (vhr V) (t + 1) X)) g6 Q _ none hfin hk g164 (fun p q hq => by have := hI'.2.2.2.2.2 p q hq; omega) (fun p _ => hJ'.1 p) (k g6 P5 hfin (fun p hp hg => ?_) ⟨?_, fun p hp => ?_, g164, g167⟩ (fun j hj => ?_) (fun a ha => ?_))
  · have hg : (xGr (vc V) X p && !xSat (vn V) (vc V) X p) = true := hg
    have hh := hg
    rw [← xHit_gr (n := vn V)] at hh
    rw [Bool.and_eq_true] at hg
    have hns : xSat (vn V) (vc V) X p = false := by simpa using hg.2
    obtain ⟨q, hq⟩ := Option.isSome_iff_exists.mp hh
    rw [p2 p hns, x_st_i hp]
    show (if xHt (vn V) (vc V) X p = true then _ else _) = (match xHit (vn V) (vc V) X p with | some q => q | none => XP X p)
    unfold xHt
    rw [if_pos hh, hq]
    exact (xHit_some hq).2.2.symm
  · rw [q3 157 (by decide) (by decide), p5 157 (by decide) (by decide) (by decide), e3 157 (by decide) (by decide), d2 157 (by decide), c2 157 (by decide) (by decide)]
    exact a2
  · exact q2 p hp
  · rw [q3 157 (by decide) (by decide), p5 157 (by decide) (by decide) (by decide), e3 157 (by decide) (by decide), d2 157 (by decide), c2 157 (by decide) (by decide)]
    exact a3 j hj
  · rw [q3 a (by omega) (by omega), p5 a (by omega) (by omega) (by omega), e3 a (by omega) (by omega)]
    exact f3 a (by omega) (by omega) (by omega) (by omega) (by omega)
