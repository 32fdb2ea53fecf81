/-! ===== what happens when the music stops: the pure picture ===== -/
/-- who gropes, who is out, places, knowledge, seats, bumps, ticks; sitters, the ticks in which they sat down -/
abbrev xX : Type := (Nat → Bool) × (Nat → Bool) × (Nat → Nat) × (Nat → Nat → Bool) × (Nat → Option Nat) × (Nat → Nat) × (Nat → Nat) × (Nat → Option Nat) × (Nat → Nat)
def XG (X : xX) : Nat → Bool := X.1
def XO (X : xX) : Nat → Bool := X.2.1
def XP (X : xX) : Nat → Nat := X.2.2.1
def XK (X : xX) : Nat → Nat → Bool := X.2.2.2.1
def XS (X : xX) : Nat → Option Nat := X.2.2.2.2.1
def XB (X : xX) : Nat → Nat := X.2.2.2.2.2.1
def XT (X : xX) : Nat → Nat := X.2.2.2.2.2.2.1
def XI (X : xX) : Nat → Option Nat := X.2.2.2.2.2.2.2.1
def XW (X : xX) : Nat → Nat := X.2.2.2.2.2.2.2.2
/-- out in this tick -/
def xOut (c : Nat) (X : xX) (p : Nat) : Bool := XG X p && x_all c (XK X p)
/-- groping behind that -/
def xGr (c : Nat) (X : xX) (p : Nat) : Bool := XG X p && !x_all c (XK X p)
def xAim (c : Nat) (X : xX) (p : Nat) : Option Nat := if xGr c X p = true then some (x_aim c (XK X) (XP X) p) else none
def xFar (c : Nat) (X : xX) (p : Nat) : Nat := x_far c (XK X) (XP X) p
def xGet (n c : Nat) (X : xX) (j : Nat) : Option Nat := x_get n (xAim c X) (xFar c X) (XI X) j
def xSat (n c : Nat) (X : xX) (p : Nat) : Bool := x_sat n (xAim c X) (xFar c X) (XI X) c p
/-- the aim of those who didn't get the chair -/
def xHit (n c : Nat) (X : xX) (p : Nat) : Option Nat := if xSat n c X p = true then none else xAim c X p
def xStep (n c : Nat) (hr : Nat → Nat → Bool) (t : Nat) (X : xX) : xX :=
  (fun p => xGr c X p && !xSat n c X p,
   fun p => XO X p || xOut c X p,
   fun p => match xHit n c X p with | some q => q | none => XP X p,
   fun p j => XK X p j || decide (xHit n c X p = some j) || ((xGet n c X j).isSome && hr p j),
   fun p => if xSat n c X p = true then xAim c X p else XS X p,
   fun p => if (xHit n c X p).isSome = true then XB X p + 1 else XB X p,
   fun p => if (xOut c X p || xSat n c X p) = true then t else XT X p,
   fun j => if (xGet n c X j).isSome = true then xGet n c X j else XI X j,
   fun j => if (xGet n c X j).isSome = true then t else XW X j)
def xIt (n c : Nat) (hr : Nat → Nat → Bool) (X : xX) : Nat → xX
  | 0 => X
  | t + 1 => xStep n c hr (t + 1) (xIt n c hr X t)
/-- at the beginning -/
def xBeg (G : Nat → Bool) (P : Nat → Nat) : xX := (G, fun _ => false, P, fun _ _ => false, fun _ => none, fun _ => 0, fun _ => 0, fun _ => none, fun _ => 0)
/-- what holds behind each tick -/
def xIv (n c t : Nat) (X : xX) : Prop := (∀ j, XW X j ≤ t) ∧ (∀ j q, XI X j = some q → q < n) ∧ (∀ p, p < n → XG X p = true → XP X p < c) ∧ (∀ p, XB X p ≤ t) ∧ (∀ p, XT X p ≤ t) ∧ (∀ p q, XS X p = some q → q < c)
theorem xHit_some {n c : Nat} {X : xX} {p q : Nat} (h : xHit n c X p = some q) : xGr c X p = true ∧ xSat n c X p = false ∧ q = x_aim c (XK X) (XP X) p := by
  unfold xHit at h
  split at h
  · cases h
  · rename_i hs
    unfold xAim at h
    split at h
    · rename_i hg
      cases h
      exact ⟨hg, by simpa using hs, rfl⟩
    · cases h
theorem xHit_gr {n c : Nat} {X : xX} {p : Nat} : (xHit n c X p).isSome = (xGr c X p && !xSat n c X p) := by
  unfold xHit xAim
  cases xSat n c X p <;> cases xGr c X p <;> rfl
theorem xAim_lt {c : Nat} {X : xX} {p q : Nat} (hc : 1 ≤ c) (h : xAim c X p = some q) : q < c := by
  unfold xAim at h
  split at h
  · cases h
    exact Nat.mod_lt _ (by omega)
  · cases h
theorem xIv_step {n c t : Nat} {hr : Nat → Nat → Bool} {X : xX} (hc : 1 ≤ c) (h : xIv n c t X) : xIv n c (t + 1) (xStep n c hr (t + 1) X) := by
  obtain ⟨h1, h2, h3, h4, h5, h6⟩ := h
  refine ⟨fun j => ?_, fun j q hq => ?_, fun p hp hg => ?_, fun p => ?_, fun p => ?_, fun p q hq => ?_⟩
  · show (if (xGet n c X j).isSome = true then t + 1 else XW X j) ≤ t + 1
    have := h1 j
    split <;> omega
  · have hq : (if (xGet n c X j).isSome = true then xGet n c X j else XI X j) = some q := hq
    split at hq
    · exact (x_get_ok hq).1
    · exact h2 j q hq
  · show (match xHit n c X p with | some q => q | none => XP X p) < c
    have hg : (xGr c X p && !xSat n c X p) = true := hg
    rw [← xHit_gr (n := n)] at hg
    cases hh : xHit n c X p with
    | none => rw [hh] at hg; cases hg
    | some q =>
      rw [(xHit_some hh).2.2]
      exact Nat.mod_lt _ (by omega)
  · show (if (xHit n c X p).isSome = true then XB X p + 1 else XB X p) ≤ t + 1
    have := h4 p
    split <;> omega
  · show (if (xOut c X p || xSat n c X p) = true then t + 1 else XT X p) ≤ t + 1
    have := h5 p
    split <;> omega
  · have hq : (if xSat n c X p = true then xAim c X p else XS X p) = some q := hq
    split at hq
    · exact xAim_lt hc hq
    · exact h6 p q hq
theorem xIv_it {n c : Nat} {hr : Nat → Nat → Bool} {X : xX} (hc : 1 ≤ c) (h : xIv n c 0 X) : ∀ t, xIv n c t (xIt n c hr X t)
  | 0 => h
  | t + 1 => xIv_step hc (xIv_it hc h t)
/-! it ends: with each tick one who gropes knows of one chair more -/
def x_cnt (f : Nat → Bool) : Nat → Nat
  | 0 => 0
  | n + 1 => x_cnt f n + if f n = true then 1 else 0
theorem x_cnt_le (f : Nat → Bool) : ∀ n, x_cnt f n ≤ n
  | 0 => Nat.le_refl _
  | n + 1 => by
    show x_cnt f n + _ ≤ _
    have := x_cnt_le f n
    split <;> omega
theorem x_cnt_mono {f f' : Nat → Bool} (h : ∀ j, f j = true → f' j = true) : ∀ n, x_cnt f n ≤ x_cnt f' n
  | 0 => Nat.le_refl _
  | n + 1 => by
    show x_cnt f n + _ ≤ x_cnt f' n + _
    have h1 := x_cnt_mono h n
    by_cases hf : f n = true
    · rw [if_pos hf, if_pos (h n hf)]
      omega
    · rw [if_neg hf]
      omega
theorem x_cnt_lt {f f' : Nat → Bool} (h : ∀ j, f j = true → f' j = true) : ∀ n j, j < n → f j = false → f' j = true → x_cnt f n < x_cnt f' n
  | 0, j, hj, _, _ => by omega
  | n + 1, j, hj, h1, h2 => by
    show x_cnt f n + _ < x_cnt f' n + _
    have hm := x_cnt_mono h n
    by_cases e : j = n
    · subst e
      rw [h1, h2]
      simp
      omega
    · have hl := x_cnt_lt h n j (by omega) h1 h2
      by_cases hf : f n = true
      · rw [if_pos hf, if_pos (h n hf)]
        omega
      · rw [if_neg hf]
        omega
theorem x_cnt_all {f : Nat → Bool} : ∀ n, x_all n f = false → x_cnt f n < n := by
  intro n h
  have hex : ∃ q, q < n ∧ f q = false := by
    apply Classical.byContradiction
    intro h2
    have : x_all n f = true := x_all_iff.mpr (fun i hi => by
      cases hki : f i with
      | true => rfl
      | false => exact absurd ⟨i, hi, hki⟩ h2)
    rw [this] at h
    cases h
  obtain ⟨q, hq, hf⟩ := hex
  have := x_cnt_lt (f := f) (f' := fun _ => true) (fun _ _ => rfl) n q hq hf rfl
  have := x_cnt_le (fun _ => true) n
  omega
theorem xEnd {n c : Nat} {hr : Nat → Nat → Bool} {X : xX} (hc : 1 ≤ c) (hX : xIv n c 0 X) : ∀ (t p : Nat), p < n → XG (xIt n c hr X t) p = true → t ≤ x_cnt (XK (xIt n c hr X t) p) c ∧ (0 < t → t ≤ c)
  | 0, p, _, _ => ⟨Nat.zero_le _, fun h => by omega⟩
  | t + 1, p, hp, h => by
    have hI := xIv_it (hr := hr) hc hX t
    have hg : (xGr c (xIt n c hr X t) p && !xSat n c (xIt n c hr X t) p) = true := h
    have hh := hg
    rw [← xHit_gr] at hh
    rw [Bool.and_eq_true] at hg
    have hg1 := hg.1
    unfold xGr at hg1
    rw [Bool.and_eq_true] at hg1
    have hal : x_all c (XK (xIt n c hr X t) p) = false := by simpa using hg1.2
    obtain ⟨i1, i2⟩ := xEnd hc hX t p hp hg1.1
    have hlt := x_cnt_all c hal
    obtain ⟨q, hq⟩ := Option.isSome_iff_exists.mp hh
    have hqe := (xHit_some hq).2.2
    obtain ⟨-, f2, -⟩ := x_far_ok hc (hI.2.2.1 p hp hg1.1) hal
    rw [← hqe] at f2
    have hqc : q < c := by rw [hqe]; exact Nat.mod_lt _ (by omega)
    have := x_cnt_lt (f := XK (xIt n c hr X t) p) (f' := XK (xIt n c hr X (t + 1)) p) (fun j hj => by
      show (XK (xIt n c hr X t) p j || _ || _) = true
      rw [hj]
      rfl) c q hqc f2 (by
      show (_ || decide (xHit n c (xIt n c hr X t) p = some q) || _) = true
      rw [hq]
      simp)
    exact ⟨by omega, fun _ => by omega⟩
/-- the class's rows hold the picture -/
def x_gr (g : xG) (n c : Nat) (X : xX) : Prop := x_mk (g 124 9) n (XG X) ∧ x_mk (g 124 10) n (XO X) ∧ (∀ p, p < n → g 125 p = nI (XP X p)) ∧ (∀ p, p < n → x_mk (g 126 p) c (XK X p)) ∧ (∀ p, p < n → g 129 p = x_on (XS X p)) ∧ (∀ p, p < n → g 130 p = nI (XB X p)) ∧ (∀ p, p < n → g 131 p = nI (XT X p)) ∧ (∀ j, j < c → g 132 j = x_on (XI X j)) ∧ (∀ j, j < c → g 133 j = nI (XW X j))
set_option maxHeartbeats 16000000 in
theorem c_follow_2 (d n c b : Nat) (st qp ear tone : Nat → Nat) (G : Nat → Bool) (g : xG) (Q : xQ) (hn : g 7 9 = nI n) (h12 : n ≤ 12) (hc : g 3 3 = nI c) (hc1 : 1 ≤ c) (h16 : c ≤ 16) (hG : x_mk (g 7 8) n G) (hb : b ≤ 1000) (hs : ∀ p, p < n → g 8 p = nI (st p) ∧ st p ≤ 9) (hq : ∀ p, p < n → g 10 p = nI (qp p) ∧ qp p < 16) (hE : ∀ p, p < n → g 9 p = nI (ear p) ∧ ear p < 512) (hT : ∀ j, j < c → g 4 j = nI (tone j) ∧ tone j ≤ 8)
    (k : ∀ (g' : xG) (T : Nat), T ≤ 17 → (∀ p, p < n → XG (xIt n c (fun p j => (ear p).testBit (tone j)) (xBeg G (fun p => (qp p + st p * b) % c)) T) p = false) → (∀ t, t < T → ∃ p, p < n ∧ XG (xIt n c (fun p j => (ear p).testBit (tone j)) (xBeg G (fun p => (qp p + st p * b) % c)) t) p = true) → x_gr g' n c (xIt n c (fun p j => (ear p).testBit (tone j)) (xBeg G (fun p => (qp p + st p * b) % c)) T) → g' 124 11 = nI T → (∀ a, (a < 124 ∨ 133 < a) → g' a = g a) → Q none g') : Cx (d + 3) i_Grope_follow [.ref 124, .ref 3, .ref 7, .int (nI b)] g Q := by
  generalize hhr : (fun p j => (ear p).testBit (tone j)) = hr at k
  generalize hX0 : xBeg G (fun p => (qp p + st p * b) % c) = X0 at k
  have hiv0 : xIv n c 0 X0 := by
    subst hX0
    refine ⟨fun j => Nat.le_refl _, fun j q (h : (none : Option Nat) = some q) => (by cases h), fun p _ _ => Nat.mod_lt _ (by omega), fun p => Nat.le_refl _, fun p => Nat.le_refl _, fun p q (h : (none : Option Nat) = some q) => (by cases h)⟩
  refine r_cl (L0 := [some (.ref 124), some (.ref 3), some (.ref 7), some (.int (nI b)), none]) rfl (Or.inr ⟨_, _, _, rfl, rfl⟩) rfl rfl rfl ?_
  have loop : ∀ t, t ≤ 17 → (∀ u, u < t → ∃ p, p < n ∧ XG (xIt n c hr X0 u) p = true) → ∀ g' : xG, x_gr g' n c (xIt n c hr X0 t) → g' 124 11 = nI t → (∀ a, (a < 124 ∨ 133 < a) → g' a = g a) → Rx (d + 2) m_Grope_follow Q 10 [some (.ref 124), some (.ref 3), some (.ref 7), some (.int (nI b)), some (.int (nI (t + 1)))] [] g' := by
    refine r_for ?_ ?_
    · intro hbefore g' h1 h2 h3
      refine r_run 400 rfl rfl ?_
      refine n_igt rfl (by omega) (by omega) (fun _ => ?_) (fun h => by omega)
      refine r_run 400 rfl rfl ?_
      refine r_ret rfl rfl (k g' 17 (Nat.le_refl _) (fun p hp => ?_) hbefore h1 h2 h3)
      cases hh : XG (xIt n c hr X0 17) p with
      | false => rfl
      | true =>
        have := (xEnd hc1 hiv0 17 p hp hh).2 (by omega)
        omega
    · intro t ht ih hbefore gA h1 h2 h3
      have hI := xIv_it (hr := hr) hc1 hiv0 t
      have hXs : xIt n c hr X0 (t + 1) = xStep n c hr (t + 1) (xIt n c hr X0 t) := rfl
      generalize hX : xIt n c hr X0 t = X at h1 hI hXs
      obtain ⟨r1, r2, r3, r4, r5, r6, r7, r8, r9⟩ := h1
      refine r_run 400 rfl rfl ?_
      refine n_igt rfl (by omega) (by omega) (fun h => by omega) (fun _ => ?_)
      refine r_run 400 rfl rfl ?_
      refine r_eq0 rfl (fun hz => ?_) (fun hz => ?_)
      · have hno := (x_mk_ne0 r1 (by omega)).mp hz
        refine r_run 400 rfl rfl ?_
        refine r_ret rfl rfl (k gA t (by omega) (fun p hp => by rw [hX]; exact hno p hp) hbefore (by rw [hX]; exact ⟨r1, r2, r3, r4, r5, r6, r7, r8, r9⟩) h2 h3)
      · have hsome : ∃ p, p < n ∧ XG X p = true := by
          apply Classical.byContradiction
          intro hno
          refine hz ((x_mk_ne0 r1 (by omega)).mpr (fun i hi => ?_))
          cases hh : XG X i with
          | false => rfl
          | true => exact absurd ⟨i, hi, hh⟩ hno
        refine r_run 400 rfl rfl ?_
        refine r_inv rfl rfl rfl ?_
        have f0 : ∀ a, a ≠ 124 → x_up gA 124 11 (nI (t + 1)) a = gA a := fun a ha => x_up_row ha
        -- out
        refine c_sendOut_2 d n c _ _ (XG X) (XO X) (XK X) (by rw [f0 7 (by decide), h3 7 (by decide)]; exact hn) h12 (by rw [f0 3 (by decide), h3 3 (by decide)]; exact hc) h16 (by simp only [x_up_app, Nat.reduceAdd, Nat.reduceEqDiff, ↓reduceIte]; exact r1) (by simp only [x_up_app, Nat.reduceAdd, Nat.reduceEqDiff, ↓reduceIte]; exact r2) (fun p hp => by rw [f0 126 (by decide)]; exact r4 p hp) (fun g1 a1 a2 a3 a4 a5 => ?_)
        have e11 : x_up gA 124 11 (nI (t + 1)) 124 11 = nI (t + 1) := by simp only [x_up_app, Nat.reduceAdd, Nat.reduceEqDiff, ↓reduceIte]
        rw [e11] at a4
        have f1 : ∀ a, a ≠ 124 → a ≠ 131 → g1 a = gA a := fun a h1 h2 => by rw [a5 a h1 h2, f0 a h1]
        refine r_run 400 rfl rfl ?_
        refine r_inv rfl rfl rfl ?_
        -- aims
        refine c_takeAim_2 d n c g1 _ (xGr c X) (XK X) (XP X) (by rw [f1 7 (by decide) (by decide), h3 7 (by decide)]; exact hn) h12 (by rw [f1 3 (by decide) (by decide), h3 3 (by decide)]; exact hc) hc1 h16 a1 (fun p hp => by rw [f1 126 (by decide) (by decide)]; exact r4 p hp) (fun p hp hg => ?_) (fun p hp hg => ?_) (fun g2 b1 b2 b3 => ?_)
        · unfold xGr at hg
          rw [Bool.and_eq_true] at hg
          rw [f1 125 (by decide) (by decide)]
          exact ⟨r3 p hp, hI.2.2.1 p hp hg.1⟩
        · unfold xGr at hg
          rw [Bool.and_eq_true] at hg
          simpa using hg.2
        have f2 : ∀ a, a ≠ 124 → a ≠ 131 → a ≠ 127 → a ≠ 128 → g2 a = gA a := fun a h1 h2 h3 h4 => by rw [b3 a h3 h4, f1 a h1 h2]
        refine r_run 400 rfl rfl ?_
        refine r_inv rfl rfl rfl ?_
        -- seats
        refine c_sitDown_2 d n c g2 _ (xAim c X) (xFar c X) (XI X) (xGr c X) (by rw [f2 7 (by decide) (by decide) (by decide) (by decide), h3 7 (by decide)]; exact hn) h12 (by rw [f2 3 (by decide) (by decide) (by decide) (by decide), h3 3 (by decide)]; exact hc) h16 b1 (fun p q hp hq => by have := xAim_lt hc1 hq; omega) (fun p q hp hq => ?_) (fun j hj => by rw [f2 132 (by decide) (by decide) (by decide) (by decide)]; exact r8 j hj) (fun j q _ hq => by have := hI.2.1 j q hq; omega) (by rw [b3 124 (by decide) (by decide)]; exact a1) (fun g3 e1 e2 e3 e4 e5 e6 e7 e8 => ?_)
        · have hg : xGr c X p = true := by
            unfold xAim at hq
            split at hq
            · rename_i h; exact h
            · cases hq
          refine ⟨b2 p hp hg, ?_⟩
          unfold xGr at hg
          rw [Bool.and_eq_true] at hg
          have := (x_far_ok hc1 (hI.2.2.1 p hp hg.1) (by simpa using hg.2)).1
          show x_far c (XK X) (XP X) p < 16
          omega
        have f3 : ∀ a, (a < 124 ∨ 133 < a ∨ a = 125 ∨ a = 126 ∨ a = 130) → g3 a = gA a := fun a h => by rw [e8 a (by omega) (by omega) (by omega) (by omega) (by omega) (by omega), f2 a (by omega) (by omega) (by omega) (by omega)]
        refine r_run 400 rfl rfl ?_
        refine r_inv rfl rfl rfl ?_
        -- bumps
        refine c_bump_2 (d + 1) n c g3 _ (xHit n c X) (XK X) (by rw [f3 7 (by decide), h3 7 (by decide)]; exact hn) h12 h16 e1 (fun p q hp hq => ?_) (fun p hp => by rw [f3 126 (by decide)]; exact r4 p hp) (fun g4 m1 m2 m3 m4 => ?_)
        · rw [(xHit_some hq).2.2]
          exact Nat.mod_lt _ (by omega)
        have f4 : ∀ a, (a < 124 ∨ 133 < a) → g4 a = gA a := fun a h => by rw [m4 a (by omega) (by omega) (by omega), f3 a (by omega)]
        refine r_run 400 rfl rfl ?_
        refine r_inv rfl rfl rfl ?_
        -- bells
        refine c_grRing_2 d n c g4 _ (fun p j => XK X p j || decide (xHit n c X p = some j)) ear tone (by rw [f4 7 (by decide), h3 7 (by decide)]; exact hn) h12 (by rw [f4 3 (by decide), h3 3 (by decide)]; exact hc) h16 m3 (fun p hp => by rw [f4 9 (by decide), h3 9 (by decide)]; exact hE p hp) (fun j hj => by rw [f4 4 (by decide), h3 4 (by decide)]; exact hT j hj) (fun g5 n1 n2 => ?_)
        refine r_to 10 60 rfl rfl ?_
        simp only [nI_add]
        have h11 : g4 124 11 = nI (t + 1) := by rw [m4 124 (by decide) (by decide) (by decide), e7 11 (by decide), b3 124 (by decide) (by decide), a4]
        have h133 : ∀ j, j < c → g4 133 j = nI (if (xGet n c X j).isSome = true then t + 1 else XW X j) := fun j hj => by
          rw [m4 133 (by decide) (by decide) (by decide), e6 j hj, b3 124 (by decide) (by decide), a4, f2 133 (by decide) (by decide) (by decide) (by decide), r9 j hj]
          show (if (xGet n c X j).isSome = true then _ else _) = _
          split <;> rfl
        refine ih (fun u hu => ?_) g5 ?_ ?_ (fun a ha => ?_)
        · by_cases e : u = t
          · subst e
            rw [hX]
            exact hsome
          · exact hbefore u (by omega)
        · rw [hXs]
          refine ⟨?_, ?_, fun p hp => ?_, fun p hp => ?_, fun p hp => ?_, fun p hp => ?_, fun p hp => ?_, fun j hj => ?_, fun j hj => ?_⟩
          · rw [n2 124 (by decide), m4 124 (by decide) (by decide) (by decide)]
            exact e4
          · rw [n2 124 (by decide), m4 124 (by decide) (by decide) (by decide), e7 10 (by decide), b3 124 (by decide) (by decide)]
            exact a2
          · rw [n2 125 (by decide)]
            show _ = nI (match xHit n c X p with | some q => q | none => XP X p)
            cases hh : xHit n c X p with
            | none =>
              rw [(m2 p hp hh).1, f3 125 (by decide)]
              exact r3 p hp
            | some q => exact (m1 p q hp hh).1
          · refine x_mk_congr (n1 p hp) (fun j hj => ?_)
            show _ = (XK X p j || decide (xHit n c X p = some j) || ((xGet n c X j).isSome && hr p j))
            congr 1
            rw [h133 j hj, h11, ← hhr]
            congr 1
            have hw := hI.1 j
            cases hh : (xGet n c X j).isSome with
            | true => simp
            | false =>
              simp
              intro z
              have := (nI_eq (by omega) (by omega)).mp z
              omega
          · rw [n2 129 (by decide), m4 129 (by decide) (by decide) (by decide), e2 p hp, f2 129 (by decide) (by decide) (by decide) (by decide), r5 p hp]
            show (if xSat n c X p = true then _ else _) = x_on (if xSat n c X p = true then _ else _)
            split <;> rfl
          · rw [n2 130 (by decide)]
            show _ = nI (if (xHit n c X p).isSome = true then XB X p + 1 else XB X p)
            cases hh : xHit n c X p with
            | none =>
              rw [(m2 p hp hh).2, f3 130 (by decide)]
              exact r6 p hp
            | some q =>
              rw [(m1 p q hp hh).2, f3 130 (by decide), r6 p hp, nI_add]
              rfl
          · rw [n2 131 (by decide), m4 131 (by decide) (by decide) (by decide), e3 p hp, b3 124 (by decide) (by decide), a4, b3 131 (by decide) (by decide), a3 p hp, e11, f0 131 (by decide), r7 p hp]
            show (if xSat n c X p = true then _ else if xOut c X p = true then _ else _) = nI (if (xOut c X p || xSat n c X p) = true then t + 1 else XT X p)
            cases xSat n c X p <;> cases xOut c X p <;> rfl
          · rw [n2 132 (by decide), m4 132 (by decide) (by decide) (by decide), e5 j hj]
            rfl
          · rw [n2 133 (by decide), h133 j hj]
            rfl
        · rw [n2 124 (by decide)]
          exact h11
        · rw [n2 a (by omega), f4 a ha]
          exact h3 a ha
  refine r_run 400 rfl rfl ?_
  refine r_inv rfl rfl rfl ?_
  refine c_begin_2 d n c b st qp g _ hn h12 hc hc1 h16 hb hs hq (fun g1 a1 a2 a3 a4 a5 a6 => ?_)
  refine r_to 10 60 rfl rfl ?_
  refine loop 0 (Nat.zero_le _) (fun u hu => absurd hu (Nat.not_lt_zero _)) g1 ?_ a3 a6
  show x_gr g1 n c X0
  subst hX0
  refine ⟨by rw [a1]; exact hG, by rw [a2]; exact x_mk_0 (fun _ _ => rfl), fun p hp => (a4 p hp).1, fun p hp => by rw [(a4 p hp).2.1]; exact x_mk_0 (fun _ _ => rfl), fun p hp => (a4 p hp).2.2.1, fun p hp => (a4 p hp).2.2.2.1, fun p hp => (a4 p hp).2.2.2.2, fun j hj => (a5 j hj).1, fun j hj => (a5 j hj).2⟩
set_option maxHeartbeats 16000000 in
theorem c_follow_137 (d n c b : Nat) (st qp ear tone : Nat → Nat) (G : Nat → Bool) (g : xG) (Q : xQ) (hn : g 142 9 = nI n) (h12 : n ≤ 12) (hc : g 138 3 = nI c) (hc1 : 1 ≤ c) (h16 : c ≤ 16) (hG : x_mk (g 142 8) n G) (hb : b ≤ 1000) (hs : ∀ p, p < n → g 143 p = nI (st p) ∧ st p ≤ 9) (hq : ∀ p, p < n → g 145 p = nI (qp p) ∧ qp p < 16) (hE : ∀ p, p < n → g 144 p = nI (ear p) ∧ ear p < 512) (hT : ∀ j, j < c → g 139 j = nI (tone j) ∧ tone j ≤ 8)
    (k : ∀ (g' : xG) (T : Nat), T ≤ 17 → (∀ p, p < n → XG (xIt n c (fun p j => (ear p).testBit (tone j)) (xBeg G (fun p => (qp p + st p * b) % c)) T) p = false) → (∀ t, t < T → ∃ p, p < n ∧ XG (xIt n c (fun p j => (ear p).testBit (tone j)) (xBeg G (fun p => (qp p + st p * b) % c)) t) p = true) → x_gr g' n c (xIt n c (fun p j => (ear p).testBit (tone j)) (xBeg G (fun p => (qp p + st p * b) % c)) T) → g' 124 11 = nI T → (∀ a, (a < 124 ∨ 133 < a) → g' a = g a) → Q none g') : Cx (d + 3) i_Grope_follow [.ref 124, .ref 138, .ref 142, .int (nI b)] g Q := by
  generalize hhr : (fun p j => (ear p).testBit (tone j)) = hr at k
  generalize hX0 : xBeg G (fun p => (qp p + st p * b) % c) = X0 at k
  have hiv0 : xIv n c 0 X0 := by
    subst hX0
    refine ⟨fun j => Nat.le_refl _, fun j q (h : (none : Option Nat) = some q) => (by cases h), fun p _ _ => Nat.mod_lt _ (by omega), fun p => Nat.le_refl _, fun p => Nat.le_refl _, fun p q (h : (none : Option Nat) = some q) => (by cases h)⟩
  refine r_cl (L0 := [some (.ref 124), some (.ref 138), some (.ref 142), some (.int (nI b)), none]) rfl (Or.inr ⟨_, _, _, rfl, rfl⟩) rfl rfl rfl ?_
  have loop : ∀ t, t ≤ 17 → (∀ u, u < t → ∃ p, p < n ∧ XG (xIt n c hr X0 u) p = true) → ∀ g' : xG, x_gr g' n c (xIt n c hr X0 t) → g' 124 11 = nI t → (∀ a, (a < 124 ∨ 133 < a) → g' a = g a) → Rx (d + 2) m_Grope_follow Q 10 [some (.ref 124), some (.ref 138), some (.ref 142), some (.int (nI b)), some (.int (nI (t + 1)))] [] g' := by
    refine r_for ?_ ?_
    · intro hbefore g' h1 h2 h3
      refine r_run 400 rfl rfl ?_
      refine n_igt rfl (by omega) (by omega) (fun _ => ?_) (fun h => by omega)
      refine r_run 400 rfl rfl ?_
      refine r_ret rfl rfl (k g' 17 (Nat.le_refl _) (fun p hp => ?_) hbefore h1 h2 h3)
      cases hh : XG (xIt n c hr X0 17) p with
      | false => rfl
      | true =>
        have := (xEnd hc1 hiv0 17 p hp hh).2 (by omega)
        omega
    · intro t ht ih hbefore gA h1 h2 h3
      have hI := xIv_it (hr := hr) hc1 hiv0 t
      have hXs : xIt n c hr X0 (t + 1) = xStep n c hr (t + 1) (xIt n c hr X0 t) := rfl
      generalize hX : xIt n c hr X0 t = X at h1 hI hXs
      obtain ⟨r1, r2, r3, r4, r5, r6, r7, r8, r9⟩ := h1
      refine r_run 400 rfl rfl ?_
      refine n_igt rfl (by omega) (by omega) (fun h => by omega) (fun _ => ?_)
      refine r_run 400 rfl rfl ?_
      refine r_eq0 rfl (fun hz => ?_) (fun hz => ?_)
      · have hno := (x_mk_ne0 r1 (by omega)).mp hz
        refine r_run 400 rfl rfl ?_
        refine r_ret rfl rfl (k gA t (by omega) (fun p hp => by rw [hX]; exact hno p hp) hbefore (by rw [hX]; exact ⟨r1, r2, r3, r4, r5, r6, r7, r8, r9⟩) h2 h3)
      · have hsome : ∃ p, p < n ∧ XG X p = true := by
          apply Classical.byContradiction
          intro hno
          refine hz ((x_mk_ne0 r1 (by omega)).mpr (fun i hi => ?_))
          cases hh : XG X i with
          | false => rfl
          | true => exact absurd ⟨i, hi, hh⟩ hno
        refine r_run 400 rfl rfl ?_
        refine r_inv rfl rfl rfl ?_
        have f0 : ∀ a, a ≠ 124 → x_up gA 124 11 (nI (t + 1)) a = gA a := fun a ha => x_up_row ha
        -- out
        refine c_sendOut_137 d n c _ _ (XG X) (XO X) (XK X) (by rw [f0 142 (by decide), h3 142 (by decide)]; exact hn) h12 (by rw [f0 138 (by decide), h3 138 (by decide)]; exact hc) h16 (by simp only [x_up_app, Nat.reduceAdd, Nat.reduceEqDiff, ↓reduceIte]; exact r1) (by simp only [x_up_app, Nat.reduceAdd, Nat.reduceEqDiff, ↓reduceIte]; exact r2) (fun p hp => by rw [f0 126 (by decide)]; exact r4 p hp) (fun g1 a1 a2 a3 a4 a5 => ?_)
        have e11 : x_up gA 124 11 (nI (t + 1)) 124 11 = nI (t + 1) := by simp only [x_up_app, Nat.reduceAdd, Nat.reduceEqDiff, ↓reduceIte]
        rw [e11] at a4
        have f1 : ∀ a, a ≠ 124 → a ≠ 131 → g1 a = gA a := fun a h1 h2 => by rw [a5 a h1 h2, f0 a h1]
        refine r_run 400 rfl rfl ?_
        refine r_inv rfl rfl rfl ?_
        -- aims
        refine c_takeAim_137 d n c g1 _ (xGr c X) (XK X) (XP X) (by rw [f1 142 (by decide) (by decide), h3 142 (by decide)]; exact hn) h12 (by rw [f1 138 (by decide) (by decide), h3 138 (by decide)]; exact hc) hc1 h16 a1 (fun p hp => by rw [f1 126 (by decide) (by decide)]; exact r4 p hp) (fun p hp hg => ?_) (fun p hp hg => ?_) (fun g2 b1 b2 b3 => ?_)
        · unfold xGr at hg
          rw [Bool.and_eq_true] at hg
          rw [f1 125 (by decide) (by decide)]
          exact ⟨r3 p hp, hI.2.2.1 p hp hg.1⟩
        · unfold xGr at hg
          rw [Bool.and_eq_true] at hg
          simpa using hg.2
        have f2 : ∀ a, a ≠ 124 → a ≠ 131 → a ≠ 127 → a ≠ 128 → g2 a = gA a := fun a h1 h2 h3 h4 => by rw [b3 a h3 h4, f1 a h1 h2]
        refine r_run 400 rfl rfl ?_
        refine r_inv rfl rfl rfl ?_
        -- seats
        refine c_sitDown_137 d n c g2 _ (xAim c X) (xFar c X) (XI X) (xGr c X) (by rw [f2 142 (by decide) (by decide) (by decide) (by decide), h3 142 (by decide)]; exact hn) h12 (by rw [f2 138 (by decide) (by decide) (by decide) (by decide), h3 138 (by decide)]; exact hc) h16 b1 (fun p q hp hq => by have := xAim_lt hc1 hq; omega) (fun p q hp hq => ?_) (fun j hj => by rw [f2 132 (by decide) (by decide) (by decide) (by decide)]; exact r8 j hj) (fun j q _ hq => by have := hI.2.1 j q hq; omega) (by rw [b3 124 (by decide) (by decide)]; exact a1) (fun g3 e1 e2 e3 e4 e5 e6 e7 e8 => ?_)
        · have hg : xGr c X p = true := by
            unfold xAim at hq
            split at hq
            · rename_i h; exact h
            · cases hq
          refine ⟨b2 p hp hg, ?_⟩
          unfold xGr at hg
          rw [Bool.and_eq_true] at hg
          have := (x_far_ok hc1 (hI.2.2.1 p hp hg.1) (by simpa using hg.2)).1
          show x_far c (XK X) (XP X) p < 16
          omega
        have f3 : ∀ a, (a < 124 ∨ 133 < a ∨ a = 125 ∨ a = 126 ∨ a = 130) → g3 a = gA a := fun a h => by rw [e8 a (by omega) (by omega) (by omega) (by omega) (by omega) (by omega), f2 a (by omega) (by omega) (by omega) (by omega)]
        refine r_run 400 rfl rfl ?_
        refine r_inv rfl rfl rfl ?_
        -- bumps
        refine c_bump_137 (d + 1) n c g3 _ (xHit n c X) (XK X) (by rw [f3 142 (by decide), h3 142 (by decide)]; exact hn) h12 h16 e1 (fun p q hp hq => ?_) (fun p hp => by rw [f3 126 (by decide)]; exact r4 p hp) (fun g4 m1 m2 m3 m4 => ?_)
        · rw [(xHit_some hq).2.2]
          exact Nat.mod_lt _ (by omega)
        have f4 : ∀ a, (a < 124 ∨ 133 < a) → g4 a = gA a := fun a h => by rw [m4 a (by omega) (by omega) (by omega), f3 a (by omega)]
        refine r_run 400 rfl rfl ?_
        refine r_inv rfl rfl rfl ?_
        -- bells
        refine c_grRing_137 d n c g4 _ (fun p j => XK X p j || decide (xHit n c X p = some j)) ear tone (by rw [f4 142 (by decide), h3 142 (by decide)]; exact hn) h12 (by rw [f4 138 (by decide), h3 138 (by decide)]; exact hc) h16 m3 (fun p hp => by rw [f4 144 (by decide), h3 144 (by decide)]; exact hE p hp) (fun j hj => by rw [f4 139 (by decide), h3 139 (by decide)]; exact hT j hj) (fun g5 n1 n2 => ?_)
        refine r_to 10 60 rfl rfl ?_
        simp only [nI_add]
        have h11 : g4 124 11 = nI (t + 1) := by rw [m4 124 (by decide) (by decide) (by decide), e7 11 (by decide), b3 124 (by decide) (by decide), a4]
        have h133 : ∀ j, j < c → g4 133 j = nI (if (xGet n c X j).isSome = true then t + 1 else XW X j) := fun j hj => by
          rw [m4 133 (by decide) (by decide) (by decide), e6 j hj, b3 124 (by decide) (by decide), a4, f2 133 (by decide) (by decide) (by decide) (by decide), r9 j hj]
          show (if (xGet n c X j).isSome = true then _ else _) = _
          split <;> rfl
        refine ih (fun u hu => ?_) g5 ?_ ?_ (fun a ha => ?_)
        · by_cases e : u = t
          · subst e
            rw [hX]
            exact hsome
          · exact hbefore u (by omega)
        · rw [hXs]
          refine ⟨?_, ?_, fun p hp => ?_, fun p hp => ?_, fun p hp => ?_, fun p hp => ?_, fun p hp => ?_, fun j hj => ?_, fun j hj => ?_⟩
          · rw [n2 124 (by decide), m4 124 (by decide) (by decide) (by decide)]
            exact e4
          · rw [n2 124 (by decide), m4 124 (by decide) (by decide) (by decide), e7 10 (by decide), b3 124 (by decide) (by decide)]
            exact a2
          · rw [n2 125 (by decide)]
            show _ = nI (match xHit n c X p with | some q => q | none => XP X p)
            cases hh : xHit n c X p with
            | none =>
              rw [(m2 p hp hh).1, f3 125 (by decide)]
              exact r3 p hp
            | some q => exact (m1 p q hp hh).1
          · refine x_mk_congr (n1 p hp) (fun j hj => ?_)
            show _ = (XK X p j || decide (xHit n c X p = some j) || ((xGet n c X j).isSome && hr p j))
            congr 1
            rw [h133 j hj, h11, ← hhr]
            congr 1
            have hw := hI.1 j
            cases hh : (xGet n c X j).isSome with
            | true => simp
            | false =>
              simp
              intro z
              have := (nI_eq (by omega) (by omega)).mp z
              omega
          · rw [n2 129 (by decide), m4 129 (by decide) (by decide) (by decide), e2 p hp, f2 129 (by decide) (by decide) (by decide) (by decide), r5 p hp]
            show (if xSat n c X p = true then _ else _) = x_on (if xSat n c X p = true then _ else _)
            split <;> rfl
          · rw [n2 130 (by decide)]
            show _ = nI (if (xHit n c X p).isSome = true then XB X p + 1 else XB X p)
            cases hh : xHit n c X p with
            | none =>
              rw [(m2 p hp hh).2, f3 130 (by decide)]
              exact r6 p hp
            | some q =>
              rw [(m1 p q hp hh).2, f3 130 (by decide), r6 p hp, nI_add]
              rfl
          · rw [n2 131 (by decide), m4 131 (by decide) (by decide) (by decide), e3 p hp, b3 124 (by decide) (by decide), a4, b3 131 (by decide) (by decide), a3 p hp, e11, f0 131 (by decide), r7 p hp]
            show (if xSat n c X p = true then _ else if xOut c X p = true then _ else _) = nI (if (xOut c X p || xSat n c X p) = true then t + 1 else XT X p)
            cases xSat n c X p <;> cases xOut c X p <;> rfl
          · rw [n2 132 (by decide), m4 132 (by decide) (by decide) (by decide), e5 j hj]
            rfl
          · rw [n2 133 (by decide), h133 j hj]
            rfl
        · rw [n2 124 (by decide)]
          exact h11
        · rw [n2 a (by omega), f4 a ha]
          exact h3 a ha
  refine r_run 400 rfl rfl ?_
  refine r_inv rfl rfl rfl ?_
  refine c_begin_137 d n c b st qp g _ hn h12 hc hc1 h16 hb hs hq (fun g1 a1 a2 a3 a4 a5 a6 => ?_)
  refine r_to 10 60 rfl rfl ?_
  refine loop 0 (Nat.zero_le _) (fun u hu => absurd hu (Nat.not_lt_zero _)) g1 ?_ a3 a6
  show x_gr g1 n c X0
  subst hX0
  refine ⟨by rw [a1]; exact hG, by rw [a2]; exact x_mk_0 (fun _ _ => rfl), fun p hp => (a4 p hp).1, fun p hp => by rw [(a4 p hp).2.1]; exact x_mk_0 (fun _ _ => rfl), fun p hp => (a4 p hp).2.2.1, fun p hp => (a4 p hp).2.2.2.1, fun p hp => (a4 p hp).2.2.2.2, fun j hj => (a5 j hj).1, fun j hj => (a5 j hj).2⟩
