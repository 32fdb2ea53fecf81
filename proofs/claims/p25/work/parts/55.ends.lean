/-! ===== how groping ends ===== -/
theorem x_nr_ex (D : Nat → Bool) (F : Nat → Nat) : ∀ n p, p < n → D p = true → (x_nr D F n).isSome = true
  | 0, p, h, _ => by omega
  | n + 1, p, h, hd => by
    unfold x_nr
    by_cases hn : D n = true
    · rw [if_pos hn]
      split
      · rfl
      · split <;> rfl
    · rw [if_neg hn]
      exact x_nr_ex D F n p (by have : ¬ p = n := (fun z => hn (z ▸ hd)); omega) hd
theorem xGet_of {n c : Nat} {X : xX} {p j : Nat} (h : xGet n c X j = some p) : p < n ∧ xGr c X p = true ∧ xAim c X p = some j ∧ XI X j = none := by
  obtain ⟨h1, h2, h3⟩ := x_get_ok h
  refine ⟨h1, ?_, h2, h3⟩
  unfold xAim at h2
  split at h2
  · rename_i z; exact z
  · cases h2
theorem xSat_of {n c : Nat} {X : xX} {p : Nat} (h : xSat n c X p = true) : ∃ j, j < c ∧ xGet n c X j = some p := x_sat_iff.mp h
theorem xSat_gr {n c : Nat} {X : xX} {p : Nat} (h : xSat n c X p = true) : xGr c X p = true := by
  obtain ⟨j, -, h2⟩ := xSat_of h
  exact (xGet_of h2).2.1
theorem xGr_of {c : Nat} {X : xX} {p : Nat} (h : xGr c X p = true) : XG X p = true ∧ x_all c (XK X p) = false := by
  unfold xGr at h
  rw [Bool.and_eq_true] at h
  exact ⟨h.1, by simpa using h.2⟩
theorem xOut_of {c : Nat} {X : xX} {p : Nat} (h : xOut c X p = true) : XG X p = true ∧ x_all c (XK X p) = true := by
  unfold xOut at h
  rw [Bool.and_eq_true] at h
  exact h
/-- behind t ticks -/
def gI (n c t : Nat) (In : Nat → Bool) (X : xX) : Prop :=
  (∀ p, p < n → XG X p = true → In p = true ∧ XO X p = false ∧ XS X p = none) ∧
  (∀ p, p < n → XO X p = true → In p = true ∧ XS X p = none ∧ (∀ j, j < c → XK X p j = true) ∧ 2 ≤ XT X p) ∧
  (∀ p j, p < n → XS X p = some j → In p = true ∧ j < c ∧ XI X j = some p ∧ 1 ≤ XT X p) ∧
  (∀ p, p < n → In p = true → XG X p = true ∨ XO X p = true ∨ (XS X p).isSome = true) ∧
  (∀ j p, j < c → XI X j = some p → p < n ∧ XS X p = some j) ∧
  (∀ p j, p < n → j < c → XK X p j = true → (XI X j).isSome = true) ∧
  (∀ p, p < n → XB X p ≤ x_cnt (XK X p) c) ∧
  (∀ p, p < n → 1 ≤ t → (XG X p = true ∨ XO X p = true) → 1 ≤ XB X p) ∧
  (t = 0 → ∀ p j, p < n → XK X p j = false)
theorem gI_0 {n c : Nat} {In : Nat → Bool} {P : Nat → Nat} : gI n c 0 In (xBeg In P) :=
  ⟨fun p _ h => ⟨h, rfl, rfl⟩, fun p _ (h : false = true) => (by cases h), fun p j _ (h : (none : Option Nat) = some j) => (by cases h), fun p _ h => Or.inl h, fun j p _ (h : (none : Option Nat) = some p) => (by cases h), fun p j _ _ (h : false = true) => (by cases h), fun p _ => Nat.zero_le _, fun p _ h => absurd h (by omega), fun _ p j _ => rfl⟩
set_option maxHeartbeats 4000000 in
theorem gI_step {n c t : Nat} {In : Nat → Bool} {hr : Nat → Nat → Bool} {X : xX} (hc : 1 ≤ c) (hv : xIv n c t X) (h : gI n c t In X) : gI n c (t + 1) In (xStep n c hr (t + 1) X) := by
  obtain ⟨a1, a2, a3, a4, a5, a6, a7, a8, a9⟩ := h
  have hOut1 : ∀ p, p < n → xOut c X p = true → 1 ≤ t := fun p hp ho => by
    apply Nat.one_le_iff_ne_zero.mpr
    intro z
    have h1 := x_all_iff.mp (xOut_of ho).2 0 (by omega)
    rw [a9 z p 0 hp] at h1
    cases h1
  have hKm : ∀ p j, XK X p j = true → XK (xStep n c hr (t + 1) X) p j = true := fun p j hk => by
    show (XK X p j || decide (xHit n c X p = some j) || ((xGet n c X j).isSome && hr p j)) = true
    rw [hk]
    rfl
  have hIm : ∀ j, (XI X j).isSome = true → (XI (xStep n c hr (t + 1) X) j).isSome = true := fun j hj => by
    show (if (xGet n c X j).isSome = true then xGet n c X j else XI X j).isSome = true
    split
    · assumption
    · exact hj
  have hIg : ∀ j, (xGet n c X j).isSome = true → (XI (xStep n c hr (t + 1) X) j).isSome = true := fun j hj => by
    show (if (xGet n c X j).isSome = true then xGet n c X j else XI X j).isSome = true
    rw [if_pos hj]
    exact hj
  have hSatG : ∀ p, xSat n c X p = true → XG X p = true := fun p hs => (xGr_of (xSat_gr hs)).1
  have hGO : ∀ p, p < n → XO X p = true → XG X p = false := fun p hp ho => by
    cases hg : XG X p with
    | false => rfl
    | true => rw [(a1 p hp hg).2.1] at ho; cases ho
  have hGS : ∀ p j, p < n → XS X p = some j → XG X p = false := fun p j hp ho => by
    cases hg : XG X p with
    | false => rfl
    | true => rw [(a1 p hp hg).2.2] at ho; cases ho
  have hns : ∀ p, XG X p = false → xSat n c X p = false := fun p hg => by
    cases hs : xSat n c X p with
    | false => rfl
    | true => rw [hSatG p hs] at hg; cases hg
  have hno : ∀ p, XG X p = false → xOut c X p = false := fun p hg => by
    unfold xOut
    rw [hg]
    rfl
  refine ⟨fun p hp hg => ?_, fun p hp ho => ?_, fun p j hp hs => ?_, fun p hp hin => ?_, fun j p hj hi => ?_, fun p j hp hj hk => ?_, fun p hp => ?_, fun p hp _ hg => ?_, fun z => by omega⟩
  · have hg : (xGr c X p && !xSat n c X p) = true := hg
    rw [Bool.and_eq_true] at hg
    obtain ⟨g1, g2⟩ := hg
    have g2 : xSat n c X p = false := by simpa using g2
    obtain ⟨g3, g4⟩ := xGr_of g1
    obtain ⟨b1, b2, b3⟩ := a1 p hp g3
    refine ⟨b1, ?_, ?_⟩
    · show (XO X p || xOut c X p) = false
      rw [b2]
      unfold xOut
      rw [g4, Bool.and_false]
      rfl
    · show (if xSat n c X p = true then xAim c X p else XS X p) = none
      rw [g2]
      exact b3
  · have ho : (XO X p || xOut c X p) = true := ho
    rw [Bool.or_eq_true] at ho
    rcases ho with ho | ho
    · obtain ⟨b1, b2, b3, b4⟩ := a2 p hp ho
      have hg := hGO p hp ho
      refine ⟨b1, ?_, fun j hj => hKm p j (b3 j hj), ?_⟩
      · show (if xSat n c X p = true then xAim c X p else XS X p) = none
        rw [hns p hg]
        exact b2
      · show 2 ≤ (if (xOut c X p || xSat n c X p) = true then t + 1 else XT X p)
        rw [hns p hg, hno p hg]
        exact b4
    · obtain ⟨b1, b2⟩ := xOut_of ho
      obtain ⟨c1, c2, c3⟩ := a1 p hp b1
      have hs : xSat n c X p = false := by
        cases hs : xSat n c X p with
        | false => rfl
        | true => rw [(xGr_of (xSat_gr hs)).2] at b2; cases b2
      refine ⟨c1, ?_, fun j hj => hKm p j (x_all_iff.mp b2 j hj), ?_⟩
      · show (if xSat n c X p = true then xAim c X p else XS X p) = none
        rw [hs]
        exact c3
      · show 2 ≤ (if (xOut c X p || xSat n c X p) = true then t + 1 else XT X p)
        rw [ho]
        have := hOut1 p hp ho
        simp
        omega
  · have hs : (if xSat n c X p = true then xAim c X p else XS X p) = some j := hs
    by_cases hsat : xSat n c X p = true
    · rw [if_pos hsat] at hs
      obtain ⟨j', hj', hget⟩ := xSat_of hsat
      obtain ⟨g1, g2, g3, g4⟩ := xGet_of hget
      rw [g3] at hs
      have e : j' = j := Option.some.inj hs
      subst e
      refine ⟨(a1 p hp (hSatG p hsat)).1, hj', ?_, ?_⟩
      · show (if (xGet n c X j').isSome = true then xGet n c X j' else XI X j') = some p
        rw [hget]
        rfl
      · show 1 ≤ (if (xOut c X p || xSat n c X p) = true then t + 1 else XT X p)
        rw [hsat, Bool.or_true, if_pos rfl]
        omega
    · rw [if_neg hsat] at hs
      obtain ⟨b1, b2, b3, b4⟩ := a3 p j hp hs
      have hg := hGS p j hp hs
      refine ⟨b1, b2, ?_, ?_⟩
      · show (if (xGet n c X j).isSome = true then xGet n c X j else XI X j) = some p
        have : xGet n c X j = none := by
          cases hz : xGet n c X j with
          | none => rfl
          | some q => rw [(xGet_of hz).2.2.2] at b3; cases b3
        rw [this]
        exact b3
      · show 1 ≤ (if (xOut c X p || xSat n c X p) = true then t + 1 else XT X p)
        rw [hns p hg, hno p hg]
        exact b4
  · show (xGr c X p && !xSat n c X p) = true ∨ (XO X p || xOut c X p) = true ∨ (if xSat n c X p = true then xAim c X p else XS X p).isSome = true
    rcases a4 p hp hin with hg | ho | hs
    · cases hall : x_all c (XK X p) with
      | true =>
        right; left
        unfold xOut
        rw [hg, hall]
        simp
      | false =>
        have hgr : xGr c X p = true := by
          unfold xGr
          rw [hg, hall]
          rfl
        cases hsat : xSat n c X p with
        | true =>
          right; right
          unfold xAim
          rw [if_pos rfl, if_pos hgr]
          rfl
        | false =>
          left
          rw [hgr]
          rfl
    · right; left
      rw [ho]
      rfl
    · right; right
      obtain ⟨j, hj⟩ := Option.isSome_iff_exists.mp hs
      rw [hns p (hGS p j hp hj)]
      exact hs
  · have hi : (if (xGet n c X j).isSome = true then xGet n c X j else XI X j) = some p := hi
    by_cases hget : (xGet n c X j).isSome = true
    · rw [if_pos hget] at hi
      obtain ⟨g1, g2, g3, g4⟩ := xGet_of hi
      refine ⟨g1, ?_⟩
      show (if xSat n c X p = true then xAim c X p else XS X p) = some j
      rw [if_pos (show xSat n c X p = true from x_sat_iff.mpr ⟨j, hj, hi⟩)]
      exact g3
    · rw [if_neg hget] at hi
      obtain ⟨b1, b2⟩ := a5 j p hj hi
      refine ⟨b1, ?_⟩
      show (if xSat n c X p = true then xAim c X p else XS X p) = some j
      rw [hns p (hGS p j b1 b2)]
      exact b2
  · have hk : (XK X p j || decide (xHit n c X p = some j) || ((xGet n c X j).isSome && hr p j)) = true := hk
    rw [Bool.or_eq_true, Bool.or_eq_true, Bool.and_eq_true] at hk
    rcases hk with (hk | hk) | hk
    · exact hIm j (a6 p j hp hj hk)
    · have hk := of_decide_eq_true hk
      obtain ⟨g1, g2, g3⟩ := xHit_some hk
      cases hi : XI X j with
      | some q => exact hIm j (by rw [hi]; rfl)
      | none =>
        refine hIg j ?_
        have ha : xAim c X p = some j := by
          unfold xAim
          rw [if_pos g1, g3]
        unfold xGet x_get
        rw [if_pos hi]
        exact x_nr_ex _ _ n p hp (by rw [ha]; simp)
    · exact hIg j hk.1
  · show (if (xHit n c X p).isSome = true then XB X p + 1 else XB X p) ≤ x_cnt (XK (xStep n c hr (t + 1) X) p) c
    by_cases hh : (xHit n c X p).isSome = true
    · rw [if_pos hh]
      obtain ⟨q, hq⟩ := Option.isSome_iff_exists.mp hh
      obtain ⟨g1, g2, g3⟩ := xHit_some hq
      obtain ⟨g4, g5⟩ := xGr_of g1
      obtain ⟨-, f2, -⟩ := x_far_ok (K := XK X) (P := XP X) (p := p) hc (hv.2.2.1 p hp g4) g5
      have hq' : XK (xStep n c hr (t + 1) X) p q = true := by
        show (XK X p q || decide (xHit n c X p = some q) || ((xGet n c X q).isSome && hr p q)) = true
        rw [hq]
        simp
      have := x_cnt_lt (fun j hj => hKm p j hj) c q (by rw [g3]; exact Nat.mod_lt _ (by omega)) (by rw [g3]; exact f2) hq'
      have := a7 p hp
      omega
    · rw [if_neg hh]
      exact Nat.le_trans (a7 p hp) (x_cnt_mono (fun j hj => hKm p j hj) c)
  · show 1 ≤ (if (xHit n c X p).isSome = true then XB X p + 1 else XB X p)
    have hge : 1 ≤ XB X p → 1 ≤ (if (xHit n c X p).isSome = true then XB X p + 1 else XB X p) := fun hb => by split <;> omega
    rcases hg with hg | ho
    · have hg : (xGr c X p && !xSat n c X p) = true := hg
      rw [← xHit_gr (n := n)] at hg
      rw [if_pos hg]
      omega
    · have ho : (XO X p || xOut c X p) = true := ho
      rw [Bool.or_eq_true] at ho
      rcases ho with ho | ho
      · refine hge (a8 p hp ?_ (Or.inr ho))
        have := (a2 p hp ho).2.2.2
        have := hv.2.2.2.2.1 p
        omega
      · exact hge (a8 p hp (hOut1 p hp ho) (Or.inl (xOut_of ho).1))
theorem xIv_0 {n c : Nat} {In : Nat → Bool} {P : Nat → Nat} (hc : 1 ≤ c) : xIv n c 0 (xBeg In (fun p => P p % c)) :=
  ⟨fun j => Nat.le_refl _, fun j q (h : (none : Option Nat) = some q) => (by cases h), fun p _ _ => Nat.mod_lt _ (by omega), fun p => Nat.le_refl _, fun p => Nat.le_refl _, fun p q (h : (none : Option Nat) = some q) => (by cases h)⟩
theorem gI_it {n c : Nat} {In : Nat → Bool} {hr : Nat → Nat → Bool} {P : Nat → Nat} (hc : 1 ≤ c) : ∀ t, gI n c t In (xIt n c hr (xBeg In (fun p => P p % c)) t)
  | 0 => gI_0
  | t + 1 => gI_step hc (xIv_it hc (xIv_0 hc) t) (gI_it hc t)
theorem vgI {V : xV} {b : Nat} (hc : 1 ≤ vc V) (t : Nat) : gI (vn V) (vc V) t (vin V) (vX V b t) := gI_it (P := fun p => vpl V p + vst V p * b) hc t
/-! counting -/
def x_ns (f : Nat → Nat) : Nat → Nat
  | 0 => 0
  | n + 1 => x_ns f n + f n
theorem x_ns_congr {f g : Nat → Nat} : ∀ n, (∀ i, i < n → f i = g i) → x_ns f n = x_ns g n
  | 0, _ => rfl
  | n + 1, h => by
    show x_ns f n + f n = x_ns g n + g n
    rw [x_ns_congr n (fun i hi => h i (by omega)), h n (by omega)]
theorem x_ns_add {f g : Nat → Nat} : ∀ n, x_ns (fun i => f i + g i) n = x_ns f n + x_ns g n
  | 0 => rfl
  | n + 1 => by
    show x_ns (fun i => f i + g i) n + (f n + g n) = x_ns f n + f n + (x_ns g n + g n)
    rw [x_ns_add n]
    omega
theorem x_cnt_ns (f : Nat → Bool) : ∀ n, x_cnt f n = x_ns (fun i => if f i = true then 1 else 0) n
  | 0 => rfl
  | n + 1 => by
    show x_cnt f n + _ = x_ns _ n + _
    rw [x_cnt_ns f n]
theorem x_dbl (R : Nat → Nat → Bool) (c : Nat) : ∀ n, x_ns (fun p => x_cnt (R p) c) n = x_ns (fun j => x_cnt (fun p => R p j) n) c
  | 0 => by
    show 0 = _
    have h : ∀ c, x_ns (fun _ => 0) c = 0 := fun c => by
      induction c with
      | zero => rfl
      | succ c ih => exact ih
    exact (h c).symm
  | n + 1 => by
    show x_ns (fun p => x_cnt (R p) c) n + x_cnt (R n) c = x_ns (fun j => x_cnt (fun p => R p j) n + if R n j = true then 1 else 0) c
    rw [x_ns_add, x_dbl R c n, x_cnt_ns (R n) c]
theorem x_cnt_0 {f : Nat → Bool} : ∀ n, (∀ i, i < n → f i = false) → x_cnt f n = 0
  | 0, _ => rfl
  | n + 1, h => by
    show x_cnt f n + _ = 0
    rw [x_cnt_0 n (fun i hi => h i (by omega)), h n (by omega)]
    rfl
theorem x_cnt_1 {f : Nat → Bool} {k : Nat} : ∀ n, k < n → (∀ i, i < n → (f i = true ↔ i = k)) → x_cnt f n = 1
  | 0, hk, _ => by omega
  | n + 1, hk, h => by
    show x_cnt f n + _ = 1
    by_cases e : k = n
    · subst e
      rw [x_cnt_0 k (fun i hi => by
        cases hf : f i with
        | false => rfl
        | true => have := (h i (by omega)).mp hf; omega), if_pos ((h k (by omega)).mpr rfl)]
    · rw [x_cnt_1 n (by omega) (fun i hi => h i (by omega)), if_neg (fun z => e ((h n (by omega)).mp z).symm)]
theorem x_cnt_full {f : Nat → Bool} : ∀ n, (∀ i, i < n → f i = true) → x_cnt f n = n
  | 0, _ => rfl
  | n + 1, h => by
    show x_cnt f n + _ = n + 1
    rw [x_cnt_full n (fun i hi => h i (by omega)), if_pos (h n (by omega))]
theorem x_cnt_sub {f g : Nat → Bool} : ∀ n, (∀ i, i < n → f i = true → g i = true) → x_cnt f n ≤ x_cnt g n
  | 0, _ => Nat.le_refl _
  | n + 1, h => by
    show x_cnt f n + _ ≤ x_cnt g n + _
    have := x_cnt_sub n (fun i hi => h i (by omega))
    by_cases hf : f n = true
    · rw [if_pos hf, if_pos (h n (by omega) hf)]
      omega
    · rw [if_neg hf]
      omega
theorem x_cnt_sum {f g k : Nat → Bool} : ∀ n, (∀ i, i < n → (f i = true ↔ (g i = true ∨ k i = true)) ∧ ¬ (g i = true ∧ k i = true)) → x_cnt f n = x_cnt g n + x_cnt k n
  | 0, _ => rfl
  | n + 1, h => by
    show x_cnt f n + _ = x_cnt g n + _ + (x_cnt k n + _)
    rw [x_cnt_sum n (fun i hi => h i (by omega))]
    obtain ⟨h1, h2⟩ := h n (by omega)
    cases hg : g n <;> cases hk : k n <;> rw [hg, hk] at h1 h2 <;> simp at h1 h2 <;> rw [h1] <;> simp <;> omega
/-- the end: each chair is taken, who doesn't sit is out -/
theorem gE {n c t : Nat} {In : Nat → Bool} {X : xX} (h : gI n c t In X) (hG : ∀ p, p < n → XG X p = false) (hm : c < x_cnt In n) : (∀ j, j < c → (XI X j).isSome = true) ∧ x_cnt (fun p => In p && (XS X p).isSome) n = c ∧ x_cnt (XO X) n + c = x_cnt In n ∧ ∀ p, p < n → In p = true → (XO X p = true ↔ XS X p = none) := by
  obtain ⟨a1, a2, a3, a4, a5, a6, a7, a8, a9⟩ := h
  have hd : ∀ p, p < n → In p = true → (XO X p = true ↔ XS X p = none) := fun p hp hin => by
    constructor
    · intro ho
      exact (a2 p hp ho).2.1
    · intro hs
      rcases a4 p hp hin with z | z | z
      · rw [hG p hp] at z; cases z
      · exact z
      · rw [hs] at z; cases z
  have e1 : x_cnt (fun p => (XS X p).isSome) n = x_cnt (fun j => (XI X j).isSome) c := by
    have hdb := x_dbl (fun p j => decide (XS X p = some j)) c n
    have h1 : x_ns (fun p => x_cnt (fun j => decide (XS X p = some j)) c) n = x_cnt (fun p => (XS X p).isSome) n := by
      rw [x_cnt_ns]
      refine x_ns_congr n (fun p hp => ?_)
      cases hs : XS X p with
      | none => exact x_cnt_0 c (fun j _ => by simp)
      | some j0 =>
        rw [x_cnt_1 (k := j0) c (a3 p j0 hp hs).2.1 (fun i _ => by simp; exact eq_comm)]
        rfl
    have h2 : x_ns (fun j => x_cnt (fun p => decide (XS X p = some j)) n) c = x_cnt (fun j => (XI X j).isSome) c := by
      rw [x_cnt_ns (fun j => (XI X j).isSome)]
      refine x_ns_congr c (fun j hj => ?_)
      cases hi : XI X j with
      | none =>
        refine x_cnt_0 n (fun p hp => ?_)
        apply decide_eq_false
        intro z
        rw [(a3 p j hp z).2.2.1] at hi
        cases hi
      | some p0 =>
        obtain ⟨z1, z2⟩ := a5 j p0 hj hi
        rw [x_cnt_1 (k := p0) n z1 (fun i hi2 => ?_)]
        · rfl
        · constructor
          · intro z
            have z := (a3 i j hi2 (of_decide_eq_true z)).2.2.1
            rw [hi] at z
            cases z
            rfl
          · rintro rfl
            exact decide_eq_true z2
    rw [← h1, hdb, h2]
  have hall : ∀ j, j < c → (XI X j).isSome = true := by
    intro j hj
    cases hi : (XI X j).isSome with
    | true => rfl
    | false =>
      exfalso
      have hno : ∀ p, p < n → XO X p = false := fun p hp => by
        cases ho : XO X p with
        | false => rfl
        | true =>
          have := a6 p j hp hj ((a2 p hp ho).2.2.1 j hj)
          rw [hi] at this
          cases this
      have h1 : x_cnt In n ≤ x_cnt (fun p => (XS X p).isSome) n := x_cnt_sub n (fun p hp hin => by
        rcases a4 p hp hin with z | z | z
        · rw [hG p hp] at z; cases z
        · rw [hno p hp] at z; cases z
        · exact z)
      have := x_cnt_le (fun j => (XI X j).isSome) c
      omega
  have e2 : x_cnt (fun p => In p && (XS X p).isSome) n = c := by
    rw [← x_cnt_full (f := fun j => (XI X j).isSome) c hall, ← e1]
    refine x_cnt_congr n (fun p hp => ?_)
    cases hs : XS X p with
    | none => simp
    | some j => simp [(a3 p j hp hs).1]
  refine ⟨hall, e2, ?_, hd⟩
  rw [← e2]
  refine (x_cnt_sum n (fun p hp => ?_)).symm
  have hO : XO X p = true → In p = true := fun ho => (a2 p hp ho).1
  cases hin : In p with
  | false =>
    have : XO X p = false := by
      cases ho : XO X p with
      | false => rfl
      | true => rw [hO ho] at hin; cases hin
    simp [this]
  | true =>
    have hdp := hd p hp hin
    cases hs : XS X p with
    | none => rw [hs] at hdp; simp [hdp.mpr rfl]
    | some j =>
      rw [hs] at hdp
      have : XO X p = false := by
        cases ho : XO X p with
        | false => rfl
        | true => cases hdp.mp ho
      simp [this]
