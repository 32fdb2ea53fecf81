/-! ===== the reference gropes: a tick, piece by piece ===== -/
section XT
variable {f : Nat → Int32} {V : xV} {sa : Nat → Int32} {si : Nat → Option Nat} {inn : Nat → Bool} {ss bu ou : Nat → Int32} {ti : Nat → Nat} {R : xR} {P : Nat → Nat}
theorem wS_n (h : MG f (wS V sa si inn ss bu ou ti R) P) : f 2 = nI (vn V) := h.1.2.2.1
theorem wS_c (h : MG f (wS V sa si inn ss bu ou ti R) P) : f 1 = nI (vc V) := h.1.2.1
theorem wS_in (h : MG f (wS V sa si inn ss bu ou ti R) P) {p : Nat} (hp : p < vn V) : f (65 + 9 * p + 2) = x_b (inn p) := (h.2.2.1 p hp).2.2.1
theorem wS_pl (h : MG f (wS V sa si inn ss bu ou ti R) P) (h1 : vph V = 1) {p : Nat} (hp : p < vn V) (hi : inn p = true) : f (65 + 9 * p + 3) = nI (P p) := (h.2.2.1 p hp).2.2.2.1 h1 hi
end XT
theorem x_nf_eq {o : Option Nat} {k : Nat} (hk : k < 65536) (ho : ∀ q, o = some q → q < 65536) : x_nf o = nI k ↔ o = some k := by
  cases o with
  | none =>
    constructor
    · intro h
      exfalso
      have : nI k < 0 := by rw [← h]; decide
      exact nI_pos (by omega) this
    · intro h; cases h
  | some q =>
    have := ho q rfl
    show nI q = nI k ↔ _
    rw [nI_eq (by omega) (by omega)]
    simp
def x_ex (f : Nat → Bool) : Nat → Bool
  | 0 => false
  | n + 1 => x_ex f n || f n
theorem x_ex_iff {f : Nat → Bool} : ∀ n, x_ex f n = true ↔ ∃ p, p < n ∧ f p = true
  | 0 => ⟨fun h => (by cases h), fun ⟨p, h, _⟩ => (by omega)⟩
  | n + 1 => by
    show (x_ex f n || f n) = true ↔ _
    rw [Bool.or_eq_true, x_ex_iff n]
    constructor
    · rintro (⟨p, h1, h2⟩ | h)
      · exact ⟨p, by omega, h2⟩
      · exact ⟨n, by omega, h⟩
    · rintro ⟨p, h1, h2⟩
      by_cases e : p = n
      · subst e
        exact Or.inr h2
      · exact Or.inl ⟨p, by omega, h2⟩
/-- rings by the places of those of whom b holds -/
def x_rk (E : Nat → Nat → Int32) (b : Nat → Bool) : Nat → xR → xR
  | 0, r => r
  | j + 1, r => if b j = true then x_r1 (E j) (x_rk E b j r) else x_rk E b j r
set_option maxHeartbeats 4000000 in
theorem k_tick1 (d t : Nat) (V : xV) (X : xX) (sa : Nat → Int32) (si : Nat → Option Nat) (inn : Nat → Bool) (ss bu ou : Nat → Int32) (ti : Nat → Nat) (R : xR) (P : Nat → Nat) (g : xG) (Q : xQ) (l2 l3 : Option Value) (h : MG (g 158) (wS V sa si inn ss bu ou ti R) P) (hk : vOkw V) (hG : ∀ p, XG X p = (inn p && (XS X p).isNone)) (hS2 : ∀ p q, XS X p = some q → q < 65536) (hO : x_mk (g 157 12) (vn V) (XO X)) (hK : ∀ p, p < vn V → x_mk (g 163 p) (vc V) (XK X p)) (hs : ∀ p, p < vn V → g 164 p = x_on (XS X p))
    (k : ∀ g' : xG, MG (g' 158) (wS V sa si (x_st inn (fun _ => false) (xOut (vc V) X) (vn V)) ss bu (x_st ou (fun _ => vrd V + nI 1) (xOut (vc V) X) (vn V)) (x_st ti (fun _ => t) (xOut (vc V) X) (vn V)) R) P → x_mk (g' 157 12) (vn V) (fun p => XO X p || xOut (vc V) X p) → (∀ j, j ≠ 12 → g' 157 j = g 157 j) → (∀ a, a ≠ 157 → a ≠ 158 → g' a = g a) → Rx (d + 4) m_Md_ticks Q 51 [some (.ref 157), some (.int (nI t)), some (.int (nI (vn V))), l3] [] g') : Rx (d + 4) m_Md_ticks Q 0 [some (.ref 157), some (.int (nI t)), l2, l3] [] g := by
  obtain ⟨⟨b1, b2, b3, b4, b5, b6⟩, -⟩ := hk
  have hpw : (2 : Nat) ^ vc V ≤ 2 ^ 16 := Nat.pow_le_pow_right (by omega) b5
  have hpw0 := Nat.two_pow_pos (vc V)
  have e1 : (nI 1 <<< (nI (vc V) &&& 31)) - nI 1 = nI (2 ^ vc V - 1) := by rw [x_shl1 (by omega), pk_sub (by omega)]
  have loop : ∀ p, p ≤ vn V → ∀ g' : xG, MG (g' 158) (wS V sa si (x_st inn (fun _ => false) (xOut (vc V) X) p) ss bu (x_st ou (fun _ => vrd V + nI 1) (xOut (vc V) X) p) (x_st ti (fun _ => t) (xOut (vc V) X) p) R) P → x_mk (g' 157 12) (vn V) (fun q => XO X q || (decide (q < p) && xOut (vc V) X q)) → (∀ j, j ≠ 12 → g' 157 j = g 157 j) → (∀ a, a ≠ 157 → a ≠ 158 → g' a = g a) → Rx (d + 4) m_Md_ticks Q 2 [some (.ref 157), some (.int (nI t)), some (.int (nI p)), l3] [] g' := by
    refine r_for ?_ ?_
    · intro g' a1 a2 a3 a4
      refine r_run 400 rfl rfl ?_
      refine r_ald (j := 2) rfl rfl rfl (by decide) (Nat.le_of_ble_eq_true rfl) ?_
      simp only [Nat.reduceAdd]
      rw [wS_n a1]
      refine n_ige rfl (by omega) (by omega) (fun _ => ?_) (fun h => by omega)
      exact k g' a1 (x_mk_congr a2 (fun i hi => by simp [hi])) a3 a4
    · intro p hp ih g' a1 a2 a3 a4
      refine r_run 400 rfl rfl ?_
      refine r_ald (j := 2) rfl rfl rfl (by decide) (Nat.le_of_ble_eq_true rfl) ?_
      simp only [Nat.reduceAdd]
      rw [wS_n a1]
      refine n_ige rfl (by omega) (by omega) (fun _ => by omega) (fun _ => ?_)
      have no : xOut (vc V) X p = false → Rx (d + 4) m_Md_ticks Q 45 [some (.ref 157), some (.int (nI t)), some (.int (nI p)), l3] [] g' := by
        intro ho
        refine r_to 2 60 rfl rfl ?_
        simp only [nI_add]
        refine ih g' (by rw [x_st_f ho, x_st_f ho, x_st_f ho]; exact a1) (x_mk_congr a2 (fun i hi => ?_)) a3 a4
        by_cases e : i = p
        · subst e
          simp [ho]
        · simp only [show decide (i < p + 1) = decide (i < p) by congr 1; exact propext (by omega)]
      refine r_run 400 rfl rfl ?_
      refine r_inv rfl rfl rfl ?_
      refine m_gropes (d + 1) p (x_st inn (fun _ => false) (xOut (vc V) X) p p) (XS X p) g' _ (by omega) (wS_in a1 hp) (by rw [a4 164 (by decide) (by decide)]; exact hs p hp) (hS2 p) (fun h1 h2 => ?_) (fun h1 => ?_)
      · rw [x_st_n (Nat.le_refl _)] at h1
        have hg : XG X p = true := by rw [hG, h1, h2]; rfl
        refine t_eq1 rfl ?_
        refine r_run 400 rfl rfl ?_
        refine r_ald (j := p) rfl rfl rfl (by omega) (Nat.le_of_ble_eq_true rfl) ?_
        refine r_run 400 rfl rfl ?_
        refine r_ald (j := 1) rfl rfl rfl (by decide) (Nat.le_of_ble_eq_true rfl) ?_
        simp only [Nat.reduceAdd]
        rw [wS_c a1, a4 163 (by decide) (by decide)]
        refine r_run 400 rfl rfl ?_
        rw [e1]
        refine r_ine rfl (fun hne => ?_) (fun heq => ?_)
        · refine no ?_
          unfold xOut
          rw [hg]
          cases hh : x_all (vc V) (XK X p) with
          | false => rfl
          | true => exact absurd ((x_mk_all (hK p hp) b5).mpr hh) hne
        · have ho : xOut (vc V) X p = true := by
            unfold xOut
            rw [hg, (x_mk_all (hK p hp) b5).mp heq]
            rfl
          refine r_run 400 rfl rfl ?_
          refine r_inv rfl rfl rfl ?_
          refine m_getsOut (d + 2) p t V _ _ _ _ _ _ _ _ _ g' _ a1 b5 b6 hp (fun g2 c1 c2 c3 c4 => ?_)
          have s1 : x_fu (x_st inn (fun _ => false) (xOut (vc V) X) p) p false = x_st inn (fun _ => false) (xOut (vc V) X) (p + 1) := x_st_t ho
          have s2 : x_fu (x_st ou (fun _ => vrd V + nI 1) (xOut (vc V) X) p) p (vrd V + nI 1) = x_st ou (fun _ => vrd V + nI 1) (xOut (vc V) X) (p + 1) := x_st_t ho
          have s3 : x_fu (x_st ti (fun _ => t) (xOut (vc V) X) p) p t = x_st ti (fun _ => t) (xOut (vc V) X) (p + 1) := x_st_t ho
          rw [s1, s2, s3] at c1
          refine r_to 2 60 rfl rfl ?_
          simp only [nI_add]
          refine ih g2 c1 ?_ (fun j hj => by rw [c3 j hj]; exact a3 j hj) (fun a h1 h2 => by rw [c4 a h1 h2]; exact a4 a h1 h2)
          rw [c2]
          refine x_mk_set a2 hp (by omega) (fun j hj => ?_)
          by_cases e : j = p
          · subst e
            simp [ho]
          · simp only [show decide (j < p + 1) = decide (j < p) by congr 1; exact propext (by omega)]
            simp [e]
      · rw [x_st_n (Nat.le_refl _), ← hG] at h1
        refine t_eq0 rfl ?_
        refine no ?_
        unfold xOut
        rw [h1]
        rfl
  refine r_to 2 60 rfl rfl ?_
  exact loop 0 (Nat.zero_le _) g (by rw [x_st_0, x_st_0, x_st_0]; exact h) (x_mk_congr hO (fun i hi => by simp)) (fun _ _ => rfl) (fun _ _ _ => rfl)
set_option maxHeartbeats 4000000 in
theorem k_tick2 (d t : Nat) (V : xV) (X : xX) (sa : Nat → Int32) (si : Nat → Option Nat) (inn : Nat → Bool) (ss bu ou : Nat → Int32) (ti : Nat → Nat) (R : xR) (P : Nat → Nat) (g : xG) (Q : xQ) (l2 l3 : Option Value) (h : MG (g 158) (wS V sa si inn ss bu ou ti R) P) (hk : vOkw V) (h1 : vph V = 1) (hG : ∀ p, p < vn V → (inn p && (XS X p).isNone) = xGr (vc V) X p) (hP : ∀ p, p < vn V → xGr (vc V) X p = true → P p = XP X p ∧ XP X p < vc V) (hS2 : ∀ p q, XS X p = some q → q < 65536) (hK : ∀ p, p < vn V → x_mk (g 163 p) (vc V) (XK X p)) (hs : ∀ p, p < vn V → g 164 p = x_on (XS X p))
    (k : ∀ g' : xG, (∀ q, q < vn V → xGr (vc V) X q = true → g' 165 q = nI (x_aim (vc V) (XK X) (XP X) q) ∧ g' 166 q = nI (xFar (vc V) X q)) → (∀ a, a ≠ 165 → a ≠ 166 → g' a = g a) → Rx (d + 4) m_Md_ticks Q 82 [some (.ref 157), some (.int (nI t)), some (.int (nI (vn V))), l3] [] g') : Rx (d + 4) m_Md_ticks Q 51 [some (.ref 157), some (.int (nI t)), l2, l3] [] g := by
  obtain ⟨⟨b1, b2, b3, b4, b5, b6⟩, -, hc1, -⟩ := hk
  obtain ⟨hc1, -⟩ := hc1 h1
  have loop : ∀ p, p ≤ vn V → ∀ g' : xG, (∀ q, q < p → xGr (vc V) X q = true → g' 165 q = nI (x_aim (vc V) (XK X) (XP X) q) ∧ g' 166 q = nI (xFar (vc V) X q)) → (∀ a, a ≠ 165 → a ≠ 166 → g' a = g a) → Rx (d + 4) m_Md_ticks Q 53 [some (.ref 157), some (.int (nI t)), some (.int (nI p)), l3] [] g' := by
    refine r_for ?_ ?_
    · intro g' a1 a2
      refine r_run 400 rfl rfl ?_
      refine r_ald (j := 2) rfl rfl rfl (by decide) (Nat.le_of_ble_eq_true rfl) ?_
      simp only [Nat.reduceAdd]
      rw [a2 158 (by decide) (by decide), wS_n h]
      refine n_ige rfl (by omega) (by omega) (fun _ => ?_) (fun h => by omega)
      exact k g' a1 a2
    · intro p hp ih g' a1 a2
      have e158 := a2 158 (by decide) (by decide)
      refine r_run 400 rfl rfl ?_
      refine r_ald (j := 2) rfl rfl rfl (by decide) (Nat.le_of_ble_eq_true rfl) ?_
      simp only [Nat.reduceAdd]
      rw [e158, wS_n h]
      refine n_ige rfl (by omega) (by omega) (fun _ => by omega) (fun _ => ?_)
      refine r_run 400 rfl rfl ?_
      refine r_inv rfl rfl rfl ?_
      refine m_gropes (d + 1) p (inn p) (XS X p) g' _ (by omega) (by rw [e158]; exact wS_in h hp) (by rw [a2 164 (by decide) (by decide)]; exact hs p hp) (hS2 p) (fun h2 h3 => ?_) (fun h2 => ?_)
      · have hg : xGr (vc V) X p = true := by rw [← hG p hp, h2, h3]; rfl
        obtain ⟨p1, p2⟩ := hP p hp hg
        have hal : x_all (vc V) (XK X p) = false := by
          unfold xGr at hg
          rw [Bool.and_eq_true] at hg
          simpa using hg.2
        refine t_eq1 rfl ?_
        refine r_run 400 rfl rfl ?_
        refine r_inv rfl rfl rfl ?_
        refine m_aims (d + 2) p (vc V) (XK X) (XP X) g' _ (by omega) (by rw [e158]; exact wS_c h) hc1 b5 (by rw [e158, wS_pl h h1 hp h2, p1]) p2 (by rw [a2 163 (by decide) (by decide)]; exact hK p hp) hal ?_
        refine r_to 53 60 rfl rfl ?_
        simp only [nI_add]
        refine ih _ (fun q hq hgq => ?_) (fun a h1 h2 => by rw [x_up_row h2, x_up_row h1]; exact a2 a h1 h2)
        by_cases e : q = p
        · subst e
          simp (disch := omega) only [x_up_o, x_up_n, x_up_e]
          exact ⟨trivial, rfl⟩
        · simp (disch := omega) only [x_up_o, x_up_n, x_up_e]
          exact a1 q (by omega) hgq
      · refine t_eq0 rfl ?_
        refine r_to 53 60 rfl rfl ?_
        simp only [nI_add]
        refine ih g' (fun q hq hgq => ?_) a2
        by_cases e : q = p
        · subst e
          rw [← hG q hp, h2] at hgq
          cases hgq
        · exact a1 q (by omega) hgq
  refine r_to 53 60 rfl rfl ?_
  exact loop 0 (Nat.zero_le _) g (fun q hq => absurd hq (Nat.not_lt_zero _)) (fun _ _ _ => rfl)
set_option maxHeartbeats 4000000 in
theorem k_tick3 (d t : Nat) (V : xV) (X : xX) (sa : Nat → Int32) (si : Nat → Option Nat) (inn : Nat → Bool) (ss bu ou : Nat → Int32) (ti : Nat → Nat) (R : xR) (P : Nat → Nat) (g : xG) (Q : xQ) (l2 l3 : Option Value) (h : MG (g 158) (wS V sa si inn ss bu ou ti R) P) (hk : vOkw V) (h1 : vph V = 1) (hG : ∀ p, p < vn V → (inn p && (XS X p).isNone) = xGr (vc V) X p) (hP : ∀ p, p < vn V → xGr (vc V) X p = true → XP X p < vc V) (hS2 : ∀ p q, XS X p = some q → q < 65536) (hs : ∀ p, p < vn V → g 164 p = x_on (XS X p)) (hI2 : ∀ j q, XI X j = some q → q < 65536) (hi : ∀ j, j < vc V → g 167 j = x_on (XI X j)) (hA : ∀ q, q < vn V → xGr (vc V) X q = true → g 165 q = nI (x_aim (vc V) (XK X) (XP X) q) ∧ g 166 q = nI (xFar (vc V) X q))
    (k : ∀ g' : xG, (∀ j, j < vc V → g' 168 j = x_nf (xGet (vn V) (vc V) X j)) → (∀ a, a ≠ 168 → g' a = g a) → Rx (d + 4) m_Md_ticks Q 111 [some (.ref 157), some (.int (nI t)), some (.int (nI (vc V))), l3] [] g') : Rx (d + 4) m_Md_ticks Q 82 [some (.ref 157), some (.int (nI t)), l2, l3] [] g := by
  obtain ⟨⟨b1, b2, b3, b4, b5, b6⟩, -, hc1, -⟩ := hk
  obtain ⟨hc1, -⟩ := hc1 h1
  have loop : ∀ j, j ≤ vc V → ∀ g' : xG, (∀ i, i < j → g' 168 i = x_nf (xGet (vn V) (vc V) X i)) → (∀ a, a ≠ 168 → g' a = g a) → Rx (d + 4) m_Md_ticks Q 84 [some (.ref 157), some (.int (nI t)), some (.int (nI j)), l3] [] g' := by
    refine r_for ?_ ?_
    · intro g' a1 a2
      refine r_run 400 rfl rfl ?_
      refine r_ald (j := 1) rfl rfl rfl (by decide) (Nat.le_of_ble_eq_true rfl) ?_
      simp only [Nat.reduceAdd]
      rw [a2 158 (by decide), wS_c h]
      refine n_ige rfl (by omega) (by omega) (fun _ => ?_) (fun h => by omega)
      exact k g' a1 a2
    · intro j hj ih g' a1 a2
      have e158 := a2 158 (by decide)
      refine r_run 400 rfl rfl ?_
      refine r_ald (j := 1) rfl rfl rfl (by decide) (Nat.le_of_ble_eq_true rfl) ?_
      simp only [Nat.reduceAdd]
      rw [e158, wS_c h]
      refine n_ige rfl (by omega) (by omega) (fun _ => by omega) (fun _ => ?_)
      refine r_run 400 rfl rfl ?_
      refine r_inv rfl rfl rfl ?_
      refine m_getterOf d (vn V) j (xAim (vc V) X) (xFar (vc V) X) (XI X) inn (XS X) g' _ (by rw [e158]; exact wS_n h) b6 (by omega) (fun p hp => by rw [e158]; exact wS_in h hp) (fun p hp => by rw [a2 164 (by decide)]; exact hs p hp) hS2 (fun p hp => ?_) (fun p q hp hq => ?_) (by rw [a2 167 (by decide)]; exact hi j hj) (hI2 j) ?_
      · rw [hG p hp]
        unfold xAim
        cases xGr (vc V) X p <;> rfl
      · have hg : xGr (vc V) X p = true := by
          unfold xAim at hq
          split at hq
          · rename_i h; exact h
          · cases hq
        have hq2 : q = x_aim (vc V) (XK X) (XP X) p := by
          unfold xAim at hq
          rw [if_pos hg] at hq
          exact (Option.some.inj hq).symm
        have hqc := xAim_lt hc1 hq
        obtain ⟨z1, z2⟩ := hA p hp hg
        have hpl := hP p hp hg
        have hal : x_all (vc V) (XK X p) = false := by
          unfold xGr at hg
          rw [Bool.and_eq_true] at hg
          simpa using hg.2
        have hf : xFar (vc V) X p < vc V := (x_far_ok hc1 hpl hal).1
        rw [a2 165 (by decide), a2 166 (by decide), z1, z2, hq2]
        exact ⟨rfl, by rw [← hq2]; omega, rfl, by omega⟩
      · refine r_run 400 rfl rfl ?_
        refine r_ast (j := j) rfl rfl rfl (by omega) (Nat.le_of_ble_eq_true rfl) ?_
        refine r_to 84 60 rfl rfl ?_
        simp only [nI_add, Nat.reduceAdd]
        refine ih _ (fun i hi => ?_) (fun a h1 => by rw [x_up_row h1]; exact a2 a h1)
        by_cases e : i = j
        · subst e
          rw [x_up_e rfl]
          rfl
        · rw [x_up_n e]
          exact a1 i (by omega)
  refine r_to 84 60 rfl rfl ?_
  exact loop 0 (Nat.zero_le _) g (fun q hq => absurd hq (Nat.not_lt_zero _)) (fun _ _ => rfl)
