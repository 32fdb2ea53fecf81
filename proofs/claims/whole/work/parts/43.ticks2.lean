/-! ===== the reference gropes: a tick, to its end ===== -/
theorem xGet_lt {n c : Nat} {X : xX} {j p : Nat} (h : xGet n c X j = some p) : p < n ∧ xAim c X p = some j := by
  have := x_get_ok h
  exact ⟨this.1, this.2.1⟩
theorem xAim_gr {c : Nat} {X : xX} {p q : Nat} (h : xAim c X p = some q) : xGr c X p = true ∧ q = x_aim c (XK X) (XP X) p := by
  unfold xAim at h
  split at h
  · rename_i hg
    exact ⟨hg, (Option.some.inj h).symm⟩
  · cases h
theorem xSat_get {n c : Nat} {X : xX} {p q : Nat} (hc : q < c) (h : xAim c X p = some q) : xSat n c X p = decide (xGet n c X q = some p) := by
  unfold xSat
  cases hh : decide (xGet n c X q = some p) with
  | true =>
    refine x_sat_iff.mpr ⟨q, hc, ?_⟩
    exact of_decide_eq_true hh
  | false =>
    cases hs : x_sat n (xAim c X) (xFar c X) (XI X) c p with
    | false => rfl
    | true =>
      obtain ⟨j, hj, hg⟩ := x_sat_iff.mp hs
      have := (xGet_lt (X := X) hg).2
      rw [h] at this
      cases this
      exact absurd hg (of_decide_eq_false hh)
def xHt (n c : Nat) (X : xX) (p : Nat) : Bool := (xHit n c X p).isSome
def xGo (n c : Nat) (X : xX) (j : Nat) : Bool := (xGet n c X j).isSome
set_option maxHeartbeats 4000000 in
theorem k_tick4 (d t : Nat) (V : xV) (X : xX) (sa : Nat → Int32) (si : Nat → Option Nat) (inn : Nat → Bool) (ss bu ou : Nat → Int32) (ti : Nat → Nat) (R : xR) (P : Nat → Nat) (g : xG) (Q : xQ) (l2 l3 : Option Value) (h : MG (g 158) (wS V sa si inn ss bu ou ti R) P) (hk : vOkw V) (h1 : vph V = 1) (hG : ∀ p, p < vn V → (inn p && (XS X p).isNone) = xGr (vc V) X p) (hS2 : ∀ p q, XS X p = some q → q < 65536) (hs : ∀ p, p < vn V → g 164 p = x_on (XS X p)) (hA : ∀ q, q < vn V → xGr (vc V) X q = true → g 165 q = nI (x_aim (vc V) (XK X) (XP X) q)) (hT : ∀ j, j < vc V → g 168 j = x_nf (xGet (vn V) (vc V) X j)) (hK : ∀ p, p < vn V → x_mk (g 163 p) (vc V) (XK X p))
    (k : ∀ g' : xG, MG (g' 158) (wS V sa si inn ss (x_st bu (fun p => bu p + nI 1) (xHt (vn V) (vc V) X) (vn V)) ou ti R) (x_st P (fun p => x_aim (vc V) (XK X) (XP X) p) (xHt (vn V) (vc V) X) (vn V)) → (∀ p, p < vn V → x_mk (g' 163 p) (vc V) (fun j => XK X p j || decide (xHit (vn V) (vc V) X p = some j))) → (∀ a, a ≠ 158 → a ≠ 163 → g' a = g a) → Rx (d + 4) m_Md_ticks Q 157 [some (.ref 157), some (.int (nI t)), some (.int (nI (vn V))), l3] [] g') : Rx (d + 4) m_Md_ticks Q 111 [some (.ref 157), some (.int (nI t)), l2, l3] [] g := by
  obtain ⟨⟨b1, b2, b3, b4, b5, b6⟩, -, hc1, -⟩ := hk
  obtain ⟨hc1, -⟩ := hc1 h1
  have hnx : ∀ p i : Nat, ¬ i = p → decide (i < p + 1) = decide (i < p) := fun p i hi => by
    congr 1
    exact propext (by omega)
  have loop : ∀ p, p ≤ vn V → ∀ g' : xG, MG (g' 158) (wS V sa si inn ss (x_st bu (fun p => bu p + nI 1) (xHt (vn V) (vc V) X) p) ou ti R) (x_st P (fun p => x_aim (vc V) (XK X) (XP X) p) (xHt (vn V) (vc V) X) p) → (∀ q, q < vn V → x_mk (g' 163 q) (vc V) (fun j => XK X q j || (decide (q < p) && decide (xHit (vn V) (vc V) X q = some j)))) → (∀ a, a ≠ 158 → a ≠ 163 → g' a = g a) → Rx (d + 4) m_Md_ticks Q 113 [some (.ref 157), some (.int (nI t)), some (.int (nI p)), l3] [] g' := by
    refine r_for ?_ ?_
    · intro g' a1 a2 a3
      refine r_run 400 rfl rfl ?_
      refine r_ald (j := 2) rfl rfl rfl (by decide) (Nat.le_of_ble_eq_true rfl) ?_
      simp only [Nat.reduceAdd]
      rw [wS_n a1]
      refine n_ige rfl (by omega) (by omega) (fun _ => ?_) (fun h => by omega)
      exact k g' a1 (fun p hp => x_mk_congr (a2 p hp) (fun i hi => by simp [hp])) a3
    · intro p hp ih g' a1 a2 a3
      have no : xHit (vn V) (vc V) X p = none → Rx (d + 4) m_Md_ticks Q 151 [some (.ref 157), some (.int (nI t)), some (.int (nI p)), l3] [] g' := by
        intro ho
        have hh : xHt (vn V) (vc V) X p = false := by unfold xHt; rw [ho]; rfl
        refine r_to 113 60 rfl rfl ?_
        simp only [nI_add]
        refine ih g' (by rw [x_st_f hh, x_st_f hh]; exact a1) (fun q hq => x_mk_congr (a2 q hq) (fun i hi => ?_)) a3
        by_cases e : q = p
        · subst e
          simp [ho]
        · rw [hnx p q e]
      refine r_run 400 rfl rfl ?_
      refine r_ald (j := 2) rfl rfl rfl (by decide) (Nat.le_of_ble_eq_true rfl) ?_
      simp only [Nat.reduceAdd]
      rw [wS_n a1]
      refine n_ige rfl (by omega) (by omega) (fun _ => by omega) (fun _ => ?_)
      refine r_run 400 rfl rfl ?_
      refine r_inv rfl rfl rfl ?_
      refine m_gropes (d + 1) p (inn p) (XS X p) g' _ (by omega) (wS_in a1 hp) (by rw [a3 164 (by decide) (by decide)]; exact hs p hp) (hS2 p) (fun h2 h3 => ?_) (fun h2 => ?_)
      · have hg : xGr (vc V) X p = true := by rw [← hG p hp, h2, h3]; rfl
        have hai : xAim (vc V) X p = some (x_aim (vc V) (XK X) (XP X) p) := if_pos hg
        have hac := xAim_lt hc1 hai
        have hA' := hA p hp hg
        have hT' := hT _ hac
        have hsat := xSat_get (n := vn V) hac hai
        have hXh : xHit (vn V) (vc V) X p = if xSat (vn V) (vc V) X p = true then none else xAim (vc V) X p := rfl
        rw [hai] at hXh
        refine t_eq1 rfl ?_
        refine r_run 400 rfl rfl ?_
        refine r_ald (j := p) rfl rfl rfl (by omega) (Nat.le_of_ble_eq_true rfl) ?_
        simp only [Nat.reduceAdd]
        rw [a3 165 (by decide) (by decide), hA']
        refine r_ald (j := x_aim (vc V) (XK X) (XP X) p) rfl rfl rfl (by omega) (Nat.le_of_ble_eq_true rfl) ?_
        simp only [Nat.reduceAdd]
        rw [a3 168 (by decide) (by decide), hT']
        refine r_run 400 rfl rfl ?_
        refine r_ieq rfl (fun heq => ?_) (fun hne => ?_)
        · refine no ?_
          have := (x_nf_eq (by omega) (fun q hq => by have := (xGet_lt hq).1; omega)).mp heq
          rw [hXh, hsat, this]
          simp
        · have hne : ¬ xGet (vn V) (vc V) X (x_aim (vc V) (XK X) (XP X) p) = some p := fun z => hne (by rw [z]; rfl)
          have hit : xHit (vn V) (vc V) X p = some (x_aim (vc V) (XK X) (XP X) p) := by
            rw [hXh, hsat]
            simp [hne]
          have hh : xHt (vn V) (vc V) X p = true := by unfold xHt; rw [hit]; rfl
          refine r_run 400 rfl rfl ?_
          refine r_inv rfl rfl rfl ?_
          refine m_bumps (d + 2) p _ V _ _ _ _ _ _ _ _ _ g' _ a1 b5 b6 hp (by rw [a3 165 (by decide) (by decide)]; exact hA') (fun g2 c1 c2 c3 c4 => ?_)
          rw [x_st_n (Nat.le_refl _)] at c1
          have s1 : x_fu (x_st bu (fun p => bu p + nI 1) (xHt (vn V) (vc V) X) p) p (bu p + nI 1) = x_st bu (fun p => bu p + nI 1) (xHt (vn V) (vc V) X) (p + 1) := x_st_t hh
          have s2 : x_fu (x_st P (fun p => x_aim (vc V) (XK X) (XP X) p) (xHt (vn V) (vc V) X) p) p (x_aim (vc V) (XK X) (XP X) p) = x_st P (fun p => x_aim (vc V) (XK X) (XP X) p) (xHt (vn V) (vc V) X) (p + 1) := x_st_t hh
          rw [s1, s2] at c1
          refine r_to 113 60 rfl rfl ?_
          simp only [nI_add]
          refine ih g2 c1 (fun q hq => ?_) (fun a h1 h2 => by rw [c4 a h1 h2]; exact a3 a h1 h2)
          by_cases e : q = p
          · subst e
            rw [c2]
            refine x_mk_set (a2 q hq) hac b5 (fun j hj => ?_)
            rw [hit]
            simp [eq_comm]
          · rw [c3 q e]
            refine x_mk_congr (a2 q hq) (fun i hi => ?_)
            rw [hnx p q e]
      · refine t_eq0 rfl ?_
        refine no ?_
        rw [hG p hp] at h2
        have hai : xAim (vc V) X p = none := if_neg (by rw [h2]; decide)
        unfold xHit
        split
        · rfl
        · exact hai
  refine r_to 113 60 rfl rfl ?_
  exact loop 0 (Nat.zero_le _) g (by rw [x_st_0, x_st_0]; exact h) (fun q hq => x_mk_congr (hK q hq) (fun i hi => by simp)) (fun _ _ _ => rfl)
set_option maxHeartbeats 4000000 in
theorem k_tick5 (d t : Nat) (V : xV) (X : xX) (sa : Nat → Int32) (si : Nat → Option Nat) (inn : Nat → Bool) (ss bu ou : Nat → Int32) (ti : Nat → Nat) (R : xR) (P : Nat → Nat) (g : xG) (Q : xQ) (l2 l3 : Option Value) (h : MG (g 158) (wS V sa si inn ss bu ou ti R) P) (hk : vOkw V) (hT : ∀ j, j < vc V → g 168 j = x_nf (xGet (vn V) (vc V) X j)) (hs : ∀ p, p < vn V → g 164 p = x_on (XS X p)) (hi : ∀ j, j < vc V → g 167 j = x_on (XI X j))
    (k : ∀ (g' : xG) (P' : Nat → Nat), MG (g' 158) (wS V (x_st sa (fun j => sa j + nI 1) (xGo (vn V) (vc V) X) (vc V)) (x_st si (fun j => xGet (vn V) (vc V) X j) (xGo (vn V) (vc V) X) (vc V)) inn (fun p => if xSat (vn V) (vc V) X p = true then ss p + nI 1 else ss p) bu ou (fun p => if xSat (vn V) (vc V) X p = true then t else ti p) R) P' → (∀ p, xSat (vn V) (vc V) X p = false → P' p = P p) → (∀ p, p < vn V → g' 164 p = x_on (if xSat (vn V) (vc V) X p = true then xAim (vc V) X p else XS X p)) → (∀ j, j < vc V → g' 167 j = x_on (if xGo (vn V) (vc V) X j = true then xGet (vn V) (vc V) X j else XI X j)) → (∀ a, a ≠ 158 → a ≠ 164 → a ≠ 167 → g' a = g a) → Rx (d + 4) m_Md_ticks Q 196 [some (.ref 157), some (.int (nI t)), some (.int (nI (vc V))), l3] [] g') : Rx (d + 4) m_Md_ticks Q 157 [some (.ref 157), some (.int (nI t)), l2, l3] [] g := by
  obtain ⟨⟨b1, b2, b3, b4, b5, b6⟩, -⟩ := hk
  have loop : ∀ j, j ≤ vc V → ∀ (g' : xG) (P' : Nat → Nat), MG (g' 158) (wS V (x_st sa (fun j => sa j + nI 1) (xGo (vn V) (vc V) X) j) (x_st si (fun j => xGet (vn V) (vc V) X j) (xGo (vn V) (vc V) X) j) inn (fun p => if x_sat (vn V) (xAim (vc V) X) (xFar (vc V) X) (XI X) j p = true then ss p + nI 1 else ss p) bu ou (fun p => if x_sat (vn V) (xAim (vc V) X) (xFar (vc V) X) (XI X) j p = true then t else ti p) R) P' → (∀ p, x_sat (vn V) (xAim (vc V) X) (xFar (vc V) X) (XI X) j p = false → P' p = P p) → (∀ p, p < vn V → g' 164 p = x_on (if x_sat (vn V) (xAim (vc V) X) (xFar (vc V) X) (XI X) j p = true then xAim (vc V) X p else XS X p)) → (∀ i, i < vc V → g' 167 i = x_on (x_st (XI X) (fun j => xGet (vn V) (vc V) X j) (xGo (vn V) (vc V) X) j i)) → (∀ a, a ≠ 158 → a ≠ 164 → a ≠ 167 → g' a = g a) → Rx (d + 4) m_Md_ticks Q 159 [some (.ref 157), some (.int (nI t)), some (.int (nI j)), l3] [] g' := by
    refine r_for ?_ ?_
    · intro g' P' a1 a2 a3 a4 a5
      refine r_run 400 rfl rfl ?_
      refine r_ald (j := 1) rfl rfl rfl (by decide) (Nat.le_of_ble_eq_true rfl) ?_
      simp only [Nat.reduceAdd]
      rw [wS_c a1]
      refine n_ige rfl (by omega) (by omega) (fun _ => ?_) (fun h => by omega)
      exact k g' P' a1 a2 a3 (fun j hj => by rw [a4 j hj, x_st_i hj]) a5
    · intro j hj ih g' P' a1 a2 a3 a4 a5
      have hT' := hT j hj
      refine r_run 400 rfl rfl ?_
      refine r_ald (j := 1) rfl rfl rfl (by decide) (Nat.le_of_ble_eq_true rfl) ?_
      simp only [Nat.reduceAdd]
      rw [wS_c a1]
      refine n_ige rfl (by omega) (by omega) (fun _ => by omega) (fun _ => ?_)
      refine r_run 400 rfl rfl ?_
      refine r_ald (j := j) rfl rfl rfl (by omega) (Nat.le_of_ble_eq_true rfl) ?_
      simp only [Nat.reduceAdd]
      rw [a5 168 (by decide) (by decide) (by decide), hT']
      have hnext : ∀ p, x_sat (vn V) (xAim (vc V) X) (xFar (vc V) X) (XI X) (j + 1) p = (x_sat (vn V) (xAim (vc V) X) (xFar (vc V) X) (XI X) j p || decide (xGet (vn V) (vc V) X j = some p)) := fun p => x_sat_next
      cases hq : xGet (vn V) (vc V) X j with
      | none =>
        have hgo : xGo (vn V) (vc V) X j = false := by unfold xGo; rw [hq]; rfl
        have hsame : ∀ p, x_sat (vn V) (xAim (vc V) X) (xFar (vc V) X) (XI X) (j + 1) p = x_sat (vn V) (xAim (vc V) X) (xFar (vc V) X) (XI X) j p := fun p => by
          rw [hnext p, hq]
          simp
        refine r_lt0 rfl (fun _ => ?_) (fun z => absurd (show x_nf none < 0 by decide) z)
        refine r_to 159 60 rfl rfl ?_
        simp only [nI_add]
        simp only [hsame, x_st_f hgo] at ih
        exact ih g' P' a1 a2 a3 a4 a5
      | some p =>
        obtain ⟨p1, p2⟩ := xGet_lt hq
        have hgo : xGo (vn V) (vc V) X j = true := by unfold xGo; rw [hq]; rfl
        have hns : x_sat (vn V) (xAim (vc V) X) (xFar (vc V) X) (XI X) j p = false := by
          cases hh : x_sat (vn V) (xAim (vc V) X) (xFar (vc V) X) (XI X) j p with
          | false => rfl
          | true =>
            obtain ⟨i, hi1, hi2⟩ := x_sat_iff.mp hh
            have := (xGet_lt (X := X) hi2).2
            rw [p2] at this
            cases this
            omega
        have hsp : x_sat (vn V) (xAim (vc V) X) (xFar (vc V) X) (XI X) (j + 1) p = true := by
          rw [hnext p, hq]
          simp
        have hsq : ∀ q, ¬ q = p → x_sat (vn V) (xAim (vc V) X) (xFar (vc V) X) (XI X) (j + 1) q = x_sat (vn V) (xAim (vc V) X) (xFar (vc V) X) (XI X) j q := fun q hne => by
          rw [hnext q, hq]
          have : decide (some p = some q) = false := by simpa using fun z => hne z.symm
          rw [this, Bool.or_false]
        refine r_lt0 rfl (fun z => absurd z (nI_pos (by omega))) (fun _ => ?_)
        refine r_run 400 rfl rfl ?_
        refine r_ald (j := j) rfl rfl rfl (by omega) (Nat.le_of_ble_eq_true rfl) ?_
        simp only [Nat.reduceAdd]
        rw [a5 168 (by decide) (by decide) (by decide), hT', hq]
        refine r_run 400 rfl rfl ?_
        refine r_inv rfl rfl rfl ?_
        refine m_sitsDown (d + 2) p j t V _ _ _ _ _ _ _ _ _ g' _ a1 b5 b6 p1 hj (fun g2 c1 c2 c3 c4 c5 c6 => ?_)
        rw [x_st_n (Nat.le_refl _), hns, if_neg (show ¬ false = true by decide)] at c1
        have s1 : x_fu (x_st sa (fun j => sa j + nI 1) (xGo (vn V) (vc V) X) j) j (sa j + nI 1) = x_st sa (fun j => sa j + nI 1) (xGo (vn V) (vc V) X) (j + 1) := x_st_t hgo
        have s2 : x_fu (x_st si (fun j => xGet (vn V) (vc V) X j) (xGo (vn V) (vc V) X) j) j (some p) = x_st si (fun j => xGet (vn V) (vc V) X j) (xGo (vn V) (vc V) X) (j + 1) := by
          rw [← hq]
          exact x_st_t hgo
        have s3 : x_fu (fun p => if x_sat (vn V) (xAim (vc V) X) (xFar (vc V) X) (XI X) j p = true then ss p + nI 1 else ss p) p (ss p + nI 1) = (fun p => if x_sat (vn V) (xAim (vc V) X) (xFar (vc V) X) (XI X) (j + 1) p = true then ss p + nI 1 else ss p) := by
          funext q
          unfold x_fu
          by_cases e : q = p
          · subst e
            rw [if_pos rfl, if_pos hsp]
          · rw [if_neg e, hsq q e]
        have s4 : x_fu (fun p => if x_sat (vn V) (xAim (vc V) X) (xFar (vc V) X) (XI X) j p = true then t else ti p) p t = (fun p => if x_sat (vn V) (xAim (vc V) X) (xFar (vc V) X) (XI X) (j + 1) p = true then t else ti p) := by
          funext q
          unfold x_fu
          by_cases e : q = p
          · subst e
            rw [if_pos rfl, if_pos hsp]
          · rw [if_neg e, hsq q e]
        rw [s1, s2, s3, s4] at c1
        refine r_to 159 60 rfl rfl ?_
        simp only [nI_add]
        refine ih g2 _ c1 (fun q hs => ?_) (fun q hqn => ?_) (fun i hin => ?_) (fun a h1 h2 h3 => by rw [c6 a h1 h2 h3]; exact a5 a h1 h2 h3)
        · have e : ¬ q = p := fun e => by rw [e, hsp] at hs; cases hs
          rw [x_fu_n e]
          rw [hsq q e] at hs
          exact a2 q hs
        · by_cases e : q = p
          · subst e
            rw [c2, if_pos hsp, p2]
            rfl
          · rw [c3 q e, hsq q e]
            exact a3 q hqn
        · by_cases e : i = j
          · subst e
            rw [c4, x_st_i (Nat.lt_succ_self _), if_pos hgo, hq]
            rfl
          · rw [c5 i e, a4 i hin, ← x_st_t (f := XI X) (g := fun j => xGet (vn V) (vc V) X j) hgo, x_fu_n e]
  refine r_to 159 60 rfl rfl ?_
  have hs0 : ∀ p, x_sat (vn V) (xAim (vc V) X) (xFar (vc V) X) (XI X) 0 p = false := fun p => by
    cases hh : x_sat (vn V) (xAim (vc V) X) (xFar (vc V) X) (XI X) 0 p with
    | false => rfl
    | true =>
      obtain ⟨i, hi1, hi2⟩ := x_sat_iff.mp hh
      omega
  have ini := loop 0 (Nat.zero_le _) g P
  simp only [hs0, x_st_0, if_neg (show ¬ false = true by decide)] at ini
  exact ini h (fun _ _ => by first | trivial | rfl) hs hi (fun _ _ _ _ => by first | trivial | rfl)
set_option maxHeartbeats 4000000 in
theorem k_tick6 (d t : Nat) (V : xV) (X : xX) (sa : Nat → Int32) (si : Nat → Option Nat) (inn : Nat → Bool) (ss bu ou : Nat → Int32) (ti : Nat → Nat) (R : xR) (P : Nat → Nat) (K : Nat → Nat → Bool) (g : xG) (Q : xQ) (l2 l3 : Option Value) (h : MG (g 158) (wS V sa si inn ss bu ou ti R) P) (hk : vOkw V) (hT : ∀ j, j < vc V → g 168 j = x_nf (xGet (vn V) (vc V) X j)) (hK : ∀ p, p < vn V → x_mk (g 163 p) (vc V) (K p))
    (k : ∀ g' : xG, MG (g' 158) (wS V sa si inn ss bu ou ti (x_rk (fun j => x_e5 (vrd V + nI 1) (nI t) (nI j) (nI (vtn V j)) (g 167 j)) (xGo (vn V) (vc V) X) (vc V) R)) P → (∀ p, p < vn V → x_mk (g' 163 p) (vc V) (fun j => K p j || (xGo (vn V) (vc V) X j && vhr V p j))) → (∀ a, a ≠ 158 → a ≠ 163 → g' a = g a) → Rx (d + 4) m_Md_ticks Q 229 [some (.ref 157), some (.int (nI t)), some (.int (nI (vc V))), l3] [] g') : Rx (d + 4) m_Md_ticks Q 196 [some (.ref 157), some (.int (nI t)), l2, l3] [] g := by
  have hk0 := hk
  obtain ⟨⟨b1, b2, b3, b4, b5, b6⟩, -⟩ := hk
  have loop : ∀ j, j ≤ vc V → ∀ g' : xG, MG (g' 158) (wS V sa si inn ss bu ou ti (x_rk (fun j => x_e5 (vrd V + nI 1) (nI t) (nI j) (nI (vtn V j)) (g 167 j)) (xGo (vn V) (vc V) X) j R)) P → (∀ p, p < vn V → x_mk (g' 163 p) (vc V) (fun i => K p i || (decide (i < j) && (xGo (vn V) (vc V) X i && vhr V p i)))) → (∀ a, a ≠ 158 → a ≠ 163 → g' a = g a) → Rx (d + 4) m_Md_ticks Q 198 [some (.ref 157), some (.int (nI t)), some (.int (nI j)), l3] [] g' := by
    refine r_for ?_ ?_
    · intro g' a1 a2 a3
      refine r_run 400 rfl rfl ?_
      refine r_ald (j := 1) rfl rfl rfl (by decide) (Nat.le_of_ble_eq_true rfl) ?_
      simp only [Nat.reduceAdd]
      rw [wS_c a1]
      refine n_ige rfl (by omega) (by omega) (fun _ => ?_) (fun h => by omega)
      exact k g' a1 (fun p hp => x_mk_congr (a2 p hp) (fun i hi => by simp [hi])) a3
    · intro j hj ih g' a1 a2 a3
      have hT' := hT j hj
      have hnx : ∀ i, ¬ i = j → decide (i < j + 1) = decide (i < j) := fun i hi => by
        congr 1
        exact propext (by omega)
      have hrk : x_rk (fun j => x_e5 (vrd V + nI 1) (nI t) (nI j) (nI (vtn V j)) (g 167 j)) (xGo (vn V) (vc V) X) (j + 1) R = if xGo (vn V) (vc V) X j = true then x_r1 (x_e5 (vrd V + nI 1) (nI t) (nI j) (nI (vtn V j)) (g 167 j)) (x_rk (fun j => x_e5 (vrd V + nI 1) (nI t) (nI j) (nI (vtn V j)) (g 167 j)) (xGo (vn V) (vc V) X) j R) else x_rk (fun j => x_e5 (vrd V + nI 1) (nI t) (nI j) (nI (vtn V j)) (g 167 j)) (xGo (vn V) (vc V) X) j R := rfl
      refine r_run 400 rfl rfl ?_
      refine r_ald (j := 1) rfl rfl rfl (by decide) (Nat.le_of_ble_eq_true rfl) ?_
      simp only [Nat.reduceAdd]
      rw [wS_c a1]
      refine n_ige rfl (by omega) (by omega) (fun _ => by omega) (fun _ => ?_)
      refine r_run 400 rfl rfl ?_
      refine r_ald (j := j) rfl rfl rfl (by omega) (Nat.le_of_ble_eq_true rfl) ?_
      simp only [Nat.reduceAdd]
      rw [a3 168 (by decide) (by decide), hT']
      cases hq : xGet (vn V) (vc V) X j with
      | none =>
        have hgo : xGo (vn V) (vc V) X j = false := by unfold xGo; rw [hq]; rfl
        rw [hgo, if_neg (show ¬ false = true by decide)] at hrk
        refine r_lt0 rfl (fun _ => ?_) (fun z => absurd (show x_nf none < 0 by decide) z)
        refine r_to 198 60 rfl rfl ?_
        simp only [nI_add]
        refine ih g' (by rw [hrk]; exact a1) (fun p hp => x_mk_congr (a2 p hp) (fun i hi => ?_)) a3
        by_cases e : i = j
        · subst e
          simp [hgo]
        · rw [hnx i e]
      | some p =>
        obtain ⟨p1, p2⟩ := xGet_lt hq
        have hgo : xGo (vn V) (vc V) X j = true := by unfold xGo; rw [hq]; rfl
        rw [hgo, if_pos rfl] at hrk
        refine r_lt0 rfl (fun z => absurd z (nI_pos (by omega))) (fun _ => ?_)
        refine r_run 400 rfl rfl ?_
        refine r_inv rfl rfl rfl ?_
        refine m_rings (d + 1) j t V _ _ _ _ _ _ _ _ _ _ g' _ a1 hk0 hj a2 (fun g2 c1 c2 c3 => ?_)
        refine r_to 198 60 rfl rfl ?_
        simp only [nI_add]
        refine ih g2 ?_ (fun q hqn => x_mk_congr (c2 q hqn) (fun i hi => ?_)) (fun a h1 h2 => by rw [c3 a h1 h2]; exact a3 a h1 h2)
        · rw [a3 167 (by decide) (by decide)] at c1
          rw [hrk]
          exact c1
        · by_cases e : i = j
          · subst e
            simp [hgo]
          · rw [hnx i e]
            simp [e]
  refine r_to 198 60 rfl rfl ?_
  exact loop 0 (Nat.zero_le _) g h (fun p hp => x_mk_congr (hK p hp) (fun i hi => by simp)) (fun _ _ _ => rfl)
set_option maxHeartbeats 4000000 in
theorem k_tick7 (d t : Nat) (V : xV) (sa : Nat → Int32) (si : Nat → Option Nat) (inn : Nat → Bool) (ss bu ou : Nat → Int32) (ti : Nat → Nat) (R : xR) (P : Nat → Nat) (S : Nat → Option Nat) (G : Nat → Bool) (g : xG) (Q : xQ) (l2 l3 : Option Value) (h : MG (g 158) (wS V sa si inn ss bu ou ti R) P) (hk : vOkw V) (hs : ∀ p, p < vn V → g 164 p = x_on (S p)) (hS2 : ∀ p q, S p = some q → q < 65536) (hG : ∀ p, p < vn V → G p = (inn p && (S p).isNone))
    (k : Q (some (.int (x_b (x_ex G (vn V))))) g) : Rx (d + 4) m_Md_ticks Q 229 [some (.ref 157), some (.int (nI t)), l2, l3] [] g := by
  obtain ⟨⟨b1, b2, b3, b4, b5, b6⟩, -⟩ := hk
  have loop : ∀ p, p ≤ vn V → Rx (d + 4) m_Md_ticks Q 233 [some (.ref 157), some (.int (nI t)), some (.int (x_b (x_ex G p))), some (.int (nI p))] [] g := by
    refine r_for ?_ ?_
    · refine r_run 400 rfl rfl ?_
      refine r_ald (j := 2) rfl rfl rfl (by decide) (Nat.le_of_ble_eq_true rfl) ?_
      simp only [Nat.reduceAdd]
      rw [wS_n h]
      refine n_ige rfl (by omega) (by omega) (fun _ => ?_) (fun h => by omega)
      refine r_run 400 rfl rfl ?_
      refine r_zret rfl rfl ?_ k
      cases x_ex G (vn V) <;> decide
    · intro p hp ih
      have hx : x_ex G (p + 1) = (x_ex G p || G p) := rfl
      have fin : ∀ v : Int32, v = x_b (x_ex G p || G p) → Rx (d + 4) m_Md_ticks Q 260 [some (.ref 157), some (.int (nI t)), some (.int (x_b (x_ex G p))), some (.int (nI p))] [.int v] g := by
        intro v hv
        subst hv
        refine r_to 233 60 rfl rfl ?_
        simp only [nI_add]
        rw [hx] at ih
        exact ih
      refine r_run 400 rfl rfl ?_
      refine r_ald (j := 2) rfl rfl rfl (by decide) (Nat.le_of_ble_eq_true rfl) ?_
      simp only [Nat.reduceAdd]
      rw [wS_n h]
      refine n_ige rfl (by omega) (by omega) (fun _ => by omega) (fun _ => ?_)
      refine r_run 400 rfl rfl ?_
      cases hb : x_ex G p with
      | true =>
        rw [hb] at fin
        refine t_ne1 rfl ?_
        refine r_to 260 60 rfl rfl ?_
        exact fin _ rfl
      | false =>
        rw [hb] at fin
        refine t_ne0 rfl ?_
        refine r_run 400 rfl rfl ?_
        refine r_inv rfl rfl rfl ?_
        refine m_gropes (d + 1) p (inn p) (S p) g _ (by omega) (wS_in h hp) (hs p hp) (hS2 p) (fun h2 h3 => ?_) (fun h2 => ?_)
        · refine t_eq1 rfl ?_
          refine r_to 260 60 rfl rfl ?_
          refine fin _ ?_
          rw [hG p hp, h2, h3]
          rfl
        · refine t_eq0 rfl ?_
          refine r_to 260 60 rfl rfl ?_
          refine fin _ ?_
          rw [hG p hp, h2]
          rfl
  refine r_to 233 60 rfl rfl ?_
  exact loop 0 (Nat.zero_le _)
