/-! ===== what holds of every state beside: counts agree ===== -/
def vJ (V : xV) (m : Nat) : Prop :=
  iN (vrd V) ≤ m ∧
  (∀ p, p < vn V → iN (vss V p) ≤ m) ∧
  (∀ j, j < vc V → iN (vsa V j) ≤ m) ∧
  (∀ p, p < vn V → vin V p = false → 1 ≤ iN (vou V p) ∧ iN (vou V p) ≤ iN (vrd V) ∧ 2 ≤ vti V p) ∧
  (∀ p, p < vn V → vti V p = 0 → vin V p = true ∧ vss V p = nI 0) ∧
  (∀ j q, j < vc V → vsi V j = some q → ¬ vph V = 1 ∧ q < vn V ∧ vin V q = true ∧ 1 ≤ iN (vsa V j)) ∧
  ((vR V).1 ≤ x_ns (fun p => iN (vss V p)) (vn V) ∧ (vR V).1 ≤ 12) ∧
  (∀ k, k < (vR V).1 → 1 ≤ iN ((vR V).2 k 0) ∧ iN ((vR V).2 k 0) ≤ iN (vrd V) ∧ 1 ≤ iN ((vR V).2 k 1) ∧ iN ((vR V).2 k 1) ≤ 17 ∧ iN ((vR V).2 k 2) < 16 ∧ iN ((vR V).2 k 4) < vn V) ∧
  vlo V = nI (vn V) - nI (x_cnt (vin V) (vn V)) ∧
  (vph V = 2 → x_cnt (vin V) (vn V) ≤ 1)
theorem iN_0 : iN (nI 0) = 0 := rfl
theorem iN_1 {x : Int32} {m : Nat} (h : iN x ≤ m) (hm : m < 2000000000) : iN (x + nI 1) = iN x + 1 := by
  have e : x + nI 1 = nI (iN x + 1) := by
    conv => lhs; rw [← nI_iN x]
    rw [nI_add]
  rw [e]
  exact iN_nI (by omega)
theorem vJ_le {V : xV} {m k : Nat} (h : vJ V m) (hm : m ≤ k) : vJ V k := by
  obtain ⟨h1, h2, h3, h4⟩ := h
  exact ⟨by omega, fun p hp => Nat.le_trans (h2 p hp) hm, fun p hp => Nat.le_trans (h3 p hp) hm, h4⟩
theorem vJ_0 : vJ v0 0 := ⟨Nat.le_refl _, fun p hp => absurd hp (Nat.not_lt_zero _), fun p hp => absurd hp (Nat.not_lt_zero _), fun p hp => absurd hp (Nat.not_lt_zero _), fun p hp => absurd hp (Nat.not_lt_zero _), fun j q hp => absurd hp (Nat.not_lt_zero _), ⟨Nat.zero_le _, Nat.zero_le _⟩, fun p hp => absurd hp (Nat.not_lt_zero _), rfl, fun h => absurd h (by decide)⟩
theorem vJ_chair {V : xV} {m t : Nat} (h : vJ V m) (h0 : vph V = 0) : vJ (vChair V t) m := by
  obtain ⟨a1, a2, a3, a4, a5, a6, a7, a8, a9, a10⟩ := h
  refine ⟨a1, a2, fun j hj => ?_, a4, a5, fun j q hj hq => ?_, a7, a8, a9, a10⟩
  · have hj : j < vc V + 1 := hj
    show iN (if j = vc V then nI 0 else vsa V j) ≤ m
    split
    · exact Nat.zero_le _
    · exact a3 j (by omega)
  · have hj : j < vc V + 1 := hj
    have hq : (if j = vc V then none else vsi V j) = some q := hq
    show ¬ vph V = 1 ∧ q < vn V ∧ vin V q = true ∧ 1 ≤ iN (if j = vc V then nI 0 else vsa V j)
    split at hq
    · cases hq
    · rename_i hne
      rw [if_neg hne]
      exact a6 j q (by omega) hq
theorem vJ_player {V : xV} {m s e : Nat} (h : vJ V m) (h0 : vph V = 0) : vJ (vPlayer V s e) m := by
  obtain ⟨a1, a2, a3, a4, a5, a6, a7, a8, a9, a10⟩ := h
  have hcnt : x_cnt (fun p => if p = vn V then true else vin V p) (vn V + 1) = x_cnt (vin V) (vn V) + 1 := by
    show x_cnt _ (vn V) + (if (if vn V = vn V then true else vin V (vn V)) = true then 1 else 0) = _
    rw [if_pos rfl, if_pos rfl, x_cnt_congr (f' := vin V) (vn V) (fun i hi => by rw [if_neg (by omega)])]
  refine ⟨a1, fun p hp => ?_, a3, fun p hp hin => ?_, fun p hp ht => ?_, fun j q hj hq => ?_, ⟨?_, a7.2⟩, fun k hk => ?_, ?_, fun h2 => ?_⟩
  · have hp : p < vn V + 1 := hp
    show iN (if p = vn V then nI 0 else vss V p) ≤ m
    split
    · exact Nat.zero_le _
    · exact a2 p (by omega)
  · have hp : p < vn V + 1 := hp
    have hin : (if p = vn V then true else vin V p) = false := hin
    show 1 ≤ iN (if p = vn V then nI 0 else vou V p) ∧ iN (if p = vn V then nI 0 else vou V p) ≤ iN (vrd V) ∧ 2 ≤ (if p = vn V then 0 else vti V p)
    by_cases e : p = vn V
    · rw [if_pos e] at hin; cases hin
    · rw [if_neg e] at hin
      rw [if_neg e, if_neg e]
      exact a4 p (by omega) hin
  · have hp : p < vn V + 1 := hp
    have ht : (if p = vn V then 0 else vti V p) = 0 := ht
    show (if p = vn V then true else vin V p) = true ∧ (if p = vn V then nI 0 else vss V p) = nI 0
    by_cases e : p = vn V
    · rw [if_pos e, if_pos e]; exact ⟨rfl, rfl⟩
    · rw [if_neg e] at ht
      rw [if_neg e, if_neg e]
      exact a5 p (by omega) ht
  · obtain ⟨b1, b2, b3, b4⟩ := a6 j q hj hq
    refine ⟨b1, Nat.lt_succ_of_lt b2, ?_, b4⟩
    show (if q = vn V then true else vin V q) = true
    rw [if_neg (by omega)]
    exact b3
  · show (vR V).1 ≤ x_ns (fun p => iN (if p = vn V then nI 0 else vss V p)) (vn V) + iN (if vn V = vn V then nI 0 else vss V (vn V))
    rw [x_ns_congr (g := fun p => iN (vss V p)) (vn V) (fun i hi => by rw [if_neg (by omega)])]
    exact Nat.le_trans a7.1 (Nat.le_add_right _ _)
  · obtain ⟨b1, b2, b3, b4, b5, b6⟩ := a8 k hk
    exact ⟨b1, b2, b3, b4, b5, Nat.lt_succ_of_lt b6⟩
  · show vlo V = nI (vn V + 1) - nI (x_cnt (fun p => if p = vn V then true else vin V p) (vn V + 1))
    rw [hcnt, a9, ← nI_add, ← nI_add]
    generalize nI (vn V) = x
    generalize nI (x_cnt (vin V) (vn V)) = y
    have : x + nI 1 - (y + nI 1) = x - y := by
      rw [Int32.sub_eq_add_neg, Int32.sub_eq_add_neg, Int32.neg_add, Int32.sub_eq_add_neg, ← Int32.add_assoc, Int32.add_assoc x, Int32.add_comm (nI 1), ← Int32.add_assoc, Int32.add_assoc, Int32.add_right_neg, Int32.add_zero]
    exact this.symm
  · rw [show vph (vPlayer V s e) = vph V from rfl, h0] at h2
    cases h2
theorem vJ_start {V : xV} {m : Nat} (h : vJ V m) : vJ (vStart V) m := by
  obtain ⟨a1, a2, a3, a4, a5, a6, a7, a8, a9, a10⟩ := h
  exact ⟨a1, a2, a3, a4, a5, fun j q _ (hq : (none : Option Nat) = some q) => (by cases hq), a7, a8, a9, fun (z : (1 : Nat) = 2) => absurd z (by decide)⟩
theorem vJ_tk1 {V : xV} {m : Nat} (h : vJ V m) : vJ (vTk1 V) m := by
  obtain ⟨a1, a2, a3, a4, a5, a6, a7, a8, a9, a10⟩ := h
  refine ⟨a1, a2, fun j hj => ?_, a4, a5, fun j q hj hq => ?_, a7, a8, a9, a10⟩
  · have hj : j < vc V - 1 := hj
    show iN (if j < x_mw (vsa V) (vc V - 1) then vsa V j else vsa V (j + 1)) ≤ m
    split
    · exact a3 j (by omega)
    · exact a3 (j + 1) (by omega)
  · have hj : j < vc V - 1 := hj
    have hq : (if j < x_mw (vsa V) (vc V - 1) then vsi V j else vsi V (j + 1)) = some q := hq
    show ¬ vph V = 1 ∧ q < vn V ∧ vin V q = true ∧ 1 ≤ iN (if j < x_mw (vsa V) (vc V - 1) then vsa V j else vsa V (j + 1))
    split at hq
    · rename_i hw
      rw [if_pos hw]
      exact a6 j q (by omega) hq
    · rename_i hw
      rw [if_neg hw]
      exact a6 (j + 1) q (by omega) hq
theorem vJ_tk {m : Nat} : ∀ (k : Nat) {V : xV}, vJ V m → vJ (vTk k V) m
  | 0, _, h => h
  | k + 1, _, h => vJ_tk k (vJ_tk1 h)
/-! the rings -/
theorem x_rj_all {P : (Nat → Int32) → Prop} {E : Nat → Nat → Int32} {W : Nat → Nat} {t : Nat} {b : xR} (hb : ∀ k, k < b.1 → P (b.2 k)) : ∀ c, (∀ j, j < c → W j = t → P (E j)) → ∀ k, k < (x_rj E W t c b).1 → P ((x_rj E W t c b).2 k)
  | 0, _ => hb
  | c + 1, hE => by
    have ih := x_rj_all hb c (fun j hj => hE j (by omega))
    unfold x_rj
    split
    · rename_i hw
      intro k hk
      have hk : k < min ((x_rj E W t c b).1 + 1) 12 := hk
      show P (fun w => if k = 0 then E c w else (x_rj E W t c b).2 (k - 1) w)
      by_cases e : k = 0
      · have : (fun w => if k = 0 then E c w else (x_rj E W t c b).2 (k - 1) w) = E c := funext fun w => if_pos e
        rw [this]
        exact hE c (by omega) hw
      · have : (fun w => if k = 0 then E c w else (x_rj E W t c b).2 (k - 1) w) = (x_rj E W t c b).2 (k - 1) := funext fun w => if_neg e
        rw [this]
        exact ih (k - 1) (by omega)
    · exact ih
theorem x_rj_len {E : Nat → Nat → Int32} {W : Nat → Nat} {t : Nat} {b : xR} : ∀ c, (x_rj E W t c b).1 ≤ b.1 + x_cnt (fun j => decide (W j = t)) c
  | 0 => Nat.le_refl _
  | c + 1 => by
    have ih := x_rj_len (E := E) (W := W) (t := t) (b := b) c
    unfold x_rj
    show _ ≤ b.1 + (x_cnt (fun j => decide (W j = t)) c + if decide (W c = t) = true then 1 else 0)
    split
    · rename_i hw
      rw [if_pos (decide_eq_true hw)]
      show min ((x_rj E W t c b).1 + 1) 12 ≤ _
      omega
    · omega
theorem x_rt_all {P : (Nat → Int32) → Prop} {E : Nat → Nat → Nat → Int32} {W : Nat → Nat} {c : Nat} {b : xR} (hb : ∀ k, k < b.1 → P (b.2 k)) : ∀ t, (∀ u j, 1 ≤ u → u ≤ t → j < c → W j = u → P (E u j)) → ∀ k, k < (x_rt E W c t b).1 → P ((x_rt E W c t b).2 k)
  | 0, _ => hb
  | t + 1, hE => x_rj_all (x_rt_all hb t (fun u j h1 h2 => hE u j h1 (by omega))) c (fun j hj hw => hE (t + 1) j (by omega) (Nat.le_refl _) hj hw)
theorem x_rt_len {E : Nat → Nat → Nat → Int32} {W : Nat → Nat} {c : Nat} {b : xR} : ∀ t, (x_rt E W c t b).1 ≤ b.1 + x_cnt (fun j => decide (1 ≤ W j ∧ W j ≤ t)) c
  | 0 => Nat.le_add_right _ _
  | t + 1 => by
    have h1 := x_rt_len (E := E) (W := W) (c := c) (b := b) t
    have h2 := x_rj_len (E := E (t + 1)) (W := W) (t := t + 1) (b := x_rt E W c t b) c
    have h3 : x_cnt (fun j => decide (1 ≤ W j ∧ W j ≤ t + 1)) c = x_cnt (fun j => decide (1 ≤ W j ∧ W j ≤ t)) c + x_cnt (fun j => decide (W j = t + 1)) c := x_cnt_sum c (fun i _ => by
      simp only [decide_eq_true_eq]
      omega)
    show (x_rj (E (t + 1)) W (t + 1) c (x_rt E W c t b)).1 ≤ _
    omega
theorem x_rj_12 {E : Nat → Nat → Int32} {W : Nat → Nat} {t : Nat} {b : xR} (hb : b.1 ≤ 12) : ∀ c, (x_rj E W t c b).1 ≤ 12
  | 0 => hb
  | c + 1 => by
    unfold x_rj
    split
    · exact Nat.min_le_right _ _
    · exact x_rj_12 hb c
theorem x_rt_12 {E : Nat → Nat → Nat → Int32} {W : Nat → Nat} {c : Nat} {b : xR} (hb : b.1 ≤ 12) : ∀ t, (x_rt E W c t b).1 ≤ 12
  | 0 => hb
  | t + 1 => x_rj_12 (x_rt_12 hb t) c
/-! the music's end, of a state -/
theorem vGE {V : xV} {b : Nat} (hk : vOk V) (h1 : vph V = 1) : gI (vn V) (vc V) (vTT V b) (vin V) (vX V b (vTT V b)) ∧ (∀ p, p < vn V → XG (vX V b (vTT V b)) p = false) ∧ (∀ j, j < vc V → (XI (vX V b (vTT V b)) j).isSome = true) ∧ x_cnt (fun p => vin V p && (XS (vX V b (vTT V b)) p).isSome) (vn V) = vc V ∧ x_cnt (XO (vX V b (vTT V b))) (vn V) + vc V = x_cnt (vin V) (vn V) ∧ ∀ p, p < vn V → vin V p = true → (XO (vX V b (vTT V b)) p = true ↔ XS (vX V b (vTT V b)) p = none) := by
  obtain ⟨hc1, hc2⟩ := hk.2.2.1 h1
  have hT := vT_ex (V := V) (b := b) hc1 hk.1.2.2.2.2.1
  have hg := vgI (V := V) (b := b) hc1 (vTT V b)
  exact ⟨hg, hT.2.1, gE hg hT.2.1 hc2⟩
theorem vTT_le {V : xV} {b : Nat} (hk : vOk V) (h1 : vph V = 1) : vTT V b ≤ vc V + 1 := by
  obtain ⟨hc1, hc2⟩ := hk.2.2.1 h1
  have hT := vT_ex (V := V) (b := b) hc1 hk.1.2.2.2.2.1
  apply Nat.le_of_not_lt
  intro z
  obtain ⟨p, hp, hg⟩ := hT.2.2 (vc V + 1) z
  have := (xEnd hc1 (vIv0 hc1) (vc V + 1) p hp hg).2 (by omega)
  omega
set_option maxHeartbeats 4000000 in
theorem vJ_end {V : xV} {m ph : Nat} (h : vJ V m) (hk : vOk V) (h1 : vph V = 1) (hm : m < 1000000) (hph : ¬ ph = 1) (h2 : ph = 2 → x_cnt (vIn V (vTT V 0)) (vn V) ≤ 1) : vJ (vEnd V (vTT V 0) ph) (m + 1) := by
  obtain ⟨a1, a2, a3, a4, a5, a6, a7, a8, a9, a10⟩ := h
  obtain ⟨⟨b1, b2, b3, b4, b5, b6, b7, b8, b9⟩, hG, hI, hS, hO, hd⟩ := vGE (b := 0) hk h1
  have hT17 : vTT V 0 ≤ 17 := (vT_ex (b := 0) (hk.2.2.1 h1).1 hk.1.2.2.2.2.1).1
  have hc16 := hk.1.2.2.2.2.1
  have er : iN (vrd V + nI 1) = iN (vrd V) + 1 := iN_1 a1 (by omega)
  have hnone : ∀ j, j < vc V → vsi V j = none := fun j hj => by
    cases hz : vsi V j with
    | none => rfl
    | some q => exact absurd h1 (a6 j q hj hz).1
  refine ⟨?_, fun p hp => ?_, fun j hj => ?_, fun p hp hin => ?_, fun p hp ht => ?_, fun j q hj hq => ?_, ⟨?_, x_rt_12 a7.2 _⟩, ?_, ?_, h2⟩
  · show iN (vrd V + nI 1) ≤ m + 1
    omega
  · show iN (if vIn V (vTT V 0) p = true then vss V p + nI 1 else vss V p) ≤ m + 1
    have := a2 p hp
    split
    · rw [iN_1 this (by omega)]
      omega
    · omega
  · show iN (if 1 ≤ XW (vX V 0 (vTT V 0)) j ∧ XW (vX V 0 (vTT V 0)) j ≤ vTT V 0 then vsa V j + nI 1 else vsa V j) ≤ m + 1
    have := a3 j hj
    split
    · rw [iN_1 this (by omega)]
      omega
    · omega
  · have hin : (vin V p && (XS (vX V 0 (vTT V 0)) p).isSome) = false := hin
    show 1 ≤ iN (if (vin V p && (XS (vX V 0 (vTT V 0)) p).isNone) = true then vrd V + nI 1 else vou V p) ∧ iN (if (vin V p && (XS (vX V 0 (vTT V 0)) p).isNone) = true then vrd V + nI 1 else vou V p) ≤ iN (vrd V + nI 1) ∧ 2 ≤ (if vin V p = true then XT (vX V 0 (vTT V 0)) p else vti V p)
    cases hi : vin V p with
    | true =>
      rw [hi, Bool.true_and] at hin
      have hs : XS (vX V 0 (vTT V 0)) p = none := by
        cases hz : XS (vX V 0 (vTT V 0)) p with
        | none => rfl
        | some q => rw [hz] at hin; cases hin
      have ho := (hd p hp hi).mpr hs
      rw [hs]
      refine ⟨?_, ?_, ?_⟩
      · rw [if_pos (by rfl), er]
        omega
      · rw [if_pos (by rfl)]
        exact Nat.le_refl _
      · rw [if_pos rfl]
        exact (b2 p hp ho).2.2.2
    | false =>
      obtain ⟨c1, c2, c3⟩ := a4 p hp hi
      rw [Bool.false_and, if_neg (by decide), if_neg (by decide), er]
      exact ⟨c1, by omega, c3⟩
  · have ht : (if vin V p = true then XT (vX V 0 (vTT V 0)) p else vti V p) = 0 := ht
    exfalso
    cases hi : vin V p with
    | true =>
      rw [if_pos hi] at ht
      cases hz : XS (vX V 0 (vTT V 0)) p with
      | none =>
        have := (b2 p hp ((hd p hp hi).mpr hz)).2.2.2
        omega
      | some q =>
        have := (b3 p q hp hz).2.2.2
        omega
    | false =>
      rw [if_neg (by rw [hi]; decide)] at ht
      rw [(a5 p hp ht).1] at hi
      cases hi
  · have hq : (if 1 ≤ XW (vX V 0 (vTT V 0)) j ∧ XW (vX V 0 (vTT V 0)) j ≤ vTT V 0 then XI (vX V 0 (vTT V 0)) j else vsi V j) = some q := hq
    show ¬ ph = 1 ∧ q < vn V ∧ (vin V q && (XS (vX V 0 (vTT V 0)) q).isSome) = true ∧ 1 ≤ iN (if 1 ≤ XW (vX V 0 (vTT V 0)) j ∧ XW (vX V 0 (vTT V 0)) j ≤ vTT V 0 then vsa V j + nI 1 else vsa V j)
    by_cases hw : 1 ≤ XW (vX V 0 (vTT V 0)) j ∧ XW (vX V 0 (vTT V 0)) j ≤ vTT V 0
    · rw [if_pos hw] at hq
      obtain ⟨c1, c2⟩ := b5 j q hj hq
      refine ⟨hph, c1, ?_, ?_⟩
      · rw [(b3 q j c1 c2).1, c2]
        rfl
      · rw [if_pos hw, iN_1 (a3 j hj) (by omega)]
        omega
    · rw [if_neg hw, hnone j hj] at hq
      cases hq
  · show (x_rt _ (XW (vX V 0 (vTT V 0))) (vc V) (vTT V 0) (vR V)).1 ≤ x_ns (fun p => iN (if vIn V (vTT V 0) p = true then vss V p + nI 1 else vss V p)) (vn V)
    have e1 : x_ns (fun p => iN (if vIn V (vTT V 0) p = true then vss V p + nI 1 else vss V p)) (vn V) = x_ns (fun p => iN (vss V p)) (vn V) + vc V := by
      rw [← hS, x_cnt_ns, ← x_ns_add]
      refine x_ns_congr (vn V) (fun p hp => ?_)
      show iN (if (vin V p && (XS (vX V 0 (vTT V 0)) p).isSome) = true then vss V p + nI 1 else vss V p) = _
      split
      · rw [iN_1 (a2 p hp) (by omega)]
      · rfl
    rw [e1]
    refine Nat.le_trans (x_rt_len _) ?_
    have := x_cnt_le (fun j => decide (1 ≤ XW (vX V 0 (vTT V 0)) j ∧ XW (vX V 0 (vTT V 0)) j ≤ vTT V 0)) (vc V)
    have := a7.1
    omega
  · refine x_rt_all (P := fun e => 1 ≤ iN (e 0) ∧ iN (e 0) ≤ iN (vrd V + nI 1) ∧ 1 ≤ iN (e 1) ∧ iN (e 1) ≤ 17 ∧ iN (e 2) < 16 ∧ iN (e 4) < vn V) (fun k hk => ?_) _ (fun u j hu1 hu2 hj hw => ?_)
    · obtain ⟨c1, c2, c3⟩ := a8 k hk
      exact ⟨c1, by rw [er]; omega, c3⟩
    · obtain ⟨q, hq⟩ := Option.isSome_iff_exists.mp (hI j hj)
      obtain ⟨c1, c2⟩ := b5 j q hj hq
      show 1 ≤ iN (vrd V + nI 1) ∧ iN (vrd V + nI 1) ≤ iN (vrd V + nI 1) ∧ 1 ≤ iN (nI u) ∧ iN (nI u) ≤ 17 ∧ iN (nI j) < 16 ∧ iN (x_on (XI (vX V 0 (vTT V 0)) j)) < vn V
      rw [hq, er, iN_nI (by omega), iN_nI (by omega)]
      refine ⟨by omega, Nat.le_refl _, hu1, by omega, by omega, ?_⟩
      show iN (nI q) < vn V
      rw [iN_nI (by have := hk.1.2.2.2.2.2; omega)]
      exact c1
  · show vlo V + (nI (x_cnt (vin V) (vn V)) - nI (vc V)) = nI (vn V) - nI (x_cnt (fun p => vin V p && (XS (vX V 0 (vTT V 0)) p).isSome) (vn V))
    rw [hS, a9]
    generalize nI (vn V) = x
    generalize nI (x_cnt (vin V) (vn V)) = y
    generalize nI (vc V) = z
    rw [Int32.sub_eq_add_neg, Int32.sub_eq_add_neg, Int32.sub_eq_add_neg, ← Int32.add_assoc, Int32.add_assoc x, Int32.add_left_neg, Int32.add_zero]
theorem vJ_stop {V : xV} {m : Nat} (h : vJ V m) (hk : vOk V) (e : eStop V = nI 0) (hm : m < 1000000) : vJ (vStop V (vTT V 0)) (m + 1) := by
  have h1 := eStop_0 e
  unfold vStop
  split
  · rename_i hc
    exact vJ_end h hk h1 hm (by decide) (fun _ => hc)
  · exact vJ_tk _ (vJ_end h hk h1 hm (by decide) (fun z => absurd z (by decide)))
theorem vJ_ord {V : xV} {k a b m : Nat} (h : vJ V m) (hk : vOk V) (hm : m < 1000000) (e : eOrd V k a b = nI 0) : vJ (vOrd V k a b) (m + 1) := by
  unfold eOrd at e
  unfold vOrd
  split
  · rename_i z
    rw [if_pos z] at e
    exact vJ_le (vJ_chair h (eChair_0 e).2.1) (by omega)
  · rename_i z
    rw [if_neg z] at e
    split
    · rename_i z
      rw [if_pos z] at e
      exact vJ_le (vJ_player h (ePlayer_0 e).2.1) (by omega)
    · rename_i z
      rw [if_neg z] at e
      split
      · exact vJ_le (show vJ (vBeat V _) m from h) (by omega)
      · rename_i z
        rw [if_neg z] at e
        split
        · exact vJ_le (vJ_start h) (by omega)
        · rename_i z
          rw [if_neg z] at e
          exact vJ_stop h hk e hm
theorem vJ_run {s : Nat → Nat} {L : Nat} : ∀ (f i n : Nat) {V : xV} {m : Nat}, vOk V → vJ V m → m + f < 1000000 → vJ (oRun s L f i n V).1 (m + f)
  | 0, _, _, _, _, _, h, _ => h
  | f + 1, i, n, V, m, hk, h, hm => by
    unfold oRun
    split
    · split
      · split
        · exact vJ_le h (by omega)
        · rename_i he
          rcases eOrd_e V _ _ _ with h2 | h2
          · exact absurd h2 he
          · exact vJ_le (vJ_run f _ _ (vOk_ord hk h2) (vJ_ord h hk (by omega) h2) (by omega)) (by omega)
      · exact vJ_le h (by omega)
    · exact vJ_le h (by omega)
/-- all that holds of a class's state at the n-th act -/
def tJ (T : xT) (m : Nat) : Prop := vJ (tV T) m ∧ ∀ a, a < tK T → vJ (tH T a) m
theorem tJ_le {T : xT} {m k : Nat} (h : tJ T m) (hm : m ≤ k) : tJ T k := ⟨vJ_le h.1 hm, fun a ha => vJ_le (h.2 a ha) hm⟩
theorem tJ_0 : tJ T0 0 := ⟨vJ_0, fun a ha => absurd ha (Nat.not_lt_zero _)⟩
theorem tJ_ch {T : xT} {E : Int32} {V' : xV} {m k : Nat} (h : tJ T m) (hm : m ≤ k) (hV : ¬ E < 0 → vJ V' k) : tJ (pCh T E V') k := by
  unfold pCh
  split
  · exact tJ_le h hm
  · rename_i he
    refine ⟨hV he, fun a ha => ?_⟩
    have ha : a < min (tK T + 1) 4 := ha
    show vJ (if a = 0 then tV T else tH T (a - 1)) k
    split
    · exact vJ_le h.1 hm
    · exact vJ_le (h.2 (a - 1) (by omega)) hm
theorem tJ_undo {T : xT} {m : Nat} (h : tJ T m) : tJ (pUndo T) m := by
  unfold pUndo
  split
  · exact h
  · rename_i hk
    exact ⟨h.2 0 (by omega), fun a ha => h.2 (a + 1) (by have ha : a < tK T - 1 := ha; omega)⟩
/-- the bounds of an object at its acts -/
def tA (T : xT) (n : Nat) : Prop := tOk T ∧ tBd T (1020 * n) ∧ tJ T (60 * n)
theorem tA_le {T : xT} {n k : Nat} (h : tA T n) (hm : n ≤ k) : tA T k := ⟨h.1, tBd_le h.2.1 (by omega), tJ_le h.2.2 (by omega)⟩
theorem tA_0 : tA T0 0 := ⟨tOk_0, tBd_0, tJ_0⟩
