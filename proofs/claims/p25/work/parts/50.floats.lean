/-! ===== floats: the ones that a mean can be, halved, doubled, taken apart ===== -/
/-- the float with the exponent's field E and the fraction's T -/
def fl (E T : Nat) : UInt32 := UInt32.ofNat (E * 8388608 + T)
theorem fl_nat {E T : Nat} (hE : E ≤ 254) (hT : T < 8388608) : (fl E T).toNat = E * 8388608 + T := by
  unfold fl
  exact UInt32.toNat_ofNat_of_lt' (by show _ < 4294967296; omega)
theorem fl_32 {E T : Nat} : (fl E T).toInt32 = nI (E * 8388608 + T) := rfl
theorem b32_t : FP.Core.b32.tails = 8388608 := by decide
theorem b32_e : FP.Core.b32.exps = 256 := by decide
theorem b32_m : FP.Core.b32.qmin = -149 := by decide
theorem b32_x : FP.Core.b32.qmax = 104 := by decide
theorem b32_p : FP.Core.b32.p = 24 := rfl
theorem dec_fl {E T : Nat} (h1 : 1 ≤ E) (hE : E ≤ 254) (hT : T < 8388608) : FP.Core.decode FP.Core.b32 (fl E T).toNat = .fin false (8388608 + T) ((E : Int) - 150) := by
  have e1 : FP.Core.fieldE FP.Core.b32 (E * 8388608 + T) = E := by
    unfold FP.Core.fieldE
    rw [b32_t, b32_e]
    omega
  have e2 : FP.Core.fieldT FP.Core.b32 (E * 8388608 + T) = T := by
    unfold FP.Core.fieldT
    rw [b32_t]
    omega
  have e3 : FP.Core.fieldS FP.Core.b32 (E * 8388608 + T) = false := by
    unfold FP.Core.fieldS
    rw [b32_t, b32_e]
    have : (E * 8388608 + T) / 8388608 / 256 % 2 = 0 := by omega
    rw [this]
    rfl
  rw [fl_nat hE hT]
  unfold FP.Core.decode
  rw [e1, e2, e3, b32_e, b32_t, b32_m, if_neg (by omega), if_neg (by omega)]
  have e4 : (-149 : Int) + ((E : Int) - 1) = (E : Int) - 150 := by omega
  rw [e4]
theorem fl_eq {E T E' T' : Nat} (h1 : E = E') (h2 : T = T') : fl E T = fl E' T' := by rw [h1, h2]
theorem enc_fl {c : Nat} {q : Int} (h1 : 8388608 ≤ c) (hq : -149 ≤ q) : UInt32.ofNat (FP.Core.encode FP.Core.b32 (.fin false c q)) = fl (q + 150).toNat (c - 8388608) := by
  unfold FP.Core.encode FP.Core.assemble fl
  rw [b32_t, b32_e, b32_m]
  dsimp only
  rw [if_neg (by omega)]
  have e1 : (q - -149).toNat + 1 = (q + 150).toNat := by omega
  have e2 : false.toNat * 256 + ((q - -149).toNat + 1) = (q + 150).toNat := by rw [e1, show false.toNat = 0 from rfl, Nat.zero_mul, Nat.zero_add]
  rw [e2]
theorem x_l23 {c : Nat} (h1 : 8388608 ≤ c) (h2 : c < 16777216) : c.log2 = 23 := by
  have a1 : 23 ≤ c.log2 := (Nat.le_log2 (by omega)).mpr (by omega)
  have a2 : c.log2 < 24 := (Nat.log2_lt (by omega)).mpr (by omega)
  omega
/-- what is rounded to, once the units are told -/
theorem rr_at {A B c : Nat} {e q : Int} (hA : ¬ A = 0) (hq : FP.Core.quantum FP.Core.b32 A B e = q) (hn : FP.Core.nearest (A * 2 ^ (e - q).toNat) (B * 2 ^ (q - e).toNat) = c) (hc : c < 16777216) (h2 : q ≤ 104) : FP.Core.roundRatio FP.Core.b32 false A B e = .fin false c q := by
  unfold FP.Core.roundRatio
  rw [if_neg hA, hq]
  unfold FP.Core.roundAt FP.Core.unitsNum FP.Core.unitsDen
  rw [hn]
  unfold FP.Core.settle FP.Core.bound
  rw [b32_p, b32_x, if_pos (show c < 2 ^ 24 by omega), if_pos h2]
theorem quant {A B : Nat} {e k : Int} (h : FP.Core.leading A B = k) (hq : -149 ≤ k + e - 23) : FP.Core.quantum FP.Core.b32 A B e = k + e - 23 := by
  unfold FP.Core.quantum
  rw [h, b32_m, b32_p]
  show max (-149 : Int) (k + e - 23) = k + e - 23
  omega
theorem x_log1 : (1 : Nat).log2 = 0 := by decide
theorem lead1 {a : Nat} (ha : 0 < a) : FP.Core.leading a 1 = (a.log2 : Int) := by
  unfold FP.Core.leading
  dsimp only
  rw [x_log1]
  have e1 : ((a.log2 : Int) - ((0 : Nat) : Int)).toNat = a.log2 := by omega
  have e2 : (-((a.log2 : Int) - ((0 : Nat) : Int))).toNat = 0 := by omega
  rw [e1, e2]
  have := Nat.log2_self_le (n := a) (by omega)
  rw [if_pos (by omega)]
  omega
/-- halved -/
theorem rr_half {c : Nat} {e : Int} (h1 : 8388608 ≤ c) (h2 : c < 16777216) (hq : -149 ≤ e - 23) (hx : e - 23 ≤ 104) : FP.Core.roundRatio FP.Core.b32 false c 8388608 e = .fin false c (e - 23) := by
  have hl : FP.Core.leading c 8388608 = 0 := by
    unfold FP.Core.leading
    dsimp only
    rw [x_l23 h1 h2, show (8388608 : Nat).log2 = 23 from x_l23 (by omega) (by omega)]
    have e1 : ((23 : Nat) : Int) - ((23 : Nat) : Int) = 0 := by omega
    rw [e1]
    simp only [Int.neg_zero, Int.toNat_zero, Nat.pow_zero, Nat.mul_one]
    rw [if_pos h1]
  have hqu := quant (e := e) hl (by omega)
  rw [show (0 : Int) + e - 23 = e - 23 by omega] at hqu
  refine rr_at (by omega) hqu ?_ h2 hx
  have e1 : (e - (e - 23)).toNat = 23 := by omega
  have e2 : (e - 23 - e).toNat = 0 := by omega
  rw [e1, e2]
  show FP.Core.nearest (c * 8388608) (8388608 * 1) = c
  unfold FP.Core.nearest
  rw [if_pos (by omega)]
  omega
/-- a whole number of at most 24 digits -/
theorem rr_whole {a : Nat} {e : Int} (h1 : 0 < a) (h2 : a < 16777216) (hq : -126 ≤ e) (hx : e ≤ 104) : FP.Core.roundRatio FP.Core.b32 false a 1 e = .fin false (a * 2 ^ (23 - a.log2)) (a.log2 + e - 23) ∧ a.log2 ≤ 23 ∧ 8388608 ≤ a * 2 ^ (23 - a.log2) ∧ a * 2 ^ (23 - a.log2) < 16777216 := by
  have hl : a.log2 < 24 := (Nat.log2_lt (by omega)).mpr (by omega)
  have g1 := Nat.log2_self_le (n := a) (by omega)
  have g2 := Nat.lt_log2_self (n := a)
  have hlead := lead1 h1
  generalize hlg : a.log2 = l at *
  have p1 : 2 ^ l * 2 ^ (23 - l) = 8388608 := by
    rw [← Nat.pow_add, show l + (23 - l) = 23 by omega]
  have p2 : 2 ^ (l + 1) * 2 ^ (23 - l) = 16777216 := by
    rw [← Nat.pow_add, show l + 1 + (23 - l) = 24 by omega]
  have c1 : 8388608 ≤ a * 2 ^ (23 - l) := by
    rw [← p1]
    exact Nat.mul_le_mul_right _ g1
  have c2 : a * 2 ^ (23 - l) < 16777216 := by
    rw [← p2]
    exact Nat.mul_lt_mul_of_pos_right g2 (Nat.two_pow_pos _)
  refine ⟨?_, by omega, c1, c2⟩
  refine rr_at (by omega) (quant hlead (by omega)) ?_ c2 (by omega)
  have e1 : (e - ((l : Int) + e - 23)).toNat = 23 - l := by omega
  have e2 : ((l : Int) + e - 23 - e).toNat = 0 := by omega
  rw [e1, e2]
  generalize a * 2 ^ (23 - l) = x
  show FP.Core.nearest x (1 * 1) = x
  unfold FP.Core.nearest
  rw [if_pos (by omega)]
  omega
/-- doubled -/
theorem rr_dbl {c : Nat} {e : Int} (h1 : 8388608 ≤ c) (h2 : c < 16777216) (hq : -149 ≤ e + 23) (hx : e + 23 ≤ 104) : FP.Core.roundRatio FP.Core.b32 false (c * 8388608) 1 e = .fin false c (e + 23) := by
  have hl : (c * 8388608).log2 = 46 := by
    have a1 : 46 ≤ (c * 8388608).log2 := (Nat.le_log2 (by omega)).mpr (by omega)
    have a2 : (c * 8388608).log2 < 47 := (Nat.log2_lt (by omega)).mpr (by omega)
    omega
  have hlead := lead1 (a := c * 8388608) (by omega)
  rw [hl] at hlead
  have hqu := quant (e := e) hlead (by omega)
  rw [show ((46 : Nat) : Int) + e - 23 = e + 23 by omega] at hqu
  refine rr_at (by omega) hqu ?_ h2 hx
  have e1 : (e - (e + 23)).toNat = 0 := by omega
  have e2 : (e + 23 - e).toNat = 23 := by omega
  rw [e1, e2]
  show FP.Core.nearest (c * 8388608 * 1) (1 * 8388608) = c
  unfold FP.Core.nearest
  rw [if_pos (by omega)]
  omega
theorem x_div_le {A B M : Nat} (hB : 0 < B) (h : A < M * B) : FP.Core.nearest A B ≤ M := by
  have : A / B < M := (Nat.div_lt_iff_lt_mul hB).mpr h
  unfold FP.Core.nearest
  split
  · omega
  · split <;> omega
theorem x_div_ge {A B M : Nat} (hB : 0 < B) (h : M * B ≤ A) : M ≤ FP.Core.nearest A B := by
  have : M ≤ A / B := (Nat.le_div_iff_mul_le hB).mpr h
  unfold FP.Core.nearest
  split
  · omega
  · split <;> omega
/-- a quotient -/
theorem rr_quo {a b : Nat} {e : Int} (h1 : 8388608 ≤ a) (h2 : a < 16777216) (h3 : 8388608 ≤ b) (h4 : b < 16777216) (hq : -100 ≤ e) (hx : e ≤ 100) : ∃ (c : Nat) (q : Int), FP.Core.roundRatio FP.Core.b32 false a b e = .fin false c q ∧ 8388608 ≤ c ∧ c < 16777216 ∧ e - 24 ≤ q ∧ q ≤ e - 22 := by
  -- the units: k is the leading digit's place
  have fin : ∀ (k : Int) (A B : Nat), FP.Core.leading a b = k → -1 ≤ k → k ≤ 0 → a * 2 ^ (e - (k + e - 23)).toNat = A → b * 2 ^ (k + e - 23 - e).toNat = B → 0 < B → 8388608 * B ≤ A → A < 16777216 * B → ∃ (c : Nat) (q : Int), FP.Core.roundRatio FP.Core.b32 false a b e = .fin false c q ∧ 8388608 ≤ c ∧ c < 16777216 ∧ e - 24 ≤ q ∧ q ≤ e - 22 := by
    intro k A B hk hk1 hk2 hA hB hB0 hlo hhi
    have n1 := x_div_ge hB0 hlo
    have n2 := x_div_le hB0 hhi
    have hqu := quant (e := e) hk (by omega)
    by_cases hc : FP.Core.nearest A B < 16777216
    · exact ⟨_, _, rr_at (by omega) hqu (by rw [hA, hB]) hc (by omega), n1, hc, by omega, by omega⟩
    · refine ⟨8388608, k + e - 23 + 1, ?_, by omega, by omega, by omega, by omega⟩
      unfold FP.Core.roundRatio
      rw [if_neg (by omega), hqu]
      unfold FP.Core.roundAt FP.Core.unitsNum FP.Core.unitsDen
      rw [hA, hB]
      unfold FP.Core.settle FP.Core.bound
      rw [b32_p, b32_x, b32_t, if_neg (show ¬ FP.Core.nearest A B < 2 ^ 24 by omega), if_pos (by omega)]
  have hl : FP.Core.leading a b = if b ≤ a then 0 else -1 := by
    unfold FP.Core.leading
    dsimp only
    rw [x_l23 h1 h2, x_l23 h3 h4]
    have e1 : ((23 : Nat) : Int) - ((23 : Nat) : Int) = 0 := by omega
    rw [e1]
    simp only [Int.neg_zero, Int.toNat_zero, Nat.pow_zero, Nat.mul_one]
    rfl
  by_cases hab : b ≤ a
  · rw [if_pos hab] at hl
    have e1 : (e - ((0 : Int) + e - 23)).toNat = 23 := by omega
    have e2 : ((0 : Int) + e - 23 - e).toNat = 0 := by omega
    refine fin 0 (a * 8388608) b hl (by omega) (by omega) (by rw [e1]) (by rw [e2, Nat.pow_zero, Nat.mul_one]) (by omega) (by omega) (by omega)
  · rw [if_neg hab] at hl
    have e1 : (e - ((-1 : Int) + e - 23)).toNat = 24 := by omega
    have e2 : ((-1 : Int) + e - 23 - e).toNat = 0 := by omega
    refine fin (-1) (a * 16777216) b hl (by omega) (by omega) (by rw [e1]) (by rw [e2, Nat.pow_zero, Nat.mul_one]) (by omega) (by omega) (by omega)
/-! the operations -/
theorem f_half {E T : Nat} (h1 : 2 ≤ E) (hE : E ≤ 200) (hT : T < 8388608) : FP.fdiv (fl E T) FP.fconst2 = fl (E - 1) T := by
  have e2 : FP.Core.decode FP.Core.b32 FP.fconst2.toNat = .fin false 8388608 (-22) := by decide +kernel
  show UInt32.ofNat (FP.Core.encode FP.Core.b32 (FP.Core.quotient FP.Core.b32 (FP.Core.decode FP.Core.b32 (fl E T).toNat) (FP.Core.decode FP.Core.b32 FP.fconst2.toNat))) = _
  rw [dec_fl (by omega) (by omega) hT, e2]
  unfold FP.Core.quotient
  dsimp only
  rw [if_neg (by decide)]
  show UInt32.ofNat (FP.Core.encode FP.Core.b32 (FP.Core.roundRatio FP.Core.b32 false (8388608 + T) 8388608 ((E : Int) - 150 - -22))) = _
  rw [rr_half (by omega) (by omega) (by omega) (by omega), enc_fl (by omega) (by omega)]
  exact fl_eq (by omega) (by omega)
theorem f_dbl {E T : Nat} (h1 : 1 ≤ E) (hE : E ≤ 200) (hT : T < 8388608) : FP.fmul (fl E T) FP.fconst2 = fl (E + 1) T := by
  have e2 : FP.Core.decode FP.Core.b32 FP.fconst2.toNat = .fin false 8388608 (-22) := by decide +kernel
  show UInt32.ofNat (FP.Core.encode FP.Core.b32 (FP.Core.round FP.Core.b32 (FP.Core.exactProduct (FP.Core.decode FP.Core.b32 (fl E T).toNat) (FP.Core.decode FP.Core.b32 FP.fconst2.toNat)))) = _
  rw [dec_fl (by omega) (by omega) hT, e2]
  show UInt32.ofNat (FP.Core.encode FP.Core.b32 (FP.Core.roundRatio FP.Core.b32 false ((8388608 + T) * 8388608) 1 ((E : Int) - 150 + -22))) = _
  rw [rr_dbl (by omega) (by omega) (by omega) (by omega), enc_fl (by omega) (by omega)]
  exact fl_eq (by omega) (by omega)
theorem x_cmp (a b : Int) : compare a b = if a < b then .lt else if a = b then .eq else .gt := rfl
theorem f_cmp {E T E2 : Nat} (h1 : 1 ≤ E) (hE : E ≤ 254) (hT : T < 8388608) (h2 : 1 ≤ E2) (hE2 : E2 ≤ 254) : (E < E2 → FP.fcmp (fl E T) (fl E2 0) = some .lt) ∧ (E2 ≤ E → FP.fcmp (fl E T) (fl E2 0) = some .eq ∨ FP.fcmp (fl E T) (fl E2 0) = some .gt) := by
  have e : FP.fcmp (fl E T) (fl E2 0) = some (compare (FP.Core.signed false (FP.Core.inUnits (8388608 + T) ((E : Int) - 150) (min ((E : Int) - 150) ((E2 : Int) - 150)))) (FP.Core.signed false (FP.Core.inUnits (8388608 + 0) ((E2 : Int) - 150) (min ((E : Int) - 150) ((E2 : Int) - 150))))) := by
    show FP.Core.order (FP.Core.decode FP.Core.b32 (fl E T).toNat) (FP.Core.decode FP.Core.b32 (fl E2 0).toNat) = _
    rw [dec_fl h1 hE hT, dec_fl h2 hE2 (by omega)]
    rfl
  rw [e, x_cmp]
  constructor
  · intro hlt
    have m : min ((E : Int) - 150) ((E2 : Int) - 150) = (E : Int) - 150 := by omega
    rw [m]
    unfold FP.Core.signed FP.Core.inUnits
    have u1 : ((E : Int) - 150 - ((E : Int) - 150)).toNat = 0 := by omega
    have u2 : ((E2 : Int) - 150 - ((E : Int) - 150)).toNat = E2 - E := by omega
    rw [u1, u2]
    have hp : 2 ^ 1 ≤ 2 ^ (E2 - E) := Nat.pow_le_pow_right (by omega) (by omega)
    generalize 2 ^ (E2 - E) = x at hp
    simp only [Nat.pow_zero, Nat.mul_one, Nat.add_zero, if_neg (show ¬ false = true by decide)]
    rw [if_pos (by omega)]
  · intro hge
    have m : min ((E : Int) - 150) ((E2 : Int) - 150) = (E2 : Int) - 150 := by omega
    rw [m]
    unfold FP.Core.signed FP.Core.inUnits
    have u1 : ((E2 : Int) - 150 - ((E2 : Int) - 150)).toNat = 0 := by omega
    have u2 : ((E : Int) - 150 - ((E2 : Int) - 150)).toNat = E - E2 := by omega
    rw [u1, u2]
    have hp : 1 ≤ 2 ^ (E - E2) := Nat.two_pow_pos _
    have hm : 8388608 + T ≤ (8388608 + T) * 2 ^ (E - E2) := Nat.le_mul_of_pos_right _ hp
    generalize (8388608 + T) * 2 ^ (E - E2) = x at hm
    simp only [Nat.pow_zero, Nat.mul_one, Nat.add_zero, if_neg (show ¬ false = true by decide)]
    rw [if_neg (by omega)]
    split
    · exact Or.inl rfl
    · exact Or.inr rfl
theorem f_pos {E T : Nat} (h1 : 1 ≤ E) (hE : E ≤ 254) (hT : T < 8388608) : FP.fcmp (fl E T) FP.fconst0 = some .gt := by
  have e0 : FP.Core.decode FP.Core.b32 FP.fconst0.toNat = .fin false 0 (-149) := by decide +kernel
  show FP.Core.order (FP.Core.decode FP.Core.b32 (fl E T).toNat) (FP.Core.decode FP.Core.b32 FP.fconst0.toNat) = _
  rw [dec_fl h1 hE hT, e0]
  show some (compare (FP.Core.signed false (FP.Core.inUnits (8388608 + T) ((E : Int) - 150) (min ((E : Int) - 150) (-149)))) (FP.Core.signed false (FP.Core.inUnits 0 (-149) (min ((E : Int) - 150) (-149))))) = _
  rw [x_cmp]
  unfold FP.Core.signed FP.Core.inUnits
  have hm : 8388608 + T ≤ (8388608 + T) * 2 ^ ((E : Int) - 150 - min ((E : Int) - 150) (-149)).toNat := Nat.le_mul_of_pos_right _ (Nat.two_pow_pos _)
  generalize (8388608 + T) * 2 ^ ((E : Int) - 150 - min ((E : Int) - 150) (-149)).toNat = x at hm
  simp only [Nat.zero_mul, if_neg (show ¬ false = true by decide)]
  rw [if_neg (by omega), if_neg (by omega)]
theorem f_c1 : FP.fconst1 = fl 127 0 := by decide +kernel
theorem f_c2 : FP.fconst2 = fl 128 0 := by decide +kernel
theorem f_c3 : (1258291200 : UInt32) = fl 150 0 := by decide +kernel
/-- of the floats from 1 on, below 2: what is beyond 1 -/
theorem f_rest {T : Nat} (h0 : 0 < T) (hT : T < 8388608) : FP.fsub (fl 127 T) FP.fconst1 = fl (T.log2 + 104) (T * 2 ^ (23 - T.log2) - 8388608) := by
  have e1 : FP.Core.negate (FP.Core.decode FP.Core.b32 FP.fconst1.toNat) = .fin true 8388608 (-23) := by decide +kernel
  obtain ⟨r1, r2, r3, r4⟩ := rr_whole (a := T) (e := -23) h0 (by omega) (by omega) (by omega)
  show UInt32.ofNat (FP.Core.encode FP.Core.b32 (FP.Core.round FP.Core.b32 (FP.Core.exactSum (FP.Core.decode FP.Core.b32 (fl 127 T).toNat) (FP.Core.negate (FP.Core.decode FP.Core.b32 FP.fconst1.toNat))))) = _
  rw [dec_fl (by omega) (by omega) hT, e1]
  have es : FP.Core.exactSum (.fin false (8388608 + T) (((127 : Nat) : Int) - 150)) (.fin true 8388608 (-23)) = .fin false T (-23) := by
    unfold FP.Core.exactSum
    dsimp only
    have m : min (((127 : Nat) : Int) - 150) (-23) = -23 := by omega
    rw [m]
    have u : FP.Core.sumUnits false (8388608 + T) (((127 : Nat) : Int) - 150) true 8388608 (-23) (-23) = (T : Int) := by
      unfold FP.Core.sumUnits FP.Core.signed FP.Core.inUnits
      have u1 : (((127 : Nat) : Int) - 150 - -23).toNat = 0 := by omega
      have u2 : ((-23 : Int) - -23).toNat = 0 := by omega
      rw [u1, u2]
      simp only [Nat.pow_zero, Nat.mul_one, if_neg (show ¬ false = true by decide), if_pos]
      omega
    rw [u]
    have s : FP.Core.sumSign false true (T : Int) = false := by
      unfold FP.Core.sumSign
      rw [if_neg (by omega)]
      exact decide_eq_false (by omega)
    rw [s]
    congr 1
  rw [es]
  show UInt32.ofNat (FP.Core.encode FP.Core.b32 (FP.Core.roundRatio FP.Core.b32 false T 1 (-23))) = _
  rw [r1, enc_fl r3 (by omega)]
  congr 1
  omega
theorem f_up {E T : Nat} (h1 : 1 ≤ E) (hE : E ≤ 200) (hT : T < 8388608) : FP.fmul (fl E T) 1258291200 = fl (E + 23) T := by
  have e2 : FP.Core.decode FP.Core.b32 (1258291200 : UInt32).toNat = .fin false 8388608 0 := by decide +kernel
  show UInt32.ofNat (FP.Core.encode FP.Core.b32 (FP.Core.round FP.Core.b32 (FP.Core.exactProduct (FP.Core.decode FP.Core.b32 (fl E T).toNat) (FP.Core.decode FP.Core.b32 (1258291200 : UInt32).toNat)))) = _
  rw [dec_fl (by omega) (by omega) hT, e2]
  show UInt32.ofNat (FP.Core.encode FP.Core.b32 (FP.Core.roundRatio FP.Core.b32 false ((8388608 + T) * 8388608) 1 ((E : Int) - 150 + 0))) = _
  rw [rr_dbl (by omega) (by omega) (by omega) (by omega), enc_fl (by omega) (by omega)]
  exact fl_eq (by omega) (by omega)
/-- the fraction, as a whole number -/
theorem f_frac {T : Nat} (hT : T < 8388608) : FP.f2i (FP.fmul (FP.fsub (fl 127 T) FP.fconst1) 1258291200) = nI T := by
  by_cases h0 : T = 0
  · subst h0
    decide +kernel
  · obtain ⟨-, r2, r3, r4⟩ := rr_whole (a := T) (e := -23) (by omega) (by omega) (by omega) (by omega)
    rw [f_rest (by omega) hT, f_up (by omega) (by omega) (by omega)]
    show FP.Core.toI (FP.Core.decode FP.Core.b32 (fl (T.log2 + 104 + 23) (T * 2 ^ (23 - T.log2) - 8388608)).toNat) = _
    rw [dec_fl (by omega) (by omega) (by omega)]
    have e1 : 8388608 + (T * 2 ^ (23 - T.log2) - 8388608) = T * 2 ^ (23 - T.log2) := by omega
    rw [e1]
    unfold FP.Core.toI FP.Core.toInt FP.Core.truncate FP.Core.signed
    dsimp only
    have hl : T.log2 < 23 := (Nat.log2_lt (by omega)).mpr (by omega)
    have u1 : (((T.log2 + 104 + 23 : Nat) : Int) - 150).toNat = 0 := by omega
    have u2 : (-(((T.log2 + 104 + 23 : Nat) : Int) - 150)).toNat = 23 - T.log2 := by omega
    rw [u1, u2, Nat.pow_zero, Nat.mul_one, Nat.mul_div_cancel _ (Nat.two_pow_pos _), if_neg (show ¬ false = true by decide)]
    have hmm : max (-2 ^ 31 : Int) (min (2 ^ 31 - 1) (T : Int)) = (T : Int) := by omega
    rw [hmm]
    rfl
theorem f_i2f {a : Nat} (h1 : 0 < a) (h2 : a < 16777216) : ∃ E T, FP.i2f (nI a) = fl E T ∧ E = a.log2 + 127 ∧ E ≤ 150 ∧ T < 8388608 := by
  obtain ⟨r1, r2, r3, r4⟩ := rr_whole (a := a) (e := 0) h1 h2 (by omega) (by omega)
  refine ⟨a.log2 + 127, a * 2 ^ (23 - a.log2) - 8388608, ?_, rfl, by omega, by omega⟩
  show UInt32.ofNat (FP.Core.encode FP.Core.b32 (FP.Core.round FP.Core.b32 (FP.Core.ofInt (nI a).toInt))) = _
  rw [nI_toInt (by omega)]
  have eo : FP.Core.ofInt (a : Int) = .fin false a 0 := by
    unfold FP.Core.ofInt
    rw [decide_eq_false (by omega : ¬ (a : Int) < 0)]
    rfl
  rw [eo]
  show UInt32.ofNat (FP.Core.encode FP.Core.b32 (FP.Core.roundRatio FP.Core.b32 false a 1 0)) = _
  rw [r1, enc_fl r3 (by omega)]
  congr 1
  omega
theorem f_div {E1 T1 E2 T2 : Nat} (h1 : 127 ≤ E1) (h2 : E1 ≤ 150) (hT1 : T1 < 8388608) (h3 : 127 ≤ E2) (h4 : E2 ≤ 150) (hT2 : T2 < 8388608) : ∃ E T, FP.fdiv (fl E1 T1) (fl E2 T2) = fl E T ∧ 100 ≤ E ∧ E ≤ 160 ∧ T < 8388608 := by
  obtain ⟨c, q, r1, r2, r3, r4, r5⟩ := rr_quo (a := 8388608 + T1) (b := 8388608 + T2) (e := (E1 : Int) - 150 - ((E2 : Int) - 150)) (by omega) (by omega) (by omega) (by omega) (by omega) (by omega)
  refine ⟨(q + 150).toNat, c - 8388608, ?_, by omega, by omega, by omega⟩
  show UInt32.ofNat (FP.Core.encode FP.Core.b32 (FP.Core.quotient FP.Core.b32 (FP.Core.decode FP.Core.b32 (fl E1 T1).toNat) (FP.Core.decode FP.Core.b32 (fl E2 T2).toNat))) = _
  rw [dec_fl (by omega) (by omega) hT1, dec_fl (by omega) (by omega) hT2]
  unfold FP.Core.quotient
  dsimp only
  rw [if_neg (by omega)]
  show UInt32.ofNat (FP.Core.encode FP.Core.b32 (FP.Core.roundRatio FP.Core.b32 false (8388608 + T1) (8388608 + T2) ((E1 : Int) - 150 - ((E2 : Int) - 150)))) = _
  rw [r1, enc_fl r2 (by omega)]
theorem f_div0 {E T : Nat} (h1 : 1 ≤ E) (hE : E ≤ 254) (hT : T < 8388608) : FP.fdiv (FP.i2f (nI 0)) (fl E T) = 0 := by
  have e0 : FP.Core.decode FP.Core.b32 (FP.i2f (nI 0)).toNat = .fin false 0 (-149) := by decide +kernel
  show UInt32.ofNat (FP.Core.encode FP.Core.b32 (FP.Core.quotient FP.Core.b32 (FP.Core.decode FP.Core.b32 (FP.i2f (nI 0)).toNat) (FP.Core.decode FP.Core.b32 (fl E T).toNat))) = _
  rw [e0, dec_fl h1 hE hT]
  unfold FP.Core.quotient
  dsimp only
  rw [if_neg (by omega)]
  unfold FP.Core.roundRatio
  rw [if_pos rfl]
  decide +kernel
theorem f_nan {E T : Nat} (hE : E ≤ 254) (hT : T < 8388608) : vf_n32 (fl E T) := by
  unfold vf_n32
  rw [UInt32.le_iff_toNat_le, UInt32.toNat_and, fl_nat hE hT]
  have e1 : (0x7fffffff : UInt32).toNat = 2 ^ 31 - 1 := by decide
  have e2 : (0x7f800000 : UInt32).toNat = 2139095040 := by decide
  rw [e1, e2, Nat.and_two_pow_sub_one_eq_mod]
  omega
theorem f_nan0 : vf_n32 0 := by unfold vf_n32; decide
