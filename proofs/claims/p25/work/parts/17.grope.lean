/-! ===== sets as bits ===== -/
/-- x is the set f of numbers below n -/
def x_mk (x : Int32) (n : Nat) (f : Nat → Bool) : Prop := ∃ m, x = nI m ∧ m < 2 ^ n ∧ ∀ i, i < n → m.testBit i = f i
theorem x_bit_tb {m i : Nat} : x_bit m i ↔ m.testBit i = true := by
  unfold x_bit
  rw [Nat.testBit_eq_decide_div_mod_eq]
  simp
theorem x_or (a b : Nat) : nI a ||| nI b = nI (a ||| b) := by
  apply Int32.toBitVec_inj.mp
  show BitVec.ofNat 32 a ||| BitVec.ofNat 32 b = BitVec.ofNat 32 (a ||| b)
  apply BitVec.eq_of_getLsbD_eq
  intro i hi
  simp [BitVec.getLsbD_or, BitVec.getLsbD_ofNat, hi]
theorem x_and (a b : Nat) : nI a &&& nI b = nI (a &&& b) := by
  apply Int32.toBitVec_inj.mp
  show BitVec.ofNat 32 a &&& BitVec.ofNat 32 b = BitVec.ofNat 32 (a &&& b)
  apply BitVec.eq_of_getLsbD_eq
  intro i hi
  simp [BitVec.getLsbD_and, BitVec.getLsbD_ofNat, hi]
theorem x_shl1 {i : Nat} (hi : i < 31) : nI 1 <<< (nI i &&& 31) = nI (2 ^ i) := by
  rw [pk_shlN (n := 1) _ i (by revert hi; revert i; decide) (by
    rw [Nat.one_mul]
    exact Nat.lt_trans (Nat.pow_lt_pow_right (by omega) hi) (by decide)), Nat.one_mul]
theorem x_mk_0 {n : Nat} {f : Nat → Bool} (h : ∀ i, i < n → f i = false) : x_mk (nI 0) n f := ⟨0, rfl, Nat.two_pow_pos n, fun i hi => by rw [Nat.zero_testBit, h i hi]⟩
theorem x_mk_congr {x : Int32} {n : Nat} {f f' : Nat → Bool} (h : x_mk x n f) (e : ∀ i, i < n → f i = f' i) : x_mk x n f' := by
  obtain ⟨m, h1, h2, h3⟩ := h
  exact ⟨m, h1, h2, fun i hi => by rw [h3 i hi, e i hi]⟩
theorem x_mk_set {x : Int32} {n i : Nat} {f f' : Nat → Bool} (h : x_mk x n f) (hi : i < n) (hn : n ≤ 16) (e : ∀ j, j < n → f' j = (f j || decide (j = i))) : x_mk (x ||| (nI 1 <<< (nI i &&& 31))) n f' := by
  obtain ⟨m, rfl, h2, h3⟩ := h
  rw [x_shl1 (by omega), x_or]
  refine ⟨_, rfl, Nat.or_lt_two_pow h2 (Nat.pow_lt_pow_right (by omega) hi), fun j hj => ?_⟩
  rw [Nat.testBit_or, h3 j hj, e j hj, Nat.testBit_two_pow]
  congr 1
  simp [eq_comm]
theorem x_clr_eq {m i : Nat} (hm : m < 2 ^ 16) (hi : i < 16) : nI m &&& ((nI 1 <<< (nI i &&& 31)) ^^^ (-1)) = nI (m &&& (65535 - 2 ^ i)) := by
  have h1 : (nI 1 <<< (nI i &&& 31)) ^^^ (-1) = nI (4294967295 - 2 ^ i) := by revert hi; revert i; decide
  rw [h1, x_and]
  congr 1
  have e : 4294967295 - 2 ^ i = 65536 * 65535 + (65535 - 2 ^ i) := by
    have : 2 ^ i ≤ 2 ^ 15 := Nat.pow_le_pow_right (by omega) (by omega)
    omega
  apply Nat.eq_of_testBit_eq
  intro j
  rw [Nat.testBit_and, Nat.testBit_and]
  by_cases hj : j < 16
  · congr 1
    rw [e, show 65536 = 2 ^ 16 from rfl, Nat.testBit_two_pow_mul_add _ (by have := Nat.two_pow_pos i; omega), if_pos hj]
  · rw [Nat.testBit_lt_two_pow (x := m) (Nat.lt_of_lt_of_le hm (Nat.pow_le_pow_right (by omega) (by omega)))]
    rfl
theorem x_mk_clr {x : Int32} {n i : Nat} {f f' : Nat → Bool} (h : x_mk x n f) (hi : i < n) (hn : n ≤ 16) (e : ∀ j, j < n → f' j = (f j && !decide (j = i))) : x_mk (x &&& ((nI 1 <<< (nI i &&& 31)) ^^^ (-1))) n f' := by
  obtain ⟨m, rfl, h2, h3⟩ := h
  rw [x_clr_eq (Nat.lt_of_lt_of_le h2 (Nat.pow_le_pow_right (by omega) hn)) (by omega)]
  refine ⟨_, rfl, Nat.lt_of_le_of_lt Nat.and_le_left h2, fun j hj => ?_⟩
  rw [Nat.testBit_and, h3 j hj, e j hj]
  congr 1
  have : ∀ i, i < 16 → ∀ j, j < 16 → (65535 - 2 ^ i).testBit j = !decide (j = i) := by decide
  exact this i (by omega) j (by omega)
theorem x_mk_t {x : Int32} {n i : Nat} {f : Nat → Bool} (h : x_mk x n f) (hi : i < n) (hn : n ≤ 16) : ∃ m, x = nI m ∧ m < 2 ^ 31 ∧ (x_bit m i ↔ f i = true) := by
  obtain ⟨m, h1, h2, h3⟩ := h
  exact ⟨m, h1, Nat.lt_of_lt_of_le h2 (Nat.pow_le_pow_right (by omega) (by omega)), by rw [x_bit_tb, h3 i hi]⟩
theorem x_mk_ne0 {x : Int32} {n : Nat} {f : Nat → Bool} (h : x_mk x n f) (hn : n ≤ 16) : x = 0 ↔ ∀ i, i < n → f i = false := by
  obtain ⟨m, rfl, h2, h3⟩ := h
  have hm : m < 2 ^ 31 := Nat.lt_of_lt_of_le h2 (Nat.pow_le_pow_right (by omega) (by omega))
  constructor
  · intro z i hi
    have : m = 0 := (nI_eq (b := 0) hm (by omega)).mp z
    rw [← h3 i hi, this, Nat.zero_testBit]
  · intro z
    have : m = 0 := by
      apply Nat.eq_of_testBit_eq
      intro i
      rw [Nat.zero_testBit]
      by_cases hi : i < n
      · rw [h3 i hi, z i hi]
      · exact Nat.testBit_lt_two_pow (Nat.lt_of_lt_of_le h2 (Nat.pow_le_pow_right (by omega) (by omega)))
    rw [this]
    rfl
def x_all (n : Nat) (f : Nat → Bool) : Bool := (List.range n).all f
theorem x_all_iff {n : Nat} {f : Nat → Bool} : x_all n f = true ↔ ∀ i, i < n → f i = true := by
  unfold x_all
  rw [List.all_eq_true]
  exact ⟨fun h i hi => h i (List.mem_range.mpr hi), fun h i hi => h i (List.mem_range.mp hi)⟩
theorem x_mk_all {x : Int32} {n : Nat} {f : Nat → Bool} (h : x_mk x n f) (hn : n ≤ 16) : x = nI (2 ^ n - 1) ↔ x_all n f = true := by
  obtain ⟨m, rfl, h2, h3⟩ := h
  have h16 : 2 ^ n ≤ 2 ^ 16 := Nat.pow_le_pow_right (by omega) hn
  rw [nI_eq (by omega) (by omega), x_all_iff]
  constructor
  · intro e i hi
    rw [← h3 i hi, e, Nat.testBit_two_pow_sub_one]
    simp [hi]
  · intro e
    apply Nat.eq_of_testBit_eq
    intro i
    rw [Nat.testBit_two_pow_sub_one]
    by_cases hi : i < n
    · rw [h3 i hi, e i hi]
      simp [hi]
    · rw [Nat.testBit_lt_two_pow (Nat.lt_of_lt_of_le h2 (Nat.pow_le_pow_right (by omega) (by omega)))]
      simp [hi]
theorem x_mk_eq {x y : Int32} {n : Nat} {f : Nat → Bool} (h : x_mk x n f) (h' : x_mk y n f) : x = y := by
  obtain ⟨m, rfl, h2, h3⟩ := h
  obtain ⟨m', rfl, h2', h3'⟩ := h'
  congr 1
  apply Nat.eq_of_testBit_eq
  intro i
  by_cases hi : i < n
  · rw [h3 i hi, h3' i hi]
  · rw [Nat.testBit_lt_two_pow (Nat.lt_of_lt_of_le h2 (Nat.pow_le_pow_right (by omega) (by omega))), Nat.testBit_lt_two_pow (Nat.lt_of_lt_of_le h2' (Nat.pow_le_pow_right (by omega) (by omega)))]
/-! ===== groping: the class's methods ===== -/
set_option maxHeartbeats 4000000 in
theorem c_gropes (d n p : Nat) (g : xG) (Q : xQ) {G : Nat → Bool} (hg : x_mk (g 124 9) n G) (hn : n ≤ 12) (hp : p < n) (ht : G p = true → Q (some (.int (nI 1))) g) (hf : G p = false → Q (some (.int (nI 0))) g) : Cx (d + 1) i_Grope_gropes [.ref 124, .int (nI p)] g Q := by
  obtain ⟨m, hm, hm2, hb⟩ := x_mk_t hg hp (by omega)
  refine r_cl (L0 := [some (.ref 124), some (.int (nI p))]) rfl (Or.inr ⟨_, _, _, rfl, rfl⟩) rfl rfl rfl ?_
  refine r_run 400 rfl rfl ?_
  refine r_ine rfl (fun h2 => ?_) (fun h2 => ?_)
  · refine r_run 400 rfl rfl ?_
    exact r_zret rfl rfl (by decide) (hf (by
      cases h : G p with
      | false => rfl
      | true => exact absurd ((x_sh1 _ hm hm2 (by omega)).mpr (hb.mpr h)) h2))
  · refine r_run 400 rfl rfl ?_
    exact r_zret rfl rfl (by decide) (ht (hb.mp ((x_sh1 _ hm hm2 (by omega)).mp h2)))
set_option maxHeartbeats 4000000 in
theorem c_grSettle (d p : Nat) (g : xG) (Q : xQ) (hp : p < 12) (k : Q none (x_up (x_up g 124 9 (g 124 9 &&& ((nI 1 <<< (nI p &&& 31)) ^^^ (-1)))) 131 p (g 124 11))) : Cx (d + 1) i_Grope_settle [.ref 124, .int (nI p)] g Q := by
  refine r_cl (L0 := [some (.ref 124), some (.int (nI p))]) rfl (Or.inr ⟨_, _, _, rfl, rfl⟩) rfl rfl rfl ?_
  refine r_run 400 rfl rfl ?_
  simp only [x_up_app, x_ce_app, x_ce_same, Nat.reduceAdd, Nat.reduceEqDiff, ↓reduceIte, Nat.reduceSub, Nat.reduceMul, reduceCtorEq]
  refine r_ast (j := p) rfl rfl (rfl) (by omega) (Nat.le_of_ble_eq_true rfl) ?_
  refine r_run 400 rfl rfl ?_
  exact r_ret rfl rfl k
set_option maxHeartbeats 4000000 in
theorem c_sendOut_2 (d n c : Nat) (g : xG) (Q : xQ) (G O : Nat → Bool) (K : Nat → Nat → Bool) (hn : g 7 9 = nI n) (h12 : n ≤ 12) (hc : g 3 3 = nI c) (h16 : c ≤ 16) (hG : x_mk (g 124 9) n G) (hO : x_mk (g 124 10) n O) (hK : ∀ p, p < n → x_mk (g 126 p) c (K p))
    (k : ∀ g' : xG, x_mk (g' 124 9) n (fun p => G p && !x_all c (K p)) → x_mk (g' 124 10) n (fun p => O p || (G p && x_all c (K p))) → (∀ p, p < n → g' 131 p = if (G p && x_all c (K p)) = true then g 124 11 else g 131 p) → g' 124 11 = g 124 11 → (∀ a, a ≠ 124 → a ≠ 131 → g' a = g a) → Q none g') : Cx (d + 2) i_Grope_sendOut [.ref 124, .ref 3, .ref 7] g Q := by
  refine r_cl (L0 := [some (.ref 124), some (.ref 3), some (.ref 7), none, none]) rfl (Or.inr ⟨_, _, _, rfl, rfl⟩) rfl rfl rfl ?_
  have hpw : (2 : Nat) ^ c ≤ 2 ^ 16 := Nat.pow_le_pow_right (by omega) h16
  have hpw0 := Nat.two_pow_pos c
  have loop : ∀ p, p ≤ n → ∀ g' : xG, x_mk (g' 124 9) n (fun q => if q < p then G q && !x_all c (K q) else G q) → x_mk (g' 124 10) n (fun q => if q < p then O q || (G q && x_all c (K q)) else O q) → (∀ q, g' 131 q = if q < p ∧ (G q && x_all c (K q)) = true then g 124 11 else g 131 q) → g' 124 11 = g 124 11 → (∀ a, a ≠ 124 → a ≠ 131 → g' a = g a) → Rx (d + 1) m_Grope_sendOut Q 12 [some (.ref 124), some (.ref 3), some (.ref 7), some (.int (nI (2 ^ c - 1))), some (.int (nI p))] [] g' := by
    refine r_for ?_ ?_
    · intro g' a1 a2 a3 a4 a5
      refine r_run 400 rfl rfl ?_
      simp only [x_up_app, x_ce_app, x_ce_same, Nat.reduceAdd, Nat.reduceEqDiff, ↓reduceIte, Nat.reduceSub, Nat.reduceMul, reduceCtorEq, a5 7 (by decide) (by decide), hn]
      refine n_ige rfl (by omega) (by omega) (fun _ => ?_) (fun h2 => by omega)
      refine r_run 400 rfl rfl ?_
      refine r_ret rfl rfl (k g' (x_mk_congr a1 (fun i hi => if_pos hi)) (x_mk_congr a2 (fun i hi => if_pos hi)) (fun p hp => ?_) a4 a5)
      rw [a3 p]
      simp only [hp, true_and]
    · intro p hp ih g' a1 a2 a3 a4 a5
      refine r_run 400 rfl rfl ?_
      simp only [x_up_app, x_ce_app, x_ce_same, Nat.reduceAdd, Nat.reduceEqDiff, ↓reduceIte, Nat.reduceSub, Nat.reduceMul, reduceCtorEq, a5 7 (by decide) (by decide), hn]
      refine n_ige rfl (by omega) (by omega) (fun _ => by omega) (fun _ => ?_)
      refine r_run 400 rfl rfl ?_
      refine r_inv rfl rfl rfl ?_
      refine c_gropes d n p g' _ a1 h12 hp (fun hg => ?_) (fun hg => ?_)
      · simp only [Nat.lt_irrefl, if_false] at hg
        refine t_eq1 rfl ?_
        refine r_run 400 rfl rfl ?_
        refine r_ald (j := p) rfl rfl (rfl) (by omega) (Nat.le_of_ble_eq_true rfl) ?_
        refine r_run 400 rfl rfl ?_
        simp only [x_up_app, x_ce_app, x_ce_same, Nat.reduceAdd, Nat.reduceEqDiff, ↓reduceIte, Nat.reduceSub, Nat.reduceMul, reduceCtorEq, a5 126 (by decide) (by decide)]
        refine r_ine rfl (fun hne => ?_) (fun heq => ?_)
        · have hal : x_all c (K p) = false := by
            cases h : x_all c (K p) with
            | false => rfl
            | true => exact absurd ((x_mk_all (hK p hp) h16).mpr h) hne
          refine r_to 12 60 rfl rfl ?_
          simp only [x_up_app, x_ce_app, x_ce_same, Nat.reduceAdd, Nat.reduceEqDiff, ↓reduceIte, Nat.reduceSub, Nat.reduceMul, reduceCtorEq, nI_add]
          refine ih g' (x_mk_congr a1 (fun i hi => ?_)) (x_mk_congr a2 (fun i hi => ?_)) (fun q => ?_) a4 a5
          · by_cases e : i = p
            · subst e
              simp [hal]
            · simp only [show (i < p + 1) = (i < p) from propext (by omega)]
          · by_cases e : i = p
            · subst e
              simp [hal]
            · simp only [show (i < p + 1) = (i < p) from propext (by omega)]
          · rw [a3 q]
            by_cases e : q = p
            · subst e
              simp [hal]
            · simp only [show (q < p + 1) = (q < p) from propext (by omega)]
        · have hal : x_all c (K p) = true := (x_mk_all (hK p hp) h16).mp heq
          refine r_run 400 rfl rfl ?_
          refine r_inv rfl rfl rfl ?_
          refine c_grSettle d p _ _ (by omega) ?_
          refine r_to 12 60 rfl rfl ?_
          simp only [x_up_app, x_ce_app, x_ce_same, Nat.reduceAdd, Nat.reduceEqDiff, ↓reduceIte, Nat.reduceSub, Nat.reduceMul, reduceCtorEq, nI_add]
          refine ih _ ?_ ?_ (fun q => ?_) ?_ (fun a ha hb => ?_)
          · simp only [x_up_app, x_ce_app, x_ce_same, Nat.reduceAdd, Nat.reduceEqDiff, ↓reduceIte, Nat.reduceSub, Nat.reduceMul, reduceCtorEq]
            refine x_mk_clr a1 hp (by omega) (fun j hj => ?_)
            by_cases e : j = p
            · subst e
              simp [hal]
            · simp only [show (j < p + 1) = (j < p) from propext (by omega)]
              simp [e]
          · simp only [x_up_app, x_ce_app, x_ce_same, Nat.reduceAdd, Nat.reduceEqDiff, ↓reduceIte, Nat.reduceSub, Nat.reduceMul, reduceCtorEq]
            refine x_mk_set a2 hp (by omega) (fun j hj => ?_)
            by_cases e : j = p
            · subst e
              simp [hal, hg]
            · simp only [show (j < p + 1) = (j < p) from propext (by omega)]
              simp [e]
          · simp only [x_up_app, x_ce_app, x_ce_same, Nat.reduceAdd, Nat.reduceEqDiff, ↓reduceIte, Nat.reduceSub, Nat.reduceMul, reduceCtorEq, a4]
            by_cases e : q = p
            · subst e
              simp [hal, hg]
            · rw [if_neg e, a3 q]
              simp only [show (q < p + 1) = (q < p) from propext (by omega)]
          · simp only [x_up_app, x_ce_app, x_ce_same, Nat.reduceAdd, Nat.reduceEqDiff, ↓reduceIte, Nat.reduceSub, Nat.reduceMul, reduceCtorEq, a4]
          · rw [x_up_row hb, x_up_row ha, x_up_row ha]
            exact a5 a ha hb
      · simp only [Nat.lt_irrefl, if_false] at hg
        refine t_eq0 rfl ?_
        refine r_to 12 60 rfl rfl ?_
        simp only [x_up_app, x_ce_app, x_ce_same, Nat.reduceAdd, Nat.reduceEqDiff, ↓reduceIte, Nat.reduceSub, Nat.reduceMul, reduceCtorEq, nI_add]
        refine ih g' (x_mk_congr a1 (fun i hi => ?_)) (x_mk_congr a2 (fun i hi => ?_)) (fun q => ?_) a4 a5
        · by_cases e : i = p
          · subst e
            simp [hg]
          · simp only [show (i < p + 1) = (i < p) from propext (by omega)]
        · by_cases e : i = p
          · subst e
            simp [hg]
          · simp only [show (i < p + 1) = (i < p) from propext (by omega)]
        · rw [a3 q]
          by_cases e : q = p
          · subst e
            simp [hg]
          · simp only [show (q < p + 1) = (q < p) from propext (by omega)]
  refine r_to 12 60 rfl rfl ?_
  have e1 : (nI 1 <<< (g 3 3 &&& 31)) - nI 1 = nI (2 ^ c - 1) := by
    rw [hc, x_shl1 (by omega), pk_sub (by omega)]
  simp only [x_up_app, x_ce_app, x_ce_same, Nat.reduceAdd, Nat.reduceEqDiff, ↓reduceIte, Nat.reduceSub, Nat.reduceMul, reduceCtorEq, e1]
  exact loop 0 (Nat.zero_le _) g (x_mk_congr hG (fun i hi => (if_neg (Nat.not_lt_zero _)).symm)) (x_mk_congr hO (fun i hi => (if_neg (Nat.not_lt_zero _)).symm)) (fun q => by rw [if_neg (fun z => Nat.not_lt_zero _ z.1)]) rfl (fun _ _ _ => rfl)
set_option maxHeartbeats 4000000 in
theorem c_sendOut_137 (d n c : Nat) (g : xG) (Q : xQ) (G O : Nat → Bool) (K : Nat → Nat → Bool) (hn : g 142 9 = nI n) (h12 : n ≤ 12) (hc : g 138 3 = nI c) (h16 : c ≤ 16) (hG : x_mk (g 124 9) n G) (hO : x_mk (g 124 10) n O) (hK : ∀ p, p < n → x_mk (g 126 p) c (K p))
    (k : ∀ g' : xG, x_mk (g' 124 9) n (fun p => G p && !x_all c (K p)) → x_mk (g' 124 10) n (fun p => O p || (G p && x_all c (K p))) → (∀ p, p < n → g' 131 p = if (G p && x_all c (K p)) = true then g 124 11 else g 131 p) → g' 124 11 = g 124 11 → (∀ a, a ≠ 124 → a ≠ 131 → g' a = g a) → Q none g') : Cx (d + 2) i_Grope_sendOut [.ref 124, .ref 138, .ref 142] g Q := by
  refine r_cl (L0 := [some (.ref 124), some (.ref 138), some (.ref 142), none, none]) rfl (Or.inr ⟨_, _, _, rfl, rfl⟩) rfl rfl rfl ?_
  have hpw : (2 : Nat) ^ c ≤ 2 ^ 16 := Nat.pow_le_pow_right (by omega) h16
  have hpw0 := Nat.two_pow_pos c
  have loop : ∀ p, p ≤ n → ∀ g' : xG, x_mk (g' 124 9) n (fun q => if q < p then G q && !x_all c (K q) else G q) → x_mk (g' 124 10) n (fun q => if q < p then O q || (G q && x_all c (K q)) else O q) → (∀ q, g' 131 q = if q < p ∧ (G q && x_all c (K q)) = true then g 124 11 else g 131 q) → g' 124 11 = g 124 11 → (∀ a, a ≠ 124 → a ≠ 131 → g' a = g a) → Rx (d + 1) m_Grope_sendOut Q 12 [some (.ref 124), some (.ref 138), some (.ref 142), some (.int (nI (2 ^ c - 1))), some (.int (nI p))] [] g' := by
    refine r_for ?_ ?_
    · intro g' a1 a2 a3 a4 a5
      refine r_run 400 rfl rfl ?_
      simp only [x_up_app, x_ce_app, x_ce_same, Nat.reduceAdd, Nat.reduceEqDiff, ↓reduceIte, Nat.reduceSub, Nat.reduceMul, reduceCtorEq, a5 142 (by decide) (by decide), hn]
      refine n_ige rfl (by omega) (by omega) (fun _ => ?_) (fun h2 => by omega)
      refine r_run 400 rfl rfl ?_
      refine r_ret rfl rfl (k g' (x_mk_congr a1 (fun i hi => if_pos hi)) (x_mk_congr a2 (fun i hi => if_pos hi)) (fun p hp => ?_) a4 a5)
      rw [a3 p]
      simp only [hp, true_and]
    · intro p hp ih g' a1 a2 a3 a4 a5
      refine r_run 400 rfl rfl ?_
      simp only [x_up_app, x_ce_app, x_ce_same, Nat.reduceAdd, Nat.reduceEqDiff, ↓reduceIte, Nat.reduceSub, Nat.reduceMul, reduceCtorEq, a5 142 (by decide) (by decide), hn]
      refine n_ige rfl (by omega) (by omega) (fun _ => by omega) (fun _ => ?_)
      refine r_run 400 rfl rfl ?_
      refine r_inv rfl rfl rfl ?_
      refine c_gropes d n p g' _ a1 h12 hp (fun hg => ?_) (fun hg => ?_)
      · simp only [Nat.lt_irrefl, if_false] at hg
        refine t_eq1 rfl ?_
        refine r_run 400 rfl rfl ?_
        refine r_ald (j := p) rfl rfl (rfl) (by omega) (Nat.le_of_ble_eq_true rfl) ?_
        refine r_run 400 rfl rfl ?_
        simp only [x_up_app, x_ce_app, x_ce_same, Nat.reduceAdd, Nat.reduceEqDiff, ↓reduceIte, Nat.reduceSub, Nat.reduceMul, reduceCtorEq, a5 126 (by decide) (by decide)]
        refine r_ine rfl (fun hne => ?_) (fun heq => ?_)
        · have hal : x_all c (K p) = false := by
            cases h : x_all c (K p) with
            | false => rfl
            | true => exact absurd ((x_mk_all (hK p hp) h16).mpr h) hne
          refine r_to 12 60 rfl rfl ?_
          simp only [x_up_app, x_ce_app, x_ce_same, Nat.reduceAdd, Nat.reduceEqDiff, ↓reduceIte, Nat.reduceSub, Nat.reduceMul, reduceCtorEq, nI_add]
          refine ih g' (x_mk_congr a1 (fun i hi => ?_)) (x_mk_congr a2 (fun i hi => ?_)) (fun q => ?_) a4 a5
          · by_cases e : i = p
            · subst e
              simp [hal]
            · simp only [show (i < p + 1) = (i < p) from propext (by omega)]
          · by_cases e : i = p
            · subst e
              simp [hal]
            · simp only [show (i < p + 1) = (i < p) from propext (by omega)]
          · rw [a3 q]
            by_cases e : q = p
            · subst e
              simp [hal]
            · simp only [show (q < p + 1) = (q < p) from propext (by omega)]
        · have hal : x_all c (K p) = true := (x_mk_all (hK p hp) h16).mp heq
          refine r_run 400 rfl rfl ?_
          refine r_inv rfl rfl rfl ?_
          refine c_grSettle d p _ _ (by omega) ?_
          refine r_to 12 60 rfl rfl ?_
          simp only [x_up_app, x_ce_app, x_ce_same, Nat.reduceAdd, Nat.reduceEqDiff, ↓reduceIte, Nat.reduceSub, Nat.reduceMul, reduceCtorEq, nI_add]
          refine ih _ ?_ ?_ (fun q => ?_) ?_ (fun a ha hb => ?_)
          · simp only [x_up_app, x_ce_app, x_ce_same, Nat.reduceAdd, Nat.reduceEqDiff, ↓reduceIte, Nat.reduceSub, Nat.reduceMul, reduceCtorEq]
            refine x_mk_clr a1 hp (by omega) (fun j hj => ?_)
            by_cases e : j = p
            · subst e
              simp [hal]
            · simp only [show (j < p + 1) = (j < p) from propext (by omega)]
              simp [e]
          · simp only [x_up_app, x_ce_app, x_ce_same, Nat.reduceAdd, Nat.reduceEqDiff, ↓reduceIte, Nat.reduceSub, Nat.reduceMul, reduceCtorEq]
            refine x_mk_set a2 hp (by omega) (fun j hj => ?_)
            by_cases e : j = p
            · subst e
              simp [hal, hg]
            · simp only [show (j < p + 1) = (j < p) from propext (by omega)]
              simp [e]
          · simp only [x_up_app, x_ce_app, x_ce_same, Nat.reduceAdd, Nat.reduceEqDiff, ↓reduceIte, Nat.reduceSub, Nat.reduceMul, reduceCtorEq, a4]
            by_cases e : q = p
            · subst e
              simp [hal, hg]
            · rw [if_neg e, a3 q]
              simp only [show (q < p + 1) = (q < p) from propext (by omega)]
          · simp only [x_up_app, x_ce_app, x_ce_same, Nat.reduceAdd, Nat.reduceEqDiff, ↓reduceIte, Nat.reduceSub, Nat.reduceMul, reduceCtorEq, a4]
          · rw [x_up_row hb, x_up_row ha, x_up_row ha]
            exact a5 a ha hb
      · simp only [Nat.lt_irrefl, if_false] at hg
        refine t_eq0 rfl ?_
        refine r_to 12 60 rfl rfl ?_
        simp only [x_up_app, x_ce_app, x_ce_same, Nat.reduceAdd, Nat.reduceEqDiff, ↓reduceIte, Nat.reduceSub, Nat.reduceMul, reduceCtorEq, nI_add]
        refine ih g' (x_mk_congr a1 (fun i hi => ?_)) (x_mk_congr a2 (fun i hi => ?_)) (fun q => ?_) a4 a5
        · by_cases e : i = p
          · subst e
            simp [hg]
          · simp only [show (i < p + 1) = (i < p) from propext (by omega)]
        · by_cases e : i = p
          · subst e
            simp [hg]
          · simp only [show (i < p + 1) = (i < p) from propext (by omega)]
        · rw [a3 q]
          by_cases e : q = p
          · subst e
            simp [hg]
          · simp only [show (q < p + 1) = (q < p) from propext (by omega)]
  refine r_to 12 60 rfl rfl ?_
  have e1 : (nI 1 <<< (g 138 3 &&& 31)) - nI 1 = nI (2 ^ c - 1) := by
    rw [hc, x_shl1 (by omega), pk_sub (by omega)]
  simp only [x_up_app, x_ce_app, x_ce_same, Nat.reduceAdd, Nat.reduceEqDiff, ↓reduceIte, Nat.reduceSub, Nat.reduceMul, reduceCtorEq, e1]
  exact loop 0 (Nat.zero_le _) g (x_mk_congr hG (fun i hi => (if_neg (Nat.not_lt_zero _)).symm)) (x_mk_congr hO (fun i hi => (if_neg (Nat.not_lt_zero _)).symm)) (fun q => by rw [if_neg (fun z => Nat.not_lt_zero _ z.1)]) rfl (fun _ _ _ => rfl)
