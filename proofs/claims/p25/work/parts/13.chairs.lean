/-! ===== chairs, players, bells ===== -/
theorem x_up_row {g : xG} {k j a : Nat} {x : Int32} (h : a ≠ k) : x_up g k j x a = g a := by
  funext b
  rw [x_up_app, if_neg h]
/-- how many of the bits below n are set -/
def x_pop (m : Nat) : Nat → Nat
  | 0 => 0
  | n + 1 => x_pop m n + m / 2 ^ n % 2
theorem x_pop_le (m : Nat) : ∀ n, x_pop m n ≤ n
  | 0 => Nat.le_refl _
  | n + 1 => by
    unfold x_pop
    have := x_pop_le m n
    omega
theorem x_pop_1 {m n : Nat} (h : x_bit m n) : x_pop m (n + 1) = x_pop m n + 1 := by
  show x_pop m n + m / 2 ^ n % 2 = _
  rw [h]
theorem x_pop_0 {m n : Nat} (h : ¬ x_bit m n) : x_pop m (n + 1) = x_pop m n := by
  show x_pop m n + m / 2 ^ n % 2 = _
  have : m / 2 ^ n % 2 ≠ 1 := h
  omega
/-- the sum of a row's first n -/
def x_sm (f : Nat → Int32) : Nat → Int32
  | 0 => nI 0
  | n + 1 => x_sm f n + f n
set_option maxHeartbeats 4000000 in
theorem c_min (d a b : Nat) (g : xG) (Q : xQ) (ha : a < 2 ^ 31) (hb : b < 2 ^ 31) (k : Q (some (.int (nI (min a b)))) g) : Cx (d + 1) i_Math_min [.int (nI a), .int (nI b)] g Q := by
  refine r_cl (L0 := [some (.int (nI a)), some (.int (nI b))]) rfl (Or.inl rfl) rfl rfl rfl ?_
  refine r_run 400 rfl rfl ?_
  refine n_igt rfl ha hb (fun h => ?_) (fun h => ?_)
  · refine r_run 400 rfl rfl ?_
    exact r_iret rfl rfl (by rw [Nat.min_eq_right (by omega)] at k; exact k)
  · refine r_run 400 rfl rfl ?_
    exact r_iret rfl rfl (by rw [Nat.min_eq_left h] at k; exact k)
set_option maxHeartbeats 4000000 in
theorem c_max (d : Nat) (x y : Int32) (g : xG) (Q : xQ) (k1 : x < y → Q (some (.int y)) g) (k2 : ¬ x < y → Q (some (.int x)) g) : Cx (d + 1) i_Math_max [.int x, .int y] g Q := by
  refine r_cl (L0 := [some (.int x), some (.int y)]) rfl (Or.inl rfl) rfl rfl rfl ?_
  refine r_run 400 rfl rfl ?_
  refine r_ilt rfl (fun h => ?_) (fun h => ?_)
  · refine r_run 400 rfl rfl ?_
    exact r_iret rfl rfl (k1 h)
  · refine r_run 400 rfl rfl ?_
    exact r_iret rfl rfl (k2 h)
set_option maxHeartbeats 4000000 in
theorem c_Chairs_add_2 (d n : Nat) (t : Int32) (g : xG) (Q : xQ) (hn : g 3 3 = nI n) (h16 : n ≤ 16) (k1 : n = 16 → Q (some (.int (-1000003))) g) (k2 : n < 16 → Q (some (.int (nI n))) (x_up (x_up (x_up (x_up g 4 n t) 5 n (nI 0)) 6 n (-1)) 3 3 (nI (n + 1)))) : Cx (d + 1) i_Chairs_add [.ref 3, .int t] g Q := by
  refine r_cl (L0 := [some (.ref 3), some (.int t)]) rfl (Or.inr ⟨_, _, _, rfl, rfl⟩) rfl rfl rfl ?_
  refine r_run 400 rfl rfl ?_
  simp only [x_up_app, x_ce_app, x_ce_same, Nat.reduceAdd, Nat.reduceEqDiff, ↓reduceIte, Nat.reduceSub, Nat.reduceMul, reduceCtorEq, hn]
  refine n_ilt rfl (by omega) (by omega) (fun h => ?_) (fun h => ?_)
  · refine r_run 400 rfl rfl ?_
    simp only [x_up_app, x_ce_app, x_ce_same, Nat.reduceAdd, Nat.reduceEqDiff, ↓reduceIte, Nat.reduceSub, Nat.reduceMul, reduceCtorEq, hn]
    refine r_ast (j := n) rfl rfl (rfl) (by omega) (Nat.le_of_ble_eq_true rfl) ?_
    refine r_run 400 rfl rfl ?_
    simp only [x_up_app, x_ce_app, x_ce_same, Nat.reduceAdd, Nat.reduceEqDiff, ↓reduceIte, Nat.reduceSub, Nat.reduceMul, reduceCtorEq, hn]
    refine r_ast (j := n) rfl rfl (rfl) (by omega) (Nat.le_of_ble_eq_true rfl) ?_
    refine r_run 400 rfl rfl ?_
    simp only [x_up_app, x_ce_app, x_ce_same, Nat.reduceAdd, Nat.reduceEqDiff, ↓reduceIte, Nat.reduceSub, Nat.reduceMul, reduceCtorEq, hn]
    refine r_ast (j := n) rfl rfl (rfl) (by omega) (Nat.le_of_ble_eq_true rfl) ?_
    refine r_run 400 rfl rfl ?_
    simp only [x_up_app, x_ce_app, x_ce_same, Nat.reduceAdd, Nat.reduceEqDiff, ↓reduceIte, Nat.reduceSub, Nat.reduceMul, reduceCtorEq, hn, nI_add]
    exact r_iret rfl rfl (by rw [pk_sub (by omega), show n + 1 - 1 = n by omega]; exact k2 h)
  · refine r_run 400 rfl rfl ?_
    exact r_iret rfl rfl (k1 (by omega))
set_option maxHeartbeats 4000000 in
theorem c_forget_2 (d n : Nat) (g : xG) (Q : xQ) (hn : g 3 3 = nI n) (h16 : n ≤ 16) (k : ∀ g' : xG, (∀ i, i < n → g' 6 i = -1) → (∀ a, a ≠ 6 → g' a = g a) → Q none g') : Cx (d + 1) i_Chairs_forgetSitters [.ref 3] g Q := by
  refine r_cl (L0 := [some (.ref 3), none]) rfl (Or.inr ⟨_, _, _, rfl, rfl⟩) rfl rfl rfl ?_
  have loop : ∀ p, p ≤ n → ∀ g' : xG, (∀ i, i < p → g' 6 i = -1) → (∀ a, a ≠ 6 → g' a = g a) → Rx d m_Chairs_forgetSitters Q 2 [some (.ref 3), some (.int (nI p))] [] g' := by
    refine r_for ?_ ?_
    · intro g' h1 h2
      refine r_run 400 rfl rfl ?_
      simp only [x_up_app, x_ce_app, x_ce_same, Nat.reduceAdd, Nat.reduceEqDiff, ↓reduceIte, Nat.reduceSub, Nat.reduceMul, reduceCtorEq, h2 3 (by decide), hn]
      refine n_ige rfl (by omega) (by omega) (fun _ => ?_) (fun h2 => by omega)
      refine r_run 400 rfl rfl ?_
      exact r_ret rfl rfl (k g' h1 h2)
    · intro p hp ih g' h1 h2
      refine r_run 400 rfl rfl ?_
      simp only [x_up_app, x_ce_app, x_ce_same, Nat.reduceAdd, Nat.reduceEqDiff, ↓reduceIte, Nat.reduceSub, Nat.reduceMul, reduceCtorEq, h2 3 (by decide), hn]
      refine n_ige rfl (by omega) (by omega) (fun _ => by omega) (fun _ => ?_)
      refine r_run 400 rfl rfl ?_
      refine r_ast (j := p) rfl rfl (rfl) (by omega) (Nat.le_of_ble_eq_true rfl) ?_
      refine r_to 2 60 rfl rfl ?_
      simp only [x_up_app, x_ce_app, x_ce_same, Nat.reduceAdd, Nat.reduceEqDiff, ↓reduceIte, Nat.reduceSub, Nat.reduceMul, reduceCtorEq, nI_add]
      refine ih _ (fun i hi => ?_) (fun a ha => ?_)
      · simp only [x_up_app, x_ce_app, x_ce_same, Nat.reduceAdd, Nat.reduceEqDiff, ↓reduceIte, Nat.reduceSub, Nat.reduceMul, reduceCtorEq]
        split
        · rfl
        · exact h1 i (by omega)
      · rw [x_up_row ha]
        exact h2 a ha
  refine r_to 2 60 rfl rfl ?_
  exact loop 0 (Nat.zero_le _) g (fun i hi => absurd hi (Nat.not_lt_zero _)) (fun _ _ => rfl)
set_option maxHeartbeats 4000000 in
theorem c_seat_2 (d c : Nat) (p : Int32) (g : xG) (Q : xQ) (hc : c < 16) (k : Q none (x_up (x_up g 6 c p) 5 c (g 5 c + nI 1))) : Cx (d + 1) i_Chairs_seat [.ref 3, .int (nI c), .int p] g Q := by
  refine r_cl (L0 := [some (.ref 3), some (.int (nI c)), some (.int p)]) rfl (Or.inr ⟨_, _, _, rfl, rfl⟩) rfl rfl rfl ?_
  refine r_run 400 rfl rfl ?_
  refine r_ast (j := c) rfl rfl (rfl) (by omega) (Nat.le_of_ble_eq_true rfl) ?_
  refine r_run 400 rfl rfl ?_
  refine r_ald (j := c) rfl rfl (rfl) (by omega) (Nat.le_of_ble_eq_true rfl) ?_
  refine r_run 400 rfl rfl ?_
  simp only [x_up_app, x_ce_app, x_ce_same, Nat.reduceAdd, Nat.reduceEqDiff, ↓reduceIte, Nat.reduceSub, Nat.reduceMul, reduceCtorEq]
  refine r_ast (j := c) rfl rfl (rfl) (by omega) (Nat.le_of_ble_eq_true rfl) ?_
  refine r_run 400 rfl rfl ?_
  exact r_ret rfl rfl k
set_option maxHeartbeats 4000000 in
theorem c_takeAway_2 (d n w : Nat) (g : xG) (Q : xQ) (hn : g 3 3 = nI n) (h16 : n ≤ 16) (hw : w < n) (k : ∀ g' : xG, (∀ r, 4 ≤ r → r ≤ 6 → (∀ i, i < w → g' r i = g r i) ∧ (∀ i, w ≤ i → i < n - 1 → g' r i = g r (i + 1))) → g' 3 3 = nI (n - 1) → (∀ a, (a < 3 ∨ 6 < a) → g' a = g a) → Q none g') : Cx (d + 1) i_Chairs_takeAway [.ref 3, .int (nI w)] g Q := by
  refine r_cl (L0 := [some (.ref 3), some (.int (nI w)), none]) rfl (Or.inr ⟨_, _, _, rfl, rfl⟩) rfl rfl rfl ?_
  have loop : ∀ p, p ≤ n - 1 → w ≤ p → ∀ g' : xG, (∀ r, 4 ≤ r → r ≤ 6 → (∀ i, (i < w ∨ p ≤ i) → g' r i = g r i) ∧ (∀ i, w ≤ i → i < p → g' r i = g r (i + 1))) → (∀ a, (a < 4 ∨ 6 < a) → g' a = g a) → Rx d m_Chairs_takeAway Q 2 [some (.ref 3), some (.int (nI w)), some (.int (nI p))] [] g' := by
    refine r_for ?_ ?_
    · intro hwp g' h1 h2
      refine r_run 400 rfl rfl ?_
      simp only [x_up_app, x_ce_app, x_ce_same, Nat.reduceAdd, Nat.reduceEqDiff, ↓reduceIte, Nat.reduceSub, Nat.reduceMul, reduceCtorEq, h2 3 (by decide), hn]
      rw [pk_sub (by omega)]
      refine n_ige rfl (by omega) (by omega) (fun _ => ?_) (fun h2 => by omega)
      refine r_run 400 rfl rfl ?_
      simp only [x_up_app, x_ce_app, x_ce_same, Nat.reduceAdd, Nat.reduceEqDiff, ↓reduceIte, Nat.reduceSub, Nat.reduceMul, reduceCtorEq, h2 3 (by decide), hn]
      rw [pk_sub (by omega)]
      refine r_ret rfl rfl (k _ (fun r hr1 hr2 => ?_) ?_ (fun a ha => ?_))
      · obtain ⟨h3, h4⟩ := h1 r hr1 hr2
        rw [x_up_row (by omega)]
        exact ⟨fun i hi => h3 i (Or.inl hi), h4⟩
      · simp only [x_up_app, x_ce_app, x_ce_same, Nat.reduceAdd, Nat.reduceEqDiff, ↓reduceIte, Nat.reduceSub, Nat.reduceMul, reduceCtorEq]
      · rw [x_up_row (by omega)]
        exact h2 a (by omega)
    · intro p hp ih hwp g' h1 h2
      refine r_run 400 rfl rfl ?_
      simp only [x_up_app, x_ce_app, x_ce_same, Nat.reduceAdd, Nat.reduceEqDiff, ↓reduceIte, Nat.reduceSub, Nat.reduceMul, reduceCtorEq, h2 3 (by decide), hn]
      rw [pk_sub (by omega)]
      refine n_ige rfl (by omega) (by omega) (fun _ => by omega) (fun _ => ?_)
      refine r_run 400 rfl rfl ?_
      simp only [x_up_app, x_ce_app, x_ce_same, Nat.reduceAdd, Nat.reduceEqDiff, ↓reduceIte, Nat.reduceSub, Nat.reduceMul, reduceCtorEq, nI_add]
      refine r_ald (j := p + 1) rfl rfl (rfl) (by omega) (Nat.le_of_ble_eq_true rfl) ?_
      refine r_run 400 rfl rfl ?_
      refine r_ast (j := p) rfl rfl (rfl) (by omega) (Nat.le_of_ble_eq_true rfl) ?_
      refine r_run 400 rfl rfl ?_
      simp only [x_up_app, x_ce_app, x_ce_same, Nat.reduceAdd, Nat.reduceEqDiff, ↓reduceIte, Nat.reduceSub, Nat.reduceMul, reduceCtorEq, nI_add]
      refine r_ald (j := p + 1) rfl rfl (rfl) (by omega) (Nat.le_of_ble_eq_true rfl) ?_
      refine r_run 400 rfl rfl ?_
      refine r_ast (j := p) rfl rfl (rfl) (by omega) (Nat.le_of_ble_eq_true rfl) ?_
      refine r_run 400 rfl rfl ?_
      simp only [x_up_app, x_ce_app, x_ce_same, Nat.reduceAdd, Nat.reduceEqDiff, ↓reduceIte, Nat.reduceSub, Nat.reduceMul, reduceCtorEq, nI_add]
      refine r_ald (j := p + 1) rfl rfl (rfl) (by omega) (Nat.le_of_ble_eq_true rfl) ?_
      refine r_run 400 rfl rfl ?_
      refine r_ast (j := p) rfl rfl (rfl) (by omega) (Nat.le_of_ble_eq_true rfl) ?_
      refine r_to 2 60 rfl rfl ?_
      simp only [x_up_app, x_ce_app, x_ce_same, Nat.reduceAdd, Nat.reduceEqDiff, ↓reduceIte, Nat.reduceSub, Nat.reduceMul, reduceCtorEq, nI_add]
      refine ih (by omega) _ (fun r hr1 hr2 => ?_) (fun a ha => ?_)
      · obtain ⟨h3, h4⟩ := h1 r hr1 hr2
        refine ⟨fun i hi => ?_, fun i hi1 hi2 => ?_⟩
        · simp only [x_up_app, if_neg (by omega : ¬ i = p), ite_self]
          exact h3 i (by omega)
        · by_cases hip : i = p
          · subst hip
            have hr : r = 4 ∨ r = 5 ∨ r = 6 := by omega
            rcases hr with rfl | rfl | rfl
            · simp only [x_up_app, x_ce_app, x_ce_same, Nat.reduceAdd, Nat.reduceEqDiff, ↓reduceIte, Nat.reduceSub, Nat.reduceMul, reduceCtorEq]
              exact h3 (i + 1) (by omega)
            · simp only [x_up_app, x_ce_app, x_ce_same, Nat.reduceAdd, Nat.reduceEqDiff, ↓reduceIte, Nat.reduceSub, Nat.reduceMul, reduceCtorEq]
              exact h3 (i + 1) (by omega)
            · simp only [x_up_app, x_ce_app, x_ce_same, Nat.reduceAdd, Nat.reduceEqDiff, ↓reduceIte, Nat.reduceSub, Nat.reduceMul, reduceCtorEq]
              exact h3 (i + 1) (by omega)
          · simp only [x_up_app, if_neg hip, ite_self]
            exact h4 i hi1 (by omega)
      · rw [x_up_row (by omega), x_up_row (by omega), x_up_row (by omega)]
        exact h2 a ha
  refine r_to 2 60 rfl rfl ?_
  exact loop w (by omega) (Nat.le_refl _) g (fun r _ _ => ⟨fun _ _ => rfl, fun i h1 h2 => by omega⟩) (fun _ _ => rfl)
set_option maxHeartbeats 4000000 in
theorem c_Players_add_2 (d n : Nat) (s e : Int32) (g : xG) (Q : xQ) (hn : g 7 9 = nI n) (h12 : n ≤ 12) (k1 : n = 12 → Q (some (.int (-1000003))) g) (k2 : n < 12 → Q (some (.int (nI n))) (x_up (x_up (x_up (x_up (x_up (x_up (x_up (x_up (x_up (x_up g 8 n s) 9 n e) 10 n (nI 0)) 11 n (nI 0)) 12 n (nI 0)) 13 n (nI 0)) 14 n (nI 0)) 15 n (nI 0)) 7 8 (g 7 8 ||| (nI 1 <<< (nI n &&& 31)))) 7 9 (nI (n + 1)))) : Cx (d + 1) i_Players_add [.ref 7, .int s, .int e] g Q := by
  refine r_cl (L0 := [some (.ref 7), some (.int s), some (.int e)]) rfl (Or.inr ⟨_, _, _, rfl, rfl⟩) rfl rfl rfl ?_
  refine r_run 400 rfl rfl ?_
  simp only [x_up_app, x_ce_app, x_ce_same, Nat.reduceAdd, Nat.reduceEqDiff, ↓reduceIte, Nat.reduceSub, Nat.reduceMul, reduceCtorEq, hn]
  refine n_ilt rfl (by omega) (by omega) (fun h => ?_) (fun h => ?_)
  · refine r_run 400 rfl rfl ?_
    simp only [x_up_app, x_ce_app, x_ce_same, Nat.reduceAdd, Nat.reduceEqDiff, ↓reduceIte, Nat.reduceSub, Nat.reduceMul, reduceCtorEq, hn]
    refine r_ast (j := n) rfl rfl (rfl) (by omega) (Nat.le_of_ble_eq_true rfl) ?_
    refine r_run 400 rfl rfl ?_
    simp only [x_up_app, x_ce_app, x_ce_same, Nat.reduceAdd, Nat.reduceEqDiff, ↓reduceIte, Nat.reduceSub, Nat.reduceMul, reduceCtorEq, hn]
    refine r_ast (j := n) rfl rfl (rfl) (by omega) (Nat.le_of_ble_eq_true rfl) ?_
    refine r_run 400 rfl rfl ?_
    simp only [x_up_app, x_ce_app, x_ce_same, Nat.reduceAdd, Nat.reduceEqDiff, ↓reduceIte, Nat.reduceSub, Nat.reduceMul, reduceCtorEq, hn]
    refine r_ast (j := n) rfl rfl (rfl) (by omega) (Nat.le_of_ble_eq_true rfl) ?_
    refine r_run 400 rfl rfl ?_
    simp only [x_up_app, x_ce_app, x_ce_same, Nat.reduceAdd, Nat.reduceEqDiff, ↓reduceIte, Nat.reduceSub, Nat.reduceMul, reduceCtorEq, hn]
    refine r_ast (j := n) rfl rfl (rfl) (by omega) (Nat.le_of_ble_eq_true rfl) ?_
    refine r_run 400 rfl rfl ?_
    simp only [x_up_app, x_ce_app, x_ce_same, Nat.reduceAdd, Nat.reduceEqDiff, ↓reduceIte, Nat.reduceSub, Nat.reduceMul, reduceCtorEq, hn]
    refine r_ast (j := n) rfl rfl (rfl) (by omega) (Nat.le_of_ble_eq_true rfl) ?_
    refine r_run 400 rfl rfl ?_
    simp only [x_up_app, x_ce_app, x_ce_same, Nat.reduceAdd, Nat.reduceEqDiff, ↓reduceIte, Nat.reduceSub, Nat.reduceMul, reduceCtorEq, hn]
    refine r_ast (j := n) rfl rfl (rfl) (by omega) (Nat.le_of_ble_eq_true rfl) ?_
    refine r_run 400 rfl rfl ?_
    simp only [x_up_app, x_ce_app, x_ce_same, Nat.reduceAdd, Nat.reduceEqDiff, ↓reduceIte, Nat.reduceSub, Nat.reduceMul, reduceCtorEq, hn]
    refine r_ast (j := n) rfl rfl (rfl) (by omega) (Nat.le_of_ble_eq_true rfl) ?_
    refine r_run 400 rfl rfl ?_
    simp only [x_up_app, x_ce_app, x_ce_same, Nat.reduceAdd, Nat.reduceEqDiff, ↓reduceIte, Nat.reduceSub, Nat.reduceMul, reduceCtorEq, hn]
    refine r_ast (j := n) rfl rfl (rfl) (by omega) (Nat.le_of_ble_eq_true rfl) ?_
    refine r_run 400 rfl rfl ?_
    simp only [x_up_app, x_ce_app, x_ce_same, Nat.reduceAdd, Nat.reduceEqDiff, ↓reduceIte, Nat.reduceSub, Nat.reduceMul, reduceCtorEq, hn, nI_add]
    exact r_iret rfl rfl (by rw [pk_sub (by omega), show n + 1 - 1 = n by omega]; exact k2 h)
  · refine r_run 400 rfl rfl ?_
    exact r_iret rfl rfl (k1 (by omega))
set_option maxHeartbeats 4000000 in
theorem c_sum_2 (d n r : Nat) (g : xG) (Q : xQ) (hn : g 7 9 = nI n) (h12 : n ≤ 12) (hr : SK[r]? = some (.inl 12)) (k : Q (some (.int (x_sm (g (r + 1)) n))) g) : Cx (d + 1) i_Players_sum [.ref 7, .ref (r + 1)] g Q := by
  refine r_cl (L0 := [some (.ref 7), some (.ref (r + 1)), none, none]) rfl (Or.inr ⟨_, _, _, rfl, rfl⟩) rfl rfl rfl ?_
  have loop : ∀ p, p ≤ n → Rx d m_Players_sum Q 4 [some (.ref 7), some (.ref (r + 1)), some (.int (x_sm (g (r + 1)) p)), some (.int (nI p))] [] g := by
    refine r_for ?_ ?_
    · refine r_run 400 rfl rfl ?_
      simp only [x_up_app, x_ce_app, x_ce_same, Nat.reduceAdd, Nat.reduceEqDiff, ↓reduceIte, Nat.reduceSub, Nat.reduceMul, reduceCtorEq, hn]
      refine n_ige rfl (by omega) (by omega) (fun _ => ?_) (fun h2 => by omega)
      refine r_run 400 rfl rfl ?_
      exact r_iret rfl rfl k
    · intro p hp ih
      refine r_run 400 rfl rfl ?_
      simp only [x_up_app, x_ce_app, x_ce_same, Nat.reduceAdd, Nat.reduceEqDiff, ↓reduceIte, Nat.reduceSub, Nat.reduceMul, reduceCtorEq, hn]
      refine n_ige rfl (by omega) (by omega) (fun _ => by omega) (fun _ => ?_)
      refine r_run 400 rfl rfl ?_
      refine r_ald (j := p) rfl hr rfl (by omega) (Nat.le_of_ble_eq_true rfl) ?_
      refine r_to 4 60 rfl rfl ?_
      simp only [x_up_app, x_ce_app, x_ce_same, Nat.reduceAdd, Nat.reduceEqDiff, ↓reduceIte, Nat.reduceSub, Nat.reduceMul, reduceCtorEq, nI_add]
      exact ih
  refine r_to 4 60 rfl rfl ?_
  exact loop 0 (Nat.zero_le _)
set_option maxHeartbeats 4000000 in
theorem c_lineUp_2 (d n c m : Nat) (g : xG) (Q : xQ) (hn : g 7 9 = nI n) (h12 : n ≤ 12) (hc : g 3 3 = nI c) (hc1 : 1 ≤ c) (hc16 : c ≤ 16) (hm : g 7 8 = nI m) (hm2 : m < 2 ^ 31) (k : ∀ g' : xG, (∀ p, p < n → x_bit m p → g' 10 p = nI (x_pop m p % c)) → (∀ p, ¬ x_bit m p → g' 10 p = g 10 p) → (∀ a, a ≠ 10 → g' a = g a) → Q none g') : Cx (d + 2) i_Players_lineUp [.ref 7, .ref 3] g Q := by
  refine r_cl (L0 := [some (.ref 7), some (.ref 3), none, none]) rfl (Or.inr ⟨_, _, _, rfl, rfl⟩) rfl rfl rfl ?_
  have loop : ∀ p, p ≤ n → ∀ g' : xG, (∀ q, q < p → x_bit m q → g' 10 q = nI (x_pop m q % c)) → (∀ q, ¬ x_bit m q → g' 10 q = g 10 q) → (∀ a, a ≠ 10 → g' a = g a) → Rx (d + 1) m_Players_lineUp Q 4 [some (.ref 7), some (.ref 3), some (.int (nI (x_pop m p))), some (.int (nI p))] [] g' := by
    refine r_for ?_ ?_
    · intro g' h1 h0 h2
      refine r_run 400 rfl rfl ?_
      simp only [x_up_app, x_ce_app, x_ce_same, Nat.reduceAdd, Nat.reduceEqDiff, ↓reduceIte, Nat.reduceSub, Nat.reduceMul, reduceCtorEq, h2 7 (by decide), hn]
      refine n_ige rfl (by omega) (by omega) (fun _ => ?_) (fun h2 => by omega)
      refine r_run 400 rfl rfl ?_
      exact r_ret rfl rfl (k g' h1 h0 h2)
    · intro p hp ih g' h1 h0 h2
      have hpl := x_pop_le m p
      refine r_run 400 rfl rfl ?_
      simp only [x_up_app, x_ce_app, x_ce_same, Nat.reduceAdd, Nat.reduceEqDiff, ↓reduceIte, Nat.reduceSub, Nat.reduceMul, reduceCtorEq, h2 7 (by decide), hn]
      refine n_ige rfl (by omega) (by omega) (fun _ => by omega) (fun _ => ?_)
      refine r_run 400 rfl rfl ?_
      refine r_inv rfl rfl rfl ?_
      refine c_isPlaying_2 d p g' _ (by rw [h2 7 (by decide)]; exact hm) hm2 (by omega) (fun hb => ?_) (fun hb => ?_)
      · refine t_eq1 rfl ?_
        refine r_run 400 rfl rfl ?_
        refine r_inv rfl rfl rfl ?_
        refine c_Chairs_onFrom_2 d 0 (x_pop m p) g' _ (by rw [h2 3 (by decide)]; exact hc) hc1 hc16 (by omega) ?_
        refine r_ast (j := p) rfl rfl rfl (by omega) (Nat.le_of_ble_eq_true rfl) ?_
        refine r_to 4 60 rfl rfl ?_
        simp only [x_up_app, x_ce_app, x_ce_same, Nat.reduceAdd, Nat.reduceEqDiff, ↓reduceIte, Nat.reduceSub, Nat.reduceMul, reduceCtorEq, nI_add]
        rw [← x_pop_1 hb]
        refine ih _ (fun q hq hqb => ?_) (fun q hqb => ?_) (fun a ha => ?_)
        · simp only [x_up_app, x_ce_app, x_ce_same, Nat.reduceAdd, Nat.reduceEqDiff, ↓reduceIte, Nat.reduceSub, Nat.reduceMul, reduceCtorEq]
          split
          · rename_i e
            subst e
            rw [Nat.zero_add]
          · exact h1 q (by omega) hqb
        · have hne : ¬ q = p := fun e => by subst e; exact hqb hb
          simp only [x_up_app, x_ce_app, x_ce_same, Nat.reduceAdd, Nat.reduceEqDiff, ↓reduceIte, Nat.reduceSub, Nat.reduceMul, reduceCtorEq, if_neg hne]
          exact h0 q hqb
        · rw [x_up_row ha]
          exact h2 a ha
      · refine t_eq0 rfl ?_
        refine r_to 4 60 rfl rfl ?_
        simp only [x_up_app, x_ce_app, x_ce_same, Nat.reduceAdd, Nat.reduceEqDiff, ↓reduceIte, Nat.reduceSub, Nat.reduceMul, reduceCtorEq, nI_add]
        rw [← x_pop_0 hb]
        refine ih _ (fun q hq hqb => ?_) h0 h2
        by_cases e : q = p
        · subst e
          exact absurd hqb hb
        · exact h1 q (by omega) hqb
  refine r_to 4 60 rfl rfl ?_
  exact loop 0 (Nat.zero_le _) g (fun i hi => absurd hi (Nat.not_lt_zero _)) (fun _ _ => rfl) (fun _ _ => rfl)
set_option maxHeartbeats 4000000 in
theorem c_Chairs_add_137 (d n : Nat) (t : Int32) (g : xG) (Q : xQ) (hn : g 138 3 = nI n) (h16 : n ≤ 16) (k1 : n = 16 → Q (some (.int (-1000003))) g) (k2 : n < 16 → Q (some (.int (nI n))) (x_up (x_up (x_up (x_up g 139 n t) 140 n (nI 0)) 141 n (-1)) 138 3 (nI (n + 1)))) : Cx (d + 1) i_Chairs_add [.ref 138, .int t] g Q := by
  refine r_cl (L0 := [some (.ref 138), some (.int t)]) rfl (Or.inr ⟨_, _, _, rfl, rfl⟩) rfl rfl rfl ?_
  refine r_run 400 rfl rfl ?_
  simp only [x_up_app, x_ce_app, x_ce_same, Nat.reduceAdd, Nat.reduceEqDiff, ↓reduceIte, Nat.reduceSub, Nat.reduceMul, reduceCtorEq, hn]
  refine n_ilt rfl (by omega) (by omega) (fun h => ?_) (fun h => ?_)
  · refine r_run 400 rfl rfl ?_
    simp only [x_up_app, x_ce_app, x_ce_same, Nat.reduceAdd, Nat.reduceEqDiff, ↓reduceIte, Nat.reduceSub, Nat.reduceMul, reduceCtorEq, hn]
    refine r_ast (j := n) rfl rfl (rfl) (by omega) (Nat.le_of_ble_eq_true rfl) ?_
    refine r_run 400 rfl rfl ?_
    simp only [x_up_app, x_ce_app, x_ce_same, Nat.reduceAdd, Nat.reduceEqDiff, ↓reduceIte, Nat.reduceSub, Nat.reduceMul, reduceCtorEq, hn]
    refine r_ast (j := n) rfl rfl (rfl) (by omega) (Nat.le_of_ble_eq_true rfl) ?_
    refine r_run 400 rfl rfl ?_
    simp only [x_up_app, x_ce_app, x_ce_same, Nat.reduceAdd, Nat.reduceEqDiff, ↓reduceIte, Nat.reduceSub, Nat.reduceMul, reduceCtorEq, hn]
    refine r_ast (j := n) rfl rfl (rfl) (by omega) (Nat.le_of_ble_eq_true rfl) ?_
    refine r_run 400 rfl rfl ?_
    simp only [x_up_app, x_ce_app, x_ce_same, Nat.reduceAdd, Nat.reduceEqDiff, ↓reduceIte, Nat.reduceSub, Nat.reduceMul, reduceCtorEq, hn, nI_add]
    exact r_iret rfl rfl (by rw [pk_sub (by omega), show n + 1 - 1 = n by omega]; exact k2 h)
  · refine r_run 400 rfl rfl ?_
    exact r_iret rfl rfl (k1 (by omega))
set_option maxHeartbeats 4000000 in
theorem c_forget_137 (d n : Nat) (g : xG) (Q : xQ) (hn : g 138 3 = nI n) (h16 : n ≤ 16) (k : ∀ g' : xG, (∀ i, i < n → g' 141 i = -1) → (∀ a, a ≠ 141 → g' a = g a) → Q none g') : Cx (d + 1) i_Chairs_forgetSitters [.ref 138] g Q := by
  refine r_cl (L0 := [some (.ref 138), none]) rfl (Or.inr ⟨_, _, _, rfl, rfl⟩) rfl rfl rfl ?_
  have loop : ∀ p, p ≤ n → ∀ g' : xG, (∀ i, i < p → g' 141 i = -1) → (∀ a, a ≠ 141 → g' a = g a) → Rx d m_Chairs_forgetSitters Q 2 [some (.ref 138), some (.int (nI p))] [] g' := by
    refine r_for ?_ ?_
    · intro g' h1 h2
      refine r_run 400 rfl rfl ?_
      simp only [x_up_app, x_ce_app, x_ce_same, Nat.reduceAdd, Nat.reduceEqDiff, ↓reduceIte, Nat.reduceSub, Nat.reduceMul, reduceCtorEq, h2 138 (by decide), hn]
      refine n_ige rfl (by omega) (by omega) (fun _ => ?_) (fun h2 => by omega)
      refine r_run 400 rfl rfl ?_
      exact r_ret rfl rfl (k g' h1 h2)
    · intro p hp ih g' h1 h2
      refine r_run 400 rfl rfl ?_
      simp only [x_up_app, x_ce_app, x_ce_same, Nat.reduceAdd, Nat.reduceEqDiff, ↓reduceIte, Nat.reduceSub, Nat.reduceMul, reduceCtorEq, h2 138 (by decide), hn]
      refine n_ige rfl (by omega) (by omega) (fun _ => by omega) (fun _ => ?_)
      refine r_run 400 rfl rfl ?_
      refine r_ast (j := p) rfl rfl (rfl) (by omega) (Nat.le_of_ble_eq_true rfl) ?_
      refine r_to 2 60 rfl rfl ?_
      simp only [x_up_app, x_ce_app, x_ce_same, Nat.reduceAdd, Nat.reduceEqDiff, ↓reduceIte, Nat.reduceSub, Nat.reduceMul, reduceCtorEq, nI_add]
      refine ih _ (fun i hi => ?_) (fun a ha => ?_)
      · simp only [x_up_app, x_ce_app, x_ce_same, Nat.reduceAdd, Nat.reduceEqDiff, ↓reduceIte, Nat.reduceSub, Nat.reduceMul, reduceCtorEq]
        split
        · rfl
        · exact h1 i (by omega)
      · rw [x_up_row ha]
        exact h2 a ha
  refine r_to 2 60 rfl rfl ?_
  exact loop 0 (Nat.zero_le _) g (fun i hi => absurd hi (Nat.not_lt_zero _)) (fun _ _ => rfl)
set_option maxHeartbeats 4000000 in
theorem c_seat_137 (d c : Nat) (p : Int32) (g : xG) (Q : xQ) (hc : c < 16) (k : Q none (x_up (x_up g 141 c p) 140 c (g 140 c + nI 1))) : Cx (d + 1) i_Chairs_seat [.ref 138, .int (nI c), .int p] g Q := by
  refine r_cl (L0 := [some (.ref 138), some (.int (nI c)), some (.int p)]) rfl (Or.inr ⟨_, _, _, rfl, rfl⟩) rfl rfl rfl ?_
  refine r_run 400 rfl rfl ?_
  refine r_ast (j := c) rfl rfl (rfl) (by omega) (Nat.le_of_ble_eq_true rfl) ?_
  refine r_run 400 rfl rfl ?_
  refine r_ald (j := c) rfl rfl (rfl) (by omega) (Nat.le_of_ble_eq_true rfl) ?_
  refine r_run 400 rfl rfl ?_
  simp only [x_up_app, x_ce_app, x_ce_same, Nat.reduceAdd, Nat.reduceEqDiff, ↓reduceIte, Nat.reduceSub, Nat.reduceMul, reduceCtorEq]
  refine r_ast (j := c) rfl rfl (rfl) (by omega) (Nat.le_of_ble_eq_true rfl) ?_
  refine r_run 400 rfl rfl ?_
  exact r_ret rfl rfl k
set_option maxHeartbeats 4000000 in
theorem c_takeAway_137 (d n w : Nat) (g : xG) (Q : xQ) (hn : g 138 3 = nI n) (h16 : n ≤ 16) (hw : w < n) (k : ∀ g' : xG, (∀ r, 139 ≤ r → r ≤ 141 → (∀ i, i < w → g' r i = g r i) ∧ (∀ i, w ≤ i → i < n - 1 → g' r i = g r (i + 1))) → g' 138 3 = nI (n - 1) → (∀ a, (a < 138 ∨ 141 < a) → g' a = g a) → Q none g') : Cx (d + 1) i_Chairs_takeAway [.ref 138, .int (nI w)] g Q := by
  refine r_cl (L0 := [some (.ref 138), some (.int (nI w)), none]) rfl (Or.inr ⟨_, _, _, rfl, rfl⟩) rfl rfl rfl ?_
  have loop : ∀ p, p ≤ n - 1 → w ≤ p → ∀ g' : xG, (∀ r, 139 ≤ r → r ≤ 141 → (∀ i, (i < w ∨ p ≤ i) → g' r i = g r i) ∧ (∀ i, w ≤ i → i < p → g' r i = g r (i + 1))) → (∀ a, (a < 139 ∨ 141 < a) → g' a = g a) → Rx d m_Chairs_takeAway Q 2 [some (.ref 138), some (.int (nI w)), some (.int (nI p))] [] g' := by
    refine r_for ?_ ?_
    · intro hwp g' h1 h2
      refine r_run 400 rfl rfl ?_
      simp only [x_up_app, x_ce_app, x_ce_same, Nat.reduceAdd, Nat.reduceEqDiff, ↓reduceIte, Nat.reduceSub, Nat.reduceMul, reduceCtorEq, h2 138 (by decide), hn]
      rw [pk_sub (by omega)]
      refine n_ige rfl (by omega) (by omega) (fun _ => ?_) (fun h2 => by omega)
      refine r_run 400 rfl rfl ?_
      simp only [x_up_app, x_ce_app, x_ce_same, Nat.reduceAdd, Nat.reduceEqDiff, ↓reduceIte, Nat.reduceSub, Nat.reduceMul, reduceCtorEq, h2 138 (by decide), hn]
      rw [pk_sub (by omega)]
      refine r_ret rfl rfl (k _ (fun r hr1 hr2 => ?_) ?_ (fun a ha => ?_))
      · obtain ⟨h3, h4⟩ := h1 r hr1 hr2
        rw [x_up_row (by omega)]
        exact ⟨fun i hi => h3 i (Or.inl hi), h4⟩
      · simp only [x_up_app, x_ce_app, x_ce_same, Nat.reduceAdd, Nat.reduceEqDiff, ↓reduceIte, Nat.reduceSub, Nat.reduceMul, reduceCtorEq]
      · rw [x_up_row (by omega)]
        exact h2 a (by omega)
    · intro p hp ih hwp g' h1 h2
      refine r_run 400 rfl rfl ?_
      simp only [x_up_app, x_ce_app, x_ce_same, Nat.reduceAdd, Nat.reduceEqDiff, ↓reduceIte, Nat.reduceSub, Nat.reduceMul, reduceCtorEq, h2 138 (by decide), hn]
      rw [pk_sub (by omega)]
      refine n_ige rfl (by omega) (by omega) (fun _ => by omega) (fun _ => ?_)
      refine r_run 400 rfl rfl ?_
      simp only [x_up_app, x_ce_app, x_ce_same, Nat.reduceAdd, Nat.reduceEqDiff, ↓reduceIte, Nat.reduceSub, Nat.reduceMul, reduceCtorEq, nI_add]
      refine r_ald (j := p + 1) rfl rfl (rfl) (by omega) (Nat.le_of_ble_eq_true rfl) ?_
      refine r_run 400 rfl rfl ?_
      refine r_ast (j := p) rfl rfl (rfl) (by omega) (Nat.le_of_ble_eq_true rfl) ?_
      refine r_run 400 rfl rfl ?_
      simp only [x_up_app, x_ce_app, x_ce_same, Nat.reduceAdd, Nat.reduceEqDiff, ↓reduceIte, Nat.reduceSub, Nat.reduceMul, reduceCtorEq, nI_add]
      refine r_ald (j := p + 1) rfl rfl (rfl) (by omega) (Nat.le_of_ble_eq_true rfl) ?_
      refine r_run 400 rfl rfl ?_
      refine r_ast (j := p) rfl rfl (rfl) (by omega) (Nat.le_of_ble_eq_true rfl) ?_
      refine r_run 400 rfl rfl ?_
      simp only [x_up_app, x_ce_app, x_ce_same, Nat.reduceAdd, Nat.reduceEqDiff, ↓reduceIte, Nat.reduceSub, Nat.reduceMul, reduceCtorEq, nI_add]
      refine r_ald (j := p + 1) rfl rfl (rfl) (by omega) (Nat.le_of_ble_eq_true rfl) ?_
      refine r_run 400 rfl rfl ?_
      refine r_ast (j := p) rfl rfl (rfl) (by omega) (Nat.le_of_ble_eq_true rfl) ?_
      refine r_to 2 60 rfl rfl ?_
      simp only [x_up_app, x_ce_app, x_ce_same, Nat.reduceAdd, Nat.reduceEqDiff, ↓reduceIte, Nat.reduceSub, Nat.reduceMul, reduceCtorEq, nI_add]
      refine ih (by omega) _ (fun r hr1 hr2 => ?_) (fun a ha => ?_)
      · obtain ⟨h3, h4⟩ := h1 r hr1 hr2
        refine ⟨fun i hi => ?_, fun i hi1 hi2 => ?_⟩
        · simp only [x_up_app, if_neg (by omega : ¬ i = p), ite_self]
          exact h3 i (by omega)
        · by_cases hip : i = p
          · subst hip
            have hr : r = 139 ∨ r = 140 ∨ r = 141 := by omega
            rcases hr with rfl | rfl | rfl
            · simp only [x_up_app, x_ce_app, x_ce_same, Nat.reduceAdd, Nat.reduceEqDiff, ↓reduceIte, Nat.reduceSub, Nat.reduceMul, reduceCtorEq]
              exact h3 (i + 1) (by omega)
            · simp only [x_up_app, x_ce_app, x_ce_same, Nat.reduceAdd, Nat.reduceEqDiff, ↓reduceIte, Nat.reduceSub, Nat.reduceMul, reduceCtorEq]
              exact h3 (i + 1) (by omega)
            · simp only [x_up_app, x_ce_app, x_ce_same, Nat.reduceAdd, Nat.reduceEqDiff, ↓reduceIte, Nat.reduceSub, Nat.reduceMul, reduceCtorEq]
              exact h3 (i + 1) (by omega)
          · simp only [x_up_app, if_neg hip, ite_self]
            exact h4 i hi1 (by omega)
      · rw [x_up_row (by omega), x_up_row (by omega), x_up_row (by omega)]
        exact h2 a ha
  refine r_to 2 60 rfl rfl ?_
  exact loop w (by omega) (Nat.le_refl _) g (fun r _ _ => ⟨fun _ _ => rfl, fun i h1 h2 => by omega⟩) (fun _ _ => rfl)
set_option maxHeartbeats 4000000 in
theorem c_Players_add_137 (d n : Nat) (s e : Int32) (g : xG) (Q : xQ) (hn : g 142 9 = nI n) (h12 : n ≤ 12) (k1 : n = 12 → Q (some (.int (-1000003))) g) (k2 : n < 12 → Q (some (.int (nI n))) (x_up (x_up (x_up (x_up (x_up (x_up (x_up (x_up (x_up (x_up g 143 n s) 144 n e) 145 n (nI 0)) 146 n (nI 0)) 147 n (nI 0)) 148 n (nI 0)) 149 n (nI 0)) 150 n (nI 0)) 142 8 (g 142 8 ||| (nI 1 <<< (nI n &&& 31)))) 142 9 (nI (n + 1)))) : Cx (d + 1) i_Players_add [.ref 142, .int s, .int e] g Q := by
  refine r_cl (L0 := [some (.ref 142), some (.int s), some (.int e)]) rfl (Or.inr ⟨_, _, _, rfl, rfl⟩) rfl rfl rfl ?_
  refine r_run 400 rfl rfl ?_
  simp only [x_up_app, x_ce_app, x_ce_same, Nat.reduceAdd, Nat.reduceEqDiff, ↓reduceIte, Nat.reduceSub, Nat.reduceMul, reduceCtorEq, hn]
  refine n_ilt rfl (by omega) (by omega) (fun h => ?_) (fun h => ?_)
  · refine r_run 400 rfl rfl ?_
    simp only [x_up_app, x_ce_app, x_ce_same, Nat.reduceAdd, Nat.reduceEqDiff, ↓reduceIte, Nat.reduceSub, Nat.reduceMul, reduceCtorEq, hn]
    refine r_ast (j := n) rfl rfl (rfl) (by omega) (Nat.le_of_ble_eq_true rfl) ?_
    refine r_run 400 rfl rfl ?_
    simp only [x_up_app, x_ce_app, x_ce_same, Nat.reduceAdd, Nat.reduceEqDiff, ↓reduceIte, Nat.reduceSub, Nat.reduceMul, reduceCtorEq, hn]
    refine r_ast (j := n) rfl rfl (rfl) (by omega) (Nat.le_of_ble_eq_true rfl) ?_
    refine r_run 400 rfl rfl ?_
    simp only [x_up_app, x_ce_app, x_ce_same, Nat.reduceAdd, Nat.reduceEqDiff, ↓reduceIte, Nat.reduceSub, Nat.reduceMul, reduceCtorEq, hn]
    refine r_ast (j := n) rfl rfl (rfl) (by omega) (Nat.le_of_ble_eq_true rfl) ?_
    refine r_run 400 rfl rfl ?_
    simp only [x_up_app, x_ce_app, x_ce_same, Nat.reduceAdd, Nat.reduceEqDiff, ↓reduceIte, Nat.reduceSub, Nat.reduceMul, reduceCtorEq, hn]
    refine r_ast (j := n) rfl rfl (rfl) (by omega) (Nat.le_of_ble_eq_true rfl) ?_
    refine r_run 400 rfl rfl ?_
    simp only [x_up_app, x_ce_app, x_ce_same, Nat.reduceAdd, Nat.reduceEqDiff, ↓reduceIte, Nat.reduceSub, Nat.reduceMul, reduceCtorEq, hn]
    refine r_ast (j := n) rfl rfl (rfl) (by omega) (Nat.le_of_ble_eq_true rfl) ?_
    refine r_run 400 rfl rfl ?_
    simp only [x_up_app, x_ce_app, x_ce_same, Nat.reduceAdd, Nat.reduceEqDiff, ↓reduceIte, Nat.reduceSub, Nat.reduceMul, reduceCtorEq, hn]
    refine r_ast (j := n) rfl rfl (rfl) (by omega) (Nat.le_of_ble_eq_true rfl) ?_
    refine r_run 400 rfl rfl ?_
    simp only [x_up_app, x_ce_app, x_ce_same, Nat.reduceAdd, Nat.reduceEqDiff, ↓reduceIte, Nat.reduceSub, Nat.reduceMul, reduceCtorEq, hn]
    refine r_ast (j := n) rfl rfl (rfl) (by omega) (Nat.le_of_ble_eq_true rfl) ?_
    refine r_run 400 rfl rfl ?_
    simp only [x_up_app, x_ce_app, x_ce_same, Nat.reduceAdd, Nat.reduceEqDiff, ↓reduceIte, Nat.reduceSub, Nat.reduceMul, reduceCtorEq, hn]
    refine r_ast (j := n) rfl rfl (rfl) (by omega) (Nat.le_of_ble_eq_true rfl) ?_
    refine r_run 400 rfl rfl ?_
    simp only [x_up_app, x_ce_app, x_ce_same, Nat.reduceAdd, Nat.reduceEqDiff, ↓reduceIte, Nat.reduceSub, Nat.reduceMul, reduceCtorEq, hn, nI_add]
    exact r_iret rfl rfl (by rw [pk_sub (by omega), show n + 1 - 1 = n by omega]; exact k2 h)
  · refine r_run 400 rfl rfl ?_
    exact r_iret rfl rfl (k1 (by omega))
set_option maxHeartbeats 4000000 in
theorem c_sum_137 (d n r : Nat) (g : xG) (Q : xQ) (hn : g 142 9 = nI n) (h12 : n ≤ 12) (hr : SK[r]? = some (.inl 12)) (k : Q (some (.int (x_sm (g (r + 1)) n))) g) : Cx (d + 1) i_Players_sum [.ref 142, .ref (r + 1)] g Q := by
  refine r_cl (L0 := [some (.ref 142), some (.ref (r + 1)), none, none]) rfl (Or.inr ⟨_, _, _, rfl, rfl⟩) rfl rfl rfl ?_
  have loop : ∀ p, p ≤ n → Rx d m_Players_sum Q 4 [some (.ref 142), some (.ref (r + 1)), some (.int (x_sm (g (r + 1)) p)), some (.int (nI p))] [] g := by
    refine r_for ?_ ?_
    · refine r_run 400 rfl rfl ?_
      simp only [x_up_app, x_ce_app, x_ce_same, Nat.reduceAdd, Nat.reduceEqDiff, ↓reduceIte, Nat.reduceSub, Nat.reduceMul, reduceCtorEq, hn]
      refine n_ige rfl (by omega) (by omega) (fun _ => ?_) (fun h2 => by omega)
      refine r_run 400 rfl rfl ?_
      exact r_iret rfl rfl k
    · intro p hp ih
      refine r_run 400 rfl rfl ?_
      simp only [x_up_app, x_ce_app, x_ce_same, Nat.reduceAdd, Nat.reduceEqDiff, ↓reduceIte, Nat.reduceSub, Nat.reduceMul, reduceCtorEq, hn]
      refine n_ige rfl (by omega) (by omega) (fun _ => by omega) (fun _ => ?_)
      refine r_run 400 rfl rfl ?_
      refine r_ald (j := p) rfl hr rfl (by omega) (Nat.le_of_ble_eq_true rfl) ?_
      refine r_to 4 60 rfl rfl ?_
      simp only [x_up_app, x_ce_app, x_ce_same, Nat.reduceAdd, Nat.reduceEqDiff, ↓reduceIte, Nat.reduceSub, Nat.reduceMul, reduceCtorEq, nI_add]
      exact ih
  refine r_to 4 60 rfl rfl ?_
  exact loop 0 (Nat.zero_le _)
set_option maxHeartbeats 4000000 in
theorem c_lineUp_137 (d n c m : Nat) (g : xG) (Q : xQ) (hn : g 142 9 = nI n) (h12 : n ≤ 12) (hc : g 138 3 = nI c) (hc1 : 1 ≤ c) (hc16 : c ≤ 16) (hm : g 142 8 = nI m) (hm2 : m < 2 ^ 31) (k : ∀ g' : xG, (∀ p, p < n → x_bit m p → g' 145 p = nI (x_pop m p % c)) → (∀ p, ¬ x_bit m p → g' 145 p = g 145 p) → (∀ a, a ≠ 145 → g' a = g a) → Q none g') : Cx (d + 2) i_Players_lineUp [.ref 142, .ref 138] g Q := by
  refine r_cl (L0 := [some (.ref 142), some (.ref 138), none, none]) rfl (Or.inr ⟨_, _, _, rfl, rfl⟩) rfl rfl rfl ?_
  have loop : ∀ p, p ≤ n → ∀ g' : xG, (∀ q, q < p → x_bit m q → g' 145 q = nI (x_pop m q % c)) → (∀ q, ¬ x_bit m q → g' 145 q = g 145 q) → (∀ a, a ≠ 145 → g' a = g a) → Rx (d + 1) m_Players_lineUp Q 4 [some (.ref 142), some (.ref 138), some (.int (nI (x_pop m p))), some (.int (nI p))] [] g' := by
    refine r_for ?_ ?_
    · intro g' h1 h0 h2
      refine r_run 400 rfl rfl ?_
      simp only [x_up_app, x_ce_app, x_ce_same, Nat.reduceAdd, Nat.reduceEqDiff, ↓reduceIte, Nat.reduceSub, Nat.reduceMul, reduceCtorEq, h2 142 (by decide), hn]
      refine n_ige rfl (by omega) (by omega) (fun _ => ?_) (fun h2 => by omega)
      refine r_run 400 rfl rfl ?_
      exact r_ret rfl rfl (k g' h1 h0 h2)
    · intro p hp ih g' h1 h0 h2
      have hpl := x_pop_le m p
      refine r_run 400 rfl rfl ?_
      simp only [x_up_app, x_ce_app, x_ce_same, Nat.reduceAdd, Nat.reduceEqDiff, ↓reduceIte, Nat.reduceSub, Nat.reduceMul, reduceCtorEq, h2 142 (by decide), hn]
      refine n_ige rfl (by omega) (by omega) (fun _ => by omega) (fun _ => ?_)
      refine r_run 400 rfl rfl ?_
      refine r_inv rfl rfl rfl ?_
      refine c_isPlaying_137 d p g' _ (by rw [h2 142 (by decide)]; exact hm) hm2 (by omega) (fun hb => ?_) (fun hb => ?_)
      · refine t_eq1 rfl ?_
        refine r_run 400 rfl rfl ?_
        refine r_inv rfl rfl rfl ?_
        refine c_Chairs_onFrom_137 d 0 (x_pop m p) g' _ (by rw [h2 138 (by decide)]; exact hc) hc1 hc16 (by omega) ?_
        refine r_ast (j := p) rfl rfl rfl (by omega) (Nat.le_of_ble_eq_true rfl) ?_
        refine r_to 4 60 rfl rfl ?_
        simp only [x_up_app, x_ce_app, x_ce_same, Nat.reduceAdd, Nat.reduceEqDiff, ↓reduceIte, Nat.reduceSub, Nat.reduceMul, reduceCtorEq, nI_add]
        rw [← x_pop_1 hb]
        refine ih _ (fun q hq hqb => ?_) (fun q hqb => ?_) (fun a ha => ?_)
        · simp only [x_up_app, x_ce_app, x_ce_same, Nat.reduceAdd, Nat.reduceEqDiff, ↓reduceIte, Nat.reduceSub, Nat.reduceMul, reduceCtorEq]
          split
          · rename_i e
            subst e
            rw [Nat.zero_add]
          · exact h1 q (by omega) hqb
        · have hne : ¬ q = p := fun e => by subst e; exact hqb hb
          simp only [x_up_app, x_ce_app, x_ce_same, Nat.reduceAdd, Nat.reduceEqDiff, ↓reduceIte, Nat.reduceSub, Nat.reduceMul, reduceCtorEq, if_neg hne]
          exact h0 q hqb
        · rw [x_up_row ha]
          exact h2 a ha
      · refine t_eq0 rfl ?_
        refine r_to 4 60 rfl rfl ?_
        simp only [x_up_app, x_ce_app, x_ce_same, Nat.reduceAdd, Nat.reduceEqDiff, ↓reduceIte, Nat.reduceSub, Nat.reduceMul, reduceCtorEq, nI_add]
        rw [← x_pop_0 hb]
        refine ih _ (fun q hq hqb => ?_) h0 h2
        by_cases e : q = p
        · subst e
          exact absurd hqb hb
        · exact h1 q (by omega) hqb
  refine r_to 4 60 rfl rfl ?_
  exact loop 0 (Nat.zero_le _) g (fun i hi => absurd hi (Nat.not_lt_zero _)) (fun _ _ => rfl) (fun _ _ => rfl)
