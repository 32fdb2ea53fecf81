/-! ===== groping: who sits down, who bumps, what rings ===== -/
/-- of those with D the one with the least F, the first of several -/
def x_nr (D : Nat → Bool) (F : Nat → Nat) : Nat → Option Nat
  | 0 => none
  | p + 1 => if D p = true then (match x_nr D F p with
    | none => some p
    | some q => if F p < F q then some p else some q) else x_nr D F p
theorem x_nr_ok (D : Nat → Bool) (F : Nat → Nat) : ∀ (n p : Nat), x_nr D F n = some p → p < n ∧ D p = true
  | 0, p, h => by cases h
  | n + 1, p, h => by
    unfold x_nr at h
    split at h
    · rename_i hd
      split at h
      · cases h
        exact ⟨by omega, hd⟩
      · rename_i q hq
        split at h
        · cases h
          exact ⟨by omega, hd⟩
        · cases h
          have := x_nr_ok D F n p hq
          exact ⟨by omega, this.2⟩
    · have := x_nr_ok D F n p h
      exact ⟨by omega, this.2⟩
theorem x_nr_congr {D D' : Nat → Bool} {F : Nat → Nat} : ∀ n, (∀ p, p < n → D p = D' p) → x_nr D F n = x_nr D' F n
  | 0, _ => rfl
  | n + 1, h => by
    unfold x_nr
    rw [h n (by omega), x_nr_congr n (fun p hp => h p (by omega))]
theorem x_nr_some {D : Nat → Bool} {F : Nat → Nat} : ∀ n, (∃ p, p < n ∧ D p = true) → ∃ q, x_nr D F n = some q
  | 0, ⟨p, h, _⟩ => by omega
  | n + 1, ⟨p, h1, h2⟩ => by
    unfold x_nr
    by_cases hd : D n = true
    · rw [if_pos hd]
      split
      · exact ⟨_, rfl⟩
      · split <;> exact ⟨_, rfl⟩
    · rw [if_neg hd]
      refine x_nr_some n ⟨p, ?_, h2⟩
      have : p ≠ n := fun e => hd (e ▸ h2)
      omega
theorem x_on_eq {o : Option Nat} {k : Nat} (hk : k < 65536) (ho : ∀ q, o = some q → q < 65536) : x_on o = nI k ↔ o = some k := by
  cases o with
  | none =>
    constructor
    · intro h
      exfalso
      have : nI k < 0 := by rw [← h]; decide
      exact nI_pos (by omega) this
    · intro h; cases h
  | some q =>
    have := ho q rfl
    show nI q = nI k ↔ _
    rw [nI_eq (by omega) (by omega)]
    simp
theorem x_on_m1 {o : Option Nat} (ho : ∀ q, o = some q → q < 65536) : x_on o = -1 ↔ o = none := by
  cases o with
  | none => simp [x_on]
  | some q =>
    have := ho q rfl
    constructor
    · intro h
      exfalso
      have : nI q < 0 := by
        rw [show nI q = -1 from h]
        decide
      exact nI_pos (by omega) this
    · intro h; cases h
set_option maxHeartbeats 4000000 in
theorem c_nearest_2 (d n c0 : Nat) (g : xG) (Q : xQ) (A : Nat → Option Nat) (F : Nat → Nat) (hn : g 7 9 = nI n) (h12 : n ≤ 12) (hc : c0 < 16) (hA : ∀ p, p < n → g 127 p = x_on (A p)) (hA2 : ∀ p q, p < n → A p = some q → q < 16) (hF : ∀ p, p < n → A p = some c0 → g 128 p = nI (F p) ∧ F p < 16)
    (k : Q (some (.int (x_on (x_nr (fun p => decide (A p = some c0)) F n)))) g) : Cx (d + 1) i_Grope_nearest [.ref 124, .ref 7, .int (nI c0)] g Q := by
  refine r_cl (L0 := [some (.ref 124), some (.ref 7), some (.int (nI c0)), none, none]) rfl (Or.inr ⟨_, _, _, rfl, rfl⟩) rfl rfl rfl ?_
  have loop : ∀ p, p ≤ n → Rx d m_Grope_nearest Q 5 [some (.ref 124), some (.ref 7), some (.int (nI c0)), some (.int (x_on (x_nr (fun p => decide (A p = some c0)) F p))), some (.int (nI p))] [] g := by
    refine r_for ?_ ?_
    · refine r_run 400 rfl rfl ?_
      simp only [x_up_app, x_ce_app, x_ce_same, Nat.reduceAdd, Nat.reduceEqDiff, ↓reduceIte, Nat.reduceSub, Nat.reduceMul, reduceCtorEq, hn]
      refine n_ige rfl (by omega) (by omega) (fun _ => ?_) (fun h2 => by omega)
      refine r_run 400 rfl rfl ?_
      exact r_iret rfl rfl k
    · intro p hp ih
      refine r_run 400 rfl rfl ?_
      simp only [x_up_app, x_ce_app, x_ce_same, Nat.reduceAdd, Nat.reduceEqDiff, ↓reduceIte, Nat.reduceSub, Nat.reduceMul, reduceCtorEq, hn]
      refine n_ige rfl (by omega) (by omega) (fun _ => by omega) (fun _ => ?_)
      refine r_run 400 rfl rfl ?_
      refine r_ald (j := p) rfl rfl (rfl) (by omega) (Nat.le_of_ble_eq_true rfl) ?_
      refine r_run 400 rfl rfl ?_
      simp only [x_up_app, x_ce_app, x_ce_same, Nat.reduceAdd, Nat.reduceEqDiff, ↓reduceIte, Nat.reduceSub, Nat.reduceMul, reduceCtorEq, hA p hp]
      have hs : x_nr (fun p => decide (A p = some c0)) F (p + 1) = if decide (A p = some c0) = true then (match x_nr (fun p => decide (A p = some c0)) F p with | none => some p | some q => if F p < F q then some p else some q) else x_nr (fun p => decide (A p = some c0)) F p := rfl
      refine r_ine rfl (fun h => ?_) (fun h => ?_)
      · have hne : ¬ A p = some c0 := fun e => h (by rw [e]; rfl)
        refine r_to 5 60 rfl rfl ?_
        simp only [x_up_app, x_ce_app, x_ce_same, Nat.reduceAdd, Nat.reduceEqDiff, ↓reduceIte, Nat.reduceSub, Nat.reduceMul, reduceCtorEq, nI_add]
        rw [hs, if_neg (by simpa using hne)] at ih
        exact ih
      · have heq : A p = some c0 := (x_on_eq (by omega) (fun q hq => by have := hA2 p q hp hq; omega)).mp h
        rw [hs, if_pos (by simpa using heq)] at ih
        obtain ⟨f1, f2⟩ := hF p hp heq
        refine r_run 400 rfl rfl ?_
        cases hq : x_nr (fun p => decide (A p = some c0)) F p with
        | none =>
          rw [hq] at ih
          refine r_ieq rfl (fun _ => ?_) (fun h => absurd rfl h)
          refine r_to 5 60 rfl rfl ?_
          simp only [x_up_app, x_ce_app, x_ce_same, Nat.reduceAdd, Nat.reduceEqDiff, ↓reduceIte, Nat.reduceSub, Nat.reduceMul, reduceCtorEq, nI_add]
          exact ih
        | some q =>
          rw [hq] at ih
          obtain ⟨q1, q2⟩ := x_nr_ok _ _ _ _ hq
          obtain ⟨f3, f4⟩ := hF q (by omega) (by simpa using q2)
          refine r_ieq rfl (fun h => ?_) (fun _ => ?_)
          · exfalso
            have : nI q < 0 := by
              rw [show nI q = -1 from h]
              decide
            exact nI_pos (by omega) this
          · refine r_run 400 rfl rfl ?_
            refine r_ald (j := p) rfl rfl (rfl) (by omega) (Nat.le_of_ble_eq_true rfl) ?_
            refine r_run 400 rfl rfl ?_
            refine r_ald (j := q) rfl rfl rfl (by omega) (Nat.le_of_ble_eq_true rfl) ?_
            simp only [x_up_app, x_ce_app, x_ce_same, Nat.reduceAdd, Nat.reduceEqDiff, ↓reduceIte, Nat.reduceSub, Nat.reduceMul, reduceCtorEq, f1, f3]
            refine n_ige rfl (by omega) (by omega) (fun hle => ?_) (fun hlt => ?_)
            · refine r_to 5 60 rfl rfl ?_
              simp only [x_up_app, x_ce_app, x_ce_same, Nat.reduceAdd, Nat.reduceEqDiff, ↓reduceIte, Nat.reduceSub, Nat.reduceMul, reduceCtorEq, nI_add]
              dsimp only at ih
              rw [if_neg (by omega)] at ih
              exact ih
            · refine r_to 5 60 rfl rfl ?_
              simp only [x_up_app, x_ce_app, x_ce_same, Nat.reduceAdd, Nat.reduceEqDiff, ↓reduceIte, Nat.reduceSub, Nat.reduceMul, reduceCtorEq, nI_add]
              dsimp only at ih
              rw [if_pos hlt] at ih
              exact ih
  refine r_to 5 60 rfl rfl ?_
  exact loop 0 (Nat.zero_le _)
set_option maxHeartbeats 4000000 in
theorem c_nearest_137 (d n c0 : Nat) (g : xG) (Q : xQ) (A : Nat → Option Nat) (F : Nat → Nat) (hn : g 142 9 = nI n) (h12 : n ≤ 12) (hc : c0 < 16) (hA : ∀ p, p < n → g 127 p = x_on (A p)) (hA2 : ∀ p q, p < n → A p = some q → q < 16) (hF : ∀ p, p < n → A p = some c0 → g 128 p = nI (F p) ∧ F p < 16)
    (k : Q (some (.int (x_on (x_nr (fun p => decide (A p = some c0)) F n)))) g) : Cx (d + 1) i_Grope_nearest [.ref 124, .ref 142, .int (nI c0)] g Q := by
  refine r_cl (L0 := [some (.ref 124), some (.ref 142), some (.int (nI c0)), none, none]) rfl (Or.inr ⟨_, _, _, rfl, rfl⟩) rfl rfl rfl ?_
  have loop : ∀ p, p ≤ n → Rx d m_Grope_nearest Q 5 [some (.ref 124), some (.ref 142), some (.int (nI c0)), some (.int (x_on (x_nr (fun p => decide (A p = some c0)) F p))), some (.int (nI p))] [] g := by
    refine r_for ?_ ?_
    · refine r_run 400 rfl rfl ?_
      simp only [x_up_app, x_ce_app, x_ce_same, Nat.reduceAdd, Nat.reduceEqDiff, ↓reduceIte, Nat.reduceSub, Nat.reduceMul, reduceCtorEq, hn]
      refine n_ige rfl (by omega) (by omega) (fun _ => ?_) (fun h2 => by omega)
      refine r_run 400 rfl rfl ?_
      exact r_iret rfl rfl k
    · intro p hp ih
      refine r_run 400 rfl rfl ?_
      simp only [x_up_app, x_ce_app, x_ce_same, Nat.reduceAdd, Nat.reduceEqDiff, ↓reduceIte, Nat.reduceSub, Nat.reduceMul, reduceCtorEq, hn]
      refine n_ige rfl (by omega) (by omega) (fun _ => by omega) (fun _ => ?_)
      refine r_run 400 rfl rfl ?_
      refine r_ald (j := p) rfl rfl (rfl) (by omega) (Nat.le_of_ble_eq_true rfl) ?_
      refine r_run 400 rfl rfl ?_
      simp only [x_up_app, x_ce_app, x_ce_same, Nat.reduceAdd, Nat.reduceEqDiff, ↓reduceIte, Nat.reduceSub, Nat.reduceMul, reduceCtorEq, hA p hp]
      have hs : x_nr (fun p => decide (A p = some c0)) F (p + 1) = if decide (A p = some c0) = true then (match x_nr (fun p => decide (A p = some c0)) F p with | none => some p | some q => if F p < F q then some p else some q) else x_nr (fun p => decide (A p = some c0)) F p := rfl
      refine r_ine rfl (fun h => ?_) (fun h => ?_)
      · have hne : ¬ A p = some c0 := fun e => h (by rw [e]; rfl)
        refine r_to 5 60 rfl rfl ?_
        simp only [x_up_app, x_ce_app, x_ce_same, Nat.reduceAdd, Nat.reduceEqDiff, ↓reduceIte, Nat.reduceSub, Nat.reduceMul, reduceCtorEq, nI_add]
        rw [hs, if_neg (by simpa using hne)] at ih
        exact ih
      · have heq : A p = some c0 := (x_on_eq (by omega) (fun q hq => by have := hA2 p q hp hq; omega)).mp h
        rw [hs, if_pos (by simpa using heq)] at ih
        obtain ⟨f1, f2⟩ := hF p hp heq
        refine r_run 400 rfl rfl ?_
        cases hq : x_nr (fun p => decide (A p = some c0)) F p with
        | none =>
          rw [hq] at ih
          refine r_ieq rfl (fun _ => ?_) (fun h => absurd rfl h)
          refine r_to 5 60 rfl rfl ?_
          simp only [x_up_app, x_ce_app, x_ce_same, Nat.reduceAdd, Nat.reduceEqDiff, ↓reduceIte, Nat.reduceSub, Nat.reduceMul, reduceCtorEq, nI_add]
          exact ih
        | some q =>
          rw [hq] at ih
          obtain ⟨q1, q2⟩ := x_nr_ok _ _ _ _ hq
          obtain ⟨f3, f4⟩ := hF q (by omega) (by simpa using q2)
          refine r_ieq rfl (fun h => ?_) (fun _ => ?_)
          · exfalso
            have : nI q < 0 := by
              rw [show nI q = -1 from h]
              decide
            exact nI_pos (by omega) this
          · refine r_run 400 rfl rfl ?_
            refine r_ald (j := p) rfl rfl (rfl) (by omega) (Nat.le_of_ble_eq_true rfl) ?_
            refine r_run 400 rfl rfl ?_
            refine r_ald (j := q) rfl rfl rfl (by omega) (Nat.le_of_ble_eq_true rfl) ?_
            simp only [x_up_app, x_ce_app, x_ce_same, Nat.reduceAdd, Nat.reduceEqDiff, ↓reduceIte, Nat.reduceSub, Nat.reduceMul, reduceCtorEq, f1, f3]
            refine n_ige rfl (by omega) (by omega) (fun hle => ?_) (fun hlt => ?_)
            · refine r_to 5 60 rfl rfl ?_
              simp only [x_up_app, x_ce_app, x_ce_same, Nat.reduceAdd, Nat.reduceEqDiff, ↓reduceIte, Nat.reduceSub, Nat.reduceMul, reduceCtorEq, nI_add]
              dsimp only at ih
              rw [if_neg (by omega)] at ih
              exact ih
            · refine r_to 5 60 rfl rfl ?_
              simp only [x_up_app, x_ce_app, x_ce_same, Nat.reduceAdd, Nat.reduceEqDiff, ↓reduceIte, Nat.reduceSub, Nat.reduceMul, reduceCtorEq, nI_add]
              dsimp only at ih
              rw [if_pos hlt] at ih
              exact ih
  refine r_to 5 60 rfl rfl ?_
  exact loop 0 (Nat.zero_le _)
/-- who gets the chair c, if it's free -/
def x_get (n : Nat) (A : Nat → Option Nat) (F : Nat → Nat) (SI : Nat → Option Nat) (c : Nat) : Option Nat := if SI c = none then x_nr (fun p => decide (A p = some c)) F n else none
theorem x_get_ok {n : Nat} {A : Nat → Option Nat} {F : Nat → Nat} {SI : Nat → Option Nat} {c p : Nat} (h : x_get n A F SI c = some p) : p < n ∧ A p = some c ∧ SI c = none := by
  unfold x_get at h
  split at h
  · rename_i hs
    obtain ⟨h1, h2⟩ := x_nr_ok _ _ _ _ h
    exact ⟨h1, by simpa using h2, hs⟩
  · cases h
/-- p has sat down on a chair below j -/
def x_sat (n : Nat) (A : Nat → Option Nat) (F : Nat → Nat) (SI : Nat → Option Nat) (j p : Nat) : Bool := match A p with
  | some c => decide (c < j) && decide (x_get n A F SI c = some p)
  | none => false
theorem x_sat_iff {n : Nat} {A : Nat → Option Nat} {F : Nat → Nat} {SI : Nat → Option Nat} {j p : Nat} : x_sat n A F SI j p = true ↔ ∃ c, c < j ∧ x_get n A F SI c = some p := by
  unfold x_sat
  constructor
  · intro h
    split at h
    · rename_i c _
      rw [Bool.and_eq_true, decide_eq_true_eq, decide_eq_true_eq] at h
      exact ⟨c, h⟩
    · cases h
  · rintro ⟨c, h1, h2⟩
    rw [(x_get_ok h2).2.1]
    simp [h1, h2]
theorem x_sat_next {n : Nat} {A : Nat → Option Nat} {F : Nat → Nat} {SI : Nat → Option Nat} {j p : Nat} : x_sat n A F SI (j + 1) p = (x_sat n A F SI j p || decide (x_get n A F SI j = some p)) := by
  rw [Bool.eq_iff_iff, Bool.or_eq_true, x_sat_iff, x_sat_iff, decide_eq_true_eq]
  constructor
  · rintro ⟨c, h1, h2⟩
    by_cases e : c = j
    · subst e
      exact Or.inr h2
    · exact Or.inl ⟨c, by omega, h2⟩
  · rintro (⟨c, h1, h2⟩ | h)
    · exact ⟨c, by omega, h2⟩
    · exact ⟨j, by omega, h⟩
set_option maxHeartbeats 4000000 in
theorem c_sitDown_2 (d n c : Nat) (g : xG) (Q : xQ) (A : Nat → Option Nat) (F : Nat → Nat) (SI : Nat → Option Nat) (G : Nat → Bool) (hn : g 7 9 = nI n) (h12 : n ≤ 12) (hc : g 3 3 = nI c) (h16 : c ≤ 16) (hA : ∀ p, p < n → g 127 p = x_on (A p)) (hA2 : ∀ p q, p < n → A p = some q → q < 16) (hF : ∀ p q, p < n → A p = some q → g 128 p = nI (F p) ∧ F p < 16) (hS : ∀ j, j < c → g 132 j = x_on (SI j)) (hS2 : ∀ j q, j < c → SI j = some q → q < 16) (hG : x_mk (g 124 9) n G)
    (k : ∀ g' : xG, (∀ p, p < n → g' 127 p = x_on (if x_sat n A F SI c p = true then none else A p)) → (∀ p, p < n → g' 129 p = if x_sat n A F SI c p = true then x_on (A p) else g 129 p) → (∀ p, p < n → g' 131 p = if x_sat n A F SI c p = true then g 124 11 else g 131 p) → x_mk (g' 124 9) n (fun p => G p && !x_sat n A F SI c p) → (∀ j, j < c → g' 132 j = x_on (if (x_get n A F SI j).isSome = true then x_get n A F SI j else SI j)) → (∀ j, j < c → g' 133 j = if (x_get n A F SI j).isSome = true then g 124 11 else g 133 j) → (∀ j, j ≠ 9 → g' 124 j = g 124 j) → (∀ a, a ≠ 124 → a ≠ 127 → a ≠ 129 → a ≠ 131 → a ≠ 132 → a ≠ 133 → g' a = g a) → Q none g') : Cx (d + 2) i_Grope_sitDown [.ref 124, .ref 3, .ref 7] g Q := by
  refine r_cl (L0 := [some (.ref 124), some (.ref 3), some (.ref 7), none, none]) rfl (Or.inr ⟨_, _, _, rfl, rfl⟩) rfl rfl rfl ?_
  have loop : ∀ j, j ≤ c → ∀ (g' : xG) (l4 : Option Value), (∀ p, p < n → g' 127 p = x_on (if x_sat n A F SI j p = true then none else A p)) → (∀ p, p < n → g' 129 p = if x_sat n A F SI j p = true then x_on (A p) else g 129 p) → (∀ p, p < n → g' 131 p = if x_sat n A F SI j p = true then g 124 11 else g 131 p) → x_mk (g' 124 9) n (fun p => G p && !x_sat n A F SI j p) → (∀ i, i < c → g' 132 i = x_on (if i < j ∧ (x_get n A F SI i).isSome = true then x_get n A F SI i else SI i)) → (∀ i, i < c → g' 133 i = if i < j ∧ (x_get n A F SI i).isSome = true then g 124 11 else g 133 i) → (∀ j, j ≠ 9 → g' 124 j = g 124 j) → (∀ a, a ≠ 124 → a ≠ 127 → a ≠ 129 → a ≠ 131 → a ≠ 132 → a ≠ 133 → g' a = g a) → Rx (d + 1) m_Grope_sitDown Q 2 [some (.ref 124), some (.ref 3), some (.ref 7), some (.int (nI j)), l4] [] g' := by
    refine r_for ?_ ?_
    · intro g' l4 a1 a2 a3 a4 a5 a6 a7 a8
      refine r_run 400 rfl rfl ?_
      simp only [x_up_app, x_ce_app, x_ce_same, Nat.reduceAdd, Nat.reduceEqDiff, ↓reduceIte, Nat.reduceSub, Nat.reduceMul, reduceCtorEq, a8 3 (by decide) (by decide) (by decide) (by decide) (by decide) (by decide), hc]
      refine n_ige rfl (by omega) (by omega) (fun _ => ?_) (fun h2 => by omega)
      refine r_run 400 rfl rfl ?_
      refine r_ret rfl rfl (k g' a1 a2 a3 a4 (fun i hi => ?_) (fun i hi => ?_) a7 a8)
      · rw [a5 i hi]
        simp only [hi, true_and]
      · rw [a6 i hi]
        simp only [hi, true_and]
    · intro j hj ih g' l4 a1 a2 a3 a4 a5 a6 a7 a8
      -- the chair passes
      have pass : ∀ l4, x_get n A F SI j = none → Rx (d + 1) m_Grope_sitDown Q 78 [some (.ref 124), some (.ref 3), some (.ref 7), some (.int (nI j)), l4] [] g' := by
        intro l4 hnone
        have hsat : ∀ p, x_sat n A F SI (j + 1) p = x_sat n A F SI j p := fun p => by rw [x_sat_next, hnone]; simp
        refine r_to 2 60 rfl rfl ?_
        simp only [x_up_app, x_ce_app, x_ce_same, Nat.reduceAdd, Nat.reduceEqDiff, ↓reduceIte, Nat.reduceSub, Nat.reduceMul, reduceCtorEq, nI_add]
        refine ih g' l4 (fun p hp => by rw [hsat]; exact a1 p hp) (fun p hp => by rw [hsat]; exact a2 p hp) (fun p hp => by rw [hsat]; exact a3 p hp) (x_mk_congr a4 (fun p _ => by rw [hsat])) (fun i hi => ?_) (fun i hi => ?_) a7 a8
        · rw [a5 i hi]
          by_cases e : i = j
          · subst e
            simp [hnone]
          · simp only [show (i < j + 1) = (i < j) from propext (by omega)]
        · rw [a6 i hi]
          by_cases e : i = j
          · subst e
            simp [hnone]
          · simp only [show (i < j + 1) = (i < j) from propext (by omega)]
      refine r_run 400 rfl rfl ?_
      simp only [x_up_app, x_ce_app, x_ce_same, Nat.reduceAdd, Nat.reduceEqDiff, ↓reduceIte, Nat.reduceSub, Nat.reduceMul, reduceCtorEq, a8 3 (by decide) (by decide) (by decide) (by decide) (by decide) (by decide), hc]
      refine n_ige rfl (by omega) (by omega) (fun _ => by omega) (fun _ => ?_)
      refine r_run 400 rfl rfl ?_
      refine r_ald (j := j) rfl rfl (rfl) (by omega) (Nat.le_of_ble_eq_true rfl) ?_
      have e132 : g' 132 j = x_on (SI j) := by rw [a5 j hj, if_neg (fun z => Nat.lt_irrefl _ z.1)]
      refine r_run 400 rfl rfl ?_
      simp only [x_up_app, x_ce_app, x_ce_same, Nat.reduceAdd, Nat.reduceEqDiff, ↓reduceIte, Nat.reduceSub, Nat.reduceMul, reduceCtorEq, e132]
      refine r_ine rfl (fun h => ?_) (fun h => ?_)
      · have hsi : SI j ≠ none := fun e => h (by rw [e]; rfl)
        have hnone : x_get n A F SI j = none := by unfold x_get; rw [if_neg hsi]
        refine r_run 400 rfl rfl ?_
        refine r_ieq rfl (fun _ => pass _ hnone) (fun h => absurd rfl h)
      · have hsi : SI j = none := (x_on_m1 (fun q hq => by have := hS2 j q hj hq; omega)).mp h
        refine r_run 400 rfl rfl ?_
        refine r_inv rfl rfl rfl ?_
        have hAA : ∀ p, p < n → (decide ((if x_sat n A F SI j p = true then none else A p) = some j)) = decide (A p = some j) := by
          intro p hp
          by_cases hs : x_sat n A F SI j p = true
          · obtain ⟨c1, b1, b2⟩ := x_sat_iff.mp hs
            have b3 := (x_get_ok b2).2.1
            rw [if_pos hs, b3]
            have : ¬ c1 = j := by omega
            simp [this]
          · rw [if_neg hs]
        refine c_nearest_2 d n j g' _ (fun p => if x_sat n A F SI j p = true then none else A p) F (by rw [a8 7 (by decide) (by decide) (by decide) (by decide) (by decide) (by decide)]; exact hn) h12 (by omega) a1 (fun p q hp hq => ?_) (fun p hp hq => ?_) ?_
        · split at hq
          · cases hq
          · exact hA2 p q hp hq
        · split at hq
          · cases hq
          · rw [a8 128 (by decide) (by decide) (by decide) (by decide) (by decide) (by decide)]
            exact hF p j hp hq
        rw [x_nr_congr n hAA]
        have hget : x_get n A F SI j = x_nr (fun p => decide (A p = some j)) F n := by unfold x_get; rw [if_pos hsi]
        rw [← hget]
        cases hgj : x_get n A F SI j with
        | none =>
          refine r_run 400 rfl rfl ?_
          refine r_ieq rfl (fun _ => pass _ hgj) (fun h => absurd rfl h)
        | some p0 =>
          obtain ⟨z1, z2, -⟩ := x_get_ok hgj
          have hns : x_sat n A F SI j p0 = false := by
            cases h : x_sat n A F SI j p0 with
            | false => rfl
            | true =>
              obtain ⟨c1, b1, b2⟩ := x_sat_iff.mp h
              have := (x_get_ok b2).2.1
              rw [z2] at this
              cases this
              omega
          have hsat : ∀ p, x_sat n A F SI (j + 1) p = (x_sat n A F SI j p || decide (p = p0)) := fun p => by
            rw [x_sat_next, hgj]
            congr 1
            simp [eq_comm]
          refine r_run 400 rfl rfl ?_
          refine r_ieq rfl (fun h => ?_) (fun _ => ?_)
          · exfalso
            have : nI p0 < 0 := by
              rw [show nI p0 = -1 from h]
              decide
            exact nI_pos (by omega) this
          · refine r_run 400 rfl rfl ?_
            refine r_ast (j := j) rfl rfl rfl (by omega) (Nat.le_of_ble_eq_true rfl) ?_
            refine r_run 400 rfl rfl ?_
            simp only [x_up_app, x_ce_app, x_ce_same, Nat.reduceAdd, Nat.reduceEqDiff, ↓reduceIte, Nat.reduceSub, Nat.reduceMul, reduceCtorEq]
            refine r_ast (j := j) rfl rfl rfl (by omega) (Nat.le_of_ble_eq_true rfl) ?_
            refine r_run 400 rfl rfl ?_
            refine r_ast (j := p0) rfl rfl rfl (by omega) (Nat.le_of_ble_eq_true rfl) ?_
            refine r_run 400 rfl rfl ?_
            refine r_ast (j := p0) rfl rfl rfl (by omega) (Nat.le_of_ble_eq_true rfl) ?_
            refine r_run 400 rfl rfl ?_
            refine r_inv rfl rfl rfl ?_
            refine c_grSettle d p0 _ _ (by omega) ?_
            refine r_to 2 60 rfl rfl ?_
            simp only [x_up_app, x_ce_app, x_ce_same, Nat.reduceAdd, Nat.reduceEqDiff, ↓reduceIte, Nat.reduceSub, Nat.reduceMul, reduceCtorEq, nI_add, a7 11 (by decide)]
            refine ih _ _ (fun p hp => ?_) (fun p hp => ?_) (fun p hp => ?_) ?_ (fun i hi => ?_) (fun i hi => ?_) (fun i hi => ?_) (fun a b1 b2 b3 b4 b5 b6 => ?_)
            · simp only [x_up_app, x_ce_app, x_ce_same, Nat.reduceAdd, Nat.reduceEqDiff, ↓reduceIte, Nat.reduceSub, Nat.reduceMul, reduceCtorEq]
              rw [hsat]
              by_cases e : p = p0
              · subst e
                simp [x_on]
              · rw [if_neg e, a1 p hp]
                simp [e]
            · simp only [x_up_app, x_ce_app, x_ce_same, Nat.reduceAdd, Nat.reduceEqDiff, ↓reduceIte, Nat.reduceSub, Nat.reduceMul, reduceCtorEq]
              rw [hsat]
              by_cases e : p = p0
              · subst e
                simp [z2, x_on]
              · rw [if_neg e, a2 p hp]
                simp [e]
            · simp only [x_up_app, x_ce_app, x_ce_same, Nat.reduceAdd, Nat.reduceEqDiff, ↓reduceIte, Nat.reduceSub, Nat.reduceMul, reduceCtorEq]
              rw [hsat]
              by_cases e : p = p0
              · subst e
                simp
              · rw [if_neg e, a3 p hp]
                simp [e]
            · simp only [x_up_app, x_ce_app, x_ce_same, Nat.reduceAdd, Nat.reduceEqDiff, ↓reduceIte, Nat.reduceSub, Nat.reduceMul, reduceCtorEq]
              refine x_mk_clr a4 z1 (by omega) (fun q hq => ?_)
              rw [hsat]
              by_cases e : q = p0
              · subst e
                simp
              · simp [e]
            · simp only [x_up_app, x_ce_app, x_ce_same, Nat.reduceAdd, Nat.reduceEqDiff, ↓reduceIte, Nat.reduceSub, Nat.reduceMul, reduceCtorEq]
              by_cases e : i = j
              · subst e
                simp [hgj, x_on]
              · rw [if_neg e, a5 i hi]
                simp only [show (i < j + 1) = (i < j) from propext (by omega)]
            · simp only [x_up_app, x_ce_app, x_ce_same, Nat.reduceAdd, Nat.reduceEqDiff, ↓reduceIte, Nat.reduceSub, Nat.reduceMul, reduceCtorEq]
              by_cases e : i = j
              · subst e
                simp [hgj]
              · rw [if_neg e, a6 i hi]
                simp only [show (i < j + 1) = (i < j) from propext (by omega)]
            · simp only [x_up_app, x_ce_app, x_ce_same, Nat.reduceAdd, Nat.reduceEqDiff, ↓reduceIte, Nat.reduceSub, Nat.reduceMul, reduceCtorEq, if_neg hi]
              exact a7 i hi
            · rw [x_up_row b4, x_up_row b1, x_up_row b2, x_up_row b3, x_up_row b6, x_up_row b5]
              exact a8 a b1 b2 b3 b4 b5 b6
  refine r_to 2 60 rfl rfl ?_
  have h0 : ∀ p, x_sat n A F SI 0 p = false := fun p => by
    cases h : x_sat n A F SI 0 p with
    | false => rfl
    | true =>
      obtain ⟨c1, b1, -⟩ := x_sat_iff.mp h
      omega
  refine loop 0 (Nat.zero_le _) g none (fun p hp => by rw [h0]; exact hA p hp) (fun p hp => by rw [h0]; rfl) (fun p hp => by rw [h0]; rfl) (x_mk_congr hG (fun p _ => by rw [h0]; simp)) (fun i hi => by rw [if_neg (fun z => Nat.not_lt_zero _ z.1)]; exact hS i hi) (fun i hi => by rw [if_neg (fun z => Nat.not_lt_zero _ z.1)]) (fun _ _ => rfl) (fun _ _ _ _ _ _ _ => rfl)
set_option maxHeartbeats 4000000 in
theorem c_bump_2 (d n c : Nat) (g : xG) (Q : xQ) (A : Nat → Option Nat) (K : Nat → Nat → Bool) (hn : g 7 9 = nI n) (h12 : n ≤ 12) (h16 : c ≤ 16) (hA : ∀ p, p < n → g 127 p = x_on (A p)) (hA2 : ∀ p q, p < n → A p = some q → q < c) (hK : ∀ p, p < n → x_mk (g 126 p) c (K p))
    (k : ∀ g' : xG, (∀ p q, p < n → A p = some q → g' 125 p = nI q ∧ g' 130 p = g 130 p + nI 1) → (∀ p, p < n → A p = none → g' 125 p = g 125 p ∧ g' 130 p = g 130 p) → (∀ p, p < n → x_mk (g' 126 p) c (fun j => K p j || decide (A p = some j))) → (∀ a, a ≠ 125 → a ≠ 126 → a ≠ 130 → g' a = g a) → Q none g') : Cx (d + 1) i_Grope_bump [.ref 124, .ref 7] g Q := by
  refine r_cl (L0 := [some (.ref 124), some (.ref 7), none, none]) rfl (Or.inr ⟨_, _, _, rfl, rfl⟩) rfl rfl rfl ?_
  have loop : ∀ p, p ≤ n → ∀ (g' : xG) (l3 : Option Value), (∀ i q, i < p → A i = some q → g' 125 i = nI q ∧ g' 130 i = g 130 i + nI 1) → (∀ i, i < n → (p ≤ i ∨ A i = none) → g' 125 i = g 125 i ∧ g' 130 i = g 130 i) → (∀ i, i < n → x_mk (g' 126 i) c (fun j => K i j || (decide (i < p) && decide (A i = some j)))) → (∀ a, a ≠ 125 → a ≠ 126 → a ≠ 130 → g' a = g a) → Rx d m_Grope_bump Q 2 [some (.ref 124), some (.ref 7), some (.int (nI p)), l3] [] g' := by
    refine r_for ?_ ?_
    · intro g' l3 a1 a2 a3 a4
      refine r_run 400 rfl rfl ?_
      simp only [x_up_app, x_ce_app, x_ce_same, Nat.reduceAdd, Nat.reduceEqDiff, ↓reduceIte, Nat.reduceSub, Nat.reduceMul, reduceCtorEq, a4 7 (by decide) (by decide) (by decide), hn]
      refine n_ige rfl (by omega) (by omega) (fun _ => ?_) (fun h2 => by omega)
      refine r_run 400 rfl rfl ?_
      refine r_ret rfl rfl (k g' a1 (fun i hi h => a2 i hi (Or.inr h)) (fun i hi => x_mk_congr (a3 i hi) (fun j _ => ?_)) a4)
      simp [hi]
    · intro p hp ih g' l3 a1 a2 a3 a4
      refine r_run 400 rfl rfl ?_
      simp only [x_up_app, x_ce_app, x_ce_same, Nat.reduceAdd, Nat.reduceEqDiff, ↓reduceIte, Nat.reduceSub, Nat.reduceMul, reduceCtorEq, a4 7 (by decide) (by decide) (by decide), hn]
      refine n_ige rfl (by omega) (by omega) (fun _ => by omega) (fun _ => ?_)
      refine r_run 400 rfl rfl ?_
      refine r_ald (j := p) rfl rfl (rfl) (by omega) (Nat.le_of_ble_eq_true rfl) ?_
      refine r_run 400 rfl rfl ?_
      simp only [x_up_app, x_ce_app, x_ce_same, Nat.reduceAdd, Nat.reduceEqDiff, ↓reduceIte, Nat.reduceSub, Nat.reduceMul, reduceCtorEq, a4 127 (by decide) (by decide) (by decide), hA p hp]
      cases hap : A p with
      | none =>
        refine r_ieq rfl (fun _ => ?_) (fun h => absurd rfl h)
        refine r_to 2 60 rfl rfl ?_
        simp only [x_up_app, x_ce_app, x_ce_same, Nat.reduceAdd, Nat.reduceEqDiff, ↓reduceIte, Nat.reduceSub, Nat.reduceMul, reduceCtorEq, nI_add]
        refine ih g' _ (fun i q hi hq => ?_) (fun i hi h => ?_) (fun i hi => x_mk_congr (a3 i hi) (fun j _ => ?_)) a4
        · by_cases e : i = p
          · subst e
            rw [hap] at hq
            cases hq
          · exact a1 i q (by omega) hq
        · refine a2 i hi ?_
          rcases h with h | h
          · exact Or.inl (by omega)
          · exact Or.inr h
        · by_cases e : i = p
          · subst e
            simp [hap]
          · simp only [show (i < p + 1) = (i < p) from propext (by omega)]
      | some q0 =>
        have hq0 := hA2 p q0 hp hap
        refine r_ieq rfl (fun h => ?_) (fun _ => ?_)
        · exfalso
          have : nI q0 < 0 := by
            rw [show nI q0 = -1 from h]
            decide
          exact nI_pos (by omega) this
        · refine r_run 400 rfl rfl ?_
          refine r_ald (j := p) rfl rfl (rfl) (by omega) (Nat.le_of_ble_eq_true rfl) ?_
          refine r_run 400 rfl rfl ?_
          refine r_ast (j := p) rfl rfl rfl (by omega) (Nat.le_of_ble_eq_true rfl) ?_
          refine r_run 400 rfl rfl ?_
          refine r_ast (j := p) rfl rfl rfl (by omega) (Nat.le_of_ble_eq_true rfl) ?_
          refine r_run 400 rfl rfl ?_
          refine r_ald (j := p) rfl rfl (rfl) (by omega) (Nat.le_of_ble_eq_true rfl) ?_
          refine r_run 400 rfl rfl ?_
          refine r_ast (j := p) rfl rfl rfl (by omega) (Nat.le_of_ble_eq_true rfl) ?_
          refine r_to 2 60 rfl rfl ?_
          simp only [x_up_app, x_ce_app, x_ce_same, Nat.reduceAdd, Nat.reduceEqDiff, ↓reduceIte, Nat.reduceSub, Nat.reduceMul, reduceCtorEq, nI_add]
          obtain ⟨p1, p2⟩ := a2 p hp (Or.inl (Nat.le_refl _))
          refine ih _ _ (fun i q hi hq => ?_) (fun i hi h => ?_) (fun i hi => ?_) (fun a b1 b2 b3 => ?_)
          · simp only [x_up_app, x_ce_app, x_ce_same, Nat.reduceAdd, Nat.reduceEqDiff, ↓reduceIte, Nat.reduceSub, Nat.reduceMul, reduceCtorEq]
            by_cases e : i = p
            · subst e
              rw [hap] at hq
              cases hq
              simp [p2, x_on]
            · rw [if_neg e, if_neg e]
              exact a1 i q (by omega) hq
          · have e : ¬ i = p := by
              rcases h with h | h
              · omega
              · intro e
                subst e
                rw [hap] at h
                cases h
            simp only [x_up_app, x_ce_app, x_ce_same, Nat.reduceAdd, Nat.reduceEqDiff, ↓reduceIte, Nat.reduceSub, Nat.reduceMul, reduceCtorEq, if_neg e]
            exact a2 i hi (h.imp (fun h => by omega) id)
          · simp only [x_up_app, x_ce_app, x_ce_same, Nat.reduceAdd, Nat.reduceEqDiff, ↓reduceIte, Nat.reduceSub, Nat.reduceMul, reduceCtorEq]
            by_cases e : i = p
            · subst e
              rw [if_pos rfl]
              refine x_mk_set (a3 i hi) hq0 h16 (fun j hj => ?_)
              simp [hap, eq_comm]
            · rw [if_neg e]
              refine x_mk_congr (a3 i hi) (fun j _ => ?_)
              simp only [show (i < p + 1) = (i < p) from propext (by omega)]
          · rw [x_up_row b3, x_up_row b1, x_up_row b2]
            exact a4 a b1 b2 b3
  refine r_to 2 60 rfl rfl ?_
  exact loop 0 (Nat.zero_le _) g none (fun i q hi => absurd hi (Nat.not_lt_zero _)) (fun i _ _ => ⟨rfl, rfl⟩) (fun i hi => x_mk_congr (hK i hi) (fun j _ => by simp)) (fun _ _ _ _ => rfl)
set_option maxHeartbeats 4000000 in
theorem c_sitDown_137 (d n c : Nat) (g : xG) (Q : xQ) (A : Nat → Option Nat) (F : Nat → Nat) (SI : Nat → Option Nat) (G : Nat → Bool) (hn : g 142 9 = nI n) (h12 : n ≤ 12) (hc : g 138 3 = nI c) (h16 : c ≤ 16) (hA : ∀ p, p < n → g 127 p = x_on (A p)) (hA2 : ∀ p q, p < n → A p = some q → q < 16) (hF : ∀ p q, p < n → A p = some q → g 128 p = nI (F p) ∧ F p < 16) (hS : ∀ j, j < c → g 132 j = x_on (SI j)) (hS2 : ∀ j q, j < c → SI j = some q → q < 16) (hG : x_mk (g 124 9) n G)
    (k : ∀ g' : xG, (∀ p, p < n → g' 127 p = x_on (if x_sat n A F SI c p = true then none else A p)) → (∀ p, p < n → g' 129 p = if x_sat n A F SI c p = true then x_on (A p) else g 129 p) → (∀ p, p < n → g' 131 p = if x_sat n A F SI c p = true then g 124 11 else g 131 p) → x_mk (g' 124 9) n (fun p => G p && !x_sat n A F SI c p) → (∀ j, j < c → g' 132 j = x_on (if (x_get n A F SI j).isSome = true then x_get n A F SI j else SI j)) → (∀ j, j < c → g' 133 j = if (x_get n A F SI j).isSome = true then g 124 11 else g 133 j) → (∀ j, j ≠ 9 → g' 124 j = g 124 j) → (∀ a, a ≠ 124 → a ≠ 127 → a ≠ 129 → a ≠ 131 → a ≠ 132 → a ≠ 133 → g' a = g a) → Q none g') : Cx (d + 2) i_Grope_sitDown [.ref 124, .ref 138, .ref 142] g Q := by
  refine r_cl (L0 := [some (.ref 124), some (.ref 138), some (.ref 142), none, none]) rfl (Or.inr ⟨_, _, _, rfl, rfl⟩) rfl rfl rfl ?_
  have loop : ∀ j, j ≤ c → ∀ (g' : xG) (l4 : Option Value), (∀ p, p < n → g' 127 p = x_on (if x_sat n A F SI j p = true then none else A p)) → (∀ p, p < n → g' 129 p = if x_sat n A F SI j p = true then x_on (A p) else g 129 p) → (∀ p, p < n → g' 131 p = if x_sat n A F SI j p = true then g 124 11 else g 131 p) → x_mk (g' 124 9) n (fun p => G p && !x_sat n A F SI j p) → (∀ i, i < c → g' 132 i = x_on (if i < j ∧ (x_get n A F SI i).isSome = true then x_get n A F SI i else SI i)) → (∀ i, i < c → g' 133 i = if i < j ∧ (x_get n A F SI i).isSome = true then g 124 11 else g 133 i) → (∀ j, j ≠ 9 → g' 124 j = g 124 j) → (∀ a, a ≠ 124 → a ≠ 127 → a ≠ 129 → a ≠ 131 → a ≠ 132 → a ≠ 133 → g' a = g a) → Rx (d + 1) m_Grope_sitDown Q 2 [some (.ref 124), some (.ref 138), some (.ref 142), some (.int (nI j)), l4] [] g' := by
    refine r_for ?_ ?_
    · intro g' l4 a1 a2 a3 a4 a5 a6 a7 a8
      refine r_run 400 rfl rfl ?_
      simp only [x_up_app, x_ce_app, x_ce_same, Nat.reduceAdd, Nat.reduceEqDiff, ↓reduceIte, Nat.reduceSub, Nat.reduceMul, reduceCtorEq, a8 138 (by decide) (by decide) (by decide) (by decide) (by decide) (by decide), hc]
      refine n_ige rfl (by omega) (by omega) (fun _ => ?_) (fun h2 => by omega)
      refine r_run 400 rfl rfl ?_
      refine r_ret rfl rfl (k g' a1 a2 a3 a4 (fun i hi => ?_) (fun i hi => ?_) a7 a8)
      · rw [a5 i hi]
        simp only [hi, true_and]
      · rw [a6 i hi]
        simp only [hi, true_and]
    · intro j hj ih g' l4 a1 a2 a3 a4 a5 a6 a7 a8
      -- the chair passes
      have pass : ∀ l4, x_get n A F SI j = none → Rx (d + 1) m_Grope_sitDown Q 78 [some (.ref 124), some (.ref 138), some (.ref 142), some (.int (nI j)), l4] [] g' := by
        intro l4 hnone
        have hsat : ∀ p, x_sat n A F SI (j + 1) p = x_sat n A F SI j p := fun p => by rw [x_sat_next, hnone]; simp
        refine r_to 2 60 rfl rfl ?_
        simp only [x_up_app, x_ce_app, x_ce_same, Nat.reduceAdd, Nat.reduceEqDiff, ↓reduceIte, Nat.reduceSub, Nat.reduceMul, reduceCtorEq, nI_add]
        refine ih g' l4 (fun p hp => by rw [hsat]; exact a1 p hp) (fun p hp => by rw [hsat]; exact a2 p hp) (fun p hp => by rw [hsat]; exact a3 p hp) (x_mk_congr a4 (fun p _ => by rw [hsat])) (fun i hi => ?_) (fun i hi => ?_) a7 a8
        · rw [a5 i hi]
          by_cases e : i = j
          · subst e
            simp [hnone]
          · simp only [show (i < j + 1) = (i < j) from propext (by omega)]
        · rw [a6 i hi]
          by_cases e : i = j
          · subst e
            simp [hnone]
          · simp only [show (i < j + 1) = (i < j) from propext (by omega)]
      refine r_run 400 rfl rfl ?_
      simp only [x_up_app, x_ce_app, x_ce_same, Nat.reduceAdd, Nat.reduceEqDiff, ↓reduceIte, Nat.reduceSub, Nat.reduceMul, reduceCtorEq, a8 138 (by decide) (by decide) (by decide) (by decide) (by decide) (by decide), hc]
      refine n_ige rfl (by omega) (by omega) (fun _ => by omega) (fun _ => ?_)
      refine r_run 400 rfl rfl ?_
      refine r_ald (j := j) rfl rfl (rfl) (by omega) (Nat.le_of_ble_eq_true rfl) ?_
      have e132 : g' 132 j = x_on (SI j) := by rw [a5 j hj, if_neg (fun z => Nat.lt_irrefl _ z.1)]
      refine r_run 400 rfl rfl ?_
      simp only [x_up_app, x_ce_app, x_ce_same, Nat.reduceAdd, Nat.reduceEqDiff, ↓reduceIte, Nat.reduceSub, Nat.reduceMul, reduceCtorEq, e132]
      refine r_ine rfl (fun h => ?_) (fun h => ?_)
      · have hsi : SI j ≠ none := fun e => h (by rw [e]; rfl)
        have hnone : x_get n A F SI j = none := by unfold x_get; rw [if_neg hsi]
        refine r_run 400 rfl rfl ?_
        refine r_ieq rfl (fun _ => pass _ hnone) (fun h => absurd rfl h)
      · have hsi : SI j = none := (x_on_m1 (fun q hq => by have := hS2 j q hj hq; omega)).mp h
        refine r_run 400 rfl rfl ?_
        refine r_inv rfl rfl rfl ?_
        have hAA : ∀ p, p < n → (decide ((if x_sat n A F SI j p = true then none else A p) = some j)) = decide (A p = some j) := by
          intro p hp
          by_cases hs : x_sat n A F SI j p = true
          · obtain ⟨c1, b1, b2⟩ := x_sat_iff.mp hs
            have b3 := (x_get_ok b2).2.1
            rw [if_pos hs, b3]
            have : ¬ c1 = j := by omega
            simp [this]
          · rw [if_neg hs]
        refine c_nearest_137 d n j g' _ (fun p => if x_sat n A F SI j p = true then none else A p) F (by rw [a8 142 (by decide) (by decide) (by decide) (by decide) (by decide) (by decide)]; exact hn) h12 (by omega) a1 (fun p q hp hq => ?_) (fun p hp hq => ?_) ?_
        · split at hq
          · cases hq
          · exact hA2 p q hp hq
        · split at hq
          · cases hq
          · rw [a8 128 (by decide) (by decide) (by decide) (by decide) (by decide) (by decide)]
            exact hF p j hp hq
        rw [x_nr_congr n hAA]
        have hget : x_get n A F SI j = x_nr (fun p => decide (A p = some j)) F n := by unfold x_get; rw [if_pos hsi]
        rw [← hget]
        cases hgj : x_get n A F SI j with
        | none =>
          refine r_run 400 rfl rfl ?_
          refine r_ieq rfl (fun _ => pass _ hgj) (fun h => absurd rfl h)
        | some p0 =>
          obtain ⟨z1, z2, -⟩ := x_get_ok hgj
          have hns : x_sat n A F SI j p0 = false := by
            cases h : x_sat n A F SI j p0 with
            | false => rfl
            | true =>
              obtain ⟨c1, b1, b2⟩ := x_sat_iff.mp h
              have := (x_get_ok b2).2.1
              rw [z2] at this
              cases this
              omega
          have hsat : ∀ p, x_sat n A F SI (j + 1) p = (x_sat n A F SI j p || decide (p = p0)) := fun p => by
            rw [x_sat_next, hgj]
            congr 1
            simp [eq_comm]
          refine r_run 400 rfl rfl ?_
          refine r_ieq rfl (fun h => ?_) (fun _ => ?_)
          · exfalso
            have : nI p0 < 0 := by
              rw [show nI p0 = -1 from h]
              decide
            exact nI_pos (by omega) this
          · refine r_run 400 rfl rfl ?_
            refine r_ast (j := j) rfl rfl rfl (by omega) (Nat.le_of_ble_eq_true rfl) ?_
            refine r_run 400 rfl rfl ?_
            simp only [x_up_app, x_ce_app, x_ce_same, Nat.reduceAdd, Nat.reduceEqDiff, ↓reduceIte, Nat.reduceSub, Nat.reduceMul, reduceCtorEq]
            refine r_ast (j := j) rfl rfl rfl (by omega) (Nat.le_of_ble_eq_true rfl) ?_
            refine r_run 400 rfl rfl ?_
            refine r_ast (j := p0) rfl rfl rfl (by omega) (Nat.le_of_ble_eq_true rfl) ?_
            refine r_run 400 rfl rfl ?_
            refine r_ast (j := p0) rfl rfl rfl (by omega) (Nat.le_of_ble_eq_true rfl) ?_
            refine r_run 400 rfl rfl ?_
            refine r_inv rfl rfl rfl ?_
            refine c_grSettle d p0 _ _ (by omega) ?_
            refine r_to 2 60 rfl rfl ?_
            simp only [x_up_app, x_ce_app, x_ce_same, Nat.reduceAdd, Nat.reduceEqDiff, ↓reduceIte, Nat.reduceSub, Nat.reduceMul, reduceCtorEq, nI_add, a7 11 (by decide)]
            refine ih _ _ (fun p hp => ?_) (fun p hp => ?_) (fun p hp => ?_) ?_ (fun i hi => ?_) (fun i hi => ?_) (fun i hi => ?_) (fun a b1 b2 b3 b4 b5 b6 => ?_)
            · simp only [x_up_app, x_ce_app, x_ce_same, Nat.reduceAdd, Nat.reduceEqDiff, ↓reduceIte, Nat.reduceSub, Nat.reduceMul, reduceCtorEq]
              rw [hsat]
              by_cases e : p = p0
              · subst e
                simp [x_on]
              · rw [if_neg e, a1 p hp]
                simp [e]
            · simp only [x_up_app, x_ce_app, x_ce_same, Nat.reduceAdd, Nat.reduceEqDiff, ↓reduceIte, Nat.reduceSub, Nat.reduceMul, reduceCtorEq]
              rw [hsat]
              by_cases e : p = p0
              · subst e
                simp [z2, x_on]
              · rw [if_neg e, a2 p hp]
                simp [e]
            · simp only [x_up_app, x_ce_app, x_ce_same, Nat.reduceAdd, Nat.reduceEqDiff, ↓reduceIte, Nat.reduceSub, Nat.reduceMul, reduceCtorEq]
              rw [hsat]
              by_cases e : p = p0
              · subst e
                simp
              · rw [if_neg e, a3 p hp]
                simp [e]
            · simp only [x_up_app, x_ce_app, x_ce_same, Nat.reduceAdd, Nat.reduceEqDiff, ↓reduceIte, Nat.reduceSub, Nat.reduceMul, reduceCtorEq]
              refine x_mk_clr a4 z1 (by omega) (fun q hq => ?_)
              rw [hsat]
              by_cases e : q = p0
              · subst e
                simp
              · simp [e]
            · simp only [x_up_app, x_ce_app, x_ce_same, Nat.reduceAdd, Nat.reduceEqDiff, ↓reduceIte, Nat.reduceSub, Nat.reduceMul, reduceCtorEq]
              by_cases e : i = j
              · subst e
                simp [hgj, x_on]
              · rw [if_neg e, a5 i hi]
                simp only [show (i < j + 1) = (i < j) from propext (by omega)]
            · simp only [x_up_app, x_ce_app, x_ce_same, Nat.reduceAdd, Nat.reduceEqDiff, ↓reduceIte, Nat.reduceSub, Nat.reduceMul, reduceCtorEq]
              by_cases e : i = j
              · subst e
                simp [hgj]
              · rw [if_neg e, a6 i hi]
                simp only [show (i < j + 1) = (i < j) from propext (by omega)]
            · simp only [x_up_app, x_ce_app, x_ce_same, Nat.reduceAdd, Nat.reduceEqDiff, ↓reduceIte, Nat.reduceSub, Nat.reduceMul, reduceCtorEq, if_neg hi]
              exact a7 i hi
            · rw [x_up_row b4, x_up_row b1, x_up_row b2, x_up_row b3, x_up_row b6, x_up_row b5]
              exact a8 a b1 b2 b3 b4 b5 b6
  refine r_to 2 60 rfl rfl ?_
  have h0 : ∀ p, x_sat n A F SI 0 p = false := fun p => by
    cases h : x_sat n A F SI 0 p with
    | false => rfl
    | true =>
      obtain ⟨c1, b1, -⟩ := x_sat_iff.mp h
      omega
  refine loop 0 (Nat.zero_le _) g none (fun p hp => by rw [h0]; exact hA p hp) (fun p hp => by rw [h0]; rfl) (fun p hp => by rw [h0]; rfl) (x_mk_congr hG (fun p _ => by rw [h0]; simp)) (fun i hi => by rw [if_neg (fun z => Nat.not_lt_zero _ z.1)]; exact hS i hi) (fun i hi => by rw [if_neg (fun z => Nat.not_lt_zero _ z.1)]) (fun _ _ => rfl) (fun _ _ _ _ _ _ _ => rfl)
set_option maxHeartbeats 4000000 in
theorem c_bump_137 (d n c : Nat) (g : xG) (Q : xQ) (A : Nat → Option Nat) (K : Nat → Nat → Bool) (hn : g 142 9 = nI n) (h12 : n ≤ 12) (h16 : c ≤ 16) (hA : ∀ p, p < n → g 127 p = x_on (A p)) (hA2 : ∀ p q, p < n → A p = some q → q < c) (hK : ∀ p, p < n → x_mk (g 126 p) c (K p))
    (k : ∀ g' : xG, (∀ p q, p < n → A p = some q → g' 125 p = nI q ∧ g' 130 p = g 130 p + nI 1) → (∀ p, p < n → A p = none → g' 125 p = g 125 p ∧ g' 130 p = g 130 p) → (∀ p, p < n → x_mk (g' 126 p) c (fun j => K p j || decide (A p = some j))) → (∀ a, a ≠ 125 → a ≠ 126 → a ≠ 130 → g' a = g a) → Q none g') : Cx (d + 1) i_Grope_bump [.ref 124, .ref 142] g Q := by
  refine r_cl (L0 := [some (.ref 124), some (.ref 142), none, none]) rfl (Or.inr ⟨_, _, _, rfl, rfl⟩) rfl rfl rfl ?_
  have loop : ∀ p, p ≤ n → ∀ (g' : xG) (l3 : Option Value), (∀ i q, i < p → A i = some q → g' 125 i = nI q ∧ g' 130 i = g 130 i + nI 1) → (∀ i, i < n → (p ≤ i ∨ A i = none) → g' 125 i = g 125 i ∧ g' 130 i = g 130 i) → (∀ i, i < n → x_mk (g' 126 i) c (fun j => K i j || (decide (i < p) && decide (A i = some j)))) → (∀ a, a ≠ 125 → a ≠ 126 → a ≠ 130 → g' a = g a) → Rx d m_Grope_bump Q 2 [some (.ref 124), some (.ref 142), some (.int (nI p)), l3] [] g' := by
    refine r_for ?_ ?_
    · intro g' l3 a1 a2 a3 a4
      refine r_run 400 rfl rfl ?_
      simp only [x_up_app, x_ce_app, x_ce_same, Nat.reduceAdd, Nat.reduceEqDiff, ↓reduceIte, Nat.reduceSub, Nat.reduceMul, reduceCtorEq, a4 142 (by decide) (by decide) (by decide), hn]
      refine n_ige rfl (by omega) (by omega) (fun _ => ?_) (fun h2 => by omega)
      refine r_run 400 rfl rfl ?_
      refine r_ret rfl rfl (k g' a1 (fun i hi h => a2 i hi (Or.inr h)) (fun i hi => x_mk_congr (a3 i hi) (fun j _ => ?_)) a4)
      simp [hi]
    · intro p hp ih g' l3 a1 a2 a3 a4
      refine r_run 400 rfl rfl ?_
      simp only [x_up_app, x_ce_app, x_ce_same, Nat.reduceAdd, Nat.reduceEqDiff, ↓reduceIte, Nat.reduceSub, Nat.reduceMul, reduceCtorEq, a4 142 (by decide) (by decide) (by decide), hn]
      refine n_ige rfl (by omega) (by omega) (fun _ => by omega) (fun _ => ?_)
      refine r_run 400 rfl rfl ?_
      refine r_ald (j := p) rfl rfl (rfl) (by omega) (Nat.le_of_ble_eq_true rfl) ?_
      refine r_run 400 rfl rfl ?_
      simp only [x_up_app, x_ce_app, x_ce_same, Nat.reduceAdd, Nat.reduceEqDiff, ↓reduceIte, Nat.reduceSub, Nat.reduceMul, reduceCtorEq, a4 127 (by decide) (by decide) (by decide), hA p hp]
      cases hap : A p with
      | none =>
        refine r_ieq rfl (fun _ => ?_) (fun h => absurd rfl h)
        refine r_to 2 60 rfl rfl ?_
        simp only [x_up_app, x_ce_app, x_ce_same, Nat.reduceAdd, Nat.reduceEqDiff, ↓reduceIte, Nat.reduceSub, Nat.reduceMul, reduceCtorEq, nI_add]
        refine ih g' _ (fun i q hi hq => ?_) (fun i hi h => ?_) (fun i hi => x_mk_congr (a3 i hi) (fun j _ => ?_)) a4
        · by_cases e : i = p
          · subst e
            rw [hap] at hq
            cases hq
          · exact a1 i q (by omega) hq
        · refine a2 i hi ?_
          rcases h with h | h
          · exact Or.inl (by omega)
          · exact Or.inr h
        · by_cases e : i = p
          · subst e
            simp [hap]
          · simp only [show (i < p + 1) = (i < p) from propext (by omega)]
      | some q0 =>
        have hq0 := hA2 p q0 hp hap
        refine r_ieq rfl (fun h => ?_) (fun _ => ?_)
        · exfalso
          have : nI q0 < 0 := by
            rw [show nI q0 = -1 from h]
            decide
          exact nI_pos (by omega) this
        · refine r_run 400 rfl rfl ?_
          refine r_ald (j := p) rfl rfl (rfl) (by omega) (Nat.le_of_ble_eq_true rfl) ?_
          refine r_run 400 rfl rfl ?_
          refine r_ast (j := p) rfl rfl rfl (by omega) (Nat.le_of_ble_eq_true rfl) ?_
          refine r_run 400 rfl rfl ?_
          refine r_ast (j := p) rfl rfl rfl (by omega) (Nat.le_of_ble_eq_true rfl) ?_
          refine r_run 400 rfl rfl ?_
          refine r_ald (j := p) rfl rfl (rfl) (by omega) (Nat.le_of_ble_eq_true rfl) ?_
          refine r_run 400 rfl rfl ?_
          refine r_ast (j := p) rfl rfl rfl (by omega) (Nat.le_of_ble_eq_true rfl) ?_
          refine r_to 2 60 rfl rfl ?_
          simp only [x_up_app, x_ce_app, x_ce_same, Nat.reduceAdd, Nat.reduceEqDiff, ↓reduceIte, Nat.reduceSub, Nat.reduceMul, reduceCtorEq, nI_add]
          obtain ⟨p1, p2⟩ := a2 p hp (Or.inl (Nat.le_refl _))
          refine ih _ _ (fun i q hi hq => ?_) (fun i hi h => ?_) (fun i hi => ?_) (fun a b1 b2 b3 => ?_)
          · simp only [x_up_app, x_ce_app, x_ce_same, Nat.reduceAdd, Nat.reduceEqDiff, ↓reduceIte, Nat.reduceSub, Nat.reduceMul, reduceCtorEq]
            by_cases e : i = p
            · subst e
              rw [hap] at hq
              cases hq
              simp [p2, x_on]
            · rw [if_neg e, if_neg e]
              exact a1 i q (by omega) hq
          · have e : ¬ i = p := by
              rcases h with h | h
              · omega
              · intro e
                subst e
                rw [hap] at h
                cases h
            simp only [x_up_app, x_ce_app, x_ce_same, Nat.reduceAdd, Nat.reduceEqDiff, ↓reduceIte, Nat.reduceSub, Nat.reduceMul, reduceCtorEq, if_neg e]
            exact a2 i hi (h.imp (fun h => by omega) id)
          · simp only [x_up_app, x_ce_app, x_ce_same, Nat.reduceAdd, Nat.reduceEqDiff, ↓reduceIte, Nat.reduceSub, Nat.reduceMul, reduceCtorEq]
            by_cases e : i = p
            · subst e
              rw [if_pos rfl]
              refine x_mk_set (a3 i hi) hq0 h16 (fun j hj => ?_)
              simp [hap, eq_comm]
            · rw [if_neg e]
              refine x_mk_congr (a3 i hi) (fun j _ => ?_)
              simp only [show (i < p + 1) = (i < p) from propext (by omega)]
          · rw [x_up_row b3, x_up_row b1, x_up_row b2]
            exact a4 a b1 b2 b3
  refine r_to 2 60 rfl rfl ?_
  exact loop 0 (Nat.zero_le _) g none (fun i q hi => absurd hi (Nat.not_lt_zero _)) (fun i _ _ => ⟨rfl, rfl⟩) (fun i hi => x_mk_congr (hK i hi) (fun j _ => by simp)) (fun _ _ _ _ => rfl)
