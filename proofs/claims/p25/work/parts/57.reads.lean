/-! ===== what a text that was typed says of its orders ===== -/
/-- how many characters c there are ahead of k -/
def cu (s : Nat → Nat) (c k : Nat) : Nat := x_cnt (fun q => decide (s q = c)) k
theorem cu_s {s : Nat → Nat} {c k : Nat} : cu s c (k + 1) = cu s c k + (if s k = c then 1 else 0) := by
  show x_cnt _ k + (if decide (s k = c) = true then 1 else 0) = _
  simp only [decide_eq_true_eq]
  rfl
theorem cu_eq {s : Nat → Nat} {c k : Nat} (h : s k = c) : cu s c (k + 1) = cu s c k + 1 := by rw [cu_s, if_pos h]
theorem cu_ne {s : Nat → Nat} {c k : Nat} (h : ¬ s k = c) : cu s c (k + 1) = cu s c k := by rw [cu_s, if_neg h]; rfl
theorem cu_rn {s : Nat → Nat} {c : Nat} (hc : c = 59 ∨ c = 46) : ∀ (k i : Nat) (v : Option Nat), cu s c (x_rn s k i v).2 = cu s c i
  | 0, i, v => rfl
  | k + 1, i, v => by
    unfold x_rn
    split
    · rename_i hd
      rw [x_dig_iff] at hd
      rw [cu_rn hc k (i + 1), cu_ne (by omega)]
    · rfl
theorem rn_le {s : Nat → Nat} {L : Nat} (hs : ∀ q, L ≤ q → s q = 0) : ∀ (k i : Nat) (v : Option Nat), i ≤ L → (x_rn s k i v).2 ≤ L
  | 0, i, v, h => h
  | k + 1, i, v, h => by
    unfold x_rn
    split
    · rename_i hd
      rw [x_dig_iff] at hd
      refine rn_le hs k (i + 1) _ ?_
      apply Nat.lt_of_not_le
      intro z
      have := hs i z
      omega
    · exact h
set_option maxHeartbeats 4000000 in
theorem ord_at {s : Nat → Nat} {L i : Nat} (hs : ∀ q, L ≤ q → s q = 0) (hi : i < L) : (x_ord s i).2.1 ≤ L ∧ i ≤ (x_ord s i).2.1 ∧ ((x_ord s i).1 = true → cu s 59 (x_ord s i).2.1 = cu s 59 i + 1 ∧ cu s 46 (x_ord s i).2.1 = cu s 46 i) := by
  have h3 := x_rn_ok s 3 (i + 1) none
  have l3 := rn_le hs 3 (i + 1) none hi
  have c3 := cu_rn (s := s) (c := 59) (Or.inl rfl) 3 (i + 1) none
  have d3 := cu_rn (s := s) (c := 46) (Or.inr rfl) 3 (i + 1) none
  have lt : ∀ q, ¬ s q = 0 → q < L := fun q hq => Nat.lt_of_not_le fun z => hq (hs q z)
  refine ⟨?_, x_ord_le.2, ?_⟩
  · unfold x_ord
    split
    · split
      · rename_i hr
        rw [hr] at l3
        exact l3
      · rename_i hr
        rw [hr] at l3
        split
        · rename_i h59
          exact lt _ (by omega)
        · exact l3
    · split
      · split
        · rename_i hr
          rw [hr] at l3
          exact l3
        · rename_i v j1 hr
          rw [hr] at l3
          split
          · rename_i h44
            have l4 := rn_le hs 3 (j1 + 1) none (lt j1 (by omega))
            split
            · rename_i hr2
              rw [hr2] at l4
              exact l4
            · rename_i hr2
              rw [hr2] at l4
              split
              · rename_i h59
                exact lt _ (by omega)
              · exact l4
          · exact l3
      · split
        · split
          · rename_i h59
            exact lt (i + 1) (by omega)
          · exact hi
        · exact Nat.le_of_lt hi
  · intro hok
    unfold x_ord at hok ⊢
    split at hok
    · rename_i hc
      rw [if_pos hc]
      split at hok
      · cases hok
      · rename_i v j hr
        rw [hr] at c3 d3
        dsimp only at c3 d3 hok ⊢
        split at hok
        · rename_i h59
          rw [if_pos h59]
          dsimp only
          rw [cu_eq h59, cu_ne (c := 46) (by omega), c3, d3, cu_ne (by omega), cu_ne (by omega)]
          exact ⟨rfl, rfl⟩
        · cases hok
    · rename_i hc
      rw [if_neg hc]
      split at hok
      · rename_i hc2
        rw [if_pos hc2]
        split at hok
        · cases hok
        · rename_i v j hr
          rw [hr] at c3 d3
          dsimp only at c3 d3 hok ⊢
          split at hok
          · rename_i h44
            rw [if_pos h44]
            have c4 := cu_rn (s := s) (c := 59) (Or.inl rfl) 3 (j + 1) none
            have d4 := cu_rn (s := s) (c := 46) (Or.inr rfl) 3 (j + 1) none
            split at hok
            · cases hok
            · rename_i w l hr2
              rw [hr2] at c4 d4
              dsimp only at c4 d4 hok ⊢
              split at hok
              · rename_i h59
                rw [if_pos h59]
                dsimp only
                rw [cu_eq h59, cu_ne (c := 46) (by omega), c4, d4, cu_ne (k := j) (by omega), cu_ne (k := j) (by omega), c3, d3, cu_ne (by omega), cu_ne (by omega)]
                exact ⟨rfl, rfl⟩
              · cases hok
          · cases hok
      · rename_i hc2
        rw [if_neg hc2]
        split at hok
        · rename_i hc3
          rw [if_pos hc3]
          split at hok
          · rename_i h59
            rw [if_pos h59]
            dsimp only
            rw [cu_eq h59, cu_ne (c := 46) (k := i + 1) (by omega), cu_ne (k := i) (by omega), cu_ne (k := i) (by omega)]
            exact ⟨rfl, rfl⟩
          · cases hok
        · cases hok
/-- the values of errors -/
def eB (x : Int32) : Prop := x = -1000001 ∨ x = -1000002 ∨ x = -1000003
def e4 (x : Int32) : Prop := x = nI 0 ∨ eB x
theorem e4_if {c : Prop} [Decidable c] {x y : Int32} (h1 : e4 x) (h2 : e4 y) : e4 (if c then x else y) := by
  split <;> assumption
theorem e4_0 : e4 (nI 0) := Or.inl rfl
theorem e4_1 : e4 (-1000001) := Or.inr (Or.inl rfl)
theorem e4_2 : e4 (-1000002) := Or.inr (Or.inr (Or.inl rfl))
theorem e4_3 : e4 (-1000003) := Or.inr (Or.inr (Or.inr rfl))
theorem eOrd_4 (V : xV) (k a b : Nat) : e4 (eOrd V k a b) := by
  unfold eOrd eChair ePlayer eBeat eStart eStop
  exact e4_if (e4_if (e4_if (e4_if e4_3 e4_0) e4_2) e4_1) (e4_if (e4_if (e4_if (e4_if e4_3 e4_0) e4_2) e4_1) (e4_if (e4_if (e4_if (e4_if e4_0 e4_3) e4_2) e4_1) (e4_if (e4_if e4_0 e4_2) (e4_if e4_0 e4_2))))
theorem e4_neg {x : Int32} (h : e4 x) (hn : x < 0) : eB x := by
  rcases h with rfl | h
  · exact absurd hn (by decide)
  · exact h
theorem oRun_at {s : Nat → Nat} {L : Nat} (hs : ∀ q, L ≤ q → s q = 0) : ∀ (f i n : Nat) (V : xV), i ≤ L → L ≤ i + f →
    ((oRun s L f i n V).2.2.1 = 0 → (oRun s L f i n V).2.1 + cu s 59 i = n + cu s 59 L ∧ cu s 46 L = cu s 46 i) ∧
    (¬ (oRun s L f i n V).2.2.1 = 0 → (oRun s L f i n V).2.2.2.1 < L ∧ (((oRun s L f i n V).2.2.1 = 1 ∧ ∃ k, (oRun s L f i n V).2.2.2.2 = nI k ∧ (oRun s L f i n V).2.2.2.1 + k ≤ L) ∨ ((oRun s L f i n V).2.2.1 = 2 ∧ eB (oRun s L f i n V).2.2.2.2)))
  | 0, i, n, V, h1, h2 => by
    have e : i = L := by omega
    subst e
    exact ⟨fun _ => ⟨rfl, rfl⟩, fun z => absurd rfl z⟩
  | f + 1, i, n, V, h1, h2 => by
    unfold oRun
    by_cases hi : i < L
    · rw [if_pos hi]
      obtain ⟨o1, o2, o3⟩ := ord_at hs hi
      split
      · rename_i j k a b hr
        rw [hr] at o1 o2 o3
        obtain ⟨o4, o5⟩ := o3 rfl
        dsimp only at o1 o2 o4 o5
        have hij := (x_ord_kk hr).2
        split
        · rename_i he
          exact ⟨fun z => absurd (show (2 : Nat) = 0 from z) (by decide), fun _ => ⟨hi, Or.inr ⟨rfl, e4_neg (eOrd_4 V k a b) he⟩⟩⟩
        · obtain ⟨r1, r2⟩ := oRun_at hs f j (n + 1) (vOrd V k a b) o1 (by omega)
          refine ⟨fun z => ?_, r2⟩
          obtain ⟨r3, r4⟩ := r1 z
          rw [o4] at r3
          rw [o5] at r4
          exact ⟨by omega, r4⟩
      · rename_i j _ _ _ hr
        rw [hr] at o1 o2
        dsimp only at o1 o2
        exact ⟨fun z => absurd (show (1 : Nat) = 0 from z) (by decide), fun _ => ⟨hi, Or.inl ⟨rfl, j - i, rfl, by show i + (j - i) ≤ L; omega⟩⟩⟩
    · rw [if_neg hi]
      have e : i = L := by omega
      subst e
      exact ⟨fun _ => ⟨rfl, rfl⟩, fun z => absurd rfl z⟩
/-- of a state's text -/
theorem tRun_at {T : xT} (hk : tOk T) : ((tRun T).2.2.1 = 0 → (tRun T).2.1 = cu (tX T) 59 (tL T) ∧ cu (tX T) 46 (tL T) = 0) ∧
    (¬ (tRun T).2.2.1 = 0 → (tRun T).2.2.2.1 < tL T ∧ (((tRun T).2.2.1 = 1 ∧ ∃ k, (tRun T).2.2.2.2 = nI k ∧ (tRun T).2.2.2.1 + k ≤ tL T) ∨ ((tRun T).2.2.1 = 2 ∧ eB (tRun T).2.2.2.2))) := by
  have h := oRun_at (s := sgn (tL T) (tX T)) (L := tL T) (fun q hq => if_neg (by omega)) 60 0 0 (tV T) (Nat.zero_le _) (by have := hk.2.2.2.1; omega)
  have e : ∀ c, cu (sgn (tL T) (tX T)) c (tL T) = cu (tX T) c (tL T) := fun c => x_cnt_congr (tL T) (fun i hi => by
    show decide ((if i < tL T then tX T i else 0) = c) = _
    rw [if_pos hi])
  rw [e 59, e 46] at h
  refine ⟨fun z => ?_, h.2⟩
  obtain ⟨h1, h2⟩ := h.1 z
  exact ⟨by
    have h1 : (tRun T).2.1 + 0 = 0 + cu (tX T) 59 (tL T) := h1
    omega, h2⟩
