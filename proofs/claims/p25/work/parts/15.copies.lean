/-! ===== copies of a game ===== -/
/-- the game at D in g1 is the game at S in g0, as far as it's looked at -/
def x_same (g1 : xG) (D : Nat) (g0 : xG) (S : Nat) : Prop :=
  (∀ j, 3 ≤ j → j ≤ 9 → g1 D j = g0 S j) ∧ g1 (D + 1) 3 = g0 (S + 1) 3 ∧ (∀ r i, 2 ≤ r → r ≤ 4 → i < 16 → g1 (D + r) i = g0 (S + r) i) ∧ (g1 (D + 5) 8 = g0 (S + 5) 8 ∧ g1 (D + 5) 9 = g0 (S + 5) 9) ∧ (∀ r i, 6 ≤ r → r ≤ 13 → i < 12 → g1 (D + r) i = g0 (S + r) i) ∧ (g1 (D + 14) 5 = g0 (S + 14) 5 ∧ g1 (D + 14) 6 = g0 (S + 14) 6) ∧ (∀ r i, 15 ≤ r → r ≤ 19 → i < 12 → g1 (D + r) i = g0 (S + r) i)
theorem x_cp_at {g : xG} {k0 k1 n i : Nat} (h : i < n) : x_cp g k0 k1 0 0 n k1 i = g k0 i := by
  unfold x_cp
  rw [if_pos rfl, sb_cpy0 h]
theorem x_cp_row {g : xG} {k0 k1 a b n c : Nat} (h : c ≠ k1) : x_cp g k0 k1 a b n c = g c := by
  funext i
  unfold x_cp
  rw [if_neg h]
set_option maxHeartbeats 4000000 in
theorem c_copyChairs_2_137 (d : Nat) (g : xG) (Q : xQ) (k : ∀ g' : xG, g' 3 3 = g 138 3 → (∀ i, i < 16 → g' 4 i = g 139 i ∧ g' 5 i = g 140 i ∧ g' 6 i = g 141 i) → (∀ a, (a < 3 ∨ 6 < a) → g' a = g a) → Q none g') : Cx (d + 1) i_Chairs_copyFrom [.ref 3, .ref 138] g Q := by
  refine r_cl (L0 := [some (.ref 3), some (.ref 138)]) rfl (Or.inr ⟨_, _, _, rfl, rfl⟩) rfl rfl rfl ?_
  refine r_run 400 rfl rfl ?_
  refine r_cpy rfl rfl rfl rfl (by decide) (by decide) (by decide) ?_
  refine r_run 400 rfl rfl ?_
  refine r_cpy rfl rfl rfl rfl (by decide) (by decide) (by decide) ?_
  refine r_run 400 rfl rfl ?_
  refine r_cpy rfl rfl rfl rfl (by decide) (by decide) (by decide) ?_
  refine r_run 400 rfl rfl ?_
  refine r_ret rfl rfl (k _ ?_ (fun i hi => ?_) (fun a ha => ?_))
  · simp only [x_up_app, x_ce_app, x_ce_same, Nat.reduceAdd, Nat.reduceEqDiff, ↓reduceIte, Nat.reduceSub, Nat.reduceMul, reduceCtorEq]
    rw [x_cp_row (by decide), x_cp_row (by decide), x_cp_row (by decide)]
  · rw [x_up_row (by decide), x_up_row (by decide), x_up_row (by decide)]
    rw [x_cp_row (c := 4) (by decide), x_cp_row (c := 4) (by decide), x_cp_at hi]
    rw [x_cp_row (c := 5) (by decide), x_cp_at hi, x_cp_row (c := 140) (by decide)]
    rw [x_cp_at hi, x_cp_row (c := 141) (by decide), x_cp_row (c := 141) (by decide)]
    exact ⟨rfl, rfl, rfl⟩
  · simp only [Nat.reduceAdd]
    rw [x_up_row (by omega), x_cp_row (by omega), x_cp_row (by omega), x_cp_row (by omega)]
set_option maxHeartbeats 4000000 in
theorem c_copyPlayers_2_137 (d : Nat) (g : xG) (Q : xQ) (k : ∀ g' : xG, g' 7 8 = g 142 8 → g' 7 9 = g 142 9 → (∀ i, i < 12 → g' 8 i = g 143 i ∧ g' 9 i = g 144 i ∧ g' 10 i = g 145 i ∧ g' 11 i = g 146 i ∧ g' 12 i = g 147 i ∧ g' 13 i = g 148 i ∧ g' 14 i = g 149 i ∧ g' 15 i = g 150 i) → (∀ a, (a < 7 ∨ 15 < a) → g' a = g a) → Q none g') : Cx (d + 1) i_Players_copyFrom [.ref 7, .ref 142] g Q := by
  refine r_cl (L0 := [some (.ref 7), some (.ref 142)]) rfl (Or.inr ⟨_, _, _, rfl, rfl⟩) rfl rfl rfl ?_
  refine r_run 400 rfl rfl ?_
  refine r_cpy rfl rfl rfl rfl (by decide) (by decide) (by decide) ?_
  refine r_run 400 rfl rfl ?_
  refine r_cpy rfl rfl rfl rfl (by decide) (by decide) (by decide) ?_
  refine r_run 400 rfl rfl ?_
  refine r_cpy rfl rfl rfl rfl (by decide) (by decide) (by decide) ?_
  refine r_run 400 rfl rfl ?_
  refine r_cpy rfl rfl rfl rfl (by decide) (by decide) (by decide) ?_
  refine r_run 400 rfl rfl ?_
  refine r_cpy rfl rfl rfl rfl (by decide) (by decide) (by decide) ?_
  refine r_run 400 rfl rfl ?_
  refine r_cpy rfl rfl rfl rfl (by decide) (by decide) (by decide) ?_
  refine r_run 400 rfl rfl ?_
  refine r_cpy rfl rfl rfl rfl (by decide) (by decide) (by decide) ?_
  refine r_run 400 rfl rfl ?_
  refine r_cpy rfl rfl rfl rfl (by decide) (by decide) (by decide) ?_
  refine r_run 400 rfl rfl ?_
  refine r_ret rfl rfl (k _ ?_ ?_ (fun i hi => ?_) (fun a ha => ?_))
  · simp only [x_up_app, x_ce_app, x_ce_same, Nat.reduceAdd, Nat.reduceEqDiff, ↓reduceIte, Nat.reduceSub, Nat.reduceMul, reduceCtorEq]
    repeat rw [x_cp_row (by decide)]
  · simp only [x_up_app, x_ce_app, x_ce_same, Nat.reduceAdd, Nat.reduceEqDiff, ↓reduceIte, Nat.reduceSub, Nat.reduceMul, reduceCtorEq]
    repeat rw [x_cp_row (by decide)]
  · refine ⟨?_, ?_, ?_, ?_, ?_, ?_, ?_, ?_⟩
    all_goals
      rw [x_up_row (by decide), x_up_row (by decide)]
      repeat (first | rw [x_cp_at hi] | rw [x_cp_row (by decide)])
  · simp only [Nat.reduceAdd]
    rw [x_up_row (by omega), x_up_row (by omega), x_cp_row (by omega), x_cp_row (by omega), x_cp_row (by omega), x_cp_row (by omega), x_cp_row (by omega), x_cp_row (by omega), x_cp_row (by omega), x_cp_row (by omega)]
set_option maxHeartbeats 4000000 in
theorem c_copyBells_2_137 (d : Nat) (g : xG) (Q : xQ) (k : ∀ g' : xG, g' 16 5 = g 151 5 → g' 16 6 = g 151 6 → (∀ i, i < 12 → g' 17 i = g 152 i ∧ g' 18 i = g 153 i ∧ g' 19 i = g 154 i ∧ g' 20 i = g 155 i ∧ g' 21 i = g 156 i) → (∀ a, (a < 16 ∨ 21 < a) → g' a = g a) → Q none g') : Cx (d + 1) i_Bells_copyFrom [.ref 16, .ref 151] g Q := by
  refine r_cl (L0 := [some (.ref 16), some (.ref 151)]) rfl (Or.inr ⟨_, _, _, rfl, rfl⟩) rfl rfl rfl ?_
  refine r_run 400 rfl rfl ?_
  refine r_cpy rfl rfl rfl rfl (by decide) (by decide) (by decide) ?_
  refine r_run 400 rfl rfl ?_
  refine r_cpy rfl rfl rfl rfl (by decide) (by decide) (by decide) ?_
  refine r_run 400 rfl rfl ?_
  refine r_cpy rfl rfl rfl rfl (by decide) (by decide) (by decide) ?_
  refine r_run 400 rfl rfl ?_
  refine r_cpy rfl rfl rfl rfl (by decide) (by decide) (by decide) ?_
  refine r_run 400 rfl rfl ?_
  refine r_cpy rfl rfl rfl rfl (by decide) (by decide) (by decide) ?_
  refine r_run 400 rfl rfl ?_
  refine r_ret rfl rfl (k _ ?_ ?_ (fun i hi => ?_) (fun a ha => ?_))
  · simp only [x_up_app, x_ce_app, x_ce_same, Nat.reduceAdd, Nat.reduceEqDiff, ↓reduceIte, Nat.reduceSub, Nat.reduceMul, reduceCtorEq]
    repeat rw [x_cp_row (by decide)]
  · simp only [x_up_app, x_ce_app, x_ce_same, Nat.reduceAdd, Nat.reduceEqDiff, ↓reduceIte, Nat.reduceSub, Nat.reduceMul, reduceCtorEq]
    repeat rw [x_cp_row (by decide)]
  · refine ⟨?_, ?_, ?_, ?_, ?_⟩
    all_goals
      rw [x_up_row (by decide), x_up_row (by decide)]
      repeat (first | rw [x_cp_at hi] | rw [x_cp_row (by decide)])
  · simp only [Nat.reduceAdd]
    rw [x_up_row (by omega), x_up_row (by omega), x_cp_row (by omega), x_cp_row (by omega), x_cp_row (by omega), x_cp_row (by omega), x_cp_row (by omega)]
set_option maxHeartbeats 4000000 in
theorem c_copyGame_2_137 (d : Nat) (g : xG) (Q : xQ) (k : ∀ g' : xG, x_same g' 2 g 137 → (∀ a, (a < 2 ∨ 21 < a) → g' a = g a) → Q none g') : Cx (d + 2) i_Game_copyFrom [.ref 2, .ref 137] g Q := by
  refine r_cl (L0 := [some (.ref 2), some (.ref 137)]) rfl (Or.inr ⟨_, _, _, rfl, rfl⟩) rfl rfl rfl ?_
  refine r_run 400 rfl rfl ?_
  refine r_inv rfl rfl rfl ?_
  refine c_copyChairs_2_137 d g _ (fun g1 a1 a2 a3 => ?_)
  refine r_run 400 rfl rfl ?_
  refine r_inv rfl rfl rfl ?_
  refine c_copyPlayers_2_137 d g1 _ (fun g2 b1 b2 b3 b4 => ?_)
  refine r_run 400 rfl rfl ?_
  refine r_inv rfl rfl rfl ?_
  refine c_copyBells_2_137 d g2 _ (fun g3 e1 e2 e3 e4 => ?_)
  refine r_run 400 rfl rfl ?_
  have f1 : ∀ a, (a < 3 ∨ 21 < a) → g3 a = g a := fun a ha => by rw [e4 a (by omega), b4 a (by omega), a3 a (by omega)]
  have f2 : ∀ a, (a < 3 ∨ 6 < a) → (a < 7 ∨ 15 < a) → g2 a = g a := fun a h1 h2 => by rw [b4 a h2, a3 a h1]
  refine r_ret rfl rfl (k _ ⟨fun j h1 h2 => ?_, ?_, fun r i h1 h2 hi => ?_, ⟨?_, ?_⟩, fun r i h1 h2 hi => ?_, ⟨?_, ?_⟩, fun r i h1 h2 hi => ?_⟩ (fun a ha => ?_))
  · have hj : j = 3 ∨ j = 4 ∨ j = 5 ∨ j = 6 ∨ j = 7 ∨ j = 8 ∨ j = 9 := by omega
    rcases hj with rfl | rfl | rfl | rfl | rfl | rfl | rfl <;> (simp only [x_up_app, Nat.reduceAdd, Nat.reduceEqDiff, ↓reduceIte]; rw [f1 137 (by decide)])
  · show _ = g 138 3
    repeat rw [x_up_row (by decide)]
    rw [e4 3 (by decide), b4 3 (by decide), a1]
  · have hr : r = 2 ∨ r = 3 ∨ r = 4 := by omega
    obtain ⟨z1, z2, z3⟩ := a2 i hi
    rcases hr with rfl | rfl | rfl
    · show _ = g 139 i
      repeat rw [x_up_row (by decide)]
      rw [e4 _ (by decide), b4 _ (by decide)]
      exact z1
    · show _ = g 140 i
      repeat rw [x_up_row (by decide)]
      rw [e4 _ (by decide), b4 _ (by decide)]
      exact z2
    · show _ = g 141 i
      repeat rw [x_up_row (by decide)]
      rw [e4 _ (by decide), b4 _ (by decide)]
      exact z3
  · show _ = g 142 8
    repeat rw [x_up_row (by decide)]
    rw [e4 _ (by decide), b1, a3 142 (by decide)]
  · show _ = g 142 9
    repeat rw [x_up_row (by decide)]
    rw [e4 _ (by decide), b2, a3 142 (by decide)]
  · obtain ⟨z1, z2, z3, z4, z5, z6, z7, z8⟩ := b3 i hi
    have hr : r = 6 ∨ r = 7 ∨ r = 8 ∨ r = 9 ∨ r = 10 ∨ r = 11 ∨ r = 12 ∨ r = 13 := by omega
    rcases hr with rfl | rfl | rfl | rfl | rfl | rfl | rfl | rfl
    · show _ = g 143 i
      repeat rw [x_up_row (by decide)]
      rw [e4 _ (by decide)]
      exact z1.trans (by rw [a3 143 (by decide)])
    · show _ = g 144 i
      repeat rw [x_up_row (by decide)]
      rw [e4 _ (by decide)]
      exact z2.trans (by rw [a3 144 (by decide)])
    · show _ = g 145 i
      repeat rw [x_up_row (by decide)]
      rw [e4 _ (by decide)]
      exact z3.trans (by rw [a3 145 (by decide)])
    · show _ = g 146 i
      repeat rw [x_up_row (by decide)]
      rw [e4 _ (by decide)]
      exact z4.trans (by rw [a3 146 (by decide)])
    · show _ = g 147 i
      repeat rw [x_up_row (by decide)]
      rw [e4 _ (by decide)]
      exact z5.trans (by rw [a3 147 (by decide)])
    · show _ = g 148 i
      repeat rw [x_up_row (by decide)]
      rw [e4 _ (by decide)]
      exact z6.trans (by rw [a3 148 (by decide)])
    · show _ = g 149 i
      repeat rw [x_up_row (by decide)]
      rw [e4 _ (by decide)]
      exact z7.trans (by rw [a3 149 (by decide)])
    · show _ = g 150 i
      repeat rw [x_up_row (by decide)]
      rw [e4 _ (by decide)]
      exact z8.trans (by rw [a3 150 (by decide)])
  · show _ = g 151 5
    repeat rw [x_up_row (by decide)]
    rw [e1, f2 151 (by decide) (by decide)]
  · show _ = g 151 6
    repeat rw [x_up_row (by decide)]
    rw [e2, f2 151 (by decide) (by decide)]
  · obtain ⟨z1, z2, z3, z4, z5⟩ := e3 i hi
    have hr : r = 15 ∨ r = 16 ∨ r = 17 ∨ r = 18 ∨ r = 19 := by omega
    rcases hr with rfl | rfl | rfl | rfl | rfl
    · show _ = g 152 i
      repeat rw [x_up_row (by decide)]
      exact z1.trans (by rw [f2 152 (by decide) (by decide)])
    · show _ = g 153 i
      repeat rw [x_up_row (by decide)]
      exact z2.trans (by rw [f2 153 (by decide) (by decide)])
    · show _ = g 154 i
      repeat rw [x_up_row (by decide)]
      exact z3.trans (by rw [f2 154 (by decide) (by decide)])
    · show _ = g 155 i
      repeat rw [x_up_row (by decide)]
      exact z4.trans (by rw [f2 155 (by decide) (by decide)])
    · show _ = g 156 i
      repeat rw [x_up_row (by decide)]
      exact z5.trans (by rw [f2 156 (by decide) (by decide)])
  · simp only [Nat.reduceAdd]
    repeat rw [x_up_row (by omega)]
    exact f1 a (by omega)
set_option maxHeartbeats 4000000 in
theorem c_copyChairs_137_2 (d : Nat) (g : xG) (Q : xQ) (k : ∀ g' : xG, g' 138 3 = g 3 3 → (∀ i, i < 16 → g' 139 i = g 4 i ∧ g' 140 i = g 5 i ∧ g' 141 i = g 6 i) → (∀ a, (a < 138 ∨ 141 < a) → g' a = g a) → Q none g') : Cx (d + 1) i_Chairs_copyFrom [.ref 138, .ref 3] g Q := by
  refine r_cl (L0 := [some (.ref 138), some (.ref 3)]) rfl (Or.inr ⟨_, _, _, rfl, rfl⟩) rfl rfl rfl ?_
  refine r_run 400 rfl rfl ?_
  refine r_cpy rfl rfl rfl rfl (by decide) (by decide) (by decide) ?_
  refine r_run 400 rfl rfl ?_
  refine r_cpy rfl rfl rfl rfl (by decide) (by decide) (by decide) ?_
  refine r_run 400 rfl rfl ?_
  refine r_cpy rfl rfl rfl rfl (by decide) (by decide) (by decide) ?_
  refine r_run 400 rfl rfl ?_
  refine r_ret rfl rfl (k _ ?_ (fun i hi => ?_) (fun a ha => ?_))
  · simp only [x_up_app, x_ce_app, x_ce_same, Nat.reduceAdd, Nat.reduceEqDiff, ↓reduceIte, Nat.reduceSub, Nat.reduceMul, reduceCtorEq]
    rw [x_cp_row (by decide), x_cp_row (by decide), x_cp_row (by decide)]
  · rw [x_up_row (by decide), x_up_row (by decide), x_up_row (by decide)]
    rw [x_cp_row (c := 139) (by decide), x_cp_row (c := 139) (by decide), x_cp_at hi]
    rw [x_cp_row (c := 140) (by decide), x_cp_at hi, x_cp_row (c := 5) (by decide)]
    rw [x_cp_at hi, x_cp_row (c := 6) (by decide), x_cp_row (c := 6) (by decide)]
    exact ⟨rfl, rfl, rfl⟩
  · simp only [Nat.reduceAdd]
    rw [x_up_row (by omega), x_cp_row (by omega), x_cp_row (by omega), x_cp_row (by omega)]
set_option maxHeartbeats 4000000 in
theorem c_copyPlayers_137_2 (d : Nat) (g : xG) (Q : xQ) (k : ∀ g' : xG, g' 142 8 = g 7 8 → g' 142 9 = g 7 9 → (∀ i, i < 12 → g' 143 i = g 8 i ∧ g' 144 i = g 9 i ∧ g' 145 i = g 10 i ∧ g' 146 i = g 11 i ∧ g' 147 i = g 12 i ∧ g' 148 i = g 13 i ∧ g' 149 i = g 14 i ∧ g' 150 i = g 15 i) → (∀ a, (a < 142 ∨ 150 < a) → g' a = g a) → Q none g') : Cx (d + 1) i_Players_copyFrom [.ref 142, .ref 7] g Q := by
  refine r_cl (L0 := [some (.ref 142), some (.ref 7)]) rfl (Or.inr ⟨_, _, _, rfl, rfl⟩) rfl rfl rfl ?_
  refine r_run 400 rfl rfl ?_
  refine r_cpy rfl rfl rfl rfl (by decide) (by decide) (by decide) ?_
  refine r_run 400 rfl rfl ?_
  refine r_cpy rfl rfl rfl rfl (by decide) (by decide) (by decide) ?_
  refine r_run 400 rfl rfl ?_
  refine r_cpy rfl rfl rfl rfl (by decide) (by decide) (by decide) ?_
  refine r_run 400 rfl rfl ?_
  refine r_cpy rfl rfl rfl rfl (by decide) (by decide) (by decide) ?_
  refine r_run 400 rfl rfl ?_
  refine r_cpy rfl rfl rfl rfl (by decide) (by decide) (by decide) ?_
  refine r_run 400 rfl rfl ?_
  refine r_cpy rfl rfl rfl rfl (by decide) (by decide) (by decide) ?_
  refine r_run 400 rfl rfl ?_
  refine r_cpy rfl rfl rfl rfl (by decide) (by decide) (by decide) ?_
  refine r_run 400 rfl rfl ?_
  refine r_cpy rfl rfl rfl rfl (by decide) (by decide) (by decide) ?_
  refine r_run 400 rfl rfl ?_
  refine r_ret rfl rfl (k _ ?_ ?_ (fun i hi => ?_) (fun a ha => ?_))
  · simp only [x_up_app, x_ce_app, x_ce_same, Nat.reduceAdd, Nat.reduceEqDiff, ↓reduceIte, Nat.reduceSub, Nat.reduceMul, reduceCtorEq]
    repeat rw [x_cp_row (by decide)]
  · simp only [x_up_app, x_ce_app, x_ce_same, Nat.reduceAdd, Nat.reduceEqDiff, ↓reduceIte, Nat.reduceSub, Nat.reduceMul, reduceCtorEq]
    repeat rw [x_cp_row (by decide)]
  · refine ⟨?_, ?_, ?_, ?_, ?_, ?_, ?_, ?_⟩
    all_goals
      rw [x_up_row (by decide), x_up_row (by decide)]
      repeat (first | rw [x_cp_at hi] | rw [x_cp_row (by decide)])
  · simp only [Nat.reduceAdd]
    rw [x_up_row (by omega), x_up_row (by omega), x_cp_row (by omega), x_cp_row (by omega), x_cp_row (by omega), x_cp_row (by omega), x_cp_row (by omega), x_cp_row (by omega), x_cp_row (by omega), x_cp_row (by omega)]
set_option maxHeartbeats 4000000 in
theorem c_copyBells_137_2 (d : Nat) (g : xG) (Q : xQ) (k : ∀ g' : xG, g' 151 5 = g 16 5 → g' 151 6 = g 16 6 → (∀ i, i < 12 → g' 152 i = g 17 i ∧ g' 153 i = g 18 i ∧ g' 154 i = g 19 i ∧ g' 155 i = g 20 i ∧ g' 156 i = g 21 i) → (∀ a, (a < 151 ∨ 156 < a) → g' a = g a) → Q none g') : Cx (d + 1) i_Bells_copyFrom [.ref 151, .ref 16] g Q := by
  refine r_cl (L0 := [some (.ref 151), some (.ref 16)]) rfl (Or.inr ⟨_, _, _, rfl, rfl⟩) rfl rfl rfl ?_
  refine r_run 400 rfl rfl ?_
  refine r_cpy rfl rfl rfl rfl (by decide) (by decide) (by decide) ?_
  refine r_run 400 rfl rfl ?_
  refine r_cpy rfl rfl rfl rfl (by decide) (by decide) (by decide) ?_
  refine r_run 400 rfl rfl ?_
  refine r_cpy rfl rfl rfl rfl (by decide) (by decide) (by decide) ?_
  refine r_run 400 rfl rfl ?_
  refine r_cpy rfl rfl rfl rfl (by decide) (by decide) (by decide) ?_
  refine r_run 400 rfl rfl ?_
  refine r_cpy rfl rfl rfl rfl (by decide) (by decide) (by decide) ?_
  refine r_run 400 rfl rfl ?_
  refine r_ret rfl rfl (k _ ?_ ?_ (fun i hi => ?_) (fun a ha => ?_))
  · simp only [x_up_app, x_ce_app, x_ce_same, Nat.reduceAdd, Nat.reduceEqDiff, ↓reduceIte, Nat.reduceSub, Nat.reduceMul, reduceCtorEq]
    repeat rw [x_cp_row (by decide)]
  · simp only [x_up_app, x_ce_app, x_ce_same, Nat.reduceAdd, Nat.reduceEqDiff, ↓reduceIte, Nat.reduceSub, Nat.reduceMul, reduceCtorEq]
    repeat rw [x_cp_row (by decide)]
  · refine ⟨?_, ?_, ?_, ?_, ?_⟩
    all_goals
      rw [x_up_row (by decide), x_up_row (by decide)]
      repeat (first | rw [x_cp_at hi] | rw [x_cp_row (by decide)])
  · simp only [Nat.reduceAdd]
    rw [x_up_row (by omega), x_up_row (by omega), x_cp_row (by omega), x_cp_row (by omega), x_cp_row (by omega), x_cp_row (by omega), x_cp_row (by omega)]
set_option maxHeartbeats 4000000 in
theorem c_copyGame_137_2 (d : Nat) (g : xG) (Q : xQ) (k : ∀ g' : xG, x_same g' 137 g 2 → (∀ a, (a < 137 ∨ 156 < a) → g' a = g a) → Q none g') : Cx (d + 2) i_Game_copyFrom [.ref 137, .ref 2] g Q := by
  refine r_cl (L0 := [some (.ref 137), some (.ref 2)]) rfl (Or.inr ⟨_, _, _, rfl, rfl⟩) rfl rfl rfl ?_
  refine r_run 400 rfl rfl ?_
  refine r_inv rfl rfl rfl ?_
  refine c_copyChairs_137_2 d g _ (fun g1 a1 a2 a3 => ?_)
  refine r_run 400 rfl rfl ?_
  refine r_inv rfl rfl rfl ?_
  refine c_copyPlayers_137_2 d g1 _ (fun g2 b1 b2 b3 b4 => ?_)
  refine r_run 400 rfl rfl ?_
  refine r_inv rfl rfl rfl ?_
  refine c_copyBells_137_2 d g2 _ (fun g3 e1 e2 e3 e4 => ?_)
  refine r_run 400 rfl rfl ?_
  have f1 : ∀ a, (a < 138 ∨ 156 < a) → g3 a = g a := fun a ha => by rw [e4 a (by omega), b4 a (by omega), a3 a (by omega)]
  have f2 : ∀ a, (a < 138 ∨ 141 < a) → (a < 142 ∨ 150 < a) → g2 a = g a := fun a h1 h2 => by rw [b4 a h2, a3 a h1]
  refine r_ret rfl rfl (k _ ⟨fun j h1 h2 => ?_, ?_, fun r i h1 h2 hi => ?_, ⟨?_, ?_⟩, fun r i h1 h2 hi => ?_, ⟨?_, ?_⟩, fun r i h1 h2 hi => ?_⟩ (fun a ha => ?_))
  · have hj : j = 3 ∨ j = 4 ∨ j = 5 ∨ j = 6 ∨ j = 7 ∨ j = 8 ∨ j = 9 := by omega
    rcases hj with rfl | rfl | rfl | rfl | rfl | rfl | rfl <;> (simp only [x_up_app, Nat.reduceAdd, Nat.reduceEqDiff, ↓reduceIte]; rw [f1 2 (by decide)])
  · show _ = g 3 3
    repeat rw [x_up_row (by decide)]
    rw [e4 138 (by decide), b4 138 (by decide), a1]
  · have hr : r = 2 ∨ r = 3 ∨ r = 4 := by omega
    obtain ⟨z1, z2, z3⟩ := a2 i hi
    rcases hr with rfl | rfl | rfl
    · show _ = g 4 i
      repeat rw [x_up_row (by decide)]
      rw [e4 _ (by decide), b4 _ (by decide)]
      exact z1
    · show _ = g 5 i
      repeat rw [x_up_row (by decide)]
      rw [e4 _ (by decide), b4 _ (by decide)]
      exact z2
    · show _ = g 6 i
      repeat rw [x_up_row (by decide)]
      rw [e4 _ (by decide), b4 _ (by decide)]
      exact z3
  · show _ = g 7 8
    repeat rw [x_up_row (by decide)]
    rw [e4 _ (by decide), b1, a3 7 (by decide)]
  · show _ = g 7 9
    repeat rw [x_up_row (by decide)]
    rw [e4 _ (by decide), b2, a3 7 (by decide)]
  · obtain ⟨z1, z2, z3, z4, z5, z6, z7, z8⟩ := b3 i hi
    have hr : r = 6 ∨ r = 7 ∨ r = 8 ∨ r = 9 ∨ r = 10 ∨ r = 11 ∨ r = 12 ∨ r = 13 := by omega
    rcases hr with rfl | rfl | rfl | rfl | rfl | rfl | rfl | rfl
    · show _ = g 8 i
      repeat rw [x_up_row (by decide)]
      rw [e4 _ (by decide)]
      exact z1.trans (by rw [a3 8 (by decide)])
    · show _ = g 9 i
      repeat rw [x_up_row (by decide)]
      rw [e4 _ (by decide)]
      exact z2.trans (by rw [a3 9 (by decide)])
    · show _ = g 10 i
      repeat rw [x_up_row (by decide)]
      rw [e4 _ (by decide)]
      exact z3.trans (by rw [a3 10 (by decide)])
    · show _ = g 11 i
      repeat rw [x_up_row (by decide)]
      rw [e4 _ (by decide)]
      exact z4.trans (by rw [a3 11 (by decide)])
    · show _ = g 12 i
      repeat rw [x_up_row (by decide)]
      rw [e4 _ (by decide)]
      exact z5.trans (by rw [a3 12 (by decide)])
    · show _ = g 13 i
      repeat rw [x_up_row (by decide)]
      rw [e4 _ (by decide)]
      exact z6.trans (by rw [a3 13 (by decide)])
    · show _ = g 14 i
      repeat rw [x_up_row (by decide)]
      rw [e4 _ (by decide)]
      exact z7.trans (by rw [a3 14 (by decide)])
    · show _ = g 15 i
      repeat rw [x_up_row (by decide)]
      rw [e4 _ (by decide)]
      exact z8.trans (by rw [a3 15 (by decide)])
  · show _ = g 16 5
    repeat rw [x_up_row (by decide)]
    rw [e1, f2 16 (by decide) (by decide)]
  · show _ = g 16 6
    repeat rw [x_up_row (by decide)]
    rw [e2, f2 16 (by decide) (by decide)]
  · obtain ⟨z1, z2, z3, z4, z5⟩ := e3 i hi
    have hr : r = 15 ∨ r = 16 ∨ r = 17 ∨ r = 18 ∨ r = 19 := by omega
    rcases hr with rfl | rfl | rfl | rfl | rfl
    · show _ = g 17 i
      repeat rw [x_up_row (by decide)]
      exact z1.trans (by rw [f2 17 (by decide) (by decide)])
    · show _ = g 18 i
      repeat rw [x_up_row (by decide)]
      exact z2.trans (by rw [f2 18 (by decide) (by decide)])
    · show _ = g 19 i
      repeat rw [x_up_row (by decide)]
      exact z3.trans (by rw [f2 19 (by decide) (by decide)])
    · show _ = g 20 i
      repeat rw [x_up_row (by decide)]
      exact z4.trans (by rw [f2 20 (by decide) (by decide)])
    · show _ = g 21 i
      repeat rw [x_up_row (by decide)]
      exact z5.trans (by rw [f2 21 (by decide) (by decide)])
  · simp only [Nat.reduceAdd]
    repeat rw [x_up_row (by omega)]
    exact f1 a (by omega)
set_option maxHeartbeats 4000000 in
theorem c_copyChairs_24_2 (d : Nat) (g : xG) (Q : xQ) (k : ∀ g' : xG, g' 25 3 = g 3 3 → (∀ i, i < 16 → g' 26 i = g 4 i ∧ g' 27 i = g 5 i ∧ g' 28 i = g 6 i) → (∀ a, (a < 25 ∨ 28 < a) → g' a = g a) → Q none g') : Cx (d + 1) i_Chairs_copyFrom [.ref 25, .ref 3] g Q := by
  refine r_cl (L0 := [some (.ref 25), some (.ref 3)]) rfl (Or.inr ⟨_, _, _, rfl, rfl⟩) rfl rfl rfl ?_
  refine r_run 400 rfl rfl ?_
  refine r_cpy rfl rfl rfl rfl (by decide) (by decide) (by decide) ?_
  refine r_run 400 rfl rfl ?_
  refine r_cpy rfl rfl rfl rfl (by decide) (by decide) (by decide) ?_
  refine r_run 400 rfl rfl ?_
  refine r_cpy rfl rfl rfl rfl (by decide) (by decide) (by decide) ?_
  refine r_run 400 rfl rfl ?_
  refine r_ret rfl rfl (k _ ?_ (fun i hi => ?_) (fun a ha => ?_))
  · simp only [x_up_app, x_ce_app, x_ce_same, Nat.reduceAdd, Nat.reduceEqDiff, ↓reduceIte, Nat.reduceSub, Nat.reduceMul, reduceCtorEq]
    rw [x_cp_row (by decide), x_cp_row (by decide), x_cp_row (by decide)]
  · rw [x_up_row (by decide), x_up_row (by decide), x_up_row (by decide)]
    rw [x_cp_row (c := 26) (by decide), x_cp_row (c := 26) (by decide), x_cp_at hi]
    rw [x_cp_row (c := 27) (by decide), x_cp_at hi, x_cp_row (c := 5) (by decide)]
    rw [x_cp_at hi, x_cp_row (c := 6) (by decide), x_cp_row (c := 6) (by decide)]
    exact ⟨rfl, rfl, rfl⟩
  · simp only [Nat.reduceAdd]
    rw [x_up_row (by omega), x_cp_row (by omega), x_cp_row (by omega), x_cp_row (by omega)]
set_option maxHeartbeats 4000000 in
theorem c_copyPlayers_24_2 (d : Nat) (g : xG) (Q : xQ) (k : ∀ g' : xG, g' 29 8 = g 7 8 → g' 29 9 = g 7 9 → (∀ i, i < 12 → g' 30 i = g 8 i ∧ g' 31 i = g 9 i ∧ g' 32 i = g 10 i ∧ g' 33 i = g 11 i ∧ g' 34 i = g 12 i ∧ g' 35 i = g 13 i ∧ g' 36 i = g 14 i ∧ g' 37 i = g 15 i) → (∀ a, (a < 29 ∨ 37 < a) → g' a = g a) → Q none g') : Cx (d + 1) i_Players_copyFrom [.ref 29, .ref 7] g Q := by
  refine r_cl (L0 := [some (.ref 29), some (.ref 7)]) rfl (Or.inr ⟨_, _, _, rfl, rfl⟩) rfl rfl rfl ?_
  refine r_run 400 rfl rfl ?_
  refine r_cpy rfl rfl rfl rfl (by decide) (by decide) (by decide) ?_
  refine r_run 400 rfl rfl ?_
  refine r_cpy rfl rfl rfl rfl (by decide) (by decide) (by decide) ?_
  refine r_run 400 rfl rfl ?_
  refine r_cpy rfl rfl rfl rfl (by decide) (by decide) (by decide) ?_
  refine r_run 400 rfl rfl ?_
  refine r_cpy rfl rfl rfl rfl (by decide) (by decide) (by decide) ?_
  refine r_run 400 rfl rfl ?_
  refine r_cpy rfl rfl rfl rfl (by decide) (by decide) (by decide) ?_
  refine r_run 400 rfl rfl ?_
  refine r_cpy rfl rfl rfl rfl (by decide) (by decide) (by decide) ?_
  refine r_run 400 rfl rfl ?_
  refine r_cpy rfl rfl rfl rfl (by decide) (by decide) (by decide) ?_
  refine r_run 400 rfl rfl ?_
  refine r_cpy rfl rfl rfl rfl (by decide) (by decide) (by decide) ?_
  refine r_run 400 rfl rfl ?_
  refine r_ret rfl rfl (k _ ?_ ?_ (fun i hi => ?_) (fun a ha => ?_))
  · simp only [x_up_app, x_ce_app, x_ce_same, Nat.reduceAdd, Nat.reduceEqDiff, ↓reduceIte, Nat.reduceSub, Nat.reduceMul, reduceCtorEq]
    repeat rw [x_cp_row (by decide)]
  · simp only [x_up_app, x_ce_app, x_ce_same, Nat.reduceAdd, Nat.reduceEqDiff, ↓reduceIte, Nat.reduceSub, Nat.reduceMul, reduceCtorEq]
    repeat rw [x_cp_row (by decide)]
  · refine ⟨?_, ?_, ?_, ?_, ?_, ?_, ?_, ?_⟩
    all_goals
      rw [x_up_row (by decide), x_up_row (by decide)]
      repeat (first | rw [x_cp_at hi] | rw [x_cp_row (by decide)])
  · simp only [Nat.reduceAdd]
    rw [x_up_row (by omega), x_up_row (by omega), x_cp_row (by omega), x_cp_row (by omega), x_cp_row (by omega), x_cp_row (by omega), x_cp_row (by omega), x_cp_row (by omega), x_cp_row (by omega), x_cp_row (by omega)]
set_option maxHeartbeats 4000000 in
theorem c_copyBells_24_2 (d : Nat) (g : xG) (Q : xQ) (k : ∀ g' : xG, g' 38 5 = g 16 5 → g' 38 6 = g 16 6 → (∀ i, i < 12 → g' 39 i = g 17 i ∧ g' 40 i = g 18 i ∧ g' 41 i = g 19 i ∧ g' 42 i = g 20 i ∧ g' 43 i = g 21 i) → (∀ a, (a < 38 ∨ 43 < a) → g' a = g a) → Q none g') : Cx (d + 1) i_Bells_copyFrom [.ref 38, .ref 16] g Q := by
  refine r_cl (L0 := [some (.ref 38), some (.ref 16)]) rfl (Or.inr ⟨_, _, _, rfl, rfl⟩) rfl rfl rfl ?_
  refine r_run 400 rfl rfl ?_
  refine r_cpy rfl rfl rfl rfl (by decide) (by decide) (by decide) ?_
  refine r_run 400 rfl rfl ?_
  refine r_cpy rfl rfl rfl rfl (by decide) (by decide) (by decide) ?_
  refine r_run 400 rfl rfl ?_
  refine r_cpy rfl rfl rfl rfl (by decide) (by decide) (by decide) ?_
  refine r_run 400 rfl rfl ?_
  refine r_cpy rfl rfl rfl rfl (by decide) (by decide) (by decide) ?_
  refine r_run 400 rfl rfl ?_
  refine r_cpy rfl rfl rfl rfl (by decide) (by decide) (by decide) ?_
  refine r_run 400 rfl rfl ?_
  refine r_ret rfl rfl (k _ ?_ ?_ (fun i hi => ?_) (fun a ha => ?_))
  · simp only [x_up_app, x_ce_app, x_ce_same, Nat.reduceAdd, Nat.reduceEqDiff, ↓reduceIte, Nat.reduceSub, Nat.reduceMul, reduceCtorEq]
    repeat rw [x_cp_row (by decide)]
  · simp only [x_up_app, x_ce_app, x_ce_same, Nat.reduceAdd, Nat.reduceEqDiff, ↓reduceIte, Nat.reduceSub, Nat.reduceMul, reduceCtorEq]
    repeat rw [x_cp_row (by decide)]
  · refine ⟨?_, ?_, ?_, ?_, ?_⟩
    all_goals
      rw [x_up_row (by decide), x_up_row (by decide)]
      repeat (first | rw [x_cp_at hi] | rw [x_cp_row (by decide)])
  · simp only [Nat.reduceAdd]
    rw [x_up_row (by omega), x_up_row (by omega), x_cp_row (by omega), x_cp_row (by omega), x_cp_row (by omega), x_cp_row (by omega), x_cp_row (by omega)]
set_option maxHeartbeats 4000000 in
theorem c_copyGame_24_2 (d : Nat) (g : xG) (Q : xQ) (k : ∀ g' : xG, x_same g' 24 g 2 → (∀ a, (a < 24 ∨ 43 < a) → g' a = g a) → Q none g') : Cx (d + 2) i_Game_copyFrom [.ref 24, .ref 2] g Q := by
  refine r_cl (L0 := [some (.ref 24), some (.ref 2)]) rfl (Or.inr ⟨_, _, _, rfl, rfl⟩) rfl rfl rfl ?_
  refine r_run 400 rfl rfl ?_
  refine r_inv rfl rfl rfl ?_
  refine c_copyChairs_24_2 d g _ (fun g1 a1 a2 a3 => ?_)
  refine r_run 400 rfl rfl ?_
  refine r_inv rfl rfl rfl ?_
  refine c_copyPlayers_24_2 d g1 _ (fun g2 b1 b2 b3 b4 => ?_)
  refine r_run 400 rfl rfl ?_
  refine r_inv rfl rfl rfl ?_
  refine c_copyBells_24_2 d g2 _ (fun g3 e1 e2 e3 e4 => ?_)
  refine r_run 400 rfl rfl ?_
  have f1 : ∀ a, (a < 25 ∨ 43 < a) → g3 a = g a := fun a ha => by rw [e4 a (by omega), b4 a (by omega), a3 a (by omega)]
  have f2 : ∀ a, (a < 25 ∨ 28 < a) → (a < 29 ∨ 37 < a) → g2 a = g a := fun a h1 h2 => by rw [b4 a h2, a3 a h1]
  refine r_ret rfl rfl (k _ ⟨fun j h1 h2 => ?_, ?_, fun r i h1 h2 hi => ?_, ⟨?_, ?_⟩, fun r i h1 h2 hi => ?_, ⟨?_, ?_⟩, fun r i h1 h2 hi => ?_⟩ (fun a ha => ?_))
  · have hj : j = 3 ∨ j = 4 ∨ j = 5 ∨ j = 6 ∨ j = 7 ∨ j = 8 ∨ j = 9 := by omega
    rcases hj with rfl | rfl | rfl | rfl | rfl | rfl | rfl <;> (simp only [x_up_app, Nat.reduceAdd, Nat.reduceEqDiff, ↓reduceIte]; rw [f1 2 (by decide)])
  · show _ = g 3 3
    repeat rw [x_up_row (by decide)]
    rw [e4 25 (by decide), b4 25 (by decide), a1]
  · have hr : r = 2 ∨ r = 3 ∨ r = 4 := by omega
    obtain ⟨z1, z2, z3⟩ := a2 i hi
    rcases hr with rfl | rfl | rfl
    · show _ = g 4 i
      repeat rw [x_up_row (by decide)]
      rw [e4 _ (by decide), b4 _ (by decide)]
      exact z1
    · show _ = g 5 i
      repeat rw [x_up_row (by decide)]
      rw [e4 _ (by decide), b4 _ (by decide)]
      exact z2
    · show _ = g 6 i
      repeat rw [x_up_row (by decide)]
      rw [e4 _ (by decide), b4 _ (by decide)]
      exact z3
  · show _ = g 7 8
    repeat rw [x_up_row (by decide)]
    rw [e4 _ (by decide), b1, a3 7 (by decide)]
  · show _ = g 7 9
    repeat rw [x_up_row (by decide)]
    rw [e4 _ (by decide), b2, a3 7 (by decide)]
  · obtain ⟨z1, z2, z3, z4, z5, z6, z7, z8⟩ := b3 i hi
    have hr : r = 6 ∨ r = 7 ∨ r = 8 ∨ r = 9 ∨ r = 10 ∨ r = 11 ∨ r = 12 ∨ r = 13 := by omega
    rcases hr with rfl | rfl | rfl | rfl | rfl | rfl | rfl | rfl
    · show _ = g 8 i
      repeat rw [x_up_row (by decide)]
      rw [e4 _ (by decide)]
      exact z1.trans (by rw [a3 8 (by decide)])
    · show _ = g 9 i
      repeat rw [x_up_row (by decide)]
      rw [e4 _ (by decide)]
      exact z2.trans (by rw [a3 9 (by decide)])
    · show _ = g 10 i
      repeat rw [x_up_row (by decide)]
      rw [e4 _ (by decide)]
      exact z3.trans (by rw [a3 10 (by decide)])
    · show _ = g 11 i
      repeat rw [x_up_row (by decide)]
      rw [e4 _ (by decide)]
      exact z4.trans (by rw [a3 11 (by decide)])
    · show _ = g 12 i
      repeat rw [x_up_row (by decide)]
      rw [e4 _ (by decide)]
      exact z5.trans (by rw [a3 12 (by decide)])
    · show _ = g 13 i
      repeat rw [x_up_row (by decide)]
      rw [e4 _ (by decide)]
      exact z6.trans (by rw [a3 13 (by decide)])
    · show _ = g 14 i
      repeat rw [x_up_row (by decide)]
      rw [e4 _ (by decide)]
      exact z7.trans (by rw [a3 14 (by decide)])
    · show _ = g 15 i
      repeat rw [x_up_row (by decide)]
      rw [e4 _ (by decide)]
      exact z8.trans (by rw [a3 15 (by decide)])
  · show _ = g 16 5
    repeat rw [x_up_row (by decide)]
    rw [e1, f2 16 (by decide) (by decide)]
  · show _ = g 16 6
    repeat rw [x_up_row (by decide)]
    rw [e2, f2 16 (by decide) (by decide)]
  · obtain ⟨z1, z2, z3, z4, z5⟩ := e3 i hi
    have hr : r = 15 ∨ r = 16 ∨ r = 17 ∨ r = 18 ∨ r = 19 := by omega
    rcases hr with rfl | rfl | rfl | rfl | rfl
    · show _ = g 17 i
      repeat rw [x_up_row (by decide)]
      exact z1.trans (by rw [f2 17 (by decide) (by decide)])
    · show _ = g 18 i
      repeat rw [x_up_row (by decide)]
      exact z2.trans (by rw [f2 18 (by decide) (by decide)])
    · show _ = g 19 i
      repeat rw [x_up_row (by decide)]
      exact z3.trans (by rw [f2 19 (by decide) (by decide)])
    · show _ = g 20 i
      repeat rw [x_up_row (by decide)]
      exact z4.trans (by rw [f2 20 (by decide) (by decide)])
    · show _ = g 21 i
      repeat rw [x_up_row (by decide)]
      exact z5.trans (by rw [f2 21 (by decide) (by decide)])
  · simp only [Nat.reduceAdd]
    repeat rw [x_up_row (by omega)]
    exact f1 a (by omega)
set_option maxHeartbeats 4000000 in
theorem c_copyChairs_44_2 (d : Nat) (g : xG) (Q : xQ) (k : ∀ g' : xG, g' 45 3 = g 3 3 → (∀ i, i < 16 → g' 46 i = g 4 i ∧ g' 47 i = g 5 i ∧ g' 48 i = g 6 i) → (∀ a, (a < 45 ∨ 48 < a) → g' a = g a) → Q none g') : Cx (d + 1) i_Chairs_copyFrom [.ref 45, .ref 3] g Q := by
  refine r_cl (L0 := [some (.ref 45), some (.ref 3)]) rfl (Or.inr ⟨_, _, _, rfl, rfl⟩) rfl rfl rfl ?_
  refine r_run 400 rfl rfl ?_
  refine r_cpy rfl rfl rfl rfl (by decide) (by decide) (by decide) ?_
  refine r_run 400 rfl rfl ?_
  refine r_cpy rfl rfl rfl rfl (by decide) (by decide) (by decide) ?_
  refine r_run 400 rfl rfl ?_
  refine r_cpy rfl rfl rfl rfl (by decide) (by decide) (by decide) ?_
  refine r_run 400 rfl rfl ?_
  refine r_ret rfl rfl (k _ ?_ (fun i hi => ?_) (fun a ha => ?_))
  · simp only [x_up_app, x_ce_app, x_ce_same, Nat.reduceAdd, Nat.reduceEqDiff, ↓reduceIte, Nat.reduceSub, Nat.reduceMul, reduceCtorEq]
    rw [x_cp_row (by decide), x_cp_row (by decide), x_cp_row (by decide)]
  · rw [x_up_row (by decide), x_up_row (by decide), x_up_row (by decide)]
    rw [x_cp_row (c := 46) (by decide), x_cp_row (c := 46) (by decide), x_cp_at hi]
    rw [x_cp_row (c := 47) (by decide), x_cp_at hi, x_cp_row (c := 5) (by decide)]
    rw [x_cp_at hi, x_cp_row (c := 6) (by decide), x_cp_row (c := 6) (by decide)]
    exact ⟨rfl, rfl, rfl⟩
  · simp only [Nat.reduceAdd]
    rw [x_up_row (by omega), x_cp_row (by omega), x_cp_row (by omega), x_cp_row (by omega)]
set_option maxHeartbeats 4000000 in
theorem c_copyPlayers_44_2 (d : Nat) (g : xG) (Q : xQ) (k : ∀ g' : xG, g' 49 8 = g 7 8 → g' 49 9 = g 7 9 → (∀ i, i < 12 → g' 50 i = g 8 i ∧ g' 51 i = g 9 i ∧ g' 52 i = g 10 i ∧ g' 53 i = g 11 i ∧ g' 54 i = g 12 i ∧ g' 55 i = g 13 i ∧ g' 56 i = g 14 i ∧ g' 57 i = g 15 i) → (∀ a, (a < 49 ∨ 57 < a) → g' a = g a) → Q none g') : Cx (d + 1) i_Players_copyFrom [.ref 49, .ref 7] g Q := by
  refine r_cl (L0 := [some (.ref 49), some (.ref 7)]) rfl (Or.inr ⟨_, _, _, rfl, rfl⟩) rfl rfl rfl ?_
  refine r_run 400 rfl rfl ?_
  refine r_cpy rfl rfl rfl rfl (by decide) (by decide) (by decide) ?_
  refine r_run 400 rfl rfl ?_
  refine r_cpy rfl rfl rfl rfl (by decide) (by decide) (by decide) ?_
  refine r_run 400 rfl rfl ?_
  refine r_cpy rfl rfl rfl rfl (by decide) (by decide) (by decide) ?_
  refine r_run 400 rfl rfl ?_
  refine r_cpy rfl rfl rfl rfl (by decide) (by decide) (by decide) ?_
  refine r_run 400 rfl rfl ?_
  refine r_cpy rfl rfl rfl rfl (by decide) (by decide) (by decide) ?_
  refine r_run 400 rfl rfl ?_
  refine r_cpy rfl rfl rfl rfl (by decide) (by decide) (by decide) ?_
  refine r_run 400 rfl rfl ?_
  refine r_cpy rfl rfl rfl rfl (by decide) (by decide) (by decide) ?_
  refine r_run 400 rfl rfl ?_
  refine r_cpy rfl rfl rfl rfl (by decide) (by decide) (by decide) ?_
  refine r_run 400 rfl rfl ?_
  refine r_ret rfl rfl (k _ ?_ ?_ (fun i hi => ?_) (fun a ha => ?_))
  · simp only [x_up_app, x_ce_app, x_ce_same, Nat.reduceAdd, Nat.reduceEqDiff, ↓reduceIte, Nat.reduceSub, Nat.reduceMul, reduceCtorEq]
    repeat rw [x_cp_row (by decide)]
  · simp only [x_up_app, x_ce_app, x_ce_same, Nat.reduceAdd, Nat.reduceEqDiff, ↓reduceIte, Nat.reduceSub, Nat.reduceMul, reduceCtorEq]
    repeat rw [x_cp_row (by decide)]
  · refine ⟨?_, ?_, ?_, ?_, ?_, ?_, ?_, ?_⟩
    all_goals
      rw [x_up_row (by decide), x_up_row (by decide)]
      repeat (first | rw [x_cp_at hi] | rw [x_cp_row (by decide)])
  · simp only [Nat.reduceAdd]
    rw [x_up_row (by omega), x_up_row (by omega), x_cp_row (by omega), x_cp_row (by omega), x_cp_row (by omega), x_cp_row (by omega), x_cp_row (by omega), x_cp_row (by omega), x_cp_row (by omega), x_cp_row (by omega)]
set_option maxHeartbeats 4000000 in
theorem c_copyBells_44_2 (d : Nat) (g : xG) (Q : xQ) (k : ∀ g' : xG, g' 58 5 = g 16 5 → g' 58 6 = g 16 6 → (∀ i, i < 12 → g' 59 i = g 17 i ∧ g' 60 i = g 18 i ∧ g' 61 i = g 19 i ∧ g' 62 i = g 20 i ∧ g' 63 i = g 21 i) → (∀ a, (a < 58 ∨ 63 < a) → g' a = g a) → Q none g') : Cx (d + 1) i_Bells_copyFrom [.ref 58, .ref 16] g Q := by
  refine r_cl (L0 := [some (.ref 58), some (.ref 16)]) rfl (Or.inr ⟨_, _, _, rfl, rfl⟩) rfl rfl rfl ?_
  refine r_run 400 rfl rfl ?_
  refine r_cpy rfl rfl rfl rfl (by decide) (by decide) (by decide) ?_
  refine r_run 400 rfl rfl ?_
  refine r_cpy rfl rfl rfl rfl (by decide) (by decide) (by decide) ?_
  refine r_run 400 rfl rfl ?_
  refine r_cpy rfl rfl rfl rfl (by decide) (by decide) (by decide) ?_
  refine r_run 400 rfl rfl ?_
  refine r_cpy rfl rfl rfl rfl (by decide) (by decide) (by decide) ?_
  refine r_run 400 rfl rfl ?_
  refine r_cpy rfl rfl rfl rfl (by decide) (by decide) (by decide) ?_
  refine r_run 400 rfl rfl ?_
  refine r_ret rfl rfl (k _ ?_ ?_ (fun i hi => ?_) (fun a ha => ?_))
  · simp only [x_up_app, x_ce_app, x_ce_same, Nat.reduceAdd, Nat.reduceEqDiff, ↓reduceIte, Nat.reduceSub, Nat.reduceMul, reduceCtorEq]
    repeat rw [x_cp_row (by decide)]
  · simp only [x_up_app, x_ce_app, x_ce_same, Nat.reduceAdd, Nat.reduceEqDiff, ↓reduceIte, Nat.reduceSub, Nat.reduceMul, reduceCtorEq]
    repeat rw [x_cp_row (by decide)]
  · refine ⟨?_, ?_, ?_, ?_, ?_⟩
    all_goals
      rw [x_up_row (by decide), x_up_row (by decide)]
      repeat (first | rw [x_cp_at hi] | rw [x_cp_row (by decide)])
  · simp only [Nat.reduceAdd]
    rw [x_up_row (by omega), x_up_row (by omega), x_cp_row (by omega), x_cp_row (by omega), x_cp_row (by omega), x_cp_row (by omega), x_cp_row (by omega)]
set_option maxHeartbeats 4000000 in
theorem c_copyGame_44_2 (d : Nat) (g : xG) (Q : xQ) (k : ∀ g' : xG, x_same g' 44 g 2 → (∀ a, (a < 44 ∨ 63 < a) → g' a = g a) → Q none g') : Cx (d + 2) i_Game_copyFrom [.ref 44, .ref 2] g Q := by
  refine r_cl (L0 := [some (.ref 44), some (.ref 2)]) rfl (Or.inr ⟨_, _, _, rfl, rfl⟩) rfl rfl rfl ?_
  refine r_run 400 rfl rfl ?_
  refine r_inv rfl rfl rfl ?_
  refine c_copyChairs_44_2 d g _ (fun g1 a1 a2 a3 => ?_)
  refine r_run 400 rfl rfl ?_
  refine r_inv rfl rfl rfl ?_
  refine c_copyPlayers_44_2 d g1 _ (fun g2 b1 b2 b3 b4 => ?_)
  refine r_run 400 rfl rfl ?_
  refine r_inv rfl rfl rfl ?_
  refine c_copyBells_44_2 d g2 _ (fun g3 e1 e2 e3 e4 => ?_)
  refine r_run 400 rfl rfl ?_
  have f1 : ∀ a, (a < 45 ∨ 63 < a) → g3 a = g a := fun a ha => by rw [e4 a (by omega), b4 a (by omega), a3 a (by omega)]
  have f2 : ∀ a, (a < 45 ∨ 48 < a) → (a < 49 ∨ 57 < a) → g2 a = g a := fun a h1 h2 => by rw [b4 a h2, a3 a h1]
  refine r_ret rfl rfl (k _ ⟨fun j h1 h2 => ?_, ?_, fun r i h1 h2 hi => ?_, ⟨?_, ?_⟩, fun r i h1 h2 hi => ?_, ⟨?_, ?_⟩, fun r i h1 h2 hi => ?_⟩ (fun a ha => ?_))
  · have hj : j = 3 ∨ j = 4 ∨ j = 5 ∨ j = 6 ∨ j = 7 ∨ j = 8 ∨ j = 9 := by omega
    rcases hj with rfl | rfl | rfl | rfl | rfl | rfl | rfl <;> (simp only [x_up_app, Nat.reduceAdd, Nat.reduceEqDiff, ↓reduceIte]; rw [f1 2 (by decide)])
  · show _ = g 3 3
    repeat rw [x_up_row (by decide)]
    rw [e4 45 (by decide), b4 45 (by decide), a1]
  · have hr : r = 2 ∨ r = 3 ∨ r = 4 := by omega
    obtain ⟨z1, z2, z3⟩ := a2 i hi
    rcases hr with rfl | rfl | rfl
    · show _ = g 4 i
      repeat rw [x_up_row (by decide)]
      rw [e4 _ (by decide), b4 _ (by decide)]
      exact z1
    · show _ = g 5 i
      repeat rw [x_up_row (by decide)]
      rw [e4 _ (by decide), b4 _ (by decide)]
      exact z2
    · show _ = g 6 i
      repeat rw [x_up_row (by decide)]
      rw [e4 _ (by decide), b4 _ (by decide)]
      exact z3
  · show _ = g 7 8
    repeat rw [x_up_row (by decide)]
    rw [e4 _ (by decide), b1, a3 7 (by decide)]
  · show _ = g 7 9
    repeat rw [x_up_row (by decide)]
    rw [e4 _ (by decide), b2, a3 7 (by decide)]
  · obtain ⟨z1, z2, z3, z4, z5, z6, z7, z8⟩ := b3 i hi
    have hr : r = 6 ∨ r = 7 ∨ r = 8 ∨ r = 9 ∨ r = 10 ∨ r = 11 ∨ r = 12 ∨ r = 13 := by omega
    rcases hr with rfl | rfl | rfl | rfl | rfl | rfl | rfl | rfl
    · show _ = g 8 i
      repeat rw [x_up_row (by decide)]
      rw [e4 _ (by decide)]
      exact z1.trans (by rw [a3 8 (by decide)])
    · show _ = g 9 i
      repeat rw [x_up_row (by decide)]
      rw [e4 _ (by decide)]
      exact z2.trans (by rw [a3 9 (by decide)])
    · show _ = g 10 i
      repeat rw [x_up_row (by decide)]
      rw [e4 _ (by decide)]
      exact z3.trans (by rw [a3 10 (by decide)])
    · show _ = g 11 i
      repeat rw [x_up_row (by decide)]
      rw [e4 _ (by decide)]
      exact z4.trans (by rw [a3 11 (by decide)])
    · show _ = g 12 i
      repeat rw [x_up_row (by decide)]
      rw [e4 _ (by decide)]
      exact z5.trans (by rw [a3 12 (by decide)])
    · show _ = g 13 i
      repeat rw [x_up_row (by decide)]
      rw [e4 _ (by decide)]
      exact z6.trans (by rw [a3 13 (by decide)])
    · show _ = g 14 i
      repeat rw [x_up_row (by decide)]
      rw [e4 _ (by decide)]
      exact z7.trans (by rw [a3 14 (by decide)])
    · show _ = g 15 i
      repeat rw [x_up_row (by decide)]
      rw [e4 _ (by decide)]
      exact z8.trans (by rw [a3 15 (by decide)])
  · show _ = g 16 5
    repeat rw [x_up_row (by decide)]
    rw [e1, f2 16 (by decide) (by decide)]
  · show _ = g 16 6
    repeat rw [x_up_row (by decide)]
    rw [e2, f2 16 (by decide) (by decide)]
  · obtain ⟨z1, z2, z3, z4, z5⟩ := e3 i hi
    have hr : r = 15 ∨ r = 16 ∨ r = 17 ∨ r = 18 ∨ r = 19 := by omega
    rcases hr with rfl | rfl | rfl | rfl | rfl
    · show _ = g 17 i
      repeat rw [x_up_row (by decide)]
      exact z1.trans (by rw [f2 17 (by decide) (by decide)])
    · show _ = g 18 i
      repeat rw [x_up_row (by decide)]
      exact z2.trans (by rw [f2 18 (by decide) (by decide)])
    · show _ = g 19 i
      repeat rw [x_up_row (by decide)]
      exact z3.trans (by rw [f2 19 (by decide) (by decide)])
    · show _ = g 20 i
      repeat rw [x_up_row (by decide)]
      exact z4.trans (by rw [f2 20 (by decide) (by decide)])
    · show _ = g 21 i
      repeat rw [x_up_row (by decide)]
      exact z5.trans (by rw [f2 21 (by decide) (by decide)])
  · simp only [Nat.reduceAdd]
    repeat rw [x_up_row (by omega)]
    exact f1 a (by omega)
set_option maxHeartbeats 4000000 in
theorem c_copyChairs_64_2 (d : Nat) (g : xG) (Q : xQ) (k : ∀ g' : xG, g' 65 3 = g 3 3 → (∀ i, i < 16 → g' 66 i = g 4 i ∧ g' 67 i = g 5 i ∧ g' 68 i = g 6 i) → (∀ a, (a < 65 ∨ 68 < a) → g' a = g a) → Q none g') : Cx (d + 1) i_Chairs_copyFrom [.ref 65, .ref 3] g Q := by
  refine r_cl (L0 := [some (.ref 65), some (.ref 3)]) rfl (Or.inr ⟨_, _, _, rfl, rfl⟩) rfl rfl rfl ?_
  refine r_run 400 rfl rfl ?_
  refine r_cpy rfl rfl rfl rfl (by decide) (by decide) (by decide) ?_
  refine r_run 400 rfl rfl ?_
  refine r_cpy rfl rfl rfl rfl (by decide) (by decide) (by decide) ?_
  refine r_run 400 rfl rfl ?_
  refine r_cpy rfl rfl rfl rfl (by decide) (by decide) (by decide) ?_
  refine r_run 400 rfl rfl ?_
  refine r_ret rfl rfl (k _ ?_ (fun i hi => ?_) (fun a ha => ?_))
  · simp only [x_up_app, x_ce_app, x_ce_same, Nat.reduceAdd, Nat.reduceEqDiff, ↓reduceIte, Nat.reduceSub, Nat.reduceMul, reduceCtorEq]
    rw [x_cp_row (by decide), x_cp_row (by decide), x_cp_row (by decide)]
  · rw [x_up_row (by decide), x_up_row (by decide), x_up_row (by decide)]
    rw [x_cp_row (c := 66) (by decide), x_cp_row (c := 66) (by decide), x_cp_at hi]
    rw [x_cp_row (c := 67) (by decide), x_cp_at hi, x_cp_row (c := 5) (by decide)]
    rw [x_cp_at hi, x_cp_row (c := 6) (by decide), x_cp_row (c := 6) (by decide)]
    exact ⟨rfl, rfl, rfl⟩
  · simp only [Nat.reduceAdd]
    rw [x_up_row (by omega), x_cp_row (by omega), x_cp_row (by omega), x_cp_row (by omega)]
set_option maxHeartbeats 4000000 in
theorem c_copyPlayers_64_2 (d : Nat) (g : xG) (Q : xQ) (k : ∀ g' : xG, g' 69 8 = g 7 8 → g' 69 9 = g 7 9 → (∀ i, i < 12 → g' 70 i = g 8 i ∧ g' 71 i = g 9 i ∧ g' 72 i = g 10 i ∧ g' 73 i = g 11 i ∧ g' 74 i = g 12 i ∧ g' 75 i = g 13 i ∧ g' 76 i = g 14 i ∧ g' 77 i = g 15 i) → (∀ a, (a < 69 ∨ 77 < a) → g' a = g a) → Q none g') : Cx (d + 1) i_Players_copyFrom [.ref 69, .ref 7] g Q := by
  refine r_cl (L0 := [some (.ref 69), some (.ref 7)]) rfl (Or.inr ⟨_, _, _, rfl, rfl⟩) rfl rfl rfl ?_
  refine r_run 400 rfl rfl ?_
  refine r_cpy rfl rfl rfl rfl (by decide) (by decide) (by decide) ?_
  refine r_run 400 rfl rfl ?_
  refine r_cpy rfl rfl rfl rfl (by decide) (by decide) (by decide) ?_
  refine r_run 400 rfl rfl ?_
  refine r_cpy rfl rfl rfl rfl (by decide) (by decide) (by decide) ?_
  refine r_run 400 rfl rfl ?_
  refine r_cpy rfl rfl rfl rfl (by decide) (by decide) (by decide) ?_
  refine r_run 400 rfl rfl ?_
  refine r_cpy rfl rfl rfl rfl (by decide) (by decide) (by decide) ?_
  refine r_run 400 rfl rfl ?_
  refine r_cpy rfl rfl rfl rfl (by decide) (by decide) (by decide) ?_
  refine r_run 400 rfl rfl ?_
  refine r_cpy rfl rfl rfl rfl (by decide) (by decide) (by decide) ?_
  refine r_run 400 rfl rfl ?_
  refine r_cpy rfl rfl rfl rfl (by decide) (by decide) (by decide) ?_
  refine r_run 400 rfl rfl ?_
  refine r_ret rfl rfl (k _ ?_ ?_ (fun i hi => ?_) (fun a ha => ?_))
  · simp only [x_up_app, x_ce_app, x_ce_same, Nat.reduceAdd, Nat.reduceEqDiff, ↓reduceIte, Nat.reduceSub, Nat.reduceMul, reduceCtorEq]
    repeat rw [x_cp_row (by decide)]
  · simp only [x_up_app, x_ce_app, x_ce_same, Nat.reduceAdd, Nat.reduceEqDiff, ↓reduceIte, Nat.reduceSub, Nat.reduceMul, reduceCtorEq]
    repeat rw [x_cp_row (by decide)]
  · refine ⟨?_, ?_, ?_, ?_, ?_, ?_, ?_, ?_⟩
    all_goals
      rw [x_up_row (by decide), x_up_row (by decide)]
      repeat (first | rw [x_cp_at hi] | rw [x_cp_row (by decide)])
  · simp only [Nat.reduceAdd]
    rw [x_up_row (by omega), x_up_row (by omega), x_cp_row (by omega), x_cp_row (by omega), x_cp_row (by omega), x_cp_row (by omega), x_cp_row (by omega), x_cp_row (by omega), x_cp_row (by omega), x_cp_row (by omega)]
set_option maxHeartbeats 4000000 in
theorem c_copyBells_64_2 (d : Nat) (g : xG) (Q : xQ) (k : ∀ g' : xG, g' 78 5 = g 16 5 → g' 78 6 = g 16 6 → (∀ i, i < 12 → g' 79 i = g 17 i ∧ g' 80 i = g 18 i ∧ g' 81 i = g 19 i ∧ g' 82 i = g 20 i ∧ g' 83 i = g 21 i) → (∀ a, (a < 78 ∨ 83 < a) → g' a = g a) → Q none g') : Cx (d + 1) i_Bells_copyFrom [.ref 78, .ref 16] g Q := by
  refine r_cl (L0 := [some (.ref 78), some (.ref 16)]) rfl (Or.inr ⟨_, _, _, rfl, rfl⟩) rfl rfl rfl ?_
  refine r_run 400 rfl rfl ?_
  refine r_cpy rfl rfl rfl rfl (by decide) (by decide) (by decide) ?_
  refine r_run 400 rfl rfl ?_
  refine r_cpy rfl rfl rfl rfl (by decide) (by decide) (by decide) ?_
  refine r_run 400 rfl rfl ?_
  refine r_cpy rfl rfl rfl rfl (by decide) (by decide) (by decide) ?_
  refine r_run 400 rfl rfl ?_
  refine r_cpy rfl rfl rfl rfl (by decide) (by decide) (by decide) ?_
  refine r_run 400 rfl rfl ?_
  refine r_cpy rfl rfl rfl rfl (by decide) (by decide) (by decide) ?_
  refine r_run 400 rfl rfl ?_
  refine r_ret rfl rfl (k _ ?_ ?_ (fun i hi => ?_) (fun a ha => ?_))
  · simp only [x_up_app, x_ce_app, x_ce_same, Nat.reduceAdd, Nat.reduceEqDiff, ↓reduceIte, Nat.reduceSub, Nat.reduceMul, reduceCtorEq]
    repeat rw [x_cp_row (by decide)]
  · simp only [x_up_app, x_ce_app, x_ce_same, Nat.reduceAdd, Nat.reduceEqDiff, ↓reduceIte, Nat.reduceSub, Nat.reduceMul, reduceCtorEq]
    repeat rw [x_cp_row (by decide)]
  · refine ⟨?_, ?_, ?_, ?_, ?_⟩
    all_goals
      rw [x_up_row (by decide), x_up_row (by decide)]
      repeat (first | rw [x_cp_at hi] | rw [x_cp_row (by decide)])
  · simp only [Nat.reduceAdd]
    rw [x_up_row (by omega), x_up_row (by omega), x_cp_row (by omega), x_cp_row (by omega), x_cp_row (by omega), x_cp_row (by omega), x_cp_row (by omega)]
set_option maxHeartbeats 4000000 in
theorem c_copyGame_64_2 (d : Nat) (g : xG) (Q : xQ) (k : ∀ g' : xG, x_same g' 64 g 2 → (∀ a, (a < 64 ∨ 83 < a) → g' a = g a) → Q none g') : Cx (d + 2) i_Game_copyFrom [.ref 64, .ref 2] g Q := by
  refine r_cl (L0 := [some (.ref 64), some (.ref 2)]) rfl (Or.inr ⟨_, _, _, rfl, rfl⟩) rfl rfl rfl ?_
  refine r_run 400 rfl rfl ?_
  refine r_inv rfl rfl rfl ?_
  refine c_copyChairs_64_2 d g _ (fun g1 a1 a2 a3 => ?_)
  refine r_run 400 rfl rfl ?_
  refine r_inv rfl rfl rfl ?_
  refine c_copyPlayers_64_2 d g1 _ (fun g2 b1 b2 b3 b4 => ?_)
  refine r_run 400 rfl rfl ?_
  refine r_inv rfl rfl rfl ?_
  refine c_copyBells_64_2 d g2 _ (fun g3 e1 e2 e3 e4 => ?_)
  refine r_run 400 rfl rfl ?_
  have f1 : ∀ a, (a < 65 ∨ 83 < a) → g3 a = g a := fun a ha => by rw [e4 a (by omega), b4 a (by omega), a3 a (by omega)]
  have f2 : ∀ a, (a < 65 ∨ 68 < a) → (a < 69 ∨ 77 < a) → g2 a = g a := fun a h1 h2 => by rw [b4 a h2, a3 a h1]
  refine r_ret rfl rfl (k _ ⟨fun j h1 h2 => ?_, ?_, fun r i h1 h2 hi => ?_, ⟨?_, ?_⟩, fun r i h1 h2 hi => ?_, ⟨?_, ?_⟩, fun r i h1 h2 hi => ?_⟩ (fun a ha => ?_))
  · have hj : j = 3 ∨ j = 4 ∨ j = 5 ∨ j = 6 ∨ j = 7 ∨ j = 8 ∨ j = 9 := by omega
    rcases hj with rfl | rfl | rfl | rfl | rfl | rfl | rfl <;> (simp only [x_up_app, Nat.reduceAdd, Nat.reduceEqDiff, ↓reduceIte]; rw [f1 2 (by decide)])
  · show _ = g 3 3
    repeat rw [x_up_row (by decide)]
    rw [e4 65 (by decide), b4 65 (by decide), a1]
  · have hr : r = 2 ∨ r = 3 ∨ r = 4 := by omega
    obtain ⟨z1, z2, z3⟩ := a2 i hi
    rcases hr with rfl | rfl | rfl
    · show _ = g 4 i
      repeat rw [x_up_row (by decide)]
      rw [e4 _ (by decide), b4 _ (by decide)]
      exact z1
    · show _ = g 5 i
      repeat rw [x_up_row (by decide)]
      rw [e4 _ (by decide), b4 _ (by decide)]
      exact z2
    · show _ = g 6 i
      repeat rw [x_up_row (by decide)]
      rw [e4 _ (by decide), b4 _ (by decide)]
      exact z3
  · show _ = g 7 8
    repeat rw [x_up_row (by decide)]
    rw [e4 _ (by decide), b1, a3 7 (by decide)]
  · show _ = g 7 9
    repeat rw [x_up_row (by decide)]
    rw [e4 _ (by decide), b2, a3 7 (by decide)]
  · obtain ⟨z1, z2, z3, z4, z5, z6, z7, z8⟩ := b3 i hi
    have hr : r = 6 ∨ r = 7 ∨ r = 8 ∨ r = 9 ∨ r = 10 ∨ r = 11 ∨ r = 12 ∨ r = 13 := by omega
    rcases hr with rfl | rfl | rfl | rfl | rfl | rfl | rfl | rfl
    · show _ = g 8 i
      repeat rw [x_up_row (by decide)]
      rw [e4 _ (by decide)]
      exact z1.trans (by rw [a3 8 (by decide)])
    · show _ = g 9 i
      repeat rw [x_up_row (by decide)]
      rw [e4 _ (by decide)]
      exact z2.trans (by rw [a3 9 (by decide)])
    · show _ = g 10 i
      repeat rw [x_up_row (by decide)]
      rw [e4 _ (by decide)]
      exact z3.trans (by rw [a3 10 (by decide)])
    · show _ = g 11 i
      repeat rw [x_up_row (by decide)]
      rw [e4 _ (by decide)]
      exact z4.trans (by rw [a3 11 (by decide)])
    · show _ = g 12 i
      repeat rw [x_up_row (by decide)]
      rw [e4 _ (by decide)]
      exact z5.trans (by rw [a3 12 (by decide)])
    · show _ = g 13 i
      repeat rw [x_up_row (by decide)]
      rw [e4 _ (by decide)]
      exact z6.trans (by rw [a3 13 (by decide)])
    · show _ = g 14 i
      repeat rw [x_up_row (by decide)]
      rw [e4 _ (by decide)]
      exact z7.trans (by rw [a3 14 (by decide)])
    · show _ = g 15 i
      repeat rw [x_up_row (by decide)]
      rw [e4 _ (by decide)]
      exact z8.trans (by rw [a3 15 (by decide)])
  · show _ = g 16 5
    repeat rw [x_up_row (by decide)]
    rw [e1, f2 16 (by decide) (by decide)]
  · show _ = g 16 6
    repeat rw [x_up_row (by decide)]
    rw [e2, f2 16 (by decide) (by decide)]
  · obtain ⟨z1, z2, z3, z4, z5⟩ := e3 i hi
    have hr : r = 15 ∨ r = 16 ∨ r = 17 ∨ r = 18 ∨ r = 19 := by omega
    rcases hr with rfl | rfl | rfl | rfl | rfl
    · show _ = g 17 i
      repeat rw [x_up_row (by decide)]
      exact z1.trans (by rw [f2 17 (by decide) (by decide)])
    · show _ = g 18 i
      repeat rw [x_up_row (by decide)]
      exact z2.trans (by rw [f2 18 (by decide) (by decide)])
    · show _ = g 19 i
      repeat rw [x_up_row (by decide)]
      exact z3.trans (by rw [f2 19 (by decide) (by decide)])
    · show _ = g 20 i
      repeat rw [x_up_row (by decide)]
      exact z4.trans (by rw [f2 20 (by decide) (by decide)])
    · show _ = g 21 i
      repeat rw [x_up_row (by decide)]
      exact z5.trans (by rw [f2 21 (by decide) (by decide)])
  · simp only [Nat.reduceAdd]
    repeat rw [x_up_row (by omega)]
    exact f1 a (by omega)
set_option maxHeartbeats 4000000 in
theorem c_copyChairs_84_2 (d : Nat) (g : xG) (Q : xQ) (k : ∀ g' : xG, g' 85 3 = g 3 3 → (∀ i, i < 16 → g' 86 i = g 4 i ∧ g' 87 i = g 5 i ∧ g' 88 i = g 6 i) → (∀ a, (a < 85 ∨ 88 < a) → g' a = g a) → Q none g') : Cx (d + 1) i_Chairs_copyFrom [.ref 85, .ref 3] g Q := by
  refine r_cl (L0 := [some (.ref 85), some (.ref 3)]) rfl (Or.inr ⟨_, _, _, rfl, rfl⟩) rfl rfl rfl ?_
  refine r_run 400 rfl rfl ?_
  refine r_cpy rfl rfl rfl rfl (by decide) (by decide) (by decide) ?_
  refine r_run 400 rfl rfl ?_
  refine r_cpy rfl rfl rfl rfl (by decide) (by decide) (by decide) ?_
  refine r_run 400 rfl rfl ?_
  refine r_cpy rfl rfl rfl rfl (by decide) (by decide) (by decide) ?_
  refine r_run 400 rfl rfl ?_
  refine r_ret rfl rfl (k _ ?_ (fun i hi => ?_) (fun a ha => ?_))
  · simp only [x_up_app, x_ce_app, x_ce_same, Nat.reduceAdd, Nat.reduceEqDiff, ↓reduceIte, Nat.reduceSub, Nat.reduceMul, reduceCtorEq]
    rw [x_cp_row (by decide), x_cp_row (by decide), x_cp_row (by decide)]
  · rw [x_up_row (by decide), x_up_row (by decide), x_up_row (by decide)]
    rw [x_cp_row (c := 86) (by decide), x_cp_row (c := 86) (by decide), x_cp_at hi]
    rw [x_cp_row (c := 87) (by decide), x_cp_at hi, x_cp_row (c := 5) (by decide)]
    rw [x_cp_at hi, x_cp_row (c := 6) (by decide), x_cp_row (c := 6) (by decide)]
    exact ⟨rfl, rfl, rfl⟩
  · simp only [Nat.reduceAdd]
    rw [x_up_row (by omega), x_cp_row (by omega), x_cp_row (by omega), x_cp_row (by omega)]
set_option maxHeartbeats 4000000 in
theorem c_copyPlayers_84_2 (d : Nat) (g : xG) (Q : xQ) (k : ∀ g' : xG, g' 89 8 = g 7 8 → g' 89 9 = g 7 9 → (∀ i, i < 12 → g' 90 i = g 8 i ∧ g' 91 i = g 9 i ∧ g' 92 i = g 10 i ∧ g' 93 i = g 11 i ∧ g' 94 i = g 12 i ∧ g' 95 i = g 13 i ∧ g' 96 i = g 14 i ∧ g' 97 i = g 15 i) → (∀ a, (a < 89 ∨ 97 < a) → g' a = g a) → Q none g') : Cx (d + 1) i_Players_copyFrom [.ref 89, .ref 7] g Q := by
  refine r_cl (L0 := [some (.ref 89), some (.ref 7)]) rfl (Or.inr ⟨_, _, _, rfl, rfl⟩) rfl rfl rfl ?_
  refine r_run 400 rfl rfl ?_
  refine r_cpy rfl rfl rfl rfl (by decide) (by decide) (by decide) ?_
  refine r_run 400 rfl rfl ?_
  refine r_cpy rfl rfl rfl rfl (by decide) (by decide) (by decide) ?_
  refine r_run 400 rfl rfl ?_
  refine r_cpy rfl rfl rfl rfl (by decide) (by decide) (by decide) ?_
  refine r_run 400 rfl rfl ?_
  refine r_cpy rfl rfl rfl rfl (by decide) (by decide) (by decide) ?_
  refine r_run 400 rfl rfl ?_
  refine r_cpy rfl rfl rfl rfl (by decide) (by decide) (by decide) ?_
  refine r_run 400 rfl rfl ?_
  refine r_cpy rfl rfl rfl rfl (by decide) (by decide) (by decide) ?_
  refine r_run 400 rfl rfl ?_
  refine r_cpy rfl rfl rfl rfl (by decide) (by decide) (by decide) ?_
  refine r_run 400 rfl rfl ?_
  refine r_cpy rfl rfl rfl rfl (by decide) (by decide) (by decide) ?_
  refine r_run 400 rfl rfl ?_
  refine r_ret rfl rfl (k _ ?_ ?_ (fun i hi => ?_) (fun a ha => ?_))
  · simp only [x_up_app, x_ce_app, x_ce_same, Nat.reduceAdd, Nat.reduceEqDiff, ↓reduceIte, Nat.reduceSub, Nat.reduceMul, reduceCtorEq]
    repeat rw [x_cp_row (by decide)]
  · simp only [x_up_app, x_ce_app, x_ce_same, Nat.reduceAdd, Nat.reduceEqDiff, ↓reduceIte, Nat.reduceSub, Nat.reduceMul, reduceCtorEq]
    repeat rw [x_cp_row (by decide)]
  · refine ⟨?_, ?_, ?_, ?_, ?_, ?_, ?_, ?_⟩
    all_goals
      rw [x_up_row (by decide), x_up_row (by decide)]
      repeat (first | rw [x_cp_at hi] | rw [x_cp_row (by decide)])
  · simp only [Nat.reduceAdd]
    rw [x_up_row (by omega), x_up_row (by omega), x_cp_row (by omega), x_cp_row (by omega), x_cp_row (by omega), x_cp_row (by omega), x_cp_row (by omega), x_cp_row (by omega), x_cp_row (by omega), x_cp_row (by omega)]
set_option maxHeartbeats 4000000 in
theorem c_copyBells_84_2 (d : Nat) (g : xG) (Q : xQ) (k : ∀ g' : xG, g' 98 5 = g 16 5 → g' 98 6 = g 16 6 → (∀ i, i < 12 → g' 99 i = g 17 i ∧ g' 100 i = g 18 i ∧ g' 101 i = g 19 i ∧ g' 102 i = g 20 i ∧ g' 103 i = g 21 i) → (∀ a, (a < 98 ∨ 103 < a) → g' a = g a) → Q none g') : Cx (d + 1) i_Bells_copyFrom [.ref 98, .ref 16] g Q := by
  refine r_cl (L0 := [some (.ref 98), some (.ref 16)]) rfl (Or.inr ⟨_, _, _, rfl, rfl⟩) rfl rfl rfl ?_
  refine r_run 400 rfl rfl ?_
  refine r_cpy rfl rfl rfl rfl (by decide) (by decide) (by decide) ?_
  refine r_run 400 rfl rfl ?_
  refine r_cpy rfl rfl rfl rfl (by decide) (by decide) (by decide) ?_
  refine r_run 400 rfl rfl ?_
  refine r_cpy rfl rfl rfl rfl (by decide) (by decide) (by decide) ?_
  refine r_run 400 rfl rfl ?_
  refine r_cpy rfl rfl rfl rfl (by decide) (by decide) (by decide) ?_
  refine r_run 400 rfl rfl ?_
  refine r_cpy rfl rfl rfl rfl (by decide) (by decide) (by decide) ?_
  refine r_run 400 rfl rfl ?_
  refine r_ret rfl rfl (k _ ?_ ?_ (fun i hi => ?_) (fun a ha => ?_))
  · simp only [x_up_app, x_ce_app, x_ce_same, Nat.reduceAdd, Nat.reduceEqDiff, ↓reduceIte, Nat.reduceSub, Nat.reduceMul, reduceCtorEq]
    repeat rw [x_cp_row (by decide)]
  · simp only [x_up_app, x_ce_app, x_ce_same, Nat.reduceAdd, Nat.reduceEqDiff, ↓reduceIte, Nat.reduceSub, Nat.reduceMul, reduceCtorEq]
    repeat rw [x_cp_row (by decide)]
  · refine ⟨?_, ?_, ?_, ?_, ?_⟩
    all_goals
      rw [x_up_row (by decide), x_up_row (by decide)]
      repeat (first | rw [x_cp_at hi] | rw [x_cp_row (by decide)])
  · simp only [Nat.reduceAdd]
    rw [x_up_row (by omega), x_up_row (by omega), x_cp_row (by omega), x_cp_row (by omega), x_cp_row (by omega), x_cp_row (by omega), x_cp_row (by omega)]
set_option maxHeartbeats 4000000 in
theorem c_copyGame_84_2 (d : Nat) (g : xG) (Q : xQ) (k : ∀ g' : xG, x_same g' 84 g 2 → (∀ a, (a < 84 ∨ 103 < a) → g' a = g a) → Q none g') : Cx (d + 2) i_Game_copyFrom [.ref 84, .ref 2] g Q := by
  refine r_cl (L0 := [some (.ref 84), some (.ref 2)]) rfl (Or.inr ⟨_, _, _, rfl, rfl⟩) rfl rfl rfl ?_
  refine r_run 400 rfl rfl ?_
  refine r_inv rfl rfl rfl ?_
  refine c_copyChairs_84_2 d g _ (fun g1 a1 a2 a3 => ?_)
  refine r_run 400 rfl rfl ?_
  refine r_inv rfl rfl rfl ?_
  refine c_copyPlayers_84_2 d g1 _ (fun g2 b1 b2 b3 b4 => ?_)
  refine r_run 400 rfl rfl ?_
  refine r_inv rfl rfl rfl ?_
  refine c_copyBells_84_2 d g2 _ (fun g3 e1 e2 e3 e4 => ?_)
  refine r_run 400 rfl rfl ?_
  have f1 : ∀ a, (a < 85 ∨ 103 < a) → g3 a = g a := fun a ha => by rw [e4 a (by omega), b4 a (by omega), a3 a (by omega)]
  have f2 : ∀ a, (a < 85 ∨ 88 < a) → (a < 89 ∨ 97 < a) → g2 a = g a := fun a h1 h2 => by rw [b4 a h2, a3 a h1]
  refine r_ret rfl rfl (k _ ⟨fun j h1 h2 => ?_, ?_, fun r i h1 h2 hi => ?_, ⟨?_, ?_⟩, fun r i h1 h2 hi => ?_, ⟨?_, ?_⟩, fun r i h1 h2 hi => ?_⟩ (fun a ha => ?_))
  · have hj : j = 3 ∨ j = 4 ∨ j = 5 ∨ j = 6 ∨ j = 7 ∨ j = 8 ∨ j = 9 := by omega
    rcases hj with rfl | rfl | rfl | rfl | rfl | rfl | rfl <;> (simp only [x_up_app, Nat.reduceAdd, Nat.reduceEqDiff, ↓reduceIte]; rw [f1 2 (by decide)])
  · show _ = g 3 3
    repeat rw [x_up_row (by decide)]
    rw [e4 85 (by decide), b4 85 (by decide), a1]
  · have hr : r = 2 ∨ r = 3 ∨ r = 4 := by omega
    obtain ⟨z1, z2, z3⟩ := a2 i hi
    rcases hr with rfl | rfl | rfl
    · show _ = g 4 i
      repeat rw [x_up_row (by decide)]
      rw [e4 _ (by decide), b4 _ (by decide)]
      exact z1
    · show _ = g 5 i
      repeat rw [x_up_row (by decide)]
      rw [e4 _ (by decide), b4 _ (by decide)]
      exact z2
    · show _ = g 6 i
      repeat rw [x_up_row (by decide)]
      rw [e4 _ (by decide), b4 _ (by decide)]
      exact z3
  · show _ = g 7 8
    repeat rw [x_up_row (by decide)]
    rw [e4 _ (by decide), b1, a3 7 (by decide)]
  · show _ = g 7 9
    repeat rw [x_up_row (by decide)]
    rw [e4 _ (by decide), b2, a3 7 (by decide)]
  · obtain ⟨z1, z2, z3, z4, z5, z6, z7, z8⟩ := b3 i hi
    have hr : r = 6 ∨ r = 7 ∨ r = 8 ∨ r = 9 ∨ r = 10 ∨ r = 11 ∨ r = 12 ∨ r = 13 := by omega
    rcases hr with rfl | rfl | rfl | rfl | rfl | rfl | rfl | rfl
    · show _ = g 8 i
      repeat rw [x_up_row (by decide)]
      rw [e4 _ (by decide)]
      exact z1.trans (by rw [a3 8 (by decide)])
    · show _ = g 9 i
      repeat rw [x_up_row (by decide)]
      rw [e4 _ (by decide)]
      exact z2.trans (by rw [a3 9 (by decide)])
    · show _ = g 10 i
      repeat rw [x_up_row (by decide)]
      rw [e4 _ (by decide)]
      exact z3.trans (by rw [a3 10 (by decide)])
    · show _ = g 11 i
      repeat rw [x_up_row (by decide)]
      rw [e4 _ (by decide)]
      exact z4.trans (by rw [a3 11 (by decide)])
    · show _ = g 12 i
      repeat rw [x_up_row (by decide)]
      rw [e4 _ (by decide)]
      exact z5.trans (by rw [a3 12 (by decide)])
    · show _ = g 13 i
      repeat rw [x_up_row (by decide)]
      rw [e4 _ (by decide)]
      exact z6.trans (by rw [a3 13 (by decide)])
    · show _ = g 14 i
      repeat rw [x_up_row (by decide)]
      rw [e4 _ (by decide)]
      exact z7.trans (by rw [a3 14 (by decide)])
    · show _ = g 15 i
      repeat rw [x_up_row (by decide)]
      rw [e4 _ (by decide)]
      exact z8.trans (by rw [a3 15 (by decide)])
  · show _ = g 16 5
    repeat rw [x_up_row (by decide)]
    rw [e1, f2 16 (by decide) (by decide)]
  · show _ = g 16 6
    repeat rw [x_up_row (by decide)]
    rw [e2, f2 16 (by decide) (by decide)]
  · obtain ⟨z1, z2, z3, z4, z5⟩ := e3 i hi
    have hr : r = 15 ∨ r = 16 ∨ r = 17 ∨ r = 18 ∨ r = 19 := by omega
    rcases hr with rfl | rfl | rfl | rfl | rfl
    · show _ = g 17 i
      repeat rw [x_up_row (by decide)]
      exact z1.trans (by rw [f2 17 (by decide) (by decide)])
    · show _ = g 18 i
      repeat rw [x_up_row (by decide)]
      exact z2.trans (by rw [f2 18 (by decide) (by decide)])
    · show _ = g 19 i
      repeat rw [x_up_row (by decide)]
      exact z3.trans (by rw [f2 19 (by decide) (by decide)])
    · show _ = g 20 i
      repeat rw [x_up_row (by decide)]
      exact z4.trans (by rw [f2 20 (by decide) (by decide)])
    · show _ = g 21 i
      repeat rw [x_up_row (by decide)]
      exact z5.trans (by rw [f2 21 (by decide) (by decide)])
  · simp only [Nat.reduceAdd]
    repeat rw [x_up_row (by omega)]
    exact f1 a (by omega)
set_option maxHeartbeats 4000000 in
theorem c_copyChairs_104_2 (d : Nat) (g : xG) (Q : xQ) (k : ∀ g' : xG, g' 105 3 = g 3 3 → (∀ i, i < 16 → g' 106 i = g 4 i ∧ g' 107 i = g 5 i ∧ g' 108 i = g 6 i) → (∀ a, (a < 105 ∨ 108 < a) → g' a = g a) → Q none g') : Cx (d + 1) i_Chairs_copyFrom [.ref 105, .ref 3] g Q := by
  refine r_cl (L0 := [some (.ref 105), some (.ref 3)]) rfl (Or.inr ⟨_, _, _, rfl, rfl⟩) rfl rfl rfl ?_
  refine r_run 400 rfl rfl ?_
  refine r_cpy rfl rfl rfl rfl (by decide) (by decide) (by decide) ?_
  refine r_run 400 rfl rfl ?_
  refine r_cpy rfl rfl rfl rfl (by decide) (by decide) (by decide) ?_
  refine r_run 400 rfl rfl ?_
  refine r_cpy rfl rfl rfl rfl (by decide) (by decide) (by decide) ?_
  refine r_run 400 rfl rfl ?_
  refine r_ret rfl rfl (k _ ?_ (fun i hi => ?_) (fun a ha => ?_))
  · simp only [x_up_app, x_ce_app, x_ce_same, Nat.reduceAdd, Nat.reduceEqDiff, ↓reduceIte, Nat.reduceSub, Nat.reduceMul, reduceCtorEq]
    rw [x_cp_row (by decide), x_cp_row (by decide), x_cp_row (by decide)]
  · rw [x_up_row (by decide), x_up_row (by decide), x_up_row (by decide)]
    rw [x_cp_row (c := 106) (by decide), x_cp_row (c := 106) (by decide), x_cp_at hi]
    rw [x_cp_row (c := 107) (by decide), x_cp_at hi, x_cp_row (c := 5) (by decide)]
    rw [x_cp_at hi, x_cp_row (c := 6) (by decide), x_cp_row (c := 6) (by decide)]
    exact ⟨rfl, rfl, rfl⟩
  · simp only [Nat.reduceAdd]
    rw [x_up_row (by omega), x_cp_row (by omega), x_cp_row (by omega), x_cp_row (by omega)]
set_option maxHeartbeats 4000000 in
theorem c_copyPlayers_104_2 (d : Nat) (g : xG) (Q : xQ) (k : ∀ g' : xG, g' 109 8 = g 7 8 → g' 109 9 = g 7 9 → (∀ i, i < 12 → g' 110 i = g 8 i ∧ g' 111 i = g 9 i ∧ g' 112 i = g 10 i ∧ g' 113 i = g 11 i ∧ g' 114 i = g 12 i ∧ g' 115 i = g 13 i ∧ g' 116 i = g 14 i ∧ g' 117 i = g 15 i) → (∀ a, (a < 109 ∨ 117 < a) → g' a = g a) → Q none g') : Cx (d + 1) i_Players_copyFrom [.ref 109, .ref 7] g Q := by
  refine r_cl (L0 := [some (.ref 109), some (.ref 7)]) rfl (Or.inr ⟨_, _, _, rfl, rfl⟩) rfl rfl rfl ?_
  refine r_run 400 rfl rfl ?_
  refine r_cpy rfl rfl rfl rfl (by decide) (by decide) (by decide) ?_
  refine r_run 400 rfl rfl ?_
  refine r_cpy rfl rfl rfl rfl (by decide) (by decide) (by decide) ?_
  refine r_run 400 rfl rfl ?_
  refine r_cpy rfl rfl rfl rfl (by decide) (by decide) (by decide) ?_
  refine r_run 400 rfl rfl ?_
  refine r_cpy rfl rfl rfl rfl (by decide) (by decide) (by decide) ?_
  refine r_run 400 rfl rfl ?_
  refine r_cpy rfl rfl rfl rfl (by decide) (by decide) (by decide) ?_
  refine r_run 400 rfl rfl ?_
  refine r_cpy rfl rfl rfl rfl (by decide) (by decide) (by decide) ?_
  refine r_run 400 rfl rfl ?_
  refine r_cpy rfl rfl rfl rfl (by decide) (by decide) (by decide) ?_
  refine r_run 400 rfl rfl ?_
  refine r_cpy rfl rfl rfl rfl (by decide) (by decide) (by decide) ?_
  refine r_run 400 rfl rfl ?_
  refine r_ret rfl rfl (k _ ?_ ?_ (fun i hi => ?_) (fun a ha => ?_))
  · simp only [x_up_app, x_ce_app, x_ce_same, Nat.reduceAdd, Nat.reduceEqDiff, ↓reduceIte, Nat.reduceSub, Nat.reduceMul, reduceCtorEq]
    repeat rw [x_cp_row (by decide)]
  · simp only [x_up_app, x_ce_app, x_ce_same, Nat.reduceAdd, Nat.reduceEqDiff, ↓reduceIte, Nat.reduceSub, Nat.reduceMul, reduceCtorEq]
    repeat rw [x_cp_row (by decide)]
  · refine ⟨?_, ?_, ?_, ?_, ?_, ?_, ?_, ?_⟩
    all_goals
      rw [x_up_row (by decide), x_up_row (by decide)]
      repeat (first | rw [x_cp_at hi] | rw [x_cp_row (by decide)])
  · simp only [Nat.reduceAdd]
    rw [x_up_row (by omega), x_up_row (by omega), x_cp_row (by omega), x_cp_row (by omega), x_cp_row (by omega), x_cp_row (by omega), x_cp_row (by omega), x_cp_row (by omega), x_cp_row (by omega), x_cp_row (by omega)]
set_option maxHeartbeats 4000000 in
theorem c_copyBells_104_2 (d : Nat) (g : xG) (Q : xQ) (k : ∀ g' : xG, g' 118 5 = g 16 5 → g' 118 6 = g 16 6 → (∀ i, i < 12 → g' 119 i = g 17 i ∧ g' 120 i = g 18 i ∧ g' 121 i = g 19 i ∧ g' 122 i = g 20 i ∧ g' 123 i = g 21 i) → (∀ a, (a < 118 ∨ 123 < a) → g' a = g a) → Q none g') : Cx (d + 1) i_Bells_copyFrom [.ref 118, .ref 16] g Q := by
  refine r_cl (L0 := [some (.ref 118), some (.ref 16)]) rfl (Or.inr ⟨_, _, _, rfl, rfl⟩) rfl rfl rfl ?_
  refine r_run 400 rfl rfl ?_
  refine r_cpy rfl rfl rfl rfl (by decide) (by decide) (by decide) ?_
  refine r_run 400 rfl rfl ?_
  refine r_cpy rfl rfl rfl rfl (by decide) (by decide) (by decide) ?_
  refine r_run 400 rfl rfl ?_
  refine r_cpy rfl rfl rfl rfl (by decide) (by decide) (by decide) ?_
  refine r_run 400 rfl rfl ?_
  refine r_cpy rfl rfl rfl rfl (by decide) (by decide) (by decide) ?_
  refine r_run 400 rfl rfl ?_
  refine r_cpy rfl rfl rfl rfl (by decide) (by decide) (by decide) ?_
  refine r_run 400 rfl rfl ?_
  refine r_ret rfl rfl (k _ ?_ ?_ (fun i hi => ?_) (fun a ha => ?_))
  · simp only [x_up_app, x_ce_app, x_ce_same, Nat.reduceAdd, Nat.reduceEqDiff, ↓reduceIte, Nat.reduceSub, Nat.reduceMul, reduceCtorEq]
    repeat rw [x_cp_row (by decide)]
  · simp only [x_up_app, x_ce_app, x_ce_same, Nat.reduceAdd, Nat.reduceEqDiff, ↓reduceIte, Nat.reduceSub, Nat.reduceMul, reduceCtorEq]
    repeat rw [x_cp_row (by decide)]
  · refine ⟨?_, ?_, ?_, ?_, ?_⟩
    all_goals
      rw [x_up_row (by decide), x_up_row (by decide)]
      repeat (first | rw [x_cp_at hi] | rw [x_cp_row (by decide)])
  · simp only [Nat.reduceAdd]
    rw [x_up_row (by omega), x_up_row (by omega), x_cp_row (by omega), x_cp_row (by omega), x_cp_row (by omega), x_cp_row (by omega), x_cp_row (by omega)]
set_option maxHeartbeats 4000000 in
theorem c_copyGame_104_2 (d : Nat) (g : xG) (Q : xQ) (k : ∀ g' : xG, x_same g' 104 g 2 → (∀ a, (a < 104 ∨ 123 < a) → g' a = g a) → Q none g') : Cx (d + 2) i_Game_copyFrom [.ref 104, .ref 2] g Q := by
  refine r_cl (L0 := [some (.ref 104), some (.ref 2)]) rfl (Or.inr ⟨_, _, _, rfl, rfl⟩) rfl rfl rfl ?_
  refine r_run 400 rfl rfl ?_
  refine r_inv rfl rfl rfl ?_
  refine c_copyChairs_104_2 d g _ (fun g1 a1 a2 a3 => ?_)
  refine r_run 400 rfl rfl ?_
  refine r_inv rfl rfl rfl ?_
  refine c_copyPlayers_104_2 d g1 _ (fun g2 b1 b2 b3 b4 => ?_)
  refine r_run 400 rfl rfl ?_
  refine r_inv rfl rfl rfl ?_
  refine c_copyBells_104_2 d g2 _ (fun g3 e1 e2 e3 e4 => ?_)
  refine r_run 400 rfl rfl ?_
  have f1 : ∀ a, (a < 105 ∨ 123 < a) → g3 a = g a := fun a ha => by rw [e4 a (by omega), b4 a (by omega), a3 a (by omega)]
  have f2 : ∀ a, (a < 105 ∨ 108 < a) → (a < 109 ∨ 117 < a) → g2 a = g a := fun a h1 h2 => by rw [b4 a h2, a3 a h1]
  refine r_ret rfl rfl (k _ ⟨fun j h1 h2 => ?_, ?_, fun r i h1 h2 hi => ?_, ⟨?_, ?_⟩, fun r i h1 h2 hi => ?_, ⟨?_, ?_⟩, fun r i h1 h2 hi => ?_⟩ (fun a ha => ?_))
  · have hj : j = 3 ∨ j = 4 ∨ j = 5 ∨ j = 6 ∨ j = 7 ∨ j = 8 ∨ j = 9 := by omega
    rcases hj with rfl | rfl | rfl | rfl | rfl | rfl | rfl <;> (simp only [x_up_app, Nat.reduceAdd, Nat.reduceEqDiff, ↓reduceIte]; rw [f1 2 (by decide)])
  · show _ = g 3 3
    repeat rw [x_up_row (by decide)]
    rw [e4 105 (by decide), b4 105 (by decide), a1]
  · have hr : r = 2 ∨ r = 3 ∨ r = 4 := by omega
    obtain ⟨z1, z2, z3⟩ := a2 i hi
    rcases hr with rfl | rfl | rfl
    · show _ = g 4 i
      repeat rw [x_up_row (by decide)]
      rw [e4 _ (by decide), b4 _ (by decide)]
      exact z1
    · show _ = g 5 i
      repeat rw [x_up_row (by decide)]
      rw [e4 _ (by decide), b4 _ (by decide)]
      exact z2
    · show _ = g 6 i
      repeat rw [x_up_row (by decide)]
      rw [e4 _ (by decide), b4 _ (by decide)]
      exact z3
  · show _ = g 7 8
    repeat rw [x_up_row (by decide)]
    rw [e4 _ (by decide), b1, a3 7 (by decide)]
  · show _ = g 7 9
    repeat rw [x_up_row (by decide)]
    rw [e4 _ (by decide), b2, a3 7 (by decide)]
  · obtain ⟨z1, z2, z3, z4, z5, z6, z7, z8⟩ := b3 i hi
    have hr : r = 6 ∨ r = 7 ∨ r = 8 ∨ r = 9 ∨ r = 10 ∨ r = 11 ∨ r = 12 ∨ r = 13 := by omega
    rcases hr with rfl | rfl | rfl | rfl | rfl | rfl | rfl | rfl
    · show _ = g 8 i
      repeat rw [x_up_row (by decide)]
      rw [e4 _ (by decide)]
      exact z1.trans (by rw [a3 8 (by decide)])
    · show _ = g 9 i
      repeat rw [x_up_row (by decide)]
      rw [e4 _ (by decide)]
      exact z2.trans (by rw [a3 9 (by decide)])
    · show _ = g 10 i
      repeat rw [x_up_row (by decide)]
      rw [e4 _ (by decide)]
      exact z3.trans (by rw [a3 10 (by decide)])
    · show _ = g 11 i
      repeat rw [x_up_row (by decide)]
      rw [e4 _ (by decide)]
      exact z4.trans (by rw [a3 11 (by decide)])
    · show _ = g 12 i
      repeat rw [x_up_row (by decide)]
      rw [e4 _ (by decide)]
      exact z5.trans (by rw [a3 12 (by decide)])
    · show _ = g 13 i
      repeat rw [x_up_row (by decide)]
      rw [e4 _ (by decide)]
      exact z6.trans (by rw [a3 13 (by decide)])
    · show _ = g 14 i
      repeat rw [x_up_row (by decide)]
      rw [e4 _ (by decide)]
      exact z7.trans (by rw [a3 14 (by decide)])
    · show _ = g 15 i
      repeat rw [x_up_row (by decide)]
      rw [e4 _ (by decide)]
      exact z8.trans (by rw [a3 15 (by decide)])
  · show _ = g 16 5
    repeat rw [x_up_row (by decide)]
    rw [e1, f2 16 (by decide) (by decide)]
  · show _ = g 16 6
    repeat rw [x_up_row (by decide)]
    rw [e2, f2 16 (by decide) (by decide)]
  · obtain ⟨z1, z2, z3, z4, z5⟩ := e3 i hi
    have hr : r = 15 ∨ r = 16 ∨ r = 17 ∨ r = 18 ∨ r = 19 := by omega
    rcases hr with rfl | rfl | rfl | rfl | rfl
    · show _ = g 17 i
      repeat rw [x_up_row (by decide)]
      exact z1.trans (by rw [f2 17 (by decide) (by decide)])
    · show _ = g 18 i
      repeat rw [x_up_row (by decide)]
      exact z2.trans (by rw [f2 18 (by decide) (by decide)])
    · show _ = g 19 i
      repeat rw [x_up_row (by decide)]
      exact z3.trans (by rw [f2 19 (by decide) (by decide)])
    · show _ = g 20 i
      repeat rw [x_up_row (by decide)]
      exact z4.trans (by rw [f2 20 (by decide) (by decide)])
    · show _ = g 21 i
      repeat rw [x_up_row (by decide)]
      exact z5.trans (by rw [f2 21 (by decide) (by decide)])
  · simp only [Nat.reduceAdd]
    repeat rw [x_up_row (by omega)]
    exact f1 a (by omega)
set_option maxHeartbeats 4000000 in
theorem c_copyChairs_2_24 (d : Nat) (g : xG) (Q : xQ) (k : ∀ g' : xG, g' 3 3 = g 25 3 → (∀ i, i < 16 → g' 4 i = g 26 i ∧ g' 5 i = g 27 i ∧ g' 6 i = g 28 i) → (∀ a, (a < 3 ∨ 6 < a) → g' a = g a) → Q none g') : Cx (d + 1) i_Chairs_copyFrom [.ref 3, .ref 25] g Q := by
  refine r_cl (L0 := [some (.ref 3), some (.ref 25)]) rfl (Or.inr ⟨_, _, _, rfl, rfl⟩) rfl rfl rfl ?_
  refine r_run 400 rfl rfl ?_
  refine r_cpy rfl rfl rfl rfl (by decide) (by decide) (by decide) ?_
  refine r_run 400 rfl rfl ?_
  refine r_cpy rfl rfl rfl rfl (by decide) (by decide) (by decide) ?_
  refine r_run 400 rfl rfl ?_
  refine r_cpy rfl rfl rfl rfl (by decide) (by decide) (by decide) ?_
  refine r_run 400 rfl rfl ?_
  refine r_ret rfl rfl (k _ ?_ (fun i hi => ?_) (fun a ha => ?_))
  · simp only [x_up_app, x_ce_app, x_ce_same, Nat.reduceAdd, Nat.reduceEqDiff, ↓reduceIte, Nat.reduceSub, Nat.reduceMul, reduceCtorEq]
    rw [x_cp_row (by decide), x_cp_row (by decide), x_cp_row (by decide)]
  · rw [x_up_row (by decide), x_up_row (by decide), x_up_row (by decide)]
    rw [x_cp_row (c := 4) (by decide), x_cp_row (c := 4) (by decide), x_cp_at hi]
    rw [x_cp_row (c := 5) (by decide), x_cp_at hi, x_cp_row (c := 27) (by decide)]
    rw [x_cp_at hi, x_cp_row (c := 28) (by decide), x_cp_row (c := 28) (by decide)]
    exact ⟨rfl, rfl, rfl⟩
  · simp only [Nat.reduceAdd]
    rw [x_up_row (by omega), x_cp_row (by omega), x_cp_row (by omega), x_cp_row (by omega)]
set_option maxHeartbeats 4000000 in
theorem c_copyPlayers_2_24 (d : Nat) (g : xG) (Q : xQ) (k : ∀ g' : xG, g' 7 8 = g 29 8 → g' 7 9 = g 29 9 → (∀ i, i < 12 → g' 8 i = g 30 i ∧ g' 9 i = g 31 i ∧ g' 10 i = g 32 i ∧ g' 11 i = g 33 i ∧ g' 12 i = g 34 i ∧ g' 13 i = g 35 i ∧ g' 14 i = g 36 i ∧ g' 15 i = g 37 i) → (∀ a, (a < 7 ∨ 15 < a) → g' a = g a) → Q none g') : Cx (d + 1) i_Players_copyFrom [.ref 7, .ref 29] g Q := by
  refine r_cl (L0 := [some (.ref 7), some (.ref 29)]) rfl (Or.inr ⟨_, _, _, rfl, rfl⟩) rfl rfl rfl ?_
  refine r_run 400 rfl rfl ?_
  refine r_cpy rfl rfl rfl rfl (by decide) (by decide) (by decide) ?_
  refine r_run 400 rfl rfl ?_
  refine r_cpy rfl rfl rfl rfl (by decide) (by decide) (by decide) ?_
  refine r_run 400 rfl rfl ?_
  refine r_cpy rfl rfl rfl rfl (by decide) (by decide) (by decide) ?_
  refine r_run 400 rfl rfl ?_
  refine r_cpy rfl rfl rfl rfl (by decide) (by decide) (by decide) ?_
  refine r_run 400 rfl rfl ?_
  refine r_cpy rfl rfl rfl rfl (by decide) (by decide) (by decide) ?_
  refine r_run 400 rfl rfl ?_
  refine r_cpy rfl rfl rfl rfl (by decide) (by decide) (by decide) ?_
  refine r_run 400 rfl rfl ?_
  refine r_cpy rfl rfl rfl rfl (by decide) (by decide) (by decide) ?_
  refine r_run 400 rfl rfl ?_
  refine r_cpy rfl rfl rfl rfl (by decide) (by decide) (by decide) ?_
  refine r_run 400 rfl rfl ?_
  refine r_ret rfl rfl (k _ ?_ ?_ (fun i hi => ?_) (fun a ha => ?_))
  · simp only [x_up_app, x_ce_app, x_ce_same, Nat.reduceAdd, Nat.reduceEqDiff, ↓reduceIte, Nat.reduceSub, Nat.reduceMul, reduceCtorEq]
    repeat rw [x_cp_row (by decide)]
  · simp only [x_up_app, x_ce_app, x_ce_same, Nat.reduceAdd, Nat.reduceEqDiff, ↓reduceIte, Nat.reduceSub, Nat.reduceMul, reduceCtorEq]
    repeat rw [x_cp_row (by decide)]
  · refine ⟨?_, ?_, ?_, ?_, ?_, ?_, ?_, ?_⟩
    all_goals
      rw [x_up_row (by decide), x_up_row (by decide)]
      repeat (first | rw [x_cp_at hi] | rw [x_cp_row (by decide)])
  · simp only [Nat.reduceAdd]
    rw [x_up_row (by omega), x_up_row (by omega), x_cp_row (by omega), x_cp_row (by omega), x_cp_row (by omega), x_cp_row (by omega), x_cp_row (by omega), x_cp_row (by omega), x_cp_row (by omega), x_cp_row (by omega)]
set_option maxHeartbeats 4000000 in
theorem c_copyBells_2_24 (d : Nat) (g : xG) (Q : xQ) (k : ∀ g' : xG, g' 16 5 = g 38 5 → g' 16 6 = g 38 6 → (∀ i, i < 12 → g' 17 i = g 39 i ∧ g' 18 i = g 40 i ∧ g' 19 i = g 41 i ∧ g' 20 i = g 42 i ∧ g' 21 i = g 43 i) → (∀ a, (a < 16 ∨ 21 < a) → g' a = g a) → Q none g') : Cx (d + 1) i_Bells_copyFrom [.ref 16, .ref 38] g Q := by
  refine r_cl (L0 := [some (.ref 16), some (.ref 38)]) rfl (Or.inr ⟨_, _, _, rfl, rfl⟩) rfl rfl rfl ?_
  refine r_run 400 rfl rfl ?_
  refine r_cpy rfl rfl rfl rfl (by decide) (by decide) (by decide) ?_
  refine r_run 400 rfl rfl ?_
  refine r_cpy rfl rfl rfl rfl (by decide) (by decide) (by decide) ?_
  refine r_run 400 rfl rfl ?_
  refine r_cpy rfl rfl rfl rfl (by decide) (by decide) (by decide) ?_
  refine r_run 400 rfl rfl ?_
  refine r_cpy rfl rfl rfl rfl (by decide) (by decide) (by decide) ?_
  refine r_run 400 rfl rfl ?_
  refine r_cpy rfl rfl rfl rfl (by decide) (by decide) (by decide) ?_
  refine r_run 400 rfl rfl ?_
  refine r_ret rfl rfl (k _ ?_ ?_ (fun i hi => ?_) (fun a ha => ?_))
  · simp only [x_up_app, x_ce_app, x_ce_same, Nat.reduceAdd, Nat.reduceEqDiff, ↓reduceIte, Nat.reduceSub, Nat.reduceMul, reduceCtorEq]
    repeat rw [x_cp_row (by decide)]
  · simp only [x_up_app, x_ce_app, x_ce_same, Nat.reduceAdd, Nat.reduceEqDiff, ↓reduceIte, Nat.reduceSub, Nat.reduceMul, reduceCtorEq]
    repeat rw [x_cp_row (by decide)]
  · refine ⟨?_, ?_, ?_, ?_, ?_⟩
    all_goals
      rw [x_up_row (by decide), x_up_row (by decide)]
      repeat (first | rw [x_cp_at hi] | rw [x_cp_row (by decide)])
  · simp only [Nat.reduceAdd]
    rw [x_up_row (by omega), x_up_row (by omega), x_cp_row (by omega), x_cp_row (by omega), x_cp_row (by omega), x_cp_row (by omega), x_cp_row (by omega)]
set_option maxHeartbeats 4000000 in
theorem c_copyGame_2_24 (d : Nat) (g : xG) (Q : xQ) (k : ∀ g' : xG, x_same g' 2 g 24 → (∀ a, (a < 2 ∨ 21 < a) → g' a = g a) → Q none g') : Cx (d + 2) i_Game_copyFrom [.ref 2, .ref 24] g Q := by
  refine r_cl (L0 := [some (.ref 2), some (.ref 24)]) rfl (Or.inr ⟨_, _, _, rfl, rfl⟩) rfl rfl rfl ?_
  refine r_run 400 rfl rfl ?_
  refine r_inv rfl rfl rfl ?_
  refine c_copyChairs_2_24 d g _ (fun g1 a1 a2 a3 => ?_)
  refine r_run 400 rfl rfl ?_
  refine r_inv rfl rfl rfl ?_
  refine c_copyPlayers_2_24 d g1 _ (fun g2 b1 b2 b3 b4 => ?_)
  refine r_run 400 rfl rfl ?_
  refine r_inv rfl rfl rfl ?_
  refine c_copyBells_2_24 d g2 _ (fun g3 e1 e2 e3 e4 => ?_)
  refine r_run 400 rfl rfl ?_
  have f1 : ∀ a, (a < 3 ∨ 21 < a) → g3 a = g a := fun a ha => by rw [e4 a (by omega), b4 a (by omega), a3 a (by omega)]
  have f2 : ∀ a, (a < 3 ∨ 6 < a) → (a < 7 ∨ 15 < a) → g2 a = g a := fun a h1 h2 => by rw [b4 a h2, a3 a h1]
  refine r_ret rfl rfl (k _ ⟨fun j h1 h2 => ?_, ?_, fun r i h1 h2 hi => ?_, ⟨?_, ?_⟩, fun r i h1 h2 hi => ?_, ⟨?_, ?_⟩, fun r i h1 h2 hi => ?_⟩ (fun a ha => ?_))
  · have hj : j = 3 ∨ j = 4 ∨ j = 5 ∨ j = 6 ∨ j = 7 ∨ j = 8 ∨ j = 9 := by omega
    rcases hj with rfl | rfl | rfl | rfl | rfl | rfl | rfl <;> (simp only [x_up_app, Nat.reduceAdd, Nat.reduceEqDiff, ↓reduceIte]; rw [f1 24 (by decide)])
  · show _ = g 25 3
    repeat rw [x_up_row (by decide)]
    rw [e4 3 (by decide), b4 3 (by decide), a1]
  · have hr : r = 2 ∨ r = 3 ∨ r = 4 := by omega
    obtain ⟨z1, z2, z3⟩ := a2 i hi
    rcases hr with rfl | rfl | rfl
    · show _ = g 26 i
      repeat rw [x_up_row (by decide)]
      rw [e4 _ (by decide), b4 _ (by decide)]
      exact z1
    · show _ = g 27 i
      repeat rw [x_up_row (by decide)]
      rw [e4 _ (by decide), b4 _ (by decide)]
      exact z2
    · show _ = g 28 i
      repeat rw [x_up_row (by decide)]
      rw [e4 _ (by decide), b4 _ (by decide)]
      exact z3
  · show _ = g 29 8
    repeat rw [x_up_row (by decide)]
    rw [e4 _ (by decide), b1, a3 29 (by decide)]
  · show _ = g 29 9
    repeat rw [x_up_row (by decide)]
    rw [e4 _ (by decide), b2, a3 29 (by decide)]
  · obtain ⟨z1, z2, z3, z4, z5, z6, z7, z8⟩ := b3 i hi
    have hr : r = 6 ∨ r = 7 ∨ r = 8 ∨ r = 9 ∨ r = 10 ∨ r = 11 ∨ r = 12 ∨ r = 13 := by omega
    rcases hr with rfl | rfl | rfl | rfl | rfl | rfl | rfl | rfl
    · show _ = g 30 i
      repeat rw [x_up_row (by decide)]
      rw [e4 _ (by decide)]
      exact z1.trans (by rw [a3 30 (by decide)])
    · show _ = g 31 i
      repeat rw [x_up_row (by decide)]
      rw [e4 _ (by decide)]
      exact z2.trans (by rw [a3 31 (by decide)])
    · show _ = g 32 i
      repeat rw [x_up_row (by decide)]
      rw [e4 _ (by decide)]
      exact z3.trans (by rw [a3 32 (by decide)])
    · show _ = g 33 i
      repeat rw [x_up_row (by decide)]
      rw [e4 _ (by decide)]
      exact z4.trans (by rw [a3 33 (by decide)])
    · show _ = g 34 i
      repeat rw [x_up_row (by decide)]
      rw [e4 _ (by decide)]
      exact z5.trans (by rw [a3 34 (by decide)])
    · show _ = g 35 i
      repeat rw [x_up_row (by decide)]
      rw [e4 _ (by decide)]
      exact z6.trans (by rw [a3 35 (by decide)])
    · show _ = g 36 i
      repeat rw [x_up_row (by decide)]
      rw [e4 _ (by decide)]
      exact z7.trans (by rw [a3 36 (by decide)])
    · show _ = g 37 i
      repeat rw [x_up_row (by decide)]
      rw [e4 _ (by decide)]
      exact z8.trans (by rw [a3 37 (by decide)])
  · show _ = g 38 5
    repeat rw [x_up_row (by decide)]
    rw [e1, f2 38 (by decide) (by decide)]
  · show _ = g 38 6
    repeat rw [x_up_row (by decide)]
    rw [e2, f2 38 (by decide) (by decide)]
  · obtain ⟨z1, z2, z3, z4, z5⟩ := e3 i hi
    have hr : r = 15 ∨ r = 16 ∨ r = 17 ∨ r = 18 ∨ r = 19 := by omega
    rcases hr with rfl | rfl | rfl | rfl | rfl
    · show _ = g 39 i
      repeat rw [x_up_row (by decide)]
      exact z1.trans (by rw [f2 39 (by decide) (by decide)])
    · show _ = g 40 i
      repeat rw [x_up_row (by decide)]
      exact z2.trans (by rw [f2 40 (by decide) (by decide)])
    · show _ = g 41 i
      repeat rw [x_up_row (by decide)]
      exact z3.trans (by rw [f2 41 (by decide) (by decide)])
    · show _ = g 42 i
      repeat rw [x_up_row (by decide)]
      exact z4.trans (by rw [f2 42 (by decide) (by decide)])
    · show _ = g 43 i
      repeat rw [x_up_row (by decide)]
      exact z5.trans (by rw [f2 43 (by decide) (by decide)])
  · simp only [Nat.reduceAdd]
    repeat rw [x_up_row (by omega)]
    exact f1 a (by omega)
set_option maxHeartbeats 4000000 in
theorem c_copyChairs_2_44 (d : Nat) (g : xG) (Q : xQ) (k : ∀ g' : xG, g' 3 3 = g 45 3 → (∀ i, i < 16 → g' 4 i = g 46 i ∧ g' 5 i = g 47 i ∧ g' 6 i = g 48 i) → (∀ a, (a < 3 ∨ 6 < a) → g' a = g a) → Q none g') : Cx (d + 1) i_Chairs_copyFrom [.ref 3, .ref 45] g Q := by
  refine r_cl (L0 := [some (.ref 3), some (.ref 45)]) rfl (Or.inr ⟨_, _, _, rfl, rfl⟩) rfl rfl rfl ?_
  refine r_run 400 rfl rfl ?_
  refine r_cpy rfl rfl rfl rfl (by decide) (by decide) (by decide) ?_
  refine r_run 400 rfl rfl ?_
  refine r_cpy rfl rfl rfl rfl (by decide) (by decide) (by decide) ?_
  refine r_run 400 rfl rfl ?_
  refine r_cpy rfl rfl rfl rfl (by decide) (by decide) (by decide) ?_
  refine r_run 400 rfl rfl ?_
  refine r_ret rfl rfl (k _ ?_ (fun i hi => ?_) (fun a ha => ?_))
  · simp only [x_up_app, x_ce_app, x_ce_same, Nat.reduceAdd, Nat.reduceEqDiff, ↓reduceIte, Nat.reduceSub, Nat.reduceMul, reduceCtorEq]
    rw [x_cp_row (by decide), x_cp_row (by decide), x_cp_row (by decide)]
  · rw [x_up_row (by decide), x_up_row (by decide), x_up_row (by decide)]
    rw [x_cp_row (c := 4) (by decide), x_cp_row (c := 4) (by decide), x_cp_at hi]
    rw [x_cp_row (c := 5) (by decide), x_cp_at hi, x_cp_row (c := 47) (by decide)]
    rw [x_cp_at hi, x_cp_row (c := 48) (by decide), x_cp_row (c := 48) (by decide)]
    exact ⟨rfl, rfl, rfl⟩
  · simp only [Nat.reduceAdd]
    rw [x_up_row (by omega), x_cp_row (by omega), x_cp_row (by omega), x_cp_row (by omega)]
set_option maxHeartbeats 4000000 in
theorem c_copyPlayers_2_44 (d : Nat) (g : xG) (Q : xQ) (k : ∀ g' : xG, g' 7 8 = g 49 8 → g' 7 9 = g 49 9 → (∀ i, i < 12 → g' 8 i = g 50 i ∧ g' 9 i = g 51 i ∧ g' 10 i = g 52 i ∧ g' 11 i = g 53 i ∧ g' 12 i = g 54 i ∧ g' 13 i = g 55 i ∧ g' 14 i = g 56 i ∧ g' 15 i = g 57 i) → (∀ a, (a < 7 ∨ 15 < a) → g' a = g a) → Q none g') : Cx (d + 1) i_Players_copyFrom [.ref 7, .ref 49] g Q := by
  refine r_cl (L0 := [some (.ref 7), some (.ref 49)]) rfl (Or.inr ⟨_, _, _, rfl, rfl⟩) rfl rfl rfl ?_
  refine r_run 400 rfl rfl ?_
  refine r_cpy rfl rfl rfl rfl (by decide) (by decide) (by decide) ?_
  refine r_run 400 rfl rfl ?_
  refine r_cpy rfl rfl rfl rfl (by decide) (by decide) (by decide) ?_
  refine r_run 400 rfl rfl ?_
  refine r_cpy rfl rfl rfl rfl (by decide) (by decide) (by decide) ?_
  refine r_run 400 rfl rfl ?_
  refine r_cpy rfl rfl rfl rfl (by decide) (by decide) (by decide) ?_
  refine r_run 400 rfl rfl ?_
  refine r_cpy rfl rfl rfl rfl (by decide) (by decide) (by decide) ?_
  refine r_run 400 rfl rfl ?_
  refine r_cpy rfl rfl rfl rfl (by decide) (by decide) (by decide) ?_
  refine r_run 400 rfl rfl ?_
  refine r_cpy rfl rfl rfl rfl (by decide) (by decide) (by decide) ?_
  refine r_run 400 rfl rfl ?_
  refine r_cpy rfl rfl rfl rfl (by decide) (by decide) (by decide) ?_
  refine r_run 400 rfl rfl ?_
  refine r_ret rfl rfl (k _ ?_ ?_ (fun i hi => ?_) (fun a ha => ?_))
  · simp only [x_up_app, x_ce_app, x_ce_same, Nat.reduceAdd, Nat.reduceEqDiff, ↓reduceIte, Nat.reduceSub, Nat.reduceMul, reduceCtorEq]
    repeat rw [x_cp_row (by decide)]
  · simp only [x_up_app, x_ce_app, x_ce_same, Nat.reduceAdd, Nat.reduceEqDiff, ↓reduceIte, Nat.reduceSub, Nat.reduceMul, reduceCtorEq]
    repeat rw [x_cp_row (by decide)]
  · refine ⟨?_, ?_, ?_, ?_, ?_, ?_, ?_, ?_⟩
    all_goals
      rw [x_up_row (by decide), x_up_row (by decide)]
      repeat (first | rw [x_cp_at hi] | rw [x_cp_row (by decide)])
  · simp only [Nat.reduceAdd]
    rw [x_up_row (by omega), x_up_row (by omega), x_cp_row (by omega), x_cp_row (by omega), x_cp_row (by omega), x_cp_row (by omega), x_cp_row (by omega), x_cp_row (by omega), x_cp_row (by omega), x_cp_row (by omega)]
set_option maxHeartbeats 4000000 in
theorem c_copyBells_2_44 (d : Nat) (g : xG) (Q : xQ) (k : ∀ g' : xG, g' 16 5 = g 58 5 → g' 16 6 = g 58 6 → (∀ i, i < 12 → g' 17 i = g 59 i ∧ g' 18 i = g 60 i ∧ g' 19 i = g 61 i ∧ g' 20 i = g 62 i ∧ g' 21 i = g 63 i) → (∀ a, (a < 16 ∨ 21 < a) → g' a = g a) → Q none g') : Cx (d + 1) i_Bells_copyFrom [.ref 16, .ref 58] g Q := by
  refine r_cl (L0 := [some (.ref 16), some (.ref 58)]) rfl (Or.inr ⟨_, _, _, rfl, rfl⟩) rfl rfl rfl ?_
  refine r_run 400 rfl rfl ?_
  refine r_cpy rfl rfl rfl rfl (by decide) (by decide) (by decide) ?_
  refine r_run 400 rfl rfl ?_
  refine r_cpy rfl rfl rfl rfl (by decide) (by decide) (by decide) ?_
  refine r_run 400 rfl rfl ?_
  refine r_cpy rfl rfl rfl rfl (by decide) (by decide) (by decide) ?_
  refine r_run 400 rfl rfl ?_
  refine r_cpy rfl rfl rfl rfl (by decide) (by decide) (by decide) ?_
  refine r_run 400 rfl rfl ?_
  refine r_cpy rfl rfl rfl rfl (by decide) (by decide) (by decide) ?_
  refine r_run 400 rfl rfl ?_
  refine r_ret rfl rfl (k _ ?_ ?_ (fun i hi => ?_) (fun a ha => ?_))
  · simp only [x_up_app, x_ce_app, x_ce_same, Nat.reduceAdd, Nat.reduceEqDiff, ↓reduceIte, Nat.reduceSub, Nat.reduceMul, reduceCtorEq]
    repeat rw [x_cp_row (by decide)]
  · simp only [x_up_app, x_ce_app, x_ce_same, Nat.reduceAdd, Nat.reduceEqDiff, ↓reduceIte, Nat.reduceSub, Nat.reduceMul, reduceCtorEq]
    repeat rw [x_cp_row (by decide)]
  · refine ⟨?_, ?_, ?_, ?_, ?_⟩
    all_goals
      rw [x_up_row (by decide), x_up_row (by decide)]
      repeat (first | rw [x_cp_at hi] | rw [x_cp_row (by decide)])
  · simp only [Nat.reduceAdd]
    rw [x_up_row (by omega), x_up_row (by omega), x_cp_row (by omega), x_cp_row (by omega), x_cp_row (by omega), x_cp_row (by omega), x_cp_row (by omega)]
set_option maxHeartbeats 4000000 in
theorem c_copyGame_2_44 (d : Nat) (g : xG) (Q : xQ) (k : ∀ g' : xG, x_same g' 2 g 44 → (∀ a, (a < 2 ∨ 21 < a) → g' a = g a) → Q none g') : Cx (d + 2) i_Game_copyFrom [.ref 2, .ref 44] g Q := by
  refine r_cl (L0 := [some (.ref 2), some (.ref 44)]) rfl (Or.inr ⟨_, _, _, rfl, rfl⟩) rfl rfl rfl ?_
  refine r_run 400 rfl rfl ?_
  refine r_inv rfl rfl rfl ?_
  refine c_copyChairs_2_44 d g _ (fun g1 a1 a2 a3 => ?_)
  refine r_run 400 rfl rfl ?_
  refine r_inv rfl rfl rfl ?_
  refine c_copyPlayers_2_44 d g1 _ (fun g2 b1 b2 b3 b4 => ?_)
  refine r_run 400 rfl rfl ?_
  refine r_inv rfl rfl rfl ?_
  refine c_copyBells_2_44 d g2 _ (fun g3 e1 e2 e3 e4 => ?_)
  refine r_run 400 rfl rfl ?_
  have f1 : ∀ a, (a < 3 ∨ 21 < a) → g3 a = g a := fun a ha => by rw [e4 a (by omega), b4 a (by omega), a3 a (by omega)]
  have f2 : ∀ a, (a < 3 ∨ 6 < a) → (a < 7 ∨ 15 < a) → g2 a = g a := fun a h1 h2 => by rw [b4 a h2, a3 a h1]
  refine r_ret rfl rfl (k _ ⟨fun j h1 h2 => ?_, ?_, fun r i h1 h2 hi => ?_, ⟨?_, ?_⟩, fun r i h1 h2 hi => ?_, ⟨?_, ?_⟩, fun r i h1 h2 hi => ?_⟩ (fun a ha => ?_))
  · have hj : j = 3 ∨ j = 4 ∨ j = 5 ∨ j = 6 ∨ j = 7 ∨ j = 8 ∨ j = 9 := by omega
    rcases hj with rfl | rfl | rfl | rfl | rfl | rfl | rfl <;> (simp only [x_up_app, Nat.reduceAdd, Nat.reduceEqDiff, ↓reduceIte]; rw [f1 44 (by decide)])
  · show _ = g 45 3
    repeat rw [x_up_row (by decide)]
    rw [e4 3 (by decide), b4 3 (by decide), a1]
  · have hr : r = 2 ∨ r = 3 ∨ r = 4 := by omega
    obtain ⟨z1, z2, z3⟩ := a2 i hi
    rcases hr with rfl | rfl | rfl
    · show _ = g 46 i
      repeat rw [x_up_row (by decide)]
      rw [e4 _ (by decide), b4 _ (by decide)]
      exact z1
    · show _ = g 47 i
      repeat rw [x_up_row (by decide)]
      rw [e4 _ (by decide), b4 _ (by decide)]
      exact z2
    · show _ = g 48 i
      repeat rw [x_up_row (by decide)]
      rw [e4 _ (by decide), b4 _ (by decide)]
      exact z3
  · show _ = g 49 8
    repeat rw [x_up_row (by decide)]
    rw [e4 _ (by decide), b1, a3 49 (by decide)]
  · show _ = g 49 9
    repeat rw [x_up_row (by decide)]
    rw [e4 _ (by decide), b2, a3 49 (by decide)]
  · obtain ⟨z1, z2, z3, z4, z5, z6, z7, z8⟩ := b3 i hi
    have hr : r = 6 ∨ r = 7 ∨ r = 8 ∨ r = 9 ∨ r = 10 ∨ r = 11 ∨ r = 12 ∨ r = 13 := by omega
    rcases hr with rfl | rfl | rfl | rfl | rfl | rfl | rfl | rfl
    · show _ = g 50 i
      repeat rw [x_up_row (by decide)]
      rw [e4 _ (by decide)]
      exact z1.trans (by rw [a3 50 (by decide)])
    · show _ = g 51 i
      repeat rw [x_up_row (by decide)]
      rw [e4 _ (by decide)]
      exact z2.trans (by rw [a3 51 (by decide)])
    · show _ = g 52 i
      repeat rw [x_up_row (by decide)]
      rw [e4 _ (by decide)]
      exact z3.trans (by rw [a3 52 (by decide)])
    · show _ = g 53 i
      repeat rw [x_up_row (by decide)]
      rw [e4 _ (by decide)]
      exact z4.trans (by rw [a3 53 (by decide)])
    · show _ = g 54 i
      repeat rw [x_up_row (by decide)]
      rw [e4 _ (by decide)]
      exact z5.trans (by rw [a3 54 (by decide)])
    · show _ = g 55 i
      repeat rw [x_up_row (by decide)]
      rw [e4 _ (by decide)]
      exact z6.trans (by rw [a3 55 (by decide)])
    · show _ = g 56 i
      repeat rw [x_up_row (by decide)]
      rw [e4 _ (by decide)]
      exact z7.trans (by rw [a3 56 (by decide)])
    · show _ = g 57 i
      repeat rw [x_up_row (by decide)]
      rw [e4 _ (by decide)]
      exact z8.trans (by rw [a3 57 (by decide)])
  · show _ = g 58 5
    repeat rw [x_up_row (by decide)]
    rw [e1, f2 58 (by decide) (by decide)]
  · show _ = g 58 6
    repeat rw [x_up_row (by decide)]
    rw [e2, f2 58 (by decide) (by decide)]
  · obtain ⟨z1, z2, z3, z4, z5⟩ := e3 i hi
    have hr : r = 15 ∨ r = 16 ∨ r = 17 ∨ r = 18 ∨ r = 19 := by omega
    rcases hr with rfl | rfl | rfl | rfl | rfl
    · show _ = g 59 i
      repeat rw [x_up_row (by decide)]
      exact z1.trans (by rw [f2 59 (by decide) (by decide)])
    · show _ = g 60 i
      repeat rw [x_up_row (by decide)]
      exact z2.trans (by rw [f2 60 (by decide) (by decide)])
    · show _ = g 61 i
      repeat rw [x_up_row (by decide)]
      exact z3.trans (by rw [f2 61 (by decide) (by decide)])
    · show _ = g 62 i
      repeat rw [x_up_row (by decide)]
      exact z4.trans (by rw [f2 62 (by decide) (by decide)])
    · show _ = g 63 i
      repeat rw [x_up_row (by decide)]
      exact z5.trans (by rw [f2 63 (by decide) (by decide)])
  · simp only [Nat.reduceAdd]
    repeat rw [x_up_row (by omega)]
    exact f1 a (by omega)
set_option maxHeartbeats 4000000 in
theorem c_copyChairs_2_64 (d : Nat) (g : xG) (Q : xQ) (k : ∀ g' : xG, g' 3 3 = g 65 3 → (∀ i, i < 16 → g' 4 i = g 66 i ∧ g' 5 i = g 67 i ∧ g' 6 i = g 68 i) → (∀ a, (a < 3 ∨ 6 < a) → g' a = g a) → Q none g') : Cx (d + 1) i_Chairs_copyFrom [.ref 3, .ref 65] g Q := by
  refine r_cl (L0 := [some (.ref 3), some (.ref 65)]) rfl (Or.inr ⟨_, _, _, rfl, rfl⟩) rfl rfl rfl ?_
  refine r_run 400 rfl rfl ?_
  refine r_cpy rfl rfl rfl rfl (by decide) (by decide) (by decide) ?_
  refine r_run 400 rfl rfl ?_
  refine r_cpy rfl rfl rfl rfl (by decide) (by decide) (by decide) ?_
  refine r_run 400 rfl rfl ?_
  refine r_cpy rfl rfl rfl rfl (by decide) (by decide) (by decide) ?_
  refine r_run 400 rfl rfl ?_
  refine r_ret rfl rfl (k _ ?_ (fun i hi => ?_) (fun a ha => ?_))
  · simp only [x_up_app, x_ce_app, x_ce_same, Nat.reduceAdd, Nat.reduceEqDiff, ↓reduceIte, Nat.reduceSub, Nat.reduceMul, reduceCtorEq]
    rw [x_cp_row (by decide), x_cp_row (by decide), x_cp_row (by decide)]
  · rw [x_up_row (by decide), x_up_row (by decide), x_up_row (by decide)]
    rw [x_cp_row (c := 4) (by decide), x_cp_row (c := 4) (by decide), x_cp_at hi]
    rw [x_cp_row (c := 5) (by decide), x_cp_at hi, x_cp_row (c := 67) (by decide)]
    rw [x_cp_at hi, x_cp_row (c := 68) (by decide), x_cp_row (c := 68) (by decide)]
    exact ⟨rfl, rfl, rfl⟩
  · simp only [Nat.reduceAdd]
    rw [x_up_row (by omega), x_cp_row (by omega), x_cp_row (by omega), x_cp_row (by omega)]
set_option maxHeartbeats 4000000 in
theorem c_copyPlayers_2_64 (d : Nat) (g : xG) (Q : xQ) (k : ∀ g' : xG, g' 7 8 = g 69 8 → g' 7 9 = g 69 9 → (∀ i, i < 12 → g' 8 i = g 70 i ∧ g' 9 i = g 71 i ∧ g' 10 i = g 72 i ∧ g' 11 i = g 73 i ∧ g' 12 i = g 74 i ∧ g' 13 i = g 75 i ∧ g' 14 i = g 76 i ∧ g' 15 i = g 77 i) → (∀ a, (a < 7 ∨ 15 < a) → g' a = g a) → Q none g') : Cx (d + 1) i_Players_copyFrom [.ref 7, .ref 69] g Q := by
  refine r_cl (L0 := [some (.ref 7), some (.ref 69)]) rfl (Or.inr ⟨_, _, _, rfl, rfl⟩) rfl rfl rfl ?_
  refine r_run 400 rfl rfl ?_
  refine r_cpy rfl rfl rfl rfl (by decide) (by decide) (by decide) ?_
  refine r_run 400 rfl rfl ?_
  refine r_cpy rfl rfl rfl rfl (by decide) (by decide) (by decide) ?_
  refine r_run 400 rfl rfl ?_
  refine r_cpy rfl rfl rfl rfl (by decide) (by decide) (by decide) ?_
  refine r_run 400 rfl rfl ?_
  refine r_cpy rfl rfl rfl rfl (by decide) (by decide) (by decide) ?_
  refine r_run 400 rfl rfl ?_
  refine r_cpy rfl rfl rfl rfl (by decide) (by decide) (by decide) ?_
  refine r_run 400 rfl rfl ?_
  refine r_cpy rfl rfl rfl rfl (by decide) (by decide) (by decide) ?_
  refine r_run 400 rfl rfl ?_
  refine r_cpy rfl rfl rfl rfl (by decide) (by decide) (by decide) ?_
  refine r_run 400 rfl rfl ?_
  refine r_cpy rfl rfl rfl rfl (by decide) (by decide) (by decide) ?_
  refine r_run 400 rfl rfl ?_
  refine r_ret rfl rfl (k _ ?_ ?_ (fun i hi => ?_) (fun a ha => ?_))
  · simp only [x_up_app, x_ce_app, x_ce_same, Nat.reduceAdd, Nat.reduceEqDiff, ↓reduceIte, Nat.reduceSub, Nat.reduceMul, reduceCtorEq]
    repeat rw [x_cp_row (by decide)]
  · simp only [x_up_app, x_ce_app, x_ce_same, Nat.reduceAdd, Nat.reduceEqDiff, ↓reduceIte, Nat.reduceSub, Nat.reduceMul, reduceCtorEq]
    repeat rw [x_cp_row (by decide)]
  · refine ⟨?_, ?_, ?_, ?_, ?_, ?_, ?_, ?_⟩
    all_goals
      rw [x_up_row (by decide), x_up_row (by decide)]
      repeat (first | rw [x_cp_at hi] | rw [x_cp_row (by decide)])
  · simp only [Nat.reduceAdd]
    rw [x_up_row (by omega), x_up_row (by omega), x_cp_row (by omega), x_cp_row (by omega), x_cp_row (by omega), x_cp_row (by omega), x_cp_row (by omega), x_cp_row (by omega), x_cp_row (by omega), x_cp_row (by omega)]
set_option maxHeartbeats 4000000 in
theorem c_copyBells_2_64 (d : Nat) (g : xG) (Q : xQ) (k : ∀ g' : xG, g' 16 5 = g 78 5 → g' 16 6 = g 78 6 → (∀ i, i < 12 → g' 17 i = g 79 i ∧ g' 18 i = g 80 i ∧ g' 19 i = g 81 i ∧ g' 20 i = g 82 i ∧ g' 21 i = g 83 i) → (∀ a, (a < 16 ∨ 21 < a) → g' a = g a) → Q none g') : Cx (d + 1) i_Bells_copyFrom [.ref 16, .ref 78] g Q := by
  refine r_cl (L0 := [some (.ref 16), some (.ref 78)]) rfl (Or.inr ⟨_, _, _, rfl, rfl⟩) rfl rfl rfl ?_
  refine r_run 400 rfl rfl ?_
  refine r_cpy rfl rfl rfl rfl (by decide) (by decide) (by decide) ?_
  refine r_run 400 rfl rfl ?_
  refine r_cpy rfl rfl rfl rfl (by decide) (by decide) (by decide) ?_
  refine r_run 400 rfl rfl ?_
  refine r_cpy rfl rfl rfl rfl (by decide) (by decide) (by decide) ?_
  refine r_run 400 rfl rfl ?_
  refine r_cpy rfl rfl rfl rfl (by decide) (by decide) (by decide) ?_
  refine r_run 400 rfl rfl ?_
  refine r_cpy rfl rfl rfl rfl (by decide) (by decide) (by decide) ?_
  refine r_run 400 rfl rfl ?_
  refine r_ret rfl rfl (k _ ?_ ?_ (fun i hi => ?_) (fun a ha => ?_))
  · simp only [x_up_app, x_ce_app, x_ce_same, Nat.reduceAdd, Nat.reduceEqDiff, ↓reduceIte, Nat.reduceSub, Nat.reduceMul, reduceCtorEq]
    repeat rw [x_cp_row (by decide)]
  · simp only [x_up_app, x_ce_app, x_ce_same, Nat.reduceAdd, Nat.reduceEqDiff, ↓reduceIte, Nat.reduceSub, Nat.reduceMul, reduceCtorEq]
    repeat rw [x_cp_row (by decide)]
  · refine ⟨?_, ?_, ?_, ?_, ?_⟩
    all_goals
      rw [x_up_row (by decide), x_up_row (by decide)]
      repeat (first | rw [x_cp_at hi] | rw [x_cp_row (by decide)])
  · simp only [Nat.reduceAdd]
    rw [x_up_row (by omega), x_up_row (by omega), x_cp_row (by omega), x_cp_row (by omega), x_cp_row (by omega), x_cp_row (by omega), x_cp_row (by omega)]
set_option maxHeartbeats 4000000 in
theorem c_copyGame_2_64 (d : Nat) (g : xG) (Q : xQ) (k : ∀ g' : xG, x_same g' 2 g 64 → (∀ a, (a < 2 ∨ 21 < a) → g' a = g a) → Q none g') : Cx (d + 2) i_Game_copyFrom [.ref 2, .ref 64] g Q := by
  refine r_cl (L0 := [some (.ref 2), some (.ref 64)]) rfl (Or.inr ⟨_, _, _, rfl, rfl⟩) rfl rfl rfl ?_
  refine r_run 400 rfl rfl ?_
  refine r_inv rfl rfl rfl ?_
  refine c_copyChairs_2_64 d g _ (fun g1 a1 a2 a3 => ?_)
  refine r_run 400 rfl rfl ?_
  refine r_inv rfl rfl rfl ?_
  refine c_copyPlayers_2_64 d g1 _ (fun g2 b1 b2 b3 b4 => ?_)
  refine r_run 400 rfl rfl ?_
  refine r_inv rfl rfl rfl ?_
  refine c_copyBells_2_64 d g2 _ (fun g3 e1 e2 e3 e4 => ?_)
  refine r_run 400 rfl rfl ?_
  have f1 : ∀ a, (a < 3 ∨ 21 < a) → g3 a = g a := fun a ha => by rw [e4 a (by omega), b4 a (by omega), a3 a (by omega)]
  have f2 : ∀ a, (a < 3 ∨ 6 < a) → (a < 7 ∨ 15 < a) → g2 a = g a := fun a h1 h2 => by rw [b4 a h2, a3 a h1]
  refine r_ret rfl rfl (k _ ⟨fun j h1 h2 => ?_, ?_, fun r i h1 h2 hi => ?_, ⟨?_, ?_⟩, fun r i h1 h2 hi => ?_, ⟨?_, ?_⟩, fun r i h1 h2 hi => ?_⟩ (fun a ha => ?_))
  · have hj : j = 3 ∨ j = 4 ∨ j = 5 ∨ j = 6 ∨ j = 7 ∨ j = 8 ∨ j = 9 := by omega
    rcases hj with rfl | rfl | rfl | rfl | rfl | rfl | rfl <;> (simp only [x_up_app, Nat.reduceAdd, Nat.reduceEqDiff, ↓reduceIte]; rw [f1 64 (by decide)])
  · show _ = g 65 3
    repeat rw [x_up_row (by decide)]
    rw [e4 3 (by decide), b4 3 (by decide), a1]
  · have hr : r = 2 ∨ r = 3 ∨ r = 4 := by omega
    obtain ⟨z1, z2, z3⟩ := a2 i hi
    rcases hr with rfl | rfl | rfl
    · show _ = g 66 i
      repeat rw [x_up_row (by decide)]
      rw [e4 _ (by decide), b4 _ (by decide)]
      exact z1
    · show _ = g 67 i
      repeat rw [x_up_row (by decide)]
      rw [e4 _ (by decide), b4 _ (by decide)]
      exact z2
    · show _ = g 68 i
      repeat rw [x_up_row (by decide)]
      rw [e4 _ (by decide), b4 _ (by decide)]
      exact z3
  · show _ = g 69 8
    repeat rw [x_up_row (by decide)]
    rw [e4 _ (by decide), b1, a3 69 (by decide)]
  · show _ = g 69 9
    repeat rw [x_up_row (by decide)]
    rw [e4 _ (by decide), b2, a3 69 (by decide)]
  · obtain ⟨z1, z2, z3, z4, z5, z6, z7, z8⟩ := b3 i hi
    have hr : r = 6 ∨ r = 7 ∨ r = 8 ∨ r = 9 ∨ r = 10 ∨ r = 11 ∨ r = 12 ∨ r = 13 := by omega
    rcases hr with rfl | rfl | rfl | rfl | rfl | rfl | rfl | rfl
    · show _ = g 70 i
      repeat rw [x_up_row (by decide)]
      rw [e4 _ (by decide)]
      exact z1.trans (by rw [a3 70 (by decide)])
    · show _ = g 71 i
      repeat rw [x_up_row (by decide)]
      rw [e4 _ (by decide)]
      exact z2.trans (by rw [a3 71 (by decide)])
    · show _ = g 72 i
      repeat rw [x_up_row (by decide)]
      rw [e4 _ (by decide)]
      exact z3.trans (by rw [a3 72 (by decide)])
    · show _ = g 73 i
      repeat rw [x_up_row (by decide)]
      rw [e4 _ (by decide)]
      exact z4.trans (by rw [a3 73 (by decide)])
    · show _ = g 74 i
      repeat rw [x_up_row (by decide)]
      rw [e4 _ (by decide)]
      exact z5.trans (by rw [a3 74 (by decide)])
    · show _ = g 75 i
      repeat rw [x_up_row (by decide)]
      rw [e4 _ (by decide)]
      exact z6.trans (by rw [a3 75 (by decide)])
    · show _ = g 76 i
      repeat rw [x_up_row (by decide)]
      rw [e4 _ (by decide)]
      exact z7.trans (by rw [a3 76 (by decide)])
    · show _ = g 77 i
      repeat rw [x_up_row (by decide)]
      rw [e4 _ (by decide)]
      exact z8.trans (by rw [a3 77 (by decide)])
  · show _ = g 78 5
    repeat rw [x_up_row (by decide)]
    rw [e1, f2 78 (by decide) (by decide)]
  · show _ = g 78 6
    repeat rw [x_up_row (by decide)]
    rw [e2, f2 78 (by decide) (by decide)]
  · obtain ⟨z1, z2, z3, z4, z5⟩ := e3 i hi
    have hr : r = 15 ∨ r = 16 ∨ r = 17 ∨ r = 18 ∨ r = 19 := by omega
    rcases hr with rfl | rfl | rfl | rfl | rfl
    · show _ = g 79 i
      repeat rw [x_up_row (by decide)]
      exact z1.trans (by rw [f2 79 (by decide) (by decide)])
    · show _ = g 80 i
      repeat rw [x_up_row (by decide)]
      exact z2.trans (by rw [f2 80 (by decide) (by decide)])
    · show _ = g 81 i
      repeat rw [x_up_row (by decide)]
      exact z3.trans (by rw [f2 81 (by decide) (by decide)])
    · show _ = g 82 i
      repeat rw [x_up_row (by decide)]
      exact z4.trans (by rw [f2 82 (by decide) (by decide)])
    · show _ = g 83 i
      repeat rw [x_up_row (by decide)]
      exact z5.trans (by rw [f2 83 (by decide) (by decide)])
  · simp only [Nat.reduceAdd]
    repeat rw [x_up_row (by omega)]
    exact f1 a (by omega)
set_option maxHeartbeats 4000000 in
theorem c_copyChairs_2_84 (d : Nat) (g : xG) (Q : xQ) (k : ∀ g' : xG, g' 3 3 = g 85 3 → (∀ i, i < 16 → g' 4 i = g 86 i ∧ g' 5 i = g 87 i ∧ g' 6 i = g 88 i) → (∀ a, (a < 3 ∨ 6 < a) → g' a = g a) → Q none g') : Cx (d + 1) i_Chairs_copyFrom [.ref 3, .ref 85] g Q := by
  refine r_cl (L0 := [some (.ref 3), some (.ref 85)]) rfl (Or.inr ⟨_, _, _, rfl, rfl⟩) rfl rfl rfl ?_
  refine r_run 400 rfl rfl ?_
  refine r_cpy rfl rfl rfl rfl (by decide) (by decide) (by decide) ?_
  refine r_run 400 rfl rfl ?_
  refine r_cpy rfl rfl rfl rfl (by decide) (by decide) (by decide) ?_
  refine r_run 400 rfl rfl ?_
  refine r_cpy rfl rfl rfl rfl (by decide) (by decide) (by decide) ?_
  refine r_run 400 rfl rfl ?_
  refine r_ret rfl rfl (k _ ?_ (fun i hi => ?_) (fun a ha => ?_))
  · simp only [x_up_app, x_ce_app, x_ce_same, Nat.reduceAdd, Nat.reduceEqDiff, ↓reduceIte, Nat.reduceSub, Nat.reduceMul, reduceCtorEq]
    rw [x_cp_row (by decide), x_cp_row (by decide), x_cp_row (by decide)]
  · rw [x_up_row (by decide), x_up_row (by decide), x_up_row (by decide)]
    rw [x_cp_row (c := 4) (by decide), x_cp_row (c := 4) (by decide), x_cp_at hi]
    rw [x_cp_row (c := 5) (by decide), x_cp_at hi, x_cp_row (c := 87) (by decide)]
    rw [x_cp_at hi, x_cp_row (c := 88) (by decide), x_cp_row (c := 88) (by decide)]
    exact ⟨rfl, rfl, rfl⟩
  · simp only [Nat.reduceAdd]
    rw [x_up_row (by omega), x_cp_row (by omega), x_cp_row (by omega), x_cp_row (by omega)]
set_option maxHeartbeats 4000000 in
theorem c_copyPlayers_2_84 (d : Nat) (g : xG) (Q : xQ) (k : ∀ g' : xG, g' 7 8 = g 89 8 → g' 7 9 = g 89 9 → (∀ i, i < 12 → g' 8 i = g 90 i ∧ g' 9 i = g 91 i ∧ g' 10 i = g 92 i ∧ g' 11 i = g 93 i ∧ g' 12 i = g 94 i ∧ g' 13 i = g 95 i ∧ g' 14 i = g 96 i ∧ g' 15 i = g 97 i) → (∀ a, (a < 7 ∨ 15 < a) → g' a = g a) → Q none g') : Cx (d + 1) i_Players_copyFrom [.ref 7, .ref 89] g Q := by
  refine r_cl (L0 := [some (.ref 7), some (.ref 89)]) rfl (Or.inr ⟨_, _, _, rfl, rfl⟩) rfl rfl rfl ?_
  refine r_run 400 rfl rfl ?_
  refine r_cpy rfl rfl rfl rfl (by decide) (by decide) (by decide) ?_
  refine r_run 400 rfl rfl ?_
  refine r_cpy rfl rfl rfl rfl (by decide) (by decide) (by decide) ?_
  refine r_run 400 rfl rfl ?_
  refine r_cpy rfl rfl rfl rfl (by decide) (by decide) (by decide) ?_
  refine r_run 400 rfl rfl ?_
  refine r_cpy rfl rfl rfl rfl (by decide) (by decide) (by decide) ?_
  refine r_run 400 rfl rfl ?_
  refine r_cpy rfl rfl rfl rfl (by decide) (by decide) (by decide) ?_
  refine r_run 400 rfl rfl ?_
  refine r_cpy rfl rfl rfl rfl (by decide) (by decide) (by decide) ?_
  refine r_run 400 rfl rfl ?_
  refine r_cpy rfl rfl rfl rfl (by decide) (by decide) (by decide) ?_
  refine r_run 400 rfl rfl ?_
  refine r_cpy rfl rfl rfl rfl (by decide) (by decide) (by decide) ?_
  refine r_run 400 rfl rfl ?_
  refine r_ret rfl rfl (k _ ?_ ?_ (fun i hi => ?_) (fun a ha => ?_))
  · simp only [x_up_app, x_ce_app, x_ce_same, Nat.reduceAdd, Nat.reduceEqDiff, ↓reduceIte, Nat.reduceSub, Nat.reduceMul, reduceCtorEq]
    repeat rw [x_cp_row (by decide)]
  · simp only [x_up_app, x_ce_app, x_ce_same, Nat.reduceAdd, Nat.reduceEqDiff, ↓reduceIte, Nat.reduceSub, Nat.reduceMul, reduceCtorEq]
    repeat rw [x_cp_row (by decide)]
  · refine ⟨?_, ?_, ?_, ?_, ?_, ?_, ?_, ?_⟩
    all_goals
      rw [x_up_row (by decide), x_up_row (by decide)]
      repeat (first | rw [x_cp_at hi] | rw [x_cp_row (by decide)])
  · simp only [Nat.reduceAdd]
    rw [x_up_row (by omega), x_up_row (by omega), x_cp_row (by omega), x_cp_row (by omega), x_cp_row (by omega), x_cp_row (by omega), x_cp_row (by omega), x_cp_row (by omega), x_cp_row (by omega), x_cp_row (by omega)]
set_option maxHeartbeats 4000000 in
theorem c_copyBells_2_84 (d : Nat) (g : xG) (Q : xQ) (k : ∀ g' : xG, g' 16 5 = g 98 5 → g' 16 6 = g 98 6 → (∀ i, i < 12 → g' 17 i = g 99 i ∧ g' 18 i = g 100 i ∧ g' 19 i = g 101 i ∧ g' 20 i = g 102 i ∧ g' 21 i = g 103 i) → (∀ a, (a < 16 ∨ 21 < a) → g' a = g a) → Q none g') : Cx (d + 1) i_Bells_copyFrom [.ref 16, .ref 98] g Q := by
  refine r_cl (L0 := [some (.ref 16), some (.ref 98)]) rfl (Or.inr ⟨_, _, _, rfl, rfl⟩) rfl rfl rfl ?_
  refine r_run 400 rfl rfl ?_
  refine r_cpy rfl rfl rfl rfl (by decide) (by decide) (by decide) ?_
  refine r_run 400 rfl rfl ?_
  refine r_cpy rfl rfl rfl rfl (by decide) (by decide) (by decide) ?_
  refine r_run 400 rfl rfl ?_
  refine r_cpy rfl rfl rfl rfl (by decide) (by decide) (by decide) ?_
  refine r_run 400 rfl rfl ?_
  refine r_cpy rfl rfl rfl rfl (by decide) (by decide) (by decide) ?_
  refine r_run 400 rfl rfl ?_
  refine r_cpy rfl rfl rfl rfl (by decide) (by decide) (by decide) ?_
  refine r_run 400 rfl rfl ?_
  refine r_ret rfl rfl (k _ ?_ ?_ (fun i hi => ?_) (fun a ha => ?_))
  · simp only [x_up_app, x_ce_app, x_ce_same, Nat.reduceAdd, Nat.reduceEqDiff, ↓reduceIte, Nat.reduceSub, Nat.reduceMul, reduceCtorEq]
    repeat rw [x_cp_row (by decide)]
  · simp only [x_up_app, x_ce_app, x_ce_same, Nat.reduceAdd, Nat.reduceEqDiff, ↓reduceIte, Nat.reduceSub, Nat.reduceMul, reduceCtorEq]
    repeat rw [x_cp_row (by decide)]
  · refine ⟨?_, ?_, ?_, ?_, ?_⟩
    all_goals
      rw [x_up_row (by decide), x_up_row (by decide)]
      repeat (first | rw [x_cp_at hi] | rw [x_cp_row (by decide)])
  · simp only [Nat.reduceAdd]
    rw [x_up_row (by omega), x_up_row (by omega), x_cp_row (by omega), x_cp_row (by omega), x_cp_row (by omega), x_cp_row (by omega), x_cp_row (by omega)]
set_option maxHeartbeats 4000000 in
theorem c_copyGame_2_84 (d : Nat) (g : xG) (Q : xQ) (k : ∀ g' : xG, x_same g' 2 g 84 → (∀ a, (a < 2 ∨ 21 < a) → g' a = g a) → Q none g') : Cx (d + 2) i_Game_copyFrom [.ref 2, .ref 84] g Q := by
  refine r_cl (L0 := [some (.ref 2), some (.ref 84)]) rfl (Or.inr ⟨_, _, _, rfl, rfl⟩) rfl rfl rfl ?_
  refine r_run 400 rfl rfl ?_
  refine r_inv rfl rfl rfl ?_
  refine c_copyChairs_2_84 d g _ (fun g1 a1 a2 a3 => ?_)
  refine r_run 400 rfl rfl ?_
  refine r_inv rfl rfl rfl ?_
  refine c_copyPlayers_2_84 d g1 _ (fun g2 b1 b2 b3 b4 => ?_)
  refine r_run 400 rfl rfl ?_
  refine r_inv rfl rfl rfl ?_
  refine c_copyBells_2_84 d g2 _ (fun g3 e1 e2 e3 e4 => ?_)
  refine r_run 400 rfl rfl ?_
  have f1 : ∀ a, (a < 3 ∨ 21 < a) → g3 a = g a := fun a ha => by rw [e4 a (by omega), b4 a (by omega), a3 a (by omega)]
  have f2 : ∀ a, (a < 3 ∨ 6 < a) → (a < 7 ∨ 15 < a) → g2 a = g a := fun a h1 h2 => by rw [b4 a h2, a3 a h1]
  refine r_ret rfl rfl (k _ ⟨fun j h1 h2 => ?_, ?_, fun r i h1 h2 hi => ?_, ⟨?_, ?_⟩, fun r i h1 h2 hi => ?_, ⟨?_, ?_⟩, fun r i h1 h2 hi => ?_⟩ (fun a ha => ?_))
  · have hj : j = 3 ∨ j = 4 ∨ j = 5 ∨ j = 6 ∨ j = 7 ∨ j = 8 ∨ j = 9 := by omega
    rcases hj with rfl | rfl | rfl | rfl | rfl | rfl | rfl <;> (simp only [x_up_app, Nat.reduceAdd, Nat.reduceEqDiff, ↓reduceIte]; rw [f1 84 (by decide)])
  · show _ = g 85 3
    repeat rw [x_up_row (by decide)]
    rw [e4 3 (by decide), b4 3 (by decide), a1]
  · have hr : r = 2 ∨ r = 3 ∨ r = 4 := by omega
    obtain ⟨z1, z2, z3⟩ := a2 i hi
    rcases hr with rfl | rfl | rfl
    · show _ = g 86 i
      repeat rw [x_up_row (by decide)]
      rw [e4 _ (by decide), b4 _ (by decide)]
      exact z1
    · show _ = g 87 i
      repeat rw [x_up_row (by decide)]
      rw [e4 _ (by decide), b4 _ (by decide)]
      exact z2
    · show _ = g 88 i
      repeat rw [x_up_row (by decide)]
      rw [e4 _ (by decide), b4 _ (by decide)]
      exact z3
  · show _ = g 89 8
    repeat rw [x_up_row (by decide)]
    rw [e4 _ (by decide), b1, a3 89 (by decide)]
  · show _ = g 89 9
    repeat rw [x_up_row (by decide)]
    rw [e4 _ (by decide), b2, a3 89 (by decide)]
  · obtain ⟨z1, z2, z3, z4, z5, z6, z7, z8⟩ := b3 i hi
    have hr : r = 6 ∨ r = 7 ∨ r = 8 ∨ r = 9 ∨ r = 10 ∨ r = 11 ∨ r = 12 ∨ r = 13 := by omega
    rcases hr with rfl | rfl | rfl | rfl | rfl | rfl | rfl | rfl
    · show _ = g 90 i
      repeat rw [x_up_row (by decide)]
      rw [e4 _ (by decide)]
      exact z1.trans (by rw [a3 90 (by decide)])
    · show _ = g 91 i
      repeat rw [x_up_row (by decide)]
      rw [e4 _ (by decide)]
      exact z2.trans (by rw [a3 91 (by decide)])
    · show _ = g 92 i
      repeat rw [x_up_row (by decide)]
      rw [e4 _ (by decide)]
      exact z3.trans (by rw [a3 92 (by decide)])
    · show _ = g 93 i
      repeat rw [x_up_row (by decide)]
      rw [e4 _ (by decide)]
      exact z4.trans (by rw [a3 93 (by decide)])
    · show _ = g 94 i
      repeat rw [x_up_row (by decide)]
      rw [e4 _ (by decide)]
      exact z5.trans (by rw [a3 94 (by decide)])
    · show _ = g 95 i
      repeat rw [x_up_row (by decide)]
      rw [e4 _ (by decide)]
      exact z6.trans (by rw [a3 95 (by decide)])
    · show _ = g 96 i
      repeat rw [x_up_row (by decide)]
      rw [e4 _ (by decide)]
      exact z7.trans (by rw [a3 96 (by decide)])
    · show _ = g 97 i
      repeat rw [x_up_row (by decide)]
      rw [e4 _ (by decide)]
      exact z8.trans (by rw [a3 97 (by decide)])
  · show _ = g 98 5
    repeat rw [x_up_row (by decide)]
    rw [e1, f2 98 (by decide) (by decide)]
  · show _ = g 98 6
    repeat rw [x_up_row (by decide)]
    rw [e2, f2 98 (by decide) (by decide)]
  · obtain ⟨z1, z2, z3, z4, z5⟩ := e3 i hi
    have hr : r = 15 ∨ r = 16 ∨ r = 17 ∨ r = 18 ∨ r = 19 := by omega
    rcases hr with rfl | rfl | rfl | rfl | rfl
    · show _ = g 99 i
      repeat rw [x_up_row (by decide)]
      exact z1.trans (by rw [f2 99 (by decide) (by decide)])
    · show _ = g 100 i
      repeat rw [x_up_row (by decide)]
      exact z2.trans (by rw [f2 100 (by decide) (by decide)])
    · show _ = g 101 i
      repeat rw [x_up_row (by decide)]
      exact z3.trans (by rw [f2 101 (by decide) (by decide)])
    · show _ = g 102 i
      repeat rw [x_up_row (by decide)]
      exact z4.trans (by rw [f2 102 (by decide) (by decide)])
    · show _ = g 103 i
      repeat rw [x_up_row (by decide)]
      exact z5.trans (by rw [f2 103 (by decide) (by decide)])
  · simp only [Nat.reduceAdd]
    repeat rw [x_up_row (by omega)]
    exact f1 a (by omega)
set_option maxHeartbeats 4000000 in
theorem c_copyChairs_2_104 (d : Nat) (g : xG) (Q : xQ) (k : ∀ g' : xG, g' 3 3 = g 105 3 → (∀ i, i < 16 → g' 4 i = g 106 i ∧ g' 5 i = g 107 i ∧ g' 6 i = g 108 i) → (∀ a, (a < 3 ∨ 6 < a) → g' a = g a) → Q none g') : Cx (d + 1) i_Chairs_copyFrom [.ref 3, .ref 105] g Q := by
  refine r_cl (L0 := [some (.ref 3), some (.ref 105)]) rfl (Or.inr ⟨_, _, _, rfl, rfl⟩) rfl rfl rfl ?_
  refine r_run 400 rfl rfl ?_
  refine r_cpy rfl rfl rfl rfl (by decide) (by decide) (by decide) ?_
  refine r_run 400 rfl rfl ?_
  refine r_cpy rfl rfl rfl rfl (by decide) (by decide) (by decide) ?_
  refine r_run 400 rfl rfl ?_
  refine r_cpy rfl rfl rfl rfl (by decide) (by decide) (by decide) ?_
  refine r_run 400 rfl rfl ?_
  refine r_ret rfl rfl (k _ ?_ (fun i hi => ?_) (fun a ha => ?_))
  · simp only [x_up_app, x_ce_app, x_ce_same, Nat.reduceAdd, Nat.reduceEqDiff, ↓reduceIte, Nat.reduceSub, Nat.reduceMul, reduceCtorEq]
    rw [x_cp_row (by decide), x_cp_row (by decide), x_cp_row (by decide)]
  · rw [x_up_row (by decide), x_up_row (by decide), x_up_row (by decide)]
    rw [x_cp_row (c := 4) (by decide), x_cp_row (c := 4) (by decide), x_cp_at hi]
    rw [x_cp_row (c := 5) (by decide), x_cp_at hi, x_cp_row (c := 107) (by decide)]
    rw [x_cp_at hi, x_cp_row (c := 108) (by decide), x_cp_row (c := 108) (by decide)]
    exact ⟨rfl, rfl, rfl⟩
  · simp only [Nat.reduceAdd]
    rw [x_up_row (by omega), x_cp_row (by omega), x_cp_row (by omega), x_cp_row (by omega)]
set_option maxHeartbeats 4000000 in
theorem c_copyPlayers_2_104 (d : Nat) (g : xG) (Q : xQ) (k : ∀ g' : xG, g' 7 8 = g 109 8 → g' 7 9 = g 109 9 → (∀ i, i < 12 → g' 8 i = g 110 i ∧ g' 9 i = g 111 i ∧ g' 10 i = g 112 i ∧ g' 11 i = g 113 i ∧ g' 12 i = g 114 i ∧ g' 13 i = g 115 i ∧ g' 14 i = g 116 i ∧ g' 15 i = g 117 i) → (∀ a, (a < 7 ∨ 15 < a) → g' a = g a) → Q none g') : Cx (d + 1) i_Players_copyFrom [.ref 7, .ref 109] g Q := by
  refine r_cl (L0 := [some (.ref 7), some (.ref 109)]) rfl (Or.inr ⟨_, _, _, rfl, rfl⟩) rfl rfl rfl ?_
  refine r_run 400 rfl rfl ?_
  refine r_cpy rfl rfl rfl rfl (by decide) (by decide) (by decide) ?_
  refine r_run 400 rfl rfl ?_
  refine r_cpy rfl rfl rfl rfl (by decide) (by decide) (by decide) ?_
  refine r_run 400 rfl rfl ?_
  refine r_cpy rfl rfl rfl rfl (by decide) (by decide) (by decide) ?_
  refine r_run 400 rfl rfl ?_
  refine r_cpy rfl rfl rfl rfl (by decide) (by decide) (by decide) ?_
  refine r_run 400 rfl rfl ?_
  refine r_cpy rfl rfl rfl rfl (by decide) (by decide) (by decide) ?_
  refine r_run 400 rfl rfl ?_
  refine r_cpy rfl rfl rfl rfl (by decide) (by decide) (by decide) ?_
  refine r_run 400 rfl rfl ?_
  refine r_cpy rfl rfl rfl rfl (by decide) (by decide) (by decide) ?_
  refine r_run 400 rfl rfl ?_
  refine r_cpy rfl rfl rfl rfl (by decide) (by decide) (by decide) ?_
  refine r_run 400 rfl rfl ?_
  refine r_ret rfl rfl (k _ ?_ ?_ (fun i hi => ?_) (fun a ha => ?_))
  · simp only [x_up_app, x_ce_app, x_ce_same, Nat.reduceAdd, Nat.reduceEqDiff, ↓reduceIte, Nat.reduceSub, Nat.reduceMul, reduceCtorEq]
    repeat rw [x_cp_row (by decide)]
  · simp only [x_up_app, x_ce_app, x_ce_same, Nat.reduceAdd, Nat.reduceEqDiff, ↓reduceIte, Nat.reduceSub, Nat.reduceMul, reduceCtorEq]
    repeat rw [x_cp_row (by decide)]
  · refine ⟨?_, ?_, ?_, ?_, ?_, ?_, ?_, ?_⟩
    all_goals
      rw [x_up_row (by decide), x_up_row (by decide)]
      repeat (first | rw [x_cp_at hi] | rw [x_cp_row (by decide)])
  · simp only [Nat.reduceAdd]
    rw [x_up_row (by omega), x_up_row (by omega), x_cp_row (by omega), x_cp_row (by omega), x_cp_row (by omega), x_cp_row (by omega), x_cp_row (by omega), x_cp_row (by omega), x_cp_row (by omega), x_cp_row (by omega)]
set_option maxHeartbeats 4000000 in
theorem c_copyBells_2_104 (d : Nat) (g : xG) (Q : xQ) (k : ∀ g' : xG, g' 16 5 = g 118 5 → g' 16 6 = g 118 6 → (∀ i, i < 12 → g' 17 i = g 119 i ∧ g' 18 i = g 120 i ∧ g' 19 i = g 121 i ∧ g' 20 i = g 122 i ∧ g' 21 i = g 123 i) → (∀ a, (a < 16 ∨ 21 < a) → g' a = g a) → Q none g') : Cx (d + 1) i_Bells_copyFrom [.ref 16, .ref 118] g Q := by
  refine r_cl (L0 := [some (.ref 16), some (.ref 118)]) rfl (Or.inr ⟨_, _, _, rfl, rfl⟩) rfl rfl rfl ?_
  refine r_run 400 rfl rfl ?_
  refine r_cpy rfl rfl rfl rfl (by decide) (by decide) (by decide) ?_
  refine r_run 400 rfl rfl ?_
  refine r_cpy rfl rfl rfl rfl (by decide) (by decide) (by decide) ?_
  refine r_run 400 rfl rfl ?_
  refine r_cpy rfl rfl rfl rfl (by decide) (by decide) (by decide) ?_
  refine r_run 400 rfl rfl ?_
  refine r_cpy rfl rfl rfl rfl (by decide) (by decide) (by decide) ?_
  refine r_run 400 rfl rfl ?_
  refine r_cpy rfl rfl rfl rfl (by decide) (by decide) (by decide) ?_
  refine r_run 400 rfl rfl ?_
  refine r_ret rfl rfl (k _ ?_ ?_ (fun i hi => ?_) (fun a ha => ?_))
  · simp only [x_up_app, x_ce_app, x_ce_same, Nat.reduceAdd, Nat.reduceEqDiff, ↓reduceIte, Nat.reduceSub, Nat.reduceMul, reduceCtorEq]
    repeat rw [x_cp_row (by decide)]
  · simp only [x_up_app, x_ce_app, x_ce_same, Nat.reduceAdd, Nat.reduceEqDiff, ↓reduceIte, Nat.reduceSub, Nat.reduceMul, reduceCtorEq]
    repeat rw [x_cp_row (by decide)]
  · refine ⟨?_, ?_, ?_, ?_, ?_⟩
    all_goals
      rw [x_up_row (by decide), x_up_row (by decide)]
      repeat (first | rw [x_cp_at hi] | rw [x_cp_row (by decide)])
  · simp only [Nat.reduceAdd]
    rw [x_up_row (by omega), x_up_row (by omega), x_cp_row (by omega), x_cp_row (by omega), x_cp_row (by omega), x_cp_row (by omega), x_cp_row (by omega)]
set_option maxHeartbeats 4000000 in
theorem c_copyGame_2_104 (d : Nat) (g : xG) (Q : xQ) (k : ∀ g' : xG, x_same g' 2 g 104 → (∀ a, (a < 2 ∨ 21 < a) → g' a = g a) → Q none g') : Cx (d + 2) i_Game_copyFrom [.ref 2, .ref 104] g Q := by
  refine r_cl (L0 := [some (.ref 2), some (.ref 104)]) rfl (Or.inr ⟨_, _, _, rfl, rfl⟩) rfl rfl rfl ?_
  refine r_run 400 rfl rfl ?_
  refine r_inv rfl rfl rfl ?_
  refine c_copyChairs_2_104 d g _ (fun g1 a1 a2 a3 => ?_)
  refine r_run 400 rfl rfl ?_
  refine r_inv rfl rfl rfl ?_
  refine c_copyPlayers_2_104 d g1 _ (fun g2 b1 b2 b3 b4 => ?_)
  refine r_run 400 rfl rfl ?_
  refine r_inv rfl rfl rfl ?_
  refine c_copyBells_2_104 d g2 _ (fun g3 e1 e2 e3 e4 => ?_)
  refine r_run 400 rfl rfl ?_
  have f1 : ∀ a, (a < 3 ∨ 21 < a) → g3 a = g a := fun a ha => by rw [e4 a (by omega), b4 a (by omega), a3 a (by omega)]
  have f2 : ∀ a, (a < 3 ∨ 6 < a) → (a < 7 ∨ 15 < a) → g2 a = g a := fun a h1 h2 => by rw [b4 a h2, a3 a h1]
  refine r_ret rfl rfl (k _ ⟨fun j h1 h2 => ?_, ?_, fun r i h1 h2 hi => ?_, ⟨?_, ?_⟩, fun r i h1 h2 hi => ?_, ⟨?_, ?_⟩, fun r i h1 h2 hi => ?_⟩ (fun a ha => ?_))
  · have hj : j = 3 ∨ j = 4 ∨ j = 5 ∨ j = 6 ∨ j = 7 ∨ j = 8 ∨ j = 9 := by omega
    rcases hj with rfl | rfl | rfl | rfl | rfl | rfl | rfl <;> (simp only [x_up_app, Nat.reduceAdd, Nat.reduceEqDiff, ↓reduceIte]; rw [f1 104 (by decide)])
  · show _ = g 105 3
    repeat rw [x_up_row (by decide)]
    rw [e4 3 (by decide), b4 3 (by decide), a1]
  · have hr : r = 2 ∨ r = 3 ∨ r = 4 := by omega
    obtain ⟨z1, z2, z3⟩ := a2 i hi
    rcases hr with rfl | rfl | rfl
    · show _ = g 106 i
      repeat rw [x_up_row (by decide)]
      rw [e4 _ (by decide), b4 _ (by decide)]
      exact z1
    · show _ = g 107 i
      repeat rw [x_up_row (by decide)]
      rw [e4 _ (by decide), b4 _ (by decide)]
      exact z2
    · show _ = g 108 i
      repeat rw [x_up_row (by decide)]
      rw [e4 _ (by decide), b4 _ (by decide)]
      exact z3
  · show _ = g 109 8
    repeat rw [x_up_row (by decide)]
    rw [e4 _ (by decide), b1, a3 109 (by decide)]
  · show _ = g 109 9
    repeat rw [x_up_row (by decide)]
    rw [e4 _ (by decide), b2, a3 109 (by decide)]
  · obtain ⟨z1, z2, z3, z4, z5, z6, z7, z8⟩ := b3 i hi
    have hr : r = 6 ∨ r = 7 ∨ r = 8 ∨ r = 9 ∨ r = 10 ∨ r = 11 ∨ r = 12 ∨ r = 13 := by omega
    rcases hr with rfl | rfl | rfl | rfl | rfl | rfl | rfl | rfl
    · show _ = g 110 i
      repeat rw [x_up_row (by decide)]
      rw [e4 _ (by decide)]
      exact z1.trans (by rw [a3 110 (by decide)])
    · show _ = g 111 i
      repeat rw [x_up_row (by decide)]
      rw [e4 _ (by decide)]
      exact z2.trans (by rw [a3 111 (by decide)])
    · show _ = g 112 i
      repeat rw [x_up_row (by decide)]
      rw [e4 _ (by decide)]
      exact z3.trans (by rw [a3 112 (by decide)])
    · show _ = g 113 i
      repeat rw [x_up_row (by decide)]
      rw [e4 _ (by decide)]
      exact z4.trans (by rw [a3 113 (by decide)])
    · show _ = g 114 i
      repeat rw [x_up_row (by decide)]
      rw [e4 _ (by decide)]
      exact z5.trans (by rw [a3 114 (by decide)])
    · show _ = g 115 i
      repeat rw [x_up_row (by decide)]
      rw [e4 _ (by decide)]
      exact z6.trans (by rw [a3 115 (by decide)])
    · show _ = g 116 i
      repeat rw [x_up_row (by decide)]
      rw [e4 _ (by decide)]
      exact z7.trans (by rw [a3 116 (by decide)])
    · show _ = g 117 i
      repeat rw [x_up_row (by decide)]
      rw [e4 _ (by decide)]
      exact z8.trans (by rw [a3 117 (by decide)])
  · show _ = g 118 5
    repeat rw [x_up_row (by decide)]
    rw [e1, f2 118 (by decide) (by decide)]
  · show _ = g 118 6
    repeat rw [x_up_row (by decide)]
    rw [e2, f2 118 (by decide) (by decide)]
  · obtain ⟨z1, z2, z3, z4, z5⟩ := e3 i hi
    have hr : r = 15 ∨ r = 16 ∨ r = 17 ∨ r = 18 ∨ r = 19 := by omega
    rcases hr with rfl | rfl | rfl | rfl | rfl
    · show _ = g 119 i
      repeat rw [x_up_row (by decide)]
      exact z1.trans (by rw [f2 119 (by decide) (by decide)])
    · show _ = g 120 i
      repeat rw [x_up_row (by decide)]
      exact z2.trans (by rw [f2 120 (by decide) (by decide)])
    · show _ = g 121 i
      repeat rw [x_up_row (by decide)]
      exact z3.trans (by rw [f2 121 (by decide) (by decide)])
    · show _ = g 122 i
      repeat rw [x_up_row (by decide)]
      exact z4.trans (by rw [f2 122 (by decide) (by decide)])
    · show _ = g 123 i
      repeat rw [x_up_row (by decide)]
      exact z5.trans (by rw [f2 123 (by decide) (by decide)])
  · simp only [Nat.reduceAdd]
    repeat rw [x_up_row (by omega)]
    exact f1 a (by omega)
