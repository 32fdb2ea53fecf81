/-! ===== text, history, the orders of a game but stop ===== -/
theorem x_in_nat {v : Int32} {a b : Nat} (hb : b < 2 ^ 31) (ha : a < 2 ^ 31) (h1 : nI a ≤ v) (h2 : v ≤ nI b) : ∃ j, v = nI j ∧ a ≤ j ∧ j ≤ b := by
  have h0 : ¬ v < 0 := by
    intro z
    have := Int32.lt_of_le_of_lt h1 z
    exact nI_pos ha this
  obtain ⟨j, hj, rfl⟩ := nI_of h0
  exact ⟨j, rfl, (nI_leI ha hj).mp h1, (nI_leI hj hb).mp h2⟩
set_option maxHeartbeats 4000000 in
theorem c_append (d n : Nat) (v : Int32) (g : xG) (Q : xQ) (hn : g 134 1 = nI n) (h60 : n ≤ 60) (k1 : ¬ (nI 32 ≤ v ∧ v ≤ nI 126) → Q (some (.int (-1000001))) g) (k2 : nI 32 ≤ v → v ≤ nI 126 → n = 60 → Q (some (.int (-1000003))) g) (k3 : nI 32 ≤ v → v ≤ nI 126 → n < 60 → Q (some (.int (nI (n + 1)))) (x_up (x_up g 135 n v) 134 1 (nI (n + 1)))) : Cx (d + 2) i_Text_append [.ref 134, .int v] g Q := by
  refine r_cl (L0 := [some (.ref 134), some (.int v)]) rfl (Or.inr ⟨_, _, _, rfl, rfl⟩) rfl rfl rfl ?_
  refine r_run 400 rfl rfl ?_
  refine r_ins rfl rfl rfl rfl ?_
  refine c_isWithin d v (nI 32) (nI 126) g _ (fun h1 h2 => ?_) (fun h => ?_)
  · refine t_ne1 rfl ?_
    refine r_run 400 rfl rfl ?_
    simp only [x_up_app, x_ce_app, x_ce_same, Nat.reduceAdd, Nat.reduceEqDiff, ↓reduceIte, Nat.reduceSub, Nat.reduceMul, reduceCtorEq, hn]
    refine n_ilt rfl (by omega) (by omega) (fun h => ?_) (fun h => ?_)
    · refine r_run 400 rfl rfl ?_
      simp only [x_up_app, x_ce_app, x_ce_same, Nat.reduceAdd, Nat.reduceEqDiff, ↓reduceIte, Nat.reduceSub, Nat.reduceMul, reduceCtorEq, hn]
      refine r_ast (j := n) rfl rfl (rfl) (by omega) (Nat.le_of_ble_eq_true rfl) ?_
      refine r_run 400 rfl rfl ?_
      simp only [x_up_app, x_ce_app, x_ce_same, Nat.reduceAdd, Nat.reduceEqDiff, ↓reduceIte, Nat.reduceSub, Nat.reduceMul, reduceCtorEq, hn, nI_add]
      exact r_iret rfl rfl (k3 h1 h2 h)
    · refine r_run 400 rfl rfl ?_
      exact r_iret rfl rfl (k2 h1 h2 (by omega))
  · refine t_ne0 rfl ?_
    refine r_run 400 rfl rfl ?_
    exact r_iret rfl rfl (k1 h)
set_option maxHeartbeats 4000000 in
theorem c_clear (d n : Nat) (g : xG) (Q : xQ) (hn : g 134 1 = nI n) (k : Q (some (.int (nI n))) (x_up g 134 1 (nI 0))) : Cx (d + 1) i_Text_clear [.ref 134] g Q := by
  refine r_cl (L0 := [some (.ref 134), none]) rfl (Or.inr ⟨_, _, _, rfl, rfl⟩) rfl rfl rfl ?_
  refine r_run 400 rfl rfl ?_
  simp only [x_up_app, x_ce_app, x_ce_same, Nat.reduceAdd, Nat.reduceEqDiff, ↓reduceIte, Nat.reduceSub, Nat.reduceMul, reduceCtorEq, hn]
  exact r_iret rfl rfl k
set_option maxHeartbeats 4000000 in
theorem c_signAt (d n p : Nat) (g : xG) (Q : xQ) (hn : g 134 1 = nI n) (h60 : n ≤ 60) (hp : p < 1000) (k1 : p < n → Q (some (.int (g 135 p))) g) (k2 : n ≤ p → Q (some (.int (-1))) g) : Cx (d + 1) i_Text_signAt [.ref 134, .int (nI p)] g Q := by
  refine r_cl (L0 := [some (.ref 134), some (.int (nI p))]) rfl (Or.inr ⟨_, _, _, rfl, rfl⟩) rfl rfl rfl ?_
  refine r_run 400 rfl rfl ?_
  refine r_lt0 rfl (fun h => absurd h (nI_pos (by omega))) (fun _ => ?_)
  refine r_run 400 rfl rfl ?_
  simp only [x_up_app, x_ce_app, x_ce_same, Nat.reduceAdd, Nat.reduceEqDiff, ↓reduceIte, Nat.reduceSub, Nat.reduceMul, reduceCtorEq, hn]
  refine n_ige rfl (by omega) (by omega) (fun h => ?_) (fun h => ?_)
  · refine r_run 400 rfl rfl ?_
    exact r_iret rfl rfl (k2 h)
  · refine r_run 400 rfl rfl ?_
    refine r_ald (j := p) rfl rfl (rfl) (by omega) (Nat.le_of_ble_eq_true rfl) ?_
    refine r_run 400 rfl rfl ?_
    exact r_iret rfl rfl (k1 h)
set_option maxHeartbeats 4000000 in
theorem c_prepare (d nx : Nat) (g : xG) (Q : xQ) (hx : g 22 1 = nI nx) (h5 : nx < 5) (k : ∀ g' : xG, x_same g' (24 + 20 * nx) g 2 → (∀ a, (a < 24 + 20 * nx ∨ 24 + 20 * nx + 19 < a) → g' a = g a) → Q none g') : Cx (d + 3) i_History_prepare [.ref 22, .ref 2] g Q := by
  refine r_cl (L0 := [some (.ref 22), some (.ref 2)]) rfl (Or.inr ⟨_, _, _, rfl, rfl⟩) rfl rfl rfl ?_
  refine r_run 400 rfl rfl ?_
  simp only [x_up_app, x_ce_app, x_ce_same, Nat.reduceAdd, Nat.reduceEqDiff, ↓reduceIte, Nat.reduceSub, Nat.reduceMul, reduceCtorEq, hx]
  have h : nx = 0 ∨ nx = 1 ∨ nx = 2 ∨ nx = 3 ∨ nx = 4 := by omega
  rcases h with rfl | rfl | rfl | rfl | rfl
  · refine r_aald (j := 0) rfl rfl rfl rfl (by decide) ?_
    refine r_run 400 rfl rfl ?_
    refine r_inv rfl rfl rfl ?_
    refine c_copyGame_24_2 d g _ (fun g' h1 h2 => ?_)
    exact r_ret rfl rfl (k g' h1 h2)
  · refine r_aald (j := 1) rfl rfl rfl rfl (by decide) ?_
    refine r_run 400 rfl rfl ?_
    refine r_inv rfl rfl rfl ?_
    refine c_copyGame_44_2 d g _ (fun g' h1 h2 => ?_)
    exact r_ret rfl rfl (k g' h1 h2)
  · refine r_aald (j := 2) rfl rfl rfl rfl (by decide) ?_
    refine r_run 400 rfl rfl ?_
    refine r_inv rfl rfl rfl ?_
    refine c_copyGame_64_2 d g _ (fun g' h1 h2 => ?_)
    exact r_ret rfl rfl (k g' h1 h2)
  · refine r_aald (j := 3) rfl rfl rfl rfl (by decide) ?_
    refine r_run 400 rfl rfl ?_
    refine r_inv rfl rfl rfl ?_
    refine c_copyGame_84_2 d g _ (fun g' h1 h2 => ?_)
    exact r_ret rfl rfl (k g' h1 h2)
  · refine r_aald (j := 4) rfl rfl rfl rfl (by decide) ?_
    refine r_run 400 rfl rfl ?_
    refine r_inv rfl rfl rfl ?_
    refine c_copyGame_104_2 d g _ (fun g' h1 h2 => ?_)
    exact r_ret rfl rfl (k g' h1 h2)
set_option maxHeartbeats 4000000 in
theorem c_settle (d nx kp : Nat) (v : Int32) (g : xG) (Q : xQ) (hx : g 22 1 = nI nx) (h5 : nx < 5) (hk : g 22 2 = nI kp) (h4 : kp ≤ 4) (k1 : v < 0 → Q (some (.int v)) g) (k2 : ¬ v < 0 → Q (some (.int v)) (x_up (x_up g 22 1 (nI ((nx + 1) % 5))) 22 2 (nI (min (kp + 1) 4)))) : Cx (d + 2) i_History_settle [.ref 22, .int v] g Q := by
  refine r_cl (L0 := [some (.ref 22), some (.int v)]) rfl (Or.inr ⟨_, _, _, rfl, rfl⟩) rfl rfl rfl ?_
  refine r_run 400 rfl rfl ?_
  refine r_lt0 rfl (fun h => ?_) (fun h => ?_)
  · refine r_run 400 rfl rfl ?_
    exact r_iret rfl rfl (k1 h)
  · refine r_run 400 rfl rfl ?_
    simp only [x_up_app, x_ce_app, x_ce_same, Nat.reduceAdd, Nat.reduceEqDiff, ↓reduceIte, Nat.reduceSub, Nat.reduceMul, reduceCtorEq, hx, nI_add]
    refine n_rem rfl (by omega) (by omega) (by omega) ?_
    refine r_run 400 rfl rfl ?_
    simp only [x_up_app, x_ce_app, x_ce_same, Nat.reduceAdd, Nat.reduceEqDiff, ↓reduceIte, Nat.reduceSub, Nat.reduceMul, reduceCtorEq, hk, nI_add]
    refine r_ins rfl rfl rfl rfl ?_
    refine c_min d (kp + 1) 4 _ _ (by omega) (by omega) ?_
    refine r_run 400 rfl rfl ?_
    exact r_iret rfl rfl (k2 h)
set_option maxHeartbeats 4000000 in
theorem c_goBack (d nx kp : Nat) (g : xG) (Q : xQ) (hx : g 22 1 = nI nx) (h5 : nx < 5) (hk : g 22 2 = nI kp) (h4 : kp ≤ 4) (k1 : kp = 0 → Q (some (.int (-1000002))) g) (k2 : 0 < kp → ∀ g' : xG, x_same g' 2 g (24 + 20 * ((nx + 4) % 5)) → g' 22 1 = nI ((nx + 4) % 5) → g' 22 2 = nI (kp - 1) → (∀ a, a ≠ 22 → (a < 2 ∨ 21 < a) → g' a = g a) → Q (some (.int (nI (kp - 1)))) g') : Cx (d + 3) i_History_goBack [.ref 22, .ref 2] g Q := by
  refine r_cl (L0 := [some (.ref 22), some (.ref 2)]) rfl (Or.inr ⟨_, _, _, rfl, rfl⟩) rfl rfl rfl ?_
  refine r_run 400 rfl rfl ?_
  simp only [x_up_app, x_ce_app, x_ce_same, Nat.reduceAdd, Nat.reduceEqDiff, ↓reduceIte, Nat.reduceSub, Nat.reduceMul, reduceCtorEq, hk]
  refine n_ige rfl (by omega) (by omega) (fun h => ?_) (fun h => ?_)
  · refine r_run 400 rfl rfl ?_
    simp only [x_up_app, x_ce_app, x_ce_same, Nat.reduceAdd, Nat.reduceEqDiff, ↓reduceIte, Nat.reduceSub, Nat.reduceMul, reduceCtorEq, hx, nI_add]
    rw [pk_sub (by omega)]
    refine n_rem rfl (by omega) (by omega) (by omega) ?_
    rw [show nx + 5 - 1 = nx + 4 by omega]
    refine r_run 400 rfl rfl ?_
    simp only [x_up_app, x_ce_app, x_ce_same, Nat.reduceAdd, Nat.reduceEqDiff, ↓reduceIte, Nat.reduceSub, Nat.reduceMul, reduceCtorEq, hk]
    rw [pk_sub (by omega)]
    have hj : (nx + 4) % 5 < 5 := Nat.mod_lt _ (by omega)
    have k2 := k2 (by omega)
    generalize (nx + 4) % 5 = j at hj k2 ⊢
    have h : j = 0 ∨ j = 1 ∨ j = 2 ∨ j = 3 ∨ j = 4 := by omega
    rcases h with rfl | rfl | rfl | rfl | rfl
    · refine r_aald (j := 0) rfl rfl rfl rfl (by decide) ?_
      refine r_inv rfl rfl rfl ?_
      refine c_copyGame_2_24 d _ _ (fun g' h1 h2 => ?_)
      refine r_run 400 rfl rfl ?_
      have e1 := h2 22 (by decide)
      have e2 : g' 22 2 = nI (kp - 1) := by rw [e1]; simp only [x_up_app, Nat.reduceAdd, Nat.reduceEqDiff, ↓reduceIte]
      simp only [x_up_app, x_ce_app, x_ce_same, Nat.reduceAdd, Nat.reduceEqDiff, ↓reduceIte, Nat.reduceSub, Nat.reduceMul, reduceCtorEq, e2]
      refine r_iret rfl rfl (k2 g' ?_ ?_ e2 (fun a ha hb => ?_))
      · obtain ⟨z1, z2, z3, z4, z5, z6, z7⟩ := h1
        refine ⟨fun j a b => ?_, ?_, fun r i a b c => ?_, ⟨?_, ?_⟩, fun r i a b c => ?_, ⟨?_, ?_⟩, fun r i a b c => ?_⟩
        · rw [z1 j a b]; repeat rw [x_up_row (by decide)]
        · rw [z2]; repeat rw [x_up_row (by decide)]
        · rw [z3 r i a b c]; repeat rw [x_up_row (by omega)]
        · rw [z4.1]; repeat rw [x_up_row (by decide)]
        · rw [z4.2]; repeat rw [x_up_row (by decide)]
        · rw [z5 r i a b c]; repeat rw [x_up_row (by omega)]
        · rw [z6.1]; repeat rw [x_up_row (by decide)]
        · rw [z6.2]; repeat rw [x_up_row (by decide)]
        · rw [z7 r i a b c]; repeat rw [x_up_row (by omega)]
      · rw [e1]; simp only [x_up_app, Nat.reduceAdd, Nat.reduceEqDiff, ↓reduceIte]
      · rw [h2 a hb]; repeat rw [x_up_row ha]
    · refine r_aald (j := 1) rfl rfl rfl rfl (by decide) ?_
      refine r_inv rfl rfl rfl ?_
      refine c_copyGame_2_44 d _ _ (fun g' h1 h2 => ?_)
      refine r_run 400 rfl rfl ?_
      have e1 := h2 22 (by decide)
      have e2 : g' 22 2 = nI (kp - 1) := by rw [e1]; simp only [x_up_app, Nat.reduceAdd, Nat.reduceEqDiff, ↓reduceIte]
      simp only [x_up_app, x_ce_app, x_ce_same, Nat.reduceAdd, Nat.reduceEqDiff, ↓reduceIte, Nat.reduceSub, Nat.reduceMul, reduceCtorEq, e2]
      refine r_iret rfl rfl (k2 g' ?_ ?_ e2 (fun a ha hb => ?_))
      · obtain ⟨z1, z2, z3, z4, z5, z6, z7⟩ := h1
        refine ⟨fun j a b => ?_, ?_, fun r i a b c => ?_, ⟨?_, ?_⟩, fun r i a b c => ?_, ⟨?_, ?_⟩, fun r i a b c => ?_⟩
        · rw [z1 j a b]; repeat rw [x_up_row (by decide)]
        · rw [z2]; repeat rw [x_up_row (by decide)]
        · rw [z3 r i a b c]; repeat rw [x_up_row (by omega)]
        · rw [z4.1]; repeat rw [x_up_row (by decide)]
        · rw [z4.2]; repeat rw [x_up_row (by decide)]
        · rw [z5 r i a b c]; repeat rw [x_up_row (by omega)]
        · rw [z6.1]; repeat rw [x_up_row (by decide)]
        · rw [z6.2]; repeat rw [x_up_row (by decide)]
        · rw [z7 r i a b c]; repeat rw [x_up_row (by omega)]
      · rw [e1]; simp only [x_up_app, Nat.reduceAdd, Nat.reduceEqDiff, ↓reduceIte]
      · rw [h2 a hb]; repeat rw [x_up_row ha]
    · refine r_aald (j := 2) rfl rfl rfl rfl (by decide) ?_
      refine r_inv rfl rfl rfl ?_
      refine c_copyGame_2_64 d _ _ (fun g' h1 h2 => ?_)
      refine r_run 400 rfl rfl ?_
      have e1 := h2 22 (by decide)
      have e2 : g' 22 2 = nI (kp - 1) := by rw [e1]; simp only [x_up_app, Nat.reduceAdd, Nat.reduceEqDiff, ↓reduceIte]
      simp only [x_up_app, x_ce_app, x_ce_same, Nat.reduceAdd, Nat.reduceEqDiff, ↓reduceIte, Nat.reduceSub, Nat.reduceMul, reduceCtorEq, e2]
      refine r_iret rfl rfl (k2 g' ?_ ?_ e2 (fun a ha hb => ?_))
      · obtain ⟨z1, z2, z3, z4, z5, z6, z7⟩ := h1
        refine ⟨fun j a b => ?_, ?_, fun r i a b c => ?_, ⟨?_, ?_⟩, fun r i a b c => ?_, ⟨?_, ?_⟩, fun r i a b c => ?_⟩
        · rw [z1 j a b]; repeat rw [x_up_row (by decide)]
        · rw [z2]; repeat rw [x_up_row (by decide)]
        · rw [z3 r i a b c]; repeat rw [x_up_row (by omega)]
        · rw [z4.1]; repeat rw [x_up_row (by decide)]
        · rw [z4.2]; repeat rw [x_up_row (by decide)]
        · rw [z5 r i a b c]; repeat rw [x_up_row (by omega)]
        · rw [z6.1]; repeat rw [x_up_row (by decide)]
        · rw [z6.2]; repeat rw [x_up_row (by decide)]
        · rw [z7 r i a b c]; repeat rw [x_up_row (by omega)]
      · rw [e1]; simp only [x_up_app, Nat.reduceAdd, Nat.reduceEqDiff, ↓reduceIte]
      · rw [h2 a hb]; repeat rw [x_up_row ha]
    · refine r_aald (j := 3) rfl rfl rfl rfl (by decide) ?_
      refine r_inv rfl rfl rfl ?_
      refine c_copyGame_2_84 d _ _ (fun g' h1 h2 => ?_)
      refine r_run 400 rfl rfl ?_
      have e1 := h2 22 (by decide)
      have e2 : g' 22 2 = nI (kp - 1) := by rw [e1]; simp only [x_up_app, Nat.reduceAdd, Nat.reduceEqDiff, ↓reduceIte]
      simp only [x_up_app, x_ce_app, x_ce_same, Nat.reduceAdd, Nat.reduceEqDiff, ↓reduceIte, Nat.reduceSub, Nat.reduceMul, reduceCtorEq, e2]
      refine r_iret rfl rfl (k2 g' ?_ ?_ e2 (fun a ha hb => ?_))
      · obtain ⟨z1, z2, z3, z4, z5, z6, z7⟩ := h1
        refine ⟨fun j a b => ?_, ?_, fun r i a b c => ?_, ⟨?_, ?_⟩, fun r i a b c => ?_, ⟨?_, ?_⟩, fun r i a b c => ?_⟩
        · rw [z1 j a b]; repeat rw [x_up_row (by decide)]
        · rw [z2]; repeat rw [x_up_row (by decide)]
        · rw [z3 r i a b c]; repeat rw [x_up_row (by omega)]
        · rw [z4.1]; repeat rw [x_up_row (by decide)]
        · rw [z4.2]; repeat rw [x_up_row (by decide)]
        · rw [z5 r i a b c]; repeat rw [x_up_row (by omega)]
        · rw [z6.1]; repeat rw [x_up_row (by decide)]
        · rw [z6.2]; repeat rw [x_up_row (by decide)]
        · rw [z7 r i a b c]; repeat rw [x_up_row (by omega)]
      · rw [e1]; simp only [x_up_app, Nat.reduceAdd, Nat.reduceEqDiff, ↓reduceIte]
      · rw [h2 a hb]; repeat rw [x_up_row ha]
    · refine r_aald (j := 4) rfl rfl rfl rfl (by decide) ?_
      refine r_inv rfl rfl rfl ?_
      refine c_copyGame_2_104 d _ _ (fun g' h1 h2 => ?_)
      refine r_run 400 rfl rfl ?_
      have e1 := h2 22 (by decide)
      have e2 : g' 22 2 = nI (kp - 1) := by rw [e1]; simp only [x_up_app, Nat.reduceAdd, Nat.reduceEqDiff, ↓reduceIte]
      simp only [x_up_app, x_ce_app, x_ce_same, Nat.reduceAdd, Nat.reduceEqDiff, ↓reduceIte, Nat.reduceSub, Nat.reduceMul, reduceCtorEq, e2]
      refine r_iret rfl rfl (k2 g' ?_ ?_ e2 (fun a ha hb => ?_))
      · obtain ⟨z1, z2, z3, z4, z5, z6, z7⟩ := h1
        refine ⟨fun j a b => ?_, ?_, fun r i a b c => ?_, ⟨?_, ?_⟩, fun r i a b c => ?_, ⟨?_, ?_⟩, fun r i a b c => ?_⟩
        · rw [z1 j a b]; repeat rw [x_up_row (by decide)]
        · rw [z2]; repeat rw [x_up_row (by decide)]
        · rw [z3 r i a b c]; repeat rw [x_up_row (by omega)]
        · rw [z4.1]; repeat rw [x_up_row (by decide)]
        · rw [z4.2]; repeat rw [x_up_row (by decide)]
        · rw [z5 r i a b c]; repeat rw [x_up_row (by omega)]
        · rw [z6.1]; repeat rw [x_up_row (by decide)]
        · rw [z6.2]; repeat rw [x_up_row (by decide)]
        · rw [z7 r i a b c]; repeat rw [x_up_row (by omega)]
      · rw [e1]; simp only [x_up_app, Nat.reduceAdd, Nat.reduceEqDiff, ↓reduceIte]
      · rw [h2 a hb]; repeat rw [x_up_row ha]
  · refine r_run 400 rfl rfl ?_
    exact r_iret rfl rfl (k1 (by omega))
set_option maxHeartbeats 4000000 in
theorem c_addChair_2 (d n ph : Nat) (t : Int32) (g : xG) (Q : xQ) (hn : g 3 3 = nI n) (h16 : n ≤ 16) (hp : g 2 3 = nI ph) (hp2 : ph ≤ 2) (k1 : ¬ (nI 0 ≤ t ∧ t ≤ nI 8) → Q (some (.int (-1000001))) g) (k2 : nI 0 ≤ t → t ≤ nI 8 → ¬ ph = 0 → Q (some (.int (-1000002))) g) (k3 : nI 0 ≤ t → t ≤ nI 8 → ph = 0 → n = 16 → Q (some (.int (-1000003))) g)
    (k4 : nI 0 ≤ t → t ≤ nI 8 → ph = 0 → n < 16 → Q (some (.int (nI n))) (x_up (x_up (x_up (x_up g 4 n t) 5 n (nI 0)) 6 n (-1)) 3 3 (nI (n + 1)))) : Cx (d + 2) i_Game_addChair [.ref 2, .int t] g Q := by
  refine r_cl (L0 := [some (.ref 2), some (.int t)]) rfl (Or.inr ⟨_, _, _, rfl, rfl⟩) rfl rfl rfl ?_
  refine r_run 400 rfl rfl ?_
  refine r_ins rfl rfl rfl rfl ?_
  refine c_isWithin d t (nI 0) (nI 8) g _ (fun h1 h2 => ?_) (fun h => ?_)
  · refine t_ne1 rfl ?_
    refine r_run 400 rfl rfl ?_
    simp only [x_up_app, x_ce_app, x_ce_same, Nat.reduceAdd, Nat.reduceEqDiff, ↓reduceIte, Nat.reduceSub, Nat.reduceMul, reduceCtorEq, hp]
    refine r_ne0 rfl (fun h => ?_) (fun h => ?_)
    · refine r_run 400 rfl rfl ?_
      exact r_iret rfl rfl (k2 h1 h2 (fun z => h (by rw [z]; rfl)))
    · have hz : ph = 0 := (nI_eq (b := 0) (by omega) (by omega)).mp h
      refine r_run 400 rfl rfl ?_
      refine r_inv rfl rfl rfl ?_
      refine c_Chairs_add_2 d n t g _ hn h16 (fun z => ?_) (fun z => ?_)
      · refine r_run 400 rfl rfl ?_
        exact r_iret rfl rfl (k3 h1 h2 hz z)
      · refine r_run 400 rfl rfl ?_
        exact r_iret rfl rfl (k4 h1 h2 hz z)
  · refine t_ne0 rfl ?_
    refine r_run 400 rfl rfl ?_
    exact r_iret rfl rfl (k1 h)
set_option maxHeartbeats 4000000 in
theorem c_addPlayer_2 (d n ph : Nat) (s e : Int32) (g : xG) (Q : xQ) (hn : g 7 9 = nI n) (h12 : n ≤ 12) (hp : g 2 3 = nI ph) (hp2 : ph ≤ 2) (k1 : ¬ ((nI 0 ≤ s ∧ s ≤ nI 9) ∧ nI 0 ≤ e ∧ e ≤ nI 511) → Q (some (.int (-1000001))) g) (k2 : (nI 0 ≤ s ∧ s ≤ nI 9) → (nI 0 ≤ e ∧ e ≤ nI 511) → ¬ ph = 0 → Q (some (.int (-1000002))) g) (k3 : (nI 0 ≤ s ∧ s ≤ nI 9) → (nI 0 ≤ e ∧ e ≤ nI 511) → ph = 0 → n = 12 → Q (some (.int (-1000003))) g)
    (k4 : (nI 0 ≤ s ∧ s ≤ nI 9) → (nI 0 ≤ e ∧ e ≤ nI 511) → ph = 0 → n < 12 → Q (some (.int (nI n))) (x_up (x_up (x_up (x_up (x_up (x_up (x_up (x_up (x_up (x_up g 8 n s) 9 n e) 10 n (nI 0)) 11 n (nI 0)) 12 n (nI 0)) 13 n (nI 0)) 14 n (nI 0)) 15 n (nI 0)) 7 8 (g 7 8 ||| (nI 1 <<< (nI n &&& 31)))) 7 9 (nI (n + 1)))) : Cx (d + 2) i_Game_addPlayer [.ref 2, .int s, .int e] g Q := by
  refine r_cl (L0 := [some (.ref 2), some (.int s), some (.int e)]) rfl (Or.inr ⟨_, _, _, rfl, rfl⟩) rfl rfl rfl ?_
  refine r_run 400 rfl rfl ?_
  refine r_ins rfl rfl rfl rfl ?_
  refine c_isWithin d s (nI 0) (nI 9) g _ (fun h1 h2 => ?_) (fun h => ?_)
  · refine t_eq1 rfl ?_
    refine r_run 400 rfl rfl ?_
    refine r_ins rfl rfl rfl rfl ?_
    refine c_isWithin d e (nI 0) (nI 511) g _ (fun h3 h4 => ?_) (fun h => ?_)
    · refine t_ne1 rfl ?_
      refine r_run 400 rfl rfl ?_
      simp only [x_up_app, x_ce_app, x_ce_same, Nat.reduceAdd, Nat.reduceEqDiff, ↓reduceIte, Nat.reduceSub, Nat.reduceMul, reduceCtorEq, hp]
      refine r_ne0 rfl (fun h => ?_) (fun h => ?_)
      · refine r_run 400 rfl rfl ?_
        exact r_iret rfl rfl (k2 ⟨h1, h2⟩ ⟨h3, h4⟩ (fun z => h (by rw [z]; rfl)))
      · have hz : ph = 0 := (nI_eq (b := 0) (by omega) (by omega)).mp h
        refine r_run 400 rfl rfl ?_
        refine r_inv rfl rfl rfl ?_
        refine c_Players_add_2 d n s e g _ hn h12 (fun z => ?_) (fun z => ?_)
        · refine r_run 400 rfl rfl ?_
          exact r_iret rfl rfl (k3 ⟨h1, h2⟩ ⟨h3, h4⟩ hz z)
        · refine r_run 400 rfl rfl ?_
          exact r_iret rfl rfl (k4 ⟨h1, h2⟩ ⟨h3, h4⟩ hz z)
    · refine t_ne0 rfl ?_
      refine r_run 400 rfl rfl ?_
      exact r_iret rfl rfl (k1 (fun z => h z.2))
  · refine t_eq0 rfl ?_
    refine r_run 400 rfl rfl ?_
    exact r_iret rfl rfl (k1 (fun z => h z.1))
set_option maxHeartbeats 4000000 in
theorem c_startMusic_2 (d n c m ph : Nat) (g : xG) (Q : xQ) (hn : g 7 9 = nI n) (h12 : n ≤ 12) (hc : g 3 3 = nI c) (h16 : c ≤ 16) (hm : g 7 8 = nI m) (hm2 : m < 4096) (hp : g 2 3 = nI ph) (hp2 : ph ≤ 2) (k1 : ¬ (ph = 0 ∧ 1 ≤ c ∧ c < x_pop m 12) → Q (some (.int (-1000002))) g)
    (k2 : ph = 0 → 1 ≤ c → c < x_pop m 12 → ∀ g' : xG, (∀ i, i < c → g' 6 i = -1) → (∀ p, p < n → x_bit m p → g' 10 p = nI (x_pop m p % c)) → (∀ p, ¬ x_bit m p → g' 10 p = g 10 p) → g' 2 3 = nI 1 → (∀ j, j ≠ 3 → g' 2 j = g 2 j) → (∀ a, a ≠ 2 → a ≠ 6 → a ≠ 10 → g' a = g a) → Q (some (.int (nI (x_pop m 12)))) g') : Cx (d + 3) i_Game_startMusic [.ref 2] g Q := by
  have hpl := x_pop_le m 12
  refine r_cl (L0 := [some (.ref 2), none]) rfl (Or.inr ⟨_, _, _, rfl, rfl⟩) rfl rfl rfl ?_
  refine r_run 400 rfl rfl ?_
  refine r_inv rfl rfl rfl ?_
  refine c_howMany_2 d m g _ hm hm2 ?_
  refine r_run 400 rfl rfl ?_
  simp only [x_up_app, x_ce_app, x_ce_same, Nat.reduceAdd, Nat.reduceEqDiff, ↓reduceIte, Nat.reduceSub, Nat.reduceMul, reduceCtorEq, hp]
  refine r_ne0 rfl (fun h => ?_) (fun h => ?_)
  · refine r_run 400 rfl rfl ?_
    exact r_iret rfl rfl (k1 (fun z => h (by rw [z.1]; rfl)))
  · have hz : ph = 0 := (nI_eq (b := 0) (by omega) (by omega)).mp h
    refine r_run 400 rfl rfl ?_
    simp only [x_up_app, x_ce_app, x_ce_same, Nat.reduceAdd, Nat.reduceEqDiff, ↓reduceIte, Nat.reduceSub, Nat.reduceMul, reduceCtorEq, hc]
    refine n_ilt rfl (by omega) (by omega) (fun h => ?_) (fun h1 => ?_)
    · refine r_run 400 rfl rfl ?_
      exact r_iret rfl rfl (k1 (fun z => by omega))
    · refine r_run 400 rfl rfl ?_
      simp only [x_up_app, x_ce_app, x_ce_same, Nat.reduceAdd, Nat.reduceEqDiff, ↓reduceIte, Nat.reduceSub, Nat.reduceMul, reduceCtorEq, hc]
      refine n_igt rfl (by omega) (by omega) (fun h2 => ?_) (fun h => ?_)
      · refine r_run 400 rfl rfl ?_
        refine r_inv rfl rfl rfl ?_
        refine c_forget_2 (d + 1) c _ _ (by rw [x_up_row (by decide)]; exact hc) h16 (fun g1 a1 a2 => ?_)
        refine r_run 400 rfl rfl ?_
        have f : ∀ a, a ≠ 2 → a ≠ 6 → g1 a = g a := fun a h1 h2 => by rw [a2 a h2, x_up_row h1]
        refine r_inv rfl rfl rfl ?_
        refine c_lineUp_2 d n c m g1 _ (by rw [f 7 (by decide) (by decide)]; exact hn) h12 (by rw [f 3 (by decide) (by decide)]; exact hc) h1 h16 (by rw [f 7 (by decide) (by decide)]; exact hm) (by omega) (fun g2 b1 b0 b2 => ?_)
        refine r_run 400 rfl rfl ?_
        refine r_iret rfl rfl (k2 hz h1 h2 g2 (fun i hi => by rw [b2 6 (by decide)]; exact a1 i hi) b1 (fun p hb => by rw [b0 p hb, f 10 (by decide) (by decide)]) ?_ (fun j hj => ?_) (fun a h1 h2 h3 => by rw [b2 a h3, f a h1 h2]))
        · rw [b2 2 (by decide), a2 2 (by decide)]
          simp only [x_up_app, x_ce_app, x_ce_same, Nat.reduceAdd, Nat.reduceEqDiff, ↓reduceIte, Nat.reduceSub, Nat.reduceMul, reduceCtorEq]
        · rw [b2 2 (by decide), a2 2 (by decide)]
          simp only [x_up_app, x_ce_app, x_ce_same, Nat.reduceAdd, Nat.reduceEqDiff, ↓reduceIte, Nat.reduceSub, Nat.reduceMul, reduceCtorEq, if_neg hj]
      · refine r_run 400 rfl rfl ?_
        exact r_iret rfl rfl (k1 (fun z => by omega))
set_option maxHeartbeats 4000000 in
theorem c_gameWalk_2 (d n c m ph bt : Nat) (b : Int32) (st qp : Nat → Nat) (g : xG) (Q : xQ) (hn : g 7 9 = nI n) (h12 : n ≤ 12) (hc : g 3 3 = nI c) (h16 : c ≤ 16) (hm : g 7 8 = nI m) (hm2 : m < 2 ^ 31) (hp : g 2 3 = nI ph) (hp2 : ph ≤ 2) (hbt : g 2 6 = nI bt) (hbt2 : bt ≤ 999) (hs : ∀ p, p < n → g 8 p = nI (st p) ∧ st p ≤ 9) (hph : ph = 1 → 1 ≤ c ∧ ∀ p, p < n → x_bit m p → g 10 p = nI (qp p) ∧ qp p < 16)
    (k1 : ¬ (nI 1 ≤ b ∧ b ≤ nI 99) → Q (some (.int (-1000001))) g) (k2 : ∀ j, b = nI j → 1 ≤ j → j ≤ 99 → ¬ ph = 1 → Q (some (.int (-1000002))) g) (k3 : ∀ j, b = nI j → 1 ≤ j → j ≤ 99 → ph = 1 → 999 < bt + j → Q (some (.int (-1000003))) g)
    (k4 : ∀ j, b = nI j → 1 ≤ j → j ≤ 99 → ph = 1 → bt + j ≤ 999 → ∀ g' : xG, (∀ p, p < n → x_bit m p → g' 10 p = nI ((qp p + st p * j) % c) ∧ g' 13 p = g 13 p + nI (st p * j)) → (∀ p, p < n → ¬ x_bit m p → g' 10 p = g 10 p ∧ g' 13 p = g 13 p) → g' 2 6 = nI (bt + j) → (∀ z, z ≠ 6 → g' 2 z = g 2 z) → (∀ a, a ≠ 2 → a ≠ 10 → a ≠ 13 → g' a = g a) → Q (some (.int (nI (bt + j)))) g') : Cx (d + 3) i_Game_walk [.ref 2, .int b] g Q := by
  refine r_cl (L0 := [some (.ref 2), some (.int b)]) rfl (Or.inr ⟨_, _, _, rfl, rfl⟩) rfl rfl rfl ?_
  refine r_run 400 rfl rfl ?_
  refine r_ins rfl rfl rfl rfl ?_
  refine c_isWithin (d + 1) b (nI 1) (nI 99) g _ (fun h1 h2 => ?_) (fun h => ?_)
  · obtain ⟨j, rfl, hj1, hj2⟩ := x_in_nat (by omega) (by omega) h1 h2
    refine t_ne1 rfl ?_
    refine r_run 400 rfl rfl ?_
    simp only [x_up_app, x_ce_app, x_ce_same, Nat.reduceAdd, Nat.reduceEqDiff, ↓reduceIte, Nat.reduceSub, Nat.reduceMul, reduceCtorEq, hp]
    refine n_ieq rfl (by omega) (by omega) (fun hz => ?_) (fun hz => ?_)
    · refine r_run 400 rfl rfl ?_
      simp only [x_up_app, x_ce_app, x_ce_same, Nat.reduceAdd, Nat.reduceEqDiff, ↓reduceIte, Nat.reduceSub, Nat.reduceMul, reduceCtorEq, hbt, nI_add]
      refine n_ile rfl (by omega) (by omega) (fun hle => ?_) (fun hlt => ?_)
      · refine r_run 400 rfl rfl ?_
        simp only [x_up_app, x_ce_app, x_ce_same, Nat.reduceAdd, Nat.reduceEqDiff, ↓reduceIte, Nat.reduceSub, Nat.reduceMul, reduceCtorEq, hbt, nI_add]
        obtain ⟨hc1, hq⟩ := hph hz
        refine r_inv rfl rfl rfl ?_
        refine c_walk_2 d n c m j st qp _ _ (by rw [x_up_row (by decide)]; exact hn) h12 (by rw [x_up_row (by decide)]; exact hc) hc1 h16 (by rw [x_up_row (by decide)]; exact hm) hm2 (by omega) (fun p hp => by rw [x_up_row (by decide)]; exact hs p hp) (fun p hp hb => by rw [x_up_row (by decide)]; exact hq p hp hb) (fun g1 a1 a2 a3 => ?_)
        have e6 : g1 2 6 = nI (bt + j) := by
          rw [a3 2 (by decide) (by decide)]
          simp only [x_up_app, x_ce_app, x_ce_same, Nat.reduceAdd, Nat.reduceEqDiff, ↓reduceIte, Nat.reduceSub, Nat.reduceMul, reduceCtorEq]
        refine r_run 400 rfl rfl ?_
        simp only [x_up_app, x_ce_app, x_ce_same, Nat.reduceAdd, Nat.reduceEqDiff, ↓reduceIte, Nat.reduceSub, Nat.reduceMul, reduceCtorEq, e6]
        refine r_iret rfl rfl (k4 j rfl hj1 hj2 hz hle g1 (fun p hp hb => ?_) (fun p hp hb => ?_) e6 (fun z hzz => ?_) (fun a h1 h2 h3 => by rw [a3 a h2 h3, x_up_row h1]))
        · have := a1 p hp hb
          rw [x_up_row (a := 13) (by decide)] at this
          exact this
        · have := a2 p hp hb
          rw [x_up_row (a := 10) (by decide), x_up_row (a := 13) (by decide)] at this
          exact this
        · rw [a3 2 (by decide) (by decide)]
          simp only [x_up_app, x_ce_app, x_ce_same, Nat.reduceAdd, Nat.reduceEqDiff, ↓reduceIte, Nat.reduceSub, Nat.reduceMul, reduceCtorEq, if_neg hzz]
      · refine r_run 400 rfl rfl ?_
        exact r_iret rfl rfl (k3 j rfl hj1 hj2 hz hlt)
    · refine r_run 400 rfl rfl ?_
      exact r_iret rfl rfl (k2 j rfl hj1 hj2 hz)
  · refine t_ne0 rfl ?_
    refine r_run 400 rfl rfl ?_
    exact r_iret rfl rfl (k1 h)
set_option maxHeartbeats 4000000 in
theorem c_addChair_137 (d n ph : Nat) (t : Int32) (g : xG) (Q : xQ) (hn : g 138 3 = nI n) (h16 : n ≤ 16) (hp : g 137 3 = nI ph) (hp2 : ph ≤ 2) (k1 : ¬ (nI 0 ≤ t ∧ t ≤ nI 8) → Q (some (.int (-1000001))) g) (k2 : nI 0 ≤ t → t ≤ nI 8 → ¬ ph = 0 → Q (some (.int (-1000002))) g) (k3 : nI 0 ≤ t → t ≤ nI 8 → ph = 0 → n = 16 → Q (some (.int (-1000003))) g)
    (k4 : nI 0 ≤ t → t ≤ nI 8 → ph = 0 → n < 16 → Q (some (.int (nI n))) (x_up (x_up (x_up (x_up g 139 n t) 140 n (nI 0)) 141 n (-1)) 138 3 (nI (n + 1)))) : Cx (d + 2) i_Game_addChair [.ref 137, .int t] g Q := by
  refine r_cl (L0 := [some (.ref 137), some (.int t)]) rfl (Or.inr ⟨_, _, _, rfl, rfl⟩) rfl rfl rfl ?_
  refine r_run 400 rfl rfl ?_
  refine r_ins rfl rfl rfl rfl ?_
  refine c_isWithin d t (nI 0) (nI 8) g _ (fun h1 h2 => ?_) (fun h => ?_)
  · refine t_ne1 rfl ?_
    refine r_run 400 rfl rfl ?_
    simp only [x_up_app, x_ce_app, x_ce_same, Nat.reduceAdd, Nat.reduceEqDiff, ↓reduceIte, Nat.reduceSub, Nat.reduceMul, reduceCtorEq, hp]
    refine r_ne0 rfl (fun h => ?_) (fun h => ?_)
    · refine r_run 400 rfl rfl ?_
      exact r_iret rfl rfl (k2 h1 h2 (fun z => h (by rw [z]; rfl)))
    · have hz : ph = 0 := (nI_eq (b := 0) (by omega) (by omega)).mp h
      refine r_run 400 rfl rfl ?_
      refine r_inv rfl rfl rfl ?_
      refine c_Chairs_add_137 d n t g _ hn h16 (fun z => ?_) (fun z => ?_)
      · refine r_run 400 rfl rfl ?_
        exact r_iret rfl rfl (k3 h1 h2 hz z)
      · refine r_run 400 rfl rfl ?_
        exact r_iret rfl rfl (k4 h1 h2 hz z)
  · refine t_ne0 rfl ?_
    refine r_run 400 rfl rfl ?_
    exact r_iret rfl rfl (k1 h)
set_option maxHeartbeats 4000000 in
theorem c_addPlayer_137 (d n ph : Nat) (s e : Int32) (g : xG) (Q : xQ) (hn : g 142 9 = nI n) (h12 : n ≤ 12) (hp : g 137 3 = nI ph) (hp2 : ph ≤ 2) (k1 : ¬ ((nI 0 ≤ s ∧ s ≤ nI 9) ∧ nI 0 ≤ e ∧ e ≤ nI 511) → Q (some (.int (-1000001))) g) (k2 : (nI 0 ≤ s ∧ s ≤ nI 9) → (nI 0 ≤ e ∧ e ≤ nI 511) → ¬ ph = 0 → Q (some (.int (-1000002))) g) (k3 : (nI 0 ≤ s ∧ s ≤ nI 9) → (nI 0 ≤ e ∧ e ≤ nI 511) → ph = 0 → n = 12 → Q (some (.int (-1000003))) g)
    (k4 : (nI 0 ≤ s ∧ s ≤ nI 9) → (nI 0 ≤ e ∧ e ≤ nI 511) → ph = 0 → n < 12 → Q (some (.int (nI n))) (x_up (x_up (x_up (x_up (x_up (x_up (x_up (x_up (x_up (x_up g 143 n s) 144 n e) 145 n (nI 0)) 146 n (nI 0)) 147 n (nI 0)) 148 n (nI 0)) 149 n (nI 0)) 150 n (nI 0)) 142 8 (g 142 8 ||| (nI 1 <<< (nI n &&& 31)))) 142 9 (nI (n + 1)))) : Cx (d + 2) i_Game_addPlayer [.ref 137, .int s, .int e] g Q := by
  refine r_cl (L0 := [some (.ref 137), some (.int s), some (.int e)]) rfl (Or.inr ⟨_, _, _, rfl, rfl⟩) rfl rfl rfl ?_
  refine r_run 400 rfl rfl ?_
  refine r_ins rfl rfl rfl rfl ?_
  refine c_isWithin d s (nI 0) (nI 9) g _ (fun h1 h2 => ?_) (fun h => ?_)
  · refine t_eq1 rfl ?_
    refine r_run 400 rfl rfl ?_
    refine r_ins rfl rfl rfl rfl ?_
    refine c_isWithin d e (nI 0) (nI 511) g _ (fun h3 h4 => ?_) (fun h => ?_)
    · refine t_ne1 rfl ?_
      refine r_run 400 rfl rfl ?_
      simp only [x_up_app, x_ce_app, x_ce_same, Nat.reduceAdd, Nat.reduceEqDiff, ↓reduceIte, Nat.reduceSub, Nat.reduceMul, reduceCtorEq, hp]
      refine r_ne0 rfl (fun h => ?_) (fun h => ?_)
      · refine r_run 400 rfl rfl ?_
        exact r_iret rfl rfl (k2 ⟨h1, h2⟩ ⟨h3, h4⟩ (fun z => h (by rw [z]; rfl)))
      · have hz : ph = 0 := (nI_eq (b := 0) (by omega) (by omega)).mp h
        refine r_run 400 rfl rfl ?_
        refine r_inv rfl rfl rfl ?_
        refine c_Players_add_137 d n s e g _ hn h12 (fun z => ?_) (fun z => ?_)
        · refine r_run 400 rfl rfl ?_
          exact r_iret rfl rfl (k3 ⟨h1, h2⟩ ⟨h3, h4⟩ hz z)
        · refine r_run 400 rfl rfl ?_
          exact r_iret rfl rfl (k4 ⟨h1, h2⟩ ⟨h3, h4⟩ hz z)
    · refine t_ne0 rfl ?_
      refine r_run 400 rfl rfl ?_
      exact r_iret rfl rfl (k1 (fun z => h z.2))
  · refine t_eq0 rfl ?_
    refine r_run 400 rfl rfl ?_
    exact r_iret rfl rfl (k1 (fun z => h z.1))
set_option maxHeartbeats 4000000 in
theorem c_startMusic_137 (d n c m ph : Nat) (g : xG) (Q : xQ) (hn : g 142 9 = nI n) (h12 : n ≤ 12) (hc : g 138 3 = nI c) (h16 : c ≤ 16) (hm : g 142 8 = nI m) (hm2 : m < 4096) (hp : g 137 3 = nI ph) (hp2 : ph ≤ 2) (k1 : ¬ (ph = 0 ∧ 1 ≤ c ∧ c < x_pop m 12) → Q (some (.int (-1000002))) g)
    (k2 : ph = 0 → 1 ≤ c → c < x_pop m 12 → ∀ g' : xG, (∀ i, i < c → g' 141 i = -1) → (∀ p, p < n → x_bit m p → g' 145 p = nI (x_pop m p % c)) → (∀ p, ¬ x_bit m p → g' 145 p = g 145 p) → g' 137 3 = nI 1 → (∀ j, j ≠ 3 → g' 137 j = g 137 j) → (∀ a, a ≠ 137 → a ≠ 141 → a ≠ 145 → g' a = g a) → Q (some (.int (nI (x_pop m 12)))) g') : Cx (d + 3) i_Game_startMusic [.ref 137] g Q := by
  have hpl := x_pop_le m 12
  refine r_cl (L0 := [some (.ref 137), none]) rfl (Or.inr ⟨_, _, _, rfl, rfl⟩) rfl rfl rfl ?_
  refine r_run 400 rfl rfl ?_
  refine r_inv rfl rfl rfl ?_
  refine c_howMany_137 d m g _ hm hm2 ?_
  refine r_run 400 rfl rfl ?_
  simp only [x_up_app, x_ce_app, x_ce_same, Nat.reduceAdd, Nat.reduceEqDiff, ↓reduceIte, Nat.reduceSub, Nat.reduceMul, reduceCtorEq, hp]
  refine r_ne0 rfl (fun h => ?_) (fun h => ?_)
  · refine r_run 400 rfl rfl ?_
    exact r_iret rfl rfl (k1 (fun z => h (by rw [z.1]; rfl)))
  · have hz : ph = 0 := (nI_eq (b := 0) (by omega) (by omega)).mp h
    refine r_run 400 rfl rfl ?_
    simp only [x_up_app, x_ce_app, x_ce_same, Nat.reduceAdd, Nat.reduceEqDiff, ↓reduceIte, Nat.reduceSub, Nat.reduceMul, reduceCtorEq, hc]
    refine n_ilt rfl (by omega) (by omega) (fun h => ?_) (fun h1 => ?_)
    · refine r_run 400 rfl rfl ?_
      exact r_iret rfl rfl (k1 (fun z => by omega))
    · refine r_run 400 rfl rfl ?_
      simp only [x_up_app, x_ce_app, x_ce_same, Nat.reduceAdd, Nat.reduceEqDiff, ↓reduceIte, Nat.reduceSub, Nat.reduceMul, reduceCtorEq, hc]
      refine n_igt rfl (by omega) (by omega) (fun h2 => ?_) (fun h => ?_)
      · refine r_run 400 rfl rfl ?_
        refine r_inv rfl rfl rfl ?_
        refine c_forget_137 (d + 1) c _ _ (by rw [x_up_row (by decide)]; exact hc) h16 (fun g1 a1 a2 => ?_)
        refine r_run 400 rfl rfl ?_
        have f : ∀ a, a ≠ 137 → a ≠ 141 → g1 a = g a := fun a h1 h2 => by rw [a2 a h2, x_up_row h1]
        refine r_inv rfl rfl rfl ?_
        refine c_lineUp_137 d n c m g1 _ (by rw [f 142 (by decide) (by decide)]; exact hn) h12 (by rw [f 138 (by decide) (by decide)]; exact hc) h1 h16 (by rw [f 142 (by decide) (by decide)]; exact hm) (by omega) (fun g2 b1 b0 b2 => ?_)
        refine r_run 400 rfl rfl ?_
        refine r_iret rfl rfl (k2 hz h1 h2 g2 (fun i hi => by rw [b2 141 (by decide)]; exact a1 i hi) b1 (fun p hb => by rw [b0 p hb, f 145 (by decide) (by decide)]) ?_ (fun j hj => ?_) (fun a h1 h2 h3 => by rw [b2 a h3, f a h1 h2]))
        · rw [b2 137 (by decide), a2 137 (by decide)]
          simp only [x_up_app, x_ce_app, x_ce_same, Nat.reduceAdd, Nat.reduceEqDiff, ↓reduceIte, Nat.reduceSub, Nat.reduceMul, reduceCtorEq]
        · rw [b2 137 (by decide), a2 137 (by decide)]
          simp only [x_up_app, x_ce_app, x_ce_same, Nat.reduceAdd, Nat.reduceEqDiff, ↓reduceIte, Nat.reduceSub, Nat.reduceMul, reduceCtorEq, if_neg hj]
      · refine r_run 400 rfl rfl ?_
        exact r_iret rfl rfl (k1 (fun z => by omega))
set_option maxHeartbeats 4000000 in
theorem c_gameWalk_137 (d n c m ph bt : Nat) (b : Int32) (st qp : Nat → Nat) (g : xG) (Q : xQ) (hn : g 142 9 = nI n) (h12 : n ≤ 12) (hc : g 138 3 = nI c) (h16 : c ≤ 16) (hm : g 142 8 = nI m) (hm2 : m < 2 ^ 31) (hp : g 137 3 = nI ph) (hp2 : ph ≤ 2) (hbt : g 137 6 = nI bt) (hbt2 : bt ≤ 999) (hs : ∀ p, p < n → g 143 p = nI (st p) ∧ st p ≤ 9) (hph : ph = 1 → 1 ≤ c ∧ ∀ p, p < n → x_bit m p → g 145 p = nI (qp p) ∧ qp p < 16)
    (k1 : ¬ (nI 1 ≤ b ∧ b ≤ nI 99) → Q (some (.int (-1000001))) g) (k2 : ∀ j, b = nI j → 1 ≤ j → j ≤ 99 → ¬ ph = 1 → Q (some (.int (-1000002))) g) (k3 : ∀ j, b = nI j → 1 ≤ j → j ≤ 99 → ph = 1 → 999 < bt + j → Q (some (.int (-1000003))) g)
    (k4 : ∀ j, b = nI j → 1 ≤ j → j ≤ 99 → ph = 1 → bt + j ≤ 999 → ∀ g' : xG, (∀ p, p < n → x_bit m p → g' 145 p = nI ((qp p + st p * j) % c) ∧ g' 148 p = g 148 p + nI (st p * j)) → (∀ p, p < n → ¬ x_bit m p → g' 145 p = g 145 p ∧ g' 148 p = g 148 p) → g' 137 6 = nI (bt + j) → (∀ z, z ≠ 6 → g' 137 z = g 137 z) → (∀ a, a ≠ 137 → a ≠ 145 → a ≠ 148 → g' a = g a) → Q (some (.int (nI (bt + j)))) g') : Cx (d + 3) i_Game_walk [.ref 137, .int b] g Q := by
  refine r_cl (L0 := [some (.ref 137), some (.int b)]) rfl (Or.inr ⟨_, _, _, rfl, rfl⟩) rfl rfl rfl ?_
  refine r_run 400 rfl rfl ?_
  refine r_ins rfl rfl rfl rfl ?_
  refine c_isWithin (d + 1) b (nI 1) (nI 99) g _ (fun h1 h2 => ?_) (fun h => ?_)
  · obtain ⟨j, rfl, hj1, hj2⟩ := x_in_nat (by omega) (by omega) h1 h2
    refine t_ne1 rfl ?_
    refine r_run 400 rfl rfl ?_
    simp only [x_up_app, x_ce_app, x_ce_same, Nat.reduceAdd, Nat.reduceEqDiff, ↓reduceIte, Nat.reduceSub, Nat.reduceMul, reduceCtorEq, hp]
    refine n_ieq rfl (by omega) (by omega) (fun hz => ?_) (fun hz => ?_)
    · refine r_run 400 rfl rfl ?_
      simp only [x_up_app, x_ce_app, x_ce_same, Nat.reduceAdd, Nat.reduceEqDiff, ↓reduceIte, Nat.reduceSub, Nat.reduceMul, reduceCtorEq, hbt, nI_add]
      refine n_ile rfl (by omega) (by omega) (fun hle => ?_) (fun hlt => ?_)
      · refine r_run 400 rfl rfl ?_
        simp only [x_up_app, x_ce_app, x_ce_same, Nat.reduceAdd, Nat.reduceEqDiff, ↓reduceIte, Nat.reduceSub, Nat.reduceMul, reduceCtorEq, hbt, nI_add]
        obtain ⟨hc1, hq⟩ := hph hz
        refine r_inv rfl rfl rfl ?_
        refine c_walk_137 d n c m j st qp _ _ (by rw [x_up_row (by decide)]; exact hn) h12 (by rw [x_up_row (by decide)]; exact hc) hc1 h16 (by rw [x_up_row (by decide)]; exact hm) hm2 (by omega) (fun p hp => by rw [x_up_row (by decide)]; exact hs p hp) (fun p hp hb => by rw [x_up_row (by decide)]; exact hq p hp hb) (fun g1 a1 a2 a3 => ?_)
        have e6 : g1 137 6 = nI (bt + j) := by
          rw [a3 137 (by decide) (by decide)]
          simp only [x_up_app, x_ce_app, x_ce_same, Nat.reduceAdd, Nat.reduceEqDiff, ↓reduceIte, Nat.reduceSub, Nat.reduceMul, reduceCtorEq]
        refine r_run 400 rfl rfl ?_
        simp only [x_up_app, x_ce_app, x_ce_same, Nat.reduceAdd, Nat.reduceEqDiff, ↓reduceIte, Nat.reduceSub, Nat.reduceMul, reduceCtorEq, e6]
        refine r_iret rfl rfl (k4 j rfl hj1 hj2 hz hle g1 (fun p hp hb => ?_) (fun p hp hb => ?_) e6 (fun z hzz => ?_) (fun a h1 h2 h3 => by rw [a3 a h2 h3, x_up_row h1]))
        · have := a1 p hp hb
          rw [x_up_row (a := 148) (by decide)] at this
          exact this
        · have := a2 p hp hb
          rw [x_up_row (a := 145) (by decide), x_up_row (a := 148) (by decide)] at this
          exact this
        · rw [a3 137 (by decide) (by decide)]
          simp only [x_up_app, x_ce_app, x_ce_same, Nat.reduceAdd, Nat.reduceEqDiff, ↓reduceIte, Nat.reduceSub, Nat.reduceMul, reduceCtorEq, if_neg hzz]
      · refine r_run 400 rfl rfl ?_
        exact r_iret rfl rfl (k3 j rfl hj1 hj2 hz hlt)
    · refine r_run 400 rfl rfl ?_
      exact r_iret rfl rfl (k2 j rfl hj1 hj2 hz)
  · refine t_ne0 rfl ?_
    refine r_run 400 rfl rfl ?_
    exact r_iret rfl rfl (k1 h)
set_option maxHeartbeats 4000000 in
theorem c_retune (d n : Nat) (p t : Int32) (g : xG) (Q : xQ) (hn : g 3 3 = nI n) (h16 : n ≤ 16) (k1 : ¬ ((∃ c, c < n ∧ p = nI c) ∧ nI 0 ≤ t ∧ t ≤ nI 8) → Q (some (.int (-1000001))) g) (k2 : ∀ c, c < n → p = nI c → nI 0 ≤ t → t ≤ nI 8 → Q (some (.int (g 4 c))) (x_up g 4 c t)) : Cx (d + 2) i_Game_retune [.ref 2, .int p, .int t] g Q := by
  refine r_cl (L0 := [some (.ref 2), some (.int p), some (.int t), none]) rfl (Or.inr ⟨_, _, _, rfl, rfl⟩) rfl rfl rfl ?_
  refine r_run 400 rfl rfl ?_
  refine r_inv rfl rfl rfl ?_
  refine c_Chairs_has_2 d p g _ hn h16 (fun c hc hp => ?_) (fun h => ?_)
  · subst hp
    refine t_eq1 rfl ?_
    refine r_run 400 rfl rfl ?_
    refine r_ins rfl rfl rfl rfl ?_
    refine c_isWithin d t (nI 0) (nI 8) g _ (fun h1 h2 => ?_) (fun h => ?_)
    · refine t_ne1 rfl ?_
      refine r_run 400 rfl rfl ?_
      refine r_ald (j := c) rfl rfl (rfl) (by omega) (Nat.le_of_ble_eq_true rfl) ?_
      refine r_run 400 rfl rfl ?_
      refine r_ast (j := c) rfl rfl (rfl) (by omega) (Nat.le_of_ble_eq_true rfl) ?_
      refine r_run 400 rfl rfl ?_
      exact r_iret rfl rfl (k2 c hc rfl h1 h2)
    · refine t_ne0 rfl ?_
      refine r_run 400 rfl rfl ?_
      exact r_iret rfl rfl (k1 (fun z => h z.2))
  · refine t_eq0 rfl ?_
    refine r_run 400 rfl rfl ?_
    exact r_iret rfl rfl (k1 (fun ⟨⟨c, h1, h2⟩, _⟩ => h c h1 h2))
set_option maxHeartbeats 4000000 in
theorem c_retrain (d n : Nat) (p s e : Int32) (g : xG) (Q : xQ) (hn : g 7 9 = nI n) (h12 : n ≤ 12) (k1 : ¬ ((∃ c, c < n ∧ p = nI c) ∧ (nI 0 ≤ s ∧ s ≤ nI 9) ∧ nI 0 ≤ e ∧ e ≤ nI 511) → Q (some (.int (-1000001))) g) (k2 : ∀ c, c < n → p = nI c → (nI 0 ≤ s ∧ s ≤ nI 9) → (nI 0 ≤ e ∧ e ≤ nI 511) → Q (some (.int (g 9 c))) (x_up (x_up g 8 c s) 9 c e)) : Cx (d + 2) i_Game_retrain [.ref 2, .int p, .int s, .int e] g Q := by
  refine r_cl (L0 := [some (.ref 2), some (.int p), some (.int s), some (.int e), none]) rfl (Or.inr ⟨_, _, _, rfl, rfl⟩) rfl rfl rfl ?_
  refine r_run 400 rfl rfl ?_
  refine r_inv rfl rfl rfl ?_
  refine c_Players_has_2 d p g _ hn h12 (fun c hc hp => ?_) (fun h => ?_)
  · subst hp
    refine t_eq1 rfl ?_
    refine r_run 400 rfl rfl ?_
    refine r_ins rfl rfl rfl rfl ?_
    refine c_isWithin d s (nI 0) (nI 9) g _ (fun h1 h2 => ?_) (fun h => ?_)
    · refine t_eq1 rfl ?_
      refine r_run 400 rfl rfl ?_
      refine r_ins rfl rfl rfl rfl ?_
      refine c_isWithin d e (nI 0) (nI 511) g _ (fun h3 h4 => ?_) (fun h => ?_)
      · refine t_ne1 rfl ?_
        refine r_run 400 rfl rfl ?_
        refine r_ald (j := c) rfl rfl (rfl) (by omega) (Nat.le_of_ble_eq_true rfl) ?_
        refine r_run 400 rfl rfl ?_
        refine r_ast (j := c) rfl rfl (rfl) (by omega) (Nat.le_of_ble_eq_true rfl) ?_
        refine r_run 400 rfl rfl ?_
        refine r_ast (j := c) rfl rfl (rfl) (by omega) (Nat.le_of_ble_eq_true rfl) ?_
        refine r_run 400 rfl rfl ?_
        exact r_iret rfl rfl (k2 c hc rfl ⟨h1, h2⟩ ⟨h3, h4⟩)
      · refine t_ne0 rfl ?_
        refine r_run 400 rfl rfl ?_
        exact r_iret rfl rfl (k1 (fun z => h z.2.2))
    · refine t_eq0 rfl ?_
      refine r_run 400 rfl rfl ?_
      exact r_iret rfl rfl (k1 (fun z => h z.2.1))
  · refine t_eq0 rfl ?_
    refine r_run 400 rfl rfl ?_
    exact r_iret rfl rfl (k1 (fun ⟨⟨c, h1, h2⟩, _⟩ => h c h1 h2))
set_option maxHeartbeats 4000000 in
theorem c_choose (d : Nat) (w v : Int32) (g : xG) (Q : xQ) (k1 : ¬ (w = 0 ∧ nI 1 ≤ v ∧ v ≤ nI 3) → Q (some (.int (-1000001))) g) (k2 : w = 0 → nI 1 ≤ v → v ≤ nI 3 → Q (some (.int (g 2 4))) (x_up g 2 4 v)) : Cx (d + 2) i_Game_choose [.ref 2, .int w, .int v] g Q := by
  refine r_cl (L0 := [some (.ref 2), some (.int w), some (.int v), none]) rfl (Or.inr ⟨_, _, _, rfl, rfl⟩) rfl rfl rfl ?_
  refine r_run 400 rfl rfl ?_
  refine r_ne0 rfl (fun h => ?_) (fun h => ?_)
  · refine r_run 400 rfl rfl ?_
    exact r_iret rfl rfl (k1 (fun z => h z.1))
  · refine r_run 400 rfl rfl ?_
    refine r_ins rfl rfl rfl rfl ?_
    refine c_isWithin d v (nI 1) (nI 3) g _ (fun h1 h2 => ?_) (fun h => ?_)
    · refine t_ne1 rfl ?_
      refine r_run 400 rfl rfl ?_
      exact r_iret rfl rfl (k2 h h1 h2)
    · refine t_ne0 rfl ?_
      refine r_run 400 rfl rfl ?_
      exact r_iret rfl rfl (k1 (fun z => h z.2))
