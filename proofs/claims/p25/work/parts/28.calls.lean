/-! ===== the class's calls, of whole states ===== -/
/-- the game, how many states are kept, those; the text's length, its characters -/
abbrev xT : Type := xV × Nat × (Nat → xV) × Nat × (Nat → Nat)
def tV (T : xT) : xV := T.1
def tK (T : xT) : Nat := T.2.1
def tH (T : xT) : Nat → xV := T.2.2.1
def tL (T : xT) : Nat := T.2.2.2.1
def tX (T : xT) : Nat → Nat := T.2.2.2.2
def tOk (T : xT) : Prop := vOk (tV T) ∧ tK T ≤ 4 ∧ (∀ a, a < tK T → vOk (tH T a)) ∧ tL T ≤ 60 ∧ ∀ i, i < tL T → 32 ≤ tX T i ∧ tX T i ≤ 126
def SGn (g : xG) (T : xT) (nx : Nat) : Prop := CG g 2 (tV T) ∧ (g 22 1 = nI nx ∧ nx < 5 ∧ g 22 2 = nI (tK T)) ∧ (∀ a, a < tK T → CG g (24 + 20 * ((nx + 4 - a) % 5)) (tH T a)) ∧ (g 134 1 = nI (tL T) ∧ ∀ i, i < tL T → g 135 i = nI (tX T i))
def SG (g : xG) (T : xT) : Prop := ∃ nx, SGn g T nx
theorem SG_TG {g : xG} {T : xT} {nx : Nat} (h : SGn g T nx) (hk : tOk T) : TG g (tL T) (tX T) := ⟨h.2.2.2.1, hk.2.2.2.1, fun i hi => ⟨h.2.2.2.2 i hi, hk.2.2.2.2 i hi⟩⟩
/-- a state kept -/
def tPush (V : xV) (H : Nat → xV) (a : Nat) : xV := if a = 0 then V else H (a - 1)
def pCh (T : xT) (e : Int32) (V' : xV) : xT := if e < 0 then T else (V', min (tK T + 1) 4, tPush (tV T) (tH T), tL T, tX T)
def aCh (e : Int32) (x : Nat) : Int32 := if e < 0 then e else nI x
theorem tOk_ch {T : xT} {e : Int32} {V' : xV} (h : tOk T) (hV : ¬ e < 0 → vOk V') : tOk (pCh T e V') := by
  unfold pCh
  split
  · exact h
  · rename_i he
    obtain ⟨h1, h2, h3, h4⟩ := h
    refine ⟨hV he, Nat.min_le_right _ _, fun a ha => ?_, h4⟩
    have ha : a < min (tK T + 1) 4 := ha
    show vOk (if a = 0 then tV T else tH T (a - 1))
    split
    · exact h1
    · exact h3 (a - 1) (by omega)
theorem SGn_row {g g' : xG} {T : xT} {nx : Nat} (h : SGn g T nx) (e : ∀ a, (2 ≤ a ∧ a < 124) ∨ a = 134 ∨ a = 135 → g' a = g a) : SGn g' T nx := by
  obtain ⟨h1, h2, h3, h4⟩ := h
  refine ⟨CG_row h1 (fun a _ _ => e a (by omega)), ?_, fun a ha => CG_row (h3 a ha) (fun b _ _ => e b (by have := Nat.mod_lt (nx + 4 - a) (show 0 < 5 by omega); omega)), ?_⟩
  · rw [e 22 (by omega)]
    exact h2
  · rw [e 134 (by omega), e 135 (by omega)]
    exact h4
set_option maxHeartbeats 4000000 in
theorem s_prepare (d nx : Nat) (T : xT) (g : xG) (Q : xQ) (h : SGn g T nx) (hk : tOk T) (k : ∀ g' : xG, SGn g' T nx → CG g' (24 + 20 * nx) (tV T) → (∀ a, (a < 24 ∨ 123 < a) → g' a = g a) → Q none g') : Cx (d + 3) i_History_prepare [.ref 22, .ref 2] g Q := by
  obtain ⟨h1, ⟨h2, h2b, h2c⟩, h3, h4⟩ := h
  refine c_prepare d nx g Q h2 h2b (fun g' a1 a2 => k g' ⟨CG_row h1 (fun a _ _ => a2 a (by omega)), ?_, fun a ha => CG_row (h3 a ha) (fun b hb1 hb2 => a2 b ?_), ?_⟩ (CG_same h1 hk.1 a1) (fun a ha => a2 a (by omega)))
  · rw [a2 22 (by omega)]
    exact ⟨h2, h2b, h2c⟩
  · have := hk.2.1
    omega
  · rw [a2 134 (by omega), a2 135 (by omega)]
    exact h4
set_option maxHeartbeats 4000000 in
theorem s_settle (d nx : Nat) (T : xT) (V' : xV) (e : Int32) (x : Nat) (g : xG) (Q : xQ) (hV : CG g 2 (if e < 0 then tV T else V')) (h2 : g 22 1 = nI nx ∧ nx < 5 ∧ g 22 2 = nI (tK T)) (h3 : ∀ a, a < tK T → CG g (24 + 20 * ((nx + 4 - a) % 5)) (tH T a)) (h4 : g 134 1 = nI (tL T) ∧ ∀ i, i < tL T → g 135 i = nI (tX T i)) (hp : CG g (24 + 20 * nx) (tV T)) (hk : tOk T) (hx : x < 65536) (k : ∀ g' : xG, SG g' (pCh T e V') → (∀ a, a ≠ 22 → g' a = g a) → Q (some (.int (aCh e x))) g') : Cx (d + 2) i_History_settle [.ref 22, .int (aCh e x)] g Q := by
  unfold pCh aCh at k
  unfold aCh
  have hk4 := hk.2.1
  refine c_settle d nx (tK T) _ g Q h2.1 h2.2.1 h2.2.2 hk4 (fun z => ?_) (fun z => ?_)
  · by_cases he : e < 0
    · rw [if_pos he] at hV k
      rw [if_pos he] at k ⊢
      exact k g ⟨nx, hV, h2, h3, h4⟩ (fun _ _ => rfl)
    · rw [if_neg he] at z
      exact absurd z (nI_pos (by omega))
  · by_cases he : e < 0
    · rw [if_pos he] at z
      exact absurd he z
    · rw [if_neg he] at hV k
      rw [if_neg he] at k ⊢
      refine k _ ⟨(nx + 1) % 5, CG_row hV (fun a _ _ => ?_), ⟨?_, Nat.mod_lt _ (by omega), ?_⟩, fun a ha => ?_, ?_⟩ (fun a ha => ?_)
      · rw [x_up_row (by omega), x_up_row (by omega)]
      · simp only [x_up_app, x_ce_app, x_ce_same, Nat.reduceAdd, Nat.reduceEqDiff, ↓reduceIte, Nat.reduceSub, Nat.reduceMul, reduceCtorEq]
      · simp only [x_up_app, x_ce_app, x_ce_same, Nat.reduceAdd, Nat.reduceEqDiff, ↓reduceIte, Nat.reduceSub, Nat.reduceMul, reduceCtorEq]
        rfl
      · have ha : a < min (tK T + 1) 4 := ha
        have hrow : ∀ B V, 24 ≤ B → CG g B V → CG (x_up (x_up g 22 1 (nI ((nx + 1) % 5))) 22 2 (nI (min (tK T + 1) 4))) B V := fun B V hB h => CG_row h (fun a _ _ => by rw [x_up_row (by omega), x_up_row (by omega)])
        show CG _ _ (if a = 0 then tV T else tH T (a - 1))
        by_cases ea : a = 0
        · rw [if_pos ea]
          have e1 : ((nx + 1) % 5 + 4 - a) % 5 = nx := by omega
          rw [e1]
          exact hrow _ _ (by omega) hp
        · rw [if_neg ea]
          have e1 : ((nx + 1) % 5 + 4 - a) % 5 = (nx + 4 - (a - 1)) % 5 := by omega
          rw [e1]
          exact hrow _ _ (by omega) (h3 (a - 1) (by omega))
      · rw [x_up_row (by decide), x_up_row (by decide), x_up_row (by decide), x_up_row (by decide)]
        exact h4
      · rw [x_up_row ha, x_up_row ha]
/-- behind the change, the state prepared -/
theorem s_behind {g g' : xG} {T : xT} {nx : Nat} (h : SGn g T nx) (hp : CG g (24 + 20 * nx) (tV T)) (e : ∀ a, ((a < 2 ∨ 21 < a) ∧ (a < 124 ∨ 133 < a)) → g' a = g a) : (g' 22 1 = nI nx ∧ nx < 5 ∧ g' 22 2 = nI (tK T)) ∧ (∀ a, a < tK T → CG g' (24 + 20 * ((nx + 4 - a) % 5)) (tH T a)) ∧ (g' 134 1 = nI (tL T) ∧ ∀ i, i < tL T → g' 135 i = nI (tX T i)) ∧ CG g' (24 + 20 * nx) (tV T) := by
  obtain ⟨h1, h2, h3, h4⟩ := h
  have hn := h2.2.1
  refine ⟨?_, fun a ha => CG_row (h3 a ha) (fun b _ _ => e b (by have := Nat.mod_lt (nx + 4 - a) (show 0 < 5 by omega); omega)), ?_, CG_row hp (fun b _ _ => e b (by omega))⟩
  · rw [e 22 (by omega)]
    exact h2
  · rw [e 134 (by omega), e 135 (by omega)]
    exact h4
set_option maxHeartbeats 4000000 in
theorem s_chair (d : Nat) (T : xT) (t : Int32) (g : xG) (Q : xQ) (h : SG g T) (hk : tOk T) (k : ∀ g' : xG, SG g' (pCh T (eChair (tV T) t) (vChair (tV T) (iN t))) → (∀ a, 157 ≤ a → g' a = g a) → Q (some (.int (aCh (eChair (tV T) t) (vc (tV T))))) g') : Cx (d + 5) i_Bc_chair [.ref 1, .int t] g Q := by
  obtain ⟨nx, h⟩ := h
  have hvk := hk.1
  obtain ⟨⟨v1, v2, v3, v4, v5, v6⟩, -, -, vt8, -, vpl, -⟩ := id hvk
  refine r_cl (L0 := [some (.ref 1), some (.int t)]) rfl (Or.inr ⟨_, _, _, rfl, rfl⟩) rfl rfl rfl ?_
  refine r_run 400 rfl rfl ?_
  refine r_inv rfl rfl rfl ?_
  refine s_prepare (d + 1) nx T g _ h hk (fun g1 a1 a2 a3 => ?_)
  refine r_run 400 rfl rfl ?_
  refine r_inv rfl rfl rfl ?_
  refine c_vChair_2 (d + 2) (tV T) t g1 _ a1.1 hvk (fun z => ?_) (fun z g2 b1 b2 => ?_)
  · refine r_run 400 rfl rfl ?_
    refine r_inv rfl rfl rfl ?_
    have hb := s_behind (g' := g1) a1 a2 (fun _ _ => rfl)
    have ha : eChair (tV T) t = aCh (eChair (tV T) t) 0 := (if_pos z).symm
    rw [ha]
    refine s_settle (d + 2) nx T (vChair (tV T) (iN t)) (eChair (tV T) t) 0 g1 _ (by rw [if_pos z]; exact a1.1) hb.1 hb.2.1 hb.2.2.1 hb.2.2.2 hk (by omega) (fun g3 c1 c2 => ?_)
    have e2 : aCh (eChair (tV T) t) 0 = aCh (eChair (tV T) t) (vc (tV T)) := by unfold aCh; rw [if_pos z, if_pos z]
    rw [e2]
    refine r_iret rfl rfl (k g3 c1 (fun a ha => by rw [c2 a (by omega), a3 a (by omega)]))
  · refine r_run 400 rfl rfl ?_
    refine r_inv rfl rfl rfl ?_
    have hb := s_behind (g' := g2) a1 a2 (fun a ha => b2 a (by omega))
    have hz : ¬ (eChair (tV T) t) < 0 := by rw [z]; decide
    have ha : ∀ x : Nat, nI x = aCh (eChair (tV T) t) x := fun x => (if_neg hz).symm
    rw [ha]
    refine s_settle (d + 2) nx T (vChair (tV T) (iN t)) (eChair (tV T) t) (vc (tV T)) g2 _ (by rw [if_neg hz]; exact b1) hb.1 hb.2.1 hb.2.2.1 hb.2.2.2 hk (by omega) (fun g3 c1 c2 => ?_)
    refine r_iret rfl rfl (k g3 c1 (fun a ha => by rw [c2 a (by omega), b2 a (by omega), a3 a (by omega)]))
set_option maxHeartbeats 4000000 in
theorem s_player (d : Nat) (T : xT) (s e : Int32) (g : xG) (Q : xQ) (h : SG g T) (hk : tOk T) (k : ∀ g' : xG, SG g' (pCh T (ePlayer (tV T) s e) (vPlayer (tV T) (iN s) (iN e))) → (∀ a, 157 ≤ a → g' a = g a) → Q (some (.int (aCh (ePlayer (tV T) s e) (vn (tV T))))) g') : Cx (d + 5) i_Bc_player [.ref 1, .int s, .int e] g Q := by
  obtain ⟨nx, h⟩ := h
  have hvk := hk.1
  obtain ⟨⟨v1, v2, v3, v4, v5, v6⟩, -, -, vt8, -, vpl, -⟩ := id hvk
  refine r_cl (L0 := [some (.ref 1), some (.int s), some (.int e)]) rfl (Or.inr ⟨_, _, _, rfl, rfl⟩) rfl rfl rfl ?_
  refine r_run 400 rfl rfl ?_
  refine r_inv rfl rfl rfl ?_
  refine s_prepare (d + 1) nx T g _ h hk (fun g1 a1 a2 a3 => ?_)
  refine r_run 400 rfl rfl ?_
  refine r_inv rfl rfl rfl ?_
  refine c_vPlayer_2 (d + 2) (tV T) s e g1 _ a1.1 hvk (fun z => ?_) (fun z g2 b1 b2 => ?_)
  · refine r_run 400 rfl rfl ?_
    refine r_inv rfl rfl rfl ?_
    have hb := s_behind (g' := g1) a1 a2 (fun _ _ => rfl)
    have ha : ePlayer (tV T) s e = aCh (ePlayer (tV T) s e) 0 := (if_pos z).symm
    rw [ha]
    refine s_settle (d + 2) nx T (vPlayer (tV T) (iN s) (iN e)) (ePlayer (tV T) s e) 0 g1 _ (by rw [if_pos z]; exact a1.1) hb.1 hb.2.1 hb.2.2.1 hb.2.2.2 hk (by omega) (fun g3 c1 c2 => ?_)
    have e2 : aCh (ePlayer (tV T) s e) 0 = aCh (ePlayer (tV T) s e) (vn (tV T)) := by unfold aCh; rw [if_pos z, if_pos z]
    rw [e2]
    refine r_iret rfl rfl (k g3 c1 (fun a ha => by rw [c2 a (by omega), a3 a (by omega)]))
  · refine r_run 400 rfl rfl ?_
    refine r_inv rfl rfl rfl ?_
    have hb := s_behind (g' := g2) a1 a2 (fun a ha => b2 a (by omega))
    have hz : ¬ (ePlayer (tV T) s e) < 0 := by rw [z]; decide
    have ha : ∀ x : Nat, nI x = aCh (ePlayer (tV T) s e) x := fun x => (if_neg hz).symm
    rw [ha]
    refine s_settle (d + 2) nx T (vPlayer (tV T) (iN s) (iN e)) (ePlayer (tV T) s e) (vn (tV T)) g2 _ (by rw [if_neg hz]; exact b1) hb.1 hb.2.1 hb.2.2.1 hb.2.2.2 hk (by omega) (fun g3 c1 c2 => ?_)
    refine r_iret rfl rfl (k g3 c1 (fun a ha => by rw [c2 a (by omega), b2 a (by omega), a3 a (by omega)]))
set_option maxHeartbeats 4000000 in
theorem s_tune (d : Nat) (T : xT) (j t : Int32) (g : xG) (Q : xQ) (h : SG g T) (hk : tOk T) (k : ∀ g' : xG, SG g' (pCh T (eTune (tV T) j t) (vTune (tV T) (iN j) (iN t))) → (∀ a, 157 ≤ a → g' a = g a) → Q (some (.int (aCh (eTune (tV T) j t) (vtn (tV T) (iN j))))) g') : Cx (d + 5) i_Bc_tune [.ref 1, .int j, .int t] g Q := by
  obtain ⟨nx, h⟩ := h
  have hvk := hk.1
  obtain ⟨⟨v1, v2, v3, v4, v5, v6⟩, -, -, vt8, -, vpl, -⟩ := id hvk
  refine r_cl (L0 := [some (.ref 1), some (.int j), some (.int t)]) rfl (Or.inr ⟨_, _, _, rfl, rfl⟩) rfl rfl rfl ?_
  refine r_run 400 rfl rfl ?_
  refine r_inv rfl rfl rfl ?_
  refine s_prepare (d + 1) nx T g _ h hk (fun g1 a1 a2 a3 => ?_)
  refine r_run 400 rfl rfl ?_
  refine r_inv rfl rfl rfl ?_
  refine c_vTune (d + 2) (tV T) j t g1 _ a1.1 hvk (fun z => ?_) (fun z g2 b1 b2 => ?_)
  · refine r_run 400 rfl rfl ?_
    refine r_inv rfl rfl rfl ?_
    have hb := s_behind (g' := g1) a1 a2 (fun _ _ => rfl)
    have ha : eTune (tV T) j t = aCh (eTune (tV T) j t) 0 := (if_pos z).symm
    rw [ha]
    refine s_settle (d + 2) nx T (vTune (tV T) (iN j) (iN t)) (eTune (tV T) j t) 0 g1 _ (by rw [if_pos z]; exact a1.1) hb.1 hb.2.1 hb.2.2.1 hb.2.2.2 hk (by omega) (fun g3 c1 c2 => ?_)
    have e2 : aCh (eTune (tV T) j t) 0 = aCh (eTune (tV T) j t) (vtn (tV T) (iN j)) := by unfold aCh; rw [if_pos z, if_pos z]
    rw [e2]
    refine r_iret rfl rfl (k g3 c1 (fun a ha => by rw [c2 a (by omega), a3 a (by omega)]))
  · refine r_run 400 rfl rfl ?_
    refine r_inv rfl rfl rfl ?_
    have hb := s_behind (g' := g2) a1 a2 (fun a ha => b2 a (by omega))
    have hz : ¬ (eTune (tV T) j t) < 0 := by rw [z]; decide
    have ha : ∀ x : Nat, nI x = aCh (eTune (tV T) j t) x := fun x => (if_neg hz).symm
    rw [ha]
    refine s_settle (d + 2) nx T (vTune (tV T) (iN j) (iN t)) (eTune (tV T) j t) (vtn (tV T) (iN j)) g2 _ (by rw [if_neg hz]; exact b1) hb.1 hb.2.1 hb.2.2.1 hb.2.2.2 hk (by have := vt8 _ (eTune_0 z).1; omega) (fun g3 c1 c2 => ?_)
    refine r_iret rfl rfl (k g3 c1 (fun a ha => by rw [c2 a (by omega), b2 a (by omega), a3 a (by omega)]))
set_option maxHeartbeats 4000000 in
theorem s_train (d : Nat) (T : xT) (q s e : Int32) (g : xG) (Q : xQ) (h : SG g T) (hk : tOk T) (k : ∀ g' : xG, SG g' (pCh T (eTrain (tV T) q s e) (vTrain (tV T) (iN q) (iN s) (iN e))) → (∀ a, 157 ≤ a → g' a = g a) → Q (some (.int (aCh (eTrain (tV T) q s e) (vea (tV T) (iN q))))) g') : Cx (d + 5) i_Bc_train [.ref 1, .int q, .int s, .int e] g Q := by
  obtain ⟨nx, h⟩ := h
  have hvk := hk.1
  obtain ⟨⟨v1, v2, v3, v4, v5, v6⟩, -, -, vt8, -, vpl, -⟩ := id hvk
  refine r_cl (L0 := [some (.ref 1), some (.int q), some (.int s), some (.int e)]) rfl (Or.inr ⟨_, _, _, rfl, rfl⟩) rfl rfl rfl ?_
  refine r_run 400 rfl rfl ?_
  refine r_inv rfl rfl rfl ?_
  refine s_prepare (d + 1) nx T g _ h hk (fun g1 a1 a2 a3 => ?_)
  refine r_run 400 rfl rfl ?_
  refine r_inv rfl rfl rfl ?_
  refine c_vTrain (d + 2) (tV T) q s e g1 _ a1.1 hvk (fun z => ?_) (fun z g2 b1 b2 => ?_)
  · refine r_run 400 rfl rfl ?_
    refine r_inv rfl rfl rfl ?_
    have hb := s_behind (g' := g1) a1 a2 (fun _ _ => rfl)
    have ha : eTrain (tV T) q s e = aCh (eTrain (tV T) q s e) 0 := (if_pos z).symm
    rw [ha]
    refine s_settle (d + 2) nx T (vTrain (tV T) (iN q) (iN s) (iN e)) (eTrain (tV T) q s e) 0 g1 _ (by rw [if_pos z]; exact a1.1) hb.1 hb.2.1 hb.2.2.1 hb.2.2.2 hk (by omega) (fun g3 c1 c2 => ?_)
    have e2 : aCh (eTrain (tV T) q s e) 0 = aCh (eTrain (tV T) q s e) (vea (tV T) (iN q)) := by unfold aCh; rw [if_pos z, if_pos z]
    rw [e2]
    refine r_iret rfl rfl (k g3 c1 (fun a ha => by rw [c2 a (by omega), a3 a (by omega)]))
  · refine r_run 400 rfl rfl ?_
    refine r_inv rfl rfl rfl ?_
    have hb := s_behind (g' := g2) a1 a2 (fun a ha => b2 a (by omega))
    have hz : ¬ (eTrain (tV T) q s e) < 0 := by rw [z]; decide
    have ha : ∀ x : Nat, nI x = aCh (eTrain (tV T) q s e) x := fun x => (if_neg hz).symm
    rw [ha]
    refine s_settle (d + 2) nx T (vTrain (tV T) (iN q) (iN s) (iN e)) (eTrain (tV T) q s e) (vea (tV T) (iN q)) g2 _ (by rw [if_neg hz]; exact b1) hb.1 hb.2.1 hb.2.2.1 hb.2.2.2 hk (by have := (vpl _ (eTrain_0 z).1).2.1; omega) (fun g3 c1 c2 => ?_)
    refine r_iret rfl rfl (k g3 c1 (fun a ha => by rw [c2 a (by omega), b2 a (by omega), a3 a (by omega)]))
set_option maxHeartbeats 4000000 in
theorem s_start (d : Nat) (T : xT)  (g : xG) (Q : xQ) (h : SG g T) (hk : tOk T) (k : ∀ g' : xG, SG g' (pCh T (eStart (tV T)) (vStart (tV T))) → (∀ a, 157 ≤ a → g' a = g a) → Q (some (.int (aCh (eStart (tV T)) (x_cnt (vin (tV T)) (vn (tV T)))))) g') : Cx (d + 5) i_Bc_start [.ref 1] g Q := by
  obtain ⟨nx, h⟩ := h
  have hvk := hk.1
  obtain ⟨⟨v1, v2, v3, v4, v5, v6⟩, -, -, vt8, -, vpl, -⟩ := id hvk
  refine r_cl (L0 := [some (.ref 1)]) rfl (Or.inr ⟨_, _, _, rfl, rfl⟩) rfl rfl rfl ?_
  refine r_run 400 rfl rfl ?_
  refine r_inv rfl rfl rfl ?_
  refine s_prepare (d + 1) nx T g _ h hk (fun g1 a1 a2 a3 => ?_)
  refine r_run 400 rfl rfl ?_
  refine r_inv rfl rfl rfl ?_
  refine c_vStart_2 (d + 1) (tV T) g1 _ a1.1 hvk (fun z => ?_) (fun z g2 b1 b2 => ?_)
  · refine r_run 400 rfl rfl ?_
    refine r_inv rfl rfl rfl ?_
    have hb := s_behind (g' := g1) a1 a2 (fun _ _ => rfl)
    have ha : eStart (tV T) = aCh (eStart (tV T)) 0 := (if_pos z).symm
    rw [ha]
    refine s_settle (d + 2) nx T (vStart (tV T)) (eStart (tV T)) 0 g1 _ (by rw [if_pos z]; exact a1.1) hb.1 hb.2.1 hb.2.2.1 hb.2.2.2 hk (by omega) (fun g3 c1 c2 => ?_)
    have e2 : aCh (eStart (tV T)) 0 = aCh (eStart (tV T)) (x_cnt (vin (tV T)) (vn (tV T))) := by unfold aCh; rw [if_pos z, if_pos z]
    rw [e2]
    refine r_iret rfl rfl (k g3 c1 (fun a ha => by rw [c2 a (by omega), a3 a (by omega)]))
  · refine r_run 400 rfl rfl ?_
    refine r_inv rfl rfl rfl ?_
    have hb := s_behind (g' := g2) a1 a2 (fun a ha => b2 a (by omega))
    have hz : ¬ (eStart (tV T)) < 0 := by rw [z]; decide
    have ha : ∀ x : Nat, nI x = aCh (eStart (tV T)) x := fun x => (if_neg hz).symm
    rw [ha]
    refine s_settle (d + 2) nx T (vStart (tV T)) (eStart (tV T)) (x_cnt (vin (tV T)) (vn (tV T))) g2 _ (by rw [if_neg hz]; exact b1) hb.1 hb.2.1 hb.2.2.1 hb.2.2.2 hk (by have := x_cnt_le (vin (tV T)) (vn (tV T)); omega) (fun g3 c1 c2 => ?_)
    refine r_iret rfl rfl (k g3 c1 (fun a ha => by rw [c2 a (by omega), b2 a (by omega), a3 a (by omega)]))
set_option maxHeartbeats 4000000 in
theorem s_beat (d : Nat) (T : xT) (b : Int32) (g : xG) (Q : xQ) (h : SG g T) (hk : tOk T) (k : ∀ g' : xG, SG g' (pCh T (eBeat (tV T) b) (vBeat (tV T) (iN b))) → (∀ a, 157 ≤ a → g' a = g a) → Q (some (.int (aCh (eBeat (tV T) b) (vbt (tV T) + iN b)))) g') : Cx (d + 5) i_Bc_beat [.ref 1, .int b] g Q := by
  obtain ⟨nx, h⟩ := h
  have hvk := hk.1
  obtain ⟨⟨v1, v2, v3, v4, v5, v6⟩, -, -, vt8, -, vpl, -⟩ := id hvk
  refine r_cl (L0 := [some (.ref 1), some (.int b)]) rfl (Or.inr ⟨_, _, _, rfl, rfl⟩) rfl rfl rfl ?_
  refine r_run 400 rfl rfl ?_
  refine r_inv rfl rfl rfl ?_
  refine s_prepare (d + 1) nx T g _ h hk (fun g1 a1 a2 a3 => ?_)
  refine r_run 400 rfl rfl ?_
  refine r_inv rfl rfl rfl ?_
  refine c_vBeat_2 (d + 1) (tV T) b g1 _ a1.1 hvk (fun z => ?_) (fun z g2 b1 b2 => ?_)
  · refine r_run 400 rfl rfl ?_
    refine r_inv rfl rfl rfl ?_
    have hb := s_behind (g' := g1) a1 a2 (fun _ _ => rfl)
    have ha : eBeat (tV T) b = aCh (eBeat (tV T) b) 0 := (if_pos z).symm
    rw [ha]
    refine s_settle (d + 2) nx T (vBeat (tV T) (iN b)) (eBeat (tV T) b) 0 g1 _ (by rw [if_pos z]; exact a1.1) hb.1 hb.2.1 hb.2.2.1 hb.2.2.2 hk (by omega) (fun g3 c1 c2 => ?_)
    have e2 : aCh (eBeat (tV T) b) 0 = aCh (eBeat (tV T) b) (vbt (tV T) + iN b) := by unfold aCh; rw [if_pos z, if_pos z]
    rw [e2]
    refine r_iret rfl rfl (k g3 c1 (fun a ha => by rw [c2 a (by omega), a3 a (by omega)]))
  · refine r_run 400 rfl rfl ?_
    refine r_inv rfl rfl rfl ?_
    have hb := s_behind (g' := g2) a1 a2 (fun a ha => b2 a (by omega))
    have hz : ¬ (eBeat (tV T) b) < 0 := by rw [z]; decide
    have ha : ∀ x : Nat, nI x = aCh (eBeat (tV T) b) x := fun x => (if_neg hz).symm
    rw [ha]
    refine s_settle (d + 2) nx T (vBeat (tV T) (iN b)) (eBeat (tV T) b) (vbt (tV T) + iN b) g2 _ (by rw [if_neg hz]; exact b1) hb.1 hb.2.1 hb.2.2.1 hb.2.2.2 hk (by have := (eBeat_0 z).2.2; omega) (fun g3 c1 c2 => ?_)
    refine r_iret rfl rfl (k g3 c1 (fun a ha => by rw [c2 a (by omega), b2 a (by omega), a3 a (by omega)]))
set_option maxHeartbeats 4000000 in
theorem s_stop (d : Nat) (T : xT)  (g : xG) (Q : xQ) (h : SG g T) (hk : tOk T) (k : ∀ g' : xG, SG g' (pCh T (eStop (tV T)) (vStop (tV T) (vTT (tV T) 0))) → (∀ a, 157 ≤ a → g' a = g a) → Q (some (.int (aCh (eStop (tV T)) (x_enc (XO (vX (tV T) 0 (vTT (tV T) 0))) (vn (tV T)))))) g') : Cx (d + 5) i_Bc_stop [.ref 1] g Q := by
  obtain ⟨nx, h⟩ := h
  have hvk := hk.1
  obtain ⟨⟨v1, v2, v3, v4, v5, v6⟩, -, -, vt8, -, vpl, -⟩ := id hvk
  refine r_cl (L0 := [some (.ref 1)]) rfl (Or.inr ⟨_, _, _, rfl, rfl⟩) rfl rfl rfl ?_
  refine r_run 400 rfl rfl ?_
  refine r_inv rfl rfl rfl ?_
  refine s_prepare (d + 1) nx T g _ h hk (fun g1 a1 a2 a3 => ?_)
  refine r_run 400 rfl rfl ?_
  refine r_inv rfl rfl rfl ?_
  refine c_vStop_2 d (tV T) g1 _ a1.1 hvk (fun z => ?_) (fun z g2 b1 b2 => ?_)
  · refine r_run 400 rfl rfl ?_
    refine r_inv rfl rfl rfl ?_
    have hb := s_behind (g' := g1) a1 a2 (fun _ _ => rfl)
    have ha : eStop (tV T) = aCh (eStop (tV T)) 0 := (if_pos z).symm
    rw [ha]
    refine s_settle (d + 2) nx T (vStop (tV T) (vTT (tV T) 0)) (eStop (tV T)) 0 g1 _ (by rw [if_pos z]; exact a1.1) hb.1 hb.2.1 hb.2.2.1 hb.2.2.2 hk (by omega) (fun g3 c1 c2 => ?_)
    have e2 : aCh (eStop (tV T)) 0 = aCh (eStop (tV T)) (x_enc (XO (vX (tV T) 0 (vTT (tV T) 0))) (vn (tV T))) := by unfold aCh; rw [if_pos z, if_pos z]
    rw [e2]
    refine r_iret rfl rfl (k g3 c1 (fun a ha => by rw [c2 a (by omega), a3 a (by omega)]))
  · refine r_run 400 rfl rfl ?_
    refine r_inv rfl rfl rfl ?_
    have hb := s_behind (g' := g2) a1 a2 (fun a ha => b2 a (by omega))
    have hz : ¬ (eStop (tV T)) < 0 := by rw [z]; decide
    have ha : ∀ x : Nat, nI x = aCh (eStop (tV T)) x := fun x => (if_neg hz).symm
    unfold aStop
    rw [ha]
    refine s_settle (d + 2) nx T (vStop (tV T) (vTT (tV T) 0)) (eStop (tV T)) (x_enc (XO (vX (tV T) 0 (vTT (tV T) 0))) (vn (tV T))) g2 _ (by rw [if_neg hz]; exact b1) hb.1 hb.2.1 hb.2.2.1 hb.2.2.2 hk (by have h1 := (x_enc_ok (XO (vX (tV T) 0 (vTT (tV T) 0))) (vn (tV T))).1; have h2 : 2 ^ vn (tV T) ≤ 2 ^ 12 := Nat.pow_le_pow_right (by omega) v6; omega) (fun g3 c1 c2 => ?_)
    refine r_iret rfl rfl (k g3 c1 (fun a ha => by rw [c2 a (by omega), b2 a (by omega), a3 a (by omega)]))
set_option maxHeartbeats 4000000 in
theorem s_set (d : Nat) (T : xT) (w v : Int32) (g : xG) (Q : xQ) (h : SG g T) (hk : tOk T) (k : ∀ g' : xG, SG g' (pCh T (eSet w v) (vSet (tV T) (iN v))) → (∀ a, 157 ≤ a → g' a = g a) → Q (some (.int (aCh (eSet w v) (vfw (tV T))))) g') : Cx (d + 5) i_Bc_set [.ref 1, .int w, .int v] g Q := by
  obtain ⟨nx, h⟩ := h
  have hvk := hk.1
  obtain ⟨⟨v1, v2, v3, v4, v5, v6⟩, -, -, vt8, -, vpl, -⟩ := id hvk
  refine r_cl (L0 := [some (.ref 1), some (.int w), some (.int v)]) rfl (Or.inr ⟨_, _, _, rfl, rfl⟩) rfl rfl rfl ?_
  refine r_run 400 rfl rfl ?_
  refine r_inv rfl rfl rfl ?_
  refine s_prepare (d + 1) nx T g _ h hk (fun g1 a1 a2 a3 => ?_)
  refine r_run 400 rfl rfl ?_
  refine r_inv rfl rfl rfl ?_
  refine c_vSet (d + 2) (tV T) w v g1 _ a1.1 (fun z => ?_) (fun z g2 b1 b2 => ?_)
  · refine r_run 400 rfl rfl ?_
    refine r_inv rfl rfl rfl ?_
    have hb := s_behind (g' := g1) a1 a2 (fun _ _ => rfl)
    have ha : eSet w v = aCh (eSet w v) 0 := (if_pos z).symm
    rw [ha]
    refine s_settle (d + 2) nx T (vSet (tV T) (iN v)) (eSet w v) 0 g1 _ (by rw [if_pos z]; exact a1.1) hb.1 hb.2.1 hb.2.2.1 hb.2.2.2 hk (by omega) (fun g3 c1 c2 => ?_)
    have e2 : aCh (eSet w v) 0 = aCh (eSet w v) (vfw (tV T)) := by unfold aCh; rw [if_pos z, if_pos z]
    rw [e2]
    refine r_iret rfl rfl (k g3 c1 (fun a ha => by rw [c2 a (by omega), a3 a (by omega)]))
  · refine r_run 400 rfl rfl ?_
    refine r_inv rfl rfl rfl ?_
    have hb := s_behind (g' := g2) a1 a2 (fun a ha => b2 a (by omega))
    have hz : ¬ (eSet w v) < 0 := by rw [z]; decide
    have ha : ∀ x : Nat, nI x = aCh (eSet w v) x := fun x => (if_neg hz).symm
    rw [ha]
    refine s_settle (d + 2) nx T (vSet (tV T) (iN v)) (eSet w v) (vfw (tV T)) g2 _ (by rw [if_neg hz]; exact b1) hb.1 hb.2.1 hb.2.2.1 hb.2.2.2 hk (by omega) (fun g3 c1 c2 => ?_)
    refine r_iret rfl rfl (k g3 c1 (fun a ha => by rw [c2 a (by omega), b2 a (by omega), a3 a (by omega)]))
