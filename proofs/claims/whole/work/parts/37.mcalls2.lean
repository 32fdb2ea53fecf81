/-! ===== the reference: tune, train, set, undo, texts ===== -/
set_option maxHeartbeats 4000000 in
theorem n_tune (d : Nat) (T : xT) (j t : Int32) (g : xG) (Q : xQ) (h : MS g T) (hk : tOk T) (k : ∀ g' : xG, MS g' (pCh T (eTune (tV T) j t) (vTune (tV T) (iN j) (iN t))) → (∀ a, a < 157 → g' a = g a) → Q (some (.int (aCh (eTune (tV T) j t) (vtn (tV T) (iN j))))) g') : Cx (d + 3) i_Md_tune [.ref 157, .int j, .int t] g Q := by
  have hvk := hk.1
  obtain ⟨⟨v1, v2, v3, v4, v5, v6⟩, -, vc1, vt8, -, wpl, wpp⟩ := id hvk
  have hr := h.1
  obtain ⟨⟨w0, w1, w2, w3, w4, w5, w6, w7, w9, w10, w11, w13, w16⟩, h2, h3, h4, h5⟩ := hr
  unfold pCh aCh eTune at k
  have bad : ¬ (iN j < vc (tV T) ∧ nI 0 ≤ t ∧ t ≤ nI 8) → Rx (d + 2) m_Md_tune Q 18 [some (.ref 157), some (.int j), some (.int t), none] [] g := by
    intro hno
    rw [if_neg hno] at k
    rw [if_pos (by decide)] at k
    rw [if_pos (by decide)] at k
    refine r_run 400 rfl rfl ?_
    exact r_iret rfl rfl (k g h (fun _ _ => rfl))
  refine r_cl (L0 := [some (.ref 157), some (.int j), some (.int t), none]) rfl (Or.inr ⟨_, _, _, rfl, rfl⟩) rfl rfl rfl ?_
  refine r_run 400 rfl rfl ?_
  refine r_inv rfl rfl rfl ?_
  refine m_isChair d (vc (tV T)) j g _ w1 v5 (fun hj => ?_) (fun hj => ?_)
  · refine t_eq1 rfl ?_
    refine r_run 400 rfl rfl ?_
    refine r_ins rfl rfl rfl rfl rfl ?_
    refine m_in (d + 1) t (nI 0) (nI 8) g _ (fun t1 t2 => ?_) (fun t1 => ?_)
    · rw [if_pos (show iN j < vc (tV T) ∧ nI 0 ≤ t ∧ t ≤ nI 8 from ⟨hj, t1, t2⟩)] at k
      rw [if_neg (by decide)] at k
      rw [if_neg (by decide)] at k
      have hjj : j = nI (iN j) := (nI_iN j).symm
      generalize iN j = jj at hj hjj k
      subst hjj
      refine t_ne1 rfl ?_
      refine r_run 400 rfl rfl ?_
      refine r_inv rfl rfl rfl ?_
      refine m_records d T g _ h hk (fun g1 r1 r2 r3 r4 => ?_)
      have h158 : g1 158 = g 158 := r4 158 (by decide) (by decide)
      refine r_run 400 rfl rfl ?_
      refine r_inv rfl rfl rfl ?_
      refine m_ofChair (d + 1) jj 0 _ _ (by omega) (by omega) ?_
      refine r_run 400 rfl rfl ?_
      refine r_inv rfl rfl rfl ?_
      refine m_laysChair (d + 1) jj 0 _ _ _ (by omega) (by omega) ?_
      refine r_run 400 rfl rfl ?_
      rw [h158, (h2 jj hj).1]
      refine r_iret rfl rfl (k _ (MS_ch h r1 r2 r3 r4 ⟨?_, fun i hi => ?_, fun p hp => ?_, h4, fun a w ha hw => ?_⟩ (fun a ha => x_up_row ha)) (fun a ha => by rw [x_up_row (by omega), r4 a (by omega) (by omega)]))
      · simp (disch := omega) only [x_up_o, x_up_n, x_up_e, h158]
        exact ⟨w0, w1, w2, w3, w4, w5, w6, w7, w9, w10, w11, w13, w16⟩
      · have hi : i < vc (tV T) := hi
        show _ = nI (if i = jj then iN t else vtn (tV T) i) ∧ _
        by_cases e : i = jj
        · subst e
          rw [if_pos rfl, nI_iN]
          simp (disch := omega) only [x_up_o, x_up_n, x_up_e, h158]
          exact ⟨trivial, (h2 i hi).2⟩
        · rw [if_neg e]
          simp (disch := omega) only [x_up_o, x_up_n, x_up_e, h158]
          exact h2 i hi
      · have hp : p < vn (tV T) := hp
        have z := h3 p hp
        simp (disch := omega) only [x_up_o, x_up_n, x_up_e, h158]
        exact z
      · have ha : a < (vR (tV T)).1 := ha
        simp (disch := omega) only [x_up_o, x_up_n, x_up_e, h158]
        exact h5 a w ha hw
    · refine t_ne0 rfl ?_
      exact bad (fun z => t1 z.2)
  · refine t_eq0 rfl ?_
    exact bad (fun z => hj z.1)
set_option maxHeartbeats 4000000 in
theorem n_train (d : Nat) (T : xT) (q s e : Int32) (g : xG) (Q : xQ) (h : MS g T) (hk : tOk T) (k : ∀ g' : xG, MS g' (pCh T (eTrain (tV T) q s e) (vTrain (tV T) (iN q) (iN s) (iN e))) → (∀ a, a < 157 → g' a = g a) → Q (some (.int (aCh (eTrain (tV T) q s e) (vea (tV T) (iN q))))) g') : Cx (d + 3) i_Md_train [.ref 157, .int q, .int s, .int e] g Q := by
  have hvk := hk.1
  obtain ⟨⟨v1, v2, v3, v4, v5, v6⟩, -, vc1, vt8, -, wpl, wpp⟩ := id hvk
  have hr := h.1
  obtain ⟨⟨w0, w1, w2, w3, w4, w5, w6, w7, w9, w10, w11, w13, w16⟩, h2, h3, h4, h5⟩ := hr
  unfold pCh aCh eTrain at k
  have bad : ¬ (iN q < vn (tV T) ∧ (nI 0 ≤ s ∧ s ≤ nI 9) ∧ nI 0 ≤ e ∧ e ≤ nI 511) → Rx (d + 2) m_Md_train Q 29 [some (.ref 157), some (.int q), some (.int s), some (.int e), none] [] g := by
    intro hno
    rw [if_neg hno] at k
    rw [if_pos (by decide)] at k
    rw [if_pos (by decide)] at k
    refine r_run 400 rfl rfl ?_
    exact r_iret rfl rfl (k g h (fun _ _ => rfl))
  refine r_cl (L0 := [some (.ref 157), some (.int q), some (.int s), some (.int e), none]) rfl (Or.inr ⟨_, _, _, rfl, rfl⟩) rfl rfl rfl ?_
  refine r_run 400 rfl rfl ?_
  refine r_inv rfl rfl rfl ?_
  refine m_isPlayer d (vn (tV T)) q g _ w2 v6 (fun hj => ?_) (fun hj => ?_)
  · refine t_eq1 rfl ?_
    refine r_run 400 rfl rfl ?_
    refine r_ins rfl rfl rfl rfl rfl ?_
    refine m_in (d + 1) s (nI 0) (nI 9) g _ (fun s1 s2 => ?_) (fun s1 => ?_)
    · refine t_eq1 rfl ?_
      refine r_run 400 rfl rfl ?_
      refine r_ins rfl rfl rfl rfl rfl ?_
      refine m_in (d + 1) e (nI 0) (nI 511) g _ (fun t1 t2 => ?_) (fun t1 => ?_)
      · rw [if_pos (show iN q < vn (tV T) ∧ (nI 0 ≤ s ∧ s ≤ nI 9) ∧ nI 0 ≤ e ∧ e ≤ nI 511 from ⟨hj, ⟨s1, s2⟩, t1, t2⟩)] at k
        rw [if_neg (by decide)] at k
        rw [if_neg (by decide)] at k
        have hjj : q = nI (iN q) := (nI_iN q).symm
        generalize iN q = jj at hj hjj k
        subst hjj
        refine t_ne1 rfl ?_
        refine r_run 400 rfl rfl ?_
        refine r_inv rfl rfl rfl ?_
        refine m_records d T g _ h hk (fun g1 r1 r2 r3 r4 => ?_)
        have h158 : g1 158 = g 158 := r4 158 (by decide) (by decide)
        refine r_run 400 rfl rfl ?_
        refine r_inv rfl rfl rfl ?_
        refine m_of (d + 1) jj 1 _ _ (by omega) (by omega) ?_
        refine r_run 400 rfl rfl ?_
        refine r_inv rfl rfl rfl ?_
        refine m_lays (d + 1) jj 0 _ _ _ (by omega) (by omega) ?_
        refine r_run 400 rfl rfl ?_
        refine r_inv rfl rfl rfl ?_
        refine m_lays (d + 1) jj 1 _ _ _ (by omega) (by omega) ?_
        refine r_run 400 rfl rfl ?_
        rw [h158, (h3 jj hj).2.1]
        refine r_iret rfl rfl (k _ (MS_ch h r1 r2 r3 r4 ⟨?_, fun i hi => ?_, fun p hp => ?_, h4, fun a w ha hw => ?_⟩ (fun a ha => by rw [x_up_row ha, x_up_row ha])) (fun a ha => by rw [x_up_row (by omega), x_up_row (by omega), r4 a (by omega) (by omega)]))
        · simp (disch := omega) only [x_up_o, x_up_n, x_up_e, h158]
          exact ⟨w0, w1, w2, w3, w4, w5, w6, w7, w9, w10, w11, w13, w16⟩
        · have hi : i < vc (tV T) := hi
          have z := h2 i hi
          simp (disch := omega) only [x_up_o, x_up_n, x_up_e, h158]
          exact z
        · have hp : p < vn (tV T) := hp
          obtain ⟨z1, z2, z3⟩ := h3 p hp
          show _ = nI (if p = jj then iN s else vst (tV T) p) ∧ _ = nI (if p = jj then iN e else vea (tV T) p) ∧ _
          by_cases e : p = jj
          · subst e
            rw [if_pos rfl, if_pos rfl, nI_iN, nI_iN]
            simp (disch := omega) only [x_up_o, x_up_n, x_up_e, h158]
            exact ⟨trivial, trivial, z3⟩
          · rw [if_neg e, if_neg e]
            simp (disch := omega) only [x_up_o, x_up_n, x_up_e, h158]
            exact ⟨z1, z2, z3⟩
        · have ha : a < (vR (tV T)).1 := ha
          simp (disch := omega) only [x_up_o, x_up_n, x_up_e, h158]
          exact h5 a w ha hw
      · refine t_ne0 rfl ?_
        exact bad (fun z => t1 z.2.2)
    · refine t_eq0 rfl ?_
      exact bad (fun z => s1 z.2.1)
  · refine t_eq0 rfl ?_
    exact bad (fun z => hj z.1)
set_option maxHeartbeats 4000000 in
theorem n_set (d : Nat) (T : xT) (w v : Int32) (g : xG) (Q : xQ) (h : MS g T) (hk : tOk T) (k : ∀ g' : xG, MS g' (pCh T (eSet w v) (vSet (tV T) (iN v))) → (∀ a, a < 157 → g' a = g a) → Q (some (.int (aCh (eSet w v) (vfw (tV T))))) g') : Cx (d + 3) i_Md_set [.ref 157, .int w, .int v] g Q := by
  have hr := h.1
  obtain ⟨⟨w0, w1, w2, w3, w4, w5, w6, w7, w9, w10, w11, w13, w16⟩, h2, h3, h4, h5⟩ := hr
  have hvk := hk.1
  obtain ⟨⟨v1, v2, v3, v4, v5, v6⟩, -⟩ := id hvk
  unfold pCh aCh eSet at k
  have bad : ¬ (w = 0 ∧ nI 1 ≤ v ∧ v ≤ nI 3) → Rx (d + 2) m_Md_set Q 13 [some (.ref 157), some (.int w), some (.int v), none] [] g := by
    intro hno
    rw [if_neg hno] at k
    rw [if_pos (by decide)] at k
    rw [if_pos (by decide)] at k
    refine r_run 400 rfl rfl ?_
    exact r_iret rfl rfl (k g h (fun _ _ => rfl))
  refine r_cl (L0 := [some (.ref 157), some (.int w), some (.int v), none]) rfl (Or.inr ⟨_, _, _, rfl, rfl⟩) rfl rfl rfl ?_
  refine r_run 400 rfl rfl ?_
  refine r_ne0 rfl (fun z => bad (fun y => z y.1)) (fun z => ?_)
  refine r_run 400 rfl rfl ?_
  refine r_ins rfl rfl rfl rfl rfl ?_
  refine m_in (d + 1) v (nI 1) (nI 3) g _ (fun t1 t2 => ?_) (fun t1 => ?_)
  · rw [if_pos (show w = 0 ∧ nI 1 ≤ v ∧ v ≤ nI 3 from ⟨z, t1, t2⟩)] at k
    rw [if_neg (by decide)] at k
    rw [if_neg (by decide)] at k
    refine t_ne1 rfl ?_
    refine r_run 400 rfl rfl ?_
    refine r_inv rfl rfl rfl ?_
    refine m_records d T g _ h hk (fun g1 r1 r2 r3 r4 => ?_)
    have h158 : g1 158 = g 158 := r4 158 (by decide) (by decide)
    refine r_run 400 rfl rfl ?_
    refine r_ald (j := 3) rfl rfl rfl (by decide) (Nat.le_of_ble_eq_true rfl) ?_
    refine r_run 400 rfl rfl ?_
    refine r_ast (j := 3) rfl rfl rfl (by decide) (Nat.le_of_ble_eq_true rfl) ?_
    refine r_run 400 rfl rfl ?_
    simp only [Nat.reduceAdd]
    rw [h158, w3]
    refine r_iret rfl rfl (k _ (MS_ch h r1 r2 r3 r4 ⟨?_, fun i hi => ?_, fun p hp => ?_, h4, fun a w ha hw => ?_⟩ (fun a ha => by rw [x_up_row ha])) (fun a ha => by rw [x_up_row (by omega), r4 a (by omega) (by omega)]))
    · simp (disch := omega) only [x_up_o, x_up_n, x_up_e, h158]
      exact ⟨w0, w1, w2, (nI_iN v).symm, w4, w5, w6, w7, w9, w10, w11, w13, w16⟩
    · have hi : i < vc (tV T) := hi
      have z := h2 i hi
      simp (disch := omega) only [x_up_o, x_up_n, x_up_e, h158]
      exact z
    · have hp : p < vn (tV T) := hp
      have z := h3 p hp
      simp (disch := omega) only [x_up_o, x_up_n, x_up_e, h158]
      exact z
    · have ha : a < (vR (tV T)).1 := ha
      simp (disch := omega) only [x_up_o, x_up_n, x_up_e, h158]
      exact h5 a w ha hw
  · refine t_ne0 rfl ?_
    exact bad (fun y => t1 y.2)
set_option maxHeartbeats 4000000 in
theorem n_undo (d : Nat) (T : xT) (g : xG) (Q : xQ) (h : MS g T) (hk : tOk T) (k : ∀ g' : xG, MS g' (pUndo T) → (∀ a, a < 157 → g' a = g a) → Q (some (.int (aUndo T))) g') : Cx (d + 2) i_Md_undo [.ref 157] g Q := by
  have h0 := h
  obtain ⟨h1, h2, h3, h4, h5⟩ := h
  have hk4 := hk.2.1
  unfold pUndo aUndo at k
  refine r_cl (L0 := [some (.ref 157)]) rfl (Or.inr ⟨_, _, _, rfl, rfl⟩) rfl rfl rfl ?_
  refine r_run 400 rfl rfl ?_
  simp only [x_up_app, x_ce_app, x_ce_same, Nat.reduceAdd, Nat.reduceEqDiff, ↓reduceIte, Nat.reduceSub, Nat.reduceMul, reduceCtorEq, h2]
  refine r_ne0 rfl (fun z => ?_) (fun z => ?_)
  · have z : ¬ tK T = 0 := fun e => z (by rw [e]; rfl)
    rw [if_neg z] at k
    rw [if_neg z] at k
    refine r_run 400 rfl rfl ?_
    simp only [x_up_app, x_ce_app, x_ce_same, Nat.reduceAdd, Nat.reduceEqDiff, ↓reduceIte, Nat.reduceSub, Nat.reduceMul, reduceCtorEq, h2]
    rw [pk_sub (by omega)]
    simp only [pk_mul]
    refine r_ins rfl rfl rfl rfl rfl ?_
    refine m_copies_161_158 d (233 * (tK T - 1)) 0 _ _ (by omega) (by omega) (fun g2 b1 b2 b3 => ?_)
    refine r_run 400 rfl rfl ?_
    have e4 : g2 157 4 = nI (tK T - 1) := by
      rw [b3 157 (by decide)]
      simp only [x_up_app, x_ce_app, x_ce_same, Nat.reduceAdd, Nat.reduceEqDiff, ↓reduceIte, Nat.reduceSub, Nat.reduceMul, reduceCtorEq]
    simp only [x_up_app, x_ce_app, x_ce_same, Nat.reduceAdd, Nat.reduceEqDiff, ↓reduceIte, Nat.reduceSub, Nat.reduceMul, reduceCtorEq, e4]
    refine r_iret rfl rfl (k g2 ⟨?_, e4, fun a ha => ?_, ?_, fun i hi => ?_⟩ (fun a ha => by rw [b3 a (by omega), x_up_row (by omega)]))
    · have hok := hk.2.2.1 0 (by omega)
      refine MG_eq ⟨hok.1.2.2.2.2.1, hok.1.2.2.2.2.2⟩ (h3 0 (by omega)) (fun i hi => ?_)
      have := b1 i hi
      rw [Nat.zero_add, x_up_row (by decide)] at this
      rw [this]
      rfl
    · have ha : a < tK T - 1 := ha
      have hok := hk.2.2.1 (a + 1) (by omega)
      refine MG_eq ⟨hok.1.2.2.2.2.1, hok.1.2.2.2.2.2⟩ (h3 (a + 1) (by omega)) (fun i hi => ?_)
      show g2 161 (233 * (tK T - 1 - 1 - a) + i) = g 161 (233 * (tK T - 1 - (a + 1)) + i)
      rw [b3 161 (by decide), x_up_row (by decide), show tK T - 1 - 1 - a = tK T - 1 - (a + 1) by omega]
    · rw [b3 157 (by decide)]
      simp only [x_up_app, x_ce_app, x_ce_same, Nat.reduceAdd, Nat.reduceEqDiff, ↓reduceIte, Nat.reduceSub, Nat.reduceMul, reduceCtorEq]
      exact h4
    · rw [b3 162 (by decide), x_up_row (by decide)]
      exact h5 i hi
  · have z : tK T = 0 := (nI_eq (b := 0) (by omega) (by omega)).mp z
    rw [if_pos z] at k
    rw [if_pos z] at k
    refine r_run 400 rfl rfl ?_
    exact r_iret rfl rfl (k g h0 (fun _ _ => rfl))
set_option maxHeartbeats 4000000 in
theorem n_type (d : Nat) (T : xT) (x : Int32) (g : xG) (Q : xQ) (h : MS g T) (hk : tOk T) (k : ∀ g' : xG, MS g' (pType T x) → (∀ a, a < 157 → g' a = g a) → Q (some (.int (aType T x))) g') : Cx (d + 2) i_Md_type [.ref 157, .int x] g Q := by
  have h0 := h
  obtain ⟨h1, h2, h3, h4, h5⟩ := h
  have h60 := hk.2.2.2.1
  unfold pType aType at k
  refine r_cl (L0 := [some (.ref 157), some (.int x)]) rfl (Or.inr ⟨_, _, _, rfl, rfl⟩) rfl rfl rfl ?_
  refine r_run 400 rfl rfl ?_
  refine r_ins rfl rfl rfl rfl rfl ?_
  refine m_in d x (nI 32) (nI 126) g _ (fun t1 t2 => ?_) (fun t1 => ?_)
  · refine t_ne1 rfl ?_
    refine r_run 400 rfl rfl ?_
    simp only [x_up_app, x_ce_app, x_ce_same, Nat.reduceAdd, Nat.reduceEqDiff, ↓reduceIte, Nat.reduceSub, Nat.reduceMul, reduceCtorEq, h4]
    refine n_ine rfl (by omega) (by omega) (fun z => ?_) (fun z => ?_)
    · rw [if_pos ⟨t1, t2, by omega⟩] at k
      rw [if_pos ⟨t1, t2⟩, if_pos (by omega)] at k
      refine r_run 400 rfl rfl ?_
      simp only [x_up_app, x_ce_app, x_ce_same, Nat.reduceAdd, Nat.reduceEqDiff, ↓reduceIte, Nat.reduceSub, Nat.reduceMul, reduceCtorEq, h4]
      refine r_ast (j := tL T) rfl rfl rfl (by omega) (Nat.le_of_ble_eq_true rfl) ?_
      refine r_run 400 rfl rfl ?_
      simp only [x_up_app, x_ce_app, x_ce_same, Nat.reduceAdd, Nat.reduceEqDiff, ↓reduceIte, Nat.reduceSub, Nat.reduceMul, reduceCtorEq, h4, nI_add]
      refine r_iret rfl rfl (k _ ⟨?_, ?_, fun a ha => ?_, ?_, fun i hi => ?_⟩ (fun a ha => by rw [x_up_row (by omega), x_up_row (by omega)]))
      · rw [x_up_row (by decide), x_up_row (by decide)]
        exact h1
      · simp only [x_up_app, x_ce_app, x_ce_same, Nat.reduceAdd, Nat.reduceEqDiff, ↓reduceIte, Nat.reduceSub, Nat.reduceMul, reduceCtorEq]
        exact h2
      · have e : (fun k => x_up (x_up g 162 (tL T) x) 157 6 (nI (tL T + 1)) 161 (233 * (tK T - 1 - a) + k)) = (fun k => g 161 (233 * (tK T - 1 - a) + k)) := by
          funext k
          rw [x_up_row (by decide), x_up_row (by decide)]
        show MG (fun k => x_up (x_up g 162 (tL T) x) 157 6 (nI (tL T + 1)) 161 (233 * (tK T - 1 - a) + k)) _ _
        rw [e]
        exact h3 a ha
      · simp only [x_up_app, x_ce_app, x_ce_same, Nat.reduceAdd, Nat.reduceEqDiff, ↓reduceIte, Nat.reduceSub, Nat.reduceMul, reduceCtorEq]
        rfl
      · have hi : i < tL T + 1 := hi
        show _ = nI (if i = tL T then iN x else tX T i)
        simp only [x_up_app, x_ce_app, x_ce_same, Nat.reduceAdd, Nat.reduceEqDiff, ↓reduceIte, Nat.reduceSub, Nat.reduceMul, reduceCtorEq]
        by_cases e : i = tL T
        · rw [if_pos e, if_pos e, nI_iN]
        · rw [if_neg e, if_neg e]
          exact h5 i (by omega)
    · rw [if_neg (fun y => by omega)] at k
      rw [if_pos ⟨t1, t2⟩, if_neg (by omega)] at k
      refine r_run 400 rfl rfl ?_
      exact r_iret rfl rfl (k g h0 (fun _ _ => rfl))
  · rw [if_neg (fun y => t1 ⟨y.1, y.2.1⟩)] at k
    rw [if_neg t1] at k
    refine t_ne0 rfl ?_
    refine r_run 400 rfl rfl ?_
    exact r_iret rfl rfl (k g h0 (fun _ _ => rfl))
set_option maxHeartbeats 4000000 in
theorem n_clearText (d : Nat) (T : xT) (g : xG) (Q : xQ) (h : MS g T) (k : ∀ g' : xG, MS g' (pClear T) → (∀ a, a < 157 → g' a = g a) → Q (some (.int (nI (tL T)))) g') : Cx (d + 1) i_Md_clearText [.ref 157] g Q := by
  obtain ⟨h1, h2, h3, h4, h5⟩ := h
  refine r_cl (L0 := [some (.ref 157), none]) rfl (Or.inr ⟨_, _, _, rfl, rfl⟩) rfl rfl rfl ?_
  refine r_run 400 rfl rfl ?_
  simp only [x_up_app, x_ce_app, x_ce_same, Nat.reduceAdd, Nat.reduceEqDiff, ↓reduceIte, Nat.reduceSub, Nat.reduceMul, reduceCtorEq, h4]
  refine r_iret rfl rfl (k _ ⟨?_, ?_, fun a ha => ?_, ?_, fun i hi => absurd hi (Nat.not_lt_zero _)⟩ (fun a ha => by rw [x_up_row (by omega)]))
  · rw [x_up_row (by decide)]
    exact h1
  · simp only [x_up_app, x_ce_app, x_ce_same, Nat.reduceAdd, Nat.reduceEqDiff, ↓reduceIte, Nat.reduceSub, Nat.reduceMul, reduceCtorEq]
    exact h2
  · exact h3 a ha
  · simp only [x_up_app, x_ce_app, x_ce_same, Nat.reduceAdd, Nat.reduceEqDiff, ↓reduceIte, Nat.reduceSub, Nat.reduceMul, reduceCtorEq]
    rfl
