/-! ===== the reference does orders; fault, play ===== -/
set_option maxHeartbeats 4000000 in
theorem m_errorOfOrder (d kk a b : Nat) (V : xV) (P : Nat → Nat) (g : xG) (Q : xQ) (h : MG (g 158) V P) (hk : vOk V) (hkk : kk = 99 ∨ kk = 98 ∨ kk = 103 ∨ kk = 112 ∨ kk = 115) (h17 : g 157 17 = nI kk) (h18 : kk = 99 ∨ kk = 98 ∨ kk = 112 → g 157 18 = nI a) (h19 : kk = 112 → g 157 19 = nI b) (k : Q (some (.int (eOrd V kk a b))) g) : Cx (d + 4) i_Md_errorOfOrder [.ref 157] g Q := by
  obtain ⟨⟨v1, v2, v3, v4, v5, v6⟩, -⟩ := id hk
  have w0 : g 158 0 = nI (vph V) := h.1.1
  unfold eOrd at k
  refine r_cl (L0 := [some (.ref 157)]) rfl (Or.inr ⟨_, _, _, rfl, rfl⟩) rfl rfl rfl ?_
  refine r_run 400 rfl rfl ?_
  simp only [Nat.reduceAdd]
  rw [h17]
  refine r_lsw rfl rfl ⟨fun x hx e => ?_, fun hno => ?_⟩
  · simp only [List.mem_cons, List.not_mem_nil, or_false] at hx
    rcases hx with rfl | rfl | rfl | rfl
    · have e := (nI_eq (by omega) (by omega)).mp e
      subst e
      rw [if_neg (by decide), if_neg (by decide), if_pos rfl] at k
      refine r_run 400 rfl rfl ?_
      simp only [Nat.reduceAdd]
      rw [h18 (by omega)]
      refine r_inv rfl rfl rfl ?_
      refine m_errorBeat (d + 1) V P (nI a) g _ h v1 v4 ?_
      exact r_iret rfl rfl k
    · have e := (nI_eq (by omega) (by omega)).mp e
      subst e
      rw [if_pos rfl] at k
      refine r_run 400 rfl rfl ?_
      simp only [Nat.reduceAdd]
      rw [h18 (by omega)]
      refine r_inv rfl rfl rfl ?_
      refine m_errorChair (d + 1) V P (nI a) g _ h v1 v5 ?_
      exact r_iret rfl rfl k
    · have e := (nI_eq (by omega) (by omega)).mp e
      subst e
      rw [if_neg (by decide), if_neg (by decide), if_neg (by decide), if_pos rfl] at k
      refine r_run 400 rfl rfl ?_
      refine r_inv rfl rfl rfl ?_
      refine m_errorStart d V P g _ h v1 v5 v6 ?_
      exact r_iret rfl rfl k
    · have e := (nI_eq (by omega) (by omega)).mp e
      subst e
      rw [if_neg (by decide), if_pos rfl] at k
      refine r_run 400 rfl rfl ?_
      simp only [Nat.reduceAdd]
      rw [h18 (by omega), h19 rfl]
      refine r_inv rfl rfl rfl ?_
      refine m_errorPlayer (d + 1) V P (nI a) (nI b) g _ h v1 v6 ?_
      exact r_iret rfl rfl k
  · simp only [List.mem_cons, List.not_mem_nil, or_false, forall_eq_or_imp, forall_eq] at hno
    obtain ⟨n1, n2, n3, n4⟩ := hno
    have m1 : ¬ kk = 98 := fun e => n1 (by rw [e])
    have m2 : ¬ kk = 99 := fun e => n2 (by rw [e])
    have m3 : ¬ kk = 103 := fun e => n3 (by rw [e])
    have m4 : ¬ kk = 112 := fun e => n4 (by rw [e])
    rw [if_neg m2, if_neg m4, if_neg m1, if_neg m3] at k
    unfold eStop at k
    refine r_run 400 rfl rfl ?_
    refine r_ald (j := 0) rfl rfl rfl (by decide) (Nat.le_of_ble_eq_true rfl) ?_
    refine r_run 400 rfl rfl ?_
    simp only [Nat.reduceAdd]
    rw [w0]
    refine n_ine rfl (by omega) (by omega) (fun z => ?_) (fun z => ?_)
    · rw [if_neg z] at k
      refine r_run 400 rfl rfl ?_
      exact r_iret rfl rfl k
    · rw [if_pos z] at k
      refine r_run 400 rfl rfl ?_
      exact r_iret rfl rfl k
set_option maxHeartbeats 4000000 in
theorem m_doesOrder (d kk a b : Nat) (V : xV) (g : xG) (Q : xQ) (h : MG (g 158) V (vpl V)) (hk : vOk V) (hkk : kk = 99 ∨ kk = 98 ∨ kk = 103 ∨ kk = 112 ∨ kk = 115) (h17 : g 157 17 = nI kk) (h18 : kk = 99 ∨ kk = 98 ∨ kk = 112 → g 157 18 = nI a) (h19 : kk = 112 → g 157 19 = nI b) (he : eOrd V kk a b = nI 0)
    (k : ∀ (g' : xG) (x : Int32), MG (g' 158) (vOrd V kk a b) (vpl (vOrd V kk a b)) → (∀ j, j ≠ 12 → g' 157 j = g 157 j) → (∀ a, (a < 157 ∨ (158 < a ∧ a < 163) ∨ 168 < a) → g' a = g a) → Q (some (.int x)) g') : Cx (d + 8) i_Md_doesOrder [.ref 157] g Q := by
  obtain ⟨⟨v1, v2, v3, v4, v5, v6⟩, -, vc1, vt8, -, wpl, wpp⟩ := id hk
  unfold vOrd at k
  unfold eOrd at he
  refine r_cl (L0 := [some (.ref 157)]) rfl (Or.inr ⟨_, _, _, rfl, rfl⟩) rfl rfl rfl ?_
  refine r_run 400 rfl rfl ?_
  simp only [Nat.reduceAdd]
  rw [h17]
  refine r_lsw rfl rfl ⟨fun x hx e => ?_, fun hno => ?_⟩
  · simp only [List.mem_cons, List.not_mem_nil, or_false] at hx
    rcases hx with rfl | rfl | rfl | rfl
    · have e := (nI_eq (by omega) (by omega)).mp e
      subst e
      rw [if_neg (by decide), if_neg (by decide), if_pos rfl] at he
      simp only [if_neg (show ¬ (98 : Nat) = 99 by decide), if_neg (show ¬ (98 : Nat) = 112 by decide), if_true] at k
      obtain ⟨e1, e2, e3⟩ := eBeat_0 he
      have hgo := m_goBeat (d + 4) (iN (nI a)) V (vpl V) g (fun v g2 => Rx (d + 7) m_Md_doesOrder Q 78 [some (.ref 157)] (v.toList ++ []) g2) h v5 v6 (vc1 e2).1 (fun p hp => (wpl p hp).1) (fun p hp _ => (wpl p hp).2.2.1) e2 (by omega) (fun g2 b1 b2 => ?_)
      · rw [nI_iN] at hgo
        refine r_run 400 rfl rfl ?_
        simp only [Nat.reduceAdd]
        rw [h18 (by omega)]
        refine r_inv rfl rfl rfl ?_
        exact hgo
      · refine r_iret rfl rfl (k g2 _ (MG_P b1 (fun _ p hp hi => ?_)) (fun j _ => by rw [b2 157 (by decide)]) (fun a ha => b2 a (by omega)))
        have hi : vin V p = true := hi
        show _ = if vin V p = true then _ else _
        rw [if_pos hi]
    · have e := (nI_eq (by omega) (by omega)).mp e
      subst e
      rw [if_pos rfl] at he
      simp only [if_true] at k
      obtain ⟨e1, e2, e3⟩ := eChair_0 he
      refine r_run 400 rfl rfl ?_
      simp only [Nat.reduceAdd]
      rw [h18 (by omega)]
      refine r_inv rfl rfl rfl ?_
      refine m_goChair (d + 5) V _ (nI a) g _ h (by omega) v6 (fun g2 b1 b2 => ?_)
      exact r_iret rfl rfl (k g2 _ b1 (fun j _ => by rw [b2 157 (by decide)]) (fun a ha => b2 a (by omega)))
    · have e := (nI_eq (by omega) (by omega)).mp e
      subst e
      rw [if_neg (by decide), if_neg (by decide), if_neg (by decide), if_pos rfl] at he
      simp only [if_neg (show ¬ (103 : Nat) = 99 by decide), if_neg (show ¬ (103 : Nat) = 112 by decide), if_neg (show ¬ (103 : Nat) = 98 by decide), if_true] at k
      refine r_run 400 rfl rfl ?_
      refine r_inv rfl rfl rfl ?_
      refine m_goStart (d + 4) V _ g _ h hk he (fun g2 b1 b2 => ?_)
      exact r_iret rfl rfl (k g2 _ b1 (fun j _ => by rw [b2 157 (by decide)]) (fun a ha => b2 a (by omega)))
    · have e := (nI_eq (by omega) (by omega)).mp e
      subst e
      rw [if_neg (by decide), if_pos rfl] at he
      simp only [if_neg (show ¬ (112 : Nat) = 99 by decide), if_true] at k
      obtain ⟨e1, e2, e3⟩ := ePlayer_0 he
      refine r_run 400 rfl rfl ?_
      simp only [Nat.reduceAdd]
      rw [h18 (by omega), h19 rfl]
      refine r_inv rfl rfl rfl ?_
      refine m_goPlayer (d + 5) V _ (nI a) (nI b) g _ h v5 (by omega) (by omega) (fun g2 b1 b2 => ?_)
      exact r_iret rfl rfl (k g2 _ (MG_P b1 (fun z => by have z : vph V = 1 := z; omega)) (fun j _ => by rw [b2 157 (by decide)]) (fun a ha => b2 a (by omega)))
  · simp only [List.mem_cons, List.not_mem_nil, or_false, forall_eq_or_imp, forall_eq] at hno
    obtain ⟨n1, n2, n3, n4⟩ := hno
    have m1 : ¬ kk = 98 := fun e => n1 (by rw [e])
    have m2 : ¬ kk = 99 := fun e => n2 (by rw [e])
    have m3 : ¬ kk = 103 := fun e => n3 (by rw [e])
    have m4 : ¬ kk = 112 := fun e => n4 (by rw [e])
    rw [if_neg m2, if_neg m4, if_neg m1, if_neg m3] at he
    simp only [if_neg m2, if_neg m4, if_neg m1, if_neg m3] at k
    refine r_run 400 rfl rfl ?_
    refine r_inv rfl rfl rfl ?_
    refine m_goStop d V g _ h hk (eStop_0 he) (fun g2 b1 b2 b3 => ?_)
    exact r_iret rfl rfl (k g2 _ b1 b2 b3)
set_option maxHeartbeats 16000000 in
theorem m_doesAll (d L : Nat) (tx : Nat → Nat) (V : xV) (g : xG) (Q : xQ) (hT : MT g L tx) (h : MG (g 158) V (vpl V)) (hk : vOk V)
    (k : ∀ (g' : xG) (V' : xV) (n rs bg : Nat) (cs : Int32), oRun (sgn L tx) L 60 0 0 V = (V', n, rs, bg, cs) → rs ≤ 2 → vOk V' → MG (g' 158) V' (vpl V') → g' 157 20 = nI rs → (¬ rs = 0 → g' 157 15 = nI bg ∧ g' 157 21 = cs) → (∀ j, (j < 12 ∨ j = 13) → g' 157 j = g 157 j) → (∀ a, (a < 157 ∨ (158 < a ∧ a < 163) ∨ 168 < a) → g' a = g a) → Q (some (.int (nI n))) g') : Cx (d + 9) i_Md_doesAll [.ref 157] g Q := by
  have hL := hT.2.1
  generalize hR : oRun (sgn L tx) L 60 0 0 V = R at k
  refine r_cl (L0 := [some (.ref 157), none, none, none]) rfl (Or.inr ⟨_, _, _, rfl, rfl⟩) rfl rfl rfl ?_
  have loop : ∀ (f pos n : Nat) (V' : xV) (g' : xG) (l2 l3 : Option Value), L ≤ pos + f → pos ≤ 70 → oRun (sgn L tx) L f pos n V' = R → vOk V' → MG (g' 158) V' (vpl V') → g' 157 20 = nI 0 → g' 157 14 = nI pos → (∀ j, (j < 12 ∨ j = 13) → g' 157 j = g 157 j) → (∀ a, (a < 157 ∨ (158 < a ∧ a < 163) ∨ 168 < a) → g' a = g a) → Rx (d + 8) m_Md_doesAll Q 12 [some (.ref 157), some (.int (nI n)), l2, l3] [] g' := by
    intro f
    induction f with
    | zero =>
      intro pos n V' g' l2 l3 hf hpos hrun hvk hmg h20 h14 hf1 hf2
      refine r_run 400 rfl rfl ?_
      simp only [Nat.reduceAdd]
      rw [h20]
      refine t_ne0 rfl ?_
      refine r_run 400 rfl rfl ?_
      simp only [Nat.reduceAdd]
      rw [h14, hf1 6 (by decide), hT.1]
      refine n_ige rfl (by omega) (by omega) (fun _ => ?_) (fun h => by omega)
      refine r_run 400 rfl rfl ?_
      exact r_iret rfl rfl (k g' V' n 0 0 (nI 0) hrun.symm (by omega) hvk hmg h20 (fun z => absurd rfl z) hf1 hf2)
    | succ f IH =>
      intro pos n V' g' l2 l3 hf hpos hrun hvk hmg h20 h14 hf1 hf2
      have hMT : MT g' L tx := MT_row hT (hf1 6 (by decide)) (hf2 162 (by decide))
      unfold oRun at hrun
      refine r_run 400 rfl rfl ?_
      simp only [Nat.reduceAdd]
      rw [h20]
      refine t_ne0 rfl ?_
      refine r_run 400 rfl rfl ?_
      simp only [Nat.reduceAdd]
      rw [h14, hf1 6 (by decide), hT.1]
      refine n_ige rfl (by omega) (by omega) (fun hge => ?_) (fun hlt => ?_)
      · rw [if_neg (by omega)] at hrun
        refine r_run 400 rfl rfl ?_
        exact r_iret rfl rfl (k g' V' n 0 0 (nI 0) hrun.symm (by omega) hvk hmg h20 (fun z => absurd rfl z) hf1 hf2)
      · rw [if_pos hlt] at hrun
        have hol := x_ord_le (s := sgn L tx) (i := pos)
        -- the fault is told
        have bad : ∀ (g1 : xG) (l3 : Option Value) (rs : Nat) (cs : Int32) (ok : Bool) (er : Int32), R = (V', n, rs, pos, cs) → g1 157 16 = x_b ok → (ok = true → rs = 2 ∧ cs = er) → (ok = false → rs = 1 ∧ cs = g1 157 14 - nI pos) → g1 157 15 = nI pos → MG (g1 158) V' (vpl V') → (∀ j, (j < 12 ∨ j = 13) → g1 157 j = g 157 j) → (∀ a, (a < 157 ∨ (158 < a ∧ a < 163) ∨ 168 < a) → g1 a = g a) → Rx (d + 8) m_Md_doesAll Q 61 [some (.ref 157), some (.int (nI n)), some (.int er), l3] [] g1 := by
          intro g1 l3 rs cs ok er hR1 c16 cok cno c15 cmg cf1 cf2
          have fin : ∀ g2 : xG, g2 157 20 = nI rs → g2 157 21 = cs → (∀ j, j ≠ 20 → j ≠ 21 → g2 157 j = g1 157 j) → (∀ a, a ≠ 157 → g2 a = g1 a) → (rs = 1 ∨ rs = 2) → Rx (d + 8) m_Md_doesAll Q 101 [some (.ref 157), some (.int (nI n)), some (.int er), l3] [] g2 := by
            intro g2 e20 e21 ef ea hrs
            refine r_run 400 rfl rfl ?_
            simp only [Nat.reduceAdd]
            rw [e20]
            refine r_ne0 rfl (fun _ => ?_) (fun z => ?_)
            · refine r_run 400 rfl rfl ?_
              refine r_iret rfl rfl (k g2 V' n rs pos cs hR1 (by omega) hvk (MG_f (ea 158 (by decide)) cmg) e20 (fun _ => ⟨by rw [ef 15 (by decide) (by decide)]; exact c15, e21⟩) (fun j hj => by rw [ef j (by omega) (by omega)]; exact cf1 j hj) (fun a ha => by rw [ea a (by omega)]; exact cf2 a ha))
            · exfalso
              have := (nI_eq (b := 0) (by omega) (by omega)).mp z
              omega
          refine r_run 400 rfl rfl ?_
          simp only [Nat.reduceAdd]
          rw [c16]
          cases ok with
          | true =>
            obtain ⟨rfl, rfl⟩ := cok rfl
            refine t_eq1 rfl ?_
            refine r_run 400 rfl rfl ?_
            simp only [Nat.reduceAdd]
            simp (disch := omega) only [x_up_o, x_up_n, x_up_e, c16]
            refine t_eq1 rfl ?_
            refine r_to 101 60 rfl rfl ?_
            simp only [Nat.reduceAdd]
            refine fin _ ?_ ?_ (fun j h1 h2 => ?_) (fun a ha => by rw [x_up_row ha, x_up_row ha]) (Or.inr rfl)
            · simp (disch := omega) only [x_up_o, x_up_n, x_up_e]
            · simp (disch := omega) only [x_up_o, x_up_n, x_up_e]
            · simp (disch := omega) only [x_up_o, x_up_n, x_up_e]
          | false =>
            obtain ⟨rfl, rfl⟩ := cno rfl
            refine t_eq0 rfl ?_
            refine r_run 400 rfl rfl ?_
            simp only [Nat.reduceAdd]
            simp (disch := omega) only [x_up_o, x_up_n, x_up_e, c16]
            refine t_eq0 rfl ?_
            refine r_to 101 60 rfl rfl ?_
            simp only [Nat.reduceAdd]
            refine fin _ ?_ ?_ (fun j h1 h2 => ?_) (fun a ha => by rw [x_up_row ha, x_up_row ha]) (Or.inl rfl)
            · simp (disch := omega) only [x_up_o, x_up_n, x_up_e]
            · simp (disch := omega) only [x_up_o, x_up_n, x_up_e, c15]
            · simp (disch := omega) only [x_up_o, x_up_n, x_up_e]
        refine r_run 400 rfl rfl ?_
        refine r_inv rfl rfl rfl ?_
        refine m_takesOrder (d + 5) pos L tx g' _ hMT h14 (by omega) (fun g1 ok j kk a b ho c16 c14 c15 cok cf ca => ?_)
        rw [ho] at hrun hol
        dsimp only at hol
        have cmg : MG (g1 158) V' (vpl V') := MG_f (ca 158 (by decide)) hmg
        have cf1 : ∀ j, (j < 12 ∨ j = 13) → g1 157 j = g 157 j := fun j hj => by rw [cf j (by omega)]; exact hf1 j hj
        have cf2 : ∀ a, (a < 157 ∨ (158 < a ∧ a < 163) ∨ 168 < a) → g1 a = g a := fun a ha => by rw [ca a (by omega)]; exact hf2 a ha
        refine r_run 400 rfl rfl ?_
        simp only [Nat.reduceAdd]
        rw [c16]
        cases ok with
        | false =>
          dsimp only at hrun
          refine t_eq0 rfl ?_
          refine r_run 400 rfl rfl ?_
          simp only [Nat.reduceAdd]
          rw [c16]
          refine t_eq0 rfl ?_
          refine bad g1 _ 1 (nI (j - pos)) false _ hrun.symm c16 (fun z => by cases z) (fun _ => ⟨rfl, ?_⟩) c15 cmg cf1 cf2
          rw [c14, pk_sub (by omega)]
        | true =>
          dsimp only at hrun
          obtain ⟨hkk, hij⟩ := x_ord_kk ho
          obtain ⟨c17, c18, c19⟩ := cok rfl
          have c18 : kk = 99 ∨ kk = 98 ∨ kk = 112 → g1 157 18 = nI a := c18
          refine t_eq1 rfl ?_
          refine r_run 400 rfl rfl ?_
          refine r_inv rfl rfl rfl ?_
          refine m_errorOfOrder (d + 4) kk a b V' _ g1 _ cmg hvk hkk c17 c18 c19 ?_
          refine r_run 400 rfl rfl ?_
          simp only [Nat.reduceAdd]
          rw [c16]
          refine t_eq1 rfl ?_
          refine r_run 400 rfl rfl ?_
          rcases eOrd_e V' kk a b with he | he
          · rw [if_pos he] at hrun
            refine r_ge0 rfl (fun z => absurd he (Int32.not_lt.mpr z)) (fun _ => ?_)
            exact bad g1 _ 2 _ true _ hrun.symm c16 (fun _ => ⟨rfl, rfl⟩) (fun z => by cases z) c15 cmg cf1 cf2
          · rw [if_neg (by rw [he]; decide)] at hrun
            refine r_ge0 rfl (fun _ => ?_) (fun z => absurd (by rw [he]; decide) z)
            refine r_run 400 rfl rfl ?_
            refine r_inv rfl rfl rfl ?_
            refine m_doesOrder d kk a b V' g1 _ cmg hvk hkk c17 c18 c19 he (fun g2 x b1 b2 b3 => ?_)
            refine r_to 12 60 rfl rfl ?_
            simp only [nI_add]
            refine IH j (n + 1) _ g2 _ _ (by omega) (by omega) hrun (vOk_ord hvk he) b1 ?_ ?_ (fun j hj => by rw [b2 j (by omega)]; exact cf1 j hj) (fun a ha => by rw [b3 a ha]; exact cf2 a ha)
            · rw [b2 20 (by decide), cf 20 (by decide)]
              exact h20
            · rw [b2 14 (by decide)]
              exact c14
  refine r_to 12 60 rfl rfl ?_
  simp only [Nat.reduceAdd]
  refine loop 60 0 0 V _ _ _ (by omega) (by omega) hR hk (MG_f (by rw [x_up_row (by decide), x_up_row (by decide)]) h) ?_ ?_ (fun j hj => ?_) (fun a ha => by rw [x_up_row (by omega), x_up_row (by omega)])
  · simp (disch := omega) only [x_up_o, x_up_n, x_up_e]
  · simp (disch := omega) only [x_up_o, x_up_n, x_up_e]
  · simp (disch := omega) only [x_up_o, x_up_n, x_up_e]
theorem MS_fr2 {g g' : xG} {T : xT} (h : MS g T) (hk : tOk T) (e1 : ∀ j, j < 233 → g' 158 j = g 158 j) (e4 : g' 157 4 = g 157 4) (e6 : g' 157 6 = g 157 6) (e3 : g' 161 = g 161) (e5 : g' 162 = g 162) : MS g' T := by
  obtain ⟨h1, h2, h3, h4, h5⟩ := h
  refine ⟨MG_eq ⟨hk.1.1.2.2.2.2.1, hk.1.1.2.2.2.2.2⟩ h1 e1, ?_, fun a ha => ?_, ?_, fun i hi => ?_⟩
  · rw [e4]
    exact h2
  · rw [e3]
    exact h3 a ha
  · rw [e6]
    exact h4
  · rw [e5]
    exact h5 i hi
theorem MS_MT {g : xG} {T : xT} (h : MS g T) (hk : tOk T) : MT g (tL T) (tX T) := ⟨h.2.2.2.1, hk.2.2.2.1, fun i hi => ⟨h.2.2.2.2 i hi, hk.2.2.2.2 i hi⟩⟩
set_option maxHeartbeats 4000000 in
theorem n_fault (d : Nat) (T : xT) (w : Int32) (g : xG) (Q : xQ) (h : MS g T) (hk : tOk T) (k : ∀ g' : xG, MS g' T → (∀ a, a < 157 → g' a = g a) → Q (some (.int (qFault T w))) g') : Cx (d + 10) i_Md_fault [.ref 157, .int w] g Q := by
  refine r_cl (L0 := [some (.ref 157), some (.int w), none]) rfl (Or.inr ⟨_, _, _, rfl, rfl⟩) rfl rfl rfl ?_
  refine r_run 400 rfl rfl ?_
  refine r_ins rfl rfl rfl rfl rfl ?_
  refine m_in (d + 8) w (nI 0) (nI 2) g _ (fun t1 t2 => ?_) (fun t1 => ?_)
  · obtain ⟨x, rfl, hx1, hx2⟩ := x_in_nat (by omega) (by omega) t1 t2
    have ex : iN (nI x) = x := iN_nI (by omega)
    unfold qFault tRun at k
    rw [ex, if_pos (by omega)] at k
    refine t_ne1 rfl ?_
    refine r_run 400 rfl rfl ?_
    refine r_ins rfl rfl rfl rfl rfl ?_
    refine m_copies_158_160 (d + 8) 0 0 g _ (by omega) (by omega) (fun g1 a1 a2 a3 => ?_)
    simp only [Nat.zero_add] at a1
    refine r_run 400 rfl rfl ?_
    refine r_inv rfl rfl rfl ?_
    have h1 : MS g1 T := MS_fr2 h hk (fun j _ => by rw [a3 158 (by decide)]) (by rw [a3 157 (by decide)]) (by rw [a3 157 (by decide)]) (a3 161 (by decide)) (a3 162 (by decide))
    refine m_doesAll d (tL T) (tX T) (tV T) g1 _ (MS_MT h1 hk) h1.1 hk.1 (fun g2 V' n rs bg cs e hrs hvk b1 b2 b3 b4 b5 => ?_)
    rw [e] at k
    dsimp only at k
    refine r_run 400 rfl rfl ?_
    refine r_ins rfl rfl rfl rfl rfl ?_
    refine m_copies_160_158 (d + 8) 0 0 g2 _ (by omega) (by omega) (fun g3 e1 e2 e3 => ?_)
    simp only [Nat.zero_add] at e1
    have k := k g3 (MS_fr2 h hk (fun j hj => by rw [e1 j hj, b5 160 (by decide), a1 j hj]) (by rw [e3 157 (by decide), b4 4 (by decide), a3 157 (by decide)]) (by rw [e3 157 (by decide), b4 6 (by decide), a3 157 (by decide)]) (by rw [e3 161 (by decide), b5 161 (by decide), a3 161 (by decide)]) (by rw [e3 162 (by decide), b5 162 (by decide), a3 162 (by decide)])) (fun a ha => by rw [e3 a (by omega), b5 a (by omega), a3 a (by omega)])
    have h20 : g3 157 20 = nI rs := by rw [e3 157 (by decide)]; exact b2
    have h15 : ¬ rs = 0 → g3 157 15 = nI bg ∧ g3 157 21 = cs := fun z => by rw [e3 157 (by decide)]; exact b3 z
    refine r_run 400 rfl rfl ?_
    simp only [Nat.reduceAdd]
    rw [h20]
    refine r_ne0 rfl (fun z => ?_) (fun z => ?_)
    · have z : ¬ rs = 0 := fun e => z (by rw [e]; rfl)
      obtain ⟨e5, e6⟩ := h15 z
      rw [if_neg z] at k
      have e3 : x = 0 ∨ x = 1 ∨ x = 2 := by omega
      rcases e3 with rfl | rfl | rfl
      · rw [if_pos rfl] at k
        refine r_run 400 rfl rfl ?_
        refine t_ne0 rfl ?_
        refine r_run 400 rfl rfl ?_
        simp only [Nat.reduceAdd]
        rw [e5]
        exact r_iret rfl rfl k
      · rw [if_neg (by decide), if_pos rfl] at k
        refine r_run 400 rfl rfl ?_
        refine t_ne1 rfl ?_
        refine r_run 400 rfl rfl ?_
        refine n_ine rfl (by omega) (by omega) (fun z => absurd rfl z) (fun _ => ?_)
        refine r_run 400 rfl rfl ?_
        simp only [Nat.reduceAdd]
        rw [h20]
        exact r_iret rfl rfl k
      · rw [if_neg (by decide), if_neg (by decide)] at k
        refine r_run 400 rfl rfl ?_
        refine r_ne0 rfl (fun _ => ?_) (fun z => absurd z (by decide))
        refine r_run 400 rfl rfl ?_
        refine n_ine rfl (by omega) (by omega) (fun _ => ?_) (fun z => by omega)
        refine r_run 400 rfl rfl ?_
        simp only [Nat.reduceAdd]
        rw [e6]
        exact r_iret rfl rfl k
    · have z : rs = 0 := (nI_eq (b := 0) (by omega) (by omega)).mp z
      rw [if_pos z] at k
      refine r_run 400 rfl rfl ?_
      exact r_iret rfl rfl k
  · refine t_ne0 rfl ?_
    unfold qFault at k
    rw [if_neg (fun z => t1 (by rw [← nI_iN w]; exact ⟨(nI_leI (by omega) (by omega)).mpr (by omega), (nI_leI (by omega) (by omega)).mpr (by omega)⟩))] at k
    refine r_run 400 rfl rfl ?_
    exact r_iret rfl rfl (k g h (fun _ _ => rfl))
set_option maxHeartbeats 4000000 in
theorem n_play (d : Nat) (T : xT) (g : xG) (Q : xQ) (h : MS g T) (hk : tOk T) (k : ∀ g' : xG, MS g' (pCh T (ePlay T) (tRun T).1) → (∀ a, a < 157 → g' a = g a) → Q (some (.int (aCh (ePlay T) (tRun T).2.1))) g') : Cx (d + 10) i_Md_play [.ref 157] g Q := by
  unfold ePlay at k
  generalize hR : tRun T = R at k
  refine r_cl (L0 := [some (.ref 157), none]) rfl (Or.inr ⟨_, _, _, rfl, rfl⟩) rfl rfl rfl ?_
  refine r_run 400 rfl rfl ?_
  refine r_ins rfl rfl rfl rfl rfl ?_
  refine m_copies_158_160 (d + 8) 0 0 g _ (by omega) (by omega) (fun g1 a1 a2 a3 => ?_)
  simp only [Nat.zero_add] at a1
  refine r_run 400 rfl rfl ?_
  refine r_inv rfl rfl rfl ?_
  have h1 : MS g1 T := MS_fr2 h hk (fun j _ => by rw [a3 158 (by decide)]) (by rw [a3 157 (by decide)]) (by rw [a3 157 (by decide)]) (a3 161 (by decide)) (a3 162 (by decide))
  refine m_doesAll d (tL T) (tX T) (tV T) g1 _ (MS_MT h1 hk) h1.1 hk.1 (fun g2 V' n rs bg cs e hrs hvk b1 b2 b3 b4 b5 => ?_)
  have e : tRun T = (V', n, rs, bg, cs) := e
  rw [hR] at e
  subst e
  dsimp only at k
  refine r_run 400 rfl rfl ?_
  refine r_ins rfl rfl rfl rfl rfl ?_
  refine m_copies_160_158 (d + 8) 0 0 g2 _ (by omega) (by omega) (fun g3 e1 e2 e3 => ?_)
  simp only [Nat.zero_add] at e1
  have h3 : MS g3 T := MS_fr2 h hk (fun j hj => by rw [e1 j hj, b5 160 (by decide), a1 j hj]) (by rw [e3 157 (by decide), b4 4 (by decide), a3 157 (by decide)]) (by rw [e3 157 (by decide), b4 6 (by decide), a3 157 (by decide)]) (by rw [e3 161 (by decide), b5 161 (by decide), a3 161 (by decide)]) (by rw [e3 162 (by decide), b5 162 (by decide), a3 162 (by decide)])
  have hf3 : ∀ a, a < 157 → g3 a = g a := fun a ha => by rw [e3 a (by omega), b5 a (by omega), a3 a (by omega)]
  have h20 : g3 157 20 = nI rs := by rw [e3 157 (by decide)]; exact b2
  refine r_run 400 rfl rfl ?_
  simp only [Nat.reduceAdd]
  rw [h20]
  by_cases z : rs = 0
  · rw [if_pos z] at k
    subst z
    refine r_le0 rfl (fun _ => ?_) (fun z => absurd (by decide) z)
    refine r_run 400 rfl rfl ?_
    refine r_inv rfl rfl rfl ?_
    refine m_records (d + 7) T g3 _ h3 hk (fun g4 r1 r2 r3 r4 => ?_)
    have h158 : g4 158 = g3 158 := r4 158 (by decide) (by decide)
    have hmt : MT g4 (tL T) (tX T) := MT_row (MS_MT h3 hk) (r3 6 (by decide)) (r4 162 (by decide) (by decide))
    refine r_run 400 rfl rfl ?_
    refine r_inv rfl rfl rfl ?_
    refine m_doesAll d (tL T) (tX T) (tV T) g4 _ hmt (MG_f h158 h3.1) hk.1 (fun g5 V2 n2 rs2 bg2 cs2 ee hrs2 hvk2 c1 c2 c3 c4 c5 => ?_)
    have ee : tRun T = (V2, n2, rs2, bg2, cs2) := ee
    rw [hR] at ee
    cases ee
    refine r_run 400 rfl rfl ?_
    have ha : aCh (nI 0) n = nI n := by
      unfold aCh
      rw [if_neg (by decide)]
    have hp : pCh T (nI 0) V' = (V', min (tK T + 1) 4, tPush (tV T) (tH T), tL T, tX T) := by
      unfold pCh
      rw [if_neg (by decide)]
    rw [ha, hp] at k
    refine r_iret rfl rfl (k g5 (MS_ch2 h3 r1 r2 r3 r4 c1 (c4 4 (by decide)) (c4 6 (by decide)) (c5 161 (by decide)) (c5 162 (by decide))) (fun a ha => by rw [c5 a (by omega), r4 a (by omega) (by omega)]; exact hf3 a ha))
  · rw [if_neg z] at k
    refine r_le0 rfl (fun y => ?_) (fun _ => ?_)
    · exfalso
      have y : nI rs ≤ nI 0 := y
      rw [nI_leI (by omega) (by omega)] at y
      omega
    · refine r_run 400 rfl rfl ?_
      refine r_iret rfl rfl ?_
      have e2 : pCh T (-1000002) V' = T := if_pos (by decide)
      have e4 : aCh (-1000002) n = -1000002 := if_pos (by decide)
      rw [e2] at k
      rw [e4] at k
      exact k g3 h3 hf3
