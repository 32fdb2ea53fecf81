/-! ===== the class's questions ===== -/
def qChair (V : xV) (j w : Int32) : Int32 := if iN j < vc V then (if w = nI 0 then nI (vtn V (iN j)) else if w = nI 1 then vsa V (iN j) else if w = nI 2 then (match vsi V (iN j) with | none => -1000004 | some q => nI q) else -1000001) else -1000001
def qPlayer (V : xV) (p w : Int32) : Int32 := if iN p < vn V then
  (if w = nI 0 then nI (vst V (iN p)) else if w = nI 1 then nI (vea V (iN p)) else if w = nI 2 then (if vin V (iN p) = true then nI 1 else nI 0) else if w = nI 3 then (if vph V = 1 ∧ vin V (iN p) = true then nI (vpl V (iN p)) else -1000004) else if w = nI 4 then vss V (iN p) else if w = nI 5 then vbu V (iN p) else if w = nI 6 then vwa V (iN p) else if w = nI 7 then (if vin V (iN p) = true then -1000004 else vou V (iN p)) else if w = nI 8 then (if vti V (iN p) = 0 then -1000004 else nI (vti V (iN p))) else -1000001) else -1000001
def qHears (V : xV) (p j : Int32) : Int32 := if iN p < vn V ∧ iN j < vc V then (if vhr V (iN p) (iN j) = true then nI 1 else nI 0) else -1000001
def qBell (V : xV) (a w : Int32) : Int32 := if ¬ a < 0 ∧ iN w < 5 then (if iN a < (vR V).1 then (vR V).2 (iN a) (iN w) else -1000004) else -1000001
theorem iN_neg {a : Int32} (h : a < 0) : 2 ^ 31 ≤ iN a := by
  apply Nat.le_of_not_lt
  intro z
  rw [← nI_iN a] at h
  exact nI_pos z h
set_option maxHeartbeats 4000000 in
theorem s_chairOf (d : Nat) (T : xT) (j w : Int32) (g : xG) (Q : xQ) (h : SG g T) (hk : tOk T) (k : Q (some (.int (qChair (tV T) j w))) g) : Cx (d + 2) i_Bc_chairOf [.ref 1, .int j, .int w] g Q := by
  obtain ⟨nx, ⟨h1, h2, h3, h4, h5, h6⟩, -⟩ := h
  have hvk := hk.1
  obtain ⟨⟨v1, v2, v3, v4, v5, v6⟩, -, -, vt8, vsi12, vpl, -⟩ := id hvk
  refine r_cl (L0 := [some (.ref 1), some (.int j), some (.int w), none]) rfl (Or.inr ⟨_, _, _, rfl, rfl⟩) rfl rfl rfl ?_
  refine r_run 400 rfl rfl ?_
  refine r_inv rfl rfl rfl ?_
  refine c_Chairs_has_2 d j g _ h2 v5 (fun c hc e => ?_) (fun e => ?_)
  · subst e
    have ei : iN (nI c) = c := iN_nI (by omega)
    have hq : qChair (tV T) (nI c) w = (if w = nI 0 then nI (vtn (tV T) c) else if w = nI 1 then vsa (tV T) c else if w = nI 2 then (match vsi (tV T) c with | none => -1000004 | some q => nI q) else -1000001) := by
      unfold qChair
      rw [ei, if_pos hc]
    rw [hq] at k
    obtain ⟨z1, z2, z3⟩ := h3 c hc
    refine t_ne1 rfl ?_
    refine r_run 400 rfl rfl ?_
    refine r_tsw rfl rfl ⟨fun q hq e => ?_, fun hno => ?_⟩
    · simp only [List.mem_cons, List.not_mem_nil, or_false] at hq
      rcases hq with rfl | rfl | rfl
      · dsimp only at e
        subst e
        refine r_run 400 rfl rfl ?_
        refine r_ald (j := c) rfl rfl (rfl) (by omega) (Nat.le_of_ble_eq_true rfl) ?_
        refine r_run 400 rfl rfl ?_
        exact r_iret rfl rfl (by rw [if_pos rfl] at k; exact (show g 4 c = _ from z1) ▸ k)
      · dsimp only at e
        subst e
        rw [if_neg (by decide), if_pos rfl] at k
        refine r_run 400 rfl rfl ?_
        refine r_ald (j := c) rfl rfl (rfl) (by omega) (Nat.le_of_ble_eq_true rfl) ?_
        refine r_run 400 rfl rfl ?_
        exact r_iret rfl rfl ((show g 5 c = _ from z2) ▸ k)
      · dsimp only at e
        subst e
        rw [if_neg (by decide), if_neg (by decide), if_pos rfl] at k
        refine r_run 400 rfl rfl ?_
        refine r_ald (j := c) rfl rfl (rfl) (by omega) (Nat.le_of_ble_eq_true rfl) ?_
        refine r_run 400 rfl rfl ?_
        have z3 : g 6 c = x_on (vsi (tV T) c) := z3
        simp only [Nat.reduceAdd]
        rw [z3]
        cases hs : vsi (tV T) c with
        | none =>
          rw [hs] at k
          refine r_ieq rfl (fun _ => ?_) (fun z => absurd rfl z)
          refine r_run 400 rfl rfl ?_
          refine r_ald (j := c) rfl rfl (rfl) (by omega) (Nat.le_of_ble_eq_true rfl) ?_
          refine r_ins rfl rfl rfl rfl ?_
          refine c_foundF d _ g _ ?_
          exact r_iret rfl rfl k
        | some q =>
          rw [hs] at k
          have hq := vsi12 c q hs
          refine r_ieq rfl (fun z => ?_) (fun _ => ?_)
          · rw [x_on_m1 (fun q h => by cases h; omega)] at z
            cases z
          · refine r_run 400 rfl rfl ?_
            refine r_ald (j := c) rfl rfl (rfl) (by omega) (Nat.le_of_ble_eq_true rfl) ?_
            simp only [Nat.reduceAdd]
            rw [z3, hs]
            refine r_ins rfl rfl rfl rfl ?_
            refine c_foundT d _ g _ ?_
            exact r_iret rfl rfl k
    · simp only [List.mem_cons, List.not_mem_nil, or_false, forall_eq_or_imp, forall_eq] at hno
      obtain ⟨n0, n1, n2⟩ := hno
      rw [if_neg n0, if_neg n1, if_neg n2] at k
      refine r_run 400 rfl rfl ?_
      exact r_iret rfl rfl k
  · refine t_ne0 rfl ?_
    refine r_run 400 rfl rfl ?_
    refine r_iret rfl rfl ?_
    unfold qChair at k
    rw [if_neg (fun z => by obtain ⟨c, z1, z2⟩ := (iN_lt (by omega)).mp z; exact e c z1 z2)] at k
    exact k
set_option maxHeartbeats 4000000 in
theorem s_hears (d : Nat) (T : xT) (p j : Int32) (g : xG) (Q : xQ) (h : SG g T) (hk : tOk T) (k : Q (some (.int (qHears (tV T) p j))) g) : Cx (d + 2) i_Bc_hears [.ref 1, .int p, .int j] g Q := by
  obtain ⟨nx, ⟨h1, h2, h3, h4, h5, h6⟩, -⟩ := h
  have hvk := hk.1
  obtain ⟨⟨v1, v2, v3, v4, v5, v6⟩, -, -, vt8, vsi12, vpl, -⟩ := id hvk
  refine r_cl (L0 := [some (.ref 1), some (.int p), some (.int j)]) rfl (Or.inr ⟨_, _, _, rfl, rfl⟩) rfl rfl rfl ?_
  have hn : g 7 9 = nI (vn (tV T)) := h4.2
  have hc : g 3 3 = nI (vc (tV T)) := h2
  refine r_run 400 rfl rfl ?_
  refine r_inv rfl rfl rfl ?_
  refine c_Players_has_2 d p g _ hn v6 (fun q hq e => ?_) (fun e => ?_)
  · subst e
    refine t_eq1 rfl ?_
    refine r_run 400 rfl rfl ?_
    refine r_inv rfl rfl rfl ?_
    refine c_Chairs_has_2 d j g _ hc v5 (fun c hcc e => ?_) (fun e => ?_)
    · subst e
      obtain ⟨z1, z2, z3⟩ := h3 c hcc
      have y := h5 q hq
      have yp := vpl q hq
      have hqq : qHears (tV T) (nI q) (nI c) = if vhr (tV T) q c = true then nI 1 else nI 0 := by
        unfold qHears
        rw [iN_nI (by omega), iN_nI (by omega), if_pos ⟨hq, hcc⟩]
      rw [hqq] at k
      refine t_ne1 rfl ?_
      refine r_run 400 rfl rfl ?_
      refine r_ald (j := c) rfl rfl (rfl) (by omega) (Nat.le_of_ble_eq_true rfl) ?_
      simp only [x_up_app, x_ce_app, x_ce_same, Nat.reduceAdd, Nat.reduceEqDiff, ↓reduceIte, Nat.reduceSub, Nat.reduceMul, reduceCtorEq, show g 4 c = _ from z1]
      refine r_inv rfl rfl rfl ?_
      have ht8 := vt8 c hcc
      refine c_hearsTone_2 d q (vtn (tV T) c) g _ (by omega) y.2.1 (by omega) (by omega) (fun hb => ?_) (fun hb => ?_)
      · have hv : vhr (tV T) q c = true := x_bit_tb.mp hb
        rw [if_pos hv] at k
        refine t_eq1 rfl ?_
        refine r_run 400 rfl rfl ?_
        exact r_iret rfl rfl k
      · have hv : ¬ vhr (tV T) q c = true := fun z => hb (x_bit_tb.mpr z)
        rw [if_neg hv] at k
        refine t_eq0 rfl ?_
        refine r_run 400 rfl rfl ?_
        exact r_iret rfl rfl k
    · refine t_ne0 rfl ?_
      refine r_run 400 rfl rfl ?_
      refine r_iret rfl rfl ?_
      unfold qHears at k
      rw [if_neg (fun z => by obtain ⟨c, z1, z2⟩ := (iN_lt (by omega)).mp z.2; exact e c z1 z2)] at k
      exact k
  · refine t_eq0 rfl ?_
    refine r_run 400 rfl rfl ?_
    refine r_iret rfl rfl ?_
    unfold qHears at k
    rw [if_neg (fun z => by obtain ⟨c, z1, z2⟩ := (iN_lt (by omega)).mp z.1; exact e c z1 z2)] at k
    exact k
set_option maxHeartbeats 4000000 in
theorem s_bell (d : Nat) (T : xT) (a w : Int32) (g : xG) (Q : xQ) (h : SG g T) (k : Q (some (.int (qBell (tV T) a w))) g) : Cx (d + 2) i_Bc_bell [.ref 1, .int a, .int w] g Q := by
  obtain ⟨nx, ⟨h1, h2, h3, h4, h5, hb⟩, -⟩ := h
  obtain ⟨b, i1, i2, i3, i4, i5⟩ := hb
  have i3 : g 16 6 = nI (vR (tV T)).1 := i3
  have bad : (a < 0 ∨ 5 ≤ iN w) → Rx (d + 1) m_Bc_bell Q 13 [some (.ref 1), some (.int a), some (.int w), none, none] [] g := by
    intro hbad
    refine r_run 400 rfl rfl ?_
    refine r_iret rfl rfl ?_
    unfold qBell at k
    rw [if_neg (by
      intro z
      rcases hbad with h | h
      · exact z.1 h
      · omega)] at k
    exact k
  refine r_cl (L0 := [some (.ref 1), some (.int a), some (.int w), none, none]) rfl (Or.inr ⟨_, _, _, rfl, rfl⟩) rfl rfl rfl ?_
  refine r_run 400 rfl rfl ?_
  refine r_lt0 rfl (fun ha => bad (Or.inl ha)) (fun ha => ?_)
  refine r_run 400 rfl rfl ?_
  refine r_lt0 rfl (fun hw => bad (Or.inr (by have := iN_neg hw; omega))) (fun hw => ?_)
  obtain ⟨w, hw1, rfl⟩ := nI_of hw
  obtain ⟨a, ha1, rfl⟩ := nI_of ha
  have ew : iN (nI w) = w := iN_nI (by omega)
  have ea : iN (nI a) = a := iN_nI (by omega)
  refine r_run 400 rfl rfl ?_
  refine n_ile rfl hw1 (by omega) (fun hw4 => ?_) (fun hw4 => ?_)
  · unfold qBell at k
    rw [ew, ea, if_pos ⟨ha, by omega⟩] at k
    refine r_run 400 rfl rfl ?_
    simp only [x_up_app, x_ce_app, x_ce_same, Nat.reduceAdd, Nat.reduceEqDiff, ↓reduceIte, Nat.reduceSub, Nat.reduceMul, reduceCtorEq, i3]
    refine n_ilt rfl ha1 (by omega) (fun hak => ?_) (fun hak => ?_)
    · rw [if_pos hak] at k
      rw [← i5 a w hak (by omega)] at k
      refine r_run 400 rfl rfl ?_
      refine r_inv rfl rfl rfl ?_
      refine c_rowOf_2 d a b g _ i1 i2 (by omega) ?_
      refine r_run 400 rfl rfl ?_
      have hrow : (b + 11 - a) % 12 < 12 := Nat.mod_lt _ (by omega)
      generalize (b + 11 - a) % 12 = row at k hrow ⊢
      refine r_tsw rfl rfl ⟨fun q hq e => ?_, fun hno => ?_⟩
      · simp only [List.mem_cons, List.not_mem_nil, or_false] at hq
        rcases hq with rfl | rfl | rfl | rfl
        all_goals
          have e := (nI_eq (by omega) (by omega)).mp e
          subst e
          refine r_run 400 rfl rfl ?_
          refine r_ald (j := row) rfl rfl rfl (by omega) (Nat.le_of_ble_eq_true rfl) ?_
          refine r_run 400 rfl rfl ?_
          exact r_iret rfl rfl k
      · simp only [List.mem_cons, List.not_mem_nil, or_false, forall_eq_or_imp, forall_eq] at hno
        obtain ⟨n0, n1, n2, n3⟩ := hno
        have e : w = 4 := by
          have m0 : ¬ w = 0 := fun e => n0 (by rw [e])
          have m1 : ¬ w = 1 := fun e => n1 (by rw [e])
          have m2 : ¬ w = 2 := fun e => n2 (by rw [e])
          have m3 : ¬ w = 3 := fun e => n3 (by rw [e])
          omega
        subst e
        refine r_run 400 rfl rfl ?_
        refine r_ald (j := row) rfl rfl (rfl) (by omega) (Nat.le_of_ble_eq_true rfl) ?_
        refine r_run 400 rfl rfl ?_
        exact r_iret rfl rfl k
    · rw [if_neg (by omega)] at k
      refine r_run 400 rfl rfl ?_
      exact r_iret rfl rfl k
  · exact bad (Or.inr (by omega))
