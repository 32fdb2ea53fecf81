/-! ===== the class's questions, on ===== -/
def qIf (V : xV) (p w : Int32) : Int32 := if iN p < vn V ∧ iN w < 3 then (if vph V = 1 ∧ vin V (iN p) = true then (if iN w = 0 then (match XS (vX V 0 (vTT V 0)) (iN p) with | none => -1000004 | some q => nI q) else if iN w = 1 then nI (XB (vX V 0 (vTT V 0)) (iN p)) else nI (XT (vX V 0 (vTT V 0)) (iN p))) else -1000002) else -1000001
def qOuts (V : xV) : Int32 := if vph V = 1 then aStop V else -1000002
def vSafe (V : xV) (p : Nat) : Nat := x_lf (fun b => (XS (vX V b (vTT V b)) p).isSome) 25 0
def qSafe (V : xV) (p : Int32) : Int32 := if iN p < vn V then (if vph V = 1 ∧ vin V (iN p) = true then (if vSafe V (iN p) < 25 then nI (vSafe V (iN p)) else -1000004) else -1000002) else -1000001
/-- one who plays, in the number of those who play -/
theorem vplay {g : xG} {V : xV} {p : Nat} (h : CG g 2 V) (hk : vOk V) (hp : p < vn V) : ∃ m, g 7 8 = nI m ∧ m < 2 ^ 31 ∧ (x_bit m p ↔ vin V p = true) := by
  exact x_mk_t (show x_mk (g 7 8) _ _ from h.2.2.2.1.1) hp (by have := hk.1.2.2.2.2.2; omega)
set_option maxHeartbeats 4000000 in
theorem s_playerOf (d : Nat) (T : xT) (p w : Int32) (g : xG) (Q : xQ) (h : SG g T) (hk : tOk T) (k : Q (some (.int (qPlayer (tV T) p w))) g) : Cx (d + 2) i_Bc_playerOf [.ref 1, .int p, .int w] g Q := by
  obtain ⟨nx, h, -⟩ := h
  have hcg := h
  obtain ⟨⟨h1p, h1⟩, h2, h3, h4, h5, h6⟩ := h
  have hvk := hk.1
  obtain ⟨⟨v1, v2, v3, v4, v5, v6⟩, -, -, vt8, vsi12, wpl, -⟩ := id hvk
  refine r_cl (L0 := [some (.ref 1), some (.int p), some (.int w), none, none]) rfl (Or.inr ⟨_, _, _, rfl, rfl⟩) rfl rfl rfl ?_
  have hn : g 7 9 = nI (vn (tV T)) := h4.2
  refine r_run 400 rfl rfl ?_
  refine r_inv rfl rfl rfl ?_
  refine c_Players_has_2 d p g _ hn v6 (fun q hq e => ?_) (fun e => ?_)
  · subst e
    have ei : iN (nI q) = q := iN_nI (by omega)
    have hqe : qPlayer (tV T) (nI q) w = (if w = nI 0 then nI (vst (tV T) q) else if w = nI 1 then nI (vea (tV T) q) else if w = nI 2 then (if vin (tV T) q = true then nI 1 else nI 0) else if w = nI 3 then (if vph (tV T) = 1 ∧ vin (tV T) q = true then nI (vpl (tV T) q) else -1000004) else if w = nI 4 then vss (tV T) q else if w = nI 5 then vbu (tV T) q else if w = nI 6 then vwa (tV T) q else if w = nI 7 then (if vin (tV T) q = true then -1000004 else vou (tV T) q) else if w = nI 8 then (if vti (tV T) q = 0 then -1000004 else nI (vti (tV T) q)) else -1000001) := by
      unfold qPlayer
      rw [ei, if_pos hq]
    rw [hqe] at k
    obtain ⟨z1, z2, z3, z4, z5, z6, z7, z8⟩ := h5 q hq
    have z1 : g 8 q = _ := z1
    have z2 : g 9 q = _ := z2
    have z3 : g 10 q = _ := z3
    have z4 : g 11 q = _ := z4
    have z5 : g 12 q = _ := z5
    have z6 : g 13 q = _ := z6
    have z7 : g 14 q = _ := z7
    have z8 : g 15 q = _ := z8
    have y8 := (wpl q hq).2.2.2
    obtain ⟨m, m1, m2, m3⟩ := vplay hcg hvk hq
    refine t_ne1 rfl ?_
    refine r_run 400 rfl rfl ?_
    -- behind: whether he plays
    have rest : ∀ (b : Bool), vin (tV T) q = b → Rx (d + 1) m_Bc_playerOf Q 26 [some (.ref 1), some (.int (nI q)), some (.int w), some (.ref 7), some (.int (if b = true then nI 1 else nI 0))] [] g := by
      intro b hb
      rw [hb] at k
      refine r_run 400 rfl rfl ?_
      refine r_tsw rfl rfl ⟨fun x hx e => ?_, fun hno => ?_⟩
      · simp only [List.mem_cons, List.not_mem_nil, or_false] at hx
        rcases hx with rfl | rfl | rfl | rfl | rfl | rfl | rfl | rfl | rfl
        · dsimp only at e
          subst e
          rw [if_pos rfl] at k
          refine r_run 400 rfl rfl ?_
          refine r_ald (j := q) rfl rfl (rfl) (by omega) (Nat.le_of_ble_eq_true rfl) ?_
          refine r_run 400 rfl rfl ?_
          simp only [Nat.reduceAdd]
          rw [z1]
          exact r_iret rfl rfl k
        · dsimp only at e
          subst e
          rw [if_neg (by decide), if_pos rfl] at k
          refine r_run 400 rfl rfl ?_
          refine r_ald (j := q) rfl rfl (rfl) (by omega) (Nat.le_of_ble_eq_true rfl) ?_
          refine r_run 400 rfl rfl ?_
          simp only [Nat.reduceAdd]
          rw [z2]
          exact r_iret rfl rfl k
        · dsimp only at e
          subst e
          rw [if_neg (by decide), if_neg (by decide), if_pos rfl] at k
          cases b with
          | true =>
            refine r_run 400 rfl rfl ?_
            refine t_eq1 rfl ?_
            refine r_run 400 rfl rfl ?_
            exact r_iret rfl rfl k
          | false =>
            refine r_run 400 rfl rfl ?_
            refine t_eq0 rfl ?_
            refine r_run 400 rfl rfl ?_
            exact r_iret rfl rfl k
        · dsimp only at e
          subst e
          rw [if_neg (by decide), if_neg (by decide), if_neg (by decide), if_pos rfl] at k
          refine r_run 400 rfl rfl ?_
          simp only [Nat.reduceAdd]
          rw [h1p]
          have noo : (¬ (vph (tV T) = 1 ∧ b = true)) → Rx (d + 1) m_Bc_playerOf Q 121 [some (.ref 1), some (.int (nI q)), some (.int (nI 3)), some (.ref 7), some (.int (if b = true then nI 1 else nI 0))] [] g := by
            intro hno
            rw [if_neg hno] at k
            refine r_run 400 rfl rfl ?_
            refine r_ald (j := q) rfl rfl (rfl) (by omega) (Nat.le_of_ble_eq_true rfl) ?_
            refine r_ins rfl rfl rfl rfl ?_
            refine c_foundF d _ g _ ?_
            exact r_iret rfl rfl k
          refine n_ine rfl (by omega) (by omega) (fun hne => noo (fun z => hne z.1)) (fun he => ?_)
          cases b with
          | true =>
            rw [if_pos ⟨he, rfl⟩] at k
            refine r_run 400 rfl rfl ?_
            refine t_eq1 rfl ?_
            refine r_run 400 rfl rfl ?_
            refine r_ald (j := q) rfl rfl (rfl) (by omega) (Nat.le_of_ble_eq_true rfl) ?_
            simp only [Nat.reduceAdd]
            rw [z3]
            refine r_ins rfl rfl rfl rfl ?_
            refine c_foundT d _ g _ ?_
            exact r_iret rfl rfl k
          | false =>
            refine r_run 400 rfl rfl ?_
            refine t_eq0 rfl ?_
            exact noo (fun z => by cases z.2)
        · dsimp only at e
          subst e
          rw [if_neg (by decide), if_neg (by decide), if_neg (by decide), if_neg (by decide), if_pos rfl] at k
          refine r_run 400 rfl rfl ?_
          refine r_ald (j := q) rfl rfl (rfl) (by omega) (Nat.le_of_ble_eq_true rfl) ?_
          refine r_run 400 rfl rfl ?_
          simp only [Nat.reduceAdd]
          rw [z4]
          exact r_iret rfl rfl k
        · dsimp only at e
          subst e
          rw [if_neg (by decide), if_neg (by decide), if_neg (by decide), if_neg (by decide), if_neg (by decide), if_pos rfl] at k
          refine r_run 400 rfl rfl ?_
          refine r_ald (j := q) rfl rfl (rfl) (by omega) (Nat.le_of_ble_eq_true rfl) ?_
          refine r_run 400 rfl rfl ?_
          simp only [Nat.reduceAdd]
          rw [z5]
          exact r_iret rfl rfl k
        · dsimp only at e
          subst e
          rw [if_neg (by decide), if_neg (by decide), if_neg (by decide), if_neg (by decide), if_neg (by decide), if_neg (by decide), if_pos rfl] at k
          refine r_run 400 rfl rfl ?_
          refine r_ald (j := q) rfl rfl (rfl) (by omega) (Nat.le_of_ble_eq_true rfl) ?_
          refine r_run 400 rfl rfl ?_
          simp only [Nat.reduceAdd]
          rw [z6]
          exact r_iret rfl rfl k
        · dsimp only at e
          subst e
          rw [if_neg (by decide), if_neg (by decide), if_neg (by decide), if_neg (by decide), if_neg (by decide), if_neg (by decide), if_neg (by decide), if_pos rfl] at k
          cases b with
          | true =>
            rw [if_pos rfl] at k
            refine r_run 400 rfl rfl ?_
            refine t_ne1 rfl ?_
            refine r_run 400 rfl rfl ?_
            refine r_ald (j := q) rfl rfl (rfl) (by omega) (Nat.le_of_ble_eq_true rfl) ?_
            refine r_ins rfl rfl rfl rfl ?_
            refine c_foundF d _ g _ ?_
            exact r_iret rfl rfl k
          | false =>
            rw [if_neg (by decide)] at k
            refine r_run 400 rfl rfl ?_
            refine t_ne0 rfl ?_
            refine r_run 400 rfl rfl ?_
            refine r_ald (j := q) rfl rfl (rfl) (by omega) (Nat.le_of_ble_eq_true rfl) ?_
            simp only [Nat.reduceAdd]
            rw [z7]
            refine r_ins rfl rfl rfl rfl ?_
            refine c_foundT d _ g _ ?_
            exact r_iret rfl rfl k
        · dsimp only at e
          subst e
          rw [if_neg (by decide), if_neg (by decide), if_neg (by decide), if_neg (by decide), if_neg (by decide), if_neg (by decide), if_neg (by decide), if_neg (by decide), if_pos rfl] at k
          refine r_run 400 rfl rfl ?_
          refine r_ald (j := q) rfl rfl (rfl) (by omega) (Nat.le_of_ble_eq_true rfl) ?_
          refine r_run 400 rfl rfl ?_
          simp only [Nat.reduceAdd]
          rw [z8]
          refine r_le0 rfl (fun z => ?_) (fun z => ?_)
          · have e0 : vti (tV T) q = 0 := by
              have := (nI_leI (b := 0) (by omega) (by omega)).mp z
              omega
            rw [if_pos e0] at k
            refine r_run 400 rfl rfl ?_
            refine r_ald (j := q) rfl rfl (rfl) (by omega) (Nat.le_of_ble_eq_true rfl) ?_
            refine r_ins rfl rfl rfl rfl ?_
            refine c_foundF d _ g _ ?_
            exact r_iret rfl rfl k
          · have e0 : ¬ vti (tV T) q = 0 := fun e => z (by rw [e]; decide)
            rw [if_neg e0] at k
            refine r_run 400 rfl rfl ?_
            refine r_ald (j := q) rfl rfl (rfl) (by omega) (Nat.le_of_ble_eq_true rfl) ?_
            simp only [Nat.reduceAdd]
            rw [z8]
            refine r_ins rfl rfl rfl rfl ?_
            refine c_foundT d _ g _ ?_
            exact r_iret rfl rfl k
      · simp only [List.mem_cons, List.not_mem_nil, or_false, forall_eq_or_imp, forall_eq] at hno
        obtain ⟨n0, n1, n2, n3, n4, n5, n6, n7, n8⟩ := hno
        rw [if_neg n0, if_neg n1, if_neg n2, if_neg n3, if_neg n4, if_neg n5, if_neg n6, if_neg n7, if_neg n8] at k
        refine r_run 400 rfl rfl ?_
        exact r_iret rfl rfl k
    refine r_inv rfl rfl rfl ?_
    refine c_isPlaying_2 d q g _ m1 m2 (by omega) (fun hb => ?_) (fun hb => ?_)
    · refine r_to 26 60 rfl rfl ?_
      exact rest true (m3.mp hb)
    · refine r_to 26 60 rfl rfl ?_
      exact rest false (by
        cases hh : vin (tV T) q with
        | false => rfl
        | true => exact absurd (m3.mpr hh) hb)
  · refine t_ne0 rfl ?_
    refine r_run 400 rfl rfl ?_
    refine r_iret rfl rfl ?_
    unfold qPlayer at k
    rw [if_neg (fun z => by obtain ⟨c, z1, z2⟩ := (iN_lt (by omega)).mp z; exact e c z1 z2)] at k
    exact k
theorem SG_fr {g g' : xG} {T : xT} (h : SG g T) (e : ∀ a, (a < 124 ∨ 133 < a) → g' a = g a) : SG g' T := by
  obtain ⟨nx, h⟩ := h
  exact ⟨nx, SGn_row h (fun a _ => e a (by omega))⟩
set_option maxHeartbeats 4000000 in
theorem s_outs (d : Nat) (T : xT) (g : xG) (Q : xQ) (h : SG g T) (hk : tOk T) (k : ∀ g' : xG, SG g' T → (∀ a, 157 ≤ a → g' a = g a) → Q (some (.int (qOuts (tV T)))) g') : Cx (d + 4) i_Bc_outs [.ref 1] g Q := by
  have hsg := h
  obtain ⟨nx, h, -⟩ := h
  have h1p : g 2 3 = nI (vph (tV T)) := h.1.1
  have hvk := hk.1
  have v1 := hvk.1.1
  have h16 := hvk.1.2.2.2.2
  unfold qOuts at k
  refine r_cl (L0 := [some (.ref 1)]) rfl (Or.inr ⟨_, _, _, rfl, rfl⟩) rfl rfl rfl ?_
  refine r_run 400 rfl rfl ?_
  simp only [x_up_app, x_ce_app, x_ce_same, Nat.reduceAdd, Nat.reduceEqDiff, ↓reduceIte, Nat.reduceSub, Nat.reduceMul, reduceCtorEq, h1p]
  refine n_ieq rfl (by omega) (by omega) (fun hph => ?_) (fun hph => ?_)
  · rw [if_pos hph] at k
    refine r_run 400 rfl rfl ?_
    refine r_inv rfl rfl rfl ?_
    refine c_vFollow_2 d 0 (tV T) g _ h hvk hph (by omega) (fun g1 hT hgr h11 hfr => ?_)
    refine r_run 400 rfl rfl ?_
    have e : g1 124 10 = aStop (tV T) := x_mk_enc hgr.2.1
    simp only [x_up_app, x_ce_app, x_ce_same, Nat.reduceAdd, Nat.reduceEqDiff, ↓reduceIte, Nat.reduceSub, Nat.reduceMul, reduceCtorEq, e]
    exact r_iret rfl rfl (k g1 (SG_fr hsg hfr) (fun a ha => hfr a (by omega)))
  · rw [if_neg hph] at k
    refine r_run 400 rfl rfl ?_
    exact r_iret rfl rfl (k g hsg (fun _ _ => rfl))
set_option maxHeartbeats 4000000 in
theorem s_ifStopped (d : Nat) (T : xT) (p w : Int32) (g : xG) (Q : xQ) (h : SG g T) (hk : tOk T) (k : ∀ g' : xG, SG g' T → (∀ a, 157 ≤ a → g' a = g a) → Q (some (.int (qIf (tV T) p w))) g') : Cx (d + 4) i_Bc_ifStopped [.ref 1, .int p, .int w] g Q := by
  have hsg := h
  obtain ⟨nx, h, -⟩ := h
  have h1p : g 2 3 = nI (vph (tV T)) := h.1.1
  have hvk := hk.1
  obtain ⟨⟨v1, v2, v3, v4, v5, v6⟩, -, vc1, vt8, vsi12, vpl, -⟩ := id hvk
  have hn : g 7 9 = nI (vn (tV T)) := h.2.2.2.1.2
  have bad : ¬ (iN p < vn (tV T) ∧ iN w < 3) → Rx (d + 3) m_Bc_ifStopped Q 23 [some (.ref 1), some (.int p), some (.int w)] [] g := by
    intro hno
    unfold qIf at k
    rw [if_neg hno] at k
    refine r_run 400 rfl rfl ?_
    exact r_iret rfl rfl (k g hsg (fun _ _ => rfl))
  refine r_cl (L0 := [some (.ref 1), some (.int p), some (.int w)]) rfl (Or.inr ⟨_, _, _, rfl, rfl⟩) rfl rfl rfl ?_
  refine r_run 400 rfl rfl ?_
  refine r_inv rfl rfl rfl ?_
  refine c_Players_has_2 (d + 2) p g _ hn v6 (fun q hq e => ?_) (fun e => ?_)
  · subst e
    have ei : iN (nI q) = q := iN_nI (by omega)
    refine t_eq1 rfl ?_
    refine r_run 400 rfl rfl ?_
    refine r_lt0 rfl (fun hw => bad (fun z => by have := iN_neg hw; omega)) (fun hw => ?_)
    obtain ⟨w, hw1, rfl⟩ := nI_of hw
    have ew : iN (nI w) = w := iN_nI (by omega)
    refine r_run 400 rfl rfl ?_
    refine n_ile rfl hw1 (by omega) (fun hw2 => ?_) (fun hw2 => bad (fun z => by omega))
    obtain ⟨m, m1, m2, m3⟩ := vplay h hvk hq
    unfold qIf at k
    rw [ei, ew, if_pos ⟨hq, by omega⟩] at k
    refine r_run 400 rfl rfl ?_
    simp only [x_up_app, x_ce_app, x_ce_same, Nat.reduceAdd, Nat.reduceEqDiff, ↓reduceIte, Nat.reduceSub, Nat.reduceMul, reduceCtorEq, h1p]
    have bad2 : ¬ (vph (tV T) = 1 ∧ vin (tV T) q = true) → Rx (d + 3) m_Bc_ifStopped Q 51 [some (.ref 1), some (.int (nI q)), some (.int (nI w))] [] g := by
      intro hno
      rw [if_neg hno] at k
      refine r_run 400 rfl rfl ?_
      exact r_iret rfl rfl (k g hsg (fun _ _ => rfl))
    refine n_ine rfl (by omega) (by omega) (fun hph => bad2 (fun z => hph z.1)) (fun hph => ?_)
    refine r_run 400 rfl rfl ?_
    refine r_inv rfl rfl rfl ?_
    refine c_isPlaying_2 (d + 2) q g _ m1 m2 (by omega) (fun hb => ?_) (fun hb => ?_)
    · have hi := m3.mp hb
      rw [if_pos ⟨hph, hi⟩] at k
      refine t_ne1 rfl ?_
      refine r_run 400 rfl rfl ?_
      refine r_inv rfl rfl rfl ?_
      refine c_vFollow_2 d 0 (tV T) g _ h hvk hph (by omega) (fun g1 hT hgr h11 hfr => ?_)
      have k := k g1 (SG_fr hsg hfr) (fun a ha => hfr a (by omega))
      have hI := vIv (b := 0) (vc1 hph).1 (vTT (tV T) 0)
      generalize vX (tV T) 0 (vTT (tV T) 0) = X at k hgr hI
      obtain ⟨r1, r2, r3, r4, r5, r6, r7, r8, r9⟩ := hgr
      refine r_run 400 rfl rfl ?_
      refine r_lsw rfl rfl ⟨fun x hx e => ?_, fun hno => ?_⟩
      · simp only [List.mem_cons, List.not_mem_nil, or_false] at hx
        rcases hx with rfl | rfl
        · have e := (nI_eq (by omega) (by omega)).mp e
          subst e
          rw [if_pos rfl] at k
          refine r_run 400 rfl rfl ?_
          refine r_ald (j := q) rfl rfl (rfl) (by omega) (Nat.le_of_ble_eq_true rfl) ?_
          refine r_run 400 rfl rfl ?_
          simp only [Nat.reduceAdd]
          rw [r5 q hq]
          cases hs : XS X q with
          | none =>
            rw [hs] at k
            refine r_ieq rfl (fun _ => ?_) (fun z => absurd rfl z)
            refine r_run 400 rfl rfl ?_
            refine r_ald (j := q) rfl rfl (rfl) (by omega) (Nat.le_of_ble_eq_true rfl) ?_
            refine r_ins rfl rfl rfl rfl ?_
            refine c_foundF (d + 2) _ g1 _ ?_
            exact r_iret rfl rfl k
          | some s =>
            rw [hs] at k
            have hq := hI.2.2.2.2.2 q s hs
            refine r_ieq rfl (fun z => ?_) (fun _ => ?_)
            · rw [x_on_m1 (fun q h => by cases h; omega)] at z
              cases z
            · refine r_run 400 rfl rfl ?_
              refine r_ald (j := q) rfl rfl (rfl) (by omega) (Nat.le_of_ble_eq_true rfl) ?_
              simp only [Nat.reduceAdd]
              rw [r5 q (by omega), hs]
              refine r_ins rfl rfl rfl rfl ?_
              refine c_foundT (d + 2) _ g1 _ ?_
              exact r_iret rfl rfl k
        · have e := (nI_eq (by omega) (by omega)).mp e
          subst e
          rw [if_neg (by decide), if_pos rfl] at k
          refine r_run 400 rfl rfl ?_
          refine r_ald (j := q) rfl rfl (rfl) (by omega) (Nat.le_of_ble_eq_true rfl) ?_
          refine r_run 400 rfl rfl ?_
          simp only [Nat.reduceAdd]
          rw [r6 q hq]
          exact r_iret rfl rfl k
      · simp only [List.mem_cons, List.not_mem_nil, or_false, forall_eq_or_imp, forall_eq] at hno
        obtain ⟨n0, n1⟩ := hno
        rw [if_neg (fun e => n0 (by rw [e])), if_neg (fun e => n1 (by rw [e]))] at k
        refine r_run 400 rfl rfl ?_
        refine r_ald (j := q) rfl rfl (rfl) (by omega) (Nat.le_of_ble_eq_true rfl) ?_
        refine r_run 400 rfl rfl ?_
        simp only [Nat.reduceAdd]
        rw [r7 q hq]
        exact r_iret rfl rfl k
    · refine t_ne0 rfl ?_
      exact bad2 (fun z => hb (m3.mpr z.2))
  · refine t_eq0 rfl ?_
    exact bad (fun z => by obtain ⟨c, z1, z2⟩ := (iN_lt (by omega)).mp z.1; exact e c z1 z2)
set_option maxHeartbeats 4000000 in
theorem s_safeIn (d : Nat) (T : xT) (p : Int32) (g : xG) (Q : xQ) (h : SG g T) (hk : tOk T) (k : ∀ g' : xG, SG g' T → (∀ a, 157 ≤ a → g' a = g a) → Q (some (.int (qSafe (tV T) p))) g') : Cx (d + 4) i_Bc_safeIn [.ref 1, .int p] g Q := by
  have hsg := h
  obtain ⟨nx, h, -⟩ := h
  have h1p : g 2 3 = nI (vph (tV T)) := h.1.1
  have hvk := hk.1
  obtain ⟨⟨v1, v2, v3, v4, v5, v6⟩, -, vc1, vt8, vsi12, vpl, -⟩ := id hvk
  have hn : g 7 9 = nI (vn (tV T)) := h.2.2.2.1.2
  refine r_cl (L0 := [some (.ref 1), some (.int p), none]) rfl (Or.inr ⟨_, _, _, rfl, rfl⟩) rfl rfl rfl ?_
  refine r_run 400 rfl rfl ?_
  refine r_inv rfl rfl rfl ?_
  refine c_Players_has_2 (d + 2) p g _ hn v6 (fun q hq e => ?_) (fun e => ?_)
  · subst e
    have ei : iN (nI q) = q := iN_nI (by omega)
    unfold qSafe at k
    rw [ei, if_pos hq] at k
    refine t_ne1 rfl ?_
    obtain ⟨m, m1, m2, m3⟩ := vplay h hvk hq
    refine r_run 400 rfl rfl ?_
    simp only [x_up_app, x_ce_app, x_ce_same, Nat.reduceAdd, Nat.reduceEqDiff, ↓reduceIte, Nat.reduceSub, Nat.reduceMul, reduceCtorEq, h1p]
    have bad2 : ¬ (vph (tV T) = 1 ∧ vin (tV T) q = true) → Rx (d + 3) m_Bc_safeIn Q 42 [some (.ref 1), some (.int (nI q)), none] [] g := by
      intro hno
      rw [if_neg hno] at k
      refine r_run 400 rfl rfl ?_
      exact r_iret rfl rfl (k g hsg (fun _ _ => rfl))
    refine n_ine rfl (by omega) (by omega) (fun hph => bad2 (fun z => hph z.1)) (fun hph => ?_)
    refine r_run 400 rfl rfl ?_
    refine r_inv rfl rfl rfl ?_
    refine c_isPlaying_2 (d + 2) q g _ m1 m2 (by omega) (fun hb => ?_) (fun hb => ?_)
    · have hi := m3.mp hb
      rw [if_pos ⟨hph, hi⟩] at k
      refine t_ne1 rfl ?_
      have loop : ∀ b, b ≤ 25 → ∀ g' : xG, (∀ c, c < b → (XS (vX (tV T) c (vTT (tV T) c)) q).isSome = false) → (∀ a, (a < 124 ∨ 133 < a) → g' a = g a) → Rx (d + 3) m_Bc_safeIn Q 47 [some (.ref 1), some (.int (nI q)), some (.int (nI b))] [] g' := by
        refine r_for ?_ ?_
        · intro g' hb hf
          have hv : ¬ vSafe (tV T) q < 25 := by
            intro z
            have : ∃ j, 0 ≤ j ∧ j < 0 + 25 ∧ (XS (vX (tV T) j (vTT (tV T) j)) q).isSome = true := by
              apply Classical.byContradiction
              intro hno
              -- then nothing is found, and the search ends at 25
              have hall : ∀ k i, i + k = 25 → x_lf (fun b => (XS (vX (tV T) b (vTT (tV T) b)) q).isSome) k i = 25 := by
                intro k
                induction k with
                | zero => intro i hi; show i = 25; omega
                | succ k ih =>
                  intro i hi
                  unfold x_lf
                  rw [if_neg (by rw [hb i (by omega)]; decide)]
                  exact ih (i + 1) (by omega)
              have := hall 25 0 rfl
              unfold vSafe at z
              omega
            obtain ⟨j, -, j2, j3⟩ := this
            rw [hb j (by omega)] at j3
            cases j3
          rw [if_neg hv] at k
          refine r_run 400 rfl rfl ?_
          refine n_igt rfl (by omega) (by omega) (fun _ => ?_) (fun h => by omega)
          refine r_run 400 rfl rfl ?_
          exact r_iret rfl rfl (k g' (SG_fr hsg hf) (fun a ha => hf a (by omega)))
        · intro b hb ih g' hno hf
          refine r_run 400 rfl rfl ?_
          refine n_igt rfl (by omega) (by omega) (fun h => by omega) (fun _ => ?_)
          refine r_run 400 rfl rfl ?_
          refine r_inv rfl rfl rfl ?_
          refine c_vFollow_2 d b (tV T) g' _ (CG_row h (fun a _ _ => hf a (by omega))) hvk hph (by omega) (fun g1 hT hgr h11 hfr => ?_)
          have hI := vIv (b := b) (vc1 hph).1 (vTT (tV T) b)
          obtain ⟨r1, r2, r3, r4, r5, r6, r7, r8, r9⟩ := hgr
          refine r_run 400 rfl rfl ?_
          refine r_ald (j := q) rfl rfl (rfl) (by omega) (Nat.le_of_ble_eq_true rfl) ?_
          refine r_run 400 rfl rfl ?_
          simp only [Nat.reduceAdd]
          rw [r5 q hq]
          cases hs : XS (vX (tV T) b (vTT (tV T) b)) q with
          | none =>
            refine r_ieq rfl (fun _ => ?_) (fun z => absurd rfl z)
            refine r_to 47 60 rfl rfl ?_
            simp only [x_up_app, x_ce_app, x_ce_same, Nat.reduceAdd, Nat.reduceEqDiff, ↓reduceIte, Nat.reduceSub, Nat.reduceMul, reduceCtorEq, nI_add]
            refine ih g1 (fun c hc => ?_) (fun a ha => by rw [hfr a ha]; exact hf a ha)
            by_cases e : c = b
            · subst e
              rw [hs]
              rfl
            · exact hno c (by omega)
          | some s =>
            have hs2 := hI.2.2.2.2.2 q s hs
            have hv : vSafe (tV T) q = b := by
              obtain ⟨-, a2, a3, a4⟩ := x_lf_ok (fun b => (XS (vX (tV T) b (vTT (tV T) b)) q).isSome) 25 0 ⟨b, Nat.zero_le _, by omega, by rw [hs]; rfl⟩
              apply Nat.le_antisymm
              · apply Nat.le_of_not_lt
                intro z
                have := a4 b (Nat.zero_le _) z
                rw [hs] at this
                cases this
              · apply Nat.le_of_not_lt
                intro z
                have a3 : (XS (vX (tV T) (vSafe (tV T) q) (vTT (tV T) (vSafe (tV T) q))) q).isSome = true := a3
                rw [hno _ z] at a3
                cases a3
            rw [hv, if_pos hb] at k
            refine r_ieq rfl (fun z => ?_) (fun _ => ?_)
            · rw [x_on_m1 (fun q h => by cases h; omega)] at z
              cases z
            · refine r_run 400 rfl rfl ?_
              exact r_iret rfl rfl (k g1 (SG_fr hsg (fun a ha => by rw [hfr a ha]; exact hf a ha)) (fun a ha => by rw [hfr a (by omega)]; exact hf a (by omega)))
      refine r_to 47 60 rfl rfl ?_
      exact loop 0 (Nat.zero_le _) g (fun c hc => absurd hc (Nat.not_lt_zero _)) (fun _ _ => rfl)
    · refine t_ne0 rfl ?_
      exact bad2 (fun z => hb (m3.mpr z.2))
  · refine t_ne0 rfl ?_
    refine r_run 400 rfl rfl ?_
    unfold qSafe at k
    rw [if_neg (fun z => by obtain ⟨c, z1, z2⟩ := (iN_lt (by omega)).mp z; exact e c z1 z2)] at k
    exact r_iret rfl rfl (k g hsg (fun _ _ => rfl))
