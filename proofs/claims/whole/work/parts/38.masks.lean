/-! ===== the reference's questions ===== -/
theorem x_o1_0 {o : Option Nat} (h : ∀ q, o = some q → q < 65536) : x_o1 o = 0 ↔ o = none := by
  cases o with
  | none => simp [x_o1, nI_0]
  | some q =>
    have := h q rfl
    constructor
    · intro z
      have := (nI_eq (a := q + 1) (b := 0) (by omega) (by omega)).mp z
      omega
    · intro z; cases z
set_option maxHeartbeats 4000000 in
theorem n_chairOf (d : Nat) (T : xT) (j w : Int32) (g : xG) (Q : xQ) (h : MS g T) (hk : tOk T) (k : Q (some (.int (qChair (tV T) j w))) g) : Cx (d + 3) i_Md_chairOf [.ref 157, .int j, .int w] g Q := by
  have hvk := hk.1
  obtain ⟨⟨v1, v2, v3, v4, v5, v6⟩, -, vc1, vt8, wsi, wpl, wpp⟩ := id hvk
  obtain ⟨⟨w0, w1, -⟩, h2, -⟩ := h.1
  unfold qChair at k
  have bad : qChair (tV T) j w = -1000001 → Rx (d + 2) m_Md_chairOf Q 17 [some (.ref 157), some (.int j), some (.int w)] [] g := by
    intro hno
    unfold qChair at hno
    rw [hno] at k
    refine r_run 400 rfl rfl ?_
    exact r_iret rfl rfl k
  refine r_cl (L0 := [some (.ref 157), some (.int j), some (.int w)]) rfl (Or.inr ⟨_, _, _, rfl, rfl⟩) rfl rfl rfl ?_
  refine r_run 400 rfl rfl ?_
  refine r_inv rfl rfl rfl ?_
  refine m_isChair d (vc (tV T)) j g _ w1 v5 (fun hj => ?_) (fun hj => ?_)
  · refine t_eq1 rfl ?_
    rw [if_pos hj] at k
    obtain ⟨z1, z2, z3⟩ := h2 _ hj
    have ws := wsi (iN j)
    have hjj : j = nI (iN j) := (nI_iN j).symm
    refine r_run 400 rfl rfl ?_
    refine r_ins rfl rfl rfl rfl rfl ?_
    refine m_in (d + 1) w (nI 0) (nI 2) g _ (fun t1 t2 => ?_) (fun t1 => ?_)
    · obtain ⟨x, rfl, hx1, hx2⟩ := x_in_nat (by omega) (by omega) t1 t2
      refine t_ne1 rfl ?_
      clear bad
      generalize iN j = jj at hj hjj k z1 z2 z3 ws
      subst hjj
      refine r_run 400 rfl rfl ?_
      refine n_ige rfl (by omega) (by omega) (fun z => ?_) (fun z => ?_)
      · have e : x = 2 := by omega
        subst e
        rw [if_neg (by decide), if_neg (by decide), if_pos rfl] at k
        refine r_run 400 rfl rfl ?_
        refine r_inv rfl rfl rfl ?_
        refine m_ofChair (d + 1) jj 2 g _ (by omega) (by omega) ?_
        rw [z3]
        refine r_run 400 rfl rfl ?_
        cases hs : vsi (tV T) jj with
        | none =>
          rw [hs] at k
          refine r_ne0 rfl (fun z => absurd rfl z) (fun _ => ?_)
          refine r_run 400 rfl rfl ?_
          exact r_iret rfl rfl k
        | some q =>
          rw [hs] at k
          have hq := ws q hs
          refine r_ne0 rfl (fun _ => ?_) (fun z => ?_)
          · refine r_run 400 rfl rfl ?_
            refine r_inv rfl rfl rfl ?_
            refine m_ofChair (d + 1) jj 2 g _ (by omega) (by omega) ?_
            rw [z3, hs]
            refine r_run 400 rfl rfl ?_
            refine r_iret rfl rfl ?_
            show Q (some (.int (nI (q + 1) - nI 1))) g
            rw [pk_sub (by omega), show q + 1 - 1 = q by omega]
            exact k
          · exfalso
            have := (nI_eq (a := q + 1) (b := 0) (by omega) (by omega)).mp z
            omega
      · refine r_run 400 rfl rfl ?_
        refine r_inv rfl rfl rfl ?_
        refine m_ofChair (d + 1) jj x g _ (by omega) (by omega) ?_
        have e : x = 0 ∨ x = 1 := by omega
        rcases e with rfl | rfl
        · rw [if_pos rfl] at k
          rw [z1]
          refine r_run 400 rfl rfl ?_
          exact r_iret rfl rfl k
        · rw [if_neg (by decide), if_pos rfl] at k
          rw [z2]
          refine r_run 400 rfl rfl ?_
          exact r_iret rfl rfl k
    · refine t_ne0 rfl ?_
      refine bad ?_
      unfold qChair
      rw [if_pos hj, if_neg (fun e => t1 (by rw [e]; decide)), if_neg (fun e => t1 (by rw [e]; decide)), if_neg (fun e => t1 (by rw [e]; decide))]
  · refine t_eq0 rfl ?_
    exact bad (if_neg hj)
set_option maxHeartbeats 4000000 in
theorem n_hears (d : Nat) (T : xT) (p j : Int32) (g : xG) (Q : xQ) (h : MS g T) (hk : tOk T) (k : Q (some (.int (qHears (tV T) p j))) g) : Cx (d + 3) i_Md_hears [.ref 157, .int p, .int j] g Q := by
  have hvk := hk.1
  obtain ⟨⟨v1, v2, v3, v4, v5, v6⟩, -, vc1, vt8, wsi, wpl, wpp⟩ := id hvk
  obtain ⟨⟨w0, w1, w2, -⟩, h2, h3, -⟩ := h.1
  unfold qHears at k
  have bad : ¬ (iN p < vn (tV T) ∧ iN j < vc (tV T)) → Rx (d + 2) m_Md_hears Q 16 [some (.ref 157), some (.int p), some (.int j)] [] g := by
    intro hno
    rw [if_neg hno] at k
    refine r_run 400 rfl rfl ?_
    exact r_iret rfl rfl k
  refine r_cl (L0 := [some (.ref 157), some (.int p), some (.int j)]) rfl (Or.inr ⟨_, _, _, rfl, rfl⟩) rfl rfl rfl ?_
  refine r_run 400 rfl rfl ?_
  refine r_inv rfl rfl rfl ?_
  refine m_isPlayer d (vn (tV T)) p g _ w2 v6 (fun hp => ?_) (fun hp => ?_)
  · refine t_eq1 rfl ?_
    refine r_run 400 rfl rfl ?_
    refine r_inv rfl rfl rfl ?_
    refine m_isChair d (vc (tV T)) j g _ w1 v5 (fun hj => ?_) (fun hj => ?_)
    · refine t_ne1 rfl ?_
      rw [if_pos ⟨hp, hj⟩] at k
      clear bad
      have hjj : j = nI (iN j) := (nI_iN j).symm
      have hpp : p = nI (iN p) := (nI_iN p).symm
      generalize iN j = jj at hj hjj k
      generalize iN p = q at hp hpp k
      subst hjj hpp
      refine r_run 400 rfl rfl ?_
      refine r_inv rfl rfl rfl ?_
      have z := h3 q hp
      have yt := vt8 jj hj
      refine m_doesHear d q jj (vea (tV T) q) (vtn (tV T) jj) g _ (by omega) (by omega) z.2.1 (h2 jj hj).1 (wpl q hp).2.1 yt (fun hb => ?_) (fun hb => ?_)
      · have hv : vhr (tV T) q jj = true := hb
        rw [if_pos hv] at k
        refine t_eq1 rfl ?_
        refine r_run 400 rfl rfl ?_
        exact r_iret rfl rfl k
      · have hv : ¬ vhr (tV T) q jj = true := fun z => by
          have z : (vea (tV T) q).testBit (vtn (tV T) jj) = true := z
          rw [hb] at z
          cases z
        rw [if_neg hv] at k
        refine t_eq0 rfl ?_
        refine r_run 400 rfl rfl ?_
        exact r_iret rfl rfl k
    · refine t_ne0 rfl ?_
      exact bad (fun z => hj z.2)
  · refine t_eq0 rfl ?_
    exact bad (fun z => hp z.1)
set_option maxHeartbeats 4000000 in
theorem n_bell (d : Nat) (T : xT) (a w : Int32) (g : xG) (Q : xQ) (h : MS g T) (k : Q (some (.int (qBell (tV T) a w))) g) : Cx (d + 2) i_Md_bell [.ref 157, .int a, .int w] g Q := by
  obtain ⟨⟨w0, w1, w2, w3, w4, w5, w6, w7, w9, w10, w11, w13, w16⟩, h2, h3, h4, h5⟩ := h.1
  unfold qBell at k
  have bad : ¬ (¬ a < 0 ∧ iN w < 5) → Rx (d + 1) m_Md_bell Q 13 [some (.ref 157), some (.int a), some (.int w)] [] g := by
    intro hno
    rw [if_neg hno] at k
    refine r_run 400 rfl rfl ?_
    exact r_iret rfl rfl k
  refine r_cl (L0 := [some (.ref 157), some (.int a), some (.int w)]) rfl (Or.inr ⟨_, _, _, rfl, rfl⟩) rfl rfl rfl ?_
  refine r_run 400 rfl rfl ?_
  refine r_lt0 rfl (fun ha => bad (fun z => z.1 ha)) (fun ha => ?_)
  refine r_run 400 rfl rfl ?_
  refine r_ins rfl rfl rfl rfl rfl ?_
  refine m_in d w (nI 0) (nI 4) g _ (fun t1 t2 => ?_) (fun t1 => ?_)
  · obtain ⟨x, rfl, hx1, hx2⟩ := x_in_nat (by omega) (by omega) t1 t2
    have ex : iN (nI x) = x := iN_nI (by omega)
    obtain ⟨b, hb1, rfl⟩ := nI_of ha
    have eb : iN (nI b) = b := iN_nI (by omega)
    rw [ex, eb, if_pos ⟨ha, by omega⟩] at k
    refine t_ne1 rfl ?_
    refine r_run 400 rfl rfl ?_
    refine r_ald (j := 13) rfl rfl rfl (by decide) (Nat.le_of_ble_eq_true rfl) ?_
    simp only [x_up_app, x_ce_app, x_ce_same, Nat.reduceAdd, Nat.reduceEqDiff, ↓reduceIte, Nat.reduceSub, Nat.reduceMul, reduceCtorEq, w13]
    refine n_ige rfl (by omega) (by omega) (fun z => ?_) (fun z => ?_)
    · rw [if_neg (by omega)] at k
      refine r_run 400 rfl rfl ?_
      exact r_iret rfl rfl k
    · rw [if_pos z, ← h5 b x z (by omega)] at k
      refine r_run 400 rfl rfl ?_
      simp only [nI_add, pk_mul]
      refine r_ald (j := 173 + 5 * b + x) rfl rfl rfl (by omega) (Nat.le_of_ble_eq_true rfl) ?_
      refine r_run 400 rfl rfl ?_
      exact r_iret rfl rfl k
  · refine t_ne0 rfl ?_
    refine bad (fun z => t1 ?_)
    have : w = nI (iN w) := (nI_iN w).symm
    rw [this]
    exact ⟨(nI_leI (by omega) (by omega)).mpr (by omega), (nI_leI (by omega) (by omega)).mpr (by omega)⟩
set_option maxHeartbeats 4000000 in
theorem n_playerOf (d : Nat) (T : xT) (p w : Int32) (g : xG) (Q : xQ) (h : MS g T) (hk : tOk T) (k : Q (some (.int (qPlayer (tV T) p w))) g) : Cx (d + 3) i_Md_playerOf [.ref 157, .int p, .int w] g Q := by
  have hvk := hk.1
  obtain ⟨⟨v1, v2, v3, v4, v5, v6⟩, -, vc1, vt8, wsi, wpl, wpp⟩ := id hvk
  obtain ⟨⟨w0, w1, w2, -⟩, -, h3, -⟩ := h.1
  have bad : qPlayer (tV T) p w = -1000001 → Rx (d + 2) m_Md_playerOf Q 18 [some (.ref 157), some (.int p), some (.int w)] [] g := by
    intro hno
    rw [hno] at k
    refine r_run 400 rfl rfl ?_
    exact r_iret rfl rfl k
  refine r_cl (L0 := [some (.ref 157), some (.int p), some (.int w)]) rfl (Or.inr ⟨_, _, _, rfl, rfl⟩) rfl rfl rfl ?_
  refine r_run 400 rfl rfl ?_
  refine r_inv rfl rfl rfl ?_
  refine m_isPlayer d (vn (tV T)) p g _ w2 v6 (fun hp => ?_) (fun hp => ?_)
  · refine t_eq1 rfl ?_
    refine r_run 400 rfl rfl ?_
    refine r_ins rfl rfl rfl rfl rfl ?_
    refine m_in (d + 1) w (nI 0) (nI 8) g _ (fun t1 t2 => ?_) (fun t1 => ?_)
    · obtain ⟨x, rfl, hx1, hx2⟩ := x_in_nat (by omega) (by omega) t1 t2
      refine t_ne1 rfl ?_
      clear bad
      unfold qPlayer at k
      rw [if_pos hp] at k
      have hpp : p = nI (iN p) := (nI_iN p).symm
      generalize iN p = q at hp hpp k
      subst hpp
      obtain ⟨z0, z1, z2, z3, z4, z5, z6, z7, z8⟩ := h3 q hp
      have y8 := (wpl q hp).2.2.2
      refine r_run 400 rfl rfl ?_
      refine r_lsw rfl rfl ⟨fun y hy e => ?_, fun hno => ?_⟩
      · simp only [List.mem_cons, List.not_mem_nil, or_false] at hy
        rcases hy with rfl | rfl | rfl
        · have e : x = 3 := (nI_eq (by omega) (by omega)).mp e
          subst e
          rw [if_neg (by decide), if_neg (by decide), if_neg (by decide), if_pos rfl] at k
          have noo : (¬ (vph (tV T) = 1 ∧ vin (tV T) q = true)) → Rx (d + 2) m_Md_playerOf Q 83 [some (.ref 157), some (.int (nI q)), some (.int (nI 3))] [] g := by
            intro hno
            rw [if_neg hno] at k
            refine r_run 400 rfl rfl ?_
            exact r_iret rfl rfl k
          refine r_run 400 rfl rfl ?_
          refine r_ald (j := 0) rfl rfl rfl (by decide) (Nat.le_of_ble_eq_true rfl) ?_
          refine r_run 400 rfl rfl ?_
          simp only [x_up_app, x_ce_app, x_ce_same, Nat.reduceAdd, Nat.reduceEqDiff, ↓reduceIte, Nat.reduceSub, Nat.reduceMul, reduceCtorEq, w0]
          refine n_ine rfl (by omega) (by omega) (fun hne => noo (fun z => hne z.1)) (fun he => ?_)
          refine r_run 400 rfl rfl ?_
          refine r_inv rfl rfl rfl ?_
          refine m_isIn d q (vin (tV T) q) g _ (by omega) z2 (fun hi => ?_) (fun hi => ?_)
          · rw [if_pos ⟨he, hi⟩] at k
            refine t_eq1 rfl ?_
            refine r_run 400 rfl rfl ?_
            refine r_inv rfl rfl rfl ?_
            refine m_of (d + 1) q 3 g _ (by omega) (by omega) ?_
            rw [z3 he hi]
            refine r_run 400 rfl rfl ?_
            exact r_iret rfl rfl k
          · refine t_eq0 rfl ?_
            exact noo (fun z => by rw [hi] at z; cases z.2)
        · have e : x = 7 := (nI_eq (by omega) (by omega)).mp e
          subst e
          rw [if_neg (by decide), if_neg (by decide), if_neg (by decide), if_neg (by decide), if_neg (by decide), if_neg (by decide), if_neg (by decide), if_pos rfl] at k
          refine r_run 400 rfl rfl ?_
          refine r_inv rfl rfl rfl ?_
          refine m_isIn d q (vin (tV T) q) g _ (by omega) z2 (fun hi => ?_) (fun hi => ?_)
          · rw [if_pos hi] at k
            refine t_eq1 rfl ?_
            refine r_run 400 rfl rfl ?_
            exact r_iret rfl rfl k
          · rw [if_neg (by rw [hi]; decide)] at k
            refine t_eq0 rfl ?_
            refine r_run 400 rfl rfl ?_
            refine r_inv rfl rfl rfl ?_
            refine m_of (d + 1) q 7 g _ (by omega) (by omega) ?_
            rw [z7]
            refine r_run 400 rfl rfl ?_
            exact r_iret rfl rfl k
        · have e : x = 8 := (nI_eq (by omega) (by omega)).mp e
          subst e
          rw [if_neg (by decide), if_neg (by decide), if_neg (by decide), if_neg (by decide), if_neg (by decide), if_neg (by decide), if_neg (by decide), if_neg (by decide), if_pos rfl] at k
          refine r_run 400 rfl rfl ?_
          refine r_inv rfl rfl rfl ?_
          refine m_of (d + 1) q 8 g _ (by omega) (by omega) ?_
          rw [z8]
          refine r_run 400 rfl rfl ?_
          refine r_ne0 rfl (fun z => ?_) (fun z => ?_)
          · rw [if_neg (fun e => z (by rw [e]; rfl))] at k
            refine r_run 400 rfl rfl ?_
            refine r_inv rfl rfl rfl ?_
            refine m_of (d + 1) q 8 g _ (by omega) (by omega) ?_
            rw [z8]
            refine r_run 400 rfl rfl ?_
            exact r_iret rfl rfl k
          · rw [if_pos ((nI_eq (b := 0) (by omega) (by omega)).mp z)] at k
            refine r_run 400 rfl rfl ?_
            exact r_iret rfl rfl k
      · simp only [List.mem_cons, List.not_mem_nil, or_false, forall_eq_or_imp, forall_eq] at hno
        obtain ⟨n3, n7, n8⟩ := hno
        refine r_run 400 rfl rfl ?_
        refine r_inv rfl rfl rfl ?_
        refine m_of (d + 1) q x g _ (by omega) (by omega) ?_
        have e : x = 0 ∨ x = 1 ∨ x = 2 ∨ x = 4 ∨ x = 5 ∨ x = 6 := by
          have m3 : ¬ x = 3 := fun e => n3 (by rw [e])
          have m7 : ¬ x = 7 := fun e => n7 (by rw [e])
          have m8 : ¬ x = 8 := fun e => n8 (by rw [e])
          omega
        rcases e with rfl | rfl | rfl | rfl | rfl | rfl
        · rw [if_pos rfl] at k
          rw [z0]
          refine r_run 400 rfl rfl ?_
          exact r_iret rfl rfl k
        · rw [if_neg (by decide), if_pos rfl] at k
          rw [z1]
          refine r_run 400 rfl rfl ?_
          exact r_iret rfl rfl k
        · rw [if_neg (by decide), if_neg (by decide), if_pos rfl] at k
          rw [z2]
          refine r_run 400 rfl rfl ?_
          exact r_iret rfl rfl k
        · rw [if_neg (by decide), if_neg (by decide), if_neg (by decide), if_neg (by decide), if_pos rfl] at k
          rw [z4]
          refine r_run 400 rfl rfl ?_
          exact r_iret rfl rfl k
        · rw [if_neg (by decide), if_neg (by decide), if_neg (by decide), if_neg (by decide), if_neg (by decide), if_pos rfl] at k
          rw [z5]
          refine r_run 400 rfl rfl ?_
          exact r_iret rfl rfl k
        · rw [if_neg (by decide), if_neg (by decide), if_neg (by decide), if_neg (by decide), if_neg (by decide), if_neg (by decide), if_pos rfl] at k
          rw [z6]
          refine r_run 400 rfl rfl ?_
          exact r_iret rfl rfl k
    · refine t_ne0 rfl ?_
      refine bad ?_
      unfold qPlayer
      have nn : ∀ x : Nat, x ≤ 8 → ¬ w = nI x := fun x hx e => t1 (by rw [e]; exact ⟨(nI_leI (by omega) (by omega)).mpr (by omega), (nI_leI (by omega) (by omega)).mpr (by omega)⟩)
      rw [if_pos hp, if_neg (nn 0 (by omega)), if_neg (nn 1 (by omega)), if_neg (nn 2 (by omega)), if_neg (nn 3 (by omega)), if_neg (nn 4 (by omega)), if_neg (nn 5 (by omega)), if_neg (nn 6 (by omega)), if_neg (nn 7 (by omega)), if_neg (nn 8 (by omega))]
  · refine t_eq0 rfl ?_
    exact bad (if_neg hp)
