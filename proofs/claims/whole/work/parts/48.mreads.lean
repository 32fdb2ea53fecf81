/-! ===== the reference reads an order ===== -/
def MT (g : xG) (L : Nat) (tx : Nat → Nat) : Prop := g 157 6 = nI L ∧ L ≤ 60 ∧ ∀ i, i < L → g 162 i = nI (tx i) ∧ 32 ≤ tx i ∧ tx i ≤ 126
theorem sgn_le {g : xG} {L : Nat} {tx : Nat → Nat} (h : MT g L tx) (i : Nat) : sgn L tx i ≤ 126 := by
  unfold sgn
  split
  · rename_i hi
    exact (h.2.2 i hi).2.2
  · omega
theorem MT_row {g g' : xG} {L : Nat} {tx : Nat → Nat} (h : MT g L tx) (e1 : g' 157 6 = g 157 6) (e2 : g' 162 = g 162) : MT g' L tx := by
  unfold MT
  rw [e1, e2]
  exact h
set_option maxHeartbeats 4000000 in
theorem m_here (d i : Nat) (L : Nat) (tx : Nat → Nat) (g : xG) (Q : xQ) (h : MT g L tx) (hs : g 157 14 = nI i) (hi : i < 1000) (k : Q (some (.int (nI (sgn L tx i)))) g) : Cx (d + 1) i_Md_here [.ref 157] g Q := by
  obtain ⟨h1, h2, h3⟩ := h
  unfold sgn at k
  refine r_cl (L0 := [some (.ref 157)]) rfl (Or.inr ⟨_, _, _, rfl, rfl⟩) rfl rfl rfl ?_
  refine r_run 400 rfl rfl ?_
  simp only [Nat.reduceAdd]
  rw [hs, h1]
  refine n_ige rfl (by omega) (by omega) (fun hge => ?_) (fun hlt => ?_)
  · rw [if_neg (by omega)] at k
    refine r_run 400 rfl rfl ?_
    exact r_iret rfl rfl k
  · rw [if_pos hlt] at k
    refine r_run 400 rfl rfl ?_
    simp only [Nat.reduceAdd]
    rw [hs]
    refine r_ald (j := i) rfl rfl rfl (by omega) (Nat.le_of_ble_eq_true rfl) ?_
    refine r_run 400 rfl rfl ?_
    simp only [Nat.reduceAdd]
    rw [(h3 i hlt).1]
    exact r_iret rfl rfl k
set_option maxHeartbeats 4000000 in
theorem m_takes (d i : Nat) (f m : Bool) (g : xG) (Q : xQ) (hf : g 157 16 = x_b f) (hs : g 157 14 = nI i) (k : ∀ g' : xG, g' 157 16 = x_b (f && m) → g' 157 14 = nI (if (f && m) = true then i + 1 else i) → (∀ j, j ≠ 14 → j ≠ 16 → g' 157 j = g 157 j) → (∀ a, a ≠ 157 → g' a = g a) → Q none g') : Cx (d + 1) i_Md_takes [.ref 157, .int (x_b m)] g Q := by
  refine r_cl (L0 := [some (.ref 157), some (.int (x_b m))]) rfl (Or.inr ⟨_, _, _, rfl, rfl⟩) rfl rfl rfl ?_
  refine r_run 400 rfl rfl ?_
  simp only [Nat.reduceAdd]
  rw [hf]
  have no : ∀ st, st = [Value.ref 157] → (f && m) = false → Rx d m_Md_takes Q 16 [some (.ref 157), some (.int (x_b m))] st g := by
    intro st hst hfm
    subst hst
    rw [hfm] at k
    refine r_run 400 rfl rfl ?_
    simp only [Nat.reduceAdd]
    simp (disch := omega) only [x_up_o, x_up_n, x_up_e]
    refine t_eq0 rfl ?_
    refine r_run 400 rfl rfl ?_
    simp only [Nat.reduceAdd]
    refine r_ret rfl rfl (k _ ?_ ?_ (fun j h1 h2 => ?_) (fun a ha => by rw [x_up_row ha, x_up_row ha]))
    · simp (disch := omega) only [x_up_o, x_up_n, x_up_e]
      rfl
    · simp (disch := omega) only [x_up_o, x_up_n, x_up_e, hs]
      exact Int32.add_zero _
    · simp (disch := omega) only [x_up_o, x_up_n, x_up_e]
  cases f with
  | false =>
    refine t_eq0 rfl ?_
    exact no _ rfl rfl
  | true =>
    refine t_eq1 rfl ?_
    refine r_run 400 rfl rfl ?_
    cases m with
    | false =>
      refine t_eq0 rfl ?_
      exact no _ rfl rfl
    | true =>
      refine t_eq1 rfl ?_
      refine r_run 400 rfl rfl ?_
      simp only [Nat.reduceAdd]
      simp (disch := omega) only [x_up_o, x_up_n, x_up_e]
      refine t_eq1 rfl ?_
      refine r_run 400 rfl rfl ?_
      simp only [Nat.reduceAdd]
      simp (disch := omega) only [x_up_o, x_up_n, x_up_e, hs, nI_add]
      refine r_ret rfl rfl (k _ ?_ ?_ (fun j h1 h2 => ?_) (fun a ha => by rw [x_up_row ha, x_up_row ha]))
      · simp (disch := omega) only [x_up_o, x_up_n, x_up_e]
        rfl
      · simp (disch := omega) only [x_up_o, x_up_n, x_up_e]
        rfl
      · simp (disch := omega) only [x_up_o, x_up_n, x_up_e]
set_option maxHeartbeats 4000000 in
theorem m_takesNumber (d i0 : Nat) (f : Bool) (L : Nat) (tx : Nat → Nat) (g : xG) (Q : xQ) (h : MT g L tx) (hf : g 157 16 = x_b f) (hs : g 157 14 = nI i0) (hi : i0 < 900)
    (k : ∀ (g' : xG) (v : Option Nat) (j : Nat), (if f = true then x_rn (sgn L tx) 3 i0 none else (none, i0)) = (v, j) → g' 157 16 = x_b v.isSome → g' 157 14 = nI j → (∀ j, j ≠ 14 → j ≠ 16 → g' 157 j = g 157 j) → (∀ a, a ≠ 157 → g' a = g a) → Q (some (.int (nI (v.getD 0)))) g') : Cx (d + 2) i_Md_takesNumber [.ref 157] g Q := by
  refine r_cl (L0 := [some (.ref 157), none, none]) rfl (Or.inr ⟨_, _, _, rfl, rfl⟩) rfl rfl rfl ?_
  have fin : ∀ (g' : xG) (v : Option Nat) (j : Nat), (if f = true then x_rn (sgn L tx) 3 i0 none else (none, i0)) = (v, j) → ∀ D : Nat, (v.isSome = true ↔ 0 < D) → D ≤ 3 → g' 157 16 = x_b f → (f = false → D = 0) → g' 157 14 = nI j → (∀ j, j ≠ 14 → j ≠ 16 → g' 157 j = g 157 j) → (∀ a, a ≠ 157 → g' a = g a) → Rx (d + 1) m_Md_takesNumber Q 59 [some (.ref 157), some (.int (nI (v.getD 0))), some (.int (nI D))] [] g' := by
    intro g' v j he D hD hD3 a1 af a2 a3 a4
    refine r_run 400 rfl rfl ?_
    simp only [Nat.reduceAdd]
    rw [a1]
    have no : ∀ st, st = [Value.ref 157] → v.isSome = false → Rx (d + 1) m_Md_takesNumber Q 75 [some (.ref 157), some (.int (nI (v.getD 0))), some (.int (nI D))] st g' := by
      intro st hst hv
      subst hst
      refine r_run 400 rfl rfl ?_
      refine r_iret rfl rfl (k _ v j he ?_ ?_ (fun j h1 h2 => ?_) (fun a ha => by rw [x_up_row ha]; exact a4 a ha))
      · simp (disch := omega) only [x_up_o, x_up_n, x_up_e]
        rw [hv]
        rfl
      · simp (disch := omega) only [x_up_o, x_up_n, x_up_e]
        exact a2
      · simp (disch := omega) only [x_up_o, x_up_n, x_up_e]
        exact a3 j h1 h2
    cases f with
    | false =>
      refine t_eq0 rfl ?_
      refine no _ rfl ?_
      cases hv : v.isSome with
      | false => rfl
      | true =>
        have := hD.mp hv
        have := af rfl
        omega
    | true =>
      refine t_eq1 rfl ?_
      refine r_run 400 rfl rfl ?_
      by_cases e : D = 0
      · subst e
        refine r_le0 rfl (fun _ => ?_) (fun z => absurd (by decide) z)
        refine no _ rfl ?_
        cases hv : v.isSome with
        | false => rfl
        | true =>
          have := hD.mp hv
          omega
      · refine r_le0 rfl (fun z => ?_) (fun _ => ?_)
        · exfalso
          have z : nI D ≤ nI 0 := z
          rw [nI_leI (by omega) (by omega)] at z
          omega
        · refine r_run 400 rfl rfl ?_
          refine r_iret rfl rfl (k _ v j he ?_ ?_ (fun j h1 h2 => ?_) (fun a ha => by rw [x_up_row ha]; exact a4 a ha))
          · simp (disch := omega) only [x_up_o, x_up_n, x_up_e]
            rw [hD.mpr (by omega)]
            rfl
          · simp (disch := omega) only [x_up_o, x_up_n, x_up_e]
            exact a2
          · simp (disch := omega) only [x_up_o, x_up_n, x_up_e]
            exact a3 j h1 h2
  cases hff : f with
  | false =>
    subst hff
    refine r_run 400 rfl rfl ?_
    simp only [Nat.reduceAdd]
    rw [hf]
    refine t_eq0 rfl ?_
    exact fin g none i0 rfl 0 (by simp) (by omega) hf (fun _ => rfl) hs (fun _ _ _ => rfl) (fun _ _ => rfl)
  | true =>
    subst hff
    have loop : ∀ n, n ≤ 3 → ∀ (i : Nat) (v : Option Nat) (g' : xG), x_rn (sgn L tx) 3 i0 none = x_rn (sgn L tx) (3 - n) i v → i ≤ i0 + n → (v.isSome = true ↔ 0 < n) → (∀ w, v = some w → w < 10 ^ n) → g' 157 16 = nI 1 → g' 157 14 = nI i → (∀ j, j ≠ 14 → j ≠ 16 → g' 157 j = g 157 j) → (∀ a, a ≠ 157 → g' a = g a) → Rx (d + 1) m_Md_takesNumber Q 4 [some (.ref 157), some (.int (nI (v.getD 0))), some (.int (nI n))] [] g' := by
      refine r_for ?_ ?_
      · intro i v g' he hi2 hv hw a1 a2 a3 a4
        refine r_run 400 rfl rfl ?_
        simp only [Nat.reduceAdd]
        rw [a1]
        refine t_eq1 rfl ?_
        refine r_run 400 rfl rfl ?_
        refine n_ige rfl (by omega) (by omega) (fun _ => ?_) (fun h => by omega)
        exact fin g' v i (by rw [if_pos rfl, he]; rfl) 3 hv (by omega) a1 (fun z => by cases z) a2 a3 a4
      · intro n hn ih i v g' he hi2 hv hw a1 a2 a3 a4
        have hmt : MT g' L tx := MT_row h (a3 6 (by decide) (by decide)) (a4 162 (by decide))
        have hc := sgn_le h i
        rw [show 3 - n = (3 - (n + 1)) + 1 by omega] at he
        have hx : x_rn (sgn L tx) (3 - (n + 1) + 1) i v = if x_dig (sgn L tx i) = true then x_rn (sgn L tx) (3 - (n + 1)) (i + 1) (some (10 * v.getD 0 + sgn L tx i - 48)) else (v, i) := rfl
        rw [hx] at he
        clear hx
        have hw0 : v.getD 0 < 1000 := by
          cases v with
          | none => show 0 < 1000; omega
          | some u =>
            have h1 := hw u rfl
            have h2 : 10 ^ n ≤ 10 ^ 3 := Nat.pow_le_pow_right (by omega) (by omega)
            show u < 1000
            omega
        refine r_run 400 rfl rfl ?_
        simp only [Nat.reduceAdd]
        rw [a1]
        refine t_eq1 rfl ?_
        refine r_run 400 rfl rfl ?_
        refine n_ige rfl (by omega) (by omega) (fun h => by omega) (fun _ => ?_)
        refine r_run 400 rfl rfl ?_
        refine r_inv rfl rfl rfl ?_
        refine m_here d i L tx g' _ hmt a2 (by omega) ?_
        refine r_run 400 rfl rfl ?_
        refine r_ins rfl rfl rfl rfl rfl ?_
        refine m_in d (nI (sgn L tx i)) (nI 48) (nI 57) g' _ (fun t1 t2 => ?_) (fun t1 => ?_)
        · rw [nI_leI (by omega) (by omega)] at t1 t2
          have hd : x_dig (sgn L tx i) = true := x_dig_iff.mpr ⟨t1, t2⟩
          rw [if_pos hd] at he
          refine t_eq1 rfl ?_
          refine r_run 400 rfl rfl ?_
          refine r_inv rfl rfl rfl ?_
          refine m_here d i L tx g' _ hmt a2 (by omega) ?_
          refine r_to 4 60 rfl rfl ?_
          simp only [Nat.reduceAdd, pk_mul, nI_add]
          rw [pk_sub (by omega), a2]
          simp only [nI_add]
          refine ih (i + 1) (some (10 * v.getD 0 + sgn L tx i - 48)) _ he (by omega) (by simp) (fun w hw2 => ?_) ?_ ?_ (fun j h1 h2 => ?_) (fun a ha => by rw [x_up_row ha]; exact a4 a ha)
          · cases hw2
            have h1 : v.getD 0 < 10 ^ n := by
              cases v with
              | none => exact Nat.pow_pos (by omega)
              | some u => exact hw u rfl
            rw [Nat.pow_succ]
            omega
          · simp (disch := omega) only [x_up_o, x_up_n, x_up_e]
            exact a1
          · simp (disch := omega) only [x_up_o, x_up_n, x_up_e]
          · simp (disch := omega) only [x_up_o, x_up_n, x_up_e]
            exact a3 j h1 h2
        · have hd : ¬ x_dig (sgn L tx i) = true := fun z => by
            rw [x_dig_iff] at z
            exact t1 ⟨(nI_leI (by omega) (by omega)).mpr z.1, (nI_leI (by omega) (by omega)).mpr z.2⟩
          rw [if_neg hd] at he
          refine t_eq0 rfl ?_
          exact fin g' v i (by rw [if_pos rfl, he]) n hv (by omega) a1 (fun z => by cases z) a2 a3 a4
    refine r_to 4 60 rfl rfl ?_
    exact loop 0 (Nat.zero_le _) i0 none g rfl (by omega) (by simp) (fun w hw => by cases hw) hf hs (fun _ _ _ => rfl) (fun _ _ => rfl)
def x_let (c : Nat) : Bool := decide (c = 99 ∨ c = 112 ∨ c = 98 ∨ c = 103 ∨ c = 115)
set_option maxHeartbeats 16000000 in
theorem m_takesOrder (d i : Nat) (L : Nat) (tx : Nat → Nat) (g : xG) (Q : xQ) (h : MT g L tx) (hs : g 157 14 = nI i) (hi : i < 800)
    (k : ∀ (g' : xG) (ok : Bool) (j kk a b : Nat), x_ord (sgn L tx) i = (ok, j, kk, a, b) → g' 157 16 = x_b ok → g' 157 14 = nI j → g' 157 15 = nI i → (ok = true → g' 157 17 = nI kk ∧ (kk = 99 ∨ kk = 98 ∨ kk = 112 → g' 157 18 = nI a) ∧ (kk = 112 → g' 157 19 = nI b)) → (∀ j, (j < 14 ∨ 19 < j) → g' 157 j = g 157 j) → (∀ a, a ≠ 157 → g' a = g a) → Q none g') : Cx (d + 3) i_Md_takesOrder [.ref 157] g Q := by
  have hc := sgn_le h i
  generalize hcc : sgn L tx i = c at hc
  refine r_cl (L0 := [some (.ref 157)]) rfl (Or.inr ⟨_, _, _, rfl, rfl⟩) rfl rfl rfl ?_
  -- the end
  have tail : ∀ (g' : xG) (f : Bool) (j : Nat), j < 900 → g' 157 16 = x_b f → g' 157 14 = nI j → (∀ j, (j < 14 ∨ 19 < j) → g' 157 j = g 157 j) → (∀ a, a ≠ 157 → g' a = g a) → (∀ g2 : xG, g2 157 16 = x_b (f && decide (sgn L tx j = 59)) → g2 157 14 = nI (if (f && decide (sgn L tx j = 59)) = true then j + 1 else j) → (∀ j, j ≠ 14 → j ≠ 16 → g2 157 j = g' 157 j) → (∀ a, a ≠ 157 → g2 a = g' a) → Q none g2) → Rx (d + 2) m_Md_takesOrder Q 145 [some (.ref 157)] [] g' := by
    intro g' f j hj a1 a2 a3 a4 kk
    have hmt : MT g' L tx := MT_row h (a3 6 (by decide)) (a4 162 (by decide))
    have hcj := sgn_le h j
    refine r_run 400 rfl rfl ?_
    refine r_inv rfl rfl rfl ?_
    refine m_here (d + 1) j L tx g' _ hmt a2 (by omega) ?_
    refine r_run 400 rfl rfl ?_
    have go : ∀ m : Bool, m = decide (sgn L tx j = 59) → Rx (d + 2) m_Md_takesOrder Q 160 [some (.ref 157)] [.int (x_b m), .ref 157] g' := by
      intro m hm
      subst hm
      refine r_inv rfl rfl rfl ?_
      refine m_takes (d + 1) j f _ g' _ a1 a2 (fun g2 b1 b2 b3 b4 => ?_)
      refine r_run 400 rfl rfl ?_
      exact r_ret rfl rfl (kk g2 b1 b2 b3 b4)
    refine n_ine rfl (by omega) (by omega) (fun z => ?_) (fun z => ?_)
    · refine r_to 160 60 rfl rfl ?_
      exact go false (by simp [z])
    · refine r_to 160 60 rfl rfl ?_
      exact go true (by simp [z])
  -- behind the first number
  have mid : ∀ (g' : xG) (f : Bool) (j a : Nat), j ≤ i + 4 → (c = 112 ∨ f = false ∨ ¬ c = 112) → g' 157 17 = nI c → g' 157 16 = x_b f → g' 157 14 = nI j → (∀ j, (j < 14 ∨ 19 < j) → g' 157 j = g 157 j) → (∀ a, a ≠ 157 → g' a = g a) → (¬ c = 112 → ∀ g2 : xG, g2 157 16 = x_b (f && decide (sgn L tx j = 59)) → g2 157 14 = nI (if (f && decide (sgn L tx j = 59)) = true then j + 1 else j) → (∀ j, j ≠ 14 → j ≠ 16 → g2 157 j = g' 157 j) → (∀ a, a ≠ 157 → g2 a = g' a) → Q none g2) → (c = 112 → ∀ (v : Option Nat) (l : Nat), (if (f && decide (sgn L tx j = 44)) = true then x_rn (sgn L tx) 3 (if (f && decide (sgn L tx j = 44)) = true then j + 1 else j) none else (none, (if (f && decide (sgn L tx j = 44)) = true then j + 1 else j))) = (v, l) → ∀ g2 : xG, g2 157 16 = x_b (v.isSome && decide (sgn L tx l = 59)) → g2 157 14 = nI (if (v.isSome && decide (sgn L tx l = 59)) = true then l + 1 else l) → g2 157 19 = nI (v.getD 0) → (∀ j, j ≠ 14 → j ≠ 16 → j ≠ 19 → g2 157 j = g' 157 j) → (∀ a, a ≠ 157 → g2 a = g' a) → Q none g2) → Rx (d + 2) m_Md_takesOrder Q 110 [some (.ref 157)] [] g' := by
    intro g' f j a hj hcf a0 a1 a2 a3 a4 k1 k2
    have hmt : MT g' L tx := MT_row h (a3 6 (by decide)) (a4 162 (by decide))
    have hcj := sgn_le h j
    refine r_run 400 rfl rfl ?_
    simp only [Nat.reduceAdd]
    rw [a0]
    refine n_ine rfl (by omega) (by omega) (fun z => ?_) (fun z => ?_)
    · exact tail g' f j (by omega) a1 a2 a3 a4 (k1 z)
    · have k2 := k2 z
      refine r_run 400 rfl rfl ?_
      refine r_inv rfl rfl rfl ?_
      refine m_here (d + 1) j L tx g' _ hmt a2 (by omega) ?_
      refine r_run 400 rfl rfl ?_
      have go : ∀ m : Bool, m = decide (sgn L tx j = 44) → Rx (d + 2) m_Md_takesOrder Q 134 [some (.ref 157)] [.int (x_b m), .ref 157] g' := by
        intro m hm
        rw [← hm] at k2
        refine r_inv rfl rfl rfl ?_
        refine m_takes (d + 1) j f m g' _ a1 a2 (fun g2 b1 b2 b3 b4 => ?_)
        have hmt2 : MT g2 L tx := MT_row hmt (b3 6 (by decide) (by decide)) (b4 162 (by decide))
        refine r_run 400 rfl rfl ?_
        refine r_inv rfl rfl rfl ?_
        refine m_takesNumber d _ (f && m) L tx g2 _ hmt2 b1 b2 (by split <;> omega) (fun g3 v l e c1 c2 c3 c4 => ?_)
        have hl : l ≤ i + 8 := by
          split at e
          · have := x_rn_ok (sgn L tx) 3 (j + 1) none
            rw [e] at this
            dsimp only at this
            omega
          · cases e
            omega
        refine r_to 145 60 rfl rfl ?_
        refine tail _ v.isSome l (by omega) ?_ ?_ (fun j hj => ?_) (fun a ha => by rw [x_up_row ha, c4 a ha, b4 a ha]; exact a4 a ha) (fun g4 e1 e2 e3 e4 => ?_)
        · simp (disch := omega) only [x_up_o, x_up_n, x_up_e]
          exact c1
        · simp (disch := omega) only [x_up_o, x_up_n, x_up_e]
          exact c2
        · simp (disch := omega) only [x_up_o, x_up_n, x_up_e]
          rw [c3 j (by omega) (by omega), b3 j (by omega) (by omega)]
          exact a3 j hj
        · refine k2 v l e g4 e1 e2 ?_ (fun j h1 h2 h3 => ?_) (fun a ha => by rw [e4 a ha, x_up_row ha, c4 a ha, b4 a ha])
          · rw [e3 19 (by decide) (by decide)]
            simp (disch := omega) only [x_up_o, x_up_n, x_up_e]
          · rw [e3 j h1 h2]
            simp (disch := omega) only [x_up_o, x_up_n, x_up_e]
            rw [c3 j h1 h2, b3 j h1 h2]
      refine n_ine rfl (by omega) (by omega) (fun z => ?_) (fun z => ?_)
      · refine r_to 134 60 rfl rfl ?_
        exact go false (by simp [z])
      · refine r_to 134 60 rfl rfl ?_
        exact go true (by simp [z])
  -- behind the letter
  have lett : ∀ g' : xG, g' 157 17 = nI c → g' 157 15 = nI i → g' 157 16 = x_b (x_let c) → g' 157 14 = nI (if x_let c = true then i + 1 else i) → (∀ j, (j < 14 ∨ 19 < j) → g' 157 j = g 157 j) → (∀ a, a ≠ 157 → g' a = g a) → Rx (d + 2) m_Md_takesOrder Q 75 [some (.ref 157)] [] g' := by
    intro g' a0 a5 a1 a2 a3 a4
    have hmt : MT g' L tx := MT_row h (a3 6 (by decide)) (a4 162 (by decide))
    -- a number follows
    have num : (c = 99 ∨ c = 112 ∨ c = 98) → Rx (d + 2) m_Md_takesOrder Q 102 [some (.ref 157)] [] g' := by
      intro hnum
      have hlt : x_let c = true := decide_eq_true (by omega)
      rw [hlt] at a1 a2
      rw [if_pos rfl] at a2
      refine r_run 400 rfl rfl ?_
      refine r_inv rfl rfl rfl ?_
      refine m_takesNumber d (i + 1) true L tx g' _ hmt a1 a2 (by omega) (fun g2 v j e b1 b2 b3 b4 => ?_)
      rw [if_pos rfl] at e
      have hj := x_rn_ok (sgn L tx) 3 (i + 1) none
      rw [e] at hj
      dsimp only at hj
      refine r_to 110 60 rfl rfl ?_
      refine mid _ v.isSome j (v.getD 0) (by omega) (by omega) ?_ ?_ ?_ (fun j hj => ?_) (fun a ha => by rw [x_up_row ha, b4 a ha]; exact a4 a ha) (fun hne g3 c1 c2 c3 c4 => ?_) (fun heq w l e2 g3 c1 c2 c19 c3 c4 => ?_)
      · simp (disch := omega) only [x_up_o, x_up_n, x_up_e]
        rw [b3 17 (by decide) (by decide)]
        exact a0
      · simp (disch := omega) only [x_up_o, x_up_n, x_up_e]
        exact b1
      · simp (disch := omega) only [x_up_o, x_up_n, x_up_e]
        exact b2
      · simp (disch := omega) only [x_up_o, x_up_n, x_up_e]
        rw [b3 j (by omega) (by omega)]
        exact a3 j hj
      · -- c, b
        have ho : x_ord (sgn L tx) i = (match x_rn (sgn L tx) 3 (i + 1) none with | (none, j) => (false, j, 0, 0, 0) | (some v, j) => if sgn L tx j = 59 then (true, j + 1, sgn L tx i, v, 0) else (false, j, 0, 0, 0)) := by
          unfold x_ord
          rw [if_pos (by omega)]
          rfl
        rw [e, hcc] at ho
        have h15 : g3 157 15 = nI i := by
          rw [c3 15 (by decide) (by decide)]
          simp (disch := omega) only [x_up_o, x_up_n, x_up_e]
          rw [b3 15 (by decide) (by decide)]
          exact a5
        have h17 : g3 157 17 = nI c := by
          rw [c3 17 (by decide) (by decide)]
          simp (disch := omega) only [x_up_o, x_up_n, x_up_e]
          rw [b3 17 (by decide) (by decide)]
          exact a0
        have h18 : g3 157 18 = nI (v.getD 0) := by
          rw [c3 18 (by decide) (by decide)]
          simp (disch := omega) only [x_up_o, x_up_n, x_up_e]
        have hfr : ∀ j, (j < 14 ∨ 19 < j) → g3 157 j = g 157 j := fun j hj => by
          rw [c3 j (by omega) (by omega)]
          simp (disch := omega) only [x_up_o, x_up_n, x_up_e]
          rw [b3 j (by omega) (by omega)]
          exact a3 j hj
        have hfa : ∀ a, a ≠ 157 → g3 a = g a := fun a ha => by rw [c4 a ha, x_up_row ha, b4 a ha]; exact a4 a ha
        cases v with
        | none => exact k g3 false j 0 0 0 ho c1 c2 h15 (fun z => by cases z) hfr hfa
        | some v =>
          dsimp only at ho
          by_cases hse : sgn L tx j = 59
          · rw [if_pos hse] at ho
            have hd : decide (sgn L tx j = 59) = true := decide_eq_true hse
            rw [hd] at c1 c2
            exact k g3 true (j + 1) c v 0 ho c1 c2 h15 (fun _ => ⟨h17, fun _ => h18, fun z => absurd z hne⟩) hfr hfa
          · rw [if_neg hse] at ho
            have hd : decide (sgn L tx j = 59) = false := decide_eq_false hse
            rw [hd] at c1 c2
            exact k g3 false j 0 0 0 ho c1 c2 h15 (fun z => by cases z) hfr hfa
      · -- p
        have ho : x_ord (sgn L tx) i = (match x_rn (sgn L tx) 3 (i + 1) none with | (none, j) => (false, j, 0, 0, 0) | (some v, j) => if sgn L tx j = 44 then (match x_rn (sgn L tx) 3 (j + 1) none with | (none, l) => (false, l, 0, 0, 0) | (some w, l) => if sgn L tx l = 59 then (true, l + 1, sgn L tx i, v, w) else (false, l, 0, 0, 0)) else (false, j, 0, 0, 0)) := by
          unfold x_ord
          rw [if_neg (by omega), if_pos (by omega)]
          rfl
        rw [e, hcc] at ho
        have h15 : g3 157 15 = nI i := by
          rw [c3 15 (by decide) (by decide) (by decide)]
          simp (disch := omega) only [x_up_o, x_up_n, x_up_e]
          rw [b3 15 (by decide) (by decide)]
          exact a5
        have h17 : g3 157 17 = nI c := by
          rw [c3 17 (by decide) (by decide) (by decide)]
          simp (disch := omega) only [x_up_o, x_up_n, x_up_e]
          rw [b3 17 (by decide) (by decide)]
          exact a0
        have h18 : g3 157 18 = nI (v.getD 0) := by
          rw [c3 18 (by decide) (by decide) (by decide)]
          simp (disch := omega) only [x_up_o, x_up_n, x_up_e]
        have hfr : ∀ j, (j < 14 ∨ 19 < j) → g3 157 j = g 157 j := fun j hj => by
          rw [c3 j (by omega) (by omega) (by omega)]
          simp (disch := omega) only [x_up_o, x_up_n, x_up_e]
          rw [b3 j (by omega) (by omega)]
          exact a3 j hj
        have hfa : ∀ a, a ≠ 157 → g3 a = g a := fun a ha => by rw [c4 a ha, x_up_row ha, b4 a ha]; exact a4 a ha
        cases v with
        | none =>
          simp only [Option.isSome_none, Bool.false_and, if_neg (show ¬ false = true by decide)] at e2
          cases e2
          exact k g3 false j 0 0 0 ho c1 c2 h15 (fun z => by cases z) hfr hfa
        | some v =>
          dsimp only at ho
          by_cases h44 : sgn L tx j = 44
          · have hd : decide (sgn L tx j = 44) = true := decide_eq_true h44
            rw [if_pos h44] at ho
            simp only [Option.isSome_some, Bool.true_and, hd, if_true] at e2
            rw [e2] at ho
            cases w with
            | none => exact k g3 false l 0 0 0 ho c1 c2 h15 (fun z => by cases z) hfr hfa
            | some w =>
              dsimp only at ho
              by_cases hse : sgn L tx l = 59
              · rw [if_pos hse] at ho
                have hd : decide (sgn L tx l = 59) = true := decide_eq_true hse
                rw [hd] at c1 c2
                exact k g3 true (l + 1) c v w ho c1 c2 h15 (fun _ => ⟨h17, fun _ => h18, fun _ => c19⟩) hfr hfa
              · rw [if_neg hse] at ho
                have hd : decide (sgn L tx l = 59) = false := decide_eq_false hse
                rw [hd] at c1 c2
                exact k g3 false l 0 0 0 ho c1 c2 h15 (fun z => by cases z) hfr hfa
          · have hd : decide (sgn L tx j = 44) = false := decide_eq_false h44
            rw [if_neg h44] at ho
            simp only [Option.isSome_some, Bool.true_and, hd, if_neg (show ¬ false = true by decide)] at e2
            cases e2
            exact k g3 false j 0 0 0 ho c1 c2 h15 (fun z => by cases z) hfr hfa
    refine r_run 400 rfl rfl ?_
    simp only [Nat.reduceAdd]
    rw [a0]
    refine n_ieq rfl (by omega) (by omega) (fun z => num (by omega)) (fun z1 => ?_)
    refine r_run 400 rfl rfl ?_
    simp only [Nat.reduceAdd]
    rw [a0]
    refine n_ieq rfl (by omega) (by omega) (fun z => num (by omega)) (fun z2 => ?_)
    refine r_run 400 rfl rfl ?_
    simp only [Nat.reduceAdd]
    rw [a0]
    refine n_ine rfl (by omega) (by omega) (fun z3 => ?_) (fun z => num (by omega))
    refine mid g' (x_let c) _ 0 (by split <;> omega) (by omega) a0 a1 a2 a3 a4 (fun hne g3 c1 c2 c3 c4 => ?_) (fun z => absurd z z2)
    have h15 : g3 157 15 = nI i := by
      rw [c3 15 (by decide) (by decide)]
      exact a5
    have h17 : g3 157 17 = nI c := by
      rw [c3 17 (by decide) (by decide)]
      exact a0
    have hfr : ∀ j, (j < 14 ∨ 19 < j) → g3 157 j = g 157 j := fun j hj => by
      rw [c3 j (by omega) (by omega)]
      exact a3 j hj
    have hfa : ∀ a, a ≠ 157 → g3 a = g a := fun a ha => by rw [c4 a ha]; exact a4 a ha
    by_cases hgs : c = 103 ∨ c = 115
    · have hlt : x_let c = true := decide_eq_true (by omega)
      rw [hlt, if_pos rfl, Bool.true_and] at c1 c2
      have ho : x_ord (sgn L tx) i = if sgn L tx (i + 1) = 59 then (true, i + 2, sgn L tx i, 0, 0) else (false, i + 1, 0, 0, 0) := by
        unfold x_ord
        rw [if_neg (by omega), if_neg (by omega), if_pos (by omega)]
      rw [hcc] at ho
      by_cases hse : sgn L tx (i + 1) = 59
      · rw [if_pos hse] at ho
        have hd : decide (sgn L tx (i + 1) = 59) = true := decide_eq_true hse
        rw [hd] at c1 c2
        exact k g3 true (i + 2) c 0 0 ho c1 c2 h15 (fun _ => ⟨h17, fun z => by omega, fun z => by omega⟩) hfr hfa
      · rw [if_neg hse] at ho
        have hd : decide (sgn L tx (i + 1) = 59) = false := decide_eq_false hse
        rw [hd] at c1 c2
        exact k g3 false (i + 1) 0 0 0 ho c1 c2 h15 (fun z => by cases z) hfr hfa
    · have hlt : x_let c = false := decide_eq_false (by omega)
      rw [hlt, Bool.false_and] at c1
      rw [hlt, Bool.false_and] at c2
      have ho : x_ord (sgn L tx) i = (false, i, 0, 0, 0) := by
        unfold x_ord
        rw [if_neg (by omega), if_neg (by omega), if_neg (by omega)]
      exact k g3 false i 0 0 0 ho c1 c2 h15 (fun z => by cases z) hfr hfa
  -- the letter
  have chain : ∀ g' : xG, g' 157 17 = nI c → g' 157 15 = nI i → g' 157 16 = nI 1 → g' 157 14 = nI i → (∀ j, (j < 14 ∨ 19 < j) → g' 157 j = g 157 j) → (∀ a, a ≠ 157 → g' a = g a) → Rx (d + 2) m_Md_takesOrder Q 21 [some (.ref 157)] [] g' := by
    intro g' a0 a5 a1 a2 a3 a4
    have go : ∀ m : Bool, m = x_let c → Rx (d + 2) m_Md_takesOrder Q 72 [some (.ref 157)] [.int (x_b m), .ref 157] g' := by
      intro m hm
      subst hm
      refine r_inv rfl rfl rfl ?_
      refine m_takes (d + 1) i true _ g' _ a1 a2 (fun g2 b1 b2 b3 b4 => ?_)
      rw [Bool.true_and] at b1 b2
      exact lett g2 (by rw [b3 17 (by decide) (by decide)]; exact a0) (by rw [b3 15 (by decide) (by decide)]; exact a5) b1 b2 (fun j hj => by rw [b3 j (by omega) (by omega)]; exact a3 j hj) (fun a ha => by rw [b4 a ha]; exact a4 a ha)
    have yes : x_let c = true → Rx (d + 2) m_Md_takesOrder Q 67 [some (.ref 157)] [.ref 157] g' := by
      intro hl
      refine r_to 72 60 rfl rfl ?_
      exact go true hl.symm
    refine r_run 400 rfl rfl ?_
    simp only [Nat.reduceAdd]
    rw [a0]
    refine n_ieq rfl (by omega) (by omega) (fun z => yes (decide_eq_true (by omega))) (fun z1 => ?_)
    refine r_run 400 rfl rfl ?_
    simp only [Nat.reduceAdd]
    rw [a0]
    refine n_ieq rfl (by omega) (by omega) (fun z => yes (decide_eq_true (by omega))) (fun z2 => ?_)
    refine r_run 400 rfl rfl ?_
    simp only [Nat.reduceAdd]
    rw [a0]
    refine n_ieq rfl (by omega) (by omega) (fun z => yes (decide_eq_true (by omega))) (fun z3 => ?_)
    refine r_run 400 rfl rfl ?_
    simp only [Nat.reduceAdd]
    rw [a0]
    refine n_ieq rfl (by omega) (by omega) (fun z => yes (decide_eq_true (by omega))) (fun z4 => ?_)
    refine r_run 400 rfl rfl ?_
    simp only [Nat.reduceAdd]
    rw [a0]
    refine n_ine rfl (by omega) (by omega) (fun z5 => ?_) (fun z => yes (decide_eq_true (by omega)))
    refine r_to 72 60 rfl rfl ?_
    exact go false (decide_eq_false (by omega)).symm
  refine r_run 400 rfl rfl ?_
  refine r_inv rfl rfl rfl ?_
  simp only [Nat.reduceAdd]
  refine m_here (d + 1) i L tx _ _ (MT_row h (by simp (disch := omega) only [x_up_o, x_up_n, x_up_e]) (by rw [x_up_row (by decide), x_up_row (by decide)])) (by simp (disch := omega) only [x_up_o, x_up_n, x_up_e]; exact hs) (by omega) ?_
  rw [hcc]
  refine r_to 21 60 rfl rfl ?_
  refine chain _ ?_ ?_ ?_ ?_ (fun j hj => ?_) (fun a ha => by rw [x_up_row ha, x_up_row ha, x_up_row ha])
  · simp (disch := omega) only [x_up_o, x_up_n, x_up_e]
  · simp (disch := omega) only [x_up_o, x_up_n, x_up_e, hs]
  · simp (disch := omega) only [x_up_o, x_up_n, x_up_e]
  · simp (disch := omega) only [x_up_o, x_up_n, x_up_e, hs]
  · simp (disch := omega) only [x_up_o, x_up_n, x_up_e]
