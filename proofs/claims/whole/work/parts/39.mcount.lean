/-! ===== the reference's sums ===== -/
theorem x_shl0 : ∀ p, p < 31 → nI 0 <<< (nI p &&& 31) = nI 0 := by decide
set_option maxHeartbeats 4000000 in
theorem m_inSet (d n : Nat) (In : Nat → Bool) (g : xG) (Q : xQ) (hn : g 158 2 = nI n) (h12 : n ≤ 12) (h : ∀ p, p < n → g 158 (65 + 9 * p + 2) = if In p = true then nI 1 else nI 0) (k : Q (some (.int (nI (x_enc In n)))) g) : Cx (d + 2) i_Md_inSet [.ref 157] g Q := by
  refine r_cl (L0 := [some (.ref 157), none, none]) rfl (Or.inr ⟨_, _, _, rfl, rfl⟩) rfl rfl rfl ?_
  have loop : ∀ p, p ≤ n → Rx (d + 1) m_Md_inSet Q 4 [some (.ref 157), some (.int (nI (x_enc In p))), some (.int (nI p))] [] g := by
    refine r_for ?_ ?_
    · refine r_run 400 rfl rfl ?_
      refine r_ald (j := 2) rfl rfl rfl (by decide) (Nat.le_of_ble_eq_true rfl) ?_
      simp only [x_up_app, x_ce_app, x_ce_same, Nat.reduceAdd, Nat.reduceEqDiff, ↓reduceIte, Nat.reduceSub, Nat.reduceMul, reduceCtorEq, hn]
      refine n_ige rfl (by omega) (by omega) (fun _ => ?_) (fun h2 => by omega)
      refine r_run 400 rfl rfl ?_
      exact r_iret rfl rfl k
    · intro p hp ih
      refine r_run 400 rfl rfl ?_
      refine r_ald (j := 2) rfl rfl rfl (by decide) (Nat.le_of_ble_eq_true rfl) ?_
      simp only [x_up_app, x_ce_app, x_ce_same, Nat.reduceAdd, Nat.reduceEqDiff, ↓reduceIte, Nat.reduceSub, Nat.reduceMul, reduceCtorEq, hn]
      refine n_ige rfl (by omega) (by omega) (fun _ => by omega) (fun _ => ?_)
      refine r_run 400 rfl rfl ?_
      refine r_inv rfl rfl rfl ?_
      refine m_of d p 2 g _ (by omega) (by omega) ?_
      rw [h p hp]
      have e : nI (x_enc In p) ||| ((if In p = true then nI 1 else nI 0) <<< (nI p &&& 31)) = nI (x_enc In (p + 1)) := by
        show _ = nI (x_enc In p ||| (if In p = true then 2 ^ p else 0))
        rw [← x_or]
        congr 1
        split
        · exact x_shl1 (by omega)
        · exact x_shl0 p (by omega)
      refine r_to 4 60 rfl rfl ?_
      simp only [nI_add]
      rw [e]
      exact ih
  refine r_to 4 60 rfl rfl ?_
  exact loop 0 (Nat.zero_le _)
set_option maxHeartbeats 4000000 in
theorem m_onlyOne (d n : Nat) (In : Nat → Bool) (g : xG) (Q : xQ) (hn : g 158 2 = nI n) (h12 : n ≤ 12) (h : ∀ p, p < n → g 158 (65 + 9 * p + 2) = x_b (In p)) (k : Q (some (.int (if x_cnt In n = 1 then nI (x_lf In n 0) else -1000004))) g) : Cx (d + 3) i_Md_onlyOne [.ref 157] g Q := by
  have hcn := x_cnt_le In n
  refine r_cl (L0 := [some (.ref 157), none, none]) rfl (Or.inr ⟨_, _, _, rfl, rfl⟩) rfl rfl rfl ?_
  have loop : ∀ p, p ≤ n → (x_cnt In n = 1 ∨ p = 0) → Rx (d + 2) m_Md_onlyOne Q 5 [some (.ref 157), some (.int (if x_cnt In p = 1 then nI (x_lf In p 0) else -1000004)), some (.int (nI p))] [] g := by
    refine r_for ?_ ?_
    · intro h1
      refine r_run 400 rfl rfl ?_
      refine r_ald (j := 2) rfl rfl rfl (by decide) (Nat.le_of_ble_eq_true rfl) ?_
      simp only [x_up_app, x_ce_app, x_ce_same, Nat.reduceAdd, Nat.reduceEqDiff, ↓reduceIte, Nat.reduceSub, Nat.reduceMul, reduceCtorEq, hn]
      refine n_ige rfl (by omega) (by omega) (fun _ => ?_) (fun h2 => by omega)
      refine r_run 400 rfl rfl ?_
      exact r_iret rfl rfl k
    · intro p hp ih h1
      refine r_run 400 rfl rfl ?_
      refine r_ald (j := 2) rfl rfl rfl (by decide) (Nat.le_of_ble_eq_true rfl) ?_
      simp only [x_up_app, x_ce_app, x_ce_same, Nat.reduceAdd, Nat.reduceEqDiff, ↓reduceIte, Nat.reduceSub, Nat.reduceMul, reduceCtorEq, hn]
      refine n_ige rfl (by omega) (by omega) (fun _ => by omega) (fun _ => ?_)
      refine r_run 400 rfl rfl ?_
      refine r_inv rfl rfl rfl ?_
      refine m_inPlay d n In g _ hn h12 h ?_
      refine r_run 400 rfl rfl ?_
      refine n_ine rfl (by omega) (by omega) (fun hne => ?_) (fun he => ?_)
      · have e0 : p = 0 := by
          rcases h1 with h1 | h1
          · exact absurd h1 hne
          · exact h1
        subst e0
        rw [if_neg hne] at k
        refine r_run 400 rfl rfl ?_
        exact r_iret rfl rfl k
      · have ih := ih (Or.inl he)
        have hs : x_cnt In (p + 1) = x_cnt In p + if In p = true then 1 else 0 := rfl
        have hle : x_cnt In (p + 1) ≤ 1 := by
          have : ∀ k, p + 1 + k ≤ n → x_cnt In (p + 1) ≤ x_cnt In (p + 1 + k) := by
            intro k
            induction k with
            | zero => intro _; exact Nat.le_refl _
            | succ k ihk =>
              intro hk
              have := ihk (by omega)
              show x_cnt In (p + 1) ≤ x_cnt In (p + 1 + k) + _
              omega
          have := this (n - (p + 1)) (by omega)
          rw [show p + 1 + (n - (p + 1)) = n by omega, he] at this
          exact this
        refine r_run 400 rfl rfl ?_
        refine r_inv rfl rfl rfl ?_
        refine m_isIn d p (In p) g _ (by omega) (h p hp) (fun hi => ?_) (fun hi => ?_)
        · have c0 : x_cnt In p = 0 := by
            rw [hs, hi] at hle
            simp at hle
            exact hle
          have hf : x_lf In (p + 1) 0 = p := x_lf_eq (Nat.zero_le _) (by omega) hi (fun j _ hj => by
            cases hh : In j with
            | false => rfl
            | true =>
              have := x_cnt_lt (f := fun _ => false) (f' := In) (fun _ h => by cases h) p j hj rfl hh
              omega)
          rw [hs, hi, c0, if_pos (by simp), hf] at ih
          refine t_eq1 rfl ?_
          refine r_to 5 60 rfl rfl ?_
          simp only [nI_add]
          exact ih
        · rw [hs, hi] at ih
          refine t_eq0 rfl ?_
          refine r_to 5 60 rfl rfl ?_
          simp only [nI_add]
          have e : (if (x_cnt In p + if false = true then 1 else 0) = 1 then nI (x_lf In (p + 1) 0) else -1000004) = (if x_cnt In p = 1 then nI (x_lf In p 0) else -1000004) := by
            rw [if_neg (show ¬ false = true by decide), Nat.add_zero]
            split
            · rename_i hc
              have hex : ∃ j, j < p ∧ In j = true := by
                apply Classical.byContradiction
                intro hno
                have : x_cnt In p = x_cnt (fun _ => false) p := x_cnt_congr p (fun i hi => by
                  cases hh : In i with
                  | false => rfl
                  | true => exact absurd ⟨i, hi, hh⟩ hno)
                have h0 : ∀ n, x_cnt (fun _ => false) n = 0 := by
                  intro n
                  induction n with
                  | zero => rfl
                  | succ n ih => show x_cnt _ n + 0 = 0; rw [ih]
                rw [h0] at this
                omega
              obtain ⟨j, hj, hjt⟩ := hex
              obtain ⟨a1, a2, a3, a4⟩ := x_lf_ok In p 0 ⟨j, Nat.zero_le _, by omega, hjt⟩
              rw [x_lf_eq (b := x_lf In p 0) (Nat.zero_le _) (by omega) a3 a4]
            · rfl
          rw [e] at ih
          exact ih
  refine r_to 5 60 rfl rfl ?_
  exact loop 0 (Nat.zero_le _) (Or.inr rfl)
set_option maxHeartbeats 8000000 in
theorem n_count (d : Nat) (T : xT) (w : Int32) (g : xG) (Q : xQ) (h : MS g T) (hk : tOk T) (k : Q (some (.int (qCount T (iN w)))) g) : Cx (d + 4) i_Md_count [.ref 157, .int w] g Q := by
  have hvk := hk.1
  obtain ⟨⟨v1, v2, v3, v4, v5, v6⟩, -⟩ := id hvk
  obtain ⟨hr, h14, -, h15, -⟩ := h
  obtain ⟨⟨w0, w1, w2, w3, w4, w5, w6, w7, w9, w10, w11, w13, w16⟩, -, h3, -⟩ := hr
  have hin : ∀ p, p < vn (tV T) → g 158 (65 + 9 * p + 2) = x_b (vin (tV T) p) := fun p hp => (h3 p hp).2.2.1
  have hni : ∀ x : Nat, x < 2 ^ 31 → w = nI x → iN w = x := fun x hx e => by rw [e, iN_nI (by omega)]
  -- the others
  have dflt : ¬ (w = nI 3 ∨ w = nI 8 ∨ w = nI 12 ∨ w = nI 14 ∨ w = nI 15 ∨ w = nI 20) → Rx (d + 3) m_Md_count Q 127 [some (.ref 157), some (.int w)] [] g := by
    intro hno
    refine r_run 400 rfl rfl ?_
    refine r_ins rfl rfl rfl rfl rfl ?_
    refine m_in (d + 2) w (nI 0) (nI 16) g _ (fun t1 t2 => ?_) (fun t1 => ?_)
    · obtain ⟨x, rfl, hx1, hx2⟩ := x_in_nat (by omega) (by omega) t1 t2
      rw [iN_nI (by omega)] at k
      refine t_eq1 rfl ?_
      refine r_run 400 rfl rfl ?_
      refine r_ald (j := x) rfl rfl rfl (by omega) (Nat.le_of_ble_eq_true rfl) ?_
      refine r_run 400 rfl rfl ?_
      refine r_iret rfl rfl ?_
      simp only [Nat.reduceAdd]
      have e : x = 0 ∨ x = 1 ∨ x = 2 ∨ x = 4 ∨ x = 5 ∨ x = 6 ∨ x = 7 ∨ x = 9 ∨ x = 10 ∨ x = 11 ∨ x = 13 ∨ x = 16 := by
        have m3 : ¬ x = 3 := fun e => hno (by rw [e]; exact Or.inl rfl)
        have m8 : ¬ x = 8 := fun e => hno (by rw [e]; exact Or.inr (Or.inl rfl))
        have m12 : ¬ x = 12 := fun e => hno (by rw [e]; exact Or.inr (Or.inr (Or.inl rfl)))
        have m14 : ¬ x = 14 := fun e => hno (by rw [e]; exact Or.inr (Or.inr (Or.inr (Or.inl rfl))))
        have m15 : ¬ x = 15 := fun e => hno (by rw [e]; exact Or.inr (Or.inr (Or.inr (Or.inr (Or.inl rfl)))))
        omega
      rcases e with rfl | rfl | rfl | rfl | rfl | rfl | rfl | rfl | rfl | rfl | rfl | rfl
      · rw [w0]; exact k
      · rw [w1]; exact k
      · rw [w2]; exact k
      · rw [w4]; exact k
      · rw [w5]; exact k
      · rw [w6]; exact k
      · rw [w7]; exact k
      · rw [w9]; exact k
      · rw [w10]; exact k
      · rw [w11]; exact k
      · rw [w13]; exact k
      · rw [w16]; exact k
    · refine t_eq0 rfl ?_
      rw [qCount_no (by
        have h16 : ¬ iN w ≤ 16 := fun z => t1 (by rw [← nI_iN w]; exact ⟨(nI_leI (by omega) (by omega)).mpr (by omega), (nI_leI (by omega) (by omega)).mpr (by omega)⟩)
        have h20 : ¬ iN w = 20 := fun z => hno (by rw [← nI_iN w, z]; exact Or.inr (Or.inr (Or.inr (Or.inr (Or.inr rfl)))))
        omega)] at k
      refine r_run 400 rfl rfl ?_
      exact r_iret rfl rfl k
  refine r_cl (L0 := [some (.ref 157), some (.int w)]) rfl (Or.inr ⟨_, _, _, rfl, rfl⟩) rfl rfl rfl ?_
  refine r_run 400 rfl rfl ?_
  refine r_tsw rfl rfl ⟨fun x hx e => ?_, fun hno => ?_⟩
  · simp only [List.mem_cons, List.not_mem_nil, or_false] at hx
    have dn : ∀ y : Nat, y < 2 ^ 31 → w = nI y → ¬ (y = 3 ∨ y = 8 ∨ y = 12 ∨ y = 14 ∨ y = 15 ∨ y = 20) → Rx (d + 3) m_Md_count Q 127 [some (.ref 157), some (.int w)] [] g := fun y hy e hn => dflt (fun z => hn (by
      rw [e] at z
      rw [nI_eq hy (by omega), nI_eq hy (by omega), nI_eq hy (by omega), nI_eq hy (by omega), nI_eq hy (by omega), nI_eq hy (by omega)] at z
      exact z))
    rcases hx with rfl | rfl | rfl | rfl | rfl | rfl | rfl | rfl | rfl | rfl | rfl | rfl | rfl | rfl | rfl | rfl | rfl | rfl
    · rw [hni 3 (by omega) e] at k
      refine r_run 400 rfl rfl ?_
      refine r_inv rfl rfl rfl ?_
      refine m_inSet (d + 1) (vn (tV T)) (vin (tV T)) g _ w2 v6 hin ?_
      exact r_iret rfl rfl k
    · exact dn 4 (by omega) e (by omega)
    · exact dn 5 (by omega) e (by omega)
    · exact dn 6 (by omega) e (by omega)
    · exact dn 7 (by omega) e (by omega)
    · rw [hni 8 (by omega) e] at k
      refine r_run 400 rfl rfl ?_
      refine r_ald (j := 2) rfl rfl rfl (by decide) (Nat.le_of_ble_eq_true rfl) ?_
      refine r_run 400 rfl rfl ?_
      refine r_inv rfl rfl rfl ?_
      refine m_inPlay (d + 1) (vn (tV T)) (vin (tV T)) g _ w2 v6 hin ?_
      refine r_run 400 rfl rfl ?_
      simp only [Nat.reduceAdd]
      rw [w2]
      exact r_iret rfl rfl k
    · exact dn 9 (by omega) e (by omega)
    · exact dn 10 (by omega) e (by omega)
    · exact dn 11 (by omega) e (by omega)
    · rw [hni 12 (by omega) e] at k
      refine r_run 400 rfl rfl ?_
      refine r_inv rfl rfl rfl ?_
      refine m_onlyOne d (vn (tV T)) (vin (tV T)) g _ w2 v6 hin ?_
      exact r_iret rfl rfl k
    · exact dn 13 (by omega) e (by omega)
    · rw [hni 14 (by omega) e] at k
      refine r_run 400 rfl rfl ?_
      simp only [Nat.reduceAdd]
      rw [h14]
      exact r_iret rfl rfl k
    · rw [hni 15 (by omega) e] at k
      refine r_run 400 rfl rfl ?_
      simp only [Nat.reduceAdd]
      rw [h15]
      exact r_iret rfl rfl k
    · exact dn 16 (by omega) e (by omega)
    · exact dn 17 (by omega) e (by omega)
    · exact dn 18 (by omega) e (by omega)
    · exact dn 19 (by omega) e (by omega)
    · rw [hni 20 (by omega) e] at k
      refine r_run 400 rfl rfl ?_
      refine r_ald (j := 3) rfl rfl rfl (by decide) (Nat.le_of_ble_eq_true rfl) ?_
      refine r_run 400 rfl rfl ?_
      simp only [Nat.reduceAdd]
      rw [w3]
      exact r_iret rfl rfl k
  · simp only [List.mem_cons, List.not_mem_nil, or_false, forall_eq_or_imp, forall_eq] at hno
    obtain ⟨n3, n4, n5, n6, n7, n8, n9, n10, n11, n12, n13, n14, n15, n16, n17, n18, n19, n20⟩ := hno
    refine dflt (fun z => ?_)
    rcases z with z | z | z | z | z | z
    · exact n3 z
    · exact n8 z
    · exact n12 z
    · exact n14 z
    · exact n15 z
    · exact n20 z
