/-! ===== groping: bells, the beginning ===== -/
set_option maxHeartbeats 4000000 in
theorem c_grRing_2 (d n c : Nat) (g : xG) (Q : xQ) (K : Nat → Nat → Bool) (ear tone : Nat → Nat) (hn : g 7 9 = nI n) (h12 : n ≤ 12) (hc : g 3 3 = nI c) (h16 : c ≤ 16) (hK : ∀ p, p < n → x_mk (g 126 p) c (K p)) (hE : ∀ p, p < n → g 9 p = nI (ear p) ∧ ear p < 512) (hT : ∀ j, j < c → g 4 j = nI (tone j) ∧ tone j ≤ 8)
    (k : ∀ g' : xG, (∀ p, p < n → x_mk (g' 126 p) c (fun j => K p j || (decide (g 133 j = g 124 11) && (ear p).testBit (tone j)))) → (∀ a, a ≠ 126 → g' a = g a) → Q none g') : Cx (d + 2) i_Grope_ring [.ref 124, .ref 3, .ref 7] g Q := by
  refine r_cl (L0 := [some (.ref 124), some (.ref 3), some (.ref 7), none, none]) rfl (Or.inr ⟨_, _, _, rfl, rfl⟩) rfl rfl rfl ?_
  have loop : ∀ p, p ≤ n → ∀ (g' : xG) (l4 : Option Value), (∀ i, i < n → x_mk (g' 126 i) c (fun j => K i j || (decide (i < p) && (decide (g 133 j = g 124 11) && (ear i).testBit (tone j))))) → (∀ a, a ≠ 126 → g' a = g a) → Rx (d + 1) m_Grope_ring Q 2 [some (.ref 124), some (.ref 3), some (.ref 7), some (.int (nI p)), l4] [] g' := by
    refine r_for ?_ ?_
    · intro g' l4 a1 a2
      refine r_run 400 rfl rfl ?_
      simp only [x_up_app, x_ce_app, x_ce_same, Nat.reduceAdd, Nat.reduceEqDiff, ↓reduceIte, Nat.reduceSub, Nat.reduceMul, reduceCtorEq, a2 7 (by decide), hn]
      refine n_ige rfl (by omega) (by omega) (fun _ => ?_) (fun h2 => by omega)
      refine r_run 400 rfl rfl ?_
      refine r_ret rfl rfl (k g' (fun i hi => x_mk_congr (a1 i hi) (fun j _ => ?_)) a2)
      simp [hi]
    · intro p hp ih g' l4 a1 a2
      obtain ⟨he1, he2⟩ := hE p hp
      have inner : ∀ q, q ≤ c → ∀ g2 : xG, (∀ i, i < n → x_mk (g2 126 i) c (fun j => K i j || ((decide (i < p) || (decide (i = p) && decide (j < q))) && (decide (g 133 j = g 124 11) && (ear i).testBit (tone j))))) → (∀ a, a ≠ 126 → g2 a = g a) → Rx (d + 1) m_Grope_ring Q 13 [some (.ref 124), some (.ref 3), some (.ref 7), some (.int (nI p)), some (.int (nI q))] [] g2 := by
        refine r_for ?_ ?_
        · intro g2 b1 b2
          refine r_run 400 rfl rfl ?_
          simp only [x_up_app, x_ce_app, x_ce_same, Nat.reduceAdd, Nat.reduceEqDiff, ↓reduceIte, Nat.reduceSub, Nat.reduceMul, reduceCtorEq, b2 3 (by decide), hc]
          refine n_ige rfl (by omega) (by omega) (fun _ => ?_) (fun h2 => by omega)
          refine r_to 2 60 rfl rfl ?_
          simp only [x_up_app, x_ce_app, x_ce_same, Nat.reduceAdd, Nat.reduceEqDiff, ↓reduceIte, Nat.reduceSub, Nat.reduceMul, reduceCtorEq, nI_add]
          refine ih g2 _ (fun i hi => x_mk_congr (b1 i hi) (fun j hj => ?_)) b2
          by_cases e : i = p
          · subst e
            simp [hj]
          · simp only [show (i < p + 1) = (i < p) from propext (by omega), e, decide_false, Bool.false_and, Bool.or_false]
        · intro q hq ih2 g2 b1 b2
          obtain ⟨ht1, ht2⟩ := hT q hq
          -- the chair passes
          have pass : (decide (g 133 q = g 124 11) && (ear p).testBit (tone q)) = false → Rx (d + 1) m_Grope_ring Q 64 [some (.ref 124), some (.ref 3), some (.ref 7), some (.int (nI p)), some (.int (nI q))] [] g2 := by
            intro hno
            refine r_to 13 60 rfl rfl ?_
            simp only [x_up_app, x_ce_app, x_ce_same, Nat.reduceAdd, Nat.reduceEqDiff, ↓reduceIte, Nat.reduceSub, Nat.reduceMul, reduceCtorEq, nI_add]
            refine ih2 g2 (fun i hi => x_mk_congr (b1 i hi) (fun j hj => ?_)) b2
            by_cases e : i = p
            · subst e
              by_cases e2 : j = q
              · subst e2
                rw [hno]
                simp
              · simp only [show (j < q + 1) = (j < q) from propext (by omega)]
            · simp only [e, decide_false, Bool.false_and, Bool.or_false]
          refine r_run 400 rfl rfl ?_
          simp only [x_up_app, x_ce_app, x_ce_same, Nat.reduceAdd, Nat.reduceEqDiff, ↓reduceIte, Nat.reduceSub, Nat.reduceMul, reduceCtorEq, b2 3 (by decide), hc]
          refine n_ige rfl (by omega) (by omega) (fun _ => by omega) (fun _ => ?_)
          refine r_run 400 rfl rfl ?_
          refine r_ald (j := q) rfl rfl rfl (by omega) (Nat.le_of_ble_eq_true rfl) ?_
          refine r_run 400 rfl rfl ?_
          simp only [x_up_app, x_ce_app, x_ce_same, Nat.reduceAdd, Nat.reduceEqDiff, ↓reduceIte, Nat.reduceSub, Nat.reduceMul, reduceCtorEq, b2 133 (by decide), b2 124 (by decide)]
          refine r_ine rfl (fun hne => ?_) (fun heq => ?_)
          · exact pass (by simp [hne])
          · refine r_run 400 rfl rfl ?_
            refine r_ald (j := q) rfl rfl rfl (by omega) (Nat.le_of_ble_eq_true rfl) ?_
            simp only [x_up_app, x_ce_app, x_ce_same, Nat.reduceAdd, Nat.reduceEqDiff, ↓reduceIte, Nat.reduceSub, Nat.reduceMul, reduceCtorEq, b2 4 (by decide), ht1]
            refine r_inv rfl rfl rfl ?_
            refine c_hearsTone_2 d p (tone q) g2 _ (by omega) (by rw [b2 9 (by decide)]; exact he1) (by omega) (by omega) (fun hb => ?_) (fun hb => ?_)
            · have hbt := x_bit_tb.mp hb
              refine t_eq1 rfl ?_
              refine r_run 400 rfl rfl ?_
              refine r_ald (j := p) rfl rfl (rfl) (by omega) (Nat.le_of_ble_eq_true rfl) ?_
              refine r_run 400 rfl rfl ?_
              refine r_ast (j := p) rfl rfl rfl (by omega) (Nat.le_of_ble_eq_true rfl) ?_
              refine r_to 13 60 rfl rfl ?_
              simp only [x_up_app, x_ce_app, x_ce_same, Nat.reduceAdd, Nat.reduceEqDiff, ↓reduceIte, Nat.reduceSub, Nat.reduceMul, reduceCtorEq, nI_add]
              refine ih2 _ (fun i hi => ?_) (fun a ha => by rw [x_up_row ha]; exact b2 a ha)
              simp only [x_up_app, x_ce_app, x_ce_same, Nat.reduceAdd, Nat.reduceEqDiff, ↓reduceIte, Nat.reduceSub, Nat.reduceMul, reduceCtorEq]
              by_cases e : i = p
              · subst e
                rw [if_pos rfl]
                refine x_mk_set (b1 i hi) hq h16 (fun j hj => ?_)
                by_cases e2 : j = q
                · subst e2
                  simp [heq, hbt]
                · simp only [show (j < q + 1) = (j < q) from propext (by omega), e2, decide_false, Bool.or_false]
              · rw [if_neg e]
                refine x_mk_congr (b1 i hi) (fun j hj => ?_)
                simp only [e, decide_false, Bool.false_and, Bool.or_false]
            · refine t_eq0 rfl ?_
              refine pass ?_
              have : (ear p).testBit (tone q) = false := by
                cases h : (ear p).testBit (tone q) with
                | false => rfl
                | true => exact absurd (x_bit_tb.mpr h) hb
              simp [this]
      refine r_run 400 rfl rfl ?_
      simp only [x_up_app, x_ce_app, x_ce_same, Nat.reduceAdd, Nat.reduceEqDiff, ↓reduceIte, Nat.reduceSub, Nat.reduceMul, reduceCtorEq, a2 7 (by decide), hn]
      refine n_ige rfl (by omega) (by omega) (fun _ => by omega) (fun _ => ?_)
      refine r_to 13 60 rfl rfl ?_
      refine inner 0 (Nat.zero_le _) g' (fun i hi => x_mk_congr (a1 i hi) (fun j hj => ?_)) a2
      simp
  refine r_to 2 60 rfl rfl ?_
  exact loop 0 (Nat.zero_le _) g none (fun i hi => x_mk_congr (hK i hi) (fun j _ => by simp)) (fun _ _ => rfl)
set_option maxHeartbeats 4000000 in
theorem c_begin_2 (d n c b : Nat) (st qp : Nat → Nat) (g : xG) (Q : xQ) (hn : g 7 9 = nI n) (h12 : n ≤ 12) (hc : g 3 3 = nI c) (hc1 : 1 ≤ c) (h16 : c ≤ 16) (hb : b ≤ 1000) (hs : ∀ p, p < n → g 8 p = nI (st p) ∧ st p ≤ 9) (hq : ∀ p, p < n → g 10 p = nI (qp p) ∧ qp p < 16)
    (k : ∀ g' : xG, g' 124 9 = g 7 8 → g' 124 10 = nI 0 → g' 124 11 = nI 0 → (∀ p, p < n → g' 125 p = nI ((qp p + st p * b) % c) ∧ g' 126 p = nI 0 ∧ g' 129 p = -1 ∧ g' 130 p = nI 0 ∧ g' 131 p = nI 0) → (∀ j, j < c → g' 132 j = -1 ∧ g' 133 j = nI 0) → (∀ a, (a < 124 ∨ 133 < a) → g' a = g a) → Q none g') : Cx (d + 2) i_Grope_begin [.ref 124, .ref 3, .ref 7, .int (nI b)] g Q := by
  refine r_cl (L0 := [some (.ref 124), some (.ref 3), some (.ref 7), some (.int (nI b)), none]) rfl (Or.inr ⟨_, _, _, rfl, rfl⟩) rfl rfl rfl ?_
  -- the chairs
  have loop2 : ∀ j, j ≤ c → ∀ g' : xG, g' 124 9 = g 7 8 → g' 124 10 = nI 0 → g' 124 11 = nI 0 → (∀ p, p < n → g' 125 p = nI ((qp p + st p * b) % c) ∧ g' 126 p = nI 0 ∧ g' 129 p = -1 ∧ g' 130 p = nI 0 ∧ g' 131 p = nI 0) → (∀ i, i < j → g' 132 i = -1 ∧ g' 133 i = nI 0) → (∀ a, (a < 124 ∨ 133 < a) → g' a = g a) → Rx (d + 1) m_Grope_begin Q 98 [some (.ref 124), some (.ref 3), some (.ref 7), some (.int (nI b)), some (.int (nI j))] [] g' := by
    refine r_for ?_ ?_
    · intro g' a1 a2 a3 a4 a5 a6
      refine r_run 400 rfl rfl ?_
      simp only [x_up_app, x_ce_app, x_ce_same, Nat.reduceAdd, Nat.reduceEqDiff, ↓reduceIte, Nat.reduceSub, Nat.reduceMul, reduceCtorEq, a6 3 (by decide), hc]
      refine n_ige rfl (by omega) (by omega) (fun _ => ?_) (fun h2 => by omega)
      refine r_run 400 rfl rfl ?_
      exact r_ret rfl rfl (k g' a1 a2 a3 a4 a5 a6)
    · intro j hj ih g' a1 a2 a3 a4 a5 a6
      refine r_run 400 rfl rfl ?_
      simp only [x_up_app, x_ce_app, x_ce_same, Nat.reduceAdd, Nat.reduceEqDiff, ↓reduceIte, Nat.reduceSub, Nat.reduceMul, reduceCtorEq, a6 3 (by decide), hc]
      refine n_ige rfl (by omega) (by omega) (fun _ => by omega) (fun _ => ?_)
      refine r_run 400 rfl rfl ?_
      refine r_ast (j := j) rfl rfl rfl (by omega) (Nat.le_of_ble_eq_true rfl) ?_
      refine r_run 400 rfl rfl ?_
      refine r_ast (j := j) rfl rfl rfl (by omega) (Nat.le_of_ble_eq_true rfl) ?_
      refine r_to 98 60 rfl rfl ?_
      simp only [x_up_app, x_ce_app, x_ce_same, Nat.reduceAdd, Nat.reduceEqDiff, ↓reduceIte, Nat.reduceSub, Nat.reduceMul, reduceCtorEq, nI_add]
      refine ih _ ?_ ?_ ?_ (fun p hp => ?_) (fun i hi => ?_) (fun a ha => ?_)
      · simp only [x_up_app, x_ce_app, x_ce_same, Nat.reduceAdd, Nat.reduceEqDiff, ↓reduceIte, Nat.reduceSub, Nat.reduceMul, reduceCtorEq]
        exact a1
      · simp only [x_up_app, x_ce_app, x_ce_same, Nat.reduceAdd, Nat.reduceEqDiff, ↓reduceIte, Nat.reduceSub, Nat.reduceMul, reduceCtorEq]
        exact a2
      · simp only [x_up_app, x_ce_app, x_ce_same, Nat.reduceAdd, Nat.reduceEqDiff, ↓reduceIte, Nat.reduceSub, Nat.reduceMul, reduceCtorEq]
        exact a3
      · simp only [x_up_app, x_ce_app, x_ce_same, Nat.reduceAdd, Nat.reduceEqDiff, ↓reduceIte, Nat.reduceSub, Nat.reduceMul, reduceCtorEq]
        exact a4 p hp
      · simp only [x_up_app, x_ce_app, x_ce_same, Nat.reduceAdd, Nat.reduceEqDiff, ↓reduceIte, Nat.reduceSub, Nat.reduceMul, reduceCtorEq]
        by_cases e : i = j
        · subst e
          simp
        · rw [if_neg e, if_neg e]
          exact a5 i (by omega)
      · rw [x_up_row (by omega), x_up_row (by omega)]
        exact a6 a ha
  -- the players
  have loop1 : ∀ p, p ≤ n → ∀ g' : xG, g' 124 9 = g 7 8 → g' 124 10 = nI 0 → g' 124 11 = nI 0 → (∀ i, i < p → g' 125 i = nI ((qp i + st i * b) % c) ∧ g' 126 i = nI 0 ∧ g' 129 i = -1 ∧ g' 130 i = nI 0 ∧ g' 131 i = nI 0) → (∀ a, (a < 124 ∨ 133 < a) → g' a = g a) → Rx (d + 1) m_Grope_begin Q 21 [some (.ref 124), some (.ref 3), some (.ref 7), some (.int (nI b)), some (.int (nI p))] [] g' := by
    refine r_for ?_ ?_
    · intro g' a1 a2 a3 a4 a6
      refine r_run 400 rfl rfl ?_
      simp only [x_up_app, x_ce_app, x_ce_same, Nat.reduceAdd, Nat.reduceEqDiff, ↓reduceIte, Nat.reduceSub, Nat.reduceMul, reduceCtorEq, a6 7 (by decide), hn]
      refine n_ige rfl (by omega) (by omega) (fun _ => ?_) (fun h2 => by omega)
      refine r_to 98 60 rfl rfl ?_
      exact loop2 0 (Nat.zero_le _) g' a1 a2 a3 a4 (fun i hi => absurd hi (Nat.not_lt_zero _)) a6
    · intro p hp ih g' a1 a2 a3 a4 a6
      obtain ⟨s1, s2⟩ := hs p hp
      obtain ⟨q1, q2⟩ := hq p hp
      have hmul : st p * b ≤ 9 * 1000 := Nat.mul_le_mul s2 hb
      refine r_run 400 rfl rfl ?_
      simp only [x_up_app, x_ce_app, x_ce_same, Nat.reduceAdd, Nat.reduceEqDiff, ↓reduceIte, Nat.reduceSub, Nat.reduceMul, reduceCtorEq, a6 7 (by decide), hn]
      refine n_ige rfl (by omega) (by omega) (fun _ => by omega) (fun _ => ?_)
      refine r_run 400 rfl rfl ?_
      refine r_ald (j := p) rfl rfl (rfl) (by omega) (Nat.le_of_ble_eq_true rfl) ?_
      refine r_run 400 rfl rfl ?_
      refine r_ald (j := p) rfl rfl (rfl) (by omega) (Nat.le_of_ble_eq_true rfl) ?_
      refine r_run 400 rfl rfl ?_
      simp only [x_up_app, x_ce_app, x_ce_same, Nat.reduceAdd, Nat.reduceEqDiff, ↓reduceIte, Nat.reduceSub, Nat.reduceMul, reduceCtorEq, a6 10 (by decide), a6 8 (by decide), q1, s1, pk_mul]
      refine r_inv rfl rfl rfl ?_
      refine c_Chairs_onFrom_2 d (qp p) (st p * b) g' _ (by rw [a6 3 (by decide)]; exact hc) hc1 h16 (by omega) ?_
      refine r_ast (j := p) rfl rfl rfl (by omega) (Nat.le_of_ble_eq_true rfl) ?_
      refine r_run 400 rfl rfl ?_
      refine r_ast (j := p) rfl rfl rfl (by omega) (Nat.le_of_ble_eq_true rfl) ?_
      refine r_run 400 rfl rfl ?_
      refine r_ast (j := p) rfl rfl rfl (by omega) (Nat.le_of_ble_eq_true rfl) ?_
      refine r_run 400 rfl rfl ?_
      refine r_ast (j := p) rfl rfl rfl (by omega) (Nat.le_of_ble_eq_true rfl) ?_
      refine r_run 400 rfl rfl ?_
      refine r_ast (j := p) rfl rfl rfl (by omega) (Nat.le_of_ble_eq_true rfl) ?_
      refine r_to 21 60 rfl rfl ?_
      simp only [x_up_app, x_ce_app, x_ce_same, Nat.reduceAdd, Nat.reduceEqDiff, ↓reduceIte, Nat.reduceSub, Nat.reduceMul, reduceCtorEq, nI_add]
      refine ih _ ?_ ?_ ?_ (fun i hi => ?_) (fun a ha => ?_)
      · simp only [x_up_app, x_ce_app, x_ce_same, Nat.reduceAdd, Nat.reduceEqDiff, ↓reduceIte, Nat.reduceSub, Nat.reduceMul, reduceCtorEq]
        exact a1
      · simp only [x_up_app, x_ce_app, x_ce_same, Nat.reduceAdd, Nat.reduceEqDiff, ↓reduceIte, Nat.reduceSub, Nat.reduceMul, reduceCtorEq]
        exact a2
      · simp only [x_up_app, x_ce_app, x_ce_same, Nat.reduceAdd, Nat.reduceEqDiff, ↓reduceIte, Nat.reduceSub, Nat.reduceMul, reduceCtorEq]
        exact a3
      · simp only [x_up_app, x_ce_app, x_ce_same, Nat.reduceAdd, Nat.reduceEqDiff, ↓reduceIte, Nat.reduceSub, Nat.reduceMul, reduceCtorEq]
        by_cases e : i = p
        · subst e
          simp
        · simp only [if_neg e]
          exact a4 i (by omega)
      · rw [x_up_row (by omega), x_up_row (by omega), x_up_row (by omega), x_up_row (by omega), x_up_row (by omega)]
        exact a6 a ha
  refine r_to 21 60 rfl rfl ?_
  refine loop1 0 (Nat.zero_le _) _ ?_ ?_ ?_ (fun i hi => absurd hi (Nat.not_lt_zero _)) (fun a ha => ?_)
  · simp only [x_up_app, x_ce_app, x_ce_same, Nat.reduceAdd, Nat.reduceEqDiff, ↓reduceIte, Nat.reduceSub, Nat.reduceMul, reduceCtorEq]
  · simp only [x_up_app, x_ce_app, x_ce_same, Nat.reduceAdd, Nat.reduceEqDiff, ↓reduceIte, Nat.reduceSub, Nat.reduceMul, reduceCtorEq]
  · simp only [x_up_app, x_ce_app, x_ce_same, Nat.reduceAdd, Nat.reduceEqDiff, ↓reduceIte, Nat.reduceSub, Nat.reduceMul, reduceCtorEq]
  · simp only [Nat.reduceAdd]
    rw [x_up_row (by omega), x_up_row (by omega), x_up_row (by omega)]
set_option maxHeartbeats 4000000 in
theorem c_grRing_137 (d n c : Nat) (g : xG) (Q : xQ) (K : Nat → Nat → Bool) (ear tone : Nat → Nat) (hn : g 142 9 = nI n) (h12 : n ≤ 12) (hc : g 138 3 = nI c) (h16 : c ≤ 16) (hK : ∀ p, p < n → x_mk (g 126 p) c (K p)) (hE : ∀ p, p < n → g 144 p = nI (ear p) ∧ ear p < 512) (hT : ∀ j, j < c → g 139 j = nI (tone j) ∧ tone j ≤ 8)
    (k : ∀ g' : xG, (∀ p, p < n → x_mk (g' 126 p) c (fun j => K p j || (decide (g 133 j = g 124 11) && (ear p).testBit (tone j)))) → (∀ a, a ≠ 126 → g' a = g a) → Q none g') : Cx (d + 2) i_Grope_ring [.ref 124, .ref 138, .ref 142] g Q := by
  refine r_cl (L0 := [some (.ref 124), some (.ref 138), some (.ref 142), none, none]) rfl (Or.inr ⟨_, _, _, rfl, rfl⟩) rfl rfl rfl ?_
  have loop : ∀ p, p ≤ n → ∀ (g' : xG) (l4 : Option Value), (∀ i, i < n → x_mk (g' 126 i) c (fun j => K i j || (decide (i < p) && (decide (g 133 j = g 124 11) && (ear i).testBit (tone j))))) → (∀ a, a ≠ 126 → g' a = g a) → Rx (d + 1) m_Grope_ring Q 2 [some (.ref 124), some (.ref 138), some (.ref 142), some (.int (nI p)), l4] [] g' := by
    refine r_for ?_ ?_
    · intro g' l4 a1 a2
      refine r_run 400 rfl rfl ?_
      simp only [x_up_app, x_ce_app, x_ce_same, Nat.reduceAdd, Nat.reduceEqDiff, ↓reduceIte, Nat.reduceSub, Nat.reduceMul, reduceCtorEq, a2 142 (by decide), hn]
      refine n_ige rfl (by omega) (by omega) (fun _ => ?_) (fun h2 => by omega)
      refine r_run 400 rfl rfl ?_
      refine r_ret rfl rfl (k g' (fun i hi => x_mk_congr (a1 i hi) (fun j _ => ?_)) a2)
      simp [hi]
    · intro p hp ih g' l4 a1 a2
      obtain ⟨he1, he2⟩ := hE p hp
      have inner : ∀ q, q ≤ c → ∀ g2 : xG, (∀ i, i < n → x_mk (g2 126 i) c (fun j => K i j || ((decide (i < p) || (decide (i = p) && decide (j < q))) && (decide (g 133 j = g 124 11) && (ear i).testBit (tone j))))) → (∀ a, a ≠ 126 → g2 a = g a) → Rx (d + 1) m_Grope_ring Q 13 [some (.ref 124), some (.ref 138), some (.ref 142), some (.int (nI p)), some (.int (nI q))] [] g2 := by
        refine r_for ?_ ?_
        · intro g2 b1 b2
          refine r_run 400 rfl rfl ?_
          simp only [x_up_app, x_ce_app, x_ce_same, Nat.reduceAdd, Nat.reduceEqDiff, ↓reduceIte, Nat.reduceSub, Nat.reduceMul, reduceCtorEq, b2 138 (by decide), hc]
          refine n_ige rfl (by omega) (by omega) (fun _ => ?_) (fun h2 => by omega)
          refine r_to 2 60 rfl rfl ?_
          simp only [x_up_app, x_ce_app, x_ce_same, Nat.reduceAdd, Nat.reduceEqDiff, ↓reduceIte, Nat.reduceSub, Nat.reduceMul, reduceCtorEq, nI_add]
          refine ih g2 _ (fun i hi => x_mk_congr (b1 i hi) (fun j hj => ?_)) b2
          by_cases e : i = p
          · subst e
            simp [hj]
          · simp only [show (i < p + 1) = (i < p) from propext (by omega), e, decide_false, Bool.false_and, Bool.or_false]
        · intro q hq ih2 g2 b1 b2
          obtain ⟨ht1, ht2⟩ := hT q hq
          -- the chair passes
          have pass : (decide (g 133 q = g 124 11) && (ear p).testBit (tone q)) = false → Rx (d + 1) m_Grope_ring Q 64 [some (.ref 124), some (.ref 138), some (.ref 142), some (.int (nI p)), some (.int (nI q))] [] g2 := by
            intro hno
            refine r_to 13 60 rfl rfl ?_
            simp only [x_up_app, x_ce_app, x_ce_same, Nat.reduceAdd, Nat.reduceEqDiff, ↓reduceIte, Nat.reduceSub, Nat.reduceMul, reduceCtorEq, nI_add]
            refine ih2 g2 (fun i hi => x_mk_congr (b1 i hi) (fun j hj => ?_)) b2
            by_cases e : i = p
            · subst e
              by_cases e2 : j = q
              · subst e2
                rw [hno]
                simp
              · simp only [show (j < q + 1) = (j < q) from propext (by omega)]
            · simp only [e, decide_false, Bool.false_and, Bool.or_false]
          refine r_run 400 rfl rfl ?_
          simp only [x_up_app, x_ce_app, x_ce_same, Nat.reduceAdd, Nat.reduceEqDiff, ↓reduceIte, Nat.reduceSub, Nat.reduceMul, reduceCtorEq, b2 138 (by decide), hc]
          refine n_ige rfl (by omega) (by omega) (fun _ => by omega) (fun _ => ?_)
          refine r_run 400 rfl rfl ?_
          refine r_ald (j := q) rfl rfl rfl (by omega) (Nat.le_of_ble_eq_true rfl) ?_
          refine r_run 400 rfl rfl ?_
          simp only [x_up_app, x_ce_app, x_ce_same, Nat.reduceAdd, Nat.reduceEqDiff, ↓reduceIte, Nat.reduceSub, Nat.reduceMul, reduceCtorEq, b2 133 (by decide), b2 124 (by decide)]
          refine r_ine rfl (fun hne => ?_) (fun heq => ?_)
          · exact pass (by simp [hne])
          · refine r_run 400 rfl rfl ?_
            refine r_ald (j := q) rfl rfl rfl (by omega) (Nat.le_of_ble_eq_true rfl) ?_
            simp only [x_up_app, x_ce_app, x_ce_same, Nat.reduceAdd, Nat.reduceEqDiff, ↓reduceIte, Nat.reduceSub, Nat.reduceMul, reduceCtorEq, b2 139 (by decide), ht1]
            refine r_inv rfl rfl rfl ?_
            refine c_hearsTone_137 d p (tone q) g2 _ (by omega) (by rw [b2 144 (by decide)]; exact he1) (by omega) (by omega) (fun hb => ?_) (fun hb => ?_)
            · have hbt := x_bit_tb.mp hb
              refine t_eq1 rfl ?_
              refine r_run 400 rfl rfl ?_
              refine r_ald (j := p) rfl rfl (rfl) (by omega) (Nat.le_of_ble_eq_true rfl) ?_
              refine r_run 400 rfl rfl ?_
              refine r_ast (j := p) rfl rfl rfl (by omega) (Nat.le_of_ble_eq_true rfl) ?_
              refine r_to 13 60 rfl rfl ?_
              simp only [x_up_app, x_ce_app, x_ce_same, Nat.reduceAdd, Nat.reduceEqDiff, ↓reduceIte, Nat.reduceSub, Nat.reduceMul, reduceCtorEq, nI_add]
              refine ih2 _ (fun i hi => ?_) (fun a ha => by rw [x_up_row ha]; exact b2 a ha)
              simp only [x_up_app, x_ce_app, x_ce_same, Nat.reduceAdd, Nat.reduceEqDiff, ↓reduceIte, Nat.reduceSub, Nat.reduceMul, reduceCtorEq]
              by_cases e : i = p
              · subst e
                rw [if_pos rfl]
                refine x_mk_set (b1 i hi) hq h16 (fun j hj => ?_)
                by_cases e2 : j = q
                · subst e2
                  simp [heq, hbt]
                · simp only [show (j < q + 1) = (j < q) from propext (by omega), e2, decide_false, Bool.or_false]
              · rw [if_neg e]
                refine x_mk_congr (b1 i hi) (fun j hj => ?_)
                simp only [e, decide_false, Bool.false_and, Bool.or_false]
            · refine t_eq0 rfl ?_
              refine pass ?_
              have : (ear p).testBit (tone q) = false := by
                cases h : (ear p).testBit (tone q) with
                | false => rfl
                | true => exact absurd (x_bit_tb.mpr h) hb
              simp [this]
      refine r_run 400 rfl rfl ?_
      simp only [x_up_app, x_ce_app, x_ce_same, Nat.reduceAdd, Nat.reduceEqDiff, ↓reduceIte, Nat.reduceSub, Nat.reduceMul, reduceCtorEq, a2 142 (by decide), hn]
      refine n_ige rfl (by omega) (by omega) (fun _ => by omega) (fun _ => ?_)
      refine r_to 13 60 rfl rfl ?_
      refine inner 0 (Nat.zero_le _) g' (fun i hi => x_mk_congr (a1 i hi) (fun j hj => ?_)) a2
      simp
  refine r_to 2 60 rfl rfl ?_
  exact loop 0 (Nat.zero_le _) g none (fun i hi => x_mk_congr (hK i hi) (fun j _ => by simp)) (fun _ _ => rfl)
set_option maxHeartbeats 4000000 in
theorem c_begin_137 (d n c b : Nat) (st qp : Nat → Nat) (g : xG) (Q : xQ) (hn : g 142 9 = nI n) (h12 : n ≤ 12) (hc : g 138 3 = nI c) (hc1 : 1 ≤ c) (h16 : c ≤ 16) (hb : b ≤ 1000) (hs : ∀ p, p < n → g 143 p = nI (st p) ∧ st p ≤ 9) (hq : ∀ p, p < n → g 145 p = nI (qp p) ∧ qp p < 16)
    (k : ∀ g' : xG, g' 124 9 = g 142 8 → g' 124 10 = nI 0 → g' 124 11 = nI 0 → (∀ p, p < n → g' 125 p = nI ((qp p + st p * b) % c) ∧ g' 126 p = nI 0 ∧ g' 129 p = -1 ∧ g' 130 p = nI 0 ∧ g' 131 p = nI 0) → (∀ j, j < c → g' 132 j = -1 ∧ g' 133 j = nI 0) → (∀ a, (a < 124 ∨ 133 < a) → g' a = g a) → Q none g') : Cx (d + 2) i_Grope_begin [.ref 124, .ref 138, .ref 142, .int (nI b)] g Q := by
  refine r_cl (L0 := [some (.ref 124), some (.ref 138), some (.ref 142), some (.int (nI b)), none]) rfl (Or.inr ⟨_, _, _, rfl, rfl⟩) rfl rfl rfl ?_
  -- the chairs
  have loop2 : ∀ j, j ≤ c → ∀ g' : xG, g' 124 9 = g 142 8 → g' 124 10 = nI 0 → g' 124 11 = nI 0 → (∀ p, p < n → g' 125 p = nI ((qp p + st p * b) % c) ∧ g' 126 p = nI 0 ∧ g' 129 p = -1 ∧ g' 130 p = nI 0 ∧ g' 131 p = nI 0) → (∀ i, i < j → g' 132 i = -1 ∧ g' 133 i = nI 0) → (∀ a, (a < 124 ∨ 133 < a) → g' a = g a) → Rx (d + 1) m_Grope_begin Q 98 [some (.ref 124), some (.ref 138), some (.ref 142), some (.int (nI b)), some (.int (nI j))] [] g' := by
    refine r_for ?_ ?_
    · intro g' a1 a2 a3 a4 a5 a6
      refine r_run 400 rfl rfl ?_
      simp only [x_up_app, x_ce_app, x_ce_same, Nat.reduceAdd, Nat.reduceEqDiff, ↓reduceIte, Nat.reduceSub, Nat.reduceMul, reduceCtorEq, a6 138 (by decide), hc]
      refine n_ige rfl (by omega) (by omega) (fun _ => ?_) (fun h2 => by omega)
      refine r_run 400 rfl rfl ?_
      exact r_ret rfl rfl (k g' a1 a2 a3 a4 a5 a6)
    · intro j hj ih g' a1 a2 a3 a4 a5 a6
      refine r_run 400 rfl rfl ?_
      simp only [x_up_app, x_ce_app, x_ce_same, Nat.reduceAdd, Nat.reduceEqDiff, ↓reduceIte, Nat.reduceSub, Nat.reduceMul, reduceCtorEq, a6 138 (by decide), hc]
      refine n_ige rfl (by omega) (by omega) (fun _ => by omega) (fun _ => ?_)
      refine r_run 400 rfl rfl ?_
      refine r_ast (j := j) rfl rfl rfl (by omega) (Nat.le_of_ble_eq_true rfl) ?_
      refine r_run 400 rfl rfl ?_
      refine r_ast (j := j) rfl rfl rfl (by omega) (Nat.le_of_ble_eq_true rfl) ?_
      refine r_to 98 60 rfl rfl ?_
      simp only [x_up_app, x_ce_app, x_ce_same, Nat.reduceAdd, Nat.reduceEqDiff, ↓reduceIte, Nat.reduceSub, Nat.reduceMul, reduceCtorEq, nI_add]
      refine ih _ ?_ ?_ ?_ (fun p hp => ?_) (fun i hi => ?_) (fun a ha => ?_)
      · simp only [x_up_app, x_ce_app, x_ce_same, Nat.reduceAdd, Nat.reduceEqDiff, ↓reduceIte, Nat.reduceSub, Nat.reduceMul, reduceCtorEq]
        exact a1
      · simp only [x_up_app, x_ce_app, x_ce_same, Nat.reduceAdd, Nat.reduceEqDiff, ↓reduceIte, Nat.reduceSub, Nat.reduceMul, reduceCtorEq]
        exact a2
      · simp only [x_up_app, x_ce_app, x_ce_same, Nat.reduceAdd, Nat.reduceEqDiff, ↓reduceIte, Nat.reduceSub, Nat.reduceMul, reduceCtorEq]
        exact a3
      · simp only [x_up_app, x_ce_app, x_ce_same, Nat.reduceAdd, Nat.reduceEqDiff, ↓reduceIte, Nat.reduceSub, Nat.reduceMul, reduceCtorEq]
        exact a4 p hp
      · simp only [x_up_app, x_ce_app, x_ce_same, Nat.reduceAdd, Nat.reduceEqDiff, ↓reduceIte, Nat.reduceSub, Nat.reduceMul, reduceCtorEq]
        by_cases e : i = j
        · subst e
          simp
        · rw [if_neg e, if_neg e]
          exact a5 i (by omega)
      · rw [x_up_row (by omega), x_up_row (by omega)]
        exact a6 a ha
  -- the players
  have loop1 : ∀ p, p ≤ n → ∀ g' : xG, g' 124 9 = g 142 8 → g' 124 10 = nI 0 → g' 124 11 = nI 0 → (∀ i, i < p → g' 125 i = nI ((qp i + st i * b) % c) ∧ g' 126 i = nI 0 ∧ g' 129 i = -1 ∧ g' 130 i = nI 0 ∧ g' 131 i = nI 0) → (∀ a, (a < 124 ∨ 133 < a) → g' a = g a) → Rx (d + 1) m_Grope_begin Q 21 [some (.ref 124), some (.ref 138), some (.ref 142), some (.int (nI b)), some (.int (nI p))] [] g' := by
    refine r_for ?_ ?_
    · intro g' a1 a2 a3 a4 a6
      refine r_run 400 rfl rfl ?_
      simp only [x_up_app, x_ce_app, x_ce_same, Nat.reduceAdd, Nat.reduceEqDiff, ↓reduceIte, Nat.reduceSub, Nat.reduceMul, reduceCtorEq, a6 142 (by decide), hn]
      refine n_ige rfl (by omega) (by omega) (fun _ => ?_) (fun h2 => by omega)
      refine r_to 98 60 rfl rfl ?_
      exact loop2 0 (Nat.zero_le _) g' a1 a2 a3 a4 (fun i hi => absurd hi (Nat.not_lt_zero _)) a6
    · intro p hp ih g' a1 a2 a3 a4 a6
      obtain ⟨s1, s2⟩ := hs p hp
      obtain ⟨q1, q2⟩ := hq p hp
      have hmul : st p * b ≤ 9 * 1000 := Nat.mul_le_mul s2 hb
      refine r_run 400 rfl rfl ?_
      simp only [x_up_app, x_ce_app, x_ce_same, Nat.reduceAdd, Nat.reduceEqDiff, ↓reduceIte, Nat.reduceSub, Nat.reduceMul, reduceCtorEq, a6 142 (by decide), hn]
      refine n_ige rfl (by omega) (by omega) (fun _ => by omega) (fun _ => ?_)
      refine r_run 400 rfl rfl ?_
      refine r_ald (j := p) rfl rfl (rfl) (by omega) (Nat.le_of_ble_eq_true rfl) ?_
      refine r_run 400 rfl rfl ?_
      refine r_ald (j := p) rfl rfl (rfl) (by omega) (Nat.le_of_ble_eq_true rfl) ?_
      refine r_run 400 rfl rfl ?_
      simp only [x_up_app, x_ce_app, x_ce_same, Nat.reduceAdd, Nat.reduceEqDiff, ↓reduceIte, Nat.reduceSub, Nat.reduceMul, reduceCtorEq, a6 145 (by decide), a6 143 (by decide), q1, s1, pk_mul]
      refine r_inv rfl rfl rfl ?_
      refine c_Chairs_onFrom_137 d (qp p) (st p * b) g' _ (by rw [a6 138 (by decide)]; exact hc) hc1 h16 (by omega) ?_
      refine r_ast (j := p) rfl rfl rfl (by omega) (Nat.le_of_ble_eq_true rfl) ?_
      refine r_run 400 rfl rfl ?_
      refine r_ast (j := p) rfl rfl rfl (by omega) (Nat.le_of_ble_eq_true rfl) ?_
      refine r_run 400 rfl rfl ?_
      refine r_ast (j := p) rfl rfl rfl (by omega) (Nat.le_of_ble_eq_true rfl) ?_
      refine r_run 400 rfl rfl ?_
      refine r_ast (j := p) rfl rfl rfl (by omega) (Nat.le_of_ble_eq_true rfl) ?_
      refine r_run 400 rfl rfl ?_
      refine r_ast (j := p) rfl rfl rfl (by omega) (Nat.le_of_ble_eq_true rfl) ?_
      refine r_to 21 60 rfl rfl ?_
      simp only [x_up_app, x_ce_app, x_ce_same, Nat.reduceAdd, Nat.reduceEqDiff, ↓reduceIte, Nat.reduceSub, Nat.reduceMul, reduceCtorEq, nI_add]
      refine ih _ ?_ ?_ ?_ (fun i hi => ?_) (fun a ha => ?_)
      · simp only [x_up_app, x_ce_app, x_ce_same, Nat.reduceAdd, Nat.reduceEqDiff, ↓reduceIte, Nat.reduceSub, Nat.reduceMul, reduceCtorEq]
        exact a1
      · simp only [x_up_app, x_ce_app, x_ce_same, Nat.reduceAdd, Nat.reduceEqDiff, ↓reduceIte, Nat.reduceSub, Nat.reduceMul, reduceCtorEq]
        exact a2
      · simp only [x_up_app, x_ce_app, x_ce_same, Nat.reduceAdd, Nat.reduceEqDiff, ↓reduceIte, Nat.reduceSub, Nat.reduceMul, reduceCtorEq]
        exact a3
      · simp only [x_up_app, x_ce_app, x_ce_same, Nat.reduceAdd, Nat.reduceEqDiff, ↓reduceIte, Nat.reduceSub, Nat.reduceMul, reduceCtorEq]
        by_cases e : i = p
        · subst e
          simp
        · simp only [if_neg e]
          exact a4 i (by omega)
      · rw [x_up_row (by omega), x_up_row (by omega), x_up_row (by omega), x_up_row (by omega), x_up_row (by omega)]
        exact a6 a ha
  refine r_to 21 60 rfl rfl ?_
  refine loop1 0 (Nat.zero_le _) _ ?_ ?_ ?_ (fun i hi => absurd hi (Nat.not_lt_zero _)) (fun a ha => ?_)
  · simp only [x_up_app, x_ce_app, x_ce_same, Nat.reduceAdd, Nat.reduceEqDiff, ↓reduceIte, Nat.reduceSub, Nat.reduceMul, reduceCtorEq]
  · simp only [x_up_app, x_ce_app, x_ce_same, Nat.reduceAdd, Nat.reduceEqDiff, ↓reduceIte, Nat.reduceSub, Nat.reduceMul, reduceCtorEq]
  · simp only [x_up_app, x_ce_app, x_ce_same, Nat.reduceAdd, Nat.reduceEqDiff, ↓reduceIte, Nat.reduceSub, Nat.reduceMul, reduceCtorEq]
  · simp only [Nat.reduceAdd]
    rw [x_up_row (by omega), x_up_row (by omega), x_up_row (by omega)]
