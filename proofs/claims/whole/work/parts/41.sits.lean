/-! ===== the reference gropes: bumps, seats, bells ===== -/
set_option maxHeartbeats 4000000 in
theorem m_bumps (d p a : Nat) (V : xV) (sa : Nat → Int32) (si : Nat → Option Nat) (inn : Nat → Bool) (ss bu ou : Nat → Int32) (ti : Nat → Nat) (R : xR) (P : Nat → Nat) (g : xG) (Q : xQ) (h : MG (g 158) (wS V sa si inn ss bu ou ti R) P) (hc : vc V ≤ 16) (hn : vn V ≤ 12) (hp : p < vn V) (ha : g 165 p = nI a)
    (k : ∀ g' : xG, MG (g' 158) (wS V sa si inn ss (x_fu bu p (bu p + nI 1)) ou ti R) (x_fu P p a) → g' 163 p = g 163 p ||| (nI 1 <<< (nI a &&& 31)) → (∀ q, ¬ q = p → g' 163 q = g 163 q) → (∀ b, b ≠ 158 → b ≠ 163 → g' b = g b) → Q none g') : Cx (d + 2) i_Md_bumps [.ref 157, .int (nI p)] g Q := by
  rw [MG_wS] at h
  obtain ⟨⟨w0, w1, w2, w3, w4, w5, w6, w7, w9, w10, w11, w13, w16⟩, h2, h3, h4, h5⟩ := h
  obtain ⟨y1, y2, y3, y4, y5, y6, y7, y8, y9⟩ := h3 p hp
  refine r_cl (L0 := [some (.ref 157), some (.int (nI p))]) rfl (Or.inr ⟨_, _, _, rfl, rfl⟩) rfl rfl rfl ?_
  refine r_run 400 rfl rfl ?_
  refine r_ald (j := p) rfl rfl rfl (by omega) (Nat.le_of_ble_eq_true rfl) ?_
  refine r_run 400 rfl rfl ?_
  refine r_ald (j := p) rfl rfl rfl (by omega) (Nat.le_of_ble_eq_true rfl) ?_
  refine r_run 400 rfl rfl ?_
  refine r_ast (j := p) rfl rfl rfl (by omega) (Nat.le_of_ble_eq_true rfl) ?_
  refine r_run 400 rfl rfl ?_
  refine r_ald (j := p) rfl rfl rfl (by omega) (Nat.le_of_ble_eq_true rfl) ?_
  simp only [Nat.reduceAdd]
  simp (disch := omega) only [x_up_o, x_up_n, x_up_e, ha]
  refine r_inv rfl rfl rfl ?_
  refine m_lays d p 3 _ _ _ (by omega) (by omega) ?_
  refine r_run 400 rfl rfl ?_
  refine r_inv rfl rfl rfl ?_
  refine m_of d p 5 _ _ (by omega) (by omega) ?_
  refine r_run 400 rfl rfl ?_
  refine r_inv rfl rfl rfl ?_
  refine m_lays d p 5 _ _ _ (by omega) (by omega) ?_
  refine r_run 400 rfl rfl ?_
  refine r_ald (j := 7) rfl rfl rfl (by decide) (Nat.le_of_ble_eq_true rfl) ?_
  refine r_run 400 rfl rfl ?_
  refine r_ast (j := 7) rfl rfl rfl (by decide) (Nat.le_of_ble_eq_true rfl) ?_
  refine r_run 400 rfl rfl ?_
  simp only [Nat.reduceAdd]
  simp (disch := omega) only [x_up_o, x_up_n, x_up_e, y6, w7]
  refine r_ret rfl rfl (k _ ?_ ?_ (fun q hq => ?_) (fun b h1 h2 => ?_))
  · rw [MG_wS]
    refine ⟨?_, fun j hj => ?_, fun q hq => ?_, h4, fun a w ha hw => ?_⟩
    · have es : x_sm (x_fu bu p (bu p + nI 1)) (vn V) = x_sm bu (vn V) + nI 1 := x_sm_add (p := p) x_fu_e (fun q hq => x_fu_n hq) _ hp
      rw [es]
      simp (disch := omega) only [x_up_o, x_up_n, x_up_e]
      exact ⟨w0, w1, w2, w3, w4, w5, w6, trivial, w9, w10, w11, w13, w16⟩
    · have z := h2 j hj
      simp (disch := omega) only [x_up_o, x_up_n, x_up_e]
      exact z
    · obtain ⟨z1, z2, z3, z4, z5, z6, z7, z8, z9⟩ := h3 q hq
      by_cases e : q = p
      · subst e
        rw [x_fu_e, x_fu_e]
        simp (disch := omega) only [x_up_o, x_up_n, x_up_e]
        exact ⟨z1, z2, z3, fun _ _ => trivial, z5, trivial, z7, z8, z9⟩
      · rw [x_fu_n e, x_fu_n e]
        simp (disch := omega) only [x_up_o, x_up_n, x_up_e]
        exact ⟨z1, z2, z3, z4, z5, z6, z7, z8, z9⟩
    · have z := h5 a w ha hw
      simp (disch := omega) only [x_up_o, x_up_n, x_up_e]
      exact z
  · simp (disch := omega) only [x_up_o, x_up_n, x_up_e]
  · simp (disch := omega) only [x_up_o, x_up_n, x_up_e]
  · rw [x_up_row h1, x_up_row h1, x_up_row h1, x_up_row h2]
set_option maxHeartbeats 4000000 in
theorem m_sitsDown (d p c t : Nat) (V : xV) (sa : Nat → Int32) (si : Nat → Option Nat) (inn : Nat → Bool) (ss bu ou : Nat → Int32) (ti : Nat → Nat) (R : xR) (P : Nat → Nat) (g : xG) (Q : xQ) (h : MG (g 158) (wS V sa si inn ss bu ou ti R) P) (hc16 : vc V ≤ 16) (hn : vn V ≤ 12) (hp : p < vn V) (hc : c < vc V)
    (k : ∀ g' : xG, MG (g' 158) (wS V (x_fu sa c (sa c + nI 1)) (x_fu si c (some p)) inn (x_fu ss p (ss p + nI 1)) bu ou (x_fu ti p t) R) (x_fu P p c) → g' 164 p = nI c → (∀ q, ¬ q = p → g' 164 q = g 164 q) → g' 167 c = nI p → (∀ q, ¬ q = c → g' 167 q = g 167 q) → (∀ b, b ≠ 158 → b ≠ 164 → b ≠ 167 → g' b = g b) → Q none g') : Cx (d + 2) i_Md_sitsDown [.ref 157, .int (nI p), .int (nI c), .int (nI t)] g Q := by
  rw [MG_wS] at h
  obtain ⟨⟨w0, w1, w2, w3, w4, w5, w6, w7, w9, w10, w11, w13, w16⟩, h2, h3, h4, h5⟩ := h
  obtain ⟨y1, y2, y3, y4, y5, y6, y7, y8, y9⟩ := h3 p hp
  obtain ⟨v1, v2, v3⟩ := h2 c hc
  refine r_cl (L0 := [some (.ref 157), some (.int (nI p)), some (.int (nI c)), some (.int (nI t))]) rfl (Or.inr ⟨_, _, _, rfl, rfl⟩) rfl rfl rfl ?_
  refine r_run 400 rfl rfl ?_
  refine r_ast (j := p) rfl rfl rfl (by omega) (Nat.le_of_ble_eq_true rfl) ?_
  refine r_run 400 rfl rfl ?_
  refine r_ast (j := c) rfl rfl rfl (by omega) (Nat.le_of_ble_eq_true rfl) ?_
  refine r_run 400 rfl rfl ?_
  refine r_inv rfl rfl rfl ?_
  refine m_of d p 4 _ _ (by omega) (by omega) ?_
  refine r_run 400 rfl rfl ?_
  refine r_inv rfl rfl rfl ?_
  refine m_lays d p 4 _ _ _ (by omega) (by omega) ?_
  refine r_run 400 rfl rfl ?_
  refine r_inv rfl rfl rfl ?_
  refine m_lays d p 8 _ _ _ (by omega) (by omega) ?_
  refine r_run 400 rfl rfl ?_
  refine r_inv rfl rfl rfl ?_
  refine m_lays d p 3 _ _ _ (by omega) (by omega) ?_
  refine r_run 400 rfl rfl ?_
  refine r_inv rfl rfl rfl ?_
  refine m_ofChair d c 1 _ _ (by omega) (by omega) ?_
  refine r_run 400 rfl rfl ?_
  refine r_inv rfl rfl rfl ?_
  refine m_laysChair d c 1 _ _ _ (by omega) (by omega) ?_
  refine r_run 400 rfl rfl ?_
  refine r_inv rfl rfl rfl ?_
  simp only [nI_add]
  refine m_laysChair d c 2 _ _ _ (by omega) (by omega) ?_
  refine r_run 400 rfl rfl ?_
  refine r_ald (j := 6) rfl rfl rfl (by decide) (Nat.le_of_ble_eq_true rfl) ?_
  refine r_run 400 rfl rfl ?_
  refine r_ast (j := 6) rfl rfl rfl (by decide) (Nat.le_of_ble_eq_true rfl) ?_
  refine r_run 400 rfl rfl ?_
  simp only [Nat.reduceAdd]
  simp (disch := omega) only [x_up_o, x_up_n, x_up_e, y5, v2, w6]
  refine r_ret rfl rfl (k _ ?_ ?_ (fun q hq => ?_) ?_ (fun q hq => ?_) (fun b h1 h2 h3 => ?_))
  · rw [MG_wS]
    refine ⟨?_, fun j hj => ?_, fun q hq => ?_, h4, fun a w ha hw => ?_⟩
    · have es : x_sm (x_fu ss p (ss p + nI 1)) (vn V) = x_sm ss (vn V) + nI 1 := x_sm_add (p := p) x_fu_e (fun q hq => x_fu_n hq) _ hp
      rw [es]
      simp (disch := omega) only [x_up_o, x_up_n, x_up_e]
      exact ⟨w0, w1, w2, w3, w4, w5, trivial, w7, w9, w10, w11, w13, w16⟩
    · obtain ⟨z1, z2, z3⟩ := h2 j hj
      by_cases e : j = c
      · subst e
        rw [x_fu_e, x_fu_e]
        simp (disch := omega) only [x_up_o, x_up_n, x_up_e]
        exact ⟨z1, trivial, rfl⟩
      · rw [x_fu_n e, x_fu_n e]
        simp (disch := omega) only [x_up_o, x_up_n, x_up_e]
        exact ⟨z1, z2, z3⟩
    · obtain ⟨z1, z2, z3, z4, z5, z6, z7, z8, z9⟩ := h3 q hq
      by_cases e : q = p
      · subst e
        rw [x_fu_e, x_fu_e, x_fu_e]
        simp (disch := omega) only [x_up_o, x_up_n, x_up_e]
        exact ⟨z1, z2, z3, fun _ _ => trivial, trivial, z6, z7, z8, trivial⟩
      · rw [x_fu_n e, x_fu_n e, x_fu_n e]
        simp (disch := omega) only [x_up_o, x_up_n, x_up_e]
        exact ⟨z1, z2, z3, z4, z5, z6, z7, z8, z9⟩
    · have z := h5 a w ha hw
      simp (disch := omega) only [x_up_o, x_up_n, x_up_e]
      exact z
  · simp (disch := omega) only [x_up_o, x_up_n, x_up_e]
  · simp (disch := omega) only [x_up_o, x_up_n, x_up_e]
  · simp (disch := omega) only [x_up_o, x_up_n, x_up_e]
  · simp (disch := omega) only [x_up_o, x_up_n, x_up_e]
  · rw [x_up_row h1, x_up_row h1, x_up_row h1, x_up_row h1, x_up_row h1, x_up_row h1, x_up_row h3, x_up_row h2]
theorem nI_m1 {k : Nat} : nI (k + 1) + -1 = nI k := by
  rw [← nI_add, Int32.add_assoc, show nI 1 + -1 = 0 by decide, Int32.add_zero]
set_option maxHeartbeats 4000000 in
theorem m_rings (d c t : Nat) (V : xV) (sa : Nat → Int32) (si : Nat → Option Nat) (inn : Nat → Bool) (ss bu ou : Nat → Int32) (ti : Nat → Nat) (R : xR) (P : Nat → Nat) (K : Nat → Nat → Bool) (g : xG) (Q : xQ) (h : MG (g 158) (wS V sa si inn ss bu ou ti R) P) (hk : vOkw V) (hc : c < vc V) (hK : ∀ p, p < vn V → x_mk (g 163 p) (vc V) (K p))
    (k : ∀ g' : xG, MG (g' 158) (wS V sa si inn ss bu ou ti (x_r1 (x_e5 (vrd V + nI 1) (nI t) (nI c) (nI (vtn V c)) (g 167 c)) R)) P → (∀ p, p < vn V → x_mk (g' 163 p) (vc V) (fun j => K p j || (decide (j = c) && vhr V p j))) → (∀ b, b ≠ 158 → b ≠ 163 → g' b = g b) → Q none g') : Cx (d + 3) i_Md_rings [.ref 157, .int (nI c), .int (nI t)] g Q := by
  obtain ⟨⟨b1, b2, b3, b4, b5, b6⟩, -, -, vt8, -, wpl, -⟩ := hk
  have h0 := h
  rw [MG_wS] at h
  obtain ⟨⟨w0, w1, w2, w3, w4, w5, w6, w7, w9, w10, w11, w13, w16⟩, h2, h3, h4, h5⟩ := h
  obtain ⟨v1, v2, v3⟩ := h2 c hc
  refine r_cl (L0 := [some (.ref 157), some (.int (nI c)), some (.int (nI t)), none]) rfl (Or.inr ⟨_, _, _, rfl, rfl⟩) rfl rfl rfl ?_
  -- who hears it
  have loop2 : ∀ p, p ≤ vn V → ∀ g' : xG, MG (g' 158) (wS V sa si inn ss bu ou ti (x_r1 (x_e5 (vrd V + nI 1) (nI t) (nI c) (nI (vtn V c)) (g 167 c)) R)) P → (∀ q, q < vn V → x_mk (g' 163 q) (vc V) (fun j => K q j || (decide (q < p) && (decide (j = c) && vhr V q j)))) → (∀ b, b ≠ 158 → b ≠ 163 → g' b = g b) → Rx (d + 2) m_Md_rings Q 122 [some (.ref 157), some (.int (nI c)), some (.int (nI t)), some (.int (nI p))] [] g' := by
    refine r_for ?_ ?_
    · intro g' a1 a2 a3
      have a1' := a1
      rw [MG_wS] at a1'
      obtain ⟨⟨-, -, u2, -⟩, -⟩ := a1'
      refine r_run 400 rfl rfl ?_
      refine r_ald (j := 2) rfl rfl rfl (by decide) (Nat.le_of_ble_eq_true rfl) ?_
      simp only [Nat.reduceAdd]
      rw [u2]
      refine n_ige rfl (by omega) (by omega) (fun _ => ?_) (fun h => by omega)
      refine r_run 400 rfl rfl ?_
      refine r_ret rfl rfl (k g' a1 (fun p hp => x_mk_congr (a2 p hp) (fun i hi => ?_)) a3)
      simp [hp]
    · intro p hp ih g' a1 a2 a3
      have a1' := a1
      rw [MG_wS] at a1'
      obtain ⟨⟨-, -, u2, -⟩, u3, u4, -⟩ := a1'
      obtain ⟨x1, x2, x3⟩ := u3 c hc
      obtain ⟨y1, y2, y3, y4, y5, y6, y7, y8, y9⟩ := u4 p hp
      refine r_run 400 rfl rfl ?_
      refine r_ald (j := 2) rfl rfl rfl (by decide) (Nat.le_of_ble_eq_true rfl) ?_
      simp only [Nat.reduceAdd]
      rw [u2]
      refine n_ige rfl (by omega) (by omega) (fun _ => by omega) (fun _ => ?_)
      refine r_run 400 rfl rfl ?_
      refine r_ald (j := p) rfl rfl rfl (by omega) (Nat.le_of_ble_eq_true rfl) ?_
      refine r_run 400 rfl rfl ?_
      refine r_inv rfl rfl rfl ?_
      refine m_doesHear d p c (vea V p) (vtn V c) g' _ (by omega) (by omega) y2 x1 (wpl p hp).2.1 (vt8 c hc) (fun hb => ?_) (fun hb => ?_)
      · have hv : vhr V p c = true := hb
        refine t_eq1 rfl ?_
        refine r_run 400 rfl rfl ?_
        refine r_ast (j := p) rfl rfl rfl (by omega) (Nat.le_of_ble_eq_true rfl) ?_
        refine r_to 122 60 rfl rfl ?_
        simp only [nI_add, Nat.reduceAdd]
        refine ih _ (by rw [x_up_row (by decide)]; exact a1) (fun q hq => ?_) (fun b h1 h2 => by rw [x_up_row h2]; exact a3 b h1 h2)
        by_cases e : q = p
        · subst e
          rw [x_up_e rfl]
          refine x_mk_set (a2 q hq) hc b5 (fun j hj => ?_)
          by_cases e : j = c
          · subst e
            simp [hv]
          · simp [e]
        · rw [x_up_n e]
          refine x_mk_congr (a2 q hq) (fun i hi => ?_)
          have : decide (q < p + 1) = decide (q < p) := by
            congr 1
            exact propext (by omega)
          rw [this]
      · have hv : vhr V p c = false := hb
        refine t_eq0 rfl ?_
        refine r_run 400 rfl rfl ?_
        refine r_ast (j := p) rfl rfl rfl (by omega) (Nat.le_of_ble_eq_true rfl) ?_
        refine r_to 122 60 rfl rfl ?_
        simp only [nI_add, Nat.reduceAdd]
        refine ih _ (by rw [x_up_row (by decide)]; exact a1) (fun q hq => ?_) (fun b h1 h2 => by rw [x_up_row h2]; exact a3 b h1 h2)
        by_cases e : q = p
        · subst e
          rw [x_up_e rfl]
          have e0 : g' 163 q ||| nI 0 = g' 163 q := Int32.or_zero
          rw [e0]
          refine x_mk_congr (a2 q hq) (fun i hi => ?_)
          by_cases e : i = c
          · subst e
            simp [hv]
          · simp [e]
        · rw [x_up_n e]
          refine x_mk_congr (a2 q hq) (fun i hi => ?_)
          have : decide (q < p + 1) = decide (q < p) := by
            congr 1
            exact propext (by omega)
          rw [this]
  -- behind the shift
  have mid : ∀ (g' : xG) (l3 : Option Value), (∀ j, j < 178 → g' 158 j = g 158 j) → (∀ j, 178 ≤ j → j < 233 → g' 158 j = g 158 (j - 5)) → (∀ b, b ≠ 158 → g' b = g b) → Rx (d + 2) m_Md_rings Q 31 [some (.ref 157), some (.int (nI c)), some (.int (nI t)), l3] [] g' := by
    intro g' l3 a1 a2 a3
    have a4 := a1 4 (by omega)
    have a13 := a1 13 (by omega)
    have ac := a1 (17 + 3 * c + 0) (by omega)
    rw [w4] at a4
    rw [w13] at a13
    rw [v1] at ac
    have fin : ∀ g2 : xG, g2 158 173 = vrd V + nI 1 → g2 158 174 = nI t → g2 158 175 = nI c → g2 158 176 = nI (vtn V c) → g2 158 177 = g 167 c → g2 158 13 = nI (min (R.1 + 1) 12) → (∀ j, ¬ j = 13 → (j < 173 ∨ 178 ≤ j) → g2 158 j = g' 158 j) → (∀ b, b ≠ 158 → g2 b = g' b) → ∀ l3, Rx (d + 2) m_Md_rings Q 120 [some (.ref 157), some (.int (nI c)), some (.int (nI t)), l3] [] g2 := by
      intro g2 c1 c2 c3 c4 c5 c6 c7 c8 l3
      refine r_to 122 60 rfl rfl ?_
      refine loop2 0 (Nat.zero_le _) g2 ?_ (fun q hq => ?_) (fun b h1 h2 => by rw [c8 b h1, a3 b h1])
      · have f : ∀ j, ¬ j = 13 → j < 173 → g2 158 j = g 158 j := fun j hj hj2 => by rw [c7 j hj (Or.inl hj2), a1 j (by omega)]
        rw [MG_wS]
        refine ⟨?_, fun j hj => ?_, fun q hq => ?_, ?_, fun a w ha hw => ?_⟩
        · rw [f 0 (by omega) (by omega), f 1 (by omega) (by omega), f 2 (by omega) (by omega), f 3 (by omega) (by omega), f 4 (by omega) (by omega), f 5 (by omega) (by omega), f 6 (by omega) (by omega), f 7 (by omega) (by omega), f 9 (by omega) (by omega), f 10 (by omega) (by omega), f 11 (by omega) (by omega), f 16 (by omega) (by omega), c6]
          exact ⟨w0, w1, w2, w3, w4, w5, w6, w7, w9, w10, w11, rfl, w16⟩
        · rw [f _ (by omega) (by omega), f _ (by omega) (by omega), f _ (by omega) (by omega)]
          exact h2 j hj
        · rw [f _ (by omega) (by omega), f _ (by omega) (by omega), f _ (by omega) (by omega), f (65 + 9 * q + 3) (by omega) (by omega), f _ (by omega) (by omega), f _ (by omega) (by omega), f _ (by omega) (by omega), f _ (by omega) (by omega), f _ (by omega) (by omega)]
          exact h3 q hq
        · show min (R.1 + 1) 12 ≤ 12
          omega
        · have ha : a < min (R.1 + 1) 12 := ha
          show _ = if a = 0 then x_e5 _ _ _ _ _ w else R.2 (a - 1) w
          by_cases e : a = 0
          · subst e
            rw [if_pos rfl]
            have e5 : w = 0 ∨ w = 1 ∨ w = 2 ∨ w = 3 ∨ w = 4 := by omega
            rcases e5 with rfl | rfl | rfl | rfl | rfl
            · exact c1
            · exact c2
            · exact c3
            · exact c4
            · exact c5
          · rw [if_neg e, ← h5 (a - 1) w (by omega) hw, c7 _ (by omega) (by omega), a2 _ (by omega) (by omega)]
            congr 1
            omega
      · rw [c8 163 (by decide), a3 163 (by decide)]
        refine x_mk_congr (hK q hq) (fun i hi => ?_)
        simp
    refine r_run 400 rfl rfl ?_
    refine r_ald (j := 4) rfl rfl rfl (by decide) (Nat.le_of_ble_eq_true rfl) ?_
    refine r_run 400 rfl rfl ?_
    refine r_ast (j := 173) rfl rfl rfl (by decide) (Nat.le_of_ble_eq_true rfl) ?_
    refine r_run 400 rfl rfl ?_
    refine r_ast (j := 174) rfl rfl rfl (by decide) (Nat.le_of_ble_eq_true rfl) ?_
    refine r_run 400 rfl rfl ?_
    refine r_ast (j := 175) rfl rfl rfl (by decide) (Nat.le_of_ble_eq_true rfl) ?_
    refine r_run 400 rfl rfl ?_
    refine r_inv rfl rfl rfl ?_
    refine m_ofChair (d + 1) c 0 _ _ (by omega) (by omega) ?_
    refine r_run 400 rfl rfl ?_
    refine r_ast (j := 176) rfl rfl rfl (by decide) (Nat.le_of_ble_eq_true rfl) ?_
    refine r_run 400 rfl rfl ?_
    refine r_ald (j := c) rfl rfl rfl (by omega) (Nat.le_of_ble_eq_true rfl) ?_
    refine r_ast (j := 177) rfl rfl rfl (by decide) (Nat.le_of_ble_eq_true rfl) ?_
    refine r_run 400 rfl rfl ?_
    refine r_ald (j := 13) rfl rfl rfl (by decide) (Nat.le_of_ble_eq_true rfl) ?_
    refine r_run 400 rfl rfl ?_
    refine r_ald (j := 13) rfl rfl rfl (by decide) (Nat.le_of_ble_eq_true rfl) ?_
    simp only [Nat.reduceAdd]
    simp (disch := omega) only [x_up_o, x_up_n, x_up_e, a4, a13, ac, a3 167 (by decide)]
    refine r_run 400 rfl rfl ?_
    refine n_ige rfl (by omega) (by omega) (fun hge => ?_) (fun hlt => ?_)
    · refine r_run 400 rfl rfl ?_
      refine r_ast (j := 13) rfl rfl rfl (by decide) (Nat.le_of_ble_eq_true rfl) ?_
      simp only [Nat.reduceAdd, nI_add]
      refine fin _ ?_ ?_ ?_ ?_ ?_ ?_ (fun j h1 h2 => ?_) (fun b hb => ?_) _
      · simp (disch := omega) only [x_up_o, x_up_n, x_up_e]
      · simp (disch := omega) only [x_up_o, x_up_n, x_up_e]
      · simp (disch := omega) only [x_up_o, x_up_n, x_up_e]
      · simp (disch := omega) only [x_up_o, x_up_n, x_up_e]
      · simp (disch := omega) only [x_up_o, x_up_n, x_up_e]
      · simp (disch := omega) only [x_up_o, x_up_n, x_up_e]
        congr 1
        omega
      · simp (disch := omega) only [x_up_o, x_up_n, x_up_e]
      · rw [x_up_row hb, x_up_row hb, x_up_row hb, x_up_row hb, x_up_row hb, x_up_row hb]
    · refine r_run 400 rfl rfl ?_
      refine r_ast (j := 13) rfl rfl rfl (by decide) (Nat.le_of_ble_eq_true rfl) ?_
      simp only [Nat.reduceAdd, nI_add]
      refine fin _ ?_ ?_ ?_ ?_ ?_ ?_ (fun j h1 h2 => ?_) (fun b hb => ?_) _
      · simp (disch := omega) only [x_up_o, x_up_n, x_up_e]
      · simp (disch := omega) only [x_up_o, x_up_n, x_up_e]
      · simp (disch := omega) only [x_up_o, x_up_n, x_up_e]
      · simp (disch := omega) only [x_up_o, x_up_n, x_up_e]
      · simp (disch := omega) only [x_up_o, x_up_n, x_up_e]
      · simp (disch := omega) only [x_up_o, x_up_n, x_up_e]
        congr 1
        omega
      · simp (disch := omega) only [x_up_o, x_up_n, x_up_e]
      · rw [x_up_row hb, x_up_row hb, x_up_row hb, x_up_row hb, x_up_row hb, x_up_row hb]
  have loop1 : ∀ i, i ≤ 55 → ∀ g' : xG, (∀ j, j + i ≤ 232 → g' 158 j = g 158 j) → (∀ j, 232 < j + i → j < 233 → g' 158 j = g 158 (j - 5)) → (∀ b, b ≠ 158 → g' b = g b) → Rx (d + 2) m_Md_rings Q 4 [some (.ref 157), some (.int (nI c)), some (.int (nI t)), some (.int (nI (232 - i)))] [] g' := by
    refine r_for ?_ ?_
    · intro g' a1 a2 a3
      refine r_run 400 rfl rfl ?_
      refine n_ilt rfl (by omega) (by omega) (fun _ => ?_) (fun h => by omega)
      exact mid g' _ (fun j hj => a1 j (by omega)) (fun j h1 h2 => a2 j (by omega) h2) a3
    · intro i hi ih g' a1 a2 a3
      refine r_run 400 rfl rfl ?_
      refine n_ilt rfl (by omega) (by omega) (fun _ => by omega) (fun _ => ?_)
      refine r_run 400 rfl rfl ?_
      rw [pk_sub (by omega)]
      refine r_ald (j := 232 - i - 5) rfl rfl rfl (by omega) (Nat.le_of_ble_eq_true rfl) ?_
      refine r_ast (j := 232 - i) rfl rfl rfl (by omega) (Nat.le_of_ble_eq_true rfl) ?_
      refine r_to 4 60 rfl rfl ?_
      simp only [Nat.reduceAdd]
      have e : nI (232 - i) + -1 = nI (232 - (i + 1)) := by
        rw [show 232 - i = 232 - (i + 1) + 1 by omega]
        exact nI_m1
      rw [e]
      refine ih _ (fun j hj => ?_) (fun j h1 h2 => ?_) (fun b hb => by rw [x_up_row hb]; exact a3 b hb)
      · rw [x_up_n (by omega)]
        exact a1 j (by omega)
      · by_cases e : j = 232 - i
        · subst e
          rw [x_up_e rfl]
          exact a1 _ (by omega)
        · rw [x_up_n e]
          exact a2 j (by omega) h2
  refine r_to 4 60 rfl rfl ?_
  exact loop1 0 (Nat.zero_le _) g (fun _ _ => rfl) (fun j h1 h2 => by omega) (fun _ _ => rfl)
