/-! ===== groping: aims, seats, bumps, bells ===== -/
def x_on : Option Nat → Int32
  | none => -1
  | some k => nI k
/-- the least number from i on (of k looked at) that f holds of -/
def x_lf (f : Nat → Bool) : Nat → Nat → Nat
  | 0, i => i
  | k + 1, i => if f i = true then i else x_lf f k (i + 1)
theorem x_lf_ok (f : Nat → Bool) : ∀ (k i : Nat), (∃ j, i ≤ j ∧ j < i + k ∧ f j = true) → i ≤ x_lf f k i ∧ x_lf f k i < i + k ∧ f (x_lf f k i) = true ∧ ∀ j, i ≤ j → j < x_lf f k i → f j = false
  | 0, i, ⟨j, h1, h2, _⟩ => by omega
  | k + 1, i, ⟨j, h1, h2, h3⟩ => by
    unfold x_lf
    by_cases hf : f i = true
    · rw [if_pos hf]
      exact ⟨Nat.le_refl _, by omega, hf, fun j a b => by omega⟩
    · rw [if_neg hf]
      have hne : j ≠ i := fun e => hf (e ▸ h3)
      obtain ⟨a1, a2, a3, a4⟩ := x_lf_ok f k (i + 1) ⟨j, by omega, by omega, h3⟩
      refine ⟨by omega, by omega, a3, fun j b1 b2 => ?_⟩
      by_cases e : j = i
      · subst e
        simpa using hf
      · exact a4 j (by omega) b2
/-- of a chair c that isn't known there is a way to it -/
theorem x_way {c a q : Nat} (hc : 1 ≤ c) (ha : a < c) (hq : q < c) : ∃ j, j < c ∧ (a + j) % c = q := by
  by_cases h : a ≤ q
  · exact ⟨q - a, by omega, by rw [show a + (q - a) = q by omega, Nat.mod_eq_of_lt hq]⟩
  · exact ⟨q + c - a, by omega, by rw [show a + (q + c - a) = q + c by omega, Nat.add_mod_right, Nat.mod_eq_of_lt hq]⟩
def x_far (c : Nat) (K : Nat → Nat → Bool) (P : Nat → Nat) (p : Nat) : Nat := x_lf (fun j => !K p ((P p + j) % c)) c 0
def x_aim (c : Nat) (K : Nat → Nat → Bool) (P : Nat → Nat) (p : Nat) : Nat := (P p + x_far c K P p) % c
theorem x_far_ok {c : Nat} {K : Nat → Nat → Bool} {P : Nat → Nat} {p : Nat} (hc : 1 ≤ c) (hP : P p < c) (hk : x_all c (K p) = false) : x_far c K P p < c ∧ K p (x_aim c K P p) = false ∧ ∀ j, j < x_far c K P p → K p ((P p + j) % c) = true := by
  have hex : ∃ q, q < c ∧ K p q = false := by
    apply Classical.byContradiction
    intro h
    have : x_all c (K p) = true := x_all_iff.mpr (fun i hi => by
      cases hki : K p i with
      | true => rfl
      | false => exact absurd ⟨i, hi, hki⟩ h)
    rw [this] at hk
    cases hk
  obtain ⟨q, hq, hkq⟩ := hex
  obtain ⟨j, hj, hjq⟩ := x_way hc hP hq
  obtain ⟨-, a2, a3, a4⟩ := x_lf_ok (fun j => !K p ((P p + j) % c)) c 0 ⟨j, Nat.zero_le _, by omega, by simp [hjq, hkq]⟩
  refine ⟨by unfold x_far; omega, ?_, fun j hj => ?_⟩
  · unfold x_aim x_far
    simpa using a3
  · have := a4 j (Nat.zero_le _) hj
    simpa using this
set_option maxHeartbeats 4000000 in
theorem c_takeAim_2 (d n c : Nat) (g : xG) (Q : xQ) (G : Nat → Bool) (K : Nat → Nat → Bool) (P : Nat → Nat) (hn : g 7 9 = nI n) (h12 : n ≤ 12) (hc : g 3 3 = nI c) (hc1 : 1 ≤ c) (h16 : c ≤ 16) (hG : x_mk (g 124 9) n G) (hK : ∀ p, p < n → x_mk (g 126 p) c (K p)) (hP : ∀ p, p < n → G p = true → g 125 p = nI (P p) ∧ P p < c) (hal : ∀ p, p < n → G p = true → x_all c (K p) = false)
    (k : ∀ g' : xG, (∀ p, p < n → g' 127 p = x_on (if G p = true then some (x_aim c K P p) else none)) → (∀ p, p < n → G p = true → g' 128 p = nI (x_far c K P p)) → (∀ a, a ≠ 127 → a ≠ 128 → g' a = g a) → Q none g') : Cx (d + 2) i_Grope_takeAim [.ref 124, .ref 3, .ref 7] g Q := by
  refine r_cl (L0 := [some (.ref 124), some (.ref 3), some (.ref 7), none, none, none]) rfl (Or.inr ⟨_, _, _, rfl, rfl⟩) rfl rfl rfl ?_
  have loop : ∀ p, p ≤ n → ∀ (g' : xG) (l4 l5 : Option Value), (∀ q, q < p → g' 127 q = x_on (if G q = true then some (x_aim c K P q) else none)) → (∀ q, q < p → G q = true → g' 128 q = nI (x_far c K P q)) → (∀ a, a ≠ 127 → a ≠ 128 → g' a = g a) → Rx (d + 1) m_Grope_takeAim Q 2 [some (.ref 124), some (.ref 3), some (.ref 7), some (.int (nI p)), l4, l5] [] g' := by
    refine r_for ?_ ?_
    · intro g' l4 l5 a1 a2 a3
      refine r_run 400 rfl rfl ?_
      simp only [x_up_app, x_ce_app, x_ce_same, Nat.reduceAdd, Nat.reduceEqDiff, ↓reduceIte, Nat.reduceSub, Nat.reduceMul, reduceCtorEq, a3 7 (by decide) (by decide), hn]
      refine n_ige rfl (by omega) (by omega) (fun _ => ?_) (fun h2 => by omega)
      refine r_run 400 rfl rfl ?_
      exact r_ret rfl rfl (k g' a1 a2 a3)
    · intro p hp ih g' l4 l5 a1 a2 a3
      refine r_run 400 rfl rfl ?_
      simp only [x_up_app, x_ce_app, x_ce_same, Nat.reduceAdd, Nat.reduceEqDiff, ↓reduceIte, Nat.reduceSub, Nat.reduceMul, reduceCtorEq, a3 7 (by decide) (by decide), hn]
      refine n_ige rfl (by omega) (by omega) (fun _ => by omega) (fun _ => ?_)
      refine r_run 400 rfl rfl ?_
      refine r_ast (j := p) rfl rfl (rfl) (by omega) (Nat.le_of_ble_eq_true rfl) ?_
      refine r_run 400 rfl rfl ?_
      refine r_ast (j := p) rfl rfl (rfl) (by omega) (Nat.le_of_ble_eq_true rfl) ?_
      -- behind the inner loop
      have behind : ∀ (g2 : xG) (l4 l5 : Option Value), g2 127 p = x_on (if G p = true then some (x_aim c K P p) else none) → (G p = true → g2 128 p = nI (x_far c K P p)) → (∀ q, q < p → g2 127 q = g' 127 q ∧ g2 128 q = g' 128 q) → (∀ a, a ≠ 127 → a ≠ 128 → g2 a = g a) → Rx (d + 1) m_Grope_takeAim Q 104 [some (.ref 124), some (.ref 3), some (.ref 7), some (.int (nI p)), l4, l5] [] g2 := by
        intro g2 l4 l5 b1 b2 b3 b4
        refine r_to 2 60 rfl rfl ?_
        simp only [x_up_app, x_ce_app, x_ce_same, Nat.reduceAdd, Nat.reduceEqDiff, ↓reduceIte, Nat.reduceSub, Nat.reduceMul, reduceCtorEq, nI_add]
        refine ih g2 l4 l5 (fun q hq => ?_) (fun q hq hg => ?_) b4
        · by_cases e : q = p
          · subst e
            exact b1
          · rw [(b3 q (by omega)).1]
            exact a1 q (by omega)
        · by_cases e : q = p
          · subst e
            exact b2 hg
          · rw [(b3 q (by omega)).2]
            exact a2 q (by omega) hg
      have hst : ∀ a, a ≠ 127 → a ≠ 128 → x_up (x_up g' 127 p (-1)) 128 p (nI 0) a = g a := fun a h1 h2 => by rw [x_up_row h2, x_up_row h1]; exact a3 a h1 h2
      cases hgp : G p with
      | false =>
        refine r_to 27 60 rfl rfl ?_
        refine r_run 400 rfl rfl ?_
        simp only [x_up_app, x_ce_app, x_ce_same, Nat.reduceAdd, Nat.reduceEqDiff, ↓reduceIte, Nat.reduceSub, Nat.reduceMul, reduceCtorEq, hst 3 (by decide) (by decide), a3 3 (by decide) (by decide), hc]
        refine n_ige rfl (by omega) (by omega) (fun _ => by omega) (fun _ => ?_)
        refine r_run 400 rfl rfl ?_
        refine r_inv rfl rfl rfl ?_
        refine c_gropes d n p _ _ (by rw [x_up_row (by decide), x_up_row (by decide), a3 124 (by decide) (by decide)]; exact hG) h12 hp (fun h => by rw [hgp] at h; cases h) (fun _ => ?_)
        refine t_eq0 rfl ?_
        refine behind _ _ _ ?_ (fun h => by rw [hgp] at h; cases h) (fun q hq => ?_) hst
        · simp only [x_up_app, x_ce_app, x_ce_same, Nat.reduceAdd, Nat.reduceEqDiff, ↓reduceIte, Nat.reduceSub, Nat.reduceMul, reduceCtorEq, hgp]
          rfl
        · have hne : ¬ q = p := by omega
          simp only [x_up_app, x_ce_app, x_ce_same, Nat.reduceAdd, Nat.reduceEqDiff, ↓reduceIte, Nat.reduceSub, Nat.reduceMul, reduceCtorEq, if_neg hne]
          exact ⟨trivial, trivial⟩
      | true =>
        obtain ⟨hP1, hP2⟩ := hP p hp hgp
        obtain ⟨f1, f2, f3⟩ := x_far_ok hc1 hP2 (hal p hp hgp)
        -- the way to the first chair not known
        have inner : ∀ j, j ≤ x_far c K P p → ∀ (g2 : xG) (l5 : Option Value), g2 127 p = -1 → (∀ q, q < p → g2 127 q = g' 127 q ∧ g2 128 q = g' 128 q) → (∀ a, a ≠ 127 → a ≠ 128 → g2 a = g a) → Rx (d + 1) m_Grope_takeAim Q 27 [some (.ref 124), some (.ref 3), some (.ref 7), some (.int (nI p)), some (.int (nI j)), l5] [] g2 := by
          refine r_for ?_ ?_
          · intro g2 l5 b1 b2 b3
            refine r_run 400 rfl rfl ?_
            simp only [x_up_app, x_ce_app, x_ce_same, Nat.reduceAdd, Nat.reduceEqDiff, ↓reduceIte, Nat.reduceSub, Nat.reduceMul, reduceCtorEq, b3 3 (by decide) (by decide), hc]
            refine n_ige rfl (by omega) (by omega) (fun _ => by omega) (fun _ => ?_)
            refine r_run 400 rfl rfl ?_
            refine r_inv rfl rfl rfl ?_
            refine c_gropes d n p _ _ (by rw [b3 124 (by decide) (by decide)]; exact hG) h12 hp (fun _ => ?_) (fun h => by rw [hgp] at h; cases h)
            refine t_eq1 rfl ?_
            refine r_run 400 rfl rfl ?_
            refine r_ald (j := p) rfl rfl (rfl) (by omega) (Nat.le_of_ble_eq_true rfl) ?_
            refine r_run 400 rfl rfl ?_
            simp only [x_up_app, x_ce_app, x_ce_same, Nat.reduceAdd, Nat.reduceEqDiff, ↓reduceIte, Nat.reduceSub, Nat.reduceMul, reduceCtorEq, b1]
            refine r_ine rfl (fun h => absurd rfl h) (fun _ => ?_)
            refine r_run 400 rfl rfl ?_
            refine r_ald (j := p) rfl rfl (rfl) (by omega) (Nat.le_of_ble_eq_true rfl) ?_
            refine r_run 400 rfl rfl ?_
            simp only [x_up_app, x_ce_app, x_ce_same, Nat.reduceAdd, Nat.reduceEqDiff, ↓reduceIte, Nat.reduceSub, Nat.reduceMul, reduceCtorEq, b3 125 (by decide) (by decide), hP1]
            refine r_inv rfl rfl rfl ?_
            refine c_Chairs_onFrom_2 d (P p) (x_far c K P p) g2 _ (by rw [b3 3 (by decide) (by decide)]; exact hc) hc1 h16 (by omega) ?_
            refine r_run 400 rfl rfl ?_
            refine r_ald (j := p) rfl rfl (rfl) (by omega) (Nat.le_of_ble_eq_true rfl) ?_
            have haim : (P p + x_far c K P p) % c = x_aim c K P p := rfl
            have haimc : x_aim c K P p < c := Nat.mod_lt _ (by omega)
            obtain ⟨mk, e1, e2, e3⟩ := x_mk_t (hK p hp) haimc h16
            refine r_run 400 rfl rfl ?_
            simp only [x_up_app, x_ce_app, x_ce_same, Nat.reduceAdd, Nat.reduceEqDiff, ↓reduceIte, Nat.reduceSub, Nat.reduceMul, reduceCtorEq, b3 126 (by decide) (by decide), e1, haim]
            rw [x_sh (nI mk) rfl e2 (by omega)]
            have hz : mk / 2 ^ x_aim c K P p % 2 = 0 := by
              have : ¬ x_bit mk (x_aim c K P p) := fun z => by rw [e3, f2] at z; cases z
              unfold x_bit at this
              omega
            rw [hz]
            refine t_ne0 rfl ?_
            refine r_run 400 rfl rfl ?_
            refine r_ast (j := p) rfl rfl (rfl) (by omega) (Nat.le_of_ble_eq_true rfl) ?_
            refine r_run 400 rfl rfl ?_
            refine r_ast (j := p) rfl rfl (rfl) (by omega) (Nat.le_of_ble_eq_true rfl) ?_
            refine r_to 27 60 rfl rfl ?_
            simp only [x_up_app, x_ce_app, x_ce_same, Nat.reduceAdd, Nat.reduceEqDiff, ↓reduceIte, Nat.reduceSub, Nat.reduceMul, reduceCtorEq, nI_add]
            -- once more round: the aim stands
            have hst2 : ∀ a, a ≠ 127 → a ≠ 128 → x_up (x_up g2 127 p (nI (x_aim c K P p))) 128 p (nI (x_far c K P p)) a = g a := fun a h1 h2 => by rw [x_up_row h2, x_up_row h1]; exact b3 a h1 h2
            have fin : ∀ (l4 l5 : Option Value), Rx (d + 1) m_Grope_takeAim Q 104 [some (.ref 124), some (.ref 3), some (.ref 7), some (.int (nI p)), l4, l5] [] (x_up (x_up g2 127 p (nI (x_aim c K P p))) 128 p (nI (x_far c K P p))) := fun l4 l5 => by
              refine behind _ l4 l5 ?_ (fun _ => ?_) (fun q hq => ?_) hst2
              · simp only [x_up_app, x_ce_app, x_ce_same, Nat.reduceAdd, Nat.reduceEqDiff, ↓reduceIte, Nat.reduceSub, Nat.reduceMul, reduceCtorEq, hgp]
                rfl
              · simp only [x_up_app, x_ce_app, x_ce_same, Nat.reduceAdd, Nat.reduceEqDiff, ↓reduceIte, Nat.reduceSub, Nat.reduceMul, reduceCtorEq]
              · have hne : ¬ q = p := by omega
                simp only [x_up_app, x_ce_app, x_ce_same, Nat.reduceAdd, Nat.reduceEqDiff, ↓reduceIte, Nat.reduceSub, Nat.reduceMul, reduceCtorEq, if_neg hne]
                exact b2 q hq
            refine r_run 400 rfl rfl ?_
            simp only [x_up_app, x_ce_app, x_ce_same, Nat.reduceAdd, Nat.reduceEqDiff, ↓reduceIte, Nat.reduceSub, Nat.reduceMul, reduceCtorEq, b3 3 (by decide) (by decide), hc]
            refine n_ige rfl (by omega) (by omega) (fun _ => fin _ _) (fun _ => ?_)
            refine r_run 400 rfl rfl ?_
            refine r_inv rfl rfl rfl ?_
            refine c_gropes d n p _ _ (by rw [hst2 124 (by decide) (by decide)]; exact hG) h12 hp (fun _ => ?_) (fun h => by rw [hgp] at h; cases h)
            refine t_eq1 rfl ?_
            refine r_run 400 rfl rfl ?_
            refine r_ald (j := p) rfl rfl (rfl) (by omega) (Nat.le_of_ble_eq_true rfl) ?_
            refine r_run 400 rfl rfl ?_
            simp only [x_up_app, x_ce_app, x_ce_same, Nat.reduceAdd, Nat.reduceEqDiff, ↓reduceIte, Nat.reduceSub, Nat.reduceMul, reduceCtorEq]
            refine r_ine rfl (fun _ => fin _ _) (fun h => ?_)
            exfalso
            have : nI (x_aim c K P p) < 0 := by rw [h]; decide
            exact nI_pos (by omega) this
          · intro j hj ih2 g2 l5 b1 b2 b3
            have hk := f3 j hj
            refine r_run 400 rfl rfl ?_
            simp only [x_up_app, x_ce_app, x_ce_same, Nat.reduceAdd, Nat.reduceEqDiff, ↓reduceIte, Nat.reduceSub, Nat.reduceMul, reduceCtorEq, b3 3 (by decide) (by decide), hc]
            refine n_ige rfl (by omega) (by omega) (fun _ => by omega) (fun _ => ?_)
            refine r_run 400 rfl rfl ?_
            refine r_inv rfl rfl rfl ?_
            refine c_gropes d n p _ _ (by rw [b3 124 (by decide) (by decide)]; exact hG) h12 hp (fun _ => ?_) (fun h => by rw [hgp] at h; cases h)
            refine t_eq1 rfl ?_
            refine r_run 400 rfl rfl ?_
            refine r_ald (j := p) rfl rfl (rfl) (by omega) (Nat.le_of_ble_eq_true rfl) ?_
            refine r_run 400 rfl rfl ?_
            simp only [x_up_app, x_ce_app, x_ce_same, Nat.reduceAdd, Nat.reduceEqDiff, ↓reduceIte, Nat.reduceSub, Nat.reduceMul, reduceCtorEq, b1]
            refine r_ine rfl (fun h => absurd rfl h) (fun _ => ?_)
            refine r_run 400 rfl rfl ?_
            refine r_ald (j := p) rfl rfl (rfl) (by omega) (Nat.le_of_ble_eq_true rfl) ?_
            refine r_run 400 rfl rfl ?_
            simp only [x_up_app, x_ce_app, x_ce_same, Nat.reduceAdd, Nat.reduceEqDiff, ↓reduceIte, Nat.reduceSub, Nat.reduceMul, reduceCtorEq, b3 125 (by decide) (by decide), hP1]
            refine r_inv rfl rfl rfl ?_
            refine c_Chairs_onFrom_2 d (P p) j g2 _ (by rw [b3 3 (by decide) (by decide)]; exact hc) hc1 h16 (by omega) ?_
            refine r_run 400 rfl rfl ?_
            refine r_ald (j := p) rfl rfl (rfl) (by omega) (Nat.le_of_ble_eq_true rfl) ?_
            have hjc : (P p + j) % c < c := Nat.mod_lt _ (by omega)
            obtain ⟨mk, e1, e2, e3⟩ := x_mk_t (hK p hp) hjc h16
            refine r_run 400 rfl rfl ?_
            simp only [x_up_app, x_ce_app, x_ce_same, Nat.reduceAdd, Nat.reduceEqDiff, ↓reduceIte, Nat.reduceSub, Nat.reduceMul, reduceCtorEq, b3 126 (by decide) (by decide), e1]
            rw [x_sh (nI mk) rfl e2 (by omega)]
            have hz : mk / 2 ^ ((P p + j) % c) % 2 = 1 := e3.mpr hk
            rw [hz]
            refine t_ne1 rfl ?_
            refine r_to 27 60 rfl rfl ?_
            simp only [x_up_app, x_ce_app, x_ce_same, Nat.reduceAdd, Nat.reduceEqDiff, ↓reduceIte, Nat.reduceSub, Nat.reduceMul, reduceCtorEq, nI_add]
            exact ih2 g2 _ b1 b2 b3
        refine r_to 27 60 rfl rfl ?_
        refine inner 0 (Nat.zero_le _) _ _ ?_ (fun q hq => ?_) hst
        · simp only [x_up_app, x_ce_app, x_ce_same, Nat.reduceAdd, Nat.reduceEqDiff, ↓reduceIte, Nat.reduceSub, Nat.reduceMul, reduceCtorEq]
        · have hne : ¬ q = p := by omega
          simp only [x_up_app, x_ce_app, x_ce_same, Nat.reduceAdd, Nat.reduceEqDiff, ↓reduceIte, Nat.reduceSub, Nat.reduceMul, reduceCtorEq, if_neg hne]
          exact ⟨trivial, trivial⟩
  refine r_to 2 60 rfl rfl ?_
  exact loop 0 (Nat.zero_le _) g none none (fun q hq => absurd hq (Nat.not_lt_zero _)) (fun q hq => absurd hq (Nat.not_lt_zero _)) (fun _ _ _ => rfl)
set_option maxHeartbeats 4000000 in
theorem c_takeAim_137 (d n c : Nat) (g : xG) (Q : xQ) (G : Nat → Bool) (K : Nat → Nat → Bool) (P : Nat → Nat) (hn : g 142 9 = nI n) (h12 : n ≤ 12) (hc : g 138 3 = nI c) (hc1 : 1 ≤ c) (h16 : c ≤ 16) (hG : x_mk (g 124 9) n G) (hK : ∀ p, p < n → x_mk (g 126 p) c (K p)) (hP : ∀ p, p < n → G p = true → g 125 p = nI (P p) ∧ P p < c) (hal : ∀ p, p < n → G p = true → x_all c (K p) = false)
    (k : ∀ g' : xG, (∀ p, p < n → g' 127 p = x_on (if G p = true then some (x_aim c K P p) else none)) → (∀ p, p < n → G p = true → g' 128 p = nI (x_far c K P p)) → (∀ a, a ≠ 127 → a ≠ 128 → g' a = g a) → Q none g') : Cx (d + 2) i_Grope_takeAim [.ref 124, .ref 138, .ref 142] g Q := by
  refine r_cl (L0 := [some (.ref 124), some (.ref 138), some (.ref 142), none, none, none]) rfl (Or.inr ⟨_, _, _, rfl, rfl⟩) rfl rfl rfl ?_
  have loop : ∀ p, p ≤ n → ∀ (g' : xG) (l4 l5 : Option Value), (∀ q, q < p → g' 127 q = x_on (if G q = true then some (x_aim c K P q) else none)) → (∀ q, q < p → G q = true → g' 128 q = nI (x_far c K P q)) → (∀ a, a ≠ 127 → a ≠ 128 → g' a = g a) → Rx (d + 1) m_Grope_takeAim Q 2 [some (.ref 124), some (.ref 138), some (.ref 142), some (.int (nI p)), l4, l5] [] g' := by
    refine r_for ?_ ?_
    · intro g' l4 l5 a1 a2 a3
      refine r_run 400 rfl rfl ?_
      simp only [x_up_app, x_ce_app, x_ce_same, Nat.reduceAdd, Nat.reduceEqDiff, ↓reduceIte, Nat.reduceSub, Nat.reduceMul, reduceCtorEq, a3 142 (by decide) (by decide), hn]
      refine n_ige rfl (by omega) (by omega) (fun _ => ?_) (fun h2 => by omega)
      refine r_run 400 rfl rfl ?_
      exact r_ret rfl rfl (k g' a1 a2 a3)
    · intro p hp ih g' l4 l5 a1 a2 a3
      refine r_run 400 rfl rfl ?_
      simp only [x_up_app, x_ce_app, x_ce_same, Nat.reduceAdd, Nat.reduceEqDiff, ↓reduceIte, Nat.reduceSub, Nat.reduceMul, reduceCtorEq, a3 142 (by decide) (by decide), hn]
      refine n_ige rfl (by omega) (by omega) (fun _ => by omega) (fun _ => ?_)
      refine r_run 400 rfl rfl ?_
      refine r_ast (j := p) rfl rfl (rfl) (by omega) (Nat.le_of_ble_eq_true rfl) ?_
      refine r_run 400 rfl rfl ?_
      refine r_ast (j := p) rfl rfl (rfl) (by omega) (Nat.le_of_ble_eq_true rfl) ?_
      -- behind the inner loop
      have behind : ∀ (g2 : xG) (l4 l5 : Option Value), g2 127 p = x_on (if G p = true then some (x_aim c K P p) else none) → (G p = true → g2 128 p = nI (x_far c K P p)) → (∀ q, q < p → g2 127 q = g' 127 q ∧ g2 128 q = g' 128 q) → (∀ a, a ≠ 127 → a ≠ 128 → g2 a = g a) → Rx (d + 1) m_Grope_takeAim Q 104 [some (.ref 124), some (.ref 138), some (.ref 142), some (.int (nI p)), l4, l5] [] g2 := by
        intro g2 l4 l5 b1 b2 b3 b4
        refine r_to 2 60 rfl rfl ?_
        simp only [x_up_app, x_ce_app, x_ce_same, Nat.reduceAdd, Nat.reduceEqDiff, ↓reduceIte, Nat.reduceSub, Nat.reduceMul, reduceCtorEq, nI_add]
        refine ih g2 l4 l5 (fun q hq => ?_) (fun q hq hg => ?_) b4
        · by_cases e : q = p
          · subst e
            exact b1
          · rw [(b3 q (by omega)).1]
            exact a1 q (by omega)
        · by_cases e : q = p
          · subst e
            exact b2 hg
          · rw [(b3 q (by omega)).2]
            exact a2 q (by omega) hg
      have hst : ∀ a, a ≠ 127 → a ≠ 128 → x_up (x_up g' 127 p (-1)) 128 p (nI 0) a = g a := fun a h1 h2 => by rw [x_up_row h2, x_up_row h1]; exact a3 a h1 h2
      cases hgp : G p with
      | false =>
        refine r_to 27 60 rfl rfl ?_
        refine r_run 400 rfl rfl ?_
        simp only [x_up_app, x_ce_app, x_ce_same, Nat.reduceAdd, Nat.reduceEqDiff, ↓reduceIte, Nat.reduceSub, Nat.reduceMul, reduceCtorEq, hst 138 (by decide) (by decide), a3 138 (by decide) (by decide), hc]
        refine n_ige rfl (by omega) (by omega) (fun _ => by omega) (fun _ => ?_)
        refine r_run 400 rfl rfl ?_
        refine r_inv rfl rfl rfl ?_
        refine c_gropes d n p _ _ (by rw [x_up_row (by decide), x_up_row (by decide), a3 124 (by decide) (by decide)]; exact hG) h12 hp (fun h => by rw [hgp] at h; cases h) (fun _ => ?_)
        refine t_eq0 rfl ?_
        refine behind _ _ _ ?_ (fun h => by rw [hgp] at h; cases h) (fun q hq => ?_) hst
        · simp only [x_up_app, x_ce_app, x_ce_same, Nat.reduceAdd, Nat.reduceEqDiff, ↓reduceIte, Nat.reduceSub, Nat.reduceMul, reduceCtorEq, hgp]
          rfl
        · have hne : ¬ q = p := by omega
          simp only [x_up_app, x_ce_app, x_ce_same, Nat.reduceAdd, Nat.reduceEqDiff, ↓reduceIte, Nat.reduceSub, Nat.reduceMul, reduceCtorEq, if_neg hne]
          exact ⟨trivial, trivial⟩
      | true =>
        obtain ⟨hP1, hP2⟩ := hP p hp hgp
        obtain ⟨f1, f2, f3⟩ := x_far_ok hc1 hP2 (hal p hp hgp)
        -- the way to the first chair not known
        have inner : ∀ j, j ≤ x_far c K P p → ∀ (g2 : xG) (l5 : Option Value), g2 127 p = -1 → (∀ q, q < p → g2 127 q = g' 127 q ∧ g2 128 q = g' 128 q) → (∀ a, a ≠ 127 → a ≠ 128 → g2 a = g a) → Rx (d + 1) m_Grope_takeAim Q 27 [some (.ref 124), some (.ref 138), some (.ref 142), some (.int (nI p)), some (.int (nI j)), l5] [] g2 := by
          refine r_for ?_ ?_
          · intro g2 l5 b1 b2 b3
            refine r_run 400 rfl rfl ?_
            simp only [x_up_app, x_ce_app, x_ce_same, Nat.reduceAdd, Nat.reduceEqDiff, ↓reduceIte, Nat.reduceSub, Nat.reduceMul, reduceCtorEq, b3 138 (by decide) (by decide), hc]
            refine n_ige rfl (by omega) (by omega) (fun _ => by omega) (fun _ => ?_)
            refine r_run 400 rfl rfl ?_
            refine r_inv rfl rfl rfl ?_
            refine c_gropes d n p _ _ (by rw [b3 124 (by decide) (by decide)]; exact hG) h12 hp (fun _ => ?_) (fun h => by rw [hgp] at h; cases h)
            refine t_eq1 rfl ?_
            refine r_run 400 rfl rfl ?_
            refine r_ald (j := p) rfl rfl (rfl) (by omega) (Nat.le_of_ble_eq_true rfl) ?_
            refine r_run 400 rfl rfl ?_
            simp only [x_up_app, x_ce_app, x_ce_same, Nat.reduceAdd, Nat.reduceEqDiff, ↓reduceIte, Nat.reduceSub, Nat.reduceMul, reduceCtorEq, b1]
            refine r_ine rfl (fun h => absurd rfl h) (fun _ => ?_)
            refine r_run 400 rfl rfl ?_
            refine r_ald (j := p) rfl rfl (rfl) (by omega) (Nat.le_of_ble_eq_true rfl) ?_
            refine r_run 400 rfl rfl ?_
            simp only [x_up_app, x_ce_app, x_ce_same, Nat.reduceAdd, Nat.reduceEqDiff, ↓reduceIte, Nat.reduceSub, Nat.reduceMul, reduceCtorEq, b3 125 (by decide) (by decide), hP1]
            refine r_inv rfl rfl rfl ?_
            refine c_Chairs_onFrom_137 d (P p) (x_far c K P p) g2 _ (by rw [b3 138 (by decide) (by decide)]; exact hc) hc1 h16 (by omega) ?_
            refine r_run 400 rfl rfl ?_
            refine r_ald (j := p) rfl rfl (rfl) (by omega) (Nat.le_of_ble_eq_true rfl) ?_
            have haim : (P p + x_far c K P p) % c = x_aim c K P p := rfl
            have haimc : x_aim c K P p < c := Nat.mod_lt _ (by omega)
            obtain ⟨mk, e1, e2, e3⟩ := x_mk_t (hK p hp) haimc h16
            refine r_run 400 rfl rfl ?_
            simp only [x_up_app, x_ce_app, x_ce_same, Nat.reduceAdd, Nat.reduceEqDiff, ↓reduceIte, Nat.reduceSub, Nat.reduceMul, reduceCtorEq, b3 126 (by decide) (by decide), e1, haim]
            rw [x_sh (nI mk) rfl e2 (by omega)]
            have hz : mk / 2 ^ x_aim c K P p % 2 = 0 := by
              have : ¬ x_bit mk (x_aim c K P p) := fun z => by rw [e3, f2] at z; cases z
              unfold x_bit at this
              omega
            rw [hz]
            refine t_ne0 rfl ?_
            refine r_run 400 rfl rfl ?_
            refine r_ast (j := p) rfl rfl (rfl) (by omega) (Nat.le_of_ble_eq_true rfl) ?_
            refine r_run 400 rfl rfl ?_
            refine r_ast (j := p) rfl rfl (rfl) (by omega) (Nat.le_of_ble_eq_true rfl) ?_
            refine r_to 27 60 rfl rfl ?_
            simp only [x_up_app, x_ce_app, x_ce_same, Nat.reduceAdd, Nat.reduceEqDiff, ↓reduceIte, Nat.reduceSub, Nat.reduceMul, reduceCtorEq, nI_add]
            -- once more round: the aim stands
            have hst2 : ∀ a, a ≠ 127 → a ≠ 128 → x_up (x_up g2 127 p (nI (x_aim c K P p))) 128 p (nI (x_far c K P p)) a = g a := fun a h1 h2 => by rw [x_up_row h2, x_up_row h1]; exact b3 a h1 h2
            have fin : ∀ (l4 l5 : Option Value), Rx (d + 1) m_Grope_takeAim Q 104 [some (.ref 124), some (.ref 138), some (.ref 142), some (.int (nI p)), l4, l5] [] (x_up (x_up g2 127 p (nI (x_aim c K P p))) 128 p (nI (x_far c K P p))) := fun l4 l5 => by
              refine behind _ l4 l5 ?_ (fun _ => ?_) (fun q hq => ?_) hst2
              · simp only [x_up_app, x_ce_app, x_ce_same, Nat.reduceAdd, Nat.reduceEqDiff, ↓reduceIte, Nat.reduceSub, Nat.reduceMul, reduceCtorEq, hgp]
                rfl
              · simp only [x_up_app, x_ce_app, x_ce_same, Nat.reduceAdd, Nat.reduceEqDiff, ↓reduceIte, Nat.reduceSub, Nat.reduceMul, reduceCtorEq]
              · have hne : ¬ q = p := by omega
                simp only [x_up_app, x_ce_app, x_ce_same, Nat.reduceAdd, Nat.reduceEqDiff, ↓reduceIte, Nat.reduceSub, Nat.reduceMul, reduceCtorEq, if_neg hne]
                exact b2 q hq
            refine r_run 400 rfl rfl ?_
            simp only [x_up_app, x_ce_app, x_ce_same, Nat.reduceAdd, Nat.reduceEqDiff, ↓reduceIte, Nat.reduceSub, Nat.reduceMul, reduceCtorEq, b3 138 (by decide) (by decide), hc]
            refine n_ige rfl (by omega) (by omega) (fun _ => fin _ _) (fun _ => ?_)
            refine r_run 400 rfl rfl ?_
            refine r_inv rfl rfl rfl ?_
            refine c_gropes d n p _ _ (by rw [hst2 124 (by decide) (by decide)]; exact hG) h12 hp (fun _ => ?_) (fun h => by rw [hgp] at h; cases h)
            refine t_eq1 rfl ?_
            refine r_run 400 rfl rfl ?_
            refine r_ald (j := p) rfl rfl (rfl) (by omega) (Nat.le_of_ble_eq_true rfl) ?_
            refine r_run 400 rfl rfl ?_
            simp only [x_up_app, x_ce_app, x_ce_same, Nat.reduceAdd, Nat.reduceEqDiff, ↓reduceIte, Nat.reduceSub, Nat.reduceMul, reduceCtorEq]
            refine r_ine rfl (fun _ => fin _ _) (fun h => ?_)
            exfalso
            have : nI (x_aim c K P p) < 0 := by rw [h]; decide
            exact nI_pos (by omega) this
          · intro j hj ih2 g2 l5 b1 b2 b3
            have hk := f3 j hj
            refine r_run 400 rfl rfl ?_
            simp only [x_up_app, x_ce_app, x_ce_same, Nat.reduceAdd, Nat.reduceEqDiff, ↓reduceIte, Nat.reduceSub, Nat.reduceMul, reduceCtorEq, b3 138 (by decide) (by decide), hc]
            refine n_ige rfl (by omega) (by omega) (fun _ => by omega) (fun _ => ?_)
            refine r_run 400 rfl rfl ?_
            refine r_inv rfl rfl rfl ?_
            refine c_gropes d n p _ _ (by rw [b3 124 (by decide) (by decide)]; exact hG) h12 hp (fun _ => ?_) (fun h => by rw [hgp] at h; cases h)
            refine t_eq1 rfl ?_
            refine r_run 400 rfl rfl ?_
            refine r_ald (j := p) rfl rfl (rfl) (by omega) (Nat.le_of_ble_eq_true rfl) ?_
            refine r_run 400 rfl rfl ?_
            simp only [x_up_app, x_ce_app, x_ce_same, Nat.reduceAdd, Nat.reduceEqDiff, ↓reduceIte, Nat.reduceSub, Nat.reduceMul, reduceCtorEq, b1]
            refine r_ine rfl (fun h => absurd rfl h) (fun _ => ?_)
            refine r_run 400 rfl rfl ?_
            refine r_ald (j := p) rfl rfl (rfl) (by omega) (Nat.le_of_ble_eq_true rfl) ?_
            refine r_run 400 rfl rfl ?_
            simp only [x_up_app, x_ce_app, x_ce_same, Nat.reduceAdd, Nat.reduceEqDiff, ↓reduceIte, Nat.reduceSub, Nat.reduceMul, reduceCtorEq, b3 125 (by decide) (by decide), hP1]
            refine r_inv rfl rfl rfl ?_
            refine c_Chairs_onFrom_137 d (P p) j g2 _ (by rw [b3 138 (by decide) (by decide)]; exact hc) hc1 h16 (by omega) ?_
            refine r_run 400 rfl rfl ?_
            refine r_ald (j := p) rfl rfl (rfl) (by omega) (Nat.le_of_ble_eq_true rfl) ?_
            have hjc : (P p + j) % c < c := Nat.mod_lt _ (by omega)
            obtain ⟨mk, e1, e2, e3⟩ := x_mk_t (hK p hp) hjc h16
            refine r_run 400 rfl rfl ?_
            simp only [x_up_app, x_ce_app, x_ce_same, Nat.reduceAdd, Nat.reduceEqDiff, ↓reduceIte, Nat.reduceSub, Nat.reduceMul, reduceCtorEq, b3 126 (by decide) (by decide), e1]
            rw [x_sh (nI mk) rfl e2 (by omega)]
            have hz : mk / 2 ^ ((P p + j) % c) % 2 = 1 := e3.mpr hk
            rw [hz]
            refine t_ne1 rfl ?_
            refine r_to 27 60 rfl rfl ?_
            simp only [x_up_app, x_ce_app, x_ce_same, Nat.reduceAdd, Nat.reduceEqDiff, ↓reduceIte, Nat.reduceSub, Nat.reduceMul, reduceCtorEq, nI_add]
            exact ih2 g2 _ b1 b2 b3
        refine r_to 27 60 rfl rfl ?_
        refine inner 0 (Nat.zero_le _) _ _ ?_ (fun q hq => ?_) hst
        · simp only [x_up_app, x_ce_app, x_ce_same, Nat.reduceAdd, Nat.reduceEqDiff, ↓reduceIte, Nat.reduceSub, Nat.reduceMul, reduceCtorEq]
        · have hne : ¬ q = p := by omega
          simp only [x_up_app, x_ce_app, x_ce_same, Nat.reduceAdd, Nat.reduceEqDiff, ↓reduceIte, Nat.reduceSub, Nat.reduceMul, reduceCtorEq, if_neg hne]
          exact ⟨trivial, trivial⟩
  refine r_to 2 60 rfl rfl ?_
  exact loop 0 (Nat.zero_le _) g none none (fun q hq => absurd hq (Nat.not_lt_zero _)) (fun q hq => absurd hq (Nat.not_lt_zero _)) (fun _ _ _ => rfl)
