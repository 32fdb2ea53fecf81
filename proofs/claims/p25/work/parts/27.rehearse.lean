/-! ===== the orders done on trial ===== -/
theorem x_on_1 {o : Option Nat} (h : ∀ q, o = some q → q < 65536) : (x_on o = -1) = (o = none) := propext (x_on_m1 h)
set_option maxHeartbeats 16000000 in
theorem c_readOrder (d i : Nat) (L : Nat) (tx : Nat → Nat) (g : xG) (Q : xQ) (h : TG g L tx) (hi : g 136 5 = nI i) (hi2 : i < 800)
    (k1 : ∀ j k a b, x_ord (sgn L tx) i = (true, j, k, a, b) → ∀ g' : xG, g' 136 5 = nI j → g' 136 6 = nI k → g' 136 7 = nI a → g' 136 8 = nI b → (∀ z, z < 5 → g' 136 z = g 136 z) → (∀ a, a ≠ 136 → g' a = g a) → Q (some (.int (nI 1))) g')
    (k2 : ∀ j k a b, x_ord (sgn L tx) i = (false, j, k, a, b) → ∀ g' : xG, g' 136 5 = nI j → (∀ z, z < 5 → g' 136 z = g 136 z) → (∀ a, a ≠ 136 → g' a = g a) → Q (some (.int (nI 0))) g') : Cx (d + 3) i_Orders_readOrder [.ref 136, .ref 134] g Q := by
  generalize hs : sgn L tx = s at k1 k2
  have hseq : ∀ {x : Nat}, 32 ≤ x → x ≤ 126 → ∀ i, sgc L tx i = nI x ↔ s i = x := fun h1 h2 i => by rw [← hs]; exact sgc_eq h h1 h2 i
  have hrb : ∀ i w, (x_rn s 3 i none).1 = some w → w < 65536 := fun i w hw => by
    have := x_rn_lt s 3 i none 1 (by omega) (fun w hw => by cases hw) w hw
    omega
  refine r_cl (L0 := [some (.ref 136), some (.ref 134)]) rfl (Or.inr ⟨_, _, _, rfl, rfl⟩) rfl rfl rfl ?_
  refine r_run 400 rfl rfl ?_
  simp only [x_up_app, x_ce_app, x_ce_same, Nat.reduceAdd, Nat.reduceEqDiff, ↓reduceIte, Nat.reduceSub, Nat.reduceMul, reduceCtorEq, hi]
  refine r_inv rfl rfl rfl ?_
  refine c_sign (d + 1) i L tx g _ h (by omega) ?_
  refine r_run 400 rfl rfl ?_
  simp only [x_up_app, x_ce_app, x_ce_same, Nat.reduceAdd, Nat.reduceEqDiff, ↓reduceIte, Nat.reduceSub, Nat.reduceMul, reduceCtorEq]
  -- the store so far
  have e5 : x_up (x_up (x_up g 136 6 (sgc L tx i)) 136 7 (nI 0)) 136 8 (nI 0) 136 5 = nI i := by simp only [x_up_app, Nat.reduceAdd, Nat.reduceEqDiff, ↓reduceIte]; exact hi
  have e6 : x_up (x_up (x_up g 136 6 (sgc L tx i)) 136 7 (nI 0)) 136 8 (nI 0) 136 6 = sgc L tx i := by simp only [x_up_app, Nat.reduceAdd, Nat.reduceEqDiff, ↓reduceIte]
  have e7 : x_up (x_up (x_up g 136 6 (sgc L tx i)) 136 7 (nI 0)) 136 8 (nI 0) 136 7 = nI 0 := by simp only [x_up_app, Nat.reduceAdd, Nat.reduceEqDiff, ↓reduceIte]
  have e8 : x_up (x_up (x_up g 136 6 (sgc L tx i)) 136 7 (nI 0)) 136 8 (nI 0) 136 8 = nI 0 := by simp only [x_up_app, Nat.reduceAdd, Nat.reduceEqDiff, ↓reduceIte]
  have ez : ∀ z, z < 5 → x_up (x_up (x_up g 136 6 (sgc L tx i)) 136 7 (nI 0)) 136 8 (nI 0) 136 z = g 136 z := fun z hz => by
    simp only [x_up_app, Nat.reduceAdd, Nat.reduceEqDiff, ↓reduceIte]
    rw [if_neg (by omega), if_neg (by omega), if_neg (by omega)]
  have ea : ∀ a, a ≠ 136 → x_up (x_up (x_up g 136 6 (sgc L tx i)) 136 7 (nI 0)) 136 8 (nI 0) a = g a := fun a ha => by rw [x_up_row ha, x_up_row ha, x_up_row ha]
  generalize x_up (x_up (x_up g 136 6 (sgc L tx i)) 136 7 (nI 0)) 136 8 (nI 0) = g0 at e5 e6 e7 e8 ez ea
  have hT : ∀ g1 : xG, (∀ a, a ≠ 136 → g1 a = g a) → TG g1 L tx := fun g1 h1 => by
    unfold TG
    rw [h1 134 (by decide), h1 135 (by decide)]
    exact h
  -- the cases
  have cb : s i = 99 ∨ s i = 98 → Rx (d + 2) m_Orders_readOrder Q 76 [some (.ref 136), some (.ref 134)] [] g0 := by
    intro hc
    have ho : x_ord s i = (match x_rn s 3 (i + 1) none with | (none, j) => (false, j, 0, 0, 0) | (some v, j) => if s j = 59 then (true, j + 1, s i, v, 0) else (false, j, 0, 0, 0)) := if_pos hc
    have hk : sgc L tx i = nI (s i) := (hseq (by omega) (by omega) i).mpr rfl
    have hrn := x_rn_ok s 3 (i + 1) none
    have hrb := hrb (i + 1)
    refine r_run 400 rfl rfl ?_
    simp only [x_up_app, x_ce_app, x_ce_same, Nat.reduceAdd, Nat.reduceEqDiff, ↓reduceIte, Nat.reduceSub, Nat.reduceMul, reduceCtorEq, e5, nI_add]
    refine r_inv rfl rfl rfl ?_
    refine c_readNumber d (i + 1) L tx _ _ (hT _ (fun a ha => by rw [x_up_row ha]; exact ea a ha)) (by simp only [x_up_app, Nat.reduceAdd, Nat.reduceEqDiff, ↓reduceIte]) (by omega) (fun g1 a1 a2 a3 => ?_)
    rw [hs] at a1 ⊢
    generalize x_rn s 3 (i + 1) none = res at ho hrn hrb a1 ⊢
    obtain ⟨v, j⟩ := res
    dsimp only at a1 hrn hrb ⊢
    have fz : ∀ z, z < 5 → g1 136 z = g 136 z := fun z hz => by
      rw [a2 z (by omega)]
      simp only [x_up_app, Nat.reduceAdd, Nat.reduceEqDiff, ↓reduceIte]
      rw [if_neg (by omega)]
      exact ez z hz
    have fa : ∀ a, a ≠ 136 → g1 a = g a := fun a ha => by rw [a3 a ha, x_up_row ha]; exact ea a ha
    refine r_run 400 rfl rfl ?_
    simp only [x_up_app, x_ce_app, x_ce_same, Nat.reduceAdd, Nat.reduceEqDiff, ↓reduceIte, Nat.reduceSub, Nat.reduceMul, reduceCtorEq]
    refine r_ieq rfl (fun z => ?_) (fun z => ?_)
    · rw [x_on_1 hrb] at z
      subst z
      refine r_run 400 rfl rfl ?_
      refine r_zret rfl rfl (by decide) (k2 j 0 0 0 ho _ ?_ (fun z hz => ?_) (fun a ha => ?_))
      · simp only [x_up_app, x_ce_app, x_ce_same, Nat.reduceAdd, Nat.reduceEqDiff, ↓reduceIte, Nat.reduceSub, Nat.reduceMul, reduceCtorEq, a1]
      · simp only [x_up_app, Nat.reduceAdd, Nat.reduceEqDiff, ↓reduceIte]
        rw [if_neg (by omega)]
        exact fz z hz
      · rw [x_up_row ha]
        exact fa a ha
    · rw [x_on_1 hrb] at z
      cases v with
      | none => exact absurd rfl z
      | some v =>
        dsimp only at ho
        refine r_run 400 rfl rfl ?_
        refine r_inv rfl rfl rfl ?_
        refine c_passes d j 59 L tx _ _ (hT _ (fun a ha => by rw [x_up_row ha]; exact fa a ha)) (by simp only [x_up_app, Nat.reduceAdd, Nat.reduceEqDiff, ↓reduceIte]; exact a1) (by omega) (by omega) (by omega) (fun hp => ?_) (fun hp => ?_)
        · rw [hs] at hp
          rw [if_pos hp] at ho
          refine t_eq1 rfl ?_
          refine r_run 400 rfl rfl ?_
          refine r_zret rfl rfl (by decide) (k1 (j + 1) _ v 0 ho _ ?_ ?_ ?_ ?_ (fun z hz => ?_) (fun a ha => ?_))
          · simp only [x_up_app, x_ce_app, x_ce_same, Nat.reduceAdd, Nat.reduceEqDiff, ↓reduceIte, Nat.reduceSub, Nat.reduceMul, reduceCtorEq]
          · simp only [x_up_app, x_ce_app, x_ce_same, Nat.reduceAdd, Nat.reduceEqDiff, ↓reduceIte, Nat.reduceSub, Nat.reduceMul, reduceCtorEq]
            rw [a2 6 (by decide)]
            simp only [x_up_app, x_ce_app, x_ce_same, Nat.reduceAdd, Nat.reduceEqDiff, ↓reduceIte, Nat.reduceSub, Nat.reduceMul, reduceCtorEq, e6]
            exact hk
          · simp only [x_up_app, x_ce_app, x_ce_same, Nat.reduceAdd, Nat.reduceEqDiff, ↓reduceIte, Nat.reduceSub, Nat.reduceMul, reduceCtorEq]
            rfl
          · simp only [x_up_app, x_ce_app, x_ce_same, Nat.reduceAdd, Nat.reduceEqDiff, ↓reduceIte, Nat.reduceSub, Nat.reduceMul, reduceCtorEq]
            rw [a2 8 (by decide)]
            simp only [x_up_app, x_ce_app, x_ce_same, Nat.reduceAdd, Nat.reduceEqDiff, ↓reduceIte, Nat.reduceSub, Nat.reduceMul, reduceCtorEq, e8]
          · simp only [x_up_app, Nat.reduceAdd, Nat.reduceEqDiff, ↓reduceIte]
            rw [if_neg (by omega), if_neg (by omega)]
            exact fz z hz
          · rw [x_up_row ha, x_up_row ha]
            exact fa a ha
        · rw [hs] at hp
          rw [if_neg hp] at ho
          refine t_eq0 rfl ?_
          refine r_run 400 rfl rfl ?_
          refine r_zret rfl rfl (by decide) (k2 j 0 0 0 ho _ ?_ (fun z hz => ?_) (fun a ha => ?_))
          · simp only [x_up_app, x_ce_app, x_ce_same, Nat.reduceAdd, Nat.reduceEqDiff, ↓reduceIte, Nat.reduceSub, Nat.reduceMul, reduceCtorEq, a1]
          · simp only [x_up_app, Nat.reduceAdd, Nat.reduceEqDiff, ↓reduceIte]
            rw [if_neg (by omega)]
            exact fz z hz
          · rw [x_up_row ha]
            exact fa a ha
  have pp : s i = 112 → Rx (d + 2) m_Orders_readOrder Q 119 [some (.ref 136), some (.ref 134)] [] g0 := by
    intro hc
    have ho : x_ord s i = (match x_rn s 3 (i + 1) none with
      | (none, j) => (false, j, 0, 0, 0)
      | (some v, j) => if s j = 44 then (match x_rn s 3 (j + 1) none with
        | (none, l) => (false, l, 0, 0, 0)
        | (some w, l) => if s l = 59 then (true, l + 1, s i, v, w) else (false, l, 0, 0, 0)) else (false, j, 0, 0, 0)) := by
      unfold x_ord
      rw [if_neg (by omega), if_pos hc]
      rfl
    have hk : sgc L tx i = nI (s i) := (hseq (by omega) (by omega) i).mpr rfl
    have hrn := x_rn_ok s 3 (i + 1) none
    have hrb1 := hrb (i + 1)
    refine r_run 400 rfl rfl ?_
    simp only [x_up_app, x_ce_app, x_ce_same, Nat.reduceAdd, Nat.reduceEqDiff, ↓reduceIte, Nat.reduceSub, Nat.reduceMul, reduceCtorEq, e5, nI_add]
    refine r_inv rfl rfl rfl ?_
    refine c_readNumber d (i + 1) L tx _ _ (hT _ (fun a ha => by rw [x_up_row ha]; exact ea a ha)) (by simp only [x_up_app, Nat.reduceAdd, Nat.reduceEqDiff, ↓reduceIte]) (by omega) (fun g1 a1 a2 a3 => ?_)
    rw [hs] at a1 ⊢
    generalize x_rn s 3 (i + 1) none = res at ho hrn hrb1 a1 ⊢
    obtain ⟨v, j⟩ := res
    dsimp only at a1 hrn hrb1 ⊢
    have fz : ∀ z, z < 5 → g1 136 z = g 136 z := fun z hz => by
      rw [a2 z (by omega)]
      simp only [x_up_app, Nat.reduceAdd, Nat.reduceEqDiff, ↓reduceIte]
      rw [if_neg (by omega)]
      exact ez z hz
    have fa : ∀ a, a ≠ 136 → g1 a = g a := fun a ha => by rw [a3 a ha, x_up_row ha]; exact ea a ha
    have f6 : g1 136 6 = nI (s i) := by
      rw [a2 6 (by decide)]
      simp only [x_up_app, x_ce_app, x_ce_same, Nat.reduceAdd, Nat.reduceEqDiff, ↓reduceIte, Nat.reduceSub, Nat.reduceMul, reduceCtorEq, e6]
      exact hk
    have f8 : g1 136 8 = nI 0 := by
      rw [a2 8 (by decide)]
      simp only [x_up_app, x_ce_app, x_ce_same, Nat.reduceAdd, Nat.reduceEqDiff, ↓reduceIte, Nat.reduceSub, Nat.reduceMul, reduceCtorEq, e8]
    refine r_run 400 rfl rfl ?_
    simp only [x_up_app, x_ce_app, x_ce_same, Nat.reduceAdd, Nat.reduceEqDiff, ↓reduceIte, Nat.reduceSub, Nat.reduceMul, reduceCtorEq]
    refine r_ieq rfl (fun z => ?_) (fun z => ?_)
    · rw [x_on_1 hrb1] at z
      subst z
      refine r_run 400 rfl rfl ?_
      refine r_zret rfl rfl (by decide) (k2 j 0 0 0 ho _ ?_ (fun z hz => ?_) (fun a ha => ?_))
      · simp only [x_up_app, x_ce_app, x_ce_same, Nat.reduceAdd, Nat.reduceEqDiff, ↓reduceIte, Nat.reduceSub, Nat.reduceMul, reduceCtorEq, a1]
      · simp only [x_up_app, Nat.reduceAdd, Nat.reduceEqDiff, ↓reduceIte]
        rw [if_neg (by omega)]
        exact fz z hz
      · rw [x_up_row ha]
        exact fa a ha
    · rw [x_on_1 hrb1] at z
      cases v with
      | none => exact absurd rfl z
      | some v =>
        dsimp only at ho
        refine r_run 400 rfl rfl ?_
        refine r_inv rfl rfl rfl ?_
        refine c_passes d j 44 L tx _ _ (hT _ (fun a ha => by rw [x_up_row ha]; exact fa a ha)) (by simp only [x_up_app, Nat.reduceAdd, Nat.reduceEqDiff, ↓reduceIte]; exact a1) (by omega) (by omega) (by omega) (fun hp => ?_) (fun hp => ?_)
        · rw [hs] at hp
          rw [if_pos hp] at ho
          refine t_ne1 rfl ?_
          have hrn2 := x_rn_ok s 3 (j + 1) none
          have hrb2 := hrb (j + 1)
          refine r_run 400 rfl rfl ?_
          refine r_inv rfl rfl rfl ?_
          refine c_readNumber d (j + 1) L tx _ _ (hT _ (fun a ha => by rw [x_up_row ha, x_up_row ha]; exact fa a ha)) (by simp only [x_up_app, Nat.reduceAdd, Nat.reduceEqDiff, ↓reduceIte]) (by omega) (fun g2 b1 b2 b3 => ?_)
          rw [hs] at b1 ⊢
          generalize x_rn s 3 (j + 1) none = res at ho hrn2 hrb2 b1 ⊢
          obtain ⟨w, l⟩ := res
          dsimp only at b1 hrn2 hrb2 ⊢
          have yz : ∀ z, z < 5 → g2 136 z = g 136 z := fun z hz => by
            rw [b2 z (by omega)]
            simp only [x_up_app, Nat.reduceAdd, Nat.reduceEqDiff, ↓reduceIte]
            rw [if_neg (by omega), if_neg (by omega)]
            exact fz z hz
          have ya : ∀ a, a ≠ 136 → g2 a = g a := fun a ha => by rw [b3 a ha, x_up_row ha, x_up_row ha]; exact fa a ha
          refine r_run 400 rfl rfl ?_
          simp only [x_up_app, x_ce_app, x_ce_same, Nat.reduceAdd, Nat.reduceEqDiff, ↓reduceIte, Nat.reduceSub, Nat.reduceMul, reduceCtorEq]
          refine r_ieq rfl (fun z => ?_) (fun z => ?_)
          · rw [x_on_1 hrb2] at z
            subst z
            refine r_run 400 rfl rfl ?_
            refine r_zret rfl rfl (by decide) (k2 l 0 0 0 ho _ ?_ (fun z hz => ?_) (fun a ha => ?_))
            · simp only [x_up_app, x_ce_app, x_ce_same, Nat.reduceAdd, Nat.reduceEqDiff, ↓reduceIte, Nat.reduceSub, Nat.reduceMul, reduceCtorEq, b1]
            · simp only [x_up_app, Nat.reduceAdd, Nat.reduceEqDiff, ↓reduceIte]
              rw [if_neg (by omega)]
              exact yz z hz
            · rw [x_up_row ha]
              exact ya a ha
          · rw [x_on_1 hrb2] at z
            cases w with
            | none => exact absurd rfl z
            | some w =>
              dsimp only at ho
              refine r_run 400 rfl rfl ?_
              refine r_inv rfl rfl rfl ?_
              refine c_passes d l 59 L tx _ _ (hT _ (fun a ha => by rw [x_up_row ha]; exact ya a ha)) (by simp only [x_up_app, Nat.reduceAdd, Nat.reduceEqDiff, ↓reduceIte]; exact b1) (by omega) (by omega) (by omega) (fun hp => ?_) (fun hp => ?_)
              · rw [hs] at hp
                rw [if_pos hp] at ho
                refine t_eq1 rfl ?_
                refine r_run 400 rfl rfl ?_
                refine r_zret rfl rfl (by decide) (k1 (l + 1) _ v w ho _ ?_ ?_ ?_ ?_ (fun z hz => ?_) (fun a ha => ?_))
                · simp only [x_up_app, x_ce_app, x_ce_same, Nat.reduceAdd, Nat.reduceEqDiff, ↓reduceIte, Nat.reduceSub, Nat.reduceMul, reduceCtorEq]
                · simp only [x_up_app, x_ce_app, x_ce_same, Nat.reduceAdd, Nat.reduceEqDiff, ↓reduceIte, Nat.reduceSub, Nat.reduceMul, reduceCtorEq]
                  rw [b2 6 (by decide)]
                  simp only [x_up_app, x_ce_app, x_ce_same, Nat.reduceAdd, Nat.reduceEqDiff, ↓reduceIte, Nat.reduceSub, Nat.reduceMul, reduceCtorEq, f6]
                · simp only [x_up_app, x_ce_app, x_ce_same, Nat.reduceAdd, Nat.reduceEqDiff, ↓reduceIte, Nat.reduceSub, Nat.reduceMul, reduceCtorEq]
                  rw [b2 7 (by decide)]
                  simp only [x_up_app, x_ce_app, x_ce_same, Nat.reduceAdd, Nat.reduceEqDiff, ↓reduceIte, Nat.reduceSub, Nat.reduceMul, reduceCtorEq]
                  rfl
                · simp only [x_up_app, x_ce_app, x_ce_same, Nat.reduceAdd, Nat.reduceEqDiff, ↓reduceIte, Nat.reduceSub, Nat.reduceMul, reduceCtorEq]
                  rfl
                · simp only [x_up_app, Nat.reduceAdd, Nat.reduceEqDiff, ↓reduceIte]
                  rw [if_neg (by omega), if_neg (by omega)]
                  exact yz z hz
                · rw [x_up_row ha, x_up_row ha]
                  exact ya a ha
              · rw [hs] at hp
                rw [if_neg hp] at ho
                refine t_eq0 rfl ?_
                refine r_run 400 rfl rfl ?_
                refine r_zret rfl rfl (by decide) (k2 l 0 0 0 ho _ ?_ (fun z hz => ?_) (fun a ha => ?_))
                · simp only [x_up_app, x_ce_app, x_ce_same, Nat.reduceAdd, Nat.reduceEqDiff, ↓reduceIte, Nat.reduceSub, Nat.reduceMul, reduceCtorEq, b1]
                · simp only [x_up_app, Nat.reduceAdd, Nat.reduceEqDiff, ↓reduceIte]
                  rw [if_neg (by omega)]
                  exact yz z hz
                · rw [x_up_row ha]
                  exact ya a ha
        · rw [hs] at hp
          rw [if_neg hp] at ho
          refine t_ne0 rfl ?_
          refine r_run 400 rfl rfl ?_
          refine r_zret rfl rfl (by decide) (k2 j 0 0 0 ho _ ?_ (fun z hz => ?_) (fun a ha => ?_))
          · simp only [x_up_app, x_ce_app, x_ce_same, Nat.reduceAdd, Nat.reduceEqDiff, ↓reduceIte, Nat.reduceSub, Nat.reduceMul, reduceCtorEq, a1]
          · simp only [x_up_app, Nat.reduceAdd, Nat.reduceEqDiff, ↓reduceIte]
            rw [if_neg (by omega)]
            exact fz z hz
          · rw [x_up_row ha]
            exact fa a ha
  have gs : s i = 103 ∨ s i = 115 → Rx (d + 2) m_Orders_readOrder Q 191 [some (.ref 136), some (.ref 134)] [] g0 := by
    intro hc
    have ho : x_ord s i = if s (i + 1) = 59 then (true, i + 2, s i, 0, 0) else (false, i + 1, 0, 0, 0) := by
      unfold x_ord
      rw [if_neg (by omega), if_neg (by omega), if_pos hc]
    have hk : sgc L tx i = nI (s i) := (hseq (by omega) (by omega) i).mpr rfl
    refine r_run 400 rfl rfl ?_
    simp only [x_up_app, x_ce_app, x_ce_same, Nat.reduceAdd, Nat.reduceEqDiff, ↓reduceIte, Nat.reduceSub, Nat.reduceMul, reduceCtorEq, e5, nI_add]
    refine r_inv rfl rfl rfl ?_
    refine c_passes d (i + 1) 59 L tx _ _ (hT _ (fun a ha => by rw [x_up_row ha]; exact ea a ha)) (by simp only [x_up_app, Nat.reduceAdd, Nat.reduceEqDiff, ↓reduceIte]) (by omega) (by omega) (by omega) (fun hp => ?_) (fun hp => ?_)
    · rw [hs] at hp
      rw [if_pos hp] at ho
      refine r_run 400 rfl rfl ?_
      refine r_zret rfl rfl (by decide) (k1 (i + 2) _ 0 0 ho _ ?_ ?_ ?_ ?_ (fun z hz => ?_) (fun a ha => ?_))
      · simp only [x_up_app, x_ce_app, x_ce_same, Nat.reduceAdd, Nat.reduceEqDiff, ↓reduceIte, Nat.reduceSub, Nat.reduceMul, reduceCtorEq]
      · simp only [x_up_app, x_ce_app, x_ce_same, Nat.reduceAdd, Nat.reduceEqDiff, ↓reduceIte, Nat.reduceSub, Nat.reduceMul, reduceCtorEq, e6]
        exact hk
      · simp only [x_up_app, x_ce_app, x_ce_same, Nat.reduceAdd, Nat.reduceEqDiff, ↓reduceIte, Nat.reduceSub, Nat.reduceMul, reduceCtorEq, e7]
      · simp only [x_up_app, x_ce_app, x_ce_same, Nat.reduceAdd, Nat.reduceEqDiff, ↓reduceIte, Nat.reduceSub, Nat.reduceMul, reduceCtorEq, e8]
      · simp only [x_up_app, Nat.reduceAdd, Nat.reduceEqDiff, ↓reduceIte]
        rw [if_neg (by omega), if_neg (by omega)]
        exact ez z hz
      · rw [x_up_row ha, x_up_row ha]
        exact ea a ha
    · rw [hs] at hp
      rw [if_neg hp] at ho
      refine r_run 400 rfl rfl ?_
      refine r_zret rfl rfl (by decide) (k2 (i + 1) 0 0 0 ho _ ?_ (fun z hz => ?_) (fun a ha => ?_))
      · simp only [x_up_app, x_ce_app, x_ce_same, Nat.reduceAdd, Nat.reduceEqDiff, ↓reduceIte, Nat.reduceSub, Nat.reduceMul, reduceCtorEq]
      · simp only [x_up_app, Nat.reduceAdd, Nat.reduceEqDiff, ↓reduceIte]
        rw [if_neg (by omega)]
        exact ez z hz
      · rw [x_up_row ha]
        exact ea a ha
  refine r_lsw rfl rfl ⟨fun q hq e => ?_, fun hno => ?_⟩
  · simp only [List.mem_cons, List.not_mem_nil, or_false] at hq
    rcases hq with rfl | rfl | rfl | rfl | rfl
    · exact cb (Or.inr ((hseq (by omega) (by omega) i).mp e))
    · exact cb (Or.inl ((hseq (by omega) (by omega) i).mp e))
    · exact gs (Or.inl ((hseq (by omega) (by omega) i).mp e))
    · exact pp ((hseq (by omega) (by omega) i).mp e)
    · exact gs (Or.inr ((hseq (by omega) (by omega) i).mp e))
  · simp only [List.mem_cons, List.not_mem_nil, or_false, forall_eq_or_imp, forall_eq] at hno
    obtain ⟨n1, n2, n3, n4, n5⟩ := hno
    rw [hseq (by omega) (by omega)] at n1 n2 n3 n4 n5
    have ho : x_ord s i = (false, i, 0, 0, 0) := by
      unfold x_ord
      rw [if_neg (by omega), if_neg (by omega), if_neg (by omega)]
    refine r_run 400 rfl rfl ?_
    exact r_zret rfl rfl (by decide) (k2 i 0 0 0 ho g0 e5 ez ea)
set_option maxHeartbeats 16000000 in
theorem c_perform (d kk a b : Nat) (V : xV) (g : xG) (Q : xQ) (h : CG g 137 V) (hk : vOk V) (hkk : kk = 99 ∨ kk = 98 ∨ kk = 103 ∨ kk = 112 ∨ kk = 115) (k1 : eOrd V kk a b < 0 → Q (some (.int (eOrd V kk a b))) g) (k2 : eOrd V kk a b = nI 0 → ∀ (g' : xG) (x : Nat), x < 65536 → CG g' 137 (vOrd V kk a b) → (∀ a, ((a < 137 ∨ 156 < a) ∧ (a < 124 ∨ 133 < a)) → g' a = g a) → Q (some (.int (nI x))) g') : Cx (d + 5) i_Game_perform [.ref 137, .int (nI kk), .int (nI a), .int (nI b), .ref 124] g Q := by
  obtain ⟨⟨a1, a2, a3, a4, a5, a6⟩, -⟩ := id hk
  refine r_cl (L0 := [some (.ref 137), some (.int (nI kk)), some (.int (nI a)), some (.int (nI b)), some (.ref 124)]) rfl (Or.inr ⟨_, _, _, rfl, rfl⟩) rfl rfl rfl ?_
  refine r_run 400 rfl rfl ?_
  have hlt : ∀ m, m < 2 ^ 31 → kk = m → nI kk = nI m := fun m _ e => by rw [e]
  refine r_lsw rfl rfl ⟨fun q hq e => ?_, fun hno => ?_⟩
  · simp only [List.mem_cons, List.not_mem_nil, or_false] at hq
    rcases hq with rfl | rfl | rfl | rfl
    · have e : kk = 98 := (nI_eq (by omega) (by omega)).mp e
      subst e
      refine r_run 400 rfl rfl ?_
      refine r_inv rfl rfl rfl ?_
      refine c_vBeat_137 (d + 1) V (nI a) g _ h hk (fun z => ?_) (fun z g' b1 b2 => ?_)
      · refine r_run 400 rfl rfl ?_
        exact r_iret rfl rfl (k1 z)
      · have := (eBeat_0 z).2.2
        refine r_run 400 rfl rfl ?_
        exact r_iret rfl rfl (k2 z g' _ (by omega) b1 (fun a ha => b2 a ha.1))
    · have e : kk = 99 := (nI_eq (by omega) (by omega)).mp e
      subst e
      refine r_run 400 rfl rfl ?_
      refine r_inv rfl rfl rfl ?_
      refine c_vChair_137 (d + 2) V (nI a) g _ h hk (fun z => ?_) (fun z g' b1 b2 => ?_)
      · refine r_run 400 rfl rfl ?_
        exact r_iret rfl rfl (k1 z)
      · refine r_run 400 rfl rfl ?_
        exact r_iret rfl rfl (k2 z g' _ (by omega) b1 (fun a ha => b2 a ha.1))
    · have e : kk = 103 := (nI_eq (by omega) (by omega)).mp e
      subst e
      refine r_run 400 rfl rfl ?_
      refine r_inv rfl rfl rfl ?_
      refine c_vStart_137 (d + 1) V g _ h hk (fun z => ?_) (fun z g' b1 b2 => ?_)
      · refine r_run 400 rfl rfl ?_
        exact r_iret rfl rfl (k1 z)
      · have := x_cnt_le (vin V) (vn V)
        refine r_run 400 rfl rfl ?_
        exact r_iret rfl rfl (k2 z g' _ (by omega) b1 (fun a ha => b2 a ha.1))
    · have e : kk = 112 := (nI_eq (by omega) (by omega)).mp e
      subst e
      refine r_run 400 rfl rfl ?_
      refine r_inv rfl rfl rfl ?_
      refine c_vPlayer_137 (d + 2) V (nI a) (nI b) g _ h hk (fun z => ?_) (fun z g' b1 b2 => ?_)
      · refine r_run 400 rfl rfl ?_
        exact r_iret rfl rfl (k1 z)
      · refine r_run 400 rfl rfl ?_
        exact r_iret rfl rfl (k2 z g' _ (by omega) b1 (fun a ha => b2 a ha.1))
  · simp only [List.mem_cons, List.not_mem_nil, or_false, forall_eq_or_imp, forall_eq] at hno
    obtain ⟨n1, n2, n3, n4⟩ := hno
    have hke : kk = 115 := by
      rcases hkk with e | e | e | e | e
      · exact absurd (by rw [e]) n2
      · exact absurd (by rw [e]) n1
      · exact absurd (by rw [e]) n3
      · exact absurd (by rw [e]) n4
      · exact e
    subst hke
    refine r_run 400 rfl rfl ?_
    refine r_inv rfl rfl rfl ?_
    refine c_vStop_137 d V g _ h hk (fun z => ?_) (fun z g' b1 b2 => ?_)
    · refine r_run 400 rfl rfl ?_
      exact r_iret rfl rfl (k1 z)
    · have h1 := (x_enc_ok (XO (vX V 0 (vTT V 0))) (vn V)).1
      have h2 : 2 ^ vn V ≤ 2 ^ 12 := Nat.pow_le_pow_right (by omega) a6
      refine r_run 400 rfl rfl ?_
      exact r_iret rfl rfl (k2 z g' _ (by omega) b1 b2)
set_option maxHeartbeats 4000000 in
theorem c_judge (d : Nat) (x : Int32) (g : xG) (Q : xQ) (k1 : x < 0 → Q none (x_up (x_up g 136 3 (nI 2)) 136 4 x)) (k2 : ¬ x < 0 → Q none (x_up g 136 1 (g 136 1 + nI 1))) : Cx (d + 1) i_Orders_judge [.ref 136, .int x] g Q := by
  refine r_cl (L0 := [some (.ref 136), some (.int x)]) rfl (Or.inr ⟨_, _, _, rfl, rfl⟩) rfl rfl rfl ?_
  refine r_run 400 rfl rfl ?_
  refine r_ge0 rfl (fun h => ?_) (fun h => ?_)
  · refine r_run 400 rfl rfl ?_
    exact r_ret rfl rfl (k2 (Int32.not_lt.mpr h))
  · refine r_run 400 rfl rfl ?_
    exact r_ret rfl rfl (k1 (Int32.not_le.mp h))
theorem x_ord_kk {s : Nat → Nat} {i j k a b : Nat} (h : x_ord s i = (true, j, k, a, b)) : (k = 99 ∨ k = 98 ∨ k = 103 ∨ k = 112 ∨ k = 115) ∧ i < j := by
  have h3 := x_rn_ok s 3 (i + 1) none
  unfold x_ord at h
  split at h
  · rename_i hc
    split at h
    · cases h
    · rename_i hr
      rw [hr] at h3
      split at h
      · cases h
        dsimp only at h3
        omega
      · cases h
  · split at h
    · rename_i hc
      split at h
      · cases h
      · rename_i v j1 hr
        rw [hr] at h3
        have h4 := x_rn_ok s 3 (j1 + 1) none
        split at h
        · split at h
          · cases h
          · rename_i hr2
            rw [hr2] at h4
            split at h
            · cases h
              dsimp only at h3 h4
              omega
            · cases h
        · cases h
    · split at h
      · rename_i hc
        split at h
        · cases h
          omega
        · cases h
      · cases h
theorem x_ord_le {s : Nat → Nat} {i : Nat} : (x_ord s i).2.1 ≤ i + 10 ∧ i ≤ (x_ord s i).2.1 := by
  have h3 := x_rn_ok s 3 (i + 1) none
  unfold x_ord
  split
  · split
    · rename_i hr
      rw [hr] at h3
      dsimp only at h3 ⊢
      omega
    · rename_i hr
      rw [hr] at h3
      split <;> (dsimp only at h3 ⊢; omega)
  · split
    · split
      · rename_i hr
        rw [hr] at h3
        dsimp only at h3 ⊢
        omega
      · rename_i v j1 hr
        rw [hr] at h3
        have h4 := x_rn_ok s 3 (j1 + 1) none
        split
        · split
          · rename_i hr2
            rw [hr2] at h4
            dsimp only at h3 h4 ⊢
            omega
          · rename_i hr2
            rw [hr2] at h4
            split <;> (dsimp only at h3 h4 ⊢; omega)
        · dsimp only at h3 ⊢
          omega
    · split
      · split <;> (dsimp only; omega)
      · dsimp only
        omega
set_option maxHeartbeats 16000000 in
theorem c_rehearse (d L : Nat) (tx : Nat → Nat) (V : xV) (g : xG) (Q : xQ) (hT : TG g L tx) (h : CG g 2 V) (hk : vOk V)
    (k : ∀ (g' : xG) (V' : xV) (n rs bg : Nat) (cs : Int32), oRun (sgn L tx) L 60 0 0 V = (V', n, rs, bg, cs) → n ≤ 60 → rs ≤ 2 → bg ≤ 60 → vOk V' → CG g' 137 V' → g' 136 1 = nI n → g' 136 3 = nI rs → (¬ rs = 0 → g' 136 2 = nI bg ∧ g' 136 4 = cs) → (∀ a, (a ≠ 136 ∧ (a < 137 ∨ 156 < a) ∧ (a < 124 ∨ 133 < a)) → g' a = g a) → Q none g') : Cx (d + 6) i_Orders_rehearse [.ref 136, .ref 134, .ref 2, .ref 124] g Q := by
  have hL := hT.2.1
  generalize hR : oRun (sgn L tx) L 60 0 0 V = R at k
  refine r_cl (L0 := [some (.ref 136), some (.ref 134), some (.ref 2), some (.ref 124), none]) rfl (Or.inr ⟨_, _, _, rfl, rfl⟩) rfl rfl rfl ?_
  have fin : ∀ (t : Nat) (g' : xG) (V' : xV) (n rs bg : Nat) (cs : Int32), t ≤ 60 → R = (V', n, rs, bg, cs) → n ≤ 60 → rs ≤ 2 → bg ≤ 60 → vOk V' → CG g' 137 V' → g' 136 1 = nI n → g' 136 3 = nI rs → ¬ rs = 0 → g' 136 2 = nI bg → g' 136 4 = cs → (∀ a, (a ≠ 136 ∧ (a < 137 ∨ 156 < a) ∧ (a < 124 ∨ 133 < a)) → g' a = g a) → Rx (d + 5) m_Orders_rehearse Q 26 [some (.ref 136), some (.ref 134), some (.ref 2), some (.ref 124), some (.int (nI t))] [] g' := by
    intro t g' V' n rs bg cs ht e hn hrs hbg hvk hcg h1 h3 hne h2 h4 hf
    have hq : Q none g' := k g' V' n rs bg cs e hn hrs hbg hvk hcg h1 h3 (fun _ => ⟨h2, h4⟩) hf
    refine r_run 400 rfl rfl ?_
    refine n_ige rfl (by omega) (by omega) (fun _ => ?_) (fun _ => ?_)
    · refine r_run 400 rfl rfl ?_
      exact r_ret rfl rfl hq
    · refine r_run 400 rfl rfl ?_
      refine r_ige rfl (fun _ => ?_) (fun _ => ?_)
      · refine r_run 400 rfl rfl ?_
        exact r_ret rfl rfl hq
      · refine r_run 400 rfl rfl ?_
        simp only [x_up_app, x_ce_app, x_ce_same, Nat.reduceAdd, Nat.reduceEqDiff, ↓reduceIte, Nat.reduceSub, Nat.reduceMul, reduceCtorEq, h3]
        refine r_ne0 rfl (fun _ => ?_) (fun z => absurd ((nI_eq (b := 0) (by omega) (by omega)).mp z) hne)
        refine r_run 400 rfl rfl ?_
        exact r_ret rfl rfl hq
  have loop : ∀ t, t ≤ 60 → ∀ (pos n : Nat) (V' : xV) (g' : xG), n ≤ t → pos ≤ 70 → oRun (sgn L tx) L (60 - t) pos n V' = R → vOk V' → CG g' 137 V' → g' 136 1 = nI n → g' 136 3 = nI 0 → g' 136 5 = nI pos → (∀ a, (a ≠ 136 ∧ (a < 137 ∨ 156 < a) ∧ (a < 124 ∨ 133 < a)) → g' a = g a) → Rx (d + 5) m_Orders_rehearse Q 26 [some (.ref 136), some (.ref 134), some (.ref 2), some (.ref 124), some (.int (nI t))] [] g' := by
    refine r_for ?_ ?_
    · intro pos n V' g' hn hpos hrun hvk hcg h1 h3 h5 hf
      refine r_run 400 rfl rfl ?_
      refine n_ige rfl (by omega) (by omega) (fun _ => ?_) (fun h => by omega)
      refine r_run 400 rfl rfl ?_
      exact r_ret rfl rfl (k g' V' n 0 0 (nI 0) hrun.symm hn (by omega) (by omega) hvk hcg h1 h3 (fun z => absurd rfl z) hf)
    · intro t ht ih pos n V' g' hn hpos hrun hvk hcg h1 h3 h5 hf
      have hTG : TG g' L tx := by
        unfold TG
        rw [hf 134 (by decide), hf 135 (by decide)]
        exact hT
      rw [show 60 - t = (60 - (t + 1)) + 1 by omega] at hrun
      unfold oRun at hrun
      refine r_run 400 rfl rfl ?_
      refine n_ige rfl (by omega) (by omega) (fun _ => by omega) (fun _ => ?_)
      refine r_run 400 rfl rfl ?_
      simp only [x_up_app, x_ce_app, x_ce_same, Nat.reduceAdd, Nat.reduceEqDiff, ↓reduceIte, Nat.reduceSub, Nat.reduceMul, reduceCtorEq, h5, hTG.1]
      refine n_ige rfl (by omega) (by omega) (fun hge => ?_) (fun hlt => ?_)
      · rw [if_neg (by omega)] at hrun
        refine r_run 400 rfl rfl ?_
        exact r_ret rfl rfl (k g' V' n 0 0 (nI 0) hrun.symm (by omega) (by omega) (by omega) hvk hcg h1 h3 (fun z => absurd rfl z) hf)
      · rw [if_pos hlt] at hrun
        refine r_run 400 rfl rfl ?_
        simp only [x_up_app, x_ce_app, x_ce_same, Nat.reduceAdd, Nat.reduceEqDiff, ↓reduceIte, Nat.reduceSub, Nat.reduceMul, reduceCtorEq, h3]
        refine r_ne0 rfl (fun z => absurd rfl z) (fun _ => ?_)
        have hol := x_ord_le (s := sgn L tx) (i := pos)
        refine r_run 400 rfl rfl ?_
        simp only [x_up_app, x_ce_app, x_ce_same, Nat.reduceAdd, Nat.reduceEqDiff, ↓reduceIte, Nat.reduceSub, Nat.reduceMul, reduceCtorEq, h5]
        refine r_inv rfl rfl rfl ?_
        refine c_readOrder (d + 2) pos L tx _ _ (by
          unfold TG
          rw [x_up_row (by decide), x_up_row (by decide)]
          exact hTG) (by simp only [x_up_app, Nat.reduceAdd, Nat.reduceEqDiff, ↓reduceIte]; exact h5) (by omega) (fun j kk a b ho g1 c5 c6 c7 c8 cz ca => ?_) (fun j kk a b ho g1 c5 cz ca => ?_)
        · rw [ho] at hrun hol
          dsimp only at hrun hol
          obtain ⟨hkk, hij⟩ := x_ord_kk ho
          have hcg1 : CG g1 137 V' := CG_row hcg (fun a ha hb => by rw [ca a (by omega), x_up_row (by omega)])
          have hf1 : ∀ a, (a ≠ 136 ∧ (a < 137 ∨ 156 < a) ∧ (a < 124 ∨ 133 < a)) → g1 a = g a := fun a ha => by rw [ca a ha.1, x_up_row ha.1]; exact hf a ha
          refine t_ne1 rfl ?_
          refine r_run 400 rfl rfl ?_
          simp only [x_up_app, x_ce_app, x_ce_same, Nat.reduceAdd, Nat.reduceEqDiff, ↓reduceIte, Nat.reduceSub, Nat.reduceMul, reduceCtorEq, c6, c7, c8]
          refine r_inv rfl rfl rfl ?_
          refine c_perform d kk a b V' g1 _ hcg1 hvk hkk (fun z => ?_) (fun z g2 x hx b1 b2 => ?_)
          · rw [if_pos z] at hrun
            refine r_run 400 rfl rfl ?_
            refine r_inv rfl rfl rfl ?_
            refine c_judge (d + 4) _ _ _ (fun _ => ?_) (fun w => absurd z w)
            refine r_to 26 60 rfl rfl ?_
            simp only [x_up_app, x_ce_app, x_ce_same, Nat.reduceAdd, Nat.reduceEqDiff, ↓reduceIte, Nat.reduceSub, Nat.reduceMul, reduceCtorEq, nI_add]
            refine fin (t + 1) _ V' n 2 pos _ (by omega) hrun.symm (by omega) (by omega) (by omega) hvk (CG_row hcg1 (fun a ha hb => by rw [x_up_row (by omega), x_up_row (by omega)])) ?_ ?_ (by decide) ?_ ?_ (fun a ha => ?_)
            · simp only [x_up_app, x_ce_app, x_ce_same, Nat.reduceAdd, Nat.reduceEqDiff, ↓reduceIte, Nat.reduceSub, Nat.reduceMul, reduceCtorEq]
              rw [cz 1 (by decide)]
              simp only [x_up_app, x_ce_app, x_ce_same, Nat.reduceAdd, Nat.reduceEqDiff, ↓reduceIte, Nat.reduceSub, Nat.reduceMul, reduceCtorEq, h1]
            · simp only [x_up_app, x_ce_app, x_ce_same, Nat.reduceAdd, Nat.reduceEqDiff, ↓reduceIte, Nat.reduceSub, Nat.reduceMul, reduceCtorEq]
            · simp only [x_up_app, x_ce_app, x_ce_same, Nat.reduceAdd, Nat.reduceEqDiff, ↓reduceIte, Nat.reduceSub, Nat.reduceMul, reduceCtorEq]
              rw [cz 2 (by decide)]
              simp only [x_up_app, x_ce_app, x_ce_same, Nat.reduceAdd, Nat.reduceEqDiff, ↓reduceIte, Nat.reduceSub, Nat.reduceMul, reduceCtorEq]
            · simp only [x_up_app, x_ce_app, x_ce_same, Nat.reduceAdd, Nat.reduceEqDiff, ↓reduceIte, Nat.reduceSub, Nat.reduceMul, reduceCtorEq]
            · rw [x_up_row ha.1, x_up_row ha.1]
              exact hf1 a ha
          · rw [if_neg (by rw [z]; decide)] at hrun
            have hr6 : g2 136 = g1 136 := b2 136 (by decide)
            refine r_run 400 rfl rfl ?_
            refine r_inv rfl rfl rfl ?_
            refine c_judge (d + 4) _ _ _ (fun w => absurd w (nI_pos (by omega))) (fun _ => ?_)
            refine r_to 26 60 rfl rfl ?_
            simp only [x_up_app, x_ce_app, x_ce_same, Nat.reduceAdd, Nat.reduceEqDiff, ↓reduceIte, Nat.reduceSub, Nat.reduceMul, reduceCtorEq, nI_add]
            refine ih j (n + 1) _ _ (by omega) (by omega) hrun (vOk_ord hvk z) (CG_row b1 (fun a ha hb => by rw [x_up_row (by omega)])) ?_ ?_ ?_ (fun a ha => ?_)
            · simp only [x_up_app, x_ce_app, x_ce_same, Nat.reduceAdd, Nat.reduceEqDiff, ↓reduceIte, Nat.reduceSub, Nat.reduceMul, reduceCtorEq, hr6]
              rw [cz 1 (by decide)]
              simp only [x_up_app, x_ce_app, x_ce_same, Nat.reduceAdd, Nat.reduceEqDiff, ↓reduceIte, Nat.reduceSub, Nat.reduceMul, reduceCtorEq, h1, nI_add]
            · simp only [x_up_app, x_ce_app, x_ce_same, Nat.reduceAdd, Nat.reduceEqDiff, ↓reduceIte, Nat.reduceSub, Nat.reduceMul, reduceCtorEq, hr6]
              rw [cz 3 (by decide)]
              simp only [x_up_app, x_ce_app, x_ce_same, Nat.reduceAdd, Nat.reduceEqDiff, ↓reduceIte, Nat.reduceSub, Nat.reduceMul, reduceCtorEq, h3]
            · simp only [x_up_app, x_ce_app, x_ce_same, Nat.reduceAdd, Nat.reduceEqDiff, ↓reduceIte, Nat.reduceSub, Nat.reduceMul, reduceCtorEq, hr6, c5]
            · rw [x_up_row ha.1, b2 a ha.2]
              exact hf1 a ha
        · rw [ho] at hrun hol
          dsimp only at hrun hol
          have hcg1 : CG g1 137 V' := CG_row hcg (fun a ha hb => by rw [ca a (by omega), x_up_row (by omega)])
          have hf1 : ∀ a, (a ≠ 136 ∧ (a < 137 ∨ 156 < a) ∧ (a < 124 ∨ 133 < a)) → g1 a = g a := fun a ha => by rw [ca a ha.1, x_up_row ha.1]; exact hf a ha
          have hb2 : g1 136 2 = nI pos := by
            rw [cz 2 (by decide)]
            simp only [x_up_app, x_ce_app, x_ce_same, Nat.reduceAdd, Nat.reduceEqDiff, ↓reduceIte, Nat.reduceSub, Nat.reduceMul, reduceCtorEq]
          refine t_ne0 rfl ?_
          refine r_to 26 60 rfl rfl ?_
          simp only [x_up_app, x_ce_app, x_ce_same, Nat.reduceAdd, Nat.reduceEqDiff, ↓reduceIte, Nat.reduceSub, Nat.reduceMul, reduceCtorEq, nI_add]
          refine fin (t + 1) _ V' n 1 pos _ (by omega) hrun.symm (by omega) (by omega) (by omega) hvk (CG_row hcg1 (fun a ha hb => by rw [x_up_row (by omega), x_up_row (by omega)])) ?_ ?_ (by decide) ?_ ?_ (fun a ha => ?_)
          · simp only [x_up_app, x_ce_app, x_ce_same, Nat.reduceAdd, Nat.reduceEqDiff, ↓reduceIte, Nat.reduceSub, Nat.reduceMul, reduceCtorEq]
            rw [cz 1 (by decide)]
            simp only [x_up_app, x_ce_app, x_ce_same, Nat.reduceAdd, Nat.reduceEqDiff, ↓reduceIte, Nat.reduceSub, Nat.reduceMul, reduceCtorEq, h1]
          · simp only [x_up_app, x_ce_app, x_ce_same, Nat.reduceAdd, Nat.reduceEqDiff, ↓reduceIte, Nat.reduceSub, Nat.reduceMul, reduceCtorEq]
          · simp only [x_up_app, x_ce_app, x_ce_same, Nat.reduceAdd, Nat.reduceEqDiff, ↓reduceIte, Nat.reduceSub, Nat.reduceMul, reduceCtorEq, hb2]
          · simp only [x_up_app, x_ce_app, x_ce_same, Nat.reduceAdd, Nat.reduceEqDiff, ↓reduceIte, Nat.reduceSub, Nat.reduceMul, reduceCtorEq, hb2, c5]
            rw [pk_sub (by omega)]
          · rw [x_up_row ha.1, x_up_row ha.1]
            exact hf1 a ha
  refine r_run 400 rfl rfl ?_
  refine r_inv rfl rfl rfl ?_
  refine c_copyGame_137_2 (d + 3) g _ (fun g1 a1 a2 => ?_)
  refine r_to 26 60 rfl rfl ?_
  have hcg := CG_same h hk a1
  simp only [Nat.reduceAdd]
  refine loop 0 (Nat.zero_le _) 0 0 V _ (Nat.le_refl _) (by omega) hR hk (CG_row hcg (fun a ha hb => by rw [x_up_row (by omega), x_up_row (by omega), x_up_row (by omega)])) ?_ ?_ ?_ (fun a ha => ?_)
  · simp only [x_up_app, x_ce_app, x_ce_same, Nat.reduceAdd, Nat.reduceEqDiff, ↓reduceIte, Nat.reduceSub, Nat.reduceMul, reduceCtorEq]
  · simp only [x_up_app, x_ce_app, x_ce_same, Nat.reduceAdd, Nat.reduceEqDiff, ↓reduceIte, Nat.reduceSub, Nat.reduceMul, reduceCtorEq]
  · simp only [x_up_app, x_ce_app, x_ce_same, Nat.reduceAdd, Nat.reduceEqDiff, ↓reduceIte, Nat.reduceSub, Nat.reduceMul, reduceCtorEq]
  · rw [x_up_row ha.1, x_up_row ha.1, x_up_row ha.1]
    exact a2 a ha.2.1
