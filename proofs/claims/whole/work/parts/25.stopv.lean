/-! ===== the class's stop, of states ===== -/
/-- the number whose bits are f's -/
def x_enc (f : Nat → Bool) : Nat → Nat
  | 0 => 0
  | n + 1 => x_enc f n ||| (if f n = true then 2 ^ n else 0)
theorem x_enc_ok (f : Nat → Bool) : ∀ n, x_enc f n < 2 ^ n ∧ ∀ i, (x_enc f n).testBit i = (decide (i < n) && f i)
  | 0 => ⟨by decide, fun i => by simp [x_enc]⟩
  | n + 1 => by
    obtain ⟨h1, h2⟩ := x_enc_ok f n
    refine ⟨Nat.or_lt_two_pow (Nat.lt_of_lt_of_le h1 (Nat.pow_le_pow_right (by omega) (by omega))) ?_, fun i => ?_⟩
    · split
      · exact Nat.pow_lt_pow_right (by omega) (by omega)
      · exact Nat.two_pow_pos _
    · show (x_enc f n ||| _).testBit i = _
      rw [Nat.testBit_or, h2 i]
      by_cases e : i = n
      · subst e
        cases hf : f i <;> simp [hf, Nat.testBit_two_pow]
      · have e2 : decide (i < n + 1) = decide (i < n) := by
          congr 1
          exact propext (by omega)
        rw [e2]
        split
        · rw [Nat.testBit_two_pow]
          have : decide (n = i) = false := by simpa using fun z => e z.symm
          rw [this, Bool.or_false]
        · rw [Nat.zero_testBit, Bool.or_false]
theorem x_mk_enc {x : Int32} {n : Nat} {f : Nat → Bool} (h : x_mk x n f) : x = nI (x_enc f n) := by
  obtain ⟨m, rfl, h2, h3⟩ := h
  congr 1
  obtain ⟨e1, e2⟩ := x_enc_ok f n
  apply Nat.eq_of_testBit_eq
  intro i
  rw [e2 i]
  by_cases hi : i < n
  · rw [h3 i hi]
    simp [hi]
  · rw [Nat.testBit_lt_two_pow (Nat.lt_of_lt_of_le h2 (Nat.pow_le_pow_right (by omega) (by omega)))]
    simp [hi]
/-- the last tick -/
def vTT (V : xV) (b : Nat) : Nat := x_lf (fun t => x_all (vn V) (fun p => !XG (vX V b t) p)) 18 0
theorem vTT_eq {V : xV} {b T : Nat} (h : vT V b T) : vTT V b = T := by
  have hT : x_all (vn V) (fun p => !XG (vX V b T) p) = true := x_all_iff.mpr (fun i hi => by rw [h.2.1 i hi]; rfl)
  obtain ⟨-, a2, a3, a4⟩ := x_lf_ok (fun t => x_all (vn V) (fun p => !XG (vX V b t) p)) 18 0 ⟨T, Nat.zero_le _, by have := h.1; omega, hT⟩
  apply Nat.le_antisymm
  · apply Nat.le_of_not_lt
    intro z
    rw [a4 T (Nat.zero_le _) z] at hT
    cases hT
  · apply Nat.le_of_not_lt
    intro z
    obtain ⟨p, hp, hg⟩ := h.2.2 _ z
    have := x_all_iff.mp a3 p hp
    rw [show XG (vX V b (x_lf (fun t => x_all (vn V) (fun p => !XG (vX V b t) p)) 18 0)) p = true from hg] at this
    cases this
theorem vIv0 {V : xV} {b : Nat} (hc : 1 ≤ vc V) : xIv (vn V) (vc V) 0 (xBeg (vin V) (fun p => (vpl V p + vst V p * b) % vc V)) :=
  ⟨fun j => Nat.le_refl _, fun j q (h : (none : Option Nat) = some q) => (by cases h), fun p _ _ => Nat.mod_lt _ (by omega), fun p => Nat.le_refl _, fun p => Nat.le_refl _, fun p q (h : (none : Option Nat) = some q) => (by cases h)⟩
theorem vIv {V : xV} {b : Nat} (hc : 1 ≤ vc V) (t : Nat) : xIv (vn V) (vc V) t (vX V b t) := xIv_it hc (vIv0 hc) t
/-- such a tick there is -/
theorem vT_ex {V : xV} {b : Nat} (hc : 1 ≤ vc V) (h16 : vc V ≤ 16) : vT V b (vTT V b) := by
  have h17 : x_all (vn V) (fun p => !XG (vX V b 17) p) = true := x_all_iff.mpr (fun p hp => by
    cases hh : XG (vX V b 17) p with
    | false => rfl
    | true =>
      have := (xEnd hc (vIv0 hc) 17 p hp hh).2 (by omega)
      omega)
  obtain ⟨-, a2, a3, a4⟩ := x_lf_ok (fun t => x_all (vn V) (fun p => !XG (vX V b t) p)) 18 0 ⟨17, Nat.zero_le _, by omega, h17⟩
  refine ⟨by unfold vTT; omega, fun p hp => ?_, fun t ht => ?_⟩
  · have h1 : x_all (vn V) (fun p => !XG (vX V b (vTT V b)) p) = true := a3
    have := x_all_iff.mp h1 p hp
    simpa using this
  · have h1 : x_all (vn V) (fun p => !XG (vX V b t) p) = false := a4 t (Nat.zero_le _) ht
    apply Classical.byContradiction
    intro hno
    have h2 : x_all (vn V) (fun p => !XG (vX V b t) p) = true := x_all_iff.mpr (fun p hp => by
      cases hh : XG (vX V b t) p with
      | false => rfl
      | true => exact absurd ⟨p, hp, hh⟩ hno)
    rw [h1] at h2
    cases h2
def aStop (V : xV) : Int32 := nI (x_enc (XO (vX V 0 (vTT V 0))) (vn V))
/-- how it would be -/
set_option maxHeartbeats 4000000 in
theorem c_vFollow_2 (d b : Nat) (V : xV) (g : xG) (Q : xQ) (h : CG g 2 V) (hk : vOk V) (h1 : vph V = 1) (hb : b ≤ 1000)
    (k : ∀ g' : xG, vT V b (vTT V b) → x_gr g' (vn V) (vc V) (vX V b (vTT V b)) → g' 124 11 = nI (vTT V b) → (∀ a, (a < 124 ∨ 133 < a) → g' a = g a) → Q none g') : Cx (d + 3) i_Grope_follow [.ref 124, .ref 3, .ref 7, .int (nI b)] g Q := by
  obtain ⟨⟨a1, a2, a3, a4, a5, a6⟩, -, hc1, ht8, -, hpl, -⟩ := hk
  obtain ⟨h1', h2, h3, ⟨h4, h4n⟩, h5, -⟩ := h
  have hT := vT_ex (b := b) (hc1 h1).1 a5
  refine c_follow_2 d (vn V) (vc V) b (vst V) (vpl V) (vea V) (vtn V) (vin V) g Q h4n a6 h2 (hc1 h1).1 a5 h4 hb (fun p hp => ⟨(h5 p hp).1, (hpl p hp).1⟩) (fun p hp => ⟨(h5 p hp).2.2.1, (hpl p hp).2.2.1⟩) (fun p hp => ⟨(h5 p hp).2.1, (hpl p hp).2.1⟩) (fun j hj => ⟨(h3 j hj).1, ht8 j hj⟩) (fun g' T t1 t2 t3 t4 t5 t6 => ?_)
  have e : vTT V b = T := vTT_eq ⟨t1, t2, t3⟩
  refine k g' hT ?_ ?_ t6
  · rw [e]
    exact t4
  · rw [e]
    exact t5
set_option maxHeartbeats 16000000 in
theorem c_vStop_2 (d : Nat) (V : xV) (g : xG) (Q : xQ) (h : CG g 2 V) (hk : vOk V) (k1 : eStop V < 0 → Q (some (.int (eStop V))) g) (k2 : eStop V = nI 0 → ∀ g' : xG, CG g' 2 (vStop V (vTT V 0)) → (∀ a, (a < 2 ∨ (21 < a ∧ (a < 124 ∨ 133 < a))) → g' a = g a) → Q (some (.int (aStop V))) g') : Cx (d + 4) i_Game_stopMusic [.ref 2, .ref 124] g Q := by
  have hk0 := hk
  have hg0 := h
  obtain ⟨⟨a1, a2, a3, a4, a5, a6⟩, -, hc1, ht8, -, hpl, -⟩ := hk
  obtain ⟨h1, h2, h3, ⟨h4, h4n⟩, h5, h6⟩ := h
  refine r_cl (L0 := [some (.ref 2), some (.ref 124)]) rfl (Or.inr ⟨_, _, _, rfl, rfl⟩) rfl rfl rfl ?_
  refine r_run 400 rfl rfl ?_
  simp only [x_up_app, x_ce_app, x_ce_same, Nat.reduceAdd, Nat.reduceEqDiff, ↓reduceIte, Nat.reduceSub, Nat.reduceMul, reduceCtorEq, h1.1]
  refine n_ieq rfl (by omega) (by omega) (fun hph => ?_) (fun hph => ?_)
  · obtain ⟨hc1, hc2⟩ := hc1 hph
    have k2 := k2 (if_pos hph)
    unfold aStop at k2
    refine r_run 400 rfl rfl ?_
    refine r_inv rfl rfl rfl ?_
    refine c_vFollow_2 d 0 V g _ hg0 hk0 hph (by omega) (fun g1 hT hgr h11 hfr => ?_)
    have hI := vIv (b := 0) hc1 (vTT V 0)
    generalize hTT : vTT V 0 = T at hT hgr h11 hI k2
    generalize hX : vX V 0 T = X at hgr hI k2
    obtain ⟨r1, r2, r3, r4, r5, r6, r7, r8, r9⟩ := hgr
    have hT17 := hT.1
    refine r_run 400 rfl rfl ?_
    refine r_inv rfl rfl rfl ?_
    refine c_count_2 (d + 1) (vn V) _ _ (vin V) (by repeat rw [x_up_row (by decide)]; rw [hfr 7 (by decide)]; exact h4) a6 ?_
    sorry
  · have e : eStop V = -1000002 := if_neg hph
    rw [e] at k1
    refine r_run 400 rfl rfl ?_
    exact r_iret rfl rfl (k1 (by decide))
/-- how it would be -/
set_option maxHeartbeats 4000000 in
theorem c_vFollow_137 (d b : Nat) (V : xV) (g : xG) (Q : xQ) (h : CG g 137 V) (hk : vOk V) (h1 : vph V = 1) (hb : b ≤ 1000)
    (k : ∀ g' : xG, vT V b (vTT V b) → x_gr g' (vn V) (vc V) (vX V b (vTT V b)) → g' 124 11 = nI (vTT V b) → (∀ a, (a < 124 ∨ 133 < a) → g' a = g a) → Q none g') : Cx (d + 3) i_Grope_follow [.ref 124, .ref 138, .ref 142, .int (nI b)] g Q := by
  obtain ⟨⟨a1, a2, a3, a4, a5, a6⟩, -, hc1, ht8, -, hpl, -⟩ := hk
  obtain ⟨h1', h2, h3, ⟨h4, h4n⟩, h5, -⟩ := h
  have hT := vT_ex (b := b) (hc1 h1).1 a5
  refine c_follow_137 d (vn V) (vc V) b (vst V) (vpl V) (vea V) (vtn V) (vin V) g Q h4n a6 h2 (hc1 h1).1 a5 h4 hb (fun p hp => ⟨(h5 p hp).1, (hpl p hp).1⟩) (fun p hp => ⟨(h5 p hp).2.2.1, (hpl p hp).2.2.1⟩) (fun p hp => ⟨(h5 p hp).2.1, (hpl p hp).2.1⟩) (fun j hj => ⟨(h3 j hj).1, ht8 j hj⟩) (fun g' T t1 t2 t3 t4 t5 t6 => ?_)
  have e : vTT V b = T := vTT_eq ⟨t1, t2, t3⟩
  refine k g' hT ?_ ?_ t6
  · rw [e]
    exact t4
  · rw [e]
    exact t5
set_option maxHeartbeats 16000000 in
theorem c_vStop_137 (d : Nat) (V : xV) (g : xG) (Q : xQ) (h : CG g 137 V) (hk : vOk V) (k1 : eStop V < 0 → Q (some (.int (eStop V))) g) (k2 : eStop V = nI 0 → ∀ g' : xG, CG g' 137 (vStop V (vTT V 0)) → (∀ a, (a < 137 ∨ (156 < a ∧ (a < 124 ∨ 133 < a))) → g' a = g a) → Q (some (.int (aStop V))) g') : Cx (d + 4) i_Game_stopMusic [.ref 137, .ref 124] g Q := by
  have hk0 := hk
  have hg0 := h
  obtain ⟨⟨a1, a2, a3, a4, a5, a6⟩, -, hc1, ht8, -, hpl, -⟩ := hk
  obtain ⟨h1, h2, h3, ⟨h4, h4n⟩, h5, h6⟩ := h
  refine r_cl (L0 := [some (.ref 137), some (.ref 124)]) rfl (Or.inr ⟨_, _, _, rfl, rfl⟩) rfl rfl rfl ?_
  refine r_run 400 rfl rfl ?_
  simp only [x_up_app, x_ce_app, x_ce_same, Nat.reduceAdd, Nat.reduceEqDiff, ↓reduceIte, Nat.reduceSub, Nat.reduceMul, reduceCtorEq, h1.1]
  refine n_ieq rfl (by omega) (by omega) (fun hph => ?_) (fun hph => ?_)
  · obtain ⟨hc1, hc2⟩ := hc1 hph
    have k2 := k2 (if_pos hph)
    unfold aStop at k2
    refine r_run 400 rfl rfl ?_
    refine r_inv rfl rfl rfl ?_
    refine c_vFollow_137 d 0 V g _ hg0 hk0 hph (by omega) (fun g1 hT hgr h11 hfr => ?_)
    have hI := vIv (b := 0) hc1 (vTT V 0)
    generalize hTT : vTT V 0 = T at hT hgr h11 hI k2
    generalize hX : vX V 0 T = X at hgr hI k2
    obtain ⟨r1, r2, r3, r4, r5, r6, r7, r8, r9⟩ := hgr
    have hT17 := hT.1
    refine r_run 400 rfl rfl ?_
    refine r_inv rfl rfl rfl ?_
    refine c_count_137 (d + 1) (vn V) _ _ (vin V) (by repeat rw [x_up_row (by decide)]; rw [hfr 142 (by decide)]; exact h4) a6 ?_
    sorry
  · have e : eStop V = -1000002 := if_neg hph
    rw [e] at k1
    refine r_run 400 rfl rfl ?_
    exact r_iret rfl rfl (k1 (by decide))
