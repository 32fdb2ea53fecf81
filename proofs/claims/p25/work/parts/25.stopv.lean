/-! ===== the class's stop, of states ===== -/
/-- the number whose bits are f's -/
def x_enc (f : Nat → Bool) : Nat → Nat
  | 0 => 0
  | n + 1 => x_enc f n ||| (if f n = true then 2 ^ n else 0)
theorem x_enc_ok (f : Nat → Bool) : ∀ n, x_enc f n < 2 ^ n ∧ ∀ i, (x_enc f n).testBit i = (decide (i < n) && f i)
  | 0 => ⟨Nat.one_pos, fun i => by simp [x_enc]⟩
  | n + 1 => by
    obtain ⟨h1, h2⟩ := x_enc_ok f n
    refine ⟨Nat.or_lt_two_pow (Nat.lt_of_lt_of_le h1 (Nat.pow_le_pow_right (by omega) (by omega))) ?_, fun i => ?_⟩
    · split
      · exact Nat.pow_lt_pow_right (by omega) (by omega)
      · exact Nat.two_pow_pos _
    · show (x_enc f n ||| _).testBit i = _
      rw [Nat.testBit_or, h2 i]
      by_cases e : i = n
      · subst e
        cases hf : f i <;> simp [hf, Nat.testBit_two_pow]
      · have e2 : decide (i < n + 1) = decide (i < n) := by
          congr 1
          exact propext (by omega)
        rw [e2]
        split
        · rw [Nat.testBit_two_pow]
          have : decide (n = i) = false := by simpa using fun z => e z.symm
          rw [this, Bool.or_false]
        · rw [Nat.zero_testBit, Bool.or_false]
theorem x_mk_enc {x : Int32} {n : Nat} {f : Nat → Bool} (h : x_mk x n f) : x = nI (x_enc f n) := by
  obtain ⟨m, rfl, h2, h3⟩ := h
  congr 1
  obtain ⟨e1, e2⟩ := x_enc_ok f n
  apply Nat.eq_of_testBit_eq
  intro i
  rw [e2 i]
  by_cases hi : i < n
  · rw [h3 i hi]
    simp [hi]
  · rw [Nat.testBit_lt_two_pow (Nat.lt_of_lt_of_le h2 (Nat.pow_le_pow_right (by omega) (by omega)))]
    simp [hi]
/-- the last tick -/
def vTT (V : xV) (b : Nat) : Nat := x_lf (fun t => x_all (vn V) (fun p => !XG (vX V b t) p)) 18 0
theorem vTT_eq {V : xV} {b T : Nat} (h : vT V b T) : vTT V b = T := by
  have hT : x_all (vn V) (fun p => !XG (vX V b T) p) = true := x_all_iff.mpr (fun i hi => by rw [h.2.1 i hi]; rfl)
  obtain ⟨-, a2, a3, a4⟩ := x_lf_ok (fun t => x_all (vn V) (fun p => !XG (vX V b t) p)) 18 0 ⟨T, Nat.zero_le _, by have := h.1; omega, hT⟩
  apply Nat.le_antisymm
  · apply Nat.le_of_not_lt
    intro z
    rw [a4 T (Nat.zero_le _) z] at hT
    cases hT
  · apply Nat.le_of_not_lt
    intro z
    obtain ⟨p, hp, hg⟩ := h.2.2 _ z
    have := x_all_iff.mp a3 p hp
    rw [show XG (vX V b (x_lf (fun t => x_all (vn V) (fun p => !XG (vX V b t) p)) 18 0)) p = true from hg] at this
    cases this
theorem vIv0 {V : xV} {b : Nat} (hc : 1 ≤ vc V) : xIv (vn V) (vc V) 0 (xBeg (vin V) (fun p => (vpl V p + vst V p * b) % vc V)) :=
  ⟨fun j => Nat.le_refl _, fun j q (h : (none : Option Nat) = some q) => (by cases h), fun p _ _ => Nat.mod_lt _ (by omega), fun p => Nat.le_refl _, fun p => Nat.le_refl _, fun p q (h : (none : Option Nat) = some q) => (by cases h)⟩
theorem vIv {V : xV} {b : Nat} (hc : 1 ≤ vc V) (t : Nat) : xIv (vn V) (vc V) t (vX V b t) := xIv_it hc (vIv0 hc) t
/-- such a tick there is -/
theorem vT_ex {V : xV} {b : Nat} (hc : 1 ≤ vc V) (h16 : vc V ≤ 16) : vT V b (vTT V b) := by
  have h17 : x_all (vn V) (fun p => !XG (vX V b 17) p) = true := x_all_iff.mpr (fun p hp => by
    cases hh : XG (vX V b 17) p with
    | false => rfl
    | true =>
      have := (xEnd hc (vIv0 hc) 17 p hp hh).2 (by omega)
      omega)
  obtain ⟨-, a2, a3, a4⟩ := x_lf_ok (fun t => x_all (vn V) (fun p => !XG (vX V b t) p)) 18 0 ⟨17, Nat.zero_le _, by omega, h17⟩
  refine ⟨by unfold vTT; omega, fun p hp => ?_, fun t ht => ?_⟩
  · have h1 : x_all (vn V) (fun p => !XG (vX V b (vTT V b)) p) = true := a3
    have := x_all_iff.mp h1 p hp
    simpa using this
  · have h1 : x_all (vn V) (fun p => !XG (vX V b t) p) = false := a4 t (Nat.zero_le _) ht
    apply Classical.byContradiction
    intro hno
    have h2 : x_all (vn V) (fun p => !XG (vX V b t) p) = true := x_all_iff.mpr (fun p hp => by
      cases hh : XG (vX V b t) p with
      | false => rfl
      | true => exact absurd ⟨p, hp, hh⟩ hno)
    rw [h1] at h2
    cases h2
def aStop (V : xV) : Int32 := nI (x_enc (XO (vX V 0 (vTT V 0))) (vn V))
theorem x_rj_congr {E E' : Nat → Nat → Int32} {W : Nat → Nat} {t : Nat} {b : xR} : ∀ c, (∀ j, j < c → E j = E' j) → x_rj E W t c b = x_rj E' W t c b
  | 0, _ => rfl
  | c + 1, h => by
    unfold x_rj
    rw [x_rj_congr c (fun j hj => h j (by omega)), h c (by omega)]
theorem x_rt_congr {E E' : Nat → Nat → Nat → Int32} {W : Nat → Nat} {c : Nat} {b : xR} (h : ∀ t j, j < c → E t j = E' t j) : ∀ {t : Nat}, x_rt E W c t b = x_rt E' W c t b
  | 0 => rfl
  | t + 1 => by
    unfold x_rt
    rw [x_rt_congr h, x_rj_congr c (fun j hj => h (t + 1) j hj)]
theorem CG_tk {g g' : xG} {B t : Nat} {W : xV} (h : CG g B W) (ht : t = 0 ∨ t < vc W) (hr : ∀ r i, r < 3 → i < vc W - t → g' (B + 2 + r) i = x_tq t (vc W) (fun r i => g (B + 2 + r) i) r i) (hc : g' (B + 1) 3 = nI (vc W - t)) (hB : ∀ j, j ≠ 8 → g' B j = g B j) (h8 : g' B 8 = g B 8 + nI t) (fr : ∀ a, a ≠ B → (a < B + 1 ∨ B + 4 < a) → g' a = g a) : CG g' B (vTk t W) := by
  obtain ⟨e1, e2, e3, e4, e5, e6, e7, e8, e9, e10⟩ := vTk_fix t W
  obtain ⟨⟨h1, h2, h3, h4, h5, h6, h7⟩, hcc, hj, ⟨hm, hn⟩, hp, nx, i1, i2, i3, i4, i5⟩ := h
  have hrow : ∀ r i, r < 3 → i < vc W - t → g' (B + 2 + r) i = vRow (vTk t W) r i := by
    intro r i h1 h2
    have e : x_tq t (vc W) (vRow W) r i = vRow (vTk t W) r i := by
      rcases ht with rfl | ht
      · rfl
      · exact vTk_row t W ht r i h1 h2
    rw [hr r i h1 h2, ← e]
    have hrw : ∀ r i, r < 3 → i < vc W → (fun r i => g (B + 2 + r) i) r i = vRow W r i := by
      intro r i h1 h2
      obtain ⟨z1, z2, z3⟩ := hj i h2
      have h3 : r = 0 ∨ r = 1 ∨ r = 2 := by omega
      rcases h3 with rfl | rfl | rfl
      · exact z1
      · exact z2
      · exact z3
    rcases ht with rfl | ht
    · exact hrw r i h1 (by omega)
    · exact x_tq_congr t (vc W) _ _ ht hrw r i h1 h2
  have est : vst (vTk t W) = vst W := congrArg (fun z => z.1.1) e10
  have eea : vea (vTk t W) = vea W := congrArg (fun z => z.1.2.1) e10
  have ein : vin (vTk t W) = vin W := congrArg (fun z => z.1.2.2.1) e10
  have epl : vpl (vTk t W) = vpl W := congrArg (fun z => z.1.2.2.2.1) e10
  have ess : vss (vTk t W) = vss W := congrArg (fun z => z.1.2.2.2.2.1) e10
  have ebu : vbu (vTk t W) = vbu W := congrArg (fun z => z.1.2.2.2.2.2.1) e10
  have ewa : vwa (vTk t W) = vwa W := congrArg (fun z => z.1.2.2.2.2.2.2.1) e10
  have eou : vou (vTk t W) = vou W := congrArg (fun z => z.1.2.2.2.2.2.2.2.1) e10
  have eti : vti (vTk t W) = vti W := congrArg (fun z => z.1.2.2.2.2.2.2.2.2) e10
  have eR : vR (vTk t W) = vR W := congrArg (fun z => z.2) e10
  have f : ∀ k, 5 ≤ k → g' (B + k) = g (B + k) := fun k hk => fr (B + k) (by omega) (by omega)
  unfold CG x_bl
  rw [e1, e2, e3, e4, e5, e6, e7, e8, e9, est, eea, ein, epl, ess, ebu, ewa, eou, eti, eR, hB 3 (by decide), hB 4 (by decide), hB 5 (by decide), hB 6 (by decide), hB 7 (by decide), hB 9 (by decide), h8, h6, hc, f 5 (by omega), f 6 (by omega), f 7 (by omega), f 8 (by omega), f 9 (by omega), f 10 (by omega), f 11 (by omega), f 12 (by omega), f 13 (by omega), f 14 (by omega)]
  refine ⟨⟨h1, h2, h3, h4, h5, rfl, h7⟩, rfl, fun j hj => ⟨hrow 0 j (by omega) hj, hrow 1 j (by omega) hj, hrow 2 j (by omega) hj⟩, ⟨hm, hn⟩, hp, nx, i1, i2, i3, i4, fun a w ha hw => ?_⟩
  rw [Nat.add_assoc, f (15 + w) (by omega), ← Nat.add_assoc]
  exact i5 a w ha hw
set_option maxHeartbeats 4000000 in
theorem c_vFollow_2 (d b : Nat) (V : xV) (g : xG) (Q : xQ) (h : CG g 2 V) (hk : vOk V) (h1 : vph V = 1) (hb : b ≤ 1000)
    (k : ∀ g' : xG, vT V b (vTT V b) → x_gr g' (vn V) (vc V) (vX V b (vTT V b)) → g' 124 11 = nI (vTT V b) → (∀ a, (a < 124 ∨ 133 < a) → g' a = g a) → Q none g') : Cx (d + 3) i_Grope_follow [.ref 124, .ref 3, .ref 7, .int (nI b)] g Q := by
  obtain ⟨⟨a1, a2, a3, a4, a5, a6⟩, -, hc1, ht8, -, hpl, -⟩ := hk
  obtain ⟨h1', h2, h3, ⟨h4, h4n⟩, h5, -⟩ := h
  have hT := vT_ex (b := b) (hc1 h1).1 a5
  refine c_follow_2 d (vn V) (vc V) b (vst V) (vpl V) (vea V) (vtn V) (vin V) g Q h4n a6 h2 (hc1 h1).1 a5 h4 hb (fun p hp => ⟨(h5 p hp).1, (hpl p hp).1⟩) (fun p hp => ⟨(h5 p hp).2.2.1, (hpl p hp).2.2.1⟩) (fun p hp => ⟨(h5 p hp).2.1, (hpl p hp).2.1⟩) (fun j hj => ⟨(h3 j hj).1, ht8 j hj⟩) (fun g' T t1 t2 t3 t4 t5 t6 => ?_)
  have e : vTT V b = T := vTT_eq ⟨t1, t2, t3⟩
  refine k g' hT ?_ ?_ t6
  · rw [e]
    exact t4
  · rw [e]
    exact t5
set_option maxHeartbeats 16000000 in
theorem c_vStop_2 (d : Nat) (V : xV) (g : xG) (Q : xQ) (h : CG g 2 V) (hk : vOk V) (k1 : eStop V < 0 → Q (some (.int (eStop V))) g) (k2 : eStop V = nI 0 → ∀ g' : xG, CG g' 2 (vStop V (vTT V 0)) → (∀ a, ((a < 2 ∨ 21 < a) ∧ (a < 124 ∨ 133 < a)) → g' a = g a) → Q (some (.int (aStop V))) g') : Cx (d + 4) i_Game_stopMusic [.ref 2, .ref 124] g Q := by
  have hk0 := hk
  have hg0 := h
  obtain ⟨⟨a1, a2, a3, a4, a5, a6⟩, -, hc1, ht8, -, hpl, -⟩ := hk
  obtain ⟨h1, h2, h3, ⟨h4, h4n⟩, h5, h6⟩ := h
  refine r_cl (L0 := [some (.ref 2), some (.ref 124)]) rfl (Or.inr ⟨_, _, _, rfl, rfl⟩) rfl rfl rfl ?_
  refine r_run 400 rfl rfl ?_
  simp only [x_up_app, x_ce_app, x_ce_same, Nat.reduceAdd, Nat.reduceEqDiff, ↓reduceIte, Nat.reduceSub, Nat.reduceMul, reduceCtorEq, h1.1]
  refine n_ieq rfl (by omega) (by omega) (fun hph => ?_) (fun hph => ?_)
  · obtain ⟨hc1, hc2⟩ := hc1 hph
    have k2 := k2 (if_pos hph)
    unfold aStop at k2
    refine r_run 400 rfl rfl ?_
    refine r_inv rfl rfl rfl ?_
    refine c_vFollow_2 d 0 V g _ hg0 hk0 hph (by omega) (fun g1 hT hgr h11 hfr => ?_)
    have hI := vIv (b := 0) hc1 (vTT V 0)
    generalize hTT : vTT V 0 = T at hT hgr h11 hI k2
    generalize hX : vX V 0 T = X at hgr hI k2
    obtain ⟨r1, r2, r3, r4, r5, r6, r7, r8, r9⟩ := hgr
    have hT17 := hT.1
    -- behind the sums
    have rest : ∀ g3 : xG, (∀ a, a ≠ 2 → g3 a = g1 a) → g3 2 4 = nI (vfw V) → g3 2 5 = vrd V + nI 1 → g3 2 6 = nI 0 → g3 2 7 = vtk V + nI T → g3 2 8 = vtg V → g3 2 9 = vlo V + (nI (x_cnt (vin V) (vn V)) - nI (vc V)) → Rx (d + 3) m_Game_stopMusic Q 76 [some (.ref 2), some (.ref 124)] [] g3 := by
      intro g3 c1 c2 c3 c4 c5 c6 c7
      have f3 : ∀ a, a ≠ 2 → (a < 124 ∨ 133 < a) → g3 a = g a := fun a h1 h2 => by rw [c1 a h1, hfr a h2]
      refine r_run 400 rfl rfl ?_
      refine r_inv rfl rfl rfl ?_
      refine c_settlePlayers_2 (d + 1) (vn V) g3 _ (vin V) (XS X) (by rw [f3 7 (by decide) (by decide)]; exact h4n) a6 (by rw [f3 7 (by decide) (by decide)]; exact h4) (fun p hp => by rw [c1 129 (by decide)]; exact r5 p hp) (fun p q hq => by have := hI.2.2.2.2.2 p q hq; omega) (fun g4 p1 p2 p3 p4 => ?_)
      refine r_run 400 rfl rfl ?_
      refine r_inv rfl rfl rfl ?_
      have f4 : ∀ a, a ≠ 7 → a ≠ 11 → a ≠ 12 → a ≠ 14 → a ≠ 15 → a ≠ 2 → (a < 124 ∨ 133 < a) → g4 a = g a := fun a z1 z2 z3 z4 z5 z6 z7 => by rw [p4 a z1 z2 z3 z4 z5, f3 a z6 z7]
      have fB : g4 2 = g3 2 := p4 2 (by decide) (by decide) (by decide) (by decide) (by decide)
      have hbl4 : x_bl g4 2 (vR V) := by
        obtain ⟨nx, i1, i2, i3, i4, i5⟩ := h6
        refine ⟨nx, ?_, i2, ?_, i4, fun a w ha hw => ?_⟩
        · show g4 16 5 = _
          rw [f4 16 (by decide) (by decide) (by decide) (by decide) (by decide) (by decide) (by decide)]
          exact i1
        · show g4 16 6 = _
          rw [f4 16 (by decide) (by decide) (by decide) (by decide) (by decide) (by decide) (by decide)]
          exact i3
        · show g4 (17 + w) _ = _
          rw [f4 (17 + w) (by omega) (by omega) (by omega) (by omega) (by omega) (by omega) (by omega)]
          exact i5 a w ha hw
      have f4c : ∀ a, 124 ≤ a → a ≤ 133 → g4 a = g1 a := fun a z1 z2 => by rw [p4 a (by omega) (by omega) (by omega) (by omega) (by omega), c1 a (by omega)]
      refine c_settleChairs_2 d (vc V) T g4 _ (XW X) (vR V) (by rw [f4 3 (by decide) (by decide) (by decide) (by decide) (by decide) (by decide) (by decide)]; exact h2) a5 (fun j hj => ⟨by rw [f4c 133 (by decide) (by decide)]; exact r9 j hj, by have := hI.1 j; omega⟩) (by rw [f4c 124 (by decide) (by decide)]; exact h11) hT17 hbl4 (fun g5 s1 s2 s3 => ?_)
      refine r_run 400 rfl rfl ?_
      refine r_inv rfl rfl rfl ?_
      have f5 : ∀ a, a ≠ 5 → a ≠ 6 → (a < 16 ∨ 21 < a) → g5 a = g4 a := s3
      have fB5 : g5 2 = g3 2 := by rw [f5 2 (by decide) (by decide) (by decide), fB]
      have fr5 : ∀ a, ((a < 2 ∨ 21 < a) ∧ (a < 124 ∨ 133 < a)) → g5 a = g a := fun a ha => by rw [f5 a (by omega) (by omega) (by omega), f4 a (by omega) (by omega) (by omega) (by omega) (by omega) (by omega) (by omega)]
      have hin5 : x_mk (g5 7 8) (vn V) (vIn V T) := by
        rw [f5 7 (by decide) (by decide) (by decide)]
        unfold vIn
        rw [hX]
        exact p1
      have hn5 : g5 7 9 = nI (vn V) := by rw [f5 7 (by decide) (by decide) (by decide), p2 9 (by decide), f3 7 (by decide) (by decide)]; exact h4n
      have hc5 : g5 3 3 = nI (vc V) := by rw [f5 3 (by decide) (by decide) (by decide), f4 3 (by decide) (by decide) (by decide) (by decide) (by decide) (by decide) (by decide)]; exact h2
      have core : ∀ (g6 : xG) (ph : Nat), g6 2 3 = nI ph → (∀ j, j ≠ 3 → g6 2 j = g5 2 j) → (∀ a, a ≠ 2 → g6 a = g5 a) → CG g6 2 (vEnd V T ph) := by
        intro g6 ph q1 q2 q3
        refine ⟨⟨q1, ?_, ?_, ?_, ?_, ?_, ?_⟩, ?_, fun j hj => ?_, ⟨?_, ?_⟩, fun p hp => ?_, ?_⟩
        · rw [q2 4 (by decide), fB5]; exact c2
        · rw [q2 5 (by decide), fB5]; exact c3
        · rw [q2 6 (by decide), fB5]; exact c4
        · rw [q2 7 (by decide), fB5]; exact c5
        · rw [q2 8 (by decide), fB5]; exact c6
        · rw [q2 9 (by decide), fB5]; exact c7
        · rw [q3 3 (by decide)]; exact hc5
        · have hj : j < vc V := hj
          obtain ⟨z1, z2, z3⟩ := h3 j hj
          obtain ⟨y1, y2⟩ := s1 j hj
          rw [q3 4 (by decide), q3 5 (by decide), q3 6 (by decide), y1, y2, f5 4 (by decide) (by decide) (by decide), f4 4 (by decide) (by decide) (by decide) (by decide) (by decide) (by decide) (by decide), f4 5 (by decide) (by decide) (by decide) (by decide) (by decide) (by decide) (by decide), f4 6 (by decide) (by decide) (by decide) (by decide) (by decide) (by decide) (by decide), f4c 132 (by decide) (by decide), r8 j hj]
          show _ = nI (vtn V j) ∧ _ = (if 1 ≤ XW (vX V 0 T) j ∧ XW (vX V 0 T) j ≤ T then vsa V j + nI 1 else vsa V j) ∧ _ = x_on (if 1 ≤ XW (vX V 0 T) j ∧ XW (vX V 0 T) j ≤ T then XI (vX V 0 T) j else vsi V j)
          rw [hX]
          refine ⟨z1, ?_, ?_⟩
          · rw [z2]
          · rw [z3]
            split <;> rfl
        · rw [q3 7 (by decide)]
          exact hin5
        · rw [q3 7 (by decide)]
          exact hn5
        · have hp : p < vn V := hp
          obtain ⟨z1, z2, z3, z4, z5, z6, z7, z8⟩ := h5 p hp
          obtain ⟨y1, y2, y3, y4⟩ := p3 p hp
          rw [q3 8 (by decide), q3 9 (by decide), q3 10 (by decide), q3 11 (by decide), q3 12 (by decide), q3 13 (by decide), q3 14 (by decide), q3 15 (by decide)]
          rw [f5 8 (by decide) (by decide) (by decide), f5 9 (by decide) (by decide) (by decide), f5 10 (by decide) (by decide) (by decide), f5 11 (by decide) (by decide) (by decide), f5 12 (by decide) (by decide) (by decide), f5 13 (by decide) (by decide) (by decide), f5 14 (by decide) (by decide) (by decide), f5 15 (by decide) (by decide) (by decide)]
          rw [y1, y2, y3, y4]
          rw [f4 8 (by decide) (by decide) (by decide) (by decide) (by decide) (by decide) (by decide)]
          rw [f4 9 (by decide) (by decide) (by decide) (by decide) (by decide) (by decide) (by decide)]
          rw [f4 10 (by decide) (by decide) (by decide) (by decide) (by decide) (by decide) (by decide)]
          rw [f4 13 (by decide) (by decide) (by decide) (by decide) (by decide) (by decide) (by decide)]
          rw [f3 11 (by decide) (by decide), f3 12 (by decide) (by decide), f3 14 (by decide) (by decide), f3 15 (by decide) (by decide), c1 130 (by decide), c1 131 (by decide), r6 p hp, r7 p hp, c3, z4, z5, z7, z8]
          refine ⟨z1, z2, z3, ?_, ?_, z6, ?_, ?_⟩
          · show _ = (if vIn V T p = true then vss V p + nI 1 else vss V p)
            unfold vIn
            rw [hX]
          · show _ = (if vin V p = true then vbu V p + nI (XB (vX V 0 T) p) else vbu V p)
            rw [hX]
          · show _ = (if (vin V p && (XS (vX V 0 T) p).isNone) = true then vrd V + nI 1 else vou V p)
            rw [hX]
          · show _ = nI (if vin V p = true then XT (vX V 0 T) p else vti V p)
            rw [hX]
            split <;> rfl
        · show x_bl g6 2 (x_rt (fun t j => x_e5 (vrd V + nI 1) (nI t) (nI j) (nI (vtn V j)) (x_on (XI (vX V 0 T) j))) (XW (vX V 0 T)) (vc V) T (vR V))
          rw [hX]
          have s2 := s2
          rw [x_rt_congr (E' := fun t j => x_e5 (vrd V + nI 1) (nI t) (nI j) (nI (vtn V j)) (x_on (XI X j))) (fun t j hj => by rw [fB, c3, f4 4 (by decide) (by decide) (by decide) (by decide) (by decide) (by decide) (by decide), (h3 j hj).1, f4c 132 (by decide) (by decide), r8 j hj])] at s2
          obtain ⟨nx, i1, i2, i3, i4, i5⟩ := s2
          refine ⟨nx, ?_, i2, ?_, i4, fun a w ha hw => ?_⟩
          · show g6 16 5 = _
            rw [q3 16 (by decide)]
            exact i1
          · show g6 16 6 = _
            rw [q3 16 (by decide)]
            exact i3
          · show g6 (17 + w) _ = _
            rw [q3 (17 + w) (by omega)]
            exact i5 a w ha hw
      have hout : g5 124 10 = nI (x_enc (XO X) (vn V)) := by
        rw [f5 124 (by decide) (by decide) (by decide), f4c 124 (by decide) (by decide)]
        exact x_mk_enc r2
      refine c_goOn_2 d (vn V) (vc V) (vfw V) g5 _ (vIn V T) hin5 a6 hc5 a5 (by rw [fB5]; exact c2) a2 a3 (fun hle => ?_) (fun hgt g6 t t1 t2 t3 t4 t5 t6 t7 => ?_)
      · refine r_run 400 rfl rfl ?_
        simp only [x_up_app, x_ce_app, x_ce_same, Nat.reduceAdd, Nat.reduceEqDiff, ↓reduceIte, Nat.reduceSub, Nat.reduceMul, reduceCtorEq, hout]
        refine r_iret rfl rfl (k2 _ ?_ (fun a ha => by rw [x_up_row (by omega)]; exact fr5 a ha))
        unfold vStop
        rw [if_pos hle]
        refine core _ 2 ?_ (fun j hj => ?_) (fun a ha => x_up_row ha)
        · simp only [x_up_app, x_ce_app, x_ce_same, Nat.reduceAdd, Nat.reduceEqDiff, ↓reduceIte, Nat.reduceSub, Nat.reduceMul, reduceCtorEq]
        · simp only [x_up_app, x_ce_app, x_ce_same, Nat.reduceAdd, Nat.reduceEqDiff, ↓reduceIte, Nat.reduceSub, Nat.reduceMul, reduceCtorEq, if_neg hj]
      · refine r_run 400 rfl rfl ?_
        simp only [x_up_app, x_ce_app, x_ce_same, Nat.reduceAdd, Nat.reduceEqDiff, ↓reduceIte, Nat.reduceSub, Nat.reduceMul, reduceCtorEq, t7 124 (by decide) (by decide), hout]
        refine r_iret rfl rfl (k2 g6 ?_ (fun a ha => by rw [t7 a (by omega) (by omega)]; exact fr5 a ha))
        unfold vStop
        rw [if_neg (by omega), ← t1]
        have hcg := core (x_up g5 2 3 (nI 0)) 0 (by simp only [x_up_app, Nat.reduceAdd, Nat.reduceEqDiff, ↓reduceIte]) (fun j hj => by simp only [x_up_app, Nat.reduceAdd, Nat.reduceEqDiff, ↓reduceIte, if_neg hj]) (fun a ha => x_up_row ha)
        refine CG_tk hcg ?_ (fun r i h1 h2 => ?_) t3 (fun j hj => ?_) ?_ (fun a h1 h2 => ?_)
        · show t = 0 ∨ t < vc V
          omega
        · have h2 : i < vc V - t := h2
          show g6 (4 + r) i = x_tq t (vc V) _ r i
          rw [t2 r i h1 h2]
          have e : (fun r i => g5 (4 + r) i) = (fun r i => x_up g5 2 3 (nI 0) (2 + 2 + r) i) := by
            funext r i
            rw [x_up_row (by omega)]
          rw [e]
        · by_cases e3 : j = 3
          · subst e3
            rw [t5]
            simp only [x_up_app, x_ce_app, x_ce_same, Nat.reduceAdd, Nat.reduceEqDiff, ↓reduceIte, Nat.reduceSub, Nat.reduceMul, reduceCtorEq]
          · rw [t4 j e3 hj]
            simp only [x_up_app, x_ce_app, x_ce_same, Nat.reduceAdd, Nat.reduceEqDiff, ↓reduceIte, Nat.reduceSub, Nat.reduceMul, reduceCtorEq, if_neg e3]
        · rw [t6]
          simp only [x_up_app, x_ce_app, x_ce_same, Nat.reduceAdd, Nat.reduceEqDiff, ↓reduceIte, Nat.reduceSub, Nat.reduceMul, reduceCtorEq]
        · rw [t7 a h1 h2, x_up_row h1]
    refine r_run 400 rfl rfl ?_
    refine r_inv rfl rfl rfl ?_
    refine c_count_2 (d + 1) (vn V) _ _ (vin V) (by rw [x_up_row (by decide), x_up_row (by decide), x_up_row (by decide), hfr 7 (by decide)]; exact h4) a6 ?_
    refine r_to 76 60 rfl rfl ?_
    have e5 : g1 2 = g 2 := hfr 2 (by decide)
    have e6 : g1 3 = g 3 := hfr 3 (by decide)
    obtain ⟨w1, w2, w3, w4, w5, w6, w7⟩ := h1
    refine rest _ (fun a ha => ?_) ?_ ?_ ?_ ?_ ?_ ?_
    · repeat rw [x_up_row (by omega)]
    · simp only [x_up_app, x_ce_app, x_ce_same, Nat.reduceAdd, Nat.reduceEqDiff, ↓reduceIte, Nat.reduceSub, Nat.reduceMul, reduceCtorEq, e5, w2]
    · simp only [x_up_app, x_ce_app, x_ce_same, Nat.reduceAdd, Nat.reduceEqDiff, ↓reduceIte, Nat.reduceSub, Nat.reduceMul, reduceCtorEq, e5, w3]
    · simp only [x_up_app, x_ce_app, x_ce_same, Nat.reduceAdd, Nat.reduceEqDiff, ↓reduceIte, Nat.reduceSub, Nat.reduceMul, reduceCtorEq]
    · simp only [x_up_app, x_ce_app, x_ce_same, Nat.reduceAdd, Nat.reduceEqDiff, ↓reduceIte, Nat.reduceSub, Nat.reduceMul, reduceCtorEq, e5, w5, h11]
    · simp only [x_up_app, x_ce_app, x_ce_same, Nat.reduceAdd, Nat.reduceEqDiff, ↓reduceIte, Nat.reduceSub, Nat.reduceMul, reduceCtorEq, e5, w6]
    · simp only [x_up_app, x_ce_app, x_ce_same, Nat.reduceAdd, Nat.reduceEqDiff, ↓reduceIte, Nat.reduceSub, Nat.reduceMul, reduceCtorEq, e5, e6, w7, h2]
  · have e : eStop V = -1000002 := if_neg hph
    rw [e] at k1
    refine r_run 400 rfl rfl ?_
    exact r_iret rfl rfl (k1 (by decide))
set_option maxHeartbeats 4000000 in
theorem c_vFollow_137 (d b : Nat) (V : xV) (g : xG) (Q : xQ) (h : CG g 137 V) (hk : vOk V) (h1 : vph V = 1) (hb : b ≤ 1000)
    (k : ∀ g' : xG, vT V b (vTT V b) → x_gr g' (vn V) (vc V) (vX V b (vTT V b)) → g' 124 11 = nI (vTT V b) → (∀ a, (a < 124 ∨ 133 < a) → g' a = g a) → Q none g') : Cx (d + 3) i_Grope_follow [.ref 124, .ref 138, .ref 142, .int (nI b)] g Q := by
  obtain ⟨⟨a1, a2, a3, a4, a5, a6⟩, -, hc1, ht8, -, hpl, -⟩ := hk
  obtain ⟨h1', h2, h3, ⟨h4, h4n⟩, h5, -⟩ := h
  have hT := vT_ex (b := b) (hc1 h1).1 a5
  refine c_follow_137 d (vn V) (vc V) b (vst V) (vpl V) (vea V) (vtn V) (vin V) g Q h4n a6 h2 (hc1 h1).1 a5 h4 hb (fun p hp => ⟨(h5 p hp).1, (hpl p hp).1⟩) (fun p hp => ⟨(h5 p hp).2.2.1, (hpl p hp).2.2.1⟩) (fun p hp => ⟨(h5 p hp).2.1, (hpl p hp).2.1⟩) (fun j hj => ⟨(h3 j hj).1, ht8 j hj⟩) (fun g' T t1 t2 t3 t4 t5 t6 => ?_)
  have e : vTT V b = T := vTT_eq ⟨t1, t2, t3⟩
  refine k g' hT ?_ ?_ t6
  · rw [e]
    exact t4
  · rw [e]
    exact t5
set_option maxHeartbeats 16000000 in
theorem c_vStop_137 (d : Nat) (V : xV) (g : xG) (Q : xQ) (h : CG g 137 V) (hk : vOk V) (k1 : eStop V < 0 → Q (some (.int (eStop V))) g) (k2 : eStop V = nI 0 → ∀ g' : xG, CG g' 137 (vStop V (vTT V 0)) → (∀ a, ((a < 137 ∨ 156 < a) ∧ (a < 124 ∨ 133 < a)) → g' a = g a) → Q (some (.int (aStop V))) g') : Cx (d + 4) i_Game_stopMusic [.ref 137, .ref 124] g Q := by
  have hk0 := hk
  have hg0 := h
  obtain ⟨⟨a1, a2, a3, a4, a5, a6⟩, -, hc1, ht8, -, hpl, -⟩ := hk
  obtain ⟨h1, h2, h3, ⟨h4, h4n⟩, h5, h6⟩ := h
  refine r_cl (L0 := [some (.ref 137), some (.ref 124)]) rfl (Or.inr ⟨_, _, _, rfl, rfl⟩) rfl rfl rfl ?_
  refine r_run 400 rfl rfl ?_
  simp only [x_up_app, x_ce_app, x_ce_same, Nat.reduceAdd, Nat.reduceEqDiff, ↓reduceIte, Nat.reduceSub, Nat.reduceMul, reduceCtorEq, h1.1]
  refine n_ieq rfl (by omega) (by omega) (fun hph => ?_) (fun hph => ?_)
  · obtain ⟨hc1, hc2⟩ := hc1 hph
    have k2 := k2 (if_pos hph)
    unfold aStop at k2
    refine r_run 400 rfl rfl ?_
    refine r_inv rfl rfl rfl ?_
    refine c_vFollow_137 d 0 V g _ hg0 hk0 hph (by omega) (fun g1 hT hgr h11 hfr => ?_)
    have hI := vIv (b := 0) hc1 (vTT V 0)
    generalize hTT : vTT V 0 = T at hT hgr h11 hI k2
    generalize hX : vX V 0 T = X at hgr hI k2
    obtain ⟨r1, r2, r3, r4, r5, r6, r7, r8, r9⟩ := hgr
    have hT17 := hT.1
    -- behind the sums
    have rest : ∀ g3 : xG, (∀ a, a ≠ 137 → g3 a = g1 a) → g3 137 4 = nI (vfw V) → g3 137 5 = vrd V + nI 1 → g3 137 6 = nI 0 → g3 137 7 = vtk V + nI T → g3 137 8 = vtg V → g3 137 9 = vlo V + (nI (x_cnt (vin V) (vn V)) - nI (vc V)) → Rx (d + 3) m_Game_stopMusic Q 76 [some (.ref 137), some (.ref 124)] [] g3 := by
      intro g3 c1 c2 c3 c4 c5 c6 c7
      have f3 : ∀ a, a ≠ 137 → (a < 124 ∨ 133 < a) → g3 a = g a := fun a h1 h2 => by rw [c1 a h1, hfr a h2]
      refine r_run 400 rfl rfl ?_
      refine r_inv rfl rfl rfl ?_
      refine c_settlePlayers_137 (d + 1) (vn V) g3 _ (vin V) (XS X) (by rw [f3 142 (by decide) (by decide)]; exact h4n) a6 (by rw [f3 142 (by decide) (by decide)]; exact h4) (fun p hp => by rw [c1 129 (by decide)]; exact r5 p hp) (fun p q hq => by have := hI.2.2.2.2.2 p q hq; omega) (fun g4 p1 p2 p3 p4 => ?_)
      refine r_run 400 rfl rfl ?_
      refine r_inv rfl rfl rfl ?_
      have f4 : ∀ a, a ≠ 142 → a ≠ 146 → a ≠ 147 → a ≠ 149 → a ≠ 150 → a ≠ 137 → (a < 124 ∨ 133 < a) → g4 a = g a := fun a z1 z2 z3 z4 z5 z6 z7 => by rw [p4 a z1 z2 z3 z4 z5, f3 a z6 z7]
      have fB : g4 137 = g3 137 := p4 137 (by decide) (by decide) (by decide) (by decide) (by decide)
      have hbl4 : x_bl g4 137 (vR V) := by
        obtain ⟨nx, i1, i2, i3, i4, i5⟩ := h6
        refine ⟨nx, ?_, i2, ?_, i4, fun a w ha hw => ?_⟩
        · show g4 151 5 = _
          rw [f4 151 (by decide) (by decide) (by decide) (by decide) (by decide) (by decide) (by decide)]
          exact i1
        · show g4 151 6 = _
          rw [f4 151 (by decide) (by decide) (by decide) (by decide) (by decide) (by decide) (by decide)]
          exact i3
        · show g4 (152 + w) _ = _
          rw [f4 (152 + w) (by omega) (by omega) (by omega) (by omega) (by omega) (by omega) (by omega)]
          exact i5 a w ha hw
      have f4c : ∀ a, 124 ≤ a → a ≤ 133 → g4 a = g1 a := fun a z1 z2 => by rw [p4 a (by omega) (by omega) (by omega) (by omega) (by omega), c1 a (by omega)]
      refine c_settleChairs_137 d (vc V) T g4 _ (XW X) (vR V) (by rw [f4 138 (by decide) (by decide) (by decide) (by decide) (by decide) (by decide) (by decide)]; exact h2) a5 (fun j hj => ⟨by rw [f4c 133 (by decide) (by decide)]; exact r9 j hj, by have := hI.1 j; omega⟩) (by rw [f4c 124 (by decide) (by decide)]; exact h11) hT17 hbl4 (fun g5 s1 s2 s3 => ?_)
      refine r_run 400 rfl rfl ?_
      refine r_inv rfl rfl rfl ?_
      have f5 : ∀ a, a ≠ 140 → a ≠ 141 → (a < 151 ∨ 156 < a) → g5 a = g4 a := s3
      have fB5 : g5 137 = g3 137 := by rw [f5 137 (by decide) (by decide) (by decide), fB]
      have fr5 : ∀ a, ((a < 137 ∨ 156 < a) ∧ (a < 124 ∨ 133 < a)) → g5 a = g a := fun a ha => by rw [f5 a (by omega) (by omega) (by omega), f4 a (by omega) (by omega) (by omega) (by omega) (by omega) (by omega) (by omega)]
      have hin5 : x_mk (g5 142 8) (vn V) (vIn V T) := by
        rw [f5 142 (by decide) (by decide) (by decide)]
        unfold vIn
        rw [hX]
        exact p1
      have hn5 : g5 142 9 = nI (vn V) := by rw [f5 142 (by decide) (by decide) (by decide), p2 9 (by decide), f3 142 (by decide) (by decide)]; exact h4n
      have hc5 : g5 138 3 = nI (vc V) := by rw [f5 138 (by decide) (by decide) (by decide), f4 138 (by decide) (by decide) (by decide) (by decide) (by decide) (by decide) (by decide)]; exact h2
      have core : ∀ (g6 : xG) (ph : Nat), g6 137 3 = nI ph → (∀ j, j ≠ 3 → g6 137 j = g5 137 j) → (∀ a, a ≠ 137 → g6 a = g5 a) → CG g6 137 (vEnd V T ph) := by
        intro g6 ph q1 q2 q3
        refine ⟨⟨q1, ?_, ?_, ?_, ?_, ?_, ?_⟩, ?_, fun j hj => ?_, ⟨?_, ?_⟩, fun p hp => ?_, ?_⟩
        · rw [q2 4 (by decide), fB5]; exact c2
        · rw [q2 5 (by decide), fB5]; exact c3
        · rw [q2 6 (by decide), fB5]; exact c4
        · rw [q2 7 (by decide), fB5]; exact c5
        · rw [q2 8 (by decide), fB5]; exact c6
        · rw [q2 9 (by decide), fB5]; exact c7
        · rw [q3 138 (by decide)]; exact hc5
        · have hj : j < vc V := hj
          obtain ⟨z1, z2, z3⟩ := h3 j hj
          obtain ⟨y1, y2⟩ := s1 j hj
          rw [q3 139 (by decide), q3 140 (by decide), q3 141 (by decide), y1, y2, f5 139 (by decide) (by decide) (by decide), f4 139 (by decide) (by decide) (by decide) (by decide) (by decide) (by decide) (by decide), f4 140 (by decide) (by decide) (by decide) (by decide) (by decide) (by decide) (by decide), f4 141 (by decide) (by decide) (by decide) (by decide) (by decide) (by decide) (by decide), f4c 132 (by decide) (by decide), r8 j hj]
          show _ = nI (vtn V j) ∧ _ = (if 1 ≤ XW (vX V 0 T) j ∧ XW (vX V 0 T) j ≤ T then vsa V j + nI 1 else vsa V j) ∧ _ = x_on (if 1 ≤ XW (vX V 0 T) j ∧ XW (vX V 0 T) j ≤ T then XI (vX V 0 T) j else vsi V j)
          rw [hX]
          refine ⟨z1, ?_, ?_⟩
          · rw [z2]
          · rw [z3]
            split <;> rfl
        · rw [q3 142 (by decide)]
          exact hin5
        · rw [q3 142 (by decide)]
          exact hn5
        · have hp : p < vn V := hp
          obtain ⟨z1, z2, z3, z4, z5, z6, z7, z8⟩ := h5 p hp
          obtain ⟨y1, y2, y3, y4⟩ := p3 p hp
          rw [q3 143 (by decide), q3 144 (by decide), q3 145 (by decide), q3 146 (by decide), q3 147 (by decide), q3 148 (by decide), q3 149 (by decide), q3 150 (by decide)]
          rw [f5 143 (by decide) (by decide) (by decide), f5 144 (by decide) (by decide) (by decide), f5 145 (by decide) (by decide) (by decide), f5 146 (by decide) (by decide) (by decide), f5 147 (by decide) (by decide) (by decide), f5 148 (by decide) (by decide) (by decide), f5 149 (by decide) (by decide) (by decide), f5 150 (by decide) (by decide) (by decide)]
          rw [y1, y2, y3, y4]
          rw [f4 143 (by decide) (by decide) (by decide) (by decide) (by decide) (by decide) (by decide)]
          rw [f4 144 (by decide) (by decide) (by decide) (by decide) (by decide) (by decide) (by decide)]
          rw [f4 145 (by decide) (by decide) (by decide) (by decide) (by decide) (by decide) (by decide)]
          rw [f4 148 (by decide) (by decide) (by decide) (by decide) (by decide) (by decide) (by decide)]
          rw [f3 146 (by decide) (by decide), f3 147 (by decide) (by decide), f3 149 (by decide) (by decide), f3 150 (by decide) (by decide), c1 130 (by decide), c1 131 (by decide), r6 p hp, r7 p hp, c3, z4, z5, z7, z8]
          refine ⟨z1, z2, z3, ?_, ?_, z6, ?_, ?_⟩
          · show _ = (if vIn V T p = true then vss V p + nI 1 else vss V p)
            unfold vIn
            rw [hX]
          · show _ = (if vin V p = true then vbu V p + nI (XB (vX V 0 T) p) else vbu V p)
            rw [hX]
          · show _ = (if (vin V p && (XS (vX V 0 T) p).isNone) = true then vrd V + nI 1 else vou V p)
            rw [hX]
          · show _ = nI (if vin V p = true then XT (vX V 0 T) p else vti V p)
            rw [hX]
            split <;> rfl
        · show x_bl g6 137 (x_rt (fun t j => x_e5 (vrd V + nI 1) (nI t) (nI j) (nI (vtn V j)) (x_on (XI (vX V 0 T) j))) (XW (vX V 0 T)) (vc V) T (vR V))
          rw [hX]
          have s2 := s2
          rw [x_rt_congr (E' := fun t j => x_e5 (vrd V + nI 1) (nI t) (nI j) (nI (vtn V j)) (x_on (XI X j))) (fun t j hj => by rw [fB, c3, f4 139 (by decide) (by decide) (by decide) (by decide) (by decide) (by decide) (by decide), (h3 j hj).1, f4c 132 (by decide) (by decide), r8 j hj])] at s2
          obtain ⟨nx, i1, i2, i3, i4, i5⟩ := s2
          refine ⟨nx, ?_, i2, ?_, i4, fun a w ha hw => ?_⟩
          · show g6 151 5 = _
            rw [q3 151 (by decide)]
            exact i1
          · show g6 151 6 = _
            rw [q3 151 (by decide)]
            exact i3
          · show g6 (152 + w) _ = _
            rw [q3 (152 + w) (by omega)]
            exact i5 a w ha hw
      have hout : g5 124 10 = nI (x_enc (XO X) (vn V)) := by
        rw [f5 124 (by decide) (by decide) (by decide), f4c 124 (by decide) (by decide)]
        exact x_mk_enc r2
      refine c_goOn_137 d (vn V) (vc V) (vfw V) g5 _ (vIn V T) hin5 a6 hc5 a5 (by rw [fB5]; exact c2) a2 a3 (fun hle => ?_) (fun hgt g6 t t1 t2 t3 t4 t5 t6 t7 => ?_)
      · refine r_run 400 rfl rfl ?_
        simp only [x_up_app, x_ce_app, x_ce_same, Nat.reduceAdd, Nat.reduceEqDiff, ↓reduceIte, Nat.reduceSub, Nat.reduceMul, reduceCtorEq, hout]
        refine r_iret rfl rfl (k2 _ ?_ (fun a ha => by rw [x_up_row (by omega)]; exact fr5 a ha))
        unfold vStop
        rw [if_pos hle]
        refine core _ 2 ?_ (fun j hj => ?_) (fun a ha => x_up_row ha)
        · simp only [x_up_app, x_ce_app, x_ce_same, Nat.reduceAdd, Nat.reduceEqDiff, ↓reduceIte, Nat.reduceSub, Nat.reduceMul, reduceCtorEq]
        · simp only [x_up_app, x_ce_app, x_ce_same, Nat.reduceAdd, Nat.reduceEqDiff, ↓reduceIte, Nat.reduceSub, Nat.reduceMul, reduceCtorEq, if_neg hj]
      · refine r_run 400 rfl rfl ?_
        simp only [x_up_app, x_ce_app, x_ce_same, Nat.reduceAdd, Nat.reduceEqDiff, ↓reduceIte, Nat.reduceSub, Nat.reduceMul, reduceCtorEq, t7 124 (by decide) (by decide), hout]
        refine r_iret rfl rfl (k2 g6 ?_ (fun a ha => by rw [t7 a (by omega) (by omega)]; exact fr5 a ha))
        unfold vStop
        rw [if_neg (by omega), ← t1]
        have hcg := core (x_up g5 137 3 (nI 0)) 0 (by simp only [x_up_app, Nat.reduceAdd, Nat.reduceEqDiff, ↓reduceIte]) (fun j hj => by simp only [x_up_app, Nat.reduceAdd, Nat.reduceEqDiff, ↓reduceIte, if_neg hj]) (fun a ha => x_up_row ha)
        refine CG_tk hcg ?_ (fun r i h1 h2 => ?_) t3 (fun j hj => ?_) ?_ (fun a h1 h2 => ?_)
        · show t = 0 ∨ t < vc V
          omega
        · have h2 : i < vc V - t := h2
          show g6 (139 + r) i = x_tq t (vc V) _ r i
          rw [t2 r i h1 h2]
          have e : (fun r i => g5 (139 + r) i) = (fun r i => x_up g5 137 3 (nI 0) (137 + 2 + r) i) := by
            funext r i
            rw [x_up_row (by omega)]
          rw [e]
        · by_cases e3 : j = 3
          · subst e3
            rw [t5]
            simp only [x_up_app, x_ce_app, x_ce_same, Nat.reduceAdd, Nat.reduceEqDiff, ↓reduceIte, Nat.reduceSub, Nat.reduceMul, reduceCtorEq]
          · rw [t4 j e3 hj]
            simp only [x_up_app, x_ce_app, x_ce_same, Nat.reduceAdd, Nat.reduceEqDiff, ↓reduceIte, Nat.reduceSub, Nat.reduceMul, reduceCtorEq, if_neg e3]
        · rw [t6]
          simp only [x_up_app, x_ce_app, x_ce_same, Nat.reduceAdd, Nat.reduceEqDiff, ↓reduceIte, Nat.reduceSub, Nat.reduceMul, reduceCtorEq]
        · rw [t7 a h1 h2, x_up_row h1]
    refine r_run 400 rfl rfl ?_
    refine r_inv rfl rfl rfl ?_
    refine c_count_137 (d + 1) (vn V) _ _ (vin V) (by rw [x_up_row (by decide), x_up_row (by decide), x_up_row (by decide), hfr 142 (by decide)]; exact h4) a6 ?_
    refine r_to 76 60 rfl rfl ?_
    have e5 : g1 137 = g 137 := hfr 137 (by decide)
    have e6 : g1 138 = g 138 := hfr 138 (by decide)
    obtain ⟨w1, w2, w3, w4, w5, w6, w7⟩ := h1
    refine rest _ (fun a ha => ?_) ?_ ?_ ?_ ?_ ?_ ?_
    · repeat rw [x_up_row (by omega)]
    · simp only [x_up_app, x_ce_app, x_ce_same, Nat.reduceAdd, Nat.reduceEqDiff, ↓reduceIte, Nat.reduceSub, Nat.reduceMul, reduceCtorEq, e5, w2]
    · simp only [x_up_app, x_ce_app, x_ce_same, Nat.reduceAdd, Nat.reduceEqDiff, ↓reduceIte, Nat.reduceSub, Nat.reduceMul, reduceCtorEq, e5, w3]
    · simp only [x_up_app, x_ce_app, x_ce_same, Nat.reduceAdd, Nat.reduceEqDiff, ↓reduceIte, Nat.reduceSub, Nat.reduceMul, reduceCtorEq]
    · simp only [x_up_app, x_ce_app, x_ce_same, Nat.reduceAdd, Nat.reduceEqDiff, ↓reduceIte, Nat.reduceSub, Nat.reduceMul, reduceCtorEq, e5, w5, h11]
    · simp only [x_up_app, x_ce_app, x_ce_same, Nat.reduceAdd, Nat.reduceEqDiff, ↓reduceIte, Nat.reduceSub, Nat.reduceMul, reduceCtorEq, e5, w6]
    · simp only [x_up_app, x_ce_app, x_ce_same, Nat.reduceAdd, Nat.reduceEqDiff, ↓reduceIte, Nat.reduceSub, Nat.reduceMul, reduceCtorEq, e5, e6, w7, h2]
  · have e : eStop V = -1000002 := if_neg hph
    rw [e] at k1
    refine r_run 400 rfl rfl ?_
    exact r_iret rfl rfl (k1 (by decide))
