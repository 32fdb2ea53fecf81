/-! ===== the class's changes, of states ===== -/
def iN (t : Int32) : Nat := t.toUInt32.toNat
theorem nI_iN (t : Int32) : nI (iN t) = t := by
  apply Int32.toBitVec_inj.mp
  show BitVec.ofNat 32 t.toBitVec.toNat = t.toBitVec
  simp
theorem iN_nI {k : Nat} (h : k < 2 ^ 32) : iN (nI k) = k := by
  show (BitVec.ofNat 32 k).toNat = k
  rw [BitVec.toNat_ofNat, Nat.mod_eq_of_lt h]
theorem iN_in {t : Int32} {a b : Nat} (ha : a < 2 ^ 31) (hb : b < 2 ^ 31) (h : nI a ≤ t ∧ t ≤ nI b) : a ≤ iN t ∧ iN t ≤ b := by
  obtain ⟨j, rfl, h1, h2⟩ := x_in_nat hb ha h.1 h.2
  rw [iN_nI (by omega)]
  exact ⟨h1, h2⟩
theorem iN_lt {t : Int32} {n : Nat} (hn : n < 2 ^ 31) : iN t < n ↔ ∃ j, j < n ∧ t = nI j :=
  ⟨fun h => ⟨iN t, h, (nI_iN t).symm⟩, fun ⟨j, h1, h2⟩ => by rw [h2, iN_nI (by omega)]; exact h1⟩
def eChair (V : xV) (t : Int32) : Int32 := if nI 0 ≤ t ∧ t ≤ nI 8 then (if vph V = 0 then (if vc V = 16 then -1000003 else nI 0) else -1000002) else -1000001
def ePlayer (V : xV) (s e : Int32) : Int32 := if (nI 0 ≤ s ∧ s ≤ nI 9) ∧ nI 0 ≤ e ∧ e ≤ nI 511 then (if vph V = 0 then (if vn V = 12 then -1000003 else nI 0) else -1000002) else -1000001
def eTune (V : xV) (j t : Int32) : Int32 := if iN j < vc V ∧ nI 0 ≤ t ∧ t ≤ nI 8 then nI 0 else -1000001
def eTrain (V : xV) (q s e : Int32) : Int32 := if iN q < vn V ∧ (nI 0 ≤ s ∧ s ≤ nI 9) ∧ nI 0 ≤ e ∧ e ≤ nI 511 then nI 0 else -1000001
def eStart (V : xV) : Int32 := if vph V = 0 ∧ 1 ≤ vc V ∧ vc V < x_cnt (vin V) (vn V) then nI 0 else -1000002
def eBeat (V : xV) (b : Int32) : Int32 := if nI 1 ≤ b ∧ b ≤ nI 99 then (if vph V = 1 then (if vbt V + iN b ≤ 999 then nI 0 else -1000003) else -1000002) else -1000001
def eStop (V : xV) : Int32 := if vph V = 1 then nI 0 else -1000002
def eSet (w v : Int32) : Int32 := if w = 0 ∧ nI 1 ≤ v ∧ v ≤ nI 3 then nI 0 else -1000001
theorem eChair_0 {V : xV} {t : Int32} (h : eChair V t = nI 0) : (nI 0 ≤ t ∧ t ≤ nI 8) ∧ vph V = 0 ∧ ¬ vc V = 16 := by
  unfold eChair at h
  split at h
  · split at h
    · split at h
      · exact absurd h (by decide)
      · exact ⟨‹_›, ‹_›, ‹_›⟩
    · exact absurd h (by decide)
  · exact absurd h (by decide)
theorem ePlayer_0 {V : xV} {s e : Int32} (h : ePlayer V s e = nI 0) : ((nI 0 ≤ s ∧ s ≤ nI 9) ∧ nI 0 ≤ e ∧ e ≤ nI 511) ∧ vph V = 0 ∧ ¬ vn V = 12 := by
  unfold ePlayer at h
  split at h
  · split at h
    · split at h
      · exact absurd h (by decide)
      · exact ⟨‹_›, ‹_›, ‹_›⟩
    · exact absurd h (by decide)
  · exact absurd h (by decide)
theorem eTune_0 {V : xV} {j t : Int32} (h : eTune V j t = nI 0) : iN j < vc V ∧ nI 0 ≤ t ∧ t ≤ nI 8 := by
  unfold eTune at h
  split at h
  · assumption
  · exact absurd h (by decide)
theorem eTrain_0 {V : xV} {q s e : Int32} (h : eTrain V q s e = nI 0) : iN q < vn V ∧ (nI 0 ≤ s ∧ s ≤ nI 9) ∧ nI 0 ≤ e ∧ e ≤ nI 511 := by
  unfold eTrain at h
  split at h
  · assumption
  · exact absurd h (by decide)
theorem eStart_0 {V : xV} (h : eStart V = nI 0) : vph V = 0 ∧ 1 ≤ vc V ∧ vc V < x_cnt (vin V) (vn V) := by
  unfold eStart at h
  split at h
  · assumption
  · exact absurd h (by decide)
theorem eBeat_0 {V : xV} {b : Int32} (h : eBeat V b = nI 0) : (nI 1 ≤ b ∧ b ≤ nI 99) ∧ vph V = 1 ∧ vbt V + iN b ≤ 999 := by
  unfold eBeat at h
  split at h
  · split at h
    · split at h
      · exact ⟨‹_›, ‹_›, ‹_›⟩
      · exact absurd h (by decide)
    · exact absurd h (by decide)
  · exact absurd h (by decide)
theorem eStop_0 {V : xV} (h : eStop V = nI 0) : vph V = 1 := by
  unfold eStop at h
  split at h
  · assumption
  · exact absurd h (by decide)
theorem eSet_0 {w v : Int32} (h : eSet w v = nI 0) : w = 0 ∧ nI 1 ≤ v ∧ v ≤ nI 3 := by
  unfold eSet at h
  split at h
  · assumption
  · exact absurd h (by decide)
/-! every change leads to such a state -/
theorem vOk_0 : vOk v0 := ⟨⟨by decide, by decide, by decide, by decide, by decide, by decide⟩, fun _ => rfl, fun h => absurd h (by decide), fun j hj => absurd hj (Nat.not_lt_zero _), fun j q (h : (none : Option Nat) = some q) => (by cases h), fun p hp => absurd hp (Nat.not_lt_zero _), fun h => absurd h (by decide)⟩
theorem vOk_chair {V : xV} {t : Int32} (h : vOk V) (e : eChair V t = nI 0) : vOk (vChair V (iN t)) := by
  obtain ⟨⟨a1, a2, a3, a4, a5, a6⟩, b, c, t8, si, pl, pp⟩ := h
  obtain ⟨e1, e2, e3⟩ := eChair_0 e
  have e1 := iN_in (by omega) (by omega) e1
  refine ⟨⟨a1, a2, a3, a4, (by show vc V + 1 ≤ 16; omega), a6⟩, b, fun z => ?_, fun j hj => ?_, fun j q hq => ?_, pl, fun z => ?_⟩
  · have z : vph V = 1 := z
    omega
  · have hj : j < vc V + 1 := hj
    show (if j = vc V then iN t else vtn V j) ≤ 8
    split
    · exact e1.2
    · exact t8 j (by omega)
  · have hq : (if j = vc V then none else vsi V j) = some q := hq
    split at hq
    · cases hq
    · exact si j q hq
  · have z : vph V = 1 := z
    omega
theorem vOk_player {V : xV} {s e : Int32} (h : vOk V) (e0 : ePlayer V s e = nI 0) : vOk (vPlayer V (iN s) (iN e)) := by
  obtain ⟨⟨a1, a2, a3, a4, a5, a6⟩, b, c, t8, si, pl, pp⟩ := h
  obtain ⟨⟨e1, e2⟩, e3, e4⟩ := ePlayer_0 e0
  have e1 := iN_in (by omega) (by omega) e1
  have e2 := iN_in (by omega) (by omega) e2
  refine ⟨⟨a1, a2, a3, a4, a5, (by show vn V + 1 ≤ 12; omega)⟩, b, fun z => ?_, t8, si, fun p hp => ?_, fun z => ?_⟩
  · have z : vph V = 1 := z
    omega
  · have hp : p < vn V + 1 := hp
    show (if p = vn V then iN s else vst V p) ≤ 9 ∧ (if p = vn V then iN e else vea V p) < 512 ∧ (if p = vn V then 0 else vpl V p) < 16 ∧ (if p = vn V then 0 else vti V p) ≤ 17
    by_cases ep : p = vn V
    · simp only [if_pos ep]
      omega
    · simp only [if_neg ep]
      exact pl p (by omega)
  · have z : vph V = 1 := z
    omega
theorem vOk_tune {V : xV} {j t : Int32} (h : vOk V) (e : eTune V j t = nI 0) : vOk (vTune V (iN j) (iN t)) := by
  obtain ⟨a, b, c, t8, si, pl, pp⟩ := h
  obtain ⟨e1, e2⟩ := eTune_0 e
  have e2 := iN_in (by omega) (by omega) e2
  refine ⟨a, b, c, fun i hi => ?_, si, pl, pp⟩
  show (if i = iN j then iN t else vtn V i) ≤ 8
  split
  · exact e2.2
  · exact t8 i hi
theorem vOk_train {V : xV} {q s e : Int32} (h : vOk V) (e0 : eTrain V q s e = nI 0) : vOk (vTrain V (iN q) (iN s) (iN e)) := by
  obtain ⟨a, b, c, t8, si, pl, pp⟩ := h
  obtain ⟨-, e1, e2⟩ := eTrain_0 e0
  have e1 := iN_in (by omega) (by omega) e1
  have e2 := iN_in (by omega) (by omega) e2
  refine ⟨a, b, c, t8, si, fun p hp => ?_, pp⟩
  show (if p = iN q then iN s else vst V p) ≤ 9 ∧ (if p = iN q then iN e else vea V p) < 512 ∧ vpl V p < 16 ∧ vti V p ≤ 17
  obtain ⟨z1, z2, z3, z4⟩ := pl p hp
  refine ⟨?_, ?_, z3, z4⟩
  · split <;> omega
  · split <;> omega
theorem vOk_set {V : xV} {w v : Int32} (h : vOk V) (e : eSet w v = nI 0) : vOk (vSet V (iN v)) := by
  obtain ⟨⟨a1, a2, a3, a4, a5, a6⟩, b, c, t8, si, pl, pp⟩ := h
  obtain ⟨-, e2⟩ := eSet_0 e
  have e2 := iN_in (by omega) (by omega) e2
  exact ⟨⟨a1, e2.1, e2.2, a4, a5, a6⟩, b, c, t8, si, pl, pp⟩
theorem vOk_start {V : xV} (h : vOk V) (e : eStart V = nI 0) : vOk (vStart V) := by
  obtain ⟨⟨a1, a2, a3, a4, a5, a6⟩, b, c, t8, si, pl, pp⟩ := h
  obtain ⟨e1, e2, e3⟩ := eStart_0 e
  refine ⟨⟨(by show 1 ≤ 2; omega), a2, a3, a4, a5, a6⟩, fun z => absurd rfl z, fun _ => ⟨e2, e3⟩, t8, fun j q (hq : none = some q) => (by cases hq), fun p hp => ?_, fun _ p hp hi => ?_⟩
  · obtain ⟨z1, z2, z3, z4⟩ := pl p hp
    refine ⟨z1, z2, ?_, z4⟩
    show (if vin V p = true then x_cnt (vin V) p % vc V else vpl V p) < 16
    split
    · have := Nat.mod_lt (x_cnt (vin V) p) (show 0 < vc V by omega)
      omega
    · exact z3
  · show (if vin V p = true then x_cnt (vin V) p % vc V else vpl V p) < vc V
    have hi : vin V p = true := hi
    rw [if_pos hi]
    exact Nat.mod_lt _ (by omega)
theorem vOk_beat {V : xV} {b : Int32} (h : vOk V) (e : eBeat V b = nI 0) : vOk (vBeat V (iN b)) := by
  obtain ⟨⟨a1, a2, a3, a4, a5, a6⟩, b, c, t8, si, pl, pp⟩ := h
  obtain ⟨e1, e2, e3⟩ := eBeat_0 e
  obtain ⟨c1, c2⟩ := c e2
  refine ⟨⟨a1, a2, a3, e3, a5, a6⟩, fun z => absurd e2 z, c, t8, si, fun p hp => ?_, fun _ p hp hi => ?_⟩
  · obtain ⟨z1, z2, z3, z4⟩ := pl p hp
    refine ⟨z1, z2, ?_, z4⟩
    show (if vin V p = true then (vpl V p + vst V p * _) % vc V else vpl V p) < 16
    split
    · refine Nat.lt_of_lt_of_le (Nat.mod_lt _ (by omega)) a5
    · exact z3
  · show (if vin V p = true then (vpl V p + vst V p * _) % vc V else vpl V p) < vc V
    have hi : vin V p = true := hi
    rw [if_pos hi]
    exact Nat.mod_lt _ (by omega)
set_option maxHeartbeats 4000000 in
theorem c_vChair_2 (d : Nat) (V : xV) (t : Int32) (g : xG) (Q : xQ) (h : CG g 2 V) (hk : vOk V) (k1 : eChair V t < 0 → Q (some (.int (eChair V t))) g) (k2 : eChair V t = nI 0 → ∀ g' : xG, CG g' 2 (vChair V (iN t)) → (∀ a, (a < 2 ∨ 21 < a) → g' a = g a) → Q (some (.int (nI (vc V)))) g') : Cx (d + 2) i_Game_addChair [.ref 2, .int t] g Q := by
  obtain ⟨⟨a1, a2, a3, a4, a5, a6⟩, -⟩ := hk
  obtain ⟨h1, h2, h3, h4, h5, nx, i1, i2, i3, i4, i5⟩ := h
  refine c_addChair_2 d (vc V) (vph V) t g Q h2 a5 h1.1 a1 (fun z => ?_) (fun z1 z2 z => ?_) (fun z1 z2 z3 z => ?_) (fun z1 z2 z3 z => ?_)
  · have e : eChair V t = -1000001 := if_neg z
    rw [e] at k1
    exact k1 (by decide)
  · have e : eChair V t = -1000002 := by
      unfold eChair
      rw [if_pos ⟨z1, z2⟩, if_neg z]
    rw [e] at k1
    exact k1 (by decide)
  · have e : eChair V t = -1000003 := by
      unfold eChair
      rw [if_pos ⟨z1, z2⟩, if_pos z3, if_pos z]
    rw [e] at k1
    exact k1 (by decide)
  · refine k2 (by unfold eChair; rw [if_pos ⟨z1, z2⟩, if_pos z3, if_neg (by omega)]) _ ⟨?_, ?_, fun j hj => ?_, ?_, fun p hp => ?_, nx, ?_, i2, ?_, i4, fun a w ha hw => ?_⟩ (fun a ha => ?_)
    · simp only [x_up_app, x_ce_app, x_ce_same, Nat.reduceAdd, Nat.reduceEqDiff, ↓reduceIte, Nat.reduceSub, Nat.reduceMul, reduceCtorEq]
      exact h1
    · simp only [x_up_app, x_ce_app, x_ce_same, Nat.reduceAdd, Nat.reduceEqDiff, ↓reduceIte, Nat.reduceSub, Nat.reduceMul, reduceCtorEq]
      rfl
    · have hj : j < vc V + 1 := hj
      show _ = nI (if j = vc V then iN t else vtn V j) ∧ _ = (if j = vc V then nI 0 else vsa V j) ∧ _ = x_on (if j = vc V then none else vsi V j)
      simp only [x_up_app, x_ce_app, x_ce_same, Nat.reduceAdd, Nat.reduceEqDiff, ↓reduceIte, Nat.reduceSub, Nat.reduceMul, reduceCtorEq]
      by_cases e : j = vc V
      · simp only [if_pos e, nI_iN]
        exact ⟨trivial, trivial, rfl⟩
      · simp only [if_neg e]
        exact h3 j (by omega)
    · simp only [x_up_app, x_ce_app, x_ce_same, Nat.reduceAdd, Nat.reduceEqDiff, ↓reduceIte, Nat.reduceSub, Nat.reduceMul, reduceCtorEq]
      exact h4
    · simp only [x_up_app, x_ce_app, x_ce_same, Nat.reduceAdd, Nat.reduceEqDiff, ↓reduceIte, Nat.reduceSub, Nat.reduceMul, reduceCtorEq]
      exact h5 p hp
    · simp only [x_up_app, x_ce_app, x_ce_same, Nat.reduceAdd, Nat.reduceEqDiff, ↓reduceIte, Nat.reduceSub, Nat.reduceMul, reduceCtorEq]
      exact i1
    · simp only [x_up_app, x_ce_app, x_ce_same, Nat.reduceAdd, Nat.reduceEqDiff, ↓reduceIte, Nat.reduceSub, Nat.reduceMul, reduceCtorEq]
      exact i3
    · rw [x_up_row (by omega), x_up_row (by omega), x_up_row (by omega), x_up_row (by omega)]
      exact i5 a w ha hw
    · rw [x_up_row (by omega), x_up_row (by omega), x_up_row (by omega), x_up_row (by omega)]
set_option maxHeartbeats 4000000 in
theorem c_vPlayer_2 (d : Nat) (V : xV) (s e : Int32) (g : xG) (Q : xQ) (h : CG g 2 V) (hk : vOk V) (k1 : ePlayer V s e < 0 → Q (some (.int (ePlayer V s e))) g) (k2 : ePlayer V s e = nI 0 → ∀ g' : xG, CG g' 2 (vPlayer V (iN s) (iN e)) → (∀ a, (a < 2 ∨ 21 < a) → g' a = g a) → Q (some (.int (nI (vn V)))) g') : Cx (d + 2) i_Game_addPlayer [.ref 2, .int s, .int e] g Q := by
  obtain ⟨⟨a1, a2, a3, a4, a5, a6⟩, -⟩ := hk
  obtain ⟨h1, h2, h3, h4, h5, nx, i1, i2, i3, i4, i5⟩ := h
  refine c_addPlayer_2 d (vn V) (vph V) s e g Q h4.2 a6 h1.1 a1 (fun z => ?_) (fun z1 z2 z => ?_) (fun z1 z2 z3 z => ?_) (fun z1 z2 z3 z => ?_)
  · have e : ePlayer V s e = -1000001 := if_neg z
    rw [e] at k1
    exact k1 (by decide)
  · have e : ePlayer V s e = -1000002 := by
      unfold ePlayer
      rw [if_pos ⟨z1, z2⟩, if_neg z]
    rw [e] at k1
    exact k1 (by decide)
  · have e : ePlayer V s e = -1000003 := by
      unfold ePlayer
      rw [if_pos ⟨z1, z2⟩, if_pos z3, if_pos z]
    rw [e] at k1
    exact k1 (by decide)
  · refine k2 (by unfold ePlayer; rw [if_pos ⟨z1, z2⟩, if_pos z3, if_neg (by omega)]) _ ⟨?_, ?_, fun j hj => ?_, ⟨?_, ?_⟩, fun p hp => ?_, nx, ?_, i2, ?_, i4, fun a w ha hw => ?_⟩ (fun a ha => ?_)
    · simp only [x_up_app, x_ce_app, x_ce_same, Nat.reduceAdd, Nat.reduceEqDiff, ↓reduceIte, Nat.reduceSub, Nat.reduceMul, reduceCtorEq]
      exact h1
    · simp only [x_up_app, x_ce_app, x_ce_same, Nat.reduceAdd, Nat.reduceEqDiff, ↓reduceIte, Nat.reduceSub, Nat.reduceMul, reduceCtorEq]
      exact h2
    · simp only [x_up_app, x_ce_app, x_ce_same, Nat.reduceAdd, Nat.reduceEqDiff, ↓reduceIte, Nat.reduceSub, Nat.reduceMul, reduceCtorEq]
      exact h3 j hj
    · simp only [x_up_app, x_ce_app, x_ce_same, Nat.reduceAdd, Nat.reduceEqDiff, ↓reduceIte, Nat.reduceSub, Nat.reduceMul, reduceCtorEq]
      show x_mk _ (vn V + 1) (fun p => if p = vn V then true else vin V p)
      obtain ⟨m, m1, m2, m3⟩ := h4.1
      rw [m1]
      refine x_mk_set ⟨m, rfl, Nat.lt_of_lt_of_le m2 (Nat.pow_le_pow_right (by omega) (by omega)), fun i hi => rfl⟩ (by omega) (by omega) (fun i hi => ?_)
      by_cases ei : i = vn V
      · subst ei
        simp
      · rw [if_neg ei, m3 i (by omega)]
        simp [ei]
    · simp only [x_up_app, x_ce_app, x_ce_same, Nat.reduceAdd, Nat.reduceEqDiff, ↓reduceIte, Nat.reduceSub, Nat.reduceMul, reduceCtorEq]
      rfl
    · have hp : p < vn V + 1 := hp
      show _ = nI (if p = vn V then iN s else vst V p) ∧ _ = nI (if p = vn V then iN e else vea V p) ∧ _ = nI (if p = vn V then 0 else vpl V p) ∧ _ = (if p = vn V then nI 0 else vss V p) ∧ _ = (if p = vn V then nI 0 else vbu V p) ∧ _ = (if p = vn V then nI 0 else vwa V p) ∧ _ = (if p = vn V then nI 0 else vou V p) ∧ _ = nI (if p = vn V then 0 else vti V p)
      simp only [x_up_app, x_ce_app, x_ce_same, Nat.reduceAdd, Nat.reduceEqDiff, ↓reduceIte, Nat.reduceSub, Nat.reduceMul, reduceCtorEq]
      by_cases ep : p = vn V
      · simp only [if_pos ep, nI_iN]
        exact ⟨trivial, trivial, trivial, trivial, trivial, trivial, trivial, trivial⟩
      · simp only [if_neg ep]
        exact h5 p (by omega)
    · simp only [x_up_app, x_ce_app, x_ce_same, Nat.reduceAdd, Nat.reduceEqDiff, ↓reduceIte, Nat.reduceSub, Nat.reduceMul, reduceCtorEq]
      exact i1
    · simp only [x_up_app, x_ce_app, x_ce_same, Nat.reduceAdd, Nat.reduceEqDiff, ↓reduceIte, Nat.reduceSub, Nat.reduceMul, reduceCtorEq]
      exact i3
    · repeat rw [x_up_row (by omega)]
      exact i5 a w ha hw
    · repeat rw [x_up_row (by omega)]
set_option maxHeartbeats 4000000 in
theorem c_vStart_2 (d : Nat) (V : xV) (g : xG) (Q : xQ) (h : CG g 2 V) (hk : vOk V) (k1 : eStart V < 0 → Q (some (.int (eStart V))) g) (k2 : eStart V = nI 0 → ∀ g' : xG, CG g' 2 (vStart V) → (∀ a, (a < 2 ∨ 21 < a) → g' a = g a) → Q (some (.int (nI (x_cnt (vin V) (vn V))))) g') : Cx (d + 3) i_Game_startMusic [.ref 2] g Q := by
  obtain ⟨⟨a1, a2, a3, a4, a5, a6⟩, -⟩ := hk
  obtain ⟨h1, h2, h3, ⟨h4, h4n⟩, h5, nx, i1, i2, i3, i4, i5⟩ := h
  obtain ⟨m, m1, m2, m3⟩ := h4
  have hm : m < 4096 := Nat.lt_of_lt_of_le m2 (show 2 ^ vn V ≤ 2 ^ 12 from Nat.pow_le_pow_right (by omega) a6)
  have hpop := x_pop_mk m2 m3 a6
  refine c_startMusic_2 d (vn V) (vc V) m (vph V) g Q h4n a6 h2 a5 m1 hm h1.1 a1 (fun z => ?_) (fun z1 z2 z3 g' b1 b2 b3 b4 b5 b6 => ?_)
  · rw [hpop] at z
    have e : eStart V = -1000002 := if_neg z
    rw [e] at k1
    exact k1 (by decide)
  · rw [hpop] at z3 ⊢
    refine k2 (if_pos ⟨z1, z2, z3⟩) g' ⟨⟨b4, ?_⟩, ?_, fun j hj => ?_, ⟨?_, ?_⟩, fun p hp => ?_, nx, ?_, i2, ?_, i4, fun a w ha hw => ?_⟩ (fun a ha => b6 a (by omega) (by omega) (by omega))
    · rw [b5 4 (by decide), b5 5 (by decide), b5 6 (by decide), b5 7 (by decide), b5 8 (by decide), b5 9 (by decide)]
      exact h1.2
    · rw [b6 3 (by decide) (by decide) (by decide)]
      exact h2
    · obtain ⟨z1, z2, z3⟩ := h3 j hj
      rw [b6 4 (by decide) (by decide) (by decide), b6 5 (by decide) (by decide) (by decide)]
      exact ⟨z1, z2, b1 j hj⟩
    · rw [b6 7 (by decide) (by decide) (by decide)]
      exact ⟨m, m1, m2, m3⟩
    · rw [b6 7 (by decide) (by decide) (by decide)]
      exact h4n
    · obtain ⟨z1, z2, z3, z4, z5, z6, z7, z8⟩ := h5 p hp
      rw [b6 8 (by decide) (by decide) (by decide), b6 9 (by decide) (by decide) (by decide), b6 11 (by decide) (by decide) (by decide), b6 12 (by decide) (by decide) (by decide), b6 13 (by decide) (by decide) (by decide), b6 14 (by decide) (by decide) (by decide), b6 15 (by decide) (by decide) (by decide)]
      refine ⟨z1, z2, ?_, z4, z5, z6, z7, z8⟩
      show _ = nI (if vin V p = true then x_cnt (vin V) p % vc V else vpl V p)
      by_cases hb : x_bit m p
      · have hi : vin V p = true := by
          rw [← m3 p hp]
          exact x_bit_tb.mp hb
        rw [if_pos hi, b2 p hp hb, x_pop_tb, x_cnt_congr p (fun i hi2 => m3 i (Nat.lt_trans hi2 hp))]
      · have hi : ¬ vin V p = true := fun z => hb (x_bit_tb.mpr (by rw [m3 p hp]; exact z))
        rw [if_neg hi, b3 p hb]
        exact z3
    · rw [b6 16 (by decide) (by decide) (by decide)]
      exact i1
    · rw [b6 16 (by decide) (by decide) (by decide)]
      exact i3
    · rw [b6 _ (by omega) (by omega) (by omega)]
      exact i5 a w ha hw
set_option maxHeartbeats 4000000 in
theorem c_vBeat_2 (d : Nat) (V : xV) (b : Int32) (g : xG) (Q : xQ) (h : CG g 2 V) (hk : vOk V) (k1 : eBeat V b < 0 → Q (some (.int (eBeat V b))) g) (k2 : eBeat V b = nI 0 → ∀ g' : xG, CG g' 2 (vBeat V (iN b)) → (∀ a, (a < 2 ∨ 21 < a) → g' a = g a) → Q (some (.int (nI (vbt V + iN b)))) g') : Cx (d + 3) i_Game_walk [.ref 2, .int b] g Q := by
  obtain ⟨⟨a1, a2, a3, a4, a5, a6⟩, -, hc1, -, -, hpl, -⟩ := hk
  obtain ⟨h1, h2, h3, ⟨h4, h4n⟩, h5, nx, i1, i2, i3, i4, i5⟩ := h
  obtain ⟨m, m1, m2, m3⟩ := h4
  have hm : m < 4096 := Nat.lt_of_lt_of_le m2 (show 2 ^ vn V ≤ 2 ^ 12 from Nat.pow_le_pow_right (by omega) a6)
  refine c_gameWalk_2 d (vn V) (vc V) m (vph V) (vbt V) b (vst V) (vpl V) g Q h4n a6 h2 a5 m1 (by omega) h1.1 a1 h1.2.2.2.1 a4 (fun p hp => ⟨(h5 p hp).1, (hpl p hp).1⟩) (fun z => ⟨(hc1 z).1, fun p hp _ => ⟨(h5 p hp).2.2.1, (hpl p hp).2.2.1⟩⟩) (fun z => ?_) (fun j e z1 z2 z => ?_) (fun j e z1 z2 z3 z => ?_) (fun j e z1 z2 z3 z4 g' b1 b2 b3 b4 b5 => ?_)
  · have e : eBeat V b = -1000001 := if_neg z
    rw [e] at k1
    exact k1 (by decide)
  · subst e
    have e : eBeat V (nI j) = -1000002 := by
      unfold eBeat
      rw [if_pos ⟨(nI_leI (by omega) (by omega)).mpr z1, (nI_leI (by omega) (by omega)).mpr z2⟩, if_neg z]
    rw [e] at k1
    exact k1 (by decide)
  · subst e
    have e : eBeat V (nI j) = -1000003 := by
      unfold eBeat
      rw [if_pos ⟨(nI_leI (by omega) (by omega)).mpr z1, (nI_leI (by omega) (by omega)).mpr z2⟩, if_pos z3, if_neg (by rw [iN_nI (by omega)]; omega)]
    rw [e] at k1
    exact k1 (by decide)
  · subst e
    have e : iN (nI j) = j := iN_nI (by omega)
    have e0 : eBeat V (nI j) = nI 0 := by
      unfold eBeat
      rw [if_pos ⟨(nI_leI (by omega) (by omega)).mpr z1, (nI_leI (by omega) (by omega)).mpr z2⟩, if_pos z3, if_pos (by rw [e]; omega)]
    have k2 := k2 e0
    rw [e] at k2
    refine k2 g' ⟨⟨?_, ?_, ?_, b3, ?_⟩, ?_, fun j hj => ?_, ⟨?_, ?_⟩, fun p hp => ?_, nx, ?_, i2, ?_, i4, fun a w ha hw => ?_⟩ (fun a ha => b5 a (by omega) (by omega) (by omega))
    · rw [b4 3 (by decide)]
      exact h1.1
    · rw [b4 4 (by decide)]
      exact h1.2.1
    · rw [b4 5 (by decide)]
      exact h1.2.2.1
    · rw [b4 7 (by decide), b4 8 (by decide), b4 9 (by decide)]
      exact h1.2.2.2.2
    · rw [b5 3 (by decide) (by decide) (by decide)]
      exact h2
    · rw [b5 4 (by decide) (by decide) (by decide), b5 5 (by decide) (by decide) (by decide), b5 6 (by decide) (by decide) (by decide)]
      exact h3 j hj
    · rw [b5 7 (by decide) (by decide) (by decide)]
      exact ⟨m, m1, m2, m3⟩
    · rw [b5 7 (by decide) (by decide) (by decide)]
      exact h4n
    · obtain ⟨z1, z2, z3, z4, z5, z6, z7, z8⟩ := h5 p hp
      rw [b5 8 (by decide) (by decide) (by decide), b5 9 (by decide) (by decide) (by decide), b5 11 (by decide) (by decide) (by decide), b5 12 (by decide) (by decide) (by decide), b5 14 (by decide) (by decide) (by decide), b5 15 (by decide) (by decide) (by decide)]
      have e2 : g' 10 p = nI (if vin V p = true then (vpl V p + vst V p * j) % vc V else vpl V p) ∧ g' 13 p = (if vin V p = true then vwa V p + nI (vst V p * j) else vwa V p) := by
        by_cases hb : x_bit m p
        · have hi : vin V p = true := by
            rw [← m3 p hp]
            exact x_bit_tb.mp hb
          rw [if_pos hi, if_pos hi, (b1 p hp hb).1, (b1 p hp hb).2, z6]
          exact ⟨rfl, rfl⟩
        · have hi : ¬ vin V p = true := fun z => hb (x_bit_tb.mpr (by rw [m3 p hp]; exact z))
          rw [if_neg hi, if_neg hi, (b2 p hp hb).1, (b2 p hp hb).2]
          exact ⟨z3, z6⟩
      exact ⟨z1, z2, e2.1, z4, z5, e2.2, z7, z8⟩
    · rw [b5 16 (by decide) (by decide) (by decide)]
      exact i1
    · rw [b5 16 (by decide) (by decide) (by decide)]
      exact i3
    · rw [b5 _ (by omega) (by omega) (by omega)]
      exact i5 a w ha hw
set_option maxHeartbeats 4000000 in
theorem c_vChair_137 (d : Nat) (V : xV) (t : Int32) (g : xG) (Q : xQ) (h : CG g 137 V) (hk : vOk V) (k1 : eChair V t < 0 → Q (some (.int (eChair V t))) g) (k2 : eChair V t = nI 0 → ∀ g' : xG, CG g' 137 (vChair V (iN t)) → (∀ a, (a < 137 ∨ 156 < a) → g' a = g a) → Q (some (.int (nI (vc V)))) g') : Cx (d + 2) i_Game_addChair [.ref 137, .int t] g Q := by
  obtain ⟨⟨a1, a2, a3, a4, a5, a6⟩, -⟩ := hk
  obtain ⟨h1, h2, h3, h4, h5, nx, i1, i2, i3, i4, i5⟩ := h
  refine c_addChair_137 d (vc V) (vph V) t g Q h2 a5 h1.1 a1 (fun z => ?_) (fun z1 z2 z => ?_) (fun z1 z2 z3 z => ?_) (fun z1 z2 z3 z => ?_)
  · have e : eChair V t = -1000001 := if_neg z
    rw [e] at k1
    exact k1 (by decide)
  · have e : eChair V t = -1000002 := by
      unfold eChair
      rw [if_pos ⟨z1, z2⟩, if_neg z]
    rw [e] at k1
    exact k1 (by decide)
  · have e : eChair V t = -1000003 := by
      unfold eChair
      rw [if_pos ⟨z1, z2⟩, if_pos z3, if_pos z]
    rw [e] at k1
    exact k1 (by decide)
  · refine k2 (by unfold eChair; rw [if_pos ⟨z1, z2⟩, if_pos z3, if_neg (by omega)]) _ ⟨?_, ?_, fun j hj => ?_, ?_, fun p hp => ?_, nx, ?_, i2, ?_, i4, fun a w ha hw => ?_⟩ (fun a ha => ?_)
    · simp only [x_up_app, x_ce_app, x_ce_same, Nat.reduceAdd, Nat.reduceEqDiff, ↓reduceIte, Nat.reduceSub, Nat.reduceMul, reduceCtorEq]
      exact h1
    · simp only [x_up_app, x_ce_app, x_ce_same, Nat.reduceAdd, Nat.reduceEqDiff, ↓reduceIte, Nat.reduceSub, Nat.reduceMul, reduceCtorEq]
      rfl
    · have hj : j < vc V + 1 := hj
      show _ = nI (if j = vc V then iN t else vtn V j) ∧ _ = (if j = vc V then nI 0 else vsa V j) ∧ _ = x_on (if j = vc V then none else vsi V j)
      simp only [x_up_app, x_ce_app, x_ce_same, Nat.reduceAdd, Nat.reduceEqDiff, ↓reduceIte, Nat.reduceSub, Nat.reduceMul, reduceCtorEq]
      by_cases e : j = vc V
      · simp only [if_pos e, nI_iN]
        exact ⟨trivial, trivial, rfl⟩
      · simp only [if_neg e]
        exact h3 j (by omega)
    · simp only [x_up_app, x_ce_app, x_ce_same, Nat.reduceAdd, Nat.reduceEqDiff, ↓reduceIte, Nat.reduceSub, Nat.reduceMul, reduceCtorEq]
      exact h4
    · simp only [x_up_app, x_ce_app, x_ce_same, Nat.reduceAdd, Nat.reduceEqDiff, ↓reduceIte, Nat.reduceSub, Nat.reduceMul, reduceCtorEq]
      exact h5 p hp
    · simp only [x_up_app, x_ce_app, x_ce_same, Nat.reduceAdd, Nat.reduceEqDiff, ↓reduceIte, Nat.reduceSub, Nat.reduceMul, reduceCtorEq]
      exact i1
    · simp only [x_up_app, x_ce_app, x_ce_same, Nat.reduceAdd, Nat.reduceEqDiff, ↓reduceIte, Nat.reduceSub, Nat.reduceMul, reduceCtorEq]
      exact i3
    · rw [x_up_row (by omega), x_up_row (by omega), x_up_row (by omega), x_up_row (by omega)]
      exact i5 a w ha hw
    · rw [x_up_row (by omega), x_up_row (by omega), x_up_row (by omega), x_up_row (by omega)]
set_option maxHeartbeats 4000000 in
theorem c_vPlayer_137 (d : Nat) (V : xV) (s e : Int32) (g : xG) (Q : xQ) (h : CG g 137 V) (hk : vOk V) (k1 : ePlayer V s e < 0 → Q (some (.int (ePlayer V s e))) g) (k2 : ePlayer V s e = nI 0 → ∀ g' : xG, CG g' 137 (vPlayer V (iN s) (iN e)) → (∀ a, (a < 137 ∨ 156 < a) → g' a = g a) → Q (some (.int (nI (vn V)))) g') : Cx (d + 2) i_Game_addPlayer [.ref 137, .int s, .int e] g Q := by
  obtain ⟨⟨a1, a2, a3, a4, a5, a6⟩, -⟩ := hk
  obtain ⟨h1, h2, h3, h4, h5, nx, i1, i2, i3, i4, i5⟩ := h
  refine c_addPlayer_137 d (vn V) (vph V) s e g Q h4.2 a6 h1.1 a1 (fun z => ?_) (fun z1 z2 z => ?_) (fun z1 z2 z3 z => ?_) (fun z1 z2 z3 z => ?_)
  · have e : ePlayer V s e = -1000001 := if_neg z
    rw [e] at k1
    exact k1 (by decide)
  · have e : ePlayer V s e = -1000002 := by
      unfold ePlayer
      rw [if_pos ⟨z1, z2⟩, if_neg z]
    rw [e] at k1
    exact k1 (by decide)
  · have e : ePlayer V s e = -1000003 := by
      unfold ePlayer
      rw [if_pos ⟨z1, z2⟩, if_pos z3, if_pos z]
    rw [e] at k1
    exact k1 (by decide)
  · refine k2 (by unfold ePlayer; rw [if_pos ⟨z1, z2⟩, if_pos z3, if_neg (by omega)]) _ ⟨?_, ?_, fun j hj => ?_, ⟨?_, ?_⟩, fun p hp => ?_, nx, ?_, i2, ?_, i4, fun a w ha hw => ?_⟩ (fun a ha => ?_)
    · simp only [x_up_app, x_ce_app, x_ce_same, Nat.reduceAdd, Nat.reduceEqDiff, ↓reduceIte, Nat.reduceSub, Nat.reduceMul, reduceCtorEq]
      exact h1
    · simp only [x_up_app, x_ce_app, x_ce_same, Nat.reduceAdd, Nat.reduceEqDiff, ↓reduceIte, Nat.reduceSub, Nat.reduceMul, reduceCtorEq]
      exact h2
    · simp only [x_up_app, x_ce_app, x_ce_same, Nat.reduceAdd, Nat.reduceEqDiff, ↓reduceIte, Nat.reduceSub, Nat.reduceMul, reduceCtorEq]
      exact h3 j hj
    · simp only [x_up_app, x_ce_app, x_ce_same, Nat.reduceAdd, Nat.reduceEqDiff, ↓reduceIte, Nat.reduceSub, Nat.reduceMul, reduceCtorEq]
      show x_mk _ (vn V + 1) (fun p => if p = vn V then true else vin V p)
      obtain ⟨m, m1, m2, m3⟩ := h4.1
      rw [m1]
      refine x_mk_set ⟨m, rfl, Nat.lt_of_lt_of_le m2 (Nat.pow_le_pow_right (by omega) (by omega)), fun i hi => rfl⟩ (by omega) (by omega) (fun i hi => ?_)
      by_cases ei : i = vn V
      · subst ei
        simp
      · rw [if_neg ei, m3 i (by omega)]
        simp [ei]
    · simp only [x_up_app, x_ce_app, x_ce_same, Nat.reduceAdd, Nat.reduceEqDiff, ↓reduceIte, Nat.reduceSub, Nat.reduceMul, reduceCtorEq]
      rfl
    · have hp : p < vn V + 1 := hp
      show _ = nI (if p = vn V then iN s else vst V p) ∧ _ = nI (if p = vn V then iN e else vea V p) ∧ _ = nI (if p = vn V then 0 else vpl V p) ∧ _ = (if p = vn V then nI 0 else vss V p) ∧ _ = (if p = vn V then nI 0 else vbu V p) ∧ _ = (if p = vn V then nI 0 else vwa V p) ∧ _ = (if p = vn V then nI 0 else vou V p) ∧ _ = nI (if p = vn V then 0 else vti V p)
      simp only [x_up_app, x_ce_app, x_ce_same, Nat.reduceAdd, Nat.reduceEqDiff, ↓reduceIte, Nat.reduceSub, Nat.reduceMul, reduceCtorEq]
      by_cases ep : p = vn V
      · simp only [if_pos ep, nI_iN]
        exact ⟨trivial, trivial, trivial, trivial, trivial, trivial, trivial, trivial⟩
      · simp only [if_neg ep]
        exact h5 p (by omega)
    · simp only [x_up_app, x_ce_app, x_ce_same, Nat.reduceAdd, Nat.reduceEqDiff, ↓reduceIte, Nat.reduceSub, Nat.reduceMul, reduceCtorEq]
      exact i1
    · simp only [x_up_app, x_ce_app, x_ce_same, Nat.reduceAdd, Nat.reduceEqDiff, ↓reduceIte, Nat.reduceSub, Nat.reduceMul, reduceCtorEq]
      exact i3
    · repeat rw [x_up_row (by omega)]
      exact i5 a w ha hw
    · repeat rw [x_up_row (by omega)]
set_option maxHeartbeats 4000000 in
theorem c_vStart_137 (d : Nat) (V : xV) (g : xG) (Q : xQ) (h : CG g 137 V) (hk : vOk V) (k1 : eStart V < 0 → Q (some (.int (eStart V))) g) (k2 : eStart V = nI 0 → ∀ g' : xG, CG g' 137 (vStart V) → (∀ a, (a < 137 ∨ 156 < a) → g' a = g a) → Q (some (.int (nI (x_cnt (vin V) (vn V))))) g') : Cx (d + 3) i_Game_startMusic [.ref 137] g Q := by
  obtain ⟨⟨a1, a2, a3, a4, a5, a6⟩, -⟩ := hk
  obtain ⟨h1, h2, h3, ⟨h4, h4n⟩, h5, nx, i1, i2, i3, i4, i5⟩ := h
  obtain ⟨m, m1, m2, m3⟩ := h4
  have hm : m < 4096 := Nat.lt_of_lt_of_le m2 (show 2 ^ vn V ≤ 2 ^ 12 from Nat.pow_le_pow_right (by omega) a6)
  have hpop := x_pop_mk m2 m3 a6
  refine c_startMusic_137 d (vn V) (vc V) m (vph V) g Q h4n a6 h2 a5 m1 hm h1.1 a1 (fun z => ?_) (fun z1 z2 z3 g' b1 b2 b3 b4 b5 b6 => ?_)
  · rw [hpop] at z
    have e : eStart V = -1000002 := if_neg z
    rw [e] at k1
    exact k1 (by decide)
  · rw [hpop] at z3 ⊢
    refine k2 (if_pos ⟨z1, z2, z3⟩) g' ⟨⟨b4, ?_⟩, ?_, fun j hj => ?_, ⟨?_, ?_⟩, fun p hp => ?_, nx, ?_, i2, ?_, i4, fun a w ha hw => ?_⟩ (fun a ha => b6 a (by omega) (by omega) (by omega))
    · rw [b5 4 (by decide), b5 5 (by decide), b5 6 (by decide), b5 7 (by decide), b5 8 (by decide), b5 9 (by decide)]
      exact h1.2
    · rw [b6 138 (by decide) (by decide) (by decide)]
      exact h2
    · obtain ⟨z1, z2, z3⟩ := h3 j hj
      rw [b6 139 (by decide) (by decide) (by decide), b6 140 (by decide) (by decide) (by decide)]
      exact ⟨z1, z2, b1 j hj⟩
    · rw [b6 142 (by decide) (by decide) (by decide)]
      exact ⟨m, m1, m2, m3⟩
    · rw [b6 142 (by decide) (by decide) (by decide)]
      exact h4n
    · obtain ⟨z1, z2, z3, z4, z5, z6, z7, z8⟩ := h5 p hp
      rw [b6 143 (by decide) (by decide) (by decide), b6 144 (by decide) (by decide) (by decide), b6 146 (by decide) (by decide) (by decide), b6 147 (by decide) (by decide) (by decide), b6 148 (by decide) (by decide) (by decide), b6 149 (by decide) (by decide) (by decide), b6 150 (by decide) (by decide) (by decide)]
      refine ⟨z1, z2, ?_, z4, z5, z6, z7, z8⟩
      show _ = nI (if vin V p = true then x_cnt (vin V) p % vc V else vpl V p)
      by_cases hb : x_bit m p
      · have hi : vin V p = true := by
          rw [← m3 p hp]
          exact x_bit_tb.mp hb
        rw [if_pos hi, b2 p hp hb, x_pop_tb, x_cnt_congr p (fun i hi2 => m3 i (Nat.lt_trans hi2 hp))]
      · have hi : ¬ vin V p = true := fun z => hb (x_bit_tb.mpr (by rw [m3 p hp]; exact z))
        rw [if_neg hi, b3 p hb]
        exact z3
    · rw [b6 151 (by decide) (by decide) (by decide)]
      exact i1
    · rw [b6 151 (by decide) (by decide) (by decide)]
      exact i3
    · rw [b6 _ (by omega) (by omega) (by omega)]
      exact i5 a w ha hw
set_option maxHeartbeats 4000000 in
theorem c_vBeat_137 (d : Nat) (V : xV) (b : Int32) (g : xG) (Q : xQ) (h : CG g 137 V) (hk : vOk V) (k1 : eBeat V b < 0 → Q (some (.int (eBeat V b))) g) (k2 : eBeat V b = nI 0 → ∀ g' : xG, CG g' 137 (vBeat V (iN b)) → (∀ a, (a < 137 ∨ 156 < a) → g' a = g a) → Q (some (.int (nI (vbt V + iN b)))) g') : Cx (d + 3) i_Game_walk [.ref 137, .int b] g Q := by
  obtain ⟨⟨a1, a2, a3, a4, a5, a6⟩, -, hc1, -, -, hpl, -⟩ := hk
  obtain ⟨h1, h2, h3, ⟨h4, h4n⟩, h5, nx, i1, i2, i3, i4, i5⟩ := h
  obtain ⟨m, m1, m2, m3⟩ := h4
  have hm : m < 4096 := Nat.lt_of_lt_of_le m2 (show 2 ^ vn V ≤ 2 ^ 12 from Nat.pow_le_pow_right (by omega) a6)
  refine c_gameWalk_137 d (vn V) (vc V) m (vph V) (vbt V) b (vst V) (vpl V) g Q h4n a6 h2 a5 m1 (by omega) h1.1 a1 h1.2.2.2.1 a4 (fun p hp => ⟨(h5 p hp).1, (hpl p hp).1⟩) (fun z => ⟨(hc1 z).1, fun p hp _ => ⟨(h5 p hp).2.2.1, (hpl p hp).2.2.1⟩⟩) (fun z => ?_) (fun j e z1 z2 z => ?_) (fun j e z1 z2 z3 z => ?_) (fun j e z1 z2 z3 z4 g' b1 b2 b3 b4 b5 => ?_)
  · have e : eBeat V b = -1000001 := if_neg z
    rw [e] at k1
    exact k1 (by decide)
  · subst e
    have e : eBeat V (nI j) = -1000002 := by
      unfold eBeat
      rw [if_pos ⟨(nI_leI (by omega) (by omega)).mpr z1, (nI_leI (by omega) (by omega)).mpr z2⟩, if_neg z]
    rw [e] at k1
    exact k1 (by decide)
  · subst e
    have e : eBeat V (nI j) = -1000003 := by
      unfold eBeat
      rw [if_pos ⟨(nI_leI (by omega) (by omega)).mpr z1, (nI_leI (by omega) (by omega)).mpr z2⟩, if_pos z3, if_neg (by rw [iN_nI (by omega)]; omega)]
    rw [e] at k1
    exact k1 (by decide)
  · subst e
    have e : iN (nI j) = j := iN_nI (by omega)
    have e0 : eBeat V (nI j) = nI 0 := by
      unfold eBeat
      rw [if_pos ⟨(nI_leI (by omega) (by omega)).mpr z1, (nI_leI (by omega) (by omega)).mpr z2⟩, if_pos z3, if_pos (by rw [e]; omega)]
    have k2 := k2 e0
    rw [e] at k2
    refine k2 g' ⟨⟨?_, ?_, ?_, b3, ?_⟩, ?_, fun j hj => ?_, ⟨?_, ?_⟩, fun p hp => ?_, nx, ?_, i2, ?_, i4, fun a w ha hw => ?_⟩ (fun a ha => b5 a (by omega) (by omega) (by omega))
    · rw [b4 3 (by decide)]
      exact h1.1
    · rw [b4 4 (by decide)]
      exact h1.2.1
    · rw [b4 5 (by decide)]
      exact h1.2.2.1
    · rw [b4 7 (by decide), b4 8 (by decide), b4 9 (by decide)]
      exact h1.2.2.2.2
    · rw [b5 138 (by decide) (by decide) (by decide)]
      exact h2
    · rw [b5 139 (by decide) (by decide) (by decide), b5 140 (by decide) (by decide) (by decide), b5 141 (by decide) (by decide) (by decide)]
      exact h3 j hj
    · rw [b5 142 (by decide) (by decide) (by decide)]
      exact ⟨m, m1, m2, m3⟩
    · rw [b5 142 (by decide) (by decide) (by decide)]
      exact h4n
    · obtain ⟨z1, z2, z3, z4, z5, z6, z7, z8⟩ := h5 p hp
      rw [b5 143 (by decide) (by decide) (by decide), b5 144 (by decide) (by decide) (by decide), b5 146 (by decide) (by decide) (by decide), b5 147 (by decide) (by decide) (by decide), b5 149 (by decide) (by decide) (by decide), b5 150 (by decide) (by decide) (by decide)]
      have e2 : g' 145 p = nI (if vin V p = true then (vpl V p + vst V p * j) % vc V else vpl V p) ∧ g' 148 p = (if vin V p = true then vwa V p + nI (vst V p * j) else vwa V p) := by
        by_cases hb : x_bit m p
        · have hi : vin V p = true := by
            rw [← m3 p hp]
            exact x_bit_tb.mp hb
          rw [if_pos hi, if_pos hi, (b1 p hp hb).1, (b1 p hp hb).2, z6]
          exact ⟨rfl, rfl⟩
        · have hi : ¬ vin V p = true := fun z => hb (x_bit_tb.mpr (by rw [m3 p hp]; exact z))
          rw [if_neg hi, if_neg hi, (b2 p hp hb).1, (b2 p hp hb).2]
          exact ⟨z3, z6⟩
      exact ⟨z1, z2, e2.1, z4, z5, e2.2, z7, z8⟩
    · rw [b5 151 (by decide) (by decide) (by decide)]
      exact i1
    · rw [b5 151 (by decide) (by decide) (by decide)]
      exact i3
    · rw [b5 _ (by omega) (by omega) (by omega)]
      exact i5 a w ha hw
set_option maxHeartbeats 4000000 in
theorem c_vTune (d : Nat) (V : xV) (j t : Int32) (g : xG) (Q : xQ) (h : CG g 2 V) (hk : vOk V) (k1 : eTune V j t < 0 → Q (some (.int (eTune V j t))) g) (k2 : eTune V j t = nI 0 → ∀ g' : xG, CG g' 2 (vTune V (iN j) (iN t)) → (∀ a, (a < 2 ∨ 21 < a) → g' a = g a) → Q (some (.int (nI (vtn V (iN j))))) g') : Cx (d + 2) i_Game_retune [.ref 2, .int j, .int t] g Q := by
  obtain ⟨⟨a1, a2, a3, a4, a5, a6⟩, -⟩ := hk
  obtain ⟨h1, h2, h3, h4, h5, nx, i1, i2, i3, i4, i5⟩ := h
  refine c_retune d (vc V) j t g Q h2 a5 (fun z => ?_) (fun c hc e z1 z2 => ?_)
  · have e : eTune V j t = -1000001 := if_neg (fun z2 => z ⟨(iN_lt (by omega)).mp z2.1, z2.2⟩)
    rw [e] at k1
    exact k1 (by decide)
  · subst e
    have e : iN (nI c) = c := iN_nI (by omega)
    have k2 := k2 (if_pos ⟨by rw [e]; exact hc, z1, z2⟩)
    rw [e] at k2
    rw [(h3 c hc).1]
    refine k2 _ ⟨?_, ?_, fun j hj => ?_, ?_, fun p hp => ?_, nx, ?_, i2, ?_, i4, fun a w ha hw => ?_⟩ (fun a ha => by rw [x_up_row (by omega)])
    · simp only [x_up_app, x_ce_app, x_ce_same, Nat.reduceAdd, Nat.reduceEqDiff, ↓reduceIte, Nat.reduceSub, Nat.reduceMul, reduceCtorEq]
      exact h1
    · simp only [x_up_app, x_ce_app, x_ce_same, Nat.reduceAdd, Nat.reduceEqDiff, ↓reduceIte, Nat.reduceSub, Nat.reduceMul, reduceCtorEq]
      exact h2
    · show _ = nI (if j = c then iN t else vtn V j) ∧ _
      simp only [x_up_app, x_ce_app, x_ce_same, Nat.reduceAdd, Nat.reduceEqDiff, ↓reduceIte, Nat.reduceSub, Nat.reduceMul, reduceCtorEq]
      by_cases e : j = c
      · simp only [if_pos e, nI_iN]
        exact ⟨trivial, (h3 j hj).2⟩
      · simp only [if_neg e]
        exact h3 j hj
    · simp only [x_up_app, x_ce_app, x_ce_same, Nat.reduceAdd, Nat.reduceEqDiff, ↓reduceIte, Nat.reduceSub, Nat.reduceMul, reduceCtorEq]
      exact h4
    · simp only [x_up_app, x_ce_app, x_ce_same, Nat.reduceAdd, Nat.reduceEqDiff, ↓reduceIte, Nat.reduceSub, Nat.reduceMul, reduceCtorEq]
      exact h5 p hp
    · simp only [x_up_app, x_ce_app, x_ce_same, Nat.reduceAdd, Nat.reduceEqDiff, ↓reduceIte, Nat.reduceSub, Nat.reduceMul, reduceCtorEq]
      exact i1
    · simp only [x_up_app, x_ce_app, x_ce_same, Nat.reduceAdd, Nat.reduceEqDiff, ↓reduceIte, Nat.reduceSub, Nat.reduceMul, reduceCtorEq]
      exact i3
    · rw [x_up_row (by omega)]
      exact i5 a w ha hw
set_option maxHeartbeats 4000000 in
theorem c_vTrain (d : Nat) (V : xV) (q s e : Int32) (g : xG) (Q : xQ) (h : CG g 2 V) (hk : vOk V) (k1 : eTrain V q s e < 0 → Q (some (.int (eTrain V q s e))) g) (k2 : eTrain V q s e = nI 0 → ∀ g' : xG, CG g' 2 (vTrain V (iN q) (iN s) (iN e)) → (∀ a, (a < 2 ∨ 21 < a) → g' a = g a) → Q (some (.int (nI (vea V (iN q))))) g') : Cx (d + 2) i_Game_retrain [.ref 2, .int q, .int s, .int e] g Q := by
  obtain ⟨⟨a1, a2, a3, a4, a5, a6⟩, -⟩ := hk
  obtain ⟨h1, h2, h3, h4, h5, nx, i1, i2, i3, i4, i5⟩ := h
  refine c_retrain d (vn V) q s e g Q h4.2 a6 (fun z => ?_) (fun c hc e0 z1 z2 => ?_)
  · have e : eTrain V q s e = -1000001 := if_neg (fun z2 => z ⟨(iN_lt (by omega)).mp z2.1, z2.2⟩)
    rw [e] at k1
    exact k1 (by decide)
  · subst e0
    have e0 : iN (nI c) = c := iN_nI (by omega)
    have k2 := k2 (if_pos ⟨by rw [e0]; exact hc, z1, z2⟩)
    rw [e0] at k2
    rw [(h5 c hc).2.1]
    refine k2 _ ⟨?_, ?_, fun j hj => ?_, ?_, fun p hp => ?_, nx, ?_, i2, ?_, i4, fun a w ha hw => ?_⟩ (fun a ha => by rw [x_up_row (by omega), x_up_row (by omega)])
    · simp only [x_up_app, x_ce_app, x_ce_same, Nat.reduceAdd, Nat.reduceEqDiff, ↓reduceIte, Nat.reduceSub, Nat.reduceMul, reduceCtorEq]
      exact h1
    · simp only [x_up_app, x_ce_app, x_ce_same, Nat.reduceAdd, Nat.reduceEqDiff, ↓reduceIte, Nat.reduceSub, Nat.reduceMul, reduceCtorEq]
      exact h2
    · simp only [x_up_app, x_ce_app, x_ce_same, Nat.reduceAdd, Nat.reduceEqDiff, ↓reduceIte, Nat.reduceSub, Nat.reduceMul, reduceCtorEq]
      exact h3 j hj
    · simp only [x_up_app, x_ce_app, x_ce_same, Nat.reduceAdd, Nat.reduceEqDiff, ↓reduceIte, Nat.reduceSub, Nat.reduceMul, reduceCtorEq]
      exact h4
    · show _ = nI (if p = c then iN s else vst V p) ∧ _ = nI (if p = c then iN e else vea V p) ∧ _
      simp only [x_up_app, x_ce_app, x_ce_same, Nat.reduceAdd, Nat.reduceEqDiff, ↓reduceIte, Nat.reduceSub, Nat.reduceMul, reduceCtorEq]
      by_cases e : p = c
      · simp only [if_pos e, nI_iN]
        exact ⟨trivial, trivial, (h5 p hp).2.2⟩
      · simp only [if_neg e]
        exact h5 p hp
    · simp only [x_up_app, x_ce_app, x_ce_same, Nat.reduceAdd, Nat.reduceEqDiff, ↓reduceIte, Nat.reduceSub, Nat.reduceMul, reduceCtorEq]
      exact i1
    · simp only [x_up_app, x_ce_app, x_ce_same, Nat.reduceAdd, Nat.reduceEqDiff, ↓reduceIte, Nat.reduceSub, Nat.reduceMul, reduceCtorEq]
      exact i3
    · rw [x_up_row (by omega), x_up_row (by omega)]
      exact i5 a w ha hw
set_option maxHeartbeats 4000000 in
theorem c_vSet (d : Nat) (V : xV) (w v : Int32) (g : xG) (Q : xQ) (h : CG g 2 V) (k1 : eSet w v < 0 → Q (some (.int (eSet w v))) g) (k2 : eSet w v = nI 0 → ∀ g' : xG, CG g' 2 (vSet V (iN v)) → (∀ a, (a < 2 ∨ 21 < a) → g' a = g a) → Q (some (.int (nI (vfw V)))) g') : Cx (d + 2) i_Game_choose [.ref 2, .int w, .int v] g Q := by
  obtain ⟨h1, h2, h3, h4, h5, nx, i1, i2, i3, i4, i5⟩ := h
  refine c_choose d w v g Q (fun z => ?_) (fun z1 z2 z3 => ?_)
  · have e : eSet w v = -1000001 := if_neg z
    rw [e] at k1
    exact k1 (by decide)
  · rw [h1.2.1]
    refine k2 (if_pos ⟨z1, z2, z3⟩) _ ⟨?_, ?_, fun j hj => ?_, ?_, fun p hp => ?_, nx, ?_, i2, ?_, i4, fun a w ha hw => ?_⟩ (fun a ha => by rw [x_up_row (by omega)])
    · simp only [x_up_app, x_ce_app, x_ce_same, Nat.reduceAdd, Nat.reduceEqDiff, ↓reduceIte, Nat.reduceSub, Nat.reduceMul, reduceCtorEq]
      exact ⟨h1.1, (nI_iN v).symm, h1.2.2⟩
    · simp only [x_up_app, x_ce_app, x_ce_same, Nat.reduceAdd, Nat.reduceEqDiff, ↓reduceIte, Nat.reduceSub, Nat.reduceMul, reduceCtorEq]
      exact h2
    · simp only [x_up_app, x_ce_app, x_ce_same, Nat.reduceAdd, Nat.reduceEqDiff, ↓reduceIte, Nat.reduceSub, Nat.reduceMul, reduceCtorEq]
      exact h3 j hj
    · simp only [x_up_app, x_ce_app, x_ce_same, Nat.reduceAdd, Nat.reduceEqDiff, ↓reduceIte, Nat.reduceSub, Nat.reduceMul, reduceCtorEq]
      exact h4
    · simp only [x_up_app, x_ce_app, x_ce_same, Nat.reduceAdd, Nat.reduceEqDiff, ↓reduceIte, Nat.reduceSub, Nat.reduceMul, reduceCtorEq]
      exact h5 p hp
    · simp only [x_up_app, x_ce_app, x_ce_same, Nat.reduceAdd, Nat.reduceEqDiff, ↓reduceIte, Nat.reduceSub, Nat.reduceMul, reduceCtorEq]
      exact i1
    · simp only [x_up_app, x_ce_app, x_ce_same, Nat.reduceAdd, Nat.reduceEqDiff, ↓reduceIte, Nat.reduceSub, Nat.reduceMul, reduceCtorEq]
      exact i3
    · rw [x_up_row (by omega)]
      exact i5 a w ha hw
