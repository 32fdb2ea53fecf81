/-! ===== a state of the game, as both sides hold it ===== -/
abbrev xV : Type := (Nat × Nat × Nat × Nat × Nat) × (Int32 × Int32 × Int32 × Int32) × ((Nat → Nat) × (Nat → Int32) × (Nat → Option Nat)) × ((Nat → Nat) × (Nat → Nat) × (Nat → Bool) × (Nat → Nat) × (Nat → Int32) × (Nat → Int32) × (Nat → Int32) × (Nat → Int32) × (Nat → Nat)) × xR
/-- phase, fewer, beats, chairs, players | rounds, ticks, taken, out by rounds | tones, sittings, sitters | strides, ears, in play, places, sittings, bumps, steps, rounds of the out, ticks | bells -/
def vV (ph fw bt c n : Nat) (rd tk tg lo : Int32) (tn : Nat → Nat) (sa : Nat → Int32) (si : Nat → Option Nat) (st ea : Nat → Nat) (inn : Nat → Bool) (pl : Nat → Nat) (ss bu wa ou : Nat → Int32) (ti : Nat → Nat) (r : xR) : xV := ((ph, fw, bt, c, n), (rd, tk, tg, lo), (tn, sa, si), (st, ea, inn, pl, ss, bu, wa, ou, ti), r)
def vph (V : xV) : Nat := V.1.1
def vfw (V : xV) : Nat := V.1.2.1
def vbt (V : xV) : Nat := V.1.2.2.1
def vc (V : xV) : Nat := V.1.2.2.2.1
def vn (V : xV) : Nat := V.1.2.2.2.2
def vrd (V : xV) : Int32 := V.2.1.1
def vtk (V : xV) : Int32 := V.2.1.2.1
def vtg (V : xV) : Int32 := V.2.1.2.2.1
def vlo (V : xV) : Int32 := V.2.1.2.2.2
def vtn (V : xV) : Nat → Nat := V.2.2.1.1
def vsa (V : xV) : Nat → Int32 := V.2.2.1.2.1
def vsi (V : xV) : Nat → Option Nat := V.2.2.1.2.2
def vst (V : xV) : Nat → Nat := V.2.2.2.1.1
def vea (V : xV) : Nat → Nat := V.2.2.2.1.2.1
def vin (V : xV) : Nat → Bool := V.2.2.2.1.2.2.1
def vpl (V : xV) : Nat → Nat := V.2.2.2.1.2.2.2.1
def vss (V : xV) : Nat → Int32 := V.2.2.2.1.2.2.2.2.1
def vbu (V : xV) : Nat → Int32 := V.2.2.2.1.2.2.2.2.2.1
def vwa (V : xV) : Nat → Int32 := V.2.2.2.1.2.2.2.2.2.2.1
def vou (V : xV) : Nat → Int32 := V.2.2.2.1.2.2.2.2.2.2.2.1
def vti (V : xV) : Nat → Nat := V.2.2.2.1.2.2.2.2.2.2.2.2
def vR (V : xV) : xR := V.2.2.2.2
/-- what holds of every state that is come to -/
def vOk (V : xV) : Prop := (vph V ≤ 2 ∧ 1 ≤ vfw V ∧ vfw V ≤ 3 ∧ vbt V ≤ 999 ∧ vc V ≤ 16 ∧ vn V ≤ 12) ∧ (¬ vph V = 1 → vbt V = 0) ∧ (vph V = 1 → 1 ≤ vc V ∧ vc V < x_cnt (vin V) (vn V)) ∧ (∀ j, j < vc V → vtn V j ≤ 8) ∧ (∀ j q, vsi V j = some q → q < 12) ∧ (∀ p, p < vn V → vst V p ≤ 9 ∧ vea V p < 512 ∧ vpl V p < 16 ∧ vti V p ≤ 17) ∧ (vph V = 1 → ∀ p, p < vn V → vin V p = true → vpl V p < vc V)
/-! the changes -/
def vChair (V : xV) (t : Nat) : xV := vV (vph V) (vfw V) (vbt V) (vc V + 1) (vn V) (vrd V) (vtk V) (vtg V) (vlo V) (fun j => if j = vc V then t else vtn V j) (fun j => if j = vc V then nI 0 else vsa V j) (fun j => if j = vc V then none else vsi V j) (vst V) (vea V) (vin V) (vpl V) (vss V) (vbu V) (vwa V) (vou V) (vti V) (vR V)
def vPlayer (V : xV) (s e : Nat) : xV := vV (vph V) (vfw V) (vbt V) (vc V) (vn V + 1) (vrd V) (vtk V) (vtg V) (vlo V) (vtn V) (vsa V) (vsi V) (fun p => if p = vn V then s else vst V p) (fun p => if p = vn V then e else vea V p) (fun p => if p = vn V then true else vin V p) (fun p => if p = vn V then 0 else vpl V p) (fun p => if p = vn V then nI 0 else vss V p) (fun p => if p = vn V then nI 0 else vbu V p) (fun p => if p = vn V then nI 0 else vwa V p) (fun p => if p = vn V then nI 0 else vou V p) (fun p => if p = vn V then 0 else vti V p) (vR V)
def vTune (V : xV) (j0 t : Nat) : xV := vV (vph V) (vfw V) (vbt V) (vc V) (vn V) (vrd V) (vtk V) (vtg V) (vlo V) (fun j => if j = j0 then t else vtn V j) (vsa V) (vsi V) (vst V) (vea V) (vin V) (vpl V) (vss V) (vbu V) (vwa V) (vou V) (vti V) (vR V)
def vTrain (V : xV) (q s e : Nat) : xV := vV (vph V) (vfw V) (vbt V) (vc V) (vn V) (vrd V) (vtk V) (vtg V) (vlo V) (vtn V) (vsa V) (vsi V) (fun p => if p = q then s else vst V p) (fun p => if p = q then e else vea V p) (vin V) (vpl V) (vss V) (vbu V) (vwa V) (vou V) (vti V) (vR V)
def vSet (V : xV) (f : Nat) : xV := vV (vph V) f (vbt V) (vc V) (vn V) (vrd V) (vtk V) (vtg V) (vlo V) (vtn V) (vsa V) (vsi V) (vst V) (vea V) (vin V) (vpl V) (vss V) (vbu V) (vwa V) (vou V) (vti V) (vR V)
def vStart (V : xV) : xV := vV 1 (vfw V) (vbt V) (vc V) (vn V) (vrd V) (vtk V) (vtg V) (vlo V) (vtn V) (vsa V) (fun _ => none) (vst V) (vea V) (vin V) (fun p => if vin V p = true then x_cnt (vin V) p % vc V else vpl V p) (vss V) (vbu V) (vwa V) (vou V) (vti V) (vR V)
def vBeat (V : xV) (b : Nat) : xV := vV (vph V) (vfw V) (vbt V + b) (vc V) (vn V) (vrd V) (vtk V) (vtg V) (vlo V) (vtn V) (vsa V) (vsi V) (vst V) (vea V) (vin V) (fun p => if vin V p = true then (vpl V p + vst V p * b) % vc V else vpl V p) (vss V) (vbu V) (fun p => if vin V p = true then vwa V p + nI (vst V p * b) else vwa V p) (vou V) (vti V) (vR V)
/-- who hears which chair -/
def vhr (V : xV) (p j : Nat) : Bool := (vea V p).testBit (vtn V j)
/-- how it stands t ticks behind the music's end, b beats from now -/
def vX (V : xV) (b t : Nat) : xX := xIt (vn V) (vc V) (vhr V) (xBeg (vin V) (fun p => (vpl V p + vst V p * b) % vc V)) t
/-- it is over in the tick T -/
def vT (V : xV) (b T : Nat) : Prop := T ≤ 17 ∧ (∀ p, p < vn V → XG (vX V b T) p = false) ∧ ∀ t, t < T → ∃ p, p < vn V ∧ XG (vX V b t) p = true
theorem vT_eq {V : xV} {b T T' : Nat} (h : vT V b T) (h' : vT V b T') : T = T' := by
  apply Nat.le_antisymm
  · apply Nat.le_of_not_lt
    intro z
    obtain ⟨p, hp, hg⟩ := h.2.2 T' z
    rw [h'.2.1 p hp] at hg
    cases hg
  · apply Nat.le_of_not_lt
    intro z
    obtain ⟨p, hp, hg⟩ := h'.2.2 T z
    rw [h.2.1 p hp] at hg
    cases hg
/-- those who play on -/
def vIn (V : xV) (T : Nat) (p : Nat) : Bool := vin V p && (XS (vX V 0 T) p).isSome
/-- the round counted, the phase ph behind it -/
def vEnd (V : xV) (T ph : Nat) : xV := vV ph (vfw V) 0 (vc V) (vn V) (vrd V + nI 1) (vtk V + nI T) (vtg V) (vlo V + (nI (x_cnt (vin V) (vn V)) - nI (vc V))) (vtn V)
  (fun j => if 1 ≤ XW (vX V 0 T) j ∧ XW (vX V 0 T) j ≤ T then vsa V j + nI 1 else vsa V j) (fun j => if 1 ≤ XW (vX V 0 T) j ∧ XW (vX V 0 T) j ≤ T then XI (vX V 0 T) j else vsi V j) (vst V) (vea V) (vIn V T) (vpl V)
  (fun p => if vIn V T p = true then vss V p + nI 1 else vss V p) (fun p => if vin V p = true then vbu V p + nI (XB (vX V 0 T) p) else vbu V p) (vwa V) (fun p => if (vin V p && (XS (vX V 0 T) p).isNone) = true then vrd V + nI 1 else vou V p) (fun p => if vin V p = true then XT (vX V 0 T) p else vti V p)
  (x_rt (fun t j => x_e5 (vrd V + nI 1) (nI t) (nI j) (nI (vtn V j)) (x_on (XI (vX V 0 T) j))) (XW (vX V 0 T)) (vc V) T (vR V))
/-- the most worn chair is taken away -/
def vTk1 (V : xV) : xV :=
  let w := x_mw (vsa V) (vc V - 1)
  vV (vph V) (vfw V) (vbt V) (vc V - 1) (vn V) (vrd V) (vtk V) (vtg V + nI 1) (vlo V) (fun i => if i < w then vtn V i else vtn V (i + 1)) (fun i => if i < w then vsa V i else vsa V (i + 1)) (fun i => if i < w then vsi V i else vsi V (i + 1)) (vst V) (vea V) (vin V) (vpl V) (vss V) (vbu V) (vwa V) (vou V) (vti V) (vR V)
def vTk : Nat → xV → xV
  | 0, V => V
  | k + 1, V => vTk k (vTk1 V)
def vStop (V : xV) (T : Nat) : xV := if x_cnt (vIn V T) (vn V) ≤ 1 then vEnd V T 2 else vTk (vc V - max (x_cnt (vIn V T) (vn V) - vfw V) 1) (vEnd V T 0)
/-- at the very beginning -/
def v0 : xV := vV 0 1 0 0 0 (nI 0) (nI 0) (nI 0) (nI 0) (fun _ => 0) (fun _ => nI 0) (fun _ => none) (fun _ => 0) (fun _ => 0) (fun _ => false) (fun _ => 0) (fun _ => nI 0) (fun _ => nI 0) (fun _ => nI 0) (fun _ => nI 0) (fun _ => 0) (0, fun _ _ => nI 0)
/-! the class's game at B holds it -/
def CG (g : xG) (B : Nat) (V : xV) : Prop :=
  (g B 3 = nI (vph V) ∧ g B 4 = nI (vfw V) ∧ g B 5 = vrd V ∧ g B 6 = nI (vbt V) ∧ g B 7 = vtk V ∧ g B 8 = vtg V ∧ g B 9 = vlo V) ∧ g (B + 1) 3 = nI (vc V) ∧
  (∀ j, j < vc V → g (B + 2) j = nI (vtn V j) ∧ g (B + 3) j = vsa V j ∧ g (B + 4) j = x_on (vsi V j)) ∧
  (x_mk (g (B + 5) 8) (vn V) (vin V) ∧ g (B + 5) 9 = nI (vn V)) ∧
  (∀ p, p < vn V → g (B + 6) p = nI (vst V p) ∧ g (B + 7) p = nI (vea V p) ∧ g (B + 8) p = nI (vpl V p) ∧ g (B + 9) p = vss V p ∧ g (B + 10) p = vbu V p ∧ g (B + 11) p = vwa V p ∧ g (B + 12) p = vou V p ∧ g (B + 13) p = nI (vti V p)) ∧
  x_bl g B (vR V)
theorem CG_row {g g' : xG} {B : Nat} {V : xV} (h : CG g B V) (e : ∀ a, B ≤ a → a ≤ B + 19 → g' a = g a) : CG g' B V := by
  unfold CG x_bl at h ⊢
  rw [e B (by omega) (by omega), e (B + 1) (by omega) (by omega), e (B + 2) (by omega) (by omega), e (B + 3) (by omega) (by omega), e (B + 4) (by omega) (by omega), e (B + 5) (by omega) (by omega), e (B + 6) (by omega) (by omega), e (B + 7) (by omega) (by omega), e (B + 8) (by omega) (by omega), e (B + 9) (by omega) (by omega), e (B + 10) (by omega) (by omega), e (B + 11) (by omega) (by omega), e (B + 12) (by omega) (by omega), e (B + 13) (by omega) (by omega), e (B + 14) (by omega) (by omega)]
  obtain ⟨h1, h2, h3, h4, h5, nx, i1, i2, i3, i4, i5⟩ := h
  exact ⟨h1, h2, h3, h4, h5, nx, i1, i2, i3, i4, fun a w ha hw => by rw [e (B + 15 + w) (by omega) (by omega)]; exact i5 a w ha hw⟩
theorem CG_same {g g' : xG} {B D : Nat} {V : xV} (h : CG g B V) (hk : vOk V) (e : x_same g' D g B) : CG g' D V := by
  obtain ⟨⟨w1, w2, w3, w4, w5, w6⟩, -⟩ := hk
  obtain ⟨h1, h2, h3, h4, h5, nx, i1, i2, i3, i4, i5⟩ := h
  obtain ⟨e1, e2, e3, e4, e5, e6, e7⟩ := e
  refine ⟨?_, ?_, fun j hj => ?_, ⟨?_, ?_⟩, fun p hp => ?_, nx, ?_, i2, ?_, i4, fun a w ha hw => ?_⟩
  · rw [e1 3 (by omega) (by omega), e1 4 (by omega) (by omega), e1 5 (by omega) (by omega), e1 6 (by omega) (by omega), e1 7 (by omega) (by omega), e1 8 (by omega) (by omega), e1 9 (by omega) (by omega)]
    exact h1
  · rw [e2]
    exact h2
  · rw [e3 2 j (by omega) (by omega) (by omega), e3 3 j (by omega) (by omega) (by omega), e3 4 j (by omega) (by omega) (by omega)]
    exact h3 j hj
  · rw [e4.1]
    exact h4.1
  · rw [e4.2]
    exact h4.2
  · rw [e5 6 p (by omega) (by omega) (by omega), e5 7 p (by omega) (by omega) (by omega), e5 8 p (by omega) (by omega) (by omega), e5 9 p (by omega) (by omega) (by omega), e5 10 p (by omega) (by omega) (by omega), e5 11 p (by omega) (by omega) (by omega), e5 12 p (by omega) (by omega) (by omega), e5 13 p (by omega) (by omega) (by omega)]
    exact h5 p hp
  · rw [e6.1]
    exact i1
  · rw [e6.2]
    exact i3
  · have e8 := e7 (15 + w) ((nx + 11 - a) % 12) (by omega) (by omega) (Nat.mod_lt _ (by omega))
    rw [← Nat.add_assoc, ← Nat.add_assoc] at e8
    rw [e8]
    exact i5 a w ha hw
/-- the rows of chairs taken away, of both forms -/
def vRow (V : xV) : xG := fun r i => if r = 0 then nI (vtn V i) else if r = 1 then vsa V i else x_on (vsi V i)
theorem vTk_row : ∀ (k : Nat) (V : xV), k < vc V → ∀ r i, r < 3 → i < vc V - k → x_tq k (vc V) (vRow V) r i = vRow (vTk k V) r i
  | 0, V, _, r, i, _, _ => rfl
  | k + 1, V, hk, r, i, hr, hi => by
    show x_tq k (vc V - 1) (fun r => x_rm (vRow V r) (x_mw (vRow V 1) (vc V - 1))) r i = vRow (vTk k (vTk1 V)) r i
    have ih := vTk_row k (vTk1 V) (show k < vc V - 1 by omega) r i hr (show i < vc V - 1 - k by omega)
    rw [← ih]
    refine x_tq_congr k (vc V - 1) _ _ (by omega) (fun r i h1 h2 => ?_) r i hr (by omega)
    show (if i < x_mw (vsa V) (vc V - 1) then vRow V r i else vRow V r (i + 1)) = vRow (vTk1 V) r i
    have h3 : r = 0 ∨ r = 1 ∨ r = 2 := by omega
    rcases h3 with rfl | rfl | rfl
    · show (if _ then nI (vtn V i) else nI (vtn V (i + 1))) = nI (if i < x_mw (vsa V) (vc V - 1) then vtn V i else vtn V (i + 1))
      split <;> rfl
    · rfl
    · show (if _ then x_on (vsi V i) else x_on (vsi V (i + 1))) = x_on (if i < x_mw (vsa V) (vc V - 1) then vsi V i else vsi V (i + 1))
      split <;> rfl
/-- what taking away leaves -/
theorem vTk_fix : ∀ (k : Nat) (V : xV), vph (vTk k V) = vph V ∧ vfw (vTk k V) = vfw V ∧ vbt (vTk k V) = vbt V ∧ vc (vTk k V) = vc V - k ∧ vn (vTk k V) = vn V ∧ vrd (vTk k V) = vrd V ∧ vtk (vTk k V) = vtk V ∧ vtg (vTk k V) = vtg V + nI k ∧ vlo (vTk k V) = vlo V ∧ (vTk k V).2.2.2 = V.2.2.2
  | 0, V => ⟨rfl, rfl, rfl, rfl, rfl, rfl, rfl, by show vtg V = vtg V + nI 0; exact (Int32.add_zero _).symm, rfl, rfl⟩
  | k + 1, V => by
    obtain ⟨a1, a2, a3, a4, a5, a6, a7, a8, a9, a10⟩ := vTk_fix k (vTk1 V)
    refine ⟨a1, a2, a3, ?_, a5, a6, a7, ?_, a9, a10⟩
    · show vc (vTk k (vTk1 V)) = _
      rw [a4]
      show vc V - 1 - k = _
      omega
    · show vtg (vTk k (vTk1 V)) = _
      rw [a8]
      show vtg V + nI 1 + nI k = _
      rw [Int32.add_assoc, nI_add, Nat.add_comm]
