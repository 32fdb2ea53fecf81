/-! ===== the reference: what would be ===== -/
theorem MS_fr {g g' : xG} {T : xT} (h : MS g T) (hk : tOk T) (e1 : ∀ j, j < 233 → g' 158 j = g 158 j) (e2 : ∀ j, j ≠ 12 → g' 157 j = g 157 j) (e3 : g' 161 = g 161) (e4 : g' 162 = g 162) : MS g' T := by
  obtain ⟨h1, h2, h3, h4, h5⟩ := h
  refine ⟨MG_eq ⟨hk.1.1.2.2.2.2.1, hk.1.1.2.2.2.2.2⟩ h1 e1, ?_, fun a ha => ?_, ?_, fun i hi => ?_⟩
  · rw [e2 4 (by decide)]
    exact h2
  · rw [e3]
    exact h3 a ha
  · rw [e2 6 (by decide)]
    exact h4
  · rw [e4]
    exact h5 i hi
/-- the answer of ifStopped, of a picture -/
def x_ifq (X : xX) (p w : Nat) : Int32 := if w = 0 then x_nf (XS X p) else if w = 1 then nI (XB X p) else nI (XT X p)
set_option maxHeartbeats 16000000 in
theorem m_ifStoppedBy (d T p w : Nat) (V : xV) (P0 P : Nat → Nat) (g : xG) (Q : xQ) (h : MG (g 158) V P) (hk : vOkw V) (h1 : vph V = 1) (hP0 : ∀ p, P0 p < vc V) (hP : ∀ p, p < vn V → vin V p = true → P p = P0 p) (hT : T ≤ 17) (hT2 : 1 ≤ T) (hT0 : ∀ p, p < vn V → XG (xIt (vn V) (vc V) (vhr V) (xBeg (vin V) P0) T) p = false) (hT1 : ∀ t, t < T → ∃ p, p < vn V ∧ XG (xIt (vn V) (vc V) (vhr V) (xBeg (vin V) P0) t) p = true) (hp : p < vn V) (hi : vin V p = true) (hw : w < 3)
    (k : ∀ g' : xG, (∀ j, j < 233 → g' 158 j = g 158 j) → (∀ j, j ≠ 12 → g' 157 j = g 157 j) → (∀ a, (a < 157 ∨ (159 < a ∧ a < 163)) → g' a = g a) → Q (some (.int (x_ifq (xIt (vn V) (vc V) (vhr V) (xBeg (vin V) P0) T) p w))) g') : Cx (d + 7) i_Md_ifStoppedBy [.ref 157, .int (nI p), .int (nI w)] g Q := by
  obtain ⟨⟨b1, b2, b3, b4, b5, b6⟩, -, hc1, -⟩ := id hk
  obtain ⟨hc1, -⟩ := hc1 h1
  have hbu : g 158 (65 + 9 * p + 5) = vbu V p := (h.2.2.1 p hp).2.2.2.2.2.1
  have hI0 : xIv (vn V) (vc V) 0 (xBeg (vin V) P0) := ⟨fun j => Nat.le_refl _, fun j q (h : (none : Option Nat) = some q) => (by cases h), fun p _ _ => hP0 p, fun p => Nat.le_refl _, fun p => Nat.le_refl _, fun p q (h : (none : Option Nat) = some q) => (by cases h)⟩
  have hX : xIv (vn V) (vc V) T (xIt (vn V) (vc V) (vhr V) (xBeg (vin V) P0) T) := xIv_it hc1 hI0 T
  have hJ : xJ V (xIt (vn V) (vc V) (vhr V) (xBeg (vin V) P0) T) := xJ_it T
  refine r_cl (L0 := [some (.ref 157), some (.int (nI p)), some (.int (nI w)), none]) rfl (Or.inr ⟨_, _, _, rfl, rfl⟩) rfl rfl rfl ?_
  refine r_run 400 rfl rfl ?_
  refine r_ins rfl rfl rfl rfl rfl ?_
  refine m_copies_158_159 (d + 5) 0 0 g _ (by omega) (by omega) (fun g1 a1 a2 a3 => ?_)
  simp only [Nat.zero_add] at a1
  refine r_run 400 rfl rfl ?_
  refine r_inv rfl rfl rfl ?_
  refine m_gropesAll d T V P0 P g1 _ (MG_f (a3 158 (by decide)) h) hk h1 hP0 hP hT hT2 hT0 hT1 (fun g2 P2 c1 c2 c3 c4 => ?_)
  have h0 := hT0 p hp
  generalize hXX : xIt (vn V) (vc V) (vhr V) (xBeg (vin V) P0) T = X at *
  have c1' : MG (g2 158) (wS (vTick V T) _ _ _ _ _ _ _ _) P2 := c1
  rw [MG_wS] at c1'
  obtain ⟨-, -, y3, -⟩ := c1'
  obtain ⟨z1, z2, z3, z4, z5, z6, z7, z8, z9⟩ := y3 p hp
  have z6 : g2 158 (65 + 9 * p + 5) = vbu V p + nI (XB X p) := z6
  have z9 : g2 158 (65 + 9 * p + 8) = nI (if (XO X p || (XS X p).isSome) = true then XT X p else vti V p) := z9
  have hseat : g2 164 p = x_on (XS X p) := c2.2.2.1 p hp
  have fin : ∀ (v : Int32), v = x_ifq X p w → Rx (d + 6) m_Md_ifStoppedBy Q 80 [some (.ref 157), some (.int (nI p)), some (.int (nI w)), none] [.int v] g2 := by
    intro v hv
    refine r_run 400 rfl rfl ?_
    refine r_ins rfl rfl rfl rfl rfl ?_
    refine m_copies_159_158 (d + 5) 0 0 g2 _ (by omega) (by omega) (fun g3 e1 e2 e3 => ?_)
    simp only [Nat.zero_add] at e1
    refine r_run 400 rfl rfl ?_
    rw [hv]
    refine r_iret rfl rfl (k g3 (fun j hj => ?_) (fun j hj => ?_) (fun a ha => ?_))
    · rw [e1 j hj, c4 159 (by decide), a1 j hj]
    · rw [e3 157 (by decide), c3 j hj, a3 157 (by decide)]
    · rw [e3 a (by omega), c4 a (by omega), a3 a (by omega)]
  refine r_run 400 rfl rfl ?_
  have e3 : w = 0 ∨ w = 1 ∨ w = 2 := by omega
  unfold x_ifq at fin
  rcases e3 with rfl | rfl | rfl
  · rw [if_pos rfl] at fin
    refine t_ne0 rfl ?_
    refine r_run 400 rfl rfl ?_
    refine r_ald (j := p) rfl rfl rfl (by omega) (Nat.le_of_ble_eq_true rfl) ?_
    simp only [Nat.reduceAdd]
    rw [hseat]
    cases hs : XS X p with
    | none =>
      rw [hs] at fin
      refine r_ge0 rfl (fun z => absurd z (by decide)) (fun _ => ?_)
      refine r_to 80 60 rfl rfl ?_
      exact fin _ rfl
    | some q =>
      rw [hs] at fin
      have := hX.2.2.2.2.2 p q hs
      refine r_ge0 rfl (fun _ => ?_) (fun z => absurd (Int32.not_lt.mp (nI_pos (by omega))) z)
      refine r_run 400 rfl rfl ?_
      refine r_ald (j := p) rfl rfl rfl (by omega) (Nat.le_of_ble_eq_true rfl) ?_
      simp only [Nat.reduceAdd]
      rw [hseat, hs]
      refine r_to 80 60 rfl rfl ?_
      exact fin _ rfl
  · rw [if_neg (by decide), if_pos rfl] at fin
    refine t_ne1 rfl ?_
    refine r_run 400 rfl rfl ?_
    refine n_ine rfl (by omega) (by omega) (fun z => absurd rfl z) (fun _ => ?_)
    refine r_run 400 rfl rfl ?_
    refine r_inv rfl rfl rfl ?_
    refine m_of (d + 5) p 5 _ _ (by omega) (by omega) ?_
    rw [z6]
    refine r_run 400 rfl rfl ?_
    simp only [pk_mul, nI_add]
    refine r_ald (j := 65 + 9 * p + 5) rfl rfl rfl (by omega) (Nat.le_of_ble_eq_true rfl) ?_
    simp only [Nat.reduceAdd]
    rw [c4 159 (by decide), a1 _ (by omega), hbu]
    refine r_to 80 60 rfl rfl ?_
    refine fin _ ?_
    rw [Int32.add_comm, Int32.add_sub_cancel]
  · rw [if_neg (by decide), if_neg (by decide)] at fin
    refine r_ne0 rfl (fun _ => ?_) (fun z => absurd z (by decide))
    refine r_run 400 rfl rfl ?_
    refine n_ine rfl (by omega) (by omega) (fun _ => ?_) (fun z => by omega)
    refine r_run 400 rfl rfl ?_
    refine r_inv rfl rfl rfl ?_
    refine m_of (d + 5) p 8 _ _ (by omega) (by omega) ?_
    have e : (XO X p || (XS X p).isSome) = true := by
      rw [hJ.1 p, hi] at h0
      cases ho : XO X p with
      | true => rfl
      | false =>
        rw [ho] at h0
        cases hs : XS X p with
        | none => rw [hs] at h0; cases h0
        | some q => rfl
    rw [z9, if_pos e]
    refine r_to 80 60 rfl rfl ?_
    exact fin _ rfl
/-- b beats from now, one by one -/
def vW (V : xV) : Nat → xV
  | 0 => V
  | b + 1 => vBeat (vW V b) 1
theorem vW_fix (V : xV) : ∀ b, vn (vW V b) = vn V ∧ vc (vW V b) = vc V ∧ vhr (vW V b) = vhr V ∧ vin (vW V b) = vin V ∧ vst (vW V b) = vst V ∧ vph (vW V b) = vph V
  | 0 => ⟨rfl, rfl, rfl, rfl, rfl, rfl⟩
  | b + 1 => vW_fix V b
theorem vOkw_beat {V : xV} (h : vOkw V) (h1 : vph V = 1) : vOkw (vBeat V 1) := by
  obtain ⟨⟨b1, b2, b3, b4, b5, b6⟩, -, hc1, vt8, wsi, wpl, -⟩ := h
  have hc := (hc1 h1).1
  refine ⟨⟨b1, b2, b3, trivial, b5, b6⟩, trivial, hc1, vt8, wsi, fun p hp => ?_, trivial⟩
  obtain ⟨z1, z2, z3, z4⟩ := wpl p hp
  refine ⟨z1, z2, ?_, z4⟩
  show (if vin V p = true then (vpl V p + vst V p * 1) % vc V else vpl V p) < 16
  have := Nat.mod_lt (vpl V p + vst V p * 1) (show 0 < vc V by omega)
  split <;> omega
theorem vOkw_W {V : xV} (h : vOkw V) (h1 : vph V = 1) : ∀ b, vOkw (vW V b)
  | 0 => h
  | b + 1 => vOkw_beat (vOkw_W h h1 b) ((vW_fix V b).2.2.2.2.2.trans h1)
set_option maxHeartbeats 4000000 in
theorem m_ifAt (d b p w : Nat) (V : xV) (g : xG) (Q : xQ) (h : MG (g 158) (vW V b) (fun p => (vpl V p + vst V p * b) % vc V)) (hk : vOk V) (h1 : vph V = 1) (hp : p < vn V) (hi : vin V p = true) (hw : w < 3)
    (k : ∀ g' : xG, (∀ j, j < 233 → g' 158 j = g 158 j) → (∀ j, j ≠ 12 → g' 157 j = g 157 j) → (∀ a, (a < 157 ∨ (159 < a ∧ a < 163)) → g' a = g a) → Q (some (.int (x_ifq (vX V b (vTT V b)) p w))) g') : Cx (d + 7) i_Md_ifStoppedBy [.ref 157, .int (nI p), .int (nI w)] g Q := by
  obtain ⟨f1, f2, f3, f4, f5, f6⟩ := vW_fix V b
  have hkw := vOkw_W (vOk_w hk) h1 b
  obtain ⟨⟨b1, b2, b3, b4, b5, b6⟩, -, hc1, -⟩ := id hk
  obtain ⟨hc1, hc2⟩ := hc1 h1
  have hT := vT_ex (b := b) hc1 b5
  have hT2 := vT_pos hT hc2
  have eX : ∀ t, xIt (vn (vW V b)) (vc (vW V b)) (vhr (vW V b)) (xBeg (vin (vW V b)) (fun p => (vpl V p + vst V p * b) % vc V)) t = vX V b t := fun t => by
    rw [f1, f2, f3, f4]
    rfl
  refine m_ifStoppedBy d (vTT V b) p w (vW V b) (fun p => (vpl V p + vst V p * b) % vc V) _ g Q h hkw (f6.trans h1) (fun p => by rw [f2]; exact Nat.mod_lt _ (by omega)) (fun _ _ _ => rfl) hT.1 hT2 (fun p hp => ?_) (fun t ht => ?_) (by rw [f1]; exact hp) (by rw [f4]; exact hi) hw (fun g' a1 a2 a3 => ?_)
  · rw [f1] at hp
    rw [eX]
    exact hT.2.1 p hp
  · obtain ⟨p, h1, h2⟩ := hT.2.2 t ht
    refine ⟨p, by rw [f1]; exact h1, ?_⟩
    rw [eX]
    exact h2
  · rw [eX]
    exact k g' a1 a2 a3
theorem MG_at {f : Nat → Int32} {V : xV} (h : MG f V (vpl V)) (hk : vOk V) : MG f (vW V 0) (fun p => (vpl V p + vst V p * 0) % vc V) :=
  MG_P h (fun h1 p hp hi => by
    show vpl V p = (vpl V p + vst V p * 0) % vc V
    rw [Nat.mul_zero, Nat.add_zero, Nat.mod_eq_of_lt (hk.2.2.2.2.2.2 h1 p hp hi)])
set_option maxHeartbeats 4000000 in
theorem n_ifStopped (d : Nat) (T : xT) (p w : Int32) (g : xG) (Q : xQ) (h : MS g T) (hk : tOk T) (k : ∀ g' : xG, MS g' T → (∀ a, a < 157 → g' a = g a) → Q (some (.int (qIf (tV T) p w))) g') : Cx (d + 8) i_Md_ifStopped [.ref 157, .int p, .int w] g Q := by
  have hvk := hk.1
  obtain ⟨⟨v1, v2, v3, v4, v5, v6⟩, -⟩ := id hvk
  obtain ⟨⟨w0, w1, w2, -⟩, -, h3, -⟩ := h.1
  unfold qIf at k
  have bad : ¬ (iN p < vn (tV T) ∧ iN w < 3) → Rx (d + 7) m_Md_ifStopped Q 17 [some (.ref 157), some (.int p), some (.int w)] [] g := by
    intro hno
    rw [if_neg hno] at k
    refine r_run 400 rfl rfl ?_
    exact r_iret rfl rfl (k g h (fun _ _ => rfl))
  refine r_cl (L0 := [some (.ref 157), some (.int p), some (.int w)]) rfl (Or.inr ⟨_, _, _, rfl, rfl⟩) rfl rfl rfl ?_
  refine r_run 400 rfl rfl ?_
  refine r_inv rfl rfl rfl ?_
  refine m_isPlayer (d + 5) (vn (tV T)) p g _ w2 v6 (fun hp => ?_) (fun hp => ?_)
  · refine t_eq1 rfl ?_
    refine r_run 400 rfl rfl ?_
    refine r_ins rfl rfl rfl rfl rfl ?_
    refine m_in (d + 6) w (nI 0) (nI 2) g _ (fun t1 t2 => ?_) (fun t1 => ?_)
    · obtain ⟨x, rfl, hx1, hx2⟩ := x_in_nat (by omega) (by omega) t1 t2
      have ex : iN (nI x) = x := iN_nI (by omega)
      rw [ex] at k
      clear bad
      rw [if_pos ⟨hp, by omega⟩] at k
      refine t_ne1 rfl ?_
      have hpp : p = nI (iN p) := (nI_iN p).symm
      generalize iN p = q at hp hpp k
      subst hpp
      have bad2 : ¬ (vph (tV T) = 1 ∧ vin (tV T) q = true) → Rx (d + 7) m_Md_ifStopped Q 38 [some (.ref 157), some (.int (nI q)), some (.int (nI x))] [] g := by
        intro hno
        rw [if_neg hno] at k
        refine r_run 400 rfl rfl ?_
        exact r_iret rfl rfl (k g h (fun _ _ => rfl))
      refine r_run 400 rfl rfl ?_
      refine r_ald (j := 0) rfl rfl rfl (by decide) (Nat.le_of_ble_eq_true rfl) ?_
      refine r_run 400 rfl rfl ?_
      simp only [Nat.reduceAdd]
      rw [w0]
      refine n_ine rfl (by omega) (by omega) (fun hph => bad2 (fun z => hph z.1)) (fun hph => ?_)
      refine r_run 400 rfl rfl ?_
      refine r_inv rfl rfl rfl ?_
      refine m_isIn (d + 5) q (vin (tV T) q) g _ (by omega) (h3 q hp).2.2.1 (fun hi => ?_) (fun hi => ?_)
      · rw [if_pos ⟨hph, hi⟩] at k
        refine t_ne1 rfl ?_
        refine r_run 400 rfl rfl ?_
        refine r_inv rfl rfl rfl ?_
        refine m_ifAt d 0 q x (tV T) g _ (MG_at h.1 hvk) hvk hph hp hi (by omega) (fun g2 a1 a2 a3 => ?_)
        refine r_iret rfl rfl ?_
        have kk := k g2 (MS_fr h hk a1 a2 (a3 161 (by decide)) (a3 162 (by decide))) (fun a ha => a3 a (by omega))
        have e3 : x = 0 ∨ x = 1 ∨ x = 2 := by omega
        unfold x_ifq
        rcases e3 with rfl | rfl | rfl
        · rw [if_pos rfl] at kk ⊢
          cases hs : XS (vX (tV T) 0 (vTT (tV T) 0)) q with
          | none => rw [hs] at kk; exact kk
          | some s => rw [hs] at kk; exact kk
        · exact kk
        · exact kk
      · refine t_ne0 rfl ?_
        exact bad2 (fun z => by rw [hi] at z; cases z.2)
    · refine t_ne0 rfl ?_
      refine bad (fun z => t1 ?_)
      rw [← nI_iN w]
      exact ⟨(nI_leI (by omega) (by omega)).mpr (by omega), (nI_leI (by omega) (by omega)).mpr (by omega)⟩
  · refine t_eq0 rfl ?_
    exact bad (fun z => hp z.1)
set_option maxHeartbeats 4000000 in
theorem n_outs (d : Nat) (T : xT) (g : xG) (Q : xQ) (h : MS g T) (hk : tOk T) (k : ∀ g' : xG, MS g' T → (∀ a, a < 157 → g' a = g a) → Q (some (.int (qOuts (tV T)))) g') : Cx (d + 7) i_Md_outs [.ref 157] g Q := by
  have hvk := hk.1
  obtain ⟨⟨v1, v2, v3, v4, v5, v6⟩, -, hc1, -, -, -, wpp⟩ := id hvk
  have w0 : g 158 0 = nI (vph (tV T)) := h.1.1.1
  unfold qOuts at k
  refine r_cl (L0 := [some (.ref 157)]) rfl (Or.inr ⟨_, _, _, rfl, rfl⟩) rfl rfl rfl ?_
  refine r_run 400 rfl rfl ?_
  refine r_ald (j := 0) rfl rfl rfl (by decide) (Nat.le_of_ble_eq_true rfl) ?_
  refine r_run 400 rfl rfl ?_
  simp only [Nat.reduceAdd]
  rw [w0]
  refine n_ieq rfl (by omega) (by omega) (fun z => ?_) (fun z => ?_)
  · rw [if_pos z] at k
    unfold aStop at k
    obtain ⟨hc1, hc2⟩ := hc1 z
    have hT := vT_ex (b := 0) hc1 v5
    have hT2 := vT_pos hT hc2
    refine r_run 400 rfl rfl ?_
    refine r_ins rfl rfl rfl rfl rfl ?_
    refine m_copies_158_159 (d + 5) 0 0 g _ (by omega) (by omega) (fun g1 a1 a2 a3 => ?_)
    simp only [Nat.zero_add] at a1
    refine r_run 400 rfl rfl ?_
    refine r_inv rfl rfl rfl ?_
    refine m_gropesAll d (vTT (tV T) 0) (tV T) (fun p => (vpl (tV T) p + vst (tV T) p * 0) % vc (tV T)) (vpl (tV T)) g1 _ (MG_f (a3 158 (by decide)) h.1) (vOk_w hvk) z (fun p => Nat.mod_lt _ (by omega)) (fun p hp hi => ?_) hT.1 hT2 hT.2.1 hT.2.2 (fun g2 P2 c1 c2 c3 c4 => ?_)
    · show vpl (tV T) p = (vpl (tV T) p + vst (tV T) p * 0) % vc (tV T)
      rw [Nat.mul_zero, Nat.add_zero, Nat.mod_eq_of_lt (wpp z p hp hi)]
    · have c2o : x_mk (g2 157 12) (vn (tV T)) (XO (vX (tV T) 0 (vTT (tV T) 0))) := c2.1
      refine r_run 400 rfl rfl ?_
      refine r_ins rfl rfl rfl rfl rfl ?_
      refine m_copies_159_158 (d + 5) 0 0 g2 _ (by omega) (by omega) (fun g3 e1 e2 e3 => ?_)
      simp only [Nat.zero_add] at e1
      refine r_run 400 rfl rfl ?_
      simp only [Nat.reduceAdd]
      rw [e3 157 (by decide), x_mk_enc c2o]
      refine r_iret rfl rfl (k g3 (MS_fr h hk (fun j hj => ?_) (fun j hj => ?_) ?_ ?_) (fun a ha => ?_))
      · rw [e1 j hj, c4 159 (by decide), a1 j hj]
      · rw [e3 157 (by decide), c3 j hj, a3 157 (by decide)]
      · rw [e3 161 (by decide), c4 161 (by decide), a3 161 (by decide)]
      · rw [e3 162 (by decide), c4 162 (by decide), a3 162 (by decide)]
      · rw [e3 a (by omega), c4 a (by omega), a3 a (by omega)]
  · rw [if_neg z] at k
    refine r_run 400 rfl rfl ?_
    exact r_iret rfl rfl (k g h (fun _ _ => rfl))
set_option maxHeartbeats 4000000 in
theorem n_safeIn (d : Nat) (T : xT) (p : Int32) (g : xG) (Q : xQ) (h : MS g T) (hk : tOk T) (k : ∀ g' : xG, MS g' T → (∀ a, a < 157 → g' a = g a) → Q (some (.int (qSafe (tV T) p))) g') : Cx (d + 8) i_Md_safeIn [.ref 157, .int p] g Q := by
  have hvk := hk.1
  obtain ⟨⟨v1, v2, v3, v4, v5, v6⟩, -, hc1, -, -, wpl, wpp⟩ := id hvk
  obtain ⟨⟨w0, w1, w2, -⟩, -, h3, -⟩ := h.1
  unfold qSafe at k
  refine r_cl (L0 := [some (.ref 157), some (.int p), none, none, none]) rfl (Or.inr ⟨_, _, _, rfl, rfl⟩) rfl rfl rfl ?_
  refine r_run 400 rfl rfl ?_
  refine r_inv rfl rfl rfl ?_
  refine m_isPlayer (d + 5) (vn (tV T)) p g _ w2 v6 (fun hp => ?_) (fun hp => ?_)
  · refine t_ne1 rfl ?_
    rw [if_pos hp] at k
    have hpp : p = nI (iN p) := (nI_iN p).symm
    generalize iN p = q at hp hpp k
    subst hpp
    have bad2 : ¬ (vph (tV T) = 1 ∧ vin (tV T) q = true) → Rx (d + 7) m_Md_safeIn Q 29 [some (.ref 157), some (.int (nI q)), none, none, none] [] g := by
      intro hno
      rw [if_neg hno] at k
      refine r_run 400 rfl rfl ?_
      exact r_iret rfl rfl (k g h (fun _ _ => rfl))
    refine r_run 400 rfl rfl ?_
    refine r_ald (j := 0) rfl rfl rfl (by decide) (Nat.le_of_ble_eq_true rfl) ?_
    refine r_run 400 rfl rfl ?_
    simp only [Nat.reduceAdd]
    rw [w0]
    refine n_ine rfl (by omega) (by omega) (fun hph => bad2 (fun z => hph z.1)) (fun hph => ?_)
    refine r_run 400 rfl rfl ?_
    refine r_inv rfl rfl rfl ?_
    refine m_isIn (d + 5) q (vin (tV T) q) g _ (by omega) (h3 q hp).2.2.1 (fun hi => ?_) (fun hi => ?_)
    · rw [if_pos ⟨hph, hi⟩] at k
      clear bad2
      obtain ⟨hc1, hc2⟩ := hc1 hph
      refine t_ne1 rfl ?_
      -- the row comes back
      have fin : ∀ (v : Int32) (l3 l4 : Option Value) (g' : xG), v = (if vSafe (tV T) q < 25 then nI (vSafe (tV T) q) else -1000004) → (∀ j, j < 233 → g' 160 j = g 158 j) → (∀ j, j ≠ 12 → g' 157 j = g 157 j) → (∀ a, (a < 157 ∨ a = 161 ∨ a = 162) → g' a = g a) → Rx (d + 7) m_Md_safeIn Q 90 [some (.ref 157), some (.int (nI q)), some (.int v), l3, l4] [] g' := by
        intro v l3 l4 g' hv a1 a2 a3
        refine r_run 400 rfl rfl ?_
        refine r_ins rfl rfl rfl rfl rfl ?_
        refine m_copies_160_158 (d + 6) 0 0 g' _ (by omega) (by omega) (fun g3 e1 e2 e3 => ?_)
        simp only [Nat.zero_add] at e1
        refine r_run 400 rfl rfl ?_
        rw [hv]
        refine r_iret rfl rfl (k g3 (MS_fr h hk (fun j hj => ?_) (fun j hj => ?_) ?_ ?_) (fun a ha => ?_))
        · rw [e1 j hj, a1 j hj]
        · rw [e3 157 (by decide), a2 j hj]
        · rw [e3 161 (by decide), a3 161 (by decide)]
        · rw [e3 162 (by decide), a3 162 (by decide)]
        · rw [e3 a (by omega), a3 a (by omega)]
      have loop : ∀ b, b ≤ 25 → ∀ (g' : xG) (l4 : Option Value), MG (g' 158) (vW (tV T) b) (fun p => (vpl (tV T) p + vst (tV T) p * b) % vc (tV T)) → (∀ c, c < b → (XS (vX (tV T) c (vTT (tV T) c)) q).isSome = false) → (∀ j, j < 233 → g' 160 j = g 158 j) → (∀ j, j ≠ 12 → g' 157 j = g 157 j) → (∀ a, (a < 157 ∨ a = 161 ∨ a = 162) → g' a = g a) → Rx (d + 7) m_Md_safeIn Q 50 [some (.ref 157), some (.int (nI q)), some (.int (-1000004)), some (.int (nI b)), l4] [] g' := by
        refine r_for ?_ ?_
        · intro g' l4 a1 a2 a3 a4 a5
          have hv : vSafe (tV T) q = 25 := x_lf_none 25 0 (fun j _ hj => a2 j (by omega))
          refine r_run 400 rfl rfl ?_
          refine n_igt rfl (by omega) (by omega) (fun _ => ?_) (fun h => by omega)
          exact fin _ _ _ g' (by rw [if_neg (by omega)]) a3 a4 a5
        · intro b hb ih g' l4 a1 a2 a3 a4 a5
          obtain ⟨f1, f2, f3, f4, f5, f6⟩ := vW_fix (tV T) b
          -- behind the beat
          have walk : ∀ (v : Int32) (g2 : xG) (l4 : Option Value), (∀ j, j < 233 → g2 158 j = g' 158 j) → (∀ g3 : xG, MG (g3 158) (vW (tV T) (b + 1)) (fun p => (vpl (tV T) p + vst (tV T) p * (b + 1)) % vc (tV T)) → (∀ a, a ≠ 158 → g3 a = g2 a) → ∀ l4, Rx (d + 7) m_Md_safeIn Q 50 [some (.ref 157), some (.int (nI q)), some (.int v), some (.int (nI (b + 1))), l4] [] g3) → Rx (d + 7) m_Md_safeIn Q 76 [some (.ref 157), some (.int (nI q)), some (.int (-1000004)), some (.int (nI b)), l4] [.int v] g2 := by
            intro v g2 l4 c1 kk
            have a1' : MG (g2 158) (vW (tV T) b) (fun p => (vpl (tV T) p + vst (tV T) p * b) % vc (tV T)) := MG_eq ⟨by rw [f2]; exact v5, by rw [f1]; exact v6⟩ a1 c1
            refine r_run 400 rfl rfl ?_
            refine r_inv rfl rfl rfl ?_
            refine m_goBeat (d + 4) 1 (vW (tV T) b) _ g2 _ a1' (by rw [f2]; exact v5) (by rw [f1]; exact v6) (by rw [f2]; exact hc1) (fun p hp => by rw [f5]; rw [f1] at hp; exact (wpl p hp).1) (fun p hp _ => by have := Nat.mod_lt (vpl (tV T) p + vst (tV T) p * b) (show 0 < vc (tV T) by omega); show (vpl (tV T) p + vst (tV T) p * b) % vc (tV T) < 16; omega) (f6.trans hph) (by omega) (fun g3 e1 e2 => ?_)
            refine r_to 50 60 rfl rfl ?_
            simp only [nI_add]
            refine kk g3 (MG_P e1 (fun _ p hp hi => ?_)) e2 _
            show ((vpl (tV T) p + vst (tV T) p * b) % vc (tV T) + vst (vW (tV T) b) p * 1) % vc (vW (tV T) b) = (vpl (tV T) p + vst (tV T) p * (b + 1)) % vc (tV T)
            rw [f5, f2, Nat.mod_add_mod, Nat.mul_one, Nat.mul_succ, Nat.add_assoc]
          refine r_run 400 rfl rfl ?_
          refine n_igt rfl (by omega) (by omega) (fun h => by omega) (fun _ => ?_)
          refine r_run 400 rfl rfl ?_
          refine r_ine rfl (fun z => absurd rfl z) (fun _ => ?_)
          refine r_run 400 rfl rfl ?_
          refine r_inv rfl rfl rfl ?_
          refine m_ifAt d b q 0 (tV T) g' _ a1 hvk hph hp hi (by omega) (fun g2 c1 c2 c3 => ?_)
          refine r_run 400 rfl rfl ?_
          have hI := vIv (V := tV T) (b := b) hc1 (vTT (tV T) b)
          show Rx _ _ _ _ _ [.int (x_nf (XS (vX (tV T) b (vTT (tV T) b)) q))] _
          cases hs : XS (vX (tV T) b (vTT (tV T) b)) q with
          | none =>
            refine r_lt0 rfl (fun _ => ?_) (fun z => absurd (show x_nf none < 0 by decide) z)
            refine r_to 76 60 rfl rfl ?_
            refine walk _ g2 _ c1 (fun g3 e1 e2 l4 => ?_)
            refine ih g3 l4 e1 (fun c hc => ?_) (fun j hj => by rw [e2 160 (by decide), c3 160 (by decide)]; exact a3 j hj) (fun j hj => by rw [e2 157 (by decide), c2 j hj]; exact a4 j hj) (fun a ha => by rw [e2 a (by omega), c3 a (by omega)]; exact a5 a ha)
            by_cases e : c = b
            · subst e
              rw [hs]
              rfl
            · exact a2 c (by omega)
          | some s =>
            have hsc := hI.2.2.2.2.2 q s hs
            have hv : vSafe (tV T) q = b := x_lf_eq (Nat.zero_le _) (by omega) (by rw [hs]; rfl) (fun j _ hj => a2 j hj)
            refine r_lt0 rfl (fun z => absurd z (nI_pos (by omega))) (fun _ => ?_)
            refine r_to 76 60 rfl rfl ?_
            refine walk _ g2 _ c1 (fun g3 e1 e2 l4 => ?_)
            have fin2 : ∀ l3 l4, Rx (d + 7) m_Md_safeIn Q 90 [some (.ref 157), some (.int (nI q)), some (.int (nI b)), l3, l4] [] g3 := fun l3 l4 => fin _ _ _ g3 (by rw [hv, if_pos hb]) (fun j hj => by rw [e2 160 (by decide), c3 160 (by decide)]; exact a3 j hj) (fun j hj => by rw [e2 157 (by decide), c2 j hj]; exact a4 j hj) (fun a ha => by rw [e2 a (by omega), c3 a (by omega)]; exact a5 a ha)
            refine r_run 400 rfl rfl ?_
            refine n_igt rfl (by omega) (by omega) (fun _ => fin2 _ _) (fun _ => ?_)
            refine r_run 400 rfl rfl ?_
            refine r_ine rfl (fun _ => fin2 _ _) (fun z => ?_)
            exfalso
            have : nI b < 0 := by rw [z]; decide
            exact nI_pos (by omega) this
      refine r_run 400 rfl rfl ?_
      refine r_ins rfl rfl rfl rfl rfl ?_
      refine m_copies_158_160 (d + 6) 0 0 g _ (by omega) (by omega) (fun g1 e1 e2 e3 => ?_)
      simp only [Nat.zero_add] at e1
      refine r_to 50 60 rfl rfl ?_
      exact loop 0 (Nat.zero_le _) g1 _ (MG_f (e3 158 (by decide)) (MG_at h.1 hvk)) (fun c hc => absurd hc (Nat.not_lt_zero _)) e1 (fun j _ => by rw [e3 157 (by decide)]) (fun a ha => e3 a (by omega))
    · refine t_ne0 rfl ?_
      exact bad2 (fun z => by rw [hi] at z; cases z.2)
  · refine t_ne0 rfl ?_
    rw [if_neg hp] at k
    refine r_run 400 rfl rfl ?_
    exact r_iret rfl rfl (k g h (fun _ _ => rfl))
