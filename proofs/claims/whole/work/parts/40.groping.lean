/-! ===== the reference gropes: the state while it does, its small methods ===== -/
/-- what groping asks of a state: a round's beats may be any number -/
def vOkw (V : xV) : Prop := (vph V ≤ 2 ∧ 1 ≤ vfw V ∧ vfw V ≤ 3 ∧ True ∧ vc V ≤ 16 ∧ vn V ≤ 12) ∧ True ∧ (vph V = 1 → 1 ≤ vc V ∧ vc V < x_cnt (vin V) (vn V)) ∧ (∀ j, j < vc V → vtn V j ≤ 8) ∧ (∀ j q, vsi V j = some q → q < 12) ∧ (∀ p, p < vn V → vst V p ≤ 9 ∧ vea V p < 512 ∧ vpl V p < 16 ∧ vti V p ≤ 17) ∧ True
theorem vOk_w {V : xV} (h : vOk V) : vOkw V := by
  obtain ⟨⟨b1, b2, b3, b4, b5, b6⟩, h2, h3, h4, h5, h6, h7⟩ := h
  exact ⟨⟨b1, b2, b3, trivial, b5, b6⟩, trivial, h3, h4, h5, h6, trivial⟩
/-- a state with what groping changes -/
def wS (V : xV) (sa : Nat → Int32) (si : Nat → Option Nat) (inn : Nat → Bool) (ss bu ou : Nat → Int32) (ti : Nat → Nat) (R : xR) : xV := vV (vph V) (vfw V) (vbt V) (vc V) (vn V) (vrd V) (vtk V) (vtg V) (vlo V) (vtn V) sa si (vst V) (vea V) inn (vpl V) ss bu (vwa V) ou ti R
theorem MG_wS {f : Nat → Int32} {V : xV} {sa : Nat → Int32} {si : Nat → Option Nat} {inn : Nat → Bool} {ss bu ou : Nat → Int32} {ti : Nat → Nat} {R : xR} {P : Nat → Nat} : MG f (wS V sa si inn ss bu ou ti R) P = ((f 0 = nI (vph V) ∧ f 1 = nI (vc V) ∧ f 2 = nI (vn V) ∧ f 3 = nI (vfw V) ∧ f 4 = vrd V ∧ f 5 = nI (vbt V) ∧ f 6 = x_sm ss (vn V) ∧ f 7 = x_sm bu (vn V) ∧ f 9 = vlo V ∧ f 10 = x_sm (vwa V) (vn V) ∧ f 11 = vtk V ∧ f 13 = nI R.1 ∧ f 16 = vtg V) ∧
  (∀ j, j < vc V → f (17 + 3 * j + 0) = nI (vtn V j) ∧ f (17 + 3 * j + 1) = sa j ∧ f (17 + 3 * j + 2) = x_o1 (si j)) ∧
  (∀ p, p < vn V → f (65 + 9 * p + 0) = nI (vst V p) ∧ f (65 + 9 * p + 1) = nI (vea V p) ∧ f (65 + 9 * p + 2) = x_b (inn p) ∧ (vph V = 1 → inn p = true → f (65 + 9 * p + 3) = nI (P p)) ∧ f (65 + 9 * p + 4) = ss p ∧ f (65 + 9 * p + 5) = bu p ∧ f (65 + 9 * p + 6) = vwa V p ∧ f (65 + 9 * p + 7) = ou p ∧ f (65 + 9 * p + 8) = nI (ti p)) ∧
  (R.1 ≤ 12 ∧ ∀ a w, a < R.1 → w < 5 → f (173 + 5 * a + w) = R.2 a w)) := rfl
theorem MG_wc {f : Nat → Int32} {V : xV} {sa sa' : Nat → Int32} {si si' : Nat → Option Nat} {inn inn' : Nat → Bool} {ss bu ou ss' bu' ou' : Nat → Int32} {ti ti' : Nat → Nat} {R R' : xR} {P P' : Nat → Nat} (h : MG f (wS V sa si inn ss bu ou ti R) P) (e1 : ∀ j, j < vc V → sa j = sa' j ∧ si j = si' j) (e2 : ∀ p, p < vn V → inn p = inn' p ∧ ss p = ss' p ∧ bu p = bu' p ∧ ou p = ou' p ∧ ti p = ti' p ∧ (vph V = 1 → inn p = true → P p = P' p)) (e3 : R = R') : MG f (wS V sa' si' inn' ss' bu' ou' ti' R') P' := by
  subst e3
  rw [MG_wS] at h ⊢
  obtain ⟨⟨w0, w1, w2, w3, w4, w5, w6, w7, w9, w10, w11, w13, w16⟩, h2, h3, h4, h5⟩ := h
  refine ⟨⟨w0, w1, w2, w3, w4, w5, ?_, ?_, w9, w10, w11, w13, w16⟩, fun j hj => ?_, fun p hp => ?_, h4, h5⟩
  · rw [w6]
    exact x_sm_congr _ (fun i hi => (e2 i hi).2.1)
  · rw [w7]
    exact x_sm_congr _ (fun i hi => (e2 i hi).2.2.1)
  · obtain ⟨y1, y2⟩ := e1 j hj
    rw [← y1, ← y2]
    exact h2 j hj
  · obtain ⟨y1, y2, y3, y4, y5, y6⟩ := e2 p hp
    rw [← y1, ← y2, ← y3, ← y4, ← y5]
    obtain ⟨z1, z2, z3, z4, z5⟩ := h3 p hp
    exact ⟨z1, z2, z3, fun a b => by rw [← y6 a b]; exact z4 a b, z5⟩
def x_fu {α : Type} (f : Nat → α) (p : Nat) (x : α) : Nat → α := fun q => if q = p then x else f q
theorem x_fu_e {α : Type} {f : Nat → α} {p : Nat} {x : α} : x_fu f p x p = x := if_pos rfl
theorem x_fu_n {α : Type} {f : Nat → α} {p q : Nat} {x : α} (h : ¬ q = p) : x_fu f p x q = f q := if_neg h
/-- f, and at those below i of which b holds: g -/
def x_st {α : Type} (f g : Nat → α) (b : Nat → Bool) (i : Nat) : Nat → α := fun q => if q < i ∧ b q = true then g q else f q
theorem x_st_0 {α : Type} {f g : Nat → α} {b : Nat → Bool} : x_st f g b 0 = f := by
  funext q
  exact if_neg (fun z => Nat.not_lt_zero _ z.1)
theorem x_st_t {α : Type} {f g : Nat → α} {b : Nat → Bool} {p : Nat} (h : b p = true) : x_fu (x_st f g b p) p (g p) = x_st f g b (p + 1) := by
  funext q
  unfold x_fu x_st
  by_cases e : q = p
  · subst e
    rw [if_pos rfl, if_pos ⟨by omega, h⟩]
  · have e1 : (q < p + 1 ∧ b q = true) = (q < p ∧ b q = true) := propext (by
      have : q < p + 1 ↔ q < p := by omega
      rw [this])
    simp only [if_neg e, e1]
theorem x_st_f {α : Type} {f g : Nat → α} {b : Nat → Bool} {p : Nat} (h : b p = false) : x_st f g b (p + 1) = x_st f g b p := by
  funext q
  unfold x_st
  have e1 : (q < p + 1 ∧ b q = true) = (q < p ∧ b q = true) := propext (by
    by_cases e : q = p
    · subst e
      rw [h]
      simp
    · have : q < p + 1 ↔ q < p := by omega
      rw [this])
  simp only [e1]
theorem x_st_i {α : Type} {f g : Nat → α} {b : Nat → Bool} {n p : Nat} (h : p < n) : x_st f g b n p = if b p = true then g p else f p := by
  unfold x_st
  simp only [h, true_and]
theorem x_st_n {α : Type} {f g : Nat → α} {b : Nat → Bool} {n p : Nat} (h : n ≤ p) : x_st f g b n p = f p := if_neg (fun z => by omega)
set_option maxHeartbeats 4000000 in
theorem m_getsOut (d p t : Nat) (V : xV) (sa : Nat → Int32) (si : Nat → Option Nat) (inn : Nat → Bool) (ss bu ou : Nat → Int32) (ti : Nat → Nat) (R : xR) (P : Nat → Nat) (g : xG) (Q : xQ) (h : MG (g 158) (wS V sa si inn ss bu ou ti R) P) (hc : vc V ≤ 16) (hn : vn V ≤ 12) (hp : p < vn V)
    (k : ∀ g' : xG, MG (g' 158) (wS V sa si (x_fu inn p false) ss bu (x_fu ou p (vrd V + nI 1)) (x_fu ti p t) R) P → g' 157 12 = g 157 12 ||| (nI 1 <<< (nI p &&& 31)) → (∀ j, j ≠ 12 → g' 157 j = g 157 j) → (∀ a, a ≠ 157 → a ≠ 158 → g' a = g a) → Q none g') : Cx (d + 2) i_Md_getsOut [.ref 157, .int (nI p), .int (nI t)] g Q := by
  rw [MG_wS] at h
  obtain ⟨⟨w0, w1, w2, w3, w4, w5, w6, w7, w9, w10, w11, w13, w16⟩, h2, h3, h4, h5⟩ := h
  refine r_cl (L0 := [some (.ref 157), some (.int (nI p)), some (.int (nI t))]) rfl (Or.inr ⟨_, _, _, rfl, rfl⟩) rfl rfl rfl ?_
  refine r_run 400 rfl rfl ?_
  refine r_inv rfl rfl rfl ?_
  refine m_lays d p 2 _ _ _ (by omega) (by omega) ?_
  refine r_run 400 rfl rfl ?_
  refine r_ald (j := 4) rfl rfl rfl (by decide) (Nat.le_of_ble_eq_true rfl) ?_
  simp only [Nat.reduceAdd]
  simp (disch := omega) only [x_up_o, x_up_n, x_up_e, w4]
  refine r_run 400 rfl rfl ?_
  refine r_inv rfl rfl rfl ?_
  refine m_lays d p 7 _ _ _ (by omega) (by omega) ?_
  refine r_run 400 rfl rfl ?_
  refine r_inv rfl rfl rfl ?_
  refine m_lays d p 8 _ _ _ (by omega) (by omega) ?_
  refine r_run 400 rfl rfl ?_
  refine r_ret rfl rfl (k _ ?_ ?_ (fun j hj => ?_) (fun a h1 h2 => ?_))
  · rw [MG_wS]
    refine ⟨?_, fun j hj => ?_, fun q hq => ?_, h4, fun a w ha hw => ?_⟩
    · simp (disch := omega) only [x_up_o, x_up_n, x_up_e]
      exact ⟨w0, w1, w2, w3, w4, w5, w6, w7, w9, w10, w11, w13, w16⟩
    · have z := h2 j hj
      simp (disch := omega) only [x_up_o, x_up_n, x_up_e]
      exact z
    · obtain ⟨z1, z2, z3, z4, z5, z6, z7, z8, z9⟩ := h3 q hq
      by_cases e : q = p
      · subst e
        rw [x_fu_e, x_fu_e, x_fu_e]
        simp (disch := omega) only [x_up_o, x_up_n, x_up_e]
        exact ⟨z1, z2, rfl, fun _ y => (by cases y), z5, z6, z7, trivial, trivial⟩
      · rw [x_fu_n e, x_fu_n e, x_fu_n e]
        simp (disch := omega) only [x_up_o, x_up_n, x_up_e]
        exact ⟨z1, z2, z3, z4, z5, z6, z7, z8, z9⟩
    · have z := h5 a w ha hw
      simp (disch := omega) only [x_up_o, x_up_n, x_up_e]
      exact z
  · simp (disch := omega) only [x_up_o, x_up_n, x_up_e]
  · simp (disch := omega) only [x_up_o, x_up_n, x_up_e]
  · rw [x_up_row h1, x_up_row h2, x_up_row h2, x_up_row h2]
set_option maxHeartbeats 4000000 in
theorem m_gropes (d p : Nat) (i : Bool) (s : Option Nat) (g : xG) (Q : xQ) (hp : p < 12) (hi : g 158 (65 + 9 * p + 2) = x_b i) (hs : g 164 p = x_on s) (hs2 : ∀ q, s = some q → q < 65536) (ht : i = true → s = none → Q (some (.int (nI 1))) g) (hf : (i && s.isNone) = false → Q (some (.int (nI 0))) g) : Cx (d + 3) i_Md_gropes [.ref 157, .int (nI p)] g Q := by
  refine r_cl (L0 := [some (.ref 157), some (.int (nI p))]) rfl (Or.inr ⟨_, _, _, rfl, rfl⟩) rfl rfl rfl ?_
  refine r_run 400 rfl rfl ?_
  refine r_inv rfl rfl rfl ?_
  refine m_isIn d p i g _ hp hi (fun h1 => ?_) (fun h1 => ?_)
  · refine t_eq1 rfl ?_
    refine r_run 400 rfl rfl ?_
    refine r_ald (j := p) rfl rfl rfl (by omega) (Nat.le_of_ble_eq_true rfl) ?_
    simp only [Nat.reduceAdd]
    rw [hs]
    cases hq : s with
    | none =>
      refine r_ge0 rfl (fun z => absurd z (by decide)) (fun _ => ?_)
      refine r_run 400 rfl rfl ?_
      exact r_zret rfl rfl (by decide) (ht h1 hq)
    | some q =>
      have := hs2 q hq
      refine r_ge0 rfl (fun _ => ?_) (fun z => absurd (Int32.not_lt.mp (nI_pos (by omega))) z)
      refine r_run 400 rfl rfl ?_
      exact r_zret rfl rfl (by decide) (hf (by rw [hq]; simp))
  · refine t_eq0 rfl ?_
    refine r_run 400 rfl rfl ?_
    exact r_zret rfl rfl (by decide) (hf (by rw [h1]; rfl))
set_option maxHeartbeats 4000000 in
theorem m_aims (d p c : Nat) (K : Nat → Nat → Bool) (P : Nat → Nat) (g : xG) (Q : xQ) (hp : p < 12) (hc : g 158 1 = nI c) (hc1 : 1 ≤ c) (h16 : c ≤ 16) (hP : g 158 (65 + 9 * p + 3) = nI (P p)) (hP2 : P p < c) (hK : x_mk (g 163 p) c (K p)) (hal : x_all c (K p) = false)
    (k : Q none (x_up (x_up g 165 p (nI (x_aim c K P p))) 166 p (nI (x_far c K P p)))) : Cx (d + 2) i_Md_aims [.ref 157, .int (nI p)] g Q := by
  obtain ⟨f1, f2, f3⟩ := x_far_ok hc1 hP2 hal
  refine r_cl (L0 := [some (.ref 157), some (.int (nI p)), none]) rfl (Or.inr ⟨_, _, _, rfl, rfl⟩) rfl rfl rfl ?_
  have loop : ∀ j, j ≤ x_far c K P p → Rx (d + 1) m_Md_aims Q 2 [some (.ref 157), some (.int (nI p)), some (.int (nI j))] [] g := by
    refine r_for ?_ ?_
    · refine r_run 400 rfl rfl ?_
      refine r_ald (j := p) rfl rfl rfl (by omega) (Nat.le_of_ble_eq_true rfl) ?_
      refine r_run 400 rfl rfl ?_
      refine r_inv rfl rfl rfl ?_
      refine m_of d p 3 g _ hp (by omega) ?_
      rw [hP]
      refine r_run 400 rfl rfl ?_
      refine r_ald (j := 1) rfl rfl rfl (by decide) (Nat.le_of_ble_eq_true rfl) ?_
      simp only [Nat.reduceAdd, nI_add]
      rw [hc]
      refine n_rem rfl (by omega) (by omega) (by omega) ?_
      have haim : (P p + x_far c K P p) % c = x_aim c K P p := rfl
      have haimc : x_aim c K P p < c := Nat.mod_lt _ (by omega)
      obtain ⟨mk, e1, e2, e3⟩ := x_mk_t hK haimc h16
      rw [haim, e1]
      refine r_run 400 rfl rfl ?_
      rw [x_sh (nI mk) rfl e2 (by omega)]
      have hz : mk / 2 ^ x_aim c K P p % 2 = 0 := by
        have : ¬ x_bit mk (x_aim c K P p) := fun z => by rw [e3, f2] at z; cases z
        unfold x_bit at this
        omega
      rw [hz]
      refine n_ine rfl (by omega) (by omega) (fun _ => ?_) (fun z => by omega)
      refine r_run 400 rfl rfl ?_
      refine r_inv rfl rfl rfl ?_
      refine m_of d p 3 g _ hp (by omega) ?_
      rw [hP]
      refine r_run 400 rfl rfl ?_
      refine r_ald (j := 1) rfl rfl rfl (by decide) (Nat.le_of_ble_eq_true rfl) ?_
      simp only [Nat.reduceAdd, nI_add]
      rw [hc]
      refine n_rem rfl (by omega) (by omega) (by omega) ?_
      rw [haim]
      refine r_ast (j := p) rfl rfl rfl (by omega) (Nat.le_of_ble_eq_true rfl) ?_
      refine r_run 400 rfl rfl ?_
      refine r_ast (j := p) rfl rfl rfl (by omega) (Nat.le_of_ble_eq_true rfl) ?_
      refine r_run 400 rfl rfl ?_
      exact r_ret rfl rfl k
    · intro j hj ih
      have hk := f3 j hj
      refine r_run 400 rfl rfl ?_
      refine r_ald (j := p) rfl rfl rfl (by omega) (Nat.le_of_ble_eq_true rfl) ?_
      refine r_run 400 rfl rfl ?_
      refine r_inv rfl rfl rfl ?_
      refine m_of d p 3 g _ hp (by omega) ?_
      rw [hP]
      refine r_run 400 rfl rfl ?_
      refine r_ald (j := 1) rfl rfl rfl (by decide) (Nat.le_of_ble_eq_true rfl) ?_
      simp only [Nat.reduceAdd, nI_add]
      rw [hc]
      refine n_rem rfl (by omega) (by omega) (by omega) ?_
      have hjc : (P p + j) % c < c := Nat.mod_lt _ (by omega)
      obtain ⟨mk, e1, e2, e3⟩ := x_mk_t hK hjc h16
      rw [e1]
      refine r_run 400 rfl rfl ?_
      rw [x_sh (nI mk) rfl e2 (by omega)]
      have hz : mk / 2 ^ ((P p + j) % c) % 2 = 1 := e3.mpr hk
      rw [hz]
      refine n_ine rfl (by omega) (by omega) (fun z => absurd rfl z) (fun _ => ?_)
      refine r_to 2 60 rfl rfl ?_
      simp only [nI_add]
      exact ih
  refine r_to 2 60 rfl rfl ?_
  exact loop 0 (Nat.zero_le _)
/-- a number, or none found -/
def x_nf : Option Nat → Int32
  | none => -1000004
  | some k => nI k
/-- the getter among the first p -/
def x_gp (A : Nat → Option Nat) (F : Nat → Nat) (SI : Nat → Option Nat) (c p : Nat) : Option Nat := if SI c = none then x_nr (fun q => decide (A q = some c)) F p else none
set_option maxHeartbeats 4000000 in
theorem m_getterOf (d n c : Nat) (A : Nat → Option Nat) (F : Nat → Nat) (SI : Nat → Option Nat) (inn : Nat → Bool) (S : Nat → Option Nat) (g : xG) (Q : xQ) (hn : g 158 2 = nI n) (h12 : n ≤ 12) (hc : c < 16) (hi : ∀ p, p < n → g 158 (65 + 9 * p + 2) = x_b (inn p)) (hs : ∀ p, p < n → g 164 p = x_on (S p)) (hs2 : ∀ p q, S p = some q → q < 65536) (hA : ∀ p, p < n → (A p).isSome = (inn p && (S p).isNone)) (hA2 : ∀ p q, p < n → A p = some q → g 165 p = nI q ∧ q < 16 ∧ g 166 p = nI (F p) ∧ F p < 16) (hI : g 167 c = x_on (SI c)) (hI2 : ∀ q, SI c = some q → q < 65536)
    (k : Q (some (.int (x_nf (x_get n A F SI c)))) g) : Cx (d + 4) i_Md_getterOf [.ref 157, .int (nI c)] g Q := by
  refine r_cl (L0 := [some (.ref 157), some (.int (nI c)), none, none, none]) rfl (Or.inr ⟨_, _, _, rfl, rfl⟩) rfl rfl rfl ?_
  have loop : ∀ p, p ≤ n → ∀ l4 : Option Value, Rx (d + 3) m_Md_getterOf Q 5 [some (.ref 157), some (.int (nI c)), some (.int (x_nf (x_gp A F SI c p))), some (.int (nI p)), l4] [] g := by
    refine r_for ?_ ?_
    · intro l4
      refine r_run 400 rfl rfl ?_
      refine r_ald (j := 2) rfl rfl rfl (by decide) (Nat.le_of_ble_eq_true rfl) ?_
      simp only [Nat.reduceAdd]
      rw [hn]
      refine n_ige rfl (by omega) (by omega) (fun _ => ?_) (fun h => by omega)
      refine r_run 400 rfl rfl ?_
      exact r_iret rfl rfl k
    · intro p hp ih l4
      have fin : ∀ (v : Int32) (l4 : Option Value), v = x_nf (x_gp A F SI c (p + 1)) → Rx (d + 3) m_Md_getterOf Q 80 [some (.ref 157), some (.int (nI c)), some (.int (x_nf (x_gp A F SI c p))), some (.int (nI p)), l4] [.int v] g := by
        intro v l4 hv
        subst hv
        refine r_to 5 60 rfl rfl ?_
        simp only [nI_add]
        exact ih l4
      have no : ∀ l4 : Option Value, x_gp A F SI c (p + 1) = x_gp A F SI c p → Rx (d + 3) m_Md_getterOf Q 47 [some (.ref 157), some (.int (nI c)), some (.int (x_nf (x_gp A F SI c p))), some (.int (nI p)), l4] [.int (nI 0)] g := by
        intro l4 he
        refine r_run 400 rfl rfl ?_
        refine t_eq0 rfl ?_
        refine r_to 80 60 rfl rfl ?_
        exact fin _ _ (by rw [he])
      have hno : ¬ (A p = some c ∧ SI c = none) → x_gp A F SI c (p + 1) = x_gp A F SI c p := by
        intro h
        unfold x_gp
        split
        · rename_i h0
          show (if decide (A p = some c) = true then _ else _) = _
          rw [if_neg (by simpa using fun z => h ⟨z, h0⟩)]
        · rfl
      refine r_run 400 rfl rfl ?_
      refine r_ald (j := 2) rfl rfl rfl (by decide) (Nat.le_of_ble_eq_true rfl) ?_
      simp only [Nat.reduceAdd]
      rw [hn]
      refine n_ige rfl (by omega) (by omega) (fun _ => by omega) (fun _ => ?_)
      refine r_run 400 rfl rfl ?_
      refine r_inv rfl rfl rfl ?_
      refine m_gropes d p (inn p) (S p) g _ (by omega) (hi p hp) (hs p hp) (hs2 p) (fun h1 h2 => ?_) (fun h1 => ?_)
      · have hsome : (A p).isSome = true := by rw [hA p hp, h1, h2]; rfl
        obtain ⟨a, ha⟩ := Option.isSome_iff_exists.mp hsome
        obtain ⟨e1, e2, e3, e4⟩ := hA2 p a hp ha
        refine t_eq1 rfl ?_
        refine r_run 400 rfl rfl ?_
        refine r_ald (j := p) rfl rfl rfl (by omega) (Nat.le_of_ble_eq_true rfl) ?_
        refine r_run 400 rfl rfl ?_
        simp only [Nat.reduceAdd]
        rw [e1]
        refine n_ine rfl (by omega) (by omega) (fun hne => ?_) (fun heq => ?_)
        · refine r_to 47 60 rfl rfl ?_
          exact no _ (hno (fun z => by rw [ha] at z; exact hne (Option.some.inj z.1)))
        · subst heq
          refine r_run 400 rfl rfl ?_
          refine r_ald (j := a) rfl rfl rfl (by omega) (Nat.le_of_ble_eq_true rfl) ?_
          simp only [Nat.reduceAdd]
          rw [hI]
          cases hsi : SI a with
          | some q =>
            have := hI2 q hsi
            refine r_ge0 rfl (fun _ => ?_) (fun z => absurd (Int32.not_lt.mp (nI_pos (by omega))) z)
            refine r_to 47 60 rfl rfl ?_
            exact no _ (hno (fun z => by rw [hsi] at z; cases z.2))
          | none =>
            refine r_ge0 rfl (fun z => absurd z (by decide)) (fun _ => ?_)
            refine r_run 400 rfl rfl ?_
            refine t_eq1 rfl ?_
            have hg1 : x_gp A F SI a (p + 1) = match x_gp A F SI a p with | none => some p | some q => if F p < F q then some p else some q := by
              unfold x_gp
              rw [if_pos hsi, if_pos hsi]
              show (if decide (A p = some a) = true then _ else _) = _
              rw [if_pos (by simpa using ha)]
              cases x_nr (fun q => decide (A q = some a)) F p <;> rfl
            have hgp : ∀ q, x_gp A F SI a p = some q → q < p ∧ A q = some a := by
              intro q hq
              unfold x_gp at hq
              rw [if_pos hsi] at hq
              obtain ⟨q1, q2⟩ := x_nr_ok _ _ _ _ hq
              exact ⟨q1, by simpa using q2⟩
            refine r_run 400 rfl rfl ?_
            cases hq : x_gp A F SI a p with
            | none =>
              rw [hq] at hg1 fin
              refine r_ieq rfl (fun _ => ?_) (fun h => absurd rfl h)
              refine r_to 80 60 rfl rfl ?_
              exact fin _ _ (by rw [hg1]; rfl)
            | some q =>
              rw [hq] at hg1 fin
              obtain ⟨q1, q2⟩ := hgp q hq
              obtain ⟨b1, b2, b3, b4⟩ := hA2 q a (by omega) q2
              refine r_ieq rfl (fun h => ?_) (fun _ => ?_)
              · exfalso
                have : nI q < 0 := by
                  rw [show nI q = -1000004 from h]
                  decide
                exact nI_pos (by omega) this
              · refine r_run 400 rfl rfl ?_
                refine r_ald (j := p) rfl rfl rfl (by omega) (Nat.le_of_ble_eq_true rfl) ?_
                refine r_run 400 rfl rfl ?_
                refine r_ald (j := q) rfl rfl rfl (by omega) (Nat.le_of_ble_eq_true rfl) ?_
                simp only [Nat.reduceAdd]
                rw [e3, b3]
                refine n_ige rfl (by omega) (by omega) (fun hle => ?_) (fun hlt => ?_)
                · refine r_to 80 60 rfl rfl ?_
                  refine fin _ _ ?_
                  rw [hg1]
                  show _ = x_nf (if F p < F q then some p else some q)
                  rw [if_neg (by omega)]
                · refine r_to 80 60 rfl rfl ?_
                  refine fin _ _ ?_
                  rw [hg1]
                  show _ = x_nf (if F p < F q then some p else some q)
                  rw [if_pos hlt]
                  rfl
      · refine t_eq0 rfl ?_
        refine r_to 47 60 rfl rfl ?_
        refine no _ (hno (fun z => ?_))
        have := hA p hp
        rw [z.1, h1] at this
        cases this
  refine r_to 5 60 rfl rfl ?_
  have e0 : x_gp A F SI c 0 = none := by
    unfold x_gp
    split <;> rfl
  have := loop 0 (Nat.zero_le _) none
  rw [e0] at this
  exact this
