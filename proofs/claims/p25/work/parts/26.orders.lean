/-! ===== the orders of a text ===== -/
/-- behind a stop such a state stands again -/
theorem vOk_tk1 {V : xV} (h : vOk V) (h0 : ¬ vph V = 1) : vOk (vTk1 V) := by
  obtain ⟨⟨a1, a2, a3, a4, a5, a6⟩, b, c, t8, si, pl, pp⟩ := h
  refine ⟨⟨a1, a2, a3, a4, (by show vc V - 1 ≤ 16; omega), a6⟩, b, fun z => absurd z h0, fun j hj => ?_, fun j q hq => ?_, pl, fun z => absurd z h0⟩
  · have hj : j < vc V - 1 := hj
    show (if j < x_mw (vsa V) (vc V - 1) then vtn V j else vtn V (j + 1)) ≤ 8
    split
    · exact t8 j (by omega)
    · exact t8 (j + 1) (by omega)
  · have hq : (if j < x_mw (vsa V) (vc V - 1) then vsi V j else vsi V (j + 1)) = some q := hq
    split at hq
    · exact si j q hq
    · exact si (j + 1) q hq
theorem vOk_tk : ∀ (k : Nat) {V : xV}, vOk V → ¬ vph V = 1 → vOk (vTk k V)
  | 0, _, h, _ => h
  | k + 1, _, h, h0 => vOk_tk k (vOk_tk1 h h0) h0
theorem vOk_end {V : xV} {T ph : Nat} (h : vOk V) (h1 : vph V = 1) (hT : T ≤ 17) (hp : ph = 0 ∨ ph = 2) : vOk (vEnd V T ph) := by
  obtain ⟨⟨a1, a2, a3, a4, a5, a6⟩, b, c, t8, si, pl, pp⟩ := h
  have hI := vIv (b := 0) (c h1).1 T
  have hne : ¬ vph (vEnd V T ph) = 1 := by
    show ¬ ph = 1
    omega
  refine ⟨⟨(by show ph ≤ 2; omega), a2, a3, (by show 0 ≤ 999; omega), a5, a6⟩, fun _ => rfl, fun z => absurd z hne, t8, fun j q hq => ?_, fun p hp => ?_, fun z => absurd z hne⟩
  · have hq : (if 1 ≤ XW (vX V 0 T) j ∧ XW (vX V 0 T) j ≤ T then XI (vX V 0 T) j else vsi V j) = some q := hq
    split at hq
    · have := hI.2.1 j q hq
      omega
    · exact si j q hq
  · obtain ⟨z1, z2, z3, z4⟩ := pl p hp
    refine ⟨z1, z2, z3, ?_⟩
    show (if vin V p = true then XT (vX V 0 T) p else vti V p) ≤ 17
    split
    · have := hI.2.2.2.2.1 p
      omega
    · exact z4
theorem vOk_stop {V : xV} (h : vOk V) (e : eStop V = nI 0) : vOk (vStop V (vTT V 0)) := by
  have h1 := eStop_0 e
  have hT := (vT_ex (b := 0) (h.2.2.1 h1).1 h.1.2.2.2.2.1).1
  unfold vStop
  split
  · exact vOk_end h h1 hT (Or.inr rfl)
  · exact vOk_tk _ (vOk_end h h1 hT (Or.inl rfl)) (show ¬ (0 : Nat) = 1 by decide)
/-! an order: its letter, its numbers -/
def eOrd (V : xV) (k a b : Nat) : Int32 := if k = 99 then eChair V (nI a) else if k = 112 then ePlayer V (nI a) (nI b) else if k = 98 then eBeat V (nI a) else if k = 103 then eStart V else eStop V
def vOrd (V : xV) (k a b : Nat) : xV := if k = 99 then vChair V (iN (nI a)) else if k = 112 then vPlayer V (iN (nI a)) (iN (nI b)) else if k = 98 then vBeat V (iN (nI a)) else if k = 103 then vStart V else vStop V (vTT V 0)
theorem vOk_ord {V : xV} {k a b : Nat} (h : vOk V) (e : eOrd V k a b = nI 0) : vOk (vOrd V k a b) := by
  unfold eOrd at e
  unfold vOrd
  split
  · rename_i z; rw [if_pos z] at e; exact vOk_chair h e
  · rename_i z; rw [if_neg z] at e
    split
    · rename_i z; rw [if_pos z] at e; exact vOk_player h e
    · rename_i z; rw [if_neg z] at e
      split
      · rename_i z; rw [if_pos z] at e; exact vOk_beat h e
      · rename_i z; rw [if_neg z] at e
        split
        · rename_i z; rw [if_pos z] at e; exact vOk_start h e
        · rename_i z; rw [if_neg z] at e; exact vOk_stop h e
/-- an error code, or none -/
def eE (x : Int32) : Prop := x < 0 ∨ x = nI 0
theorem eE_if {c : Prop} [Decidable c] {x y : Int32} (h1 : eE x) (h2 : eE y) : eE (if c then x else y) := by
  split <;> assumption
theorem eE_0 : eE (nI 0) := Or.inr rfl
theorem eE_1 : eE (-1000001) := Or.inl (by decide)
theorem eE_2 : eE (-1000002) := Or.inl (by decide)
theorem eE_3 : eE (-1000003) := Or.inl (by decide)
theorem eOrd_e (V : xV) (k a b : Nat) : eE (eOrd V k a b) := by
  unfold eOrd eChair ePlayer eBeat eStart eStop
  exact eE_if (eE_if (eE_if (eE_if eE_3 eE_0) eE_2) eE_1) (eE_if (eE_if (eE_if (eE_if eE_3 eE_0) eE_2) eE_1) (eE_if (eE_if (eE_if (eE_if eE_0 eE_3) eE_2) eE_1) (eE_if (eE_if eE_0 eE_2) (eE_if eE_0 eE_2))))
/-! reading -/
def sgn (L : Nat) (tx : Nat → Nat) (i : Nat) : Nat := if i < L then tx i else 0
def sgc (L : Nat) (tx : Nat → Nat) (i : Nat) : Int32 := if i < L then nI (tx i) else -1
def x_dig (c : Nat) : Bool := Nat.ble 48 c && Nat.ble c 57
theorem x_dig_iff {c : Nat} : x_dig c = true ↔ 48 ≤ c ∧ c ≤ 57 := by
  unfold x_dig
  rw [Bool.and_eq_true, Nat.ble_eq, Nat.ble_eq]
/-- a number: what it is, if there is one; where it ends -/
def x_rn (s : Nat → Nat) : Nat → Nat → Option Nat → Option Nat × Nat
  | 0, i, v => (v, i)
  | k + 1, i, v => if x_dig (s i) = true then x_rn s k (i + 1) (some (10 * v.getD 0 + s i - 48)) else (v, i)
/-- is it an order; where it ends, or breaks off; its letter and numbers -/
def x_ord (s : Nat → Nat) (i : Nat) : Bool × Nat × Nat × Nat × Nat :=
  if s i = 99 ∨ s i = 98 then (match x_rn s 3 (i + 1) none with
    | (none, j) => (false, j, 0, 0, 0)
    | (some v, j) => if s j = 59 then (true, j + 1, s i, v, 0) else (false, j, 0, 0, 0))
  else if s i = 112 then (match x_rn s 3 (i + 1) none with
    | (none, j) => (false, j, 0, 0, 0)
    | (some v, j) => if s j = 44 then (match x_rn s 3 (j + 1) none with
      | (none, l) => (false, l, 0, 0, 0)
      | (some w, l) => if s l = 59 then (true, l + 1, s i, v, w) else (false, l, 0, 0, 0)) else (false, j, 0, 0, 0))
  else if s i = 103 ∨ s i = 115 then (if s (i + 1) = 59 then (true, i + 2, s i, 0, 0) else (false, i + 1, 0, 0, 0))
  else (false, i, 0, 0, 0)
/-- the state behind the orders, how many; reason, place and cause of the fault -/
def oRun (s : Nat → Nat) (L : Nat) : Nat → Nat → Nat → xV → xV × Nat × Nat × Nat × Int32
  | 0, _, n, V => (V, n, 0, 0, nI 0)
  | f + 1, i, n, V => if i < L then (match x_ord s i with
      | (true, j, k, a, b) => if eOrd V k a b < 0 then (V, n, 2, i, eOrd V k a b) else oRun s L f j (n + 1) (vOrd V k a b)
      | (false, j, _, _, _) => (V, n, 1, i, nI (j - i))) else (V, n, 0, 0, nI 0)
def TG (g : xG) (L : Nat) (tx : Nat → Nat) : Prop := g 134 1 = nI L ∧ L ≤ 60 ∧ ∀ i, i < L → g 135 i = nI (tx i) ∧ 32 ≤ tx i ∧ tx i ≤ 126
theorem sgc_eq {g : xG} {L : Nat} {tx : Nat → Nat} (h : TG g L tx) {s : Nat} (h1 : 32 ≤ s) (h2 : s ≤ 126) (i : Nat) : sgc L tx i = nI s ↔ sgn L tx i = s := by
  unfold sgc sgn
  split
  · rename_i hi
    have := h.2.2 i hi
    rw [nI_eq (by omega) (by omega)]
  · constructor
    · intro z
      exfalso
      have : nI s < 0 := by rw [← z]; decide
      exact nI_pos (by omega) this
    · intro z
      omega
theorem sgc_in {g : xG} {L : Nat} {tx : Nat → Nat} (h : TG g L tx) (i : Nat) : (nI 48 ≤ sgc L tx i ∧ sgc L tx i ≤ nI 57) ↔ x_dig (sgn L tx i) = true := by
  rw [x_dig_iff]
  unfold sgc sgn
  split
  · rename_i hi
    have := h.2.2 i hi
    rw [nI_leI (by omega) (by omega), nI_leI (by omega) (by omega)]
  · constructor
    · intro z
      exact absurd z.1 (by decide)
    · intro z
      omega
theorem sgc_nI {L : Nat} {tx : Nat → Nat} {i : Nat} (h : x_dig (sgn L tx i) = true) : sgc L tx i = nI (sgn L tx i) := by
  rw [x_dig_iff] at h
  unfold sgc sgn at *
  split
  · rfl
  · rename_i hi
    rw [if_neg hi] at h
    omega
theorem x_rn_ok (s : Nat → Nat) : ∀ (k i : Nat) (v : Option Nat), i ≤ (x_rn s k i v).2 ∧ (x_rn s k i v).2 ≤ i + k
  | 0, i, v => ⟨Nat.le_refl _, Nat.le_refl _⟩
  | k + 1, i, v => by
    unfold x_rn
    split
    · have := x_rn_ok s k (i + 1) (some (10 * v.getD 0 + s i - 48))
      omega
    · exact ⟨Nat.le_refl _, by show i ≤ _; omega⟩
theorem x_rn_lt (s : Nat → Nat) : ∀ (k i : Nat) (v : Option Nat) (m : Nat), 1 ≤ m → (∀ w, v = some w → w < m) → ∀ w, (x_rn s k i v).1 = some w → w < m * 10 ^ k
  | 0, i, v, m, _, h, w, hw => by
    have := h w hw
    omega
  | k + 1, i, v, m, h1, h, w, hw => by
    unfold x_rn at hw
    split at hw
    · rename_i hd
      rw [x_dig_iff] at hd
      have := x_rn_lt s k (i + 1) _ (m * 10) (by omega) (fun w hw => by
        cases hw
        cases v with
        | none => show 10 * 0 + s i - 48 < _; omega
        | some u =>
          have := h u rfl
          show 10 * u + s i - 48 < _
          omega) w hw
      rw [Nat.pow_succ, Nat.mul_comm (10 ^ k), ← Nat.mul_assoc]
      exact this
    · have := h w hw
      have h2 : m ≤ m * 10 ^ (k + 1) := Nat.le_mul_of_pos_right _ (Nat.pow_pos (by omega))
      omega
set_option maxHeartbeats 4000000 in
theorem c_sign (d i : Nat) (L : Nat) (tx : Nat → Nat) (g : xG) (Q : xQ) (h : TG g L tx) (hi : i < 1000) (k : Q (some (.int (sgc L tx i))) g) : Cx (d + 1) i_Text_signAt [.ref 134, .int (nI i)] g Q := by
  refine c_signAt d L i g Q h.1 h.2.1 hi (fun z => ?_) (fun z => ?_)
  · rw [(h.2.2 i z).1]
    unfold sgc at k
    rw [if_pos z] at k
    exact k
  · unfold sgc at k
    rw [if_neg (by omega)] at k
    exact k
set_option maxHeartbeats 4000000 in
theorem c_readNumber (d i0 : Nat) (L : Nat) (tx : Nat → Nat) (g : xG) (Q : xQ) (h : TG g L tx) (hi : g 136 5 = nI i0) (hi2 : i0 < 900)
    (k : ∀ g' : xG, g' 136 5 = nI (x_rn (sgn L tx) 3 i0 none).2 → (∀ j, j ≠ 5 → g' 136 j = g 136 j) → (∀ a, a ≠ 136 → g' a = g a) → Q (some (.int (x_on (x_rn (sgn L tx) 3 i0 none).1))) g') : Cx (d + 2) i_Orders_readNumber [.ref 136, .ref 134] g Q := by
  generalize hres : x_rn (sgn L tx) 3 i0 none = res at k
  refine r_cl (L0 := [some (.ref 136), some (.ref 134), none, none, none]) rfl (Or.inr ⟨_, _, _, rfl, rfl⟩) rfl rfl rfl ?_
  have loop : ∀ t, t ≤ 3 → ∀ (i : Nat) (v : Option Nat) (g' : xG) (l4 : Option Value), i ≤ i0 + t → (∀ w, v = some w → w < 10000 * 10 ^ t) → x_rn (sgn L tx) (3 - t) i v = res → g' 136 5 = nI i → (∀ j, j ≠ 5 → g' 136 j = g 136 j) → (∀ a, a ≠ 136 → g' a = g a) → Rx (d + 1) m_Orders_readNumber Q 4 [some (.ref 136), some (.ref 134), some (.int (x_on v)), some (.int (nI t)), l4] [] g' := by
    refine r_for ?_ ?_
    · intro i v g' l4 a1 a2 a3 a4 a5 a6
      refine r_run 400 rfl rfl ?_
      refine n_ige rfl (by omega) (by omega) (fun _ => ?_) (fun h => by omega)
      refine r_run 400 rfl rfl ?_
      subst a3
      exact r_iret rfl rfl (k g' a4 a5 a6)
    · intro t ht ih i v g' l4 a1 a2 a3 a4 a5 a6
      have hTG : TG g' L tx := by
        unfold TG
        rw [a6 134 (by decide), a6 135 (by decide)]
        exact h
      refine r_run 400 rfl rfl ?_
      refine n_ige rfl (by omega) (by omega) (fun _ => by omega) (fun _ => ?_)
      refine r_run 400 rfl rfl ?_
      simp only [x_up_app, x_ce_app, x_ce_same, Nat.reduceAdd, Nat.reduceEqDiff, ↓reduceIte, Nat.reduceSub, Nat.reduceMul, reduceCtorEq, a4]
      refine r_inv rfl rfl rfl ?_
      refine c_sign (d) i L tx g' _ hTG (by omega) ?_
      refine r_run 400 rfl rfl ?_
      refine r_ins rfl rfl rfl rfl ?_
      have e3 : 3 - t = (3 - (t + 1)) + 1 := by omega
      rw [e3] at a3
      unfold x_rn at a3
      refine c_isWithin d _ (nI 48) (nI 57) g' _ (fun h1 h2 => ?_) (fun hno => ?_)
      · have hd := (sgc_in hTG i).mp ⟨h1, h2⟩
        rw [if_pos hd] at a3
        rw [sgc_nI hd]
        have hd2 := x_dig_iff.mp hd
        refine t_ne1 rfl ?_
        refine r_run 400 rfl rfl ?_
        refine r_ins rfl rfl rfl rfl ?_
        have hp3 : 10 ^ t ≤ 10 ^ 2 := Nat.pow_le_pow_right (by omega) (by omega)
        have go : ∀ u, u = v.getD 0 → u < 10000 * 10 ^ t → Rx (d + 1) m_Orders_readNumber Q 38 [some (.ref 136), some (.ref 134), some (.int (x_on v)), some (.int (nI t)), some (.int (nI (sgn L tx i)))] [.int (nI u)] g' := by
          intro u hu hu2
          refine r_to 4 60 rfl rfl ?_
          simp only [x_up_app, x_ce_app, x_ce_same, Nat.reduceAdd, Nat.reduceEqDiff, ↓reduceIte, Nat.reduceSub, Nat.reduceMul, reduceCtorEq, a4, nI_add, pk_mul]
          rw [pk_sub (by omega)]
          refine ih (i + 1) (some (10 * v.getD 0 + sgn L tx i - 48)) _ _ (by omega) (fun w hw => ?_) a3 ?_ (fun j hj => ?_) (fun a ha => ?_) |> (fun z => by
            rw [show x_on (some (10 * v.getD 0 + sgn L tx i - 48)) = nI (u * 10 + sgn L tx i - 48) by rw [← hu, Nat.mul_comm]; rfl] at z
            exact z)
          · cases hw
            rw [← hu, Nat.pow_succ]
            omega
          · simp only [x_up_app, x_ce_app, x_ce_same, Nat.reduceAdd, Nat.reduceEqDiff, ↓reduceIte, Nat.reduceSub, Nat.reduceMul, reduceCtorEq]
          · simp only [x_up_app, x_ce_app, x_ce_same, Nat.reduceAdd, Nat.reduceEqDiff, ↓reduceIte, Nat.reduceSub, Nat.reduceMul, reduceCtorEq, if_neg hj]
            exact a5 j hj
          · rw [x_up_row ha]
            exact a6 a ha
        refine c_max d _ _ _ _ (fun hlt => ?_) (fun hlt => ?_)
        · cases v with
          | none => exact go 0 rfl (by have := Nat.pow_pos (n := t) (show 0 < 10 by omega); omega)
          | some u =>
            exfalso
            have hu := a2 u rfl
            exact nI_pos (by omega) hlt
        · cases v with
          | none => exact absurd (by decide) hlt
          | some u => exact go u rfl (a2 u rfl)
      · have hd : ¬ x_dig (sgn L tx i) = true := fun z => hno ((sgc_in hTG i).mpr z)
        rw [if_neg hd] at a3
        refine t_ne0 rfl ?_
        refine r_run 400 rfl rfl ?_
        subst a3
        exact r_iret rfl rfl (k g' a4 a5 a6)
  refine r_to 4 60 rfl rfl ?_
  exact loop 0 (Nat.zero_le _) i0 none g none (Nat.le_refl _) (fun w hw => by cases hw) hres hi (fun _ _ => rfl) (fun _ _ => rfl)
set_option maxHeartbeats 4000000 in
theorem c_passes (d i s : Nat) (L : Nat) (tx : Nat → Nat) (g : xG) (Q : xQ) (h : TG g L tx) (hi : g 136 5 = nI i) (hi2 : i < 900) (h1 : 32 ≤ s) (h2 : s ≤ 126) (k1 : sgn L tx i = s → Q (some (.int (nI 1))) (x_up g 136 5 (nI (i + 1)))) (k2 : ¬ sgn L tx i = s → Q (some (.int (nI 0))) g) : Cx (d + 2) i_Orders_passes [.ref 136, .ref 134, .int (nI s)] g Q := by
  refine r_cl (L0 := [some (.ref 136), some (.ref 134), some (.int (nI s))]) rfl (Or.inr ⟨_, _, _, rfl, rfl⟩) rfl rfl rfl ?_
  refine r_run 400 rfl rfl ?_
  simp only [x_up_app, x_ce_app, x_ce_same, Nat.reduceAdd, Nat.reduceEqDiff, ↓reduceIte, Nat.reduceSub, Nat.reduceMul, reduceCtorEq, hi]
  refine r_inv rfl rfl rfl ?_
  refine c_sign d i L tx g _ h (by omega) ?_
  refine r_run 400 rfl rfl ?_
  refine r_ieq rfl (fun z => ?_) (fun z => ?_)
  · have z := (sgc_eq h h1 h2 i).mp z
    refine r_run 400 rfl rfl ?_
    simp only [x_up_app, x_ce_app, x_ce_same, Nat.reduceAdd, Nat.reduceEqDiff, ↓reduceIte, Nat.reduceSub, Nat.reduceMul, reduceCtorEq, hi, nI_add]
    exact r_zret rfl rfl (by decide) (k1 z)
  · refine r_run 400 rfl rfl ?_
    exact r_zret rfl rfl (by decide) (k2 (fun w => z ((sgc_eq h h1 h2 i).mpr w)))
