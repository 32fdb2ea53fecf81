/-! ===== the class's other calls ===== -/
theorem x_sm_congr {f f' : Nat → Int32} : ∀ n, (∀ i, i < n → f i = f' i) → x_sm f n = x_sm f' n
  | 0, _ => rfl
  | n + 1, h => by
    unfold x_sm
    rw [x_sm_congr n (fun i hi => h i (by omega)), h n (by omega)]
def vFirst (V : xV) : Nat := x_lf (vin V) (vn V) 0
def qCount (T : xT) (w : Nat) : Int32 :=
  if w = 0 then nI (vph (tV T)) else
  if w = 1 then nI (vc (tV T)) else
  if w = 2 then nI (vn (tV T)) else
  if w = 3 then nI (x_enc (vin (tV T)) (vn (tV T))) else
  if w = 4 then vrd (tV T) else
  if w = 5 then nI (vbt (tV T)) else
  if w = 6 then x_sm (vss (tV T)) (vn (tV T)) else
  if w = 7 then x_sm (vbu (tV T)) (vn (tV T)) else
  if w = 8 then nI (vn (tV T)) - nI (x_cnt (vin (tV T)) (vn (tV T))) else
  if w = 9 then vlo (tV T) else
  if w = 10 then x_sm (vwa (tV T)) (vn (tV T)) else
  if w = 11 then vtk (tV T) else
  if w = 12 then (if x_cnt (vin (tV T)) (vn (tV T)) = 1 then nI (vFirst (tV T)) else -1000004) else
  if w = 13 then nI (vR (tV T)).1 else
  if w = 14 then nI (tK T) else
  if w = 15 then nI (tL T) else
  if w = 16 then vtg (tV T) else
  if w = 20 then nI (vfw (tV T)) else -1000001
theorem qCount_no {T : xT} {w : Nat} (h : 20 < w ∨ w = 17 ∨ w = 18 ∨ w = 19) : qCount T w = -1000001 := by
  unfold qCount
  rw [if_neg (by omega), if_neg (by omega), if_neg (by omega), if_neg (by omega), if_neg (by omega), if_neg (by omega), if_neg (by omega), if_neg (by omega), if_neg (by omega), if_neg (by omega), if_neg (by omega), if_neg (by omega), if_neg (by omega), if_neg (by omega), if_neg (by omega), if_neg (by omega), if_neg (by omega), if_neg (by omega)]
theorem x_lf_none {f : Nat → Bool} : ∀ (k i : Nat), (∀ j, i ≤ j → j < i + k → f j = false) → x_lf f k i = i + k
  | 0, i, _ => rfl
  | k + 1, i, h => by
    unfold x_lf
    rw [if_neg (by rw [h i (Nat.le_refl _) (by omega)]; decide), x_lf_none k (i + 1) (fun j h1 h2 => h j (by omega) (by omega))]
    omega
theorem x_lf_eq {f : Nat → Bool} {k i b : Nat} (h1 : i ≤ b) (h2 : b < i + k) (h3 : f b = true) (h4 : ∀ j, i ≤ j → j < b → f j = false) : x_lf f k i = b := by
  obtain ⟨a1, a2, a3, a4⟩ := x_lf_ok f k i ⟨b, h1, h2, h3⟩
  apply Nat.le_antisymm
  · apply Nat.le_of_not_lt
    intro z
    rw [a4 b h1 z] at h3
    cases h3
  · apply Nat.le_of_not_lt
    intro z
    rw [h4 _ a1 z] at a3
    cases a3
set_option maxHeartbeats 4000000 in
theorem s_besides (d : Nat) (T : xT) (w : Int32) (g : xG) (Q : xQ) (h : SG g T) (hk : tOk T) (h13 : 13 ≤ iN w) (k : Q (some (.int (qCount T (iN w)))) g) : Cx (d + 1) i_Bc_countBesidesTheGame [.ref 1, .int w] g Q := by
  obtain ⟨nx, ⟨h1, h2, h3, h4, h5, hb⟩, hh, hk3, ht⟩ := h
  have e13 : g 16 6 = nI (vR (tV T)).1 := by
    obtain ⟨b, i1, i2, i3, -⟩ := hb
    exact i3
  have e14 : g 22 2 = nI (tK T) := hh.2.2
  have e15 : g 134 1 = nI (tL T) := ht.1
  have e16 : g 2 8 = vtg (tV T) := h1.2.2.2.2.2.1
  have e20 : g 2 4 = nI (vfw (tV T)) := h1.2.1
  refine r_cl (L0 := [some (.ref 1), some (.int w)]) rfl (Or.inr ⟨_, _, _, rfl, rfl⟩) rfl rfl rfl ?_
  refine r_run 400 rfl rfl ?_
  have hni : ∀ x : Nat, x < 2 ^ 31 → w = nI x → iN w = x := fun x hx e => by rw [e, iN_nI (by omega)]
  have dflt : (20 < iN w ∨ iN w = 17 ∨ iN w = 18 ∨ iN w = 19) → Rx d m_Bc_countBesidesTheGame Q 91 [some (.ref 1), some (.int w)] [] g := by
    intro hno
    rw [qCount_no hno] at k
    refine r_run 400 rfl rfl ?_
    exact r_iret rfl rfl k
  refine r_tsw rfl rfl ⟨fun x hx e => ?_, fun hno => ?_⟩
  · simp only [List.mem_cons, List.not_mem_nil, or_false] at hx
    rcases hx with rfl | rfl | rfl | rfl | rfl | rfl | rfl | rfl
    · rw [hni 13 (by omega) e] at k
      refine r_run 400 rfl rfl ?_
      simp only [Nat.reduceAdd]
      rw [e13]
      exact r_iret rfl rfl k
    · rw [hni 14 (by omega) e] at k
      refine r_run 400 rfl rfl ?_
      simp only [Nat.reduceAdd]
      rw [e14]
      exact r_iret rfl rfl k
    · rw [hni 15 (by omega) e] at k
      refine r_run 400 rfl rfl ?_
      simp only [Nat.reduceAdd]
      rw [e15]
      exact r_iret rfl rfl k
    · rw [hni 16 (by omega) e] at k
      refine r_run 400 rfl rfl ?_
      simp only [Nat.reduceAdd]
      rw [e16]
      exact r_iret rfl rfl k
    · exact dflt (by rw [hni 17 (by omega) e]; omega)
    · exact dflt (by rw [hni 18 (by omega) e]; omega)
    · exact dflt (by rw [hni 19 (by omega) e]; omega)
    · rw [hni 20 (by omega) e] at k
      refine r_run 400 rfl rfl ?_
      simp only [Nat.reduceAdd]
      rw [e20]
      exact r_iret rfl rfl k
  · simp only [List.mem_cons, List.not_mem_nil, or_false, forall_eq_or_imp, forall_eq] at hno
    refine dflt (Or.inl ?_)
    apply Nat.lt_of_not_le
    intro hle
    obtain ⟨n0, n1, n2, n3, n4, n5, n6, n7⟩ := hno
    have hz : ∀ x : Nat, ¬ w = nI x → ¬ iN w = x := fun x hx e => hx (by rw [← e, nI_iN])
    have := hz 13 n0
    have := hz 14 n1
    have := hz 15 n2
    have := hz 16 n3
    have := hz 17 n4
    have := hz 18 n5
    have := hz 19 n6
    have := hz 20 n7
    omega
set_option maxHeartbeats 8000000 in
theorem s_count (d : Nat) (T : xT) (w : Int32) (g : xG) (Q : xQ) (h : SG g T) (hk : tOk T) (k : Q (some (.int (qCount T (iN w)))) g) : Cx (d + 3) i_Bc_count [.ref 1, .int w] g Q := by
  have hsg := h
  obtain ⟨nx, ⟨⟨h1, h1f, h1r, h1b, h1t, h1g, h1l⟩, h2, h3, ⟨h4, h4n⟩, h5, hb⟩, -⟩ := h
  have hvk := hk.1
  have v6 := hvk.1.2.2.2.2.2
  have hcnt := x_cnt_le (vin (tV T)) (vn (tV T))
  have e1 : g 3 3 = nI (vc (tV T)) := h2
  have e2 : g 7 9 = nI (vn (tV T)) := h4n
  have h4 : x_mk (g 7 8) (vn (tV T)) (vin (tV T)) := h4
  have hni : ∀ x : Nat, x < 2 ^ 31 → w = nI x → iN w = x := fun x hx e => by rw [e, iN_nI (by omega)]
  refine r_cl (L0 := [some (.ref 1), some (.int w)]) rfl (Or.inr ⟨_, _, _, rfl, rfl⟩) rfl rfl rfl ?_
  refine r_run 400 rfl rfl ?_
  refine r_tsw rfl rfl ⟨fun x hx e => ?_, fun hno => ?_⟩
  · simp only [List.mem_cons, List.not_mem_nil, or_false] at hx
    rcases hx with rfl | rfl | rfl | rfl | rfl | rfl | rfl | rfl | rfl | rfl | rfl | rfl | rfl
    · rw [hni 0 (by omega) e] at k
      refine r_run 400 rfl rfl ?_
      simp only [Nat.reduceAdd]
      rw [h1]
      exact r_iret rfl rfl k
    · rw [hni 1 (by omega) e] at k
      refine r_run 400 rfl rfl ?_
      simp only [Nat.reduceAdd]
      rw [e1]
      exact r_iret rfl rfl k
    · rw [hni 2 (by omega) e] at k
      refine r_run 400 rfl rfl ?_
      simp only [Nat.reduceAdd]
      rw [e2]
      exact r_iret rfl rfl k
    · rw [hni 3 (by omega) e] at k
      refine r_run 400 rfl rfl ?_
      simp only [Nat.reduceAdd]
      rw [x_mk_enc h4]
      exact r_iret rfl rfl k
    · rw [hni 4 (by omega) e] at k
      refine r_run 400 rfl rfl ?_
      simp only [Nat.reduceAdd]
      rw [h1r]
      exact r_iret rfl rfl k
    · rw [hni 5 (by omega) e] at k
      refine r_run 400 rfl rfl ?_
      simp only [Nat.reduceAdd]
      rw [h1b]
      exact r_iret rfl rfl k
    · rw [hni 6 (by omega) e] at k
      refine r_run 400 rfl rfl ?_
      refine r_inv rfl rfl rfl ?_
      refine c_allSittings_2 d (vn (tV T)) g _ e2 v6 ?_
      rw [x_sm_congr (f' := vss (tV T)) (vn (tV T)) (fun i hi => (h5 i hi).2.2.2.1)]
      exact r_iret rfl rfl k
    · rw [hni 7 (by omega) e] at k
      refine r_run 400 rfl rfl ?_
      refine r_inv rfl rfl rfl ?_
      refine c_allBumps_2 d (vn (tV T)) g _ e2 v6 ?_
      rw [x_sm_congr (f' := vbu (tV T)) (vn (tV T)) (fun i hi => (h5 i hi).2.2.2.2.1)]
      exact r_iret rfl rfl k
    · rw [hni 8 (by omega) e] at k
      refine r_run 400 rfl rfl ?_
      refine r_inv rfl rfl rfl ?_
      refine c_count_2 d (vn (tV T)) g _ (vin (tV T)) h4 v6 ?_
      refine r_run 400 rfl rfl ?_
      simp only [Nat.reduceAdd]
      rw [e2]
      exact r_iret rfl rfl k
    · rw [hni 9 (by omega) e] at k
      refine r_run 400 rfl rfl ?_
      simp only [Nat.reduceAdd]
      rw [h1l]
      exact r_iret rfl rfl k
    · rw [hni 10 (by omega) e] at k
      refine r_run 400 rfl rfl ?_
      refine r_inv rfl rfl rfl ?_
      refine c_allSteps_2 d (vn (tV T)) g _ e2 v6 ?_
      rw [x_sm_congr (f' := vwa (tV T)) (vn (tV T)) (fun i hi => (h5 i hi).2.2.2.2.2.1)]
      exact r_iret rfl rfl k
    · rw [hni 11 (by omega) e] at k
      refine r_run 400 rfl rfl ?_
      simp only [Nat.reduceAdd]
      rw [h1t]
      exact r_iret rfl rfl k
    · rw [hni 12 (by omega) e] at k
      have k : Q (some (.int (if x_cnt (vin (tV T)) (vn (tV T)) = 1 then nI (vFirst (tV T)) else -1000004))) g := k
      refine r_run 400 rfl rfl ?_
      refine r_inv rfl rfl rfl ?_
      refine c_count_2 d (vn (tV T)) g _ (vin (tV T)) h4 v6 ?_
      refine r_run 400 rfl rfl ?_
      refine n_ine rfl (by omega) (by omega) (fun hne => ?_) (fun he => ?_)
      · rw [if_neg hne] at k
        refine r_run 400 rfl rfl ?_
        exact r_iret rfl rfl k
      · rw [if_pos he] at k
        obtain ⟨m, m1, m2, m3⟩ := h4
        have hm : m < 4096 := Nat.lt_of_lt_of_le m2 (show 2 ^ vn (tV T) ≤ 2 ^ 12 from Nat.pow_le_pow_right (by omega) v6)
        refine r_run 400 rfl rfl ?_
        refine r_inv rfl rfl rfl ?_
        refine c_first_2 d (vn (tV T)) m g _ e2 v6 m1 (by omega) (fun p hp hb hno => ?_) (fun hno => ?_)
        · have hf : vFirst (tV T) = p := x_lf_eq (Nat.zero_le _) (by omega) (by rw [← m3 p hp]; exact x_bit_tb.mp hb) (fun j _ hj => by
            rw [← m3 j (by omega)]
            cases hh : m.testBit j with
            | false => rfl
            | true => exact absurd (x_bit_tb.mpr hh) (hno j hj))
          rw [hf] at k
          refine r_run 400 rfl rfl ?_
          exact r_iret rfl rfl k
        · exfalso
          have : x_cnt (vin (tV T)) (vn (tV T)) = x_cnt (fun _ => false) (vn (tV T)) := x_cnt_congr _ (fun i hi => by
            rw [← m3 i hi]
            cases hh : m.testBit i with
            | false => rfl
            | true => exact absurd (x_bit_tb.mpr hh) (hno i hi))
          have h0 : ∀ n, x_cnt (fun _ => false) n = 0 := by
            intro n
            induction n with
            | zero => rfl
            | succ n ih => show x_cnt _ n + 0 = 0; rw [ih]
          rw [h0] at this
          omega
  · simp only [List.mem_cons, List.not_mem_nil, or_false, forall_eq_or_imp, forall_eq] at hno
    obtain ⟨n0, n1, n2, n3, n4, n5, n6, n7, n8, n9, n10, n11, n12⟩ := hno
    have hz : ∀ x : Nat, ¬ w = nI x → ¬ iN w = x := fun x hx e => hx (by rw [← e, nI_iN])
    have h13 : 13 ≤ iN w := by
      have := hz 0 n0
      have := hz 1 n1
      have := hz 2 n2
      have := hz 3 n3
      have := hz 4 n4
      have := hz 5 n5
      have := hz 6 n6
      have := hz 7 n7
      have := hz 8 n8
      have := hz 9 n9
      have := hz 10 n10
      have := hz 11 n11
      have := hz 12 n12
      omega
    refine r_run 400 rfl rfl ?_
    refine r_inv rfl rfl rfl ?_
    refine s_besides (d + 1) T w g _ hsg hk h13 ?_
    exact r_iret rfl rfl k
def pUndo (T : xT) : xT := if tK T = 0 then T else (tH T 0, tK T - 1, fun a => tH T (a + 1), tL T, tX T)
def aUndo (T : xT) : Int32 := if tK T = 0 then -1000002 else nI (tK T - 1)
theorem tOk_undo {T : xT} (h : tOk T) : tOk (pUndo T) := by
  unfold pUndo
  split
  · exact h
  · obtain ⟨h1, h2, h3, h4⟩ := h
    refine ⟨h3 0 (by omega), (by show tK T - 1 ≤ 4; omega), fun a ha => ?_, h4⟩
    have ha : a < tK T - 1 := ha
    exact h3 (a + 1) (by omega)
set_option maxHeartbeats 4000000 in
theorem s_undo (d : Nat) (T : xT) (g : xG) (Q : xQ) (h : SG g T) (hk : tOk T) (k : ∀ g' : xG, SG g' (pUndo T) → (∀ a, 157 ≤ a → g' a = g a) → Q (some (.int (aUndo T))) g') : Cx (d + 4) i_Bc_undo [.ref 1] g Q := by
  have hsg := h
  obtain ⟨nx, h1, ⟨h2, h2b, h2c⟩, h3, h4⟩ := h
  have hk4 := hk.2.1
  unfold pUndo aUndo at k
  refine r_cl (L0 := [some (.ref 1)]) rfl (Or.inr ⟨_, _, _, rfl, rfl⟩) rfl rfl rfl ?_
  refine r_run 400 rfl rfl ?_
  refine r_inv rfl rfl rfl ?_
  refine c_goBack d nx (tK T) g _ h2 h2b h2c hk4 (fun z => ?_) (fun z g1 a1 a2 a3 a4 => ?_)
  · rw [if_pos z] at k
    rw [if_pos z] at k
    exact r_iret rfl rfl (k g hsg (fun _ _ => rfl))
  · rw [if_neg (by omega)] at k
    rw [if_neg (by omega)] at k
    refine r_iret rfl rfl (k g1 ⟨(nx + 4) % 5, ?_, ⟨a2, Nat.mod_lt _ (by omega), a3⟩, fun a ha => ?_, ?_⟩ (fun a ha => a4 a (by omega) (by omega)))
    · refine CG_same (B := 24 + 20 * ((nx + 4) % 5)) ?_ (hk.2.2.1 0 (by omega)) a1
      have := h3 0 (by omega)
      rw [Nat.sub_zero] at this
      exact this
    · have ha : a < tK T - 1 := ha
      have e : ((nx + 4) % 5 + 4 - a) % 5 = (nx + 4 - (a + 1)) % 5 := by omega
      rw [e]
      refine CG_row (h3 (a + 1) (by omega)) (fun b _ _ => a4 b (by omega) (by omega))
    · rw [a4 134 (by omega) (by omega), a4 135 (by omega) (by omega)]
      exact h4
def pType (T : xT) (x : Int32) : xT := if nI 32 ≤ x ∧ x ≤ nI 126 ∧ tL T < 60 then (tV T, tK T, tH T, tL T + 1, fun i => if i = tL T then iN x else tX T i) else T
def aType (T : xT) (x : Int32) : Int32 := if nI 32 ≤ x ∧ x ≤ nI 126 then (if tL T < 60 then nI (tL T + 1) else -1000003) else -1000001
theorem tOk_type {T : xT} {x : Int32} (h : tOk T) : tOk (pType T x) := by
  unfold pType
  split
  · rename_i hx
    obtain ⟨h1, h2, h3, h4, h5⟩ := h
    have hx2 := iN_in (by omega) (by omega) ⟨hx.1, hx.2.1⟩
    refine ⟨h1, h2, h3, (by show tL T + 1 ≤ 60; omega), fun i hi => ?_⟩
    have hi : i < tL T + 1 := hi
    show 32 ≤ (if i = tL T then iN x else tX T i) ∧ (if i = tL T then iN x else tX T i) ≤ 126
    split
    · exact hx2
    · exact h5 i (by omega)
  · exact h
set_option maxHeartbeats 4000000 in
theorem s_type (d : Nat) (T : xT) (x : Int32) (g : xG) (Q : xQ) (h : SG g T) (hk : tOk T) (k : ∀ g' : xG, SG g' (pType T x) → (∀ a, 157 ≤ a → g' a = g a) → Q (some (.int (aType T x))) g') : Cx (d + 3) i_Bc_type [.ref 1, .int x] g Q := by
  have hsg := h
  obtain ⟨nx, h1, h2, h3, h4, h4b⟩ := h
  have h60 := hk.2.2.2.1
  unfold pType aType at k
  refine r_cl (L0 := [some (.ref 1), some (.int x)]) rfl (Or.inr ⟨_, _, _, rfl, rfl⟩) rfl rfl rfl ?_
  refine r_run 400 rfl rfl ?_
  refine r_inv rfl rfl rfl ?_
  refine c_append d (tL T) x g _ h4 h60 (fun z => ?_) (fun z1 z2 z => ?_) (fun z1 z2 z => ?_)
  · rw [if_neg (fun y => z ⟨y.1, y.2.1⟩)] at k
    rw [if_neg z] at k
    exact r_iret rfl rfl (k g hsg (fun _ _ => rfl))
  · rw [if_neg (fun y => by omega)] at k
    rw [if_pos ⟨z1, z2⟩, if_neg (by omega)] at k
    exact r_iret rfl rfl (k g hsg (fun _ _ => rfl))
  · rw [if_pos ⟨z1, z2, z⟩] at k
    rw [if_pos ⟨z1, z2⟩, if_pos z] at k
    refine r_iret rfl rfl (k _ ⟨nx, CG_row h1 (fun a _ _ => ?_), ?_, fun a ha => CG_row (h3 a ha) (fun b _ _ => ?_), ?_, fun i hi => ?_⟩ (fun a ha => ?_))
    · rw [x_up_row (by omega), x_up_row (by omega)]
    · rw [x_up_row (by decide), x_up_row (by decide)]
      exact h2
    · have := Nat.mod_lt (nx + 4 - a) (show 0 < 5 by omega)
      rw [x_up_row (by omega), x_up_row (by omega)]
    · simp only [x_up_app, x_ce_app, x_ce_same, Nat.reduceAdd, Nat.reduceEqDiff, ↓reduceIte, Nat.reduceSub, Nat.reduceMul, reduceCtorEq]
      rfl
    · have hi : i < tL T + 1 := hi
      show _ = nI (if i = tL T then iN x else tX T i)
      simp only [x_up_app, x_ce_app, x_ce_same, Nat.reduceAdd, Nat.reduceEqDiff, ↓reduceIte, Nat.reduceSub, Nat.reduceMul, reduceCtorEq]
      by_cases e : i = tL T
      · rw [if_pos e, if_pos e, nI_iN]
      · rw [if_neg e, if_neg e]
        exact h4b i (by omega)
    · rw [x_up_row (by omega), x_up_row (by omega)]
def pClear (T : xT) : xT := (tV T, tK T, tH T, 0, tX T)
theorem tOk_clear {T : xT} (h : tOk T) : tOk (pClear T) := ⟨h.1, h.2.1, h.2.2.1, Nat.zero_le _, fun i hi => absurd hi (Nat.not_lt_zero _)⟩
set_option maxHeartbeats 4000000 in
theorem s_clearText (d : Nat) (T : xT) (g : xG) (Q : xQ) (h : SG g T) (k : ∀ g' : xG, SG g' (pClear T) → (∀ a, 157 ≤ a → g' a = g a) → Q (some (.int (nI (tL T)))) g') : Cx (d + 2) i_Bc_clearText [.ref 1] g Q := by
  obtain ⟨nx, h1, h2, h3, h4, h4b⟩ := h
  refine r_cl (L0 := [some (.ref 1)]) rfl (Or.inr ⟨_, _, _, rfl, rfl⟩) rfl rfl rfl ?_
  refine r_run 400 rfl rfl ?_
  refine r_inv rfl rfl rfl ?_
  refine c_clear d (tL T) g _ h4 ?_
  refine r_iret rfl rfl (k _ ⟨nx, CG_row h1 (fun a _ _ => ?_), ?_, fun a ha => CG_row (h3 a ha) (fun b _ _ => ?_), ?_, fun i hi => absurd hi (Nat.not_lt_zero _)⟩ (fun a ha => ?_))
  · rw [x_up_row (by omega)]
  · rw [x_up_row (by decide)]
    exact h2
  · have := Nat.mod_lt (nx + 4 - a) (show 0 < 5 by omega)
    rw [x_up_row (by omega)]
  · simp only [x_up_app, x_ce_app, x_ce_same, Nat.reduceAdd, Nat.reduceEqDiff, ↓reduceIte, Nat.reduceSub, Nat.reduceMul, reduceCtorEq]
    rfl
  · rw [x_up_row (by omega)]
def tRun (T : xT) : xV × Nat × Nat × Nat × Int32 := oRun (sgn (tL T) (tX T)) (tL T) 60 0 0 (tV T)
def qFault (T : xT) (w : Int32) : Int32 := if iN w < 3 then (if (tRun T).2.2.1 = 0 then -1000004 else if iN w = 0 then nI (tRun T).2.2.2.1 else if iN w = 1 then nI (tRun T).2.2.1 else (tRun T).2.2.2.2) else -1000001
def ePlay (T : xT) : Int32 := if (tRun T).2.2.1 = 0 then nI 0 else -1000002
set_option maxHeartbeats 4000000 in
theorem s_fault (d : Nat) (T : xT) (w : Int32) (g : xG) (Q : xQ) (h : SG g T) (hk : tOk T) (k : ∀ g' : xG, SG g' T → (∀ a, 157 ≤ a → g' a = g a) → Q (some (.int (qFault T w))) g') : Cx (d + 7) i_Bc_fault [.ref 1, .int w] g Q := by
  have hsg := h
  obtain ⟨nx, h⟩ := h
  have bad : ¬ iN w < 3 → Rx (d + 6) m_Bc_fault Q 9 [some (.ref 1), some (.int w)] [] g := by
    intro hno
    unfold qFault at k
    rw [if_neg hno] at k
    refine r_run 400 rfl rfl ?_
    exact r_iret rfl rfl (k g hsg (fun _ _ => rfl))
  refine r_cl (L0 := [some (.ref 1), some (.int w)]) rfl (Or.inr ⟨_, _, _, rfl, rfl⟩) rfl rfl rfl ?_
  refine r_run 400 rfl rfl ?_
  refine r_lt0 rfl (fun hw => bad (by have := iN_neg hw; omega)) (fun hw => ?_)
  obtain ⟨w, hw1, rfl⟩ := nI_of hw
  have ew : iN (nI w) = w := iN_nI (by omega)
  refine r_run 400 rfl rfl ?_
  refine n_ile rfl hw1 (by omega) (fun hw2 => ?_) (fun hw2 => bad (by omega))
  unfold qFault tRun at k
  rw [ew, if_pos (by omega)] at k
  refine r_run 400 rfl rfl ?_
  refine r_inv rfl rfl rfl ?_
  refine c_rehearse d (tL T) (tX T) (tV T) g _ (SG_TG h hk) h.1 hk.1 (fun g1 V' n rs bg cs e hn hrs hbg hvk hcg e1 e3 e4 hf => ?_)
  rw [e] at k
  dsimp only at k
  have k := k g1 ⟨nx, SGn_row h (fun a ha => hf a (by omega))⟩ (fun a ha => hf a (by omega))
  refine r_run 400 rfl rfl ?_
  simp only [x_up_app, x_ce_app, x_ce_same, Nat.reduceAdd, Nat.reduceEqDiff, ↓reduceIte, Nat.reduceSub, Nat.reduceMul, reduceCtorEq, e3]
  refine r_ne0 rfl (fun z => ?_) (fun z => ?_)
  · have z : ¬ rs = 0 := fun e => z (by rw [e]; rfl)
    obtain ⟨e5, e6⟩ := e4 z
    rw [if_neg z] at k
    refine r_run 400 rfl rfl ?_
    refine r_lsw rfl rfl ⟨fun x hx e => ?_, fun hno => ?_⟩
    · simp only [List.mem_cons, List.not_mem_nil, or_false] at hx
      rcases hx with rfl | rfl
      · have e := (nI_eq (by omega) (by omega)).mp e
        subst e
        rw [if_pos rfl] at k
        refine r_run 400 rfl rfl ?_
        simp only [x_up_app, x_ce_app, x_ce_same, Nat.reduceAdd, Nat.reduceEqDiff, ↓reduceIte, Nat.reduceSub, Nat.reduceMul, reduceCtorEq, e5]
        exact r_iret rfl rfl k
      · have e := (nI_eq (by omega) (by omega)).mp e
        subst e
        rw [if_neg (by decide), if_pos rfl] at k
        refine r_run 400 rfl rfl ?_
        simp only [x_up_app, x_ce_app, x_ce_same, Nat.reduceAdd, Nat.reduceEqDiff, ↓reduceIte, Nat.reduceSub, Nat.reduceMul, reduceCtorEq, e3]
        exact r_iret rfl rfl k
    · simp only [List.mem_cons, List.not_mem_nil, or_false, forall_eq_or_imp, forall_eq] at hno
      obtain ⟨n0, n1⟩ := hno
      rw [if_neg (fun e => n0 (by rw [e])), if_neg (fun e => n1 (by rw [e]))] at k
      refine r_run 400 rfl rfl ?_
      simp only [x_up_app, x_ce_app, x_ce_same, Nat.reduceAdd, Nat.reduceEqDiff, ↓reduceIte, Nat.reduceSub, Nat.reduceMul, reduceCtorEq, e6]
      exact r_iret rfl rfl k
  · have z : rs = 0 := (nI_eq (b := 0) (by omega) (by omega)).mp z
    rw [if_pos z] at k
    refine r_run 400 rfl rfl ?_
    exact r_iret rfl rfl k
theorem oRun_ok {s : Nat → Nat} {L : Nat} : ∀ (f i n : Nat) {V : xV}, vOk V → vOk (oRun s L f i n V).1
  | 0, _, _, _, h => h
  | f + 1, i, n, V, h => by
    unfold oRun
    split
    · split
      · split
        · exact h
        · rename_i he
          rcases eOrd_e V _ _ _ with h2 | h2
          · exact absurd h2 he
          · exact oRun_ok f _ _ (vOk_ord h h2)
      · exact h
    · exact h
set_option maxHeartbeats 4000000 in
theorem s_play (d : Nat) (T : xT) (g : xG) (Q : xQ) (h : SG g T) (hk : tOk T) (k : ∀ g' : xG, SG g' (pCh T (ePlay T) (tRun T).1) → (∀ a, 157 ≤ a → g' a = g a) → Q (some (.int (aCh (ePlay T) (tRun T).2.1))) g') : Cx (d + 7) i_Bc_play [.ref 1] g Q := by
  have hsg := h
  obtain ⟨nx, h⟩ := h
  unfold ePlay at k
  generalize hR : tRun T = R at k
  refine r_cl (L0 := [some (.ref 1)]) rfl (Or.inr ⟨_, _, _, rfl, rfl⟩) rfl rfl rfl ?_
  refine r_run 400 rfl rfl ?_
  refine r_inv rfl rfl rfl ?_
  refine c_rehearse d (tL T) (tX T) (tV T) g _ (SG_TG h hk) h.1 hk.1 (fun g1 V' n rs bg cs e hn hrs hbg hvk hcg e1 e3 e4 hf => ?_)
  have e : tRun T = (V', n, rs, bg, cs) := e
  rw [hR] at e
  subst e
  dsimp only at k
  have h1 : SGn g1 T nx := SGn_row h (fun a ha => hf a (by omega))
  refine r_run 400 rfl rfl ?_
  simp only [x_up_app, x_ce_app, x_ce_same, Nat.reduceAdd, Nat.reduceEqDiff, ↓reduceIte, Nat.reduceSub, Nat.reduceMul, reduceCtorEq, e3]
  refine r_eq0 rfl (fun z => ?_) (fun z => ?_)
  · have z : rs = 0 := (nI_eq (b := 0) (by omega) (by omega)).mp z
    rw [if_pos z] at k
    refine r_run 400 rfl rfl ?_
    refine r_inv rfl rfl rfl ?_
    refine s_prepare (d + 3) nx T g1 _ h1 hk (fun g2 a1 a2 a3 => ?_)
    refine r_run 400 rfl rfl ?_
    refine r_inv rfl rfl rfl ?_
    refine c_copyGame_2_137 (d + 4) g2 _ (fun g3 b1 b2 => ?_)
    have hcg2 : CG g2 137 V' := CG_row hcg (fun a _ _ => a3 a (by omega))
    have hcg3 : CG g3 2 V' := CG_same hcg2 hvk b1
    have e13 : g3 136 1 = nI n := by rw [b2 136 (by omega), a3 136 (by omega)]; exact e1
    refine r_run 400 rfl rfl ?_
    simp only [x_up_app, x_ce_app, x_ce_same, Nat.reduceAdd, Nat.reduceEqDiff, ↓reduceIte, Nat.reduceSub, Nat.reduceMul, reduceCtorEq, e13]
    refine r_inv rfl rfl rfl ?_
    have hb := s_behind (g' := g3) a1 a2 (fun a ha => b2 a (by omega))
    have ha : nI n = aCh (nI 0) n := by
      unfold aCh
      rw [if_neg (by decide)]
    rw [ha]
    refine s_settle (d + 4) nx T V' (nI 0) n g3 _ (by rw [if_neg (by decide)]; exact hcg3) hb.1 hb.2.1 hb.2.2.1 hb.2.2.2 hk (by omega) (fun g4 c1 c2 => ?_)
    refine r_iret rfl rfl (k g4 c1 (fun a ha => by rw [c2 a (by omega), b2 a (by omega), a3 a (by omega), hf a (by omega)]))
  · have z : ¬ rs = 0 := fun e => z (by rw [e]; rfl)
    rw [if_neg z] at k
    refine r_run 400 rfl rfl ?_
    refine r_iret rfl rfl ?_
    have e2 : pCh T (-1000002) V' = T := if_pos (by decide)
    have e4 : aCh (-1000002) n = -1000002 := if_pos (by decide)
    rw [e2] at k
    rw [e4] at k
    exact k g1 ⟨nx, h1⟩ (fun a ha => hf a (by omega))
