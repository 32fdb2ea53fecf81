/-! ===== the picture as the machine's heap ===== -/
/-- the address of a cell's number: 0 the script's, k + 1 the k-th cell made -/
def x_a (b sz : Nat) : Nat → Nat
  | 0 => b
  | k + 1 => sz + k
def x_v (b sz : Nat) : Value → Value
  | .ref k => .ref (x_a b sz k)
  | v => v
def x_f (b sz : Nat) (gk : Nat → Int32) (j : Nat) (f : xF) : Value := match f with
  | none => .int (gk j)
  | some none => .null
  | some (some k) => .ref (x_a b sz k)
def x_e (cI cG : ClassId) (b sz : Nat) (gk : Nat → Int32) (c : xS) : va_E := match c with
  | .inl n => .inl (cI, n, .inl gk)
  | .inr (.inl o) => .inr (o.1, o.2.mapIdx (x_f b sz gk))
  | .inr (.inr es) => .inl (cG, es.length, .inr (.inr (.inr (.inr (fun j => (es[j]?.getD none).map (x_a b sz))))))
def x_ws (cI cG : ClassId) (b sz : Nat) (S : xW) (g : xG) : va_W := S.mapIdx fun k c => (sz + k, x_e cI cG b sz (g (k + 1)) c)
theorem x_ws_get {cI cG : ClassId} {b sz q : Nat} {S : xW} {g : xG} {c : xS} (h : S[q]? = some c) : (x_ws cI cG b sz S g)[q]? = some (sz + q, x_e cI cG b sz (g (q + 1)) c) := by
  simp [x_ws, List.getElem?_mapIdx, h]
theorem x_ws_len {cI cG : ClassId} {b sz : Nat} {S : xW} {g : xG} : (x_ws cI cG b sz S g).length = S.length := by simp [x_ws]
theorem x_ws_set {cI cG : ClassId} {b sz q : Nat} {S : xW} {g g' : xG} {c' : xS} (hg : ∀ k, k ≠ q + 1 → g' k = g k) : (x_ws cI cG b sz S g).set q (sz + q, x_e cI cG b sz (g' (q + 1)) c') = x_ws cI cG b sz (S.set q c') g' := by
  apply List.ext_getElem?
  intro i
  simp only [x_ws, List.getElem?_set, List.getElem?_mapIdx, List.length_mapIdx]
  by_cases hi : q = i
  · subst hi
    by_cases hl : q < S.length <;> simp [hl]
  · simp only [hi, if_false]
    rw [hg (i + 1) (fun z => hi (Nat.succ.inj z).symm)]
theorem x_ws_push {cI cG : ClassId} {b sz : Nat} {S : xW} {g g' : xG} {c' : xS} (hg : ∀ k, k ≠ S.length + 1 → g' k = g k) : x_ws cI cG b sz (S ++ [c']) g' = x_ws cI cG b sz S g ++ [(sz + S.length, x_e cI cG b sz (g' (S.length + 1)) c')] := by
  apply List.ext_getElem?
  intro i
  simp only [x_ws, List.getElem?_mapIdx, List.getElem?_append, List.length_mapIdx]
  by_cases hl : i < S.length
  · simp only [hl, if_true]
    rw [hg (i + 1) (fun z => by omega)]
  · simp only [hl, if_false]
    by_cases h0 : i - S.length = 0
    · have : i = S.length := by omega
      subst this
      simp
    · rw [List.getElem?_eq_none (by simp; omega), List.getElem?_eq_none (by simp; omega)]
      rfl
theorem x_set_self {S : xW} {q : Nat} {c : xS} (h : S[q]? = some c) : S.set q c = S := by
  apply List.ext_getElem?
  intro i
  rw [List.getElem?_set]
  by_cases hi : q = i
  · subst hi
    rw [if_pos rfl, h, if_pos (List.getElem?_eq_some_iff.mp h).1]
  · rw [if_neg hi]
theorem x_D {cI cG : ClassId} {b sz : Nat} {S : xW} {g : xG} : va_D (fun q => sz ≤ q) (x_ws cI cG b sz S g) := by
  refine ⟨fun i j p q hi hj e => ?_, fun k q hk => ?_⟩
  · simp only [x_ws, List.getElem?_mapIdx, Option.map_eq_some_iff] at hi hj
    obtain ⟨c1, -, rfl⟩ := hi
    obtain ⟨c2, -, rfl⟩ := hj
    dsimp only at e
    omega
  · simp only [x_ws, List.getElem?_mapIdx, Option.map_eq_some_iff] at hk
    obtain ⟨c1, -, rfl⟩ := hk
    exact Nat.le_add_right _ _
theorem x_up_ne {g : xG} {q j : Nat} {x : Int32} : ∀ k, k ≠ q + 1 → x_up g (q + 1) j x k = g k := fun k hk => by
  funext a
  simp [x_up, hk]
theorem x_up_eq {g : xG} {q j : Nat} {x : Int32} : x_up g q j x q = upd (g q) j x := by
  funext a
  simp [x_up, upd]
theorem x_v_cat {b sz : Nat} (v : Value) : (x_v b sz v).category = v.category := by cases v <;> rfl
/-! the locals -/
def x_lh (b sz : Nat) (ls : Array Slot) (L : xL) : Prop := ls.size = L.length ∧ lv_wf ls ∧ ∀ (i : Nat) (v : Value), L[i]? = some (some v) → ls[i]? = some (.val (x_v b sz v))
def x_lst (b sz : Nat) (L : xL) : List (Nat × Value) := (List.range L.length).filterMap fun i => match L[i]? with
  | some (some v) => some (i, x_v b sz v)
  | _ => none
theorem x_lst_mem {b sz : Nat} {L : xL} {q : Nat × Value} (h : q ∈ x_lst b sz L) : ∃ v, L[q.1]? = some (some v) ∧ q.2 = x_v b sz v := by
  obtain ⟨i, -, hi⟩ := List.mem_filterMap.mp h
  split at hi
  · rename_i v hv
    cases hi
    exact ⟨v, hv, rfl⟩
  · cases hi
theorem x_lst_in {b sz i : Nat} {L : xL} {v : Value} (h : L[i]? = some (some v)) : (i, x_v b sz v) ∈ x_lst b sz L := by
  refine List.mem_filterMap.mpr ⟨i, List.mem_range.mpr (List.getElem?_eq_some_iff.mp h).1, ?_⟩
  rw [h]
theorem x_lh_has {b sz : Nat} {ls : Array Slot} {L : xL} (h : x_lh b sz ls L) : lv_has ls L.length (x_lst b sz L) := by
  refine ⟨h.1, h.2.1, fun q hq => ?_⟩
  obtain ⟨v, h1, h2⟩ := x_lst_mem hq
  rw [h2]
  exact h.2.2 _ _ h1
theorem x_nl_ok {L : xL} {i j : Nat} {w : Value} (h : x_nl L i = true) (hw : L[j]? = some (some w)) (hj : j + 1 = i) : ¬ w.category = 2 := by
  subst hj
  have h : (match L[j]? with | some (some v) => !Nat.beq v.category 2 | _ => true) = true := h
  rw [hw] at h
  dsimp only at h
  intro z
  rw [z] at h
  cases h
theorem x_has_lh {b sz i : Nat} {ls ls' : Array Slot} {L : xL} {v : Value} (h : x_lh b sz ls L) (hc : x_nl L i = true) (hi : i < L.length) (h' : lv_has ls' L.length ((i, x_v b sz v) :: (x_lst b sz L).filter (fun q => !(q.1 == i) && !(q.1 + 1 == i && q.2.category == 2)))) : x_lh b sz ls' (L.set i (some v)) := by
  refine ⟨by rw [h'.1, List.length_set], h'.2.1, fun j w hw => ?_⟩
  rw [List.getElem?_set] at hw
  by_cases hj : i = j
  · subst hj
    rw [if_pos rfl, if_pos hi] at hw
    cases hw
    exact h'.2.2 (i, x_v b sz v) List.mem_cons_self
  · rw [if_neg hj] at hw
    refine h'.2.2 (j, x_v b sz w) (List.mem_cons_of_mem _ (List.mem_filter.mpr ⟨x_lst_in hw, ?_⟩))
    have e1 : (j == i) = false := by simp; omega
    have e2 : (j + 1 == i && (x_v b sz w).category == 2) = false := by
      rw [x_v_cat, Bool.and_eq_false_iff]
      by_cases hz : j + 1 = i
      · right
        have := x_nl_ok hc hw hz
        simpa using this
      · left
        simpa using hz
    show (!(j == i) && !(j + 1 == i && (x_v b sz w).category == 2)) = true
    rw [e1, e2]
    rfl
theorem x_has_lh2 {b sz i : Nat} {ls ls' : Array Slot} {L : xL} {v : Value} (h : x_lh b sz ls L) (hc : x_nl L i = true) (hi : i + 1 < L.length) (h' : lv_has ls' L.length ((i, x_v b sz v) :: (x_lst b sz L).filter (fun q => !(q.1 == i) && (!(q.1 == i + 1) && !(q.1 + 1 == i && q.2.category == 2))))) : x_lh b sz ls' ((L.set i (some v)).set (i + 1) none) := by
  refine ⟨by rw [h'.1, List.length_set, List.length_set], h'.2.1, fun j w hw => ?_⟩
  rw [List.getElem?_set] at hw
  by_cases hj1 : i + 1 = j
  · rw [if_pos hj1, if_pos (by rw [List.length_set]; omega)] at hw
    cases hw
  rw [if_neg hj1, List.getElem?_set] at hw
  by_cases hj : i = j
  · subst hj
    rw [if_pos rfl, if_pos (by omega)] at hw
    cases hw
    exact h'.2.2 (i, x_v b sz v) List.mem_cons_self
  · rw [if_neg hj] at hw
    refine h'.2.2 (j, x_v b sz w) (List.mem_cons_of_mem _ (List.mem_filter.mpr ⟨x_lst_in hw, ?_⟩))
    have e1 : (j == i) = false := by simp; omega
    have e3 : (j == i + 1) = false := by simp; omega
    have e2 : (j + 1 == i && (x_v b sz w).category == 2) = false := by
      rw [x_v_cat, Bool.and_eq_false_iff]
      by_cases hz : j + 1 = i
      · right
        have := x_nl_ok hc hw hz
        simpa using this
      · left
        simpa using hz
    show (!(j == i) && (!(j == i + 1) && !(j + 1 == i && (x_v b sz w).category == 2))) = true
    rw [e1, e2, e3]
    rfl
theorem x_lh_at {b sz i : Nat} {ls : Array Slot} {L : xL} {v : Value} (h : x_lh b sz ls L) (hv : L[i]? = some (some v)) : ls[i]? = some (.val (x_v b sz v)) := h.2.2 i v hv
theorem x_lv_args (b sz : Nat) : ∀ (vs : List Value) (i : Nat), (∀ v ∈ vs, v.category = 1) → ∀ (j : Nat) (v : Value), vs[j]? = some v → (i + j, x_v b sz v) ∈ lv_args i (vs.map (x_v b sz))
  | [], _, _, _, _, h => by simp at h
  | w :: vs, i, hc, 0, v, h => by
    simp at h
    subst h
    exact List.mem_cons_self
  | w :: vs, i, hc, j + 1, v, h => by
    have h1 : (x_v b sz w).category = 1 := by rw [x_v_cat]; exact hc w List.mem_cons_self
    have h2 := x_lv_args b sz vs (i + 1) (fun z hz => hc z (List.mem_cons_of_mem _ hz)) j v (by simpa using h)
    show _ ∈ _ :: lv_args (if (x_v b sz w).category = 2 then i + 2 else i + 1) _
    rw [h1]
    rw [show i + (j + 1) = i + 1 + j by omega]
    exact List.mem_cons_of_mem _ h2
theorem x_sl_len (b sz : Nat) : ∀ (vs : List Value), (∀ v ∈ vs, v.category = 1) → (lg_sl (vs.map (x_v b sz))).length = vs.length
  | [], _ => rfl
  | v :: vs, h => by
    have h1 : (x_v b sz v).category = 1 := by rw [x_v_cat]; exact h v List.mem_cons_self
    have h2 := x_sl_len b sz vs (fun z hz => h z (List.mem_cons_of_mem _ hz))
    unfold lg_sl at h2 ⊢
    simp [h1, h2, List.flatMap_cons]
theorem x_entry {b sz n : Nat} {vs : List Value} (hc : ∀ v ∈ vs, v.category = 1) (hn : vs.length ≤ n) : x_lh b sz ((lg_sl (vs.map (x_v b sz)) ++ List.replicate (n - (lg_sl (vs.map (x_v b sz))).length) Slot.unset).toArray) (vs.map some ++ List.replicate (n - vs.length) none) := by
  have hl := lv_entry (vs.map (x_v b sz)) (n := n) (by rw [x_sl_len b sz vs hc]; exact hn)
  refine ⟨by rw [hl.1]; simp; omega, hl.2.1, fun i v hv => ?_⟩
  have hi : i < vs.length := by
    rcases Nat.lt_or_ge i vs.length with h | h
    · exact h
    · rw [List.getElem?_append_right (by simpa using h)] at hv
      have := List.mem_of_getElem? hv
      rw [List.mem_replicate] at this
      cases this.2
  rw [List.getElem?_append_left (by simpa using hi), List.getElem?_map] at hv
  obtain ⟨w, hw, e⟩ := Option.map_eq_some_iff.mp hv
  cases e
  have := hl.2.2 (0 + i, x_v b sz v) (x_lv_args b sz vs 0 hc i v hw)
  rw [Nat.zero_add] at this
  exact this
/-! the words -/
def x_LW : List Jvm.Cond := lw_tbl.filter goodWord
def x_nest : Jvm.Cond → Bool
  | .fieldLinkNest _ _ _ _ _ _ => true
  | .methodLinkNest _ _ _ _ => true
  | _ => false
def x_nw (s : State) : Prop := ∀ w ∈ tables_1, x_nest w = true → va_Nw w s
theorem x_nw_warm {s U : State} (hW : s.WarmedH U.vm) (h : x_nw s) : x_nw U := by
  intro w hw hn
  have h1 := h w hw hn
  cases w <;> first | exact va_Nw.warmF hW h1 | exact va_Nw.warmM hW h1 | exact absurd hn (by decide) | exact absurd hn (by intro z; cases z)
theorem x_nw_same {s U : State} (hv : s.vm = U.vm) (h : x_nw s) : x_nw U := by
  intro w hw hn
  have h1 := h w hw hn
  refine va_Nw.same ?_ hv h1
  cases w <;> first | rfl | exact absurd hn (by intro z; cases z)
theorem x_lw_tbl {w : Jvm.Cond} (h : w ∈ tables_1) : w ∈ lw_tbl := List.mem_append_right _ h
theorem x_in {w : Jvm.Cond} (h : w ∈ tables_1) (hg : goodWord w = true) : w ∈ x_LW := List.mem_filter.mpr ⟨x_lw_tbl h, hg⟩
def x_tys (cI cG : ClassId) : List (ClassId × FieldType) := [(cI, .int), (cG, .object RX2)]
/-- what a method knows of the tables -/
def x_kn (D : va_G) (cI cG : ClassId) (args : Array Value) (s : State) : Prop := (∀ w ∈ x_LW, w.before args s = true) ∧ x_nw s ∧ va_AO RX2 s ∧ va_K D vwCl (x_tys cI cG) s
theorem x_kn.w {D : va_G} {cI cG : ClassId} {args : Array Value} {s : State} (h : x_kn D cI cG args s) {w : Jvm.Cond} (hw : w ∈ tables_1) (hg : goodWord w = true) : w.before args s = true := h.1 w (x_in hw hg)
theorem x_kn.u {D : va_G} {cI cG : ClassId} {args : Array Value} {s : State} (h : x_kn D cI cG args s) {r : vw_C} (hr : rK r) : ∀ w ∈ u_ws r.1 r.2.1 r.2.2, w ∈ x_LW := by
  intro w hw
  refine x_in (hr.2.2.1 w hw) ?_
  obtain ⟨k, -, rfl⟩ := List.mem_map.mp hw
  unfold u_lay
  split <;> rfl
theorem x_cl_at {ci : Nat} {r : vw_C} (h : vwCl[ci]? = some r) : rK r := rK_ok r (List.mem_of_getElem? h)
