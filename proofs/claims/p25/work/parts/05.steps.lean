/-! ===== one plain instruction of the picture is one of the machine ===== -/
section XS
variable {p : Program} {l : Launch} {e : Env} {R : Room} {s : State} {m : MethodId} {args : Array Value} {below : List Frame} {meth : Method} {c : Code} {H : Heap} {locs : List Loc} {cells slots : Nat} {Q : State → Prop}
variable {D : va_G} {cI cG : ClassId} {b sz : Nat} {cc : ByteArray} {mm : xM}
/-- a float of the class's constants, by the wide form -/
theorem x_ldcwf (hexec : p.tables.exec = Jvm.exec) (hb : c.code = cc) {own : String} {index pc : Nat} {v : UInt32} {ls : Array Slot} {rest : List Value} (hown : s.vm.findClass own = some m.cls) (hconst : (Jvm.Cond.constantFloat own index v).before args s = true) (hdg : decode cc pc = .ok (.ldc_w index, 3)) (k : W p l e R s m args below meth c H locs cells slots Q (F0 m (pc + 3) ls (.float v :: rest))) : W p l e R s m args below meth c H locs cells slots Q (F0 m pc ls rest) := by
  intro T hT X
  obtain ⟨t, a, b⟩ := k T hT X
  obtain ⟨kc, cf, hk, hcf, hcp⟩ := Jvm.Cond.constantFloat_spec hown hconst
  obtain ⟨k', hk', he⟩ := X.warmed.alike.2.2 _ _ hk
  refine ⟨t, ?_, b⟩
  subst hb
  jvm_step X.here [hexec, hdg, ldc_w.wp_float (s := T) (f := F0 m pc ls rest) X.here.top hk' (by rw [he]; exact hcf) hcp]
  exact a
/-- where a walk stands: the machine, the code, the class, the knowledge -/
def x_C (p : Program) (s : State) (m : MethodId) (args : Array Value) (meth : Method) (c : Code) (D : va_G) (cI cG : ClassId) (cc : ByteArray) (mm : xM) : Prop :=
  p.tables.exec = Jvm.exec ∧ c.code = cc ∧ s.vm.findClass (x_own mm.1) = some m.cls ∧ x_kn D cI cG args s ∧ meth.sig.returnType = mm.2.2.1 ∧ meth.locks = false ∧ (mm.2.1 = true → meth.name = "<init>") ∧ c.maxLocals = mm.2.2.2.1
theorem x_ok1 {oc : Nat} {cc : ByteArray} {q : Nat × Jvm.ClassFile.Instr × Nat × Nat × Nat} (h : okE oc cc q = true) : decode cc q.1 = .ok (q.2.1, q.2.2.1) ∧ q.2.2.1 = x_len q.2.1 q.2.2.1 := by
  unfold okE at h
  rw [Bool.and_eq_true, Bool.and_eq_true] at h
  exact ⟨of_decide_eq_true h.1.1, Nat.eq_of_beq_eq_true h.1.2⟩
theorem x_ok2 {oc : Nat} {cc : ByteArray} {pc len r1 r2 : Nat} {i : Jvm.ClassFile.Instr} (h : okE oc cc (pc, i, len, r1, r2) = true) : okM oc pc i r1 r2 = true := by
  unfold okE at h
  rw [Bool.and_eq_true] at h
  exact h.2
theorem x_fld {D : va_G} {cI cG : ClassId} {args : Array Value} {s : State} (hk : x_kn D cI cG args s) {oc i ci k : Nat} (h : resF.contains (oc, i, ci, k) = true) : ∃ r : vw_C, vwCl[ci]? = some r ∧ k < r.2.2 ∧ (r.2.1 k).1 = r.1 ∧ ((Jvm.Cond.fieldLink (x_own oc) i r.1 (r.2.1 k).2.1 (r.2.1 k).2.2.1).before args s = true ∨ (oc ≠ ci ∧ (Jvm.Cond.fieldLinkNest (x_own oc) i r.1 (r.2.1 k).2.1 (r.2.1 k).2.2.1 RX8).before args s = true)) := by
  obtain ⟨r, h1, h2, h3, h4⟩ := rF_ok _ (List.contains_iff_mem.mp h)
  refine ⟨r, h1, h2, h3, ?_⟩
  rcases h4 with h4 | h4
  · exact Or.inl (hk.w h4 rfl)
  · exact Or.inr ⟨h4.1, va_Nw.use rfl (hk.2.1 _ h4.2 rfl)⟩
set_option maxHeartbeats 4000000 in
theorem x_getf (C : x_C p s m args meth c D cI cG cc mm) {S : xW} {g : xG} (hP : va_P D vwCl (x_ws cI cG b sz S g) H) {i pc q ci k : Nat} {fs : List xF} {f : xF} (hr : resF.contains (mm.1, i, ci, k) = true) (hq : S[q]? = some (.inr (.inl (ci, fs)))) (hf : fs[k]? = some f) (hdg : decode cc pc = .ok (.getfield i, 3)) {ls : Array Slot} {rest : List Value}
    (kk : W p l e R s m args below meth c H locs cells slots Q (F0 m (pc + 3) ls (x_f b sz (g (q + 1)) k f :: rest))) : W p l e R s m args below meth c H locs cells slots Q (F0 m pc ls (.ref (sz + q) :: rest)) := by
  obtain ⟨hx, hb, hown, hk, -⟩ := C
  obtain ⟨r, h1, h2, h3, h4⟩ := x_fld hk hr
  have hv : (fs.mapIdx (x_f b sz (g (q + 1))))[k]? = some (x_f b sz (g (q + 1)) k f) := by simp [List.getElem?_mapIdx, hf]
  have he := x_ws_get (cI := cI) (cG := cG) (b := b) (sz := sz) (g := g) hq
  have hs : ∀ x, s.fieldFound? (r.2.1 k).1 (r.2.1 k).2.1 (r.2.1 k).2.2.1 = some x → s.fieldFound? r.1 (r.2.1 k).2.1 (r.2.1 k).2.2.1 = some x := fun x z => by rw [h3] at z; exact z
  rcases h4 with h4 | h4
  · exact va_get (C := r.1) (T := r.2.1) (N := r.2.2) hx hb hk.1 (hk.u (x_cl_at h1)) hown hk.2.2.2 hP q he h1 k h2 h4 hs hv hdg kk
  · exact va_getN (C := r.1) (T := r.2.1) (N := r.2.2) hx hb hk.1 (hk.u (x_cl_at h1)) hown hk.2.2.2 hP q he h1 k h2 h4.2 hs hv hdg kk
def x_rty : Option FieldType → Bool
  | some (.object _) => true
  | some (.array _) => true
  | _ => false
theorem x_rty_ok {t : Option FieldType} (h : x_rty t = true) : ∃ ty, t = some ty ∧ (∀ a, narrow ty (.ref a) = .ref a ∧ fits ty (.ref a) = true) ∧ defaultValue ty = .null := by
  match t, h with
  | some (.object _), _ => exact ⟨_, rfl, fun _ => ⟨rfl, rfl⟩, rfl⟩
  | some (.array _), _ => exact ⟨_, rfl, fun _ => ⟨rfl, rfl⟩, rfl⟩
def x_fK (ci : Nat) (r : vw_C) (l : List xF) : Prop := l.length = r.2.2 ∧ ∀ k, k < r.2.2 → (l[k]? = some none ∧ (r.2.1 k).2.2.2 = false ∧ (parseFieldDescriptor (r.2.1 k).2.2.1 = some .int ∨ (parseFieldDescriptor (r.2.1 k).2.2.1 = some .boolean ∧ x_bool ci k = true))) ∨ (l[k]? = some (some none) ∧ (r.2.1 k).2.2.2 = true ∧ (r.2.1 k).1 = r.1 ∧ x_rty (parseFieldDescriptor (r.2.1 k).2.2.1) = true)
theorem x_fK0 : x_fK 0 (RX0, TX0, 7) (x_new 0) := ⟨rfl, by decide +kernel⟩
theorem x_fK1 : x_fK 1 (RX1, TX1, 4) (x_new 1) := ⟨rfl, by decide +kernel⟩
theorem x_fK2 : x_fK 2 (RX2, TX2, 10) (x_new 2) := ⟨rfl, by decide +kernel⟩
theorem x_fK3 : x_fK 3 (RX3, TX3, 12) (x_new 3) := ⟨rfl, by decide +kernel⟩
theorem x_fK4 : x_fK 4 (RX4, TX4, 3) (x_new 4) := ⟨rfl, by decide +kernel⟩
theorem x_fK5 : x_fK 5 (RX5, TX5, 9) (x_new 5) := ⟨rfl, by decide +kernel⟩
theorem x_fK6 : x_fK 6 (RX6, TX6, 10) (x_new 6) := ⟨rfl, by decide +kernel⟩
theorem x_fK7 : x_fK 7 (RX7, TX7, 2) (x_new 7) := ⟨rfl, by decide +kernel⟩
theorem x_fK8 : x_fK 8 (RX8, TX8, 5) (x_new 8) := ⟨rfl, by decide +kernel⟩
/-- the fields by their kind: the ints aren't final, the others are -/
theorem x_flds {ci : Nat} {r : vw_C} (h : vwCl[ci]? = some r) : x_fK ci r (x_new ci) ∧ x_own ci = r.1 := by
  match ci, h with
  | 0, h => cases h; exact ⟨x_fK0, rfl⟩
  | 1, h => cases h; exact ⟨x_fK1, rfl⟩
  | 2, h => cases h; exact ⟨x_fK2, rfl⟩
  | 3, h => cases h; exact ⟨x_fK3, rfl⟩
  | 4, h => cases h; exact ⟨x_fK4, rfl⟩
  | 5, h => cases h; exact ⟨x_fK5, rfl⟩
  | 6, h => cases h; exact ⟨x_fK6, rfl⟩
  | 7, h => cases h; exact ⟨x_fK7, rfl⟩
  | 8, h => cases h; exact ⟨x_fK8, rfl⟩
  | k + 9, h => simp [vwCl] at h
theorem x_01_ok {x : Int32} (h : x_01 x = true) : narrow .boolean (.int x) = .int x ∧ fits .boolean (.int x) = true := by
  unfold x_01 at h
  rw [Bool.or_eq_true] at h
  rcases h with h | h
  · rw [of_decide_eq_true h]
    exact ⟨by decide, by decide⟩
  · rw [of_decide_eq_true h]
    exact ⟨by decide, by decide⟩
theorem x_mset {b sz q k : Nat} {g : xG} {fs : List xF} {x : Int32} (hf : fs[k]? = some none) : (fs.mapIdx (x_f b sz (g (q + 1)))).set k (.int x) = fs.mapIdx (x_f b sz (x_up g (q + 1) k x (q + 1))) := by
  apply List.ext_getElem?
  intro i
  rw [List.getElem?_set, List.getElem?_mapIdx, List.getElem?_mapIdx, List.length_mapIdx]
  by_cases hi : k = i
  · subst hi
    rw [if_pos rfl, if_pos (List.getElem?_eq_some_iff.mp hf).1, hf]
    simp [x_f, x_up]
  · rw [if_neg hi]
    cases hfi : fs[i]? with
    | none => rfl
    | some f =>
      cases f with
      | none => simp [x_f, x_up, Ne.symm hi]
      | some f => cases f <;> rfl
theorem x_msetR {b sz k v : Nat} {gk : Nat → Int32} {fs : List xF} : (fs.mapIdx (x_f b sz gk)).set k (.ref (x_a b sz v)) = (fs.set k (some (some v))).mapIdx (x_f b sz gk) := by
  apply List.ext_getElem?
  intro i
  rw [List.getElem?_set, List.getElem?_mapIdx, List.getElem?_mapIdx, List.length_mapIdx, List.getElem?_set]
  by_cases hi : k = i
  · subst hi
    by_cases hl : k < fs.length <;> simp [hl, x_f]
  · rw [if_neg hi, if_neg hi]
set_option maxHeartbeats 4000000 in
theorem x_putI (C : x_C p s m args meth c D cI cG cc mm) {S : xW} {g : xG} (hP : va_P D vwCl (x_ws cI cG b sz S g) H) {H0 : Heap} (hS : va_S (fun q => sz ≤ q) H0 H locs) {i pc q ci k : Nat} {fs : List xF} (hr : resF.contains (mm.1, i, ci, k) = true) (hq : S[q]? = some (.inr (.inl (ci, fs)))) (hn : (x_new ci)[k]? = some none) (hf : fs[k]? = some none) (hdg : decode cc pc = .ok (.putfield i, 3)) {ls : Array Slot} {rest : List Value} {x : Int32} (h01 : x_bool ci k = true → x_01 x = true)
    (kk : ∀ (H1 : Heap) (locs1 : List Loc), va_P D vwCl (x_ws cI cG b sz S (x_up g (q + 1) k x)) H1 → va_S (fun q => sz ≤ q) H0 H1 locs1 → W p l e R s m args below meth c H1 locs1 cells slots Q (F0 m (pc + 3) ls rest)) : W p l e R s m args below meth c H locs cells slots Q (F0 m pc ls (.int x :: .ref (sz + q) :: rest)) := by
  obtain ⟨hx, hb, hown, hk, -⟩ := C
  obtain ⟨r, h1, h2, h3, h4⟩ := x_fld hk hr
  have hc := x_cl_at h1
  obtain ⟨-, -, -, hnm, ty, hty⟩ := id hc
  have he := x_ws_get (cI := cI) (cG := cG) (b := b) (sz := sz) (g := g) hq
  have hs : ∀ x, s.fieldFound? (r.2.1 k).1 (r.2.1 k).2.1 (r.2.1 k).2.2.1 = some x → s.fieldFound? r.1 (r.2.1 k).2.1 (r.2.1 k).2.2.1 = some x := fun x z => by rw [h3] at z; exact z
  obtain ⟨⟨hlen, hfk⟩, -⟩ := x_flds h1
  obtain ⟨tz, hz1, hz2, hz3, hz4⟩ : ∃ tz : FieldType, (r.2.1 k).2.2.2 = false ∧ parseFieldDescriptor (r.2.1 k).2.2.1 = some tz ∧ narrow tz (.int x) = .int x ∧ fits tz (.int x) = true := by
    rcases hfk k h2 with ⟨-, z1, z2 | ⟨z2, z3⟩⟩ | ⟨z, -⟩
    · exact ⟨_, z1, z2, rfl, rfl⟩
    · exact ⟨_, z1, z2, (x_01_ok (h01 z3)).1, (x_01_ok (h01 z3)).2⟩
    · rw [hn] at z; cases z
  have hl : k < (fs.mapIdx (x_f b sz (g (q + 1)))).length := by rw [List.length_mapIdx]; exact (List.getElem?_eq_some_iff.mp hf).1
  have e1 : (x_ws cI cG b sz S g).set q (sz + q, .inr (ci, (fs.mapIdx (x_f b sz (g (q + 1)))).set k (.int x))) = x_ws cI cG b sz S (x_up g (q + 1) k x) := by
    rw [x_mset hf]
    have := x_ws_set (cI := cI) (cG := cG) (b := b) (sz := sz) (S := S) (g := g) (g' := x_up g (q + 1) k x) (q := q) (c' := .inr (.inl (ci, fs))) x_up_ne
    rw [x_set_self hq] at this
    exact this
  rcases h4 with h4 | h4
  · exact va_put (C := r.1) (T := r.2.1) (N := r.2.2) hx hb hk.1 (hk.u hc) ty hty hnm hown hk.2.2.2 hP x_D hS q he h1 k h2 h4 hs hz1 hz2 hz3 hz4 hl hdg (fun H1 locs1 a1 _ a3 => kk H1 locs1 (by rw [← e1]; exact a1) a3)
  · exact va_putN (C := r.1) (T := r.2.1) (N := r.2.2) hx hb hk.1 (hk.u hc) ty hty hnm hown hk.2.2.2 hP x_D hS q he h1 k h2 h4.2 hs hz1 hz2 hz3 hz4 hl hdg (fun H1 locs1 a1 _ a3 => kk H1 locs1 (by rw [← e1]; exact a1) a3)
set_option maxHeartbeats 4000000 in
theorem x_putR (C : x_C p s m args meth c D cI cG cc mm) {S : xW} {g : xG} (hP : va_P D vwCl (x_ws cI cG b sz S g) H) {H0 : Heap} (hS : va_S (fun q => sz ≤ q) H0 H locs) {i pc q k v : Nat} {fs : List xF} {f1 f2 : Option Nat} (hr : resF.contains (mm.1, i, mm.1, k) = true) (hin : mm.2.1 = true) (hq : S[q]? = some (.inr (.inl (mm.1, fs)))) (hn : (x_new mm.1)[k]? = some (some f1)) (hf : fs[k]? = some (some f2)) (hdg : decode cc pc = .ok (.putfield i, 3)) {ls : Array Slot} {rest : List Value}
    (kk : ∀ (H1 : Heap) (locs1 : List Loc), va_P D vwCl (x_ws cI cG b sz (S.set q (.inr (.inl (mm.1, fs.set k (some (some v)))))) g) H1 → va_S (fun q => sz ≤ q) H0 H1 locs1 → W p l e R s m args below meth c H1 locs1 cells slots Q (F0 m (pc + 3) ls rest)) : W p l e R s m args below meth c H locs cells slots Q (F0 m pc ls (.ref (x_a b sz v) :: .ref (sz + q) :: rest)) := by
  obtain ⟨hx, hb, hown, hk, -, -, hini, -⟩ := C
  obtain ⟨r, h1, h2, h3, h4⟩ := x_fld hk hr
  have h4 := h4.resolve_right (fun z => z.1 rfl)
  have hc := x_cl_at h1
  obtain ⟨-, -, -, hnm, ty, hty⟩ := id hc
  have he := x_ws_get (cI := cI) (cG := cG) (b := b) (sz := sz) (g := g) hq
  have hs : ∀ x, s.fieldFound? (r.2.1 k).1 (r.2.1 k).2.1 (r.2.1 k).2.2.1 = some x → s.fieldFound? r.1 (r.2.1 k).2.1 (r.2.1 k).2.2.1 = some x := fun x z => by rw [h3] at z; exact z
  obtain ⟨⟨hlen, hfk⟩, how⟩ := x_flds h1
  have hz : (r.2.1 k).2.2.2 = true ∧ x_rty (parseFieldDescriptor (r.2.1 k).2.2.1) = true := by
    rcases hfk k h2 with ⟨z, -⟩ | ⟨-, z1, -, z2⟩
    · rw [hn] at z; cases z
    · exact ⟨z1, z2⟩
  obtain ⟨tz, hd, hnf, -⟩ := x_rty_ok hz.2
  have hl : k < (fs.mapIdx (x_f b sz (g (q + 1)))).length := by rw [List.length_mapIdx]; exact (List.getElem?_eq_some_iff.mp hf).1
  have e1 : (x_ws cI cG b sz S g).set q (sz + q, .inr (mm.1, (fs.mapIdx (x_f b sz (g (q + 1)))).set k (.ref (x_a b sz v)))) = x_ws cI cG b sz (S.set q (.inr (.inl (mm.1, fs.set k (some (some v)))))) g := by
    rw [x_msetR]
    exact x_ws_set (cI := cI) (cG := cG) (b := b) (sz := sz) (S := S) (g := g) (g' := g) (q := q) (c' := .inr (.inl (mm.1, fs.set k (some (some v))))) (fun _ _ => rfl)
  exact va_putF (C := r.1) (T := r.2.1) (N := r.2.2) hx hb hk.1 (hk.u hc) ty hty hnm hown hk.2.2.2 hP x_D hS q he h1 k h2 h4 hs hz.1 (hini hin) (by rw [how]; exact h3) hd (hnf _).1 (hnf _).2 hl hdg (fun H1 locs1 a1 _ a3 => kk H1 locs1 (by rw [← e1]; exact a1) a3)
theorem x_sz_set {S : xW} {q : Nat} {c c' : xS} (h : S[q]? = some c) (he : x_cs c' = x_cs c) : x_sz (S.set q c') = x_sz S := by
  unfold x_sz
  congr 1
  apply List.ext_getElem?
  intro i
  rw [List.getElem?_map, List.getElem?_map, List.getElem?_set]
  by_cases hi : q = i
  · subst hi
    rw [if_pos rfl, if_pos (List.getElem?_eq_some_iff.mp h).1, h]
    show some _ = some _
    rw [he]
  · rw [if_neg hi]
set_option maxHeartbeats 4000000 in
theorem x_s_ok {H0 : Heap} {Ls : Option (Nat × (Nat → Int32))} {S S' : xW} {g g' : xG} {L L' : xL} {st st' : List Value} {i : Jvm.ClassFile.Instr} {pc len r1 r2 : Nat} {ls : Array Slot} (C : x_C p s m args meth c D cI cG cc mm)
    (hs : x_s mm Ls i r1 r2 L st S g = some (L', st', S', g')) (hok : okE mm.1 cc (pc, i, len, r1, r2) = true) (hP : va_P D vwCl (x_ws cI cG b sz S g) H) (hS : va_S (fun q => sz ≤ q) H0 H locs) (hl : x_lh b sz ls L)
    (hX : ∀ n, Ls = some n → va_X b n.1 n.2 s H0 ∧ b < H0.size ∧ b < sz)
    (kk : ∀ (H1 : Heap) (locs1 : List Loc) (ls1 : Array Slot), (S'.length = S.length ∧ x_sz S' = x_sz S ∧ L'.length = L.length) → va_P D vwCl (x_ws cI cG b sz S' g') H1 → va_S (fun q => sz ≤ q) H0 H1 locs1 → x_lh b sz ls1 L' → W p l e R s m args below meth c H1 locs1 cells slots Q (F0 m (pc + len) ls1 (st'.map (x_v b sz)))) :
    W p l e R s m args below meth c H locs cells slots Q (F0 m pc ls (st.map (x_v b sz))) := by
  obtain ⟨hx, hb, hown, hk, -⟩ := id C
  have ok1 := x_ok1 hok
  have hdg := ok1.1
  dsimp only at hdg
  cases i
  case iconst n =>
    have hlen : len = 1 := ok1.2
    subst hlen
    dsimp only [x_s] at hs
    rw [of_decide_eq_true (x_ok2 hok)] at hs
    cases hs
    exact lv_iconst hx hb hdg rfl (kk _ _ _ ⟨rfl, rfl, rfl⟩ hP hS hl)
  case bipush n =>
    have hlen : len = 2 := ok1.2
    subst hlen
    dsimp only [x_s] at hs
    rw [of_decide_eq_true (x_ok2 hok)] at hs
    cases hs
    exact lv_bipush hx hb hdg rfl (kk _ _ _ ⟨rfl, rfl, rfl⟩ hP hS hl)
  case sipush n =>
    have hlen : len = 3 := ok1.2
    subst hlen
    dsimp only [x_s] at hs
    rw [of_decide_eq_true (x_ok2 hok)] at hs
    cases hs
    exact lv_sipush hx hb hdg rfl (kk _ _ _ ⟨rfl, rfl, rfl⟩ hP hS hl)
  case fconst n =>
    have hlen : len = 1 := ok1.2
    subst hlen
    dsimp only [x_s] at hs
    rw [of_decide_eq_true (x_ok2 hok)] at hs
    cases hs
    match n, hdg, kk with
    | 0, hdg, kk => exact lv_fconst0 hx hb hdg (kk _ _ _ ⟨rfl, rfl, rfl⟩ hP hS hl)
    | 1, hdg, kk => exact lv_fconst1 hx hb hdg (kk _ _ _ ⟨rfl, rfl, rfl⟩ hP hS hl)
    | 2, hdg, kk => exact lv_fconst2 hx hb hdg (kk _ _ _ ⟨rfl, rfl, rfl⟩ hP hS hl)
  case ldc n =>
    have hlen : len = 2 := ok1.2
    subst hlen
    dsimp only [x_s] at hs
    rcases rC_ok _ (List.contains_iff_mem.mp (x_ok2 hok)) with ⟨x, h1, h2⟩ | ⟨x, h1, h2⟩ | ⟨x, h1, h2⟩
    · dsimp only at h1
      rw [h1] at hs
      cases hs
      exact lv_ldc hx hb hown (hk.w h2 rfl) hdg (kk _ _ _ ⟨rfl, rfl, rfl⟩ hP hS hl)
    · dsimp only at h1
      rw [h1] at hs
      cases hs
      exact lv_ldcf hx hb hown (hk.w h2 rfl) hdg (kk _ _ _ ⟨rfl, rfl, rfl⟩ hP hS hl)
    · dsimp only at h1
      rw [h1] at hs
      cases hs
  case ldc_w n =>
    have hlen : len = 3 := ok1.2
    subst hlen
    dsimp only [x_s] at hs
    rcases rC_ok _ (List.contains_iff_mem.mp (x_ok2 hok)) with ⟨x, h1, h2⟩ | ⟨x, h1, h2⟩ | ⟨x, h1, h2⟩
    · dsimp only at h1
      rw [h1] at hs
      cases hs
      exact lv_ldcw hx hb hown (hk.w h2 rfl) hdg (kk _ _ _ ⟨rfl, rfl, rfl⟩ hP hS hl)
    · dsimp only at h1
      rw [h1] at hs
      cases hs
      exact x_ldcwf hx hb hown (hk.w h2 rfl) hdg (kk _ _ _ ⟨rfl, rfl, rfl⟩ hP hS hl)
    · dsimp only at h1
      rw [h1] at hs
      cases hs
  case ldc2_w n =>
    have hlen : len = 3 := ok1.2
    subst hlen
    dsimp only [x_s] at hs
    rcases rC_ok _ (List.contains_iff_mem.mp (x_ok2 hok)) with ⟨x, h1, h2⟩ | ⟨x, h1, h2⟩ | ⟨x, h1, h2⟩
    · dsimp only at h1
      rw [h1] at hs
      cases hs
    · dsimp only at h1
      rw [h1] at hs
      cases hs
    · dsimp only at h1
      rw [h1] at hs
      cases hs
      exact lv_ldc2 hx hb hown (hk.w h2 rfl) hdg (kk _ _ _ ⟨rfl, rfl, rfl⟩ hP hS hl)
  case lload_n k =>
    have hlen : len = 1 := ok1.2
    subst hlen
    dsimp only [x_s] at hs
    split at hs
    · rename_i x hv
      cases hs
      exact lv_lload_n hx hb hdg rfl (x_lh_at hl hv) (kk _ _ _ ⟨rfl, rfl, rfl⟩ hP hS hl)
    · cases hs
  case lload k =>
    have hlen : len = 2 := ok1.2
    subst hlen
    dsimp only [x_s] at hs
    split at hs
    · rename_i x hv
      cases hs
      exact lv_lload hx hb hdg (x_lh_at hl hv) (kk _ _ _ ⟨rfl, rfl, rfl⟩ hP hS hl)
    · cases hs
  case lstore_n k =>
    have hlen : len = 1 := ok1.2
    subst hlen
    dsimp only [x_s] at hs
    split at hs
    · split at hs
      · rename_i x hv hv2
        cases hn : x_nl L k.val
        · rw [hn] at hs; cases hs
        rw [hn] at hs
        cases hs
        have hi := (List.getElem?_eq_some_iff.mp hv2).1
        exact lv_lstore_n hx hb hdg rfl (x_lh_has hl) hi rfl (fun ls' h' => kk _ _ _ ⟨rfl, rfl, by rw [List.length_set, List.length_set]⟩ hP hS (x_has_lh2 hl hn hi h'))
      · cases hs
    · cases hs
  case lstore k =>
    have hlen : len = 2 := ok1.2
    subst hlen
    dsimp only [x_s] at hs
    split at hs
    · split at hs
      · rename_i x hv hv2
        cases hn : x_nl L k
        · rw [hn] at hs; cases hs
        rw [hn] at hs
        cases hs
        have hi := (List.getElem?_eq_some_iff.mp hv2).1
        exact lv_lstore hx hb hdg (x_lh_has hl) hi rfl (fun ls' h' => kk _ _ _ ⟨rfl, rfl, by rw [List.length_set, List.length_set]⟩ hP hS (x_has_lh2 hl hn hi h'))
      · cases hs
    · cases hs
  case i2l =>
    have hlen : len = 1 := ok1.2
    subst hlen
    dsimp only [x_s] at hs
    split at hs
    · cases hs
      exact lv_i2l hx hb hdg rfl (kk _ _ _ ⟨rfl, rfl, rfl⟩ hP hS hl)
    · cases hs
  case ladd =>
    have hlen : len = 1 := ok1.2
    subst hlen
    dsimp only [x_s] at hs
    split at hs
    · cases hs
      exact lv_ladd hx hb hdg (kk _ _ _ ⟨rfl, rfl, rfl⟩ hP hS hl)
    · cases hs
  case lmul =>
    have hlen : len = 1 := ok1.2
    subst hlen
    dsimp only [x_s] at hs
    split at hs
    · cases hs
      exact lv_lmul hx hb hdg (kk _ _ _ ⟨rfl, rfl, rfl⟩ hP hS hl)
    · cases hs
  case iload_n k =>
    have hlen : len = 1 := ok1.2
    subst hlen
    dsimp only [x_s] at hs
    split at hs
    · rename_i x hv
      cases hs
      exact lv_iload_n hx hb hdg rfl (x_lh_at hl hv) (kk _ _ _ ⟨rfl, rfl, rfl⟩ hP hS hl)
    · cases hs
  case iload k =>
    have hlen : len = 2 := ok1.2
    subst hlen
    dsimp only [x_s] at hs
    split at hs
    · rename_i x hv
      cases hs
      exact lv_iload hx hb hdg (x_lh_at hl hv) (kk _ _ _ ⟨rfl, rfl, rfl⟩ hP hS hl)
    · cases hs
  case fload_n k =>
    have hlen : len = 1 := ok1.2
    subst hlen
    dsimp only [x_s] at hs
    split at hs
    · rename_i x hv
      cases hs
      exact lv_fload_n hx hb hdg rfl (x_lh_at hl hv) (kk _ _ _ ⟨rfl, rfl, rfl⟩ hP hS hl)
    · cases hs
  case aload_n k =>
    have hlen : len = 1 := ok1.2
    subst hlen
    dsimp only [x_s] at hs
    split at hs
    · rename_i x hv
      cases hs
      exact lv_aload_n hx hb hdg rfl (x_lh_at hl hv) (kk _ _ _ ⟨rfl, rfl, rfl⟩ hP hS hl)
    · cases hs
  case aload k =>
    have hlen : len = 2 := ok1.2
    subst hlen
    dsimp only [x_s] at hs
    split at hs
    · rename_i x hv
      cases hs
      exact lv_aload hx hb hdg (x_lh_at hl hv) (kk _ _ _ ⟨rfl, rfl, rfl⟩ hP hS hl)
    · cases hs
  case istore_n k =>
    have hlen : len = 1 := ok1.2
    subst hlen
    dsimp only [x_s] at hs
    split at hs
    · split at hs
      · rename_i x hv
        cases hn : x_nl L k.val
        · rw [hn] at hs; cases hs
        rw [hn] at hs
        cases hs
        have hi := (List.getElem?_eq_some_iff.mp hv).1
        exact lv_istore_n hx hb hdg rfl (x_lh_has hl) hi rfl (fun ls' h' => kk _ _ _ ⟨rfl, rfl, List.length_set⟩ hP hS (x_has_lh hl hn hi h'))
      · cases hs
    · cases hs
  case istore k =>
    have hlen : len = 2 := ok1.2
    subst hlen
    dsimp only [x_s] at hs
    split at hs
    · split at hs
      · rename_i x hv
        cases hn : x_nl L k
        · rw [hn] at hs; cases hs
        rw [hn] at hs
        cases hs
        have hi := (List.getElem?_eq_some_iff.mp hv).1
        exact lv_istore hx hb hdg (x_lh_has hl) hi rfl (fun ls' h' => kk _ _ _ ⟨rfl, rfl, List.length_set⟩ hP hS (x_has_lh hl hn hi h'))
      · cases hs
    · cases hs
  case fstore_n k =>
    have hlen : len = 1 := ok1.2
    subst hlen
    dsimp only [x_s] at hs
    split at hs
    · split at hs
      · rename_i x hv
        cases hn : x_nl L k.val
        · rw [hn] at hs; cases hs
        rw [hn] at hs
        cases hs
        have hi := (List.getElem?_eq_some_iff.mp hv).1
        exact lv_fstore_n hx hb hdg rfl (x_lh_has hl) hi rfl (fun ls' h' => kk _ _ _ ⟨rfl, rfl, List.length_set⟩ hP hS (x_has_lh hl hn hi h'))
      · cases hs
    · cases hs
  case astore_n k =>
    have hlen : len = 1 := ok1.2
    subst hlen
    dsimp only [x_s] at hs
    split at hs
    · split at hs
      · rename_i x hv
        cases hn : x_nl L k.val
        · rw [hn] at hs; cases hs
        rw [hn] at hs
        cases hs
        have hi := (List.getElem?_eq_some_iff.mp hv).1
        exact lv_astore_n hx hb hdg rfl (x_lh_has hl) hi rfl (fun ls' h' => kk _ _ _ ⟨rfl, rfl, List.length_set⟩ hP hS (x_has_lh hl hn hi h'))
      · cases hs
    · cases hs
  case iinc k n =>
    have hlen : len = 3 := ok1.2
    subst hlen
    dsimp only [x_s] at hs
    split at hs
    · rename_i x hv
      rw [of_decide_eq_true (x_ok2 hok)] at hs
      dsimp only at hs
      cases hn : x_nl L k
      · rw [hn] at hs; cases hs
      rw [hn] at hs
      cases hs
      have hi := (List.getElem?_eq_some_iff.mp hv).1
      obtain ⟨j, hj⟩ := List.getElem?_of_mem (x_lst_in (b := b) (sz := sz) hv)
      exact lv_iinc hx hb hdg (x_lh_has hl) hj rfl hi rfl (fun ls' h' => kk _ _ _ ⟨rfl, rfl, List.length_set⟩ hP hS (x_has_lh hl hn hi h'))
    · cases hs
  case iadd =>
    have hlen : len = 1 := ok1.2
    subst hlen
    dsimp only [x_s] at hs
    split at hs
    · cases hs
      exact lv_iadd hx hb hdg (kk _ _ _ ⟨rfl, rfl, rfl⟩ hP hS hl)
    · cases hs
  case isub =>
    have hlen : len = 1 := ok1.2
    subst hlen
    dsimp only [x_s] at hs
    split at hs
    · cases hs
      exact lv_isub hx hb hdg (kk _ _ _ ⟨rfl, rfl, rfl⟩ hP hS hl)
    · cases hs
  case imul =>
    have hlen : len = 1 := ok1.2
    subst hlen
    dsimp only [x_s] at hs
    split at hs
    · cases hs
      exact lv_imul hx hb hdg (kk _ _ _ ⟨rfl, rfl, rfl⟩ hP hS hl)
    · cases hs
  case iand =>
    have hlen : len = 1 := ok1.2
    subst hlen
    dsimp only [x_s] at hs
    split at hs
    · cases hs
      exact lv_iand hx hb hdg (kk _ _ _ ⟨rfl, rfl, rfl⟩ hP hS hl)
    · cases hs
  case ior =>
    have hlen : len = 1 := ok1.2
    subst hlen
    dsimp only [x_s] at hs
    split at hs
    · cases hs
      exact lv_ior hx hb hdg (kk _ _ _ ⟨rfl, rfl, rfl⟩ hP hS hl)
    · cases hs
  case ixor =>
    have hlen : len = 1 := ok1.2
    subst hlen
    dsimp only [x_s] at hs
    split at hs
    · cases hs
      exact lv_ixor hx hb hdg (kk _ _ _ ⟨rfl, rfl, rfl⟩ hP hS hl)
    · cases hs
  case ishl =>
    have hlen : len = 1 := ok1.2
    subst hlen
    dsimp only [x_s] at hs
    split at hs
    · cases hs
      exact lv_ishl hx hb hdg (kk _ _ _ ⟨rfl, rfl, rfl⟩ hP hS hl)
    · cases hs
  case ishr =>
    have hlen : len = 1 := ok1.2
    subst hlen
    dsimp only [x_s] at hs
    split at hs
    · cases hs
      exact lv_ishr hx hb hdg (kk _ _ _ ⟨rfl, rfl, rfl⟩ hP hS hl)
    · cases hs
  case iushr =>
    have hlen : len = 1 := ok1.2
    subst hlen
    dsimp only [x_s] at hs
    split at hs
    · cases hs
      exact lv_iushr hx hb hdg rfl (kk _ _ _ ⟨rfl, rfl, rfl⟩ hP hS hl)
    · cases hs
  case i2f =>
    have hlen : len = 1 := ok1.2
    subst hlen
    dsimp only [x_s] at hs
    split at hs
    · cases hs
      exact lv_i2f hx hb hdg (kk _ _ _ ⟨rfl, rfl, rfl⟩ hP hS hl)
    · cases hs
  case f2i =>
    have hlen : len = 1 := ok1.2
    subst hlen
    dsimp only [x_s] at hs
    split at hs
    · cases hs
      exact lv_f2i hx hb hdg (kk _ _ _ ⟨rfl, rfl, rfl⟩ hP hS hl)
    · cases hs
  case fcmp op =>
    have hlen : len = 1 := ok1.2
    subst hlen
    dsimp only [x_s] at hs
    split at hs
    · cases hs
      exact lv_fcmp hx hb hdg (kk _ _ _ ⟨rfl, rfl, rfl⟩ hP hS hl)
    · cases hs
  case dup =>
    have hlen : len = 1 := ok1.2
    subst hlen
    dsimp only [x_s] at hs
    split at hs
    · cases hs
      exact lv_dup hx hb hdg rfl (kk _ _ _ ⟨rfl, rfl, rfl⟩ hP hS hl)
    · cases hs
      exact lv_dup hx hb hdg rfl (kk _ _ _ ⟨rfl, rfl, rfl⟩ hP hS hl)
    · cases hs
  case dup2 =>
    have hlen : len = 1 := ok1.2
    subst hlen
    dsimp only [x_s] at hs
    split at hs
    · cases hs
      exact lv_dup2_11 hx hb hdg rfl rfl (kk _ _ _ ⟨rfl, rfl, rfl⟩ hP hS hl)
    · cases hs
  case arraylength =>
    have hlen : len = 1 := ok1.2
    subst hlen
    dsimp only [x_s] at hs
    split at hs
    · split at hs
      · rename_i n
        cases hs
        obtain ⟨h1, h2, h3⟩ := hX n rfl
        exact va_slen hx hb h1 h2 (show ¬ sz ≤ b from Nat.not_le.mpr h3) hS hdg (kk _ _ _ ⟨rfl, rfl, rfl⟩ hP hS hl)
      · cases hs
    · cases hs
  case getfield n =>
    have hlen : len = 3 := ok1.2
    subst hlen
    dsimp only [x_s] at hs
    split at hs
    · rename_i q r
      split at hs
      · rename_i ci fs hq
        cases hc : Nat.beq ci r1
        · rw [hc] at hs; cases hs
        · rw [hc] at hs
          have hc := Nat.eq_of_beq_eq_true hc
          subst hc
          dsimp only [cond] at hs
          split at hs
          · rename_i hf
            cases hs
            exact x_getf C hP (x_ok2 hok) hq hf hdg (kk _ _ _ ⟨rfl, rfl, rfl⟩ hP hS hl)
          · rename_i hf
            cases hs
            exact x_getf C hP (x_ok2 hok) hq hf hdg (kk _ _ _ ⟨rfl, rfl, rfl⟩ hP hS hl)
          · cases hs
      · cases hs
    · cases hs
  case putfield n =>
    have hlen : len = 3 := ok1.2
    subst hlen
    dsimp only [x_s] at hs
    split at hs
    · rename_i x q r
      split at hs
      · rename_i ci fs hq
        cases hc : Nat.beq ci r1
        · rw [hc] at hs; cases hs
        · rw [hc] at hs
          have hc := Nat.eq_of_beq_eq_true hc
          subst hc
          dsimp only [cond] at hs
          split at hs
          · rename_i hn hf
            cases h01 : (!x_bool ci r2 || x_01 x)
            · rw [h01] at hs; cases hs
            rw [h01] at hs
            cases hs
            exact x_putI C hP hS (x_ok2 hok) hq hn hf hdg (fun z => by rw [z] at h01; simpa using h01) (fun H1 l1 a1 a2 => kk H1 l1 ls ⟨rfl, rfl, rfl⟩ a1 a2 hl)
          · cases hs
      · cases hs
    · rename_i v q r
      split at hs
      · rename_i ci fs hq
        cases hc : (Nat.beq ci r1 && Nat.beq ci mm.1 && mm.2.1)
        · rw [hc] at hs; cases hs
        · rw [hc] at hs
          rw [Bool.and_eq_true, Bool.and_eq_true] at hc
          obtain ⟨⟨hc1, hc2⟩, hc3⟩ := hc
          have hc1 := Nat.eq_of_beq_eq_true hc1
          subst hc1
          have hc2 := Nat.eq_of_beq_eq_true hc2
          subst hc2
          dsimp only [cond] at hs
          split at hs
          · rename_i f1 f2 hn hf
            cases hs
            exact x_putR C hP hS (x_ok2 hok) hc3 hq hn hf hdg (fun H1 l1 a1 a2 => kk H1 l1 ls ⟨List.length_set, x_sz_set hq (List.length_set), rfl⟩ a1 a2 hl)
          · cases hs
      · cases hs
    · cases hs
  all_goals (exact absurd hs (by intro z; cases z))
end XS
