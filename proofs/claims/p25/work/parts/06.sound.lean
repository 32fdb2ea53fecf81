/-! ===== a run of the picture is a run of the machine ===== -/
theorem x_at_mem : ∀ {k : xK} {pc : Nat} {q : Jvm.ClassFile.Instr × Nat × Nat × Nat}, x_at k pc = some q → (pc, q) ∈ k
  | [], _, _, h => by cases h
  | e :: k, pc, q, h => by
    unfold x_at at h
    cases hb : Nat.beq e.1 pc
    · rw [hb] at h
      exact List.mem_cons_of_mem _ (x_at_mem h)
    · rw [hb] at h
      have e1 := Nat.eq_of_beq_eq_true hb
      subst e1
      cases h
      exact List.mem_cons_self
def x_room (d mc ms : Nat) : Room := { frames := d, cells := mc, slots := ms, locals := 36 * d }
def x_wsm (e : xM × MethodName × ByteArray × Nat × Nat) : List Jvm.Cond := Jvm.Cond.code e.2.1 e.2.2.1 e.1.2.2.2.1 e.1.2.2.1 :: x_LW
def x_Pc (Ls : Option (Nat × (Nat → Int32))) (D : va_G) (cI cG : ClassId) (b sz : Nat) (As : List Value) (S : xW) (g : xG) : Array Value → State → Prop := va_Pc (As.map (x_v b sz)) (fun U => U.heap.size = sz + S.length ∧ va_P D vwCl (x_ws cI cG b sz S g) U.heap ∧ x_nw U ∧ va_AO RX2 U ∧ va_K D vwCl (x_tys cI cG) U ∧ ∀ n, Ls = some n → va_X b n.1 n.2 U U.heap ∧ b < U.heap.size ∧ b < sz)
def x_Qc (D : va_G) (cI cG : ClassId) (b sz : Nat) (Se : xW) (Q : xQ) : Array Value → State → Outcome → State → Prop := fun _ st o t => (∃ r g, Q r g ∧ o = .returned (r.map (x_v b sz)) ∧ va_P D vwCl (x_ws cI cG b sz Se g) t.heap) ∧ va_F (fun q => sz ≤ q) st t
def x_Mt (Ls : Option (Nat × (Nat → Int32))) (d t : Nat) (As : List Value) (S : xW) (g : xG) (Se : xW) (Q : xQ) : Prop := ∀ (l : Launch) (D : va_G) (cI cG : ClassId) (b sz : Nat) (e : xM × MethodName × ByteArray × Nat × Nat), mtA[t]? = some e →
  Met l e.2.1 (x_wsm e) (x_room d (Se.length - S.length) (x_sz Se - x_sz S)) (x_Pc Ls D cI cG b sz As S g) (x_Qc D cI cG b sz Se Q) (Se.length - S.length) (x_sz Se - x_sz S) (fun q => sz ≤ q)
theorem x_blind {Ls : Option (Nat × (Nat → Int32))} {D : va_G} {cI cG : ClassId} {b sz : Nat} {As : List Value} {S : xW} {g : xG} : FrameBlind (x_Pc Ls D cI cG b sz As S g) := by
  intro a U gg mk q
  obtain ⟨q0, q1, q2, q3, q4, q5, q6⟩ := q
  exact ⟨q0, q1, q2, x_nw_same (s := U) (U := U.calling gg mk a) rfl q3, q4, va_K.moved (u := U) (U := U.calling gg mk a) (Vm.Alike.refl U.vm) q5, fun n hn => ⟨va_X.moved (u := U) (U := U.calling gg mk a) (Vm.Alike.refl U.vm) (q6 n hn).1, (q6 n hn).2⟩⟩
theorem x_kn_warm {D : va_G} {cI cG : ClassId} {args : Array Value} {s U : State} (h : x_kn D cI cG args s) (hW : s.WarmedH U.vm) : x_nw U ∧ va_AO RX2 U ∧ va_K D vwCl (x_tys cI cG) U :=
  ⟨x_nw_warm hW h.2.1, va_AO.moved hW.alike h.2.2.1, va_K.moved hW.alike h.2.2.2⟩
theorem x_good : GoodIn x_LW x_LW := fun w hw => ⟨hw, good_of_word (List.mem_filter.mp hw).2⟩
theorem x_goodm {e : xM × MethodName × ByteArray × Nat × Nat} (h : mOk e) : GoodIn x_LW (x_wsm e) := by
  intro w hw
  rcases List.mem_cons.mp hw with rfl | hw
  · exact ⟨x_in h.2.1 rfl, Or.inl rfl⟩
  · exact x_good w hw
theorem x_mok {t : Nat} {e : xM × MethodName × ByteArray × Nat × Nat} (h : mtA[t]? = some e) : mOk e := mt_ok e (List.mem_of_getElem? h)
theorem x_mthd {D : va_G} {cI cG : ClassId} {args : Array Value} {s : State} (hk : x_kn D cI cG args s) {oc i t np : Nat} {e : xM × MethodName × ByteArray × Nat × Nat} (h : resM.contains (oc, i, t, np) = true) (he : mtA[t]? = some e) : np = e.2.2.2.2 ∧ ((Jvm.Cond.methodLink (x_own oc) i e.2.1).before args s = true ∨ va_Nw (.methodLinkNest (x_own oc) i e.2.1 RX8) s) := by
  have hn : ∀ k, 1000 ≤ k → mtA[k]? = none := fun k hk => List.getElem?_eq_none (Nat.le_trans (by decide +kernel : mtA.length ≤ 1000) hk)
  rcases rM_ok _ (List.contains_iff_mem.mp h) with ⟨e', h1, h2, h3⟩ | ⟨h1, -⟩ | ⟨h1, -⟩
  · dsimp only at h1 h2 h3
    rw [he] at h1
    cases h1
    refine ⟨h2, ?_⟩
    rcases h3 with h3 | h3
    · exact Or.inl (hk.w h3 rfl)
    · exact Or.inr (hk.2.1 _ h3 rfl)
  all_goals
    dsimp only at h1
    rw [hn t (by omega)] at he
    cases he
section XW
variable {p : Program} {l : Launch} {e : Env} {R : Room} {s : State} {m : MethodId} {args : Array Value} {below : List Frame} {meth : Method} {c : Code} {H : Heap} {locs : List Loc} {cells slots : Nat} {Q : State → Prop}
variable {D : va_G} {cI cG : ClassId} {b sz : Nat} {cc : ByteArray} {mm : xM}
/-- the heap's size: from below by what the world holds, from above by what the run may make -/
theorem x_size {S S0 : xW} {g : xG} {gg : JFrame} (hs0 : s.heap.size = sz + S0.length) (hP : va_P D vwCl (x_ws cI cG b sz S g) H) (hS : va_S (fun q => sz ≤ q) s.heap H locs) (hc : S0.length + cells = S.length)
    (kk : H.size = sz + S.length → W p l e R s m args below meth c H locs cells slots Q gg) : W p l e R s m args below meth c H locs cells slots Q gg := by
  intro T hT X
  refine kk ?_ T hT X
  have h1 : T.heap.size ≤ s.heap.size + cells := X.same.2.2.1
  rw [hT, hs0] at h1
  have h2 := hS.1
  rw [hs0] at h2
  rcases Nat.eq_zero_or_pos S.length with h | h
  · omega
  · have h3 : S[S.length - 1]? = some (S[S.length - 1]'(by omega)) := List.getElem?_eq_getElem (by omega)
    have h4 := (hP _ _ (x_ws_get (cI := cI) (cG := cG) (b := b) (sz := sz) (g := g) h3)).lt
    dsimp only at h4
    omega
variable {y : MethodName} {bytes : ByteArray} {maxL mc ms index : Nat} {ret : Option FieldType}
theorem x_back {Se : xW} {QQ : xQ} {pc : Nat} {ls : Array Slot} {st0 rest : List Value} {H0 : Heap} {a : Array Value}
    (hr : va_Run p l e R s m args below meth c H locs cells slots mc ms (F0 m pc ls st0) rest (x_Qc D cI cG b sz Se QQ a) (fun q => sz ≤ q)) (hS : va_S (fun q => sz ≤ q) H0 H locs)
    (kk : ∀ (r : Option Value) (g1 : xG) (H1 : Heap) (locs1 : List Loc), QQ r g1 → va_P D vwCl (x_ws cI cG b sz Se g1) H1 → va_S (fun q => sz ≤ q) H0 H1 locs1 → W p l e R s m args below meth c H1 locs1 (cells + mc) (slots + ms) Q (F0 m (pc + 3) ls ((r.map (x_v b sz)).toList ++ rest))) : W p l e R s m args below meth c H locs cells slots Q (F0 m pc ls st0) := by
  intro T hT X
  obtain ⟨v, st₀, t, T', L, h0, X', hL, e1, e2, ⟨⟨r, g1, hq, hv, hp⟩, hz, hk⟩, st⟩ := hr T hT X
  cases hv
  rw [h0] at hz hk
  obtain ⟨t2, a1, b1⟩ := kk r g1 T'.heap (locs ++ L) hq (by rw [e1]; exact hp)
    ⟨Nat.le_trans hS.1 (by rw [e1]; exact hz), fun q h1 h2 => by rw [e1, hk q (Nat.lt_of_lt_of_le h1 hS.1) h2]; exact hS.2.1 q h1 h2, fun q hq => by
      rcases List.mem_append.mp hq with h | h
      · exact hS.2.2 q h
      · exact hL q h⟩ T' rfl X'
  exact ⟨t2, st t2 a1, b1⟩
end XW
theorem x_spl_ok : ∀ (n : Nat) (acc st : List Value) {As r : List Value}, x_spl n acc st = some (As, r) → As.length = n + acc.length ∧ As.reverse ++ r = acc.reverse ++ st
  | 0, acc, st, As, r, h => by
    cases h
    exact ⟨by simp, rfl⟩
  | n + 1, acc, [], As, r, h => by cases h
  | n + 1, acc, v :: st, As, r, h => by
    obtain ⟨h1, h2⟩ := x_spl_ok n (v :: acc) st h
    refine ⟨by rw [h1]; simp; omega, by rw [h2]; simp⟩
theorem x_cl_met0 {Lc : Option (Nat × (Nat → Int32))} {d t : Nat} {As : List Value} {S : xW} {g : xG} {Se : xW} {Q : xQ} (h : x_cl d Lc t As S g Se Q) : ∃ e : xM × MethodName × ByteArray × Nat × Nat, mtA[t]? = some e ∧ (e.2.2.2.1 = 1 ∨ ∃ q fs Bs, As = .ref (q + 1) :: Bs ∧ S[q]? = some (.inr (.inl (e.1.1, fs)))) ∧ (S.length ≤ Se.length ∧ x_sz S ≤ x_sz Se) := by
  cases d with
  | zero => exact h.elim
  | succ d =>
    obtain ⟨e, h1, h2, -, -, h3, -⟩ := h
    exact ⟨e, h1, h2, h3⟩
