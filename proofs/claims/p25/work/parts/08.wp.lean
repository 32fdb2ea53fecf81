/-! ===== the run, whole ===== -/
section XZ
variable {p : Program} {l : Launch} {e : Env} {R : Room} {s : State} {m : MethodId} {args : Array Value} {below : List Frame} {meth : Method} {c : Code} {Q : State → Prop}
variable {D : va_G} {cI cG : ClassId} {b sz : Nat} {cc : ByteArray} {mm : xM}
theorem x_ci {r : List Value} (h : (r.map fun v => v.category).sum ≤ 8) : ((r.map (x_v b sz)).map fun v => v.category).sum ≤ 8 := by
  rw [List.map_map, show ((fun v : Value => v.category) ∘ x_v b sz) = (fun v : Value => v.category) from funext x_v_cat]
  exact h
theorem x_j31 {j n : Nat} (h1 : j < n) (h2 : j < 65536) : vp_in (nI j) n := by
  have h3 : ¬ nI j < 0 := nI_pos (by omega)
  rintro (h | h)
  · exact h3 h
  · rw [nI_clamp (by omega)] at h
    omega
theorem x_arrK {s : State} {cI cG cA : ClassId} (hK : va_K D vwCl (x_tys cI cG) s) {ty : FieldType} (ht : ty = .int) (h : s.vm.findClass ("[" ++ ty.toString) = some cA) : cA = cI := by
  subst ht
  have h2 := (hK.2 0 _ rfl).2
  exact Option.some.inj (h.symm.trans h2)
theorem x_arrG {s : State} {cI cG cA : ClassId} (hK : va_K D vwCl (x_tys cI cG) s) (h : s.vm.findClass ("[" ++ (FieldType.object RX2).toString) = some cA) : cA = cG := by
  obtain ⟨kA, comp, -, -, -, h2⟩ := (hK.2 1 _ rfl).2
  exact Option.some.inj (h.symm.trans h2)
theorem x_spec {D : va_G} {cI cG : ClassId} {args : Array Value} {s : State} (hk : x_kn D cI cG args s) {oc i t np : Nat} (h : resM.contains (oc, i, t, np) = true) (ht : 1000 ≤ t) : (t = 1000 ∧ (Jvm.Cond.methodLink (x_own oc) i Lib.objectInit).before args s = true) ∨ (t = 1001 ∧ (Jvm.Cond.methodLink (x_own oc) i arraycopyName).before args s = true) := by
  have hn : mtA[t]? = none := List.getElem?_eq_none (Nat.le_trans (by decide +kernel : mtA.length ≤ 1000) ht)
  rcases rM_ok _ (List.contains_iff_mem.mp h) with ⟨e', h1, -⟩ | ⟨h1, h2⟩ | ⟨h1, h2⟩
  · dsimp only at h1
    rw [hn] at h1
    cases h1
  · exact Or.inl ⟨h1, hk.w h2 rfl⟩
  · exact Or.inr ⟨h1, hk.w h2 rfl⟩
theorem x_w21 : Jvm.Cond.instanceMethod Lib.objectInit ∈ tables_1 := List.mem_of_getElem? (i := 19) (by decide +kernel)
theorem x_w22 : Jvm.Cond.code Lib.objectInit ⟨#[0xb1]⟩ 1 none ∈ tables_1 := List.mem_of_getElem? (i := 20) (by decide +kernel)
theorem x_w352 : Jvm.Cond.static arraycopyName ∈ tables_1 := List.mem_of_getElem? (i := 396) (by decide +kernel)
theorem x_w353 : Jvm.Cond.native arraycopyName ∈ tables_1 := List.mem_of_getElem? (i := 397) (by decide +kernel)
theorem x_w11 : Jvm.Cond.initialized "java/lang/System" ∈ tables_1 := List.mem_of_getElem? (i := 11) (by decide +kernel)
theorem x_w56 : Jvm.Cond.arrayClass .int ∈ tables_1 := List.mem_of_getElem? (i := 54) (by decide +kernel)
theorem x_cp_ne {g : xG} {k0 q a b n : Nat} : ∀ k, k ≠ q + 1 → x_cp g k0 (q + 1) a b n k = g k := fun k hk => by
  funext z
  simp [x_cp, hk]
theorem x_z_ne {g : xG} {q : Nat} : ∀ k, k ≠ q → x_z g q k = g k := fun k hk => by
  funext z
  simp [x_z, hk]
theorem x_sz_app {S : xW} {c : xS} : x_sz (S ++ [c]) = x_sz S + x_cs c := by simp [x_sz]
set_option maxHeartbeats 16000000 in
theorem x_wp {d : Nat} (IH : ∀ Lc t As S g Se Q, x_cl d Lc t As S g Se Q → x_Mt Lc d t As S g Se Q) (C : x_C p s m args meth c D cI cG cc mm) (hcode : ∀ q ∈ mm.2.2.2.2, okE mm.1 cc q = true) (hR : d + 1 ≤ R.frames ∧ 36 * d + 36 ≤ R.locals) {S0 Se : xW} {Ls : Option (Nat × (Nat → Int32))} {QW : xQ}
    (hs0 : s.heap.size = sz + S0.length) (hRc : Se.length ≤ S0.length + R.cells ∧ x_sz Se ≤ x_sz S0 + R.slots) (hX : ∀ n, Ls = some n → va_X b n.1 n.2 s s.heap ∧ b < s.heap.size ∧ b < sz)
    (hendV : ∀ (H : Heap) (locs : List Loc) (ls : Array Slot) (pc cells slots : Nat) (g : xG), QW none g → va_P D vwCl (x_ws cI cG b sz Se g) H → va_S (fun q => sz ≤ q) s.heap H locs → mm.2.2.1 = none → decode cc pc = .ok (.return_, 1) → S0.length + cells = Se.length → x_sz S0 + slots = x_sz Se → W p l e R s m args below meth c H locs cells slots Q (F0 m pc ls []))
    (hendI : ∀ (H : Heap) (locs : List Loc) (ls : Array Slot) (pc cells slots : Nat) (g : xG) (v : Int32) (ty : FieldType), QW (some (.int v)) g → va_P D vwCl (x_ws cI cG b sz Se g) H → va_S (fun q => sz ≤ q) s.heap H locs → mm.2.2.1 = some ty → narrow ty (.int v) = .int v → decode cc pc = .ok (.ireturn, 1) → S0.length + cells = Se.length → x_sz S0 + slots = x_sz Se → W p l e R s m args below meth c H locs cells slots Q (F0 m pc ls [.int v]))
    (hendL : ∀ (H : Heap) (locs : List Loc) (ls : Array Slot) (pc cells slots : Nat) (g : xG) (v : Int64), QW (some (.long v)) g → va_P D vwCl (x_ws cI cG b sz Se g) H → va_S (fun q => sz ≤ q) s.heap H locs → mm.2.2.1 = some .long → decode cc pc = .ok (.lreturn, 1) → S0.length + cells = Se.length → x_sz S0 + slots = x_sz Se → W p l e R s m args below meth c H locs cells slots Q (F0 m pc ls [.long v])) :
    ∀ (pc : Nat) (L : xL) (st : List Value) (S : xW) (g : xG), Rn (x_cl d) mm Ls Se QW pc L st S g → ∀ (H : Heap) (locs : List Loc) (ls : Array Slot) (cells slots : Nat), va_P D vwCl (x_ws cI cG b sz S g) H → va_S (fun q => sz ≤ q) s.heap H locs → x_lh b sz ls L → S0.length + cells = S.length → x_sz S0 + slots = x_sz S → L.length = mm.2.2.2.1 →
      W p l e R s m args below meth c H locs cells slots Q (F0 m pc ls (st.map (x_v b sz))) := by
  obtain ⟨hx, hb, hown, hk, hret, hlocks, hini, hml⟩ := id C
  have hA : ∀ q, s.heap.size ≤ q → sz ≤ q := fun q h => by omega
  intro pc0 L0 st0 S00 g0 h0
  refine h0 (fun pc L st S g => ∀ (H : Heap) (locs : List Loc) (ls : Array Slot) (cells slots : Nat), va_P D vwCl (x_ws cI cG b sz S g) H → va_S (fun q => sz ≤ q) s.heap H locs → x_lh b sz ls L → S0.length + cells = S.length → x_sz S0 + slots = x_sz S → L.length = mm.2.2.2.1 →
      W p l e R s m args below meth c H locs cells slots Q (F0 m pc ls (st.map (x_v b sz)))) ?_
  · intro pc L st S g A ih h H locs ls cells slots hP hS hl hcc hss hL
    have hXc : ∀ Lc, (Lc = none ∨ Lc = Ls) → ∀ n, Lc = some n → va_X b n.1 n.2 s H ∧ b < H.size ∧ b < sz := by
      intro Lc hLc n hn
      rcases hLc with rfl | rfl
      · cases hn
      · obtain ⟨x1, x2, x3⟩ := hX n hn
        exact ⟨x1.kept (hS.2.1 b x2 (Nat.not_le.mpr x3)), Nat.lt_of_lt_of_le x2 hS.1, x3⟩
    unfold x_F at h
    cases hat : x_at mm.2.2.2.2 pc with
    | none => rw [hat] at h; exact h.elim
    | some q =>
      obtain ⟨i, len, r1, r2⟩ := q
      rw [hat] at h
      have hok := hcode _ (x_at_mem hat)
      have ok1 := x_ok1 hok
      have hdg := ok1.1
      dsimp only at hdg h
      have hcl : ls.size = c.maxLocals := by rw [hl.1, hL, hml]
      cases i
      case goto off =>
        have hlen : len = 3 := ok1.2
        subst hlen
        exact lv_goto hx hb hdg (of_decide_eq_true (x_ok2 hok)) (ih _ _ _ _ _ h H locs ls cells slots hP hS hl hcc hss hL)
      case ifCond cd off =>
        have hlen : len = 3 := ok1.2
        subst hlen
        have htg := of_decide_eq_true (x_ok2 hok)
        dsimp only at h
        split at h
        · obtain ⟨ht, hf⟩ := h
          cases cd
          · exact lv_if_eq hx hb hdg htg (fun z => ih _ _ _ _ _ (ht z) H locs ls cells slots hP hS hl hcc hss hL) (fun z => ih _ _ _ _ _ (hf z) H locs ls cells slots hP hS hl hcc hss hL)
          · exact lv_if_ne hx hb hdg htg (fun z => ih _ _ _ _ _ (ht z) H locs ls cells slots hP hS hl hcc hss hL) (fun z => ih _ _ _ _ _ (hf (fun w => w z)) H locs ls cells slots hP hS hl hcc hss hL)
          · exact lv_if_lt hx hb hdg htg (fun z => ih _ _ _ _ _ (ht z) H locs ls cells slots hP hS hl hcc hss hL) (fun z => ih _ _ _ _ _ (hf z) H locs ls cells slots hP hS hl hcc hss hL)
          · exact lv_if_ge hx hb hdg htg (fun z => ih _ _ _ _ _ (ht z) H locs ls cells slots hP hS hl hcc hss hL) (fun z => ih _ _ _ _ _ (hf z) H locs ls cells slots hP hS hl hcc hss hL)
          · exact lv_if_gt hx hb hdg htg (fun z => ih _ _ _ _ _ (ht z) H locs ls cells slots hP hS hl hcc hss hL) (fun z => ih _ _ _ _ _ (hf z) H locs ls cells slots hP hS hl hcc hss hL)
          · exact lv_if_le hx hb hdg htg (fun z => ih _ _ _ _ _ (ht z) H locs ls cells slots hP hS hl hcc hss hL) (fun z => ih _ _ _ _ _ (hf z) H locs ls cells slots hP hS hl hcc hss hL)
        · exact h.elim
      case if_icmp cd off =>
        have hlen : len = 3 := ok1.2
        subst hlen
        have htg := of_decide_eq_true (x_ok2 hok)
        dsimp only at h
        split at h
        · obtain ⟨ht, hf⟩ := h
          cases cd
          · exact lv_icmp_eq hx hb hdg htg (fun z => ih _ _ _ _ _ (ht z) H locs ls cells slots hP hS hl hcc hss hL) (fun z => ih _ _ _ _ _ (hf z) H locs ls cells slots hP hS hl hcc hss hL)
          · exact lv_icmp_ne hx hb hdg htg (fun z => ih _ _ _ _ _ (ht z) H locs ls cells slots hP hS hl hcc hss hL) (fun z => ih _ _ _ _ _ (hf (fun w => w z)) H locs ls cells slots hP hS hl hcc hss hL)
          · exact lv_icmp_lt hx hb hdg htg (fun z => ih _ _ _ _ _ (ht z) H locs ls cells slots hP hS hl hcc hss hL) (fun z => ih _ _ _ _ _ (hf z) H locs ls cells slots hP hS hl hcc hss hL)
          · exact lv_icmp_ge hx hb hdg htg (fun z => ih _ _ _ _ _ (ht z) H locs ls cells slots hP hS hl hcc hss hL) (fun z => ih _ _ _ _ _ (hf z) H locs ls cells slots hP hS hl hcc hss hL)
          · exact lv_icmp_gt hx hb hdg htg (fun z => ih _ _ _ _ _ (ht z) H locs ls cells slots hP hS hl hcc hss hL) (fun z => ih _ _ _ _ _ (hf z) H locs ls cells slots hP hS hl hcc hss hL)
          · exact lv_icmp_le hx hb hdg htg (fun z => ih _ _ _ _ _ (ht z) H locs ls cells slots hP hS hl hcc hss hL) (fun z => ih _ _ _ _ _ (hf z) H locs ls cells slots hP hS hl hcc hss hL)
        · exact h.elim
      case tableswitch dflt lo hi offs =>
        have ok2 := x_ok2 hok
        dsimp only [okM] at ok2
        dsimp only at h
        rw [Bool.and_eq_true] at ok2
        have e2 := of_decide_eq_true ok2.2
        split at h
        · rw [e2] at h
          exact x_tsw hx hb hdg ok2.1 ⟨fun q hq z => ih _ _ _ _ _ (h.1 q hq z) H locs ls cells slots hP hS hl hcc hss hL, fun z => ih _ _ _ _ _ (h.2 z) H locs ls cells slots hP hS hl hcc hss hL⟩
        · exact h.elim
      case lookupswitch dflt ps =>
        have ok2 := x_ok2 hok
        dsimp only [okM] at ok2
        dsimp only at h
        rw [Bool.and_eq_true] at ok2
        have e2 := of_decide_eq_true ok2.2
        split at h
        · rw [e2] at h
          exact x_lsw hx hb hdg ok2.1 ⟨fun q hq z => ih _ _ _ _ _ (h.1 q hq z) H locs ls cells slots hP hS hl hcc hss hL, fun z => ih _ _ _ _ _ (h.2 z) H locs ls cells slots hP hS hl hcc hss hL⟩
        · exact h.elim
      case iaload =>
        have hlen : len = 1 := ok1.2
        subst hlen
        dsimp only at h
        split at h
        · obtain ⟨j, n', h1, rfl, h3, h4, h5⟩ := h
          obtain ⟨x1, x2, x3⟩ := hX _ h1
          refine va_sld hx hb x1 x2 (show ¬ sz ≤ b from Nat.not_le.mpr x3) hS (x_j31 h3 h4) hdg ?_
          rw [nI_clamp (by omega)]
          exact ih _ _ _ _ _ h5 H locs ls cells slots hP hS hl hcc hss hL
        · split at h
          · rename_i hq
            obtain ⟨j, rfl, h3, h4, h5⟩ := h
            refine va_iald hx hb hk.2.2.2 hP _ 0 (x_ws_get hq) rfl (x_j31 h3 h4) hdg ?_
            rw [nI_clamp (by omega)]
            exact ih _ _ _ _ _ h5 H locs ls cells slots hP hS hl hcc hss hL
          · exact h.elim
        · exact h.elim
      case iastore =>
        have hlen : len = 1 := ok1.2
        subst hlen
        dsimp only at h
        split at h
        · rename_i x iv q r
          split at h
          · rename_i mm1 hq
            obtain ⟨j, rfl, h3, h4, h5⟩ := h
            refine va_iast hx hb hk.2.2.2 hP x_D hS q 0 (x_ws_get hq) rfl (x_j31 h3 h4) hdg (fun H1 l1 a1 _ a3 => ?_)
            rw [nI_clamp (by omega)] at a1
            have e1 := x_ws_set (cI := cI) (cG := cG) (b := b) (sz := sz) (S := S) (g := g) (g' := x_up g (q + 1) j x) (q := q) (c' := .inl mm1) x_up_ne
            rw [x_set_self hq] at e1
            refine ih _ _ _ _ _ h5 H1 l1 ls cells slots ?_ a3 hl hcc hss hL
            rw [← e1]
            rw [show x_e cI cG b sz (x_up g (q + 1) j x (q + 1)) (.inl mm1) = .inl (cI, mm1, .inl (upd (g (q + 1)) j x)) by rw [x_up_eq]; rfl]
            exact a1
          · exact h.elim
        · exact h.elim
      case aaload =>
        have hlen : len = 1 := ok1.2
        subst hlen
        dsimp only at h
        split at h
        · split at h
          · rename_i es hq
            obtain ⟨j, k, rfl, h3, h4, h5⟩ := h
            have hj : j < es.length := (List.getElem?_eq_some_iff.mp h3).1
            refine va_aldq hx hb hk.2.2.2 hP _ 1 (x_ws_get hq) rfl (x_j31 hj h4) hdg ?_
            rw [nI_clamp (by omega), h3]
            exact ih _ _ _ _ _ h5 H locs ls cells slots hP hS hl hcc hss hL
          · exact h.elim
        · exact h.elim
      case aastore =>
        have hlen : len = 1 := ok1.2
        subst hlen
        dsimp only at h
        split at h
        · rename_i v iv q r
          split at h
          · rename_i es hq
            obtain ⟨j, fs, rfl, h3, h4, hv, h5⟩ := h
            refine va_astq (r := (RX2, TX2, 10)) hx hb hk.2.2.2 hP x_D hS q 1 v 2 (x_ws_get hq) rfl (x_ws_get hv) rfl (x_j31 h3 h4) hdg (fun H1 l1 a1 _ a3 => ?_)
            rw [nI_clamp (by omega)] at a1
            have e1 := x_ws_set (cI := cI) (cG := cG) (b := b) (sz := sz) (S := S) (g := g) (g' := g) (q := q) (c' := .inr (.inr (es.set j (some (v + 1))))) (fun _ _ => rfl)
            refine ih _ _ _ _ _ h5 H1 l1 ls cells slots ?_ a3 hl (by rw [List.length_set]; exact hcc) (by rw [x_sz_set hq (by show (es.set j _).length = _; rw [List.length_set]; rfl)]; exact hss) hL
            rw [← e1]
            rw [show x_e cI cG b sz (g (q + 1)) (.inr (.inr (es.set j (some (v + 1))))) = .inl (cG, es.length, .inr (.inr (.inr (.inr (va_up (fun j => (es[j]?.getD none).map (x_a b sz)) j (some (sz + v))))))) by
              show (Sum.inl _ : va_E) = _
              rw [List.length_set]
              congr 7
              funext a
              rw [List.getElem?_set]
              by_cases ha : j = a
              · subst ha
                simp [va_up, h3, x_a]
              · simp [va_up, ha, Ne.symm ha]]
            exact a1
          · exact h.elim
        · exact h.elim
      case irem =>
        have hlen : len = 1 := ok1.2
        subst hlen
        dsimp only at h
        split at h
        · exact lv_irem hx hb hdg h.1 (ih _ _ _ _ _ h.2 H locs ls cells slots hP hS hl hcc hss hL)
        · exact h.elim
      case idiv =>
        have hlen : len = 1 := ok1.2
        subst hlen
        dsimp only at h
        split at h
        · exact lv_idiv hx hb hdg h.1 (ih _ _ _ _ _ h.2 H locs ls cells slots hP hS hl hcc hss hL)
        · exact h.elim
      case lcmp =>
        have hlen : len = 1 := ok1.2
        subst hlen
        dsimp only at h
        split at h
        · exact W.lcmp hx hb hdg (ih _ _ _ _ _ h H locs ls cells slots hP hS hl hcc hss hL)
        · exact h.elim
      case fdiv =>
        have hlen : len = 1 := ok1.2
        subst hlen
        dsimp only at h
        split at h
        · exact lv_fdiv hx hb hdg h.1 (ih _ _ _ _ _ h.2 H locs ls cells slots hP hS hl hcc hss hL)
        · exact h.elim
      case fmul =>
        have hlen : len = 1 := ok1.2
        subst hlen
        dsimp only at h
        split at h
        · exact lv_fmul hx hb hdg h.1 (ih _ _ _ _ _ h.2 H locs ls cells slots hP hS hl hcc hss hL)
        · exact h.elim
      case fsub =>
        have hlen : len = 1 := ok1.2
        subst hlen
        dsimp only at h
        split at h
        · exact lv_fsub hx hb hdg h.1 (ih _ _ _ _ _ h.2 H locs ls cells slots hP hS hl hcc hss hL)
        · exact h.elim
      case new i =>
        have hlen : len = 3 := ok1.2
        subst hlen
        obtain ⟨r, hr1, hr2⟩ := rN_ok _ (List.contains_iff_mem.mp (x_ok2 hok))
        dsimp only at hr1 hr2 h
        obtain ⟨⟨hb1, hb2⟩, h⟩ := h
        have hrK := x_cl_at hr1
        obtain ⟨-, -, -, -, ty, hty⟩ := id hrK
        obtain ⟨⟨hfl, hfk⟩, -⟩ := x_flds hr1
        have hKn := hk.2.2.2.1 _ _ hr1
        refine x_size hs0 hP hS hcc (fun hz => ?_)
        refine W.newcK hx hb hown (hk.w hr2 rfl) (hk.w hrK.1 rfl) (hk.w hrK.2.1 rfl) rfl hdg (by omega) (by omega) hKn.2.1 hz fun H1 kC hkC e1 z1 o1 => ?_
        have hkp : ∀ (k : Nat) (x : Nat × va_E), (x_ws cI cG b sz S g)[k]? = some x → H1[x.1]? = H[x.1]? := fun k x hx => o1 x.1 (by rw [← hz]; exact (hP k x hx).lt)
        refine ih _ _ _ _ _ h H1 locs ls (cells + 1) (slots + r.2.2) ?_ ⟨Nat.le_trans hS.1 (by omega), fun x h1 h2 => (o1 x (by have := hS.1; omega)).trans (hS.2.1 x h1 h2), hS.2.2⟩ hl (by rw [List.length_append]; simp; omega) (by rw [x_sz_app]; show _ = _ + (x_new r1).length; omega) hL
        rw [x_ws_push (x_z_ne (g := g) (q := S.length + 1))]
        refine (hP.kept hkp).app (fun k x hx => ?_)
        have hz2 : k < 1 := (List.getElem?_eq_some_iff.mp hx).1
        rw [show k = 0 by omega] at hx
        cases hx
        refine ⟨r, hr1, (u_born ty hk.1 (hk.u hrK) hKn hkC e1 hty).to (fun j hj => ?_)⟩
        have e5 : ((x_new r1).mapIdx (x_f b sz (x_z g (S.length + 1) (S.length + 1))))[j]? = ((x_new r1)[j]?).map (x_f b sz (x_z g (S.length + 1) (S.length + 1)) j) := List.getElem?_mapIdx
        show _ = List.getD _ j Value.null
        rw [List.getD_eq_getElem?_getD, e5]
        rcases hfk j hj with ⟨a1, -, a2 | ⟨a2, -⟩⟩ | ⟨a1, -, -, a2⟩
        · have : ty j = .int := Option.some.inj ((hty j hj).symm.trans a2)
          rw [this, a1]
          simp [x_f, x_z, defaultValue]
        · have : ty j = .boolean := Option.some.inj ((hty j hj).symm.trans a2)
          rw [this, a1]
          simp [x_f, x_z, defaultValue]
        · obtain ⟨tt, b1, -, b3⟩ := x_rty_ok a2
          have : ty j = tt := Option.some.inj ((hty j hj).symm.trans b1)
          rw [this, b3, a1]
          rfl
      case newarray ty =>
        cases ty
        case int =>
          have hlen : len = 2 := ok1.2
          subst hlen
          dsimp only at h
          split at h
          · rename_i n0 r
            obtain ⟨m0, rfl, hm1, ⟨hb1, hb2⟩, h⟩ := h
            refine x_size hs0 hP hS hcc (fun hz => ?_)
            refine va_newaK (atype := .int) hx hb (hk.w x_w56 rfl) rfl hdg rfl (nI_pos (by omega)) (nI_clamp (by omega)) (show m0 * 4 ≤ _ by omega) (by omega) (by omega) hz fun H1 cA e1 z1 o1 hAr hNm => ?_
            have hcA := x_arrK hk.2.2.2 rfl hNm
            subst hcA
            have hkp : ∀ (k : Nat) (x : Nat × va_E), (x_ws cA cG b sz S g)[k]? = some x → H1[x.1]? = H[x.1]? := fun k x hx => o1 x.1 (by rw [← hz]; exact (hP k x hx).lt)
            refine ih _ _ _ _ _ h H1 locs ls (cells + 1) (slots + m0) ?_ ⟨Nat.le_trans hS.1 (by omega), fun x h1 h2 => (o1 x (by have := hS.1; omega)).trans (hS.2.1 x h1 h2), hS.2.2⟩ hl (by rw [List.length_append]; simp; omega) (by rw [x_sz_app]; show _ = _ + m0; omega) hL
            rw [x_ws_push (x_z_ne (g := g) (q := S.length + 1))]
            refine (hP.kept hkp).app (fun k x hx => ?_)
            have hz2 : k < 1 := (List.getElem?_eq_some_iff.mp hx).1
            rw [show k = 0 by omega] at hx
            cases hx
            show H1[_]? = some (vp_cell cA (m0, .inl (x_z g (S.length + 1) (S.length + 1))))
            rw [vp_cell_i, e1]
            congr 2
            funext j
            simp [x_z, defaultValue, newarray.typeOf]
          · exact h.elim
        all_goals exact False.elim h
      case anewarray i =>
        have hlen : len = 3 := ok1.2
        subst hlen
        obtain ⟨r, hr1, hr2⟩ := rN_ok _ (List.contains_iff_mem.mp (x_ok2 hok))
        dsimp only at hr1 hr2 h
        split at h
        · rename_i n0 rr
          obtain ⟨m0, rfl, hm1, rfl, ⟨hb1, hb2⟩, h⟩ := h
          have hrr : r = (RX2, TX2, 10) := (Option.some.inj hr1).symm
          subst hrr
          refine x_size hs0 hP hS hcc (fun hz => ?_)
          have hcl0 : (nI m0).toNatClampNeg = m0 := nI_clamp (by omega)
          refine W.anew (C := RX2) hx hb hown (hk.w hr2 rfl) (va_AO.use hk.2.2.1) rfl hdg rfl (nI_pos (by omega)) (by rw [hcl0]; omega) (by omega) (by rw [hcl0]; omega) fun cA kA comp f1 f2 f3 f4 => ?_
          have hcA := x_arrG hk.2.2.2 f1
          subst hcA
          rw [hcl0]
          generalize hH1 : H.push ({ cls := cA, slots := Array.replicate m0 .null, vm := .none } : Cell) = H1
          have z1 : H1.size = H.size + 1 := by rw [← hH1, Array.size_push]
          have e1 : H1[H.size]? = some (arrV cA m0 (fun _ => .null)) := by rw [← hH1, Array.getElem?_push_size, ← arrV_new]
          have o1 : ∀ q : Nat, q < H.size → H1[q]? = H[q]? := fun q hq => by rw [← hH1, Array.getElem?_push, if_neg (Nat.ne_of_lt hq)]
          have hkp : ∀ (k : Nat) (x : Nat × va_E), (x_ws cI cA b sz S g)[k]? = some x → H1[x.1]? = H[x.1]? := fun k x hx => o1 x.1 (hP k x hx).lt
          rw [hz]
          refine ih _ _ _ _ _ h H1 locs ls (cells + 1) (slots + m0) ?_ ⟨Nat.le_trans hS.1 (by omega), fun x h1 h2 => (o1 x (by have := hS.1; omega)).trans (hS.2.1 x h1 h2), hS.2.2⟩ hl (by rw [List.length_append]; simp; omega) (by rw [x_sz_app]; show _ = _ + (List.replicate m0 _).length; rw [List.length_replicate]; omega) hL
          rw [x_ws_push (g' := g) (fun _ _ => rfl)]
          refine (hP.kept hkp).app (fun k x hx => ?_)
          have hz2 : k < 1 := (List.getElem?_eq_some_iff.mp hx).1
          rw [show k = 0 by omega] at hx
          cases hx
          show H1[sz + S.length]? = some (vp_cell cA ((List.replicate m0 none).length, .inr (.inr (.inr (.inr (fun j => ((List.replicate m0 none)[j]?.getD none).map (x_a b sz)))))))
          rw [← hz, e1, vp_cell_q, List.length_replicate]
          congr 2
          funext j
          rw [List.getElem?_replicate]
          split <;> rfl
        · exact h.elim
      case invokevirtual i =>
        have hlen : len = 3 := ok1.2
        subst hlen
        dsimp only at h
        have ok2 := x_ok2 hok
        dsimp only [okM] at ok2
        rw [Bool.and_eq_true] at ok2
        split at h
        · rename_i As r hsp
          obtain ⟨hcat, Lc, S1, Q1, hLc, hcall, hle, hgo⟩ := h
          obtain ⟨e1, he1, hrv, hge⟩ := x_cl_met0 hcall
          have hkd : e1.2.2.2.1 = 0 := by
            have := eq_of_beq ok2.2
            unfold x_kind at this
            split at this
            · omega
            · rw [he1] at this
              exact this
          refine x_size hs0 hP hS hcc (fun hz => ?_)
          refine x_back (x_run C (IH _ _ _ _ _ _ _ hcall) he1 hrv hR hP hz hcl ok2.1 hcat ⟨by omega, by omega⟩ (hXc _ hLc) (Or.inl ⟨hkd, hsp, hdg⟩)) hS (fun rr g1 H1 l1 hq hp1 hs1 => ?_)
          have := ih _ _ _ _ _ (hgo rr g1 hq) H1 l1 ls (cells + (S1.length - S.length)) (slots + (x_sz S1 - x_sz S)) hp1 hs1 hl (by omega) (by omega) hL
          rw [List.map_append] at this
          cases rr <;> exact this
        · exact h.elim
      case invokestatic i =>
        have hlen : len = 3 := ok1.2
        subst hlen
        dsimp only at h
        have ok2 := x_ok2 hok
        dsimp only [okM] at ok2
        rw [Bool.and_eq_true] at ok2
        cases hb1 : Nat.beq r1 1001
        · rw [hb1] at h
          dsimp only [cond] at h
          split at h
          · rename_i As r hsp
            obtain ⟨hcat, Lc, S1, Q1, hLc, hcall, hle, hgo⟩ := h
            obtain ⟨e1, he1, hrv, hge⟩ := x_cl_met0 hcall
            have hkd : e1.2.2.2.1 = 1 := by
              have n1 : ¬ r1 = 1001 := fun z => by subst z; cases hb1
              have := ok2.2
              rw [Bool.or_eq_true] at this
              rcases this with h1 | h1
              · have h1 := eq_of_beq h1
                unfold x_kind at h1
                split at h1
                · omega
                · rw [he1] at h1
                  exact h1
              · exact absurd (eq_of_beq h1) n1
            refine x_size hs0 hP hS hcc (fun hz => ?_)
            refine x_back (x_run C (IH _ _ _ _ _ _ _ hcall) he1 hrv hR hP hz hcl ok2.1 hcat ⟨by omega, by omega⟩ (hXc _ hLc) (Or.inr (Or.inl ⟨hkd, hsp, hdg⟩))) hS (fun rr g1 H1 l1 hq hp1 hs1 => ?_)
            have := ih _ _ _ _ _ (hgo rr g1 hq) H1 l1 ls (cells + (S1.length - S.length)) (slots + (x_sz S1 - x_sz S)) hp1 hs1 hl (by omega) (by omega) hL
            rw [List.map_append] at this
            cases rr <;> exact this
          · exact h.elim
        · rw [hb1] at h
          have e2 := Nat.eq_of_beq_eq_true hb1
          subst e2
          dsimp only [cond] at h
          split at h
          · rename_i c0 b0 q1 a0 q0 r
            split at h
            · rename_i n0 hq0
              split at h
              · rename_i n1 hq1
                obtain ⟨hcat, a', b', c', rfl, rfl, rfl, ha, hbb, hsm, h⟩ := h
                have hlk := (x_spec hk ok2.1 (by decide)).resolve_left (fun z => absurd z.1 (by decide))
                have hw : nativeFrameWords "java/lang/System" "arraycopy" 5 ≤ 17 := by decide
                have ea : (nI a').toNatClampNeg = a' := nI_clamp (by omega)
                have eb : (nI b').toNatClampNeg = b' := nI_clamp (by omega)
                have ec : (nI c').toNatClampNeg = c' := nI_clamp (by omega)
                refine va_copyi (ty := .int) hx hb (by rw [hcl]) hown hlk.2 (hk.w x_w353 rfl) (hk.w x_w352 rfl) (hk.w x_w11 rfl) hk.2.2.2 hP x_D hS q0 q1 0 0 (x_ws_get hq0) (x_ws_get hq1) rfl rfl rfl (nI_pos (by omega)) (nI_pos (by omega)) (nI_pos (by omega)) (by rw [ea, ec]; exact ha) (by rw [eb, ec]; exact hbb) (fun _ _ => rfl) (by omega) (by have := x_ci (b := b) (sz := sz) hcat; omega) hdg (fun H1 l1 a1 _ a3 => ?_)
                rw [ea, eb, ec] at a1
                have e1 := x_ws_set (cI := cI) (cG := cG) (b := b) (sz := sz) (S := S) (g := g) (g' := x_cp g (q0 + 1) (q1 + 1) a' b' c') (q := q1) (c' := .inl n1) x_cp_ne
                rw [x_set_self hq1] at e1
                refine ih _ _ _ _ _ h H1 l1 ls cells slots ?_ a3 hl hcc hss hL
                rw [← e1]
                have e9 : x_cp g (q0 + 1) (q1 + 1) a' b' c' (q1 + 1) = va_cpy (g (q0 + 1)) (g (q1 + 1)) a' b' c' := funext fun z => by simp only [x_cp, if_true]
                rw [e9]
                exact a1
              · exact h.elim
            · exact h.elim
          · exact h.elim
      case invokespecial i =>
        have hlen : len = 3 := ok1.2
        subst hlen
        dsimp only at h
        have ok2 := x_ok2 hok
        dsimp only [okM] at ok2
        rw [Bool.and_eq_true] at ok2
        cases hb1 : Nat.beq r1 1000
        · rw [hb1] at h
          dsimp only [cond] at h
          split at h
          · rename_i As r hsp
            obtain ⟨hcat, Lc, S1, Q1, hLc, hcall, hle, hgo⟩ := h
            obtain ⟨e1, he1, hrv, hge⟩ := x_cl_met0 hcall
            have hkd : e1.2.2.2.1 = 2 := by
              have n1 : ¬ r1 = 1000 := fun z => by subst z; cases hb1
              have := ok2.2
              rw [Bool.or_eq_true] at this
              rcases this with h1 | h1
              · have h1 := eq_of_beq h1
                unfold x_kind at h1
                split at h1
                · omega
                · rw [he1] at h1
                  exact h1
              · exact absurd (eq_of_beq h1) n1
            refine x_size hs0 hP hS hcc (fun hz => ?_)
            refine x_back (x_run C (IH _ _ _ _ _ _ _ hcall) he1 hrv hR hP hz hcl ok2.1 hcat ⟨by omega, by omega⟩ (hXc _ hLc) (Or.inr (Or.inr ⟨hkd, hsp, hdg⟩))) hS (fun rr g1 H1 l1 hq hp1 hs1 => ?_)
            have := ih _ _ _ _ _ (hgo rr g1 hq) H1 l1 ls (cells + (S1.length - S.length)) (slots + (x_sz S1 - x_sz S)) hp1 hs1 hl (by omega) (by omega) hL
            rw [List.map_append] at this
            cases rr <;> exact this
          · exact h.elim
        · rw [hb1] at h
          have e2 := Nat.eq_of_beq_eq_true hb1
          subst e2
          dsimp only [cond] at h
          split at h
          · obtain ⟨hcat, h⟩ := h
            have hlk := (x_spec hk ok2.1 (by decide)).resolve_right (fun z => absurd z.1 (by decide))
            exact W.objInit hx hb hown hlk.2 (hk.w x_w21 rfl) (hk.w x_w22 rfl) rfl (by rw [← hcl]) rfl hdg (by omega) (by have := x_ci (b := b) (sz := sz) hcat; show 2 * 0 + _ + 12 ≤ _; omega) (ih _ _ _ _ _ h H locs ls cells slots hP hS hl hcc hss hL)
          · exact h.elim
      case ireturn =>
        have hlen : len = 1 := ok1.2
        subst hlen
        dsimp only at h
        split at h
        · obtain ⟨⟨ty, h1, h2⟩, rfl, h4⟩ := h
          exact hendI H locs ls pc cells slots g _ ty h4 hP hS h1 h2 hdg hcc hss
        · exact h.elim
      case lreturn =>
        have hlen : len = 1 := ok1.2
        subst hlen
        dsimp only at h
        split at h
        · obtain ⟨h1, rfl, h4⟩ := h
          exact hendL H locs ls pc cells slots g _ h4 hP hS h1 hdg hcc hss
        · exact h.elim
      case return_ =>
        have hlen : len = 1 := ok1.2
        subst hlen
        dsimp only at h
        obtain ⟨rfl, h1, rfl, h4⟩ := h
        exact hendV H locs ls pc cells slots g h4 hP hS h1 hdg hcc hss
      all_goals
        dsimp only at h
        split at h
        · rename_i L' st' S' g' hs
          exact x_s_ok C hs hok hP hS hl hX (fun H1 l1 ls1 a0 a1 a2 a3 => ih _ _ _ _ _ h H1 l1 ls1 cells slots a1 a2 a3 (by rw [a0.1]; exact hcc) (by rw [a0.2.1]; exact hss) (by rw [a0.2.2]; exact hL))
        · exact h.elim
end XZ
