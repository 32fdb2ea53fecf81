/-! ===== the run, whole ===== -/
section XZ
variable {p : Program} {l : Launch} {e : Env} {R : Room} {s : State} {m : MethodId} {args : Array Value} {below : List Frame} {meth : Method} {c : Code} {Q : State → Prop}
variable {D : va_G} {cI cG : ClassId} {b sz : Nat} {cc : ByteArray} {mm : xM}
theorem x_ci {r : List Value} (h : (r.map fun v => v.category).sum ≤ 8) : ((r.map (x_v b sz)).map fun v => v.category).sum ≤ 8 := by
  rw [List.map_map, show ((fun v : Value => v.category) ∘ x_v b sz) = (fun v : Value => v.category) from funext x_v_cat]
  exact h
theorem x_j31 {j n : Nat} (h1 : j < n) (h2 : j < 65536) : vp_in (nI j) n := by
  have h3 : ¬ nI j < 0 := nI_pos (by omega)
  rintro (h | h)
  · exact h3 h
  · rw [nI_clamp (by omega)] at h
    omega
theorem x_arrK {s : State} {cI cG cA : ClassId} (hK : va_K D vwCl (x_tys cI cG) s) {ty : FieldType} (ht : ty = .int) (h : s.vm.findClass ("[" ++ ty.toString) = some cA) : cA = cI := by
  subst ht
  have h2 := (hK.2 0 _ rfl).2
  exact Option.some.inj (h.symm.trans h2)
theorem x_arrG {s : State} {cI cG cA : ClassId} (hK : va_K D vwCl (x_tys cI cG) s) (h : s.vm.findClass ("[" ++ (FieldType.object RX2).toString) = some cA) : cA = cG := by
  obtain ⟨kA, comp, -, -, -, h2⟩ := (hK.2 1 _ rfl).2
  exact Option.some.inj (h.symm.trans h2)
set_option maxHeartbeats 16000000 in
theorem x_wp {d : Nat} (IH : ∀ t As S g Se Q, x_cl d t As S g Se Q → x_Mt d t As S g Se Q) (C : x_C p s m args meth c D cI cG cc mm) (hcode : ∀ q ∈ mm.2.2.2.2, okE mm.1 cc q = true) (hR : d + 1 ≤ R.frames ∧ 36 * d + 36 ≤ R.locals) {S0 Se : xW} {Ls : Option (Nat × (Nat → Int32))} {QW : xQ}
    (hs0 : s.heap.size = sz + S0.length) (hRc : Se.length ≤ S0.length + R.cells ∧ x_sz Se ≤ x_sz S0 + R.slots) (hX : ∀ n, Ls = some n → va_X b n.1 n.2 s s.heap ∧ b < s.heap.size ∧ b < sz)
    (hendV : ∀ (H : Heap) (locs : List Loc) (ls : Array Slot) (pc cells slots : Nat) (g : xG), QW none g → va_P D vwCl (x_ws cI cG b sz Se g) H → va_S (fun q => sz ≤ q) s.heap H locs → mm.2.2.1 = none → decode cc pc = .ok (.return_, 1) → S0.length + cells = Se.length → x_sz S0 + slots = x_sz Se → W p l e R s m args below meth c H locs cells slots Q (F0 m pc ls []))
    (hendI : ∀ (H : Heap) (locs : List Loc) (ls : Array Slot) (pc cells slots : Nat) (g : xG) (v : Int32) (ty : FieldType), QW (some (.int v)) g → va_P D vwCl (x_ws cI cG b sz Se g) H → va_S (fun q => sz ≤ q) s.heap H locs → mm.2.2.1 = some ty → narrow ty (.int v) = .int v → decode cc pc = .ok (.ireturn, 1) → S0.length + cells = Se.length → x_sz S0 + slots = x_sz Se → W p l e R s m args below meth c H locs cells slots Q (F0 m pc ls [.int v])) :
    ∀ (n pc : Nat) (L : xL) (st : List Value) (S : xW) (g : xG), Wp (x_cl d) mm Ls Se QW n pc L st S g → ∀ (H : Heap) (locs : List Loc) (ls : Array Slot) (cells slots : Nat), va_P D vwCl (x_ws cI cG b sz S g) H → va_S (fun q => sz ≤ q) s.heap H locs → x_lh b sz ls L → S0.length + cells = S.length → x_sz S0 + slots = x_sz S → L.length = mm.2.2.2.1 →
      W p l e R s m args below meth c H locs cells slots Q (F0 m pc ls (st.map (x_v b sz))) := by
  obtain ⟨hx, hb, hown, hk, hret, hlocks, hini, hml⟩ := id C
  have hA : ∀ q, s.heap.size ≤ q → sz ≤ q := fun q h => by omega
  intro n
  induction n with
  | zero => intro pc L st S g h; exact h.elim
  | succ n ih =>
    intro pc L st S g h H locs ls cells slots hP hS hl hcc hss hL
    unfold Wp at h
    cases hat : x_at mm.2.2.2.2 pc with
    | none => rw [hat] at h; exact h.elim
    | some q =>
      obtain ⟨i, len, r1, r2⟩ := q
      rw [hat] at h
      have hok := hcode _ (x_at_mem hat)
      have ok1 := x_ok1 hok
      have hdg := ok1.1
      dsimp only at hdg h
      have hcl : ls.size = c.maxLocals := by rw [hl.1, hL, hml]
      cases i
      case goto off =>
        have hlen : len = 3 := ok1.2
        subst hlen
        exact lv_goto hx hb hdg (of_decide_eq_true (x_ok2 hok)) (ih _ _ _ _ _ h H locs ls cells slots hP hS hl hcc hss hL)
      case ifCond cd off =>
        have hlen : len = 3 := ok1.2
        subst hlen
        have htg := of_decide_eq_true (x_ok2 hok)
        dsimp only at h
        split at h
        · obtain ⟨ht, hf⟩ := h
          cases cd
          · exact lv_if_eq hx hb hdg htg (fun z => ih _ _ _ _ _ (ht z) H locs ls cells slots hP hS hl hcc hss hL) (fun z => ih _ _ _ _ _ (hf z) H locs ls cells slots hP hS hl hcc hss hL)
          · exact lv_if_ne hx hb hdg htg (fun z => ih _ _ _ _ _ (ht z) H locs ls cells slots hP hS hl hcc hss hL) (fun z => ih _ _ _ _ _ (hf (fun w => w z)) H locs ls cells slots hP hS hl hcc hss hL)
          · exact lv_if_lt hx hb hdg htg (fun z => ih _ _ _ _ _ (ht z) H locs ls cells slots hP hS hl hcc hss hL) (fun z => ih _ _ _ _ _ (hf z) H locs ls cells slots hP hS hl hcc hss hL)
          · exact lv_if_ge hx hb hdg htg (fun z => ih _ _ _ _ _ (ht z) H locs ls cells slots hP hS hl hcc hss hL) (fun z => ih _ _ _ _ _ (hf z) H locs ls cells slots hP hS hl hcc hss hL)
          · exact lv_if_gt hx hb hdg htg (fun z => ih _ _ _ _ _ (ht z) H locs ls cells slots hP hS hl hcc hss hL) (fun z => ih _ _ _ _ _ (hf z) H locs ls cells slots hP hS hl hcc hss hL)
          · exact lv_if_le hx hb hdg htg (fun z => ih _ _ _ _ _ (ht z) H locs ls cells slots hP hS hl hcc hss hL) (fun z => ih _ _ _ _ _ (hf z) H locs ls cells slots hP hS hl hcc hss hL)
        · exact h.elim
      case if_icmp cd off =>
        have hlen : len = 3 := ok1.2
        subst hlen
        have htg := of_decide_eq_true (x_ok2 hok)
        dsimp only at h
        split at h
        · obtain ⟨ht, hf⟩ := h
          cases cd
          · exact lv_icmp_eq hx hb hdg htg (fun z => ih _ _ _ _ _ (ht z) H locs ls cells slots hP hS hl hcc hss hL) (fun z => ih _ _ _ _ _ (hf z) H locs ls cells slots hP hS hl hcc hss hL)
          · exact lv_icmp_ne hx hb hdg htg (fun z => ih _ _ _ _ _ (ht z) H locs ls cells slots hP hS hl hcc hss hL) (fun z => ih _ _ _ _ _ (hf (fun w => w z)) H locs ls cells slots hP hS hl hcc hss hL)
          · exact lv_icmp_lt hx hb hdg htg (fun z => ih _ _ _ _ _ (ht z) H locs ls cells slots hP hS hl hcc hss hL) (fun z => ih _ _ _ _ _ (hf z) H locs ls cells slots hP hS hl hcc hss hL)
          · exact lv_icmp_ge hx hb hdg htg (fun z => ih _ _ _ _ _ (ht z) H locs ls cells slots hP hS hl hcc hss hL) (fun z => ih _ _ _ _ _ (hf z) H locs ls cells slots hP hS hl hcc hss hL)
          · exact lv_icmp_gt hx hb hdg htg (fun z => ih _ _ _ _ _ (ht z) H locs ls cells slots hP hS hl hcc hss hL) (fun z => ih _ _ _ _ _ (hf z) H locs ls cells slots hP hS hl hcc hss hL)
          · exact lv_icmp_le hx hb hdg htg (fun z => ih _ _ _ _ _ (ht z) H locs ls cells slots hP hS hl hcc hss hL) (fun z => ih _ _ _ _ _ (hf z) H locs ls cells slots hP hS hl hcc hss hL)
        · exact h.elim
      case tableswitch dflt lo hi offs =>
        have ok2 := x_ok2 hok
        dsimp only at ok2 h
        rw [Bool.and_eq_true] at ok2
        have e2 := of_decide_eq_true ok2.2
        split at h
        · rw [e2] at h
          exact x_tsw hx hb hdg ok2.1 ⟨fun q hq z => ih _ _ _ _ _ (h.1 q hq z) H locs ls cells slots hP hS hl hcc hss hL, fun z => ih _ _ _ _ _ (h.2 z) H locs ls cells slots hP hS hl hcc hss hL⟩
        · exact h.elim
      case lookupswitch dflt ps =>
        have ok2 := x_ok2 hok
        dsimp only at ok2 h
        rw [Bool.and_eq_true] at ok2
        have e2 := of_decide_eq_true ok2.2
        split at h
        · rw [e2] at h
          exact x_lsw hx hb hdg ok2.1 ⟨fun q hq z => ih _ _ _ _ _ (h.1 q hq z) H locs ls cells slots hP hS hl hcc hss hL, fun z => ih _ _ _ _ _ (h.2 z) H locs ls cells slots hP hS hl hcc hss hL⟩
        · exact h.elim
      case iaload =>
        have hlen : len = 1 := ok1.2
        subst hlen
        dsimp only at h
        split at h
        · obtain ⟨j, n', h1, rfl, h3, h4, h5⟩ := h
          obtain ⟨x1, x2, x3⟩ := hX _ h1
          refine va_sld hx hb x1 x2 (show ¬ sz ≤ b from Nat.not_le.mpr x3) hS (x_j31 h3 h4) hdg ?_
          rw [nI_clamp (by omega)]
          exact ih _ _ _ _ _ h5 H locs ls cells slots hP hS hl hcc hss hL
        · split at h
          · rename_i hq
            obtain ⟨j, rfl, h3, h4, h5⟩ := h
            refine va_iald hx hb hk.2.2.2 hP _ 0 (x_ws_get hq) rfl (x_j31 h3 h4) hdg ?_
            rw [nI_clamp (by omega)]
            exact ih _ _ _ _ _ h5 H locs ls cells slots hP hS hl hcc hss hL
          · exact h.elim
        · exact h.elim
      case iastore =>
        have hlen : len = 1 := ok1.2
        subst hlen
        dsimp only at h
        split at h
        · rename_i x iv q r
          split at h
          · rename_i mm1 hq
            obtain ⟨j, rfl, h3, h4, h5⟩ := h
            refine va_iast hx hb hk.2.2.2 hP x_D hS q 0 (x_ws_get hq) rfl (x_j31 h3 h4) hdg (fun H1 l1 a1 _ a3 => ?_)
            rw [nI_clamp (by omega)] at a1
            have e1 := x_ws_set (cI := cI) (cG := cG) (b := b) (sz := sz) (S := S) (g := g) (g' := x_up g (q + 1) j x) (q := q) (c' := .inl mm1) x_up_ne
            rw [x_set_self hq] at e1
            refine ih _ _ _ _ _ h5 H1 l1 ls cells slots ?_ a3 hl hcc hss hL
            rw [← e1]
            rw [show x_e cI cG b sz (x_up g (q + 1) j x (q + 1)) (.inl mm1) = .inl (cI, mm1, .inl (upd (g (q + 1)) j x)) by rw [x_up_eq]; rfl]
            exact a1
          · exact h.elim
        · exact h.elim
      case aaload =>
        have hlen : len = 1 := ok1.2
        subst hlen
        dsimp only at h
        split at h
        · split at h
          · rename_i es hq
            obtain ⟨j, k, rfl, h3, h4, h5⟩ := h
            have hj : j < es.length := (List.getElem?_eq_some_iff.mp h3).1
            refine va_aldq hx hb hk.2.2.2 hP _ 1 (x_ws_get hq) rfl (x_j31 hj h4) hdg ?_
            rw [nI_clamp (by omega), h3]
            exact ih _ _ _ _ _ h5 H locs ls cells slots hP hS hl hcc hss hL
          · exact h.elim
        · exact h.elim
      case aastore =>
        have hlen : len = 1 := ok1.2
        subst hlen
        dsimp only at h
        split at h
        · rename_i v iv q r
          split at h
          · rename_i es hq
            obtain ⟨j, fs, rfl, h3, h4, hv, h5⟩ := h
            refine va_astq (r := (RX2, TX2, 10)) hx hb hk.2.2.2 hP x_D hS q 1 v 2 (x_ws_get hq) rfl (x_ws_get hv) rfl (x_j31 h3 h4) hdg (fun H1 l1 a1 _ a3 => ?_)
            rw [nI_clamp (by omega)] at a1
            have e1 := x_ws_set (cI := cI) (cG := cG) (b := b) (sz := sz) (S := S) (g := g) (g' := g) (q := q) (c' := .inr (.inr (es.set j (some (v + 1))))) (fun _ _ => rfl)
            refine ih _ _ _ _ _ h5 H1 l1 ls cells slots ?_ a3 hl (by rw [List.length_set]; exact hcc) (by rw [x_sz_set hq (by show (es.set j _).length = _; rw [List.length_set]; rfl)]; exact hss) hL
            rw [← e1]
            rw [show x_e cI cG b sz (g (q + 1)) (.inr (.inr (es.set j (some (v + 1))))) = .inl (cG, es.length, .inr (.inr (.inr (.inr (va_up (fun j => (es[j]?.getD none).map (x_a b sz)) j (some (sz + v))))))) by
              show va_E.inl _ = _
              rw [List.length_set]
              congr 6
              funext a
              rw [List.getElem?_set]
              by_cases ha : j = a
              · subst ha
                simp [va_up, h3, x_a]
              · simp [va_up, ha, Ne.symm ha]]
            exact a1
          · exact h.elim
        · exact h.elim
      case irem =>
        have hlen : len = 1 := ok1.2
        subst hlen
        dsimp only at h
        split at h
        · exact lv_irem hx hb hdg h.1 (ih _ _ _ _ _ h.2 H locs ls cells slots hP hS hl hcc hss hL)
        · exact h.elim
      case fdiv =>
        have hlen : len = 1 := ok1.2
        subst hlen
        dsimp only at h
        split at h
        · exact lv_fdiv hx hb hdg h.1 (ih _ _ _ _ _ h.2 H locs ls cells slots hP hS hl hcc hss hL)
        · exact h.elim
      case fmul =>
        have hlen : len = 1 := ok1.2
        subst hlen
        dsimp only at h
        split at h
        · exact lv_fmul hx hb hdg h.1 (ih _ _ _ _ _ h.2 H locs ls cells slots hP hS hl hcc hss hL)
        · exact h.elim
      case fsub =>
        have hlen : len = 1 := ok1.2
        subst hlen
        dsimp only at h
        split at h
        · exact lv_fsub hx hb hdg h.1 (ih _ _ _ _ _ h.2 H locs ls cells slots hP hS hl hcc hss hL)
        · exact h.elim
      case new i =>
        sorry
      case newarray ty =>
        sorry
      case anewarray i =>
        sorry
      case invokevirtual i =>
        have hlen : len = 3 := ok1.2
        subst hlen
        dsimp only at h
        have ok2 := x_ok2 hok
        dsimp only at ok2
        rw [Bool.and_eq_true] at ok2
        split at h
        · rename_i As r hsp
          obtain ⟨hcat, S1, Q1, hcall, hle, hgo⟩ := h
          obtain ⟨e1, he1, hrv, hge⟩ := x_cl_met0 hcall
          have hkd : e1.2.2.2.1 = 0 := by
            have := Nat.eq_of_beq_eq_true ok2.2
            unfold x_kind at this
            split at this
            · omega
            · rw [he1] at this
              exact this
          refine x_size hs0 hP hS hcc (fun hz => ?_)
          refine x_back (x_run C (IH _ _ _ _ _ _ hcall) he1 hrv hR hP hz hcl ok2.1 hcat ⟨by omega, by omega⟩ (Or.inl ⟨hkd, hsp, hdg⟩)) hS (fun rr g1 H1 l1 hq hp1 hs1 => ?_)
          have := ih _ _ _ _ _ (hgo rr g1 hq) H1 l1 ls (cells + (S1.length - S.length)) (slots + (x_sz S1 - x_sz S)) hp1 hs1 hl (by omega) (by omega) hL
          rw [List.map_append] at this
          cases rr <;> exact this
        · exact h.elim
      case invokestatic i =>
        sorry
      case invokespecial i =>
        sorry
      case ireturn =>
        have hlen : len = 1 := ok1.2
        subst hlen
        dsimp only at h
        split at h
        · obtain ⟨⟨ty, h1, h2⟩, rfl, h4⟩ := h
          exact hendI H locs ls pc cells slots g _ ty h4 hP hS h1 h2 hdg hcc hss
        · exact h.elim
      case return_ =>
        have hlen : len = 1 := ok1.2
        subst hlen
        dsimp only at h
        obtain ⟨rfl, h1, rfl, h4⟩ := h
        exact hendV H locs ls pc cells slots g h4 hP hS h1 hdg hcc hss
      all_goals
        dsimp only at h
        split at h
        · rename_i L' st' S' g' hs
          exact x_s_ok C hs hok hP hS hl hX (fun H1 l1 ls1 a0 a1 a2 a3 => ih _ _ _ _ _ h H1 l1 ls1 cells slots a1 a2 a3 (by rw [a0.1]; exact hcc) (by rw [a0.2.1]; exact hss) (by rw [a0.2.2]; exact hL))
        · exact h.elim
end XZ
