/-! ===== calls and switches of a run ===== -/
section XR
variable {p : Program} {l : Launch} {e : Env} {R : Room} {s : State} {m : MethodId} {args : Array Value} {below : List Frame} {meth : Method} {c : Code} {H : Heap} {locs : List Loc} {cells slots : Nat} {Q : State → Prop}
variable {D : va_G} {cI cG : ClassId} {b sz : Nat} {cc : ByteArray} {mm : xM}
set_option maxHeartbeats 4000000 in
theorem x_run {Lc : Option (Nat × (Nat → Int32))} {d t : Nat} {As r st : List Value} {S S1 : xW} {g : xG} {Q1 : xQ} {e1 : xM × MethodName × ByteArray × Nat × Nat} (C : x_C p s m args meth c D cI cG cc mm) (hM : x_Mt Lc d t As S g S1 Q1) (he : mtA[t]? = some e1)
    (hrv : e1.2.2.2.1 = 1 ∨ ∃ q fs Bs, As = .ref (q + 1) :: Bs ∧ S[q]? = some (.inr (.inl (e1.1.1, fs)))) (hR : d + 1 ≤ R.frames ∧ 36 * d + 36 ≤ R.locals)
    (hP : va_P D vwCl (x_ws cI cG b sz S g) H) (hz : H.size = sz + S.length) {i np pc : Nat} {ls : Array Slot} (hls : ls.size = c.maxLocals) (hr : resM.contains (mm.1, i, t, np) = true)
    (hcat : (r.map fun v => v.category).sum ≤ 8) (hf : cells + (S1.length - S.length) ≤ R.cells ∧ slots + (x_sz S1 - x_sz S) ≤ R.slots)
    (hXc : ∀ n, Lc = some n → va_X b n.1 n.2 s H ∧ b < H.size ∧ b < sz)
    (hk3 : (e1.2.2.2.1 = 0 ∧ x_spl (np + 1) [] st = some (As, r) ∧ decode cc pc = .ok (.invokevirtual i, 3)) ∨ (e1.2.2.2.1 = 1 ∧ x_spl np [] st = some (As, r) ∧ decode cc pc = .ok (.invokestatic i, 3)) ∨ (e1.2.2.2.1 = 2 ∧ x_spl (np + 1) [] st = some (As, r) ∧ decode cc pc = .ok (.invokespecial i, 3))) :
    va_Run p l e R s m args below meth c H locs cells slots (S1.length - S.length) (x_sz S1 - x_sz S) (F0 m pc ls (st.map (x_v b sz))) (r.map (x_v b sz)) (x_Qc D cI cG b sz S1 Q1 (As.map (x_v b sz)).toArray) (fun q => sz ≤ q) := by
  obtain ⟨hx, hb, hown, hk, -, -, -, -⟩ := id C
  have hM1 := hM l D cI cG b sz e1 he
  have hm := x_mok he
  obtain ⟨hn, hlk⟩ := x_mthd hk hr he
  have hini : (Jvm.Cond.initialized e1.2.1.cls).before args s = true := hk.w hm.2.2.2.1 rfl
  have hd := hm.2.2.2.2.2.1
  have hml := hm.2.2.2.2.2.2.1
  have hRR : (x_room d (S1.length - S.length) (x_sz S1 - x_sz S)).frames + 1 ≤ R.frames ∧ 8 + (e1.1.2.2.2.1 + 11) + (x_room d (S1.length - S.length) (x_sz S1 - x_sz S)).locals ≤ R.locals := by
    refine ⟨hR.1, ?_⟩
    show 8 + (e1.1.2.2.2.1 + 11) + 36 * d ≤ R.locals
    omega
  have hPc : ∀ U : State, U.heap = H → s.WarmedH U.vm → x_Pc Lc D cI cG b sz As S g (As.map (x_v b sz)).toArray U := fun U hU hW => by
    obtain ⟨k1, k2, k3⟩ := x_kn_warm hk hW
    exact ⟨rfl, by rw [hU]; exact hz, by rw [hU]; exact hP, k1, k2, k3, fun n hn => ⟨va_X.moved hW.alike (by rw [hU]; exact (hXc n hn).1), by rw [hU]; exact (hXc n hn).2.1, (hXc n hn).2.2⟩⟩
  have hcr : ((r.map (x_v b sz)).map fun v => v.category).sum ≤ 8 := by
    rw [List.map_map, show ((fun v : Value => v.category) ∘ x_v b sz) = (fun v : Value => v.category) from funext x_v_cat]
    exact hcat
  have FX : CallFix p m c cc c.maxLocals s args x_LW (x_own mm.1) := ⟨hx, hb, rfl, hown, hk.1⟩
  rcases hk3 with ⟨h0, hsp, hdg⟩ | ⟨h0, hsp, hdg⟩ | ⟨h0, hsp, hdg⟩
  · -- of an object
    obtain ⟨hA1, hA2⟩ := x_spl_ok _ _ _ hsp
    obtain ⟨q, fs, Bs, rfl, hq⟩ := hrv.resolve_left (by omega)
    rcases hm.2.2.2.2.2.2.2.2 with ⟨-, hins, hsel, rr, hrr, hcl⟩ | ⟨z, -⟩ | ⟨z, -⟩
    · have hbn : (Bs.map (x_v b sz)).length = np := by simp at hA1 ⊢; omega
      have hst : st.map (x_v b sz) = (Bs.map (x_v b sz)).reverse ++ .ref (sz + q) :: r.map (x_v b sz) := by
        have : st = (.ref (q + 1) :: Bs).reverse ++ r := by rw [hA2]; rfl
        rw [this]
        simp [x_v, x_a]
      have hp : PreV s H e1.2.1.cls (sz + q) (x_Pc Lc D cI cG b sz (.ref (q + 1) :: Bs) S g) (Bs.map (x_v b sz)) := by
        refine ⟨x_blind, ?_, hPc⟩
        have := va_recv hk.2.2.2 hP (ci := e1.1.1) (q0 := q) (a := sz + q) hrr (x_ws_get hq)
        rw [hcl] at this
        exact this
      have hselw : (Jvm.Cond.selects e1.2.1.cls e1.2.1 e1.2.1).before args s = true := hk.1 _ (List.mem_filter.mpr ⟨hsel, rfl⟩)
      rcases hlk with hlk | hlk
      · exact va_runV FX hM1 ⟨callB_of np hk.1 (x_goodm hm) rfl rfl rfl hini hlk ⟨hd.1, hd.2.1, by rw [hn]; exact hd.2.2⟩ hRR, hk.w hins rfl, hselw⟩ hp rfl hbn hls hst (lv_room hcr) hdg hf
      · exact va_runVN FX hM1 ⟨va_cnB np hk.1 (x_goodm hm) rfl rfl rfl hlk hini ⟨hd.1, hd.2.1, by rw [hn]; exact hd.2.2⟩ hRR, hk.w hins rfl, hselw⟩ hp rfl hbn hls hst (lv_room hcr) hdg hf
    · omega
    · omega
  · -- static
    obtain ⟨hA1, hA2⟩ := x_spl_ok _ _ _ hsp
    rcases hm.2.2.2.2.2.2.2.2 with ⟨z, -⟩ | ⟨-, hstt⟩ | ⟨z, -⟩
    · omega
    · have hbn : (As.map (x_v b sz)).length = np := by simp at hA1 ⊢; omega
      have hst : st.map (x_v b sz) = (As.map (x_v b sz)).reverse ++ r.map (x_v b sz) := by
        have : st = As.reverse ++ r := by rw [hA2]; rfl
        rw [this]
        simp
      rcases hlk with hlk | hlk
      · exact va_runS FX hM1 ⟨callB_of np hk.1 (x_goodm hm) rfl rfl rfl hini hlk ⟨hd.1, hd.2.1, by rw [hn]; exact hd.2.2⟩ hRR, hk.w hstt rfl⟩ ⟨x_blind, hPc⟩ rfl hbn hls hst (lv_room hcr) hdg hf
      · exact va_runSN FX hM1 ⟨va_cnB np hk.1 (x_goodm hm) rfl rfl rfl hlk hini ⟨hd.1, hd.2.1, by rw [hn]; exact hd.2.2⟩ hRR, hk.w hstt rfl, trivial⟩ ⟨x_blind, hPc⟩ rfl hbn hls hst (lv_room hcr) hdg hf
    · omega
  · -- a constructor
    obtain ⟨hA1, hA2⟩ := x_spl_ok _ _ _ hsp
    obtain ⟨q, fs, Bs, rfl, hq⟩ := hrv.resolve_left (by omega)
    rcases hm.2.2.2.2.2.2.2.2 with ⟨z, -⟩ | ⟨z, -⟩ | ⟨-, hnm, hins, hret⟩
    · omega
    · omega
    · have hbn : (Bs.map (x_v b sz)).length = np := by simp at hA1 ⊢; omega
      have hst : st.map (x_v b sz) = (Bs.map (x_v b sz)).reverse ++ .ref (sz + q) :: r.map (x_v b sz) := by
        have : st = (.ref (q + 1) :: Bs).reverse ++ r := by rw [hA2]; rfl
        rw [this]
        simp [x_v, x_a]
      have hw : x_wsm e1 = Jvm.Cond.code e1.2.1 e1.2.2.1 e1.1.2.2.2.1 none :: x_LW := by unfold x_wsm; rw [hret]
      rcases hlk with hlk | hlk
      · exact va_runI FX hM1 ⟨callB_of np hk.1 (x_goodm hm) hw rfl rfl hini hlk ⟨hd.1, hd.2.1, by rw [hn]; exact hd.2.2⟩ hRR, hnm, hk.w hins rfl⟩ ⟨x_blind, hPc⟩ rfl hbn hls hst (lv_room hcr) hdg hf
      · exact va_runIN FX hM1 ⟨va_cnB np hk.1 (x_goodm hm) hw rfl rfl hlk hini ⟨hd.1, hd.2.1, by rw [hn]; exact hd.2.2⟩ hRR, hnm, hk.w hins rfl⟩ ⟨x_blind, hPc⟩ rfl hbn hls hst (lv_room hcr) hdg hf
theorem x_tsw {cc : ByteArray} (hx : p.tables.exec = Jvm.exec) (hb : c.code = cc) {pc len : Nat} {dflt lo hi : Int} {offs : Array Int} {x : Int32} {ls : Array Slot} {rest : List Value} (hdg : decode cc pc = .ok (.tableswitch dflt lo hi offs, len)) (hok : okS pc (.tableswitch dflt lo hi offs) = true)
    (hs : x_sw (x_tabOf pc (.tableswitch dflt lo hi offs)).1 (x_tabOf pc (.tableswitch dflt lo hi offs)).2 x (fun t => W p l e R s m args below meth c H locs cells slots Q (F0 m t ls rest))) : W p l e R s m args below meth c H locs cells slots Q (F0 m pc ls (.int x :: rest)) := by
  unfold okS at hok
  rw [Bool.and_eq_true] at hok
  obtain ⟨h1, h2⟩ := hok
  obtain ⟨a1, a2, a3, a4⟩ := of_decide_eq_true h1
  have h3 : ∀ o ∈ offs.toList, 0 ≤ (pc : Int) + o := fun o ho => of_decide_eq_true (List.all_eq_true.mp h2 o ho)
  by_cases hc : x.toInt < lo ∨ hi < x.toInt
  · refine lv_tableOut (tgt := ((pc : Int) + dflt).toNat) hx hb hdg hc (Int.toNat_of_nonneg a4).symm (hs.2 fun q hq => ?_)
    intro hxe
    obtain ⟨j, hj, rfl⟩ := List.getElem_of_mem hq
    simp only [x_tabOf, List.length_mapIdx, Array.length_toList] at hj
    simp only [x_tabOf, List.getElem_mapIdx] at hxe
    have h5 : x.toInt = ((lo + (j : Int)).toNat : Int) := by rw [hxe]; exact nI_toInt (by omega)
    rw [Int.toNat_of_nonneg (by omega)] at h5
    omega
  · have hj : (x.toInt - lo).toNat < offs.size := by omega
    have ho : offs[(x.toInt - lo).toNat]? = some (offs[(x.toInt - lo).toNat]) := Array.getElem?_eq_getElem hj
    have hmem : offs[(x.toInt - lo).toNat] ∈ offs.toList := by simp
    refine lv_tableIn (tgt := ((pc : Int) + offs[(x.toInt - lo).toNat]).toNat) hx hb hdg (fun z => hc (Or.inl z)) (fun z => hc (Or.inr z)) ho (Int.toNat_of_nonneg (h3 _ hmem)).symm (hs.1 ((lo + ((x.toInt - lo).toNat : Int)).toNat, ((pc : Int) + offs[(x.toInt - lo).toNat]).toNat) ?_ ?_)
    · simp only [x_tabOf]
      refine List.mem_of_getElem? (i := (x.toInt - lo).toNat) ?_
      rw [List.getElem?_mapIdx]
      simp [hj]
    · apply Int32.toInt_inj.mp
      rw [nI_toInt (by omega), Int.toNat_of_nonneg (by omega), Int.toNat_of_nonneg (by omega)]
      omega
theorem x_lsw_off (x : Int) (d : Int) : ∀ (ps : List (Int × Int)), (∃ q ∈ ps, x = q.1 ∧ Op.lookupswitch.offset ps d x = q.2) ∨ ((∀ q ∈ ps, ¬ x = q.1) ∧ Op.lookupswitch.offset ps d x = d)
  | [] => Or.inr ⟨fun _ h => absurd h List.not_mem_nil, rfl⟩
  | (a, o) :: r => by
    rw [Op.lookupswitch.offset_cons]
    by_cases h : x = a
    · rw [if_pos h.symm]
      exact Or.inl ⟨(a, o), List.mem_cons_self, h, rfl⟩
    · rw [if_neg (fun z => h z.symm)]
      rcases x_lsw_off x d r with ⟨q, h1, h2, h3⟩ | ⟨h1, h2⟩
      · exact Or.inl ⟨q, List.mem_cons_of_mem _ h1, h2, h3⟩
      · refine Or.inr ⟨fun q hq => ?_, h2⟩
        rcases List.mem_cons.mp hq with rfl | hq
        · exact h
        · exact h1 q hq
theorem x_lsw {cc : ByteArray} (hx : p.tables.exec = Jvm.exec) (hb : c.code = cc) {pc len : Nat} {dflt : Int} {ps : Array (Int × Int)} {x : Int32} {ls : Array Slot} {rest : List Value} (hdg : decode cc pc = .ok (.lookupswitch dflt ps, len)) (hok : okS pc (.lookupswitch dflt ps) = true)
    (hs : x_sw (x_tabOf pc (.lookupswitch dflt ps)).1 (x_tabOf pc (.lookupswitch dflt ps)).2 x (fun t => W p l e R s m args below meth c H locs cells slots Q (F0 m t ls rest))) : W p l e R s m args below meth c H locs cells slots Q (F0 m pc ls (.int x :: rest)) := by
  unfold okS at hok
  rw [Bool.and_eq_true, Bool.and_eq_true] at hok
  obtain ⟨⟨h1, h2⟩, h4⟩ := hok
  have a4 := of_decide_eq_true h1
  have h3 : ∀ q ∈ ps.toList, 0 ≤ q.1 ∧ q.1 < 1000 ∧ 0 ≤ (pc : Int) + q.2 := fun o ho => of_decide_eq_true (List.all_eq_true.mp h2 o ho)
  rcases x_lsw_off x.toInt dflt ps.toList with ⟨q, z1, z2, z3⟩ | ⟨z1, z2⟩
  · obtain ⟨b1, b2, b3⟩ := h3 q z1
    refine lv_lookup (tgt := ((pc : Int) + q.2).toNat) hx hb hdg h4 z3 (Int.toNat_of_nonneg b3).symm (hs.1 (q.1.toNat, ((pc : Int) + q.2).toNat) ?_ ?_)
    · simp only [x_tabOf]
      exact List.mem_map.mpr ⟨q, z1, rfl⟩
    · apply Int32.toInt_inj.mp
      rw [nI_toInt (by omega), Int.toNat_of_nonneg b1, z2]
  · refine lv_lookup (tgt := ((pc : Int) + dflt).toNat) hx hb hdg h4 z2 (Int.toNat_of_nonneg a4).symm (hs.2 fun q hq => ?_)
    intro hxe
    simp only [x_tabOf] at hq
    obtain ⟨w, hw, rfl⟩ := List.mem_map.mp hq
    obtain ⟨b1, b2, b3⟩ := h3 w hw
    refine z1 w hw ?_
    rw [hxe]
    show (nI w.1.toNat).toInt = w.1
    rw [nI_toInt (by omega), Int.toNat_of_nonneg b1]
end XR
