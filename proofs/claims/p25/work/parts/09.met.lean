/-! ===== every method called in the picture has its contract in the machine ===== -/
set_option maxHeartbeats 4000000 in
theorem x_met : ∀ (d : Nat) (Lc : Option (Nat × (Nat → Int32))) (t : Nat) (As : List Value) (S : xW) (g : xG) (Se : xW) (Q : xQ), x_cl d Lc t As S g Se Q → x_Mt Lc d t As S g Se Q := by
  intro d
  induction d with
  | zero => intro Lc t As S g Se Q h; exact h.elim
  | succ d IH =>
    intro Lc t As S g Se Q h l D cI cG b sz e1 he1
    obtain ⟨e0, h1, h2, h3, h4, h5, h6⟩ := h
    rw [he1] at h1
    cases h1
    have hm := x_mok he1
    refine va_MetF (cc := e1.2.2.1) (maxL := e1.1.2.2.2.1) (ret := e1.1.2.2.1) hm.2.2.2.2.1 rfl ?_
    intro p e s m args below meth c s₁ B hml hv
    obtain ⟨rfl, hsz, hP, hnw, hao, hK, hXU⟩ := hv
    have hts := atoms_spec (ws := x_wsm e1) B.pre
    have C : x_C p s m ((As.map (x_v b sz)).toArray) meth c D cI cG e1.2.2.1 e1.1 := by
      refine ⟨B.exec, B.bytes, ?_, ⟨fun w hw => hts w (List.mem_cons_of_mem _ hw), hnw, hao, hK⟩, B.returns, B.notSynchronized, fun z => ?_, hml⟩
      · rw [hm.2.2.1]
        exact findClass_of_methodNamed B.named
      · rw [(name_of_methodNamed B.named B.method).1]
        exact hm.2.2.2.2.2.2.2.1 z
    have hlen : (As.map some ++ List.replicate (e1.1.2.2.2.1 - As.length) none : xL).length = e1.1.2.2.2.1 := by
      rw [List.length_append, List.length_map, List.length_replicate]
      omega
    rw [lg_entry_eq]
    refine x_wp (mm := e1.1) (S0 := S) (Se := Se) (Ls := Lc) (QW := Q) IH C hm.1 ⟨Nat.le_refl _, ?_⟩ hsz ⟨?_, ?_⟩ hXU ?_ ?_ ?_ 0 _ [] S g h6 s.heap [] _ 0 0 hP va_S.rf (x_entry h4 h3) (by omega) (by omega) hlen
    · show 36 * d + 36 ≤ 36 * (d + 1)
      omega
    · show Se.length ≤ S.length + (Se.length - S.length)
      omega
    · show x_sz Se ≤ x_sz S + (x_sz Se - x_sz S)
      omega
    · intro H locs ls pc cells slots g' hq hP' hS' hr hdg hc hs
      obtain rfl : cells = Se.length - S.length := by omega
      obtain rfl : slots = x_sz Se - x_sz S := by omega
      exact W.vret B.exec B.bytes (B.returns.trans hr) (fun t ht _ => ⟨⟨none, g', hq, rfl, by rw [ht]; exact hP'⟩, hS'.F ht⟩) hS'.2.2 hdg B.notSynchronized
    · intro H locs ls pc cells slots g' v ty hq hP' hS' hr hn hdg hc hs
      obtain rfl : cells = Se.length - S.length := by omega
      obtain rfl : slots = x_sz Se - x_sz S := by omega
      exact W.zret B.exec B.bytes (B.returns.trans hr) hn (fun t ht _ => ⟨⟨some (.int v), g', hq, rfl, by rw [ht]; exact hP'⟩, hS'.F ht⟩) hS'.2.2 hdg B.notSynchronized
    · intro H locs ls pc cells slots g' v hq hP' hS' hr hdg hc hs
      obtain rfl : cells = Se.length - S.length := by omega
      obtain rfl : slots = x_sz Se - x_sz S := by omega
      exact W.lret B.exec B.bytes (B.returns.trans hr) (fun t ht _ => ⟨⟨some (.long v), g', hq, rfl, by rw [ht]; exact hP'⟩, hS'.F ht⟩) hS'.2.2 hdg B.notSynchronized
