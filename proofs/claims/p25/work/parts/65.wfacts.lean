/-! ===== what would be, as the law wants it ===== -/
theorem nI_lsb (a i : Nat) : (nI a).toBitVec.getLsbD i = (decide (i < 32) && a.testBit i) := BitVec.getLsbD_ofNat 32 a i
theorem andnot {a b c : Nat} (h : ∀ i, c.testBit i = (a.testBit i && !b.testBit i)) : nI a &&& (nI b ^^^ (-1)) = nI c := by
  apply Int32.toBitVec_inj.mp
  apply BitVec.eq_of_getLsbD_eq
  intro i hi
  have h1 : (-1 : Int32).toBitVec = BitVec.allOnes 32 := by decide
  rw [Int32.toBitVec_and, BitVec.getLsbD_and, Int32.toBitVec_xor, BitVec.getLsbD_xor, nI_lsb, nI_lsb, nI_lsb, h1, BitVec.getLsbD_allOnes, h i]
  simp [hi]
theorem enc_andnot {f g k : Nat → Bool} {n : Nat} (h : ∀ i, i < n → k i = (f i && !g i)) : nI (x_enc f n) &&& (nI (x_enc g n) ^^^ (-1)) = nI (x_enc k n) := by
  refine andnot (fun i => ?_)
  rw [(x_enc_ok f n).2, (x_enc_ok g n).2, (x_enc_ok k n).2]
  by_cases hi : i < n
  · rw [h i hi]
    simp [hi]
  · simp [hi]
theorem enc_0 {f : Nat → Bool} {n : Nat} (h : ∀ i, i < n → f i = false) : x_enc f n = 0 := by
  apply Nat.eq_of_testBit_eq
  intro i
  rw [(x_enc_ok f n).2, Nat.zero_testBit]
  by_cases hi : i < n
  · rw [h i hi]
    simp
  · simp [hi]
section WF
variable {V : xV} {p : Nat}
theorem wf_O (hk : vOk V) (h1 : vph V = 1) {i : Nat} (hi : i < vn V) (h : XO (vX V 0 (vTT V 0)) i = true) : vin V i = true := ((vGE (b := 0) hk h1).1.2.1 i hi h).1
theorem wf_out (hn : vn V ≤ 12) (w : Int32) : qIf V (nI (vn V)) w = -1000001 := by
  unfold qIf
  rw [iN_nI (by omega), if_neg (by omega)]
theorem wf_bad (hp : p < vn V) (hn : vn V ≤ 12) {w : Int32} (hw : ¬ iN w < 3) : qIf V (nI p) w = -1000001 := by
  unfold qIf
  rw [if_neg (by omega)]
theorem wf_not (hp : p < vn V) (hn : vn V ≤ 12) {w : Int32} (hw : iN w < 3) (h : ¬ (vph V = 1 ∧ vin V p = true)) : qIf V (nI p) w = -1000002 := by
  unfold qIf
  rw [iN_nI (by omega), if_pos ⟨hp, hw⟩, if_neg h]
theorem wf_in (hp : p < vn V) (hn : vn V ≤ 12) {w : Nat} (hw : w < 3) (h : vph V = 1 ∧ vin V p = true) : qIf V (nI p) (nI w) = (if w = 0 then (match XS (vX V 0 (vTT V 0)) p with | none => -1000004 | some q => nI q) else if w = 1 then nI (XB (vX V 0 (vTT V 0)) p) else nI (XT (vX V 0 (vTT V 0)) p)) := by
  unfold qIf
  rw [iN_nI (by omega), iN_nI (by omega), if_pos ⟨hp, hw⟩, if_pos h]
  cases XS (vX V 0 (vTT V 0)) p <;> rfl
theorem wf_0O (hk : vOk V) (hp : p < vn V) (h : vph V = 1 ∧ vin V p = true) (ho : XO (vX V 0 (vTT V 0)) p = true) : qIf V (nI p) (nI 0) = -1000004 := by
  rw [wf_in hp hk.1.2.2.2.2.2 (by omega) h, if_pos rfl, ((vGE (b := 0) hk h.1).2.2.2.2.2 p hp h.2).mp ho]
theorem wf_0S (hk : vOk V) (hp : p < vn V) (h : vph V = 1 ∧ vin V p = true) (ho : XO (vX V 0 (vTT V 0)) p = false) : ∃ q, q < vc V ∧ qIf V (nI p) (nI 0) = nI q := by
  have hg := vGE (b := 0) hk h.1
  cases hs : XS (vX V 0 (vTT V 0)) p with
  | none => rw [(hg.2.2.2.2.2 p hp h.2).mpr hs] at ho; cases ho
  | some q => exact ⟨q, (hg.1.2.2.1 p q hp hs).2.1, by rw [wf_in hp hk.1.2.2.2.2.2 (by omega) h, if_pos rfl, hs]⟩
theorem wf_1 (hk : vOk V) (hp : p < vn V) (h : vph V = 1 ∧ vin V p = true) : qIf V (nI p) (nI 1) = nI (XB (vX V 0 (vTT V 0)) p) := by
  rw [wf_in hp hk.1.2.2.2.2.2 (by omega) h]
  rfl
theorem wf_2 (hk : vOk V) (hp : p < vn V) (h : vph V = 1 ∧ vin V p = true) : qIf V (nI p) (nI 2) = nI (XT (vX V 0 (vTT V 0)) p) := by
  rw [wf_in hp hk.1.2.2.2.2.2 (by omega) h]
  rfl
theorem wf_B (hk : vOk V) (hp : p < vn V) (h : vph V = 1 ∧ vin V p = true) : XB (vX V 0 (vTT V 0)) p ≤ vc V ∧ (XO (vX V 0 (vTT V 0)) p = true → 1 ≤ XB (vX V 0 (vTT V 0)) p) := by
  have hg := vGE (b := 0) hk h.1
  refine ⟨Nat.le_trans (hg.1.2.2.2.2.2.2.1 p hp) (x_cnt_le _ _), fun ho => hg.1.2.2.2.2.2.2.2.1 p hp ?_ (Or.inr ho)⟩
  have h2 := (hg.1.2.1 p hp ho).2.2.2
  have h3 := (vIv (V := V) (b := 0) (hk.2.2.1 h.1).1 (vTT V 0)).2.2.2.2.1 p
  omega
theorem wf_T (hk : vOk V) (hp : p < vn V) (h : vph V = 1 ∧ vin V p = true) : XT (vX V 0 (vTT V 0)) p ≤ vc V + 1 ∧ 1 ≤ XT (vX V 0 (vTT V 0)) p ∧ (XO (vX V 0 (vTT V 0)) p = true → 2 ≤ XT (vX V 0 (vTT V 0)) p) := by
  have hg := vGE (b := 0) hk h.1
  have h3 := (vIv (V := V) (b := 0) (hk.2.2.1 h.1).1 (vTT V 0)).2.2.2.2.1 p
  have h4 := vTT_le (b := 0) hk h.1
  refine ⟨by omega, ?_, fun ho => (hg.1.2.1 p hp ho).2.2.2⟩
  cases hs : XS (vX V 0 (vTT V 0)) p with
  | none =>
    have := (hg.1.2.1 p hp ((hg.2.2.2.2.2 p hp h.2).mpr hs)).2.2.2
    omega
  | some q => exact (hg.1.2.2.1 p q hp hs).2.2.2
theorem ws_out (hn : vn V ≤ 12) : qSafe V (nI (vn V)) = -1000001 := by
  unfold qSafe
  rw [iN_nI (by omega), if_neg (by omega)]
theorem ws_not (hp : p < vn V) (hn : vn V ≤ 12) (h : ¬ (vph V = 1 ∧ vin V p = true)) : qSafe V (nI p) = -1000002 := by
  unfold qSafe
  rw [iN_nI (by omega), if_pos hp, if_neg h]
theorem ws_in (hk : vOk V) (hp : p < vn V) (h : vph V = 1 ∧ vin V p = true) : (qSafe V (nI p) = -1000004 ∧ XO (vX V 0 (vTT V 0)) p = true) ∨ ∃ s, s ≤ 24 ∧ qSafe V (nI p) = nI s ∧ (s = 0 ↔ XO (vX V 0 (vTT V 0)) p = false) := by
  have hn : vn V ≤ 12 := hk.1.2.2.2.2.2
  have hd := (vGE (b := 0) hk h.1).2.2.2.2.2 p hp h.2
  have e : qSafe V (nI p) = (if vSafe V p < 25 then nI (vSafe V p) else -1000004) := by
    unfold qSafe
    rw [iN_nI (by omega), if_pos hp, if_pos h]
  have hs : vSafe V p = (if (XS (vX V 0 (vTT V 0)) p).isSome = true then 0 else x_lf (fun b => (XS (vX V b (vTT V b)) p).isSome) 24 1) := rfl
  cases hx : XS (vX V 0 (vTT V 0)) p with
  | some q =>
    rw [hx, if_pos (show (some q).isSome = true from rfl)] at hs
    refine Or.inr ⟨0, by omega, by rw [e, hs]; rfl, fun _ => ?_, fun _ => rfl⟩
    cases ho : XO (vX V 0 (vTT V 0)) p with
    | false => rfl
    | true => rw [hd.mp ho] at hx; cases hx
  | none =>
    have ho := hd.mpr hx
    rw [hx, if_neg (by decide)] at hs
    have hge : 1 ≤ vSafe V p := by
      rw [hs]
      have hlf : ∀ (f : Nat → Bool) (k i : Nat), i ≤ x_lf f k i := fun f k => by
        induction k with
        | zero => intro i; exact Nat.le_refl _
        | succ k ih =>
          intro i
          unfold x_lf
          split
          · exact Nat.le_refl _
          · have := ih (i + 1)
            omega
      exact hlf _ 24 1
    by_cases hlt : vSafe V p < 25
    · refine Or.inr ⟨vSafe V p, by omega, by rw [e, if_pos hlt], fun z => by omega, fun z => by rw [ho] at z; cases z⟩
    · exact Or.inl ⟨by rw [e, if_neg hlt], ho⟩
theorem wo_1 (h : vph V = 1) : qOuts V = nI (x_enc (XO (vX V 0 (vTT V 0))) (vn V)) := if_pos h
theorem wo_0 (h : ¬ vph V = 1) : qOuts V = -1000002 := if_neg h
theorem wh_out {p j : Nat} (hn : vn V ≤ 12) (hc : vc V ≤ 16) (hp : p ≤ vn V) (hj : j ≤ vc V) (h : p = vn V ∨ j = vc V) : qHears V (nI p) (nI j) = -1000001 := by
  unfold qHears
  rw [iN_nI (by omega), iN_nI (by omega), if_neg (by omega)]
theorem wh_in {p j : Nat} (hk : vOk V) (hp : p < vn V) (hj : j < vc V) : qHears V (nI p) (nI j) = (nI (vea V p) >>> (nI (vtn V j) &&& 31)) &&& nI 1 := by
  obtain ⟨⟨o1, o2, o3, o4, o5, o6⟩, o7, o8, o9, o10, o11, o12⟩ := hk
  have := o9 j hj
  have := (o11 p hp).2.1
  rw [x_sh _ rfl (by omega) (by omega), x_tb_div]
  unfold qHears
  rw [iN_nI (by omega), iN_nI (by omega), if_pos ⟨hp, hj⟩]
  unfold vhr
  split <;> rfl
end WF
