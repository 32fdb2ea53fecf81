/-! ===== constructors: the picture run by an evaluator ===== -/
def y_c (c : Jvm.ClassFile.Cond) (x y : Int32) : Bool := match c with
  | .eq => decide (x = y)
  | .ne => decide (¬ x = y)
  | .lt => decide (x < y)
  | .ge => decide (y ≤ x)
  | .gt => decide (y < x)
  | .le => decide (x ≤ y)
theorem y_c_iff {c : Jvm.ClassFile.Cond} {x y : Int32} : y_c c x y = true ↔ x_c c x y := by
  cases c <;> exact decide_eq_true_iff
/-- the callee takes what it gets -/
def y_chk (e : xM × MethodName × ByteArray × Nat × Nat) (As : List Value) (S : xW) : Bool := (match As with
  | .ref (q + 1) :: _ => (match S[q]? with
    | some (.inr (.inl o)) => Nat.beq o.1 e.1.1
    | _ => false)
  | _ => false) && (Nat.ble As.length e.1.2.2.2.1 && As.all (fun v => Nat.beq v.category 1))
theorem y_chk_ok {e : xM × MethodName × ByteArray × Nat × Nat} {As : List Value} {S : xW} (h : y_chk e As S = true) : (∃ q fs Bs, As = .ref (q + 1) :: Bs ∧ S[q]? = some (.inr (.inl (e.1.1, fs)))) ∧ As.length ≤ e.1.2.2.2.1 ∧ ∀ v ∈ As, v.category = 1 := by
  unfold y_chk at h
  rw [Bool.and_eq_true, Bool.and_eq_true] at h
  obtain ⟨h1, h2, h3⟩ := h
  refine ⟨?_, Nat.le_of_ble_eq_true h2, fun v hv => Nat.eq_of_beq_eq_true (List.all_eq_true.mp h3 v hv)⟩
  split at h1
  · rename_i q Bs
    split at h1
    · rename_i o ho
      obtain ⟨ci, fs⟩ := o
      have := Nat.eq_of_beq_eq_true h1
      dsimp only at this
      subst this
      exact ⟨q, fs, Bs, rfl, ho⟩
    · cases h1
  · cases h1
/-- what comes behind a method's making run: the cells, the store -/
def y_ev : Nat → Nat → xM → Nat → xL → List Value → xW → xG → Option (xW × xG)
  | 0, _, _, _, _, _, _, _ => none
  | n + 1, d, mm, pc, L, st, S, g =>
    match x_at mm.2.2.2.2 pc with
    | none => none
    | some (i, len, r1, r2) =>
      match i with
      | .return_ => match st with
        | [] => match mm.2.2.1 with
          | none => some (S, g)
          | some _ => none
        | _ => none
      | .goto _ => y_ev n d mm r1 L st S g
      | .if_icmp c _ => match st with
        | .int y :: .int x :: r => bif y_c c x y then y_ev n d mm r1 L r S g else y_ev n d mm (pc + len) L r S g
        | _ => none
      | .new _ => y_ev n d mm (pc + len) L (.ref (S.length + 1) :: st) (S ++ [.inr (.inl (r1, x_new r1))]) (x_z g (S.length + 1))
      | .newarray .int => match st with
        | .int c :: r => bif Nat.blt (iN c) 65536 then y_ev n d mm (pc + len) L (.ref (S.length + 1) :: r) (S ++ [.inl (iN c)]) (x_z g (S.length + 1)) else none
        | _ => none
      | .anewarray _ => match st with
        | .int c :: r => bif Nat.blt (iN c) 65536 && Nat.beq r1 2 then y_ev n d mm (pc + len) L (.ref (S.length + 1) :: r) (S ++ [.inr (.inr (List.replicate (iN c) none))]) g else none
        | _ => none
      | .iastore => match st with
        | .int x :: .int i :: .ref (q + 1) :: r => match S[q]? with
          | some (.inl m) => bif Nat.blt (iN i) m && Nat.blt (iN i) 65536 then y_ev n d mm (pc + len) L r S (x_up g (q + 1) (iN i) x) else none
          | _ => none
        | _ => none
      | .aastore => match st with
        | .ref (v + 1) :: .int i :: .ref (q + 1) :: r => match S[q]? with
          | some (.inr (.inr es)) => match S[v]? with
            | some (.inr (.inl (2, _))) => bif Nat.blt (iN i) es.length && Nat.blt (iN i) 65536 then y_ev n d mm (pc + len) L r (S.set q (.inr (.inr (es.set (iN i) (some (v + 1)))))) g else none
            | _ => none
          | _ => none
        | _ => none
      | .invokespecial _ => bif Nat.beq r1 1000 then (match st with
          | .ref _ :: r => bif Nat.ble ((r.map fun v => v.category).sum) 8 then y_ev n d mm (pc + len) L r S g else none
          | _ => none)
        else (match d with
          | 0 => none
          | d' + 1 => match x_spl (r2 + 1) [] st with
            | none => none
            | some (As, r) => match mtA[r1]? with
              | none => none
              | some e => bif Nat.ble ((r.map fun v => v.category).sum) 8 && y_chk e As S then
                  (match y_ev n d' e.1 0 (As.map some ++ List.replicate (e.1.2.2.2.1 - As.length) none) [] S g with
                  | none => none
                  | some (S1, g1) => y_ev n (d' + 1) mm (pc + len) L r S1 g1) else none)
      | i => match x_s mm none i r1 r2 L st S g with
        | some (L', st', S', g') => y_ev n d mm (pc + len) L' st' S' g'
        | none => none
/-- plain instructions keep the sizes -/
theorem x_s_sz {mm : xM} {Ls : Option (Nat × (Nat → Int32))} {S S' : xW} {g g' : xG} {L L' : xL} {st st' : List Value} {i : Jvm.ClassFile.Instr} {r1 r2 : Nat} (hs : x_s mm Ls i r1 r2 L st S g = some (L', st', S', g')) : S'.length = S.length ∧ x_sz S' = x_sz S := by
  cases i
  case putfield n =>
    dsimp only [x_s] at hs
    split at hs
    · rename_i x q r
      split at hs
      · rename_i ci fs hq
        cases hc : Nat.beq ci r1
        · rw [hc] at hs; cases hs
        · rw [hc] at hs
          dsimp only [cond] at hs
          split at hs
          · cases h01 : (!x_bool r1 r2 || x_01 x)
            · rw [h01] at hs; cases hs
            · rw [h01] at hs; cases hs; exact ⟨rfl, rfl⟩
          · cases hs
      · cases hs
    · split at hs
      · rename_i ci fs hq
        cases hc : (Nat.beq ci r1 && Nat.beq ci mm.1 && mm.2.1)
        · rw [hc] at hs; cases hs
        · rw [hc] at hs
          dsimp only [cond] at hs
          split at hs
          · cases hs
            exact ⟨List.length_set, x_sz_set hq (List.length_set)⟩
          · cases hs
      · cases hs
    · cases hs
  case getfield n =>
    dsimp only [x_s] at hs
    split at hs
    · split at hs
      · rename_i ci fs hq
        cases hc : Nat.beq ci r1
        · rw [hc] at hs; cases hs
        · rw [hc] at hs
          dsimp only [cond] at hs
          split at hs <;> cases hs <;> exact ⟨rfl, rfl⟩
      · cases hs
    · cases hs
  all_goals first
    | exact absurd hs (by intro z; cases z)
    | (dsimp only [x_s] at hs; split at hs <;> first | (cases hs; exact ⟨rfl, rfl⟩) | cases hs | (split at hs <;> first | (cases hs; exact ⟨rfl, rfl⟩) | cases hs | (dsimp only [cond] at hs; split at hs <;> first | (cases hs; exact ⟨rfl, rfl⟩) | cases hs)))
theorem y_blt {a b : Nat} (h : Nat.blt a b = true) : a < b := Nat.le_of_ble_eq_true h
/-- the evaluator's end is the picture's; cells only grow -/
theorem y_ok : ∀ (n d : Nat) (mm : xM) (pc : Nat) (L : xL) (st : List Value) (S : xW) (g : xG) (S1 : xW) (g1 : xG), y_ev n d mm pc L st S g = some (S1, g1) → (S.length ≤ S1.length ∧ x_sz S ≤ x_sz S1) ∧ mm.2.2.1 = none ∧ ∀ Q : xQ, Q none g1 → Rn (x_cl d) mm none S1 Q pc L st S g := by
  intro n
  induction n with
  | zero => intro d mm pc L st S g S1 g1 h; cases h
  | succ n IH =>
    intro d mm pc L st S g S1 g1 h
    unfold y_ev at h
    cases ha : x_at mm.2.2.2.2 pc with
    | none => rw [ha] at h; cases h
    | some e =>
      obtain ⟨i, len, r1, r2⟩ := e
      rw [ha] at h
      dsimp only at h
      cases hs : x_s mm none i r1 r2 L st S g with
      | some q =>
        obtain ⟨L', st', S', g'⟩ := q
        have hz := x_s_sz hs
        cases i
        case return_ => cases hs
        case goto o => cases hs
        case if_icmp c o => cases hs
        case new k => cases hs
        case newarray t => cases t <;> cases hs
        case anewarray k => cases hs
        case iastore => cases hs
        case aastore => cases hs
        case invokespecial k => cases hs
        case lreturn => cases hs
        case idiv => cases hs
        case lcmp => cases hs
        all_goals
          dsimp only at h
          rw [hs] at h
          dsimp only at h
          obtain ⟨k1, k2, k3⟩ := IH _ _ _ _ _ _ _ _ _ h
          refine ⟨⟨by have := k1.1; have := hz.1; omega, by have := k1.2; have := hz.2; omega⟩, k2, fun Q hQ => ?_⟩
          refine Rn.in ?_
          unfold x_F
          rw [ha]
          dsimp only
          first
            | (rw [hs]; exact k3 Q hQ)
            | exact absurd hs (by intro z; cases z)
      | none =>
        cases i
        case return_ =>
          dsimp only at h
          split at h
          · split at h
            · rename_i hr
              cases h
              refine ⟨⟨Nat.le_refl _, Nat.le_refl _⟩, hr, fun Q hQ => ?_⟩
              refine Rn.in ?_
              unfold x_F
              rw [ha]
              exact ⟨rfl, hr, rfl, hQ⟩
            · cases h
          · cases h
        case goto o =>
          dsimp only at h
          obtain ⟨k1, k2, k3⟩ := IH _ _ _ _ _ _ _ _ _ h
          refine ⟨k1, k2, fun Q hQ => ?_⟩
          refine Rn.in ?_
          unfold x_F
          rw [ha]
          exact k3 Q hQ
        case if_icmp c o =>
          dsimp only at h
          split at h
          · rename_i y x r
            cases hc : y_c c x y with
            | true =>
              rw [hc] at h
              obtain ⟨k1, k2, k3⟩ := IH _ _ _ _ _ _ _ _ _ h
              refine ⟨k1, k2, fun Q hQ => ?_⟩
              refine Rn.in ?_
              unfold x_F
              rw [ha]
              exact ⟨fun _ => k3 Q hQ, fun z => absurd (y_c_iff.mp hc) z⟩
            | false =>
              rw [hc] at h
              obtain ⟨k1, k2, k3⟩ := IH _ _ _ _ _ _ _ _ _ h
              refine ⟨k1, k2, fun Q hQ => ?_⟩
              refine Rn.in ?_
              unfold x_F
              rw [ha]
              exact ⟨fun z => (by rw [y_c_iff.mpr z] at hc; cases hc), fun _ => k3 Q hQ⟩
          · cases h
        case new k =>
          dsimp only at h
          obtain ⟨k1, k2, k3⟩ := IH _ _ _ _ _ _ _ _ _ h
          rw [List.length_append, x_sz_app] at k1
          obtain ⟨k1a, k1b⟩ := k1
          have ec : x_cs (.inr (.inl (r1, x_new r1)) : xS) = (x_new r1).length := rfl
          rw [ec] at k1b
          have e1 : ([.inr (.inl (r1, x_new r1))] : xW).length = 1 := rfl
          rw [e1] at k1a
          refine ⟨⟨by omega, by omega⟩, k2, fun Q hQ => ?_⟩
          refine Rn.in ?_
          unfold x_F
          rw [ha]
          exact ⟨⟨k1a, k1b⟩, k3 Q hQ⟩
        case newarray t =>
          cases t
          case int =>
            dsimp only at h
            split at h
            · rename_i c r
              cases hb : Nat.blt (iN c) 65536 with
              | false => rw [hb] at h; cases h
              | true =>
                rw [hb] at h
                dsimp only [cond] at h
                obtain ⟨k1, k2, k3⟩ := IH _ _ _ _ _ _ _ _ _ h
                rw [List.length_append, x_sz_app] at k1
                obtain ⟨k1a, k1b⟩ := k1
                have ec : x_cs (.inl (iN c) : xS) = iN c := rfl
                rw [ec] at k1b
                have e1 : ([.inl (iN c)] : xW).length = 1 := rfl
                rw [e1] at k1a
                refine ⟨⟨by omega, by omega⟩, k2, fun Q hQ => ?_⟩
                refine Rn.in ?_
                unfold x_F
                rw [ha]
                exact ⟨iN c, (nI_iN c).symm, y_blt hb, ⟨k1a, k1b⟩, k3 Q hQ⟩
            · cases h
          all_goals
            dsimp only at h
            rw [hs] at h
            cases h
        case anewarray k =>
          dsimp only at h
          split at h
          · rename_i c r
            cases hb : (Nat.blt (iN c) 65536 && Nat.beq r1 2) with
            | false => rw [hb] at h; cases h
            | true =>
              rw [hb] at h
              dsimp only [cond] at h
              rw [Bool.and_eq_true] at hb
              have hr := Nat.eq_of_beq_eq_true hb.2
              obtain ⟨k1, k2, k3⟩ := IH _ _ _ _ _ _ _ _ _ h
              rw [List.length_append, x_sz_app] at k1
              obtain ⟨k1a, k1b⟩ := k1
              have ec : x_cs (.inr (.inr (List.replicate (iN c) none)) : xS) = iN c := List.length_replicate
              rw [ec] at k1b
              have e1 : ([.inr (.inr (List.replicate (iN c) none))] : xW).length = 1 := rfl
              rw [e1] at k1a
              refine ⟨⟨by omega, by omega⟩, k2, fun Q hQ => ?_⟩
              refine Rn.in ?_
              unfold x_F
              rw [ha]
              exact ⟨iN c, (nI_iN c).symm, y_blt hb.1, hr, ⟨k1a, k1b⟩, k3 Q hQ⟩
          · cases h
        case iastore =>
          dsimp only at h
          split at h
          · rename_i x j q r
            split at h
            · rename_i m hq
              cases hb : (Nat.blt (iN j) m && Nat.blt (iN j) 65536) with
              | false => rw [hb] at h; cases h
              | true =>
                rw [hb] at h
                dsimp only [cond] at h
                rw [Bool.and_eq_true] at hb
                obtain ⟨k1, k2, k3⟩ := IH _ _ _ _ _ _ _ _ _ h
                refine ⟨k1, k2, fun Q hQ => ?_⟩
                refine Rn.in ?_
                unfold x_F
                rw [ha]
                dsimp only
                rw [hq]
                exact ⟨iN j, (nI_iN j).symm, y_blt hb.1, y_blt hb.2, k3 Q hQ⟩
            · cases h
          · cases h
        case aastore =>
          dsimp only at h
          split at h
          · rename_i v j q r
            split at h
            · rename_i es hq
              split at h
              · rename_i fs hv
                cases hb : (Nat.blt (iN j) es.length && Nat.blt (iN j) 65536) with
                | false => rw [hb] at h; cases h
                | true =>
                  rw [hb] at h
                  dsimp only [cond] at h
                  rw [Bool.and_eq_true] at hb
                  obtain ⟨k1, k2, k3⟩ := IH _ _ _ _ _ _ _ _ _ h
                  rw [List.length_set, x_sz_set hq (by show (es.set (iN j) _).length = es.length; exact List.length_set)] at k1
                  refine ⟨k1, k2, fun Q hQ => ?_⟩
                  refine Rn.in ?_
                  unfold x_F
                  rw [ha]
                  dsimp only
                  rw [hq]
                  exact ⟨iN j, fs, (nI_iN j).symm, y_blt hb.1, y_blt hb.2, hv, k3 Q hQ⟩
              · cases h
            · cases h
          · cases h
        case invokespecial k =>
          dsimp only at h
          cases h0 : Nat.beq r1 1000 with
          | true =>
            rw [h0] at h
            dsimp only [cond] at h
            split at h
            · rename_i a r
              cases hb : Nat.ble ((r.map fun v => v.category).sum) 8 with
              | false => rw [hb] at h; cases h
              | true =>
                rw [hb] at h
                dsimp only [cond] at h
                obtain ⟨k1, k2, k3⟩ := IH _ _ _ _ _ _ _ _ _ h
                refine ⟨k1, k2, fun Q hQ => ?_⟩
                refine Rn.in ?_
                unfold x_F
                rw [ha]
                dsimp only
                rw [h0]
                exact ⟨Nat.le_of_ble_eq_true hb, k3 Q hQ⟩
            · cases h
          | false =>
            rw [h0] at h
            dsimp only [cond] at h
            cases d with
            | zero => cases h
            | succ d' =>
              dsimp only at h
              cases hsp : x_spl (r2 + 1) [] st with
              | none => rw [hsp] at h; cases h
              | some q =>
                obtain ⟨As, r⟩ := q
                rw [hsp] at h
                dsimp only at h
                cases hm : mtA[r1]? with
                | none => rw [hm] at h; cases h
                | some e =>
                  rw [hm] at h
                  dsimp only at h
                  cases hb : (Nat.ble ((r.map fun v => v.category).sum) 8 && y_chk e As S) with
                  | false => rw [hb] at h; cases h
                  | true =>
                    rw [hb] at h
                    dsimp only [cond] at h
                    rw [Bool.and_eq_true] at hb
                    obtain ⟨c1, c2, c3⟩ := y_chk_ok hb.2
                    split at h
                    · cases h
                    · rename_i S2 g2 h2
                      obtain ⟨a1, a2, a3⟩ := IH _ _ _ _ _ _ _ _ _ h2
                      obtain ⟨k1, k2, k3⟩ := IH _ _ _ _ _ _ _ _ _ h
                      refine ⟨⟨Nat.le_trans a1.1 k1.1, Nat.le_trans a1.2 k1.2⟩, k2, fun Q hQ => ?_⟩
                      refine Rn.in ?_
                      unfold x_F
                      rw [ha]
                      dsimp only
                      rw [h0, hsp]
                      refine ⟨Nat.le_of_ble_eq_true hb.1, none, S2, fun v g' => v = none ∧ g' = g2, Or.inl rfl, ?_, k1, fun v g' hv => ?_⟩
                      · exact ⟨e, hm, Or.inr c1, c2, c3, a1, a3 _ ⟨rfl, rfl⟩⟩
                      · obtain ⟨rfl, rfl⟩ := hv
                        exact k3 Q hQ
        all_goals
          dsimp only at h
          rw [hs] at h
          cases h
