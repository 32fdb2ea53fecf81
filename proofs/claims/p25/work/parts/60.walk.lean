/-! ===== the law's methods, walked over states of the class ===== -/
def Zx (d : Nat) (mm : xM) (Q : xQ) (pc : Nat) (L : xL) (st : List Value) (T : xT) : Prop := ∀ g, SG g T → Rx d mm Q pc L st g
/-- what is asked of the object, with its answer -/
def z_c (r : List Value) (x : Int32) : Option (List Value) := bif Nat.ble ((r.map fun v => v.category).sum) 8 then some (.int x :: r) else none
def z_q (T : xT) (t np : Nat) (st : List Value) : Option (List Value) := match st with
  | .int w :: .ref 1 :: r => bif Nat.beq np 1 then (bif Nat.beq t i_Bc_count then z_c r (qCount T (iN w)) else bif Nat.beq t i_Bc_safeIn then z_c r (qSafe (tV T) w) else none) else none
  | .int w :: .int p :: .ref 1 :: r => bif Nat.beq np 2 then (bif Nat.beq t i_Bc_playerOf then z_c r (qPlayer (tV T) p w) else bif Nat.beq t i_Bc_chairOf then z_c r (qChair (tV T) p w) else bif Nat.beq t i_Bc_bell then z_c r (qBell (tV T) p w) else bif Nat.beq t i_Bc_hears then z_c r (qHears (tV T) p w) else bif Nat.beq t i_Bc_ifStopped then z_c r (qIf (tV T) p w) else none) else none
  | .ref 1 :: r => bif Nat.beq np 0 then (bif Nat.beq t i_Bc_outs then z_c r (qOuts (tV T)) else none) else none
  | _ => none
/-- run on, over plain instructions and what is asked, to a place -/
def z_go (mm : xM) (T : xT) (stop : Nat) : Nat → Nat → xL → List Value → Nat × xL × List Value
  | 0, pc, L, st => (pc, L, st)
  | n + 1, pc, L, st => bif Nat.beq pc stop then (pc, L, st) else match x_at mm.2.2.2.2 pc with
    | none => (pc, L, st)
    | some (i, len, r1, r2) => match i with
      | .goto _ => z_go mm T stop n r1 L st
      | .invokevirtual _ => match z_q T r1 r2 st with
        | some st' => z_go mm T stop n (pc + len) L st'
        | none => (pc, L, st)
      | i => match x_s mm none i r1 r2 L st [] (fun _ _ => 0) with
        | some (L', st', _, _) => z_go mm T stop n (pc + len) L' st'
        | none => (pc, L, st)
set_option maxHeartbeats 4000000 in
theorem x_s_any {mm : xM} {S' : xW} {g0 g' : xG} {L L' : xL} {st st' : List Value} {i : Jvm.ClassFile.Instr} {r1 r2 : Nat} (hs : x_s mm none i r1 r2 L st [] g0 = some (L', st', S', g')) (S : xW) (g : xG) : x_s mm none i r1 r2 L st S g = some (L', st', S, g) := by
  cases i
  case putfield n =>
    dsimp only [x_s] at hs
    split at hs
    · split at hs
      · rename_i hq; cases hq
      · cases hs
    · split at hs
      · rename_i hq; cases hq
      · cases hs
    · cases hs
  case getfield n =>
    dsimp only [x_s] at hs
    split at hs
    · split at hs
      · rename_i hq; cases hq
      · cases hs
    · cases hs
  all_goals first
    | exact absurd hs (by intro z; cases z)
    | (dsimp only [x_s] at hs ⊢; split at hs <;> first | (cases hs; rfl) | cases hs | (split at hs <;> first | (cases hs; rfl) | cases hs | (dsimp only [cond] at hs ⊢; split at hs <;> first | (cases hs; rfl) | cases hs)))
theorem z_c_ok {r st' : List Value} {x : Int32} (h : z_c r x = some st') : Nat.ble ((r.map fun v => v.category).sum) 8 = true ∧ st' = .int x :: r := by
  unfold z_c at h
  cases hb : Nat.ble ((r.map fun v => v.category).sum) 8 with
  | false => rw [hb] at h; cases h
  | true => rw [hb] at h; cases h; exact ⟨rfl, rfl⟩
theorem bif_some {α : Type} {b : Bool} {x y : Option α} {z : α} (h : (bif b then x else y) = some z) : (b = true ∧ x = some z) ∨ (b = false ∧ y = some z) := by
  cases b
  · exact Or.inr ⟨rfl, h⟩
  · exact Or.inl ⟨rfl, h⟩
set_option maxHeartbeats 4000000 in
theorem z_q_ok {d : Nat} {mm : xM} {Q : xQ} {T : xT} {pc len t np i : Nat} {L : xL} {st st' : List Value} (hk : tOk T) (h : x_at mm.2.2.2.2 pc = some (.invokevirtual i, len, t, np)) (hq : z_q T t np st = some st') (k : Zx (d + 4) mm Q (pc + len) L st' T) : Zx (d + 4) mm Q pc L st T := by
  intro g hg
  unfold z_q at hq
  split at hq
  · rename_i w r
    rcases bif_some hq with ⟨h1, q0⟩ | ⟨-, q0⟩
    · clear hq
      obtain rfl := Nat.eq_of_beq_eq_true h1
      rcases bif_some q0 with ⟨h2, q1⟩ | ⟨-, q1⟩
      · clear q0
        obtain rfl := Nat.eq_of_beq_eq_true h2
        obtain ⟨h3, rfl⟩ := z_c_ok q1
        exact r_inv h rfl h3 (s_count (d + 1) T w g _ hg hk (k g hg))
      · clear q0
        rcases bif_some q1 with ⟨h2, q2⟩ | ⟨-, q2⟩
        · clear q1
          obtain rfl := Nat.eq_of_beq_eq_true h2
          obtain ⟨h3, rfl⟩ := z_c_ok q2
          exact r_inv h rfl h3 (s_safeIn d T w g _ hg hk (fun g' hg' _ => k g' hg'))
        · cases q2
    · cases q0
  · rename_i w p r
    rcases bif_some hq with ⟨h1, q0⟩ | ⟨-, q0⟩
    · clear hq
      obtain rfl := Nat.eq_of_beq_eq_true h1
      rcases bif_some q0 with ⟨h2, q1⟩ | ⟨-, q1⟩
      · clear q0
        obtain rfl := Nat.eq_of_beq_eq_true h2
        obtain ⟨h3, rfl⟩ := z_c_ok q1
        exact r_inv h rfl h3 (s_playerOf (d + 2) T p w g _ hg hk (k g hg))
      · clear q0
        rcases bif_some q1 with ⟨h2, q2⟩ | ⟨-, q2⟩
        · clear q1
          obtain rfl := Nat.eq_of_beq_eq_true h2
          obtain ⟨h3, rfl⟩ := z_c_ok q2
          exact r_inv h rfl h3 (s_chairOf (d + 2) T p w g _ hg hk (k g hg))
        · clear q1
          rcases bif_some q2 with ⟨h2, q3⟩ | ⟨-, q3⟩
          · clear q2
            obtain rfl := Nat.eq_of_beq_eq_true h2
            obtain ⟨h3, rfl⟩ := z_c_ok q3
            exact r_inv h rfl h3 (s_bell (d + 2) T p w g _ hg (k g hg))
          · clear q2
            rcases bif_some q3 with ⟨h2, q4⟩ | ⟨-, q4⟩
            · clear q3
              obtain rfl := Nat.eq_of_beq_eq_true h2
              obtain ⟨h3, rfl⟩ := z_c_ok q4
              exact r_inv h rfl h3 (s_hears (d + 2) T p w g _ hg hk (k g hg))
            · clear q3
              rcases bif_some q4 with ⟨h2, q5⟩ | ⟨-, q5⟩
              · clear q4
                obtain rfl := Nat.eq_of_beq_eq_true h2
                obtain ⟨h3, rfl⟩ := z_c_ok q5
                exact r_inv h rfl h3 (s_ifStopped d T p w g _ hg hk (fun g' hg' _ => k g' hg'))
              · cases q5
    · cases q0
  · rename_i r
    rcases bif_some hq with ⟨h1, q0⟩ | ⟨-, q0⟩
    · clear hq
      obtain rfl := Nat.eq_of_beq_eq_true h1
      rcases bif_some q0 with ⟨h2, q1⟩ | ⟨-, q1⟩
      · clear q0
        obtain rfl := Nat.eq_of_beq_eq_true h2
        obtain ⟨h3, rfl⟩ := z_c_ok q1
        exact r_inv h rfl h3 (s_outs d T g _ hg hk (fun g' hg' _ => k g' hg'))
      · cases q1
    · cases q0
  · cases hq
theorem z_plain {d : Nat} {mm : xM} {Q : xQ} {T : xT} {pc len r1 r2 : Nat} {i : Jvm.ClassFile.Instr} {L L' : xL} {st st' : List Value} {S' : xW} {g' g0 : xG} (h : x_at mm.2.2.2.2 pc = some (i, len, r1, r2)) (hs : x_s mm none i r1 r2 L st [] g0 = some (L', st', S', g')) (k : Zx d mm Q (pc + len) L' st' T) : Zx d mm Q pc L st T := by
  intro g hg
  have hs := x_s_any hs SK g
  refine Rn.in ?_
  unfold x_F
  rw [h]
  cases i
  all_goals first
    | exact absurd hs (by intro z; cases z)
    | (dsimp only; rw [hs]; exact k g hg)
theorem z_gor {d : Nat} {mm : xM} {Q : xQ} {T : xT} (hk : tOk T) (stop : Nat) : ∀ (n pc : Nat) (L : xL) (st : List Value), Zx (d + 4) mm Q (z_go mm T stop n pc L st).1 (z_go mm T stop n pc L st).2.1 (z_go mm T stop n pc L st).2.2 T → Zx (d + 4) mm Q pc L st T
  | 0, pc, L, st, k => k
  | n + 1, pc, L, st, k => by
    unfold z_go at k
    cases hb : Nat.beq pc stop
    · rw [hb] at k
      dsimp only [cond] at k
      cases ha : x_at mm.2.2.2.2 pc with
      | none => rw [ha] at k; exact k
      | some e =>
        obtain ⟨i, len, r1, r2⟩ := e
        rw [ha] at k
        dsimp only at k
        cases hs : x_s mm none i r1 r2 L st [] (fun _ _ => 0) with
        | none =>
          cases i
          case goto off =>
            intro g hg
            refine Rn.in ?_
            unfold x_F
            rw [ha]
            exact z_gor hk stop n r1 L st k g hg
          case invokevirtual j =>
            dsimp only at k
            cases hq : z_q T r1 r2 st with
            | none => rw [hq] at k; exact k
            | some st' =>
              rw [hq] at k
              exact z_q_ok hk ha hq (z_gor hk stop n (pc + len) L st' k)
          all_goals
            dsimp only at k
            rw [hs] at k
            exact k
        | some q =>
          obtain ⟨L', st', S', g'⟩ := q
          cases i
          case goto off => cases hs
          case invokevirtual j => cases hs
          all_goals
            dsimp only at k
            rw [hs] at k
            exact z_plain ha hs (z_gor hk stop n (pc + len) L' st' k)
    · rw [hb] at k
      exact k
section ZR
variable {d : Nat} {mm : xM} {Q : xQ} {T : xT} {pc : Nat} {L : xL} {r : List Value} {len r1 r2 : Nat} {x y : Int32} {off : Int}
theorem z_run {L' : xL} {st st' : List Value} {pc' : Nat} (n : Nat) (hk : tOk T) (h : z_go mm T 100000 n pc L st = (pc', L', st')) (k : Zx (d + 4) mm Q pc' L' st' T) : Zx (d + 4) mm Q pc L st T := by
  refine z_gor hk 100000 n pc L st ?_
  rw [h]
  exact k
theorem z_to {L' : xL} {st st' : List Value} (stop n : Nat) (hk : tOk T) (h : z_go mm T stop n pc L st = (stop, L', st')) (k : Zx (d + 4) mm Q stop L' st' T) : Zx (d + 4) mm Q pc L st T := by
  refine z_gor hk stop n pc L st ?_
  rw [h]
  exact k
theorem z_ic {c : Jvm.ClassFile.Cond} (h : x_at mm.2.2.2.2 pc = some (.if_icmp c off, len, r1, r2)) (kt : x_c c x y → Zx d mm Q r1 L r T) (kf : ¬ x_c c x y → Zx d mm Q (pc + len) L r T) : Zx d mm Q pc L (.int y :: .int x :: r) T := fun g hg => r_ic h (fun z => kt z g hg) (fun z => kf z g hg)
theorem z_if {c : Jvm.ClassFile.Cond} (h : x_at mm.2.2.2.2 pc = some (.ifCond c off, len, r1, r2)) (kt : x_c c x 0 → Zx d mm Q r1 L r T) (kf : ¬ x_c c x 0 → Zx d mm Q (pc + len) L r T) : Zx d mm Q pc L (.int x :: r) T := fun g hg => r_if h (fun z => kt z g hg) (fun z => kf z g hg)
theorem z_icT {c : Jvm.ClassFile.Cond} (h : x_at mm.2.2.2.2 pc = some (.if_icmp c off, len, r1, r2)) (hc : x_c c x y) (k : Zx d mm Q r1 L r T) : Zx d mm Q pc L (.int y :: .int x :: r) T := z_ic h (fun _ => k) (fun z => absurd hc z)
theorem z_icF {c : Jvm.ClassFile.Cond} (h : x_at mm.2.2.2.2 pc = some (.if_icmp c off, len, r1, r2)) (hc : ¬ x_c c x y) (k : Zx d mm Q (pc + len) L r T) : Zx d mm Q pc L (.int y :: .int x :: r) T := z_ic h (fun z => absurd z hc) (fun _ => k)
theorem z_ifT {c : Jvm.ClassFile.Cond} (h : x_at mm.2.2.2.2 pc = some (.ifCond c off, len, r1, r2)) (hc : x_c c x 0) (k : Zx d mm Q r1 L r T) : Zx d mm Q pc L (.int x :: r) T := z_if h (fun _ => k) (fun z => absurd hc z)
theorem z_ifF {c : Jvm.ClassFile.Cond} (h : x_at mm.2.2.2.2 pc = some (.ifCond c off, len, r1, r2)) (hc : ¬ x_c c x 0) (k : Zx d mm Q (pc + len) L r T) : Zx d mm Q pc L (.int x :: r) T := z_if h (fun z => absurd z hc) (fun _ => k)
theorem z_rem (h : x_at mm.2.2.2.2 pc = some (.irem, len, r1, r2)) (hy : ¬ y = 0) (k : Zx d mm Q (pc + len) L (.int (x - x / y * y) :: r) T) : Zx d mm Q pc L (.int y :: .int x :: r) T := fun g hg => r_rem h hy (k g hg)
theorem z_remN {a b : Nat} (h : x_at mm.2.2.2.2 pc = some (.irem, len, r1, r2)) (hb : 0 < b) (ha : a < 2 ^ 31) (hb2 : b < 2 ^ 31) (k : Zx d mm Q (pc + len) L (.int (nI (a % b)) :: r) T) : Zx d mm Q pc L (.int (nI b) :: .int (nI a) :: r) T := fun g hg => n_rem h hb ha hb2 (k g hg)
theorem z_div (h : x_at mm.2.2.2.2 pc = some (.idiv, len, r1, r2)) (hy : ¬ y = 0) (k : Zx d mm Q (pc + len) L (.int (x / y) :: r) T) : Zx d mm Q pc L (.int y :: .int x :: r) T := fun g hg => r_div h hy (k g hg)
theorem z_iret (h : x_at mm.2.2.2.2 pc = some (.ireturn, len, r1, r2)) (hr : mm.2.2.1 = some .int) (hq : ∀ g, SG g T → Q (some (.int x)) g) : Zx d mm Q pc L [.int x] T := fun g hg => r_iret h hr (hq g hg)
theorem z_zret (h : x_at mm.2.2.2.2 pc = some (.ireturn, len, r1, r2)) (hr : mm.2.2.1 = some .boolean) (h01 : x_01 x = true) (hq : ∀ g, SG g T → Q (some (.int x)) g) : Zx d mm Q pc L [.int x] T := fun g hg => r_zret h hr h01 (hq g hg)
theorem z_lret {y : Int64} (h : x_at mm.2.2.2.2 pc = some (.lreturn, len, r1, r2)) (hr : mm.2.2.1 = some .long) (hq : ∀ g, SG g T → Q (some (.long y)) g) : Zx d mm Q pc L [.long y] T := fun g hg => r_lret h hr (hq g hg)
theorem z_inv {i t np : Nat} {st As : List Value} (h : x_at mm.2.2.2.2 pc = some (.invokevirtual i, len, t, np)) (hs : x_spl (np + 1) [] st = some (As, r)) (hc : Nat.ble ((r.map fun v => v.category).sum) 8 = true) (c : ∀ g, SG g T → Cx d t As g (fun v g1 => Rx d mm Q (pc + len) L (v.toList ++ r) g1)) : Zx d mm Q pc L st T := fun g hg => r_inv h hs hc (c g hg)
theorem z_ins {i t np : Nat} {st As : List Value} (h : x_at mm.2.2.2.2 pc = some (.invokestatic i, len, t, np)) (h1 : Nat.beq t 1001 = false) (hs : x_spl np [] st = some (As, r)) (hc : Nat.ble ((r.map fun v => v.category).sum) 8 = true) (c : ∀ g, SG g T → Cx d t As g (fun v g1 => Rx d mm Q (pc + len) L (v.toList ++ r) g1)) : Zx d mm Q pc L st T := fun g hg => r_ins h h1 hs hc (c g hg)
theorem z_cl {t np : Nat} {As : List Value} {y : MethodName} {b : ByteArray} {L0 : xL} (h : mtA[t]? = some (mm, y, b, 1, np)) (h1 : Nat.ble As.length mm.2.2.2.1 = true) (h2 : As.all (fun v => Nat.beq v.category 1) = true) (h3 : As.map some ++ List.replicate (mm.2.2.2.1 - As.length) none = L0) (k : Zx d mm Q 0 L0 [] T) : ∀ g, SG g T → Cx (d + 1) t As g Q := fun g hg => r_cl h (Or.inl rfl) h1 h2 h3 (k g hg)
end ZR
/-! what the numbers are -/
theorem t_nI {k : Nat} (h : k < 2147483648) : (nI k).toInt = (k : Int) := nI_toInt (by omega)
theorem t_iN {x : Int32} {m : Nat} (h : iN x ≤ m) (hm : m < 2147483648) : x.toInt = (iN x : Int) := by
  conv => lhs; rw [← nI_iN x]
  exact t_nI (by omega)
theorem t_m1 : (-1 : Int32).toInt = -1 := rfl
theorem t_0 : (0 : Int32).toInt = 0 := rfl
theorem t_bad : (-1000001 : Int32).toInt = -1000001 := rfl
theorem t_not : (-1000002 : Int32).toInt = -1000002 := rfl
theorem t_lim : (-1000003 : Int32).toInt = -1000003 := rfl
theorem t_none : (-1000004 : Int32).toInt = -1000004 := rfl
