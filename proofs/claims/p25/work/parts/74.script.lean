/-! ===== the law's own method: walked with the script at hand ===== -/
set_option maxHeartbeats 4000000 in
theorem z_q_cx {T : xT} {t np : Nat} {st st' : List Value} (hk : tOk T) (hq : z_q T t np st = some st') : ∃ (As r : List Value) (x : Int32), x_spl (np + 1) [] st = some (As, r) ∧ Nat.ble ((r.map fun v => v.category).sum) 8 = true ∧ st' = .int x :: r ∧ ∀ (d : Nat) (g : xG) (Q : xQ), SG g T → (∀ g', SG g' T → Q (some (.int x)) g') → Cx (d + 4) t As g Q := by
  unfold z_q at hq
  split at hq
  · rename_i w r
    rcases bif_some hq with ⟨h1, q0⟩ | ⟨-, q0⟩
    · clear hq
      obtain rfl := Nat.eq_of_beq_eq_true h1
      rcases bif_some q0 with ⟨h2, q1⟩ | ⟨-, q1⟩
      · clear q0
        obtain rfl := Nat.eq_of_beq_eq_true h2
        obtain ⟨h3, rfl⟩ := z_c_ok q1
        exact ⟨_, _, _, rfl, h3, rfl, fun d g Q hg k => s_count (d + 1) T w g _ hg hk (k g hg)⟩
      · clear q0
        rcases bif_some q1 with ⟨h2, q2⟩ | ⟨-, q2⟩
        · clear q1
          obtain rfl := Nat.eq_of_beq_eq_true h2
          obtain ⟨h3, rfl⟩ := z_c_ok q2
          exact ⟨_, _, _, rfl, h3, rfl, fun d g Q hg k => s_safeIn d T w g _ hg hk (fun g' hg' _ => k g' hg')⟩
        · cases q2
    · cases q0
  · rename_i w p r
    rcases bif_some hq with ⟨h1, q0⟩ | ⟨-, q0⟩
    · clear hq
      obtain rfl := Nat.eq_of_beq_eq_true h1
      rcases bif_some q0 with ⟨h2, q1⟩ | ⟨-, q1⟩
      · clear q0
        obtain rfl := Nat.eq_of_beq_eq_true h2
        obtain ⟨h3, rfl⟩ := z_c_ok q1
        exact ⟨_, _, _, rfl, h3, rfl, fun d g Q hg k => s_playerOf (d + 2) T p w g _ hg hk (k g hg)⟩
      · clear q0
        rcases bif_some q1 with ⟨h2, q2⟩ | ⟨-, q2⟩
        · clear q1
          obtain rfl := Nat.eq_of_beq_eq_true h2
          obtain ⟨h3, rfl⟩ := z_c_ok q2
          exact ⟨_, _, _, rfl, h3, rfl, fun d g Q hg k => s_chairOf (d + 2) T p w g _ hg hk (k g hg)⟩
        · clear q1
          rcases bif_some q2 with ⟨h2, q3⟩ | ⟨-, q3⟩
          · clear q2
            obtain rfl := Nat.eq_of_beq_eq_true h2
            obtain ⟨h3, rfl⟩ := z_c_ok q3
            exact ⟨_, _, _, rfl, h3, rfl, fun d g Q hg k => s_bell (d + 2) T p w g _ hg (k g hg)⟩
          · clear q2
            rcases bif_some q3 with ⟨h2, q4⟩ | ⟨-, q4⟩
            · clear q3
              obtain rfl := Nat.eq_of_beq_eq_true h2
              obtain ⟨h3, rfl⟩ := z_c_ok q4
              exact ⟨_, _, _, rfl, h3, rfl, fun d g Q hg k => s_hears (d + 2) T p w g _ hg hk (k g hg)⟩
            · clear q3
              rcases bif_some q4 with ⟨h2, q5⟩ | ⟨-, q5⟩
              · clear q4
                obtain rfl := Nat.eq_of_beq_eq_true h2
                obtain ⟨h3, rfl⟩ := z_c_ok q5
                exact ⟨_, _, _, rfl, h3, rfl, fun d g Q hg k => s_ifStopped d T p w g _ hg hk (fun g' hg' _ => k g' hg')⟩
              · cases q5
    · cases q0
  · rename_i r
    rcases bif_some hq with ⟨h1, q0⟩ | ⟨-, q0⟩
    · clear hq
      obtain rfl := Nat.eq_of_beq_eq_true h1
      rcases bif_some q0 with ⟨h2, q1⟩ | ⟨-, q1⟩
      · clear q0
        obtain rfl := Nat.eq_of_beq_eq_true h2
        obtain ⟨h3, rfl⟩ := z_c_ok q1
        exact ⟨_, _, _, rfl, h3, rfl, fun d g Q hg k => s_outs d T g _ hg hk (fun g' hg' _ => k g' hg')⟩
      · cases q1
    · cases q0
  · cases hq
def Lz (d : Nat) (mm : xM) (Ls : Option (Nat × (Nat → Int32))) (Q : xQ) (pc : Nat) (L : xL) (st : List Value) (T : xT) : Prop := ∀ g, SG g T → Rn (x_cl d) mm Ls SK Q pc L st SK g
def y_go (mm : xM) (Ls : Option (Nat × (Nat → Int32))) (T : xT) (stop : Nat) : Nat → Nat → xL → List Value → Nat × xL × List Value
  | 0, pc, L, st => (pc, L, st)
  | n + 1, pc, L, st => bif Nat.beq pc stop then (pc, L, st) else match x_at mm.2.2.2.2 pc with
    | none => (pc, L, st)
    | some (i, len, r1, r2) => match i with
      | .goto _ => y_go mm Ls T stop n r1 L st
      | .invokevirtual _ => match z_q T r1 r2 st with
        | some st' => y_go mm Ls T stop n (pc + len) L st'
        | none => (pc, L, st)
      | i => match x_s mm Ls i r1 r2 L st [] (fun _ _ => 0) with
        | some (L', st', _, _) => y_go mm Ls T stop n (pc + len) L' st'
        | none => (pc, L, st)
set_option maxHeartbeats 4000000 in
theorem x_s_anyL {mm : xM} {Ls : Option (Nat × (Nat → Int32))} {S' : xW} {g0 g' : xG} {L L' : xL} {st st' : List Value} {i : Jvm.ClassFile.Instr} {r1 r2 : Nat} (hs : x_s mm Ls i r1 r2 L st [] g0 = some (L', st', S', g')) (S : xW) (g : xG) : x_s mm Ls i r1 r2 L st S g = some (L', st', S, g) := by
  cases i
  case putfield n =>
    dsimp only [x_s] at hs
    split at hs
    · split at hs
      · rename_i hq; cases hq
      · cases hs
    · split at hs
      · rename_i hq; cases hq
      · cases hs
    · cases hs
  case getfield n =>
    dsimp only [x_s] at hs
    split at hs
    · split at hs
      · rename_i hq; cases hq
      · cases hs
    · cases hs
  all_goals first
    | exact absurd hs (by intro z; cases z)
    | (dsimp only [x_s] at hs ⊢; split at hs <;> first | (cases hs; rfl) | cases hs | (split at hs <;> first | (cases hs; rfl) | cases hs | (dsimp only [cond] at hs ⊢; split at hs <;> first | (cases hs; rfl) | cases hs)))
section LR
variable {d : Nat} {mm : xM} {Ls : Option (Nat × (Nat → Int32))} {Q : xQ} {T : xT} {pc : Nat} {L : xL} {r : List Value} {len r1 r2 : Nat} {x y : Int32} {off : Int}
theorem y_gor (hk : tOk T) (stop : Nat) : ∀ (n pc : Nat) (L : xL) (st : List Value), Lz (d + 4) mm Ls Q (y_go mm Ls T stop n pc L st).1 (y_go mm Ls T stop n pc L st).2.1 (y_go mm Ls T stop n pc L st).2.2 T → Lz (d + 4) mm Ls Q pc L st T
  | 0, pc, L, st, k => k
  | n + 1, pc, L, st, k => by
    unfold y_go at k
    cases hb : Nat.beq pc stop
    · rw [hb] at k
      dsimp only [cond] at k
      cases ha : x_at mm.2.2.2.2 pc with
      | none => rw [ha] at k; exact k
      | some e =>
        obtain ⟨i, len, r1, r2⟩ := e
        rw [ha] at k
        dsimp only at k
        cases hs : x_s mm Ls i r1 r2 L st [] (fun _ _ => 0) with
        | none =>
          cases i
          case goto off =>
            intro g hg
            refine Rn.in ?_
            unfold x_F
            rw [ha]
            exact y_gor hk stop n r1 L st k g hg
          case invokevirtual j =>
            dsimp only at k
            cases hq : z_q T r1 r2 st with
            | none => rw [hq] at k; exact k
            | some st' =>
              rw [hq] at k
              intro g hg
              obtain ⟨As, r, x, c1, c2, rfl, c4⟩ := z_q_cx hk hq
              refine Rn.in ?_
              unfold x_F
              rw [ha]
              dsimp only
              rw [c1]
              exact ⟨Nat.le_of_ble_eq_true c2, none, SK, _, Or.inl rfl, c4 d g (fun v g1 => Rn (x_cl (d + 4)) mm Ls SK Q (pc + len) L (v.toList ++ r) SK g1) hg (fun g' hg' => y_gor hk stop n (pc + len) L _ k g' hg'), ⟨Nat.le_refl _, Nat.le_refl _⟩, fun v g1 k => k⟩
          all_goals
            dsimp only at k
            rw [hs] at k
            exact k
        | some q =>
          obtain ⟨L', st', S', g'⟩ := q
          cases i
          case goto off => cases hs
          case invokevirtual j => cases hs
          all_goals
            dsimp only at k
            rw [hs] at k
            intro g hg
            have hs := x_s_anyL hs SK g
            refine Rn.in ?_
            unfold x_F
            rw [ha]
            first
              | exact absurd hs (by intro z; cases z)
              | (dsimp only; rw [hs]; exact y_gor hk stop n (pc + len) L' st' k g hg)
    · rw [hb] at k
      exact k
theorem y_run {L' : xL} {st st' : List Value} {pc' : Nat} (n : Nat) (hk : tOk T) (h : y_go mm Ls T 100000 n pc L st = (pc', L', st')) (k : Lz (d + 4) mm Ls Q pc' L' st' T) : Lz (d + 4) mm Ls Q pc L st T := by
  refine y_gor hk 100000 n pc L st ?_
  rw [h]
  exact k
theorem y_to {L' : xL} {st st' : List Value} (stop n : Nat) (hk : tOk T) (h : y_go mm Ls T stop n pc L st = (stop, L', st')) (k : Lz (d + 4) mm Ls Q stop L' st' T) : Lz (d + 4) mm Ls Q pc L st T := by
  refine y_gor hk stop n pc L st ?_
  rw [h]
  exact k
theorem y_icT {c : Jvm.ClassFile.Cond} (h : x_at mm.2.2.2.2 pc = some (.if_icmp c off, len, r1, r2)) (hc : x_c c x y) (k : Lz d mm Ls Q r1 L r T) : Lz d mm Ls Q pc L (.int y :: .int x :: r) T := by
  intro g hg
  refine Rn.in ?_
  unfold x_F
  rw [h]
  exact ⟨fun _ => k g hg, fun z => absurd hc z⟩
theorem y_icF {c : Jvm.ClassFile.Cond} (h : x_at mm.2.2.2.2 pc = some (.if_icmp c off, len, r1, r2)) (hc : ¬ x_c c x y) (k : Lz d mm Ls Q (pc + len) L r T) : Lz d mm Ls Q pc L (.int y :: .int x :: r) T := by
  intro g hg
  refine Rn.in ?_
  unfold x_F
  rw [h]
  exact ⟨fun z => absurd z hc, fun _ => k g hg⟩
theorem y_ifT {c : Jvm.ClassFile.Cond} (h : x_at mm.2.2.2.2 pc = some (.ifCond c off, len, r1, r2)) (hc : x_c c x 0) (k : Lz d mm Ls Q r1 L r T) : Lz d mm Ls Q pc L (.int x :: r) T := by
  intro g hg
  refine Rn.in ?_
  unfold x_F
  rw [h]
  exact ⟨fun _ => k g hg, fun z => absurd hc z⟩
theorem y_ifF {c : Jvm.ClassFile.Cond} (h : x_at mm.2.2.2.2 pc = some (.ifCond c off, len, r1, r2)) (hc : ¬ x_c c x 0) (k : Lz d mm Ls Q (pc + len) L r T) : Lz d mm Ls Q pc L (.int x :: r) T := by
  intro g hg
  refine Rn.in ?_
  unfold x_F
  rw [h]
  exact ⟨fun z => absurd z hc, fun _ => k g hg⟩
theorem y_remN {a b : Nat} (h : x_at mm.2.2.2.2 pc = some (.irem, len, r1, r2)) (hb : 0 < b) (ha : a < 2 ^ 31) (hb2 : b < 2 ^ 31) (k : Lz d mm Ls Q (pc + len) L (.int (nI (a % b)) :: r) T) : Lz d mm Ls Q pc L (.int (nI b) :: .int (nI a) :: r) T := by
  intro g hg
  refine Rn.in ?_
  unfold x_F
  rw [h]
  refine ⟨nI_ne0 hb hb2, ?_⟩
  rw [pk_rem ha hb hb2]
  exact k g hg
theorem y_lcmp {x y : Int64} (h : x_at mm.2.2.2.2 pc = some (.lcmp, len, r1, r2)) (k : Lz d mm Ls Q (pc + len) L (.int (lg_cmp x y) :: r) T) : Lz d mm Ls Q pc L (.long y :: .long x :: r) T := by
  intro g hg
  refine Rn.in ?_
  unfold x_F
  rw [h]
  exact k g hg
theorem y_iret (h : x_at mm.2.2.2.2 pc = some (.ireturn, len, r1, r2)) (hr : mm.2.2.1 = some .int) (hq : ∀ g, SG g T → Q (some (.int x)) g) : Lz d mm Ls Q pc L [.int x] T := by
  intro g hg
  refine Rn.in ?_
  unfold x_F
  rw [h]
  exact ⟨⟨_, hr, rfl⟩, rfl, hq g hg⟩
theorem y_zret (h : x_at mm.2.2.2.2 pc = some (.ireturn, len, r1, r2)) (hr : mm.2.2.1 = some .boolean) (h01 : x_01 x = true) (hq : ∀ g, SG g T → Q (some (.int x)) g) : Lz d mm Ls Q pc L [.int x] T := by
  intro g hg
  refine Rn.in ?_
  unfold x_F
  rw [h]
  exact ⟨⟨_, hr, (x_01_ok h01).1⟩, rfl, hq g hg⟩
theorem y_inv {i t np : Nat} {st As : List Value} (h : x_at mm.2.2.2.2 pc = some (.invokevirtual i, len, t, np)) (hs : x_spl (np + 1) [] st = some (As, r)) (hc : Nat.ble ((r.map fun v => v.category).sum) 8 = true) (c : ∀ g, SG g T → Cx d t As g (fun v g1 => Rn (x_cl d) mm Ls SK Q (pc + len) L (v.toList ++ r) SK g1)) : Lz d mm Ls Q pc L st T := by
  intro g hg
  refine Rn.in ?_
  unfold x_F
  rw [h]
  dsimp only
  rw [hs]
  exact ⟨Nat.le_of_ble_eq_true hc, none, SK, _, Or.inl rfl, c g hg, ⟨Nat.le_refl _, Nat.le_refl _⟩, fun v g1 k => k⟩
theorem y_ins {i t np : Nat} {st As : List Value} (h : x_at mm.2.2.2.2 pc = some (.invokestatic i, len, t, np)) (h1 : Nat.beq t 1001 = false) (hs : x_spl np [] st = some (As, r)) (hc : Nat.ble ((r.map fun v => v.category).sum) 8 = true) (c : ∀ g, SG g T → Cx d t As g (fun v g1 => Rn (x_cl d) mm Ls SK Q (pc + len) L (v.toList ++ r) SK g1)) : Lz d mm Ls Q pc L st T := by
  intro g hg
  refine Rn.in ?_
  unfold x_F
  rw [h]
  dsimp only
  rw [h1, hs]
  exact ⟨Nat.le_of_ble_eq_true hc, none, SK, _, Or.inl rfl, c g hg, ⟨Nat.le_refl _, Nat.le_refl _⟩, fun v g1 k => k⟩
end LR
set_option maxHeartbeats 4000000 in
theorem zz_lot (d len : Nat) (a : Nat → Int32) (T : xT) (j : Nat) (Q : xQ) (hk : tOk T) (hl : len ≤ 260) (hj : j < 65536) (k : ∀ v : Int32, ∀ g, SG g T → Q (some (.int v)) g) : ∀ g, SG g T → x_cl (d + 5) (some (len, a)) i_Law_lot [.ref 0, .int (nI j)] SK g SK Q := by
  have body : Lz (d + 4) m_Law_lot (some (len, a)) Q 0 [some (.ref 0), some (.int (nI j))] [] T := by
    refine y_run 40 hk rfl ?_
    by_cases hlt : j < len
    · refine y_icF rfl (by show ¬ nI len ≤ nI j; rw [nI_leI (by omega) (by omega)]; omega) ?_
      refine y_run 40 hk rfl ?_
      intro g hg
      refine Rn.in ?_
      unfold x_F
      rw [show x_at m_Law_lot.2.2.2.2 8 = some (.iaload, 1, 0, 0) from rfl]
      refine ⟨j, (len, a), rfl, rfl, hlt, hj, ?_⟩
      revert hg
      revert g
      show Lz (d + 4) m_Law_lot (some (len, a)) Q 9 _ [.int (a j)] T
      refine y_run 40 hk rfl ?_
      exact y_iret rfl rfl (k _)
    · refine y_icT rfl (by show nI len ≤ nI j; rw [nI_leI (by omega) (by omega)]; omega) ?_
      refine y_run 40 hk rfl ?_
      exact y_iret rfl rfl (k _)
  intro g hg
  exact ⟨(m_Law_lot, yL_lot, cL_lot, 1, 2), rfl, Or.inl rfl, Nat.le_of_ble_eq_true rfl, fun v hv => by
    simp only [List.mem_cons, List.not_mem_nil, or_false] at hv
    rcases hv with rfl | rfl <;> rfl, ⟨Nat.le_refl _, Nat.le_refl _⟩, body g hg⟩
theorem y_lot {d len : Nat} {a : Nat → Int32} {mm : xM} {Q : xQ} {T : xT} {pc : Nat} {L : xL} {r : List Value} {ln i j : Nat} (hk : tOk T) (hl : len ≤ 260) (hj : j < 65536) (h : x_at mm.2.2.2.2 pc = some (.invokestatic i, ln, i_Law_lot, 2)) (hc : Nat.ble ((r.map fun v => v.category).sum) 8 = true) (k : ∀ v : Int32, Lz (d + 5) mm (some (len, a)) Q (pc + ln) L (.int v :: r) T) : Lz (d + 5) mm (some (len, a)) Q pc L (.int (nI j) :: .ref 0 :: r) T := by
  intro g hg
  refine Rn.in ?_
  unfold x_F
  rw [h]
  exact ⟨Nat.le_of_ble_eq_true hc, some (len, a), SK, fun v g1 => ∃ x : Int32, v = some (.int x) ∧ SG g1 T, Or.inr rfl, zz_lot d len a T j _ hk hl hj (fun v g hg => ⟨v, rfl, hg⟩) g hg, ⟨Nat.le_refl _, Nat.le_refl _⟩, fun v g1 hv => by
    obtain ⟨x, rfl, hg1⟩ := hv
    exact k x g1 hg1⟩
