/-! ===== the rows of a walk in the picture, behind the constructors: the skeleton stays ===== -/
/-- a game's twenty cells, from the number g on -/
def x_sg (g : Nat) : xW := [.inr (.inl (2, [some (some (g + 1)), some (some (g + 5)), some (some (g + 14)), none, none, none, none, none, none, none])),
  .inr (.inl (1, [some (some (g + 2)), some (some (g + 3)), some (some (g + 4)), none])), .inl 16, .inl 16, .inl 16,
  .inr (.inl (6, [some (some (g + 6)), some (some (g + 7)), some (some (g + 8)), some (some (g + 9)), some (some (g + 10)), some (some (g + 11)), some (some (g + 12)), some (some (g + 13)), none, none])), .inl 12, .inl 12, .inl 12, .inl 12, .inl 12, .inl 12, .inl 12, .inl 12,
  .inr (.inl (0, [some (some (g + 15)), some (some (g + 16)), some (some (g + 17)), some (some (g + 18)), some (some (g + 19)), none, none])), .inl 12, .inl 12, .inl 12, .inl 12, .inl 12]
/-- all cells: the class, its game, its history, its grope, its text, its orders; the reference -/
def SK : xW := [.inr (.inl (8, [some (some 2), some (some 22), some (some 124), some (some 134), some (some 136)]))] ++ x_sg 2 ++
  [.inr (.inl (4, [some (some 23), none, none])), .inr (.inr [some 24, some 44, some 64, some 84, some 104])] ++ x_sg 24 ++ x_sg 44 ++ x_sg 64 ++ x_sg 84 ++ x_sg 104 ++
  [.inr (.inl (3, [some (some 125), some (some 126), some (some 127), some (some 128), some (some 129), some (some 130), some (some 131), some (some 132), some (some 133), none, none, none])), .inl 12, .inl 12, .inl 12, .inl 12, .inl 12, .inl 12, .inl 12, .inl 16, .inl 16] ++
  [.inr (.inl (7, [some (some 135), none])), .inl 60, .inr (.inl (5, [some (some 137), none, none, none, none, none, none, none, none]))] ++ x_sg 137
def Rx (d : Nat) (mm : xM) (Q : xQ) (pc : Nat) (L : xL) (st : List Value) (g : xG) : Prop := Rn (x_cl d) mm none SK Q pc L st SK g
def Cx (d t : Nat) (As : List Value) (g : xG) (Q : xQ) : Prop := x_cl d none t As SK g SK Q
abbrev xC : Type := Nat × xL × List Value × xG
/-- run on, over plain instructions and gotos -/
def x_go (mm : xM) : Nat → Nat → xL → List Value → xG → xC
  | 0, pc, L, st, g => (pc, L, st, g)
  | n + 1, pc, L, st, g => match x_at mm.2.2.2.2 pc with
    | none => (pc, L, st, g)
    | some (i, len, r1, r2) => match i with
      | .goto _ => x_go mm n r1 L st g
      | i => match x_s mm none i r1 r2 L st SK g with
        | some (L', st', _, g') => x_go mm n (pc + len) L' st' g'
        | none => (pc, L, st, g)
theorem x_s_keep {mm : xM} {Ls : Option (Nat × (Nat → Int32))} {S S' : xW} {g g' : xG} {L L' : xL} {st st' : List Value} {i : Jvm.ClassFile.Instr} {r1 r2 : Nat} (hm : mm.2.1 = false) (hs : x_s mm Ls i r1 r2 L st S g = some (L', st', S', g')) : S' = S := by
  cases i
  case putfield n =>
    dsimp only [x_s] at hs
    split at hs
    · rename_i x q r
      split at hs
      · rename_i ci fs hq
        cases hc : Nat.beq ci r1
        · rw [hc] at hs; cases hs
        · rw [hc] at hs
          dsimp only [cond] at hs
          split at hs
          · cases h01 : (!x_bool r1 r2 || x_01 x)
            · rw [h01] at hs; cases hs
            · rw [h01] at hs; cases hs; rfl
          · cases hs
      · cases hs
    · split at hs
      · rename_i ci fs hq
        rw [hm, Bool.and_false] at hs
        cases hs
      · cases hs
    · cases hs
  case getfield n =>
    dsimp only [x_s] at hs
    split at hs
    · split at hs
      · rename_i ci fs hq
        cases hc : Nat.beq ci r1
        · rw [hc] at hs; cases hs
        · rw [hc] at hs
          dsimp only [cond] at hs
          split at hs <;> cases hs <;> rfl
      · cases hs
    · cases hs
  all_goals first
    | exact absurd hs (by intro z; cases z)
    | (dsimp only [x_s] at hs; split at hs <;> first | (cases hs; rfl) | cases hs | (split at hs <;> first | (cases hs; rfl) | cases hs | (dsimp only [cond] at hs; split at hs <;> first | (cases hs; rfl) | cases hs)))
theorem r_go {d : Nat} {mm : xM} {Q : xQ} (hm : mm.2.1 = false) : ∀ (n pc : Nat) (L : xL) (st : List Value) (g : xG), Rx d mm Q (x_go mm n pc L st g).1 (x_go mm n pc L st g).2.1 (x_go mm n pc L st g).2.2.1 (x_go mm n pc L st g).2.2.2 → Rx d mm Q pc L st g
  | 0, pc, L, st, g, k => k
  | n + 1, pc, L, st, g, k => by
    unfold x_go at k
    cases ha : x_at mm.2.2.2.2 pc with
    | none => rw [ha] at k; exact k
    | some e =>
      obtain ⟨i, len, r1, r2⟩ := e
      rw [ha] at k
      dsimp only at k
      cases hs : x_s mm none i r1 r2 L st SK g with
      | none =>
        cases i
        case goto off =>
          refine Rn.in ?_
          unfold x_F
          rw [ha]
          exact r_go hm n r1 L st g k
        all_goals
          dsimp only at k
          rw [hs] at k
          exact k
      | some q =>
        obtain ⟨L', st', S', g'⟩ := q
        have e1 := x_s_keep hm hs
        subst e1
        cases i
        case goto off => cases hs
        all_goals
          dsimp only at k
          rw [hs] at k
          have k2 := r_go hm n (pc + len) L' st' g' k
          refine Rn.in ?_
          unfold x_F
          rw [ha]
          dsimp only
          first
            | (rw [hs]; exact k2)
            | exact absurd hs (by intro z; cases z)
/-- run on to the next instruction that isn't plain -/
theorem r_run {d : Nat} {mm : xM} {Q : xQ} {pc pc' : Nat} {L L' : xL} {st st' : List Value} {g g' : xG} (n : Nat) (hm : mm.2.1 = false) (h : x_go mm n pc L st g = (pc', L', st', g')) (k : Rx d mm Q pc' L' st' g') : Rx d mm Q pc L st g := by
  refine r_go hm n pc L st g ?_
  rw [h]
  exact k
