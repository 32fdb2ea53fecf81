/-! ===== the law in the picture ===== -/
def Lx (len : Nat) (a : Nat → Int32) (Q : xQ) (pc : Nat) (L : xL) (st : List Value) (g : xG) : Prop := Rn (x_cl 10) m_law (some (len, a)) SK Q pc L st SK g
/-- run on, to a place or over plain instructions -/
def l_go (Ls : Option (Nat × (Nat → Int32))) (stop : Nat) : Nat → Nat → xL → List Value → xG → xC
  | 0, pc, L, st, g => (pc, L, st, g)
  | n + 1, pc, L, st, g => bif Nat.beq pc stop then (pc, L, st, g) else match x_at k_law pc with
    | none => (pc, L, st, g)
    | some (i, len, r1, r2) => match i with
      | .goto _ => l_go Ls stop n r1 L st g
      | i => match x_s m_law Ls i r1 r2 L st SK g with
        | some (L', st', _, g') => l_go Ls stop n (pc + len) L' st' g'
        | none => (pc, L, st, g)
section XLW
variable {len : Nat} {a : Nat → Int32} {Q : xQ} {pc : Nat} {L : xL} {r : List Value} {g : xG} {len' r1 r2 : Nat} {x y : Int32} {off : Int}
theorem l_gor (stop : Nat) : ∀ (n pc : Nat) (L : xL) (st : List Value) (g : xG), Lx len a Q (l_go (some (len, a)) stop n pc L st g).1 (l_go (some (len, a)) stop n pc L st g).2.1 (l_go (some (len, a)) stop n pc L st g).2.2.1 (l_go (some (len, a)) stop n pc L st g).2.2.2 → Lx len a Q pc L st g
  | 0, pc, L, st, g, k => k
  | n + 1, pc, L, st, g, k => by
    unfold l_go at k
    cases hb : Nat.beq pc stop
    · rw [hb] at k
      dsimp only [cond] at k
      cases ha : x_at k_law pc with
      | none => rw [ha] at k; exact k
      | some e =>
        obtain ⟨i, len', r1, r2⟩ := e
        rw [ha] at k
        have ha' : x_at m_law.2.2.2.2 pc = some (i, len', r1, r2) := ha
        dsimp only at k
        cases hs : x_s m_law (some (len, a)) i r1 r2 L st SK g with
        | none =>
          cases i
          case goto off =>
            refine Rn.in ?_
            unfold x_F
            rw [ha']
            exact l_gor stop n r1 L st g k
          all_goals
            dsimp only at k
            rw [hs] at k
            exact k
        | some q =>
          obtain ⟨L', st', S', g'⟩ := q
          have e1 := x_s_keep rfl hs
          subst e1
          cases i
          case goto off => cases hs
          all_goals
            dsimp only at k
            rw [hs] at k
            have k2 := l_gor stop n (pc + len') L' st' g' k
            refine Rn.in ?_
            unfold x_F
            rw [ha']
            dsimp only
            first
              | (rw [hs]; exact k2)
              | exact absurd hs (by intro z; cases z)
    · rw [hb] at k
      exact k
theorem l_run {L' : xL} {st st' : List Value} {g' : xG} {pc' : Nat} (n : Nat) (h : l_go (some (len, a)) 100000 n pc L st g = (pc', L', st', g')) (k : Lx len a Q pc' L' st' g') : Lx len a Q pc L st g := by
  refine l_gor 100000 n pc L st g ?_
  rw [h]
  exact k
theorem l_to {L' : xL} {st st' : List Value} {g' : xG} (stop n : Nat) (h : l_go (some (len, a)) stop n pc L st g = (stop, L', st', g')) (k : Lx len a Q stop L' st' g') : Lx len a Q pc L st g := by
  refine l_gor stop n pc L st g ?_
  rw [h]
  exact k
theorem l_ic {c : Jvm.ClassFile.Cond} (h : x_at k_law pc = some (.if_icmp c off, len', r1, r2)) (kt : x_c c x y → Lx len a Q r1 L r g) (kf : ¬ x_c c x y → Lx len a Q (pc + len') L r g) : Lx len a Q pc L (.int y :: .int x :: r) g := by
  have h : x_at m_law.2.2.2.2 pc = some (.if_icmp c off, len', r1, r2) := h
  refine Rn.in ?_
  unfold x_F
  rw [h]
  exact ⟨kt, kf⟩
theorem l_sld {i : Int32} {j : Nat} (h : x_at k_law pc = some (.iaload, len', r1, r2)) (hi : i = nI j) (hj : j < len) (h2 : j < 65536) (k : Lx len a Q (pc + len') L (.int (a j) :: r) g) : Lx len a Q pc L (.int i :: .ref 0 :: r) g := by
  have h : x_at m_law.2.2.2.2 pc = some (.iaload, len', r1, r2) := h
  refine Rn.in ?_
  unfold x_F
  rw [h]
  exact ⟨j, (len, a), rfl, hi, hj, h2, k⟩
theorem l_tsw {a1 a2 a3 : Int} {a4 : Array Int} {tab : List (Nat × Nat)} {dd : Nat} (h : x_at k_law pc = some (.tableswitch a1 a2 a3 a4, len', r1, r2)) (hs : x_sws[r1]? = some (tab, dd)) (k : x_sw tab dd x (fun t => Lx len a Q t L r g)) : Lx len a Q pc L (.int x :: r) g := by
  have h : x_at m_law.2.2.2.2 pc = some (.tableswitch a1 a2 a3 a4, len', r1, r2) := h
  refine Rn.in ?_
  unfold x_F
  rw [h]
  dsimp only
  rw [hs]
  exact k
theorem l_inv {i t np : Nat} {st As : List Value} (h : x_at k_law pc = some (.invokevirtual i, len', t, np)) (hs : x_spl (np + 1) [] st = some (As, r)) (hc : Nat.ble ((r.map fun v => v.category).sum) 8 = true) (c : Cx 10 t As g (fun v g1 => Lx len a Q (pc + len') L (v.toList ++ r) g1)) : Lx len a Q pc L st g := by
  have h : x_at m_law.2.2.2.2 pc = some (.invokevirtual i, len', t, np) := h
  refine Rn.in ?_
  unfold x_F
  rw [h]
  dsimp only
  rw [hs]
  exact ⟨Nat.le_of_ble_eq_true hc, SK, _, c, ⟨Nat.le_refl _, Nat.le_refl _⟩, fun v g1 k => k⟩
theorem l_zret (h : x_at k_law pc = some (.ireturn, len', r1, r2)) (h01 : x_01 x = true) (hq : Q (some (.int x)) g) : Lx len a Q pc L [.int x] g := by
  have h : x_at m_law.2.2.2.2 pc = some (.ireturn, len', r1, r2) := h
  refine Rn.in ?_
  unfold x_F
  rw [h]
  exact ⟨⟨_, rfl, (x_01_ok h01).1⟩, rfl, hq⟩
end XLW
