/-! ===== pure words, and the small methods of the class ===== -/
theorem x_up_app (g : xG) (k j : Nat) (x : Int32) (a b : Nat) : x_up g k j x a b = if a = k then (if b = j then x else g a b) else g a b := rfl
/-- a cell put in whole -/
def x_ce (g : xG) (k : Nat) (f : Nat → Int32) : xG := fun a => if a = k then f else g a
theorem x_ce_app (g : xG) (k : Nat) (f : Nat → Int32) (a b : Nat) : x_ce g k f a b = (if a = k then f else g a) b := rfl
theorem x_ce_same (g : xG) (k : Nat) (f : Nat → Int32) : x_ce g k f k = f := if_pos rfl
theorem r_for {N : Nat} {P : Nat → Prop} (hl : P N) (hs : ∀ p, p < N → P (p + 1) → P p) : ∀ p, p ≤ N → P p := by
  intro p hp
  obtain ⟨m, rfl⟩ : ∃ m, N = p + m := ⟨N - p, by omega⟩
  clear hp
  induction m generalizing p with
  | zero => exact hl
  | succ m ih => exact hs p (by omega) (ih (p + 1) (by rw [show p + 1 + m = p + (m + 1) by omega]; exact hl) (fun q hq => hs q (by omega)))
/-- run on to a place -/
def x_gt (mm : xM) (stop : Nat) : Nat → Nat → xL → List Value → xG → xC
  | 0, pc, L, st, g => (pc, L, st, g)
  | n + 1, pc, L, st, g => bif Nat.beq pc stop then (pc, L, st, g) else match x_at mm.2.2.2.2 pc with
    | none => (pc, L, st, g)
    | some (i, len, r1, r2) => match i with
      | .goto _ => x_gt mm stop n r1 L st g
      | i => match x_s mm none i r1 r2 L st SK g with
        | some (L', st', _, g') => x_gt mm stop n (pc + len) L' st' g'
        | none => (pc, L, st, g)
theorem r_gt {d : Nat} {mm : xM} {Q : xQ} (hm : mm.2.1 = false) (stop : Nat) : ∀ (n pc : Nat) (L : xL) (st : List Value) (g : xG), Rx d mm Q (x_gt mm stop n pc L st g).1 (x_gt mm stop n pc L st g).2.1 (x_gt mm stop n pc L st g).2.2.1 (x_gt mm stop n pc L st g).2.2.2 → Rx d mm Q pc L st g
  | 0, pc, L, st, g, k => k
  | n + 1, pc, L, st, g, k => by
    unfold x_gt at k
    cases hb : Nat.beq pc stop
    · rw [hb] at k
      dsimp only [cond] at k
      cases ha : x_at mm.2.2.2.2 pc with
      | none => rw [ha] at k; exact k
      | some e =>
        obtain ⟨i, len, r1, r2⟩ := e
        rw [ha] at k
        dsimp only at k
        cases hs : x_s mm none i r1 r2 L st SK g with
        | none =>
          cases i
          case goto off =>
            refine Rn.in ?_
            unfold x_F
            rw [ha]
            exact r_gt hm stop n r1 L st g k
          all_goals
            dsimp only at k
            rw [hs] at k
            exact k
        | some q =>
          obtain ⟨L', st', S', g'⟩ := q
          have e1 := x_s_keep hm hs
          subst e1
          cases i
          case goto off => cases hs
          all_goals
            dsimp only at k
            rw [hs] at k
            have k2 := r_gt hm stop n (pc + len) L' st' g' k
            refine Rn.in ?_
            unfold x_F
            rw [ha]
            dsimp only
            first
              | (rw [hs]; exact k2)
              | exact absurd hs (by intro z; cases z)
    · rw [hb] at k
      exact k
theorem r_to {d : Nat} {mm : xM} {Q : xQ} {pc : Nat} {L L' : xL} {st st' : List Value} {g g' : xG} (stop n : Nat) (hm : mm.2.1 = false) (h : x_gt mm stop n pc L st g = (stop, L', st', g')) (k : Rx d mm Q stop L' st' g') : Rx d mm Q pc L st g := by
  refine r_gt hm stop n pc L st g ?_
  rw [h]
  exact k
/-- the worn chair of the places 0 to n -/
def x_mw (f : Nat → Int32) : Nat → Nat
  | 0 => 0
  | n + 1 => if f (x_mw f n) ≤ f (n + 1) then n + 1 else x_mw f n
theorem x_mw_le (f : Nat → Int32) : ∀ n, x_mw f n ≤ n
  | 0 => Nat.le_refl _
  | n + 1 => by
    unfold x_mw
    have := x_mw_le f n
    split <;> omega
/-- the bit p of a number -/
def x_bit (m p : Nat) : Prop := m / 2 ^ p % 2 = 1
theorem x_sh (x : Int32) {m p : Nat} (hx : x = nI m) (hm : m < 2 ^ 31) (hp : p < 32) : ((x >>> (nI p &&& 31)) &&& nI 1) = nI (m / 2 ^ p % 2) := by
  subst hx
  rw [pk_shrN hm _ p (by revert hp; revert p; decide)]
  exact pk_andN (by have := Nat.div_le_self m (2 ^ p); omega) 1 (by decide)
theorem x_sh1 (x : Int32) {m p : Nat} (hx : x = nI m) (hm : m < 2 ^ 31) (hp : p < 32) : ((x >>> (nI p &&& 31)) &&& nI 1) = nI 1 ↔ x_bit m p := by
  rw [x_sh x hx hm hp, nI_eq (by omega) (by omega)]
  rfl
set_option maxHeartbeats 4000000 in
theorem c_isWithin (d : Nat) (v a b : Int32) (g : xG) (Q : xQ) (ht : a ≤ v → v ≤ b → Q (some (.int (nI 1))) g) (hf : ¬ (a ≤ v ∧ v ≤ b) → Q (some (.int (nI 0))) g) : Cx (d + 1) i_Bc_isWithin [.int v, .int a, .int b] g Q := by
  refine r_cl (L0 := [some (.int v), some (.int a), some (.int b)]) rfl (Or.inl rfl) rfl rfl rfl ?_
  refine r_run 400 rfl rfl ?_
  refine r_ilt rfl (fun h1 => ?_) (fun h1 => ?_)
  · refine r_run 400 rfl rfl ?_
    exact r_zret rfl rfl (by decide) (hf (fun z => Int32.not_le.mpr h1 z.1))
  · refine r_run 400 rfl rfl ?_
    refine r_igt rfl (fun h2 => ?_) (fun h2 => ?_)
    · refine r_run 400 rfl rfl ?_
      exact r_zret rfl rfl (by decide) (hf (fun z => Int32.not_le.mpr h2 z.2))
    · refine r_run 400 rfl rfl ?_
      exact r_zret rfl rfl (by decide) (ht (Int32.not_lt.mp h1) (Int32.not_lt.mp h2))
set_option maxHeartbeats 4000000 in
theorem c_foundT (d : Nat) (v : Int32) (g : xG) (Q : xQ) (k : Q (some (.int v)) g) : Cx (d + 1) i_Bc_foundOrNot [.int (nI 1), .int v] g Q := by
  refine r_cl (L0 := [some (.int (nI 1)), some (.int v)]) rfl (Or.inl rfl) rfl rfl rfl ?_
  refine r_run 400 rfl rfl ?_
  refine t_eq1 rfl ?_
  refine r_run 400 rfl rfl ?_
  exact r_iret rfl rfl k
set_option maxHeartbeats 4000000 in
theorem c_foundF (d : Nat) (v : Int32) (g : xG) (Q : xQ) (k : Q (some (.int (-1000004))) g) : Cx (d + 1) i_Bc_foundOrNot [.int (nI 0), .int v] g Q := by
  refine r_cl (L0 := [some (.int (nI 0)), some (.int v)]) rfl (Or.inl rfl) rfl rfl rfl ?_
  refine r_run 400 rfl rfl ?_
  refine t_eq0 rfl ?_
  refine r_run 400 rfl rfl ?_
  exact r_iret rfl rfl k
set_option maxHeartbeats 4000000 in
theorem c_Chairs_has_2 (d : Nat) (v : Int32) (g : xG) (Q : xQ) {n : Nat} (hn : g 3 3 = nI n) (h16 : n ≤ 16) (ht : ∀ p, p < n → v = nI p → Q (some (.int (nI 1))) g) (hf : (∀ p, p < n → ¬ v = nI p) → Q (some (.int (nI 0))) g) : Cx (d + 1) i_Chairs_has [.ref 3, .int v] g Q := by
  refine r_cl (L0 := [some (.ref 3), some (.int v)]) rfl (Or.inr ⟨_, _, _, rfl, rfl⟩) rfl rfl rfl ?_
  refine r_run 400 rfl rfl ?_
  refine r_lt0 rfl (fun h1 => ?_) (fun h1 => ?_)
  · refine r_run 400 rfl rfl ?_
    exact r_zret rfl rfl (by decide) (hf (fun p hp e => by subst e; exact nI_pos (by omega) h1))
  · refine r_run 400 rfl rfl ?_
    simp only [x_up_app, x_ce_app, x_ce_same, Nat.reduceAdd, Nat.reduceEqDiff, ↓reduceIte, Nat.reduceSub, Nat.reduceMul, reduceCtorEq, hn]
    obtain ⟨j, hj, rfl⟩ := nI_of h1
    refine n_ige rfl hj (by omega) (fun h2 => ?_) (fun h2 => ?_)
    · refine r_run 400 rfl rfl ?_
      exact r_zret rfl rfl (by decide) (hf (fun p hp e => by rw [nI_eq hj (by omega)] at e; omega))
    · refine r_run 400 rfl rfl ?_
      exact r_zret rfl rfl (by decide) (ht j h2 rfl)
set_option maxHeartbeats 4000000 in
theorem c_Chairs_onFrom_2 (d : Nat) (a b : Nat) (g : xG) (Q : xQ) {n : Nat} (hn : g 3 3 = nI n) (h1 : 1 ≤ n) (h16 : n ≤ 16) (hab : a + b < 2 ^ 31) (k : Q (some (.int (nI ((a + b) % n)))) g) : Cx (d + 1) i_Chairs_onFrom [.ref 3, .int (nI a), .int (nI b)] g Q := by
  refine r_cl (L0 := [some (.ref 3), some (.int (nI a)), some (.int (nI b))]) rfl (Or.inr ⟨_, _, _, rfl, rfl⟩) rfl rfl rfl ?_
  refine r_run 400 rfl rfl ?_
  simp only [x_up_app, x_ce_app, x_ce_same, Nat.reduceAdd, Nat.reduceEqDiff, ↓reduceIte, Nat.reduceSub, Nat.reduceMul, reduceCtorEq, hn]
  refine n_ige rfl (by omega) (by omega) (fun _ => ?_) (fun h2 => by omega)
  refine r_run 400 rfl rfl ?_
  simp only [x_up_app, x_ce_app, x_ce_same, Nat.reduceAdd, Nat.reduceEqDiff, ↓reduceIte, Nat.reduceSub, Nat.reduceMul, reduceCtorEq, hn, nI_add]
  refine n_rem rfl (by omega) hab (by omega) ?_
  refine r_run 400 rfl rfl ?_
  exact r_iret rfl rfl k
set_option maxHeartbeats 4000000 in
theorem c_Players_has_2 (d : Nat) (v : Int32) (g : xG) (Q : xQ) {n : Nat} (hn : g 7 9 = nI n) (h16 : n ≤ 12) (ht : ∀ p, p < n → v = nI p → Q (some (.int (nI 1))) g) (hf : (∀ p, p < n → ¬ v = nI p) → Q (some (.int (nI 0))) g) : Cx (d + 1) i_Players_has [.ref 7, .int v] g Q := by
  refine r_cl (L0 := [some (.ref 7), some (.int v)]) rfl (Or.inr ⟨_, _, _, rfl, rfl⟩) rfl rfl rfl ?_
  refine r_run 400 rfl rfl ?_
  refine r_lt0 rfl (fun h1 => ?_) (fun h1 => ?_)
  · refine r_run 400 rfl rfl ?_
    exact r_zret rfl rfl (by decide) (hf (fun p hp e => by subst e; exact nI_pos (by omega) h1))
  · refine r_run 400 rfl rfl ?_
    simp only [x_up_app, x_ce_app, x_ce_same, Nat.reduceAdd, Nat.reduceEqDiff, ↓reduceIte, Nat.reduceSub, Nat.reduceMul, reduceCtorEq, hn]
    obtain ⟨j, hj, rfl⟩ := nI_of h1
    refine n_ige rfl hj (by omega) (fun h2 => ?_) (fun h2 => ?_)
    · refine r_run 400 rfl rfl ?_
      exact r_zret rfl rfl (by decide) (hf (fun p hp e => by rw [nI_eq hj (by omega)] at e; omega))
    · refine r_run 400 rfl rfl ?_
      exact r_zret rfl rfl (by decide) (ht j h2 rfl)
set_option maxHeartbeats 4000000 in
theorem c_isPlaying_2 (d p : Nat) (g : xG) (Q : xQ) {m : Nat} (hm : g 7 8 = nI m) (hm2 : m < 2 ^ 31) (hp : p < 12) (ht : x_bit m p → Q (some (.int (nI 1))) g) (hf : ¬ x_bit m p → Q (some (.int (nI 0))) g) : Cx (d + 1) i_Players_isPlaying [.ref 7, .int (nI p)] g Q := by
  refine r_cl (L0 := [some (.ref 7), some (.int (nI p))]) rfl (Or.inr ⟨_, _, _, rfl, rfl⟩) rfl rfl rfl ?_
  refine r_run 400 rfl rfl ?_
  refine r_ine rfl (fun h2 => ?_) (fun h2 => ?_)
  · refine r_run 400 rfl rfl ?_
    exact r_zret rfl rfl (by decide) (hf (fun z => h2 ((x_sh1 _ hm hm2 (by omega)).mpr z)))
  · refine r_run 400 rfl rfl ?_
    exact r_zret rfl rfl (by decide) (ht ((x_sh1 _ hm hm2 (by omega)).mp h2))
set_option maxHeartbeats 4000000 in
theorem c_hearsTone_2 (d p t : Nat) (g : xG) (Q : xQ) {m : Nat} (hp : p < 12) (hm : g 9 p = nI m) (hm2 : m < 2 ^ 31) (htn : t < 32) (ht : x_bit m t → Q (some (.int (nI 1))) g) (hf : ¬ x_bit m t → Q (some (.int (nI 0))) g) : Cx (d + 1) i_Players_hearsTone [.ref 7, .int (nI p), .int (nI t)] g Q := by
  refine r_cl (L0 := [some (.ref 7), some (.int (nI p)), some (.int (nI t))]) rfl (Or.inr ⟨_, _, _, rfl, rfl⟩) rfl rfl rfl ?_
  refine r_run 400 rfl rfl ?_
  refine r_ald (j := p) rfl rfl (rfl) (by omega) (Nat.le_of_ble_eq_true rfl) ?_
  refine r_run 400 rfl rfl ?_
  refine r_ine rfl (fun h2 => ?_) (fun h2 => ?_)
  · refine r_run 400 rfl rfl ?_
    exact r_zret rfl rfl (by decide) (hf (fun z => h2 ((x_sh1 _ hm hm2 (by omega)).mpr z)))
  · refine r_run 400 rfl rfl ?_
    exact r_zret rfl rfl (by decide) (ht ((x_sh1 _ hm hm2 (by omega)).mp h2))
set_option maxHeartbeats 4000000 in
theorem c_rowOf_2 (d a nx : Nat) (g : xG) (Q : xQ) (hn : g 16 5 = nI nx) (h1 : nx < 12) (ha : a < 12) (k : Q (some (.int (nI ((nx + 11 - a) % 12)))) g) : Cx (d + 1) i_Bells_rowOf [.ref 16, .int (nI a)] g Q := by
  refine r_cl (L0 := [some (.ref 16), some (.int (nI a))]) rfl (Or.inr ⟨_, _, _, rfl, rfl⟩) rfl rfl rfl ?_
  refine r_run 400 rfl rfl ?_
  simp only [x_up_app, x_ce_app, x_ce_same, Nat.reduceAdd, Nat.reduceEqDiff, ↓reduceIte, Nat.reduceSub, Nat.reduceMul, reduceCtorEq, hn, nI_add]
  rw [pk_sub (by omega), pk_sub (by omega)]
  refine n_rem rfl (by omega) (by omega) (by omega) ?_
  refine r_run 400 rfl rfl ?_
  exact r_iret rfl rfl (by rw [show nx + 12 - 1 - a = nx + 11 - a by omega]; exact k)
set_option maxHeartbeats 4000000 in
theorem c_mostWorn_2 (d n : Nat) (g : xG) (Q : xQ) (hn : g 3 3 = nI n) (h1 : 1 ≤ n) (h16 : n ≤ 16) (k : Q (some (.int (nI (x_mw (g 5) (n - 1))))) g) : Cx (d + 1) i_Chairs_mostWorn [.ref 3] g Q := by
  refine r_cl (L0 := [some (.ref 3), none, none]) rfl (Or.inr ⟨_, _, _, rfl, rfl⟩) rfl rfl rfl ?_
  have loop : ∀ p, p ≤ n → 1 ≤ p → Rx d m_Chairs_mostWorn Q 4 [some (.ref 3), some (.int (nI (x_mw (g 5) (p - 1)))), some (.int (nI p))] [] g := by
    refine r_for ?_ ?_
    · intro _
      refine r_run 400 rfl rfl ?_
      simp only [x_up_app, x_ce_app, x_ce_same, Nat.reduceAdd, Nat.reduceEqDiff, ↓reduceIte, Nat.reduceSub, Nat.reduceMul, reduceCtorEq, hn]
      refine n_ige rfl (by omega) (by omega) (fun _ => ?_) (fun h2 => by omega)
      refine r_run 400 rfl rfl ?_
      exact r_iret rfl rfl k
    · intro p hp ih h2
      have hw := x_mw_le (g 5) (p - 1)
      refine r_run 400 rfl rfl ?_
      simp only [x_up_app, x_ce_app, x_ce_same, Nat.reduceAdd, Nat.reduceEqDiff, ↓reduceIte, Nat.reduceSub, Nat.reduceMul, reduceCtorEq, hn]
      refine n_ige rfl (by omega) (by omega) (fun _ => by omega) (fun h2 => ?_)
      refine r_run 400 rfl rfl ?_
      refine r_ald (j := p) rfl rfl (rfl) (by omega) (Nat.le_of_ble_eq_true rfl) ?_
      refine r_run 400 rfl rfl ?_
      refine r_ald (j := x_mw (g 5) (p - 1)) rfl rfl (rfl) (by omega) (Nat.le_of_ble_eq_true rfl) ?_
      have hm : x_mw (g 5) p = if g 5 (x_mw (g 5) (p - 1)) ≤ g 5 p then p else x_mw (g 5) (p - 1) := by
        obtain ⟨q, rfl⟩ : ∃ q, p = q + 1 := ⟨p - 1, by omega⟩
        rfl
      have ih := ih (by omega)
      rw [show p + 1 - 1 = p by omega, hm] at ih
      refine r_ilt rfl (fun h3 => ?_) (fun h3 => ?_)
      · rw [if_neg (Int32.not_le.mpr h3)] at ih
        refine r_to 4 60 rfl rfl ?_
        simp only [x_up_app, x_ce_app, x_ce_same, Nat.reduceAdd, Nat.reduceEqDiff, ↓reduceIte, Nat.reduceSub, Nat.reduceMul, reduceCtorEq, nI_add]
        exact ih
      · rw [if_pos (Int32.not_lt.mp h3)] at ih
        refine r_to 4 60 rfl rfl ?_
        simp only [x_up_app, x_ce_app, x_ce_same, Nat.reduceAdd, Nat.reduceEqDiff, ↓reduceIte, Nat.reduceSub, Nat.reduceMul, reduceCtorEq, nI_add]
        exact ih
  refine r_to 4 60 rfl rfl ?_
  exact loop 1 h1 (Nat.le_refl _)
set_option maxHeartbeats 4000000 in
theorem c_Chairs_has_137 (d : Nat) (v : Int32) (g : xG) (Q : xQ) {n : Nat} (hn : g 138 3 = nI n) (h16 : n ≤ 16) (ht : ∀ p, p < n → v = nI p → Q (some (.int (nI 1))) g) (hf : (∀ p, p < n → ¬ v = nI p) → Q (some (.int (nI 0))) g) : Cx (d + 1) i_Chairs_has [.ref 138, .int v] g Q := by
  refine r_cl (L0 := [some (.ref 138), some (.int v)]) rfl (Or.inr ⟨_, _, _, rfl, rfl⟩) rfl rfl rfl ?_
  refine r_run 400 rfl rfl ?_
  refine r_lt0 rfl (fun h1 => ?_) (fun h1 => ?_)
  · refine r_run 400 rfl rfl ?_
    exact r_zret rfl rfl (by decide) (hf (fun p hp e => by subst e; exact nI_pos (by omega) h1))
  · refine r_run 400 rfl rfl ?_
    simp only [x_up_app, x_ce_app, x_ce_same, Nat.reduceAdd, Nat.reduceEqDiff, ↓reduceIte, Nat.reduceSub, Nat.reduceMul, reduceCtorEq, hn]
    obtain ⟨j, hj, rfl⟩ := nI_of h1
    refine n_ige rfl hj (by omega) (fun h2 => ?_) (fun h2 => ?_)
    · refine r_run 400 rfl rfl ?_
      exact r_zret rfl rfl (by decide) (hf (fun p hp e => by rw [nI_eq hj (by omega)] at e; omega))
    · refine r_run 400 rfl rfl ?_
      exact r_zret rfl rfl (by decide) (ht j h2 rfl)
set_option maxHeartbeats 4000000 in
theorem c_Chairs_onFrom_137 (d : Nat) (a b : Nat) (g : xG) (Q : xQ) {n : Nat} (hn : g 138 3 = nI n) (h1 : 1 ≤ n) (h16 : n ≤ 16) (hab : a + b < 2 ^ 31) (k : Q (some (.int (nI ((a + b) % n)))) g) : Cx (d + 1) i_Chairs_onFrom [.ref 138, .int (nI a), .int (nI b)] g Q := by
  refine r_cl (L0 := [some (.ref 138), some (.int (nI a)), some (.int (nI b))]) rfl (Or.inr ⟨_, _, _, rfl, rfl⟩) rfl rfl rfl ?_
  refine r_run 400 rfl rfl ?_
  simp only [x_up_app, x_ce_app, x_ce_same, Nat.reduceAdd, Nat.reduceEqDiff, ↓reduceIte, Nat.reduceSub, Nat.reduceMul, reduceCtorEq, hn]
  refine n_ige rfl (by omega) (by omega) (fun _ => ?_) (fun h2 => by omega)
  refine r_run 400 rfl rfl ?_
  simp only [x_up_app, x_ce_app, x_ce_same, Nat.reduceAdd, Nat.reduceEqDiff, ↓reduceIte, Nat.reduceSub, Nat.reduceMul, reduceCtorEq, hn, nI_add]
  refine n_rem rfl (by omega) hab (by omega) ?_
  refine r_run 400 rfl rfl ?_
  exact r_iret rfl rfl k
set_option maxHeartbeats 4000000 in
theorem c_Players_has_137 (d : Nat) (v : Int32) (g : xG) (Q : xQ) {n : Nat} (hn : g 142 9 = nI n) (h16 : n ≤ 12) (ht : ∀ p, p < n → v = nI p → Q (some (.int (nI 1))) g) (hf : (∀ p, p < n → ¬ v = nI p) → Q (some (.int (nI 0))) g) : Cx (d + 1) i_Players_has [.ref 142, .int v] g Q := by
  refine r_cl (L0 := [some (.ref 142), some (.int v)]) rfl (Or.inr ⟨_, _, _, rfl, rfl⟩) rfl rfl rfl ?_
  refine r_run 400 rfl rfl ?_
  refine r_lt0 rfl (fun h1 => ?_) (fun h1 => ?_)
  · refine r_run 400 rfl rfl ?_
    exact r_zret rfl rfl (by decide) (hf (fun p hp e => by subst e; exact nI_pos (by omega) h1))
  · refine r_run 400 rfl rfl ?_
    simp only [x_up_app, x_ce_app, x_ce_same, Nat.reduceAdd, Nat.reduceEqDiff, ↓reduceIte, Nat.reduceSub, Nat.reduceMul, reduceCtorEq, hn]
    obtain ⟨j, hj, rfl⟩ := nI_of h1
    refine n_ige rfl hj (by omega) (fun h2 => ?_) (fun h2 => ?_)
    · refine r_run 400 rfl rfl ?_
      exact r_zret rfl rfl (by decide) (hf (fun p hp e => by rw [nI_eq hj (by omega)] at e; omega))
    · refine r_run 400 rfl rfl ?_
      exact r_zret rfl rfl (by decide) (ht j h2 rfl)
set_option maxHeartbeats 4000000 in
theorem c_isPlaying_137 (d p : Nat) (g : xG) (Q : xQ) {m : Nat} (hm : g 142 8 = nI m) (hm2 : m < 2 ^ 31) (hp : p < 12) (ht : x_bit m p → Q (some (.int (nI 1))) g) (hf : ¬ x_bit m p → Q (some (.int (nI 0))) g) : Cx (d + 1) i_Players_isPlaying [.ref 142, .int (nI p)] g Q := by
  refine r_cl (L0 := [some (.ref 142), some (.int (nI p))]) rfl (Or.inr ⟨_, _, _, rfl, rfl⟩) rfl rfl rfl ?_
  refine r_run 400 rfl rfl ?_
  refine r_ine rfl (fun h2 => ?_) (fun h2 => ?_)
  · refine r_run 400 rfl rfl ?_
    exact r_zret rfl rfl (by decide) (hf (fun z => h2 ((x_sh1 _ hm hm2 (by omega)).mpr z)))
  · refine r_run 400 rfl rfl ?_
    exact r_zret rfl rfl (by decide) (ht ((x_sh1 _ hm hm2 (by omega)).mp h2))
set_option maxHeartbeats 4000000 in
theorem c_hearsTone_137 (d p t : Nat) (g : xG) (Q : xQ) {m : Nat} (hp : p < 12) (hm : g 144 p = nI m) (hm2 : m < 2 ^ 31) (htn : t < 32) (ht : x_bit m t → Q (some (.int (nI 1))) g) (hf : ¬ x_bit m t → Q (some (.int (nI 0))) g) : Cx (d + 1) i_Players_hearsTone [.ref 142, .int (nI p), .int (nI t)] g Q := by
  refine r_cl (L0 := [some (.ref 142), some (.int (nI p)), some (.int (nI t))]) rfl (Or.inr ⟨_, _, _, rfl, rfl⟩) rfl rfl rfl ?_
  refine r_run 400 rfl rfl ?_
  refine r_ald (j := p) rfl rfl (rfl) (by omega) (Nat.le_of_ble_eq_true rfl) ?_
  refine r_run 400 rfl rfl ?_
  refine r_ine rfl (fun h2 => ?_) (fun h2 => ?_)
  · refine r_run 400 rfl rfl ?_
    exact r_zret rfl rfl (by decide) (hf (fun z => h2 ((x_sh1 _ hm hm2 (by omega)).mpr z)))
  · refine r_run 400 rfl rfl ?_
    exact r_zret rfl rfl (by decide) (ht ((x_sh1 _ hm hm2 (by omega)).mp h2))
set_option maxHeartbeats 4000000 in
theorem c_rowOf_137 (d a nx : Nat) (g : xG) (Q : xQ) (hn : g 151 5 = nI nx) (h1 : nx < 12) (ha : a < 12) (k : Q (some (.int (nI ((nx + 11 - a) % 12)))) g) : Cx (d + 1) i_Bells_rowOf [.ref 151, .int (nI a)] g Q := by
  refine r_cl (L0 := [some (.ref 151), some (.int (nI a))]) rfl (Or.inr ⟨_, _, _, rfl, rfl⟩) rfl rfl rfl ?_
  refine r_run 400 rfl rfl ?_
  simp only [x_up_app, x_ce_app, x_ce_same, Nat.reduceAdd, Nat.reduceEqDiff, ↓reduceIte, Nat.reduceSub, Nat.reduceMul, reduceCtorEq, hn, nI_add]
  rw [pk_sub (by omega), pk_sub (by omega)]
  refine n_rem rfl (by omega) (by omega) (by omega) ?_
  refine r_run 400 rfl rfl ?_
  exact r_iret rfl rfl (by rw [show nx + 12 - 1 - a = nx + 11 - a by omega]; exact k)
set_option maxHeartbeats 4000000 in
theorem c_mostWorn_137 (d n : Nat) (g : xG) (Q : xQ) (hn : g 138 3 = nI n) (h1 : 1 ≤ n) (h16 : n ≤ 16) (k : Q (some (.int (nI (x_mw (g 140) (n - 1))))) g) : Cx (d + 1) i_Chairs_mostWorn [.ref 138] g Q := by
  refine r_cl (L0 := [some (.ref 138), none, none]) rfl (Or.inr ⟨_, _, _, rfl, rfl⟩) rfl rfl rfl ?_
  have loop : ∀ p, p ≤ n → 1 ≤ p → Rx d m_Chairs_mostWorn Q 4 [some (.ref 138), some (.int (nI (x_mw (g 140) (p - 1)))), some (.int (nI p))] [] g := by
    refine r_for ?_ ?_
    · intro _
      refine r_run 400 rfl rfl ?_
      simp only [x_up_app, x_ce_app, x_ce_same, Nat.reduceAdd, Nat.reduceEqDiff, ↓reduceIte, Nat.reduceSub, Nat.reduceMul, reduceCtorEq, hn]
      refine n_ige rfl (by omega) (by omega) (fun _ => ?_) (fun h2 => by omega)
      refine r_run 400 rfl rfl ?_
      exact r_iret rfl rfl k
    · intro p hp ih h2
      have hw := x_mw_le (g 140) (p - 1)
      refine r_run 400 rfl rfl ?_
      simp only [x_up_app, x_ce_app, x_ce_same, Nat.reduceAdd, Nat.reduceEqDiff, ↓reduceIte, Nat.reduceSub, Nat.reduceMul, reduceCtorEq, hn]
      refine n_ige rfl (by omega) (by omega) (fun _ => by omega) (fun h2 => ?_)
      refine r_run 400 rfl rfl ?_
      refine r_ald (j := p) rfl rfl (rfl) (by omega) (Nat.le_of_ble_eq_true rfl) ?_
      refine r_run 400 rfl rfl ?_
      refine r_ald (j := x_mw (g 140) (p - 1)) rfl rfl (rfl) (by omega) (Nat.le_of_ble_eq_true rfl) ?_
      have hm : x_mw (g 140) p = if g 140 (x_mw (g 140) (p - 1)) ≤ g 140 p then p else x_mw (g 140) (p - 1) := by
        obtain ⟨q, rfl⟩ : ∃ q, p = q + 1 := ⟨p - 1, by omega⟩
        rfl
      have ih := ih (by omega)
      rw [show p + 1 - 1 = p by omega, hm] at ih
      refine r_ilt rfl (fun h3 => ?_) (fun h3 => ?_)
      · rw [if_neg (Int32.not_le.mpr h3)] at ih
        refine r_to 4 60 rfl rfl ?_
        simp only [x_up_app, x_ce_app, x_ce_same, Nat.reduceAdd, Nat.reduceEqDiff, ↓reduceIte, Nat.reduceSub, Nat.reduceMul, reduceCtorEq, nI_add]
        exact ih
      · rw [if_pos (Int32.not_lt.mp h3)] at ih
        refine r_to 4 60 rfl rfl ?_
        simp only [x_up_app, x_ce_app, x_ce_same, Nat.reduceAdd, Nat.reduceEqDiff, ↓reduceIte, Nat.reduceSub, Nat.reduceMul, reduceCtorEq, nI_add]
        exact ih
  refine r_to 4 60 rfl rfl ?_
  exact loop 1 h1 (Nat.le_refl _)
