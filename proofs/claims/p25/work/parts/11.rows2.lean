/-! ===== branches, arrays, calls, returns ===== -/
section RR
variable {d : Nat} {mm : xM} {Q : xQ} {pc : Nat} {L : xL} {r : List Value} {g : xG} {len r1 r2 : Nat} {x y : Int32} {off : Int}
theorem r_if {c : Jvm.ClassFile.Cond} (h : x_at mm.2.2.2.2 pc = some (.ifCond c off, len, r1, r2)) (kt : x_c c x 0 → Rx d mm Q r1 L r g) (kf : ¬ x_c c x 0 → Rx d mm Q (pc + len) L r g) : Rx d mm Q pc L (.int x :: r) g := by
  refine Rn.in ?_
  unfold x_F
  rw [h]
  exact ⟨kt, kf⟩
theorem r_ic {c : Jvm.ClassFile.Cond} (h : x_at mm.2.2.2.2 pc = some (.if_icmp c off, len, r1, r2)) (kt : x_c c x y → Rx d mm Q r1 L r g) (kf : ¬ x_c c x y → Rx d mm Q (pc + len) L r g) : Rx d mm Q pc L (.int y :: .int x :: r) g := by
  refine Rn.in ?_
  unfold x_F
  rw [h]
  exact ⟨kt, kf⟩
theorem r_eq0 (h : x_at mm.2.2.2.2 pc = some (.ifCond .eq off, len, r1, r2)) (kt : x = 0 → Rx d mm Q r1 L r g) (kf : ¬ x = 0 → Rx d mm Q (pc + len) L r g) : Rx d mm Q pc L (.int x :: r) g := r_if h kt kf
theorem r_ne0 (h : x_at mm.2.2.2.2 pc = some (.ifCond .ne off, len, r1, r2)) (kt : ¬ x = 0 → Rx d mm Q r1 L r g) (kf : x = 0 → Rx d mm Q (pc + len) L r g) : Rx d mm Q pc L (.int x :: r) g := r_if h kt (fun z => kf (Classical.not_not.mp z))
theorem r_lt0 (h : x_at mm.2.2.2.2 pc = some (.ifCond .lt off, len, r1, r2)) (kt : x < 0 → Rx d mm Q r1 L r g) (kf : ¬ x < 0 → Rx d mm Q (pc + len) L r g) : Rx d mm Q pc L (.int x :: r) g := r_if h kt kf
theorem r_ge0 (h : x_at mm.2.2.2.2 pc = some (.ifCond .ge off, len, r1, r2)) (kt : 0 ≤ x → Rx d mm Q r1 L r g) (kf : ¬ 0 ≤ x → Rx d mm Q (pc + len) L r g) : Rx d mm Q pc L (.int x :: r) g := r_if h kt kf
theorem r_gt0 (h : x_at mm.2.2.2.2 pc = some (.ifCond .gt off, len, r1, r2)) (kt : 0 < x → Rx d mm Q r1 L r g) (kf : ¬ 0 < x → Rx d mm Q (pc + len) L r g) : Rx d mm Q pc L (.int x :: r) g := r_if h kt kf
theorem r_le0 (h : x_at mm.2.2.2.2 pc = some (.ifCond .le off, len, r1, r2)) (kt : x ≤ 0 → Rx d mm Q r1 L r g) (kf : ¬ x ≤ 0 → Rx d mm Q (pc + len) L r g) : Rx d mm Q pc L (.int x :: r) g := r_if h kt kf
theorem r_ieq (h : x_at mm.2.2.2.2 pc = some (.if_icmp .eq off, len, r1, r2)) (kt : x = y → Rx d mm Q r1 L r g) (kf : ¬ x = y → Rx d mm Q (pc + len) L r g) : Rx d mm Q pc L (.int y :: .int x :: r) g := r_ic h kt kf
theorem r_ine (h : x_at mm.2.2.2.2 pc = some (.if_icmp .ne off, len, r1, r2)) (kt : ¬ x = y → Rx d mm Q r1 L r g) (kf : x = y → Rx d mm Q (pc + len) L r g) : Rx d mm Q pc L (.int y :: .int x :: r) g := r_ic h kt (fun z => kf (Classical.not_not.mp z))
theorem r_ilt (h : x_at mm.2.2.2.2 pc = some (.if_icmp .lt off, len, r1, r2)) (kt : x < y → Rx d mm Q r1 L r g) (kf : ¬ x < y → Rx d mm Q (pc + len) L r g) : Rx d mm Q pc L (.int y :: .int x :: r) g := r_ic h kt kf
theorem r_ige (h : x_at mm.2.2.2.2 pc = some (.if_icmp .ge off, len, r1, r2)) (kt : y ≤ x → Rx d mm Q r1 L r g) (kf : ¬ y ≤ x → Rx d mm Q (pc + len) L r g) : Rx d mm Q pc L (.int y :: .int x :: r) g := r_ic h kt kf
theorem r_igt (h : x_at mm.2.2.2.2 pc = some (.if_icmp .gt off, len, r1, r2)) (kt : y < x → Rx d mm Q r1 L r g) (kf : ¬ y < x → Rx d mm Q (pc + len) L r g) : Rx d mm Q pc L (.int y :: .int x :: r) g := r_ic h kt kf
theorem r_ile (h : x_at mm.2.2.2.2 pc = some (.if_icmp .le off, len, r1, r2)) (kt : x ≤ y → Rx d mm Q r1 L r g) (kf : ¬ x ≤ y → Rx d mm Q (pc + len) L r g) : Rx d mm Q pc L (.int y :: .int x :: r) g := r_ic h kt kf
/-! of numbers -/
theorem n_ilt {a b : Nat} (h : x_at mm.2.2.2.2 pc = some (.if_icmp .lt off, len, r1, r2)) (ha : a < 2 ^ 31) (hb : b < 2 ^ 31) (kt : a < b → Rx d mm Q r1 L r g) (kf : b ≤ a → Rx d mm Q (pc + len) L r g) : Rx d mm Q pc L (.int (nI b) :: .int (nI a) :: r) g := r_ic h (fun z => kt ((nI_ltI ha hb).mp z)) (fun z => kf (Nat.not_lt.mp fun w => z ((nI_ltI ha hb).mpr w)))
theorem n_ige {a b : Nat} (h : x_at mm.2.2.2.2 pc = some (.if_icmp .ge off, len, r1, r2)) (ha : a < 2 ^ 31) (hb : b < 2 ^ 31) (kt : b ≤ a → Rx d mm Q r1 L r g) (kf : a < b → Rx d mm Q (pc + len) L r g) : Rx d mm Q pc L (.int (nI b) :: .int (nI a) :: r) g := r_ic h (fun z => kt ((nI_leI hb ha).mp z)) (fun z => kf (Nat.not_le.mp fun w => z ((nI_leI hb ha).mpr w)))
theorem n_igt {a b : Nat} (h : x_at mm.2.2.2.2 pc = some (.if_icmp .gt off, len, r1, r2)) (ha : a < 2 ^ 31) (hb : b < 2 ^ 31) (kt : b < a → Rx d mm Q r1 L r g) (kf : a ≤ b → Rx d mm Q (pc + len) L r g) : Rx d mm Q pc L (.int (nI b) :: .int (nI a) :: r) g := r_ic h (fun z => kt ((nI_ltI hb ha).mp z)) (fun z => kf (Nat.not_lt.mp fun w => z ((nI_ltI hb ha).mpr w)))
theorem n_ile {a b : Nat} (h : x_at mm.2.2.2.2 pc = some (.if_icmp .le off, len, r1, r2)) (ha : a < 2 ^ 31) (hb : b < 2 ^ 31) (kt : a ≤ b → Rx d mm Q r1 L r g) (kf : b < a → Rx d mm Q (pc + len) L r g) : Rx d mm Q pc L (.int (nI b) :: .int (nI a) :: r) g := r_ic h (fun z => kt ((nI_leI ha hb).mp z)) (fun z => kf (Nat.not_le.mp fun w => z ((nI_leI ha hb).mpr w)))
theorem n_ieq {a b : Nat} (h : x_at mm.2.2.2.2 pc = some (.if_icmp .eq off, len, r1, r2)) (ha : a < 2 ^ 31) (hb : b < 2 ^ 31) (kt : a = b → Rx d mm Q r1 L r g) (kf : ¬ a = b → Rx d mm Q (pc + len) L r g) : Rx d mm Q pc L (.int (nI b) :: .int (nI a) :: r) g := r_ic h (fun z => kt ((nI_eq ha hb).mp z)) (fun z => kf (fun w => z ((nI_eq ha hb).mpr w)))
theorem n_ine {a b : Nat} (h : x_at mm.2.2.2.2 pc = some (.if_icmp .ne off, len, r1, r2)) (ha : a < 2 ^ 31) (hb : b < 2 ^ 31) (kt : ¬ a = b → Rx d mm Q r1 L r g) (kf : a = b → Rx d mm Q (pc + len) L r g) : Rx d mm Q pc L (.int (nI b) :: .int (nI a) :: r) g := r_ine h (fun z => kt (fun w => z ((nI_eq ha hb).mpr w))) (fun z => kf ((nI_eq ha hb).mp z))
/-! of a truth value -/
theorem t_eq1 (h : x_at mm.2.2.2.2 pc = some (.ifCond .eq off, len, r1, r2)) (k : Rx d mm Q (pc + len) L r g) : Rx d mm Q pc L (.int (nI 1) :: r) g := r_eq0 h (fun z => absurd z (by decide)) (fun _ => k)
theorem t_eq0 (h : x_at mm.2.2.2.2 pc = some (.ifCond .eq off, len, r1, r2)) (k : Rx d mm Q r1 L r g) : Rx d mm Q pc L (.int (nI 0) :: r) g := r_eq0 h (fun _ => k) (fun z => absurd rfl z)
theorem t_ne1 (h : x_at mm.2.2.2.2 pc = some (.ifCond .ne off, len, r1, r2)) (k : Rx d mm Q r1 L r g) : Rx d mm Q pc L (.int (nI 1) :: r) g := r_ne0 h (fun _ => k) (fun z => absurd z (by decide))
theorem t_ne0 (h : x_at mm.2.2.2.2 pc = some (.ifCond .ne off, len, r1, r2)) (k : Rx d mm Q (pc + len) L r g) : Rx d mm Q pc L (.int (nI 0) :: r) g := r_ne0 h (fun z => absurd rfl z) (fun _ => k)
/-! arrays -/
theorem r_ald {i : Int32} {n j q : Nat} (h : x_at mm.2.2.2.2 pc = some (.iaload, len, r1, r2)) (hS : SK[q]? = some (.inl n)) (hi : i = nI j) (hj : j < n) (hn : n ≤ 65536) (k : Rx d mm Q (pc + len) L (.int (g (q + 1) j) :: r) g) : Rx d mm Q pc L (.int i :: .ref (q + 1) :: r) g := by
  refine Rn.in ?_
  unfold x_F
  rw [h]
  dsimp only
  rw [hS]
  exact ⟨j, hi, hj, by omega, k⟩
theorem r_ast {i : Int32} {n j q : Nat} (h : x_at mm.2.2.2.2 pc = some (.iastore, len, r1, r2)) (hS : SK[q]? = some (.inl n)) (hi : i = nI j) (hj : j < n) (hn : n ≤ 65536) (k : Rx d mm Q (pc + len) L r (x_up g (q + 1) j x)) : Rx d mm Q pc L (.int x :: .int i :: .ref (q + 1) :: r) g := by
  refine Rn.in ?_
  unfold x_F
  rw [h]
  dsimp only
  rw [hS]
  exact ⟨j, hi, hj, by omega, k⟩
theorem r_aald {i : Int32} {es : List (Option Nat)} {j k0 q : Nat} (h : x_at mm.2.2.2.2 pc = some (.aaload, len, r1, r2)) (hS : SK[q]? = some (.inr (.inr es))) (hi : i = nI j) (hj : es[j]? = some (some k0)) (hn : es.length ≤ 65536) (k : Rx d mm Q (pc + len) L (.ref k0 :: r) g) : Rx d mm Q pc L (.int i :: .ref (q + 1) :: r) g := by
  refine Rn.in ?_
  unfold x_F
  rw [h]
  dsimp only
  rw [hS]
  have := (List.getElem?_eq_some_iff.mp hj).1
  exact ⟨j, k0, hi, hj, by omega, k⟩
theorem r_rem (h : x_at mm.2.2.2.2 pc = some (.irem, len, r1, r2)) (hy : ¬ y = 0) (k : Rx d mm Q (pc + len) L (.int (x - x / y * y) :: r) g) : Rx d mm Q pc L (.int y :: .int x :: r) g := by
  refine Rn.in ?_
  unfold x_F
  rw [h]
  exact ⟨hy, k⟩
theorem n_rem {a b : Nat} (h : x_at mm.2.2.2.2 pc = some (.irem, len, r1, r2)) (hb : 0 < b) (ha : a < 2 ^ 31) (hb2 : b < 2 ^ 31) (k : Rx d mm Q (pc + len) L (.int (nI (a % b)) :: r) g) : Rx d mm Q pc L (.int (nI b) :: .int (nI a) :: r) g :=
  r_rem h (nI_ne0 hb hb2) (by rw [pk_rem ha hb hb2]; exact k)
theorem r_fdiv {u v : UInt32} (h : x_at mm.2.2.2.2 pc = some (.fdiv, len, r1, r2)) (hy : vf_n32 (FP.fdiv u v)) (k : Rx d mm Q (pc + len) L (.float (FP.fdiv u v) :: r) g) : Rx d mm Q pc L (.float v :: .float u :: r) g := by
  refine Rn.in ?_
  unfold x_F
  rw [h]
  exact ⟨hy, k⟩
theorem r_fmul {u v : UInt32} (h : x_at mm.2.2.2.2 pc = some (.fmul, len, r1, r2)) (hy : vf_n32 (FP.fmul u v)) (k : Rx d mm Q (pc + len) L (.float (FP.fmul u v) :: r) g) : Rx d mm Q pc L (.float v :: .float u :: r) g := by
  refine Rn.in ?_
  unfold x_F
  rw [h]
  exact ⟨hy, k⟩
theorem r_fsub {u v : UInt32} (h : x_at mm.2.2.2.2 pc = some (.fsub, len, r1, r2)) (hy : vf_n32 (FP.fsub u v)) (k : Rx d mm Q (pc + len) L (.float (FP.fsub u v) :: r) g) : Rx d mm Q pc L (.float v :: .float u :: r) g := by
  refine Rn.in ?_
  unfold x_F
  rw [h]
  exact ⟨hy, k⟩
theorem r_tsw {a1 a2 a3 : Int} {a4 : Array Int} {tab : List (Nat × Nat)} {dd : Nat} (h : x_at mm.2.2.2.2 pc = some (.tableswitch a1 a2 a3 a4, len, r1, r2)) (hs : x_sws[r1]? = some (tab, dd)) (k : x_sw tab dd x (fun t => Rx d mm Q t L r g)) : Rx d mm Q pc L (.int x :: r) g := by
  refine Rn.in ?_
  unfold x_F
  rw [h]
  dsimp only
  rw [hs]
  exact k
theorem r_lsw {a1 : Int} {a4 : Array (Int × Int)} {tab : List (Nat × Nat)} {dd : Nat} (h : x_at mm.2.2.2.2 pc = some (.lookupswitch a1 a4, len, r1, r2)) (hs : x_sws[r1]? = some (tab, dd)) (k : x_sw tab dd x (fun t => Rx d mm Q t L r g)) : Rx d mm Q pc L (.int x :: r) g := by
  refine Rn.in ?_
  unfold x_F
  rw [h]
  dsimp only
  rw [hs]
  exact k
/-! calls -/
theorem r_inv {i t np : Nat} {st As : List Value} (h : x_at mm.2.2.2.2 pc = some (.invokevirtual i, len, t, np)) (hs : x_spl (np + 1) [] st = some (As, r)) (hc : Nat.ble ((r.map fun v => v.category).sum) 8 = true) (c : Cx d t As g (fun v g1 => Rx d mm Q (pc + len) L (v.toList ++ r) g1)) : Rx d mm Q pc L st g := by
  refine Rn.in ?_
  unfold x_F
  rw [h]
  dsimp only
  rw [hs]
  exact ⟨Nat.le_of_ble_eq_true hc, none, SK, _, Or.inl rfl, c, ⟨Nat.le_refl _, Nat.le_refl _⟩, fun v g1 k => k⟩
theorem r_ins {i t np : Nat} {st As : List Value} (h : x_at mm.2.2.2.2 pc = some (.invokestatic i, len, t, np)) (h1 : Nat.beq t 1001 = false) (hs : x_spl np [] st = some (As, r)) (hc : Nat.ble ((r.map fun v => v.category).sum) 8 = true) (c : Cx d t As g (fun v g1 => Rx d mm Q (pc + len) L (v.toList ++ r) g1)) : Rx d mm Q pc L st g := by
  refine Rn.in ?_
  unfold x_F
  rw [h]
  dsimp only
  rw [h1, hs]
  exact ⟨Nat.le_of_ble_eq_true hc, none, SK, _, Or.inl rfl, c, ⟨Nat.le_refl _, Nat.le_refl _⟩, fun v g1 k => k⟩
theorem r_cpy {i r2 q0 q1 n0 n1 a b c : Nat} (h : x_at mm.2.2.2.2 pc = some (.invokestatic i, len, 1001, r2)) (h0 : SK[q0]? = some (.inl n0)) (h1 : SK[q1]? = some (.inl n1)) (hc : Nat.ble ((r.map fun v => v.category).sum) 8 = true) (ha : a + c ≤ n0) (hb : b + c ≤ n1) (hs : a + b + c < 65536) (k : Rx d mm Q (pc + len) L r (x_cp g (q0 + 1) (q1 + 1) a b c)) : Rx d mm Q pc L (.int (nI c) :: .int (nI b) :: .ref (q1 + 1) :: .int (nI a) :: .ref (q0 + 1) :: r) g := by
  refine Rn.in ?_
  unfold x_F
  rw [h]
  show (match SK[q0]? with | some (.inl n0) => _ | _ => False)
  rw [h0]
  show (match SK[q1]? with | some (.inl n0) => _ | _ => False)
  rw [h1]
  exact ⟨Nat.le_of_ble_eq_true hc, a, b, c, rfl, rfl, rfl, ha, hb, hs, k⟩
theorem r_iret (h : x_at mm.2.2.2.2 pc = some (.ireturn, len, r1, r2)) (hr : mm.2.2.1 = some .int) (hq : Q (some (.int x)) g) : Rx d mm Q pc L [.int x] g := by
  refine Rn.in ?_
  unfold x_F
  rw [h]
  exact ⟨⟨_, hr, rfl⟩, rfl, hq⟩
theorem r_zret (h : x_at mm.2.2.2.2 pc = some (.ireturn, len, r1, r2)) (hr : mm.2.2.1 = some .boolean) (h01 : x_01 x = true) (hq : Q (some (.int x)) g) : Rx d mm Q pc L [.int x] g := by
  refine Rn.in ?_
  unfold x_F
  rw [h]
  exact ⟨⟨_, hr, (x_01_ok h01).1⟩, rfl, hq⟩
theorem r_lret {y : Int64} (h : x_at mm.2.2.2.2 pc = some (.lreturn, len, r1, r2)) (hr : mm.2.2.1 = some .long) (hq : Q (some (.long y)) g) : Rx d mm Q pc L [.long y] g := by
  refine Rn.in ?_
  unfold x_F
  rw [h]
  exact ⟨hr, rfl, hq⟩
theorem r_div (h : x_at mm.2.2.2.2 pc = some (.idiv, len, r1, r2)) (hy : ¬ y = 0) (k : Rx d mm Q (pc + len) L (.int (x / y) :: r) g) : Rx d mm Q pc L (.int y :: .int x :: r) g := by
  refine Rn.in ?_
  unfold x_F
  rw [h]
  exact ⟨hy, k⟩
theorem r_lcmp {x y : Int64} (h : x_at mm.2.2.2.2 pc = some (.lcmp, len, r1, r2)) (k : Rx d mm Q (pc + len) L (.int (lg_cmp x y) :: r) g) : Rx d mm Q pc L (.long y :: .long x :: r) g := by
  refine Rn.in ?_
  unfold x_F
  rw [h]
  exact k
theorem r_ret (h : x_at mm.2.2.2.2 pc = some (.return_, len, r1, r2)) (hr : mm.2.2.1 = none) (hq : Q none g) : Rx d mm Q pc L [] g := by
  refine Rn.in ?_
  unfold x_F
  rw [h]
  exact ⟨rfl, hr, rfl, hq⟩
/-- a method begins -/
theorem r_cl {t np : Nat} {As : List Value} {y : MethodName} {b : ByteArray} {kd : Nat} {L0 : xL} (h : mtA[t]? = some (mm, y, b, kd, np)) (hv : kd = 1 ∨ ∃ q fs Bs, As = .ref (q + 1) :: Bs ∧ SK[q]? = some (.inr (.inl (mm.1, fs)))) (h1 : Nat.ble As.length mm.2.2.2.1 = true) (h2 : As.all (fun v => Nat.beq v.category 1) = true) (h3 : As.map some ++ List.replicate (mm.2.2.2.1 - As.length) none = L0) (k : Rx d mm Q 0 L0 [] g) : Cx (d + 1) t As g Q := by
  subst h3
  exact ⟨_, h, hv, Nat.le_of_ble_eq_true h1, fun v hv => Nat.eq_of_beq_eq_true (List.all_eq_true.mp h2 v hv), ⟨Nat.le_refl _, Nat.le_refl _⟩, k⟩
end RR
