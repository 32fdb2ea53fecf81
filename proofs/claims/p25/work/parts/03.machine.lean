/-! ===== the program run over a small picture of the heap: a skeleton of cells, and a store of their ints ===== -/
/-- a field: an int (none), null, or a cell -/
abbrev xF : Type := Option (Option Nat)
/-- a cell: an array of n ints, an object of a class, an array of references -/
abbrev xS : Type := Nat ⊕ ((Nat × List xF) ⊕ List (Option Nat))
abbrev xW : Type := List xS
abbrev xG : Type := Nat → Nat → Int32
abbrev xL : Type := List (Option Value)
abbrev xQ : Type := Option Value → xG → Prop
abbrev xCall : Type := Option (Nat × (Nat → Int32)) → Nat → List Value → xW → xG → xW → xQ → Prop
def x_at : xK → Nat → Option (Jvm.ClassFile.Instr × Nat × Nat × Nat)
  | [], _ => none
  | e :: k, pc => bif Nat.beq e.1 pc then some e.2 else x_at k pc
def x_up (g : xG) (k j : Nat) (x : Int32) : xG := fun a b => if a = k then (if b = j then x else g a b) else g a b
def x_z (g : xG) (k : Nat) : xG := fun a b => if a = k then 0 else g a b
def x_cp (g : xG) (k0 k1 sp dp n : Nat) : xG := fun a b => if a = k1 then va_cpy (g k0) (g k1) sp dp n b else g a b
/-- the one field of truth values, and what it may hold -/
def x_bool (ci k : Nat) : Bool := Nat.beq ci 9 && Nat.beq k 16
def x_01 (x : Int32) : Bool := decide (x = nI 0) || decide (x = nI 1)
/-- slots of a cell -/
def x_cs : xS → Nat
  | .inl n => n
  | .inr (.inl o) => o.2.length
  | .inr (.inr es) => es.length
def x_sz (S : xW) : Nat := (S.map x_cs).sum
/-- the slot ahead isn't a long's -/
def x_nl (L : xL) : Nat → Bool
  | 0 => true
  | k + 1 => match L[k]? with | some (some v) => !Nat.beq v.category 2 | _ => true
def x_s (mm : xM) (Ls : Option (Nat × (Nat → Int32))) (i : Jvm.ClassFile.Instr) (r1 r2 : Nat) (L : xL) (st : List Value) (S : xW) (g : xG) : Option (xL × List Value × xW × xG) :=
  match i with
  | .iconst _ => match x_csts[r1]? with | some v => some (L, v :: st, S, g) | none => none
  | .bipush _ => match x_csts[r1]? with | some v => some (L, v :: st, S, g) | none => none
  | .sipush _ => match x_csts[r1]? with | some v => some (L, v :: st, S, g) | none => none
  | .fconst _ => match x_csts[r1]? with | some v => some (L, v :: st, S, g) | none => none
  | .ldc _ => match x_csts[r1]? with | some (.int v) => some (L, .int v :: st, S, g) | some (.float v) => some (L, .float v :: st, S, g) | _ => none
  | .ldc_w _ => match x_csts[r1]? with | some (.int v) => some (L, .int v :: st, S, g) | some (.float v) => some (L, .float v :: st, S, g) | _ => none
  | .iload_n k => match L[k.val]? with | some (some (.int x)) => some (L, .int x :: st, S, g) | _ => none
  | .iload k => match L[k]? with | some (some (.int x)) => some (L, .int x :: st, S, g) | _ => none
  | .fload_n k => match L[k.val]? with | some (some (.float x)) => some (L, .float x :: st, S, g) | _ => none
  | .aload_n k => match L[k.val]? with | some (some (.ref x)) => some (L, .ref x :: st, S, g) | _ => none
  | .aload k => match L[k]? with | some (some (.ref x)) => some (L, .ref x :: st, S, g) | _ => none
  | .istore_n k => match st with
    | .int x :: r => match L[k.val]? with | some _ => bif x_nl L k.val then some (L.set k.val (some (.int x)), r, S, g) else none | none => none
    | _ => none
  | .istore k => match st with
    | .int x :: r => match L[k]? with | some _ => bif x_nl L k then some (L.set k (some (.int x)), r, S, g) else none | none => none
    | _ => none
  | .fstore_n k => match st with
    | .float x :: r => match L[k.val]? with | some _ => bif x_nl L k.val then some (L.set k.val (some (.float x)), r, S, g) else none | none => none
    | _ => none
  | .astore_n k => match st with
    | .ref x :: r => match L[k.val]? with | some _ => bif x_nl L k.val then some (L.set k.val (some (.ref x)), r, S, g) else none | none => none
    | _ => none
  | .iinc k _ => match L[k]? with
    | some (some (.int x)) => match x_csts[r1]? with | some (.int c) => bif x_nl L k then some (L.set k (some (.int (x + c))), st, S, g) else none | _ => none
    | _ => none
  | .ldc2_w _ => match x_csts[r1]? with | some (.long v) => some (L, .long v :: st, S, g) | _ => none
  | .lload_n k => match L[k.val]? with | some (some (.long x)) => some (L, .long x :: st, S, g) | _ => none
  | .lload k => match L[k]? with | some (some (.long x)) => some (L, .long x :: st, S, g) | _ => none
  | .lstore_n k => match st with
    | .long x :: r => match L[k.val]?, L[k.val + 1]? with | some _, some _ => bif x_nl L k.val then some ((L.set k.val (some (.long x))).set (k.val + 1) none, r, S, g) else none | _, _ => none
    | _ => none
  | .lstore k => match st with
    | .long x :: r => match L[k]?, L[k + 1]? with | some _, some _ => bif x_nl L k then some ((L.set k (some (.long x))).set (k + 1) none, r, S, g) else none | _, _ => none
    | _ => none
  | .i2l => match st with | .int x :: r => some (L, .long x.toInt64 :: r, S, g) | _ => none
  | .ladd => match st with | .long y :: .long x :: r => some (L, .long (x + y) :: r, S, g) | _ => none
  | .lmul => match st with | .long y :: .long x :: r => some (L, .long (x * y) :: r, S, g) | _ => none
  | .iadd => match st with | .int y :: .int x :: r => some (L, .int (x + y) :: r, S, g) | _ => none
  | .isub => match st with | .int y :: .int x :: r => some (L, .int (x - y) :: r, S, g) | _ => none
  | .imul => match st with | .int y :: .int x :: r => some (L, .int (x * y) :: r, S, g) | _ => none
  | .iand => match st with | .int y :: .int x :: r => some (L, .int (x &&& y) :: r, S, g) | _ => none
  | .ior => match st with | .int y :: .int x :: r => some (L, .int (x ||| y) :: r, S, g) | _ => none
  | .ixor => match st with | .int y :: .int x :: r => some (L, .int (x ^^^ y) :: r, S, g) | _ => none
  | .ishl => match st with | .int y :: .int x :: r => some (L, .int (x <<< (y &&& 31)) :: r, S, g) | _ => none
  | .ishr => match st with | .int y :: .int x :: r => some (L, .int (x >>> (y &&& 31)) :: r, S, g) | _ => none
  | .iushr => match st with | .int y :: .int x :: r => some (L, .int (x.toUInt32 >>> (y.toUInt32 &&& Int32.toUInt32 31)).toInt32 :: r, S, g) | _ => none
  | .i2f => match st with | .int x :: r => some (L, .float (FP.i2f x) :: r, S, g) | _ => none
  | .f2i => match st with | .float x :: r => some (L, .int (FP.f2i x) :: r, S, g) | _ => none
  | .fcmp op => match st with | .float y :: .float x :: r => some (L, .int (Op.cmpValue (FP.fcmp x y) op) :: r, S, g) | _ => none
  | .dup => match st with
    | .ref x :: r => some (L, .ref x :: .ref x :: r, S, g)
    | .int x :: r => some (L, .int x :: .int x :: r, S, g)
    | _ => none
  | .dup2 => match st with | .int x :: .ref y :: r => some (L, .int x :: .ref y :: .int x :: .ref y :: r, S, g) | _ => none
  | .arraylength => match st with | .ref 0 :: r => (match Ls with | some n => some (L, .int (nI n.1) :: r, S, g) | none => none) | _ => none
  | .getfield _ => match st with
    | .ref (q + 1) :: r => match S[q]? with
      | some (.inr (.inl (ci, fs))) => bif Nat.beq ci r1 then (match fs[r2]? with
        | some none => some (L, .int (g (q + 1) r2) :: r, S, g)
        | some (some (some k)) => some (L, .ref k :: r, S, g)
        | _ => none) else none
      | _ => none
    | _ => none
  | .putfield _ => match st with
    | .int x :: .ref (q + 1) :: r => match S[q]? with
      | some (.inr (.inl (ci, fs))) => bif Nat.beq ci r1 then (match (x_new r1)[r2]?, fs[r2]? with
        | some none, some none => bif !x_bool r1 r2 || x_01 x then some (L, r, S, x_up g (q + 1) r2 x) else none
        | _, _ => none) else none
      | _ => none
    | .ref v :: .ref (q + 1) :: r => match S[q]? with
      | some (.inr (.inl (ci, fs))) => bif Nat.beq ci r1 && Nat.beq ci mm.1 && mm.2.1 then (match (x_new r1)[r2]?, fs[r2]? with
        | some (some _), some (some _) => some (L, r, S.set q (.inr (.inl (ci, fs.set r2 (some (some v))))), g)
        | _, _ => none) else none
      | _ => none
    | _ => none
  | _ => none
def x_c (c : Jvm.ClassFile.Cond) (x y : Int32) : Prop := match c with
  | .eq => x = y
  | .ne => ¬ x = y
  | .lt => x < y
  | .ge => y ≤ x
  | .gt => y < x
  | .le => x ≤ y
def x_spl : Nat → List Value → List Value → Option (List Value × List Value)
  | 0, acc, st => some (acc, st)
  | n + 1, acc, v :: st => x_spl n (v :: acc) st
  | _ + 1, _, [] => none
def x_sw (tab : List (Nat × Nat)) (d : Nat) (x : Int32) (P : Nat → Prop) : Prop := (∀ q ∈ tab, x = nI q.1 → P q.2) ∧ ((∀ q ∈ tab, ¬ x = nI q.1) → P d)
abbrev xA : Type := Nat → xL → List Value → xW → xG → Prop
/-- one instruction: what must hold for the way on to be A's -/
def x_F (call : xCall) (mm : xM) (Ls : Option (Nat × (Nat → Int32))) (Se : xW) (Q : xQ) (A : xA) (pc : Nat) (L : xL) (st : List Value) (S : xW) (g : xG) : Prop :=
    match x_at mm.2.2.2.2 pc with
    | none => False
    | some (i, len, r1, r2) =>
      match i with
      | .goto _ => A r1 L st S g
      | .ifCond c _ => match st with
        | .int x :: r => (x_c c x 0 → A r1 L r S g) ∧ (¬ x_c c x 0 → A (pc + len) L r S g)
        | _ => False
      | .if_icmp c _ => match st with
        | .int y :: .int x :: r => (x_c c x y → A r1 L r S g) ∧ (¬ x_c c x y → A (pc + len) L r S g)
        | _ => False
      | .tableswitch _ _ _ _ => match st with
        | .int x :: r => match x_sws[r1]? with
          | some (tab, d) => x_sw tab d x (fun t => A t L r S g)
          | none => False
        | _ => False
      | .lookupswitch _ _ => match st with
        | .int x :: r => match x_sws[r1]? with
          | some (tab, d) => x_sw tab d x (fun t => A t L r S g)
          | none => False
        | _ => False
      | .iaload => match st with
        | .int i :: .ref 0 :: r => ∃ j n', Ls = some n' ∧ i = nI j ∧ j < n'.1 ∧ j < 65536 ∧ A (pc + len) L (.int (n'.2 j) :: r) S g
        | .int i :: .ref (q + 1) :: r => match S[q]? with
          | some (.inl m) => ∃ j, i = nI j ∧ j < m ∧ j < 65536 ∧ A (pc + len) L (.int (g (q + 1) j) :: r) S g
          | _ => False
        | _ => False
      | .iastore => match st with
        | .int x :: .int i :: .ref (q + 1) :: r => match S[q]? with
          | some (.inl m) => ∃ j, i = nI j ∧ j < m ∧ j < 65536 ∧ A (pc + len) L r S (x_up g (q + 1) j x)
          | _ => False
        | _ => False
      | .aaload => match st with
        | .int i :: .ref (q + 1) :: r => match S[q]? with
          | some (.inr (.inr es)) => ∃ j k, i = nI j ∧ es[j]? = some (some k) ∧ j < 65536 ∧ A (pc + len) L (.ref k :: r) S g
          | _ => False
        | _ => False
      | .aastore => match st with
        | .ref (v + 1) :: .int i :: .ref (q + 1) :: r => match S[q]? with
          | some (.inr (.inr es)) => ∃ j fs, i = nI j ∧ j < es.length ∧ j < 65536 ∧ S[v]? = some (.inr (.inl (2, fs))) ∧ A (pc + len) L r (S.set q (.inr (.inr (es.set j (some (v + 1)))))) g
          | _ => False
        | _ => False
      | .irem => match st with
        | .int y :: .int x :: r => ¬ y = 0 ∧ A (pc + len) L (.int (x - x / y * y) :: r) S g
        | _ => False
      | .idiv => match st with
        | .int y :: .int x :: r => ¬ y = 0 ∧ A (pc + len) L (.int (x / y) :: r) S g
        | _ => False
      | .lcmp => match st with
        | .long y :: .long x :: r => A (pc + len) L (.int (lg_cmp x y) :: r) S g
        | _ => False
      | .fdiv => match st with
        | .float y :: .float x :: r => vf_n32 (FP.fdiv x y) ∧ A (pc + len) L (.float (FP.fdiv x y) :: r) S g
        | _ => False
      | .fmul => match st with
        | .float y :: .float x :: r => vf_n32 (FP.fmul x y) ∧ A (pc + len) L (.float (FP.fmul x y) :: r) S g
        | _ => False
      | .fsub => match st with
        | .float y :: .float x :: r => vf_n32 (FP.fsub x y) ∧ A (pc + len) L (.float (FP.fsub x y) :: r) S g
        | _ => False
      | .new _ => (S.length + 1 ≤ Se.length ∧ x_sz S + (x_new r1).length ≤ x_sz Se) ∧ A (pc + len) L (.ref (S.length + 1) :: st) (S ++ [.inr (.inl (r1, x_new r1))]) (x_z g (S.length + 1))
      | .newarray .int => match st with
        | .int c :: r => ∃ m, c = nI m ∧ m < 65536 ∧ (S.length + 1 ≤ Se.length ∧ x_sz S + m ≤ x_sz Se) ∧ A (pc + len) L (.ref (S.length + 1) :: r) (S ++ [.inl m]) (x_z g (S.length + 1))
        | _ => False
      | .anewarray _ => match st with
        | .int c :: r => ∃ m, c = nI m ∧ m < 65536 ∧ r1 = 2 ∧ (S.length + 1 ≤ Se.length ∧ x_sz S + m ≤ x_sz Se) ∧ A (pc + len) L (.ref (S.length + 1) :: r) (S ++ [.inr (.inr (List.replicate m none))]) g
        | _ => False
      | .invokevirtual _ => match x_spl (r2 + 1) [] st with
        | some (As, r) => (r.map fun v => v.category).sum ≤ 8 ∧ ∃ Lc S1 Q1, (Lc = none ∨ Lc = Ls) ∧ call Lc r1 As S g S1 Q1 ∧ (S1.length ≤ Se.length ∧ x_sz S1 ≤ x_sz Se) ∧ ∀ v g1, Q1 v g1 → A (pc + len) L (v.toList ++ r) S1 g1
        | none => False
      | .invokestatic _ => bif Nat.beq r1 1001 then (match st with
          | .int c :: .int b :: .ref (q1 + 1) :: .int a :: .ref (q0 + 1) :: r => match S[q0]? with
            | some (.inl n0) => match S[q1]? with
              | some (.inl n1) => (r.map fun v => v.category).sum ≤ 8 ∧ ∃ a' b' c', a = nI a' ∧ b = nI b' ∧ c = nI c' ∧ a' + c' ≤ n0 ∧ b' + c' ≤ n1 ∧ a' + b' + c' < 65536 ∧ A (pc + len) L r S (x_cp g (q0 + 1) (q1 + 1) a' b' c')
              | _ => False
            | _ => False
          | _ => False)
        else (match x_spl r2 [] st with
          | some (As, r) => (r.map fun v => v.category).sum ≤ 8 ∧ ∃ Lc S1 Q1, (Lc = none ∨ Lc = Ls) ∧ call Lc r1 As S g S1 Q1 ∧ (S1.length ≤ Se.length ∧ x_sz S1 ≤ x_sz Se) ∧ ∀ v g1, Q1 v g1 → A (pc + len) L (v.toList ++ r) S1 g1
          | none => False)
      | .invokespecial _ => bif Nat.beq r1 1000 then (match st with
          | .ref _ :: r => (r.map fun v => v.category).sum ≤ 8 ∧ A (pc + len) L r S g
          | _ => False)
        else (match x_spl (r2 + 1) [] st with
          | some (As, r) => (r.map fun v => v.category).sum ≤ 8 ∧ ∃ Lc S1 Q1, (Lc = none ∨ Lc = Ls) ∧ call Lc r1 As S g S1 Q1 ∧ (S1.length ≤ Se.length ∧ x_sz S1 ≤ x_sz Se) ∧ ∀ v g1, Q1 v g1 → A (pc + len) L (v.toList ++ r) S1 g1
          | none => False)
      | .ireturn => match st with
        | [.int v] => (∃ ty, mm.2.2.1 = some ty ∧ narrow ty (.int v) = .int v) ∧ S = Se ∧ Q (some (.int v)) g
        | _ => False
      | .lreturn => match st with
        | [.long v] => mm.2.2.1 = some .long ∧ S = Se ∧ Q (some (.long v)) g
        | _ => False
      | .return_ => st = [] ∧ mm.2.2.1 = none ∧ S = Se ∧ Q none g
      | i => match x_s mm Ls i r1 r2 L st S g with
        | some (L', st', S', g') => A (pc + len) L' st' S' g'
        | none => False
/-- the least of it: from here the run comes to its end, with Q -/
def Rn (call : xCall) (mm : xM) (Ls : Option (Nat × (Nat → Int32))) (Se : xW) (Q : xQ) : xA := fun pc L st S g =>
  ∀ P : xA, (∀ (pc : Nat) (L : xL) (st : List Value) (S : xW) (g : xG) (A : xA), (∀ (pc : Nat) (L : xL) (st : List Value) (S : xW) (g : xG), A pc L st S g → P pc L st S g) → x_F call mm Ls Se Q A pc L st S g → P pc L st S g) → P pc L st S g
theorem Rn.in {call : xCall} {mm : xM} {Ls : Option (Nat × (Nat → Int32))} {Se : xW} {Q : xQ} {pc : Nat} {L : xL} {st : List Value} {S : xW} {g : xG} (h : x_F call mm Ls Se Q (Rn call mm Ls Se Q) pc L st S g) : Rn call mm Ls Se Q pc L st S g :=
  fun P hP => hP pc L st S g _ (fun _ _ _ _ _ h => h P hP) h
/-- a method called: by its number, to the depth d -/
def x_cl : Nat → xCall
  | 0, _, _, _, _, _, _, _ => False
  | d + 1, Ls, t, As, S, g, Se, Q => ∃ e : xM × MethodName × ByteArray × Nat × Nat, mtA[t]? = some e ∧
      (e.2.2.2.1 = 1 ∨ ∃ q fs Bs, As = .ref (q + 1) :: Bs ∧ S[q]? = some (.inr (.inl (e.1.1, fs)))) ∧
      As.length ≤ e.1.2.2.2.1 ∧ (∀ v ∈ As, v.category = 1) ∧ (S.length ≤ Se.length ∧ x_sz S ≤ x_sz Se) ∧
      Rn (x_cl d) e.1 Ls Se Q 0 (As.map some ++ List.replicate (e.1.2.2.2.1 - As.length) none) [] S g
