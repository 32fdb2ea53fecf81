/-- what the tables say of a field's operand: (owner, index, class, field) -/
def rF (q : Nat × Nat × Nat × Nat) : Prop := ∃ r : vw_C, vwCl[q.2.2.1]? = some r ∧ q.2.2.2 < r.2.2 ∧ (r.2.1 q.2.2.2).1 = r.1 ∧ (Jvm.Cond.fieldLink (x_own q.1) q.2.1 r.1 (r.2.1 q.2.2.2).2.1 (r.2.1 q.2.2.2).2.2.1 ∈ tables_1 ∨ (q.1 ≠ q.2.2.1 ∧ Jvm.Cond.fieldLinkNest (x_own q.1) q.2.1 r.1 (r.2.1 q.2.2.2).2.1 (r.2.1 q.2.2.2).2.2.1 RX8 ∈ tables_1))
/-- of a method's operand: (owner, index, method, parameters) -/
def rM (q : Nat × Nat × Nat × Nat) : Prop := (∃ e : xM × MethodName × ByteArray × Nat × Nat, mtA[q.2.2.1]? = some e ∧ q.2.2.2 = e.2.2.2.2 ∧ (Jvm.Cond.methodLink (x_own q.1) q.2.1 e.2.1 ∈ tables_1 ∨ Jvm.Cond.methodLinkNest (x_own q.1) q.2.1 e.2.1 RX8 ∈ tables_1)) ∨ (q.2.2.1 = 1000 ∧ Jvm.Cond.methodLink (x_own q.1) q.2.1 Lib.objectInit ∈ tables_1) ∨ (q.2.2.1 = 1001 ∧ Jvm.Cond.methodLink (x_own q.1) q.2.1 arraycopyName ∈ tables_1)
def rN (q : Nat × Nat × Nat) : Prop := ∃ r : vw_C, vwCl[q.2.2]? = some r ∧ Jvm.Cond.classLink (x_own q.1) q.2.1 r.1 ∈ tables_1
def rC (q : Nat × Nat × Nat) : Prop := (∃ x : Int32, x_csts[q.2.2]? = some (.int x) ∧ Jvm.Cond.constant (x_own q.1) q.2.1 x ∈ tables_1) ∨ (∃ x : UInt32, x_csts[q.2.2]? = some (.float x) ∧ Jvm.Cond.constantFloat (x_own q.1) q.2.1 x ∈ tables_1) ∨ (∃ x : Int64, x_csts[q.2.2]? = some (.long x) ∧ Jvm.Cond.constantLong (x_own q.1) q.2.1 x ∈ tables_1)
/-- of a class by its number -/
def rK (r : vw_C) : Prop := Jvm.Cond.instantiable r.1 r.2.2 ∈ tables_1 ∧ Jvm.Cond.initialized r.1 ∈ tables_1 ∧ (∀ w ∈ u_ws r.1 r.2.1 r.2.2, w ∈ tables_1) ∧ (∀ a, a < r.2.2 → ∀ b, b < r.2.2 → a ≠ b → (r.2.1 a).2.1 ≠ (r.2.1 b).2.1) ∧ ∃ ty : Nat → FieldType, ∀ k, k < r.2.2 → parseFieldDescriptor (r.2.1 k).2.2.1 = some (ty k)
/-- of a method -/
def mOk (e : xM × MethodName × ByteArray × Nat × Nat) : Prop :=
  (∀ q ∈ e.1.2.2.2.2, okE e.1.1 e.2.2.1 q = true) ∧ Jvm.Cond.code e.2.1 e.2.2.1 e.1.2.2.2.1 e.1.2.2.1 ∈ tables_1 ∧ x_own e.1.1 = e.2.1.cls ∧ Jvm.Cond.initialized e.2.1.cls ∈ tables_1 ∧ plainFor e.2.1 = true ∧ (e.2.1.cls ≠ "java/lang/invoke/MethodHandle" ∧ e.2.1.cls ≠ "java/lang/invoke/VarHandle" ∧ (parseMethodDescriptor e.2.1.desc).map (fun d => d.parameters.length) = some e.2.2.2.2) ∧ e.1.2.2.2.1 ≤ 17 ∧ (e.1.2.1 = true → e.2.1.name = "<init>") ∧
  ((e.2.2.2.1 = 0 ∧ Jvm.Cond.instanceMethod e.2.1 ∈ tables_1 ∧ Jvm.Cond.selects e.2.1.cls e.2.1 e.2.1 ∈ lw_tbl ∧ ∃ r : vw_C, vwCl[e.1.1]? = some r ∧ r.1 = e.2.1.cls) ∨ (e.2.2.2.1 = 1 ∧ Jvm.Cond.static e.2.1 ∈ tables_1) ∨ (e.2.2.2.1 = 2 ∧ e.2.1.name = "<init>" ∧ Jvm.Cond.instanceMethod e.2.1 ∈ tables_1 ∧ e.1.2.2.1 = none))
set_option maxRecDepth 20000 in
theorem rF_ok_0 : rF (0, 9, 0, 0) := ⟨_, rfl, by decide, rfl, Or.inl (List.mem_of_getElem? (i := 118) (by decide +kernel))⟩
set_option maxRecDepth 20000 in
theorem rF_ok_1 : rF (0, 15, 0, 1) := ⟨_, rfl, by decide, rfl, Or.inl (List.mem_of_getElem? (i := 120) (by decide +kernel))⟩
set_option maxRecDepth 20000 in
theorem rF_ok_2 : rF (0, 18, 0, 2) := ⟨_, rfl, by decide, rfl, Or.inl (List.mem_of_getElem? (i := 122) (by decide +kernel))⟩
set_option maxRecDepth 20000 in
theorem rF_ok_3 : rF (0, 21, 0, 3) := ⟨_, rfl, by decide, rfl, Or.inl (List.mem_of_getElem? (i := 124) (by decide +kernel))⟩
set_option maxRecDepth 20000 in
theorem rF_ok_4 : rF (0, 24, 0, 4) := ⟨_, rfl, by decide, rfl, Or.inl (List.mem_of_getElem? (i := 126) (by decide +kernel))⟩
set_option maxRecDepth 20000 in
theorem rF_ok_5 : rF (0, 33, 0, 5) := ⟨_, rfl, by decide, rfl, Or.inl (List.mem_of_getElem? (i := 128) (by decide +kernel))⟩
set_option maxRecDepth 20000 in
theorem rF_ok_6 : rF (0, 37, 0, 6) := ⟨_, rfl, by decide, rfl, Or.inl (List.mem_of_getElem? (i := 129) (by decide +kernel))⟩
set_option maxRecDepth 20000 in
theorem rF_ok_7 : rF (1, 9, 1, 0) := ⟨_, rfl, by decide, rfl, Or.inl (List.mem_of_getElem? (i := 33) (by decide +kernel))⟩
set_option maxRecDepth 20000 in
theorem rF_ok_8 : rF (1, 15, 1, 1) := ⟨_, rfl, by decide, rfl, Or.inl (List.mem_of_getElem? (i := 37) (by decide +kernel))⟩
set_option maxRecDepth 20000 in
theorem rF_ok_9 : rF (1, 18, 1, 2) := ⟨_, rfl, by decide, rfl, Or.inl (List.mem_of_getElem? (i := 39) (by decide +kernel))⟩
set_option maxRecDepth 20000 in
theorem rF_ok_10 : rF (1, 27, 1, 3) := ⟨_, rfl, by decide, rfl, Or.inl (List.mem_of_getElem? (i := 41) (by decide +kernel))⟩
set_option maxRecDepth 20000 in
theorem rF_ok_11 : rF (2, 12, 2, 0) := ⟨_, rfl, by decide, rfl, Or.inl (List.mem_of_getElem? (i := 146) (by decide +kernel))⟩
set_option maxRecDepth 20000 in
theorem rF_ok_12 : rF (2, 21, 2, 1) := ⟨_, rfl, by decide, rfl, Or.inl (List.mem_of_getElem? (i := 148) (by decide +kernel))⟩
set_option maxRecDepth 20000 in
theorem rF_ok_13 : rF (2, 28, 2, 2) := ⟨_, rfl, by decide, rfl, Or.inl (List.mem_of_getElem? (i := 150) (by decide +kernel))⟩
set_option maxRecDepth 20000 in
theorem rF_ok_14 : rF (2, 32, 2, 3) := ⟨_, rfl, by decide, rfl, Or.inl (List.mem_of_getElem? (i := 152) (by decide +kernel))⟩
set_option maxRecDepth 20000 in
theorem rF_ok_15 : rF (2, 36, 2, 4) := ⟨_, rfl, by decide, rfl, Or.inl (List.mem_of_getElem? (i := 154) (by decide +kernel))⟩
set_option maxRecDepth 20000 in
theorem rF_ok_16 : rF (2, 49, 2, 5) := ⟨_, rfl, by decide, rfl, Or.inl (List.mem_of_getElem? (i := 156) (by decide +kernel))⟩
set_option maxRecDepth 20000 in
theorem rF_ok_17 : rF (2, 52, 2, 6) := ⟨_, rfl, by decide, rfl, Or.inl (List.mem_of_getElem? (i := 158) (by decide +kernel))⟩
set_option maxRecDepth 20000 in
theorem rF_ok_18 : rF (2, 55, 2, 7) := ⟨_, rfl, by decide, rfl, Or.inl (List.mem_of_getElem? (i := 160) (by decide +kernel))⟩
set_option maxRecDepth 20000 in
theorem rF_ok_19 : rF (2, 58, 2, 8) := ⟨_, rfl, by decide, rfl, Or.inl (List.mem_of_getElem? (i := 162) (by decide +kernel))⟩
set_option maxRecDepth 20000 in
theorem rF_ok_20 : rF (2, 61, 2, 9) := ⟨_, rfl, by decide, rfl, Or.inl (List.mem_of_getElem? (i := 164) (by decide +kernel))⟩
set_option maxRecDepth 20000 in
theorem rF_ok_21 : rF (2, 81, 1, 0) := ⟨_, rfl, by decide, rfl, Or.inr ⟨by decide, List.mem_of_getElem? (i := 34) (by decide +kernel)⟩⟩
set_option maxRecDepth 20000 in
theorem rF_ok_22 : rF (2, 86, 6, 1) := ⟨_, rfl, by decide, rfl, Or.inr ⟨by decide, List.mem_of_getElem? (i := 66) (by decide +kernel)⟩⟩
set_option maxRecDepth 20000 in
theorem rF_ok_23 : rF (2, 89, 6, 0) := ⟨_, rfl, by decide, rfl, Or.inr ⟨by decide, List.mem_of_getElem? (i := 63) (by decide +kernel)⟩⟩
set_option maxRecDepth 20000 in
theorem rF_ok_24 : rF (2, 96, 1, 3) := ⟨_, rfl, by decide, rfl, Or.inr ⟨by decide, List.mem_of_getElem? (i := 43) (by decide +kernel)⟩⟩
set_option maxRecDepth 20000 in
theorem rF_ok_25 : rF (2, 116, 3, 11) := ⟨_, rfl, by decide, rfl, Or.inr ⟨by decide, List.mem_of_getElem? (i := 235) (by decide +kernel)⟩⟩
set_option maxRecDepth 20000 in
theorem rF_ok_26 : rF (2, 127, 3, 10) := ⟨_, rfl, by decide, rfl, Or.inr ⟨by decide, List.mem_of_getElem? (i := 232) (by decide +kernel)⟩⟩
set_option maxRecDepth 20000 in
theorem rF_ok_27 : rF (2, 145, 6, 9) := ⟨_, rfl, by decide, rfl, Or.inr ⟨by decide, List.mem_of_getElem? (i := 89) (by decide +kernel)⟩⟩
set_option maxRecDepth 20000 in
theorem rF_ok_28 : rF (2, 149, 6, 4) := ⟨_, rfl, by decide, rfl, Or.inr ⟨by decide, List.mem_of_getElem? (i := 76) (by decide +kernel)⟩⟩
set_option maxRecDepth 20000 in
theorem rF_ok_29 : rF (2, 152, 3, 5) := ⟨_, rfl, by decide, rfl, Or.inr ⟨by decide, List.mem_of_getElem? (i := 221) (by decide +kernel)⟩⟩
set_option maxRecDepth 20000 in
theorem rF_ok_30 : rF (2, 153, 6, 7) := ⟨_, rfl, by decide, rfl, Or.inr ⟨by decide, List.mem_of_getElem? (i := 83) (by decide +kernel)⟩⟩
set_option maxRecDepth 20000 in
theorem rF_ok_31 : rF (2, 156, 3, 6) := ⟨_, rfl, by decide, rfl, Or.inr ⟨by decide, List.mem_of_getElem? (i := 224) (by decide +kernel)⟩⟩
set_option maxRecDepth 20000 in
theorem rF_ok_32 : rF (2, 159, 3, 4) := ⟨_, rfl, by decide, rfl, Or.inr ⟨by decide, List.mem_of_getElem? (i := 218) (by decide +kernel)⟩⟩
set_option maxRecDepth 20000 in
theorem rF_ok_33 : rF (2, 166, 6, 3) := ⟨_, rfl, by decide, rfl, Or.inr ⟨by decide, List.mem_of_getElem? (i := 73) (by decide +kernel)⟩⟩
set_option maxRecDepth 20000 in
theorem rF_ok_34 : rF (2, 169, 3, 8) := ⟨_, rfl, by decide, rfl, Or.inr ⟨by decide, List.mem_of_getElem? (i := 229) (by decide +kernel)⟩⟩
set_option maxRecDepth 20000 in
theorem rF_ok_35 : rF (2, 172, 3, 7) := ⟨_, rfl, by decide, rfl, Or.inr ⟨by decide, List.mem_of_getElem? (i := 227) (by decide +kernel)⟩⟩
set_option maxRecDepth 20000 in
theorem rF_ok_36 : rF (3, 9, 3, 0) := ⟨_, rfl, by decide, rfl, Or.inl (List.mem_of_getElem? (i := 213) (by decide +kernel))⟩
set_option maxRecDepth 20000 in
theorem rF_ok_37 : rF (3, 15, 3, 1) := ⟨_, rfl, by decide, rfl, Or.inl (List.mem_of_getElem? (i := 214) (by decide +kernel))⟩
set_option maxRecDepth 20000 in
theorem rF_ok_38 : rF (3, 18, 3, 2) := ⟨_, rfl, by decide, rfl, Or.inl (List.mem_of_getElem? (i := 215) (by decide +kernel))⟩
set_option maxRecDepth 20000 in
theorem rF_ok_39 : rF (3, 21, 3, 3) := ⟨_, rfl, by decide, rfl, Or.inl (List.mem_of_getElem? (i := 216) (by decide +kernel))⟩
set_option maxRecDepth 20000 in
theorem rF_ok_40 : rF (3, 24, 3, 4) := ⟨_, rfl, by decide, rfl, Or.inl (List.mem_of_getElem? (i := 217) (by decide +kernel))⟩
set_option maxRecDepth 20000 in
theorem rF_ok_41 : rF (3, 27, 3, 5) := ⟨_, rfl, by decide, rfl, Or.inl (List.mem_of_getElem? (i := 220) (by decide +kernel))⟩
set_option maxRecDepth 20000 in
theorem rF_ok_42 : rF (3, 30, 3, 6) := ⟨_, rfl, by decide, rfl, Or.inl (List.mem_of_getElem? (i := 223) (by decide +kernel))⟩
set_option maxRecDepth 20000 in
theorem rF_ok_43 : rF (3, 33, 3, 7) := ⟨_, rfl, by decide, rfl, Or.inl (List.mem_of_getElem? (i := 226) (by decide +kernel))⟩
set_option maxRecDepth 20000 in
theorem rF_ok_44 : rF (3, 36, 3, 8) := ⟨_, rfl, by decide, rfl, Or.inl (List.mem_of_getElem? (i := 228) (by decide +kernel))⟩
set_option maxRecDepth 20000 in
theorem rF_ok_45 : rF (3, 43, 3, 9) := ⟨_, rfl, by decide, rfl, Or.inl (List.mem_of_getElem? (i := 230) (by decide +kernel))⟩
set_option maxRecDepth 20000 in
theorem rF_ok_46 : rF (3, 47, 3, 11) := ⟨_, rfl, by decide, rfl, Or.inl (List.mem_of_getElem? (i := 234) (by decide +kernel))⟩
set_option maxRecDepth 20000 in
theorem rF_ok_47 : rF (3, 67, 3, 10) := ⟨_, rfl, by decide, rfl, Or.inl (List.mem_of_getElem? (i := 231) (by decide +kernel))⟩
set_option maxRecDepth 20000 in
theorem rF_ok_48 : rF (3, 70, 6, 8) := ⟨_, rfl, by decide, rfl, Or.inr ⟨by decide, List.mem_of_getElem? (i := 85) (by decide +kernel)⟩⟩
set_option maxRecDepth 20000 in
theorem rF_ok_49 : rF (3, 75, 6, 9) := ⟨_, rfl, by decide, rfl, Or.inr ⟨by decide, List.mem_of_getElem? (i := 88) (by decide +kernel)⟩⟩
set_option maxRecDepth 20000 in
theorem rF_ok_50 : rF (3, 78, 6, 2) := ⟨_, rfl, by decide, rfl, Or.inr ⟨by decide, List.mem_of_getElem? (i := 69) (by decide +kernel)⟩⟩
set_option maxRecDepth 20000 in
theorem rF_ok_51 : rF (3, 79, 6, 0) := ⟨_, rfl, by decide, rfl, Or.inr ⟨by decide, List.mem_of_getElem? (i := 62) (by decide +kernel)⟩⟩
set_option maxRecDepth 20000 in
theorem rF_ok_52 : rF (3, 88, 1, 3) := ⟨_, rfl, by decide, rfl, Or.inr ⟨by decide, List.mem_of_getElem? (i := 42) (by decide +kernel)⟩⟩
set_option maxRecDepth 20000 in
theorem rF_ok_53 : rF (3, 101, 1, 0) := ⟨_, rfl, by decide, rfl, Or.inr ⟨by decide, List.mem_of_getElem? (i := 35) (by decide +kernel)⟩⟩
set_option maxRecDepth 20000 in
theorem rF_ok_54 : rF (4, 13, 4, 0) := ⟨_, rfl, by decide, rfl, Or.inl (List.mem_of_getElem? (i := 196) (by decide +kernel))⟩
set_option maxRecDepth 20000 in
theorem rF_ok_55 : rF (4, 18, 4, 1) := ⟨_, rfl, by decide, rfl, Or.inl (List.mem_of_getElem? (i := 197) (by decide +kernel))⟩
set_option maxRecDepth 20000 in
theorem rF_ok_56 : rF (4, 26, 4, 2) := ⟨_, rfl, by decide, rfl, Or.inl (List.mem_of_getElem? (i := 198) (by decide +kernel))⟩
set_option maxRecDepth 20000 in
theorem rF_ok_57 : rF (5, 12, 5, 0) := ⟨_, rfl, by decide, rfl, Or.inl (List.mem_of_getElem? (i := 284) (by decide +kernel))⟩
set_option maxRecDepth 20000 in
theorem rF_ok_58 : rF (5, 22, 5, 1) := ⟨_, rfl, by decide, rfl, Or.inl (List.mem_of_getElem? (i := 286) (by decide +kernel))⟩
set_option maxRecDepth 20000 in
theorem rF_ok_59 : rF (5, 26, 5, 5) := ⟨_, rfl, by decide, rfl, Or.inl (List.mem_of_getElem? (i := 294) (by decide +kernel))⟩
set_option maxRecDepth 20000 in
theorem rF_ok_60 : rF (5, 29, 5, 3) := ⟨_, rfl, by decide, rfl, Or.inl (List.mem_of_getElem? (i := 290) (by decide +kernel))⟩
set_option maxRecDepth 20000 in
theorem rF_ok_61 : rF (5, 32, 7, 1) := ⟨_, rfl, by decide, rfl, Or.inr ⟨by decide, List.mem_of_getElem? (i := 269) (by decide +kernel)⟩⟩
set_option maxRecDepth 20000 in
theorem rF_ok_62 : rF (5, 37, 5, 2) := ⟨_, rfl, by decide, rfl, Or.inl (List.mem_of_getElem? (i := 288) (by decide +kernel))⟩
set_option maxRecDepth 20000 in
theorem rF_ok_63 : rF (5, 44, 5, 4) := ⟨_, rfl, by decide, rfl, Or.inl (List.mem_of_getElem? (i := 292) (by decide +kernel))⟩
set_option maxRecDepth 20000 in
theorem rF_ok_64 : rF (5, 47, 5, 6) := ⟨_, rfl, by decide, rfl, Or.inl (List.mem_of_getElem? (i := 295) (by decide +kernel))⟩
set_option maxRecDepth 20000 in
theorem rF_ok_65 : rF (5, 50, 5, 7) := ⟨_, rfl, by decide, rfl, Or.inl (List.mem_of_getElem? (i := 296) (by decide +kernel))⟩
set_option maxRecDepth 20000 in
theorem rF_ok_66 : rF (5, 53, 5, 8) := ⟨_, rfl, by decide, rfl, Or.inl (List.mem_of_getElem? (i := 297) (by decide +kernel))⟩
set_option maxRecDepth 20000 in
theorem rF_ok_67 : rF (6, 9, 6, 0) := ⟨_, rfl, by decide, rfl, Or.inl (List.mem_of_getElem? (i := 61) (by decide +kernel))⟩
set_option maxRecDepth 20000 in
theorem rF_ok_68 : rF (6, 15, 6, 1) := ⟨_, rfl, by decide, rfl, Or.inl (List.mem_of_getElem? (i := 65) (by decide +kernel))⟩
set_option maxRecDepth 20000 in
theorem rF_ok_69 : rF (6, 18, 6, 2) := ⟨_, rfl, by decide, rfl, Or.inl (List.mem_of_getElem? (i := 68) (by decide +kernel))⟩
set_option maxRecDepth 20000 in
theorem rF_ok_70 : rF (6, 21, 6, 3) := ⟨_, rfl, by decide, rfl, Or.inl (List.mem_of_getElem? (i := 71) (by decide +kernel))⟩
set_option maxRecDepth 20000 in
theorem rF_ok_71 : rF (6, 24, 6, 4) := ⟨_, rfl, by decide, rfl, Or.inl (List.mem_of_getElem? (i := 74) (by decide +kernel))⟩
set_option maxRecDepth 20000 in
theorem rF_ok_72 : rF (6, 27, 6, 5) := ⟨_, rfl, by decide, rfl, Or.inl (List.mem_of_getElem? (i := 77) (by decide +kernel))⟩
set_option maxRecDepth 20000 in
theorem rF_ok_73 : rF (6, 30, 6, 6) := ⟨_, rfl, by decide, rfl, Or.inl (List.mem_of_getElem? (i := 79) (by decide +kernel))⟩
set_option maxRecDepth 20000 in
theorem rF_ok_74 : rF (6, 33, 6, 7) := ⟨_, rfl, by decide, rfl, Or.inl (List.mem_of_getElem? (i := 81) (by decide +kernel))⟩
set_option maxRecDepth 20000 in
theorem rF_ok_75 : rF (6, 42, 6, 8) := ⟨_, rfl, by decide, rfl, Or.inl (List.mem_of_getElem? (i := 84) (by decide +kernel))⟩
set_option maxRecDepth 20000 in
theorem rF_ok_76 : rF (6, 46, 6, 9) := ⟨_, rfl, by decide, rfl, Or.inl (List.mem_of_getElem? (i := 87) (by decide +kernel))⟩
set_option maxRecDepth 20000 in
theorem rF_ok_77 : rF (7, 9, 7, 0) := ⟨_, rfl, by decide, rfl, Or.inl (List.mem_of_getElem? (i := 267) (by decide +kernel))⟩
set_option maxRecDepth 20000 in
theorem rF_ok_78 : rF (7, 20, 7, 1) := ⟨_, rfl, by decide, rfl, Or.inl (List.mem_of_getElem? (i := 268) (by decide +kernel))⟩
set_option maxRecDepth 20000 in
theorem rF_ok_79 : rF (8, 10, 8, 0) := ⟨_, rfl, by decide, rfl, Or.inl (List.mem_of_getElem? (i := 317) (by decide +kernel))⟩
set_option maxRecDepth 20000 in
theorem rF_ok_80 : rF (8, 19, 8, 1) := ⟨_, rfl, by decide, rfl, Or.inl (List.mem_of_getElem? (i := 318) (by decide +kernel))⟩
set_option maxRecDepth 20000 in
theorem rF_ok_81 : rF (8, 26, 8, 2) := ⟨_, rfl, by decide, rfl, Or.inl (List.mem_of_getElem? (i := 319) (by decide +kernel))⟩
set_option maxRecDepth 20000 in
theorem rF_ok_82 : rF (8, 33, 8, 3) := ⟨_, rfl, by decide, rfl, Or.inl (List.mem_of_getElem? (i := 320) (by decide +kernel))⟩
set_option maxRecDepth 20000 in
theorem rF_ok_83 : rF (8, 40, 8, 4) := ⟨_, rfl, by decide, rfl, Or.inl (List.mem_of_getElem? (i := 321) (by decide +kernel))⟩
set_option maxRecDepth 20000 in
theorem rF_ok_84 : rF (8, 80, 2, 0) := ⟨_, rfl, by decide, rfl, Or.inr ⟨by decide, List.mem_of_getElem? (i := 147) (by decide +kernel)⟩⟩
set_option maxRecDepth 20000 in
theorem rF_ok_85 : rF (8, 91, 1, 0) := ⟨_, rfl, by decide, rfl, Or.inr ⟨by decide, List.mem_of_getElem? (i := 36) (by decide +kernel)⟩⟩
set_option maxRecDepth 20000 in
theorem rF_ok_86 : rF (8, 95, 1, 1) := ⟨_, rfl, by decide, rfl, Or.inr ⟨by decide, List.mem_of_getElem? (i := 38) (by decide +kernel)⟩⟩
set_option maxRecDepth 20000 in
theorem rF_ok_87 : rF (8, 98, 1, 2) := ⟨_, rfl, by decide, rfl, Or.inr ⟨by decide, List.mem_of_getElem? (i := 40) (by decide +kernel)⟩⟩
set_option maxRecDepth 20000 in
theorem rF_ok_88 : rF (8, 105, 2, 1) := ⟨_, rfl, by decide, rfl, Or.inr ⟨by decide, List.mem_of_getElem? (i := 149) (by decide +kernel)⟩⟩
set_option maxRecDepth 20000 in
theorem rF_ok_89 : rF (8, 115, 6, 0) := ⟨_, rfl, by decide, rfl, Or.inr ⟨by decide, List.mem_of_getElem? (i := 64) (by decide +kernel)⟩⟩
set_option maxRecDepth 20000 in
theorem rF_ok_90 : rF (8, 118, 6, 1) := ⟨_, rfl, by decide, rfl, Or.inr ⟨by decide, List.mem_of_getElem? (i := 67) (by decide +kernel)⟩⟩
set_option maxRecDepth 20000 in
theorem rF_ok_91 : rF (8, 121, 2, 3) := ⟨_, rfl, by decide, rfl, Or.inr ⟨by decide, List.mem_of_getElem? (i := 153) (by decide +kernel)⟩⟩
set_option maxRecDepth 20000 in
theorem rF_ok_92 : rF (8, 125, 6, 2) := ⟨_, rfl, by decide, rfl, Or.inr ⟨by decide, List.mem_of_getElem? (i := 70) (by decide +kernel)⟩⟩
set_option maxRecDepth 20000 in
theorem rF_ok_93 : rF (8, 128, 6, 3) := ⟨_, rfl, by decide, rfl, Or.inr ⟨by decide, List.mem_of_getElem? (i := 72) (by decide +kernel)⟩⟩
set_option maxRecDepth 20000 in
theorem rF_ok_94 : rF (8, 129, 6, 4) := ⟨_, rfl, by decide, rfl, Or.inr ⟨by decide, List.mem_of_getElem? (i := 75) (by decide +kernel)⟩⟩
set_option maxRecDepth 20000 in
theorem rF_ok_95 : rF (8, 132, 6, 5) := ⟨_, rfl, by decide, rfl, Or.inr ⟨by decide, List.mem_of_getElem? (i := 78) (by decide +kernel)⟩⟩
set_option maxRecDepth 20000 in
theorem rF_ok_96 : rF (8, 135, 6, 6) := ⟨_, rfl, by decide, rfl, Or.inr ⟨by decide, List.mem_of_getElem? (i := 80) (by decide +kernel)⟩⟩
set_option maxRecDepth 20000 in
theorem rF_ok_97 : rF (8, 138, 6, 7) := ⟨_, rfl, by decide, rfl, Or.inr ⟨by decide, List.mem_of_getElem? (i := 82) (by decide +kernel)⟩⟩
set_option maxRecDepth 20000 in
theorem rF_ok_98 : rF (8, 145, 2, 2) := ⟨_, rfl, by decide, rfl, Or.inr ⟨by decide, List.mem_of_getElem? (i := 151) (by decide +kernel)⟩⟩
set_option maxRecDepth 20000 in
theorem rF_ok_99 : rF (8, 149, 0, 6) := ⟨_, rfl, by decide, rfl, Or.inr ⟨by decide, List.mem_of_getElem? (i := 130) (by decide +kernel)⟩⟩
set_option maxRecDepth 20000 in
theorem rF_ok_100 : rF (8, 158, 0, 0) := ⟨_, rfl, by decide, rfl, Or.inr ⟨by decide, List.mem_of_getElem? (i := 119) (by decide +kernel)⟩⟩
set_option maxRecDepth 20000 in
theorem rF_ok_101 : rF (8, 161, 0, 1) := ⟨_, rfl, by decide, rfl, Or.inr ⟨by decide, List.mem_of_getElem? (i := 121) (by decide +kernel)⟩⟩
set_option maxRecDepth 20000 in
theorem rF_ok_102 : rF (8, 164, 0, 2) := ⟨_, rfl, by decide, rfl, Or.inr ⟨by decide, List.mem_of_getElem? (i := 123) (by decide +kernel)⟩⟩
set_option maxRecDepth 20000 in
theorem rF_ok_103 : rF (8, 165, 0, 3) := ⟨_, rfl, by decide, rfl, Or.inr ⟨by decide, List.mem_of_getElem? (i := 125) (by decide +kernel)⟩⟩
set_option maxRecDepth 20000 in
theorem rF_ok_104 : rF (8, 166, 0, 4) := ⟨_, rfl, by decide, rfl, Or.inr ⟨by decide, List.mem_of_getElem? (i := 127) (by decide +kernel)⟩⟩
set_option maxRecDepth 20000 in
theorem rF_ok_105 : rF (8, 174, 3, 4) := ⟨_, rfl, by decide, rfl, Or.inr ⟨by decide, List.mem_of_getElem? (i := 219) (by decide +kernel)⟩⟩
set_option maxRecDepth 20000 in
theorem rF_ok_106 : rF (8, 177, 3, 5) := ⟨_, rfl, by decide, rfl, Or.inr ⟨by decide, List.mem_of_getElem? (i := 222) (by decide +kernel)⟩⟩
set_option maxRecDepth 20000 in
theorem rF_ok_107 : rF (8, 178, 3, 6) := ⟨_, rfl, by decide, rfl, Or.inr ⟨by decide, List.mem_of_getElem? (i := 225) (by decide +kernel)⟩⟩
set_option maxRecDepth 20000 in
theorem rF_ok_108 : rF (8, 179, 3, 10) := ⟨_, rfl, by decide, rfl, Or.inr ⟨by decide, List.mem_of_getElem? (i := 233) (by decide +kernel)⟩⟩
set_option maxRecDepth 20000 in
theorem rF_ok_109 : rF (8, 182, 6, 9) := ⟨_, rfl, by decide, rfl, Or.inr ⟨by decide, List.mem_of_getElem? (i := 90) (by decide +kernel)⟩⟩
set_option maxRecDepth 20000 in
theorem rF_ok_110 : rF (8, 192, 1, 3) := ⟨_, rfl, by decide, rfl, Or.inr ⟨by decide, List.mem_of_getElem? (i := 44) (by decide +kernel)⟩⟩
set_option maxRecDepth 20000 in
theorem rF_ok_111 : rF (8, 193, 6, 8) := ⟨_, rfl, by decide, rfl, Or.inr ⟨by decide, List.mem_of_getElem? (i := 86) (by decide +kernel)⟩⟩
set_option maxRecDepth 20000 in
theorem rF_ok_112 : rF (8, 196, 2, 5) := ⟨_, rfl, by decide, rfl, Or.inr ⟨by decide, List.mem_of_getElem? (i := 157) (by decide +kernel)⟩⟩
set_option maxRecDepth 20000 in
theorem rF_ok_113 : rF (8, 199, 2, 6) := ⟨_, rfl, by decide, rfl, Or.inr ⟨by decide, List.mem_of_getElem? (i := 159) (by decide +kernel)⟩⟩
set_option maxRecDepth 20000 in
theorem rF_ok_114 : rF (8, 208, 2, 9) := ⟨_, rfl, by decide, rfl, Or.inr ⟨by decide, List.mem_of_getElem? (i := 165) (by decide +kernel)⟩⟩
set_option maxRecDepth 20000 in
theorem rF_ok_115 : rF (8, 214, 2, 7) := ⟨_, rfl, by decide, rfl, Or.inr ⟨by decide, List.mem_of_getElem? (i := 161) (by decide +kernel)⟩⟩
set_option maxRecDepth 20000 in
theorem rF_ok_116 : rF (8, 237, 5, 3) := ⟨_, rfl, by decide, rfl, Or.inr ⟨by decide, List.mem_of_getElem? (i := 291) (by decide +kernel)⟩⟩
set_option maxRecDepth 20000 in
theorem rF_ok_117 : rF (8, 240, 5, 2) := ⟨_, rfl, by decide, rfl, Or.inr ⟨by decide, List.mem_of_getElem? (i := 289) (by decide +kernel)⟩⟩
set_option maxRecDepth 20000 in
theorem rF_ok_118 : rF (8, 243, 5, 4) := ⟨_, rfl, by decide, rfl, Or.inr ⟨by decide, List.mem_of_getElem? (i := 293) (by decide +kernel)⟩⟩
set_option maxRecDepth 20000 in
theorem rF_ok_119 : rF (8, 246, 5, 0) := ⟨_, rfl, by decide, rfl, Or.inr ⟨by decide, List.mem_of_getElem? (i := 285) (by decide +kernel)⟩⟩
set_option maxRecDepth 20000 in
theorem rF_ok_120 : rF (8, 252, 5, 1) := ⟨_, rfl, by decide, rfl, Or.inr ⟨by decide, List.mem_of_getElem? (i := 287) (by decide +kernel)⟩⟩
set_option maxRecDepth 20000 in
theorem rF_ok_121 : rF (8, 255, 4, 2) := ⟨_, rfl, by decide, rfl, Or.inr ⟨by decide, List.mem_of_getElem? (i := 199) (by decide +kernel)⟩⟩
set_option maxRecDepth 20000 in
theorem rF_ok_122 : rF (8, 256, 7, 1) := ⟨_, rfl, by decide, rfl, Or.inr ⟨by decide, List.mem_of_getElem? (i := 270) (by decide +kernel)⟩⟩
set_option maxRecDepth 20000 in
theorem rF_ok_123 : rF (8, 259, 2, 8) := ⟨_, rfl, by decide, rfl, Or.inr ⟨by decide, List.mem_of_getElem? (i := 163) (by decide +kernel)⟩⟩
set_option maxRecDepth 20000 in
theorem rF_ok_124 : rF (8, 262, 2, 4) := ⟨_, rfl, by decide, rfl, Or.inr ⟨by decide, List.mem_of_getElem? (i := 155) (by decide +kernel)⟩⟩
set_option maxRecDepth 100000 in
theorem rF_ok : ∀ q ∈ resF, rF q := List.forall_mem_cons.mpr ⟨rF_ok_0, List.forall_mem_cons.mpr ⟨rF_ok_1, List.forall_mem_cons.mpr ⟨rF_ok_2, List.forall_mem_cons.mpr ⟨rF_ok_3, List.forall_mem_cons.mpr ⟨rF_ok_4, List.forall_mem_cons.mpr ⟨rF_ok_5, List.forall_mem_cons.mpr ⟨rF_ok_6, List.forall_mem_cons.mpr ⟨rF_ok_7, List.forall_mem_cons.mpr ⟨rF_ok_8, List.forall_mem_cons.mpr ⟨rF_ok_9, List.forall_mem_cons.mpr ⟨rF_ok_10, List.forall_mem_cons.mpr ⟨rF_ok_11, List.forall_mem_cons.mpr ⟨rF_ok_12, List.forall_mem_cons.mpr ⟨rF_ok_13, List.forall_mem_cons.mpr ⟨rF_ok_14, List.forall_mem_cons.mpr ⟨rF_ok_15, List.forall_mem_cons.mpr ⟨rF_ok_16, List.forall_mem_cons.mpr ⟨rF_ok_17, List.forall_mem_cons.mpr ⟨rF_ok_18, List.forall_mem_cons.mpr ⟨rF_ok_19, List.forall_mem_cons.mpr ⟨rF_ok_20, List.forall_mem_cons.mpr ⟨rF_ok_21, List.forall_mem_cons.mpr ⟨rF_ok_22, List.forall_mem_cons.mpr ⟨rF_ok_23, List.forall_mem_cons.mpr ⟨rF_ok_24, List.forall_mem_cons.mpr ⟨rF_ok_25, List.forall_mem_cons.mpr ⟨rF_ok_26, List.forall_mem_cons.mpr ⟨rF_ok_27, List.forall_mem_cons.mpr ⟨rF_ok_28, List.forall_mem_cons.mpr ⟨rF_ok_29, List.forall_mem_cons.mpr ⟨rF_ok_30, List.forall_mem_cons.mpr ⟨rF_ok_31, List.forall_mem_cons.mpr ⟨rF_ok_32, List.forall_mem_cons.mpr ⟨rF_ok_33, List.forall_mem_cons.mpr ⟨rF_ok_34, List.forall_mem_cons.mpr ⟨rF_ok_35, List.forall_mem_cons.mpr ⟨rF_ok_36, List.forall_mem_cons.mpr ⟨rF_ok_37, List.forall_mem_cons.mpr ⟨rF_ok_38, List.forall_mem_cons.mpr ⟨rF_ok_39, List.forall_mem_cons.mpr ⟨rF_ok_40, List.forall_mem_cons.mpr ⟨rF_ok_41, List.forall_mem_cons.mpr ⟨rF_ok_42, List.forall_mem_cons.mpr ⟨rF_ok_43, List.forall_mem_cons.mpr ⟨rF_ok_44, List.forall_mem_cons.mpr ⟨rF_ok_45, List.forall_mem_cons.mpr ⟨rF_ok_46, List.forall_mem_cons.mpr ⟨rF_ok_47, List.forall_mem_cons.mpr ⟨rF_ok_48, List.forall_mem_cons.mpr ⟨rF_ok_49, List.forall_mem_cons.mpr ⟨rF_ok_50, List.forall_mem_cons.mpr ⟨rF_ok_51, List.forall_mem_cons.mpr ⟨rF_ok_52, List.forall_mem_cons.mpr ⟨rF_ok_53, List.forall_mem_cons.mpr ⟨rF_ok_54, List.forall_mem_cons.mpr ⟨rF_ok_55, List.forall_mem_cons.mpr ⟨rF_ok_56, List.forall_mem_cons.mpr ⟨rF_ok_57, List.forall_mem_cons.mpr ⟨rF_ok_58, List.forall_mem_cons.mpr ⟨rF_ok_59, List.forall_mem_cons.mpr ⟨rF_ok_60, List.forall_mem_cons.mpr ⟨rF_ok_61, List.forall_mem_cons.mpr ⟨rF_ok_62, List.forall_mem_cons.mpr ⟨rF_ok_63, List.forall_mem_cons.mpr ⟨rF_ok_64, List.forall_mem_cons.mpr ⟨rF_ok_65, List.forall_mem_cons.mpr ⟨rF_ok_66, List.forall_mem_cons.mpr ⟨rF_ok_67, List.forall_mem_cons.mpr ⟨rF_ok_68, List.forall_mem_cons.mpr ⟨rF_ok_69, List.forall_mem_cons.mpr ⟨rF_ok_70, List.forall_mem_cons.mpr ⟨rF_ok_71, List.forall_mem_cons.mpr ⟨rF_ok_72, List.forall_mem_cons.mpr ⟨rF_ok_73, List.forall_mem_cons.mpr ⟨rF_ok_74, List.forall_mem_cons.mpr ⟨rF_ok_75, List.forall_mem_cons.mpr ⟨rF_ok_76, List.forall_mem_cons.mpr ⟨rF_ok_77, List.forall_mem_cons.mpr ⟨rF_ok_78, List.forall_mem_cons.mpr ⟨rF_ok_79, List.forall_mem_cons.mpr ⟨rF_ok_80, List.forall_mem_cons.mpr ⟨rF_ok_81, List.forall_mem_cons.mpr ⟨rF_ok_82, List.forall_mem_cons.mpr ⟨rF_ok_83, List.forall_mem_cons.mpr ⟨rF_ok_84, List.forall_mem_cons.mpr ⟨rF_ok_85, List.forall_mem_cons.mpr ⟨rF_ok_86, List.forall_mem_cons.mpr ⟨rF_ok_87, List.forall_mem_cons.mpr ⟨rF_ok_88, List.forall_mem_cons.mpr ⟨rF_ok_89, List.forall_mem_cons.mpr ⟨rF_ok_90, List.forall_mem_cons.mpr ⟨rF_ok_91, List.forall_mem_cons.mpr ⟨rF_ok_92, List.forall_mem_cons.mpr ⟨rF_ok_93, List.forall_mem_cons.mpr ⟨rF_ok_94, List.forall_mem_cons.mpr ⟨rF_ok_95, List.forall_mem_cons.mpr ⟨rF_ok_96, List.forall_mem_cons.mpr ⟨rF_ok_97, List.forall_mem_cons.mpr ⟨rF_ok_98, List.forall_mem_cons.mpr ⟨rF_ok_99, List.forall_mem_cons.mpr ⟨rF_ok_100, List.forall_mem_cons.mpr ⟨rF_ok_101, List.forall_mem_cons.mpr ⟨rF_ok_102, List.forall_mem_cons.mpr ⟨rF_ok_103, List.forall_mem_cons.mpr ⟨rF_ok_104, List.forall_mem_cons.mpr ⟨rF_ok_105, List.forall_mem_cons.mpr ⟨rF_ok_106, List.forall_mem_cons.mpr ⟨rF_ok_107, List.forall_mem_cons.mpr ⟨rF_ok_108, List.forall_mem_cons.mpr ⟨rF_ok_109, List.forall_mem_cons.mpr ⟨rF_ok_110, List.forall_mem_cons.mpr ⟨rF_ok_111, List.forall_mem_cons.mpr ⟨rF_ok_112, List.forall_mem_cons.mpr ⟨rF_ok_113, List.forall_mem_cons.mpr ⟨rF_ok_114, List.forall_mem_cons.mpr ⟨rF_ok_115, List.forall_mem_cons.mpr ⟨rF_ok_116, List.forall_mem_cons.mpr ⟨rF_ok_117, List.forall_mem_cons.mpr ⟨rF_ok_118, List.forall_mem_cons.mpr ⟨rF_ok_119, List.forall_mem_cons.mpr ⟨rF_ok_120, List.forall_mem_cons.mpr ⟨rF_ok_121, List.forall_mem_cons.mpr ⟨rF_ok_122, List.forall_mem_cons.mpr ⟨rF_ok_123, List.forall_mem_cons.mpr ⟨rF_ok_124, fun _ h => absurd h List.not_mem_nil⟩⟩⟩⟩⟩⟩⟩⟩⟩⟩⟩⟩⟩⟩⟩⟩⟩⟩⟩⟩⟩⟩⟩⟩⟩⟩⟩⟩⟩⟩⟩⟩⟩⟩⟩⟩⟩⟩⟩⟩⟩⟩⟩⟩⟩⟩⟩⟩⟩⟩⟩⟩⟩⟩⟩⟩⟩⟩⟩⟩⟩⟩⟩⟩⟩⟩⟩⟩⟩⟩⟩⟩⟩⟩⟩⟩⟩⟩⟩⟩⟩⟩⟩⟩⟩⟩⟩⟩⟩⟩⟩⟩⟩⟩⟩⟩⟩⟩⟩⟩⟩⟩⟩⟩⟩⟩⟩⟩⟩⟩⟩⟩⟩⟩⟩⟩⟩⟩⟩⟩⟩⟩⟩⟩⟩
set_option maxRecDepth 20000 in
theorem rM_ok_0 : rM (0, 3, 1000, 0) := Or.inr (Or.inl ⟨rfl, List.mem_of_getElem? (i := 117) (by decide +kernel)⟩)
set_option maxRecDepth 20000 in
theorem rM_ok_1 : rM (0, 27, 1001, 0) := Or.inr (Or.inr ⟨rfl, List.mem_of_getElem? (i := 407) (by decide +kernel)⟩)
set_option maxRecDepth 20000 in
theorem rM_ok_2 : rM (0, 40, 97, 2) := Or.inl ⟨_, rfl, rfl, Or.inl (List.mem_of_getElem? (i := 645) (by decide +kernel))⟩
set_option maxRecDepth 20000 in
theorem rM_ok_3 : rM (1, 3, 1000, 0) := Or.inr (Or.inl ⟨rfl, List.mem_of_getElem? (i := 32) (by decide +kernel)⟩)
set_option maxRecDepth 20000 in
theorem rM_ok_4 : rM (1, 21, 1001, 0) := Or.inr (Or.inr ⟨rfl, List.mem_of_getElem? (i := 395) (by decide +kernel)⟩)
set_option maxRecDepth 20000 in
theorem rM_ok_5 : rM (1, 32, 12, 0) := Or.inl ⟨_, rfl, rfl, Or.inl (List.mem_of_getElem? (i := 657) (by decide +kernel))⟩
set_option maxRecDepth 20000 in
theorem rM_ok_6 : rM (1, 36, 13, 1) := Or.inl ⟨_, rfl, rfl, Or.inl (List.mem_of_getElem? (i := 661) (by decide +kernel))⟩
set_option maxRecDepth 20000 in
theorem rM_ok_7 : rM (2, 3, 1000, 0) := Or.inr (Or.inl ⟨rfl, List.mem_of_getElem? (i := 26) (by decide +kernel)⟩)
set_option maxRecDepth 20000 in
theorem rM_ok_8 : rM (2, 11, 4, 0) := Or.inl ⟨_, rfl, rfl, Or.inr (List.mem_of_getElem? (i := 29) (by decide +kernel))⟩
set_option maxRecDepth 20000 in
theorem rM_ok_9 : rM (2, 20, 49, 0) := Or.inl ⟨_, rfl, rfl, Or.inr (List.mem_of_getElem? (i := 57) (by decide +kernel))⟩
set_option maxRecDepth 20000 in
theorem rM_ok_10 : rM (2, 27, 0, 0) := Or.inl ⟨_, rfl, rfl, Or.inr (List.mem_of_getElem? (i := 114) (by decide +kernel))⟩
set_option maxRecDepth 20000 in
theorem rM_ok_11 : rM (2, 39, 5, 1) := Or.inl ⟨_, rfl, rfl, Or.inl (List.mem_of_getElem? (i := 391) (by decide +kernel))⟩
set_option maxRecDepth 20000 in
theorem rM_ok_12 : rM (2, 43, 50, 1) := Or.inl ⟨_, rfl, rfl, Or.inl (List.mem_of_getElem? (i := 398) (by decide +kernel))⟩
set_option maxRecDepth 20000 in
theorem rM_ok_13 : rM (2, 46, 1, 1) := Or.inl ⟨_, rfl, rfl, Or.inl (List.mem_of_getElem? (i := 403) (by decide +kernel))⟩
set_option maxRecDepth 20000 in
theorem rM_ok_14 : rM (2, 64, 93, 3) := Or.inl ⟨_, rfl, rfl, Or.inr (List.mem_of_getElem? (i := 550) (by decide +kernel))⟩
set_option maxRecDepth 20000 in
theorem rM_ok_15 : rM (2, 69, 7, 1) := Or.inl ⟨_, rfl, rfl, Or.inl (List.mem_of_getElem? (i := 554) (by decide +kernel))⟩
set_option maxRecDepth 20000 in
theorem rM_ok_16 : rM (2, 74, 54, 2) := Or.inl ⟨_, rfl, rfl, Or.inl (List.mem_of_getElem? (i := 576) (by decide +kernel))⟩
set_option maxRecDepth 20000 in
theorem rM_ok_17 : rM (2, 77, 6, 1) := Or.inl ⟨_, rfl, rfl, Or.inl (List.mem_of_getElem? (i := 673) (by decide +kernel))⟩
set_option maxRecDepth 20000 in
theorem rM_ok_18 : rM (2, 85, 51, 1) := Or.inl ⟨_, rfl, rfl, Or.inl (List.mem_of_getElem? (i := 682) (by decide +kernel))⟩
set_option maxRecDepth 20000 in
theorem rM_ok_19 : rM (2, 92, 58, 0) := Or.inl ⟨_, rfl, rfl, Or.inl (List.mem_of_getElem? (i := 592) (by decide +kernel))⟩
set_option maxRecDepth 20000 in
theorem rM_ok_20 : rM (2, 99, 9, 0) := Or.inl ⟨_, rfl, rfl, Or.inl (List.mem_of_getElem? (i := 593) (by decide +kernel))⟩
set_option maxRecDepth 20000 in
theorem rM_ok_21 : rM (2, 102, 55, 1) := Or.inl ⟨_, rfl, rfl, Or.inl (List.mem_of_getElem? (i := 597) (by decide +kernel))⟩
set_option maxRecDepth 20000 in
theorem rM_ok_22 : rM (2, 106, 56, 2) := Or.inl ⟨_, rfl, rfl, Or.inl (List.mem_of_getElem? (i := 611) (by decide +kernel))⟩
set_option maxRecDepth 20000 in
theorem rM_ok_23 : rM (2, 110, 29, 3) := Or.inl ⟨_, rfl, rfl, Or.inl (List.mem_of_getElem? (i := 623) (by decide +kernel))⟩
set_option maxRecDepth 20000 in
theorem rM_ok_24 : rM (2, 117, 25, 1) := Or.inl ⟨_, rfl, rfl, Or.inl (List.mem_of_getElem? (i := 624) (by decide +kernel))⟩
set_option maxRecDepth 20000 in
theorem rM_ok_25 : rM (2, 121, 26, 1) := Or.inl ⟨_, rfl, rfl, Or.inl (List.mem_of_getElem? (i := 633) (by decide +kernel))⟩
set_option maxRecDepth 20000 in
theorem rM_ok_26 : rM (2, 124, 27, 0) := Or.inl ⟨_, rfl, rfl, Or.inl (List.mem_of_getElem? (i := 646) (by decide +kernel))⟩
set_option maxRecDepth 20000 in
theorem rM_ok_27 : rM (2, 130, 16, 1) := Or.inl ⟨_, rfl, rfl, Or.inl (List.mem_of_getElem? (i := 750) (by decide +kernel))⟩
set_option maxRecDepth 20000 in
theorem rM_ok_28 : rM (2, 133, 17, 2) := Or.inl ⟨_, rfl, rfl, Or.inl (List.mem_of_getElem? (i := 751) (by decide +kernel))⟩
set_option maxRecDepth 20000 in
theorem rM_ok_29 : rM (2, 136, 21, 1) := Or.inl ⟨_, rfl, rfl, Or.inl (List.mem_of_getElem? (i := 752) (by decide +kernel))⟩
set_option maxRecDepth 20000 in
theorem rM_ok_30 : rM (2, 138, 20, 0) := Or.inl ⟨_, rfl, rfl, Or.inl (List.mem_of_getElem? (i := 753) (by decide +kernel))⟩
set_option maxRecDepth 20000 in
theorem rM_ok_31 : rM (2, 141, 22, 1) := Or.inl ⟨_, rfl, rfl, Or.inl (List.mem_of_getElem? (i := 754) (by decide +kernel))⟩
set_option maxRecDepth 20000 in
theorem rM_ok_32 : rM (2, 146, 52, 1) := Or.inl ⟨_, rfl, rfl, Or.inl (List.mem_of_getElem? (i := 628) (by decide +kernel))⟩
set_option maxRecDepth 20000 in
theorem rM_ok_33 : rM (2, 162, 57, 2) := Or.inl ⟨_, rfl, rfl, Or.inl (List.mem_of_getElem? (i := 629) (by decide +kernel))⟩
set_option maxRecDepth 20000 in
theorem rM_ok_34 : rM (2, 175, 10, 2) := Or.inl ⟨_, rfl, rfl, Or.inl (List.mem_of_getElem? (i := 637) (by decide +kernel))⟩
set_option maxRecDepth 20000 in
theorem rM_ok_35 : rM (2, 177, 2, 5) := Or.inl ⟨_, rfl, rfl, Or.inl (List.mem_of_getElem? (i := 641) (by decide +kernel))⟩
set_option maxRecDepth 20000 in
theorem rM_ok_36 : rM (2, 181, 96, 2) := Or.inl ⟨_, rfl, rfl, Or.inl (List.mem_of_getElem? (i := 650) (by decide +kernel))⟩
set_option maxRecDepth 20000 in
theorem rM_ok_37 : rM (2, 186, 11, 1) := Or.inl ⟨_, rfl, rfl, Or.inl (List.mem_of_getElem? (i := 653) (by decide +kernel))⟩
set_option maxRecDepth 20000 in
theorem rM_ok_38 : rM (3, 3, 1000, 0) := Or.inr (Or.inl ⟨rfl, List.mem_of_getElem? (i := 212) (by decide +kernel)⟩)
set_option maxRecDepth 20000 in
theorem rM_ok_39 : rM (3, 39, 30, 3) := Or.inl ⟨_, rfl, rfl, Or.inl (List.mem_of_getElem? (i := 477) (by decide +kernel))⟩
set_option maxRecDepth 20000 in
theorem rM_ok_40 : rM (3, 50, 32, 2) := Or.inl ⟨_, rfl, rfl, Or.inl (List.mem_of_getElem? (i := 485) (by decide +kernel))⟩
set_option maxRecDepth 20000 in
theorem rM_ok_41 : rM (3, 54, 33, 2) := Or.inl ⟨_, rfl, rfl, Or.inl (List.mem_of_getElem? (i := 497) (by decide +kernel))⟩
set_option maxRecDepth 20000 in
theorem rM_ok_42 : rM (3, 57, 34, 2) := Or.inl ⟨_, rfl, rfl, Or.inl (List.mem_of_getElem? (i := 501) (by decide +kernel))⟩
set_option maxRecDepth 20000 in
theorem rM_ok_43 : rM (3, 60, 36, 1) := Or.inl ⟨_, rfl, rfl, Or.inl (List.mem_of_getElem? (i := 509) (by decide +kernel))⟩
set_option maxRecDepth 20000 in
theorem rM_ok_44 : rM (3, 64, 37, 2) := Or.inl ⟨_, rfl, rfl, Or.inl (List.mem_of_getElem? (i := 513) (by decide +kernel))⟩
set_option maxRecDepth 20000 in
theorem rM_ok_45 : rM (3, 82, 8, 2) := Or.inl ⟨_, rfl, rfl, Or.inl (List.mem_of_getElem? (i := 481) (by decide +kernel))⟩
set_option maxRecDepth 20000 in
theorem rM_ok_46 : rM (3, 89, 31, 1) := Or.inl ⟨_, rfl, rfl, Or.inl (List.mem_of_getElem? (i := 489) (by decide +kernel))⟩
set_option maxRecDepth 20000 in
theorem rM_ok_47 : rM (3, 93, 38, 1) := Or.inl ⟨_, rfl, rfl, Or.inl (List.mem_of_getElem? (i := 493) (by decide +kernel))⟩
set_option maxRecDepth 20000 in
theorem rM_ok_48 : rM (3, 97, 35, 2) := Or.inl ⟨_, rfl, rfl, Or.inl (List.mem_of_getElem? (i := 505) (by decide +kernel))⟩
set_option maxRecDepth 20000 in
theorem rM_ok_49 : rM (3, 104, 53, 2) := Or.inl ⟨_, rfl, rfl, Or.inl (List.mem_of_getElem? (i := 517) (by decide +kernel))⟩
set_option maxRecDepth 20000 in
theorem rM_ok_50 : rM (4, 3, 1000, 0) := Or.inr (Or.inl ⟨rfl, List.mem_of_getElem? (i := 192) (by decide +kernel)⟩)
set_option maxRecDepth 20000 in
theorem rM_ok_51 : rM (4, 17, 14, 0) := Or.inl ⟨_, rfl, rfl, Or.inr (List.mem_of_getElem? (i := 195) (by decide +kernel))⟩
set_option maxRecDepth 20000 in
theorem rM_ok_52 : rM (4, 22, 15, 1) := Or.inl ⟨_, rfl, rfl, Or.inl (List.mem_of_getElem? (i := 387) (by decide +kernel))⟩
set_option maxRecDepth 20000 in
theorem rM_ok_53 : rM (4, 29, 97, 2) := Or.inl ⟨_, rfl, rfl, Or.inl (List.mem_of_getElem? (i := 564) (by decide +kernel))⟩
set_option maxRecDepth 20000 in
theorem rM_ok_54 : rM (5, 3, 1000, 0) := Or.inr (Or.inl ⟨rfl, List.mem_of_getElem? (i := 281) (by decide +kernel)⟩)
set_option maxRecDepth 20000 in
theorem rM_ok_55 : rM (5, 11, 14, 0) := Or.inl ⟨_, rfl, rfl, Or.inr (List.mem_of_getElem? (i := 283) (by decide +kernel))⟩
set_option maxRecDepth 20000 in
theorem rM_ok_56 : rM (5, 18, 15, 1) := Or.inl ⟨_, rfl, rfl, Or.inl (List.mem_of_getElem? (i := 727) (by decide +kernel))⟩
set_option maxRecDepth 20000 in
theorem rM_ok_57 : rM (5, 40, 46, 1) := Or.inl ⟨_, rfl, rfl, Or.inl (List.mem_of_getElem? (i := 728) (by decide +kernel))⟩
set_option maxRecDepth 20000 in
theorem rM_ok_58 : rM (5, 56, 24, 4) := Or.inl ⟨_, rfl, rfl, Or.inl (List.mem_of_getElem? (i := 746) (by decide +kernel))⟩
set_option maxRecDepth 20000 in
theorem rM_ok_59 : rM (5, 60, 45, 1) := Or.inl ⟨_, rfl, rfl, Or.inl (List.mem_of_getElem? (i := 755) (by decide +kernel))⟩
set_option maxRecDepth 20000 in
theorem rM_ok_60 : rM (5, 64, 67, 1) := Or.inl ⟨_, rfl, rfl, Or.inl (List.mem_of_getElem? (i := 732) (by decide +kernel))⟩
set_option maxRecDepth 20000 in
theorem rM_ok_61 : rM (5, 68, 48, 1) := Or.inl ⟨_, rfl, rfl, Or.inl (List.mem_of_getElem? (i := 736) (by decide +kernel))⟩
set_option maxRecDepth 20000 in
theorem rM_ok_62 : rM (5, 72, 47, 2) := Or.inl ⟨_, rfl, rfl, Or.inl (List.mem_of_getElem? (i := 742) (by decide +kernel))⟩
set_option maxRecDepth 20000 in
theorem rM_ok_63 : rM (5, 76, 93, 3) := Or.inl ⟨_, rfl, rfl, Or.inr (List.mem_of_getElem? (i := 740) (by decide +kernel))⟩
set_option maxRecDepth 20000 in
theorem rM_ok_64 : rM (5, 80, 96, 2) := Or.inl ⟨_, rfl, rfl, Or.inl (List.mem_of_getElem? (i := 741) (by decide +kernel))⟩
set_option maxRecDepth 20000 in
theorem rM_ok_65 : rM (6, 3, 1000, 0) := Or.inr (Or.inl ⟨rfl, List.mem_of_getElem? (i := 60) (by decide +kernel)⟩)
set_option maxRecDepth 20000 in
theorem rM_ok_66 : rM (6, 36, 1001, 0) := Or.inr (Or.inr ⟨rfl, List.mem_of_getElem? (i := 402) (by decide +kernel)⟩)
set_option maxRecDepth 20000 in
theorem rM_ok_67 : rM (6, 50, 52, 1) := Or.inl ⟨_, rfl, rfl, Or.inl (List.mem_of_getElem? (i := 367) (by decide +kernel))⟩
set_option maxRecDepth 20000 in
theorem rM_ok_68 : rM (6, 54, 8, 2) := Or.inl ⟨_, rfl, rfl, Or.inl (List.mem_of_getElem? (i := 601) (by decide +kernel))⟩
set_option maxRecDepth 20000 in
theorem rM_ok_69 : rM (6, 60, 95, 1) := Or.inl ⟨_, rfl, rfl, Or.inl (List.mem_of_getElem? (i := 353) (by decide +kernel))⟩
set_option maxRecDepth 20000 in
theorem rM_ok_70 : rM (6, 67, 63, 1) := Or.inl ⟨_, rfl, rfl, Or.inl (List.mem_of_getElem? (i := 341) (by decide +kernel))⟩
set_option maxRecDepth 20000 in
theorem rM_ok_71 : rM (7, 3, 1000, 0) := Or.inr (Or.inl ⟨rfl, List.mem_of_getElem? (i := 266) (by decide +kernel)⟩)
set_option maxRecDepth 20000 in
theorem rM_ok_72 : rM (7, 15, 93, 3) := Or.inl ⟨_, rfl, rfl, Or.inr (List.mem_of_getElem? (i := 713) (by decide +kernel))⟩
set_option maxRecDepth 20000 in
theorem rM_ok_73 : rM (8, 1, 1000, 0) := Or.inr (Or.inl ⟨rfl, List.mem_of_getElem? (i := 18) (by decide +kernel)⟩)
set_option maxRecDepth 20000 in
theorem rM_ok_74 : rM (8, 9, 14, 0) := Or.inl ⟨_, rfl, rfl, Or.inr (List.mem_of_getElem? (i := 23) (by decide +kernel))⟩
set_option maxRecDepth 20000 in
theorem rM_ok_75 : rM (8, 18, 39, 0) := Or.inl ⟨_, rfl, rfl, Or.inl (List.mem_of_getElem? (i := 189) (by decide +kernel))⟩
set_option maxRecDepth 20000 in
theorem rM_ok_76 : rM (8, 25, 28, 0) := Or.inl ⟨_, rfl, rfl, Or.inr (List.mem_of_getElem? (i := 209) (by decide +kernel))⟩
set_option maxRecDepth 20000 in
theorem rM_ok_77 : rM (8, 32, 64, 0) := Or.inl ⟨_, rfl, rfl, Or.inr (List.mem_of_getElem? (i := 263) (by decide +kernel))⟩
set_option maxRecDepth 20000 in
theorem rM_ok_78 : rM (8, 39, 43, 0) := Or.inl ⟨_, rfl, rfl, Or.inr (List.mem_of_getElem? (i := 278) (by decide +kernel))⟩
set_option maxRecDepth 20000 in
theorem rM_ok_79 : rM (8, 44, 40, 1) := Or.inl ⟨_, rfl, rfl, Or.inl (List.mem_of_getElem? (i := 542) (by decide +kernel))⟩
set_option maxRecDepth 20000 in
theorem rM_ok_80 : rM (8, 48, 16, 1) := Or.inl ⟨_, rfl, rfl, Or.inl (List.mem_of_getElem? (i := 546) (by decide +kernel))⟩
set_option maxRecDepth 20000 in
theorem rM_ok_81 : rM (8, 52, 41, 1) := Or.inl ⟨_, rfl, rfl, Or.inl (List.mem_of_getElem? (i := 560) (by decide +kernel))⟩
set_option maxRecDepth 20000 in
theorem rM_ok_82 : rM (8, 55, 17, 2) := Or.inl ⟨_, rfl, rfl, Or.inl (List.mem_of_getElem? (i := 572) (by decide +kernel))⟩
set_option maxRecDepth 20000 in
theorem rM_ok_83 : rM (8, 59, 18, 2) := Or.inl ⟨_, rfl, rfl, Or.inl (List.mem_of_getElem? (i := 669) (by decide +kernel))⟩
set_option maxRecDepth 20000 in
theorem rM_ok_84 : rM (8, 62, 19, 3) := Or.inl ⟨_, rfl, rfl, Or.inl (List.mem_of_getElem? (i := 678) (by decide +kernel))⟩
set_option maxRecDepth 20000 in
theorem rM_ok_85 : rM (8, 66, 20, 0) := Or.inl ⟨_, rfl, rfl, Or.inl (List.mem_of_getElem? (i := 588) (by decide +kernel))⟩
set_option maxRecDepth 20000 in
theorem rM_ok_86 : rM (8, 70, 21, 1) := Or.inl ⟨_, rfl, rfl, Or.inl (List.mem_of_getElem? (i := 606) (by decide +kernel))⟩
set_option maxRecDepth 20000 in
theorem rM_ok_87 : rM (8, 73, 22, 1) := Or.inl ⟨_, rfl, rfl, Or.inl (List.mem_of_getElem? (i := 619) (by decide +kernel))⟩
set_option maxRecDepth 20000 in
theorem rM_ok_88 : rM (8, 77, 23, 2) := Or.inl ⟨_, rfl, rfl, Or.inl (List.mem_of_getElem? (i := 687) (by decide +kernel))⟩
set_option maxRecDepth 20000 in
theorem rM_ok_89 : rM (8, 84, 6, 1) := Or.inl ⟨_, rfl, rfl, Or.inl (List.mem_of_getElem? (i := 425) (by decide +kernel))⟩
set_option maxRecDepth 20000 in
theorem rM_ok_90 : rM (8, 101, 92, 2) := Or.inl ⟨_, rfl, rfl, Or.inl (List.mem_of_getElem? (i := 429) (by decide +kernel))⟩
set_option maxRecDepth 20000 in
theorem rM_ok_91 : rM (8, 109, 51, 1) := Or.inl ⟨_, rfl, rfl, Or.inl (List.mem_of_getElem? (i := 436) (by decide +kernel))⟩
set_option maxRecDepth 20000 in
theorem rM_ok_92 : rM (8, 112, 52, 1) := Or.inl ⟨_, rfl, rfl, Or.inl (List.mem_of_getElem? (i := 440) (by decide +kernel))⟩
set_option maxRecDepth 20000 in
theorem rM_ok_93 : rM (8, 141, 53, 2) := Or.inl ⟨_, rfl, rfl, Or.inl (List.mem_of_getElem? (i := 533) (by decide +kernel))⟩
set_option maxRecDepth 20000 in
theorem rM_ok_94 : rM (8, 155, 3, 1) := Or.inl ⟨_, rfl, rfl, Or.inl (List.mem_of_getElem? (i := 445) (by decide +kernel))⟩
set_option maxRecDepth 20000 in
theorem rM_ok_95 : rM (8, 170, 29, 3) := Or.inl ⟨_, rfl, rfl, Or.inl (List.mem_of_getElem? (i := 473) (by decide +kernel))⟩
set_option maxRecDepth 20000 in
theorem rM_ok_96 : rM (8, 185, 61, 0) := Or.inl ⟨_, rfl, rfl, Or.inl (List.mem_of_getElem? (i := 345) (by decide +kernel))⟩
set_option maxRecDepth 20000 in
theorem rM_ok_97 : rM (8, 188, 94, 1) := Or.inl ⟨_, rfl, rfl, Or.inl (List.mem_of_getElem? (i := 461) (by decide +kernel))⟩
set_option maxRecDepth 20000 in
theorem rM_ok_98 : rM (8, 202, 60, 0) := Or.inl ⟨_, rfl, rfl, Or.inl (List.mem_of_getElem? (i := 337) (by decide +kernel))⟩
set_option maxRecDepth 20000 in
theorem rM_ok_99 : rM (8, 205, 58, 0) := Or.inl ⟨_, rfl, rfl, Or.inl (List.mem_of_getElem? (i := 349) (by decide +kernel))⟩
set_option maxRecDepth 20000 in
theorem rM_ok_100 : rM (8, 211, 62, 0) := Or.inl ⟨_, rfl, rfl, Or.inl (List.mem_of_getElem? (i := 359) (by decide +kernel))⟩
set_option maxRecDepth 20000 in
theorem rM_ok_101 : rM (8, 217, 59, 0) := Or.inl ⟨_, rfl, rfl, Or.inl (List.mem_of_getElem? (i := 363) (by decide +kernel))⟩
set_option maxRecDepth 20000 in
theorem rM_ok_102 : rM (8, 220, 91, 1) := Or.inl ⟨_, rfl, rfl, Or.inl (List.mem_of_getElem? (i := 373) (by decide +kernel))⟩
set_option maxRecDepth 20000 in
theorem rM_ok_103 : rM (8, 223, 42, 1) := Or.inl ⟨_, rfl, rfl, Or.inl (List.mem_of_getElem? (i := 382) (by decide +kernel))⟩
set_option maxRecDepth 20000 in
theorem rM_ok_104 : rM (8, 227, 65, 1) := Or.inl ⟨_, rfl, rfl, Or.inl (List.mem_of_getElem? (i := 709) (by decide +kernel))⟩
set_option maxRecDepth 20000 in
theorem rM_ok_105 : rM (8, 230, 66, 0) := Or.inl ⟨_, rfl, rfl, Or.inl (List.mem_of_getElem? (i := 701) (by decide +kernel))⟩
set_option maxRecDepth 20000 in
theorem rM_ok_106 : rM (8, 233, 44, 3) := Or.inl ⟨_, rfl, rfl, Or.inl (List.mem_of_getElem? (i := 723) (by decide +kernel))⟩
set_option maxRecDepth 20000 in
theorem rM_ok_107 : rM (8, 249, 15, 1) := Or.inl ⟨_, rfl, rfl, Or.inl (List.mem_of_getElem? (i := 763) (by decide +kernel))⟩
set_option maxRecDepth 20000 in
theorem rM_ok_108 : rM (13, 13, 85, 1) := Or.inl ⟨_, rfl, rfl, Or.inl (List.mem_of_getElem? (i := 333) (by decide +kernel))⟩
set_option maxRecDepth 20000 in
theorem rM_ok_109 : rM (13, 19, 77, 2) := Or.inl ⟨_, rfl, rfl, Or.inl (List.mem_of_getElem? (i := 421) (by decide +kernel))⟩
set_option maxRecDepth 20000 in
theorem rM_ok_110 : rM (13, 23, 78, 2) := Or.inl ⟨_, rfl, rfl, Or.inl (List.mem_of_getElem? (i := 432) (by decide +kernel))⟩
set_option maxRecDepth 20000 in
theorem rM_ok_111 : rM (13, 26, 80, 2) := Or.inl ⟨_, rfl, rfl, Or.inl (List.mem_of_getElem? (i := 441) (by decide +kernel))⟩
set_option maxRecDepth 20000 in
theorem rM_ok_112 : rM (13, 33, 101, 1) := Or.inl ⟨_, rfl, rfl, Or.inl (List.mem_of_getElem? (i := 454) (by decide +kernel))⟩
set_option maxRecDepth 20000 in
theorem rM_ok_113 : rM (13, 36, 84, 0) := Or.inl ⟨_, rfl, rfl, Or.inl (List.mem_of_getElem? (i := 457) (by decide +kernel))⟩
set_option maxRecDepth 20000 in
theorem rM_ok_114 : rM (13, 40, 99, 2) := Or.inl ⟨_, rfl, rfl, Or.inl (List.mem_of_getElem? (i := 412) (by decide +kernel))⟩
set_option maxRecDepth 20000 in
theorem rM_ok_115 : rM (13, 43, 81, 2) := Or.inl ⟨_, rfl, rfl, Or.inl (List.mem_of_getElem? (i := 468) (by decide +kernel))⟩
set_option maxRecDepth 20000 in
theorem rM_ok_116 : rM (13, 46, 83, 1) := Or.inl ⟨_, rfl, rfl, Or.inl (List.mem_of_getElem? (i := 521) (by decide +kernel))⟩
set_option maxRecDepth 20000 in
theorem rM_ok_117 : rM (13, 49, 82, 0) := Or.inl ⟨_, rfl, rfl, Or.inl (List.mem_of_getElem? (i := 525) (by decide +kernel))⟩
set_option maxRecDepth 20000 in
theorem rM_ok_118 : rM (13, 52, 79, 2) := Or.inl ⟨_, rfl, rfl, Or.inl (List.mem_of_getElem? (i := 529) (by decide +kernel))⟩
set_option maxRecDepth 20000 in
theorem rM_ok_119 : rM (13, 56, 87, 1) := Or.inl ⟨_, rfl, rfl, Or.inl (List.mem_of_getElem? (i := 705) (by decide +kernel))⟩
set_option maxRecDepth 20000 in
theorem rM_ok_120 : rM (13, 59, 88, 0) := Or.inl ⟨_, rfl, rfl, Or.inl (List.mem_of_getElem? (i := 697) (by decide +kernel))⟩
set_option maxRecDepth 20000 in
theorem rM_ok_121 : rM (13, 62, 104, 2) := Or.inl ⟨_, rfl, rfl, Or.inl (List.mem_of_getElem? (i := 716) (by decide +kernel))⟩
set_option maxRecDepth 20000 in
theorem rM_ok_122 : rM (13, 66, 105, 2) := Or.inl ⟨_, rfl, rfl, Or.inl (List.mem_of_getElem? (i := 694) (by decide +kernel))⟩
set_option maxRecDepth 20000 in
theorem rM_ok_123 : rM (13, 69, 89, 1) := Or.inl ⟨_, rfl, rfl, Or.inl (List.mem_of_getElem? (i := 719) (by decide +kernel))⟩
set_option maxRecDepth 20000 in
theorem rM_ok_124 : rM (13, 72, 90, 0) := Or.inl ⟨_, rfl, rfl, Or.inl (List.mem_of_getElem? (i := 759) (by decide +kernel))⟩
set_option maxRecDepth 20000 in
theorem rM_ok_125 : rM (13, 76, 73, 0) := Or.inl ⟨_, rfl, rfl, Or.inl (List.mem_of_getElem? (i := 584) (by decide +kernel))⟩
set_option maxRecDepth 20000 in
theorem rM_ok_126 : rM (13, 79, 74, 1) := Or.inl ⟨_, rfl, rfl, Or.inl (List.mem_of_getElem? (i := 602) (by decide +kernel))⟩
set_option maxRecDepth 20000 in
theorem rM_ok_127 : rM (13, 82, 75, 0) := Or.inl ⟨_, rfl, rfl, Or.inl (List.mem_of_getElem? (i := 615) (by decide +kernel))⟩
set_option maxRecDepth 20000 in
theorem rM_ok_128 : rM (13, 85, 69, 1) := Or.inl ⟨_, rfl, rfl, Or.inl (List.mem_of_getElem? (i := 538) (by decide +kernel))⟩
set_option maxRecDepth 20000 in
theorem rM_ok_129 : rM (13, 88, 70, 2) := Or.inl ⟨_, rfl, rfl, Or.inl (List.mem_of_getElem? (i := 568) (by decide +kernel))⟩
set_option maxRecDepth 20000 in
theorem rM_ok_130 : rM (13, 91, 107, 3) := Or.inl ⟨_, rfl, rfl, Or.inl (List.mem_of_getElem? (i := 581) (by decide +kernel))⟩
set_option maxRecDepth 20000 in
theorem rM_ok_131 : rM (13, 95, 71, 2) := Or.inl ⟨_, rfl, rfl, Or.inl (List.mem_of_getElem? (i := 665) (by decide +kernel))⟩
set_option maxRecDepth 20000 in
theorem rM_ok_132 : rM (13, 98, 72, 3) := Or.inl ⟨_, rfl, rfl, Or.inl (List.mem_of_getElem? (i := 674) (by decide +kernel))⟩
set_option maxRecDepth 20000 in
theorem rM_ok_133 : rM (13, 102, 76, 2) := Or.inl ⟨_, rfl, rfl, Or.inl (List.mem_of_getElem? (i := 683) (by decide +kernel))⟩
set_option maxRecDepth 20000 in
theorem rM_ok_134 : rM (13, 105, 106, 2) := Or.inl ⟨_, rfl, rfl, Or.inl (List.mem_of_getElem? (i := 691) (by decide +kernel))⟩
set_option maxRecDepth 20000 in
theorem rM_ok_135 : rM (13, 108, 68, 0) := Or.inl ⟨_, rfl, rfl, Or.inl (List.mem_of_getElem? (i := 15) (by decide +kernel))⟩
set_option maxRecDepth 20000 in
theorem rM_ok_136 : rM (13, 109, 102, 1) := Or.inl ⟨_, rfl, rfl, Or.inl (List.mem_of_getElem? (i := 449) (by decide +kernel))⟩
set_option maxRecDepth 20000 in
theorem rM_ok_137 : rM (13, 113, 103, 2) := Or.inl ⟨_, rfl, rfl, Or.inl (List.mem_of_getElem? (i := 465) (by decide +kernel))⟩
set_option maxRecDepth 20000 in
theorem rM_ok_138 : rM (13, 116, 86, 0) := Or.inl ⟨_, rfl, rfl, Or.inl (List.mem_of_getElem? (i := 378) (by decide +kernel))⟩
set_option maxRecDepth 20000 in
theorem rM_ok_139 : rM (13, 119, 98, 2) := Or.inl ⟨_, rfl, rfl, Or.inl (List.mem_of_getElem? (i := 408) (by decide +kernel))⟩
set_option maxRecDepth 20000 in
theorem rM_ok_140 : rM (13, 123, 100, 1) := Or.inl ⟨_, rfl, rfl, Or.inl (List.mem_of_getElem? (i := 416) (by decide +kernel))⟩
set_option maxRecDepth 20000 in
theorem rM_ok_141 : rM (13, 127, 108, 3) := Or.inl ⟨_, rfl, rfl, Or.inl (List.mem_of_getElem? (i := 535) (by decide +kernel))⟩
set_option maxRecDepth 100000 in
theorem rM_ok : ∀ q ∈ resM, rM q := List.forall_mem_cons.mpr ⟨rM_ok_0, List.forall_mem_cons.mpr ⟨rM_ok_1, List.forall_mem_cons.mpr ⟨rM_ok_2, List.forall_mem_cons.mpr ⟨rM_ok_3, List.forall_mem_cons.mpr ⟨rM_ok_4, List.forall_mem_cons.mpr ⟨rM_ok_5, List.forall_mem_cons.mpr ⟨rM_ok_6, List.forall_mem_cons.mpr ⟨rM_ok_7, List.forall_mem_cons.mpr ⟨rM_ok_8, List.forall_mem_cons.mpr ⟨rM_ok_9, List.forall_mem_cons.mpr ⟨rM_ok_10, List.forall_mem_cons.mpr ⟨rM_ok_11, List.forall_mem_cons.mpr ⟨rM_ok_12, List.forall_mem_cons.mpr ⟨rM_ok_13, List.forall_mem_cons.mpr ⟨rM_ok_14, List.forall_mem_cons.mpr ⟨rM_ok_15, List.forall_mem_cons.mpr ⟨rM_ok_16, List.forall_mem_cons.mpr ⟨rM_ok_17, List.forall_mem_cons.mpr ⟨rM_ok_18, List.forall_mem_cons.mpr ⟨rM_ok_19, List.forall_mem_cons.mpr ⟨rM_ok_20, List.forall_mem_cons.mpr ⟨rM_ok_21, List.forall_mem_cons.mpr ⟨rM_ok_22, List.forall_mem_cons.mpr ⟨rM_ok_23, List.forall_mem_cons.mpr ⟨rM_ok_24, List.forall_mem_cons.mpr ⟨rM_ok_25, List.forall_mem_cons.mpr ⟨rM_ok_26, List.forall_mem_cons.mpr ⟨rM_ok_27, List.forall_mem_cons.mpr ⟨rM_ok_28, List.forall_mem_cons.mpr ⟨rM_ok_29, List.forall_mem_cons.mpr ⟨rM_ok_30, List.forall_mem_cons.mpr ⟨rM_ok_31, List.forall_mem_cons.mpr ⟨rM_ok_32, List.forall_mem_cons.mpr ⟨rM_ok_33, List.forall_mem_cons.mpr ⟨rM_ok_34, List.forall_mem_cons.mpr ⟨rM_ok_35, List.forall_mem_cons.mpr ⟨rM_ok_36, List.forall_mem_cons.mpr ⟨rM_ok_37, List.forall_mem_cons.mpr ⟨rM_ok_38, List.forall_mem_cons.mpr ⟨rM_ok_39, List.forall_mem_cons.mpr ⟨rM_ok_40, List.forall_mem_cons.mpr ⟨rM_ok_41, List.forall_mem_cons.mpr ⟨rM_ok_42, List.forall_mem_cons.mpr ⟨rM_ok_43, List.forall_mem_cons.mpr ⟨rM_ok_44, List.forall_mem_cons.mpr ⟨rM_ok_45, List.forall_mem_cons.mpr ⟨rM_ok_46, List.forall_mem_cons.mpr ⟨rM_ok_47, List.forall_mem_cons.mpr ⟨rM_ok_48, List.forall_mem_cons.mpr ⟨rM_ok_49, List.forall_mem_cons.mpr ⟨rM_ok_50, List.forall_mem_cons.mpr ⟨rM_ok_51, List.forall_mem_cons.mpr ⟨rM_ok_52, List.forall_mem_cons.mpr ⟨rM_ok_53, List.forall_mem_cons.mpr ⟨rM_ok_54, List.forall_mem_cons.mpr ⟨rM_ok_55, List.forall_mem_cons.mpr ⟨rM_ok_56, List.forall_mem_cons.mpr ⟨rM_ok_57, List.forall_mem_cons.mpr ⟨rM_ok_58, List.forall_mem_cons.mpr ⟨rM_ok_59, List.forall_mem_cons.mpr ⟨rM_ok_60, List.forall_mem_cons.mpr ⟨rM_ok_61, List.forall_mem_cons.mpr ⟨rM_ok_62, List.forall_mem_cons.mpr ⟨rM_ok_63, List.forall_mem_cons.mpr ⟨rM_ok_64, List.forall_mem_cons.mpr ⟨rM_ok_65, List.forall_mem_cons.mpr ⟨rM_ok_66, List.forall_mem_cons.mpr ⟨rM_ok_67, List.forall_mem_cons.mpr ⟨rM_ok_68, List.forall_mem_cons.mpr ⟨rM_ok_69, List.forall_mem_cons.mpr ⟨rM_ok_70, List.forall_mem_cons.mpr ⟨rM_ok_71, List.forall_mem_cons.mpr ⟨rM_ok_72, List.forall_mem_cons.mpr ⟨rM_ok_73, List.forall_mem_cons.mpr ⟨rM_ok_74, List.forall_mem_cons.mpr ⟨rM_ok_75, List.forall_mem_cons.mpr ⟨rM_ok_76, List.forall_mem_cons.mpr ⟨rM_ok_77, List.forall_mem_cons.mpr ⟨rM_ok_78, List.forall_mem_cons.mpr ⟨rM_ok_79, List.forall_mem_cons.mpr ⟨rM_ok_80, List.forall_mem_cons.mpr ⟨rM_ok_81, List.forall_mem_cons.mpr ⟨rM_ok_82, List.forall_mem_cons.mpr ⟨rM_ok_83, List.forall_mem_cons.mpr ⟨rM_ok_84, List.forall_mem_cons.mpr ⟨rM_ok_85, List.forall_mem_cons.mpr ⟨rM_ok_86, List.forall_mem_cons.mpr ⟨rM_ok_87, List.forall_mem_cons.mpr ⟨rM_ok_88, List.forall_mem_cons.mpr ⟨rM_ok_89, List.forall_mem_cons.mpr ⟨rM_ok_90, List.forall_mem_cons.mpr ⟨rM_ok_91, List.forall_mem_cons.mpr ⟨rM_ok_92, List.forall_mem_cons.mpr ⟨rM_ok_93, List.forall_mem_cons.mpr ⟨rM_ok_94, List.forall_mem_cons.mpr ⟨rM_ok_95, List.forall_mem_cons.mpr ⟨rM_ok_96, List.forall_mem_cons.mpr ⟨rM_ok_97, List.forall_mem_cons.mpr ⟨rM_ok_98, List.forall_mem_cons.mpr ⟨rM_ok_99, List.forall_mem_cons.mpr ⟨rM_ok_100, List.forall_mem_cons.mpr ⟨rM_ok_101, List.forall_mem_cons.mpr ⟨rM_ok_102, List.forall_mem_cons.mpr ⟨rM_ok_103, List.forall_mem_cons.mpr ⟨rM_ok_104, List.forall_mem_cons.mpr ⟨rM_ok_105, List.forall_mem_cons.mpr ⟨rM_ok_106, List.forall_mem_cons.mpr ⟨rM_ok_107, List.forall_mem_cons.mpr ⟨rM_ok_108, List.forall_mem_cons.mpr ⟨rM_ok_109, List.forall_mem_cons.mpr ⟨rM_ok_110, List.forall_mem_cons.mpr ⟨rM_ok_111, List.forall_mem_cons.mpr ⟨rM_ok_112, List.forall_mem_cons.mpr ⟨rM_ok_113, List.forall_mem_cons.mpr ⟨rM_ok_114, List.forall_mem_cons.mpr ⟨rM_ok_115, List.forall_mem_cons.mpr ⟨rM_ok_116, List.forall_mem_cons.mpr ⟨rM_ok_117, List.forall_mem_cons.mpr ⟨rM_ok_118, List.forall_mem_cons.mpr ⟨rM_ok_119, List.forall_mem_cons.mpr ⟨rM_ok_120, List.forall_mem_cons.mpr ⟨rM_ok_121, List.forall_mem_cons.mpr ⟨rM_ok_122, List.forall_mem_cons.mpr ⟨rM_ok_123, List.forall_mem_cons.mpr ⟨rM_ok_124, List.forall_mem_cons.mpr ⟨rM_ok_125, List.forall_mem_cons.mpr ⟨rM_ok_126, List.forall_mem_cons.mpr ⟨rM_ok_127, List.forall_mem_cons.mpr ⟨rM_ok_128, List.forall_mem_cons.mpr ⟨rM_ok_129, List.forall_mem_cons.mpr ⟨rM_ok_130, List.forall_mem_cons.mpr ⟨rM_ok_131, List.forall_mem_cons.mpr ⟨rM_ok_132, List.forall_mem_cons.mpr ⟨rM_ok_133, List.forall_mem_cons.mpr ⟨rM_ok_134, List.forall_mem_cons.mpr ⟨rM_ok_135, List.forall_mem_cons.mpr ⟨rM_ok_136, List.forall_mem_cons.mpr ⟨rM_ok_137, List.forall_mem_cons.mpr ⟨rM_ok_138, List.forall_mem_cons.mpr ⟨rM_ok_139, List.forall_mem_cons.mpr ⟨rM_ok_140, List.forall_mem_cons.mpr ⟨rM_ok_141, fun _ h => absurd h List.not_mem_nil⟩⟩⟩⟩⟩⟩⟩⟩⟩⟩⟩⟩⟩⟩⟩⟩⟩⟩⟩⟩⟩⟩⟩⟩⟩⟩⟩⟩⟩⟩⟩⟩⟩⟩⟩⟩⟩⟩⟩⟩⟩⟩⟩⟩⟩⟩⟩⟩⟩⟩⟩⟩⟩⟩⟩⟩⟩⟩⟩⟩⟩⟩⟩⟩⟩⟩⟩⟩⟩⟩⟩⟩⟩⟩⟩⟩⟩⟩⟩⟩⟩⟩⟩⟩⟩⟩⟩⟩⟩⟩⟩⟩⟩⟩⟩⟩⟩⟩⟩⟩⟩⟩⟩⟩⟩⟩⟩⟩⟩⟩⟩⟩⟩⟩⟩⟩⟩⟩⟩⟩⟩⟩⟩⟩⟩⟩⟩⟩⟩⟩⟩⟩⟩⟩⟩⟩⟩⟩⟩⟩⟩⟩
set_option maxRecDepth 20000 in
theorem rN_ok_0 : rN (2, 9, 1) := ⟨_, rfl, List.mem_of_getElem? (i := 27) (by decide +kernel)⟩
set_option maxRecDepth 20000 in
theorem rN_ok_1 : rN (2, 18, 6) := ⟨_, rfl, List.mem_of_getElem? (i := 55) (by decide +kernel)⟩
set_option maxRecDepth 20000 in
theorem rN_ok_2 : rN (2, 25, 0) := ⟨_, rfl, List.mem_of_getElem? (i := 112) (by decide +kernel)⟩
set_option maxRecDepth 20000 in
theorem rN_ok_3 : rN (4, 11, 2) := ⟨_, rfl, List.mem_of_getElem? (i := 193) (by decide +kernel)⟩
set_option maxRecDepth 20000 in
theorem rN_ok_4 : rN (5, 9, 2) := ⟨_, rfl, List.mem_of_getElem? (i := 282) (by decide +kernel)⟩
set_option maxRecDepth 20000 in
theorem rN_ok_5 : rN (8, 7, 2) := ⟨_, rfl, List.mem_of_getElem? (i := 21) (by decide +kernel)⟩
set_option maxRecDepth 20000 in
theorem rN_ok_6 : rN (8, 16, 4) := ⟨_, rfl, List.mem_of_getElem? (i := 187) (by decide +kernel)⟩
set_option maxRecDepth 20000 in
theorem rN_ok_7 : rN (8, 23, 3) := ⟨_, rfl, List.mem_of_getElem? (i := 207) (by decide +kernel)⟩
set_option maxRecDepth 20000 in
theorem rN_ok_8 : rN (8, 30, 7) := ⟨_, rfl, List.mem_of_getElem? (i := 261) (by decide +kernel)⟩
set_option maxRecDepth 20000 in
theorem rN_ok_9 : rN (8, 37, 5) := ⟨_, rfl, List.mem_of_getElem? (i := 276) (by decide +kernel)⟩
set_option maxRecDepth 20000 in
theorem rN_ok_10 : rN (13, 14, 8) := ⟨_, rfl, List.mem_of_getElem? (i := 13) (by decide +kernel)⟩
set_option maxRecDepth 100000 in
theorem rN_ok : ∀ q ∈ resN, rN q := List.forall_mem_cons.mpr ⟨rN_ok_0, List.forall_mem_cons.mpr ⟨rN_ok_1, List.forall_mem_cons.mpr ⟨rN_ok_2, List.forall_mem_cons.mpr ⟨rN_ok_3, List.forall_mem_cons.mpr ⟨rN_ok_4, List.forall_mem_cons.mpr ⟨rN_ok_5, List.forall_mem_cons.mpr ⟨rN_ok_6, List.forall_mem_cons.mpr ⟨rN_ok_7, List.forall_mem_cons.mpr ⟨rN_ok_8, List.forall_mem_cons.mpr ⟨rN_ok_9, List.forall_mem_cons.mpr ⟨rN_ok_10, fun _ h => absurd h List.not_mem_nil⟩⟩⟩⟩⟩⟩⟩⟩⟩⟩⟩
set_option maxRecDepth 20000 in
theorem rC_ok_0 : rC (1, 31, 52) := Or.inl ⟨_, rfl, List.mem_of_getElem? (i := 558) (by decide +kernel)⟩
set_option maxRecDepth 20000 in
theorem rC_ok_1 : rC (2, 68, 53) := Or.inl ⟨_, rfl, List.mem_of_getElem? (i := 553) (by decide +kernel)⟩
set_option maxRecDepth 20000 in
theorem rC_ok_2 : rC (2, 73, 54) := Or.inl ⟨_, rfl, List.mem_of_getElem? (i := 559) (by decide +kernel)⟩
set_option maxRecDepth 20000 in
theorem rC_ok_3 : rC (2, 105, 52) := Or.inl ⟨_, rfl, List.mem_of_getElem? (i := 610) (by decide +kernel)⟩
set_option maxRecDepth 20000 in
theorem rC_ok_4 : rC (4, 35, 54) := Or.inl ⟨_, rfl, List.mem_of_getElem? (i := 386) (by decide +kernel)⟩
set_option maxRecDepth 20000 in
theorem rC_ok_5 : rC (6, 49, 52) := Or.inl ⟨_, rfl, List.mem_of_getElem? (i := 580) (by decide +kernel)⟩
set_option maxRecDepth 20000 in
theorem rC_ok_6 : rC (6, 66, 55) := Or.inl ⟨_, rfl, List.mem_of_getElem? (i := 371) (by decide +kernel)⟩
set_option maxRecDepth 20000 in
theorem rC_ok_7 : rC (7, 19, 53) := Or.inl ⟨_, rfl, List.mem_of_getElem? (i := 714) (by decide +kernel)⟩
set_option maxRecDepth 20000 in
theorem rC_ok_8 : rC (7, 24, 52) := Or.inl ⟨_, rfl, List.mem_of_getElem? (i := 715) (by decide +kernel)⟩
set_option maxRecDepth 20000 in
theorem rC_ok_9 : rC (8, 90, 53) := Or.inl ⟨_, rfl, List.mem_of_getElem? (i := 377) (by decide +kernel)⟩
set_option maxRecDepth 20000 in
theorem rC_ok_10 : rC (8, 154, 55) := Or.inl ⟨_, rfl, List.mem_of_getElem? (i := 372) (by decide +kernel)⟩
set_option maxRecDepth 20000 in
theorem rC_ok_11 : rC (8, 169, 54) := Or.inl ⟨_, rfl, List.mem_of_getElem? (i := 472) (by decide +kernel)⟩
set_option maxRecDepth 20000 in
theorem rC_ok_12 : rC (8, 265, 59) := Or.inr (Or.inl ⟨_, rfl, List.mem_of_getElem? (i := 464) (by decide +kernel)⟩)
set_option maxRecDepth 20000 in
theorem rC_ok_13 : rC (11, 265, 60) := Or.inl ⟨_, rfl, List.mem_of_getElem? (i := 356) (by decide +kernel)⟩
set_option maxRecDepth 20000 in
theorem rC_ok_14 : rC (11, 266, 61) := Or.inl ⟨_, rfl, List.mem_of_getElem? (i := 357) (by decide +kernel)⟩
set_option maxRecDepth 20000 in
theorem rC_ok_15 : rC (11, 267, 62) := Or.inl ⟨_, rfl, List.mem_of_getElem? (i := 358) (by decide +kernel)⟩
set_option maxRecDepth 20000 in
theorem rC_ok_16 : rC (13, 7, 63) := Or.inl ⟨_, rfl, List.mem_of_getElem? (i := 411) (by decide +kernel)⟩
set_option maxRecDepth 20000 in
theorem rC_ok_17 : rC (13, 8, 64) := Or.inl ⟨_, rfl, List.mem_of_getElem? (i := 415) (by decide +kernel)⟩
set_option maxRecDepth 20000 in
theorem rC_ok_18 : rC (13, 9, 65) := Or.inr (Or.inr ⟨_, rfl, List.mem_of_getElem? (i := 419) (by decide +kernel)⟩)
set_option maxRecDepth 20000 in
theorem rC_ok_19 : rC (13, 11, 66) := Or.inr (Or.inr ⟨_, rfl, List.mem_of_getElem? (i := 420) (by decide +kernel)⟩)
set_option maxRecDepth 20000 in
theorem rC_ok_20 : rC (13, 31, 55) := Or.inl ⟨_, rfl, List.mem_of_getElem? (i := 452) (by decide +kernel)⟩
set_option maxRecDepth 20000 in
theorem rC_ok_21 : rC (13, 32, 53) := Or.inl ⟨_, rfl, List.mem_of_getElem? (i := 453) (by decide +kernel)⟩
set_option maxRecDepth 20000 in
theorem rC_ok_22 : rC (13, 55, 54) := Or.inl ⟨_, rfl, List.mem_of_getElem? (i := 534) (by decide +kernel)⟩
set_option maxRecDepth 20000 in
theorem rC_ok_23 : rC (13, 75, 52) := Or.inl ⟨_, rfl, List.mem_of_getElem? (i := 567) (by decide +kernel)⟩
set_option maxRecDepth 100000 in
theorem rC_ok : ∀ q ∈ resC, rC q := List.forall_mem_cons.mpr ⟨rC_ok_0, List.forall_mem_cons.mpr ⟨rC_ok_1, List.forall_mem_cons.mpr ⟨rC_ok_2, List.forall_mem_cons.mpr ⟨rC_ok_3, List.forall_mem_cons.mpr ⟨rC_ok_4, List.forall_mem_cons.mpr ⟨rC_ok_5, List.forall_mem_cons.mpr ⟨rC_ok_6, List.forall_mem_cons.mpr ⟨rC_ok_7, List.forall_mem_cons.mpr ⟨rC_ok_8, List.forall_mem_cons.mpr ⟨rC_ok_9, List.forall_mem_cons.mpr ⟨rC_ok_10, List.forall_mem_cons.mpr ⟨rC_ok_11, List.forall_mem_cons.mpr ⟨rC_ok_12, List.forall_mem_cons.mpr ⟨rC_ok_13, List.forall_mem_cons.mpr ⟨rC_ok_14, List.forall_mem_cons.mpr ⟨rC_ok_15, List.forall_mem_cons.mpr ⟨rC_ok_16, List.forall_mem_cons.mpr ⟨rC_ok_17, List.forall_mem_cons.mpr ⟨rC_ok_18, List.forall_mem_cons.mpr ⟨rC_ok_19, List.forall_mem_cons.mpr ⟨rC_ok_20, List.forall_mem_cons.mpr ⟨rC_ok_21, List.forall_mem_cons.mpr ⟨rC_ok_22, List.forall_mem_cons.mpr ⟨rC_ok_23, fun _ h => absurd h List.not_mem_nil⟩⟩⟩⟩⟩⟩⟩⟩⟩⟩⟩⟩⟩⟩⟩⟩⟩⟩⟩⟩⟩⟩⟩⟩
set_option maxRecDepth 100000 in
theorem x_tk {α : Type} (l : List α) (n : Nat) (P : α → Prop) (a : Nat) (h : ∀ q ∈ (l.drop a).take n, P q) (h2 : ∀ q ∈ l.drop (a + n), P q) : ∀ q ∈ l.drop a, P q := by
  intro q hq
  rw [← List.take_append_drop n (l.drop a), List.mem_append, List.drop_drop] at hq
  exact hq.elim (h q) (h2 q)
theorem kk_Law_look : ∀ q ∈ k_Law_look, okE 13 cL_look q = true := by
  have h3 : ∀ q ∈ k_Law_look.drop 122, okE 13 cL_look q = true := fun q hq => absurd hq (by rw [show k_Law_look.drop 122 = [] from rfl]; exact List.not_mem_nil)
  have h2 : ∀ q ∈ k_Law_look.drop 120, okE 13 cL_look q = true := x_tk k_Law_look 2 (fun q => okE 13 cL_look q = true) 120 (List.all_eq_true.mp kk_Law_look2) h3
  have h1 : ∀ q ∈ k_Law_look.drop 60, okE 13 cL_look q = true := x_tk k_Law_look 60 (fun q => okE 13 cL_look q = true) 60 (List.all_eq_true.mp kk_Law_look1) h2
  have h0 : ∀ q ∈ k_Law_look.drop 0, okE 13 cL_look q = true := x_tk k_Law_look 60 (fun q => okE 13 cL_look q = true) 0 (List.all_eq_true.mp kk_Law_look0) h1
  exact h0
theorem kk_Law_holds : ∀ q ∈ k_Law_holds, okE 13 cL_holds q = true := by
  have h8 : ∀ q ∈ k_Law_holds.drop 443, okE 13 cL_holds q = true := fun q hq => absurd hq (by rw [show k_Law_holds.drop 443 = [] from rfl]; exact List.not_mem_nil)
  have h7 : ∀ q ∈ k_Law_holds.drop 420, okE 13 cL_holds q = true := x_tk k_Law_holds 23 (fun q => okE 13 cL_holds q = true) 420 (List.all_eq_true.mp kk_Law_holds7) h8
  have h6 : ∀ q ∈ k_Law_holds.drop 360, okE 13 cL_holds q = true := x_tk k_Law_holds 60 (fun q => okE 13 cL_holds q = true) 360 (List.all_eq_true.mp kk_Law_holds6) h7
  have h5 : ∀ q ∈ k_Law_holds.drop 300, okE 13 cL_holds q = true := x_tk k_Law_holds 60 (fun q => okE 13 cL_holds q = true) 300 (List.all_eq_true.mp kk_Law_holds5) h6
  have h4 : ∀ q ∈ k_Law_holds.drop 240, okE 13 cL_holds q = true := x_tk k_Law_holds 60 (fun q => okE 13 cL_holds q = true) 240 (List.all_eq_true.mp kk_Law_holds4) h5
  have h3 : ∀ q ∈ k_Law_holds.drop 180, okE 13 cL_holds q = true := x_tk k_Law_holds 60 (fun q => okE 13 cL_holds q = true) 180 (List.all_eq_true.mp kk_Law_holds3) h4
  have h2 : ∀ q ∈ k_Law_holds.drop 120, okE 13 cL_holds q = true := x_tk k_Law_holds 60 (fun q => okE 13 cL_holds q = true) 120 (List.all_eq_true.mp kk_Law_holds2) h3
  have h1 : ∀ q ∈ k_Law_holds.drop 60, okE 13 cL_holds q = true := x_tk k_Law_holds 60 (fun q => okE 13 cL_holds q = true) 60 (List.all_eq_true.mp kk_Law_holds1) h2
  have h0 : ∀ q ∈ k_Law_holds.drop 0, okE 13 cL_holds q = true := x_tk k_Law_holds 60 (fun q => okE 13 cL_holds q = true) 0 (List.all_eq_true.mp kk_Law_holds0) h1
  exact h0
theorem kk_Law_would : ∀ q ∈ k_Law_would, okE 13 cL_would q = true := by
  have h4 : ∀ q ∈ k_Law_would.drop 240, okE 13 cL_would q = true := fun q hq => absurd hq (by rw [show k_Law_would.drop 240 = [] from rfl]; exact List.not_mem_nil)
  have h3 : ∀ q ∈ k_Law_would.drop 180, okE 13 cL_would q = true := x_tk k_Law_would 60 (fun q => okE 13 cL_would q = true) 180 (List.all_eq_true.mp kk_Law_would3) h4
  have h2 : ∀ q ∈ k_Law_would.drop 120, okE 13 cL_would q = true := x_tk k_Law_would 60 (fun q => okE 13 cL_would q = true) 120 (List.all_eq_true.mp kk_Law_would2) h3
  have h1 : ∀ q ∈ k_Law_would.drop 60, okE 13 cL_would q = true := x_tk k_Law_would 60 (fun q => okE 13 cL_would q = true) 60 (List.all_eq_true.mp kk_Law_would1) h2
  have h0 : ∀ q ∈ k_Law_would.drop 0, okE 13 cL_would q = true := x_tk k_Law_would 60 (fun q => okE 13 cL_would q = true) 0 (List.all_eq_true.mp kk_Law_would0) h1
  exact h0
theorem kk_Law_types : ∀ q ∈ k_Law_types, okE 13 cL_types q = true := by
  have h3 : ∀ q ∈ k_Law_types.drop 147, okE 13 cL_types q = true := fun q hq => absurd hq (by rw [show k_Law_types.drop 147 = [] from rfl]; exact List.not_mem_nil)
  have h2 : ∀ q ∈ k_Law_types.drop 120, okE 13 cL_types q = true := x_tk k_Law_types 27 (fun q => okE 13 cL_types q = true) 120 (List.all_eq_true.mp kk_Law_types2) h3
  have h1 : ∀ q ∈ k_Law_types.drop 60, okE 13 cL_types q = true := x_tk k_Law_types 60 (fun q => okE 13 cL_types q = true) 60 (List.all_eq_true.mp kk_Law_types1) h2
  have h0 : ∀ q ∈ k_Law_types.drop 0, okE 13 cL_types q = true := x_tk k_Law_types 60 (fun q => okE 13 cL_types q = true) 0 (List.all_eq_true.mp kk_Law_types0) h1
  exact h0
theorem kk_Law_reads : ∀ q ∈ k_Law_reads, okE 13 cL_reads q = true := by
  have h3 : ∀ q ∈ k_Law_reads.drop 135, okE 13 cL_reads q = true := fun q hq => absurd hq (by rw [show k_Law_reads.drop 135 = [] from rfl]; exact List.not_mem_nil)
  have h2 : ∀ q ∈ k_Law_reads.drop 120, okE 13 cL_reads q = true := x_tk k_Law_reads 15 (fun q => okE 13 cL_reads q = true) 120 (List.all_eq_true.mp kk_Law_reads2) h3
  have h1 : ∀ q ∈ k_Law_reads.drop 60, okE 13 cL_reads q = true := x_tk k_Law_reads 60 (fun q => okE 13 cL_reads q = true) 60 (List.all_eq_true.mp kk_Law_reads1) h2
  have h0 : ∀ q ∈ k_Law_reads.drop 0, okE 13 cL_reads q = true := x_tk k_Law_reads 60 (fun q => okE 13 cL_reads q = true) 0 (List.all_eq_true.mp kk_Law_reads0) h1
  exact h0
theorem kk_Law_music : ∀ q ∈ k_Law_music, okE 13 cL_music q = true := by
  have h6 : ∀ q ∈ k_Law_music.drop 331, okE 13 cL_music q = true := fun q hq => absurd hq (by rw [show k_Law_music.drop 331 = [] from rfl]; exact List.not_mem_nil)
  have h5 : ∀ q ∈ k_Law_music.drop 300, okE 13 cL_music q = true := x_tk k_Law_music 31 (fun q => okE 13 cL_music q = true) 300 (List.all_eq_true.mp kk_Law_music5) h6
  have h4 : ∀ q ∈ k_Law_music.drop 240, okE 13 cL_music q = true := x_tk k_Law_music 60 (fun q => okE 13 cL_music q = true) 240 (List.all_eq_true.mp kk_Law_music4) h5
  have h3 : ∀ q ∈ k_Law_music.drop 180, okE 13 cL_music q = true := x_tk k_Law_music 60 (fun q => okE 13 cL_music q = true) 180 (List.all_eq_true.mp kk_Law_music3) h4
  have h2 : ∀ q ∈ k_Law_music.drop 120, okE 13 cL_music q = true := x_tk k_Law_music 60 (fun q => okE 13 cL_music q = true) 120 (List.all_eq_true.mp kk_Law_music2) h3
  have h1 : ∀ q ∈ k_Law_music.drop 60, okE 13 cL_music q = true := x_tk k_Law_music 60 (fun q => okE 13 cL_music q = true) 60 (List.all_eq_true.mp kk_Law_music1) h2
  have h0 : ∀ q ∈ k_Law_music.drop 0, okE 13 cL_music q = true := x_tk k_Law_music 60 (fun q => okE 13 cL_music q = true) 0 (List.all_eq_true.mp kk_Law_music0) h1
  exact h0
theorem kk_Law_acts : ∀ q ∈ k_Law_acts, okE 13 cL_acts q = true := by
  have h8 : ∀ q ∈ k_Law_acts.drop 424, okE 13 cL_acts q = true := fun q hq => absurd hq (by rw [show k_Law_acts.drop 424 = [] from rfl]; exact List.not_mem_nil)
  have h7 : ∀ q ∈ k_Law_acts.drop 420, okE 13 cL_acts q = true := x_tk k_Law_acts 4 (fun q => okE 13 cL_acts q = true) 420 (List.all_eq_true.mp kk_Law_acts7) h8
  have h6 : ∀ q ∈ k_Law_acts.drop 360, okE 13 cL_acts q = true := x_tk k_Law_acts 60 (fun q => okE 13 cL_acts q = true) 360 (List.all_eq_true.mp kk_Law_acts6) h7
  have h5 : ∀ q ∈ k_Law_acts.drop 300, okE 13 cL_acts q = true := x_tk k_Law_acts 60 (fun q => okE 13 cL_acts q = true) 300 (List.all_eq_true.mp kk_Law_acts5) h6
  have h4 : ∀ q ∈ k_Law_acts.drop 240, okE 13 cL_acts q = true := x_tk k_Law_acts 60 (fun q => okE 13 cL_acts q = true) 240 (List.all_eq_true.mp kk_Law_acts4) h5
  have h3 : ∀ q ∈ k_Law_acts.drop 180, okE 13 cL_acts q = true := x_tk k_Law_acts 60 (fun q => okE 13 cL_acts q = true) 180 (List.all_eq_true.mp kk_Law_acts3) h4
  have h2 : ∀ q ∈ k_Law_acts.drop 120, okE 13 cL_acts q = true := x_tk k_Law_acts 60 (fun q => okE 13 cL_acts q = true) 120 (List.all_eq_true.mp kk_Law_acts2) h3
  have h1 : ∀ q ∈ k_Law_acts.drop 60, okE 13 cL_acts q = true := x_tk k_Law_acts 60 (fun q => okE 13 cL_acts q = true) 60 (List.all_eq_true.mp kk_Law_acts1) h2
  have h0 : ∀ q ∈ k_Law_acts.drop 0, okE 13 cL_acts q = true := x_tk k_Law_acts 60 (fun q => okE 13 cL_acts q = true) 0 (List.all_eq_true.mp kk_Law_acts0) h1
  exact h0
set_option maxRecDepth 20000 in
theorem rK_ok_0 : rK (RX0, TX0, 7) := ⟨List.mem_of_getElem? (i := 113) (by decide +kernel), List.mem_of_getElem? (i := 5) (by decide +kernel), by decide +kernel, nmX0, tyX0, tyX0_ok⟩
set_option maxRecDepth 20000 in
theorem rK_ok_1 : rK (RX1, TX1, 4) := ⟨List.mem_of_getElem? (i := 28) (by decide +kernel), List.mem_of_getElem? (i := 3) (by decide +kernel), by decide +kernel, nmX1, tyX1, tyX1_ok⟩
set_option maxRecDepth 20000 in
theorem rK_ok_2 : rK (RX2, TX2, 10) := ⟨List.mem_of_getElem? (i := 22) (by decide +kernel), List.mem_of_getElem? (i := 2) (by decide +kernel), by decide +kernel, nmX2, tyX2, tyX2_ok⟩
set_option maxRecDepth 20000 in
theorem rK_ok_3 : rK (RX3, TX3, 12) := ⟨List.mem_of_getElem? (i := 208) (by decide +kernel), List.mem_of_getElem? (i := 7) (by decide +kernel), by decide +kernel, nmX3, tyX3, tyX3_ok⟩
set_option maxRecDepth 20000 in
theorem rK_ok_4 : rK (RX4, TX4, 3) := ⟨List.mem_of_getElem? (i := 188) (by decide +kernel), List.mem_of_getElem? (i := 6) (by decide +kernel), by decide +kernel, nmX4, tyX4, tyX4_ok⟩
set_option maxRecDepth 20000 in
theorem rK_ok_5 : rK (RX5, TX5, 9) := ⟨List.mem_of_getElem? (i := 277) (by decide +kernel), List.mem_of_getElem? (i := 9) (by decide +kernel), by decide +kernel, nmX5, tyX5, tyX5_ok⟩
set_option maxRecDepth 20000 in
theorem rK_ok_6 : rK (RX6, TX6, 10) := ⟨List.mem_of_getElem? (i := 56) (by decide +kernel), List.mem_of_getElem? (i := 4) (by decide +kernel), by decide +kernel, nmX6, tyX6, tyX6_ok⟩
set_option maxRecDepth 20000 in
theorem rK_ok_7 : rK (RX7, TX7, 2) := ⟨List.mem_of_getElem? (i := 262) (by decide +kernel), List.mem_of_getElem? (i := 8) (by decide +kernel), by decide +kernel, nmX7, tyX7, tyX7_ok⟩
set_option maxRecDepth 20000 in
theorem rK_ok_8 : rK (RX8, TX8, 5) := ⟨List.mem_of_getElem? (i := 14) (by decide +kernel), List.mem_of_getElem? (i := 1) (by decide +kernel), by decide +kernel, nmX8, tyX8, tyX8_ok⟩
set_option maxRecDepth 100000 in
theorem rK_ok : ∀ q ∈ vwCl, rK q := List.forall_mem_cons.mpr ⟨rK_ok_0, List.forall_mem_cons.mpr ⟨rK_ok_1, List.forall_mem_cons.mpr ⟨rK_ok_2, List.forall_mem_cons.mpr ⟨rK_ok_3, List.forall_mem_cons.mpr ⟨rK_ok_4, List.forall_mem_cons.mpr ⟨rK_ok_5, List.forall_mem_cons.mpr ⟨rK_ok_6, List.forall_mem_cons.mpr ⟨rK_ok_7, List.forall_mem_cons.mpr ⟨rK_ok_8, fun _ h => absurd h List.not_mem_nil⟩⟩⟩⟩⟩⟩⟩⟩⟩
set_option maxRecDepth 20000 in
theorem mt_ok_0 : mOk (m_Bells_init, yX0_init, cX0_init, 2, 0) := ⟨List.all_eq_true.mp kk_Bells_init, List.mem_of_getElem? (i := 116) (by decide +kernel), rfl, List.mem_of_getElem? (i := 5) (by decide +kernel), plainFor_of_name (by decide +kernel), ⟨by decide +kernel, by decide +kernel, by decide +kernel⟩, by decide, fun _ => rfl, Or.inr (Or.inr ⟨rfl, rfl, List.mem_of_getElem? (i := 115) (by decide +kernel), rfl⟩)⟩
set_option maxRecDepth 20000 in
theorem mt_ok_1 : mOk (m_Bells_copyFrom, yX0_copyFrom, cX0_copyFrom, 0, 1) := ⟨List.all_eq_true.mp kk_Bells_copyFrom, List.mem_of_getElem? (i := 406) (by decide +kernel), rfl, List.mem_of_getElem? (i := 5) (by decide +kernel), plainFor_of_name (by decide +kernel), ⟨by decide +kernel, by decide +kernel, by decide +kernel⟩, by decide, fun h => absurd h (by decide), Or.inl ⟨rfl, List.mem_of_getElem? (i := 404) (by decide +kernel), List.mem_of_getElem? (i := 425) (by decide +kernel), _, rfl, rfl⟩⟩
set_option maxRecDepth 20000 in
theorem mt_ok_2 : mOk (m_Bells_ring, yX0_ring, cX0_ring, 0, 5) := ⟨List.all_eq_true.mp kk_Bells_ring, List.mem_of_getElem? (i := 644) (by decide +kernel), rfl, List.mem_of_getElem? (i := 5) (by decide +kernel), plainFor_of_name (by decide +kernel), ⟨by decide +kernel, by decide +kernel, by decide +kernel⟩, by decide, fun h => absurd h (by decide), Or.inl ⟨rfl, List.mem_of_getElem? (i := 642) (by decide +kernel), List.mem_of_getElem? (i := 663) (by decide +kernel), _, rfl, rfl⟩⟩
set_option maxRecDepth 20000 in
theorem mt_ok_3 : mOk (m_Bells_rowOf, yX0_rowOf, cX0_rowOf, 0, 1) := ⟨List.all_eq_true.mp kk_Bells_rowOf, List.mem_of_getElem? (i := 448) (by decide +kernel), rfl, List.mem_of_getElem? (i := 5) (by decide +kernel), plainFor_of_name (by decide +kernel), ⟨by decide +kernel, by decide +kernel, by decide +kernel⟩, by decide, fun h => absurd h (by decide), Or.inl ⟨rfl, List.mem_of_getElem? (i := 446) (by decide +kernel), List.mem_of_getElem? (i := 467) (by decide +kernel), _, rfl, rfl⟩⟩
set_option maxRecDepth 20000 in
theorem mt_ok_4 : mOk (m_Chairs_init, yX1_init, cX1_init, 2, 0) := ⟨List.all_eq_true.mp kk_Chairs_init, List.mem_of_getElem? (i := 31) (by decide +kernel), rfl, List.mem_of_getElem? (i := 3) (by decide +kernel), plainFor_of_name (by decide +kernel), ⟨by decide +kernel, by decide +kernel, by decide +kernel⟩, by decide, fun _ => rfl, Or.inr (Or.inr ⟨rfl, rfl, List.mem_of_getElem? (i := 30) (by decide +kernel), rfl⟩)⟩
set_option maxRecDepth 20000 in
theorem mt_ok_5 : mOk (m_Chairs_copyFrom, yX1_copyFrom, cX1_copyFrom, 0, 1) := ⟨List.all_eq_true.mp kk_Chairs_copyFrom, List.mem_of_getElem? (i := 394) (by decide +kernel), rfl, List.mem_of_getElem? (i := 3) (by decide +kernel), plainFor_of_name (by decide +kernel), ⟨by decide +kernel, by decide +kernel, by decide +kernel⟩, by decide, fun h => absurd h (by decide), Or.inl ⟨rfl, List.mem_of_getElem? (i := 392) (by decide +kernel), List.mem_of_getElem? (i := 413) (by decide +kernel), _, rfl, rfl⟩⟩
set_option maxRecDepth 20000 in
theorem mt_ok_6 : mOk (m_Chairs_has, yX1_has, cX1_has, 0, 1) := ⟨List.all_eq_true.mp kk_Chairs_has, List.mem_of_getElem? (i := 428) (by decide +kernel), rfl, List.mem_of_getElem? (i := 3) (by decide +kernel), plainFor_of_name (by decide +kernel), ⟨by decide +kernel, by decide +kernel, by decide +kernel⟩, by decide, fun h => absurd h (by decide), Or.inl ⟨rfl, List.mem_of_getElem? (i := 426) (by decide +kernel), List.mem_of_getElem? (i := 447) (by decide +kernel), _, rfl, rfl⟩⟩
set_option maxRecDepth 20000 in
theorem mt_ok_7 : mOk (m_Chairs_add, yX1_add, cX1_add, 0, 1) := ⟨List.all_eq_true.mp kk_Chairs_add, List.mem_of_getElem? (i := 557) (by decide +kernel), rfl, List.mem_of_getElem? (i := 3) (by decide +kernel), plainFor_of_name (by decide +kernel), ⟨by decide +kernel, by decide +kernel, by decide +kernel⟩, by decide, fun h => absurd h (by decide), Or.inl ⟨rfl, List.mem_of_getElem? (i := 555) (by decide +kernel), List.mem_of_getElem? (i := 576) (by decide +kernel), _, rfl, rfl⟩⟩
set_option maxRecDepth 20000 in
theorem mt_ok_8 : mOk (m_Chairs_onFrom, yX1_onFrom, cX1_onFrom, 0, 2) := ⟨List.all_eq_true.mp kk_Chairs_onFrom, List.mem_of_getElem? (i := 484) (by decide +kernel), rfl, List.mem_of_getElem? (i := 3) (by decide +kernel), plainFor_of_name (by decide +kernel), ⟨by decide +kernel, by decide +kernel, by decide +kernel⟩, by decide, fun h => absurd h (by decide), Or.inl ⟨rfl, List.mem_of_getElem? (i := 482) (by decide +kernel), List.mem_of_getElem? (i := 503) (by decide +kernel), _, rfl, rfl⟩⟩
set_option maxRecDepth 20000 in
theorem mt_ok_9 : mOk (m_Chairs_forgetSitters, yX1_forgetSitters, cX1_forgetSitters, 0, 0) := ⟨List.all_eq_true.mp kk_Chairs_forgetSitters, List.mem_of_getElem? (i := 596) (by decide +kernel), rfl, List.mem_of_getElem? (i := 3) (by decide +kernel), plainFor_of_name (by decide +kernel), ⟨by decide +kernel, by decide +kernel, by decide +kernel⟩, by decide, fun h => absurd h (by decide), Or.inl ⟨rfl, List.mem_of_getElem? (i := 594) (by decide +kernel), List.mem_of_getElem? (i := 615) (by decide +kernel), _, rfl, rfl⟩⟩
set_option maxRecDepth 20000 in
theorem mt_ok_10 : mOk (m_Chairs_seat, yX1_seat, cX1_seat, 0, 2) := ⟨List.all_eq_true.mp kk_Chairs_seat, List.mem_of_getElem? (i := 640) (by decide +kernel), rfl, List.mem_of_getElem? (i := 3) (by decide +kernel), plainFor_of_name (by decide +kernel), ⟨by decide +kernel, by decide +kernel, by decide +kernel⟩, by decide, fun h => absurd h (by decide), Or.inl ⟨rfl, List.mem_of_getElem? (i := 638) (by decide +kernel), List.mem_of_getElem? (i := 659) (by decide +kernel), _, rfl, rfl⟩⟩
set_option maxRecDepth 20000 in
theorem mt_ok_11 : mOk (m_Chairs_leaveOnly, yX1_leaveOnly, cX1_leaveOnly, 0, 1) := ⟨List.all_eq_true.mp kk_Chairs_leaveOnly, List.mem_of_getElem? (i := 656) (by decide +kernel), rfl, List.mem_of_getElem? (i := 3) (by decide +kernel), plainFor_of_name (by decide +kernel), ⟨by decide +kernel, by decide +kernel, by decide +kernel⟩, by decide, fun h => absurd h (by decide), Or.inl ⟨rfl, List.mem_of_getElem? (i := 654) (by decide +kernel), List.mem_of_getElem? (i := 675) (by decide +kernel), _, rfl, rfl⟩⟩
set_option maxRecDepth 20000 in
theorem mt_ok_12 : mOk (m_Chairs_mostWorn, yX1_mostWorn, cX1_mostWorn, 0, 0) := ⟨List.all_eq_true.mp kk_Chairs_mostWorn, List.mem_of_getElem? (i := 660) (by decide +kernel), rfl, List.mem_of_getElem? (i := 3) (by decide +kernel), plainFor_of_name (by decide +kernel), ⟨by decide +kernel, by decide +kernel, by decide +kernel⟩, by decide, fun h => absurd h (by decide), Or.inl ⟨rfl, List.mem_of_getElem? (i := 659) (by decide +kernel), List.mem_of_getElem? (i := 14) (by decide +kernel), _, rfl, rfl⟩⟩
set_option maxRecDepth 20000 in
theorem mt_ok_13 : mOk (m_Chairs_takeAway, yX1_takeAway, cX1_takeAway, 0, 1) := ⟨List.all_eq_true.mp kk_Chairs_takeAway, List.mem_of_getElem? (i := 664) (by decide +kernel), rfl, List.mem_of_getElem? (i := 3) (by decide +kernel), plainFor_of_name (by decide +kernel), ⟨by decide +kernel, by decide +kernel, by decide +kernel⟩, by decide, fun h => absurd h (by decide), Or.inl ⟨rfl, List.mem_of_getElem? (i := 663) (by decide +kernel), List.mem_of_getElem? (i := 15) (by decide +kernel), _, rfl, rfl⟩⟩
set_option maxRecDepth 20000 in
theorem mt_ok_14 : mOk (m_Game_init, yX2_init, cX2_init, 2, 0) := ⟨List.all_eq_true.mp kk_Game_init, List.mem_of_getElem? (i := 25) (by decide +kernel), rfl, List.mem_of_getElem? (i := 2) (by decide +kernel), plainFor_of_name (by decide +kernel), ⟨by decide +kernel, by decide +kernel, by decide +kernel⟩, by decide, fun _ => rfl, Or.inr (Or.inr ⟨rfl, rfl, List.mem_of_getElem? (i := 24) (by decide +kernel), rfl⟩)⟩
set_option maxRecDepth 20000 in
theorem mt_ok_15 : mOk (m_Game_copyFrom, yX2_copyFrom, cX2_copyFrom, 0, 1) := ⟨List.all_eq_true.mp kk_Game_copyFrom, List.mem_of_getElem? (i := 390) (by decide +kernel), rfl, List.mem_of_getElem? (i := 2) (by decide +kernel), plainFor_of_name (by decide +kernel), ⟨by decide +kernel, by decide +kernel, by decide +kernel⟩, by decide, fun h => absurd h (by decide), Or.inl ⟨rfl, List.mem_of_getElem? (i := 388) (by decide +kernel), List.mem_of_getElem? (i := 409) (by decide +kernel), _, rfl, rfl⟩⟩
set_option maxRecDepth 20000 in
theorem mt_ok_16 : mOk (m_Game_addChair, yX2_addChair, cX2_addChair, 0, 1) := ⟨List.all_eq_true.mp kk_Game_addChair, List.mem_of_getElem? (i := 549) (by decide +kernel), rfl, List.mem_of_getElem? (i := 2) (by decide +kernel), plainFor_of_name (by decide +kernel), ⟨by decide +kernel, by decide +kernel, by decide +kernel⟩, by decide, fun h => absurd h (by decide), Or.inl ⟨rfl, List.mem_of_getElem? (i := 547) (by decide +kernel), List.mem_of_getElem? (i := 568) (by decide +kernel), _, rfl, rfl⟩⟩
set_option maxRecDepth 20000 in
theorem mt_ok_17 : mOk (m_Game_addPlayer, yX2_addPlayer, cX2_addPlayer, 0, 2) := ⟨List.all_eq_true.mp kk_Game_addPlayer, List.mem_of_getElem? (i := 575) (by decide +kernel), rfl, List.mem_of_getElem? (i := 2) (by decide +kernel), plainFor_of_name (by decide +kernel), ⟨by decide +kernel, by decide +kernel, by decide +kernel⟩, by decide, fun h => absurd h (by decide), Or.inl ⟨rfl, List.mem_of_getElem? (i := 573) (by decide +kernel), List.mem_of_getElem? (i := 594) (by decide +kernel), _, rfl, rfl⟩⟩
set_option maxRecDepth 20000 in
theorem mt_ok_18 : mOk (m_Game_retune, yX2_retune, cX2_retune, 0, 2) := ⟨List.all_eq_true.mp kk_Game_retune, List.mem_of_getElem? (i := 672) (by decide +kernel), rfl, List.mem_of_getElem? (i := 2) (by decide +kernel), plainFor_of_name (by decide +kernel), ⟨by decide +kernel, by decide +kernel, by decide +kernel⟩, by decide, fun h => absurd h (by decide), Or.inl ⟨rfl, List.mem_of_getElem? (i := 670) (by decide +kernel), List.mem_of_getElem? (i := 691) (by decide +kernel), _, rfl, rfl⟩⟩
set_option maxRecDepth 20000 in
theorem mt_ok_19 : mOk (m_Game_retrain, yX2_retrain, cX2_retrain, 0, 3) := ⟨List.all_eq_true.mp kk_Game_retrain, List.mem_of_getElem? (i := 681) (by decide +kernel), rfl, List.mem_of_getElem? (i := 2) (by decide +kernel), plainFor_of_name (by decide +kernel), ⟨by decide +kernel, by decide +kernel, by decide +kernel⟩, by decide, fun h => absurd h (by decide), Or.inl ⟨rfl, List.mem_of_getElem? (i := 679) (by decide +kernel), List.mem_of_getElem? (i := 700) (by decide +kernel), _, rfl, rfl⟩⟩
set_option maxRecDepth 20000 in
theorem mt_ok_20 : mOk (m_Game_startMusic, yX2_startMusic, cX2_startMusic, 0, 0) := ⟨List.all_eq_true.mp kk_Game_startMusic, List.mem_of_getElem? (i := 591) (by decide +kernel), rfl, List.mem_of_getElem? (i := 2) (by decide +kernel), plainFor_of_name (by decide +kernel), ⟨by decide +kernel, by decide +kernel, by decide +kernel⟩, by decide, fun h => absurd h (by decide), Or.inl ⟨rfl, List.mem_of_getElem? (i := 589) (by decide +kernel), List.mem_of_getElem? (i := 610) (by decide +kernel), _, rfl, rfl⟩⟩
set_option maxRecDepth 20000 in
theorem mt_ok_21 : mOk (m_Game_walk, yX2_walk, cX2_walk, 0, 1) := ⟨List.all_eq_true.mp kk_Game_walk, List.mem_of_getElem? (i := 609) (by decide +kernel), rfl, List.mem_of_getElem? (i := 2) (by decide +kernel), plainFor_of_name (by decide +kernel), ⟨by decide +kernel, by decide +kernel, by decide +kernel⟩, by decide, fun h => absurd h (by decide), Or.inl ⟨rfl, List.mem_of_getElem? (i := 607) (by decide +kernel), List.mem_of_getElem? (i := 628) (by decide +kernel), _, rfl, rfl⟩⟩
set_option maxRecDepth 20000 in
theorem mt_ok_22 : mOk (m_Game_stopMusic, yX2_stopMusic, cX2_stopMusic, 0, 1) := ⟨List.all_eq_true.mp kk_Game_stopMusic, List.mem_of_getElem? (i := 622) (by decide +kernel), rfl, List.mem_of_getElem? (i := 2) (by decide +kernel), plainFor_of_name (by decide +kernel), ⟨by decide +kernel, by decide +kernel, by decide +kernel⟩, by decide, fun h => absurd h (by decide), Or.inl ⟨rfl, List.mem_of_getElem? (i := 620) (by decide +kernel), List.mem_of_getElem? (i := 641) (by decide +kernel), _, rfl, rfl⟩⟩
set_option maxRecDepth 20000 in
theorem mt_ok_23 : mOk (m_Game_choose, yX2_choose, cX2_choose, 0, 2) := ⟨List.all_eq_true.mp kk_Game_choose, List.mem_of_getElem? (i := 690) (by decide +kernel), rfl, List.mem_of_getElem? (i := 2) (by decide +kernel), plainFor_of_name (by decide +kernel), ⟨by decide +kernel, by decide +kernel, by decide +kernel⟩, by decide, fun h => absurd h (by decide), Or.inl ⟨rfl, List.mem_of_getElem? (i := 688) (by decide +kernel), List.mem_of_getElem? (i := 709) (by decide +kernel), _, rfl, rfl⟩⟩
set_option maxRecDepth 20000 in
theorem mt_ok_24 : mOk (m_Game_perform, yX2_perform, cX2_perform, 0, 4) := ⟨List.all_eq_true.mp kk_Game_perform, List.mem_of_getElem? (i := 749) (by decide +kernel), rfl, List.mem_of_getElem? (i := 2) (by decide +kernel), plainFor_of_name (by decide +kernel), ⟨by decide +kernel, by decide +kernel, by decide +kernel⟩, by decide, fun h => absurd h (by decide), Or.inl ⟨rfl, List.mem_of_getElem? (i := 747) (by decide +kernel), List.mem_of_getElem? (i := 768) (by decide +kernel), _, rfl, rfl⟩⟩
set_option maxRecDepth 20000 in
theorem mt_ok_25 : mOk (m_Game_settlePlayers, yX2_settlePlayers, cX2_settlePlayers, 0, 1) := ⟨List.all_eq_true.mp kk_Game_settlePlayers, List.mem_of_getElem? (i := 627) (by decide +kernel), rfl, List.mem_of_getElem? (i := 2) (by decide +kernel), plainFor_of_name (by decide +kernel), ⟨by decide +kernel, by decide +kernel, by decide +kernel⟩, by decide, fun h => absurd h (by decide), Or.inl ⟨rfl, List.mem_of_getElem? (i := 626) (by decide +kernel), List.mem_of_getElem? (i := 11) (by decide +kernel), _, rfl, rfl⟩⟩
set_option maxRecDepth 20000 in
theorem mt_ok_26 : mOk (m_Game_settleChairs, yX2_settleChairs, cX2_settleChairs, 0, 1) := ⟨List.all_eq_true.mp kk_Game_settleChairs, List.mem_of_getElem? (i := 636) (by decide +kernel), rfl, List.mem_of_getElem? (i := 2) (by decide +kernel), plainFor_of_name (by decide +kernel), ⟨by decide +kernel, by decide +kernel, by decide +kernel⟩, by decide, fun h => absurd h (by decide), Or.inl ⟨rfl, List.mem_of_getElem? (i := 635) (by decide +kernel), List.mem_of_getElem? (i := 12) (by decide +kernel), _, rfl, rfl⟩⟩
set_option maxRecDepth 20000 in
theorem mt_ok_27 : mOk (m_Game_goOn, yX2_goOn, cX2_goOn, 0, 0) := ⟨List.all_eq_true.mp kk_Game_goOn, List.mem_of_getElem? (i := 649) (by decide +kernel), rfl, List.mem_of_getElem? (i := 2) (by decide +kernel), plainFor_of_name (by decide +kernel), ⟨by decide +kernel, by decide +kernel, by decide +kernel⟩, by decide, fun h => absurd h (by decide), Or.inl ⟨rfl, List.mem_of_getElem? (i := 648) (by decide +kernel), List.mem_of_getElem? (i := 13) (by decide +kernel), _, rfl, rfl⟩⟩
set_option maxRecDepth 20000 in
theorem mt_ok_28 : mOk (m_Grope_init, yX3_init, cX3_init, 2, 0) := ⟨List.all_eq_true.mp kk_Grope_init, List.mem_of_getElem? (i := 211) (by decide +kernel), rfl, List.mem_of_getElem? (i := 7) (by decide +kernel), plainFor_of_name (by decide +kernel), ⟨by decide +kernel, by decide +kernel, by decide +kernel⟩, by decide, fun _ => rfl, Or.inr (Or.inr ⟨rfl, rfl, List.mem_of_getElem? (i := 210) (by decide +kernel), rfl⟩)⟩
set_option maxRecDepth 20000 in
theorem mt_ok_29 : mOk (m_Grope_follow, yX3_follow, cX3_follow, 0, 3) := ⟨List.all_eq_true.mp kk_Grope_follow, List.mem_of_getElem? (i := 476) (by decide +kernel), rfl, List.mem_of_getElem? (i := 7) (by decide +kernel), plainFor_of_name (by decide +kernel), ⟨by decide +kernel, by decide +kernel, by decide +kernel⟩, by decide, fun h => absurd h (by decide), Or.inl ⟨rfl, List.mem_of_getElem? (i := 474) (by decide +kernel), List.mem_of_getElem? (i := 495) (by decide +kernel), _, rfl, rfl⟩⟩
set_option maxRecDepth 20000 in
theorem mt_ok_30 : mOk (m_Grope_begin, yX3_begin, cX3_begin, 0, 3) := ⟨List.all_eq_true.mp kk_Grope_begin, List.mem_of_getElem? (i := 480) (by decide +kernel), rfl, List.mem_of_getElem? (i := 7) (by decide +kernel), plainFor_of_name (by decide +kernel), ⟨by decide +kernel, by decide +kernel, by decide +kernel⟩, by decide, fun h => absurd h (by decide), Or.inl ⟨rfl, List.mem_of_getElem? (i := 479) (by decide +kernel), List.mem_of_getElem? (i := 2) (by decide +kernel), _, rfl, rfl⟩⟩
set_option maxRecDepth 20000 in
theorem mt_ok_31 : mOk (m_Grope_gropes, yX3_gropes, cX3_gropes, 0, 1) := ⟨List.all_eq_true.mp kk_Grope_gropes, List.mem_of_getElem? (i := 492) (by decide +kernel), rfl, List.mem_of_getElem? (i := 7) (by decide +kernel), plainFor_of_name (by decide +kernel), ⟨by decide +kernel, by decide +kernel, by decide +kernel⟩, by decide, fun h => absurd h (by decide), Or.inl ⟨rfl, List.mem_of_getElem? (i := 491) (by decide +kernel), List.mem_of_getElem? (i := 4) (by decide +kernel), _, rfl, rfl⟩⟩
set_option maxRecDepth 20000 in
theorem mt_ok_32 : mOk (m_Grope_sendOut, yX3_sendOut, cX3_sendOut, 0, 2) := ⟨List.all_eq_true.mp kk_Grope_sendOut, List.mem_of_getElem? (i := 488) (by decide +kernel), rfl, List.mem_of_getElem? (i := 7) (by decide +kernel), plainFor_of_name (by decide +kernel), ⟨by decide +kernel, by decide +kernel, by decide +kernel⟩, by decide, fun h => absurd h (by decide), Or.inl ⟨rfl, List.mem_of_getElem? (i := 487) (by decide +kernel), List.mem_of_getElem? (i := 3) (by decide +kernel), _, rfl, rfl⟩⟩
set_option maxRecDepth 20000 in
theorem mt_ok_33 : mOk (m_Grope_takeAim, yX3_takeAim, cX3_takeAim, 0, 2) := ⟨List.all_eq_true.mp kk_Grope_takeAim, List.mem_of_getElem? (i := 500) (by decide +kernel), rfl, List.mem_of_getElem? (i := 7) (by decide +kernel), plainFor_of_name (by decide +kernel), ⟨by decide +kernel, by decide +kernel, by decide +kernel⟩, by decide, fun h => absurd h (by decide), Or.inl ⟨rfl, List.mem_of_getElem? (i := 499) (by decide +kernel), List.mem_of_getElem? (i := 6) (by decide +kernel), _, rfl, rfl⟩⟩
set_option maxRecDepth 20000 in
theorem mt_ok_34 : mOk (m_Grope_sitDown, yX3_sitDown, cX3_sitDown, 0, 2) := ⟨List.all_eq_true.mp kk_Grope_sitDown, List.mem_of_getElem? (i := 504) (by decide +kernel), rfl, List.mem_of_getElem? (i := 7) (by decide +kernel), plainFor_of_name (by decide +kernel), ⟨by decide +kernel, by decide +kernel, by decide +kernel⟩, by decide, fun h => absurd h (by decide), Or.inl ⟨rfl, List.mem_of_getElem? (i := 503) (by decide +kernel), List.mem_of_getElem? (i := 7) (by decide +kernel), _, rfl, rfl⟩⟩
set_option maxRecDepth 20000 in
theorem mt_ok_35 : mOk (m_Grope_nearest, yX3_nearest, cX3_nearest, 0, 2) := ⟨List.all_eq_true.mp kk_Grope_nearest, List.mem_of_getElem? (i := 508) (by decide +kernel), rfl, List.mem_of_getElem? (i := 7) (by decide +kernel), plainFor_of_name (by decide +kernel), ⟨by decide +kernel, by decide +kernel, by decide +kernel⟩, by decide, fun h => absurd h (by decide), Or.inl ⟨rfl, List.mem_of_getElem? (i := 507) (by decide +kernel), List.mem_of_getElem? (i := 8) (by decide +kernel), _, rfl, rfl⟩⟩
set_option maxRecDepth 20000 in
theorem mt_ok_36 : mOk (m_Grope_bump, yX3_bump, cX3_bump, 0, 1) := ⟨List.all_eq_true.mp kk_Grope_bump, List.mem_of_getElem? (i := 512) (by decide +kernel), rfl, List.mem_of_getElem? (i := 7) (by decide +kernel), plainFor_of_name (by decide +kernel), ⟨by decide +kernel, by decide +kernel, by decide +kernel⟩, by decide, fun h => absurd h (by decide), Or.inl ⟨rfl, List.mem_of_getElem? (i := 511) (by decide +kernel), List.mem_of_getElem? (i := 9) (by decide +kernel), _, rfl, rfl⟩⟩
set_option maxRecDepth 20000 in
theorem mt_ok_37 : mOk (m_Grope_ring, yX3_ring, cX3_ring, 0, 2) := ⟨List.all_eq_true.mp kk_Grope_ring, List.mem_of_getElem? (i := 516) (by decide +kernel), rfl, List.mem_of_getElem? (i := 7) (by decide +kernel), plainFor_of_name (by decide +kernel), ⟨by decide +kernel, by decide +kernel, by decide +kernel⟩, by decide, fun h => absurd h (by decide), Or.inl ⟨rfl, List.mem_of_getElem? (i := 515) (by decide +kernel), List.mem_of_getElem? (i := 10) (by decide +kernel), _, rfl, rfl⟩⟩
set_option maxRecDepth 20000 in
theorem mt_ok_38 : mOk (m_Grope_settle, yX3_settle, cX3_settle, 0, 1) := ⟨List.all_eq_true.mp kk_Grope_settle, List.mem_of_getElem? (i := 496) (by decide +kernel), rfl, List.mem_of_getElem? (i := 7) (by decide +kernel), plainFor_of_name (by decide +kernel), ⟨by decide +kernel, by decide +kernel, by decide +kernel⟩, by decide, fun h => absurd h (by decide), Or.inl ⟨rfl, List.mem_of_getElem? (i := 495) (by decide +kernel), List.mem_of_getElem? (i := 5) (by decide +kernel), _, rfl, rfl⟩⟩
set_option maxRecDepth 20000 in
theorem mt_ok_39 : mOk (m_History_init, yX4_init, cX4_init, 2, 0) := ⟨List.all_eq_true.mp kk_History_init, List.mem_of_getElem? (i := 191) (by decide +kernel), rfl, List.mem_of_getElem? (i := 6) (by decide +kernel), plainFor_of_name (by decide +kernel), ⟨by decide +kernel, by decide +kernel, by decide +kernel⟩, by decide, fun _ => rfl, Or.inr (Or.inr ⟨rfl, rfl, List.mem_of_getElem? (i := 190) (by decide +kernel), rfl⟩)⟩
set_option maxRecDepth 20000 in
theorem mt_ok_40 : mOk (m_History_prepare, yX4_prepare, cX4_prepare, 0, 1) := ⟨List.all_eq_true.mp kk_History_prepare, List.mem_of_getElem? (i := 545) (by decide +kernel), rfl, List.mem_of_getElem? (i := 6) (by decide +kernel), plainFor_of_name (by decide +kernel), ⟨by decide +kernel, by decide +kernel, by decide +kernel⟩, by decide, fun h => absurd h (by decide), Or.inl ⟨rfl, List.mem_of_getElem? (i := 543) (by decide +kernel), List.mem_of_getElem? (i := 564) (by decide +kernel), _, rfl, rfl⟩⟩
set_option maxRecDepth 20000 in
theorem mt_ok_41 : mOk (m_History_settle, yX4_settle, cX4_settle, 0, 1) := ⟨List.all_eq_true.mp kk_History_settle, List.mem_of_getElem? (i := 563) (by decide +kernel), rfl, List.mem_of_getElem? (i := 6) (by decide +kernel), plainFor_of_name (by decide +kernel), ⟨by decide +kernel, by decide +kernel, by decide +kernel⟩, by decide, fun h => absurd h (by decide), Or.inl ⟨rfl, List.mem_of_getElem? (i := 561) (by decide +kernel), List.mem_of_getElem? (i := 582) (by decide +kernel), _, rfl, rfl⟩⟩
set_option maxRecDepth 20000 in
theorem mt_ok_42 : mOk (m_History_goBack, yX4_goBack, cX4_goBack, 0, 1) := ⟨List.all_eq_true.mp kk_History_goBack, List.mem_of_getElem? (i := 385) (by decide +kernel), rfl, List.mem_of_getElem? (i := 6) (by decide +kernel), plainFor_of_name (by decide +kernel), ⟨by decide +kernel, by decide +kernel, by decide +kernel⟩, by decide, fun h => absurd h (by decide), Or.inl ⟨rfl, List.mem_of_getElem? (i := 383) (by decide +kernel), List.mem_of_getElem? (i := 404) (by decide +kernel), _, rfl, rfl⟩⟩
set_option maxRecDepth 20000 in
theorem mt_ok_43 : mOk (m_Orders_init, yX5_init, cX5_init, 2, 0) := ⟨List.all_eq_true.mp kk_Orders_init, List.mem_of_getElem? (i := 280) (by decide +kernel), rfl, List.mem_of_getElem? (i := 9) (by decide +kernel), plainFor_of_name (by decide +kernel), ⟨by decide +kernel, by decide +kernel, by decide +kernel⟩, by decide, fun _ => rfl, Or.inr (Or.inr ⟨rfl, rfl, List.mem_of_getElem? (i := 279) (by decide +kernel), rfl⟩)⟩
set_option maxRecDepth 20000 in
theorem mt_ok_44 : mOk (m_Orders_rehearse, yX5_rehearse, cX5_rehearse, 0, 3) := ⟨List.all_eq_true.mp kk_Orders_rehearse, List.mem_of_getElem? (i := 726) (by decide +kernel), rfl, List.mem_of_getElem? (i := 9) (by decide +kernel), plainFor_of_name (by decide +kernel), ⟨by decide +kernel, by decide +kernel, by decide +kernel⟩, by decide, fun h => absurd h (by decide), Or.inl ⟨rfl, List.mem_of_getElem? (i := 724) (by decide +kernel), List.mem_of_getElem? (i := 745) (by decide +kernel), _, rfl, rfl⟩⟩
set_option maxRecDepth 20000 in
theorem mt_ok_45 : mOk (m_Orders_judge, yX5_judge, cX5_judge, 0, 1) := ⟨List.all_eq_true.mp kk_Orders_judge, List.mem_of_getElem? (i := 758) (by decide +kernel), rfl, List.mem_of_getElem? (i := 9) (by decide +kernel), plainFor_of_name (by decide +kernel), ⟨by decide +kernel, by decide +kernel, by decide +kernel⟩, by decide, fun h => absurd h (by decide), Or.inl ⟨rfl, List.mem_of_getElem? (i := 757) (by decide +kernel), List.mem_of_getElem? (i := 19) (by decide +kernel), _, rfl, rfl⟩⟩
set_option maxRecDepth 20000 in
theorem mt_ok_46 : mOk (m_Orders_readOrder, yX5_readOrder, cX5_readOrder, 0, 1) := ⟨List.all_eq_true.mp kk_Orders_readOrder, List.mem_of_getElem? (i := 731) (by decide +kernel), rfl, List.mem_of_getElem? (i := 9) (by decide +kernel), plainFor_of_name (by decide +kernel), ⟨by decide +kernel, by decide +kernel, by decide +kernel⟩, by decide, fun h => absurd h (by decide), Or.inl ⟨rfl, List.mem_of_getElem? (i := 730) (by decide +kernel), List.mem_of_getElem? (i := 16) (by decide +kernel), _, rfl, rfl⟩⟩
set_option maxRecDepth 20000 in
theorem mt_ok_47 : mOk (m_Orders_passes, yX5_passes, cX5_passes, 0, 2) := ⟨List.all_eq_true.mp kk_Orders_passes, List.mem_of_getElem? (i := 745) (by decide +kernel), rfl, List.mem_of_getElem? (i := 9) (by decide +kernel), plainFor_of_name (by decide +kernel), ⟨by decide +kernel, by decide +kernel, by decide +kernel⟩, by decide, fun h => absurd h (by decide), Or.inl ⟨rfl, List.mem_of_getElem? (i := 744) (by decide +kernel), List.mem_of_getElem? (i := 18) (by decide +kernel), _, rfl, rfl⟩⟩
set_option maxRecDepth 20000 in
theorem mt_ok_48 : mOk (m_Orders_readNumber, yX5_readNumber, cX5_readNumber, 0, 1) := ⟨List.all_eq_true.mp kk_Orders_readNumber, List.mem_of_getElem? (i := 739) (by decide +kernel), rfl, List.mem_of_getElem? (i := 9) (by decide +kernel), plainFor_of_name (by decide +kernel), ⟨by decide +kernel, by decide +kernel, by decide +kernel⟩, by decide, fun h => absurd h (by decide), Or.inl ⟨rfl, List.mem_of_getElem? (i := 738) (by decide +kernel), List.mem_of_getElem? (i := 17) (by decide +kernel), _, rfl, rfl⟩⟩
set_option maxRecDepth 20000 in
theorem mt_ok_49 : mOk (m_Players_init, yX6_init, cX6_init, 2, 0) := ⟨List.all_eq_true.mp kk_Players_init, List.mem_of_getElem? (i := 59) (by decide +kernel), rfl, List.mem_of_getElem? (i := 4) (by decide +kernel), plainFor_of_name (by decide +kernel), ⟨by decide +kernel, by decide +kernel, by decide +kernel⟩, by decide, fun _ => rfl, Or.inr (Or.inr ⟨rfl, rfl, List.mem_of_getElem? (i := 58) (by decide +kernel), rfl⟩)⟩
set_option maxRecDepth 20000 in
theorem mt_ok_50 : mOk (m_Players_copyFrom, yX6_copyFrom, cX6_copyFrom, 0, 1) := ⟨List.all_eq_true.mp kk_Players_copyFrom, List.mem_of_getElem? (i := 401) (by decide +kernel), rfl, List.mem_of_getElem? (i := 4) (by decide +kernel), plainFor_of_name (by decide +kernel), ⟨by decide +kernel, by decide +kernel, by decide +kernel⟩, by decide, fun h => absurd h (by decide), Or.inl ⟨rfl, List.mem_of_getElem? (i := 399) (by decide +kernel), List.mem_of_getElem? (i := 420) (by decide +kernel), _, rfl, rfl⟩⟩
set_option maxRecDepth 20000 in
theorem mt_ok_51 : mOk (m_Players_has, yX6_has, cX6_has, 0, 1) := ⟨List.all_eq_true.mp kk_Players_has, List.mem_of_getElem? (i := 439) (by decide +kernel), rfl, List.mem_of_getElem? (i := 4) (by decide +kernel), plainFor_of_name (by decide +kernel), ⟨by decide +kernel, by decide +kernel, by decide +kernel⟩, by decide, fun h => absurd h (by decide), Or.inl ⟨rfl, List.mem_of_getElem? (i := 437) (by decide +kernel), List.mem_of_getElem? (i := 458) (by decide +kernel), _, rfl, rfl⟩⟩
set_option maxRecDepth 20000 in
theorem mt_ok_52 : mOk (m_Players_isPlaying, yX6_isPlaying, cX6_isPlaying, 0, 1) := ⟨List.all_eq_true.mp kk_Players_isPlaying, List.mem_of_getElem? (i := 370) (by decide +kernel), rfl, List.mem_of_getElem? (i := 4) (by decide +kernel), plainFor_of_name (by decide +kernel), ⟨by decide +kernel, by decide +kernel, by decide +kernel⟩, by decide, fun h => absurd h (by decide), Or.inl ⟨rfl, List.mem_of_getElem? (i := 368) (by decide +kernel), List.mem_of_getElem? (i := 389) (by decide +kernel), _, rfl, rfl⟩⟩
set_option maxRecDepth 20000 in
theorem mt_ok_53 : mOk (m_Players_hearsTone, yX6_hearsTone, cX6_hearsTone, 0, 2) := ⟨List.all_eq_true.mp kk_Players_hearsTone, List.mem_of_getElem? (i := 520) (by decide +kernel), rfl, List.mem_of_getElem? (i := 4) (by decide +kernel), plainFor_of_name (by decide +kernel), ⟨by decide +kernel, by decide +kernel, by decide +kernel⟩, by decide, fun h => absurd h (by decide), Or.inl ⟨rfl, List.mem_of_getElem? (i := 518) (by decide +kernel), List.mem_of_getElem? (i := 539) (by decide +kernel), _, rfl, rfl⟩⟩
set_option maxRecDepth 20000 in
theorem mt_ok_54 : mOk (m_Players_add, yX6_add, cX6_add, 0, 2) := ⟨List.all_eq_true.mp kk_Players_add, List.mem_of_getElem? (i := 579) (by decide +kernel), rfl, List.mem_of_getElem? (i := 4) (by decide +kernel), plainFor_of_name (by decide +kernel), ⟨by decide +kernel, by decide +kernel, by decide +kernel⟩, by decide, fun h => absurd h (by decide), Or.inl ⟨rfl, List.mem_of_getElem? (i := 577) (by decide +kernel), List.mem_of_getElem? (i := 598) (by decide +kernel), _, rfl, rfl⟩⟩
set_option maxRecDepth 20000 in
theorem mt_ok_55 : mOk (m_Players_lineUp, yX6_lineUp, cX6_lineUp, 0, 1) := ⟨List.all_eq_true.mp kk_Players_lineUp, List.mem_of_getElem? (i := 600) (by decide +kernel), rfl, List.mem_of_getElem? (i := 4) (by decide +kernel), plainFor_of_name (by decide +kernel), ⟨by decide +kernel, by decide +kernel, by decide +kernel⟩, by decide, fun h => absurd h (by decide), Or.inl ⟨rfl, List.mem_of_getElem? (i := 598) (by decide +kernel), List.mem_of_getElem? (i := 619) (by decide +kernel), _, rfl, rfl⟩⟩
set_option maxRecDepth 20000 in
theorem mt_ok_56 : mOk (m_Players_walk, yX6_walk, cX6_walk, 0, 2) := ⟨List.all_eq_true.mp kk_Players_walk, List.mem_of_getElem? (i := 614) (by decide +kernel), rfl, List.mem_of_getElem? (i := 4) (by decide +kernel), plainFor_of_name (by decide +kernel), ⟨by decide +kernel, by decide +kernel, by decide +kernel⟩, by decide, fun h => absurd h (by decide), Or.inl ⟨rfl, List.mem_of_getElem? (i := 612) (by decide +kernel), List.mem_of_getElem? (i := 633) (by decide +kernel), _, rfl, rfl⟩⟩
set_option maxRecDepth 20000 in
theorem mt_ok_57 : mOk (m_Players_leave, yX6_leave, cX6_leave, 0, 2) := ⟨List.all_eq_true.mp kk_Players_leave, List.mem_of_getElem? (i := 632) (by decide +kernel), rfl, List.mem_of_getElem? (i := 4) (by decide +kernel), plainFor_of_name (by decide +kernel), ⟨by decide +kernel, by decide +kernel, by decide +kernel⟩, by decide, fun h => absurd h (by decide), Or.inl ⟨rfl, List.mem_of_getElem? (i := 630) (by decide +kernel), List.mem_of_getElem? (i := 651) (by decide +kernel), _, rfl, rfl⟩⟩
set_option maxRecDepth 20000 in
theorem mt_ok_58 : mOk (m_Players_howManyPlay, yX6_howManyPlay, cX6_howManyPlay, 0, 0) := ⟨List.all_eq_true.mp kk_Players_howManyPlay, List.mem_of_getElem? (i := 352) (by decide +kernel), rfl, List.mem_of_getElem? (i := 4) (by decide +kernel), plainFor_of_name (by decide +kernel), ⟨by decide +kernel, by decide +kernel, by decide +kernel⟩, by decide, fun h => absurd h (by decide), Or.inl ⟨rfl, List.mem_of_getElem? (i := 350) (by decide +kernel), List.mem_of_getElem? (i := 371) (by decide +kernel), _, rfl, rfl⟩⟩
set_option maxRecDepth 20000 in
theorem mt_ok_59 : mOk (m_Players_firstPlaying, yX6_firstPlaying, cX6_firstPlaying, 0, 0) := ⟨List.all_eq_true.mp kk_Players_firstPlaying, List.mem_of_getElem? (i := 366) (by decide +kernel), rfl, List.mem_of_getElem? (i := 4) (by decide +kernel), plainFor_of_name (by decide +kernel), ⟨by decide +kernel, by decide +kernel, by decide +kernel⟩, by decide, fun h => absurd h (by decide), Or.inl ⟨rfl, List.mem_of_getElem? (i := 364) (by decide +kernel), List.mem_of_getElem? (i := 385) (by decide +kernel), _, rfl, rfl⟩⟩
set_option maxRecDepth 20000 in
theorem mt_ok_60 : mOk (m_Players_allSittings, yX6_allSittings, cX6_allSittings, 0, 0) := ⟨List.all_eq_true.mp kk_Players_allSittings, List.mem_of_getElem? (i := 340) (by decide +kernel), rfl, List.mem_of_getElem? (i := 4) (by decide +kernel), plainFor_of_name (by decide +kernel), ⟨by decide +kernel, by decide +kernel, by decide +kernel⟩, by decide, fun h => absurd h (by decide), Or.inl ⟨rfl, List.mem_of_getElem? (i := 338) (by decide +kernel), List.mem_of_getElem? (i := 359) (by decide +kernel), _, rfl, rfl⟩⟩
set_option maxRecDepth 20000 in
theorem mt_ok_61 : mOk (m_Players_allBumps, yX6_allBumps, cX6_allBumps, 0, 0) := ⟨List.all_eq_true.mp kk_Players_allBumps, List.mem_of_getElem? (i := 348) (by decide +kernel), rfl, List.mem_of_getElem? (i := 4) (by decide +kernel), plainFor_of_name (by decide +kernel), ⟨by decide +kernel, by decide +kernel, by decide +kernel⟩, by decide, fun h => absurd h (by decide), Or.inl ⟨rfl, List.mem_of_getElem? (i := 346) (by decide +kernel), List.mem_of_getElem? (i := 367) (by decide +kernel), _, rfl, rfl⟩⟩
set_option maxRecDepth 20000 in
theorem mt_ok_62 : mOk (m_Players_allSteps, yX6_allSteps, cX6_allSteps, 0, 0) := ⟨List.all_eq_true.mp kk_Players_allSteps, List.mem_of_getElem? (i := 362) (by decide +kernel), rfl, List.mem_of_getElem? (i := 4) (by decide +kernel), plainFor_of_name (by decide +kernel), ⟨by decide +kernel, by decide +kernel, by decide +kernel⟩, by decide, fun h => absurd h (by decide), Or.inl ⟨rfl, List.mem_of_getElem? (i := 360) (by decide +kernel), List.mem_of_getElem? (i := 381) (by decide +kernel), _, rfl, rfl⟩⟩
set_option maxRecDepth 20000 in
theorem mt_ok_63 : mOk (m_Players_sum, yX6_sum, cX6_sum, 0, 1) := ⟨List.all_eq_true.mp kk_Players_sum, List.mem_of_getElem? (i := 344) (by decide +kernel), rfl, List.mem_of_getElem? (i := 4) (by decide +kernel), plainFor_of_name (by decide +kernel), ⟨by decide +kernel, by decide +kernel, by decide +kernel⟩, by decide, fun h => absurd h (by decide), Or.inl ⟨rfl, List.mem_of_getElem? (i := 343) (by decide +kernel), List.mem_of_getElem? (i := 0) (by decide +kernel), _, rfl, rfl⟩⟩
set_option maxRecDepth 20000 in
theorem mt_ok_64 : mOk (m_Text_init, yX7_init, cX7_init, 2, 0) := ⟨List.all_eq_true.mp kk_Text_init, List.mem_of_getElem? (i := 265) (by decide +kernel), rfl, List.mem_of_getElem? (i := 8) (by decide +kernel), plainFor_of_name (by decide +kernel), ⟨by decide +kernel, by decide +kernel, by decide +kernel⟩, by decide, fun _ => rfl, Or.inr (Or.inr ⟨rfl, rfl, List.mem_of_getElem? (i := 264) (by decide +kernel), rfl⟩)⟩
set_option maxRecDepth 20000 in
theorem mt_ok_65 : mOk (m_Text_append, yX7_append, cX7_append, 0, 1) := ⟨List.all_eq_true.mp kk_Text_append, List.mem_of_getElem? (i := 712) (by decide +kernel), rfl, List.mem_of_getElem? (i := 8) (by decide +kernel), plainFor_of_name (by decide +kernel), ⟨by decide +kernel, by decide +kernel, by decide +kernel⟩, by decide, fun h => absurd h (by decide), Or.inl ⟨rfl, List.mem_of_getElem? (i := 710) (by decide +kernel), List.mem_of_getElem? (i := 731) (by decide +kernel), _, rfl, rfl⟩⟩
set_option maxRecDepth 20000 in
theorem mt_ok_66 : mOk (m_Text_clear, yX7_clear, cX7_clear, 0, 0) := ⟨List.all_eq_true.mp kk_Text_clear, List.mem_of_getElem? (i := 704) (by decide +kernel), rfl, List.mem_of_getElem? (i := 8) (by decide +kernel), plainFor_of_name (by decide +kernel), ⟨by decide +kernel, by decide +kernel, by decide +kernel⟩, by decide, fun h => absurd h (by decide), Or.inl ⟨rfl, List.mem_of_getElem? (i := 702) (by decide +kernel), List.mem_of_getElem? (i := 723) (by decide +kernel), _, rfl, rfl⟩⟩
set_option maxRecDepth 20000 in
theorem mt_ok_67 : mOk (m_Text_signAt, yX7_signAt, cX7_signAt, 0, 1) := ⟨List.all_eq_true.mp kk_Text_signAt, List.mem_of_getElem? (i := 735) (by decide +kernel), rfl, List.mem_of_getElem? (i := 8) (by decide +kernel), plainFor_of_name (by decide +kernel), ⟨by decide +kernel, by decide +kernel, by decide +kernel⟩, by decide, fun h => absurd h (by decide), Or.inl ⟨rfl, List.mem_of_getElem? (i := 733) (by decide +kernel), List.mem_of_getElem? (i := 754) (by decide +kernel), _, rfl, rfl⟩⟩
set_option maxRecDepth 20000 in
theorem mt_ok_68 : mOk (m_Bc_init, yX8_init, cX8_init, 2, 0) := ⟨List.all_eq_true.mp kk_Bc_init, List.mem_of_getElem? (i := 17) (by decide +kernel), rfl, List.mem_of_getElem? (i := 1) (by decide +kernel), plainFor_of_name (by decide +kernel), ⟨by decide +kernel, by decide +kernel, by decide +kernel⟩, by decide, fun _ => rfl, Or.inr (Or.inr ⟨rfl, rfl, List.mem_of_getElem? (i := 16) (by decide +kernel), rfl⟩)⟩
set_option maxRecDepth 20000 in
theorem mt_ok_69 : mOk (m_Bc_chair, yX8_chair, cX8_chair, 0, 1) := ⟨List.all_eq_true.mp kk_Bc_chair, List.mem_of_getElem? (i := 541) (by decide +kernel), rfl, List.mem_of_getElem? (i := 1) (by decide +kernel), plainFor_of_name (by decide +kernel), ⟨by decide +kernel, by decide +kernel, by decide +kernel⟩, by decide, fun h => absurd h (by decide), Or.inl ⟨rfl, List.mem_of_getElem? (i := 539) (by decide +kernel), List.mem_of_getElem? (i := 560) (by decide +kernel), _, rfl, rfl⟩⟩
set_option maxRecDepth 20000 in
theorem mt_ok_70 : mOk (m_Bc_player, yX8_player, cX8_player, 0, 2) := ⟨List.all_eq_true.mp kk_Bc_player, List.mem_of_getElem? (i := 571) (by decide +kernel), rfl, List.mem_of_getElem? (i := 1) (by decide +kernel), plainFor_of_name (by decide +kernel), ⟨by decide +kernel, by decide +kernel, by decide +kernel⟩, by decide, fun h => absurd h (by decide), Or.inl ⟨rfl, List.mem_of_getElem? (i := 569) (by decide +kernel), List.mem_of_getElem? (i := 590) (by decide +kernel), _, rfl, rfl⟩⟩
set_option maxRecDepth 20000 in
theorem mt_ok_71 : mOk (m_Bc_tune, yX8_tune, cX8_tune, 0, 2) := ⟨List.all_eq_true.mp kk_Bc_tune, List.mem_of_getElem? (i := 668) (by decide +kernel), rfl, List.mem_of_getElem? (i := 1) (by decide +kernel), plainFor_of_name (by decide +kernel), ⟨by decide +kernel, by decide +kernel, by decide +kernel⟩, by decide, fun h => absurd h (by decide), Or.inl ⟨rfl, List.mem_of_getElem? (i := 666) (by decide +kernel), List.mem_of_getElem? (i := 687) (by decide +kernel), _, rfl, rfl⟩⟩
set_option maxRecDepth 20000 in
theorem mt_ok_72 : mOk (m_Bc_train, yX8_train, cX8_train, 0, 3) := ⟨List.all_eq_true.mp kk_Bc_train, List.mem_of_getElem? (i := 677) (by decide +kernel), rfl, List.mem_of_getElem? (i := 1) (by decide +kernel), plainFor_of_name (by decide +kernel), ⟨by decide +kernel, by decide +kernel, by decide +kernel⟩, by decide, fun h => absurd h (by decide), Or.inl ⟨rfl, List.mem_of_getElem? (i := 675) (by decide +kernel), List.mem_of_getElem? (i := 696) (by decide +kernel), _, rfl, rfl⟩⟩
set_option maxRecDepth 20000 in
theorem mt_ok_73 : mOk (m_Bc_start, yX8_start, cX8_start, 0, 0) := ⟨List.all_eq_true.mp kk_Bc_start, List.mem_of_getElem? (i := 587) (by decide +kernel), rfl, List.mem_of_getElem? (i := 1) (by decide +kernel), plainFor_of_name (by decide +kernel), ⟨by decide +kernel, by decide +kernel, by decide +kernel⟩, by decide, fun h => absurd h (by decide), Or.inl ⟨rfl, List.mem_of_getElem? (i := 585) (by decide +kernel), List.mem_of_getElem? (i := 606) (by decide +kernel), _, rfl, rfl⟩⟩
set_option maxRecDepth 20000 in
theorem mt_ok_74 : mOk (m_Bc_beat, yX8_beat, cX8_beat, 0, 1) := ⟨List.all_eq_true.mp kk_Bc_beat, List.mem_of_getElem? (i := 605) (by decide +kernel), rfl, List.mem_of_getElem? (i := 1) (by decide +kernel), plainFor_of_name (by decide +kernel), ⟨by decide +kernel, by decide +kernel, by decide +kernel⟩, by decide, fun h => absurd h (by decide), Or.inl ⟨rfl, List.mem_of_getElem? (i := 603) (by decide +kernel), List.mem_of_getElem? (i := 624) (by decide +kernel), _, rfl, rfl⟩⟩
set_option maxRecDepth 20000 in
theorem mt_ok_75 : mOk (m_Bc_stop, yX8_stop, cX8_stop, 0, 0) := ⟨List.all_eq_true.mp kk_Bc_stop, List.mem_of_getElem? (i := 618) (by decide +kernel), rfl, List.mem_of_getElem? (i := 1) (by decide +kernel), plainFor_of_name (by decide +kernel), ⟨by decide +kernel, by decide +kernel, by decide +kernel⟩, by decide, fun h => absurd h (by decide), Or.inl ⟨rfl, List.mem_of_getElem? (i := 616) (by decide +kernel), List.mem_of_getElem? (i := 637) (by decide +kernel), _, rfl, rfl⟩⟩
set_option maxRecDepth 20000 in
theorem mt_ok_76 : mOk (m_Bc_set, yX8_set, cX8_set, 0, 2) := ⟨List.all_eq_true.mp kk_Bc_set, List.mem_of_getElem? (i := 686) (by decide +kernel), rfl, List.mem_of_getElem? (i := 1) (by decide +kernel), plainFor_of_name (by decide +kernel), ⟨by decide +kernel, by decide +kernel, by decide +kernel⟩, by decide, fun h => absurd h (by decide), Or.inl ⟨rfl, List.mem_of_getElem? (i := 684) (by decide +kernel), List.mem_of_getElem? (i := 705) (by decide +kernel), _, rfl, rfl⟩⟩
set_option maxRecDepth 20000 in
theorem mt_ok_77 : mOk (m_Bc_chairOf, yX8_chairOf, cX8_chairOf, 0, 2) := ⟨List.all_eq_true.mp kk_Bc_chairOf, List.mem_of_getElem? (i := 424) (by decide +kernel), rfl, List.mem_of_getElem? (i := 1) (by decide +kernel), plainFor_of_name (by decide +kernel), ⟨by decide +kernel, by decide +kernel, by decide +kernel⟩, by decide, fun h => absurd h (by decide), Or.inl ⟨rfl, List.mem_of_getElem? (i := 422) (by decide +kernel), List.mem_of_getElem? (i := 443) (by decide +kernel), _, rfl, rfl⟩⟩
set_option maxRecDepth 20000 in
theorem mt_ok_78 : mOk (m_Bc_playerOf, yX8_playerOf, cX8_playerOf, 0, 2) := ⟨List.all_eq_true.mp kk_Bc_playerOf, List.mem_of_getElem? (i := 435) (by decide +kernel), rfl, List.mem_of_getElem? (i := 1) (by decide +kernel), plainFor_of_name (by decide +kernel), ⟨by decide +kernel, by decide +kernel, by decide +kernel⟩, by decide, fun h => absurd h (by decide), Or.inl ⟨rfl, List.mem_of_getElem? (i := 433) (by decide +kernel), List.mem_of_getElem? (i := 454) (by decide +kernel), _, rfl, rfl⟩⟩
set_option maxRecDepth 20000 in
theorem mt_ok_79 : mOk (m_Bc_hears, yX8_hears, cX8_hears, 0, 2) := ⟨List.all_eq_true.mp kk_Bc_hears, List.mem_of_getElem? (i := 532) (by decide +kernel), rfl, List.mem_of_getElem? (i := 1) (by decide +kernel), plainFor_of_name (by decide +kernel), ⟨by decide +kernel, by decide +kernel, by decide +kernel⟩, by decide, fun h => absurd h (by decide), Or.inl ⟨rfl, List.mem_of_getElem? (i := 530) (by decide +kernel), List.mem_of_getElem? (i := 551) (by decide +kernel), _, rfl, rfl⟩⟩
set_option maxRecDepth 20000 in
theorem mt_ok_80 : mOk (m_Bc_bell, yX8_bell, cX8_bell, 0, 2) := ⟨List.all_eq_true.mp kk_Bc_bell, List.mem_of_getElem? (i := 444) (by decide +kernel), rfl, List.mem_of_getElem? (i := 1) (by decide +kernel), plainFor_of_name (by decide +kernel), ⟨by decide +kernel, by decide +kernel, by decide +kernel⟩, by decide, fun h => absurd h (by decide), Or.inl ⟨rfl, List.mem_of_getElem? (i := 442) (by decide +kernel), List.mem_of_getElem? (i := 463) (by decide +kernel), _, rfl, rfl⟩⟩
set_option maxRecDepth 20000 in
theorem mt_ok_81 : mOk (m_Bc_ifStopped, yX8_ifStopped, cX8_ifStopped, 0, 2) := ⟨List.all_eq_true.mp kk_Bc_ifStopped, List.mem_of_getElem? (i := 471) (by decide +kernel), rfl, List.mem_of_getElem? (i := 1) (by decide +kernel), plainFor_of_name (by decide +kernel), ⟨by decide +kernel, by decide +kernel, by decide +kernel⟩, by decide, fun h => absurd h (by decide), Or.inl ⟨rfl, List.mem_of_getElem? (i := 469) (by decide +kernel), List.mem_of_getElem? (i := 490) (by decide +kernel), _, rfl, rfl⟩⟩
set_option maxRecDepth 20000 in
theorem mt_ok_82 : mOk (m_Bc_outs, yX8_outs, cX8_outs, 0, 0) := ⟨List.all_eq_true.mp kk_Bc_outs, List.mem_of_getElem? (i := 528) (by decide +kernel), rfl, List.mem_of_getElem? (i := 1) (by decide +kernel), plainFor_of_name (by decide +kernel), ⟨by decide +kernel, by decide +kernel, by decide +kernel⟩, by decide, fun h => absurd h (by decide), Or.inl ⟨rfl, List.mem_of_getElem? (i := 526) (by decide +kernel), List.mem_of_getElem? (i := 547) (by decide +kernel), _, rfl, rfl⟩⟩
set_option maxRecDepth 20000 in
theorem mt_ok_83 : mOk (m_Bc_safeIn, yX8_safeIn, cX8_safeIn, 0, 1) := ⟨List.all_eq_true.mp kk_Bc_safeIn, List.mem_of_getElem? (i := 524) (by decide +kernel), rfl, List.mem_of_getElem? (i := 1) (by decide +kernel), plainFor_of_name (by decide +kernel), ⟨by decide +kernel, by decide +kernel, by decide +kernel⟩, by decide, fun h => absurd h (by decide), Or.inl ⟨rfl, List.mem_of_getElem? (i := 522) (by decide +kernel), List.mem_of_getElem? (i := 543) (by decide +kernel), _, rfl, rfl⟩⟩
set_option maxRecDepth 20000 in
theorem mt_ok_84 : mOk (m_Bc_mean, yX8_mean, cX8_mean, 0, 0) := ⟨List.all_eq_true.mp kk_Bc_mean, List.mem_of_getElem? (i := 460) (by decide +kernel), rfl, List.mem_of_getElem? (i := 1) (by decide +kernel), plainFor_of_name (by decide +kernel), ⟨by decide +kernel, by decide +kernel, by decide +kernel⟩, by decide, fun h => absurd h (by decide), Or.inl ⟨rfl, List.mem_of_getElem? (i := 458) (by decide +kernel), List.mem_of_getElem? (i := 479) (by decide +kernel), _, rfl, rfl⟩⟩
set_option maxRecDepth 20000 in
theorem mt_ok_85 : mOk (m_Bc_count, yX8_count, cX8_count, 0, 1) := ⟨List.all_eq_true.mp kk_Bc_count, List.mem_of_getElem? (i := 336) (by decide +kernel), rfl, List.mem_of_getElem? (i := 1) (by decide +kernel), plainFor_of_name (by decide +kernel), ⟨by decide +kernel, by decide +kernel, by decide +kernel⟩, by decide, fun h => absurd h (by decide), Or.inl ⟨rfl, List.mem_of_getElem? (i := 334) (by decide +kernel), List.mem_of_getElem? (i := 355) (by decide +kernel), _, rfl, rfl⟩⟩
set_option maxRecDepth 20000 in
theorem mt_ok_86 : mOk (m_Bc_undo, yX8_undo, cX8_undo, 0, 0) := ⟨List.all_eq_true.mp kk_Bc_undo, List.mem_of_getElem? (i := 381) (by decide +kernel), rfl, List.mem_of_getElem? (i := 1) (by decide +kernel), plainFor_of_name (by decide +kernel), ⟨by decide +kernel, by decide +kernel, by decide +kernel⟩, by decide, fun h => absurd h (by decide), Or.inl ⟨rfl, List.mem_of_getElem? (i := 379) (by decide +kernel), List.mem_of_getElem? (i := 400) (by decide +kernel), _, rfl, rfl⟩⟩
set_option maxRecDepth 20000 in
theorem mt_ok_87 : mOk (m_Bc_type, yX8_type, cX8_type, 0, 1) := ⟨List.all_eq_true.mp kk_Bc_type, List.mem_of_getElem? (i := 708) (by decide +kernel), rfl, List.mem_of_getElem? (i := 1) (by decide +kernel), plainFor_of_name (by decide +kernel), ⟨by decide +kernel, by decide +kernel, by decide +kernel⟩, by decide, fun h => absurd h (by decide), Or.inl ⟨rfl, List.mem_of_getElem? (i := 706) (by decide +kernel), List.mem_of_getElem? (i := 727) (by decide +kernel), _, rfl, rfl⟩⟩
set_option maxRecDepth 20000 in
theorem mt_ok_88 : mOk (m_Bc_clearText, yX8_clearText, cX8_clearText, 0, 0) := ⟨List.all_eq_true.mp kk_Bc_clearText, List.mem_of_getElem? (i := 700) (by decide +kernel), rfl, List.mem_of_getElem? (i := 1) (by decide +kernel), plainFor_of_name (by decide +kernel), ⟨by decide +kernel, by decide +kernel, by decide +kernel⟩, by decide, fun h => absurd h (by decide), Or.inl ⟨rfl, List.mem_of_getElem? (i := 698) (by decide +kernel), List.mem_of_getElem? (i := 719) (by decide +kernel), _, rfl, rfl⟩⟩
set_option maxRecDepth 20000 in
theorem mt_ok_89 : mOk (m_Bc_fault, yX8_fault, cX8_fault, 0, 1) := ⟨List.all_eq_true.mp kk_Bc_fault, List.mem_of_getElem? (i := 722) (by decide +kernel), rfl, List.mem_of_getElem? (i := 1) (by decide +kernel), plainFor_of_name (by decide +kernel), ⟨by decide +kernel, by decide +kernel, by decide +kernel⟩, by decide, fun h => absurd h (by decide), Or.inl ⟨rfl, List.mem_of_getElem? (i := 720) (by decide +kernel), List.mem_of_getElem? (i := 741) (by decide +kernel), _, rfl, rfl⟩⟩
set_option maxRecDepth 20000 in
theorem mt_ok_90 : mOk (m_Bc_play, yX8_play, cX8_play, 0, 0) := ⟨List.all_eq_true.mp kk_Bc_play, List.mem_of_getElem? (i := 762) (by decide +kernel), rfl, List.mem_of_getElem? (i := 1) (by decide +kernel), plainFor_of_name (by decide +kernel), ⟨by decide +kernel, by decide +kernel, by decide +kernel⟩, by decide, fun h => absurd h (by decide), Or.inl ⟨rfl, List.mem_of_getElem? (i := 760) (by decide +kernel), List.mem_of_getElem? (i := 781) (by decide +kernel), _, rfl, rfl⟩⟩
set_option maxRecDepth 20000 in
theorem mt_ok_91 : mOk (m_Bc_countBesidesTheGame, yX8_countBesidesTheGame, cX8_countBesidesTheGame, 0, 1) := ⟨List.all_eq_true.mp kk_Bc_countBesidesTheGame, List.mem_of_getElem? (i := 376) (by decide +kernel), rfl, List.mem_of_getElem? (i := 1) (by decide +kernel), plainFor_of_name (by decide +kernel), ⟨by decide +kernel, by decide +kernel, by decide +kernel⟩, by decide, fun h => absurd h (by decide), Or.inl ⟨rfl, List.mem_of_getElem? (i := 375) (by decide +kernel), List.mem_of_getElem? (i := 1) (by decide +kernel), _, rfl, rfl⟩⟩
set_option maxRecDepth 20000 in
theorem mt_ok_92 : mOk (m_Bc_foundOrNot, yX8_foundOrNot, cX8_foundOrNot, 1, 2) := ⟨List.all_eq_true.mp kk_Bc_foundOrNot, List.mem_of_getElem? (i := 431) (by decide +kernel), rfl, List.mem_of_getElem? (i := 1) (by decide +kernel), plainFor_of_name (by decide +kernel), ⟨by decide +kernel, by decide +kernel, by decide +kernel⟩, by decide, fun h => absurd h (by decide), Or.inr (Or.inl ⟨rfl, List.mem_of_getElem? (i := 430) (by decide +kernel)⟩)⟩
set_option maxRecDepth 20000 in
theorem mt_ok_93 : mOk (m_Bc_isWithin, yX8_isWithin, cX8_isWithin, 1, 3) := ⟨List.all_eq_true.mp kk_Bc_isWithin, List.mem_of_getElem? (i := 552) (by decide +kernel), rfl, List.mem_of_getElem? (i := 1) (by decide +kernel), plainFor_of_name (by decide +kernel), ⟨by decide +kernel, by decide +kernel, by decide +kernel⟩, by decide, fun h => absurd h (by decide), Or.inr (Or.inl ⟨rfl, List.mem_of_getElem? (i := 551) (by decide +kernel)⟩)⟩
set_option maxRecDepth 20000 in
theorem mt_ok_94 : mOk (m_Bc_bitsOf, yX8_bitsOf, cX8_bitsOf, 1, 1) := ⟨List.all_eq_true.mp kk_Bc_bitsOf, List.mem_of_getElem? (i := 463) (by decide +kernel), rfl, List.mem_of_getElem? (i := 1) (by decide +kernel), plainFor_of_name (by decide +kernel), ⟨by decide +kernel, by decide +kernel, by decide +kernel⟩, by decide, fun h => absurd h (by decide), Or.inr (Or.inl ⟨rfl, List.mem_of_getElem? (i := 462) (by decide +kernel)⟩)⟩
set_option maxRecDepth 20000 in
theorem mt_ok_95 : mOk (m_Int_bitCount, yJ6_bitCount_0f7a4, cJ6_bitCount_0f7a4, 1, 1) := ⟨List.all_eq_true.mp kk_Int_bitCount, List.mem_of_getElem? (i := 355) (by decide +kernel), rfl, List.mem_of_getElem? (i := 10) (by decide +kernel), plainFor_of_name (by decide +kernel), ⟨by decide +kernel, by decide +kernel, by decide +kernel⟩, by decide, fun h => absurd h (by decide), Or.inr (Or.inl ⟨rfl, List.mem_of_getElem? (i := 354) (by decide +kernel)⟩)⟩
set_option maxRecDepth 20000 in
theorem mt_ok_96 : mOk (m_Math_max, yJ9_max_7cf53, cJ9_max_7cf53, 1, 2) := ⟨List.all_eq_true.mp kk_Math_max, List.mem_of_getElem? (i := 652) (by decide +kernel), rfl, List.mem_of_getElem? (i := 12) (by decide +kernel), by decide +kernel, ⟨by decide +kernel, by decide +kernel, by decide +kernel⟩, by decide, fun h => absurd h (by decide), Or.inr (Or.inl ⟨rfl, List.mem_of_getElem? (i := 651) (by decide +kernel)⟩)⟩
set_option maxRecDepth 20000 in
theorem mt_ok_97 : mOk (m_Math_min, yJ9_min_7cf53, cJ9_min_7cf53, 1, 2) := ⟨List.all_eq_true.mp kk_Math_min, List.mem_of_getElem? (i := 566) (by decide +kernel), rfl, List.mem_of_getElem? (i := 12) (by decide +kernel), by decide +kernel, ⟨by decide +kernel, by decide +kernel, by decide +kernel⟩, by decide, fun h => absurd h (by decide), Or.inr (Or.inl ⟨rfl, List.mem_of_getElem? (i := 565) (by decide +kernel)⟩)⟩
set_option maxRecDepth 20000 in
theorem mt_ok_98 : mOk (m_Law_lot, yL_lot, cL_lot, 1, 2) := ⟨List.all_eq_true.mp kk_Law_lot, List.mem_of_getElem? (i := 410) (by decide +kernel), rfl, List.mem_of_getElem? (i := 0) (by decide +kernel), plainFor_of_name (by decide +kernel), ⟨by decide +kernel, by decide +kernel, by decide +kernel⟩, by decide, fun h => absurd h (by decide), Or.inr (Or.inl ⟨rfl, List.mem_of_getElem? (i := 409) (by decide +kernel)⟩)⟩
set_option maxRecDepth 20000 in
theorem mt_ok_99 : mOk (m_Law_low, yL_low, cL_low, 1, 2) := ⟨List.all_eq_true.mp kk_Law_low, List.mem_of_getElem? (i := 414) (by decide +kernel), rfl, List.mem_of_getElem? (i := 0) (by decide +kernel), plainFor_of_name (by decide +kernel), ⟨by decide +kernel, by decide +kernel, by decide +kernel⟩, by decide, fun h => absurd h (by decide), Or.inr (Or.inl ⟨rfl, List.mem_of_getElem? (i := 413) (by decide +kernel)⟩)⟩
set_option maxRecDepth 20000 in
theorem mt_ok_100 : mOk (m_Law_look, yL_look, cL_look, 1, 1) := ⟨kk_Law_look, List.mem_of_getElem? (i := 418) rfl, rfl, List.mem_of_getElem? (i := 0) (by decide +kernel), plainFor_of_name (by decide +kernel), ⟨by decide +kernel, by decide +kernel, by decide +kernel⟩, by decide, fun h => absurd h (by decide), Or.inr (Or.inl ⟨rfl, List.mem_of_getElem? (i := 417) (by decide +kernel)⟩)⟩
set_option maxRecDepth 20000 in
theorem mt_ok_101 : mOk (m_Law_ones, yL_ones, cL_ones, 1, 1) := ⟨List.all_eq_true.mp kk_Law_ones, List.mem_of_getElem? (i := 456) (by decide +kernel), rfl, List.mem_of_getElem? (i := 0) (by decide +kernel), plainFor_of_name (by decide +kernel), ⟨by decide +kernel, by decide +kernel, by decide +kernel⟩, by decide, fun h => absurd h (by decide), Or.inr (Or.inl ⟨rfl, List.mem_of_getElem? (i := 455) (by decide +kernel)⟩)⟩
set_option maxRecDepth 20000 in
theorem mt_ok_102 : mOk (m_Law_holds, yL_holds, cL_holds, 1, 1) := ⟨kk_Law_holds, List.mem_of_getElem? (i := 451) rfl, rfl, List.mem_of_getElem? (i := 0) (by decide +kernel), plainFor_of_name (by decide +kernel), ⟨by decide +kernel, by decide +kernel, by decide +kernel⟩, by decide, fun h => absurd h (by decide), Or.inr (Or.inl ⟨rfl, List.mem_of_getElem? (i := 450) (by decide +kernel)⟩)⟩
set_option maxRecDepth 20000 in
theorem mt_ok_103 : mOk (m_Law_would, yL_would, cL_would, 1, 2) := ⟨kk_Law_would, List.mem_of_getElem? (i := 467) rfl, rfl, List.mem_of_getElem? (i := 0) (by decide +kernel), plainFor_of_name (by decide +kernel), ⟨by decide +kernel, by decide +kernel, by decide +kernel⟩, by decide, fun h => absurd h (by decide), Or.inr (Or.inl ⟨rfl, List.mem_of_getElem? (i := 466) (by decide +kernel)⟩)⟩
set_option maxRecDepth 20000 in
theorem mt_ok_104 : mOk (m_Law_number, yL_number, cL_number, 1, 2) := ⟨List.all_eq_true.mp kk_Law_number, List.mem_of_getElem? (i := 718) (by decide +kernel), rfl, List.mem_of_getElem? (i := 0) (by decide +kernel), plainFor_of_name (by decide +kernel), ⟨by decide +kernel, by decide +kernel, by decide +kernel⟩, by decide, fun h => absurd h (by decide), Or.inr (Or.inl ⟨rfl, List.mem_of_getElem? (i := 717) (by decide +kernel)⟩)⟩
set_option maxRecDepth 20000 in
theorem mt_ok_105 : mOk (m_Law_types, yL_types, cL_types, 1, 2) := ⟨kk_Law_types, List.mem_of_getElem? (i := 696) rfl, rfl, List.mem_of_getElem? (i := 0) (by decide +kernel), plainFor_of_name (by decide +kernel), ⟨by decide +kernel, by decide +kernel, by decide +kernel⟩, by decide, fun h => absurd h (by decide), Or.inr (Or.inl ⟨rfl, List.mem_of_getElem? (i := 695) (by decide +kernel)⟩)⟩
set_option maxRecDepth 20000 in
theorem mt_ok_106 : mOk (m_Law_reads, yL_reads, cL_reads, 1, 2) := ⟨kk_Law_reads, List.mem_of_getElem? (i := 693) rfl, rfl, List.mem_of_getElem? (i := 0) (by decide +kernel), plainFor_of_name (by decide +kernel), ⟨by decide +kernel, by decide +kernel, by decide +kernel⟩, by decide, fun h => absurd h (by decide), Or.inr (Or.inl ⟨rfl, List.mem_of_getElem? (i := 692) (by decide +kernel)⟩)⟩
set_option maxRecDepth 20000 in
theorem mt_ok_107 : mOk (m_Law_music, yL_music, cL_music, 1, 3) := ⟨kk_Law_music, List.mem_of_getElem? (i := 583) rfl, rfl, List.mem_of_getElem? (i := 0) (by decide +kernel), plainFor_of_name (by decide +kernel), ⟨by decide +kernel, by decide +kernel, by decide +kernel⟩, by decide, fun h => absurd h (by decide), Or.inr (Or.inl ⟨rfl, List.mem_of_getElem? (i := 582) (by decide +kernel)⟩)⟩
set_option maxRecDepth 20000 in
theorem mt_ok_108 : mOk (m_Law_acts, yL_acts, cL_acts, 1, 3) := ⟨kk_Law_acts, List.mem_of_getElem? (i := 537) rfl, rfl, List.mem_of_getElem? (i := 0) (by decide +kernel), plainFor_of_name (by decide +kernel), ⟨by decide +kernel, by decide +kernel, by decide +kernel⟩, by decide, fun h => absurd h (by decide), Or.inr (Or.inl ⟨rfl, List.mem_of_getElem? (i := 536) (by decide +kernel)⟩)⟩
set_option maxRecDepth 100000 in
theorem mt_ok : ∀ q ∈ mtA, mOk q := List.forall_mem_cons.mpr ⟨mt_ok_0, List.forall_mem_cons.mpr ⟨mt_ok_1, List.forall_mem_cons.mpr ⟨mt_ok_2, List.forall_mem_cons.mpr ⟨mt_ok_3, List.forall_mem_cons.mpr ⟨mt_ok_4, List.forall_mem_cons.mpr ⟨mt_ok_5, List.forall_mem_cons.mpr ⟨mt_ok_6, List.forall_mem_cons.mpr ⟨mt_ok_7, List.forall_mem_cons.mpr ⟨mt_ok_8, List.forall_mem_cons.mpr ⟨mt_ok_9, List.forall_mem_cons.mpr ⟨mt_ok_10, List.forall_mem_cons.mpr ⟨mt_ok_11, List.forall_mem_cons.mpr ⟨mt_ok_12, List.forall_mem_cons.mpr ⟨mt_ok_13, List.forall_mem_cons.mpr ⟨mt_ok_14, List.forall_mem_cons.mpr ⟨mt_ok_15, List.forall_mem_cons.mpr ⟨mt_ok_16, List.forall_mem_cons.mpr ⟨mt_ok_17, List.forall_mem_cons.mpr ⟨mt_ok_18, List.forall_mem_cons.mpr ⟨mt_ok_19, List.forall_mem_cons.mpr ⟨mt_ok_20, List.forall_mem_cons.mpr ⟨mt_ok_21, List.forall_mem_cons.mpr ⟨mt_ok_22, List.forall_mem_cons.mpr ⟨mt_ok_23, List.forall_mem_cons.mpr ⟨mt_ok_24, List.forall_mem_cons.mpr ⟨mt_ok_25, List.forall_mem_cons.mpr ⟨mt_ok_26, List.forall_mem_cons.mpr ⟨mt_ok_27, List.forall_mem_cons.mpr ⟨mt_ok_28, List.forall_mem_cons.mpr ⟨mt_ok_29, List.forall_mem_cons.mpr ⟨mt_ok_30, List.forall_mem_cons.mpr ⟨mt_ok_31, List.forall_mem_cons.mpr ⟨mt_ok_32, List.forall_mem_cons.mpr ⟨mt_ok_33, List.forall_mem_cons.mpr ⟨mt_ok_34, List.forall_mem_cons.mpr ⟨mt_ok_35, List.forall_mem_cons.mpr ⟨mt_ok_36, List.forall_mem_cons.mpr ⟨mt_ok_37, List.forall_mem_cons.mpr ⟨mt_ok_38, List.forall_mem_cons.mpr ⟨mt_ok_39, List.forall_mem_cons.mpr ⟨mt_ok_40, List.forall_mem_cons.mpr ⟨mt_ok_41, List.forall_mem_cons.mpr ⟨mt_ok_42, List.forall_mem_cons.mpr ⟨mt_ok_43, List.forall_mem_cons.mpr ⟨mt_ok_44, List.forall_mem_cons.mpr ⟨mt_ok_45, List.forall_mem_cons.mpr ⟨mt_ok_46, List.forall_mem_cons.mpr ⟨mt_ok_47, List.forall_mem_cons.mpr ⟨mt_ok_48, List.forall_mem_cons.mpr ⟨mt_ok_49, List.forall_mem_cons.mpr ⟨mt_ok_50, List.forall_mem_cons.mpr ⟨mt_ok_51, List.forall_mem_cons.mpr ⟨mt_ok_52, List.forall_mem_cons.mpr ⟨mt_ok_53, List.forall_mem_cons.mpr ⟨mt_ok_54, List.forall_mem_cons.mpr ⟨mt_ok_55, List.forall_mem_cons.mpr ⟨mt_ok_56, List.forall_mem_cons.mpr ⟨mt_ok_57, List.forall_mem_cons.mpr ⟨mt_ok_58, List.forall_mem_cons.mpr ⟨mt_ok_59, List.forall_mem_cons.mpr ⟨mt_ok_60, List.forall_mem_cons.mpr ⟨mt_ok_61, List.forall_mem_cons.mpr ⟨mt_ok_62, List.forall_mem_cons.mpr ⟨mt_ok_63, List.forall_mem_cons.mpr ⟨mt_ok_64, List.forall_mem_cons.mpr ⟨mt_ok_65, List.forall_mem_cons.mpr ⟨mt_ok_66, List.forall_mem_cons.mpr ⟨mt_ok_67, List.forall_mem_cons.mpr ⟨mt_ok_68, List.forall_mem_cons.mpr ⟨mt_ok_69, List.forall_mem_cons.mpr ⟨mt_ok_70, List.forall_mem_cons.mpr ⟨mt_ok_71, List.forall_mem_cons.mpr ⟨mt_ok_72, List.forall_mem_cons.mpr ⟨mt_ok_73, List.forall_mem_cons.mpr ⟨mt_ok_74, List.forall_mem_cons.mpr ⟨mt_ok_75, List.forall_mem_cons.mpr ⟨mt_ok_76, List.forall_mem_cons.mpr ⟨mt_ok_77, List.forall_mem_cons.mpr ⟨mt_ok_78, List.forall_mem_cons.mpr ⟨mt_ok_79, List.forall_mem_cons.mpr ⟨mt_ok_80, List.forall_mem_cons.mpr ⟨mt_ok_81, List.forall_mem_cons.mpr ⟨mt_ok_82, List.forall_mem_cons.mpr ⟨mt_ok_83, List.forall_mem_cons.mpr ⟨mt_ok_84, List.forall_mem_cons.mpr ⟨mt_ok_85, List.forall_mem_cons.mpr ⟨mt_ok_86, List.forall_mem_cons.mpr ⟨mt_ok_87, List.forall_mem_cons.mpr ⟨mt_ok_88, List.forall_mem_cons.mpr ⟨mt_ok_89, List.forall_mem_cons.mpr ⟨mt_ok_90, List.forall_mem_cons.mpr ⟨mt_ok_91, List.forall_mem_cons.mpr ⟨mt_ok_92, List.forall_mem_cons.mpr ⟨mt_ok_93, List.forall_mem_cons.mpr ⟨mt_ok_94, List.forall_mem_cons.mpr ⟨mt_ok_95, List.forall_mem_cons.mpr ⟨mt_ok_96, List.forall_mem_cons.mpr ⟨mt_ok_97, List.forall_mem_cons.mpr ⟨mt_ok_98, List.forall_mem_cons.mpr ⟨mt_ok_99, List.forall_mem_cons.mpr ⟨mt_ok_100, List.forall_mem_cons.mpr ⟨mt_ok_101, List.forall_mem_cons.mpr ⟨mt_ok_102, List.forall_mem_cons.mpr ⟨mt_ok_103, List.forall_mem_cons.mpr ⟨mt_ok_104, List.forall_mem_cons.mpr ⟨mt_ok_105, List.forall_mem_cons.mpr ⟨mt_ok_106, List.forall_mem_cons.mpr ⟨mt_ok_107, List.forall_mem_cons.mpr ⟨mt_ok_108, fun _ h => absurd h List.not_mem_nil⟩⟩⟩⟩⟩⟩⟩⟩⟩⟩⟩⟩⟩⟩⟩⟩⟩⟩⟩⟩⟩⟩⟩⟩⟩⟩⟩⟩⟩⟩⟩⟩⟩⟩⟩⟩⟩⟩⟩⟩⟩⟩⟩⟩⟩⟩⟩⟩⟩⟩⟩⟩⟩⟩⟩⟩⟩⟩⟩⟩⟩⟩⟩⟩⟩⟩⟩⟩⟩⟩⟩⟩⟩⟩⟩⟩⟩⟩⟩⟩⟩⟩⟩⟩⟩⟩⟩⟩⟩⟩⟩⟩⟩⟩⟩⟩⟩⟩⟩⟩⟩⟩⟩⟩⟩⟩⟩⟩⟩
theorem kk_law : ∀ q ∈ k_law, okE 13 code q = true := by
  have h3 : ∀ q ∈ k_law.drop 175, okE 13 code q = true := fun q hq => absurd hq (by rw [show k_law.drop 175 = [] from rfl]; exact List.not_mem_nil)
  have h2 : ∀ q ∈ k_law.drop 120, okE 13 code q = true := x_tk k_law 55 (fun q => okE 13 code q = true) 120 (List.all_eq_true.mp kk_law2) h3
  have h1 : ∀ q ∈ k_law.drop 60, okE 13 code q = true := x_tk k_law 60 (fun q => okE 13 code q = true) 60 (List.all_eq_true.mp kk_law1) h2
  have h0 : ∀ q ∈ k_law.drop 0, okE 13 code q = true := x_tk k_law 60 (fun q => okE 13 code q = true) 0 (List.all_eq_true.mp kk_law0) h1
  exact h0
