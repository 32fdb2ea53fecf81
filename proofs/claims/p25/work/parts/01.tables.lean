-- ===== PART A: goes FIRST, ahead of the names: the tables' words, and 'selects' of the private methods out of them =====
/-- a private method of a class that the tables say can be made, by its rows of tables_1 -/
def lw_okq (q : MethodName × Nat) : Prop := (q.1.cls ≠ "java/lang/invoke/MethodHandle" ∧ q.1.cls ≠ "java/lang/invoke/VarHandle") ∧ Cond.instantiable q.1.cls q.2 ∈ tables_1 ∧ Cond.privateMethod q.1 ∈ tables_1 ∧ Cond.instanceMethod q.1 ∈ tables_1
theorem lw_p0 : lw_okq (⟨"BellChairs$Players", "sum", "([I)I"⟩, 10) := ⟨⟨by decide +kernel, by decide +kernel⟩, List.mem_of_getElem? (i := 56) (by decide +kernel), List.mem_of_getElem? (i := 342) (by decide +kernel), List.mem_of_getElem? (i := 343) (by decide +kernel)⟩
theorem lw_p1 : lw_okq (⟨"BellChairs", "countBesidesTheGame", "(I)I"⟩, 5) := ⟨⟨by decide +kernel, by decide +kernel⟩, List.mem_of_getElem? (i := 14) (by decide +kernel), List.mem_of_getElem? (i := 374) (by decide +kernel), List.mem_of_getElem? (i := 375) (by decide +kernel)⟩
theorem lw_p2 : lw_okq (⟨"BellChairs$Grope", "begin", "(LBellChairs$Chairs;LBellChairs$Players;I)V"⟩, 12) := ⟨⟨by decide +kernel, by decide +kernel⟩, List.mem_of_getElem? (i := 208) (by decide +kernel), List.mem_of_getElem? (i := 478) (by decide +kernel), List.mem_of_getElem? (i := 479) (by decide +kernel)⟩
theorem lw_p3 : lw_okq (⟨"BellChairs$Grope", "sendOut", "(LBellChairs$Chairs;LBellChairs$Players;)V"⟩, 12) := ⟨⟨by decide +kernel, by decide +kernel⟩, List.mem_of_getElem? (i := 208) (by decide +kernel), List.mem_of_getElem? (i := 486) (by decide +kernel), List.mem_of_getElem? (i := 487) (by decide +kernel)⟩
theorem lw_p4 : lw_okq (⟨"BellChairs$Grope", "gropes", "(I)Z"⟩, 12) := ⟨⟨by decide +kernel, by decide +kernel⟩, List.mem_of_getElem? (i := 208) (by decide +kernel), List.mem_of_getElem? (i := 490) (by decide +kernel), List.mem_of_getElem? (i := 491) (by decide +kernel)⟩
theorem lw_p5 : lw_okq (⟨"BellChairs$Grope", "settle", "(I)V"⟩, 12) := ⟨⟨by decide +kernel, by decide +kernel⟩, List.mem_of_getElem? (i := 208) (by decide +kernel), List.mem_of_getElem? (i := 494) (by decide +kernel), List.mem_of_getElem? (i := 495) (by decide +kernel)⟩
theorem lw_p6 : lw_okq (⟨"BellChairs$Grope", "takeAim", "(LBellChairs$Chairs;LBellChairs$Players;)V"⟩, 12) := ⟨⟨by decide +kernel, by decide +kernel⟩, List.mem_of_getElem? (i := 208) (by decide +kernel), List.mem_of_getElem? (i := 498) (by decide +kernel), List.mem_of_getElem? (i := 499) (by decide +kernel)⟩
theorem lw_p7 : lw_okq (⟨"BellChairs$Grope", "sitDown", "(LBellChairs$Chairs;LBellChairs$Players;)V"⟩, 12) := ⟨⟨by decide +kernel, by decide +kernel⟩, List.mem_of_getElem? (i := 208) (by decide +kernel), List.mem_of_getElem? (i := 502) (by decide +kernel), List.mem_of_getElem? (i := 503) (by decide +kernel)⟩
theorem lw_p8 : lw_okq (⟨"BellChairs$Grope", "nearest", "(LBellChairs$Players;I)I"⟩, 12) := ⟨⟨by decide +kernel, by decide +kernel⟩, List.mem_of_getElem? (i := 208) (by decide +kernel), List.mem_of_getElem? (i := 506) (by decide +kernel), List.mem_of_getElem? (i := 507) (by decide +kernel)⟩
theorem lw_p9 : lw_okq (⟨"BellChairs$Grope", "bump", "(LBellChairs$Players;)V"⟩, 12) := ⟨⟨by decide +kernel, by decide +kernel⟩, List.mem_of_getElem? (i := 208) (by decide +kernel), List.mem_of_getElem? (i := 510) (by decide +kernel), List.mem_of_getElem? (i := 511) (by decide +kernel)⟩
theorem lw_p10 : lw_okq (⟨"BellChairs$Grope", "ring", "(LBellChairs$Chairs;LBellChairs$Players;)V"⟩, 12) := ⟨⟨by decide +kernel, by decide +kernel⟩, List.mem_of_getElem? (i := 208) (by decide +kernel), List.mem_of_getElem? (i := 514) (by decide +kernel), List.mem_of_getElem? (i := 515) (by decide +kernel)⟩
theorem lw_p11 : lw_okq (⟨"BellChairs$Game", "settlePlayers", "(LBellChairs$Grope;)V"⟩, 10) := ⟨⟨by decide +kernel, by decide +kernel⟩, List.mem_of_getElem? (i := 22) (by decide +kernel), List.mem_of_getElem? (i := 625) (by decide +kernel), List.mem_of_getElem? (i := 626) (by decide +kernel)⟩
theorem lw_p12 : lw_okq (⟨"BellChairs$Game", "settleChairs", "(LBellChairs$Grope;)V"⟩, 10) := ⟨⟨by decide +kernel, by decide +kernel⟩, List.mem_of_getElem? (i := 22) (by decide +kernel), List.mem_of_getElem? (i := 634) (by decide +kernel), List.mem_of_getElem? (i := 635) (by decide +kernel)⟩
theorem lw_p13 : lw_okq (⟨"BellChairs$Game", "goOn", "()V"⟩, 10) := ⟨⟨by decide +kernel, by decide +kernel⟩, List.mem_of_getElem? (i := 22) (by decide +kernel), List.mem_of_getElem? (i := 647) (by decide +kernel), List.mem_of_getElem? (i := 648) (by decide +kernel)⟩
theorem lw_p14 : lw_okq (⟨"BellChairs$Chairs", "mostWorn", "()I"⟩, 4) := ⟨⟨by decide +kernel, by decide +kernel⟩, List.mem_of_getElem? (i := 28) (by decide +kernel), List.mem_of_getElem? (i := 658) (by decide +kernel), List.mem_of_getElem? (i := 659) (by decide +kernel)⟩
theorem lw_p15 : lw_okq (⟨"BellChairs$Chairs", "takeAway", "(I)V"⟩, 4) := ⟨⟨by decide +kernel, by decide +kernel⟩, List.mem_of_getElem? (i := 28) (by decide +kernel), List.mem_of_getElem? (i := 662) (by decide +kernel), List.mem_of_getElem? (i := 663) (by decide +kernel)⟩
def lw_privs_1 : List (MethodName × Nat) := [(⟨"BellChairs$Players", "sum", "([I)I"⟩, 10), (⟨"BellChairs", "countBesidesTheGame", "(I)I"⟩, 5), (⟨"BellChairs$Grope", "begin", "(LBellChairs$Chairs;LBellChairs$Players;I)V"⟩, 12), (⟨"BellChairs$Grope", "sendOut", "(LBellChairs$Chairs;LBellChairs$Players;)V"⟩, 12), (⟨"BellChairs$Grope", "gropes", "(I)Z"⟩, 12), (⟨"BellChairs$Grope", "settle", "(I)V"⟩, 12), (⟨"BellChairs$Grope", "takeAim", "(LBellChairs$Chairs;LBellChairs$Players;)V"⟩, 12), (⟨"BellChairs$Grope", "sitDown", "(LBellChairs$Chairs;LBellChairs$Players;)V"⟩, 12), (⟨"BellChairs$Grope", "nearest", "(LBellChairs$Players;I)I"⟩, 12), (⟨"BellChairs$Grope", "bump", "(LBellChairs$Players;)V"⟩, 12), (⟨"BellChairs$Grope", "ring", "(LBellChairs$Chairs;LBellChairs$Players;)V"⟩, 12), (⟨"BellChairs$Game", "settlePlayers", "(LBellChairs$Grope;)V"⟩, 10), (⟨"BellChairs$Game", "settleChairs", "(LBellChairs$Grope;)V"⟩, 10), (⟨"BellChairs$Game", "goOn", "()V"⟩, 10), (⟨"BellChairs$Chairs", "mostWorn", "()I"⟩, 4), (⟨"BellChairs$Chairs", "takeAway", "(I)V"⟩, 4)]
theorem lw_r1 : ∀ q ∈ lw_privs_1, lw_okq q := List.forall_mem_cons.mpr ⟨lw_p0, List.forall_mem_cons.mpr ⟨lw_p1, List.forall_mem_cons.mpr ⟨lw_p2, List.forall_mem_cons.mpr ⟨lw_p3, List.forall_mem_cons.mpr ⟨lw_p4, List.forall_mem_cons.mpr ⟨lw_p5, List.forall_mem_cons.mpr ⟨lw_p6, List.forall_mem_cons.mpr ⟨lw_p7, List.forall_mem_cons.mpr ⟨lw_p8, List.forall_mem_cons.mpr ⟨lw_p9, List.forall_mem_cons.mpr ⟨lw_p10, List.forall_mem_cons.mpr ⟨lw_p11, List.forall_mem_cons.mpr ⟨lw_p12, List.forall_mem_cons.mpr ⟨lw_p13, List.forall_mem_cons.mpr ⟨lw_p14, List.forall_mem_cons.mpr ⟨lw_p15, fun _ h => absurd h List.not_mem_nil⟩⟩⟩⟩⟩⟩⟩⟩⟩⟩⟩⟩⟩⟩⟩⟩
theorem lw_p16 : lw_okq (⟨"BellChairs$Orders", "readOrder", "(LBellChairs$Text;)Z"⟩, 9) := ⟨⟨by decide +kernel, by decide +kernel⟩, List.mem_of_getElem? (i := 277) (by decide +kernel), List.mem_of_getElem? (i := 729) (by decide +kernel), List.mem_of_getElem? (i := 730) (by decide +kernel)⟩
theorem lw_p17 : lw_okq (⟨"BellChairs$Orders", "readNumber", "(LBellChairs$Text;)I"⟩, 9) := ⟨⟨by decide +kernel, by decide +kernel⟩, List.mem_of_getElem? (i := 277) (by decide +kernel), List.mem_of_getElem? (i := 737) (by decide +kernel), List.mem_of_getElem? (i := 738) (by decide +kernel)⟩
theorem lw_p18 : lw_okq (⟨"BellChairs$Orders", "passes", "(LBellChairs$Text;I)Z"⟩, 9) := ⟨⟨by decide +kernel, by decide +kernel⟩, List.mem_of_getElem? (i := 277) (by decide +kernel), List.mem_of_getElem? (i := 743) (by decide +kernel), List.mem_of_getElem? (i := 744) (by decide +kernel)⟩
theorem lw_p19 : lw_okq (⟨"BellChairs$Orders", "judge", "(I)V"⟩, 9) := ⟨⟨by decide +kernel, by decide +kernel⟩, List.mem_of_getElem? (i := 277) (by decide +kernel), List.mem_of_getElem? (i := 756) (by decide +kernel), List.mem_of_getElem? (i := 757) (by decide +kernel)⟩
def lw_privs_2 : List (MethodName × Nat) := [(⟨"BellChairs$Orders", "readOrder", "(LBellChairs$Text;)Z"⟩, 9), (⟨"BellChairs$Orders", "readNumber", "(LBellChairs$Text;)I"⟩, 9), (⟨"BellChairs$Orders", "passes", "(LBellChairs$Text;I)Z"⟩, 9), (⟨"BellChairs$Orders", "judge", "(I)V"⟩, 9)]
theorem lw_r2 : ∀ q ∈ lw_privs_2, lw_okq q := List.forall_mem_cons.mpr ⟨lw_p16, List.forall_mem_cons.mpr ⟨lw_p17, List.forall_mem_cons.mpr ⟨lw_p18, List.forall_mem_cons.mpr ⟨lw_p19, fun _ h => absurd h List.not_mem_nil⟩⟩⟩⟩
def lw_privs : List (MethodName × Nat) := lw_privs_1 ++ (lw_privs_2)
def lw_tbl : List Cond := k2_sels lw_privs ++ tables_1
theorem lw_privs_ok : ∀ q ∈ lw_privs, lw_okq q := by
  show ∀ q ∈ lw_privs_1 ++ (lw_privs_2), lw_okq q
  exact List.forall_mem_append.mpr ⟨lw_r1, lw_r2⟩
/-- the streams that the claim lets the run draw from -/
abbrev lw_cs : List Choice := [Jvm.Choice.named "NaN.bits"]
theorem lw_bits : nanBits ∈ lw_cs := by first | decide | exact List.mem_cons_self | simp [lw_cs, nanBits]

-- ===== names (out of the printed names) =====
def RX0 : String := "BellChairs$Bells"
def TX0 : u_T := fun k => match k with
  | 0 => ("BellChairs$Bells", "round", "[I", true)
  | 1 => ("BellChairs$Bells", "tick", "[I", true)
  | 2 => ("BellChairs$Bells", "place", "[I", true)
  | 3 => ("BellChairs$Bells", "tone", "[I", true)
  | 4 => ("BellChairs$Bells", "player", "[I", true)
  | 5 => ("BellChairs$Bells", "next", "I", false)
  | _ => ("BellChairs$Bells", "kept", "I", false)
def tyX0 : Nat → FieldType := fun k => match k with
  | 0 => .array .int
  | 1 => .array .int
  | 2 => .array .int
  | 3 => .array .int
  | 4 => .array .int
  | 5 => .int
  | _ => .int
abbrev wsX00 : List Cond := u_ws RX0 TX0 7
theorem nmX0 : ∀ a, a < 7 → ∀ b, b < 7 → a ≠ b → (TX0 a).2.1 ≠ (TX0 b).2.1 := by decide +kernel
theorem tyX0_ok : ∀ k, k < 7 → parseFieldDescriptor (TX0 k).2.2.1 = some (tyX0 k) := by decide +kernel
abbrev cX0_init : ByteArray := prog_2_method_1_code
def yX0_init : MethodName := ⟨RX0, "<init>", "()V"⟩
abbrev cX0_copyFrom : ByteArray := prog_2_method_2_code
def yX0_copyFrom : MethodName := ⟨RX0, "copyFrom", "(LBellChairs$Bells;)V"⟩
abbrev cX0_ring : ByteArray := prog_2_method_3_code
def yX0_ring : MethodName := ⟨RX0, "ring", "(IIIII)V"⟩
abbrev cX0_rowOf : ByteArray := prog_2_method_4_code
def yX0_rowOf : MethodName := ⟨RX0, "rowOf", "(I)I"⟩
def RX1 : String := "BellChairs$Chairs"
def TX1 : u_T := fun k => match k with
  | 0 => ("BellChairs$Chairs", "tone", "[I", true)
  | 1 => ("BellChairs$Chairs", "sittings", "[I", true)
  | 2 => ("BellChairs$Chairs", "sitter", "[I", true)
  | _ => ("BellChairs$Chairs", "size", "I", false)
def tyX1 : Nat → FieldType := fun k => match k with
  | 0 => .array .int
  | 1 => .array .int
  | 2 => .array .int
  | _ => .int
abbrev wsX10 : List Cond := u_ws RX1 TX1 4
theorem nmX1 : ∀ a, a < 4 → ∀ b, b < 4 → a ≠ b → (TX1 a).2.1 ≠ (TX1 b).2.1 := by decide +kernel
theorem tyX1_ok : ∀ k, k < 4 → parseFieldDescriptor (TX1 k).2.2.1 = some (tyX1 k) := by decide +kernel
abbrev cX1_init : ByteArray := prog_3_method_1_code
def yX1_init : MethodName := ⟨RX1, "<init>", "()V"⟩
abbrev cX1_copyFrom : ByteArray := prog_3_method_2_code
def yX1_copyFrom : MethodName := ⟨RX1, "copyFrom", "(LBellChairs$Chairs;)V"⟩
abbrev cX1_has : ByteArray := prog_3_method_3_code
def yX1_has : MethodName := ⟨RX1, "has", "(I)Z"⟩
abbrev cX1_add : ByteArray := prog_3_method_4_code
def yX1_add : MethodName := ⟨RX1, "add", "(I)I"⟩
abbrev cX1_onFrom : ByteArray := prog_3_method_5_code
def yX1_onFrom : MethodName := ⟨RX1, "onFrom", "(II)I"⟩
abbrev cX1_forgetSitters : ByteArray := prog_3_method_6_code
def yX1_forgetSitters : MethodName := ⟨RX1, "forgetSitters", "()V"⟩
abbrev cX1_seat : ByteArray := prog_3_method_7_code
def yX1_seat : MethodName := ⟨RX1, "seat", "(II)V"⟩
abbrev cX1_leaveOnly : ByteArray := prog_3_method_8_code
def yX1_leaveOnly : MethodName := ⟨RX1, "leaveOnly", "(I)I"⟩
abbrev cX1_mostWorn : ByteArray := prog_3_method_9_code
def yX1_mostWorn : MethodName := ⟨RX1, "mostWorn", "()I"⟩
abbrev cX1_takeAway : ByteArray := prog_3_method_10_code
def yX1_takeAway : MethodName := ⟨RX1, "takeAway", "(I)V"⟩
def RX2 : String := "BellChairs$Game"
def TX2 : u_T := fun k => match k with
  | 0 => ("BellChairs$Game", "chairs", "LBellChairs$Chairs;", true)
  | 1 => ("BellChairs$Game", "players", "LBellChairs$Players;", true)
  | 2 => ("BellChairs$Game", "bells", "LBellChairs$Bells;", true)
  | 3 => ("BellChairs$Game", "phase", "I", false)
  | 4 => ("BellChairs$Game", "fewer", "I", false)
  | 5 => ("BellChairs$Game", "rounds", "I", false)
  | 6 => ("BellChairs$Game", "beats", "I", false)
  | 7 => ("BellChairs$Game", "ticks", "I", false)
  | 8 => ("BellChairs$Game", "taken", "I", false)
  | _ => ("BellChairs$Game", "outByRounds", "I", false)
def tyX2 : Nat → FieldType := fun k => match k with
  | 0 => .object "BellChairs$Chairs"
  | 1 => .object "BellChairs$Players"
  | 2 => .object "BellChairs$Bells"
  | 3 => .int
  | 4 => .int
  | 5 => .int
  | 6 => .int
  | 7 => .int
  | 8 => .int
  | _ => .int
abbrev wsX20 : List Cond := u_ws RX2 TX2 10
theorem nmX2 : ∀ a, a < 10 → ∀ b, b < 10 → a ≠ b → (TX2 a).2.1 ≠ (TX2 b).2.1 := by decide +kernel
theorem tyX2_ok : ∀ k, k < 10 → parseFieldDescriptor (TX2 k).2.2.1 = some (tyX2 k) := by decide +kernel
abbrev cX2_init : ByteArray := prog_4_method_1_code
def yX2_init : MethodName := ⟨RX2, "<init>", "()V"⟩
abbrev cX2_copyFrom : ByteArray := prog_4_method_2_code
def yX2_copyFrom : MethodName := ⟨RX2, "copyFrom", "(LBellChairs$Game;)V"⟩
abbrev cX2_addChair : ByteArray := prog_4_method_3_code
def yX2_addChair : MethodName := ⟨RX2, "addChair", "(I)I"⟩
abbrev cX2_addPlayer : ByteArray := prog_4_method_4_code
def yX2_addPlayer : MethodName := ⟨RX2, "addPlayer", "(II)I"⟩
abbrev cX2_retune : ByteArray := prog_4_method_5_code
def yX2_retune : MethodName := ⟨RX2, "retune", "(II)I"⟩
abbrev cX2_retrain : ByteArray := prog_4_method_6_code
def yX2_retrain : MethodName := ⟨RX2, "retrain", "(III)I"⟩
abbrev cX2_startMusic : ByteArray := prog_4_method_7_code
def yX2_startMusic : MethodName := ⟨RX2, "startMusic", "()I"⟩
abbrev cX2_walk : ByteArray := prog_4_method_8_code
def yX2_walk : MethodName := ⟨RX2, "walk", "(I)I"⟩
abbrev cX2_stopMusic : ByteArray := prog_4_method_9_code
def yX2_stopMusic : MethodName := ⟨RX2, "stopMusic", "(LBellChairs$Grope;)I"⟩
abbrev cX2_choose : ByteArray := prog_4_method_10_code
def yX2_choose : MethodName := ⟨RX2, "choose", "(II)I"⟩
abbrev cX2_perform : ByteArray := prog_4_method_11_code
def yX2_perform : MethodName := ⟨RX2, "perform", "(IIILBellChairs$Grope;)I"⟩
abbrev cX2_settlePlayers : ByteArray := prog_4_method_12_code
def yX2_settlePlayers : MethodName := ⟨RX2, "settlePlayers", "(LBellChairs$Grope;)V"⟩
abbrev cX2_settleChairs : ByteArray := prog_4_method_13_code
def yX2_settleChairs : MethodName := ⟨RX2, "settleChairs", "(LBellChairs$Grope;)V"⟩
abbrev cX2_goOn : ByteArray := prog_4_method_14_code
def yX2_goOn : MethodName := ⟨RX2, "goOn", "()V"⟩
def RX3 : String := "BellChairs$Grope"
def TX3 : u_T := fun k => match k with
  | 0 => ("BellChairs$Grope", "place", "[I", true)
  | 1 => ("BellChairs$Grope", "known", "[I", true)
  | 2 => ("BellChairs$Grope", "aim", "[I", true)
  | 3 => ("BellChairs$Grope", "far", "[I", true)
  | 4 => ("BellChairs$Grope", "seat", "[I", true)
  | 5 => ("BellChairs$Grope", "bumps", "[I", true)
  | 6 => ("BellChairs$Grope", "tick", "[I", true)
  | 7 => ("BellChairs$Grope", "sitter", "[I", true)
  | 8 => ("BellChairs$Grope", "sitTick", "[I", true)
  | 9 => ("BellChairs$Grope", "groping", "I", false)
  | 10 => ("BellChairs$Grope", "out", "I", false)
  | _ => ("BellChairs$Grope", "ticks", "I", false)
def tyX3 : Nat → FieldType := fun k => match k with
  | 0 => .array .int
  | 1 => .array .int
  | 2 => .array .int
  | 3 => .array .int
  | 4 => .array .int
  | 5 => .array .int
  | 6 => .array .int
  | 7 => .array .int
  | 8 => .array .int
  | 9 => .int
  | 10 => .int
  | _ => .int
abbrev wsX30 : List Cond := u_ws RX3 TX3 12
theorem nmX3 : ∀ a, a < 12 → ∀ b, b < 12 → a ≠ b → (TX3 a).2.1 ≠ (TX3 b).2.1 := by decide +kernel
theorem tyX3_ok : ∀ k, k < 12 → parseFieldDescriptor (TX3 k).2.2.1 = some (tyX3 k) := by decide +kernel
abbrev cX3_init : ByteArray := prog_5_method_1_code
def yX3_init : MethodName := ⟨RX3, "<init>", "()V"⟩
abbrev cX3_follow : ByteArray := prog_5_method_2_code
def yX3_follow : MethodName := ⟨RX3, "follow", "(LBellChairs$Chairs;LBellChairs$Players;I)V"⟩
abbrev cX3_begin : ByteArray := prog_5_method_3_code
def yX3_begin : MethodName := ⟨RX3, "begin", "(LBellChairs$Chairs;LBellChairs$Players;I)V"⟩
abbrev cX3_gropes : ByteArray := prog_5_method_4_code
def yX3_gropes : MethodName := ⟨RX3, "gropes", "(I)Z"⟩
abbrev cX3_sendOut : ByteArray := prog_5_method_5_code
def yX3_sendOut : MethodName := ⟨RX3, "sendOut", "(LBellChairs$Chairs;LBellChairs$Players;)V"⟩
abbrev cX3_takeAim : ByteArray := prog_5_method_6_code
def yX3_takeAim : MethodName := ⟨RX3, "takeAim", "(LBellChairs$Chairs;LBellChairs$Players;)V"⟩
abbrev cX3_sitDown : ByteArray := prog_5_method_7_code
def yX3_sitDown : MethodName := ⟨RX3, "sitDown", "(LBellChairs$Chairs;LBellChairs$Players;)V"⟩
abbrev cX3_nearest : ByteArray := prog_5_method_8_code
def yX3_nearest : MethodName := ⟨RX3, "nearest", "(LBellChairs$Players;I)I"⟩
abbrev cX3_bump : ByteArray := prog_5_method_9_code
def yX3_bump : MethodName := ⟨RX3, "bump", "(LBellChairs$Players;)V"⟩
abbrev cX3_ring : ByteArray := prog_5_method_10_code
def yX3_ring : MethodName := ⟨RX3, "ring", "(LBellChairs$Chairs;LBellChairs$Players;)V"⟩
abbrev cX3_settle : ByteArray := prog_5_method_11_code
def yX3_settle : MethodName := ⟨RX3, "settle", "(I)V"⟩
def RX4 : String := "BellChairs$History"
def TX4 : u_T := fun k => match k with
  | 0 => ("BellChairs$History", "states", "[LBellChairs$Game;", true)
  | 1 => ("BellChairs$History", "next", "I", false)
  | _ => ("BellChairs$History", "kept", "I", false)
def tyX4 : Nat → FieldType := fun k => match k with
  | 0 => .array (.object "BellChairs$Game")
  | 1 => .int
  | _ => .int
abbrev wsX40 : List Cond := u_ws RX4 TX4 3
theorem nmX4 : ∀ a, a < 3 → ∀ b, b < 3 → a ≠ b → (TX4 a).2.1 ≠ (TX4 b).2.1 := by decide +kernel
theorem tyX4_ok : ∀ k, k < 3 → parseFieldDescriptor (TX4 k).2.2.1 = some (tyX4 k) := by decide +kernel
abbrev cX4_init : ByteArray := prog_6_method_1_code
def yX4_init : MethodName := ⟨RX4, "<init>", "()V"⟩
abbrev cX4_prepare : ByteArray := prog_6_method_2_code
def yX4_prepare : MethodName := ⟨RX4, "prepare", "(LBellChairs$Game;)V"⟩
abbrev cX4_settle : ByteArray := prog_6_method_3_code
def yX4_settle : MethodName := ⟨RX4, "settle", "(I)I"⟩
abbrev cX4_goBack : ByteArray := prog_6_method_4_code
def yX4_goBack : MethodName := ⟨RX4, "goBack", "(LBellChairs$Game;)I"⟩
def RX5 : String := "BellChairs$Orders"
def TX5 : u_T := fun k => match k with
  | 0 => ("BellChairs$Orders", "trial", "LBellChairs$Game;", true)
  | 1 => ("BellChairs$Orders", "done", "I", false)
  | 2 => ("BellChairs$Orders", "position", "I", false)
  | 3 => ("BellChairs$Orders", "reason", "I", false)
  | 4 => ("BellChairs$Orders", "cause", "I", false)
  | 5 => ("BellChairs$Orders", "at", "I", false)
  | 6 => ("BellChairs$Orders", "kind", "I", false)
  | 7 => ("BellChairs$Orders", "first", "I", false)
  | _ => ("BellChairs$Orders", "second", "I", false)
def tyX5 : Nat → FieldType := fun k => match k with
  | 0 => .object "BellChairs$Game"
  | 1 => .int
  | 2 => .int
  | 3 => .int
  | 4 => .int
  | 5 => .int
  | 6 => .int
  | 7 => .int
  | _ => .int
abbrev wsX50 : List Cond := u_ws RX5 TX5 9
theorem nmX5 : ∀ a, a < 9 → ∀ b, b < 9 → a ≠ b → (TX5 a).2.1 ≠ (TX5 b).2.1 := by decide +kernel
theorem tyX5_ok : ∀ k, k < 9 → parseFieldDescriptor (TX5 k).2.2.1 = some (tyX5 k) := by decide +kernel
abbrev cX5_init : ByteArray := prog_7_method_1_code
def yX5_init : MethodName := ⟨RX5, "<init>", "()V"⟩
abbrev cX5_rehearse : ByteArray := prog_7_method_2_code
def yX5_rehearse : MethodName := ⟨RX5, "rehearse", "(LBellChairs$Text;LBellChairs$Game;LBellChairs$Grope;)V"⟩
abbrev cX5_judge : ByteArray := prog_7_method_3_code
def yX5_judge : MethodName := ⟨RX5, "judge", "(I)V"⟩
abbrev cX5_readOrder : ByteArray := prog_7_method_4_code
def yX5_readOrder : MethodName := ⟨RX5, "readOrder", "(LBellChairs$Text;)Z"⟩
abbrev cX5_passes : ByteArray := prog_7_method_5_code
def yX5_passes : MethodName := ⟨RX5, "passes", "(LBellChairs$Text;I)Z"⟩
abbrev cX5_readNumber : ByteArray := prog_7_method_6_code
def yX5_readNumber : MethodName := ⟨RX5, "readNumber", "(LBellChairs$Text;)I"⟩
def RX6 : String := "BellChairs$Players"
def TX6 : u_T := fun k => match k with
  | 0 => ("BellChairs$Players", "stride", "[I", true)
  | 1 => ("BellChairs$Players", "ear", "[I", true)
  | 2 => ("BellChairs$Players", "place", "[I", true)
  | 3 => ("BellChairs$Players", "sittings", "[I", true)
  | 4 => ("BellChairs$Players", "bumps", "[I", true)
  | 5 => ("BellChairs$Players", "steps", "[I", true)
  | 6 => ("BellChairs$Players", "outRound", "[I", true)
  | 7 => ("BellChairs$Players", "lastTick", "[I", true)
  | 8 => ("BellChairs$Players", "playing", "I", false)
  | _ => ("BellChairs$Players", "size", "I", false)
def tyX6 : Nat → FieldType := fun k => match k with
  | 0 => .array .int
  | 1 => .array .int
  | 2 => .array .int
  | 3 => .array .int
  | 4 => .array .int
  | 5 => .array .int
  | 6 => .array .int
  | 7 => .array .int
  | 8 => .int
  | _ => .int
abbrev wsX60 : List Cond := u_ws RX6 TX6 10
theorem nmX6 : ∀ a, a < 10 → ∀ b, b < 10 → a ≠ b → (TX6 a).2.1 ≠ (TX6 b).2.1 := by decide +kernel
theorem tyX6_ok : ∀ k, k < 10 → parseFieldDescriptor (TX6 k).2.2.1 = some (tyX6 k) := by decide +kernel
abbrev cX6_init : ByteArray := prog_8_method_1_code
def yX6_init : MethodName := ⟨RX6, "<init>", "()V"⟩
abbrev cX6_copyFrom : ByteArray := prog_8_method_2_code
def yX6_copyFrom : MethodName := ⟨RX6, "copyFrom", "(LBellChairs$Players;)V"⟩
abbrev cX6_has : ByteArray := prog_8_method_3_code
def yX6_has : MethodName := ⟨RX6, "has", "(I)Z"⟩
abbrev cX6_isPlaying : ByteArray := prog_8_method_4_code
def yX6_isPlaying : MethodName := ⟨RX6, "isPlaying", "(I)Z"⟩
abbrev cX6_hearsTone : ByteArray := prog_8_method_5_code
def yX6_hearsTone : MethodName := ⟨RX6, "hearsTone", "(II)Z"⟩
abbrev cX6_add : ByteArray := prog_8_method_6_code
def yX6_add : MethodName := ⟨RX6, "add", "(II)I"⟩
abbrev cX6_lineUp : ByteArray := prog_8_method_7_code
def yX6_lineUp : MethodName := ⟨RX6, "lineUp", "(LBellChairs$Chairs;)V"⟩
abbrev cX6_walk : ByteArray := prog_8_method_8_code
def yX6_walk : MethodName := ⟨RX6, "walk", "(LBellChairs$Chairs;I)V"⟩
abbrev cX6_leave : ByteArray := prog_8_method_9_code
def yX6_leave : MethodName := ⟨RX6, "leave", "(II)V"⟩
abbrev cX6_howManyPlay : ByteArray := prog_8_method_10_code
def yX6_howManyPlay : MethodName := ⟨RX6, "howManyPlay", "()I"⟩
abbrev cX6_firstPlaying : ByteArray := prog_8_method_11_code
def yX6_firstPlaying : MethodName := ⟨RX6, "firstPlaying", "()I"⟩
abbrev cX6_allSittings : ByteArray := prog_8_method_12_code
def yX6_allSittings : MethodName := ⟨RX6, "allSittings", "()I"⟩
abbrev cX6_allBumps : ByteArray := prog_8_method_13_code
def yX6_allBumps : MethodName := ⟨RX6, "allBumps", "()I"⟩
abbrev cX6_allSteps : ByteArray := prog_8_method_14_code
def yX6_allSteps : MethodName := ⟨RX6, "allSteps", "()I"⟩
abbrev cX6_sum : ByteArray := prog_8_method_15_code
def yX6_sum : MethodName := ⟨RX6, "sum", "([I)I"⟩
def RX7 : String := "BellChairs$Text"
def TX7 : u_T := fun k => match k with
  | 0 => ("BellChairs$Text", "signs", "[I", true)
  | _ => ("BellChairs$Text", "length", "I", false)
def tyX7 : Nat → FieldType := fun k => match k with
  | 0 => .array .int
  | _ => .int
abbrev wsX70 : List Cond := u_ws RX7 TX7 2
theorem nmX7 : ∀ a, a < 2 → ∀ b, b < 2 → a ≠ b → (TX7 a).2.1 ≠ (TX7 b).2.1 := by decide +kernel
theorem tyX7_ok : ∀ k, k < 2 → parseFieldDescriptor (TX7 k).2.2.1 = some (tyX7 k) := by decide +kernel
abbrev cX7_init : ByteArray := prog_9_method_1_code
def yX7_init : MethodName := ⟨RX7, "<init>", "()V"⟩
abbrev cX7_append : ByteArray := prog_9_method_2_code
def yX7_append : MethodName := ⟨RX7, "append", "(I)I"⟩
abbrev cX7_clear : ByteArray := prog_9_method_3_code
def yX7_clear : MethodName := ⟨RX7, "clear", "()I"⟩
abbrev cX7_signAt : ByteArray := prog_9_method_4_code
def yX7_signAt : MethodName := ⟨RX7, "signAt", "(I)I"⟩
def RX8 : String := "BellChairs"
def TX8 : u_T := fun k => match k with
  | 0 => ("BellChairs", "game", "LBellChairs$Game;", true)
  | 1 => ("BellChairs", "history", "LBellChairs$History;", true)
  | 2 => ("BellChairs", "grope", "LBellChairs$Grope;", true)
  | 3 => ("BellChairs", "text", "LBellChairs$Text;", true)
  | _ => ("BellChairs", "orders", "LBellChairs$Orders;", true)
def tyX8 : Nat → FieldType := fun k => match k with
  | 0 => .object "BellChairs$Game"
  | 1 => .object "BellChairs$History"
  | 2 => .object "BellChairs$Grope"
  | 3 => .object "BellChairs$Text"
  | _ => .object "BellChairs$Orders"
abbrev wsX80 : List Cond := u_ws RX8 TX8 5
theorem nmX8 : ∀ a, a < 5 → ∀ b, b < 5 → a ≠ b → (TX8 a).2.1 ≠ (TX8 b).2.1 := by decide +kernel
theorem tyX8_ok : ∀ k, k < 5 → parseFieldDescriptor (TX8 k).2.2.1 = some (tyX8 k) := by decide +kernel
abbrev cX8_init : ByteArray := prog_1_method_1_code
def yX8_init : MethodName := ⟨RX8, "<init>", "()V"⟩
abbrev cX8_chair : ByteArray := prog_1_method_2_code
def yX8_chair : MethodName := ⟨RX8, "chair", "(I)I"⟩
abbrev cX8_player : ByteArray := prog_1_method_3_code
def yX8_player : MethodName := ⟨RX8, "player", "(II)I"⟩
abbrev cX8_tune : ByteArray := prog_1_method_4_code
def yX8_tune : MethodName := ⟨RX8, "tune", "(II)I"⟩
abbrev cX8_train : ByteArray := prog_1_method_5_code
def yX8_train : MethodName := ⟨RX8, "train", "(III)I"⟩
abbrev cX8_start : ByteArray := prog_1_method_6_code
def yX8_start : MethodName := ⟨RX8, "start", "()I"⟩
abbrev cX8_beat : ByteArray := prog_1_method_7_code
def yX8_beat : MethodName := ⟨RX8, "beat", "(I)I"⟩
abbrev cX8_stop : ByteArray := prog_1_method_8_code
def yX8_stop : MethodName := ⟨RX8, "stop", "()I"⟩
abbrev cX8_set : ByteArray := prog_1_method_9_code
def yX8_set : MethodName := ⟨RX8, "set", "(II)I"⟩
abbrev cX8_chairOf : ByteArray := prog_1_method_10_code
def yX8_chairOf : MethodName := ⟨RX8, "chairOf", "(II)I"⟩
abbrev cX8_playerOf : ByteArray := prog_1_method_11_code
def yX8_playerOf : MethodName := ⟨RX8, "playerOf", "(II)I"⟩
abbrev cX8_hears : ByteArray := prog_1_method_12_code
def yX8_hears : MethodName := ⟨RX8, "hears", "(II)I"⟩
abbrev cX8_bell : ByteArray := prog_1_method_13_code
def yX8_bell : MethodName := ⟨RX8, "bell", "(II)I"⟩
abbrev cX8_ifStopped : ByteArray := prog_1_method_14_code
def yX8_ifStopped : MethodName := ⟨RX8, "ifStopped", "(II)I"⟩
abbrev cX8_outs : ByteArray := prog_1_method_15_code
def yX8_outs : MethodName := ⟨RX8, "outs", "()I"⟩
abbrev cX8_safeIn : ByteArray := prog_1_method_16_code
def yX8_safeIn : MethodName := ⟨RX8, "safeIn", "(I)I"⟩
abbrev cX8_mean : ByteArray := prog_1_method_17_code
def yX8_mean : MethodName := ⟨RX8, "mean", "()I"⟩
abbrev cX8_count : ByteArray := prog_1_method_18_code
def yX8_count : MethodName := ⟨RX8, "count", "(I)I"⟩
abbrev cX8_undo : ByteArray := prog_1_method_19_code
def yX8_undo : MethodName := ⟨RX8, "undo", "()I"⟩
abbrev cX8_type : ByteArray := prog_1_method_20_code
def yX8_type : MethodName := ⟨RX8, "type", "(I)I"⟩
abbrev cX8_clearText : ByteArray := prog_1_method_21_code
def yX8_clearText : MethodName := ⟨RX8, "clearText", "()I"⟩
abbrev cX8_fault : ByteArray := prog_1_method_22_code
def yX8_fault : MethodName := ⟨RX8, "fault", "(I)I"⟩
abbrev cX8_play : ByteArray := prog_1_method_23_code
def yX8_play : MethodName := ⟨RX8, "play", "()I"⟩
abbrev cX8_countBesidesTheGame : ByteArray := prog_1_method_24_code
def yX8_countBesidesTheGame : MethodName := ⟨RX8, "countBesidesTheGame", "(I)I"⟩
abbrev cX8_foundOrNot : ByteArray := prog_1_method_25_code
def yX8_foundOrNot : MethodName := ⟨RX8, "foundOrNot", "(ZI)I"⟩
abbrev cX8_isWithin : ByteArray := prog_1_method_26_code
def yX8_isWithin : MethodName := ⟨RX8, "isWithin", "(III)Z"⟩
abbrev cX8_bitsOf : ByteArray := prog_1_method_27_code
def yX8_bitsOf : MethodName := ⟨RX8, "bitsOf", "(F)I"⟩
def RX9 : String := "BellChairsModel"
def TX9 : u_T := fun k => match k with
  | _ => ("", "", "", false)
def tyX9 : Nat → FieldType := fun k => match k with
  | _ => .int
abbrev wsX90 : List Cond := u_ws RX9 TX9 0
theorem nmX9 : ∀ a, a < 0 → ∀ b, b < 0 → a ≠ b → (TX9 a).2.1 ≠ (TX9 b).2.1 := by decide +kernel
theorem tyX9_ok : ∀ k, k < 0 → parseFieldDescriptor (TX9 k).2.2.1 = some (tyX9 k) := by decide +kernel
def RJ6 : String := "java/lang/Integer"
abbrev cJ6_bitCount_0f7a4 : ByteArray := prog_12_method_49_code
def yJ6_bitCount_0f7a4 : MethodName := ⟨RJ6, "bitCount", "(I)I"⟩
def RJ9 : String := "java/lang/Math"
abbrev cJ9_max_7cf53 : ByteArray := prog_13_method_65_code
def yJ9_max_7cf53 : MethodName := ⟨RJ9, "max", "(II)I"⟩
abbrev cJ9_min_7cf53 : ByteArray := prog_13_method_69_code
def yJ9_min_7cf53 : MethodName := ⟨RJ9, "min", "(II)I"⟩
def RJ10 : String := "java/lang/System"
def RL : String := "BellChairsLaw"
abbrev cL_lot : ByteArray := method_2_code
def yL_lot : MethodName := ⟨RL, "lot", "([II)I"⟩
abbrev cL_low : ByteArray := method_3_code
def yL_low : MethodName := ⟨RL, "low", "(II)I"⟩
abbrev cL_look : ByteArray := method_4_code
def yL_look : MethodName := ⟨RL, "look", "(LBellChairs;)J"⟩
abbrev cL_ones : ByteArray := method_5_code
def yL_ones : MethodName := ⟨RL, "ones", "(I)I"⟩
abbrev cL_holds : ByteArray := method_6_code
def yL_holds : MethodName := ⟨RL, "holds", "(LBellChairs;)Z"⟩
abbrev cL_would : ByteArray := method_7_code
def yL_would : MethodName := ⟨RL, "would", "(LBellChairs;I)Z"⟩
abbrev cL_number : ByteArray := method_8_code
def yL_number : MethodName := ⟨RL, "number", "(LBellChairs;I)Z"⟩
abbrev cL_types : ByteArray := method_9_code
def yL_types : MethodName := ⟨RL, "types", "(LBellChairs;I)Z"⟩
abbrev cL_reads : ByteArray := method_10_code
def yL_reads : MethodName := ⟨RL, "reads", "(LBellChairs;I)Z"⟩
abbrev cL_music : ByteArray := method_11_code
def yL_music : MethodName := ⟨RL, "music", "(LBellChairs;II)Z"⟩
abbrev cL_acts : ByteArray := method_12_code
def yL_acts : MethodName := ⟨RL, "acts", "(LBellChairs;II)Z"⟩
abbrev cL_law : ByteArray := code
def yL_law : MethodName := ⟨RL, "law", "([I)Z"⟩
abbrev vwCl : List vw_C := [(RX0, TX0, 7), (RX1, TX1, 4), (RX2, TX2, 10), (RX3, TX3, 12), (RX4, TX4, 3), (RX5, TX5, 9), (RX6, TX6, 10), (RX7, TX7, 2), (RX8, TX8, 5)]
-- ===== code lists: (pc, instruction, length, resolved operand, second operand) =====
abbrev xK : Type := List (Nat × Jvm.ClassFile.Instr × Nat × Nat × Nat)
/-- owner number, is a constructor, result, locals, code -/
abbrev xM : Type := Nat × Bool × Option FieldType × Nat × xK
def x_own : Nat → String := fun k => match k with
  | 0 => RX0
  | 1 => RX1
  | 2 => RX2
  | 3 => RX3
  | 4 => RX4
  | 5 => RX5
  | 6 => RX6
  | 7 => RX7
  | 8 => RX8
  | 11 => RJ6
  | 12 => RJ9
  | _ => RL
def k_Bells_init : xK := [(0, .aload_n 0, 1, 0, 0), (1, .invokespecial 3, 3, 1000, 0), (4, .aload_n 0, 1, 0, 0), (5, .bipush 12, 2, 3, 0), (7, .newarray .int, 2, 0, 0), (9, .putfield 9, 3, 0, 0), 
  (12, .aload_n 0, 1, 0, 0), (13, .bipush 12, 2, 3, 0), (15, .newarray .int, 2, 0, 0), (17, .putfield 15, 3, 0, 1), (20, .aload_n 0, 1, 0, 0), (21, .bipush 12, 2, 3, 0), (23, .newarray .int, 2, 0, 0), 
  (25, .putfield 18, 3, 0, 2), (28, .aload_n 0, 1, 0, 0), (29, .bipush 12, 2, 3, 0), (31, .newarray .int, 2, 0, 0), (33, .putfield 21, 3, 0, 3), (36, .aload_n 0, 1, 0, 0), (37, .bipush 12, 2, 3, 0), 
  (39, .newarray .int, 2, 0, 0), (41, .putfield 24, 3, 0, 4), (44, .return_, 1, 0, 0)]
def m_Bells_init : xM := (0, true, none, 1, k_Bells_init)
abbrev i_Bells_init : Nat := 0
def k_Bells_copyFrom : xK := [(0, .aload_n 1, 1, 0, 0), (1, .getfield 9, 3, 0, 0), (4, .iconst 0, 1, 0, 0), (5, .aload_n 0, 1, 0, 0), (6, .getfield 9, 3, 0, 0), (9, .iconst 0, 1, 0, 0), 
  (10, .bipush 12, 2, 3, 0), (12, .invokestatic 27, 3, 1001, 0), (15, .aload_n 1, 1, 0, 0), (16, .getfield 15, 3, 0, 1), (19, .iconst 0, 1, 0, 0), (20, .aload_n 0, 1, 0, 0), (21, .getfield 15, 3, 0, 1), 
  (24, .iconst 0, 1, 0, 0), (25, .bipush 12, 2, 3, 0), (27, .invokestatic 27, 3, 1001, 0), (30, .aload_n 1, 1, 0, 0), (31, .getfield 18, 3, 0, 2), (34, .iconst 0, 1, 0, 0), (35, .aload_n 0, 1, 0, 0), 
  (36, .getfield 18, 3, 0, 2), (39, .iconst 0, 1, 0, 0), (40, .bipush 12, 2, 3, 0), (42, .invokestatic 27, 3, 1001, 0), (45, .aload_n 1, 1, 0, 0), (46, .getfield 21, 3, 0, 3), (49, .iconst 0, 1, 0, 0), 
  (50, .aload_n 0, 1, 0, 0), (51, .getfield 21, 3, 0, 3), (54, .iconst 0, 1, 0, 0), (55, .bipush 12, 2, 3, 0), (57, .invokestatic 27, 3, 1001, 0), (60, .aload_n 1, 1, 0, 0), (61, .getfield 24, 3, 0, 4), 
  (64, .iconst 0, 1, 0, 0), (65, .aload_n 0, 1, 0, 0), (66, .getfield 24, 3, 0, 4), (69, .iconst 0, 1, 0, 0), (70, .bipush 12, 2, 3, 0), (72, .invokestatic 27, 3, 1001, 0), (75, .aload_n 0, 1, 0, 0), 
  (76, .aload_n 1, 1, 0, 0), (77, .getfield 33, 3, 0, 5), (80, .putfield 33, 3, 0, 5), (83, .aload_n 0, 1, 0, 0), (84, .aload_n 1, 1, 0, 0), (85, .getfield 37, 3, 0, 6), (88, .putfield 37, 3, 0, 6), 
  (91, .return_, 1, 0, 0)]
def m_Bells_copyFrom : xM := (0, false, none, 2, k_Bells_copyFrom)
abbrev i_Bells_copyFrom : Nat := 1
def k_Bells_ring : xK := [(0, .aload_n 0, 1, 0, 0), (1, .getfield 9, 3, 0, 0), (4, .aload_n 0, 1, 0, 0), (5, .getfield 33, 3, 0, 5), (8, .iload_n 1, 1, 0, 0), (9, .iastore, 1, 0, 0), 
  (10, .aload_n 0, 1, 0, 0), (11, .getfield 15, 3, 0, 1), (14, .aload_n 0, 1, 0, 0), (15, .getfield 33, 3, 0, 5), (18, .iload_n 2, 1, 0, 0), (19, .iastore, 1, 0, 0), (20, .aload_n 0, 1, 0, 0), 
  (21, .getfield 18, 3, 0, 2), (24, .aload_n 0, 1, 0, 0), (25, .getfield 33, 3, 0, 5), (28, .iload_n 3, 1, 0, 0), (29, .iastore, 1, 0, 0), (30, .aload_n 0, 1, 0, 0), (31, .getfield 21, 3, 0, 3), 
  (34, .aload_n 0, 1, 0, 0), (35, .getfield 33, 3, 0, 5), (38, .iload 4, 2, 0, 0), (40, .iastore, 1, 0, 0), (41, .aload_n 0, 1, 0, 0), (42, .getfield 24, 3, 0, 4), (45, .aload_n 0, 1, 0, 0), 
  (46, .getfield 33, 3, 0, 5), (49, .iload 5, 2, 0, 0), (51, .iastore, 1, 0, 0), (52, .aload_n 0, 1, 0, 0), (53, .aload_n 0, 1, 0, 0), (54, .getfield 33, 3, 0, 5), (57, .iconst 1, 1, 1, 0), 
  (58, .iadd, 1, 0, 0), (59, .bipush 12, 2, 3, 0), (61, .irem, 1, 0, 0), (62, .putfield 33, 3, 0, 5), (65, .aload_n 0, 1, 0, 0), (66, .aload_n 0, 1, 0, 0), (67, .getfield 37, 3, 0, 6), 
  (70, .iconst 1, 1, 1, 0), (71, .iadd, 1, 0, 0), (72, .bipush 12, 2, 3, 0), (74, .invokestatic 40, 3, 97, 2), (77, .putfield 37, 3, 0, 6), (80, .return_, 1, 0, 0)]
def m_Bells_ring : xM := (0, false, none, 6, k_Bells_ring)
abbrev i_Bells_ring : Nat := 2
def k_Bells_rowOf : xK := [(0, .aload_n 0, 1, 0, 0), (1, .getfield 33, 3, 0, 5), (4, .bipush 12, 2, 3, 0), (6, .iadd, 1, 0, 0), (7, .iconst 1, 1, 1, 0), (8, .isub, 1, 0, 0), (9, .iload_n 1, 1, 0, 0), 
  (10, .isub, 1, 0, 0), (11, .bipush 12, 2, 3, 0), (13, .irem, 1, 0, 0), (14, .ireturn, 1, 0, 0)]
def m_Bells_rowOf : xM := (0, false, (some .int), 2, k_Bells_rowOf)
abbrev i_Bells_rowOf : Nat := 3
def k_Chairs_init : xK := [(0, .aload_n 0, 1, 0, 0), (1, .invokespecial 3, 3, 1000, 0), (4, .aload_n 0, 1, 0, 0), (5, .bipush 16, 2, 9, 0), (7, .newarray .int, 2, 0, 0), (9, .putfield 9, 3, 1, 0), 
  (12, .aload_n 0, 1, 0, 0), (13, .bipush 16, 2, 9, 0), (15, .newarray .int, 2, 0, 0), (17, .putfield 15, 3, 1, 1), (20, .aload_n 0, 1, 0, 0), (21, .bipush 16, 2, 9, 0), (23, .newarray .int, 2, 0, 0), 
  (25, .putfield 18, 3, 1, 2), (28, .return_, 1, 0, 0)]
def m_Chairs_init : xM := (1, true, none, 1, k_Chairs_init)
abbrev i_Chairs_init : Nat := 4
def k_Chairs_copyFrom : xK := [(0, .aload_n 1, 1, 0, 0), (1, .getfield 9, 3, 1, 0), (4, .iconst 0, 1, 0, 0), (5, .aload_n 0, 1, 0, 0), (6, .getfield 9, 3, 1, 0), (9, .iconst 0, 1, 0, 0), 
  (10, .bipush 16, 2, 9, 0), (12, .invokestatic 21, 3, 1001, 0), (15, .aload_n 1, 1, 0, 0), (16, .getfield 15, 3, 1, 1), (19, .iconst 0, 1, 0, 0), (20, .aload_n 0, 1, 0, 0), (21, .getfield 15, 3, 1, 1), 
  (24, .iconst 0, 1, 0, 0), (25, .bipush 16, 2, 9, 0), (27, .invokestatic 21, 3, 1001, 0), (30, .aload_n 1, 1, 0, 0), (31, .getfield 18, 3, 1, 2), (34, .iconst 0, 1, 0, 0), (35, .aload_n 0, 1, 0, 0), 
  (36, .getfield 18, 3, 1, 2), (39, .iconst 0, 1, 0, 0), (40, .bipush 16, 2, 9, 0), (42, .invokestatic 21, 3, 1001, 0), (45, .aload_n 0, 1, 0, 0), (46, .aload_n 1, 1, 0, 0), (47, .getfield 27, 3, 1, 3), 
  (50, .putfield 27, 3, 1, 3), (53, .return_, 1, 0, 0)]
def m_Chairs_copyFrom : xM := (1, false, none, 2, k_Chairs_copyFrom)
abbrev i_Chairs_copyFrom : Nat := 5
def k_Chairs_has : xK := [(0, .iload_n 1, 1, 0, 0), (1, .ifCond .lt 15, 3, 16, 0), (4, .iload_n 1, 1, 0, 0), (5, .aload_n 0, 1, 0, 0), (6, .getfield 27, 3, 1, 3), (9, .if_icmp .ge 7, 3, 16, 0), 
  (12, .iconst 1, 1, 1, 0), (13, .goto 4, 3, 17, 0), (16, .iconst 0, 1, 0, 0), (17, .ireturn, 1, 0, 0)]
def m_Chairs_has : xM := (1, false, (some .boolean), 2, k_Chairs_has)
abbrev i_Chairs_has : Nat := 6
def k_Chairs_add : xK := [(0, .aload_n 0, 1, 0, 0), (1, .getfield 27, 3, 1, 3), (4, .bipush 16, 2, 9, 0), (6, .if_icmp .lt 6, 3, 12, 0), (9, .ldc 31, 2, 52, 0), (11, .ireturn, 1, 0, 0), 
  (12, .aload_n 0, 1, 0, 0), (13, .getfield 9, 3, 1, 0), (16, .aload_n 0, 1, 0, 0), (17, .getfield 27, 3, 1, 3), (20, .iload_n 1, 1, 0, 0), (21, .iastore, 1, 0, 0), (22, .aload_n 0, 1, 0, 0), 
  (23, .getfield 15, 3, 1, 1), (26, .aload_n 0, 1, 0, 0), (27, .getfield 27, 3, 1, 3), (30, .iconst 0, 1, 0, 0), (31, .iastore, 1, 0, 0), (32, .aload_n 0, 1, 0, 0), (33, .getfield 18, 3, 1, 2), 
  (36, .aload_n 0, 1, 0, 0), (37, .getfield 27, 3, 1, 3), (40, .iconst (-1), 1, 5, 0), (41, .iastore, 1, 0, 0), (42, .aload_n 0, 1, 0, 0), (43, .dup, 1, 0, 0), (44, .getfield 27, 3, 1, 3), 
  (47, .iconst 1, 1, 1, 0), (48, .iadd, 1, 0, 0), (49, .putfield 27, 3, 1, 3), (52, .aload_n 0, 1, 0, 0), (53, .getfield 27, 3, 1, 3), (56, .iconst 1, 1, 1, 0), (57, .isub, 1, 0, 0), 
  (58, .ireturn, 1, 0, 0)]
def m_Chairs_add : xM := (1, false, (some .int), 2, k_Chairs_add)
abbrev i_Chairs_add : Nat := 7
def k_Chairs_onFrom : xK := [(0, .aload_n 0, 1, 0, 0), (1, .getfield 27, 3, 1, 3), (4, .iconst 1, 1, 1, 0), (5, .if_icmp .ge 7, 3, 12, 0), (8, .iconst 0, 1, 0, 0), (9, .goto 11, 3, 20, 0), 
  (12, .iload_n 1, 1, 0, 0), (13, .iload_n 2, 1, 0, 0), (14, .iadd, 1, 0, 0), (15, .aload_n 0, 1, 0, 0), (16, .getfield 27, 3, 1, 3), (19, .irem, 1, 0, 0), (20, .ireturn, 1, 0, 0)]
def m_Chairs_onFrom : xM := (1, false, (some .int), 3, k_Chairs_onFrom)
abbrev i_Chairs_onFrom : Nat := 8
def k_Chairs_forgetSitters : xK := [(0, .iconst 0, 1, 0, 0), (1, .istore_n 1, 1, 0, 0), (2, .iload_n 1, 1, 0, 0), (3, .aload_n 0, 1, 0, 0), (4, .getfield 27, 3, 1, 3), (7, .if_icmp .ge 16, 3, 23, 0), 
  (10, .aload_n 0, 1, 0, 0), (11, .getfield 18, 3, 1, 2), (14, .iload_n 1, 1, 0, 0), (15, .iconst (-1), 1, 5, 0), (16, .iastore, 1, 0, 0), (17, .iinc 1 1, 3, 1, 0), (20, .goto (-18), 3, 2, 0), 
  (23, .return_, 1, 0, 0)]
def m_Chairs_forgetSitters : xM := (1, false, none, 2, k_Chairs_forgetSitters)
abbrev i_Chairs_forgetSitters : Nat := 9
def k_Chairs_seat : xK := [(0, .aload_n 0, 1, 0, 0), (1, .getfield 18, 3, 1, 2), (4, .iload_n 1, 1, 0, 0), (5, .iload_n 2, 1, 0, 0), (6, .iastore, 1, 0, 0), (7, .aload_n 0, 1, 0, 0), 
  (8, .getfield 15, 3, 1, 1), (11, .iload_n 1, 1, 0, 0), (12, .dup2, 1, 0, 0), (13, .iaload, 1, 0, 0), (14, .iconst 1, 1, 1, 0), (15, .iadd, 1, 0, 0), (16, .iastore, 1, 0, 0), (17, .return_, 1, 0, 0)]
def m_Chairs_seat : xM := (1, false, none, 3, k_Chairs_seat)
abbrev i_Chairs_seat : Nat := 10
def k_Chairs_leaveOnly : xK := [(0, .iconst 0, 1, 0, 0), (1, .istore_n 2, 1, 0, 0), (2, .iconst 0, 1, 0, 0), (3, .istore_n 3, 1, 0, 0), (4, .iload_n 3, 1, 0, 0), (5, .bipush 16, 2, 9, 0), 
  (7, .if_icmp .ge 28, 3, 35, 0), (10, .aload_n 0, 1, 0, 0), (11, .getfield 27, 3, 1, 3), (14, .iload_n 1, 1, 0, 0), (15, .if_icmp .le 20, 3, 35, 0), (18, .aload_n 0, 1, 0, 0), (19, .aload_n 0, 1, 0, 0), 
  (20, .invokevirtual 32, 3, 12, 0), (23, .invokevirtual 36, 3, 13, 1), (26, .iinc 2 1, 3, 1, 0), (29, .iinc 3 1, 3, 1, 0), (32, .goto (-28), 3, 4, 0), (35, .iload_n 2, 1, 0, 0), (36, .ireturn, 1, 0, 0)]
def m_Chairs_leaveOnly : xM := (1, false, (some .int), 4, k_Chairs_leaveOnly)
abbrev i_Chairs_leaveOnly : Nat := 11
def k_Chairs_mostWorn : xK := [(0, .iconst 0, 1, 0, 0), (1, .istore_n 1, 1, 0, 0), (2, .iconst 1, 1, 1, 0), (3, .istore_n 2, 1, 0, 0), (4, .iload_n 2, 1, 0, 0), (5, .aload_n 0, 1, 0, 0), 
  (6, .getfield 27, 3, 1, 3), (9, .if_icmp .ge 26, 3, 35, 0), (12, .aload_n 0, 1, 0, 0), (13, .getfield 15, 3, 1, 1), (16, .iload_n 2, 1, 0, 0), (17, .iaload, 1, 0, 0), (18, .aload_n 0, 1, 0, 0), 
  (19, .getfield 15, 3, 1, 1), (22, .iload_n 1, 1, 0, 0), (23, .iaload, 1, 0, 0), (24, .if_icmp .lt 5, 3, 29, 0), (27, .iload_n 2, 1, 0, 0), (28, .istore_n 1, 1, 0, 0), (29, .iinc 2 1, 3, 1, 0), 
  (32, .goto (-28), 3, 4, 0), (35, .iload_n 1, 1, 0, 0), (36, .ireturn, 1, 0, 0)]
def m_Chairs_mostWorn : xM := (1, false, (some .int), 3, k_Chairs_mostWorn)
abbrev i_Chairs_mostWorn : Nat := 12
def k_Chairs_takeAway : xK := [(0, .iload_n 1, 1, 0, 0), (1, .istore_n 2, 1, 0, 0), (2, .iload_n 2, 1, 0, 0), (3, .aload_n 0, 1, 0, 0), (4, .getfield 27, 3, 1, 3), (7, .iconst 1, 1, 1, 0), 
  (8, .isub, 1, 0, 0), (9, .if_icmp .ge 51, 3, 60, 0), (12, .aload_n 0, 1, 0, 0), (13, .getfield 9, 3, 1, 0), (16, .iload_n 2, 1, 0, 0), (17, .aload_n 0, 1, 0, 0), (18, .getfield 9, 3, 1, 0), 
  (21, .iload_n 2, 1, 0, 0), (22, .iconst 1, 1, 1, 0), (23, .iadd, 1, 0, 0), (24, .iaload, 1, 0, 0), (25, .iastore, 1, 0, 0), (26, .aload_n 0, 1, 0, 0), (27, .getfield 15, 3, 1, 1), 
  (30, .iload_n 2, 1, 0, 0), (31, .aload_n 0, 1, 0, 0), (32, .getfield 15, 3, 1, 1), (35, .iload_n 2, 1, 0, 0), (36, .iconst 1, 1, 1, 0), (37, .iadd, 1, 0, 0), (38, .iaload, 1, 0, 0), 
  (39, .iastore, 1, 0, 0), (40, .aload_n 0, 1, 0, 0), (41, .getfield 18, 3, 1, 2), (44, .iload_n 2, 1, 0, 0), (45, .aload_n 0, 1, 0, 0), (46, .getfield 18, 3, 1, 2), (49, .iload_n 2, 1, 0, 0), 
  (50, .iconst 1, 1, 1, 0), (51, .iadd, 1, 0, 0), (52, .iaload, 1, 0, 0), (53, .iastore, 1, 0, 0), (54, .iinc 2 1, 3, 1, 0), (57, .goto (-55), 3, 2, 0), (60, .aload_n 0, 1, 0, 0), (61, .dup, 1, 0, 0), 
  (62, .getfield 27, 3, 1, 3), (65, .iconst 1, 1, 1, 0), (66, .isub, 1, 0, 0), (67, .putfield 27, 3, 1, 3), (70, .return_, 1, 0, 0)]
def m_Chairs_takeAway : xM := (1, false, none, 3, k_Chairs_takeAway)
abbrev i_Chairs_takeAway : Nat := 13
def k_Game_init : xK := [(0, .aload_n 0, 1, 0, 0), (1, .invokespecial 3, 3, 1000, 0), (4, .aload_n 0, 1, 0, 0), (5, .new 9, 3, 1, 0), (8, .dup, 1, 0, 0), (9, .invokespecial 11, 3, 4, 0), 
  (12, .putfield 12, 3, 2, 0), (15, .aload_n 0, 1, 0, 0), (16, .new 18, 3, 6, 0), (19, .dup, 1, 0, 0), (20, .invokespecial 20, 3, 49, 0), (23, .putfield 21, 3, 2, 1), (26, .aload_n 0, 1, 0, 0), 
  (27, .new 25, 3, 0, 0), (30, .dup, 1, 0, 0), (31, .invokespecial 27, 3, 0, 0), (34, .putfield 28, 3, 2, 2), (37, .aload_n 0, 1, 0, 0), (38, .iconst 0, 1, 0, 0), (39, .putfield 32, 3, 2, 3), 
  (42, .aload_n 0, 1, 0, 0), (43, .iconst 1, 1, 1, 0), (44, .putfield 36, 3, 2, 4), (47, .return_, 1, 0, 0)]
def m_Game_init : xM := (2, true, none, 1, k_Game_init)
abbrev i_Game_init : Nat := 14
def k_Game_copyFrom : xK := [(0, .aload_n 0, 1, 0, 0), (1, .getfield 12, 3, 2, 0), (4, .aload_n 1, 1, 0, 0), (5, .getfield 12, 3, 2, 0), (8, .invokevirtual 39, 3, 5, 1), (11, .aload_n 0, 1, 0, 0), 
  (12, .getfield 21, 3, 2, 1), (15, .aload_n 1, 1, 0, 0), (16, .getfield 21, 3, 2, 1), (19, .invokevirtual 43, 3, 50, 1), (22, .aload_n 0, 1, 0, 0), (23, .getfield 28, 3, 2, 2), (26, .aload_n 1, 1, 0, 0), 
  (27, .getfield 28, 3, 2, 2), (30, .invokevirtual 46, 3, 1, 1), (33, .aload_n 0, 1, 0, 0), (34, .aload_n 1, 1, 0, 0), (35, .getfield 32, 3, 2, 3), (38, .putfield 32, 3, 2, 3), (41, .aload_n 0, 1, 0, 0), 
  (42, .aload_n 1, 1, 0, 0), (43, .getfield 36, 3, 2, 4), (46, .putfield 36, 3, 2, 4), (49, .aload_n 0, 1, 0, 0), (50, .aload_n 1, 1, 0, 0), (51, .getfield 49, 3, 2, 5), (54, .putfield 49, 3, 2, 5), 
  (57, .aload_n 0, 1, 0, 0), (58, .aload_n 1, 1, 0, 0), (59, .getfield 52, 3, 2, 6), (62, .putfield 52, 3, 2, 6), (65, .aload_n 0, 1, 0, 0), (66, .aload_n 1, 1, 0, 0), (67, .getfield 55, 3, 2, 7), 
  (70, .putfield 55, 3, 2, 7), (73, .aload_n 0, 1, 0, 0), (74, .aload_n 1, 1, 0, 0), (75, .getfield 58, 3, 2, 8), (78, .putfield 58, 3, 2, 8), (81, .aload_n 0, 1, 0, 0), (82, .aload_n 1, 1, 0, 0), 
  (83, .getfield 61, 3, 2, 9), (86, .putfield 61, 3, 2, 9), (89, .return_, 1, 0, 0)]
def m_Game_copyFrom : xM := (2, false, none, 2, k_Game_copyFrom)
abbrev i_Game_copyFrom : Nat := 15
def k_Game_addChair : xK := [(0, .iload_n 1, 1, 0, 0), (1, .iconst 0, 1, 0, 0), (2, .bipush 8, 2, 8, 0), (4, .invokestatic 64, 3, 93, 3), (7, .ifCond .ne 6, 3, 13, 0), (10, .ldc 68, 2, 53, 0), 
  (12, .ireturn, 1, 0, 0), (13, .aload_n 0, 1, 0, 0), (14, .getfield 32, 3, 2, 3), (17, .ifCond .ne 14, 3, 31, 0), (20, .aload_n 0, 1, 0, 0), (21, .getfield 12, 3, 2, 0), (24, .iload_n 1, 1, 0, 0), 
  (25, .invokevirtual 69, 3, 7, 1), (28, .goto 5, 3, 33, 0), (31, .ldc 73, 2, 54, 0), (33, .ireturn, 1, 0, 0)]
def m_Game_addChair : xM := (2, false, (some .int), 2, k_Game_addChair)
abbrev i_Game_addChair : Nat := 16
def k_Game_addPlayer : xK := [(0, .iload_n 1, 1, 0, 0), (1, .iconst 0, 1, 0, 0), (2, .bipush 9, 2, 12, 0), (4, .invokestatic 64, 3, 93, 3), (7, .ifCond .eq 14, 3, 21, 0), (10, .iload_n 2, 1, 0, 0), 
  (11, .iconst 0, 1, 0, 0), (12, .sipush 511, 3, 20, 0), (15, .invokestatic 64, 3, 93, 3), (18, .ifCond .ne 6, 3, 24, 0), (21, .ldc 68, 2, 53, 0), (23, .ireturn, 1, 0, 0), (24, .aload_n 0, 1, 0, 0), 
  (25, .getfield 32, 3, 2, 3), (28, .ifCond .ne 15, 3, 43, 0), (31, .aload_n 0, 1, 0, 0), (32, .getfield 21, 3, 2, 1), (35, .iload_n 1, 1, 0, 0), (36, .iload_n 2, 1, 0, 0), (37, .invokevirtual 74, 3, 54, 2), 
  (40, .goto 5, 3, 45, 0), (43, .ldc 73, 2, 54, 0), (45, .ireturn, 1, 0, 0)]
def m_Game_addPlayer : xM := (2, false, (some .int), 3, k_Game_addPlayer)
abbrev i_Game_addPlayer : Nat := 17
def k_Game_retune : xK := [(0, .aload_n 0, 1, 0, 0), (1, .getfield 12, 3, 2, 0), (4, .iload_n 1, 1, 0, 0), (5, .invokevirtual 77, 3, 6, 1), (8, .ifCond .eq 13, 3, 21, 0), (11, .iload_n 2, 1, 0, 0), 
  (12, .iconst 0, 1, 0, 0), (13, .bipush 8, 2, 8, 0), (15, .invokestatic 64, 3, 93, 3), (18, .ifCond .ne 6, 3, 24, 0), (21, .ldc 68, 2, 53, 0), (23, .ireturn, 1, 0, 0), (24, .aload_n 0, 1, 0, 0), 
  (25, .getfield 12, 3, 2, 0), (28, .getfield 81, 3, 1, 0), (31, .iload_n 1, 1, 0, 0), (32, .iaload, 1, 0, 0), (33, .istore_n 3, 1, 0, 0), (34, .aload_n 0, 1, 0, 0), (35, .getfield 12, 3, 2, 0), 
  (38, .getfield 81, 3, 1, 0), (41, .iload_n 1, 1, 0, 0), (42, .iload_n 2, 1, 0, 0), (43, .iastore, 1, 0, 0), (44, .iload_n 3, 1, 0, 0), (45, .ireturn, 1, 0, 0)]
def m_Game_retune : xM := (2, false, (some .int), 4, k_Game_retune)
abbrev i_Game_retune : Nat := 18
def k_Game_retrain : xK := [(0, .aload_n 0, 1, 0, 0), (1, .getfield 21, 3, 2, 1), (4, .iload_n 1, 1, 0, 0), (5, .invokevirtual 85, 3, 51, 1), (8, .ifCond .eq 24, 3, 32, 0), (11, .iload_n 2, 1, 0, 0), 
  (12, .iconst 0, 1, 0, 0), (13, .bipush 9, 2, 12, 0), (15, .invokestatic 64, 3, 93, 3), (18, .ifCond .eq 14, 3, 32, 0), (21, .iload_n 3, 1, 0, 0), (22, .iconst 0, 1, 0, 0), (23, .sipush 511, 3, 20, 0), 
  (26, .invokestatic 64, 3, 93, 3), (29, .ifCond .ne 6, 3, 35, 0), (32, .ldc 68, 2, 53, 0), (34, .ireturn, 1, 0, 0), (35, .aload_n 0, 1, 0, 0), (36, .getfield 21, 3, 2, 1), (39, .getfield 86, 3, 6, 1), 
  (42, .iload_n 1, 1, 0, 0), (43, .iaload, 1, 0, 0), (44, .istore 4, 2, 0, 0), (46, .aload_n 0, 1, 0, 0), (47, .getfield 21, 3, 2, 1), (50, .getfield 89, 3, 6, 0), (53, .iload_n 1, 1, 0, 0), 
  (54, .iload_n 2, 1, 0, 0), (55, .iastore, 1, 0, 0), (56, .aload_n 0, 1, 0, 0), (57, .getfield 21, 3, 2, 1), (60, .getfield 86, 3, 6, 1), (63, .iload_n 1, 1, 0, 0), (64, .iload_n 3, 1, 0, 0), 
  (65, .iastore, 1, 0, 0), (66, .iload 4, 2, 0, 0), (68, .ireturn, 1, 0, 0)]
def m_Game_retrain : xM := (2, false, (some .int), 5, k_Game_retrain)
abbrev i_Game_retrain : Nat := 19
def k_Game_startMusic : xK := [(0, .aload_n 0, 1, 0, 0), (1, .getfield 21, 3, 2, 1), (4, .invokevirtual 92, 3, 58, 0), (7, .istore_n 1, 1, 0, 0), (8, .aload_n 0, 1, 0, 0), (9, .getfield 32, 3, 2, 3), 
  (12, .ifCond .ne 25, 3, 37, 0), (15, .aload_n 0, 1, 0, 0), (16, .getfield 12, 3, 2, 0), (19, .getfield 96, 3, 1, 3), (22, .iconst 1, 1, 1, 0), (23, .if_icmp .lt 14, 3, 37, 0), (26, .iload_n 1, 1, 0, 0), 
  (27, .aload_n 0, 1, 0, 0), (28, .getfield 12, 3, 2, 0), (31, .getfield 96, 3, 1, 3), (34, .if_icmp .gt 6, 3, 40, 0), (37, .ldc 73, 2, 54, 0), (39, .ireturn, 1, 0, 0), (40, .aload_n 0, 1, 0, 0), 
  (41, .iconst 1, 1, 1, 0), (42, .putfield 32, 3, 2, 3), (45, .aload_n 0, 1, 0, 0), (46, .getfield 12, 3, 2, 0), (49, .invokevirtual 99, 3, 9, 0), (52, .aload_n 0, 1, 0, 0), (53, .getfield 21, 3, 2, 1), 
  (56, .aload_n 0, 1, 0, 0), (57, .getfield 12, 3, 2, 0), (60, .invokevirtual 102, 3, 55, 1), (63, .iload_n 1, 1, 0, 0), (64, .ireturn, 1, 0, 0)]
def m_Game_startMusic : xM := (2, false, (some .int), 2, k_Game_startMusic)
abbrev i_Game_startMusic : Nat := 20
def k_Game_walk : xK := [(0, .iload_n 1, 1, 0, 0), (1, .iconst 1, 1, 1, 0), (2, .bipush 99, 2, 21, 0), (4, .invokestatic 64, 3, 93, 3), (7, .ifCond .ne 6, 3, 13, 0), (10, .ldc 68, 2, 53, 0), 
  (12, .ireturn, 1, 0, 0), (13, .aload_n 0, 1, 0, 0), (14, .getfield 32, 3, 2, 3), (17, .iconst 1, 1, 1, 0), (18, .if_icmp .eq 6, 3, 24, 0), (21, .ldc 73, 2, 54, 0), (23, .ireturn, 1, 0, 0), 
  (24, .aload_n 0, 1, 0, 0), (25, .getfield 52, 3, 2, 6), (28, .iload_n 1, 1, 0, 0), (29, .iadd, 1, 0, 0), (30, .sipush 999, 3, 22, 0), (33, .if_icmp .le 6, 3, 39, 0), (36, .ldc 105, 2, 52, 0), 
  (38, .ireturn, 1, 0, 0), (39, .aload_n 0, 1, 0, 0), (40, .dup, 1, 0, 0), (41, .getfield 52, 3, 2, 6), (44, .iload_n 1, 1, 0, 0), (45, .iadd, 1, 0, 0), (46, .putfield 52, 3, 2, 6), 
  (49, .aload_n 0, 1, 0, 0), (50, .getfield 21, 3, 2, 1), (53, .aload_n 0, 1, 0, 0), (54, .getfield 12, 3, 2, 0), (57, .iload_n 1, 1, 0, 0), (58, .invokevirtual 106, 3, 56, 2), (61, .aload_n 0, 1, 0, 0), 
  (62, .getfield 52, 3, 2, 6), (65, .ireturn, 1, 0, 0)]
def m_Game_walk : xM := (2, false, (some .int), 2, k_Game_walk)
abbrev i_Game_walk : Nat := 21
def k_Game_stopMusic : xK := [(0, .aload_n 0, 1, 0, 0), (1, .getfield 32, 3, 2, 3), (4, .iconst 1, 1, 1, 0), (5, .if_icmp .eq 6, 3, 11, 0), (8, .ldc 73, 2, 54, 0), (10, .ireturn, 1, 0, 0), 
  (11, .aload_n 1, 1, 0, 0), (12, .aload_n 0, 1, 0, 0), (13, .getfield 12, 3, 2, 0), (16, .aload_n 0, 1, 0, 0), (17, .getfield 21, 3, 2, 1), (20, .iconst 0, 1, 0, 0), (21, .invokevirtual 110, 3, 29, 3), 
  (24, .aload_n 0, 1, 0, 0), (25, .dup, 1, 0, 0), (26, .getfield 49, 3, 2, 5), (29, .iconst 1, 1, 1, 0), (30, .iadd, 1, 0, 0), (31, .putfield 49, 3, 2, 5), (34, .aload_n 0, 1, 0, 0), 
  (35, .iconst 0, 1, 0, 0), (36, .putfield 52, 3, 2, 6), (39, .aload_n 0, 1, 0, 0), (40, .dup, 1, 0, 0), (41, .getfield 55, 3, 2, 7), (44, .aload_n 1, 1, 0, 0), (45, .getfield 116, 3, 3, 11), 
  (48, .iadd, 1, 0, 0), (49, .putfield 55, 3, 2, 7), (52, .aload_n 0, 1, 0, 0), (53, .dup, 1, 0, 0), (54, .getfield 61, 3, 2, 9), (57, .aload_n 0, 1, 0, 0), (58, .getfield 21, 3, 2, 1), 
  (61, .invokevirtual 92, 3, 58, 0), (64, .aload_n 0, 1, 0, 0), (65, .getfield 12, 3, 2, 0), (68, .getfield 96, 3, 1, 3), (71, .isub, 1, 0, 0), (72, .iadd, 1, 0, 0), (73, .putfield 61, 3, 2, 9), 
  (76, .aload_n 0, 1, 0, 0), (77, .aload_n 1, 1, 0, 0), (78, .invokevirtual 117, 3, 25, 1), (81, .aload_n 0, 1, 0, 0), (82, .aload_n 1, 1, 0, 0), (83, .invokevirtual 121, 3, 26, 1), 
  (86, .aload_n 0, 1, 0, 0), (87, .invokevirtual 124, 3, 27, 0), (90, .aload_n 1, 1, 0, 0), (91, .getfield 127, 3, 3, 10), (94, .ireturn, 1, 0, 0)]
def m_Game_stopMusic : xM := (2, false, (some .int), 2, k_Game_stopMusic)
abbrev i_Game_stopMusic : Nat := 22
def k_Game_choose : xK := [(0, .iload_n 1, 1, 0, 0), (1, .ifCond .ne 12, 3, 13, 0), (4, .iload_n 2, 1, 0, 0), (5, .iconst 1, 1, 1, 0), (6, .iconst 3, 1, 7, 0), (7, .invokestatic 64, 3, 93, 3), 
  (10, .ifCond .ne 6, 3, 16, 0), (13, .ldc 68, 2, 53, 0), (15, .ireturn, 1, 0, 0), (16, .aload_n 0, 1, 0, 0), (17, .getfield 36, 3, 2, 4), (20, .istore_n 3, 1, 0, 0), (21, .aload_n 0, 1, 0, 0), 
  (22, .iload_n 2, 1, 0, 0), (23, .putfield 36, 3, 2, 4), (26, .iload_n 3, 1, 0, 0), (27, .ireturn, 1, 0, 0)]
def m_Game_choose : xM := (2, false, (some .int), 4, k_Game_choose)
abbrev i_Game_choose : Nat := 23
def k_Game_perform : xK := [(0, .iload_n 1, 1, 0, 0), (1, .lookupswitch 67 #[(98, 56), (99, 43), (103, 62), (112, 49)], 43, 0, 0), (44, .aload_n 0, 1, 0, 0), (45, .iload_n 2, 1, 0, 0), 
  (46, .invokevirtual 130, 3, 16, 1), (49, .ireturn, 1, 0, 0), (50, .aload_n 0, 1, 0, 0), (51, .iload_n 2, 1, 0, 0), (52, .iload_n 3, 1, 0, 0), (53, .invokevirtual 133, 3, 17, 2), (56, .ireturn, 1, 0, 0), 
  (57, .aload_n 0, 1, 0, 0), (58, .iload_n 2, 1, 0, 0), (59, .invokevirtual 136, 3, 21, 1), (62, .ireturn, 1, 0, 0), (63, .aload_n 0, 1, 0, 0), (64, .invokevirtual 138, 3, 20, 0), (67, .ireturn, 1, 0, 0), 
  (68, .aload_n 0, 1, 0, 0), (69, .aload 4, 2, 0, 0), (71, .invokevirtual 141, 3, 22, 1), (74, .ireturn, 1, 0, 0)]
def m_Game_perform : xM := (2, false, (some .int), 5, k_Game_perform)
abbrev i_Game_perform : Nat := 24
def k_Game_settlePlayers : xK := [(0, .iconst 0, 1, 0, 0), (1, .istore_n 2, 1, 0, 0), (2, .iload_n 2, 1, 0, 0), (3, .aload_n 0, 1, 0, 0), (4, .getfield 21, 3, 2, 1), (7, .getfield 145, 3, 6, 9), 
  (10, .if_icmp .ge 91, 3, 101, 0), (13, .aload_n 0, 1, 0, 0), (14, .getfield 21, 3, 2, 1), (17, .iload_n 2, 1, 0, 0), (18, .invokevirtual 146, 3, 52, 1), (21, .ifCond .eq 74, 3, 95, 0), 
  (24, .aload_n 0, 1, 0, 0), (25, .getfield 21, 3, 2, 1), (28, .getfield 149, 3, 6, 4), (31, .iload_n 2, 1, 0, 0), (32, .dup2, 1, 0, 0), (33, .iaload, 1, 0, 0), (34, .aload_n 1, 1, 0, 0), 
  (35, .getfield 152, 3, 3, 5), (38, .iload_n 2, 1, 0, 0), (39, .iaload, 1, 0, 0), (40, .iadd, 1, 0, 0), (41, .iastore, 1, 0, 0), (42, .aload_n 0, 1, 0, 0), (43, .getfield 21, 3, 2, 1), 
  (46, .getfield 153, 3, 6, 7), (49, .iload_n 2, 1, 0, 0), (50, .aload_n 1, 1, 0, 0), (51, .getfield 156, 3, 3, 6), (54, .iload_n 2, 1, 0, 0), (55, .iaload, 1, 0, 0), (56, .iastore, 1, 0, 0), 
  (57, .aload_n 1, 1, 0, 0), (58, .getfield 159, 3, 3, 4), (61, .iload_n 2, 1, 0, 0), (62, .iaload, 1, 0, 0), (63, .iconst (-1), 1, 5, 0), (64, .if_icmp .ne 18, 3, 82, 0), (67, .aload_n 0, 1, 0, 0), 
  (68, .getfield 21, 3, 2, 1), (71, .iload_n 2, 1, 0, 0), (72, .aload_n 0, 1, 0, 0), (73, .getfield 49, 3, 2, 5), (76, .invokevirtual 162, 3, 57, 2), (79, .goto 16, 3, 95, 0), (82, .aload_n 0, 1, 0, 0), 
  (83, .getfield 21, 3, 2, 1), (86, .getfield 166, 3, 6, 3), (89, .iload_n 2, 1, 0, 0), (90, .dup2, 1, 0, 0), (91, .iaload, 1, 0, 0), (92, .iconst 1, 1, 1, 0), (93, .iadd, 1, 0, 0), 
  (94, .iastore, 1, 0, 0), (95, .iinc 2 1, 3, 1, 0), (98, .goto (-96), 3, 2, 0), (101, .return_, 1, 0, 0)]
def m_Game_settlePlayers : xM := (2, false, none, 3, k_Game_settlePlayers)
abbrev i_Game_settlePlayers : Nat := 25
def k_Game_settleChairs : xK := [(0, .iconst 1, 1, 1, 0), (1, .istore_n 2, 1, 0, 0), (2, .iload_n 2, 1, 0, 0), (3, .aload_n 1, 1, 0, 0), (4, .getfield 116, 3, 3, 11), (7, .if_icmp .gt 80, 3, 87, 0), 
  (10, .iconst 0, 1, 0, 0), (11, .istore_n 3, 1, 0, 0), (12, .iload_n 3, 1, 0, 0), (13, .aload_n 0, 1, 0, 0), (14, .getfield 12, 3, 2, 0), (17, .getfield 96, 3, 1, 3), (20, .if_icmp .ge 61, 3, 81, 0), 
  (23, .aload_n 1, 1, 0, 0), (24, .getfield 169, 3, 3, 8), (27, .iload_n 3, 1, 0, 0), (28, .iaload, 1, 0, 0), (29, .iload_n 2, 1, 0, 0), (30, .if_icmp .ne 45, 3, 75, 0), (33, .aload_n 1, 1, 0, 0), 
  (34, .getfield 172, 3, 3, 7), (37, .iload_n 3, 1, 0, 0), (38, .iaload, 1, 0, 0), (39, .istore 4, 2, 0, 0), (41, .aload_n 0, 1, 0, 0), (42, .getfield 12, 3, 2, 0), (45, .iload_n 3, 1, 0, 0), 
  (46, .iload 4, 2, 0, 0), (48, .invokevirtual 175, 3, 10, 2), (51, .aload_n 0, 1, 0, 0), (52, .getfield 28, 3, 2, 2), (55, .aload_n 0, 1, 0, 0), (56, .getfield 49, 3, 2, 5), (59, .iload_n 2, 1, 0, 0), 
  (60, .iload_n 3, 1, 0, 0), (61, .aload_n 0, 1, 0, 0), (62, .getfield 12, 3, 2, 0), (65, .getfield 81, 3, 1, 0), (68, .iload_n 3, 1, 0, 0), (69, .iaload, 1, 0, 0), (70, .iload 4, 2, 0, 0), 
  (72, .invokevirtual 177, 3, 2, 5), (75, .iinc 3 1, 3, 1, 0), (78, .goto (-66), 3, 12, 0), (81, .iinc 2 1, 3, 1, 0), (84, .goto (-82), 3, 2, 0), (87, .return_, 1, 0, 0)]
def m_Game_settleChairs : xM := (2, false, none, 5, k_Game_settleChairs)
abbrev i_Game_settleChairs : Nat := 26
def k_Game_goOn : xK := [(0, .aload_n 0, 1, 0, 0), (1, .getfield 21, 3, 2, 1), (4, .invokevirtual 92, 3, 58, 0), (7, .istore_n 1, 1, 0, 0), (8, .iload_n 1, 1, 0, 0), (9, .iconst 1, 1, 1, 0), 
  (10, .if_icmp .gt 9, 3, 19, 0), (13, .aload_n 0, 1, 0, 0), (14, .iconst 2, 1, 2, 0), (15, .putfield 32, 3, 2, 3), (18, .return_, 1, 0, 0), (19, .aload_n 0, 1, 0, 0), (20, .iconst 0, 1, 0, 0), 
  (21, .putfield 32, 3, 2, 3), (24, .aload_n 0, 1, 0, 0), (25, .dup, 1, 0, 0), (26, .getfield 58, 3, 2, 8), (29, .aload_n 0, 1, 0, 0), (30, .getfield 12, 3, 2, 0), (33, .iload_n 1, 1, 0, 0), 
  (34, .aload_n 0, 1, 0, 0), (35, .getfield 36, 3, 2, 4), (38, .isub, 1, 0, 0), (39, .iconst 1, 1, 1, 0), (40, .invokestatic 181, 3, 96, 2), (43, .invokevirtual 186, 3, 11, 1), (46, .iadd, 1, 0, 0), 
  (47, .putfield 58, 3, 2, 8), (50, .return_, 1, 0, 0)]
def m_Game_goOn : xM := (2, false, none, 2, k_Game_goOn)
abbrev i_Game_goOn : Nat := 27
def k_Grope_init : xK := [(0, .aload_n 0, 1, 0, 0), (1, .invokespecial 3, 3, 1000, 0), (4, .aload_n 0, 1, 0, 0), (5, .bipush 12, 2, 3, 0), (7, .newarray .int, 2, 0, 0), (9, .putfield 9, 3, 3, 0), 
  (12, .aload_n 0, 1, 0, 0), (13, .bipush 12, 2, 3, 0), (15, .newarray .int, 2, 0, 0), (17, .putfield 15, 3, 3, 1), (20, .aload_n 0, 1, 0, 0), (21, .bipush 12, 2, 3, 0), (23, .newarray .int, 2, 0, 0), 
  (25, .putfield 18, 3, 3, 2), (28, .aload_n 0, 1, 0, 0), (29, .bipush 12, 2, 3, 0), (31, .newarray .int, 2, 0, 0), (33, .putfield 21, 3, 3, 3), (36, .aload_n 0, 1, 0, 0), (37, .bipush 12, 2, 3, 0), 
  (39, .newarray .int, 2, 0, 0), (41, .putfield 24, 3, 3, 4), (44, .aload_n 0, 1, 0, 0), (45, .bipush 12, 2, 3, 0), (47, .newarray .int, 2, 0, 0), (49, .putfield 27, 3, 3, 5), (52, .aload_n 0, 1, 0, 0), 
  (53, .bipush 12, 2, 3, 0), (55, .newarray .int, 2, 0, 0), (57, .putfield 30, 3, 3, 6), (60, .aload_n 0, 1, 0, 0), (61, .bipush 16, 2, 9, 0), (63, .newarray .int, 2, 0, 0), (65, .putfield 33, 3, 3, 7), 
  (68, .aload_n 0, 1, 0, 0), (69, .bipush 16, 2, 9, 0), (71, .newarray .int, 2, 0, 0), (73, .putfield 36, 3, 3, 8), (76, .return_, 1, 0, 0)]
def m_Grope_init : xM := (3, true, none, 1, k_Grope_init)
abbrev i_Grope_init : Nat := 28
def k_Grope_follow : xK := [(0, .aload_n 0, 1, 0, 0), (1, .aload_n 1, 1, 0, 0), (2, .aload_n 2, 1, 0, 0), (3, .iload_n 3, 1, 0, 0), (4, .invokevirtual 39, 3, 30, 3), (7, .iconst 1, 1, 1, 0), 
  (8, .istore 4, 2, 0, 0), (10, .iload 4, 2, 0, 0), (12, .bipush 17, 2, 37, 0), (14, .if_icmp .gt 51, 3, 65, 0), (17, .aload_n 0, 1, 0, 0), (18, .getfield 43, 3, 3, 9), (21, .ifCond .eq 44, 3, 65, 0), 
  (24, .aload_n 0, 1, 0, 0), (25, .iload 4, 2, 0, 0), (27, .putfield 47, 3, 3, 11), (30, .aload_n 0, 1, 0, 0), (31, .aload_n 1, 1, 0, 0), (32, .aload_n 2, 1, 0, 0), (33, .invokevirtual 50, 3, 32, 2), 
  (36, .aload_n 0, 1, 0, 0), (37, .aload_n 1, 1, 0, 0), (38, .aload_n 2, 1, 0, 0), (39, .invokevirtual 54, 3, 33, 2), (42, .aload_n 0, 1, 0, 0), (43, .aload_n 1, 1, 0, 0), (44, .aload_n 2, 1, 0, 0), 
  (45, .invokevirtual 57, 3, 34, 2), (48, .aload_n 0, 1, 0, 0), (49, .aload_n 2, 1, 0, 0), (50, .invokevirtual 60, 3, 36, 1), (53, .aload_n 0, 1, 0, 0), (54, .aload_n 1, 1, 0, 0), (55, .aload_n 2, 1, 0, 0), 
  (56, .invokevirtual 64, 3, 37, 2), (59, .iinc 4 1, 3, 1, 0), (62, .goto (-52), 3, 10, 0), (65, .return_, 1, 0, 0)]
def m_Grope_follow : xM := (3, false, none, 5, k_Grope_follow)
abbrev i_Grope_follow : Nat := 29
def k_Grope_begin : xK := [(0, .aload_n 0, 1, 0, 0), (1, .iconst 0, 1, 0, 0), (2, .putfield 47, 3, 3, 11), (5, .aload_n 0, 1, 0, 0), (6, .iconst 0, 1, 0, 0), (7, .putfield 67, 3, 3, 10), 
  (10, .aload_n 0, 1, 0, 0), (11, .aload_n 2, 1, 0, 0), (12, .getfield 70, 3, 6, 8), (15, .putfield 43, 3, 3, 9), (18, .iconst 0, 1, 0, 0), (19, .istore 4, 2, 0, 0), (21, .iload 4, 2, 0, 0), 
  (23, .aload_n 2, 1, 0, 0), (24, .getfield 75, 3, 6, 9), (27, .if_icmp .ge 68, 3, 95, 0), (30, .aload_n 0, 1, 0, 0), (31, .getfield 9, 3, 3, 0), (34, .iload 4, 2, 0, 0), (36, .aload_n 1, 1, 0, 0), 
  (37, .aload_n 2, 1, 0, 0), (38, .getfield 78, 3, 6, 2), (41, .iload 4, 2, 0, 0), (43, .iaload, 1, 0, 0), (44, .aload_n 2, 1, 0, 0), (45, .getfield 79, 3, 6, 0), (48, .iload 4, 2, 0, 0), 
  (50, .iaload, 1, 0, 0), (51, .iload_n 3, 1, 0, 0), (52, .imul, 1, 0, 0), (53, .invokevirtual 82, 3, 8, 2), (56, .iastore, 1, 0, 0), (57, .aload_n 0, 1, 0, 0), (58, .getfield 15, 3, 3, 1), 
  (61, .iload 4, 2, 0, 0), (63, .iconst 0, 1, 0, 0), (64, .iastore, 1, 0, 0), (65, .aload_n 0, 1, 0, 0), (66, .getfield 24, 3, 3, 4), (69, .iload 4, 2, 0, 0), (71, .iconst (-1), 1, 5, 0), 
  (72, .iastore, 1, 0, 0), (73, .aload_n 0, 1, 0, 0), (74, .getfield 27, 3, 3, 5), (77, .iload 4, 2, 0, 0), (79, .iconst 0, 1, 0, 0), (80, .iastore, 1, 0, 0), (81, .aload_n 0, 1, 0, 0), 
  (82, .getfield 30, 3, 3, 6), (85, .iload 4, 2, 0, 0), (87, .iconst 0, 1, 0, 0), (88, .iastore, 1, 0, 0), (89, .iinc 4 1, 3, 1, 0), (92, .goto (-71), 3, 21, 0), (95, .iconst 0, 1, 0, 0), 
  (96, .istore 4, 2, 0, 0), (98, .iload 4, 2, 0, 0), (100, .aload_n 1, 1, 0, 0), (101, .getfield 88, 3, 1, 3), (104, .if_icmp .ge 25, 3, 129, 0), (107, .aload_n 0, 1, 0, 0), (108, .getfield 33, 3, 3, 7), 
  (111, .iload 4, 2, 0, 0), (113, .iconst (-1), 1, 5, 0), (114, .iastore, 1, 0, 0), (115, .aload_n 0, 1, 0, 0), (116, .getfield 36, 3, 3, 8), (119, .iload 4, 2, 0, 0), (121, .iconst 0, 1, 0, 0), 
  (122, .iastore, 1, 0, 0), (123, .iinc 4 1, 3, 1, 0), (126, .goto (-28), 3, 98, 0), (129, .return_, 1, 0, 0)]
def m_Grope_begin : xM := (3, false, none, 5, k_Grope_begin)
abbrev i_Grope_begin : Nat := 30
def k_Grope_gropes : xK := [(0, .aload_n 0, 1, 0, 0), (1, .getfield 43, 3, 3, 9), (4, .iload_n 1, 1, 0, 0), (5, .ishr, 1, 0, 0), (6, .iconst 1, 1, 1, 0), (7, .iand, 1, 0, 0), (8, .iconst 1, 1, 1, 0), 
  (9, .if_icmp .ne 7, 3, 16, 0), (12, .iconst 1, 1, 1, 0), (13, .goto 4, 3, 17, 0), (16, .iconst 0, 1, 0, 0), (17, .ireturn, 1, 0, 0)]
def m_Grope_gropes : xM := (3, false, (some .boolean), 2, k_Grope_gropes)
abbrev i_Grope_gropes : Nat := 31
def k_Grope_sendOut : xK := [(0, .iconst 1, 1, 1, 0), (1, .aload_n 1, 1, 0, 0), (2, .getfield 88, 3, 1, 3), (5, .ishl, 1, 0, 0), (6, .iconst 1, 1, 1, 0), (7, .isub, 1, 0, 0), (8, .istore_n 3, 1, 0, 0), 
  (9, .iconst 0, 1, 0, 0), (10, .istore 4, 2, 0, 0), (12, .iload 4, 2, 0, 0), (14, .aload_n 2, 1, 0, 0), (15, .getfield 75, 3, 6, 9), (18, .if_icmp .ge 48, 3, 66, 0), (21, .aload_n 0, 1, 0, 0), 
  (22, .iload 4, 2, 0, 0), (24, .invokevirtual 89, 3, 31, 1), (27, .ifCond .eq 33, 3, 60, 0), (30, .aload_n 0, 1, 0, 0), (31, .getfield 15, 3, 3, 1), (34, .iload 4, 2, 0, 0), (36, .iaload, 1, 0, 0), 
  (37, .iload_n 3, 1, 0, 0), (38, .if_icmp .ne 22, 3, 60, 0), (41, .aload_n 0, 1, 0, 0), (42, .dup, 1, 0, 0), (43, .getfield 67, 3, 3, 10), (46, .iconst 1, 1, 1, 0), (47, .iload 4, 2, 0, 0), 
  (49, .ishl, 1, 0, 0), (50, .ior, 1, 0, 0), (51, .putfield 67, 3, 3, 10), (54, .aload_n 0, 1, 0, 0), (55, .iload 4, 2, 0, 0), (57, .invokevirtual 93, 3, 38, 1), (60, .iinc 4 1, 3, 1, 0), 
  (63, .goto (-51), 3, 12, 0), (66, .return_, 1, 0, 0)]
def m_Grope_sendOut : xM := (3, false, none, 5, k_Grope_sendOut)
abbrev i_Grope_sendOut : Nat := 32
def k_Grope_takeAim : xK := [(0, .iconst 0, 1, 0, 0), (1, .istore_n 3, 1, 0, 0), (2, .iload_n 3, 1, 0, 0), (3, .aload_n 2, 1, 0, 0), (4, .getfield 75, 3, 6, 9), (7, .if_icmp .ge 103, 3, 110, 0), 
  (10, .aload_n 0, 1, 0, 0), (11, .getfield 18, 3, 3, 2), (14, .iload_n 3, 1, 0, 0), (15, .iconst (-1), 1, 5, 0), (16, .iastore, 1, 0, 0), (17, .aload_n 0, 1, 0, 0), (18, .getfield 21, 3, 3, 3), 
  (21, .iload_n 3, 1, 0, 0), (22, .iconst 0, 1, 0, 0), (23, .iastore, 1, 0, 0), (24, .iconst 0, 1, 0, 0), (25, .istore 4, 2, 0, 0), (27, .iload 4, 2, 0, 0), (29, .aload_n 1, 1, 0, 0), 
  (30, .getfield 88, 3, 1, 3), (33, .if_icmp .ge 71, 3, 104, 0), (36, .aload_n 0, 1, 0, 0), (37, .iload_n 3, 1, 0, 0), (38, .invokevirtual 89, 3, 31, 1), (41, .ifCond .eq 63, 3, 104, 0), 
  (44, .aload_n 0, 1, 0, 0), (45, .getfield 18, 3, 3, 2), (48, .iload_n 3, 1, 0, 0), (49, .iaload, 1, 0, 0), (50, .iconst (-1), 1, 5, 0), (51, .if_icmp .ne 53, 3, 104, 0), (54, .aload_n 1, 1, 0, 0), 
  (55, .aload_n 0, 1, 0, 0), (56, .getfield 9, 3, 3, 0), (59, .iload_n 3, 1, 0, 0), (60, .iaload, 1, 0, 0), (61, .iload 4, 2, 0, 0), (63, .invokevirtual 82, 3, 8, 2), (66, .istore 5, 2, 0, 0), 
  (68, .aload_n 0, 1, 0, 0), (69, .getfield 15, 3, 3, 1), (72, .iload_n 3, 1, 0, 0), (73, .iaload, 1, 0, 0), (74, .iload 5, 2, 0, 0), (76, .ishr, 1, 0, 0), (77, .iconst 1, 1, 1, 0), 
  (78, .iand, 1, 0, 0), (79, .ifCond .ne 19, 3, 98, 0), (82, .aload_n 0, 1, 0, 0), (83, .getfield 18, 3, 3, 2), (86, .iload_n 3, 1, 0, 0), (87, .iload 5, 2, 0, 0), (89, .iastore, 1, 0, 0), 
  (90, .aload_n 0, 1, 0, 0), (91, .getfield 21, 3, 3, 3), (94, .iload_n 3, 1, 0, 0), (95, .iload 4, 2, 0, 0), (97, .iastore, 1, 0, 0), (98, .iinc 4 1, 3, 1, 0), (101, .goto (-74), 3, 27, 0), 
  (104, .iinc 3 1, 3, 1, 0), (107, .goto (-105), 3, 2, 0), (110, .return_, 1, 0, 0)]
def m_Grope_takeAim : xM := (3, false, none, 6, k_Grope_takeAim)
abbrev i_Grope_takeAim : Nat := 33
def k_Grope_sitDown : xK := [(0, .iconst 0, 1, 0, 0), (1, .istore_n 3, 1, 0, 0), (2, .iload_n 3, 1, 0, 0), (3, .aload_n 1, 1, 0, 0), (4, .getfield 88, 3, 1, 3), (7, .if_icmp .ge 77, 3, 84, 0), 
  (10, .aload_n 0, 1, 0, 0), (11, .getfield 33, 3, 3, 7), (14, .iload_n 3, 1, 0, 0), (15, .iaload, 1, 0, 0), (16, .iconst (-1), 1, 5, 0), (17, .if_icmp .ne 12, 3, 29, 0), (20, .aload_n 0, 1, 0, 0), 
  (21, .aload_n 2, 1, 0, 0), (22, .iload_n 3, 1, 0, 0), (23, .invokevirtual 97, 3, 35, 2), (26, .goto 4, 3, 30, 0), (29, .iconst (-1), 1, 5, 0), (30, .istore 4, 2, 0, 0), (32, .iload 4, 2, 0, 0), 
  (34, .iconst (-1), 1, 5, 0), (35, .if_icmp .eq 43, 3, 78, 0), (38, .aload_n 0, 1, 0, 0), (39, .getfield 33, 3, 3, 7), (42, .iload_n 3, 1, 0, 0), (43, .iload 4, 2, 0, 0), (45, .iastore, 1, 0, 0), 
  (46, .aload_n 0, 1, 0, 0), (47, .getfield 36, 3, 3, 8), (50, .iload_n 3, 1, 0, 0), (51, .aload_n 0, 1, 0, 0), (52, .getfield 47, 3, 3, 11), (55, .iastore, 1, 0, 0), (56, .aload_n 0, 1, 0, 0), 
  (57, .getfield 24, 3, 3, 4), (60, .iload 4, 2, 0, 0), (62, .iload_n 3, 1, 0, 0), (63, .iastore, 1, 0, 0), (64, .aload_n 0, 1, 0, 0), (65, .getfield 18, 3, 3, 2), (68, .iload 4, 2, 0, 0), 
  (70, .iconst (-1), 1, 5, 0), (71, .iastore, 1, 0, 0), (72, .aload_n 0, 1, 0, 0), (73, .iload 4, 2, 0, 0), (75, .invokevirtual 93, 3, 38, 1), (78, .iinc 3 1, 3, 1, 0), (81, .goto (-79), 3, 2, 0), 
  (84, .return_, 1, 0, 0)]
def m_Grope_sitDown : xM := (3, false, none, 5, k_Grope_sitDown)
abbrev i_Grope_sitDown : Nat := 34
def k_Grope_nearest : xK := [(0, .iconst (-1), 1, 5, 0), (1, .istore_n 3, 1, 0, 0), (2, .iconst 0, 1, 0, 0), (3, .istore 4, 2, 0, 0), (5, .iload 4, 2, 0, 0), (7, .aload_n 1, 1, 0, 0), 
  (8, .getfield 75, 3, 6, 9), (11, .if_icmp .ge 44, 3, 55, 0), (14, .aload_n 0, 1, 0, 0), (15, .getfield 18, 3, 3, 2), (18, .iload 4, 2, 0, 0), (20, .iaload, 1, 0, 0), (21, .iload_n 2, 1, 0, 0), 
  (22, .if_icmp .ne 27, 3, 49, 0), (25, .iload_n 3, 1, 0, 0), (26, .iconst (-1), 1, 5, 0), (27, .if_icmp .eq 19, 3, 46, 0), (30, .aload_n 0, 1, 0, 0), (31, .getfield 21, 3, 3, 3), (34, .iload 4, 2, 0, 0), 
  (36, .iaload, 1, 0, 0), (37, .aload_n 0, 1, 0, 0), (38, .getfield 21, 3, 3, 3), (41, .iload_n 3, 1, 0, 0), (42, .iaload, 1, 0, 0), (43, .if_icmp .ge 6, 3, 49, 0), (46, .iload 4, 2, 0, 0), 
  (48, .istore_n 3, 1, 0, 0), (49, .iinc 4 1, 3, 1, 0), (52, .goto (-47), 3, 5, 0), (55, .iload_n 3, 1, 0, 0), (56, .ireturn, 1, 0, 0)]
def m_Grope_nearest : xM := (3, false, (some .int), 5, k_Grope_nearest)
abbrev i_Grope_nearest : Nat := 35
def k_Grope_bump : xK := [(0, .iconst 0, 1, 0, 0), (1, .istore_n 2, 1, 0, 0), (2, .iload_n 2, 1, 0, 0), (3, .aload_n 1, 1, 0, 0), (4, .getfield 75, 3, 6, 9), (7, .if_icmp .ge 50, 3, 57, 0), 
  (10, .aload_n 0, 1, 0, 0), (11, .getfield 18, 3, 3, 2), (14, .iload_n 2, 1, 0, 0), (15, .iaload, 1, 0, 0), (16, .istore_n 3, 1, 0, 0), (17, .iload_n 3, 1, 0, 0), (18, .iconst (-1), 1, 5, 0), 
  (19, .if_icmp .eq 32, 3, 51, 0), (22, .aload_n 0, 1, 0, 0), (23, .getfield 15, 3, 3, 1), (26, .iload_n 2, 1, 0, 0), (27, .dup2, 1, 0, 0), (28, .iaload, 1, 0, 0), (29, .iconst 1, 1, 1, 0), 
  (30, .iload_n 3, 1, 0, 0), (31, .ishl, 1, 0, 0), (32, .ior, 1, 0, 0), (33, .iastore, 1, 0, 0), (34, .aload_n 0, 1, 0, 0), (35, .getfield 9, 3, 3, 0), (38, .iload_n 2, 1, 0, 0), (39, .iload_n 3, 1, 0, 0), 
  (40, .iastore, 1, 0, 0), (41, .aload_n 0, 1, 0, 0), (42, .getfield 27, 3, 3, 5), (45, .iload_n 2, 1, 0, 0), (46, .dup2, 1, 0, 0), (47, .iaload, 1, 0, 0), (48, .iconst 1, 1, 1, 0), 
  (49, .iadd, 1, 0, 0), (50, .iastore, 1, 0, 0), (51, .iinc 2 1, 3, 1, 0), (54, .goto (-52), 3, 2, 0), (57, .return_, 1, 0, 0)]
def m_Grope_bump : xM := (3, false, none, 4, k_Grope_bump)
abbrev i_Grope_bump : Nat := 36
def k_Grope_ring : xK := [(0, .iconst 0, 1, 0, 0), (1, .istore_n 3, 1, 0, 0), (2, .iload_n 3, 1, 0, 0), (3, .aload_n 2, 1, 0, 0), (4, .getfield 75, 3, 6, 9), (7, .if_icmp .ge 69, 3, 76, 0), 
  (10, .iconst 0, 1, 0, 0), (11, .istore 4, 2, 0, 0), (13, .iload 4, 2, 0, 0), (15, .aload_n 1, 1, 0, 0), (16, .getfield 88, 3, 1, 3), (19, .if_icmp .ge 51, 3, 70, 0), (22, .aload_n 0, 1, 0, 0), 
  (23, .getfield 36, 3, 3, 8), (26, .iload 4, 2, 0, 0), (28, .iaload, 1, 0, 0), (29, .aload_n 0, 1, 0, 0), (30, .getfield 47, 3, 3, 11), (33, .if_icmp .ne 31, 3, 64, 0), (36, .aload_n 2, 1, 0, 0), 
  (37, .iload_n 3, 1, 0, 0), (38, .aload_n 1, 1, 0, 0), (39, .getfield 101, 3, 1, 0), (42, .iload 4, 2, 0, 0), (44, .iaload, 1, 0, 0), (45, .invokevirtual 104, 3, 53, 2), (48, .ifCond .eq 16, 3, 64, 0), 
  (51, .aload_n 0, 1, 0, 0), (52, .getfield 15, 3, 3, 1), (55, .iload_n 3, 1, 0, 0), (56, .dup2, 1, 0, 0), (57, .iaload, 1, 0, 0), (58, .iconst 1, 1, 1, 0), (59, .iload 4, 2, 0, 0), 
  (61, .ishl, 1, 0, 0), (62, .ior, 1, 0, 0), (63, .iastore, 1, 0, 0), (64, .iinc 4 1, 3, 1, 0), (67, .goto (-54), 3, 13, 0), (70, .iinc 3 1, 3, 1, 0), (73, .goto (-71), 3, 2, 0), (76, .return_, 1, 0, 0)]
def m_Grope_ring : xM := (3, false, none, 5, k_Grope_ring)
abbrev i_Grope_ring : Nat := 37
def k_Grope_settle : xK := [(0, .aload_n 0, 1, 0, 0), (1, .dup, 1, 0, 0), (2, .getfield 43, 3, 3, 9), (5, .iconst 1, 1, 1, 0), (6, .iload_n 1, 1, 0, 0), (7, .ishl, 1, 0, 0), (8, .iconst (-1), 1, 5, 0), 
  (9, .ixor, 1, 0, 0), (10, .iand, 1, 0, 0), (11, .putfield 43, 3, 3, 9), (14, .aload_n 0, 1, 0, 0), (15, .getfield 30, 3, 3, 6), (18, .iload_n 1, 1, 0, 0), (19, .aload_n 0, 1, 0, 0), 
  (20, .getfield 47, 3, 3, 11), (23, .iastore, 1, 0, 0), (24, .return_, 1, 0, 0)]
def m_Grope_settle : xM := (3, false, none, 2, k_Grope_settle)
abbrev i_Grope_settle : Nat := 38
def k_History_init : xK := [(0, .aload_n 0, 1, 0, 0), (1, .invokespecial 3, 3, 1000, 0), (4, .aload_n 0, 1, 0, 0), (5, .iconst 5, 1, 6, 0), (6, .anewarray 11, 3, 2, 0), (9, .putfield 13, 3, 4, 0), 
  (12, .iconst 0, 1, 0, 0), (13, .istore_n 1, 1, 0, 0), (14, .iload_n 1, 1, 0, 0), (15, .iconst 5, 1, 6, 0), (16, .if_icmp .ge 22, 3, 38, 0), (19, .aload_n 0, 1, 0, 0), (20, .getfield 13, 3, 4, 0), 
  (23, .iload_n 1, 1, 0, 0), (24, .new 11, 3, 2, 0), (27, .dup, 1, 0, 0), (28, .invokespecial 17, 3, 14, 0), (31, .aastore, 1, 0, 0), (32, .iinc 1 1, 3, 1, 0), (35, .goto (-21), 3, 14, 0), 
  (38, .return_, 1, 0, 0)]
def m_History_init : xM := (4, true, none, 2, k_History_init)
abbrev i_History_init : Nat := 39
def k_History_prepare : xK := [(0, .aload_n 0, 1, 0, 0), (1, .getfield 13, 3, 4, 0), (4, .aload_n 0, 1, 0, 0), (5, .getfield 18, 3, 4, 1), (8, .aaload, 1, 0, 0), (9, .aload_n 1, 1, 0, 0), 
  (10, .invokevirtual 22, 3, 15, 1), (13, .return_, 1, 0, 0)]
def m_History_prepare : xM := (4, false, none, 2, k_History_prepare)
abbrev i_History_prepare : Nat := 40
def k_History_settle : xK := [(0, .iload_n 1, 1, 0, 0), (1, .ifCond .lt 29, 3, 30, 0), (4, .aload_n 0, 1, 0, 0), (5, .aload_n 0, 1, 0, 0), (6, .getfield 18, 3, 4, 1), (9, .iconst 1, 1, 1, 0), 
  (10, .iadd, 1, 0, 0), (11, .iconst 5, 1, 6, 0), (12, .irem, 1, 0, 0), (13, .putfield 18, 3, 4, 1), (16, .aload_n 0, 1, 0, 0), (17, .aload_n 0, 1, 0, 0), (18, .getfield 26, 3, 4, 2), 
  (21, .iconst 1, 1, 1, 0), (22, .iadd, 1, 0, 0), (23, .iconst 4, 1, 4, 0), (24, .invokestatic 29, 3, 97, 2), (27, .putfield 26, 3, 4, 2), (30, .iload_n 1, 1, 0, 0), (31, .ireturn, 1, 0, 0)]
def m_History_settle : xM := (4, false, (some .int), 2, k_History_settle)
abbrev i_History_settle : Nat := 41
def k_History_goBack : xK := [(0, .aload_n 0, 1, 0, 0), (1, .getfield 26, 3, 4, 2), (4, .iconst 1, 1, 1, 0), (5, .if_icmp .ge 6, 3, 11, 0), (8, .ldc 35, 2, 54, 0), (10, .ireturn, 1, 0, 0), 
  (11, .aload_n 0, 1, 0, 0), (12, .aload_n 0, 1, 0, 0), (13, .getfield 18, 3, 4, 1), (16, .iconst 5, 1, 6, 0), (17, .iadd, 1, 0, 0), (18, .iconst 1, 1, 1, 0), (19, .isub, 1, 0, 0), 
  (20, .iconst 5, 1, 6, 0), (21, .irem, 1, 0, 0), (22, .putfield 18, 3, 4, 1), (25, .aload_n 0, 1, 0, 0), (26, .dup, 1, 0, 0), (27, .getfield 26, 3, 4, 2), (30, .iconst 1, 1, 1, 0), 
  (31, .isub, 1, 0, 0), (32, .putfield 26, 3, 4, 2), (35, .aload_n 1, 1, 0, 0), (36, .aload_n 0, 1, 0, 0), (37, .getfield 13, 3, 4, 0), (40, .aload_n 0, 1, 0, 0), (41, .getfield 18, 3, 4, 1), 
  (44, .aaload, 1, 0, 0), (45, .invokevirtual 22, 3, 15, 1), (48, .aload_n 0, 1, 0, 0), (49, .getfield 26, 3, 4, 2), (52, .ireturn, 1, 0, 0)]
def m_History_goBack : xM := (4, false, (some .int), 2, k_History_goBack)
abbrev i_History_goBack : Nat := 42
def k_Orders_init : xK := [(0, .aload_n 0, 1, 0, 0), (1, .invokespecial 3, 3, 1000, 0), (4, .aload_n 0, 1, 0, 0), (5, .new 9, 3, 2, 0), (8, .dup, 1, 0, 0), (9, .invokespecial 11, 3, 14, 0), 
  (12, .putfield 12, 3, 5, 0), (15, .return_, 1, 0, 0)]
def m_Orders_init : xM := (5, true, none, 1, k_Orders_init)
abbrev i_Orders_init : Nat := 43
def k_Orders_rehearse : xK := [(0, .aload_n 0, 1, 0, 0), (1, .getfield 12, 3, 5, 0), (4, .aload_n 2, 1, 0, 0), (5, .invokevirtual 18, 3, 15, 1), (8, .aload_n 0, 1, 0, 0), (9, .iconst 0, 1, 0, 0), 
  (10, .putfield 22, 3, 5, 1), (13, .aload_n 0, 1, 0, 0), (14, .iconst 0, 1, 0, 0), (15, .putfield 26, 3, 5, 5), (18, .aload_n 0, 1, 0, 0), (19, .iconst 0, 1, 0, 0), (20, .putfield 29, 3, 5, 3), 
  (23, .iconst 0, 1, 0, 0), (24, .istore 4, 2, 0, 0), (26, .iload 4, 2, 0, 0), (28, .bipush 60, 2, 23, 0), (30, .if_icmp .ge 88, 3, 118, 0), (33, .aload_n 0, 1, 0, 0), (34, .getfield 26, 3, 5, 5), 
  (37, .aload_n 1, 1, 0, 0), (38, .getfield 32, 3, 7, 1), (41, .if_icmp .ge 77, 3, 118, 0), (44, .aload_n 0, 1, 0, 0), (45, .getfield 29, 3, 5, 3), (48, .ifCond .ne 70, 3, 118, 0), 
  (51, .aload_n 0, 1, 0, 0), (52, .aload_n 0, 1, 0, 0), (53, .getfield 26, 3, 5, 5), (56, .putfield 37, 3, 5, 2), (59, .aload_n 0, 1, 0, 0), (60, .aload_n 1, 1, 0, 0), (61, .invokevirtual 40, 3, 46, 1), 
  (64, .ifCond .ne 24, 3, 88, 0), (67, .aload_n 0, 1, 0, 0), (68, .iconst 1, 1, 1, 0), (69, .putfield 29, 3, 5, 3), (72, .aload_n 0, 1, 0, 0), (73, .aload_n 0, 1, 0, 0), (74, .getfield 26, 3, 5, 5), 
  (77, .aload_n 0, 1, 0, 0), (78, .getfield 37, 3, 5, 2), (81, .isub, 1, 0, 0), (82, .putfield 44, 3, 5, 4), (85, .goto 27, 3, 112, 0), (88, .aload_n 0, 1, 0, 0), (89, .aload_n 0, 1, 0, 0), 
  (90, .getfield 12, 3, 5, 0), (93, .aload_n 0, 1, 0, 0), (94, .getfield 47, 3, 5, 6), (97, .aload_n 0, 1, 0, 0), (98, .getfield 50, 3, 5, 7), (101, .aload_n 0, 1, 0, 0), (102, .getfield 53, 3, 5, 8), 
  (105, .aload_n 3, 1, 0, 0), (106, .invokevirtual 56, 3, 24, 4), (109, .invokevirtual 60, 3, 45, 1), (112, .iinc 4 1, 3, 1, 0), (115, .goto (-89), 3, 26, 0), (118, .return_, 1, 0, 0)]
def m_Orders_rehearse : xM := (5, false, none, 5, k_Orders_rehearse)
abbrev i_Orders_rehearse : Nat := 44
def k_Orders_judge : xK := [(0, .iload_n 1, 1, 0, 0), (1, .ifCond .ge 16, 3, 17, 0), (4, .aload_n 0, 1, 0, 0), (5, .iconst 2, 1, 2, 0), (6, .putfield 29, 3, 5, 3), (9, .aload_n 0, 1, 0, 0), 
  (10, .iload_n 1, 1, 0, 0), (11, .putfield 44, 3, 5, 4), (14, .goto 13, 3, 27, 0), (17, .aload_n 0, 1, 0, 0), (18, .dup, 1, 0, 0), (19, .getfield 22, 3, 5, 1), (22, .iconst 1, 1, 1, 0), 
  (23, .iadd, 1, 0, 0), (24, .putfield 22, 3, 5, 1), (27, .return_, 1, 0, 0)]
def m_Orders_judge : xM := (5, false, none, 2, k_Orders_judge)
abbrev i_Orders_judge : Nat := 45
def k_Orders_readOrder : xK := [(0, .aload_n 0, 1, 0, 0), (1, .aload_n 1, 1, 0, 0), (2, .aload_n 0, 1, 0, 0), (3, .getfield 26, 3, 5, 5), (6, .invokevirtual 64, 3, 67, 1), (9, .putfield 47, 3, 5, 6), 
  (12, .aload_n 0, 1, 0, 0), (13, .iconst 0, 1, 0, 0), (14, .putfield 50, 3, 5, 7), (17, .aload_n 0, 1, 0, 0), (18, .iconst 0, 1, 0, 0), (19, .putfield 53, 3, 5, 8), (22, .aload_n 0, 1, 0, 0), 
  (23, .getfield 47, 3, 5, 6), (26, .lookupswitch 183 #[(98, 50), (99, 50), (103, 165), (112, 93), (115, 165)], 50, 1, 0), (76, .aload_n 0, 1, 0, 0), (77, .dup, 1, 0, 0), (78, .getfield 26, 3, 5, 5), 
  (81, .iconst 1, 1, 1, 0), (82, .iadd, 1, 0, 0), (83, .putfield 26, 3, 5, 5), (86, .aload_n 0, 1, 0, 0), (87, .aload_n 0, 1, 0, 0), (88, .aload_n 1, 1, 0, 0), (89, .invokevirtual 68, 3, 48, 1), 
  (92, .putfield 50, 3, 5, 7), (95, .aload_n 0, 1, 0, 0), (96, .getfield 50, 3, 5, 7), (99, .iconst (-1), 1, 5, 0), (100, .if_icmp .eq 17, 3, 117, 0), (103, .aload_n 0, 1, 0, 0), (104, .aload_n 1, 1, 0, 0), 
  (105, .bipush 59, 2, 18, 0), (107, .invokevirtual 72, 3, 47, 2), (110, .ifCond .eq 7, 3, 117, 0), (113, .iconst 1, 1, 1, 0), (114, .goto 4, 3, 118, 0), (117, .iconst 0, 1, 0, 0), 
  (118, .ireturn, 1, 0, 0), (119, .aload_n 0, 1, 0, 0), (120, .dup, 1, 0, 0), (121, .getfield 26, 3, 5, 5), (124, .iconst 1, 1, 1, 0), (125, .iadd, 1, 0, 0), (126, .putfield 26, 3, 5, 5), 
  (129, .aload_n 0, 1, 0, 0), (130, .aload_n 0, 1, 0, 0), (131, .aload_n 1, 1, 0, 0), (132, .invokevirtual 68, 3, 48, 1), (135, .putfield 50, 3, 5, 7), (138, .aload_n 0, 1, 0, 0), (139, .getfield 50, 3, 5, 7), 
  (142, .iconst (-1), 1, 5, 0), (143, .if_icmp .eq 13, 3, 156, 0), (146, .aload_n 0, 1, 0, 0), (147, .aload_n 1, 1, 0, 0), (148, .bipush 44, 2, 28, 0), (150, .invokevirtual 72, 3, 47, 2), 
  (153, .ifCond .ne 5, 3, 158, 0), (156, .iconst 0, 1, 0, 0), (157, .ireturn, 1, 0, 0), (158, .aload_n 0, 1, 0, 0), (159, .aload_n 0, 1, 0, 0), (160, .aload_n 1, 1, 0, 0), (161, .invokevirtual 68, 3, 48, 1), 
  (164, .putfield 53, 3, 5, 8), (167, .aload_n 0, 1, 0, 0), (168, .getfield 53, 3, 5, 8), (171, .iconst (-1), 1, 5, 0), (172, .if_icmp .eq 17, 3, 189, 0), (175, .aload_n 0, 1, 0, 0), 
  (176, .aload_n 1, 1, 0, 0), (177, .bipush 59, 2, 18, 0), (179, .invokevirtual 72, 3, 47, 2), (182, .ifCond .eq 7, 3, 189, 0), (185, .iconst 1, 1, 1, 0), (186, .goto 4, 3, 190, 0), 
  (189, .iconst 0, 1, 0, 0), (190, .ireturn, 1, 0, 0), (191, .aload_n 0, 1, 0, 0), (192, .dup, 1, 0, 0), (193, .getfield 26, 3, 5, 5), (196, .iconst 1, 1, 1, 0), (197, .iadd, 1, 0, 0), 
  (198, .putfield 26, 3, 5, 5), (201, .aload_n 0, 1, 0, 0), (202, .aload_n 1, 1, 0, 0), (203, .bipush 59, 2, 18, 0), (205, .invokevirtual 72, 3, 47, 2), (208, .ireturn, 1, 0, 0), (209, .iconst 0, 1, 0, 0), 
  (210, .ireturn, 1, 0, 0)]
def m_Orders_readOrder : xM := (5, false, (some .boolean), 2, k_Orders_readOrder)
abbrev i_Orders_readOrder : Nat := 46
def k_Orders_passes : xK := [(0, .aload_n 1, 1, 0, 0), (1, .aload_n 0, 1, 0, 0), (2, .getfield 26, 3, 5, 5), (5, .invokevirtual 64, 3, 67, 1), (8, .iload_n 2, 1, 0, 0), (9, .if_icmp .eq 5, 3, 14, 0), 
  (12, .iconst 0, 1, 0, 0), (13, .ireturn, 1, 0, 0), (14, .aload_n 0, 1, 0, 0), (15, .dup, 1, 0, 0), (16, .getfield 26, 3, 5, 5), (19, .iconst 1, 1, 1, 0), (20, .iadd, 1, 0, 0), (21, .putfield 26, 3, 5, 5), 
  (24, .iconst 1, 1, 1, 0), (25, .ireturn, 1, 0, 0)]
def m_Orders_passes : xM := (5, false, (some .boolean), 3, k_Orders_passes)
abbrev i_Orders_passes : Nat := 47
def k_Orders_readNumber : xK := [(0, .iconst (-1), 1, 5, 0), (1, .istore_n 2, 1, 0, 0), (2, .iconst 0, 1, 0, 0), (3, .istore_n 3, 1, 0, 0), (4, .iload_n 3, 1, 0, 0), (5, .iconst 3, 1, 7, 0), 
  (6, .if_icmp .ge 58, 3, 64, 0), (9, .aload_n 1, 1, 0, 0), (10, .aload_n 0, 1, 0, 0), (11, .getfield 26, 3, 5, 5), (14, .invokevirtual 64, 3, 67, 1), (17, .istore 4, 2, 0, 0), (19, .iload 4, 2, 0, 0), 
  (21, .bipush 48, 2, 14, 0), (23, .bipush 57, 2, 38, 0), (25, .invokestatic 76, 3, 93, 3), (28, .ifCond .ne 5, 3, 33, 0), (31, .iload_n 2, 1, 0, 0), (32, .ireturn, 1, 0, 0), (33, .iload_n 2, 1, 0, 0), 
  (34, .iconst 0, 1, 0, 0), (35, .invokestatic 80, 3, 96, 2), (38, .bipush 10, 2, 10, 0), (40, .imul, 1, 0, 0), (41, .iload 4, 2, 0, 0), (43, .iadd, 1, 0, 0), (44, .bipush 48, 2, 14, 0), 
  (46, .isub, 1, 0, 0), (47, .istore_n 2, 1, 0, 0), (48, .aload_n 0, 1, 0, 0), (49, .dup, 1, 0, 0), (50, .getfield 26, 3, 5, 5), (53, .iconst 1, 1, 1, 0), (54, .iadd, 1, 0, 0), (55, .putfield 26, 3, 5, 5), 
  (58, .iinc 3 1, 3, 1, 0), (61, .goto (-57), 3, 4, 0), (64, .iload_n 2, 1, 0, 0), (65, .ireturn, 1, 0, 0)]
def m_Orders_readNumber : xM := (5, false, (some .int), 5, k_Orders_readNumber)
abbrev i_Orders_readNumber : Nat := 48
def k_Players_init : xK := [(0, .aload_n 0, 1, 0, 0), (1, .invokespecial 3, 3, 1000, 0), (4, .aload_n 0, 1, 0, 0), (5, .bipush 12, 2, 3, 0), (7, .newarray .int, 2, 0, 0), (9, .putfield 9, 3, 6, 0), 
  (12, .aload_n 0, 1, 0, 0), (13, .bipush 12, 2, 3, 0), (15, .newarray .int, 2, 0, 0), (17, .putfield 15, 3, 6, 1), (20, .aload_n 0, 1, 0, 0), (21, .bipush 12, 2, 3, 0), (23, .newarray .int, 2, 0, 0), 
  (25, .putfield 18, 3, 6, 2), (28, .aload_n 0, 1, 0, 0), (29, .bipush 12, 2, 3, 0), (31, .newarray .int, 2, 0, 0), (33, .putfield 21, 3, 6, 3), (36, .aload_n 0, 1, 0, 0), (37, .bipush 12, 2, 3, 0), 
  (39, .newarray .int, 2, 0, 0), (41, .putfield 24, 3, 6, 4), (44, .aload_n 0, 1, 0, 0), (45, .bipush 12, 2, 3, 0), (47, .newarray .int, 2, 0, 0), (49, .putfield 27, 3, 6, 5), (52, .aload_n 0, 1, 0, 0), 
  (53, .bipush 12, 2, 3, 0), (55, .newarray .int, 2, 0, 0), (57, .putfield 30, 3, 6, 6), (60, .aload_n 0, 1, 0, 0), (61, .bipush 12, 2, 3, 0), (63, .newarray .int, 2, 0, 0), (65, .putfield 33, 3, 6, 7), 
  (68, .return_, 1, 0, 0)]
def m_Players_init : xM := (6, true, none, 1, k_Players_init)
abbrev i_Players_init : Nat := 49
def k_Players_copyFrom : xK := [(0, .aload_n 1, 1, 0, 0), (1, .getfield 9, 3, 6, 0), (4, .iconst 0, 1, 0, 0), (5, .aload_n 0, 1, 0, 0), (6, .getfield 9, 3, 6, 0), (9, .iconst 0, 1, 0, 0), 
  (10, .bipush 12, 2, 3, 0), (12, .invokestatic 36, 3, 1001, 0), (15, .aload_n 1, 1, 0, 0), (16, .getfield 15, 3, 6, 1), (19, .iconst 0, 1, 0, 0), (20, .aload_n 0, 1, 0, 0), (21, .getfield 15, 3, 6, 1), 
  (24, .iconst 0, 1, 0, 0), (25, .bipush 12, 2, 3, 0), (27, .invokestatic 36, 3, 1001, 0), (30, .aload_n 1, 1, 0, 0), (31, .getfield 18, 3, 6, 2), (34, .iconst 0, 1, 0, 0), (35, .aload_n 0, 1, 0, 0), 
  (36, .getfield 18, 3, 6, 2), (39, .iconst 0, 1, 0, 0), (40, .bipush 12, 2, 3, 0), (42, .invokestatic 36, 3, 1001, 0), (45, .aload_n 1, 1, 0, 0), (46, .getfield 21, 3, 6, 3), (49, .iconst 0, 1, 0, 0), 
  (50, .aload_n 0, 1, 0, 0), (51, .getfield 21, 3, 6, 3), (54, .iconst 0, 1, 0, 0), (55, .bipush 12, 2, 3, 0), (57, .invokestatic 36, 3, 1001, 0), (60, .aload_n 1, 1, 0, 0), (61, .getfield 24, 3, 6, 4), 
  (64, .iconst 0, 1, 0, 0), (65, .aload_n 0, 1, 0, 0), (66, .getfield 24, 3, 6, 4), (69, .iconst 0, 1, 0, 0), (70, .bipush 12, 2, 3, 0), (72, .invokestatic 36, 3, 1001, 0), (75, .aload_n 1, 1, 0, 0), 
  (76, .getfield 27, 3, 6, 5), (79, .iconst 0, 1, 0, 0), (80, .aload_n 0, 1, 0, 0), (81, .getfield 27, 3, 6, 5), (84, .iconst 0, 1, 0, 0), (85, .bipush 12, 2, 3, 0), (87, .invokestatic 36, 3, 1001, 0), 
  (90, .aload_n 1, 1, 0, 0), (91, .getfield 30, 3, 6, 6), (94, .iconst 0, 1, 0, 0), (95, .aload_n 0, 1, 0, 0), (96, .getfield 30, 3, 6, 6), (99, .iconst 0, 1, 0, 0), (100, .bipush 12, 2, 3, 0), 
  (102, .invokestatic 36, 3, 1001, 0), (105, .aload_n 1, 1, 0, 0), (106, .getfield 33, 3, 6, 7), (109, .iconst 0, 1, 0, 0), (110, .aload_n 0, 1, 0, 0), (111, .getfield 33, 3, 6, 7), 
  (114, .iconst 0, 1, 0, 0), (115, .bipush 12, 2, 3, 0), (117, .invokestatic 36, 3, 1001, 0), (120, .aload_n 0, 1, 0, 0), (121, .aload_n 1, 1, 0, 0), (122, .getfield 42, 3, 6, 8), (125, .putfield 42, 3, 6, 8), 
  (128, .aload_n 0, 1, 0, 0), (129, .aload_n 1, 1, 0, 0), (130, .getfield 46, 3, 6, 9), (133, .putfield 46, 3, 6, 9), (136, .return_, 1, 0, 0)]
def m_Players_copyFrom : xM := (6, false, none, 2, k_Players_copyFrom)
abbrev i_Players_copyFrom : Nat := 50
def k_Players_has : xK := [(0, .iload_n 1, 1, 0, 0), (1, .ifCond .lt 15, 3, 16, 0), (4, .iload_n 1, 1, 0, 0), (5, .aload_n 0, 1, 0, 0), (6, .getfield 46, 3, 6, 9), (9, .if_icmp .ge 7, 3, 16, 0), 
  (12, .iconst 1, 1, 1, 0), (13, .goto 4, 3, 17, 0), (16, .iconst 0, 1, 0, 0), (17, .ireturn, 1, 0, 0)]
def m_Players_has : xM := (6, false, (some .boolean), 2, k_Players_has)
abbrev i_Players_has : Nat := 51
def k_Players_isPlaying : xK := [(0, .aload_n 0, 1, 0, 0), (1, .getfield 42, 3, 6, 8), (4, .iload_n 1, 1, 0, 0), (5, .ishr, 1, 0, 0), (6, .iconst 1, 1, 1, 0), (7, .iand, 1, 0, 0), (8, .iconst 1, 1, 1, 0), 
  (9, .if_icmp .ne 7, 3, 16, 0), (12, .iconst 1, 1, 1, 0), (13, .goto 4, 3, 17, 0), (16, .iconst 0, 1, 0, 0), (17, .ireturn, 1, 0, 0)]
def m_Players_isPlaying : xM := (6, false, (some .boolean), 2, k_Players_isPlaying)
abbrev i_Players_isPlaying : Nat := 52
def k_Players_hearsTone : xK := [(0, .aload_n 0, 1, 0, 0), (1, .getfield 15, 3, 6, 1), (4, .iload_n 1, 1, 0, 0), (5, .iaload, 1, 0, 0), (6, .iload_n 2, 1, 0, 0), (7, .ishr, 1, 0, 0), 
  (8, .iconst 1, 1, 1, 0), (9, .iand, 1, 0, 0), (10, .iconst 1, 1, 1, 0), (11, .if_icmp .ne 7, 3, 18, 0), (14, .iconst 1, 1, 1, 0), (15, .goto 4, 3, 19, 0), (18, .iconst 0, 1, 0, 0), 
  (19, .ireturn, 1, 0, 0)]
def m_Players_hearsTone : xM := (6, false, (some .boolean), 3, k_Players_hearsTone)
abbrev i_Players_hearsTone : Nat := 53
def k_Players_add : xK := [(0, .aload_n 0, 1, 0, 0), (1, .getfield 46, 3, 6, 9), (4, .bipush 12, 2, 3, 0), (6, .if_icmp .lt 6, 3, 12, 0), (9, .ldc 49, 2, 52, 0), (11, .ireturn, 1, 0, 0), 
  (12, .aload_n 0, 1, 0, 0), (13, .getfield 9, 3, 6, 0), (16, .aload_n 0, 1, 0, 0), (17, .getfield 46, 3, 6, 9), (20, .iload_n 1, 1, 0, 0), (21, .iastore, 1, 0, 0), (22, .aload_n 0, 1, 0, 0), 
  (23, .getfield 15, 3, 6, 1), (26, .aload_n 0, 1, 0, 0), (27, .getfield 46, 3, 6, 9), (30, .iload_n 2, 1, 0, 0), (31, .iastore, 1, 0, 0), (32, .aload_n 0, 1, 0, 0), (33, .getfield 18, 3, 6, 2), 
  (36, .aload_n 0, 1, 0, 0), (37, .getfield 46, 3, 6, 9), (40, .iconst 0, 1, 0, 0), (41, .iastore, 1, 0, 0), (42, .aload_n 0, 1, 0, 0), (43, .getfield 21, 3, 6, 3), (46, .aload_n 0, 1, 0, 0), 
  (47, .getfield 46, 3, 6, 9), (50, .iconst 0, 1, 0, 0), (51, .iastore, 1, 0, 0), (52, .aload_n 0, 1, 0, 0), (53, .getfield 24, 3, 6, 4), (56, .aload_n 0, 1, 0, 0), (57, .getfield 46, 3, 6, 9), 
  (60, .iconst 0, 1, 0, 0), (61, .iastore, 1, 0, 0), (62, .aload_n 0, 1, 0, 0), (63, .getfield 27, 3, 6, 5), (66, .aload_n 0, 1, 0, 0), (67, .getfield 46, 3, 6, 9), (70, .iconst 0, 1, 0, 0), 
  (71, .iastore, 1, 0, 0), (72, .aload_n 0, 1, 0, 0), (73, .getfield 30, 3, 6, 6), (76, .aload_n 0, 1, 0, 0), (77, .getfield 46, 3, 6, 9), (80, .iconst 0, 1, 0, 0), (81, .iastore, 1, 0, 0), 
  (82, .aload_n 0, 1, 0, 0), (83, .getfield 33, 3, 6, 7), (86, .aload_n 0, 1, 0, 0), (87, .getfield 46, 3, 6, 9), (90, .iconst 0, 1, 0, 0), (91, .iastore, 1, 0, 0), (92, .aload_n 0, 1, 0, 0), 
  (93, .dup, 1, 0, 0), (94, .getfield 42, 3, 6, 8), (97, .iconst 1, 1, 1, 0), (98, .aload_n 0, 1, 0, 0), (99, .getfield 46, 3, 6, 9), (102, .ishl, 1, 0, 0), (103, .ior, 1, 0, 0), (104, .putfield 42, 3, 6, 8), 
  (107, .aload_n 0, 1, 0, 0), (108, .dup, 1, 0, 0), (109, .getfield 46, 3, 6, 9), (112, .iconst 1, 1, 1, 0), (113, .iadd, 1, 0, 0), (114, .putfield 46, 3, 6, 9), (117, .aload_n 0, 1, 0, 0), 
  (118, .getfield 46, 3, 6, 9), (121, .iconst 1, 1, 1, 0), (122, .isub, 1, 0, 0), (123, .ireturn, 1, 0, 0)]
def m_Players_add : xM := (6, false, (some .int), 3, k_Players_add)
abbrev i_Players_add : Nat := 54
def k_Players_lineUp : xK := [(0, .iconst 0, 1, 0, 0), (1, .istore_n 2, 1, 0, 0), (2, .iconst 0, 1, 0, 0), (3, .istore_n 3, 1, 0, 0), (4, .iload_n 3, 1, 0, 0), (5, .aload_n 0, 1, 0, 0), 
  (6, .getfield 46, 3, 6, 9), (9, .if_icmp .ge 32, 3, 41, 0), (12, .aload_n 0, 1, 0, 0), (13, .iload_n 3, 1, 0, 0), (14, .invokevirtual 50, 3, 52, 1), (17, .ifCond .eq 18, 3, 35, 0), 
  (20, .aload_n 0, 1, 0, 0), (21, .getfield 18, 3, 6, 2), (24, .iload_n 3, 1, 0, 0), (25, .aload_n 1, 1, 0, 0), (26, .iconst 0, 1, 0, 0), (27, .iload_n 2, 1, 0, 0), (28, .invokevirtual 54, 3, 8, 2), 
  (31, .iastore, 1, 0, 0), (32, .iinc 2 1, 3, 1, 0), (35, .iinc 3 1, 3, 1, 0), (38, .goto (-34), 3, 4, 0), (41, .return_, 1, 0, 0)]
def m_Players_lineUp : xM := (6, false, none, 4, k_Players_lineUp)
abbrev i_Players_lineUp : Nat := 55
def k_Players_walk : xK := [(0, .iconst 0, 1, 0, 0), (1, .istore_n 3, 1, 0, 0), (2, .iload_n 3, 1, 0, 0), (3, .aload_n 0, 1, 0, 0), (4, .getfield 46, 3, 6, 9), (7, .if_icmp .ge 56, 3, 63, 0), 
  (10, .aload_n 0, 1, 0, 0), (11, .iload_n 3, 1, 0, 0), (12, .invokevirtual 50, 3, 52, 1), (15, .ifCond .eq 42, 3, 57, 0), (18, .aload_n 0, 1, 0, 0), (19, .getfield 9, 3, 6, 0), (22, .iload_n 3, 1, 0, 0), 
  (23, .iaload, 1, 0, 0), (24, .iload_n 2, 1, 0, 0), (25, .imul, 1, 0, 0), (26, .istore 4, 2, 0, 0), (28, .aload_n 0, 1, 0, 0), (29, .getfield 18, 3, 6, 2), (32, .iload_n 3, 1, 0, 0), 
  (33, .aload_n 1, 1, 0, 0), (34, .aload_n 0, 1, 0, 0), (35, .getfield 18, 3, 6, 2), (38, .iload_n 3, 1, 0, 0), (39, .iaload, 1, 0, 0), (40, .iload 4, 2, 0, 0), (42, .invokevirtual 54, 3, 8, 2), 
  (45, .iastore, 1, 0, 0), (46, .aload_n 0, 1, 0, 0), (47, .getfield 27, 3, 6, 5), (50, .iload_n 3, 1, 0, 0), (51, .dup2, 1, 0, 0), (52, .iaload, 1, 0, 0), (53, .iload 4, 2, 0, 0), 
  (55, .iadd, 1, 0, 0), (56, .iastore, 1, 0, 0), (57, .iinc 3 1, 3, 1, 0), (60, .goto (-58), 3, 2, 0), (63, .return_, 1, 0, 0)]
def m_Players_walk : xM := (6, false, none, 5, k_Players_walk)
abbrev i_Players_walk : Nat := 56
def k_Players_leave : xK := [(0, .aload_n 0, 1, 0, 0), (1, .dup, 1, 0, 0), (2, .getfield 42, 3, 6, 8), (5, .iconst 1, 1, 1, 0), (6, .iload_n 1, 1, 0, 0), (7, .ishl, 1, 0, 0), (8, .iconst (-1), 1, 5, 0), 
  (9, .ixor, 1, 0, 0), (10, .iand, 1, 0, 0), (11, .putfield 42, 3, 6, 8), (14, .aload_n 0, 1, 0, 0), (15, .getfield 30, 3, 6, 6), (18, .iload_n 1, 1, 0, 0), (19, .iload_n 2, 1, 0, 0), 
  (20, .iastore, 1, 0, 0), (21, .return_, 1, 0, 0)]
def m_Players_leave : xM := (6, false, none, 3, k_Players_leave)
abbrev i_Players_leave : Nat := 57
def k_Players_howManyPlay : xK := [(0, .aload_n 0, 1, 0, 0), (1, .getfield 42, 3, 6, 8), (4, .invokestatic 60, 3, 95, 1), (7, .ireturn, 1, 0, 0)]
def m_Players_howManyPlay : xM := (6, false, (some .int), 1, k_Players_howManyPlay)
abbrev i_Players_howManyPlay : Nat := 58
def k_Players_firstPlaying : xK := [(0, .iconst 0, 1, 0, 0), (1, .istore_n 1, 1, 0, 0), (2, .iload_n 1, 1, 0, 0), (3, .aload_n 0, 1, 0, 0), (4, .getfield 46, 3, 6, 9), (7, .if_icmp .ge 19, 3, 26, 0), 
  (10, .aload_n 0, 1, 0, 0), (11, .iload_n 1, 1, 0, 0), (12, .invokevirtual 50, 3, 52, 1), (15, .ifCond .eq 5, 3, 20, 0), (18, .iload_n 1, 1, 0, 0), (19, .ireturn, 1, 0, 0), (20, .iinc 1 1, 3, 1, 0), 
  (23, .goto (-21), 3, 2, 0), (26, .ldc 66, 2, 55, 0), (28, .ireturn, 1, 0, 0)]
def m_Players_firstPlaying : xM := (6, false, (some .int), 2, k_Players_firstPlaying)
abbrev i_Players_firstPlaying : Nat := 59
def k_Players_allSittings : xK := [(0, .aload_n 0, 1, 0, 0), (1, .aload_n 0, 1, 0, 0), (2, .getfield 21, 3, 6, 3), (5, .invokevirtual 67, 3, 63, 1), (8, .ireturn, 1, 0, 0)]
def m_Players_allSittings : xM := (6, false, (some .int), 1, k_Players_allSittings)
abbrev i_Players_allSittings : Nat := 60
def k_Players_allBumps : xK := [(0, .aload_n 0, 1, 0, 0), (1, .aload_n 0, 1, 0, 0), (2, .getfield 24, 3, 6, 4), (5, .invokevirtual 67, 3, 63, 1), (8, .ireturn, 1, 0, 0)]
def m_Players_allBumps : xM := (6, false, (some .int), 1, k_Players_allBumps)
abbrev i_Players_allBumps : Nat := 61
def k_Players_allSteps : xK := [(0, .aload_n 0, 1, 0, 0), (1, .aload_n 0, 1, 0, 0), (2, .getfield 27, 3, 6, 5), (5, .invokevirtual 67, 3, 63, 1), (8, .ireturn, 1, 0, 0)]
def m_Players_allSteps : xM := (6, false, (some .int), 1, k_Players_allSteps)
abbrev i_Players_allSteps : Nat := 62
def k_Players_sum : xK := [(0, .iconst 0, 1, 0, 0), (1, .istore_n 2, 1, 0, 0), (2, .iconst 0, 1, 0, 0), (3, .istore_n 3, 1, 0, 0), (4, .iload_n 3, 1, 0, 0), (5, .aload_n 0, 1, 0, 0), 
  (6, .getfield 46, 3, 6, 9), (9, .if_icmp .ge 15, 3, 24, 0), (12, .iload_n 2, 1, 0, 0), (13, .aload_n 1, 1, 0, 0), (14, .iload_n 3, 1, 0, 0), (15, .iaload, 1, 0, 0), (16, .iadd, 1, 0, 0), 
  (17, .istore_n 2, 1, 0, 0), (18, .iinc 3 1, 3, 1, 0), (21, .goto (-17), 3, 4, 0), (24, .iload_n 2, 1, 0, 0), (25, .ireturn, 1, 0, 0)]
def m_Players_sum : xM := (6, false, (some .int), 4, k_Players_sum)
abbrev i_Players_sum : Nat := 63
def k_Text_init : xK := [(0, .aload_n 0, 1, 0, 0), (1, .invokespecial 3, 3, 1000, 0), (4, .aload_n 0, 1, 0, 0), (5, .bipush 60, 2, 23, 0), (7, .newarray .int, 2, 0, 0), (9, .putfield 9, 3, 7, 0), 
  (12, .return_, 1, 0, 0)]
def m_Text_init : xM := (7, true, none, 1, k_Text_init)
abbrev i_Text_init : Nat := 64
def k_Text_append : xK := [(0, .iload_n 1, 1, 0, 0), (1, .bipush 32, 2, 39, 0), (3, .bipush 126, 2, 29, 0), (5, .invokestatic 15, 3, 93, 3), (8, .ifCond .ne 6, 3, 14, 0), (11, .ldc 19, 2, 53, 0), 
  (13, .ireturn, 1, 0, 0), (14, .aload_n 0, 1, 0, 0), (15, .getfield 20, 3, 7, 1), (18, .bipush 60, 2, 23, 0), (20, .if_icmp .lt 6, 3, 26, 0), (23, .ldc 24, 2, 52, 0), (25, .ireturn, 1, 0, 0), 
  (26, .aload_n 0, 1, 0, 0), (27, .getfield 9, 3, 7, 0), (30, .aload_n 0, 1, 0, 0), (31, .getfield 20, 3, 7, 1), (34, .iload_n 1, 1, 0, 0), (35, .iastore, 1, 0, 0), (36, .aload_n 0, 1, 0, 0), 
  (37, .dup, 1, 0, 0), (38, .getfield 20, 3, 7, 1), (41, .iconst 1, 1, 1, 0), (42, .iadd, 1, 0, 0), (43, .putfield 20, 3, 7, 1), (46, .aload_n 0, 1, 0, 0), (47, .getfield 20, 3, 7, 1), 
  (50, .ireturn, 1, 0, 0)]
def m_Text_append : xM := (7, false, (some .int), 2, k_Text_append)
abbrev i_Text_append : Nat := 65
def k_Text_clear : xK := [(0, .aload_n 0, 1, 0, 0), (1, .getfield 20, 3, 7, 1), (4, .istore_n 1, 1, 0, 0), (5, .aload_n 0, 1, 0, 0), (6, .iconst 0, 1, 0, 0), (7, .putfield 20, 3, 7, 1), 
  (10, .iload_n 1, 1, 0, 0), (11, .ireturn, 1, 0, 0)]
def m_Text_clear : xM := (7, false, (some .int), 2, k_Text_clear)
abbrev i_Text_clear : Nat := 66
def k_Text_signAt : xK := [(0, .iload_n 1, 1, 0, 0), (1, .ifCond .lt 20, 3, 21, 0), (4, .iload_n 1, 1, 0, 0), (5, .aload_n 0, 1, 0, 0), (6, .getfield 20, 3, 7, 1), (9, .if_icmp .ge 12, 3, 21, 0), 
  (12, .aload_n 0, 1, 0, 0), (13, .getfield 9, 3, 7, 0), (16, .iload_n 1, 1, 0, 0), (17, .iaload, 1, 0, 0), (18, .goto 4, 3, 22, 0), (21, .iconst (-1), 1, 5, 0), (22, .ireturn, 1, 0, 0)]
def m_Text_signAt : xM := (7, false, (some .int), 2, k_Text_signAt)
abbrev i_Text_signAt : Nat := 67
def k_Bc_init : xK := [(0, .aload_n 0, 1, 0, 0), (1, .invokespecial 1, 3, 1000, 0), (4, .aload_n 0, 1, 0, 0), (5, .new 7, 3, 2, 0), (8, .dup, 1, 0, 0), (9, .invokespecial 9, 3, 14, 0), 
  (12, .putfield 10, 3, 8, 0), (15, .aload_n 0, 1, 0, 0), (16, .new 16, 3, 4, 0), (19, .dup, 1, 0, 0), (20, .invokespecial 18, 3, 39, 0), (23, .putfield 19, 3, 8, 1), (26, .aload_n 0, 1, 0, 0), 
  (27, .new 23, 3, 3, 0), (30, .dup, 1, 0, 0), (31, .invokespecial 25, 3, 28, 0), (34, .putfield 26, 3, 8, 2), (37, .aload_n 0, 1, 0, 0), (38, .new 30, 3, 7, 0), (41, .dup, 1, 0, 0), 
  (42, .invokespecial 32, 3, 64, 0), (45, .putfield 33, 3, 8, 3), (48, .aload_n 0, 1, 0, 0), (49, .new 37, 3, 5, 0), (52, .dup, 1, 0, 0), (53, .invokespecial 39, 3, 43, 0), (56, .putfield 40, 3, 8, 4), 
  (59, .return_, 1, 0, 0)]
def m_Bc_init : xM := (8, true, none, 1, k_Bc_init)
abbrev i_Bc_init : Nat := 68
def k_Bc_chair : xK := [(0, .aload_n 0, 1, 0, 0), (1, .getfield 19, 3, 8, 1), (4, .aload_n 0, 1, 0, 0), (5, .getfield 10, 3, 8, 0), (8, .invokevirtual 44, 3, 40, 1), (11, .aload_n 0, 1, 0, 0), 
  (12, .getfield 19, 3, 8, 1), (15, .aload_n 0, 1, 0, 0), (16, .getfield 10, 3, 8, 0), (19, .iload_n 1, 1, 0, 0), (20, .invokevirtual 48, 3, 16, 1), (23, .invokevirtual 52, 3, 41, 1), 
  (26, .ireturn, 1, 0, 0)]
def m_Bc_chair : xM := (8, false, (some .int), 2, k_Bc_chair)
abbrev i_Bc_chair : Nat := 69
def k_Bc_player : xK := [(0, .aload_n 0, 1, 0, 0), (1, .getfield 19, 3, 8, 1), (4, .aload_n 0, 1, 0, 0), (5, .getfield 10, 3, 8, 0), (8, .invokevirtual 44, 3, 40, 1), (11, .aload_n 0, 1, 0, 0), 
  (12, .getfield 19, 3, 8, 1), (15, .aload_n 0, 1, 0, 0), (16, .getfield 10, 3, 8, 0), (19, .iload_n 1, 1, 0, 0), (20, .iload_n 2, 1, 0, 0), (21, .invokevirtual 55, 3, 17, 2), (24, .invokevirtual 52, 3, 41, 1), 
  (27, .ireturn, 1, 0, 0)]
def m_Bc_player : xM := (8, false, (some .int), 3, k_Bc_player)
abbrev i_Bc_player : Nat := 70
def k_Bc_tune : xK := [(0, .aload_n 0, 1, 0, 0), (1, .getfield 19, 3, 8, 1), (4, .aload_n 0, 1, 0, 0), (5, .getfield 10, 3, 8, 0), (8, .invokevirtual 44, 3, 40, 1), (11, .aload_n 0, 1, 0, 0), 
  (12, .getfield 19, 3, 8, 1), (15, .aload_n 0, 1, 0, 0), (16, .getfield 10, 3, 8, 0), (19, .iload_n 1, 1, 0, 0), (20, .iload_n 2, 1, 0, 0), (21, .invokevirtual 59, 3, 18, 2), (24, .invokevirtual 52, 3, 41, 1), 
  (27, .ireturn, 1, 0, 0)]
def m_Bc_tune : xM := (8, false, (some .int), 3, k_Bc_tune)
abbrev i_Bc_tune : Nat := 71
def k_Bc_train : xK := [(0, .aload_n 0, 1, 0, 0), (1, .getfield 19, 3, 8, 1), (4, .aload_n 0, 1, 0, 0), (5, .getfield 10, 3, 8, 0), (8, .invokevirtual 44, 3, 40, 1), (11, .aload_n 0, 1, 0, 0), 
  (12, .getfield 19, 3, 8, 1), (15, .aload_n 0, 1, 0, 0), (16, .getfield 10, 3, 8, 0), (19, .iload_n 1, 1, 0, 0), (20, .iload_n 2, 1, 0, 0), (21, .iload_n 3, 1, 0, 0), (22, .invokevirtual 62, 3, 19, 3), 
  (25, .invokevirtual 52, 3, 41, 1), (28, .ireturn, 1, 0, 0)]
def m_Bc_train : xM := (8, false, (some .int), 4, k_Bc_train)
abbrev i_Bc_train : Nat := 72
def k_Bc_start : xK := [(0, .aload_n 0, 1, 0, 0), (1, .getfield 19, 3, 8, 1), (4, .aload_n 0, 1, 0, 0), (5, .getfield 10, 3, 8, 0), (8, .invokevirtual 44, 3, 40, 1), (11, .aload_n 0, 1, 0, 0), 
  (12, .getfield 19, 3, 8, 1), (15, .aload_n 0, 1, 0, 0), (16, .getfield 10, 3, 8, 0), (19, .invokevirtual 66, 3, 20, 0), (22, .invokevirtual 52, 3, 41, 1), (25, .ireturn, 1, 0, 0)]
def m_Bc_start : xM := (8, false, (some .int), 1, k_Bc_start)
abbrev i_Bc_start : Nat := 73
def k_Bc_beat : xK := [(0, .aload_n 0, 1, 0, 0), (1, .getfield 19, 3, 8, 1), (4, .aload_n 0, 1, 0, 0), (5, .getfield 10, 3, 8, 0), (8, .invokevirtual 44, 3, 40, 1), (11, .aload_n 0, 1, 0, 0), 
  (12, .getfield 19, 3, 8, 1), (15, .aload_n 0, 1, 0, 0), (16, .getfield 10, 3, 8, 0), (19, .iload_n 1, 1, 0, 0), (20, .invokevirtual 70, 3, 21, 1), (23, .invokevirtual 52, 3, 41, 1), 
  (26, .ireturn, 1, 0, 0)]
def m_Bc_beat : xM := (8, false, (some .int), 2, k_Bc_beat)
abbrev i_Bc_beat : Nat := 74
def k_Bc_stop : xK := [(0, .aload_n 0, 1, 0, 0), (1, .getfield 19, 3, 8, 1), (4, .aload_n 0, 1, 0, 0), (5, .getfield 10, 3, 8, 0), (8, .invokevirtual 44, 3, 40, 1), (11, .aload_n 0, 1, 0, 0), 
  (12, .getfield 19, 3, 8, 1), (15, .aload_n 0, 1, 0, 0), (16, .getfield 10, 3, 8, 0), (19, .aload_n 0, 1, 0, 0), (20, .getfield 26, 3, 8, 2), (23, .invokevirtual 73, 3, 22, 1), (26, .invokevirtual 52, 3, 41, 1), 
  (29, .ireturn, 1, 0, 0)]
def m_Bc_stop : xM := (8, false, (some .int), 1, k_Bc_stop)
abbrev i_Bc_stop : Nat := 75
def k_Bc_set : xK := [(0, .aload_n 0, 1, 0, 0), (1, .getfield 19, 3, 8, 1), (4, .aload_n 0, 1, 0, 0), (5, .getfield 10, 3, 8, 0), (8, .invokevirtual 44, 3, 40, 1), (11, .aload_n 0, 1, 0, 0), 
  (12, .getfield 19, 3, 8, 1), (15, .aload_n 0, 1, 0, 0), (16, .getfield 10, 3, 8, 0), (19, .iload_n 1, 1, 0, 0), (20, .iload_n 2, 1, 0, 0), (21, .invokevirtual 77, 3, 23, 2), (24, .invokevirtual 52, 3, 41, 1), 
  (27, .ireturn, 1, 0, 0)]
def m_Bc_set : xM := (8, false, (some .int), 3, k_Bc_set)
abbrev i_Bc_set : Nat := 76
def k_Bc_chairOf : xK := [(0, .aload_n 0, 1, 0, 0), (1, .getfield 10, 3, 8, 0), (4, .getfield 80, 3, 2, 0), (7, .astore_n 3, 1, 0, 0), (8, .aload_n 3, 1, 0, 0), (9, .iload_n 1, 1, 0, 0), 
  (10, .invokevirtual 84, 3, 6, 1), (13, .ifCond .ne 6, 3, 19, 0), (16, .ldc 90, 2, 53, 0), (18, .ireturn, 1, 0, 0), (19, .iload_n 2, 1, 0, 0), (20, .tableswitch 67 0 2 #[28, 35, 42], 28, 2, 0), 
  (48, .aload_n 3, 1, 0, 0), (49, .getfield 91, 3, 1, 0), (52, .iload_n 1, 1, 0, 0), (53, .iaload, 1, 0, 0), (54, .ireturn, 1, 0, 0), (55, .aload_n 3, 1, 0, 0), (56, .getfield 95, 3, 1, 1), 
  (59, .iload_n 1, 1, 0, 0), (60, .iaload, 1, 0, 0), (61, .ireturn, 1, 0, 0), (62, .aload_n 3, 1, 0, 0), (63, .getfield 98, 3, 1, 2), (66, .iload_n 1, 1, 0, 0), (67, .iaload, 1, 0, 0), 
  (68, .iconst (-1), 1, 5, 0), (69, .if_icmp .eq 7, 3, 76, 0), (72, .iconst 1, 1, 1, 0), (73, .goto 4, 3, 77, 0), (76, .iconst 0, 1, 0, 0), (77, .aload_n 3, 1, 0, 0), (78, .getfield 98, 3, 1, 2), 
  (81, .iload_n 1, 1, 0, 0), (82, .iaload, 1, 0, 0), (83, .invokestatic 101, 3, 92, 2), (86, .ireturn, 1, 0, 0), (87, .ldc 90, 2, 53, 0), (89, .ireturn, 1, 0, 0)]
def m_Bc_chairOf : xM := (8, false, (some .int), 4, k_Bc_chairOf)
abbrev i_Bc_chairOf : Nat := 77
def k_Bc_playerOf : xK := [(0, .aload_n 0, 1, 0, 0), (1, .getfield 10, 3, 8, 0), (4, .getfield 105, 3, 2, 1), (7, .astore_n 3, 1, 0, 0), (8, .aload_n 3, 1, 0, 0), (9, .iload_n 1, 1, 0, 0), 
  (10, .invokevirtual 109, 3, 51, 1), (13, .ifCond .ne 6, 3, 19, 0), (16, .ldc 90, 2, 53, 0), (18, .ireturn, 1, 0, 0), (19, .aload_n 3, 1, 0, 0), (20, .iload_n 1, 1, 0, 0), (21, .invokevirtual 112, 3, 52, 1), 
  (24, .istore 4, 2, 0, 0), (26, .iload_n 2, 1, 0, 0), (27, .tableswitch 170 0 8 #[49, 56, 63, 74, 105, 112, 119, 126, 146], 49, 3, 0), (76, .aload_n 3, 1, 0, 0), (77, .getfield 115, 3, 6, 0), 
  (80, .iload_n 1, 1, 0, 0), (81, .iaload, 1, 0, 0), (82, .ireturn, 1, 0, 0), (83, .aload_n 3, 1, 0, 0), (84, .getfield 118, 3, 6, 1), (87, .iload_n 1, 1, 0, 0), (88, .iaload, 1, 0, 0), 
  (89, .ireturn, 1, 0, 0), (90, .iload 4, 2, 0, 0), (92, .ifCond .eq 7, 3, 99, 0), (95, .iconst 1, 1, 1, 0), (96, .goto 4, 3, 100, 0), (99, .iconst 0, 1, 0, 0), (100, .ireturn, 1, 0, 0), 
  (101, .aload_n 0, 1, 0, 0), (102, .getfield 10, 3, 8, 0), (105, .getfield 121, 3, 2, 3), (108, .iconst 1, 1, 1, 0), (109, .if_icmp .ne 12, 3, 121, 0), (112, .iload 4, 2, 0, 0), (114, .ifCond .eq 7, 3, 121, 0), 
  (117, .iconst 1, 1, 1, 0), (118, .goto 4, 3, 122, 0), (121, .iconst 0, 1, 0, 0), (122, .aload_n 3, 1, 0, 0), (123, .getfield 125, 3, 6, 2), (126, .iload_n 1, 1, 0, 0), (127, .iaload, 1, 0, 0), 
  (128, .invokestatic 101, 3, 92, 2), (131, .ireturn, 1, 0, 0), (132, .aload_n 3, 1, 0, 0), (133, .getfield 128, 3, 6, 3), (136, .iload_n 1, 1, 0, 0), (137, .iaload, 1, 0, 0), (138, .ireturn, 1, 0, 0), 
  (139, .aload_n 3, 1, 0, 0), (140, .getfield 129, 3, 6, 4), (143, .iload_n 1, 1, 0, 0), (144, .iaload, 1, 0, 0), (145, .ireturn, 1, 0, 0), (146, .aload_n 3, 1, 0, 0), (147, .getfield 132, 3, 6, 5), 
  (150, .iload_n 1, 1, 0, 0), (151, .iaload, 1, 0, 0), (152, .ireturn, 1, 0, 0), (153, .iload 4, 2, 0, 0), (155, .ifCond .ne 7, 3, 162, 0), (158, .iconst 1, 1, 1, 0), (159, .goto 4, 3, 163, 0), 
  (162, .iconst 0, 1, 0, 0), (163, .aload_n 3, 1, 0, 0), (164, .getfield 135, 3, 6, 6), (167, .iload_n 1, 1, 0, 0), (168, .iaload, 1, 0, 0), (169, .invokestatic 101, 3, 92, 2), (172, .ireturn, 1, 0, 0), 
  (173, .aload_n 3, 1, 0, 0), (174, .getfield 138, 3, 6, 7), (177, .iload_n 1, 1, 0, 0), (178, .iaload, 1, 0, 0), (179, .ifCond .le 7, 3, 186, 0), (182, .iconst 1, 1, 1, 0), (183, .goto 4, 3, 187, 0), 
  (186, .iconst 0, 1, 0, 0), (187, .aload_n 3, 1, 0, 0), (188, .getfield 138, 3, 6, 7), (191, .iload_n 1, 1, 0, 0), (192, .iaload, 1, 0, 0), (193, .invokestatic 101, 3, 92, 2), (196, .ireturn, 1, 0, 0), 
  (197, .ldc 90, 2, 53, 0), (199, .ireturn, 1, 0, 0)]
def m_Bc_playerOf : xM := (8, false, (some .int), 5, k_Bc_playerOf)
abbrev i_Bc_playerOf : Nat := 78
def k_Bc_hears : xK := [(0, .aload_n 0, 1, 0, 0), (1, .getfield 10, 3, 8, 0), (4, .getfield 105, 3, 2, 1), (7, .iload_n 1, 1, 0, 0), (8, .invokevirtual 109, 3, 51, 1), (11, .ifCond .eq 17, 3, 28, 0), 
  (14, .aload_n 0, 1, 0, 0), (15, .getfield 10, 3, 8, 0), (18, .getfield 80, 3, 2, 0), (21, .iload_n 2, 1, 0, 0), (22, .invokevirtual 84, 3, 6, 1), (25, .ifCond .ne 6, 3, 31, 0), (28, .ldc 90, 2, 53, 0), 
  (30, .ireturn, 1, 0, 0), (31, .aload_n 0, 1, 0, 0), (32, .getfield 10, 3, 8, 0), (35, .getfield 105, 3, 2, 1), (38, .iload_n 1, 1, 0, 0), (39, .aload_n 0, 1, 0, 0), (40, .getfield 10, 3, 8, 0), 
  (43, .getfield 80, 3, 2, 0), (46, .getfield 91, 3, 1, 0), (49, .iload_n 2, 1, 0, 0), (50, .iaload, 1, 0, 0), (51, .invokevirtual 141, 3, 53, 2), (54, .ifCond .eq 7, 3, 61, 0), (57, .iconst 1, 1, 1, 0), 
  (58, .goto 4, 3, 62, 0), (61, .iconst 0, 1, 0, 0), (62, .ireturn, 1, 0, 0)]
def m_Bc_hears : xM := (8, false, (some .int), 3, k_Bc_hears)
abbrev i_Bc_hears : Nat := 79
def k_Bc_bell : xK := [(0, .iload_n 1, 1, 0, 0), (1, .ifCond .lt 12, 3, 13, 0), (4, .iload_n 2, 1, 0, 0), (5, .ifCond .lt 8, 3, 13, 0), (8, .iload_n 2, 1, 0, 0), (9, .iconst 4, 1, 4, 0), 
  (10, .if_icmp .le 6, 3, 16, 0), (13, .ldc 90, 2, 53, 0), (15, .ireturn, 1, 0, 0), (16, .aload_n 0, 1, 0, 0), (17, .getfield 10, 3, 8, 0), (20, .getfield 145, 3, 2, 2), (23, .astore_n 3, 1, 0, 0), 
  (24, .iload_n 1, 1, 0, 0), (25, .aload_n 3, 1, 0, 0), (26, .getfield 149, 3, 0, 6), (29, .if_icmp .lt 6, 3, 35, 0), (32, .ldc 154, 2, 55, 0), (34, .ireturn, 1, 0, 0), (35, .aload_n 3, 1, 0, 0), 
  (36, .iload_n 1, 1, 0, 0), (37, .invokevirtual 155, 3, 3, 1), (40, .istore 4, 2, 0, 0), (42, .iload_n 2, 1, 0, 0), (43, .tableswitch 61 0 3 #[29, 37, 45, 53], 29, 4, 0), (72, .aload_n 3, 1, 0, 0), 
  (73, .getfield 158, 3, 0, 0), (76, .iload 4, 2, 0, 0), (78, .iaload, 1, 0, 0), (79, .ireturn, 1, 0, 0), (80, .aload_n 3, 1, 0, 0), (81, .getfield 161, 3, 0, 1), (84, .iload 4, 2, 0, 0), 
  (86, .iaload, 1, 0, 0), (87, .ireturn, 1, 0, 0), (88, .aload_n 3, 1, 0, 0), (89, .getfield 164, 3, 0, 2), (92, .iload 4, 2, 0, 0), (94, .iaload, 1, 0, 0), (95, .ireturn, 1, 0, 0), 
  (96, .aload_n 3, 1, 0, 0), (97, .getfield 165, 3, 0, 3), (100, .iload 4, 2, 0, 0), (102, .iaload, 1, 0, 0), (103, .ireturn, 1, 0, 0), (104, .aload_n 3, 1, 0, 0), (105, .getfield 166, 3, 0, 4), 
  (108, .iload 4, 2, 0, 0), (110, .iaload, 1, 0, 0), (111, .ireturn, 1, 0, 0)]
def m_Bc_bell : xM := (8, false, (some .int), 5, k_Bc_bell)
abbrev i_Bc_bell : Nat := 80
def k_Bc_ifStopped : xK := [(0, .aload_n 0, 1, 0, 0), (1, .getfield 10, 3, 8, 0), (4, .getfield 105, 3, 2, 1), (7, .iload_n 1, 1, 0, 0), (8, .invokevirtual 109, 3, 51, 1), (11, .ifCond .eq 12, 3, 23, 0), 
  (14, .iload_n 2, 1, 0, 0), (15, .ifCond .lt 8, 3, 23, 0), (18, .iload_n 2, 1, 0, 0), (19, .iconst 2, 1, 2, 0), (20, .if_icmp .le 6, 3, 26, 0), (23, .ldc 90, 2, 53, 0), (25, .ireturn, 1, 0, 0), 
  (26, .aload_n 0, 1, 0, 0), (27, .getfield 10, 3, 8, 0), (30, .getfield 121, 3, 2, 3), (33, .iconst 1, 1, 1, 0), (34, .if_icmp .ne 17, 3, 51, 0), (37, .aload_n 0, 1, 0, 0), (38, .getfield 10, 3, 8, 0), 
  (41, .getfield 105, 3, 2, 1), (44, .iload_n 1, 1, 0, 0), (45, .invokevirtual 112, 3, 52, 1), (48, .ifCond .ne 6, 3, 54, 0), (51, .ldc 169, 2, 54, 0), (53, .ireturn, 1, 0, 0), (54, .aload_n 0, 1, 0, 0), 
  (55, .getfield 26, 3, 8, 2), (58, .aload_n 0, 1, 0, 0), (59, .getfield 10, 3, 8, 0), (62, .getfield 80, 3, 2, 0), (65, .aload_n 0, 1, 0, 0), (66, .getfield 10, 3, 8, 0), (69, .getfield 105, 3, 2, 1), 
  (72, .iconst 0, 1, 0, 0), (73, .invokevirtual 170, 3, 29, 3), (76, .iload_n 2, 1, 0, 0), (77, .lookupswitch 68 #[(0, 27), (1, 58)], 27, 5, 0), (104, .aload_n 0, 1, 0, 0), (105, .getfield 26, 3, 8, 2), 
  (108, .getfield 174, 3, 3, 4), (111, .iload_n 1, 1, 0, 0), (112, .iaload, 1, 0, 0), (113, .iconst (-1), 1, 5, 0), (114, .if_icmp .eq 7, 3, 121, 0), (117, .iconst 1, 1, 1, 0), (118, .goto 4, 3, 122, 0), 
  (121, .iconst 0, 1, 0, 0), (122, .aload_n 0, 1, 0, 0), (123, .getfield 26, 3, 8, 2), (126, .getfield 174, 3, 3, 4), (129, .iload_n 1, 1, 0, 0), (130, .iaload, 1, 0, 0), (131, .invokestatic 101, 3, 92, 2), 
  (134, .ireturn, 1, 0, 0), (135, .aload_n 0, 1, 0, 0), (136, .getfield 26, 3, 8, 2), (139, .getfield 177, 3, 3, 5), (142, .iload_n 1, 1, 0, 0), (143, .iaload, 1, 0, 0), (144, .ireturn, 1, 0, 0), 
  (145, .aload_n 0, 1, 0, 0), (146, .getfield 26, 3, 8, 2), (149, .getfield 178, 3, 3, 6), (152, .iload_n 1, 1, 0, 0), (153, .iaload, 1, 0, 0), (154, .ireturn, 1, 0, 0)]
def m_Bc_ifStopped : xM := (8, false, (some .int), 3, k_Bc_ifStopped)
abbrev i_Bc_ifStopped : Nat := 81
def k_Bc_outs : xK := [(0, .aload_n 0, 1, 0, 0), (1, .getfield 10, 3, 8, 0), (4, .getfield 121, 3, 2, 3), (7, .iconst 1, 1, 1, 0), (8, .if_icmp .eq 6, 3, 14, 0), (11, .ldc 169, 2, 54, 0), 
  (13, .ireturn, 1, 0, 0), (14, .aload_n 0, 1, 0, 0), (15, .getfield 26, 3, 8, 2), (18, .aload_n 0, 1, 0, 0), (19, .getfield 10, 3, 8, 0), (22, .getfield 80, 3, 2, 0), (25, .aload_n 0, 1, 0, 0), 
  (26, .getfield 10, 3, 8, 0), (29, .getfield 105, 3, 2, 1), (32, .iconst 0, 1, 0, 0), (33, .invokevirtual 170, 3, 29, 3), (36, .aload_n 0, 1, 0, 0), (37, .getfield 26, 3, 8, 2), (40, .getfield 179, 3, 3, 10), 
  (43, .ireturn, 1, 0, 0)]
def m_Bc_outs : xM := (8, false, (some .int), 1, k_Bc_outs)
abbrev i_Bc_outs : Nat := 82
def k_Bc_safeIn : xK := [(0, .aload_n 0, 1, 0, 0), (1, .getfield 10, 3, 8, 0), (4, .getfield 105, 3, 2, 1), (7, .iload_n 1, 1, 0, 0), (8, .invokevirtual 109, 3, 51, 1), (11, .ifCond .ne 6, 3, 17, 0), 
  (14, .ldc 90, 2, 53, 0), (16, .ireturn, 1, 0, 0), (17, .aload_n 0, 1, 0, 0), (18, .getfield 10, 3, 8, 0), (21, .getfield 121, 3, 2, 3), (24, .iconst 1, 1, 1, 0), (25, .if_icmp .ne 17, 3, 42, 0), 
  (28, .aload_n 0, 1, 0, 0), (29, .getfield 10, 3, 8, 0), (32, .getfield 105, 3, 2, 1), (35, .iload_n 1, 1, 0, 0), (36, .invokevirtual 112, 3, 52, 1), (39, .ifCond .ne 6, 3, 45, 0), 
  (42, .ldc 169, 2, 54, 0), (44, .ireturn, 1, 0, 0), (45, .iconst 0, 1, 0, 0), (46, .istore_n 2, 1, 0, 0), (47, .iload_n 2, 1, 0, 0), (48, .bipush 24, 2, 24, 0), (50, .if_icmp .gt 46, 3, 96, 0), 
  (53, .aload_n 0, 1, 0, 0), (54, .getfield 26, 3, 8, 2), (57, .aload_n 0, 1, 0, 0), (58, .getfield 10, 3, 8, 0), (61, .getfield 80, 3, 2, 0), (64, .aload_n 0, 1, 0, 0), (65, .getfield 10, 3, 8, 0), 
  (68, .getfield 105, 3, 2, 1), (71, .iload_n 2, 1, 0, 0), (72, .invokevirtual 170, 3, 29, 3), (75, .aload_n 0, 1, 0, 0), (76, .getfield 26, 3, 8, 2), (79, .getfield 174, 3, 3, 4), 
  (82, .iload_n 1, 1, 0, 0), (83, .iaload, 1, 0, 0), (84, .iconst (-1), 1, 5, 0), (85, .if_icmp .eq 5, 3, 90, 0), (88, .iload_n 2, 1, 0, 0), (89, .ireturn, 1, 0, 0), (90, .iinc 2 1, 3, 1, 0), 
  (93, .goto (-46), 3, 47, 0), (96, .ldc 154, 2, 55, 0), (98, .ireturn, 1, 0, 0)]
def m_Bc_safeIn : xM := (8, false, (some .int), 3, k_Bc_safeIn)
abbrev i_Bc_safeIn : Nat := 83
def k_Bc_mean : xK := [(0, .aload_n 0, 1, 0, 0), (1, .getfield 10, 3, 8, 0), (4, .getfield 105, 3, 2, 1), (7, .getfield 182, 3, 6, 9), (10, .istore_n 1, 1, 0, 0), (11, .iload_n 1, 1, 0, 0), 
  (12, .iconst 1, 1, 1, 0), (13, .if_icmp .ge 6, 3, 19, 0), (16, .ldc 154, 2, 55, 0), (18, .ireturn, 1, 0, 0), (19, .aload_n 0, 1, 0, 0), (20, .getfield 10, 3, 8, 0), (23, .getfield 105, 3, 2, 1), 
  (26, .invokevirtual 185, 3, 61, 0), (29, .i2f, 1, 0, 0), (30, .iload_n 1, 1, 0, 0), (31, .i2f, 1, 0, 0), (32, .fdiv, 1, 0, 0), (33, .invokestatic 188, 3, 94, 1), (36, .ireturn, 1, 0, 0)]
def m_Bc_mean : xM := (8, false, (some .int), 2, k_Bc_mean)
abbrev i_Bc_mean : Nat := 84
def k_Bc_count : xK := [(0, .iload_n 1, 1, 0, 0), (1, .tableswitch 225 0 12 #[67, 75, 86, 97, 108, 116, 124, 135, 146, 168, 176, 187, 195], 67, 6, 0), (68, .aload_n 0, 1, 0, 0), (69, .getfield 10, 3, 8, 0), 
  (72, .getfield 121, 3, 2, 3), (75, .ireturn, 1, 0, 0), (76, .aload_n 0, 1, 0, 0), (77, .getfield 10, 3, 8, 0), (80, .getfield 80, 3, 2, 0), (83, .getfield 192, 3, 1, 3), (86, .ireturn, 1, 0, 0), 
  (87, .aload_n 0, 1, 0, 0), (88, .getfield 10, 3, 8, 0), (91, .getfield 105, 3, 2, 1), (94, .getfield 182, 3, 6, 9), (97, .ireturn, 1, 0, 0), (98, .aload_n 0, 1, 0, 0), (99, .getfield 10, 3, 8, 0), 
  (102, .getfield 105, 3, 2, 1), (105, .getfield 193, 3, 6, 8), (108, .ireturn, 1, 0, 0), (109, .aload_n 0, 1, 0, 0), (110, .getfield 10, 3, 8, 0), (113, .getfield 196, 3, 2, 5), (116, .ireturn, 1, 0, 0), 
  (117, .aload_n 0, 1, 0, 0), (118, .getfield 10, 3, 8, 0), (121, .getfield 199, 3, 2, 6), (124, .ireturn, 1, 0, 0), (125, .aload_n 0, 1, 0, 0), (126, .getfield 10, 3, 8, 0), (129, .getfield 105, 3, 2, 1), 
  (132, .invokevirtual 202, 3, 60, 0), (135, .ireturn, 1, 0, 0), (136, .aload_n 0, 1, 0, 0), (137, .getfield 10, 3, 8, 0), (140, .getfield 105, 3, 2, 1), (143, .invokevirtual 185, 3, 61, 0), 
  (146, .ireturn, 1, 0, 0), (147, .aload_n 0, 1, 0, 0), (148, .getfield 10, 3, 8, 0), (151, .getfield 105, 3, 2, 1), (154, .getfield 182, 3, 6, 9), (157, .aload_n 0, 1, 0, 0), (158, .getfield 10, 3, 8, 0), 
  (161, .getfield 105, 3, 2, 1), (164, .invokevirtual 205, 3, 58, 0), (167, .isub, 1, 0, 0), (168, .ireturn, 1, 0, 0), (169, .aload_n 0, 1, 0, 0), (170, .getfield 10, 3, 8, 0), (173, .getfield 208, 3, 2, 9), 
  (176, .ireturn, 1, 0, 0), (177, .aload_n 0, 1, 0, 0), (178, .getfield 10, 3, 8, 0), (181, .getfield 105, 3, 2, 1), (184, .invokevirtual 211, 3, 62, 0), (187, .ireturn, 1, 0, 0), (188, .aload_n 0, 1, 0, 0), 
  (189, .getfield 10, 3, 8, 0), (192, .getfield 214, 3, 2, 7), (195, .ireturn, 1, 0, 0), (196, .aload_n 0, 1, 0, 0), (197, .getfield 10, 3, 8, 0), (200, .getfield 105, 3, 2, 1), (203, .invokevirtual 205, 3, 58, 0), 
  (206, .iconst 1, 1, 1, 0), (207, .if_icmp .ne 16, 3, 223, 0), (210, .aload_n 0, 1, 0, 0), (211, .getfield 10, 3, 8, 0), (214, .getfield 105, 3, 2, 1), (217, .invokevirtual 217, 3, 59, 0), 
  (220, .goto 5, 3, 225, 0), (223, .ldc 154, 2, 55, 0), (225, .ireturn, 1, 0, 0), (226, .aload_n 0, 1, 0, 0), (227, .iload_n 1, 1, 0, 0), (228, .invokevirtual 220, 3, 91, 1), (231, .ireturn, 1, 0, 0)]
def m_Bc_count : xM := (8, false, (some .int), 2, k_Bc_count)
abbrev i_Bc_count : Nat := 85
def k_Bc_undo : xK := [(0, .aload_n 0, 1, 0, 0), (1, .getfield 19, 3, 8, 1), (4, .aload_n 0, 1, 0, 0), (5, .getfield 10, 3, 8, 0), (8, .invokevirtual 223, 3, 42, 1), (11, .ireturn, 1, 0, 0)]
def m_Bc_undo : xM := (8, false, (some .int), 1, k_Bc_undo)
abbrev i_Bc_undo : Nat := 86
def k_Bc_type : xK := [(0, .aload_n 0, 1, 0, 0), (1, .getfield 33, 3, 8, 3), (4, .iload_n 1, 1, 0, 0), (5, .invokevirtual 227, 3, 65, 1), (8, .ireturn, 1, 0, 0)]
def m_Bc_type : xM := (8, false, (some .int), 2, k_Bc_type)
abbrev i_Bc_type : Nat := 87
def k_Bc_clearText : xK := [(0, .aload_n 0, 1, 0, 0), (1, .getfield 33, 3, 8, 3), (4, .invokevirtual 230, 3, 66, 0), (7, .ireturn, 1, 0, 0)]
def m_Bc_clearText : xM := (8, false, (some .int), 1, k_Bc_clearText)
abbrev i_Bc_clearText : Nat := 88
def k_Bc_fault : xK := [(0, .iload_n 1, 1, 0, 0), (1, .ifCond .lt 8, 3, 9, 0), (4, .iload_n 1, 1, 0, 0), (5, .iconst 2, 1, 2, 0), (6, .if_icmp .le 6, 3, 12, 0), (9, .ldc 90, 2, 53, 0), 
  (11, .ireturn, 1, 0, 0), (12, .aload_n 0, 1, 0, 0), (13, .getfield 40, 3, 8, 4), (16, .aload_n 0, 1, 0, 0), (17, .getfield 33, 3, 8, 3), (20, .aload_n 0, 1, 0, 0), (21, .getfield 10, 3, 8, 0), 
  (24, .aload_n 0, 1, 0, 0), (25, .getfield 26, 3, 8, 2), (28, .invokevirtual 233, 3, 44, 3), (31, .aload_n 0, 1, 0, 0), (32, .getfield 40, 3, 8, 4), (35, .getfield 237, 3, 5, 3), (38, .ifCond .ne 6, 3, 44, 0), 
  (41, .ldc 154, 2, 55, 0), (43, .ireturn, 1, 0, 0), (44, .iload_n 1, 1, 0, 0), (45, .lookupswitch 43 #[(0, 27), (1, 35)], 27, 7, 0), (72, .aload_n 0, 1, 0, 0), (73, .getfield 40, 3, 8, 4), 
  (76, .getfield 240, 3, 5, 2), (79, .ireturn, 1, 0, 0), (80, .aload_n 0, 1, 0, 0), (81, .getfield 40, 3, 8, 4), (84, .getfield 237, 3, 5, 3), (87, .ireturn, 1, 0, 0), (88, .aload_n 0, 1, 0, 0), 
  (89, .getfield 40, 3, 8, 4), (92, .getfield 243, 3, 5, 4), (95, .ireturn, 1, 0, 0)]
def m_Bc_fault : xM := (8, false, (some .int), 2, k_Bc_fault)
abbrev i_Bc_fault : Nat := 89
def k_Bc_play : xK := [(0, .aload_n 0, 1, 0, 0), (1, .getfield 40, 3, 8, 4), (4, .aload_n 0, 1, 0, 0), (5, .getfield 33, 3, 8, 3), (8, .aload_n 0, 1, 0, 0), (9, .getfield 10, 3, 8, 0), 
  (12, .aload_n 0, 1, 0, 0), (13, .getfield 26, 3, 8, 2), (16, .invokevirtual 233, 3, 44, 3), (19, .aload_n 0, 1, 0, 0), (20, .getfield 40, 3, 8, 4), (23, .getfield 237, 3, 5, 3), (26, .ifCond .eq 6, 3, 32, 0), 
  (29, .ldc 169, 2, 54, 0), (31, .ireturn, 1, 0, 0), (32, .aload_n 0, 1, 0, 0), (33, .getfield 19, 3, 8, 1), (36, .aload_n 0, 1, 0, 0), (37, .getfield 10, 3, 8, 0), (40, .invokevirtual 44, 3, 40, 1), 
  (43, .aload_n 0, 1, 0, 0), (44, .getfield 10, 3, 8, 0), (47, .aload_n 0, 1, 0, 0), (48, .getfield 40, 3, 8, 4), (51, .getfield 246, 3, 5, 0), (54, .invokevirtual 249, 3, 15, 1), (57, .aload_n 0, 1, 0, 0), 
  (58, .getfield 19, 3, 8, 1), (61, .aload_n 0, 1, 0, 0), (62, .getfield 40, 3, 8, 4), (65, .getfield 252, 3, 5, 1), (68, .invokevirtual 52, 3, 41, 1), (71, .ireturn, 1, 0, 0)]
def m_Bc_play : xM := (8, false, (some .int), 1, k_Bc_play)
abbrev i_Bc_play : Nat := 90
def k_Bc_countBesidesTheGame : xK := [(0, .iload_n 1, 1, 0, 0), (1, .tableswitch 90 13 20 #[47, 58, 66, 74, 90, 90, 90, 82], 47, 8, 0), (48, .aload_n 0, 1, 0, 0), (49, .getfield 10, 3, 8, 0), 
  (52, .getfield 145, 3, 2, 2), (55, .getfield 149, 3, 0, 6), (58, .ireturn, 1, 0, 0), (59, .aload_n 0, 1, 0, 0), (60, .getfield 19, 3, 8, 1), (63, .getfield 255, 3, 4, 2), (66, .ireturn, 1, 0, 0), 
  (67, .aload_n 0, 1, 0, 0), (68, .getfield 33, 3, 8, 3), (71, .getfield 256, 3, 7, 1), (74, .ireturn, 1, 0, 0), (75, .aload_n 0, 1, 0, 0), (76, .getfield 10, 3, 8, 0), (79, .getfield 259, 3, 2, 8), 
  (82, .ireturn, 1, 0, 0), (83, .aload_n 0, 1, 0, 0), (84, .getfield 10, 3, 8, 0), (87, .getfield 262, 3, 2, 4), (90, .ireturn, 1, 0, 0), (91, .ldc 90, 2, 53, 0), (93, .ireturn, 1, 0, 0)]
def m_Bc_countBesidesTheGame : xM := (8, false, (some .int), 2, k_Bc_countBesidesTheGame)
abbrev i_Bc_countBesidesTheGame : Nat := 91
def k_Bc_foundOrNot : xK := [(0, .iload_n 0, 1, 0, 0), (1, .ifCond .eq 7, 3, 8, 0), (4, .iload_n 1, 1, 0, 0), (5, .goto 5, 3, 10, 0), (8, .ldc 154, 2, 55, 0), (10, .ireturn, 1, 0, 0)]
def m_Bc_foundOrNot : xM := (8, false, (some .int), 2, k_Bc_foundOrNot)
abbrev i_Bc_foundOrNot : Nat := 92
def k_Bc_isWithin : xK := [(0, .iload_n 0, 1, 0, 0), (1, .iload_n 1, 1, 0, 0), (2, .if_icmp .lt 12, 3, 14, 0), (5, .iload_n 0, 1, 0, 0), (6, .iload_n 2, 1, 0, 0), (7, .if_icmp .gt 7, 3, 14, 0), 
  (10, .iconst 1, 1, 1, 0), (11, .goto 4, 3, 15, 0), (14, .iconst 0, 1, 0, 0), (15, .ireturn, 1, 0, 0)]
def m_Bc_isWithin : xM := (8, false, (some .boolean), 3, k_Bc_isWithin)
abbrev i_Bc_isWithin : Nat := 93
def k_Bc_bitsOf : xK := [(0, .fload_n 0, 1, 0, 0), (1, .fconst 0, 1, 56, 0), (2, .fcmp .l, 1, 0, 0), (3, .ifCond .gt 5, 3, 8, 0), (6, .iconst 0, 1, 0, 0), (7, .ireturn, 1, 0, 0), (8, .fload_n 0, 1, 0, 0), 
  (9, .fstore_n 1, 1, 0, 0), (10, .bipush 127, 2, 30, 0), (12, .istore_n 2, 1, 0, 0), (13, .iconst 0, 1, 0, 0), (14, .istore_n 3, 1, 0, 0), (15, .iload_n 3, 1, 0, 0), (16, .bipush 127, 2, 30, 0), 
  (18, .if_icmp .ge 22, 3, 40, 0), (21, .fload_n 1, 1, 0, 0), (22, .fconst 2, 1, 57, 0), (23, .fcmp .l, 1, 0, 0), (24, .ifCond .lt 16, 3, 40, 0), (27, .fload_n 1, 1, 0, 0), (28, .fconst 2, 1, 57, 0), 
  (29, .fdiv, 1, 0, 0), (30, .fstore_n 1, 1, 0, 0), (31, .iinc 2 1, 3, 1, 0), (34, .iinc 3 1, 3, 1, 0), (37, .goto (-22), 3, 15, 0), (40, .iconst 0, 1, 0, 0), (41, .istore_n 3, 1, 0, 0), 
  (42, .iload_n 3, 1, 0, 0), (43, .bipush 126, 2, 29, 0), (45, .if_icmp .ge 22, 3, 67, 0), (48, .fload_n 1, 1, 0, 0), (49, .fconst 1, 1, 58, 0), (50, .fcmp .g, 1, 0, 0), (51, .ifCond .ge 16, 3, 67, 0), 
  (54, .fload_n 1, 1, 0, 0), (55, .fconst 2, 1, 57, 0), (56, .fmul, 1, 0, 0), (57, .fstore_n 1, 1, 0, 0), (58, .iinc 2 (-1), 3, 5, 0), (61, .iinc 3 1, 3, 1, 0), (64, .goto (-22), 3, 42, 0), 
  (67, .iload_n 2, 1, 0, 0), (68, .bipush 23, 2, 31, 0), (70, .ishl, 1, 0, 0), (71, .fload_n 1, 1, 0, 0), (72, .fconst 1, 1, 58, 0), (73, .fsub, 1, 0, 0), (74, .ldc_w 265, 3, 59, 0), 
  (77, .fmul, 1, 0, 0), (78, .f2i, 1, 0, 0), (79, .iadd, 1, 0, 0), (80, .ireturn, 1, 0, 0)]
def m_Bc_bitsOf : xM := (8, false, (some .int), 4, k_Bc_bitsOf)
abbrev i_Bc_bitsOf : Nat := 94
def k_Int_bitCount : xK := [(0, .iload_n 0, 1, 0, 0), (1, .iload_n 0, 1, 0, 0), (2, .iconst 1, 1, 1, 0), (3, .iushr, 1, 0, 0), (4, .ldc_w 265, 3, 60, 0), (7, .iand, 1, 0, 0), (8, .isub, 1, 0, 0), 
  (9, .istore_n 0, 1, 0, 0), (10, .iload_n 0, 1, 0, 0), (11, .ldc_w 266, 3, 61, 0), (14, .iand, 1, 0, 0), (15, .iload_n 0, 1, 0, 0), (16, .iconst 2, 1, 2, 0), (17, .iushr, 1, 0, 0), 
  (18, .ldc_w 266, 3, 61, 0), (21, .iand, 1, 0, 0), (22, .iadd, 1, 0, 0), (23, .istore_n 0, 1, 0, 0), (24, .iload_n 0, 1, 0, 0), (25, .iload_n 0, 1, 0, 0), (26, .iconst 4, 1, 4, 0), 
  (27, .iushr, 1, 0, 0), (28, .iadd, 1, 0, 0), (29, .ldc_w 267, 3, 62, 0), (32, .iand, 1, 0, 0), (33, .istore_n 0, 1, 0, 0), (34, .iload_n 0, 1, 0, 0), (35, .iload_n 0, 1, 0, 0), (36, .bipush 8, 2, 8, 0), 
  (38, .iushr, 1, 0, 0), (39, .iadd, 1, 0, 0), (40, .istore_n 0, 1, 0, 0), (41, .iload_n 0, 1, 0, 0), (42, .iload_n 0, 1, 0, 0), (43, .bipush 16, 2, 9, 0), (45, .iushr, 1, 0, 0), (46, .iadd, 1, 0, 0), 
  (47, .istore_n 0, 1, 0, 0), (48, .iload_n 0, 1, 0, 0), (49, .bipush 63, 2, 40, 0), (51, .iand, 1, 0, 0), (52, .ireturn, 1, 0, 0)]
def m_Int_bitCount : xM := (11, false, (some .int), 1, k_Int_bitCount)
abbrev i_Int_bitCount : Nat := 95
def k_Math_max : xK := [(0, .iload_n 0, 1, 0, 0), (1, .iload_n 1, 1, 0, 0), (2, .if_icmp .lt 7, 3, 9, 0), (5, .iload_n 0, 1, 0, 0), (6, .goto 4, 3, 10, 0), (9, .iload_n 1, 1, 0, 0), 
  (10, .ireturn, 1, 0, 0)]
def m_Math_max : xM := (12, false, (some .int), 2, k_Math_max)
abbrev i_Math_max : Nat := 96
def k_Math_min : xK := [(0, .iload_n 0, 1, 0, 0), (1, .iload_n 1, 1, 0, 0), (2, .if_icmp .gt 7, 3, 9, 0), (5, .iload_n 0, 1, 0, 0), (6, .goto 4, 3, 10, 0), (9, .iload_n 1, 1, 0, 0), 
  (10, .ireturn, 1, 0, 0)]
def m_Math_min : xM := (12, false, (some .int), 2, k_Math_min)
abbrev i_Math_min : Nat := 97
def k_Law_lot : xK := [(0, .iload_n 1, 1, 0, 0), (1, .aload_n 0, 1, 0, 0), (2, .arraylength, 1, 0, 0), (3, .if_icmp .ge 9, 3, 12, 0), (6, .aload_n 0, 1, 0, 0), (7, .iload_n 1, 1, 0, 0), 
  (8, .iaload, 1, 0, 0), (9, .goto 15, 3, 24, 0), (12, .ldc 7, 2, 63, 0), (14, .iload_n 1, 1, 0, 0), (15, .sipush 4679, 3, 41, 0), (18, .iadd, 1, 0, 0), (19, .imul, 1, 0, 0), (20, .sipush 4451, 3, 42, 0), 
  (23, .iadd, 1, 0, 0), (24, .ireturn, 1, 0, 0)]
def m_Law_lot : xM := (13, false, (some .int), 2, k_Law_lot)
abbrev i_Law_lot : Nat := 98
def k_Law_low : xK := [(0, .iload_n 0, 1, 0, 0), (1, .ldc 8, 2, 64, 0), (3, .iand, 1, 0, 0), (4, .iload_n 1, 1, 0, 0), (5, .irem, 1, 0, 0), (6, .ireturn, 1, 0, 0)]
def m_Law_low : xM := (13, false, (some .int), 2, k_Law_low)
abbrev i_Law_low : Nat := 99
def k_Law_look : xK := [(0, .ldc2_w 9, 3, 65, 0), (3, .lstore_n 1, 1, 0, 0), (4, .iconst 0, 1, 0, 0), (5, .istore_n 3, 1, 0, 0), (6, .iload_n 3, 1, 0, 0), (7, .bipush 14, 2, 13, 0), 
  (9, .if_icmp .ge 22, 3, 31, 0), (12, .ldc2_w 11, 3, 66, 0), (15, .lload_n 1, 1, 0, 0), (16, .lmul, 1, 0, 0), (17, .aload_n 0, 1, 0, 0), (18, .iload_n 3, 1, 0, 0), (19, .invokevirtual 13, 3, 85, 1), 
  (22, .i2l, 1, 0, 0), (23, .ladd, 1, 0, 0), (24, .lstore_n 1, 1, 0, 0), (25, .iinc 3 1, 3, 1, 0), (28, .goto (-22), 3, 6, 0), (31, .ldc2_w 11, 3, 66, 0), (34, .ldc2_w 11, 3, 66, 0), 
  (37, .lload_n 1, 1, 0, 0), (38, .lmul, 1, 0, 0), (39, .aload_n 0, 1, 0, 0), (40, .bipush 16, 2, 9, 0), (42, .invokevirtual 13, 3, 85, 1), (45, .i2l, 1, 0, 0), (46, .ladd, 1, 0, 0), 
  (47, .lmul, 1, 0, 0), (48, .aload_n 0, 1, 0, 0), (49, .bipush 20, 2, 15, 0), (51, .invokevirtual 13, 3, 85, 1), (54, .i2l, 1, 0, 0), (55, .ladd, 1, 0, 0), (56, .lstore_n 1, 1, 0, 0), 
  (57, .iconst 0, 1, 0, 0), (58, .istore_n 3, 1, 0, 0), (59, .iload_n 3, 1, 0, 0), (60, .aload_n 0, 1, 0, 0), (61, .iconst 1, 1, 1, 0), (62, .invokevirtual 13, 3, 85, 1), (65, .if_icmp .ge 47, 3, 112, 0), 
  (68, .ldc2_w 11, 3, 66, 0), (71, .ldc2_w 11, 3, 66, 0), (74, .ldc2_w 11, 3, 66, 0), (77, .lload_n 1, 1, 0, 0), (78, .lmul, 1, 0, 0), (79, .aload_n 0, 1, 0, 0), (80, .iload_n 3, 1, 0, 0), 
  (81, .iconst 0, 1, 0, 0), (82, .invokevirtual 19, 3, 77, 2), (85, .i2l, 1, 0, 0), (86, .ladd, 1, 0, 0), (87, .lmul, 1, 0, 0), (88, .aload_n 0, 1, 0, 0), (89, .iload_n 3, 1, 0, 0), 
  (90, .iconst 1, 1, 1, 0), (91, .invokevirtual 19, 3, 77, 2), (94, .i2l, 1, 0, 0), (95, .ladd, 1, 0, 0), (96, .lmul, 1, 0, 0), (97, .aload_n 0, 1, 0, 0), (98, .iload_n 3, 1, 0, 0), 
  (99, .iconst 2, 1, 2, 0), (100, .invokevirtual 19, 3, 77, 2), (103, .i2l, 1, 0, 0), (104, .ladd, 1, 0, 0), (105, .lstore_n 1, 1, 0, 0), (106, .iinc 3 1, 3, 1, 0), (109, .goto (-50), 3, 59, 0), 
  (112, .iconst 0, 1, 0, 0), (113, .istore_n 3, 1, 0, 0), (114, .iload_n 3, 1, 0, 0), (115, .aload_n 0, 1, 0, 0), (116, .iconst 2, 1, 2, 0), (117, .invokevirtual 13, 3, 85, 1), (120, .if_icmp .ge 40, 3, 160, 0), 
  (123, .iconst 0, 1, 0, 0), (124, .istore 4, 2, 0, 0), (126, .iload 4, 2, 0, 0), (128, .bipush 9, 2, 12, 0), (130, .if_icmp .ge 24, 3, 154, 0), (133, .ldc2_w 11, 3, 66, 0), (136, .lload_n 1, 1, 0, 0), 
  (137, .lmul, 1, 0, 0), (138, .aload_n 0, 1, 0, 0), (139, .iload_n 3, 1, 0, 0), (140, .iload 4, 2, 0, 0), (142, .invokevirtual 23, 3, 78, 2), (145, .i2l, 1, 0, 0), (146, .ladd, 1, 0, 0), 
  (147, .lstore_n 1, 1, 0, 0), (148, .iinc 4 1, 3, 1, 0), (151, .goto (-25), 3, 126, 0), (154, .iinc 3 1, 3, 1, 0), (157, .goto (-43), 3, 114, 0), (160, .iconst 0, 1, 0, 0), (161, .istore_n 3, 1, 0, 0), 
  (162, .iload_n 3, 1, 0, 0), (163, .iconst 5, 1, 6, 0), (164, .aload_n 0, 1, 0, 0), (165, .bipush 13, 2, 16, 0), (167, .invokevirtual 13, 3, 85, 1), (170, .imul, 1, 0, 0), (171, .if_icmp .ge 27, 3, 198, 0), 
  (174, .ldc2_w 11, 3, 66, 0), (177, .lload_n 1, 1, 0, 0), (178, .lmul, 1, 0, 0), (179, .aload_n 0, 1, 0, 0), (180, .iload_n 3, 1, 0, 0), (181, .iconst 5, 1, 6, 0), (182, .idiv, 1, 0, 0), 
  (183, .iload_n 3, 1, 0, 0), (184, .iconst 5, 1, 6, 0), (185, .irem, 1, 0, 0), (186, .invokevirtual 26, 3, 80, 2), (189, .i2l, 1, 0, 0), (190, .ladd, 1, 0, 0), (191, .lstore_n 1, 1, 0, 0), 
  (192, .iinc 3 1, 3, 1, 0), (195, .goto (-33), 3, 162, 0), (198, .lload_n 1, 1, 0, 0), (199, .lreturn, 1, 0, 0)]
def m_Law_look : xM := (13, false, (some .long), 5, k_Law_look)
abbrev i_Law_look : Nat := 100
def k_Law_ones : xK := [(0, .iconst 0, 1, 0, 0), (1, .istore_n 1, 1, 0, 0), (2, .iconst 0, 1, 0, 0), (3, .istore_n 2, 1, 0, 0), (4, .iload_n 2, 1, 0, 0), (5, .bipush 16, 2, 9, 0), (7, .if_icmp .ge 17, 3, 24, 0), 
  (10, .iload_n 1, 1, 0, 0), (11, .iload_n 0, 1, 0, 0), (12, .iload_n 2, 1, 0, 0), (13, .ishr, 1, 0, 0), (14, .iconst 1, 1, 1, 0), (15, .iand, 1, 0, 0), (16, .iadd, 1, 0, 0), (17, .istore_n 1, 1, 0, 0), 
  (18, .iinc 2 1, 3, 1, 0), (21, .goto (-17), 3, 4, 0), (24, .iload_n 1, 1, 0, 0), (25, .ireturn, 1, 0, 0)]
def m_Law_ones : xM := (13, false, (some .int), 3, k_Law_ones)
abbrev i_Law_ones : Nat := 101
def k_Law_holds : xK := [(0, .aload_n 0, 1, 0, 0), (1, .iconst 0, 1, 0, 0), (2, .invokevirtual 13, 3, 85, 1), (5, .istore_n 1, 1, 0, 0), (6, .aload_n 0, 1, 0, 0), (7, .iconst 1, 1, 1, 0), 
  (8, .invokevirtual 13, 3, 85, 1), (11, .istore_n 2, 1, 0, 0), (12, .aload_n 0, 1, 0, 0), (13, .iconst 2, 1, 2, 0), (14, .invokevirtual 13, 3, 85, 1), (17, .istore_n 3, 1, 0, 0), (18, .iconst 0, 1, 0, 0), 
  (19, .istore 4, 2, 0, 0), (21, .iconst 0, 1, 0, 0), (22, .istore 5, 2, 0, 0), (24, .iconst 0, 1, 0, 0), (25, .istore 6, 2, 0, 0), (27, .iconst 0, 1, 0, 0), (28, .istore 7, 2, 0, 0), 
  (30, .ldc 31, 2, 55, 0), (32, .istore 8, 2, 0, 0), (34, .iload_n 1, 1, 0, 0), (35, .ifCond .lt 148, 3, 183, 0), (38, .iload_n 1, 1, 0, 0), (39, .iconst 2, 1, 2, 0), (40, .if_icmp .gt 143, 3, 183, 0), 
  (43, .iload_n 2, 1, 0, 0), (44, .ifCond .lt 139, 3, 183, 0), (47, .iload_n 2, 1, 0, 0), (48, .bipush 16, 2, 9, 0), (50, .if_icmp .gt 133, 3, 183, 0), (53, .iload_n 3, 1, 0, 0), (54, .ifCond .lt 129, 3, 183, 0), 
  (57, .iload_n 3, 1, 0, 0), (58, .bipush 12, 2, 3, 0), (60, .if_icmp .gt 123, 3, 183, 0), (63, .aload_n 0, 1, 0, 0), (64, .iconst 5, 1, 6, 0), (65, .invokevirtual 13, 3, 85, 1), (68, .ifCond .lt 115, 3, 183, 0), 
  (71, .aload_n 0, 1, 0, 0), (72, .iconst 5, 1, 6, 0), (73, .invokevirtual 13, 3, 85, 1), (76, .sipush 999, 3, 22, 0), (79, .if_icmp .gt 104, 3, 183, 0), (82, .iload_n 1, 1, 0, 0), 
  (83, .iconst 1, 1, 1, 0), (84, .if_icmp .eq 11, 3, 95, 0), (87, .aload_n 0, 1, 0, 0), (88, .iconst 5, 1, 6, 0), (89, .invokevirtual 13, 3, 85, 1), (92, .ifCond .ne 91, 3, 183, 0), 
  (95, .aload_n 0, 1, 0, 0), (96, .bipush 13, 2, 16, 0), (98, .invokevirtual 13, 3, 85, 1), (101, .bipush 12, 2, 3, 0), (103, .if_icmp .gt 80, 3, 183, 0), (106, .aload_n 0, 1, 0, 0), 
  (107, .bipush 13, 2, 16, 0), (109, .invokevirtual 13, 3, 85, 1), (112, .aload_n 0, 1, 0, 0), (113, .bipush 6, 2, 17, 0), (115, .invokevirtual 13, 3, 85, 1), (118, .if_icmp .gt 65, 3, 183, 0), 
  (121, .aload_n 0, 1, 0, 0), (122, .iload_n 2, 1, 0, 0), (123, .iconst 0, 1, 0, 0), (124, .invokevirtual 19, 3, 77, 2), (127, .ldc 32, 2, 53, 0), (129, .if_icmp .ne 54, 3, 183, 0), 
  (132, .aload_n 0, 1, 0, 0), (133, .iload_n 3, 1, 0, 0), (134, .iconst 0, 1, 0, 0), (135, .invokevirtual 23, 3, 78, 2), (138, .ldc 32, 2, 53, 0), (140, .if_icmp .ne 43, 3, 183, 0), 
  (143, .aload_n 0, 1, 0, 0), (144, .aload_n 0, 1, 0, 0), (145, .bipush 13, 2, 16, 0), (147, .invokevirtual 13, 3, 85, 1), (150, .iconst 0, 1, 0, 0), (151, .invokevirtual 26, 3, 80, 2), 
  (154, .ldc 31, 2, 55, 0), (156, .if_icmp .ne 27, 3, 183, 0), (159, .aload_n 0, 1, 0, 0), (160, .bipush 20, 2, 15, 0), (162, .invokevirtual 13, 3, 85, 1), (165, .iconst 1, 1, 1, 0), 
  (166, .if_icmp .lt 17, 3, 183, 0), (169, .aload_n 0, 1, 0, 0), (170, .bipush 20, 2, 15, 0), (172, .invokevirtual 13, 3, 85, 1), (175, .iconst 3, 1, 7, 0), (176, .if_icmp .gt 7, 3, 183, 0), 
  (179, .iconst 1, 1, 1, 0), (180, .goto 4, 3, 184, 0), (183, .iconst 0, 1, 0, 0), (184, .istore 9, 2, 0, 0), (186, .iconst 0, 1, 0, 0), (187, .istore 10, 2, 0, 0), (189, .iload 10, 2, 0, 0), 
  (191, .iload_n 3, 1, 0, 0), (192, .if_icmp .ge 303, 3, 495, 0), (195, .iload 9, 2, 0, 0), (197, .ifCond .eq 298, 3, 495, 0), (200, .aload_n 0, 1, 0, 0), (201, .iload 10, 2, 0, 0), 
  (203, .iconst 2, 1, 2, 0), (204, .invokevirtual 23, 3, 78, 2), (207, .iconst 1, 1, 1, 0), (208, .if_icmp .ne 7, 3, 215, 0), (211, .iconst 1, 1, 1, 0), (212, .goto 4, 3, 216, 0), (215, .iconst 0, 1, 0, 0), 
  (216, .istore 11, 2, 0, 0), (218, .iload 4, 2, 0, 0), (220, .iload 11, 2, 0, 0), (222, .ifCond .eq 10, 3, 232, 0), (225, .iconst 1, 1, 1, 0), (226, .iload 10, 2, 0, 0), (228, .ishl, 1, 0, 0), 
  (229, .goto 4, 3, 233, 0), (232, .iconst 0, 1, 0, 0), (233, .ior, 1, 0, 0), (234, .istore 4, 2, 0, 0), (236, .iload 11, 2, 0, 0), (238, .ifCond .eq 8, 3, 246, 0), (241, .iload 10, 2, 0, 0), 
  (243, .goto 5, 3, 248, 0), (246, .iload 8, 2, 0, 0), (248, .istore 8, 2, 0, 0), (250, .iload 5, 2, 0, 0), (252, .aload_n 0, 1, 0, 0), (253, .iload 10, 2, 0, 0), (255, .iconst 4, 1, 4, 0), 
  (256, .invokevirtual 23, 3, 78, 2), (259, .iadd, 1, 0, 0), (260, .istore 5, 2, 0, 0), (262, .iload 6, 2, 0, 0), (264, .aload_n 0, 1, 0, 0), (265, .iload 10, 2, 0, 0), (267, .iconst 5, 1, 6, 0), 
  (268, .invokevirtual 23, 3, 78, 2), (271, .iadd, 1, 0, 0), (272, .istore 6, 2, 0, 0), (274, .iload 7, 2, 0, 0), (276, .aload_n 0, 1, 0, 0), (277, .iload 10, 2, 0, 0), (279, .bipush 6, 2, 17, 0), 
  (281, .invokevirtual 23, 3, 78, 2), (284, .iadd, 1, 0, 0), (285, .istore 7, 2, 0, 0), (287, .aload_n 0, 1, 0, 0), (288, .iload 10, 2, 0, 0), (290, .iconst 0, 1, 0, 0), (291, .invokevirtual 23, 3, 78, 2), 
  (294, .ifCond .lt 192, 3, 486, 0), (297, .aload_n 0, 1, 0, 0), (298, .iload 10, 2, 0, 0), (300, .iconst 0, 1, 0, 0), (301, .invokevirtual 23, 3, 78, 2), (304, .bipush 9, 2, 12, 0), 
  (306, .if_icmp .gt 180, 3, 486, 0), (309, .aload_n 0, 1, 0, 0), (310, .iload 10, 2, 0, 0), (312, .iconst 1, 1, 1, 0), (313, .invokevirtual 23, 3, 78, 2), (316, .ifCond .lt 170, 3, 486, 0), 
  (319, .aload_n 0, 1, 0, 0), (320, .iload 10, 2, 0, 0), (322, .iconst 1, 1, 1, 0), (323, .invokevirtual 23, 3, 78, 2), (326, .sipush 511, 3, 20, 0), (329, .if_icmp .gt 157, 3, 486, 0), 
  (332, .iload 11, 2, 0, 0), (334, .ifCond .eq 19, 3, 353, 0), (337, .aload_n 0, 1, 0, 0), (338, .iload 10, 2, 0, 0), (340, .bipush 7, 2, 11, 0), (342, .invokevirtual 23, 3, 78, 2), 
  (345, .ldc 31, 2, 55, 0), (347, .if_icmp .ne 139, 3, 486, 0), (350, .goto 43, 3, 393, 0), (353, .aload_n 0, 1, 0, 0), (354, .iload 10, 2, 0, 0), (356, .bipush 7, 2, 11, 0), (358, .invokevirtual 23, 3, 78, 2), 
  (361, .iconst 1, 1, 1, 0), (362, .if_icmp .lt 124, 3, 486, 0), (365, .aload_n 0, 1, 0, 0), (366, .iload 10, 2, 0, 0), (368, .bipush 7, 2, 11, 0), (370, .invokevirtual 23, 3, 78, 2), 
  (373, .aload_n 0, 1, 0, 0), (374, .iconst 4, 1, 4, 0), (375, .invokevirtual 13, 3, 85, 1), (378, .if_icmp .gt 108, 3, 486, 0), (381, .aload_n 0, 1, 0, 0), (382, .iload 10, 2, 0, 0), 
  (384, .bipush 8, 2, 8, 0), (386, .invokevirtual 23, 3, 78, 2), (389, .iconst 2, 1, 2, 0), (390, .if_icmp .lt 96, 3, 486, 0), (393, .iload_n 1, 1, 0, 0), (394, .iconst 1, 1, 1, 0), 
  (395, .if_icmp .ne 32, 3, 427, 0), (398, .iload 11, 2, 0, 0), (400, .ifCond .eq 27, 3, 427, 0), (403, .aload_n 0, 1, 0, 0), (404, .iload 10, 2, 0, 0), (406, .iconst 3, 1, 7, 0), (407, .invokevirtual 23, 3, 78, 2), 
  (410, .ifCond .lt 76, 3, 486, 0), (413, .aload_n 0, 1, 0, 0), (414, .iload 10, 2, 0, 0), (416, .iconst 3, 1, 7, 0), (417, .invokevirtual 23, 3, 78, 2), (420, .iload_n 2, 1, 0, 0), 
  (421, .if_icmp .ge 65, 3, 486, 0), (424, .goto 15, 3, 439, 0), (427, .aload_n 0, 1, 0, 0), (428, .iload 10, 2, 0, 0), (430, .iconst 3, 1, 7, 0), (431, .invokevirtual 23, 3, 78, 2), 
  (434, .ldc 31, 2, 55, 0), (436, .if_icmp .ne 50, 3, 486, 0), (439, .aload_n 0, 1, 0, 0), (440, .iload 10, 2, 0, 0), (442, .bipush 8, 2, 8, 0), (444, .invokevirtual 23, 3, 78, 2), 
  (447, .ldc 31, 2, 55, 0), (449, .if_icmp .ne 21, 3, 470, 0), (452, .aload_n 0, 1, 0, 0), (453, .iload 10, 2, 0, 0), (455, .iconst 4, 1, 4, 0), (456, .invokevirtual 23, 3, 78, 2), 
  (459, .ifCond .ne 27, 3, 486, 0), (462, .iload 11, 2, 0, 0), (464, .ifCond .eq 22, 3, 486, 0), (467, .goto 15, 3, 482, 0), (470, .aload_n 0, 1, 0, 0), (471, .iload 10, 2, 0, 0), (473, .bipush 8, 2, 8, 0), 
  (475, .invokevirtual 23, 3, 78, 2), (478, .iconst 1, 1, 1, 0), (479, .if_icmp .lt 7, 3, 486, 0), (482, .iconst 1, 1, 1, 0), (483, .goto 4, 3, 487, 0), (486, .iconst 0, 1, 0, 0), (487, .istore 9, 2, 0, 0), 
  (489, .iinc 10 1, 3, 1, 0), (492, .goto (-303), 3, 189, 0), (495, .iconst 0, 1, 0, 0), (496, .istore 10, 2, 0, 0), (498, .iload 10, 2, 0, 0), (500, .iload_n 2, 1, 0, 0), (501, .if_icmp .ge 95, 3, 596, 0), 
  (504, .iload 9, 2, 0, 0), (506, .ifCond .eq 90, 3, 596, 0), (509, .aload_n 0, 1, 0, 0), (510, .iload 10, 2, 0, 0), (512, .iconst 2, 1, 2, 0), (513, .invokevirtual 19, 3, 77, 2), (516, .istore 11, 2, 0, 0), 
  (518, .aload_n 0, 1, 0, 0), (519, .iload 10, 2, 0, 0), (521, .iconst 0, 1, 0, 0), (522, .invokevirtual 19, 3, 77, 2), (525, .ifCond .lt 62, 3, 587, 0), (528, .aload_n 0, 1, 0, 0), 
  (529, .iload 10, 2, 0, 0), (531, .iconst 0, 1, 0, 0), (532, .invokevirtual 19, 3, 77, 2), (535, .bipush 8, 2, 8, 0), (537, .if_icmp .gt 50, 3, 587, 0), (540, .aload_n 0, 1, 0, 0), 
  (541, .iload 10, 2, 0, 0), (543, .iconst 1, 1, 1, 0), (544, .invokevirtual 19, 3, 77, 2), (547, .ifCond .lt 40, 3, 587, 0), (550, .iload 11, 2, 0, 0), (552, .ldc 31, 2, 55, 0), (554, .if_icmp .eq 29, 3, 583, 0), 
  (557, .iload_n 1, 1, 0, 0), (558, .iconst 1, 1, 1, 0), (559, .if_icmp .eq 28, 3, 587, 0), (562, .aload_n 0, 1, 0, 0), (563, .iload 10, 2, 0, 0), (565, .iconst 1, 1, 1, 0), (566, .invokevirtual 19, 3, 77, 2), 
  (569, .ifCond .le 18, 3, 587, 0), (572, .iload 4, 2, 0, 0), (574, .iload 11, 2, 0, 0), (576, .ishr, 1, 0, 0), (577, .iconst 1, 1, 1, 0), (578, .iand, 1, 0, 0), (579, .iconst 1, 1, 1, 0), 
  (580, .if_icmp .ne 7, 3, 587, 0), (583, .iconst 1, 1, 1, 0), (584, .goto 4, 3, 588, 0), (587, .iconst 0, 1, 0, 0), (588, .istore 9, 2, 0, 0), (590, .iinc 10 1, 3, 1, 0), (593, .goto (-95), 3, 498, 0), 
  (596, .iconst 0, 1, 0, 0), (597, .istore 10, 2, 0, 0), (599, .iload 10, 2, 0, 0), (601, .aload_n 0, 1, 0, 0), (602, .bipush 13, 2, 16, 0), (604, .invokevirtual 13, 3, 85, 1), (607, .if_icmp .ge 101, 3, 708, 0), 
  (610, .iload 9, 2, 0, 0), (612, .ifCond .eq 96, 3, 708, 0), (615, .aload_n 0, 1, 0, 0), (616, .iload 10, 2, 0, 0), (618, .iconst 0, 1, 0, 0), (619, .invokevirtual 26, 3, 80, 2), (622, .iconst 1, 1, 1, 0), 
  (623, .if_icmp .lt 76, 3, 699, 0), (626, .aload_n 0, 1, 0, 0), (627, .iload 10, 2, 0, 0), (629, .iconst 0, 1, 0, 0), (630, .invokevirtual 26, 3, 80, 2), (633, .aload_n 0, 1, 0, 0), 
  (634, .iconst 4, 1, 4, 0), (635, .invokevirtual 13, 3, 85, 1), (638, .if_icmp .gt 61, 3, 699, 0), (641, .aload_n 0, 1, 0, 0), (642, .iload 10, 2, 0, 0), (644, .iconst 1, 1, 1, 0), 
  (645, .invokevirtual 26, 3, 80, 2), (648, .iconst 1, 1, 1, 0), (649, .if_icmp .lt 50, 3, 699, 0), (652, .aload_n 0, 1, 0, 0), (653, .iload 10, 2, 0, 0), (655, .iconst 2, 1, 2, 0), 
  (656, .invokevirtual 26, 3, 80, 2), (659, .ifCond .lt 40, 3, 699, 0), (662, .aload_n 0, 1, 0, 0), (663, .iload 10, 2, 0, 0), (665, .iconst 2, 1, 2, 0), (666, .invokevirtual 26, 3, 80, 2), 
  (669, .bipush 16, 2, 9, 0), (671, .if_icmp .ge 28, 3, 699, 0), (674, .aload_n 0, 1, 0, 0), (675, .iload 10, 2, 0, 0), (677, .iconst 4, 1, 4, 0), (678, .invokevirtual 26, 3, 80, 2), 
  (681, .ifCond .lt 18, 3, 699, 0), (684, .aload_n 0, 1, 0, 0), (685, .iload 10, 2, 0, 0), (687, .iconst 4, 1, 4, 0), (688, .invokevirtual 26, 3, 80, 2), (691, .iload_n 3, 1, 0, 0), 
  (692, .if_icmp .ge 7, 3, 699, 0), (695, .iconst 1, 1, 1, 0), (696, .goto 4, 3, 700, 0), (699, .iconst 0, 1, 0, 0), (700, .istore 9, 2, 0, 0), (702, .iinc 10 1, 3, 1, 0), (705, .goto (-106), 3, 599, 0), 
  (708, .iload 9, 2, 0, 0), (710, .ifCond .eq 164, 3, 874, 0), (713, .iload 4, 2, 0, 0), (715, .aload_n 0, 1, 0, 0), (716, .iconst 3, 1, 7, 0), (717, .invokevirtual 13, 3, 85, 1), (720, .if_icmp .ne 154, 3, 874, 0), 
  (723, .iload 5, 2, 0, 0), (725, .aload_n 0, 1, 0, 0), (726, .bipush 6, 2, 17, 0), (728, .invokevirtual 13, 3, 85, 1), (731, .if_icmp .ne 143, 3, 874, 0), (734, .iload 6, 2, 0, 0), 
  (736, .aload_n 0, 1, 0, 0), (737, .bipush 7, 2, 11, 0), (739, .invokevirtual 13, 3, 85, 1), (742, .if_icmp .ne 132, 3, 874, 0), (745, .iload 7, 2, 0, 0), (747, .aload_n 0, 1, 0, 0), 
  (748, .bipush 10, 2, 10, 0), (750, .invokevirtual 13, 3, 85, 1), (753, .if_icmp .ne 121, 3, 874, 0), (756, .aload_n 0, 1, 0, 0), (757, .bipush 8, 2, 8, 0), (759, .invokevirtual 13, 3, 85, 1), 
  (762, .iload_n 3, 1, 0, 0), (763, .iload 4, 2, 0, 0), (765, .invokestatic 33, 3, 101, 1), (768, .isub, 1, 0, 0), (769, .if_icmp .ne 105, 3, 874, 0), (772, .aload_n 0, 1, 0, 0), (773, .bipush 9, 2, 12, 0), 
  (775, .invokevirtual 13, 3, 85, 1), (778, .aload_n 0, 1, 0, 0), (779, .bipush 8, 2, 8, 0), (781, .invokevirtual 13, 3, 85, 1), (784, .if_icmp .ne 90, 3, 874, 0), (787, .aload_n 0, 1, 0, 0), 
  (788, .bipush 12, 2, 3, 0), (790, .invokevirtual 13, 3, 85, 1), (793, .iload 4, 2, 0, 0), (795, .invokestatic 33, 3, 101, 1), (798, .iconst 1, 1, 1, 0), (799, .if_icmp .ne 8, 3, 807, 0), 
  (802, .iload 8, 2, 0, 0), (804, .goto 5, 3, 809, 0), (807, .ldc 31, 2, 55, 0), (809, .if_icmp .ne 65, 3, 874, 0), (812, .iload_n 1, 1, 0, 0), (813, .iconst 1, 1, 1, 0), (814, .if_icmp .ne 16, 3, 830, 0), 
  (817, .iload 4, 2, 0, 0), (819, .invokestatic 33, 3, 101, 1), (822, .iload_n 2, 1, 0, 0), (823, .if_icmp .le 51, 3, 874, 0), (826, .iload_n 2, 1, 0, 0), (827, .ifCond .le 47, 3, 874, 0), 
  (830, .iload_n 1, 1, 0, 0), (831, .iconst 2, 1, 2, 0), (832, .if_icmp .ne 12, 3, 844, 0), (835, .iload 4, 2, 0, 0), (837, .invokestatic 33, 3, 101, 1), (840, .iconst 2, 1, 2, 0), 
  (841, .if_icmp .ge 33, 3, 874, 0), (844, .aload_n 0, 1, 0, 0), (845, .invokevirtual 36, 3, 84, 0), (848, .ldc 31, 2, 55, 0), (850, .if_icmp .ne 7, 3, 857, 0), (853, .iconst 1, 1, 1, 0), 
  (854, .goto 4, 3, 858, 0), (857, .iconst 0, 1, 0, 0), (858, .iload_n 3, 1, 0, 0), (859, .ifCond .ne 7, 3, 866, 0), (862, .iconst 1, 1, 1, 0), (863, .goto 4, 3, 867, 0), (866, .iconst 0, 1, 0, 0), 
  (867, .if_icmp .ne 7, 3, 874, 0), (870, .iconst 1, 1, 1, 0), (871, .goto 4, 3, 875, 0), (874, .iconst 0, 1, 0, 0), (875, .ireturn, 1, 0, 0)]
def m_Law_holds : xM := (13, false, (some .boolean), 12, k_Law_holds)
abbrev i_Law_holds : Nat := 102
def k_Law_would : xK := [(0, .aload_n 0, 1, 0, 0), (1, .iconst 2, 1, 2, 0), (2, .invokevirtual 13, 3, 85, 1), (5, .istore_n 2, 1, 0, 0), (6, .iload_n 1, 1, 0, 0), (7, .iload_n 2, 1, 0, 0), 
  (8, .iconst 1, 1, 1, 0), (9, .iadd, 1, 0, 0), (10, .invokestatic 40, 3, 99, 2), (13, .istore_n 3, 1, 0, 0), (14, .iload_n 1, 1, 0, 0), (15, .iconst 4, 1, 4, 0), (16, .ishr, 1, 0, 0), 
  (17, .iconst 5, 1, 6, 0), (18, .invokestatic 40, 3, 99, 2), (21, .iconst 1, 1, 1, 0), (22, .isub, 1, 0, 0), (23, .istore 4, 2, 0, 0), (25, .aload_n 0, 1, 0, 0), (26, .iload_n 3, 1, 0, 0), 
  (27, .iload 4, 2, 0, 0), (29, .invokevirtual 43, 3, 81, 2), (32, .istore 5, 2, 0, 0), (34, .aload_n 0, 1, 0, 0), (35, .iload_n 3, 1, 0, 0), (36, .invokevirtual 46, 3, 83, 1), (39, .istore 6, 2, 0, 0), 
  (41, .aload_n 0, 1, 0, 0), (42, .invokevirtual 49, 3, 82, 0), (45, .istore 7, 2, 0, 0), (47, .iload_n 1, 1, 0, 0), (48, .bipush 7, 2, 11, 0), (50, .ishr, 1, 0, 0), (51, .aload_n 0, 1, 0, 0), 
  (52, .iconst 1, 1, 1, 0), (53, .invokevirtual 13, 3, 85, 1), (56, .iconst 1, 1, 1, 0), (57, .iadd, 1, 0, 0), (58, .invokestatic 40, 3, 99, 2), (61, .istore 8, 2, 0, 0), (63, .aload_n 0, 1, 0, 0), 
  (64, .iload_n 3, 1, 0, 0), (65, .iload 8, 2, 0, 0), (67, .invokevirtual 52, 3, 79, 2), (70, .istore 9, 2, 0, 0), (72, .iload_n 3, 1, 0, 0), (73, .iload_n 2, 1, 0, 0), (74, .if_icmp .ne 7, 3, 81, 0), 
  (77, .iconst 1, 1, 1, 0), (78, .goto 4, 3, 82, 0), (81, .iconst 0, 1, 0, 0), (82, .istore 10, 2, 0, 0), (84, .iload 10, 2, 0, 0), (86, .ifCond .ne 25, 3, 111, 0), (89, .aload_n 0, 1, 0, 0), 
  (90, .iconst 0, 1, 0, 0), (91, .invokevirtual 13, 3, 85, 1), (94, .iconst 1, 1, 1, 0), (95, .if_icmp .ne 12, 3, 107, 0), (98, .aload_n 0, 1, 0, 0), (99, .iload_n 3, 1, 0, 0), (100, .iconst 2, 1, 2, 0), 
  (101, .invokevirtual 23, 3, 78, 2), (104, .ifCond .ne 7, 3, 111, 0), (107, .iconst 1, 1, 1, 0), (108, .goto 4, 3, 112, 0), (111, .iconst 0, 1, 0, 0), (112, .istore 11, 2, 0, 0), (114, .iload 7, 2, 0, 0), 
  (116, .ifCond .lt 17, 3, 133, 0), (119, .iload 7, 2, 0, 0), (121, .iload_n 3, 1, 0, 0), (122, .ishr, 1, 0, 0), (123, .iconst 1, 1, 1, 0), (124, .iand, 1, 0, 0), (125, .iconst 1, 1, 1, 0), 
  (126, .if_icmp .ne 7, 3, 133, 0), (129, .iconst 1, 1, 1, 0), (130, .goto 4, 3, 134, 0), (133, .iconst 0, 1, 0, 0), (134, .istore 12, 2, 0, 0), (136, .iload 10, 2, 0, 0), (138, .ifCond .ne 14, 3, 152, 0), 
  (141, .iload 4, 2, 0, 0), (143, .ifCond .lt 9, 3, 152, 0), (146, .iload 4, 2, 0, 0), (148, .iconst 2, 1, 2, 0), (149, .if_icmp .le 13, 3, 162, 0), (152, .iload 5, 2, 0, 0), (154, .ldc 32, 2, 53, 0), 
  (156, .if_icmp .ne 204, 3, 360, 0), (159, .goto 117, 3, 276, 0), (162, .iload 11, 2, 0, 0), (164, .ifCond .eq 13, 3, 177, 0), (167, .iload 5, 2, 0, 0), (169, .ldc 55, 2, 54, 0), (171, .if_icmp .ne 189, 3, 360, 0), 
  (174, .goto 102, 3, 276, 0), (177, .iload 4, 2, 0, 0), (179, .ifCond .ne 36, 3, 215, 0), (182, .iload 12, 2, 0, 0), (184, .ifCond .eq 13, 3, 197, 0), (187, .iload 5, 2, 0, 0), (189, .ldc 31, 2, 55, 0), 
  (191, .if_icmp .ne 169, 3, 360, 0), (194, .goto 82, 3, 276, 0), (197, .iload 5, 2, 0, 0), (199, .ifCond .lt 161, 3, 360, 0), (202, .iload 5, 2, 0, 0), (204, .aload_n 0, 1, 0, 0), 
  (205, .iconst 1, 1, 1, 0), (206, .invokevirtual 13, 3, 85, 1), (209, .if_icmp .ge 151, 3, 360, 0), (212, .goto 64, 3, 276, 0), (215, .iload 4, 2, 0, 0), (217, .iconst 1, 1, 1, 0), 
  (218, .if_icmp .ne 31, 3, 249, 0), (221, .iload 5, 2, 0, 0), (223, .iload 12, 2, 0, 0), (225, .ifCond .eq 7, 3, 232, 0), (228, .iconst 1, 1, 1, 0), (229, .goto 4, 3, 233, 0), (232, .iconst 0, 1, 0, 0), 
  (233, .if_icmp .lt 127, 3, 360, 0), (236, .iload 5, 2, 0, 0), (238, .aload_n 0, 1, 0, 0), (239, .iconst 1, 1, 1, 0), (240, .invokevirtual 13, 3, 85, 1), (243, .if_icmp .gt 117, 3, 360, 0), 
  (246, .goto 30, 3, 276, 0), (249, .iload 5, 2, 0, 0), (251, .iload 12, 2, 0, 0), (253, .ifCond .eq 7, 3, 260, 0), (256, .iconst 2, 1, 2, 0), (257, .goto 4, 3, 261, 0), (260, .iconst 1, 1, 1, 0), 
  (261, .if_icmp .lt 99, 3, 360, 0), (264, .iload 5, 2, 0, 0), (266, .aload_n 0, 1, 0, 0), (267, .iconst 1, 1, 1, 0), (268, .invokevirtual 13, 3, 85, 1), (271, .iconst 1, 1, 1, 0), 
  (272, .iadd, 1, 0, 0), (273, .if_icmp .gt 87, 3, 360, 0), (276, .iload 10, 2, 0, 0), (278, .ifCond .eq 13, 3, 291, 0), (281, .iload 6, 2, 0, 0), (283, .ldc 32, 2, 53, 0), (285, .if_icmp .ne 75, 3, 360, 0), 
  (288, .goto 68, 3, 356, 0), (291, .iload 11, 2, 0, 0), (293, .ifCond .eq 13, 3, 306, 0), (296, .iload 6, 2, 0, 0), (298, .ldc 55, 2, 54, 0), (300, .if_icmp .ne 60, 3, 360, 0), (303, .goto 53, 3, 356, 0), 
  (306, .iload 6, 2, 0, 0), (308, .ldc 31, 2, 55, 0), (310, .if_icmp .ne 11, 3, 321, 0), (313, .iload 12, 2, 0, 0), (315, .ifCond .eq 45, 3, 360, 0), (318, .goto 38, 3, 356, 0), (321, .iload 6, 2, 0, 0), 
  (323, .ifCond .lt 37, 3, 360, 0), (326, .iload 6, 2, 0, 0), (328, .bipush 24, 2, 24, 0), (330, .if_icmp .gt 30, 3, 360, 0), (333, .iload 6, 2, 0, 0), (335, .ifCond .ne 7, 3, 342, 0), 
  (338, .iconst 1, 1, 1, 0), (339, .goto 4, 3, 343, 0), (342, .iconst 0, 1, 0, 0), (343, .iload 12, 2, 0, 0), (345, .ifCond .ne 7, 3, 352, 0), (348, .iconst 1, 1, 1, 0), (349, .goto 4, 3, 353, 0), 
  (352, .iconst 0, 1, 0, 0), (353, .if_icmp .ne 7, 3, 360, 0), (356, .iconst 1, 1, 1, 0), (357, .goto 4, 3, 361, 0), (360, .iconst 0, 1, 0, 0), (361, .istore 13, 2, 0, 0), (363, .iload 13, 2, 0, 0), 
  (365, .ifCond .eq 107, 3, 472, 0), (368, .aload_n 0, 1, 0, 0), (369, .iconst 0, 1, 0, 0), (370, .invokevirtual 13, 3, 85, 1), (373, .iconst 1, 1, 1, 0), (374, .if_icmp .eq 13, 3, 387, 0), 
  (377, .iload 7, 2, 0, 0), (379, .ldc 55, 2, 54, 0), (381, .if_icmp .ne 91, 3, 472, 0), (384, .goto 38, 3, 422, 0), (387, .iload 7, 2, 0, 0), (389, .aload_n 0, 1, 0, 0), (390, .iconst 3, 1, 7, 0), 
  (391, .invokevirtual 13, 3, 85, 1), (394, .iconst (-1), 1, 5, 0), (395, .ixor, 1, 0, 0), (396, .iand, 1, 0, 0), (397, .ifCond .ne 75, 3, 472, 0), (400, .iload 7, 2, 0, 0), (402, .invokestatic 33, 3, 101, 1), 
  (405, .aload_n 0, 1, 0, 0), (406, .iconst 3, 1, 7, 0), (407, .invokevirtual 13, 3, 85, 1), (410, .invokestatic 33, 3, 101, 1), (413, .aload_n 0, 1, 0, 0), (414, .iconst 1, 1, 1, 0), 
  (415, .invokevirtual 13, 3, 85, 1), (418, .isub, 1, 0, 0), (419, .if_icmp .ne 53, 3, 472, 0), (422, .iload 10, 2, 0, 0), (424, .ifCond .ne 13, 3, 437, 0), (427, .iload 8, 2, 0, 0), 
  (429, .aload_n 0, 1, 0, 0), (430, .iconst 1, 1, 1, 0), (431, .invokevirtual 13, 3, 85, 1), (434, .if_icmp .ne 13, 3, 447, 0), (437, .iload 9, 2, 0, 0), (439, .ldc 32, 2, 53, 0), (441, .if_icmp .ne 31, 3, 472, 0), 
  (444, .goto 24, 3, 468, 0), (447, .iload 9, 2, 0, 0), (449, .aload_n 0, 1, 0, 0), (450, .iload_n 3, 1, 0, 0), (451, .iconst 1, 1, 1, 0), (452, .invokevirtual 23, 3, 78, 2), (455, .aload_n 0, 1, 0, 0), 
  (456, .iload 8, 2, 0, 0), (458, .iconst 0, 1, 0, 0), (459, .invokevirtual 19, 3, 77, 2), (462, .ishr, 1, 0, 0), (463, .iconst 1, 1, 1, 0), (464, .iand, 1, 0, 0), (465, .if_icmp .ne 7, 3, 472, 0), 
  (468, .iconst 1, 1, 1, 0), (469, .goto 4, 3, 473, 0), (472, .iconst 0, 1, 0, 0), (473, .ireturn, 1, 0, 0)]
def m_Law_would : xM := (13, false, (some .boolean), 14, k_Law_would)
abbrev i_Law_would : Nat := 103
def k_Law_number : xK := [(0, .iload_n 1, 1, 0, 0), (1, .bipush 100, 2, 32, 0), (3, .if_icmp .lt 17, 3, 20, 0), (6, .aload_n 0, 1, 0, 0), (7, .bipush 48, 2, 14, 0), (9, .iload_n 1, 1, 0, 0), 
  (10, .bipush 100, 2, 32, 0), (12, .idiv, 1, 0, 0), (13, .iadd, 1, 0, 0), (14, .invokevirtual 56, 3, 87, 1), (17, .ifCond .le 44, 3, 61, 0), (20, .iload_n 1, 1, 0, 0), (21, .bipush 10, 2, 10, 0), 
  (23, .if_icmp .lt 20, 3, 43, 0), (26, .aload_n 0, 1, 0, 0), (27, .bipush 48, 2, 14, 0), (29, .iload_n 1, 1, 0, 0), (30, .bipush 10, 2, 10, 0), (32, .idiv, 1, 0, 0), (33, .bipush 10, 2, 10, 0), 
  (35, .irem, 1, 0, 0), (36, .iadd, 1, 0, 0), (37, .invokevirtual 56, 3, 87, 1), (40, .ifCond .le 21, 3, 61, 0), (43, .aload_n 0, 1, 0, 0), (44, .bipush 48, 2, 14, 0), (46, .iload_n 1, 1, 0, 0), 
  (47, .bipush 10, 2, 10, 0), (49, .irem, 1, 0, 0), (50, .iadd, 1, 0, 0), (51, .invokevirtual 56, 3, 87, 1), (54, .ifCond .le 7, 3, 61, 0), (57, .iconst 1, 1, 1, 0), (58, .goto 4, 3, 62, 0), 
  (61, .iconst 0, 1, 0, 0), (62, .ireturn, 1, 0, 0)]
def m_Law_number : xM := (13, false, (some .boolean), 2, k_Law_number)
abbrev i_Law_number : Nat := 104
def k_Law_types : xK := [(0, .iload_n 1, 1, 0, 0), (1, .bipush 8, 2, 8, 0), (3, .invokestatic 40, 3, 99, 2), (6, .istore_n 2, 1, 0, 0), (7, .aload_n 0, 1, 0, 0), (8, .invokevirtual 59, 3, 88, 0), 
  (11, .ifCond .lt 7, 3, 18, 0), (14, .iconst 1, 1, 1, 0), (15, .goto 4, 3, 19, 0), (18, .iconst 0, 1, 0, 0), (19, .istore_n 3, 1, 0, 0), (20, .iconst 0, 1, 0, 0), (21, .istore 4, 2, 0, 0), 
  (23, .iload 4, 2, 0, 0), (25, .iload_n 2, 1, 0, 0), (26, .if_icmp .ge 268, 3, 294, 0), (29, .iload_n 1, 1, 0, 0), (30, .iconst 2, 1, 2, 0), (31, .iconst 2, 1, 2, 0), (32, .iload 4, 2, 0, 0), 
  (34, .imul, 1, 0, 0), (35, .iadd, 1, 0, 0), (36, .ishr, 1, 0, 0), (37, .istore 5, 2, 0, 0), (39, .iload 5, 2, 0, 0), (41, .bipush 10, 2, 10, 0), (43, .invokestatic 40, 3, 99, 2), 
  (46, .istore 6, 2, 0, 0), (48, .iload_n 3, 1, 0, 0), (49, .ifCond .eq 193, 3, 242, 0), (52, .aload_n 0, 1, 0, 0), (53, .iload 6, 2, 0, 0), (55, .iconst 2, 1, 2, 0), (56, .if_icmp .ge 8, 3, 64, 0), 
  (59, .bipush 99, 2, 21, 0), (61, .goto 40, 3, 101, 0), (64, .iload 6, 2, 0, 0), (66, .iconst 5, 1, 6, 0), (67, .if_icmp .ge 8, 3, 75, 0), (70, .bipush 112, 2, 43, 0), (72, .goto 29, 3, 101, 0), 
  (75, .iload 6, 2, 0, 0), (77, .bipush 7, 2, 11, 0), (79, .if_icmp .ge 8, 3, 87, 0), (82, .bipush 98, 2, 44, 0), (84, .goto 17, 3, 101, 0), (87, .iload 6, 2, 0, 0), (89, .bipush 9, 2, 12, 0), 
  (91, .if_icmp .ge 8, 3, 99, 0), (94, .bipush 103, 2, 45, 0), (96, .goto 5, 3, 101, 0), (99, .bipush 115, 2, 46, 0), (101, .invokevirtual 56, 3, 87, 1), (104, .ifCond .le 138, 3, 242, 0), 
  (107, .iload 6, 2, 0, 0), (109, .bipush 6, 2, 17, 0), (111, .if_icmp .gt 54, 3, 165, 0), (114, .aload_n 0, 1, 0, 0), (115, .iload 6, 2, 0, 0), (117, .iconst 2, 1, 2, 0), (118, .if_icmp .ge 32, 3, 150, 0), 
  (121, .iload 5, 2, 0, 0), (123, .iconst 3, 1, 7, 0), (124, .ishr, 1, 0, 0), (125, .iload_n 1, 1, 0, 0), (126, .bipush 22, 2, 25, 0), (128, .ishr, 1, 0, 0), (129, .bipush 9, 2, 12, 0), 
  (131, .invokestatic 40, 3, 99, 2), (134, .ifCond .ne 8, 3, 142, 0), (137, .bipush 10, 2, 10, 0), (139, .goto 5, 3, 144, 0), (142, .bipush 9, 2, 12, 0), (144, .invokestatic 40, 3, 99, 2), 
  (147, .goto 12, 3, 159, 0), (150, .iload 5, 2, 0, 0), (152, .iconst 3, 1, 7, 0), (153, .ishr, 1, 0, 0), (154, .bipush 10, 2, 10, 0), (156, .invokestatic 40, 3, 99, 2), (159, .invokestatic 62, 3, 104, 2), 
  (162, .ifCond .eq 80, 3, 242, 0), (165, .iload 6, 2, 0, 0), (167, .iconst 2, 1, 2, 0), (168, .if_icmp .lt 70, 3, 238, 0), (171, .iload 6, 2, 0, 0), (173, .iconst 4, 1, 4, 0), (174, .if_icmp .gt 64, 3, 238, 0), 
  (177, .aload_n 0, 1, 0, 0), (178, .iload_n 1, 1, 0, 0), (179, .bipush 23, 2, 31, 0), (181, .ishr, 1, 0, 0), (182, .bipush 9, 2, 12, 0), (184, .invokestatic 40, 3, 99, 2), (187, .ifCond .ne 8, 3, 195, 0), 
  (190, .bipush 46, 2, 33, 0), (192, .goto 5, 3, 197, 0), (195, .bipush 44, 2, 28, 0), (197, .invokevirtual 56, 3, 87, 1), (200, .ifCond .le 42, 3, 242, 0), (203, .aload_n 0, 1, 0, 0), 
  (204, .iload 5, 2, 0, 0), (206, .iconst 4, 1, 4, 0), (207, .ishr, 1, 0, 0), (208, .iload_n 1, 1, 0, 0), (209, .bipush 24, 2, 24, 0), (211, .ishr, 1, 0, 0), (212, .bipush 9, 2, 12, 0), 
  (214, .invokestatic 40, 3, 99, 2), (217, .ifCond .ne 9, 3, 226, 0), (220, .sipush 600, 3, 47, 0), (223, .goto 6, 3, 229, 0), (226, .sipush 512, 3, 19, 0), (229, .invokestatic 40, 3, 99, 2), 
  (232, .invokestatic 62, 3, 104, 2), (235, .ifCond .eq 7, 3, 242, 0), (238, .iconst 1, 1, 1, 0), (239, .goto 4, 3, 243, 0), (242, .iconst 0, 1, 0, 0), (243, .istore_n 3, 1, 0, 0), 
  (244, .iload_n 3, 1, 0, 0), (245, .ifCond .eq 41, 3, 286, 0), (248, .aload_n 0, 1, 0, 0), (249, .iload 4, 2, 0, 0), (251, .iload_n 2, 1, 0, 0), (252, .iconst 1, 1, 1, 0), (253, .isub, 1, 0, 0), 
  (254, .if_icmp .ne 20, 3, 274, 0), (257, .iload_n 1, 1, 0, 0), (258, .bipush 26, 2, 48, 0), (260, .ishr, 1, 0, 0), (261, .bipush 7, 2, 11, 0), (263, .invokestatic 40, 3, 99, 2), (266, .ifCond .ne 8, 3, 274, 0), 
  (269, .bipush 46, 2, 33, 0), (271, .goto 5, 3, 276, 0), (274, .bipush 59, 2, 18, 0), (276, .invokevirtual 56, 3, 87, 1), (279, .ifCond .le 7, 3, 286, 0), (282, .iconst 1, 1, 1, 0), 
  (283, .goto 4, 3, 287, 0), (286, .iconst 0, 1, 0, 0), (287, .istore_n 3, 1, 0, 0), (288, .iinc 4 1, 3, 1, 0), (291, .goto (-268), 3, 23, 0), (294, .iload_n 3, 1, 0, 0), (295, .ireturn, 1, 0, 0)]
def m_Law_types : xM := (13, false, (some .boolean), 7, k_Law_types)
abbrev i_Law_types : Nat := 105
def k_Law_reads : xK := [(0, .iload_n 1, 1, 0, 0), (1, .bipush 8, 2, 8, 0), (3, .invokestatic 40, 3, 99, 2), (6, .istore_n 2, 1, 0, 0), (7, .aload_n 0, 1, 0, 0), (8, .iload_n 1, 1, 0, 0), 
  (9, .invokestatic 66, 3, 105, 2), (12, .istore_n 3, 1, 0, 0), (13, .aload_n 0, 1, 0, 0), (14, .bipush 15, 2, 26, 0), (16, .invokevirtual 13, 3, 85, 1), (19, .istore 4, 2, 0, 0), (21, .aload_n 0, 1, 0, 0), 
  (22, .bipush 14, 2, 13, 0), (24, .invokevirtual 13, 3, 85, 1), (27, .istore 5, 2, 0, 0), (29, .aload_n 0, 1, 0, 0), (30, .iconst 0, 1, 0, 0), (31, .invokevirtual 69, 3, 89, 1), (34, .istore 6, 2, 0, 0), 
  (36, .aload_n 0, 1, 0, 0), (37, .iconst 1, 1, 1, 0), (38, .invokevirtual 69, 3, 89, 1), (41, .istore 7, 2, 0, 0), (43, .aload_n 0, 1, 0, 0), (44, .iconst 2, 1, 2, 0), (45, .invokevirtual 69, 3, 89, 1), 
  (48, .istore 8, 2, 0, 0), (50, .aload_n 0, 1, 0, 0), (51, .invokevirtual 72, 3, 90, 0), (54, .istore 9, 2, 0, 0), (56, .iload_n 3, 1, 0, 0), (57, .ifCond .eq 97, 3, 154, 0), (60, .aload_n 0, 1, 0, 0), 
  (61, .bipush 15, 2, 26, 0), (63, .invokevirtual 13, 3, 85, 1), (66, .iload 4, 2, 0, 0), (68, .if_icmp .ne 86, 3, 154, 0), (71, .iload 6, 2, 0, 0), (73, .ldc 31, 2, 55, 0), (75, .if_icmp .ne 7, 3, 82, 0), 
  (78, .iconst 1, 1, 1, 0), (79, .goto 4, 3, 83, 0), (82, .iconst 0, 1, 0, 0), (83, .iload 7, 2, 0, 0), (85, .ldc 31, 2, 55, 0), (87, .if_icmp .ne 7, 3, 94, 0), (90, .iconst 1, 1, 1, 0), 
  (91, .goto 4, 3, 95, 0), (94, .iconst 0, 1, 0, 0), (95, .if_icmp .ne 59, 3, 154, 0), (98, .iload 6, 2, 0, 0), (100, .ldc 31, 2, 55, 0), (102, .if_icmp .ne 7, 3, 109, 0), (105, .iconst 1, 1, 1, 0), 
  (106, .goto 4, 3, 110, 0), (109, .iconst 0, 1, 0, 0), (110, .iload 8, 2, 0, 0), (112, .ldc 31, 2, 55, 0), (114, .if_icmp .ne 7, 3, 121, 0), (117, .iconst 1, 1, 1, 0), (118, .goto 4, 3, 122, 0), 
  (121, .iconst 0, 1, 0, 0), (122, .if_icmp .ne 32, 3, 154, 0), (125, .iload 9, 2, 0, 0), (127, .ldc 55, 2, 54, 0), (129, .if_icmp .ne 7, 3, 136, 0), (132, .iconst 1, 1, 1, 0), (133, .goto 4, 3, 137, 0), 
  (136, .iconst 0, 1, 0, 0), (137, .iload 6, 2, 0, 0), (139, .ifCond .lt 7, 3, 146, 0), (142, .iconst 1, 1, 1, 0), (143, .goto 4, 3, 147, 0), (146, .iconst 0, 1, 0, 0), (147, .if_icmp .ne 7, 3, 154, 0), 
  (150, .iconst 1, 1, 1, 0), (151, .goto 4, 3, 155, 0), (154, .iconst 0, 1, 0, 0), (155, .istore 10, 2, 0, 0), (157, .iload 10, 2, 0, 0), (159, .ifCond .eq 113, 3, 272, 0), (162, .iload 6, 2, 0, 0), 
  (164, .ifCond .lt 75, 3, 239, 0), (167, .iload 6, 2, 0, 0), (169, .iload 4, 2, 0, 0), (171, .if_icmp .ge 101, 3, 272, 0), (174, .iload 7, 2, 0, 0), (176, .iconst 1, 1, 1, 0), (177, .if_icmp .ne 21, 3, 198, 0), 
  (180, .iload 8, 2, 0, 0), (182, .ifCond .lt 90, 3, 272, 0), (185, .iload 6, 2, 0, 0), (187, .iload 8, 2, 0, 0), (189, .iadd, 1, 0, 0), (190, .iload 4, 2, 0, 0), (192, .if_icmp .gt 80, 3, 272, 0), 
  (195, .goto 30, 3, 225, 0), (198, .iload 7, 2, 0, 0), (200, .iconst 2, 1, 2, 0), (201, .if_icmp .ne 71, 3, 272, 0), (204, .iload 8, 2, 0, 0), (206, .ldc 32, 2, 53, 0), (208, .if_icmp .eq 17, 3, 225, 0), 
  (211, .iload 8, 2, 0, 0), (213, .ldc 55, 2, 54, 0), (215, .if_icmp .eq 10, 3, 225, 0), (218, .iload 8, 2, 0, 0), (220, .ldc 75, 2, 52, 0), (222, .if_icmp .ne 50, 3, 272, 0), (225, .aload_n 0, 1, 0, 0), 
  (226, .bipush 14, 2, 13, 0), (228, .invokevirtual 13, 3, 85, 1), (231, .iload 5, 2, 0, 0), (233, .if_icmp .ne 39, 3, 272, 0), (236, .goto 32, 3, 268, 0), (239, .iload 9, 2, 0, 0), 
  (241, .iload_n 2, 1, 0, 0), (242, .if_icmp .ne 30, 3, 272, 0), (245, .aload_n 0, 1, 0, 0), (246, .bipush 14, 2, 13, 0), (248, .invokevirtual 13, 3, 85, 1), (251, .iload 5, 2, 0, 0), 
  (253, .iconst 4, 1, 4, 0), (254, .if_icmp .ge 10, 3, 264, 0), (257, .iload 5, 2, 0, 0), (259, .iconst 1, 1, 1, 0), (260, .iadd, 1, 0, 0), (261, .goto 4, 3, 265, 0), (264, .iconst 4, 1, 4, 0), 
  (265, .if_icmp .ne 7, 3, 272, 0), (268, .iconst 1, 1, 1, 0), (269, .goto 4, 3, 273, 0), (272, .iconst 0, 1, 0, 0), (273, .ireturn, 1, 0, 0)]
def m_Law_reads : xM := (13, false, (some .boolean), 11, k_Law_reads)
abbrev i_Law_reads : Nat := 106
def k_Law_music : xK := [(0, .aload_n 0, 1, 0, 0), (1, .iconst 0, 1, 0, 0), (2, .invokevirtual 13, 3, 85, 1), (5, .istore_n 3, 1, 0, 0), (6, .aload_n 0, 1, 0, 0), (7, .iconst 1, 1, 1, 0), 
  (8, .invokevirtual 13, 3, 85, 1), (11, .istore 4, 2, 0, 0), (13, .aload_n 0, 1, 0, 0), (14, .iconst 3, 1, 7, 0), (15, .invokevirtual 13, 3, 85, 1), (18, .istore 5, 2, 0, 0), (20, .iload_n 1, 1, 0, 0), 
  (21, .ifCond .ne 102, 3, 123, 0), (24, .iload_n 3, 1, 0, 0), (25, .ifCond .ne 22, 3, 47, 0), (28, .iload 4, 2, 0, 0), (30, .ifCond .le 17, 3, 47, 0), (33, .iload 5, 2, 0, 0), (35, .invokestatic 33, 3, 101, 1), 
  (38, .iload 4, 2, 0, 0), (40, .if_icmp .le 7, 3, 47, 0), (43, .iconst 1, 1, 1, 0), (44, .goto 4, 3, 48, 0), (47, .iconst 0, 1, 0, 0), (48, .istore 6, 2, 0, 0), (50, .aload_n 0, 1, 0, 0), 
  (51, .invokevirtual 76, 3, 73, 0), (54, .istore 7, 2, 0, 0), (56, .iload 7, 2, 0, 0), (58, .iload 6, 2, 0, 0), (60, .ifCond .eq 11, 3, 71, 0), (63, .iload 5, 2, 0, 0), (65, .invokestatic 33, 3, 101, 1), 
  (68, .goto 5, 3, 73, 0), (71, .ldc 55, 2, 54, 0), (73, .if_icmp .ne 48, 3, 121, 0), (76, .aload_n 0, 1, 0, 0), (77, .iconst 0, 1, 0, 0), (78, .invokevirtual 13, 3, 85, 1), (81, .iload 6, 2, 0, 0), 
  (83, .ifCond .eq 7, 3, 90, 0), (86, .iconst 1, 1, 1, 0), (87, .goto 4, 3, 91, 0), (90, .iload_n 3, 1, 0, 0), (91, .if_icmp .ne 30, 3, 121, 0), (94, .iload 6, 2, 0, 0), (96, .ifCond .eq 21, 3, 117, 0), 
  (99, .aload_n 0, 1, 0, 0), (100, .iconst 5, 1, 6, 0), (101, .invokevirtual 13, 3, 85, 1), (104, .ifCond .ne 17, 3, 121, 0), (107, .aload_n 0, 1, 0, 0), (108, .iconst 1, 1, 1, 0), 
  (109, .invokevirtual 13, 3, 85, 1), (112, .iload 4, 2, 0, 0), (114, .if_icmp .ne 7, 3, 121, 0), (117, .iconst 1, 1, 1, 0), (118, .goto 4, 3, 122, 0), (121, .iconst 0, 1, 0, 0), (122, .ireturn, 1, 0, 0), 
  (123, .iload_n 1, 1, 0, 0), (124, .iconst 1, 1, 1, 0), (125, .if_icmp .ne 233, 3, 358, 0), (128, .iload_n 2, 1, 0, 0), (129, .iload_n 2, 1, 0, 0), (130, .bipush 8, 2, 8, 0), (132, .ishr, 1, 0, 0), 
  (133, .iconst 5, 1, 6, 0), (134, .invokestatic 40, 3, 99, 2), (137, .ifCond .ne 8, 3, 145, 0), (140, .bipush 102, 2, 49, 0), (142, .goto 5, 3, 147, 0), (145, .bipush 30, 2, 34, 0), 
  (147, .invokestatic 40, 3, 99, 2), (150, .istore 6, 2, 0, 0), (152, .iload 6, 2, 0, 0), (154, .ifCond .eq 10, 3, 164, 0), (157, .iload 6, 2, 0, 0), (159, .bipush 99, 2, 21, 0), (161, .if_icmp .le 7, 3, 168, 0), 
  (164, .iconst 1, 1, 1, 0), (165, .goto 4, 3, 169, 0), (168, .iconst 0, 1, 0, 0), (169, .istore 7, 2, 0, 0), (171, .aload_n 0, 1, 0, 0), (172, .iconst 5, 1, 6, 0), (173, .invokevirtual 13, 3, 85, 1), 
  (176, .istore 8, 2, 0, 0), (178, .iload_n 2, 1, 0, 0), (179, .iconst 5, 1, 6, 0), (180, .ishr, 1, 0, 0), (181, .aload_n 0, 1, 0, 0), (182, .iconst 2, 1, 2, 0), (183, .invokevirtual 13, 3, 85, 1), 
  (186, .iconst 1, 1, 1, 0), (187, .iadd, 1, 0, 0), (188, .invokestatic 40, 3, 99, 2), (191, .istore 9, 2, 0, 0), (193, .iload 9, 2, 0, 0), (195, .aload_n 0, 1, 0, 0), (196, .iconst 2, 1, 2, 0), 
  (197, .invokevirtual 13, 3, 85, 1), (200, .if_icmp .ge 23, 3, 223, 0), (203, .iload_n 3, 1, 0, 0), (204, .iconst 1, 1, 1, 0), (205, .if_icmp .ne 18, 3, 223, 0), (208, .aload_n 0, 1, 0, 0), 
  (209, .iload 9, 2, 0, 0), (211, .iconst 2, 1, 2, 0), (212, .invokevirtual 23, 3, 78, 2), (215, .iconst 1, 1, 1, 0), (216, .if_icmp .ne 7, 3, 223, 0), (219, .iconst 1, 1, 1, 0), (220, .goto 4, 3, 224, 0), 
  (223, .iconst 0, 1, 0, 0), (224, .istore 10, 2, 0, 0), (226, .iload 10, 2, 0, 0), (228, .ifCond .eq 13, 3, 241, 0), (231, .aload_n 0, 1, 0, 0), (232, .iload 9, 2, 0, 0), (234, .iconst 3, 1, 7, 0), 
  (235, .invokevirtual 23, 3, 78, 2), (238, .goto 4, 3, 242, 0), (241, .iconst 0, 1, 0, 0), (242, .istore 11, 2, 0, 0), (244, .iload 10, 2, 0, 0), (246, .ifCond .eq 13, 3, 259, 0), 
  (249, .aload_n 0, 1, 0, 0), (250, .iload 9, 2, 0, 0), (252, .iconst 0, 1, 0, 0), (253, .invokevirtual 23, 3, 78, 2), (256, .goto 4, 3, 260, 0), (259, .iconst 0, 1, 0, 0), (260, .istore 12, 2, 0, 0), 
  (262, .aload_n 0, 1, 0, 0), (263, .iload 6, 2, 0, 0), (265, .invokevirtual 79, 3, 74, 1), (268, .istore 13, 2, 0, 0), (270, .iload 13, 2, 0, 0), (272, .iload 7, 2, 0, 0), (274, .ifCond .eq 8, 3, 282, 0), 
  (277, .ldc 32, 2, 53, 0), (279, .goto 34, 3, 313, 0), (282, .iload_n 3, 1, 0, 0), (283, .iconst 1, 1, 1, 0), (284, .if_icmp .eq 8, 3, 292, 0), (287, .ldc 55, 2, 54, 0), (289, .goto 24, 3, 313, 0), 
  (292, .iload 8, 2, 0, 0), (294, .iload 6, 2, 0, 0), (296, .iadd, 1, 0, 0), (297, .sipush 999, 3, 22, 0), (300, .if_icmp .le 8, 3, 308, 0), (303, .ldc 75, 2, 52, 0), (305, .goto 8, 3, 313, 0), 
  (308, .iload 8, 2, 0, 0), (310, .iload 6, 2, 0, 0), (312, .iadd, 1, 0, 0), (313, .if_icmp .ne 43, 3, 356, 0), (316, .iload 10, 2, 0, 0), (318, .ifCond .eq 34, 3, 352, 0), (321, .aload_n 0, 1, 0, 0), 
  (322, .iload 9, 2, 0, 0), (324, .iconst 3, 1, 7, 0), (325, .invokevirtual 23, 3, 78, 2), (328, .iload 13, 2, 0, 0), (330, .ifCond .ge 8, 3, 338, 0), (333, .iload 11, 2, 0, 0), (335, .goto 14, 3, 349, 0), 
  (338, .iload 11, 2, 0, 0), (340, .iload 12, 2, 0, 0), (342, .iload 6, 2, 0, 0), (344, .imul, 1, 0, 0), (345, .iadd, 1, 0, 0), (346, .iload 4, 2, 0, 0), (348, .irem, 1, 0, 0), (349, .if_icmp .ne 7, 3, 356, 0), 
  (352, .iconst 1, 1, 1, 0), (353, .goto 4, 3, 357, 0), (356, .iconst 0, 1, 0, 0), (357, .ireturn, 1, 0, 0), (358, .aload_n 0, 1, 0, 0), (359, .invokevirtual 49, 3, 82, 0), (362, .istore 6, 2, 0, 0), 
  (364, .iload_n 2, 1, 0, 0), (365, .aload_n 0, 1, 0, 0), (366, .iconst 2, 1, 2, 0), (367, .invokevirtual 13, 3, 85, 1), (370, .iconst 1, 1, 1, 0), (371, .iadd, 1, 0, 0), (372, .invokestatic 40, 3, 99, 2), 
  (375, .istore 7, 2, 0, 0), (377, .iload 7, 2, 0, 0), (379, .aload_n 0, 1, 0, 0), (380, .iconst 2, 1, 2, 0), (381, .invokevirtual 13, 3, 85, 1), (384, .if_icmp .ge 23, 3, 407, 0), 
  (387, .iload_n 3, 1, 0, 0), (388, .iconst 1, 1, 1, 0), (389, .if_icmp .ne 18, 3, 407, 0), (392, .aload_n 0, 1, 0, 0), (393, .iload 7, 2, 0, 0), (395, .iconst 2, 1, 2, 0), (396, .invokevirtual 23, 3, 78, 2), 
  (399, .iconst 1, 1, 1, 0), (400, .if_icmp .ne 7, 3, 407, 0), (403, .iconst 1, 1, 1, 0), (404, .goto 4, 3, 408, 0), (407, .iconst 0, 1, 0, 0), (408, .istore 8, 2, 0, 0), (410, .iload 8, 2, 0, 0), 
  (412, .ifCond .eq 21, 3, 433, 0), (415, .aload_n 0, 1, 0, 0), (416, .iload 7, 2, 0, 0), (418, .iconst 5, 1, 6, 0), (419, .invokevirtual 23, 3, 78, 2), (422, .aload_n 0, 1, 0, 0), 
  (423, .iload 7, 2, 0, 0), (425, .iconst 1, 1, 1, 0), (426, .invokevirtual 43, 3, 81, 2), (429, .iadd, 1, 0, 0), (430, .goto 4, 3, 434, 0), (433, .iconst 0, 1, 0, 0), (434, .istore 9, 2, 0, 0), 
  (436, .iload 8, 2, 0, 0), (438, .ifCond .eq 13, 3, 451, 0), (441, .aload_n 0, 1, 0, 0), (442, .iload 7, 2, 0, 0), (444, .iconst 2, 1, 2, 0), (445, .invokevirtual 43, 3, 81, 2), (448, .goto 4, 3, 452, 0), 
  (451, .iconst 0, 1, 0, 0), (452, .istore 10, 2, 0, 0), (454, .iload 8, 2, 0, 0), (456, .ifCond .eq 13, 3, 469, 0), (459, .aload_n 0, 1, 0, 0), (460, .iload 7, 2, 0, 0), (462, .iconst 4, 1, 4, 0), 
  (463, .invokevirtual 23, 3, 78, 2), (466, .goto 4, 3, 470, 0), (469, .iconst 0, 1, 0, 0), (470, .istore 11, 2, 0, 0), (472, .aload_n 0, 1, 0, 0), (473, .iconst 4, 1, 4, 0), (474, .invokevirtual 13, 3, 85, 1), 
  (477, .istore 12, 2, 0, 0), (479, .aload_n 0, 1, 0, 0), (480, .invokevirtual 82, 3, 75, 0), (483, .istore 13, 2, 0, 0), (485, .iload 13, 2, 0, 0), (487, .iload 6, 2, 0, 0), (489, .if_icmp .ne 145, 3, 634, 0), 
  (492, .iload_n 3, 1, 0, 0), (493, .iconst 1, 1, 1, 0), (494, .if_icmp .eq 23, 3, 517, 0), (497, .iload 13, 2, 0, 0), (499, .ldc 55, 2, 54, 0), (501, .if_icmp .ne 133, 3, 634, 0), 
  (504, .aload_n 0, 1, 0, 0), (505, .iconst 4, 1, 4, 0), (506, .invokevirtual 13, 3, 85, 1), (509, .iload 12, 2, 0, 0), (511, .if_icmp .ne 123, 3, 634, 0), (514, .goto 116, 3, 630, 0), 
  (517, .aload_n 0, 1, 0, 0), (518, .iconst 4, 1, 4, 0), (519, .invokevirtual 13, 3, 85, 1), (522, .iload 12, 2, 0, 0), (524, .iconst 1, 1, 1, 0), (525, .iadd, 1, 0, 0), (526, .if_icmp .ne 108, 3, 634, 0), 
  (529, .aload_n 0, 1, 0, 0), (530, .iconst 3, 1, 7, 0), (531, .invokevirtual 13, 3, 85, 1), (534, .iload 5, 2, 0, 0), (536, .iload 6, 2, 0, 0), (538, .iconst (-1), 1, 5, 0), (539, .ixor, 1, 0, 0), 
  (540, .iand, 1, 0, 0), (541, .if_icmp .ne 93, 3, 634, 0), (544, .aload_n 0, 1, 0, 0), (545, .iconst 0, 1, 0, 0), (546, .invokevirtual 13, 3, 85, 1), (549, .iload 5, 2, 0, 0), (551, .iload 6, 2, 0, 0), 
  (553, .iconst (-1), 1, 5, 0), (554, .ixor, 1, 0, 0), (555, .iand, 1, 0, 0), (556, .invokestatic 33, 3, 101, 1), (559, .iconst 2, 1, 2, 0), (560, .if_icmp .ge 7, 3, 567, 0), (563, .iconst 2, 1, 2, 0), 
  (564, .goto 4, 3, 568, 0), (567, .iconst 0, 1, 0, 0), (568, .if_icmp .ne 66, 3, 634, 0), (571, .iload 8, 2, 0, 0), (573, .ifCond .eq 57, 3, 630, 0), (576, .aload_n 0, 1, 0, 0), (577, .iload 7, 2, 0, 0), 
  (579, .iconst 5, 1, 6, 0), (580, .invokevirtual 23, 3, 78, 2), (583, .iload 9, 2, 0, 0), (585, .if_icmp .ne 49, 3, 634, 0), (588, .aload_n 0, 1, 0, 0), (589, .iload 7, 2, 0, 0), (591, .bipush 8, 2, 8, 0), 
  (593, .invokevirtual 23, 3, 78, 2), (596, .iload 10, 2, 0, 0), (598, .if_icmp .ne 36, 3, 634, 0), (601, .aload_n 0, 1, 0, 0), (602, .iload 7, 2, 0, 0), (604, .iconst 4, 1, 4, 0), 
  (605, .invokevirtual 23, 3, 78, 2), (608, .iload 11, 2, 0, 0), (610, .iload 6, 2, 0, 0), (612, .iload 7, 2, 0, 0), (614, .ishr, 1, 0, 0), (615, .iconst 1, 1, 1, 0), (616, .iand, 1, 0, 0), 
  (617, .iconst 1, 1, 1, 0), (618, .if_icmp .ne 7, 3, 625, 0), (621, .iconst 0, 1, 0, 0), (622, .goto 4, 3, 626, 0), (625, .iconst 1, 1, 1, 0), (626, .iadd, 1, 0, 0), (627, .if_icmp .ne 7, 3, 634, 0), 
  (630, .iconst 1, 1, 1, 0), (631, .goto 4, 3, 635, 0), (634, .iconst 0, 1, 0, 0), (635, .ireturn, 1, 0, 0)]
def m_Law_music : xM := (13, false, (some .boolean), 14, k_Law_music)
abbrev i_Law_music : Nat := 107
def k_Law_acts : xK := [(0, .iload_n 1, 1, 0, 0), (1, .bipush 30, 2, 34, 0), (3, .invokestatic 40, 3, 99, 2), (6, .istore_n 3, 1, 0, 0), (7, .aload_n 0, 1, 0, 0), (8, .iconst 0, 1, 0, 0), 
  (9, .invokevirtual 13, 3, 85, 1), (12, .istore 4, 2, 0, 0), (14, .aload_n 0, 1, 0, 0), (15, .iconst 1, 1, 1, 0), (16, .invokevirtual 13, 3, 85, 1), (19, .istore 5, 2, 0, 0), (21, .aload_n 0, 1, 0, 0), 
  (22, .iconst 2, 1, 2, 0), (23, .invokevirtual 13, 3, 85, 1), (26, .istore 6, 2, 0, 0), (28, .iload_n 3, 1, 0, 0), (29, .iconst 4, 1, 4, 0), (30, .if_icmp .ge 145, 3, 175, 0), (33, .iload_n 2, 1, 0, 0), 
  (34, .bipush 11, 2, 27, 0), (36, .invokestatic 40, 3, 99, 2), (39, .iconst 1, 1, 1, 0), (40, .isub, 1, 0, 0), (41, .istore 7, 2, 0, 0), (43, .iload 7, 2, 0, 0), (45, .ifCond .lt 10, 3, 55, 0), 
  (48, .iload 7, 2, 0, 0), (50, .bipush 8, 2, 8, 0), (52, .if_icmp .le 7, 3, 59, 0), (55, .iconst 1, 1, 1, 0), (56, .goto 4, 3, 60, 0), (59, .iconst 0, 1, 0, 0), (60, .istore 8, 2, 0, 0), 
  (62, .aload_n 0, 1, 0, 0), (63, .iload 7, 2, 0, 0), (65, .invokevirtual 85, 3, 69, 1), (68, .istore 9, 2, 0, 0), (70, .iload 9, 2, 0, 0), (72, .iload 8, 2, 0, 0), (74, .ifCond .eq 8, 3, 82, 0), 
  (77, .ldc 32, 2, 53, 0), (79, .goto 27, 3, 106, 0), (82, .iload 4, 2, 0, 0), (84, .ifCond .eq 8, 3, 92, 0), (87, .ldc 55, 2, 54, 0), (89, .goto 17, 3, 106, 0), (92, .iload 5, 2, 0, 0), 
  (94, .bipush 16, 2, 9, 0), (96, .if_icmp .ne 8, 3, 104, 0), (99, .ldc 75, 2, 52, 0), (101, .goto 5, 3, 106, 0), (104, .iload 5, 2, 0, 0), (106, .if_icmp .ne 67, 3, 173, 0), (109, .aload_n 0, 1, 0, 0), 
  (110, .iconst 1, 1, 1, 0), (111, .invokevirtual 13, 3, 85, 1), (114, .iload 5, 2, 0, 0), (116, .iload 9, 2, 0, 0), (118, .ifCond .ge 7, 3, 125, 0), (121, .iconst 0, 1, 0, 0), (122, .goto 4, 3, 126, 0), 
  (125, .iconst 1, 1, 1, 0), (126, .iadd, 1, 0, 0), (127, .if_icmp .ne 46, 3, 173, 0), (130, .iload 9, 2, 0, 0), (132, .ifCond .lt 37, 3, 169, 0), (135, .aload_n 0, 1, 0, 0), (136, .iload 9, 2, 0, 0), 
  (138, .iconst 0, 1, 0, 0), (139, .invokevirtual 19, 3, 77, 2), (142, .iload 7, 2, 0, 0), (144, .if_icmp .ne 29, 3, 173, 0), (147, .aload_n 0, 1, 0, 0), (148, .iload 9, 2, 0, 0), (150, .iconst 1, 1, 1, 0), 
  (151, .invokevirtual 19, 3, 77, 2), (154, .ifCond .ne 19, 3, 173, 0), (157, .aload_n 0, 1, 0, 0), (158, .iload 9, 2, 0, 0), (160, .iconst 2, 1, 2, 0), (161, .invokevirtual 19, 3, 77, 2), 
  (164, .ldc 31, 2, 55, 0), (166, .if_icmp .ne 7, 3, 173, 0), (169, .iconst 1, 1, 1, 0), (170, .goto 4, 3, 174, 0), (173, .iconst 0, 1, 0, 0), (174, .ireturn, 1, 0, 0), (175, .iload_n 3, 1, 0, 0), 
  (176, .bipush 10, 2, 10, 0), (178, .if_icmp .ge 235, 3, 413, 0), (181, .iload_n 2, 1, 0, 0), (182, .iload_n 2, 1, 0, 0), (183, .bipush 14, 2, 13, 0), (185, .ishr, 1, 0, 0), (186, .bipush 7, 2, 11, 0), 
  (188, .invokestatic 40, 3, 99, 2), (191, .ifCond .ne 8, 3, 199, 0), (194, .bipush 11, 2, 27, 0), (196, .goto 5, 3, 201, 0), (199, .bipush 10, 2, 10, 0), (201, .invokestatic 40, 3, 99, 2), 
  (204, .istore 7, 2, 0, 0), (206, .iload_n 2, 1, 0, 0), (207, .iconst 4, 1, 4, 0), (208, .ishr, 1, 0, 0), (209, .iload_n 2, 1, 0, 0), (210, .bipush 15, 2, 26, 0), (212, .ishr, 1, 0, 0), 
  (213, .bipush 7, 2, 11, 0), (215, .invokestatic 40, 3, 99, 2), (218, .ifCond .ne 9, 3, 227, 0), (221, .sipush 513, 3, 35, 0), (224, .goto 6, 3, 230, 0), (227, .sipush 512, 3, 19, 0), 
  (230, .invokestatic 40, 3, 99, 2), (233, .istore 8, 2, 0, 0), (235, .iload 7, 2, 0, 0), (237, .bipush 10, 2, 10, 0), (239, .if_icmp .eq 11, 3, 250, 0), (242, .iload 8, 2, 0, 0), (244, .sipush 512, 3, 19, 0), 
  (247, .if_icmp .ne 7, 3, 254, 0), (250, .iconst 1, 1, 1, 0), (251, .goto 4, 3, 255, 0), (254, .iconst 0, 1, 0, 0), (255, .istore 9, 2, 0, 0), (257, .aload_n 0, 1, 0, 0), (258, .iload 7, 2, 0, 0), 
  (260, .iload 8, 2, 0, 0), (262, .invokevirtual 88, 3, 70, 2), (265, .istore 10, 2, 0, 0), (267, .iload 10, 2, 0, 0), (269, .iload 9, 2, 0, 0), (271, .ifCond .eq 8, 3, 279, 0), (274, .ldc 32, 2, 53, 0), 
  (276, .goto 27, 3, 303, 0), (279, .iload 4, 2, 0, 0), (281, .ifCond .eq 8, 3, 289, 0), (284, .ldc 55, 2, 54, 0), (286, .goto 17, 3, 303, 0), (289, .iload 6, 2, 0, 0), (291, .bipush 12, 2, 3, 0), 
  (293, .if_icmp .ne 8, 3, 301, 0), (296, .ldc 75, 2, 52, 0), (298, .goto 5, 3, 303, 0), (301, .iload 6, 2, 0, 0), (303, .if_icmp .ne 108, 3, 411, 0), (306, .aload_n 0, 1, 0, 0), (307, .iconst 2, 1, 2, 0), 
  (308, .invokevirtual 13, 3, 85, 1), (311, .iload 6, 2, 0, 0), (313, .iload 10, 2, 0, 0), (315, .ifCond .ge 7, 3, 322, 0), (318, .iconst 0, 1, 0, 0), (319, .goto 4, 3, 323, 0), (322, .iconst 1, 1, 1, 0), 
  (323, .iadd, 1, 0, 0), (324, .if_icmp .ne 87, 3, 411, 0), (327, .iload 10, 2, 0, 0), (329, .ifCond .lt 78, 3, 407, 0), (332, .aload_n 0, 1, 0, 0), (333, .iload 10, 2, 0, 0), (335, .iconst 0, 1, 0, 0), 
  (336, .invokevirtual 23, 3, 78, 2), (339, .iload 7, 2, 0, 0), (341, .if_icmp .ne 70, 3, 411, 0), (344, .aload_n 0, 1, 0, 0), (345, .iload 10, 2, 0, 0), (347, .iconst 1, 1, 1, 0), 
  (348, .invokevirtual 23, 3, 78, 2), (351, .iload 8, 2, 0, 0), (353, .if_icmp .ne 58, 3, 411, 0), (356, .aload_n 0, 1, 0, 0), (357, .iload 10, 2, 0, 0), (359, .iconst 2, 1, 2, 0), 
  (360, .invokevirtual 23, 3, 78, 2), (363, .iconst 1, 1, 1, 0), (364, .if_icmp .ne 47, 3, 411, 0), (367, .aload_n 0, 1, 0, 0), (368, .iload 10, 2, 0, 0), (370, .iconst 4, 1, 4, 0), 
  (371, .invokevirtual 23, 3, 78, 2), (374, .aload_n 0, 1, 0, 0), (375, .iload 10, 2, 0, 0), (377, .iconst 5, 1, 6, 0), (378, .invokevirtual 23, 3, 78, 2), (381, .iadd, 1, 0, 0), (382, .aload_n 0, 1, 0, 0), 
  (383, .iload 10, 2, 0, 0), (385, .bipush 6, 2, 17, 0), (387, .invokevirtual 23, 3, 78, 2), (390, .iadd, 1, 0, 0), (391, .ifCond .ne 20, 3, 411, 0), (394, .aload_n 0, 1, 0, 0), (395, .iload 10, 2, 0, 0), 
  (397, .bipush 8, 2, 8, 0), (399, .invokevirtual 23, 3, 78, 2), (402, .ldc 31, 2, 55, 0), (404, .if_icmp .ne 7, 3, 411, 0), (407, .iconst 1, 1, 1, 0), (408, .goto 4, 3, 412, 0), (411, .iconst 0, 1, 0, 0), 
  (412, .ireturn, 1, 0, 0), (413, .iload_n 3, 1, 0, 0), (414, .bipush 22, 2, 25, 0), (416, .if_icmp .ge 30, 3, 446, 0), (419, .aload_n 0, 1, 0, 0), (420, .iload_n 3, 1, 0, 0), (421, .bipush 14, 2, 13, 0), 
  (423, .if_icmp .ge 7, 3, 430, 0), (426, .iconst 0, 1, 0, 0), (427, .goto 14, 3, 441, 0), (430, .iload_n 3, 1, 0, 0), (431, .bipush 18, 2, 50, 0), (433, .if_icmp .ge 7, 3, 440, 0), 
  (436, .iconst 1, 1, 1, 0), (437, .goto 4, 3, 441, 0), (440, .iconst 2, 1, 2, 0), (441, .iload_n 2, 1, 0, 0), (442, .invokestatic 91, 3, 107, 3), (445, .ireturn, 1, 0, 0), (446, .iload_n 3, 1, 0, 0), 
  (447, .bipush 22, 2, 25, 0), (449, .if_icmp .ne 122, 3, 571, 0), (452, .iload_n 2, 1, 0, 0), (453, .iload 5, 2, 0, 0), (455, .iconst 1, 1, 1, 0), (456, .iadd, 1, 0, 0), (457, .invokestatic 40, 3, 99, 2), 
  (460, .istore 7, 2, 0, 0), (462, .iload_n 2, 1, 0, 0), (463, .iconst 4, 1, 4, 0), (464, .ishr, 1, 0, 0), (465, .bipush 10, 2, 10, 0), (467, .invokestatic 40, 3, 99, 2), (470, .istore 8, 2, 0, 0), 
  (472, .iload 7, 2, 0, 0), (474, .iload 5, 2, 0, 0), (476, .if_icmp .eq 10, 3, 486, 0), (479, .iload 8, 2, 0, 0), (481, .bipush 9, 2, 12, 0), (483, .if_icmp .ne 7, 3, 490, 0), (486, .iconst 1, 1, 1, 0), 
  (487, .goto 4, 3, 491, 0), (490, .iconst 0, 1, 0, 0), (491, .istore 9, 2, 0, 0), (493, .iload 7, 2, 0, 0), (495, .iload 5, 2, 0, 0), (497, .if_icmp .ne 7, 3, 504, 0), (500, .iconst 0, 1, 0, 0), 
  (501, .goto 10, 3, 511, 0), (504, .aload_n 0, 1, 0, 0), (505, .iload 7, 2, 0, 0), (507, .iconst 0, 1, 0, 0), (508, .invokevirtual 19, 3, 77, 2), (511, .istore 10, 2, 0, 0), (513, .aload_n 0, 1, 0, 0), 
  (514, .iload 7, 2, 0, 0), (516, .iload 8, 2, 0, 0), (518, .invokevirtual 95, 3, 71, 2), (521, .iload 9, 2, 0, 0), (523, .ifCond .eq 8, 3, 531, 0), (526, .ldc 32, 2, 53, 0), (528, .goto 5, 3, 533, 0), 
  (531, .iload 10, 2, 0, 0), (533, .if_icmp .ne 36, 3, 569, 0), (536, .iload 7, 2, 0, 0), (538, .iload 5, 2, 0, 0), (540, .if_icmp .eq 25, 3, 565, 0), (543, .aload_n 0, 1, 0, 0), (544, .iload 7, 2, 0, 0), 
  (546, .iconst 0, 1, 0, 0), (547, .invokevirtual 19, 3, 77, 2), (550, .iload 9, 2, 0, 0), (552, .ifCond .eq 8, 3, 560, 0), (555, .iload 10, 2, 0, 0), (557, .goto 5, 3, 562, 0), (560, .iload 8, 2, 0, 0), 
  (562, .if_icmp .ne 7, 3, 569, 0), (565, .iconst 1, 1, 1, 0), (566, .goto 4, 3, 570, 0), (569, .iconst 0, 1, 0, 0), (570, .ireturn, 1, 0, 0), (571, .iload_n 3, 1, 0, 0), (572, .bipush 25, 2, 36, 0), 
  (574, .if_icmp .ge 161, 3, 735, 0), (577, .iload_n 2, 1, 0, 0), (578, .iload 6, 2, 0, 0), (580, .iconst 1, 1, 1, 0), (581, .iadd, 1, 0, 0), (582, .invokestatic 40, 3, 99, 2), (585, .istore 7, 2, 0, 0), 
  (587, .iload_n 2, 1, 0, 0), (588, .iconst 4, 1, 4, 0), (589, .ishr, 1, 0, 0), (590, .iload_n 2, 1, 0, 0), (591, .bipush 14, 2, 13, 0), (593, .ishr, 1, 0, 0), (594, .bipush 7, 2, 11, 0), 
  (596, .invokestatic 40, 3, 99, 2), (599, .ifCond .ne 8, 3, 607, 0), (602, .bipush 11, 2, 27, 0), (604, .goto 5, 3, 609, 0), (607, .bipush 10, 2, 10, 0), (609, .invokestatic 40, 3, 99, 2), 
  (612, .istore 8, 2, 0, 0), (614, .iload_n 2, 1, 0, 0), (615, .bipush 7, 2, 11, 0), (617, .ishr, 1, 0, 0), (618, .sipush 513, 3, 35, 0), (621, .invokestatic 40, 3, 99, 2), (624, .istore 9, 2, 0, 0), 
  (626, .iload 7, 2, 0, 0), (628, .iload 6, 2, 0, 0), (630, .if_icmp .eq 18, 3, 648, 0), (633, .iload 8, 2, 0, 0), (635, .bipush 10, 2, 10, 0), (637, .if_icmp .eq 11, 3, 648, 0), (640, .iload 9, 2, 0, 0), 
  (642, .sipush 512, 3, 19, 0), (645, .if_icmp .ne 7, 3, 652, 0), (648, .iconst 1, 1, 1, 0), (649, .goto 4, 3, 653, 0), (652, .iconst 0, 1, 0, 0), (653, .istore 10, 2, 0, 0), (655, .iload 7, 2, 0, 0), 
  (657, .iload 6, 2, 0, 0), (659, .if_icmp .ne 7, 3, 666, 0), (662, .iconst 0, 1, 0, 0), (663, .goto 10, 3, 673, 0), (666, .aload_n 0, 1, 0, 0), (667, .iload 7, 2, 0, 0), (669, .iconst 1, 1, 1, 0), 
  (670, .invokevirtual 23, 3, 78, 2), (673, .istore 11, 2, 0, 0), (675, .aload_n 0, 1, 0, 0), (676, .iload 7, 2, 0, 0), (678, .iload 8, 2, 0, 0), (680, .iload 9, 2, 0, 0), (682, .invokevirtual 98, 3, 72, 3), 
  (685, .iload 10, 2, 0, 0), (687, .ifCond .eq 8, 3, 695, 0), (690, .ldc 32, 2, 53, 0), (692, .goto 5, 3, 697, 0), (695, .iload 11, 2, 0, 0), (697, .if_icmp .ne 36, 3, 733, 0), (700, .iload 7, 2, 0, 0), 
  (702, .iload 6, 2, 0, 0), (704, .if_icmp .eq 25, 3, 729, 0), (707, .aload_n 0, 1, 0, 0), (708, .iload 7, 2, 0, 0), (710, .iconst 1, 1, 1, 0), (711, .invokevirtual 23, 3, 78, 2), (714, .iload 10, 2, 0, 0), 
  (716, .ifCond .eq 8, 3, 724, 0), (719, .iload 11, 2, 0, 0), (721, .goto 5, 3, 726, 0), (724, .iload 9, 2, 0, 0), (726, .if_icmp .ne 7, 3, 733, 0), (729, .iconst 1, 1, 1, 0), (730, .goto 4, 3, 734, 0), 
  (733, .iconst 0, 1, 0, 0), (734, .ireturn, 1, 0, 0), (735, .iload_n 3, 1, 0, 0), (736, .bipush 25, 2, 36, 0), (738, .if_icmp .ne 109, 3, 847, 0), (741, .iload_n 2, 1, 0, 0), (742, .iconst 5, 1, 6, 0), 
  (743, .invokestatic 40, 3, 99, 2), (746, .ifCond .ne 7, 3, 753, 0), (749, .iconst 1, 1, 1, 0), (750, .goto 4, 3, 754, 0), (753, .iconst 0, 1, 0, 0), (754, .istore 7, 2, 0, 0), (756, .iload_n 2, 1, 0, 0), 
  (757, .iconst 3, 1, 7, 0), (758, .ishr, 1, 0, 0), (759, .iconst 5, 1, 6, 0), (760, .invokestatic 40, 3, 99, 2), (763, .istore 8, 2, 0, 0), (765, .aload_n 0, 1, 0, 0), (766, .bipush 20, 2, 15, 0), 
  (768, .invokevirtual 13, 3, 85, 1), (771, .istore 9, 2, 0, 0), (773, .iload 7, 2, 0, 0), (775, .iconst 1, 1, 1, 0), (776, .if_icmp .eq 14, 3, 790, 0), (779, .iload 8, 2, 0, 0), (781, .ifCond .eq 9, 3, 790, 0), 
  (784, .iload 8, 2, 0, 0), (786, .iconst 4, 1, 4, 0), (787, .if_icmp .ne 7, 3, 794, 0), (790, .iconst 1, 1, 1, 0), (791, .goto 4, 3, 795, 0), (794, .iconst 0, 1, 0, 0), (795, .istore 10, 2, 0, 0), 
  (797, .aload_n 0, 1, 0, 0), (798, .iload 7, 2, 0, 0), (800, .iload 8, 2, 0, 0), (802, .invokevirtual 102, 3, 76, 2), (805, .iload 10, 2, 0, 0), (807, .ifCond .eq 8, 3, 815, 0), (810, .ldc 32, 2, 53, 0), 
  (812, .goto 5, 3, 817, 0), (815, .iload 9, 2, 0, 0), (817, .if_icmp .ne 28, 3, 845, 0), (820, .aload_n 0, 1, 0, 0), (821, .bipush 20, 2, 15, 0), (823, .invokevirtual 13, 3, 85, 1), 
  (826, .iload 10, 2, 0, 0), (828, .ifCond .eq 8, 3, 836, 0), (831, .iload 9, 2, 0, 0), (833, .goto 5, 3, 838, 0), (836, .iload 8, 2, 0, 0), (838, .if_icmp .ne 7, 3, 845, 0), (841, .iconst 1, 1, 1, 0), 
  (842, .goto 4, 3, 846, 0), (845, .iconst 0, 1, 0, 0), (846, .ireturn, 1, 0, 0), (847, .aload_n 0, 1, 0, 0), (848, .iload_n 2, 1, 0, 0), (849, .invokestatic 105, 3, 106, 2), (852, .ireturn, 1, 0, 0)]
def m_Law_acts : xM := (13, false, (some .boolean), 12, k_Law_acts)
abbrev i_Law_acts : Nat := 108
def k_law : xK := [(0, .new 14, 3, 8, 0), (3, .dup, 1, 0, 0), (4, .invokespecial 108, 3, 68, 0), (7, .astore_n 1, 1, 0, 0), (8, .aload_n 1, 1, 0, 0), (9, .invokestatic 109, 3, 102, 1), 
  (12, .ifCond .eq 24, 3, 36, 0), (15, .aload_n 1, 1, 0, 0), (16, .iconst 0, 1, 0, 0), (17, .invokestatic 113, 3, 103, 2), (20, .ifCond .eq 16, 3, 36, 0), (23, .aload_n 1, 1, 0, 0), 
  (24, .invokevirtual 116, 3, 86, 0), (27, .ldc 55, 2, 54, 0), (29, .if_icmp .ne 7, 3, 36, 0), (32, .iconst 1, 1, 1, 0), (33, .goto 4, 3, 37, 0), (36, .iconst 0, 1, 0, 0), (37, .istore_n 2, 1, 0, 0), 
  (38, .iconst 0, 1, 0, 0), (39, .istore_n 3, 1, 0, 0), (40, .iload_n 3, 1, 0, 0), (41, .bipush 56, 2, 51, 0), (43, .if_icmp .ge 271, 3, 314, 0), (46, .iload_n 2, 1, 0, 0), (47, .ifCond .eq 267, 3, 314, 0), 
  (50, .iload_n 3, 1, 0, 0), (51, .iconst 2, 1, 2, 0), (52, .if_icmp .ge 7, 3, 59, 0), (55, .iconst 0, 1, 0, 0), (56, .goto 31, 3, 87, 0), (59, .iload_n 3, 1, 0, 0), (60, .bipush 7, 2, 11, 0), 
  (62, .if_icmp .ge 7, 3, 69, 0), (65, .iconst 4, 1, 4, 0), (66, .goto 21, 3, 87, 0), (69, .iload_n 3, 1, 0, 0), (70, .bipush 7, 2, 11, 0), (72, .if_icmp .ne 8, 3, 80, 0), (75, .bipush 10, 2, 10, 0), 
  (77, .goto 10, 3, 87, 0), (80, .aload_n 0, 1, 0, 0), (81, .iconst 2, 1, 2, 0), (82, .iload_n 3, 1, 0, 0), (83, .imul, 1, 0, 0), (84, .invokestatic 119, 3, 98, 2), (87, .istore 4, 2, 0, 0), 
  (89, .aload_n 0, 1, 0, 0), (90, .iconst 2, 1, 2, 0), (91, .iload_n 3, 1, 0, 0), (92, .imul, 1, 0, 0), (93, .iconst 1, 1, 1, 0), (94, .iadd, 1, 0, 0), (95, .invokestatic 119, 3, 98, 2), 
  (98, .istore 5, 2, 0, 0), (100, .aload_n 1, 1, 0, 0), (101, .invokestatic 123, 3, 100, 1), (104, .lstore 6, 2, 0, 0), (106, .aload_n 1, 1, 0, 0), (107, .bipush 14, 2, 13, 0), (109, .invokevirtual 13, 3, 85, 1), 
  (112, .istore 8, 2, 0, 0), (114, .aload_n 1, 1, 0, 0), (115, .iload 4, 2, 0, 0), (117, .iload 5, 2, 0, 0), (119, .invokestatic 127, 3, 108, 3), (122, .ifCond .eq 36, 3, 158, 0), (125, .iload_n 3, 1, 0, 0), 
  (126, .iconst 3, 1, 7, 0), (127, .irem, 1, 0, 0), (128, .ifCond .gt 10, 3, 138, 0), (131, .aload_n 1, 1, 0, 0), (132, .invokestatic 109, 3, 102, 1), (135, .ifCond .eq 23, 3, 158, 0), 
  (138, .iload_n 3, 1, 0, 0), (139, .iconst 4, 1, 4, 0), (140, .irem, 1, 0, 0), (141, .iconst 2, 1, 2, 0), (142, .if_icmp .ne 12, 3, 154, 0), (145, .aload_n 1, 1, 0, 0), (146, .iload 5, 2, 0, 0), 
  (148, .invokestatic 113, 3, 103, 2), (151, .ifCond .eq 7, 3, 158, 0), (154, .iconst 1, 1, 1, 0), (155, .goto 4, 3, 159, 0), (158, .iconst 0, 1, 0, 0), (159, .istore_n 2, 1, 0, 0), 
  (160, .aload_n 1, 1, 0, 0), (161, .bipush 14, 2, 13, 0), (163, .invokevirtual 13, 3, 85, 1), (166, .istore 9, 2, 0, 0), (168, .iload_n 2, 1, 0, 0), (169, .ifCond .eq 39, 3, 208, 0), 
  (172, .iload 9, 2, 0, 0), (174, .iload 8, 2, 0, 0), (176, .if_icmp .ne 19, 3, 195, 0), (179, .iload 8, 2, 0, 0), (181, .iconst 4, 1, 4, 0), (182, .if_icmp .eq 22, 3, 204, 0), (185, .aload_n 1, 1, 0, 0), 
  (186, .invokestatic 123, 3, 100, 1), (189, .lload 6, 2, 0, 0), (191, .lcmp, 1, 0, 0), (192, .ifCond .eq 12, 3, 204, 0), (195, .iload 9, 2, 0, 0), (197, .iload 8, 2, 0, 0), (199, .iconst 1, 1, 1, 0), 
  (200, .iadd, 1, 0, 0), (201, .if_icmp .ne 7, 3, 208, 0), (204, .iconst 1, 1, 1, 0), (205, .goto 4, 3, 209, 0), (208, .iconst 0, 1, 0, 0), (209, .istore_n 2, 1, 0, 0), (210, .iload_n 2, 1, 0, 0), 
  (211, .ifCond .eq 49, 3, 260, 0), (214, .iload 9, 2, 0, 0), (216, .iload 8, 2, 0, 0), (218, .iconst 1, 1, 1, 0), (219, .iadd, 1, 0, 0), (220, .if_icmp .ne 40, 3, 260, 0), (223, .iload 5, 2, 0, 0), 
  (225, .bipush 8, 2, 8, 0), (227, .ishr, 1, 0, 0), (228, .iconst 3, 1, 7, 0), (229, .invokestatic 40, 3, 99, 2), (232, .ifCond .ne 28, 3, 260, 0), (235, .aload_n 1, 1, 0, 0), (236, .invokevirtual 116, 3, 86, 0), 
  (239, .iload 8, 2, 0, 0), (241, .if_icmp .ne 17, 3, 258, 0), (244, .aload_n 1, 1, 0, 0), (245, .invokestatic 123, 3, 100, 1), (248, .lload 6, 2, 0, 0), (250, .lcmp, 1, 0, 0), (251, .ifCond .ne 7, 3, 258, 0), 
  (254, .iconst 1, 1, 1, 0), (255, .goto 4, 3, 259, 0), (258, .iconst 0, 1, 0, 0), (259, .istore_n 2, 1, 0, 0), (260, .iload_n 2, 1, 0, 0), (261, .ifCond .eq 47, 3, 308, 0), (264, .iload_n 3, 1, 0, 0), 
  (265, .bipush 9, 2, 12, 0), (267, .irem, 1, 0, 0), (268, .bipush 8, 2, 8, 0), (270, .if_icmp .ne 38, 3, 308, 0), (273, .aload_n 1, 1, 0, 0), (274, .bipush 14, 2, 13, 0), (276, .invokevirtual 13, 3, 85, 1), 
  (279, .istore 10, 2, 0, 0), (281, .aload_n 1, 1, 0, 0), (282, .invokevirtual 116, 3, 86, 0), (285, .iload 10, 2, 0, 0), (287, .ifCond .ne 8, 3, 295, 0), (290, .ldc 55, 2, 54, 0), 
  (292, .goto 7, 3, 299, 0), (295, .iload 10, 2, 0, 0), (297, .iconst 1, 1, 1, 0), (298, .isub, 1, 0, 0), (299, .if_icmp .ne 7, 3, 306, 0), (302, .iconst 1, 1, 1, 0), (303, .goto 4, 3, 307, 0), 
  (306, .iconst 0, 1, 0, 0), (307, .istore_n 2, 1, 0, 0), (308, .iinc 3 1, 3, 1, 0), (311, .goto (-271), 3, 40, 0), (314, .iload_n 2, 1, 0, 0), (315, .ifCond .eq 14, 3, 329, 0), (318, .aload_n 1, 1, 0, 0), 
  (319, .invokestatic 109, 3, 102, 1), (322, .ifCond .eq 7, 3, 329, 0), (325, .iconst 1, 1, 1, 0), (326, .goto 4, 3, 330, 0), (329, .iconst 0, 1, 0, 0), (330, .ireturn, 1, 0, 0)]
def m_law : xM := (13, false, some .boolean, 11, k_law)
def x_new : Nat → List (Option (Option Nat)) := fun ci => match ci with
  | 0 => [some none, some none, some none, some none, some none, none, none]
  | 1 => [some none, some none, some none, none]
  | 2 => [some none, some none, some none, none, none, none, none, none, none, none]
  | 3 => [some none, some none, some none, some none, some none, some none, some none, some none, some none, none, none, none]
  | 4 => [some none, none, none]
  | 5 => [some none, none, none, none, none, none, none, none, none]
  | 6 => [some none, some none, some none, some none, some none, some none, some none, some none, none, none]
  | 7 => [some none, none]
  | 8 => [some none, some none, some none, some none, some none]
  | _ => []
def x_csts : List Value := [.int (nI 0), .int (nI 1), .int (nI 2), .int (nI 12), .int (nI 4), .int (-1), .int (nI 5), .int (nI 3), .int (nI 8), .int (nI 16), .int (nI 10), .int (nI 7), .int (nI 9), .int (nI 14), .int (nI 48), .int (nI 20), .int (nI 13), .int (nI 6), .int (nI 59), .int (nI 512), .int (nI 511), .int (nI 99), .int (nI 999), .int (nI 60), .int (nI 24), .int (nI 22), .int (nI 15), .int (nI 11), .int (nI 44), .int (nI 126), .int (nI 127), .int (nI 23), .int (nI 100), .int (nI 46), .int (nI 30), .int (nI 513), .int (nI 25), .int (nI 17), .int (nI 57), .int (nI 32), .int (nI 63), .int (nI 4679), .int (nI 4451), .int (nI 112), .int (nI 98), .int (nI 103), .int (nI 115), .int (nI 600), .int (nI 26), .int (nI 102), .int (nI 18), .int (nI 56), .int (-1000003), .int (-1000001), .int (-1000002), .int (-1000004), .float FP.fconst0, .float FP.fconst2, .float FP.fconst1, .float 1258291200, .int (1431655765), .int (858993459), .int (252645135), .int (-102701715), .int (2147483647), .long (449), .long (31)]
def x_sws : List (List (Nat × Nat) × Nat) := [
  ([(98, 57), (99, 44), (103, 63), (112, 50)], 68),
  ([(98, 76), (99, 76), (103, 191), (112, 119), (115, 191)], 209),
  ([(0, 48), (1, 55), (2, 62)], 87),
  ([(0, 76), (1, 83), (2, 90), (3, 101), (4, 132), (5, 139), (6, 146), (7, 153), (8, 173)], 197),
  ([(0, 72), (1, 80), (2, 88), (3, 96)], 104),
  ([(0, 104), (1, 135)], 145),
  ([(0, 68), (1, 76), (2, 87), (3, 98), (4, 109), (5, 117), (6, 125), (7, 136), (8, 147), (9, 169), (10, 177), (11, 188), (12, 196)], 226),
  ([(0, 72), (1, 80)], 88),
  ([(13, 48), (14, 59), (15, 67), (16, 75), (17, 91), (18, 91), (19, 91), (20, 83)], 91)]
def resF : List (Nat × Nat × Nat × Nat) := [(0, 9, 0, 0), (0, 15, 0, 1), (0, 18, 0, 2), (0, 21, 0, 3), (0, 24, 0, 4), (0, 33, 0, 5), (0, 37, 0, 6), (1, 9, 1, 0), (1, 15, 1, 1), (1, 18, 1, 2), (1, 27, 1, 3), (2, 12, 2, 0), (2, 21, 2, 1), (2, 28, 2, 2), (2, 32, 2, 3), (2, 36, 2, 4), (2, 49, 2, 5), (2, 52, 2, 6), (2, 55, 2, 7), (2, 58, 2, 8), (2, 61, 2, 9), (2, 81, 1, 0), (2, 86, 6, 1), (2, 89, 6, 0), (2, 96, 1, 3), (2, 116, 3, 11), (2, 127, 3, 10), (2, 145, 6, 9), (2, 149, 6, 4), (2, 152, 3, 5), (2, 153, 6, 7), (2, 156, 3, 6), (2, 159, 3, 4), (2, 166, 6, 3), (2, 169, 3, 8), (2, 172, 3, 7), (3, 9, 3, 0), (3, 15, 3, 1), (3, 18, 3, 2), (3, 21, 3, 3), (3, 24, 3, 4), (3, 27, 3, 5), (3, 30, 3, 6), (3, 33, 3, 7), (3, 36, 3, 8), (3, 43, 3, 9), (3, 47, 3, 11), (3, 67, 3, 10), (3, 70, 6, 8), (3, 75, 6, 9), (3, 78, 6, 2), (3, 79, 6, 0), (3, 88, 1, 3), (3, 101, 1, 0), (4, 13, 4, 0), (4, 18, 4, 1), (4, 26, 4, 2), (5, 12, 5, 0), (5, 22, 5, 1), (5, 26, 5, 5), (5, 29, 5, 3), (5, 32, 7, 1), (5, 37, 5, 2), (5, 44, 5, 4), (5, 47, 5, 6), (5, 50, 5, 7), (5, 53, 5, 8), (6, 9, 6, 0), (6, 15, 6, 1), (6, 18, 6, 2), (6, 21, 6, 3), (6, 24, 6, 4), (6, 27, 6, 5), (6, 30, 6, 6), (6, 33, 6, 7), (6, 42, 6, 8), (6, 46, 6, 9), (7, 9, 7, 0), (7, 20, 7, 1), (8, 10, 8, 0), (8, 19, 8, 1), (8, 26, 8, 2), (8, 33, 8, 3), (8, 40, 8, 4), (8, 80, 2, 0), (8, 91, 1, 0), (8, 95, 1, 1), (8, 98, 1, 2), (8, 105, 2, 1), (8, 115, 6, 0), (8, 118, 6, 1), (8, 121, 2, 3), (8, 125, 6, 2), (8, 128, 6, 3), (8, 129, 6, 4), (8, 132, 6, 5), (8, 135, 6, 6), (8, 138, 6, 7), (8, 145, 2, 2), (8, 149, 0, 6), (8, 158, 0, 0), (8, 161, 0, 1), (8, 164, 0, 2), (8, 165, 0, 3), (8, 166, 0, 4), (8, 174, 3, 4), (8, 177, 3, 5), (8, 178, 3, 6), (8, 179, 3, 10), (8, 182, 6, 9), (8, 192, 1, 3), (8, 193, 6, 8), (8, 196, 2, 5), (8, 199, 2, 6), (8, 208, 2, 9), (8, 214, 2, 7), (8, 237, 5, 3), (8, 240, 5, 2), (8, 243, 5, 4), (8, 246, 5, 0), (8, 252, 5, 1), (8, 255, 4, 2), (8, 256, 7, 1), (8, 259, 2, 8), (8, 262, 2, 4)]
def resM : List (Nat × Nat × Nat × Nat) := [(0, 3, 1000, 0), (0, 27, 1001, 0), (0, 40, 97, 2), (1, 3, 1000, 0), (1, 21, 1001, 0), (1, 32, 12, 0), (1, 36, 13, 1), (2, 3, 1000, 0), (2, 11, 4, 0), (2, 20, 49, 0), (2, 27, 0, 0), (2, 39, 5, 1), (2, 43, 50, 1), (2, 46, 1, 1), (2, 64, 93, 3), (2, 69, 7, 1), (2, 74, 54, 2), (2, 77, 6, 1), (2, 85, 51, 1), (2, 92, 58, 0), (2, 99, 9, 0), (2, 102, 55, 1), (2, 106, 56, 2), (2, 110, 29, 3), (2, 117, 25, 1), (2, 121, 26, 1), (2, 124, 27, 0), (2, 130, 16, 1), (2, 133, 17, 2), (2, 136, 21, 1), (2, 138, 20, 0), (2, 141, 22, 1), (2, 146, 52, 1), (2, 162, 57, 2), (2, 175, 10, 2), (2, 177, 2, 5), (2, 181, 96, 2), (2, 186, 11, 1), (3, 3, 1000, 0), (3, 39, 30, 3), (3, 50, 32, 2), (3, 54, 33, 2), (3, 57, 34, 2), (3, 60, 36, 1), (3, 64, 37, 2), (3, 82, 8, 2), (3, 89, 31, 1), (3, 93, 38, 1), (3, 97, 35, 2), (3, 104, 53, 2), (4, 3, 1000, 0), (4, 17, 14, 0), (4, 22, 15, 1), (4, 29, 97, 2), (5, 3, 1000, 0), (5, 11, 14, 0), (5, 18, 15, 1), (5, 40, 46, 1), (5, 56, 24, 4), (5, 60, 45, 1), (5, 64, 67, 1), (5, 68, 48, 1), (5, 72, 47, 2), (5, 76, 93, 3), (5, 80, 96, 2), (6, 3, 1000, 0), (6, 36, 1001, 0), (6, 50, 52, 1), (6, 54, 8, 2), (6, 60, 95, 1), (6, 67, 63, 1), (7, 3, 1000, 0), (7, 15, 93, 3), (8, 1, 1000, 0), (8, 9, 14, 0), (8, 18, 39, 0), (8, 25, 28, 0), (8, 32, 64, 0), (8, 39, 43, 0), (8, 44, 40, 1), (8, 48, 16, 1), (8, 52, 41, 1), (8, 55, 17, 2), (8, 59, 18, 2), (8, 62, 19, 3), (8, 66, 20, 0), (8, 70, 21, 1), (8, 73, 22, 1), (8, 77, 23, 2), (8, 84, 6, 1), (8, 101, 92, 2), (8, 109, 51, 1), (8, 112, 52, 1), (8, 141, 53, 2), (8, 155, 3, 1), (8, 170, 29, 3), (8, 185, 61, 0), (8, 188, 94, 1), (8, 202, 60, 0), (8, 205, 58, 0), (8, 211, 62, 0), (8, 217, 59, 0), (8, 220, 91, 1), (8, 223, 42, 1), (8, 227, 65, 1), (8, 230, 66, 0), (8, 233, 44, 3), (8, 249, 15, 1), (13, 13, 85, 1), (13, 19, 77, 2), (13, 23, 78, 2), (13, 26, 80, 2), (13, 33, 101, 1), (13, 36, 84, 0), (13, 40, 99, 2), (13, 43, 81, 2), (13, 46, 83, 1), (13, 49, 82, 0), (13, 52, 79, 2), (13, 56, 87, 1), (13, 59, 88, 0), (13, 62, 104, 2), (13, 66, 105, 2), (13, 69, 89, 1), (13, 72, 90, 0), (13, 76, 73, 0), (13, 79, 74, 1), (13, 82, 75, 0), (13, 85, 69, 1), (13, 88, 70, 2), (13, 91, 107, 3), (13, 95, 71, 2), (13, 98, 72, 3), (13, 102, 76, 2), (13, 105, 106, 2), (13, 108, 68, 0), (13, 109, 102, 1), (13, 113, 103, 2), (13, 116, 86, 0), (13, 119, 98, 2), (13, 123, 100, 1), (13, 127, 108, 3)]
def resN : List (Nat × Nat × Nat) := [(2, 9, 1), (2, 18, 6), (2, 25, 0), (4, 11, 2), (5, 9, 2), (8, 7, 2), (8, 16, 4), (8, 23, 3), (8, 30, 7), (8, 37, 5), (13, 14, 8)]
def resC : List (Nat × Nat × Nat) := [(1, 31, 52), (2, 68, 53), (2, 73, 54), (2, 105, 52), (4, 35, 54), (6, 49, 52), (6, 66, 55), (7, 19, 53), (7, 24, 52), (8, 90, 53), (8, 154, 55), (8, 169, 54), (8, 265, 59), (11, 265, 60), (11, 266, 61), (11, 267, 62), (13, 7, 63), (13, 8, 64), (13, 9, 65), (13, 11, 66), (13, 31, 55), (13, 32, 53), (13, 55, 54), (13, 75, 52)]
/-- the methods: picture, name, bytes, kind (0 of an object, 1 static, 2 a constructor), parameters -/
def mtA : List (xM × MethodName × ByteArray × Nat × Nat) := [
  (m_Bells_init, yX0_init, cX0_init, 2, 0),
  (m_Bells_copyFrom, yX0_copyFrom, cX0_copyFrom, 0, 1),
  (m_Bells_ring, yX0_ring, cX0_ring, 0, 5),
  (m_Bells_rowOf, yX0_rowOf, cX0_rowOf, 0, 1),
  (m_Chairs_init, yX1_init, cX1_init, 2, 0),
  (m_Chairs_copyFrom, yX1_copyFrom, cX1_copyFrom, 0, 1),
  (m_Chairs_has, yX1_has, cX1_has, 0, 1),
  (m_Chairs_add, yX1_add, cX1_add, 0, 1),
  (m_Chairs_onFrom, yX1_onFrom, cX1_onFrom, 0, 2),
  (m_Chairs_forgetSitters, yX1_forgetSitters, cX1_forgetSitters, 0, 0),
  (m_Chairs_seat, yX1_seat, cX1_seat, 0, 2),
  (m_Chairs_leaveOnly, yX1_leaveOnly, cX1_leaveOnly, 0, 1),
  (m_Chairs_mostWorn, yX1_mostWorn, cX1_mostWorn, 0, 0),
  (m_Chairs_takeAway, yX1_takeAway, cX1_takeAway, 0, 1),
  (m_Game_init, yX2_init, cX2_init, 2, 0),
  (m_Game_copyFrom, yX2_copyFrom, cX2_copyFrom, 0, 1),
  (m_Game_addChair, yX2_addChair, cX2_addChair, 0, 1),
  (m_Game_addPlayer, yX2_addPlayer, cX2_addPlayer, 0, 2),
  (m_Game_retune, yX2_retune, cX2_retune, 0, 2),
  (m_Game_retrain, yX2_retrain, cX2_retrain, 0, 3),
  (m_Game_startMusic, yX2_startMusic, cX2_startMusic, 0, 0),
  (m_Game_walk, yX2_walk, cX2_walk, 0, 1),
  (m_Game_stopMusic, yX2_stopMusic, cX2_stopMusic, 0, 1),
  (m_Game_choose, yX2_choose, cX2_choose, 0, 2),
  (m_Game_perform, yX2_perform, cX2_perform, 0, 4),
  (m_Game_settlePlayers, yX2_settlePlayers, cX2_settlePlayers, 0, 1),
  (m_Game_settleChairs, yX2_settleChairs, cX2_settleChairs, 0, 1),
  (m_Game_goOn, yX2_goOn, cX2_goOn, 0, 0),
  (m_Grope_init, yX3_init, cX3_init, 2, 0),
  (m_Grope_follow, yX3_follow, cX3_follow, 0, 3),
  (m_Grope_begin, yX3_begin, cX3_begin, 0, 3),
  (m_Grope_gropes, yX3_gropes, cX3_gropes, 0, 1),
  (m_Grope_sendOut, yX3_sendOut, cX3_sendOut, 0, 2),
  (m_Grope_takeAim, yX3_takeAim, cX3_takeAim, 0, 2),
  (m_Grope_sitDown, yX3_sitDown, cX3_sitDown, 0, 2),
  (m_Grope_nearest, yX3_nearest, cX3_nearest, 0, 2),
  (m_Grope_bump, yX3_bump, cX3_bump, 0, 1),
  (m_Grope_ring, yX3_ring, cX3_ring, 0, 2),
  (m_Grope_settle, yX3_settle, cX3_settle, 0, 1),
  (m_History_init, yX4_init, cX4_init, 2, 0),
  (m_History_prepare, yX4_prepare, cX4_prepare, 0, 1),
  (m_History_settle, yX4_settle, cX4_settle, 0, 1),
  (m_History_goBack, yX4_goBack, cX4_goBack, 0, 1),
  (m_Orders_init, yX5_init, cX5_init, 2, 0),
  (m_Orders_rehearse, yX5_rehearse, cX5_rehearse, 0, 3),
  (m_Orders_judge, yX5_judge, cX5_judge, 0, 1),
  (m_Orders_readOrder, yX5_readOrder, cX5_readOrder, 0, 1),
  (m_Orders_passes, yX5_passes, cX5_passes, 0, 2),
  (m_Orders_readNumber, yX5_readNumber, cX5_readNumber, 0, 1),
  (m_Players_init, yX6_init, cX6_init, 2, 0),
  (m_Players_copyFrom, yX6_copyFrom, cX6_copyFrom, 0, 1),
  (m_Players_has, yX6_has, cX6_has, 0, 1),
  (m_Players_isPlaying, yX6_isPlaying, cX6_isPlaying, 0, 1),
  (m_Players_hearsTone, yX6_hearsTone, cX6_hearsTone, 0, 2),
  (m_Players_add, yX6_add, cX6_add, 0, 2),
  (m_Players_lineUp, yX6_lineUp, cX6_lineUp, 0, 1),
  (m_Players_walk, yX6_walk, cX6_walk, 0, 2),
  (m_Players_leave, yX6_leave, cX6_leave, 0, 2),
  (m_Players_howManyPlay, yX6_howManyPlay, cX6_howManyPlay, 0, 0),
  (m_Players_firstPlaying, yX6_firstPlaying, cX6_firstPlaying, 0, 0),
  (m_Players_allSittings, yX6_allSittings, cX6_allSittings, 0, 0),
  (m_Players_allBumps, yX6_allBumps, cX6_allBumps, 0, 0),
  (m_Players_allSteps, yX6_allSteps, cX6_allSteps, 0, 0),
  (m_Players_sum, yX6_sum, cX6_sum, 0, 1),
  (m_Text_init, yX7_init, cX7_init, 2, 0),
  (m_Text_append, yX7_append, cX7_append, 0, 1),
  (m_Text_clear, yX7_clear, cX7_clear, 0, 0),
  (m_Text_signAt, yX7_signAt, cX7_signAt, 0, 1),
  (m_Bc_init, yX8_init, cX8_init, 2, 0),
  (m_Bc_chair, yX8_chair, cX8_chair, 0, 1),
  (m_Bc_player, yX8_player, cX8_player, 0, 2),
  (m_Bc_tune, yX8_tune, cX8_tune, 0, 2),
  (m_Bc_train, yX8_train, cX8_train, 0, 3),
  (m_Bc_start, yX8_start, cX8_start, 0, 0),
  (m_Bc_beat, yX8_beat, cX8_beat, 0, 1),
  (m_Bc_stop, yX8_stop, cX8_stop, 0, 0),
  (m_Bc_set, yX8_set, cX8_set, 0, 2),
  (m_Bc_chairOf, yX8_chairOf, cX8_chairOf, 0, 2),
  (m_Bc_playerOf, yX8_playerOf, cX8_playerOf, 0, 2),
  (m_Bc_hears, yX8_hears, cX8_hears, 0, 2),
  (m_Bc_bell, yX8_bell, cX8_bell, 0, 2),
  (m_Bc_ifStopped, yX8_ifStopped, cX8_ifStopped, 0, 2),
  (m_Bc_outs, yX8_outs, cX8_outs, 0, 0),
  (m_Bc_safeIn, yX8_safeIn, cX8_safeIn, 0, 1),
  (m_Bc_mean, yX8_mean, cX8_mean, 0, 0),
  (m_Bc_count, yX8_count, cX8_count, 0, 1),
  (m_Bc_undo, yX8_undo, cX8_undo, 0, 0),
  (m_Bc_type, yX8_type, cX8_type, 0, 1),
  (m_Bc_clearText, yX8_clearText, cX8_clearText, 0, 0),
  (m_Bc_fault, yX8_fault, cX8_fault, 0, 1),
  (m_Bc_play, yX8_play, cX8_play, 0, 0),
  (m_Bc_countBesidesTheGame, yX8_countBesidesTheGame, cX8_countBesidesTheGame, 0, 1),
  (m_Bc_foundOrNot, yX8_foundOrNot, cX8_foundOrNot, 1, 2),
  (m_Bc_isWithin, yX8_isWithin, cX8_isWithin, 1, 3),
  (m_Bc_bitsOf, yX8_bitsOf, cX8_bitsOf, 1, 1),
  (m_Int_bitCount, yJ6_bitCount_0f7a4, cJ6_bitCount_0f7a4, 1, 1),
  (m_Math_max, yJ9_max_7cf53, cJ9_max_7cf53, 1, 2),
  (m_Math_min, yJ9_min_7cf53, cJ9_min_7cf53, 1, 2),
  (m_Law_lot, yL_lot, cL_lot, 1, 2),
  (m_Law_low, yL_low, cL_low, 1, 2),
  (m_Law_look, yL_look, cL_look, 1, 1),
  (m_Law_ones, yL_ones, cL_ones, 1, 1),
  (m_Law_holds, yL_holds, cL_holds, 1, 1),
  (m_Law_would, yL_would, cL_would, 1, 2),
  (m_Law_number, yL_number, cL_number, 1, 2),
  (m_Law_types, yL_types, cL_types, 1, 2),
  (m_Law_reads, yL_reads, cL_reads, 1, 2),
  (m_Law_music, yL_music, cL_music, 1, 3),
  (m_Law_acts, yL_acts, cL_acts, 1, 3)]
def x_tabOf (pc : Nat) : Jvm.ClassFile.Instr → List (Nat × Nat) × Nat
  | .tableswitch d lo _ offs => (offs.toList.mapIdx (fun j o => ((lo + (j : Int)).toNat, ((pc : Int) + o).toNat)), ((pc : Int) + d).toNat)
  | .lookupswitch d ps => (ps.toList.map (fun q => (q.1.toNat, ((pc : Int) + q.2).toNat)), ((pc : Int) + d).toNat)
  | _ => ([], 0)
def okS (pc : Nat) : Jvm.ClassFile.Instr → Bool
  | .tableswitch d lo hi offs => decide (0 ≤ lo ∧ hi < 1000 ∧ hi + 1 = lo + (offs.size : Int) ∧ 0 ≤ (pc : Int) + d) && offs.toList.all (fun o => decide (0 ≤ (pc : Int) + o))
  | .lookupswitch d ps => decide (0 ≤ (pc : Int) + d) && ps.toList.all (fun q => decide (0 ≤ q.1 ∧ q.1 < 1000 ∧ 0 ≤ (pc : Int) + q.2)) && (ps.toList.zip (ps.toList.drop 1)).all (fun (a, next) => decide (a.1 < next.1))
  | _ => true
/-- the kind of a method by its number; special ones 7 -/
def x_kind (t : Nat) : Nat := if 1000 ≤ t then 7 else match mtA[t]? with | some e => e.2.2.2.1 | none => 8
def x_len (i : Jvm.ClassFile.Instr) (d : Nat) : Nat := match i with
  | .tableswitch _ _ _ _ => d
  | .lookupswitch _ _ => d
  | .bipush _ => 2
  | .sipush _ => 3
  | .ldc _ => 2
  | .ldc_w _ => 3
  | .ldc2_w _ => 3
  | .lload _ => 2
  | .lstore _ => 2
  | .iload _ => 2
  | .istore _ => 2
  | .aload _ => 2
  | .iinc _ _ => 3
  | .getfield _ => 3
  | .putfield _ => 3
  | .invokevirtual _ => 3
  | .invokespecial _ => 3
  | .invokestatic _ => 3
  | .new _ => 3
  | .anewarray _ => 3
  | .goto _ => 3
  | .ifCond _ _ => 3
  | .if_icmp _ _ => 3
  | .newarray _ => 2
  | _ => 1
def okM (oc pc : Nat) (i : Jvm.ClassFile.Instr) (r1 r2 : Nat) : Bool := match i with
    | .getfield i => resF.contains (oc, i, r1, r2)
    | .putfield i => resF.contains (oc, i, r1, r2)
    | .ldc i => resC.contains (oc, i, r1)
    | .ldc_w i => resC.contains (oc, i, r1)
    | .ldc2_w i => resC.contains (oc, i, r1)
    | .new i => resN.contains (oc, i, r1)
    | .anewarray i => resN.contains (oc, i, r1)
    | .invokevirtual i => resM.contains (oc, i, r1, r2) && x_kind r1 == 0
    | .invokespecial i => resM.contains (oc, i, r1, r2) && (x_kind r1 == 2 || r1 == 1000)
    | .invokestatic i => resM.contains (oc, i, r1, r2) && (x_kind r1 == 1 || r1 == 1001)
    | .iconst n => decide (x_csts[r1]? = some (.int (Int32.ofInt n)))
    | .bipush n => decide (x_csts[r1]? = some (.int (Int8.ofInt n).toInt32))
    | .sipush n => decide (x_csts[r1]? = some (.int (Int16.ofInt n).toInt32))
    | .fconst n => decide (x_csts[r1]? = some (.float (if n = 0 then FP.fconst0 else if n = 1 then FP.fconst1 else FP.fconst2)))
    | .iinc _ n => decide (x_csts[r1]? = some (.int (Int32.ofInt n)))
    | .goto off => decide ((pc : Int) + off = (r1 : Int))
    | .ifCond _ off => decide ((pc : Int) + off = (r1 : Int))
    | .if_icmp _ off => decide ((pc : Int) + off = (r1 : Int))
    | .tableswitch d lo hi offs => okS pc (.tableswitch d lo hi offs) && decide (x_sws[r1]? = some (x_tabOf pc (.tableswitch d lo hi offs)))
    | .lookupswitch d ps => okS pc (.lookupswitch d ps) && decide (x_sws[r1]? = some (x_tabOf pc (.lookupswitch d ps)))
    | _ => true
def okE (oc : Nat) (b : ByteArray) (e : Nat × Jvm.ClassFile.Instr × Nat × Nat × Nat) : Bool :=
  decide (decode b e.1 = .ok (e.2.1, e.2.2.1)) && Nat.beq e.2.2.1 (x_len e.2.1 e.2.2.1) && okM oc e.1 e.2.1 e.2.2.2.1 e.2.2.2.2
set_option maxRecDepth 100000 in
theorem kk_Bells_init : k_Bells_init.all (okE 0 cX0_init) = true := by decide +kernel
set_option maxRecDepth 100000 in
theorem kk_Bells_copyFrom : k_Bells_copyFrom.all (okE 0 cX0_copyFrom) = true := by decide +kernel
set_option maxRecDepth 100000 in
theorem kk_Bells_ring : k_Bells_ring.all (okE 0 cX0_ring) = true := by decide +kernel
set_option maxRecDepth 100000 in
theorem kk_Bells_rowOf : k_Bells_rowOf.all (okE 0 cX0_rowOf) = true := by decide +kernel
set_option maxRecDepth 100000 in
theorem kk_Chairs_init : k_Chairs_init.all (okE 1 cX1_init) = true := by decide +kernel
set_option maxRecDepth 100000 in
theorem kk_Chairs_copyFrom : k_Chairs_copyFrom.all (okE 1 cX1_copyFrom) = true := by decide +kernel
set_option maxRecDepth 100000 in
theorem kk_Chairs_has : k_Chairs_has.all (okE 1 cX1_has) = true := by decide +kernel
set_option maxRecDepth 100000 in
theorem kk_Chairs_add : k_Chairs_add.all (okE 1 cX1_add) = true := by decide +kernel
set_option maxRecDepth 100000 in
theorem kk_Chairs_onFrom : k_Chairs_onFrom.all (okE 1 cX1_onFrom) = true := by decide +kernel
set_option maxRecDepth 100000 in
theorem kk_Chairs_forgetSitters : k_Chairs_forgetSitters.all (okE 1 cX1_forgetSitters) = true := by decide +kernel
set_option maxRecDepth 100000 in
theorem kk_Chairs_seat : k_Chairs_seat.all (okE 1 cX1_seat) = true := by decide +kernel
set_option maxRecDepth 100000 in
theorem kk_Chairs_leaveOnly : k_Chairs_leaveOnly.all (okE 1 cX1_leaveOnly) = true := by decide +kernel
set_option maxRecDepth 100000 in
theorem kk_Chairs_mostWorn : k_Chairs_mostWorn.all (okE 1 cX1_mostWorn) = true := by decide +kernel
set_option maxRecDepth 100000 in
theorem kk_Chairs_takeAway : k_Chairs_takeAway.all (okE 1 cX1_takeAway) = true := by decide +kernel
set_option maxRecDepth 100000 in
theorem kk_Game_init : k_Game_init.all (okE 2 cX2_init) = true := by decide +kernel
set_option maxRecDepth 100000 in
theorem kk_Game_copyFrom : k_Game_copyFrom.all (okE 2 cX2_copyFrom) = true := by decide +kernel
set_option maxRecDepth 100000 in
theorem kk_Game_addChair : k_Game_addChair.all (okE 2 cX2_addChair) = true := by decide +kernel
set_option maxRecDepth 100000 in
theorem kk_Game_addPlayer : k_Game_addPlayer.all (okE 2 cX2_addPlayer) = true := by decide +kernel
set_option maxRecDepth 100000 in
theorem kk_Game_retune : k_Game_retune.all (okE 2 cX2_retune) = true := by decide +kernel
set_option maxRecDepth 100000 in
theorem kk_Game_retrain : k_Game_retrain.all (okE 2 cX2_retrain) = true := by decide +kernel
set_option maxRecDepth 100000 in
theorem kk_Game_startMusic : k_Game_startMusic.all (okE 2 cX2_startMusic) = true := by decide +kernel
set_option maxRecDepth 100000 in
theorem kk_Game_walk : k_Game_walk.all (okE 2 cX2_walk) = true := by decide +kernel
set_option maxRecDepth 100000 in
theorem kk_Game_stopMusic : k_Game_stopMusic.all (okE 2 cX2_stopMusic) = true := by decide +kernel
set_option maxRecDepth 100000 in
theorem kk_Game_choose : k_Game_choose.all (okE 2 cX2_choose) = true := by decide +kernel
set_option maxRecDepth 100000 in
theorem kk_Game_perform : k_Game_perform.all (okE 2 cX2_perform) = true := by decide +kernel
set_option maxRecDepth 100000 in
theorem kk_Game_settlePlayers : k_Game_settlePlayers.all (okE 2 cX2_settlePlayers) = true := by decide +kernel
set_option maxRecDepth 100000 in
theorem kk_Game_settleChairs : k_Game_settleChairs.all (okE 2 cX2_settleChairs) = true := by decide +kernel
set_option maxRecDepth 100000 in
theorem kk_Game_goOn : k_Game_goOn.all (okE 2 cX2_goOn) = true := by decide +kernel
set_option maxRecDepth 100000 in
theorem kk_Grope_init : k_Grope_init.all (okE 3 cX3_init) = true := by decide +kernel
set_option maxRecDepth 100000 in
theorem kk_Grope_follow : k_Grope_follow.all (okE 3 cX3_follow) = true := by decide +kernel
set_option maxRecDepth 100000 in
theorem kk_Grope_begin : k_Grope_begin.all (okE 3 cX3_begin) = true := by decide +kernel
set_option maxRecDepth 100000 in
theorem kk_Grope_gropes : k_Grope_gropes.all (okE 3 cX3_gropes) = true := by decide +kernel
set_option maxRecDepth 100000 in
theorem kk_Grope_sendOut : k_Grope_sendOut.all (okE 3 cX3_sendOut) = true := by decide +kernel
set_option maxRecDepth 100000 in
theorem kk_Grope_takeAim : k_Grope_takeAim.all (okE 3 cX3_takeAim) = true := by decide +kernel
set_option maxRecDepth 100000 in
theorem kk_Grope_sitDown : k_Grope_sitDown.all (okE 3 cX3_sitDown) = true := by decide +kernel
set_option maxRecDepth 100000 in
theorem kk_Grope_nearest : k_Grope_nearest.all (okE 3 cX3_nearest) = true := by decide +kernel
set_option maxRecDepth 100000 in
theorem kk_Grope_bump : k_Grope_bump.all (okE 3 cX3_bump) = true := by decide +kernel
set_option maxRecDepth 100000 in
theorem kk_Grope_ring : k_Grope_ring.all (okE 3 cX3_ring) = true := by decide +kernel
set_option maxRecDepth 100000 in
theorem kk_Grope_settle : k_Grope_settle.all (okE 3 cX3_settle) = true := by decide +kernel
set_option maxRecDepth 100000 in
theorem kk_History_init : k_History_init.all (okE 4 cX4_init) = true := by decide +kernel
set_option maxRecDepth 100000 in
theorem kk_History_prepare : k_History_prepare.all (okE 4 cX4_prepare) = true := by decide +kernel
set_option maxRecDepth 100000 in
theorem kk_History_settle : k_History_settle.all (okE 4 cX4_settle) = true := by decide +kernel
set_option maxRecDepth 100000 in
theorem kk_History_goBack : k_History_goBack.all (okE 4 cX4_goBack) = true := by decide +kernel
set_option maxRecDepth 100000 in
theorem kk_Orders_init : k_Orders_init.all (okE 5 cX5_init) = true := by decide +kernel
set_option maxRecDepth 100000 in
theorem kk_Orders_rehearse : k_Orders_rehearse.all (okE 5 cX5_rehearse) = true := by decide +kernel
set_option maxRecDepth 100000 in
theorem kk_Orders_judge : k_Orders_judge.all (okE 5 cX5_judge) = true := by decide +kernel
set_option maxRecDepth 100000 in
theorem kk_Orders_readOrder : k_Orders_readOrder.all (okE 5 cX5_readOrder) = true := by decide +kernel
set_option maxRecDepth 100000 in
theorem kk_Orders_passes : k_Orders_passes.all (okE 5 cX5_passes) = true := by decide +kernel
set_option maxRecDepth 100000 in
theorem kk_Orders_readNumber : k_Orders_readNumber.all (okE 5 cX5_readNumber) = true := by decide +kernel
set_option maxRecDepth 100000 in
theorem kk_Players_init : k_Players_init.all (okE 6 cX6_init) = true := by decide +kernel
set_option maxRecDepth 100000 in
theorem kk_Players_copyFrom : k_Players_copyFrom.all (okE 6 cX6_copyFrom) = true := by decide +kernel
set_option maxRecDepth 100000 in
theorem kk_Players_has : k_Players_has.all (okE 6 cX6_has) = true := by decide +kernel
set_option maxRecDepth 100000 in
theorem kk_Players_isPlaying : k_Players_isPlaying.all (okE 6 cX6_isPlaying) = true := by decide +kernel
set_option maxRecDepth 100000 in
theorem kk_Players_hearsTone : k_Players_hearsTone.all (okE 6 cX6_hearsTone) = true := by decide +kernel
set_option maxRecDepth 100000 in
theorem kk_Players_add : k_Players_add.all (okE 6 cX6_add) = true := by decide +kernel
set_option maxRecDepth 100000 in
theorem kk_Players_lineUp : k_Players_lineUp.all (okE 6 cX6_lineUp) = true := by decide +kernel
set_option maxRecDepth 100000 in
theorem kk_Players_walk : k_Players_walk.all (okE 6 cX6_walk) = true := by decide +kernel
set_option maxRecDepth 100000 in
theorem kk_Players_leave : k_Players_leave.all (okE 6 cX6_leave) = true := by decide +kernel
set_option maxRecDepth 100000 in
theorem kk_Players_howManyPlay : k_Players_howManyPlay.all (okE 6 cX6_howManyPlay) = true := by decide +kernel
set_option maxRecDepth 100000 in
theorem kk_Players_firstPlaying : k_Players_firstPlaying.all (okE 6 cX6_firstPlaying) = true := by decide +kernel
set_option maxRecDepth 100000 in
theorem kk_Players_allSittings : k_Players_allSittings.all (okE 6 cX6_allSittings) = true := by decide +kernel
set_option maxRecDepth 100000 in
theorem kk_Players_allBumps : k_Players_allBumps.all (okE 6 cX6_allBumps) = true := by decide +kernel
set_option maxRecDepth 100000 in
theorem kk_Players_allSteps : k_Players_allSteps.all (okE 6 cX6_allSteps) = true := by decide +kernel
set_option maxRecDepth 100000 in
theorem kk_Players_sum : k_Players_sum.all (okE 6 cX6_sum) = true := by decide +kernel
set_option maxRecDepth 100000 in
theorem kk_Text_init : k_Text_init.all (okE 7 cX7_init) = true := by decide +kernel
set_option maxRecDepth 100000 in
theorem kk_Text_append : k_Text_append.all (okE 7 cX7_append) = true := by decide +kernel
set_option maxRecDepth 100000 in
theorem kk_Text_clear : k_Text_clear.all (okE 7 cX7_clear) = true := by decide +kernel
set_option maxRecDepth 100000 in
theorem kk_Text_signAt : k_Text_signAt.all (okE 7 cX7_signAt) = true := by decide +kernel
set_option maxRecDepth 100000 in
theorem kk_Bc_init : k_Bc_init.all (okE 8 cX8_init) = true := by decide +kernel
set_option maxRecDepth 100000 in
theorem kk_Bc_chair : k_Bc_chair.all (okE 8 cX8_chair) = true := by decide +kernel
set_option maxRecDepth 100000 in
theorem kk_Bc_player : k_Bc_player.all (okE 8 cX8_player) = true := by decide +kernel
set_option maxRecDepth 100000 in
theorem kk_Bc_tune : k_Bc_tune.all (okE 8 cX8_tune) = true := by decide +kernel
set_option maxRecDepth 100000 in
theorem kk_Bc_train : k_Bc_train.all (okE 8 cX8_train) = true := by decide +kernel
set_option maxRecDepth 100000 in
theorem kk_Bc_start : k_Bc_start.all (okE 8 cX8_start) = true := by decide +kernel
set_option maxRecDepth 100000 in
theorem kk_Bc_beat : k_Bc_beat.all (okE 8 cX8_beat) = true := by decide +kernel
set_option maxRecDepth 100000 in
theorem kk_Bc_stop : k_Bc_stop.all (okE 8 cX8_stop) = true := by decide +kernel
set_option maxRecDepth 100000 in
theorem kk_Bc_set : k_Bc_set.all (okE 8 cX8_set) = true := by decide +kernel
set_option maxRecDepth 100000 in
theorem kk_Bc_chairOf : k_Bc_chairOf.all (okE 8 cX8_chairOf) = true := by decide +kernel
set_option maxRecDepth 100000 in
theorem kk_Bc_playerOf : k_Bc_playerOf.all (okE 8 cX8_playerOf) = true := by decide +kernel
set_option maxRecDepth 100000 in
theorem kk_Bc_hears : k_Bc_hears.all (okE 8 cX8_hears) = true := by decide +kernel
set_option maxRecDepth 100000 in
theorem kk_Bc_bell : k_Bc_bell.all (okE 8 cX8_bell) = true := by decide +kernel
set_option maxRecDepth 100000 in
theorem kk_Bc_ifStopped : k_Bc_ifStopped.all (okE 8 cX8_ifStopped) = true := by decide +kernel
set_option maxRecDepth 100000 in
theorem kk_Bc_outs : k_Bc_outs.all (okE 8 cX8_outs) = true := by decide +kernel
set_option maxRecDepth 100000 in
theorem kk_Bc_safeIn : k_Bc_safeIn.all (okE 8 cX8_safeIn) = true := by decide +kernel
set_option maxRecDepth 100000 in
theorem kk_Bc_mean : k_Bc_mean.all (okE 8 cX8_mean) = true := by decide +kernel
set_option maxRecDepth 100000 in
theorem kk_Bc_count : k_Bc_count.all (okE 8 cX8_count) = true := by decide +kernel
set_option maxRecDepth 100000 in
theorem kk_Bc_undo : k_Bc_undo.all (okE 8 cX8_undo) = true := by decide +kernel
set_option maxRecDepth 100000 in
theorem kk_Bc_type : k_Bc_type.all (okE 8 cX8_type) = true := by decide +kernel
set_option maxRecDepth 100000 in
theorem kk_Bc_clearText : k_Bc_clearText.all (okE 8 cX8_clearText) = true := by decide +kernel
set_option maxRecDepth 100000 in
theorem kk_Bc_fault : k_Bc_fault.all (okE 8 cX8_fault) = true := by decide +kernel
set_option maxRecDepth 100000 in
theorem kk_Bc_play : k_Bc_play.all (okE 8 cX8_play) = true := by decide +kernel
set_option maxRecDepth 100000 in
theorem kk_Bc_countBesidesTheGame : k_Bc_countBesidesTheGame.all (okE 8 cX8_countBesidesTheGame) = true := by decide +kernel
set_option maxRecDepth 100000 in
theorem kk_Bc_foundOrNot : k_Bc_foundOrNot.all (okE 8 cX8_foundOrNot) = true := by decide +kernel
set_option maxRecDepth 100000 in
theorem kk_Bc_isWithin : k_Bc_isWithin.all (okE 8 cX8_isWithin) = true := by decide +kernel
set_option maxRecDepth 100000 in
theorem kk_Bc_bitsOf : k_Bc_bitsOf.all (okE 8 cX8_bitsOf) = true := by decide +kernel
set_option maxRecDepth 100000 in
theorem kk_Int_bitCount : k_Int_bitCount.all (okE 11 cJ6_bitCount_0f7a4) = true := by decide +kernel
set_option maxRecDepth 100000 in
theorem kk_Math_max : k_Math_max.all (okE 12 cJ9_max_7cf53) = true := by decide +kernel
set_option maxRecDepth 100000 in
theorem kk_Math_min : k_Math_min.all (okE 12 cJ9_min_7cf53) = true := by decide +kernel
set_option maxRecDepth 100000 in
theorem kk_Law_lot : k_Law_lot.all (okE 13 cL_lot) = true := by decide +kernel
set_option maxRecDepth 100000 in
theorem kk_Law_low : k_Law_low.all (okE 13 cL_low) = true := by decide +kernel
set_option maxRecDepth 100000 in
theorem kk_Law_look0 : ((k_Law_look.drop 0).take 60).all (okE 13 cL_look) = true := by decide +kernel
set_option maxRecDepth 100000 in
theorem kk_Law_look1 : ((k_Law_look.drop 60).take 60).all (okE 13 cL_look) = true := by decide +kernel
set_option maxRecDepth 100000 in
theorem kk_Law_look2 : ((k_Law_look.drop 120).take 2).all (okE 13 cL_look) = true := by decide +kernel
set_option maxRecDepth 100000 in
theorem kk_Law_ones : k_Law_ones.all (okE 13 cL_ones) = true := by decide +kernel
set_option maxRecDepth 100000 in
theorem kk_Law_holds0 : ((k_Law_holds.drop 0).take 60).all (okE 13 cL_holds) = true := by decide +kernel
set_option maxRecDepth 100000 in
theorem kk_Law_holds1 : ((k_Law_holds.drop 60).take 60).all (okE 13 cL_holds) = true := by decide +kernel
set_option maxRecDepth 100000 in
theorem kk_Law_holds2 : ((k_Law_holds.drop 120).take 60).all (okE 13 cL_holds) = true := by decide +kernel
set_option maxRecDepth 100000 in
theorem kk_Law_holds3 : ((k_Law_holds.drop 180).take 60).all (okE 13 cL_holds) = true := by decide +kernel
set_option maxRecDepth 100000 in
theorem kk_Law_holds4 : ((k_Law_holds.drop 240).take 60).all (okE 13 cL_holds) = true := by decide +kernel
set_option maxRecDepth 100000 in
theorem kk_Law_holds5 : ((k_Law_holds.drop 300).take 60).all (okE 13 cL_holds) = true := by decide +kernel
set_option maxRecDepth 100000 in
theorem kk_Law_holds6 : ((k_Law_holds.drop 360).take 60).all (okE 13 cL_holds) = true := by decide +kernel
set_option maxRecDepth 100000 in
theorem kk_Law_holds7 : ((k_Law_holds.drop 420).take 23).all (okE 13 cL_holds) = true := by decide +kernel
set_option maxRecDepth 100000 in
theorem kk_Law_would0 : ((k_Law_would.drop 0).take 60).all (okE 13 cL_would) = true := by decide +kernel
set_option maxRecDepth 100000 in
theorem kk_Law_would1 : ((k_Law_would.drop 60).take 60).all (okE 13 cL_would) = true := by decide +kernel
set_option maxRecDepth 100000 in
theorem kk_Law_would2 : ((k_Law_would.drop 120).take 60).all (okE 13 cL_would) = true := by decide +kernel
set_option maxRecDepth 100000 in
theorem kk_Law_would3 : ((k_Law_would.drop 180).take 60).all (okE 13 cL_would) = true := by decide +kernel
set_option maxRecDepth 100000 in
theorem kk_Law_number : k_Law_number.all (okE 13 cL_number) = true := by decide +kernel
set_option maxRecDepth 100000 in
theorem kk_Law_types0 : ((k_Law_types.drop 0).take 60).all (okE 13 cL_types) = true := by decide +kernel
set_option maxRecDepth 100000 in
theorem kk_Law_types1 : ((k_Law_types.drop 60).take 60).all (okE 13 cL_types) = true := by decide +kernel
set_option maxRecDepth 100000 in
theorem kk_Law_types2 : ((k_Law_types.drop 120).take 27).all (okE 13 cL_types) = true := by decide +kernel
set_option maxRecDepth 100000 in
theorem kk_Law_reads0 : ((k_Law_reads.drop 0).take 60).all (okE 13 cL_reads) = true := by decide +kernel
set_option maxRecDepth 100000 in
theorem kk_Law_reads1 : ((k_Law_reads.drop 60).take 60).all (okE 13 cL_reads) = true := by decide +kernel
set_option maxRecDepth 100000 in
theorem kk_Law_reads2 : ((k_Law_reads.drop 120).take 15).all (okE 13 cL_reads) = true := by decide +kernel
set_option maxRecDepth 100000 in
theorem kk_Law_music0 : ((k_Law_music.drop 0).take 60).all (okE 13 cL_music) = true := by decide +kernel
set_option maxRecDepth 100000 in
theorem kk_Law_music1 : ((k_Law_music.drop 60).take 60).all (okE 13 cL_music) = true := by decide +kernel
set_option maxRecDepth 100000 in
theorem kk_Law_music2 : ((k_Law_music.drop 120).take 60).all (okE 13 cL_music) = true := by decide +kernel
set_option maxRecDepth 100000 in
theorem kk_Law_music3 : ((k_Law_music.drop 180).take 60).all (okE 13 cL_music) = true := by decide +kernel
set_option maxRecDepth 100000 in
theorem kk_Law_music4 : ((k_Law_music.drop 240).take 60).all (okE 13 cL_music) = true := by decide +kernel
set_option maxRecDepth 100000 in
theorem kk_Law_music5 : ((k_Law_music.drop 300).take 31).all (okE 13 cL_music) = true := by decide +kernel
set_option maxRecDepth 100000 in
theorem kk_Law_acts0 : ((k_Law_acts.drop 0).take 60).all (okE 13 cL_acts) = true := by decide +kernel
set_option maxRecDepth 100000 in
theorem kk_Law_acts1 : ((k_Law_acts.drop 60).take 60).all (okE 13 cL_acts) = true := by decide +kernel
set_option maxRecDepth 100000 in
theorem kk_Law_acts2 : ((k_Law_acts.drop 120).take 60).all (okE 13 cL_acts) = true := by decide +kernel
set_option maxRecDepth 100000 in
theorem kk_Law_acts3 : ((k_Law_acts.drop 180).take 60).all (okE 13 cL_acts) = true := by decide +kernel
set_option maxRecDepth 100000 in
theorem kk_Law_acts4 : ((k_Law_acts.drop 240).take 60).all (okE 13 cL_acts) = true := by decide +kernel
set_option maxRecDepth 100000 in
theorem kk_Law_acts5 : ((k_Law_acts.drop 300).take 60).all (okE 13 cL_acts) = true := by decide +kernel
set_option maxRecDepth 100000 in
theorem kk_Law_acts6 : ((k_Law_acts.drop 360).take 60).all (okE 13 cL_acts) = true := by decide +kernel
set_option maxRecDepth 100000 in
theorem kk_Law_acts7 : ((k_Law_acts.drop 420).take 4).all (okE 13 cL_acts) = true := by decide +kernel
set_option maxRecDepth 100000 in
theorem kk_law0 : ((k_law.drop 0).take 60).all (okE 13 code) = true := by decide +kernel
set_option maxRecDepth 100000 in
theorem kk_law1 : ((k_law.drop 60).take 60).all (okE 13 code) = true := by decide +kernel
set_option maxRecDepth 100000 in
theorem kk_law2 : ((k_law.drop 120).take 55).all (okE 13 code) = true := by decide +kernel
