section
-- ===== PART A: goes FIRST, ahead of the names: the tables' words, and 'selects' of the private methods out of them =====
/-- a private method of a class that the tables say can be made, by its rows of tables_1 -/
def lw_okq (q : MethodName × Nat) : Prop := (q.1.cls ≠ "java/lang/invoke/MethodHandle" ∧ q.1.cls ≠ "java/lang/invoke/VarHandle") ∧ Cond.instantiable q.1.cls q.2 ∈ tables_1 ∧ Cond.privateMethod q.1 ∈ tables_1 ∧ Cond.instanceMethod q.1 ∈ tables_1
theorem lw_p0 : lw_okq (⟨"BellChairs$Grope", "begin", "(LBellChairs$Chairs;LBellChairs$Players;I)V"⟩, 12) := ⟨⟨by decide +kernel, by decide +kernel⟩, List.mem_of_getElem? (i := 210) (by decide +kernel), List.mem_of_getElem? (i := 482) (by decide +kernel), List.mem_of_getElem? (i := 483) (by decide +kernel)⟩
theorem lw_p1 : lw_okq (⟨"BellChairs$Grope", "sendOut", "(LBellChairs$Chairs;LBellChairs$Players;)V"⟩, 12) := ⟨⟨by decide +kernel, by decide +kernel⟩, List.mem_of_getElem? (i := 210) (by decide +kernel), List.mem_of_getElem? (i := 487) (by decide +kernel), List.mem_of_getElem? (i := 488) (by decide +kernel)⟩
theorem lw_p2 : lw_okq (⟨"BellChairs$Grope", "gropes", "(I)Z"⟩, 12) := ⟨⟨by decide +kernel, by decide +kernel⟩, List.mem_of_getElem? (i := 210) (by decide +kernel), List.mem_of_getElem? (i := 491) (by decide +kernel), List.mem_of_getElem? (i := 492) (by decide +kernel)⟩
theorem lw_p3 : lw_okq (⟨"BellChairs$Grope", "settle", "(I)V"⟩, 12) := ⟨⟨by decide +kernel, by decide +kernel⟩, List.mem_of_getElem? (i := 210) (by decide +kernel), List.mem_of_getElem? (i := 495) (by decide +kernel), List.mem_of_getElem? (i := 496) (by decide +kernel)⟩
theorem lw_p4 : lw_okq (⟨"BellChairs$Grope", "takeAim", "(LBellChairs$Chairs;LBellChairs$Players;)V"⟩, 12) := ⟨⟨by decide +kernel, by decide +kernel⟩, List.mem_of_getElem? (i := 210) (by decide +kernel), List.mem_of_getElem? (i := 499) (by decide +kernel), List.mem_of_getElem? (i := 500) (by decide +kernel)⟩
theorem lw_p5 : lw_okq (⟨"BellChairs$Grope", "sitDown", "(LBellChairs$Chairs;LBellChairs$Players;)V"⟩, 12) := ⟨⟨by decide +kernel, by decide +kernel⟩, List.mem_of_getElem? (i := 210) (by decide +kernel), List.mem_of_getElem? (i := 503) (by decide +kernel), List.mem_of_getElem? (i := 504) (by decide +kernel)⟩
theorem lw_p6 : lw_okq (⟨"BellChairs$Grope", "nearest", "(LBellChairs$Players;I)I"⟩, 12) := ⟨⟨by decide +kernel, by decide +kernel⟩, List.mem_of_getElem? (i := 210) (by decide +kernel), List.mem_of_getElem? (i := 507) (by decide +kernel), List.mem_of_getElem? (i := 508) (by decide +kernel)⟩
theorem lw_p7 : lw_okq (⟨"BellChairs$Grope", "bump", "(LBellChairs$Players;)V"⟩, 12) := ⟨⟨by decide +kernel, by decide +kernel⟩, List.mem_of_getElem? (i := 210) (by decide +kernel), List.mem_of_getElem? (i := 511) (by decide +kernel), List.mem_of_getElem? (i := 512) (by decide +kernel)⟩
theorem lw_p8 : lw_okq (⟨"BellChairs$Grope", "ring", "(LBellChairs$Chairs;LBellChairs$Players;)V"⟩, 12) := ⟨⟨by decide +kernel, by decide +kernel⟩, List.mem_of_getElem? (i := 210) (by decide +kernel), List.mem_of_getElem? (i := 515) (by decide +kernel), List.mem_of_getElem? (i := 516) (by decide +kernel)⟩
theorem lw_p9 : lw_okq (⟨"BellChairs$Game", "settlePlayers", "(LBellChairs$Grope;)V"⟩, 10) := ⟨⟨by decide +kernel, by decide +kernel⟩, List.mem_of_getElem? (i := 24) (by decide +kernel), List.mem_of_getElem? (i := 523) (by decide +kernel), List.mem_of_getElem? (i := 524) (by decide +kernel)⟩
theorem lw_p10 : lw_okq (⟨"BellChairs$Game", "settleChairs", "(LBellChairs$Grope;)V"⟩, 10) := ⟨⟨by decide +kernel, by decide +kernel⟩, List.mem_of_getElem? (i := 24) (by decide +kernel), List.mem_of_getElem? (i := 532) (by decide +kernel), List.mem_of_getElem? (i := 533) (by decide +kernel)⟩
theorem lw_p11 : lw_okq (⟨"BellChairs$Game", "goOn", "()V"⟩, 10) := ⟨⟨by decide +kernel, by decide +kernel⟩, List.mem_of_getElem? (i := 24) (by decide +kernel), List.mem_of_getElem? (i := 545) (by decide +kernel), List.mem_of_getElem? (i := 546) (by decide +kernel)⟩
theorem lw_p12 : lw_okq (⟨"BellChairs$Chairs", "mostWorn", "()I"⟩, 4) := ⟨⟨by decide +kernel, by decide +kernel⟩, List.mem_of_getElem? (i := 30) (by decide +kernel), List.mem_of_getElem? (i := 556) (by decide +kernel), List.mem_of_getElem? (i := 557) (by decide +kernel)⟩
theorem lw_p13 : lw_okq (⟨"BellChairs$Chairs", "takeAway", "(I)V"⟩, 4) := ⟨⟨by decide +kernel, by decide +kernel⟩, List.mem_of_getElem? (i := 30) (by decide +kernel), List.mem_of_getElem? (i := 560) (by decide +kernel), List.mem_of_getElem? (i := 561) (by decide +kernel)⟩
theorem lw_p14 : lw_okq (⟨"BellChairs$Players", "sum", "([I)I"⟩, 10) := ⟨⟨by decide +kernel, by decide +kernel⟩, List.mem_of_getElem? (i := 58) (by decide +kernel), List.mem_of_getElem? (i := 623) (by decide +kernel), List.mem_of_getElem? (i := 624) (by decide +kernel)⟩
theorem lw_p15 : lw_okq (⟨"BellChairs", "countBesidesTheGame", "(I)I"⟩, 5) := ⟨⟨by decide +kernel, by decide +kernel⟩, List.mem_of_getElem? (i := 16) (by decide +kernel), List.mem_of_getElem? (i := 649) (by decide +kernel), List.mem_of_getElem? (i := 650) (by decide +kernel)⟩
def lw_privs_1 : List (MethodName × Nat) := [(⟨"BellChairs$Grope", "begin", "(LBellChairs$Chairs;LBellChairs$Players;I)V"⟩, 12), (⟨"BellChairs$Grope", "sendOut", "(LBellChairs$Chairs;LBellChairs$Players;)V"⟩, 12), (⟨"BellChairs$Grope", "gropes", "(I)Z"⟩, 12), (⟨"BellChairs$Grope", "settle", "(I)V"⟩, 12), (⟨"BellChairs$Grope", "takeAim", "(LBellChairs$Chairs;LBellChairs$Players;)V"⟩, 12), (⟨"BellChairs$Grope", "sitDown", "(LBellChairs$Chairs;LBellChairs$Players;)V"⟩, 12), (⟨"BellChairs$Grope", "nearest", "(LBellChairs$Players;I)I"⟩, 12), (⟨"BellChairs$Grope", "bump", "(LBellChairs$Players;)V"⟩, 12), (⟨"BellChairs$Grope", "ring", "(LBellChairs$Chairs;LBellChairs$Players;)V"⟩, 12), (⟨"BellChairs$Game", "settlePlayers", "(LBellChairs$Grope;)V"⟩, 10), (⟨"BellChairs$Game", "settleChairs", "(LBellChairs$Grope;)V"⟩, 10), (⟨"BellChairs$Game", "goOn", "()V"⟩, 10), (⟨"BellChairs$Chairs", "mostWorn", "()I"⟩, 4), (⟨"BellChairs$Chairs", "takeAway", "(I)V"⟩, 4), (⟨"BellChairs$Players", "sum", "([I)I"⟩, 10), (⟨"BellChairs", "countBesidesTheGame", "(I)I"⟩, 5)]
theorem lw_r1 : ∀ q ∈ lw_privs_1, lw_okq q := List.forall_mem_cons.mpr ⟨lw_p0, List.forall_mem_cons.mpr ⟨lw_p1, List.forall_mem_cons.mpr ⟨lw_p2, List.forall_mem_cons.mpr ⟨lw_p3, List.forall_mem_cons.mpr ⟨lw_p4, List.forall_mem_cons.mpr ⟨lw_p5, List.forall_mem_cons.mpr ⟨lw_p6, List.forall_mem_cons.mpr ⟨lw_p7, List.forall_mem_cons.mpr ⟨lw_p8, List.forall_mem_cons.mpr ⟨lw_p9, List.forall_mem_cons.mpr ⟨lw_p10, List.forall_mem_cons.mpr ⟨lw_p11, List.forall_mem_cons.mpr ⟨lw_p12, List.forall_mem_cons.mpr ⟨lw_p13, List.forall_mem_cons.mpr ⟨lw_p14, List.forall_mem_cons.mpr ⟨lw_p15, fun _ h => absurd h List.not_mem_nil⟩⟩⟩⟩⟩⟩⟩⟩⟩⟩⟩⟩⟩⟩⟩⟩
theorem lw_p16 : lw_okq (⟨"BellChairs$Orders", "readOrder", "(LBellChairs$Text;)Z"⟩, 9) := ⟨⟨by decide +kernel, by decide +kernel⟩, List.mem_of_getElem? (i := 279) (by decide +kernel), List.mem_of_getElem? (i := 690) (by decide +kernel), List.mem_of_getElem? (i := 691) (by decide +kernel)⟩
theorem lw_p17 : lw_okq (⟨"BellChairs$Orders", "readNumber", "(LBellChairs$Text;)I"⟩, 9) := ⟨⟨by decide +kernel, by decide +kernel⟩, List.mem_of_getElem? (i := 279) (by decide +kernel), List.mem_of_getElem? (i := 698) (by decide +kernel), List.mem_of_getElem? (i := 699) (by decide +kernel)⟩
theorem lw_p18 : lw_okq (⟨"BellChairs$Orders", "passes", "(LBellChairs$Text;I)Z"⟩, 9) := ⟨⟨by decide +kernel, by decide +kernel⟩, List.mem_of_getElem? (i := 279) (by decide +kernel), List.mem_of_getElem? (i := 704) (by decide +kernel), List.mem_of_getElem? (i := 705) (by decide +kernel)⟩
theorem lw_p19 : lw_okq (⟨"BellChairs$Orders", "judge", "(I)V"⟩, 9) := ⟨⟨by decide +kernel, by decide +kernel⟩, List.mem_of_getElem? (i := 279) (by decide +kernel), List.mem_of_getElem? (i := 717) (by decide +kernel), List.mem_of_getElem? (i := 718) (by decide +kernel)⟩
theorem lw_p20 : lw_okq (⟨"BellChairsModel", "errorChair", "(I)I"⟩, 22) := ⟨⟨by decide +kernel, by decide +kernel⟩, List.mem_of_getElem? (i := 726) (by decide +kernel), List.mem_of_getElem? (i := 803) (by decide +kernel), List.mem_of_getElem? (i := 804) (by decide +kernel)⟩
theorem lw_p21 : lw_okq (⟨"BellChairsModel", "records", "()V"⟩, 22) := ⟨⟨by decide +kernel, by decide +kernel⟩, List.mem_of_getElem? (i := 726) (by decide +kernel), List.mem_of_getElem? (i := 813) (by decide +kernel), List.mem_of_getElem? (i := 814) (by decide +kernel)⟩
theorem lw_p22 : lw_okq (⟨"BellChairsModel", "goChair", "(I)I"⟩, 22) := ⟨⟨by decide +kernel, by decide +kernel⟩, List.mem_of_getElem? (i := 726) (by decide +kernel), List.mem_of_getElem? (i := 820) (by decide +kernel), List.mem_of_getElem? (i := 821) (by decide +kernel)⟩
theorem lw_p23 : lw_okq (⟨"BellChairsModel", "laysChair", "(III)V"⟩, 22) := ⟨⟨by decide +kernel, by decide +kernel⟩, List.mem_of_getElem? (i := 726) (by decide +kernel), List.mem_of_getElem? (i := 824) (by decide +kernel), List.mem_of_getElem? (i := 825) (by decide +kernel)⟩
theorem lw_p24 : lw_okq (⟨"BellChairsModel", "errorPlayer", "(II)I"⟩, 22) := ⟨⟨by decide +kernel, by decide +kernel⟩, List.mem_of_getElem? (i := 726) (by decide +kernel), List.mem_of_getElem? (i := 832) (by decide +kernel), List.mem_of_getElem? (i := 833) (by decide +kernel)⟩
theorem lw_p25 : lw_okq (⟨"BellChairsModel", "goPlayer", "(II)I"⟩, 22) := ⟨⟨by decide +kernel, by decide +kernel⟩, List.mem_of_getElem? (i := 726) (by decide +kernel), List.mem_of_getElem? (i := 836) (by decide +kernel), List.mem_of_getElem? (i := 837) (by decide +kernel)⟩
theorem lw_p26 : lw_okq (⟨"BellChairsModel", "lays", "(III)V"⟩, 22) := ⟨⟨by decide +kernel, by decide +kernel⟩, List.mem_of_getElem? (i := 726) (by decide +kernel), List.mem_of_getElem? (i := 840) (by decide +kernel), List.mem_of_getElem? (i := 841) (by decide +kernel)⟩
theorem lw_p27 : lw_okq (⟨"BellChairsModel", "isChair", "(I)Z"⟩, 22) := ⟨⟨by decide +kernel, by decide +kernel⟩, List.mem_of_getElem? (i := 726) (by decide +kernel), List.mem_of_getElem? (i := 848) (by decide +kernel), List.mem_of_getElem? (i := 849) (by decide +kernel)⟩
theorem lw_p28 : lw_okq (⟨"BellChairsModel", "ofChair", "(II)I"⟩, 22) := ⟨⟨by decide +kernel, by decide +kernel⟩, List.mem_of_getElem? (i := 726) (by decide +kernel), List.mem_of_getElem? (i := 852) (by decide +kernel), List.mem_of_getElem? (i := 853) (by decide +kernel)⟩
theorem lw_p29 : lw_okq (⟨"BellChairsModel", "isPlayer", "(I)Z"⟩, 22) := ⟨⟨by decide +kernel, by decide +kernel⟩, List.mem_of_getElem? (i := 726) (by decide +kernel), List.mem_of_getElem? (i := 860) (by decide +kernel), List.mem_of_getElem? (i := 861) (by decide +kernel)⟩
theorem lw_p30 : lw_okq (⟨"BellChairsModel", "of", "(II)I"⟩, 22) := ⟨⟨by decide +kernel, by decide +kernel⟩, List.mem_of_getElem? (i := 726) (by decide +kernel), List.mem_of_getElem? (i := 864) (by decide +kernel), List.mem_of_getElem? (i := 865) (by decide +kernel)⟩
theorem lw_p31 : lw_okq (⟨"BellChairsModel", "errorStart", "()I"⟩, 22) := ⟨⟨by decide +kernel, by decide +kernel⟩, List.mem_of_getElem? (i := 726) (by decide +kernel), List.mem_of_getElem? (i := 872) (by decide +kernel), List.mem_of_getElem? (i := 873) (by decide +kernel)⟩
def lw_privs_2 : List (MethodName × Nat) := [(⟨"BellChairs$Orders", "readOrder", "(LBellChairs$Text;)Z"⟩, 9), (⟨"BellChairs$Orders", "readNumber", "(LBellChairs$Text;)I"⟩, 9), (⟨"BellChairs$Orders", "passes", "(LBellChairs$Text;I)Z"⟩, 9), (⟨"BellChairs$Orders", "judge", "(I)V"⟩, 9), (⟨"BellChairsModel", "errorChair", "(I)I"⟩, 22), (⟨"BellChairsModel", "records", "()V"⟩, 22), (⟨"BellChairsModel", "goChair", "(I)I"⟩, 22), (⟨"BellChairsModel", "laysChair", "(III)V"⟩, 22), (⟨"BellChairsModel", "errorPlayer", "(II)I"⟩, 22), (⟨"BellChairsModel", "goPlayer", "(II)I"⟩, 22), (⟨"BellChairsModel", "lays", "(III)V"⟩, 22), (⟨"BellChairsModel", "isChair", "(I)Z"⟩, 22), (⟨"BellChairsModel", "ofChair", "(II)I"⟩, 22), (⟨"BellChairsModel", "isPlayer", "(I)Z"⟩, 22), (⟨"BellChairsModel", "of", "(II)I"⟩, 22), (⟨"BellChairsModel", "errorStart", "()I"⟩, 22)]
theorem lw_r2 : ∀ q ∈ lw_privs_2, lw_okq q := List.forall_mem_cons.mpr ⟨lw_p16, List.forall_mem_cons.mpr ⟨lw_p17, List.forall_mem_cons.mpr ⟨lw_p18, List.forall_mem_cons.mpr ⟨lw_p19, List.forall_mem_cons.mpr ⟨lw_p20, List.forall_mem_cons.mpr ⟨lw_p21, List.forall_mem_cons.mpr ⟨lw_p22, List.forall_mem_cons.mpr ⟨lw_p23, List.forall_mem_cons.mpr ⟨lw_p24, List.forall_mem_cons.mpr ⟨lw_p25, List.forall_mem_cons.mpr ⟨lw_p26, List.forall_mem_cons.mpr ⟨lw_p27, List.forall_mem_cons.mpr ⟨lw_p28, List.forall_mem_cons.mpr ⟨lw_p29, List.forall_mem_cons.mpr ⟨lw_p30, List.forall_mem_cons.mpr ⟨lw_p31, fun _ h => absurd h List.not_mem_nil⟩⟩⟩⟩⟩⟩⟩⟩⟩⟩⟩⟩⟩⟩⟩⟩
theorem lw_p32 : lw_okq (⟨"BellChairsModel", "inPlay", "()I"⟩, 22) := ⟨⟨by decide +kernel, by decide +kernel⟩, List.mem_of_getElem? (i := 726) (by decide +kernel), List.mem_of_getElem? (i := 876) (by decide +kernel), List.mem_of_getElem? (i := 877) (by decide +kernel)⟩
theorem lw_p33 : lw_okq (⟨"BellChairsModel", "goStart", "()I"⟩, 22) := ⟨⟨by decide +kernel, by decide +kernel⟩, List.mem_of_getElem? (i := 726) (by decide +kernel), List.mem_of_getElem? (i := 880) (by decide +kernel), List.mem_of_getElem? (i := 881) (by decide +kernel)⟩
theorem lw_p34 : lw_okq (⟨"BellChairsModel", "isIn", "(I)Z"⟩, 22) := ⟨⟨by decide +kernel, by decide +kernel⟩, List.mem_of_getElem? (i := 726) (by decide +kernel), List.mem_of_getElem? (i := 884) (by decide +kernel), List.mem_of_getElem? (i := 885) (by decide +kernel)⟩
theorem lw_p35 : lw_okq (⟨"BellChairsModel", "errorBeat", "(I)I"⟩, 22) := ⟨⟨by decide +kernel, by decide +kernel⟩, List.mem_of_getElem? (i := 726) (by decide +kernel), List.mem_of_getElem? (i := 892) (by decide +kernel), List.mem_of_getElem? (i := 893) (by decide +kernel)⟩
theorem lw_p36 : lw_okq (⟨"BellChairsModel", "goBeat", "(I)I"⟩, 22) := ⟨⟨by decide +kernel, by decide +kernel⟩, List.mem_of_getElem? (i := 726) (by decide +kernel), List.mem_of_getElem? (i := 896) (by decide +kernel), List.mem_of_getElem? (i := 897) (by decide +kernel)⟩
theorem lw_p37 : lw_okq (⟨"BellChairsModel", "goStop", "()I"⟩, 22) := ⟨⟨by decide +kernel, by decide +kernel⟩, List.mem_of_getElem? (i := 726) (by decide +kernel), List.mem_of_getElem? (i := 904) (by decide +kernel), List.mem_of_getElem? (i := 905) (by decide +kernel)⟩
theorem lw_p38 : lw_okq (⟨"BellChairsModel", "gropesAll", "()V"⟩, 22) := ⟨⟨by decide +kernel, by decide +kernel⟩, List.mem_of_getElem? (i := 726) (by decide +kernel), List.mem_of_getElem? (i := 908) (by decide +kernel), List.mem_of_getElem? (i := 909) (by decide +kernel)⟩
theorem lw_p39 : lw_okq (⟨"BellChairsModel", "ticks", "(I)Z"⟩, 22) := ⟨⟨by decide +kernel, by decide +kernel⟩, List.mem_of_getElem? (i := 726) (by decide +kernel), List.mem_of_getElem? (i := 912) (by decide +kernel), List.mem_of_getElem? (i := 913) (by decide +kernel)⟩
theorem lw_p40 : lw_okq (⟨"BellChairsModel", "gropes", "(I)Z"⟩, 22) := ⟨⟨by decide +kernel, by decide +kernel⟩, List.mem_of_getElem? (i := 726) (by decide +kernel), List.mem_of_getElem? (i := 916) (by decide +kernel), List.mem_of_getElem? (i := 917) (by decide +kernel)⟩
theorem lw_p41 : lw_okq (⟨"BellChairsModel", "getsOut", "(II)V"⟩, 22) := ⟨⟨by decide +kernel, by decide +kernel⟩, List.mem_of_getElem? (i := 726) (by decide +kernel), List.mem_of_getElem? (i := 920) (by decide +kernel), List.mem_of_getElem? (i := 921) (by decide +kernel)⟩
theorem lw_p42 : lw_okq (⟨"BellChairsModel", "aims", "(I)V"⟩, 22) := ⟨⟨by decide +kernel, by decide +kernel⟩, List.mem_of_getElem? (i := 726) (by decide +kernel), List.mem_of_getElem? (i := 924) (by decide +kernel), List.mem_of_getElem? (i := 925) (by decide +kernel)⟩
theorem lw_p43 : lw_okq (⟨"BellChairsModel", "getterOf", "(I)I"⟩, 22) := ⟨⟨by decide +kernel, by decide +kernel⟩, List.mem_of_getElem? (i := 726) (by decide +kernel), List.mem_of_getElem? (i := 928) (by decide +kernel), List.mem_of_getElem? (i := 929) (by decide +kernel)⟩
theorem lw_p44 : lw_okq (⟨"BellChairsModel", "bumps", "(I)V"⟩, 22) := ⟨⟨by decide +kernel, by decide +kernel⟩, List.mem_of_getElem? (i := 726) (by decide +kernel), List.mem_of_getElem? (i := 933) (by decide +kernel), List.mem_of_getElem? (i := 934) (by decide +kernel)⟩
theorem lw_p45 : lw_okq (⟨"BellChairsModel", "sitsDown", "(III)V"⟩, 22) := ⟨⟨by decide +kernel, by decide +kernel⟩, List.mem_of_getElem? (i := 726) (by decide +kernel), List.mem_of_getElem? (i := 937) (by decide +kernel), List.mem_of_getElem? (i := 938) (by decide +kernel)⟩
theorem lw_p46 : lw_okq (⟨"BellChairsModel", "rings", "(II)V"⟩, 22) := ⟨⟨by decide +kernel, by decide +kernel⟩, List.mem_of_getElem? (i := 726) (by decide +kernel), List.mem_of_getElem? (i := 941) (by decide +kernel), List.mem_of_getElem? (i := 942) (by decide +kernel)⟩
theorem lw_p47 : lw_okq (⟨"BellChairsModel", "doesHear", "(II)Z"⟩, 22) := ⟨⟨by decide +kernel, by decide +kernel⟩, List.mem_of_getElem? (i := 726) (by decide +kernel), List.mem_of_getElem? (i := 945) (by decide +kernel), List.mem_of_getElem? (i := 946) (by decide +kernel)⟩
def lw_privs_3 : List (MethodName × Nat) := [(⟨"BellChairsModel", "inPlay", "()I"⟩, 22), (⟨"BellChairsModel", "goStart", "()I"⟩, 22), (⟨"BellChairsModel", "isIn", "(I)Z"⟩, 22), (⟨"BellChairsModel", "errorBeat", "(I)I"⟩, 22), (⟨"BellChairsModel", "goBeat", "(I)I"⟩, 22), (⟨"BellChairsModel", "goStop", "()I"⟩, 22), (⟨"BellChairsModel", "gropesAll", "()V"⟩, 22), (⟨"BellChairsModel", "ticks", "(I)Z"⟩, 22), (⟨"BellChairsModel", "gropes", "(I)Z"⟩, 22), (⟨"BellChairsModel", "getsOut", "(II)V"⟩, 22), (⟨"BellChairsModel", "aims", "(I)V"⟩, 22), (⟨"BellChairsModel", "getterOf", "(I)I"⟩, 22), (⟨"BellChairsModel", "bumps", "(I)V"⟩, 22), (⟨"BellChairsModel", "sitsDown", "(III)V"⟩, 22), (⟨"BellChairsModel", "rings", "(II)V"⟩, 22), (⟨"BellChairsModel", "doesHear", "(II)Z"⟩, 22)]
theorem lw_r3 : ∀ q ∈ lw_privs_3, lw_okq q := List.forall_mem_cons.mpr ⟨lw_p32, List.forall_mem_cons.mpr ⟨lw_p33, List.forall_mem_cons.mpr ⟨lw_p34, List.forall_mem_cons.mpr ⟨lw_p35, List.forall_mem_cons.mpr ⟨lw_p36, List.forall_mem_cons.mpr ⟨lw_p37, List.forall_mem_cons.mpr ⟨lw_p38, List.forall_mem_cons.mpr ⟨lw_p39, List.forall_mem_cons.mpr ⟨lw_p40, List.forall_mem_cons.mpr ⟨lw_p41, List.forall_mem_cons.mpr ⟨lw_p42, List.forall_mem_cons.mpr ⟨lw_p43, List.forall_mem_cons.mpr ⟨lw_p44, List.forall_mem_cons.mpr ⟨lw_p45, List.forall_mem_cons.mpr ⟨lw_p46, List.forall_mem_cons.mpr ⟨lw_p47, fun _ h => absurd h List.not_mem_nil⟩⟩⟩⟩⟩⟩⟩⟩⟩⟩⟩⟩⟩⟩⟩⟩
theorem lw_p48 : lw_okq (⟨"BellChairsModel", "takesChair", "()V"⟩, 22) := ⟨⟨by decide +kernel, by decide +kernel⟩, List.mem_of_getElem? (i := 726) (by decide +kernel), List.mem_of_getElem? (i := 949) (by decide +kernel), List.mem_of_getElem? (i := 950) (by decide +kernel)⟩
theorem lw_p49 : lw_okq (⟨"BellChairsModel", "ifStoppedBy", "(II)I"⟩, 22) := ⟨⟨by decide +kernel, by decide +kernel⟩, List.mem_of_getElem? (i := 726) (by decide +kernel), List.mem_of_getElem? (i := 981) (by decide +kernel), List.mem_of_getElem? (i := 982) (by decide +kernel)⟩
theorem lw_p50 : lw_okq (⟨"BellChairsModel", "inSet", "()I"⟩, 22) := ⟨⟨by decide +kernel, by decide +kernel⟩, List.mem_of_getElem? (i := 726) (by decide +kernel), List.mem_of_getElem? (i := 1011) (by decide +kernel), List.mem_of_getElem? (i := 1012) (by decide +kernel)⟩
theorem lw_p51 : lw_okq (⟨"BellChairsModel", "onlyOne", "()I"⟩, 22) := ⟨⟨by decide +kernel, by decide +kernel⟩, List.mem_of_getElem? (i := 726) (by decide +kernel), List.mem_of_getElem? (i := 1015) (by decide +kernel), List.mem_of_getElem? (i := 1016) (by decide +kernel)⟩
theorem lw_p52 : lw_okq (⟨"BellChairsModel", "doesAll", "()I"⟩, 22) := ⟨⟨by decide +kernel, by decide +kernel⟩, List.mem_of_getElem? (i := 726) (by decide +kernel), List.mem_of_getElem? (i := 1031) (by decide +kernel), List.mem_of_getElem? (i := 1032) (by decide +kernel)⟩
theorem lw_p53 : lw_okq (⟨"BellChairsModel", "takesOrder", "()V"⟩, 22) := ⟨⟨by decide +kernel, by decide +kernel⟩, List.mem_of_getElem? (i := 726) (by decide +kernel), List.mem_of_getElem? (i := 1035) (by decide +kernel), List.mem_of_getElem? (i := 1036) (by decide +kernel)⟩
theorem lw_p54 : lw_okq (⟨"BellChairsModel", "here", "()I"⟩, 22) := ⟨⟨by decide +kernel, by decide +kernel⟩, List.mem_of_getElem? (i := 726) (by decide +kernel), List.mem_of_getElem? (i := 1039) (by decide +kernel), List.mem_of_getElem? (i := 1040) (by decide +kernel)⟩
theorem lw_p55 : lw_okq (⟨"BellChairsModel", "takes", "(Z)V"⟩, 22) := ⟨⟨by decide +kernel, by decide +kernel⟩, List.mem_of_getElem? (i := 726) (by decide +kernel), List.mem_of_getElem? (i := 1043) (by decide +kernel), List.mem_of_getElem? (i := 1044) (by decide +kernel)⟩
theorem lw_p56 : lw_okq (⟨"BellChairsModel", "takesNumber", "()I"⟩, 22) := ⟨⟨by decide +kernel, by decide +kernel⟩, List.mem_of_getElem? (i := 726) (by decide +kernel), List.mem_of_getElem? (i := 1047) (by decide +kernel), List.mem_of_getElem? (i := 1048) (by decide +kernel)⟩
theorem lw_p57 : lw_okq (⟨"BellChairsModel", "errorOfOrder", "()I"⟩, 22) := ⟨⟨by decide +kernel, by decide +kernel⟩, List.mem_of_getElem? (i := 726) (by decide +kernel), List.mem_of_getElem? (i := 1051) (by decide +kernel), List.mem_of_getElem? (i := 1052) (by decide +kernel)⟩
theorem lw_p58 : lw_okq (⟨"BellChairsModel", "doesOrder", "()I"⟩, 22) := ⟨⟨by decide +kernel, by decide +kernel⟩, List.mem_of_getElem? (i := 726) (by decide +kernel), List.mem_of_getElem? (i := 1055) (by decide +kernel), List.mem_of_getElem? (i := 1056) (by decide +kernel)⟩
def lw_privs_4 : List (MethodName × Nat) := [(⟨"BellChairsModel", "takesChair", "()V"⟩, 22), (⟨"BellChairsModel", "ifStoppedBy", "(II)I"⟩, 22), (⟨"BellChairsModel", "inSet", "()I"⟩, 22), (⟨"BellChairsModel", "onlyOne", "()I"⟩, 22), (⟨"BellChairsModel", "doesAll", "()I"⟩, 22), (⟨"BellChairsModel", "takesOrder", "()V"⟩, 22), (⟨"BellChairsModel", "here", "()I"⟩, 22), (⟨"BellChairsModel", "takes", "(Z)V"⟩, 22), (⟨"BellChairsModel", "takesNumber", "()I"⟩, 22), (⟨"BellChairsModel", "errorOfOrder", "()I"⟩, 22), (⟨"BellChairsModel", "doesOrder", "()I"⟩, 22)]
theorem lw_r4 : ∀ q ∈ lw_privs_4, lw_okq q := List.forall_mem_cons.mpr ⟨lw_p48, List.forall_mem_cons.mpr ⟨lw_p49, List.forall_mem_cons.mpr ⟨lw_p50, List.forall_mem_cons.mpr ⟨lw_p51, List.forall_mem_cons.mpr ⟨lw_p52, List.forall_mem_cons.mpr ⟨lw_p53, List.forall_mem_cons.mpr ⟨lw_p54, List.forall_mem_cons.mpr ⟨lw_p55, List.forall_mem_cons.mpr ⟨lw_p56, List.forall_mem_cons.mpr ⟨lw_p57, List.forall_mem_cons.mpr ⟨lw_p58, fun _ h => absurd h List.not_mem_nil⟩⟩⟩⟩⟩⟩⟩⟩⟩⟩⟩
def lw_privs : List (MethodName × Nat) := lw_privs_1 ++ (lw_privs_2 ++ (lw_privs_3 ++ (lw_privs_4)))
def lw_tbl : List Cond := k2_sels lw_privs ++ tables_1
theorem lw_privs_ok : ∀ q ∈ lw_privs, lw_okq q := by
  show ∀ q ∈ lw_privs_1 ++ (lw_privs_2 ++ (lw_privs_3 ++ (lw_privs_4))), lw_okq q
  exact List.forall_mem_append.mpr ⟨lw_r1, List.forall_mem_append.mpr ⟨lw_r2, List.forall_mem_append.mpr ⟨lw_r3, lw_r4⟩⟩⟩
/-- the streams that the claim lets the run draw from -/
abbrev lw_cs : List Choice := [Jvm.Choice.named "NaN.bits"]
theorem lw_bits : nanBits ∈ lw_cs := by first | decide | exact List.mem_cons_self | simp [lw_cs, nanBits]

-- ===== names (out of the printed names) =====
def RX0 : String := "BellChairs$Bells"
def TX0 : u_T := fun k => match k with
  | 0 => ("BellChairs$Bells", "round", "[I", true)
  | 1 => ("BellChairs$Bells", "tick", "[I", true)
  | 2 => ("BellChairs$Bells", "place", "[I", true)
  | 3 => ("BellChairs$Bells", "tone", "[I", true)
  | 4 => ("BellChairs$Bells", "player", "[I", true)
  | 5 => ("BellChairs$Bells", "next", "I", false)
  | _ => ("BellChairs$Bells", "kept", "I", false)
def tyX0 : Nat → FieldType := fun k => match k with
  | 0 => .array .int
  | 1 => .array .int
  | 2 => .array .int
  | 3 => .array .int
  | 4 => .array .int
  | 5 => .int
  | _ => .int
abbrev wsX00 : List Cond := u_ws RX0 TX0 7
theorem nmX0 : ∀ a, a < 7 → ∀ b, b < 7 → a ≠ b → (TX0 a).2.1 ≠ (TX0 b).2.1 := by decide +kernel
theorem tyX0_ok : ∀ k, k < 7 → parseFieldDescriptor (TX0 k).2.2.1 = some (tyX0 k) := by decide +kernel
abbrev cX0_init : ByteArray := prog_2_method_1_code
def yX0_init : MethodName := ⟨RX0, "<init>", "()V"⟩
abbrev cX0_copyFrom : ByteArray := prog_2_method_2_code
def yX0_copyFrom : MethodName := ⟨RX0, "copyFrom", "(LBellChairs$Bells;)V"⟩
abbrev cX0_ring : ByteArray := prog_2_method_3_code
def yX0_ring : MethodName := ⟨RX0, "ring", "(IIIII)V"⟩
abbrev cX0_rowOf : ByteArray := prog_2_method_4_code
def yX0_rowOf : MethodName := ⟨RX0, "rowOf", "(I)I"⟩
def RX1 : String := "BellChairs$Chairs"
def TX1 : u_T := fun k => match k with
  | 0 => ("BellChairs$Chairs", "tone", "[I", true)
  | 1 => ("BellChairs$Chairs", "sittings", "[I", true)
  | 2 => ("BellChairs$Chairs", "sitter", "[I", true)
  | _ => ("BellChairs$Chairs", "size", "I", false)
def tyX1 : Nat → FieldType := fun k => match k with
  | 0 => .array .int
  | 1 => .array .int
  | 2 => .array .int
  | _ => .int
abbrev wsX10 : List Cond := u_ws RX1 TX1 4
theorem nmX1 : ∀ a, a < 4 → ∀ b, b < 4 → a ≠ b → (TX1 a).2.1 ≠ (TX1 b).2.1 := by decide +kernel
theorem tyX1_ok : ∀ k, k < 4 → parseFieldDescriptor (TX1 k).2.2.1 = some (tyX1 k) := by decide +kernel
abbrev cX1_init : ByteArray := prog_3_method_1_code
def yX1_init : MethodName := ⟨RX1, "<init>", "()V"⟩
abbrev cX1_copyFrom : ByteArray := prog_3_method_2_code
def yX1_copyFrom : MethodName := ⟨RX1, "copyFrom", "(LBellChairs$Chairs;)V"⟩
abbrev cX1_has : ByteArray := prog_3_method_3_code
def yX1_has : MethodName := ⟨RX1, "has", "(I)Z"⟩
abbrev cX1_add : ByteArray := prog_3_method_4_code
def yX1_add : MethodName := ⟨RX1, "add", "(I)I"⟩
abbrev cX1_onFrom : ByteArray := prog_3_method_5_code
def yX1_onFrom : MethodName := ⟨RX1, "onFrom", "(II)I"⟩
abbrev cX1_forgetSitters : ByteArray := prog_3_method_6_code
def yX1_forgetSitters : MethodName := ⟨RX1, "forgetSitters", "()V"⟩
abbrev cX1_seat : ByteArray := prog_3_method_7_code
def yX1_seat : MethodName := ⟨RX1, "seat", "(II)V"⟩
abbrev cX1_leaveOnly : ByteArray := prog_3_method_8_code
def yX1_leaveOnly : MethodName := ⟨RX1, "leaveOnly", "(I)I"⟩
abbrev cX1_mostWorn : ByteArray := prog_3_method_9_code
def yX1_mostWorn : MethodName := ⟨RX1, "mostWorn", "()I"⟩
abbrev cX1_takeAway : ByteArray := prog_3_method_10_code
def yX1_takeAway : MethodName := ⟨RX1, "takeAway", "(I)V"⟩
def RX2 : String := "BellChairs$Game"
def TX2 : u_T := fun k => match k with
  | 0 => ("BellChairs$Game", "chairs", "LBellChairs$Chairs;", true)
  | 1 => ("BellChairs$Game", "players", "LBellChairs$Players;", true)
  | 2 => ("BellChairs$Game", "bells", "LBellChairs$Bells;", true)
  | 3 => ("BellChairs$Game", "phase", "I", false)
  | 4 => ("BellChairs$Game", "fewer", "I", false)
  | 5 => ("BellChairs$Game", "rounds", "I", false)
  | 6 => ("BellChairs$Game", "beats", "I", false)
  | 7 => ("BellChairs$Game", "ticks", "I", false)
  | 8 => ("BellChairs$Game", "taken", "I", false)
  | _ => ("BellChairs$Game", "outByRounds", "I", false)
def tyX2 : Nat → FieldType := fun k => match k with
  | 0 => .object "BellChairs$Chairs"
  | 1 => .object "BellChairs$Players"
  | 2 => .object "BellChairs$Bells"
  | 3 => .int
  | 4 => .int
  | 5 => .int
  | 6 => .int
  | 7 => .int
  | 8 => .int
  | _ => .int
abbrev wsX20 : List Cond := u_ws RX2 TX2 10
theorem nmX2 : ∀ a, a < 10 → ∀ b, b < 10 → a ≠ b → (TX2 a).2.1 ≠ (TX2 b).2.1 := by decide +kernel
theorem tyX2_ok : ∀ k, k < 10 → parseFieldDescriptor (TX2 k).2.2.1 = some (tyX2 k) := by decide +kernel
abbrev cX2_init : ByteArray := prog_4_method_1_code
def yX2_init : MethodName := ⟨RX2, "<init>", "()V"⟩
abbrev cX2_copyFrom : ByteArray := prog_4_method_2_code
def yX2_copyFrom : MethodName := ⟨RX2, "copyFrom", "(LBellChairs$Game;)V"⟩
abbrev cX2_addChair : ByteArray := prog_4_method_3_code
def yX2_addChair : MethodName := ⟨RX2, "addChair", "(I)I"⟩
abbrev cX2_addPlayer : ByteArray := prog_4_method_4_code
def yX2_addPlayer : MethodName := ⟨RX2, "addPlayer", "(II)I"⟩
abbrev cX2_retune : ByteArray := prog_4_method_5_code
def yX2_retune : MethodName := ⟨RX2, "retune", "(II)I"⟩
abbrev cX2_retrain : ByteArray := prog_4_method_6_code
def yX2_retrain : MethodName := ⟨RX2, "retrain", "(III)I"⟩
abbrev cX2_startMusic : ByteArray := prog_4_method_7_code
def yX2_startMusic : MethodName := ⟨RX2, "startMusic", "()I"⟩
abbrev cX2_walk : ByteArray := prog_4_method_8_code
def yX2_walk : MethodName := ⟨RX2, "walk", "(I)I"⟩
abbrev cX2_stopMusic : ByteArray := prog_4_method_9_code
def yX2_stopMusic : MethodName := ⟨RX2, "stopMusic", "(LBellChairs$Grope;)I"⟩
abbrev cX2_choose : ByteArray := prog_4_method_10_code
def yX2_choose : MethodName := ⟨RX2, "choose", "(II)I"⟩
abbrev cX2_perform : ByteArray := prog_4_method_11_code
def yX2_perform : MethodName := ⟨RX2, "perform", "(IIILBellChairs$Grope;)I"⟩
abbrev cX2_settlePlayers : ByteArray := prog_4_method_12_code
def yX2_settlePlayers : MethodName := ⟨RX2, "settlePlayers", "(LBellChairs$Grope;)V"⟩
abbrev cX2_settleChairs : ByteArray := prog_4_method_13_code
def yX2_settleChairs : MethodName := ⟨RX2, "settleChairs", "(LBellChairs$Grope;)V"⟩
abbrev cX2_goOn : ByteArray := prog_4_method_14_code
def yX2_goOn : MethodName := ⟨RX2, "goOn", "()V"⟩
def RX3 : String := "BellChairs$Grope"
def TX3 : u_T := fun k => match k with
  | 0 => ("BellChairs$Grope", "place", "[I", true)
  | 1 => ("BellChairs$Grope", "known", "[I", true)
  | 2 => ("BellChairs$Grope", "aim", "[I", true)
  | 3 => ("BellChairs$Grope", "far", "[I", true)
  | 4 => ("BellChairs$Grope", "seat", "[I", true)
  | 5 => ("BellChairs$Grope", "bumps", "[I", true)
  | 6 => ("BellChairs$Grope", "tick", "[I", true)
  | 7 => ("BellChairs$Grope", "sitter", "[I", true)
  | 8 => ("BellChairs$Grope", "sitTick", "[I", true)
  | 9 => ("BellChairs$Grope", "groping", "I", false)
  | 10 => ("BellChairs$Grope", "out", "I", false)
  | _ => ("BellChairs$Grope", "ticks", "I", false)
def tyX3 : Nat → FieldType := fun k => match k with
  | 0 => .array .int
  | 1 => .array .int
  | 2 => .array .int
  | 3 => .array .int
  | 4 => .array .int
  | 5 => .array .int
  | 6 => .array .int
  | 7 => .array .int
  | 8 => .array .int
  | 9 => .int
  | 10 => .int
  | _ => .int
abbrev wsX30 : List Cond := u_ws RX3 TX3 12
theorem nmX3 : ∀ a, a < 12 → ∀ b, b < 12 → a ≠ b → (TX3 a).2.1 ≠ (TX3 b).2.1 := by decide +kernel
theorem tyX3_ok : ∀ k, k < 12 → parseFieldDescriptor (TX3 k).2.2.1 = some (tyX3 k) := by decide +kernel
abbrev cX3_init : ByteArray := prog_5_method_1_code
def yX3_init : MethodName := ⟨RX3, "<init>", "()V"⟩
abbrev cX3_follow : ByteArray := prog_5_method_2_code
def yX3_follow : MethodName := ⟨RX3, "follow", "(LBellChairs$Chairs;LBellChairs$Players;I)V"⟩
abbrev cX3_begin : ByteArray := prog_5_method_3_code
def yX3_begin : MethodName := ⟨RX3, "begin", "(LBellChairs$Chairs;LBellChairs$Players;I)V"⟩
abbrev cX3_gropes : ByteArray := prog_5_method_4_code
def yX3_gropes : MethodName := ⟨RX3, "gropes", "(I)Z"⟩
abbrev cX3_sendOut : ByteArray := prog_5_method_5_code
def yX3_sendOut : MethodName := ⟨RX3, "sendOut", "(LBellChairs$Chairs;LBellChairs$Players;)V"⟩
abbrev cX3_takeAim : ByteArray := prog_5_method_6_code
def yX3_takeAim : MethodName := ⟨RX3, "takeAim", "(LBellChairs$Chairs;LBellChairs$Players;)V"⟩
abbrev cX3_sitDown : ByteArray := prog_5_method_7_code
def yX3_sitDown : MethodName := ⟨RX3, "sitDown", "(LBellChairs$Chairs;LBellChairs$Players;)V"⟩
abbrev cX3_nearest : ByteArray := prog_5_method_8_code
def yX3_nearest : MethodName := ⟨RX3, "nearest", "(LBellChairs$Players;I)I"⟩
abbrev cX3_bump : ByteArray := prog_5_method_9_code
def yX3_bump : MethodName := ⟨RX3, "bump", "(LBellChairs$Players;)V"⟩
abbrev cX3_ring : ByteArray := prog_5_method_10_code
def yX3_ring : MethodName := ⟨RX3, "ring", "(LBellChairs$Chairs;LBellChairs$Players;)V"⟩
abbrev cX3_settle : ByteArray := prog_5_method_11_code
def yX3_settle : MethodName := ⟨RX3, "settle", "(I)V"⟩
def RX4 : String := "BellChairs$History"
def TX4 : u_T := fun k => match k with
  | 0 => ("BellChairs$History", "states", "[LBellChairs$Game;", true)
  | 1 => ("BellChairs$History", "next", "I", false)
  | _ => ("BellChairs$History", "kept", "I", false)
def tyX4 : Nat → FieldType := fun k => match k with
  | 0 => .array (.object "BellChairs$Game")
  | 1 => .int
  | _ => .int
abbrev wsX40 : List Cond := u_ws RX4 TX4 3
theorem nmX4 : ∀ a, a < 3 → ∀ b, b < 3 → a ≠ b → (TX4 a).2.1 ≠ (TX4 b).2.1 := by decide +kernel
theorem tyX4_ok : ∀ k, k < 3 → parseFieldDescriptor (TX4 k).2.2.1 = some (tyX4 k) := by decide +kernel
abbrev cX4_init : ByteArray := prog_6_method_1_code
def yX4_init : MethodName := ⟨RX4, "<init>", "()V"⟩
abbrev cX4_prepare : ByteArray := prog_6_method_2_code
def yX4_prepare : MethodName := ⟨RX4, "prepare", "(LBellChairs$Game;)V"⟩
abbrev cX4_settle : ByteArray := prog_6_method_3_code
def yX4_settle : MethodName := ⟨RX4, "settle", "(I)I"⟩
abbrev cX4_goBack : ByteArray := prog_6_method_4_code
def yX4_goBack : MethodName := ⟨RX4, "goBack", "(LBellChairs$Game;)I"⟩
def RX5 : String := "BellChairs$Orders"
def TX5 : u_T := fun k => match k with
  | 0 => ("BellChairs$Orders", "trial", "LBellChairs$Game;", true)
  | 1 => ("BellChairs$Orders", "done", "I", false)
  | 2 => ("BellChairs$Orders", "position", "I", false)
  | 3 => ("BellChairs$Orders", "reason", "I", false)
  | 4 => ("BellChairs$Orders", "cause", "I", false)
  | 5 => ("BellChairs$Orders", "at", "I", false)
  | 6 => ("BellChairs$Orders", "kind", "I", false)
  | 7 => ("BellChairs$Orders", "first", "I", false)
  | _ => ("BellChairs$Orders", "second", "I", false)
def tyX5 : Nat → FieldType := fun k => match k with
  | 0 => .object "BellChairs$Game"
  | 1 => .int
  | 2 => .int
  | 3 => .int
  | 4 => .int
  | 5 => .int
  | 6 => .int
  | 7 => .int
  | _ => .int
abbrev wsX50 : List Cond := u_ws RX5 TX5 9
theorem nmX5 : ∀ a, a < 9 → ∀ b, b < 9 → a ≠ b → (TX5 a).2.1 ≠ (TX5 b).2.1 := by decide +kernel
theorem tyX5_ok : ∀ k, k < 9 → parseFieldDescriptor (TX5 k).2.2.1 = some (tyX5 k) := by decide +kernel
abbrev cX5_init : ByteArray := prog_7_method_1_code
def yX5_init : MethodName := ⟨RX5, "<init>", "()V"⟩
abbrev cX5_rehearse : ByteArray := prog_7_method_2_code
def yX5_rehearse : MethodName := ⟨RX5, "rehearse", "(LBellChairs$Text;LBellChairs$Game;LBellChairs$Grope;)V"⟩
abbrev cX5_judge : ByteArray := prog_7_method_3_code
def yX5_judge : MethodName := ⟨RX5, "judge", "(I)V"⟩
abbrev cX5_readOrder : ByteArray := prog_7_method_4_code
def yX5_readOrder : MethodName := ⟨RX5, "readOrder", "(LBellChairs$Text;)Z"⟩
abbrev cX5_passes : ByteArray := prog_7_method_5_code
def yX5_passes : MethodName := ⟨RX5, "passes", "(LBellChairs$Text;I)Z"⟩
abbrev cX5_readNumber : ByteArray := prog_7_method_6_code
def yX5_readNumber : MethodName := ⟨RX5, "readNumber", "(LBellChairs$Text;)I"⟩
def RX6 : String := "BellChairs$Players"
def TX6 : u_T := fun k => match k with
  | 0 => ("BellChairs$Players", "stride", "[I", true)
  | 1 => ("BellChairs$Players", "ear", "[I", true)
  | 2 => ("BellChairs$Players", "place", "[I", true)
  | 3 => ("BellChairs$Players", "sittings", "[I", true)
  | 4 => ("BellChairs$Players", "bumps", "[I", true)
  | 5 => ("BellChairs$Players", "steps", "[I", true)
  | 6 => ("BellChairs$Players", "outRound", "[I", true)
  | 7 => ("BellChairs$Players", "lastTick", "[I", true)
  | 8 => ("BellChairs$Players", "playing", "I", false)
  | _ => ("BellChairs$Players", "size", "I", false)
def tyX6 : Nat → FieldType := fun k => match k with
  | 0 => .array .int
  | 1 => .array .int
  | 2 => .array .int
  | 3 => .array .int
  | 4 => .array .int
  | 5 => .array .int
  | 6 => .array .int
  | 7 => .array .int
  | 8 => .int
  | _ => .int
abbrev wsX60 : List Cond := u_ws RX6 TX6 10
theorem nmX6 : ∀ a, a < 10 → ∀ b, b < 10 → a ≠ b → (TX6 a).2.1 ≠ (TX6 b).2.1 := by decide +kernel
theorem tyX6_ok : ∀ k, k < 10 → parseFieldDescriptor (TX6 k).2.2.1 = some (tyX6 k) := by decide +kernel
abbrev cX6_init : ByteArray := prog_8_method_1_code
def yX6_init : MethodName := ⟨RX6, "<init>", "()V"⟩
abbrev cX6_copyFrom : ByteArray := prog_8_method_2_code
def yX6_copyFrom : MethodName := ⟨RX6, "copyFrom", "(LBellChairs$Players;)V"⟩
abbrev cX6_has : ByteArray := prog_8_method_3_code
def yX6_has : MethodName := ⟨RX6, "has", "(I)Z"⟩
abbrev cX6_isPlaying : ByteArray := prog_8_method_4_code
def yX6_isPlaying : MethodName := ⟨RX6, "isPlaying", "(I)Z"⟩
abbrev cX6_hearsTone : ByteArray := prog_8_method_5_code
def yX6_hearsTone : MethodName := ⟨RX6, "hearsTone", "(II)Z"⟩
abbrev cX6_add : ByteArray := prog_8_method_6_code
def yX6_add : MethodName := ⟨RX6, "add", "(II)I"⟩
abbrev cX6_lineUp : ByteArray := prog_8_method_7_code
def yX6_lineUp : MethodName := ⟨RX6, "lineUp", "(LBellChairs$Chairs;)V"⟩
abbrev cX6_walk : ByteArray := prog_8_method_8_code
def yX6_walk : MethodName := ⟨RX6, "walk", "(LBellChairs$Chairs;I)V"⟩
abbrev cX6_leave : ByteArray := prog_8_method_9_code
def yX6_leave : MethodName := ⟨RX6, "leave", "(II)V"⟩
abbrev cX6_howManyPlay : ByteArray := prog_8_method_10_code
def yX6_howManyPlay : MethodName := ⟨RX6, "howManyPlay", "()I"⟩
abbrev cX6_firstPlaying : ByteArray := prog_8_method_11_code
def yX6_firstPlaying : MethodName := ⟨RX6, "firstPlaying", "()I"⟩
abbrev cX6_allSittings : ByteArray := prog_8_method_12_code
def yX6_allSittings : MethodName := ⟨RX6, "allSittings", "()I"⟩
abbrev cX6_allBumps : ByteArray := prog_8_method_13_code
def yX6_allBumps : MethodName := ⟨RX6, "allBumps", "()I"⟩
abbrev cX6_allSteps : ByteArray := prog_8_method_14_code
def yX6_allSteps : MethodName := ⟨RX6, "allSteps", "()I"⟩
abbrev cX6_sum : ByteArray := prog_8_method_15_code
def yX6_sum : MethodName := ⟨RX6, "sum", "([I)I"⟩
def RX7 : String := "BellChairs$Text"
def TX7 : u_T := fun k => match k with
  | 0 => ("BellChairs$Text", "signs", "[I", true)
  | _ => ("BellChairs$Text", "length", "I", false)
def tyX7 : Nat → FieldType := fun k => match k with
  | 0 => .array .int
  | _ => .int
abbrev wsX70 : List Cond := u_ws RX7 TX7 2
theorem nmX7 : ∀ a, a < 2 → ∀ b, b < 2 → a ≠ b → (TX7 a).2.1 ≠ (TX7 b).2.1 := by decide +kernel
theorem tyX7_ok : ∀ k, k < 2 → parseFieldDescriptor (TX7 k).2.2.1 = some (tyX7 k) := by decide +kernel
abbrev cX7_init : ByteArray := prog_9_method_1_code
def yX7_init : MethodName := ⟨RX7, "<init>", "()V"⟩
abbrev cX7_append : ByteArray := prog_9_method_2_code
def yX7_append : MethodName := ⟨RX7, "append", "(I)I"⟩
abbrev cX7_clear : ByteArray := prog_9_method_3_code
def yX7_clear : MethodName := ⟨RX7, "clear", "()I"⟩
abbrev cX7_signAt : ByteArray := prog_9_method_4_code
def yX7_signAt : MethodName := ⟨RX7, "signAt", "(I)I"⟩
def RX8 : String := "BellChairs"
def TX8 : u_T := fun k => match k with
  | 0 => ("BellChairs", "game", "LBellChairs$Game;", true)
  | 1 => ("BellChairs", "history", "LBellChairs$History;", true)
  | 2 => ("BellChairs", "grope", "LBellChairs$Grope;", true)
  | 3 => ("BellChairs", "text", "LBellChairs$Text;", true)
  | _ => ("BellChairs", "orders", "LBellChairs$Orders;", true)
def tyX8 : Nat → FieldType := fun k => match k with
  | 0 => .object "BellChairs$Game"
  | 1 => .object "BellChairs$History"
  | 2 => .object "BellChairs$Grope"
  | 3 => .object "BellChairs$Text"
  | _ => .object "BellChairs$Orders"
abbrev wsX80 : List Cond := u_ws RX8 TX8 5
theorem nmX8 : ∀ a, a < 5 → ∀ b, b < 5 → a ≠ b → (TX8 a).2.1 ≠ (TX8 b).2.1 := by decide +kernel
theorem tyX8_ok : ∀ k, k < 5 → parseFieldDescriptor (TX8 k).2.2.1 = some (tyX8 k) := by decide +kernel
abbrev cX8_init : ByteArray := prog_1_method_1_code
def yX8_init : MethodName := ⟨RX8, "<init>", "()V"⟩
abbrev cX8_chair : ByteArray := prog_1_method_2_code
def yX8_chair : MethodName := ⟨RX8, "chair", "(I)I"⟩
abbrev cX8_player : ByteArray := prog_1_method_3_code
def yX8_player : MethodName := ⟨RX8, "player", "(II)I"⟩
abbrev cX8_tune : ByteArray := prog_1_method_4_code
def yX8_tune : MethodName := ⟨RX8, "tune", "(II)I"⟩
abbrev cX8_train : ByteArray := prog_1_method_5_code
def yX8_train : MethodName := ⟨RX8, "train", "(III)I"⟩
abbrev cX8_start : ByteArray := prog_1_method_6_code
def yX8_start : MethodName := ⟨RX8, "start", "()I"⟩
abbrev cX8_beat : ByteArray := prog_1_method_7_code
def yX8_beat : MethodName := ⟨RX8, "beat", "(I)I"⟩
abbrev cX8_stop : ByteArray := prog_1_method_8_code
def yX8_stop : MethodName := ⟨RX8, "stop", "()I"⟩
abbrev cX8_set : ByteArray := prog_1_method_9_code
def yX8_set : MethodName := ⟨RX8, "set", "(II)I"⟩
abbrev cX8_chairOf : ByteArray := prog_1_method_10_code
def yX8_chairOf : MethodName := ⟨RX8, "chairOf", "(II)I"⟩
abbrev cX8_playerOf : ByteArray := prog_1_method_11_code
def yX8_playerOf : MethodName := ⟨RX8, "playerOf", "(II)I"⟩
abbrev cX8_hears : ByteArray := prog_1_method_12_code
def yX8_hears : MethodName := ⟨RX8, "hears", "(II)I"⟩
abbrev cX8_bell : ByteArray := prog_1_method_13_code
def yX8_bell : MethodName := ⟨RX8, "bell", "(II)I"⟩
abbrev cX8_ifStopped : ByteArray := prog_1_method_14_code
def yX8_ifStopped : MethodName := ⟨RX8, "ifStopped", "(II)I"⟩
abbrev cX8_outs : ByteArray := prog_1_method_15_code
def yX8_outs : MethodName := ⟨RX8, "outs", "()I"⟩
abbrev cX8_safeIn : ByteArray := prog_1_method_16_code
def yX8_safeIn : MethodName := ⟨RX8, "safeIn", "(I)I"⟩
abbrev cX8_mean : ByteArray := prog_1_method_17_code
def yX8_mean : MethodName := ⟨RX8, "mean", "()I"⟩
abbrev cX8_count : ByteArray := prog_1_method_18_code
def yX8_count : MethodName := ⟨RX8, "count", "(I)I"⟩
abbrev cX8_undo : ByteArray := prog_1_method_19_code
def yX8_undo : MethodName := ⟨RX8, "undo", "()I"⟩
abbrev cX8_type : ByteArray := prog_1_method_20_code
def yX8_type : MethodName := ⟨RX8, "type", "(I)I"⟩
abbrev cX8_clearText : ByteArray := prog_1_method_21_code
def yX8_clearText : MethodName := ⟨RX8, "clearText", "()I"⟩
abbrev cX8_fault : ByteArray := prog_1_method_22_code
def yX8_fault : MethodName := ⟨RX8, "fault", "(I)I"⟩
abbrev cX8_play : ByteArray := prog_1_method_23_code
def yX8_play : MethodName := ⟨RX8, "play", "()I"⟩
abbrev cX8_countBesidesTheGame : ByteArray := prog_1_method_24_code
def yX8_countBesidesTheGame : MethodName := ⟨RX8, "countBesidesTheGame", "(I)I"⟩
abbrev cX8_foundOrNot : ByteArray := prog_1_method_25_code
def yX8_foundOrNot : MethodName := ⟨RX8, "foundOrNot", "(ZI)I"⟩
abbrev cX8_isWithin : ByteArray := prog_1_method_26_code
def yX8_isWithin : MethodName := ⟨RX8, "isWithin", "(III)Z"⟩
abbrev cX8_bitsOf : ByteArray := prog_1_method_27_code
def yX8_bitsOf : MethodName := ⟨RX8, "bitsOf", "(F)I"⟩
def RX9 : String := "BellChairsModel"
def TX9 : u_T := fun k => match k with
  | 0 => ("BellChairsModel", "s", "[I", true)
  | 1 => ("BellChairsModel", "aside", "[I", true)
  | 2 => ("BellChairsModel", "before", "[I", true)
  | 3 => ("BellChairsModel", "past", "[I", true)
  | 4 => ("BellChairsModel", "known", "I", false)
  | 5 => ("BellChairsModel", "text", "[I", true)
  | 6 => ("BellChairsModel", "length", "I", false)
  | 7 => ("BellChairsModel", "knows", "[I", true)
  | 8 => ("BellChairsModel", "seat", "[I", true)
  | 9 => ("BellChairsModel", "aim", "[I", true)
  | 10 => ("BellChairsModel", "far", "[I", true)
  | 11 => ("BellChairsModel", "sitter", "[I", true)
  | 12 => ("BellChairsModel", "outSet", "I", false)
  | 13 => ("BellChairsModel", "getter", "[I", true)
  | 14 => ("BellChairsModel", "spot", "I", false)
  | 15 => ("BellChairsModel", "begin", "I", false)
  | 16 => ("BellChairsModel", "isForm", "Z", false)
  | 17 => ("BellChairsModel", "letter", "I", false)
  | 18 => ("BellChairsModel", "first", "I", false)
  | 19 => ("BellChairsModel", "second", "I", false)
  | 20 => ("BellChairsModel", "reason", "I", false)
  | _ => ("BellChairsModel", "cause", "I", false)
def tyX9 : Nat → FieldType := fun k => match k with
  | 0 => .array .int
  | 1 => .array .int
  | 2 => .array .int
  | 3 => .array .int
  | 4 => .int
  | 5 => .array .int
  | 6 => .int
  | 7 => .array .int
  | 8 => .array .int
  | 9 => .array .int
  | 10 => .array .int
  | 11 => .array .int
  | 12 => .int
  | 13 => .array .int
  | 14 => .int
  | 15 => .int
  | 16 => .boolean
  | 17 => .int
  | 18 => .int
  | 19 => .int
  | 20 => .int
  | _ => .int
abbrev wsX90 : List Cond := u_ws RX9 TX9 22
theorem nmX9 : ∀ a, a < 22 → ∀ b, b < 22 → a ≠ b → (TX9 a).2.1 ≠ (TX9 b).2.1 := by decide +kernel
theorem tyX9_ok : ∀ k, k < 22 → parseFieldDescriptor (TX9 k).2.2.1 = some (tyX9 k) := by decide +kernel
abbrev cX9_init : ByteArray := prog_11_method_1_code
def yX9_init : MethodName := ⟨RX9, "<init>", "()V"⟩
abbrev cX9_in : ByteArray := prog_11_method_3_code
def yX9_in : MethodName := ⟨RX9, "in", "(III)Z"⟩
abbrev cX9_copies : ByteArray := prog_11_method_4_code
def yX9_copies : MethodName := ⟨RX9, "copies", "([II[II)V"⟩
abbrev cX9_records : ByteArray := prog_11_method_5_code
def yX9_records : MethodName := ⟨RX9, "records", "()V"⟩
abbrev cX9_isChair : ByteArray := prog_11_method_6_code
def yX9_isChair : MethodName := ⟨RX9, "isChair", "(I)Z"⟩
abbrev cX9_isPlayer : ByteArray := prog_11_method_7_code
def yX9_isPlayer : MethodName := ⟨RX9, "isPlayer", "(I)Z"⟩
abbrev cX9_ofChair : ByteArray := prog_11_method_8_code
def yX9_ofChair : MethodName := ⟨RX9, "ofChair", "(II)I"⟩
abbrev cX9_laysChair : ByteArray := prog_11_method_9_code
def yX9_laysChair : MethodName := ⟨RX9, "laysChair", "(III)V"⟩
abbrev cX9_of : ByteArray := prog_11_method_10_code
def yX9_of : MethodName := ⟨RX9, "of", "(II)I"⟩
abbrev cX9_lays : ByteArray := prog_11_method_11_code
def yX9_lays : MethodName := ⟨RX9, "lays", "(III)V"⟩
abbrev cX9_isIn : ByteArray := prog_11_method_12_code
def yX9_isIn : MethodName := ⟨RX9, "isIn", "(I)Z"⟩
abbrev cX9_inPlay : ByteArray := prog_11_method_13_code
def yX9_inPlay : MethodName := ⟨RX9, "inPlay", "()I"⟩
abbrev cX9_doesHear : ByteArray := prog_11_method_14_code
def yX9_doesHear : MethodName := ⟨RX9, "doesHear", "(II)Z"⟩
abbrev cX9_getsOut : ByteArray := prog_11_method_15_code
def yX9_getsOut : MethodName := ⟨RX9, "getsOut", "(II)V"⟩
abbrev cX9_aims : ByteArray := prog_11_method_16_code
def yX9_aims : MethodName := ⟨RX9, "aims", "(I)V"⟩
abbrev cX9_gropes : ByteArray := prog_11_method_17_code
def yX9_gropes : MethodName := ⟨RX9, "gropes", "(I)Z"⟩
abbrev cX9_getterOf : ByteArray := prog_11_method_18_code
def yX9_getterOf : MethodName := ⟨RX9, "getterOf", "(I)I"⟩
abbrev cX9_sitsDown : ByteArray := prog_11_method_19_code
def yX9_sitsDown : MethodName := ⟨RX9, "sitsDown", "(III)V"⟩
abbrev cX9_bumps : ByteArray := prog_11_method_20_code
def yX9_bumps : MethodName := ⟨RX9, "bumps", "(I)V"⟩
abbrev cX9_rings : ByteArray := prog_11_method_21_code
def yX9_rings : MethodName := ⟨RX9, "rings", "(II)V"⟩
abbrev cX9_ticks : ByteArray := prog_11_method_22_code
def yX9_ticks : MethodName := ⟨RX9, "ticks", "(I)Z"⟩
abbrev cX9_gropesAll : ByteArray := prog_11_method_23_code
def yX9_gropesAll : MethodName := ⟨RX9, "gropesAll", "()V"⟩
abbrev cX9_takesChair : ByteArray := prog_11_method_24_code
def yX9_takesChair : MethodName := ⟨RX9, "takesChair", "()V"⟩
abbrev cX9_goStop : ByteArray := prog_11_method_25_code
def yX9_goStop : MethodName := ⟨RX9, "goStop", "()I"⟩
abbrev cX9_goChair : ByteArray := prog_11_method_26_code
def yX9_goChair : MethodName := ⟨RX9, "goChair", "(I)I"⟩
abbrev cX9_goPlayer : ByteArray := prog_11_method_27_code
def yX9_goPlayer : MethodName := ⟨RX9, "goPlayer", "(II)I"⟩
abbrev cX9_goStart : ByteArray := prog_11_method_28_code
def yX9_goStart : MethodName := ⟨RX9, "goStart", "()I"⟩
abbrev cX9_goBeat : ByteArray := prog_11_method_29_code
def yX9_goBeat : MethodName := ⟨RX9, "goBeat", "(I)I"⟩
abbrev cX9_errorChair : ByteArray := prog_11_method_30_code
def yX9_errorChair : MethodName := ⟨RX9, "errorChair", "(I)I"⟩
abbrev cX9_errorPlayer : ByteArray := prog_11_method_31_code
def yX9_errorPlayer : MethodName := ⟨RX9, "errorPlayer", "(II)I"⟩
abbrev cX9_errorStart : ByteArray := prog_11_method_32_code
def yX9_errorStart : MethodName := ⟨RX9, "errorStart", "()I"⟩
abbrev cX9_errorBeat : ByteArray := prog_11_method_33_code
def yX9_errorBeat : MethodName := ⟨RX9, "errorBeat", "(I)I"⟩
abbrev cX9_chair : ByteArray := prog_11_method_34_code
def yX9_chair : MethodName := ⟨RX9, "chair", "(I)I"⟩
abbrev cX9_player : ByteArray := prog_11_method_35_code
def yX9_player : MethodName := ⟨RX9, "player", "(II)I"⟩
abbrev cX9_tune : ByteArray := prog_11_method_36_code
def yX9_tune : MethodName := ⟨RX9, "tune", "(II)I"⟩
abbrev cX9_train : ByteArray := prog_11_method_37_code
def yX9_train : MethodName := ⟨RX9, "train", "(III)I"⟩
abbrev cX9_start : ByteArray := prog_11_method_38_code
def yX9_start : MethodName := ⟨RX9, "start", "()I"⟩
abbrev cX9_beat : ByteArray := prog_11_method_39_code
def yX9_beat : MethodName := ⟨RX9, "beat", "(I)I"⟩
abbrev cX9_stop : ByteArray := prog_11_method_40_code
def yX9_stop : MethodName := ⟨RX9, "stop", "()I"⟩
abbrev cX9_set : ByteArray := prog_11_method_41_code
def yX9_set : MethodName := ⟨RX9, "set", "(II)I"⟩
abbrev cX9_undo : ByteArray := prog_11_method_42_code
def yX9_undo : MethodName := ⟨RX9, "undo", "()I"⟩
abbrev cX9_chairOf : ByteArray := prog_11_method_43_code
def yX9_chairOf : MethodName := ⟨RX9, "chairOf", "(II)I"⟩
abbrev cX9_playerOf : ByteArray := prog_11_method_44_code
def yX9_playerOf : MethodName := ⟨RX9, "playerOf", "(II)I"⟩
abbrev cX9_hears : ByteArray := prog_11_method_45_code
def yX9_hears : MethodName := ⟨RX9, "hears", "(II)I"⟩
abbrev cX9_bell : ByteArray := prog_11_method_46_code
def yX9_bell : MethodName := ⟨RX9, "bell", "(II)I"⟩
abbrev cX9_ifStoppedBy : ByteArray := prog_11_method_47_code
def yX9_ifStoppedBy : MethodName := ⟨RX9, "ifStoppedBy", "(II)I"⟩
abbrev cX9_ifStopped : ByteArray := prog_11_method_48_code
def yX9_ifStopped : MethodName := ⟨RX9, "ifStopped", "(II)I"⟩
abbrev cX9_outs : ByteArray := prog_11_method_49_code
def yX9_outs : MethodName := ⟨RX9, "outs", "()I"⟩
abbrev cX9_safeIn : ByteArray := prog_11_method_50_code
def yX9_safeIn : MethodName := ⟨RX9, "safeIn", "(I)I"⟩
abbrev cX9_mean : ByteArray := prog_11_method_51_code
def yX9_mean : MethodName := ⟨RX9, "mean", "()I"⟩
abbrev cX9_inSet : ByteArray := prog_11_method_52_code
def yX9_inSet : MethodName := ⟨RX9, "inSet", "()I"⟩
abbrev cX9_onlyOne : ByteArray := prog_11_method_53_code
def yX9_onlyOne : MethodName := ⟨RX9, "onlyOne", "()I"⟩
abbrev cX9_count : ByteArray := prog_11_method_54_code
def yX9_count : MethodName := ⟨RX9, "count", "(I)I"⟩
abbrev cX9_type : ByteArray := prog_11_method_55_code
def yX9_type : MethodName := ⟨RX9, "type", "(I)I"⟩
abbrev cX9_clearText : ByteArray := prog_11_method_56_code
def yX9_clearText : MethodName := ⟨RX9, "clearText", "()I"⟩
abbrev cX9_here : ByteArray := prog_11_method_57_code
def yX9_here : MethodName := ⟨RX9, "here", "()I"⟩
abbrev cX9_takes : ByteArray := prog_11_method_58_code
def yX9_takes : MethodName := ⟨RX9, "takes", "(Z)V"⟩
abbrev cX9_takesNumber : ByteArray := prog_11_method_59_code
def yX9_takesNumber : MethodName := ⟨RX9, "takesNumber", "()I"⟩
abbrev cX9_takesOrder : ByteArray := prog_11_method_60_code
def yX9_takesOrder : MethodName := ⟨RX9, "takesOrder", "()V"⟩
abbrev cX9_errorOfOrder : ByteArray := prog_11_method_61_code
def yX9_errorOfOrder : MethodName := ⟨RX9, "errorOfOrder", "()I"⟩
abbrev cX9_doesOrder : ByteArray := prog_11_method_62_code
def yX9_doesOrder : MethodName := ⟨RX9, "doesOrder", "()I"⟩
abbrev cX9_doesAll : ByteArray := prog_11_method_63_code
def yX9_doesAll : MethodName := ⟨RX9, "doesAll", "()I"⟩
abbrev cX9_fault : ByteArray := prog_11_method_64_code
def yX9_fault : MethodName := ⟨RX9, "fault", "(I)I"⟩
abbrev cX9_play : ByteArray := prog_11_method_65_code
def yX9_play : MethodName := ⟨RX9, "play", "()I"⟩
def RJxf58ca : String := "java/lang/Float"
abbrev cJxf58ca_isNaN_12338 : ByteArray := prog_12_method_6_code
def yJxf58ca_isNaN_12338 : MethodName := ⟨RJxf58ca, "isNaN", "(F)Z"⟩
abbrev cJxf58ca_floatToIntBits_5c35a : ByteArray := prog_12_method_24_code
def yJxf58ca_floatToIntBits_5c35a : MethodName := ⟨RJxf58ca, "floatToIntBits", "(F)I"⟩
def RJ6 : String := "java/lang/Integer"
abbrev cJ6_bitCount_0f7a4 : ByteArray := prog_13_method_49_code
def yJ6_bitCount_0f7a4 : MethodName := ⟨RJ6, "bitCount", "(I)I"⟩
def RJ9 : String := "java/lang/Math"
abbrev cJ9_max_7cf53 : ByteArray := prog_14_method_65_code
def yJ9_max_7cf53 : MethodName := ⟨RJ9, "max", "(II)I"⟩
abbrev cJ9_min_7cf53 : ByteArray := prog_14_method_69_code
def yJ9_min_7cf53 : MethodName := ⟨RJ9, "min", "(II)I"⟩
def RJ10 : String := "java/lang/System"
def RL : String := "BellChairsLaw"
abbrev cL_law : ByteArray := code
abbrev vwCl : List vw_C := [(RX0, TX0, 7), (RX1, TX1, 4), (RX2, TX2, 10), (RX3, TX3, 12), (RX4, TX4, 3), (RX5, TX5, 9), (RX6, TX6, 10), (RX7, TX7, 2), (RX8, TX8, 5), (RX9, TX9, 22)]
-- ===== code lists: (pc, instruction, length, resolved operand, second operand) =====
abbrev xK : Type := List (Nat × Jvm.ClassFile.Instr × Nat × Nat × Nat)
/-- owner number, is a constructor, result, locals, code -/
abbrev xM : Type := Nat × Bool × Option FieldType × Nat × xK
def x_own : Nat → String := fun k => match k with
  | 0 => RX0
  | 1 => RX1
  | 2 => RX2
  | 3 => RX3
  | 4 => RX4
  | 5 => RX5
  | 6 => RX6
  | 7 => RX7
  | 8 => RX8
  | 9 => RX9
  | 10 => RJxf58ca
  | 11 => RJ6
  | 12 => RJ9
  | _ => RL
def k_Bells_init : xK := [(0, .aload_n 0, 1, 0, 0), (1, .invokespecial 3, 3, 1000, 0), (4, .aload_n 0, 1, 0, 0), (5, .bipush 12, 2, 3, 0), (7, .newarray .int, 2, 0, 0), (9, .putfield 9, 3, 0, 0), 
  (12, .aload_n 0, 1, 0, 0), (13, .bipush 12, 2, 3, 0), (15, .newarray .int, 2, 0, 0), (17, .putfield 15, 3, 0, 1), (20, .aload_n 0, 1, 0, 0), (21, .bipush 12, 2, 3, 0), (23, .newarray .int, 2, 0, 0), 
  (25, .putfield 18, 3, 0, 2), (28, .aload_n 0, 1, 0, 0), (29, .bipush 12, 2, 3, 0), (31, .newarray .int, 2, 0, 0), (33, .putfield 21, 3, 0, 3), (36, .aload_n 0, 1, 0, 0), (37, .bipush 12, 2, 3, 0), 
  (39, .newarray .int, 2, 0, 0), (41, .putfield 24, 3, 0, 4), (44, .return_, 1, 0, 0)]
def m_Bells_init : xM := (0, true, none, 1, k_Bells_init)
abbrev i_Bells_init : Nat := 0
def k_Bells_copyFrom : xK := [(0, .aload_n 1, 1, 0, 0), (1, .getfield 9, 3, 0, 0), (4, .iconst 0, 1, 0, 0), (5, .aload_n 0, 1, 0, 0), (6, .getfield 9, 3, 0, 0), (9, .iconst 0, 1, 0, 0), 
  (10, .bipush 12, 2, 3, 0), (12, .invokestatic 27, 3, 1001, 0), (15, .aload_n 1, 1, 0, 0), (16, .getfield 15, 3, 0, 1), (19, .iconst 0, 1, 0, 0), (20, .aload_n 0, 1, 0, 0), (21, .getfield 15, 3, 0, 1), 
  (24, .iconst 0, 1, 0, 0), (25, .bipush 12, 2, 3, 0), (27, .invokestatic 27, 3, 1001, 0), (30, .aload_n 1, 1, 0, 0), (31, .getfield 18, 3, 0, 2), (34, .iconst 0, 1, 0, 0), (35, .aload_n 0, 1, 0, 0), 
  (36, .getfield 18, 3, 0, 2), (39, .iconst 0, 1, 0, 0), (40, .bipush 12, 2, 3, 0), (42, .invokestatic 27, 3, 1001, 0), (45, .aload_n 1, 1, 0, 0), (46, .getfield 21, 3, 0, 3), (49, .iconst 0, 1, 0, 0), 
  (50, .aload_n 0, 1, 0, 0), (51, .getfield 21, 3, 0, 3), (54, .iconst 0, 1, 0, 0), (55, .bipush 12, 2, 3, 0), (57, .invokestatic 27, 3, 1001, 0), (60, .aload_n 1, 1, 0, 0), (61, .getfield 24, 3, 0, 4), 
  (64, .iconst 0, 1, 0, 0), (65, .aload_n 0, 1, 0, 0), (66, .getfield 24, 3, 0, 4), (69, .iconst 0, 1, 0, 0), (70, .bipush 12, 2, 3, 0), (72, .invokestatic 27, 3, 1001, 0), (75, .aload_n 0, 1, 0, 0), 
  (76, .aload_n 1, 1, 0, 0), (77, .getfield 33, 3, 0, 5), (80, .putfield 33, 3, 0, 5), (83, .aload_n 0, 1, 0, 0), (84, .aload_n 1, 1, 0, 0), (85, .getfield 37, 3, 0, 6), (88, .putfield 37, 3, 0, 6), 
  (91, .return_, 1, 0, 0)]
def m_Bells_copyFrom : xM := (0, false, none, 2, k_Bells_copyFrom)
abbrev i_Bells_copyFrom : Nat := 1
def k_Bells_ring : xK := [(0, .aload_n 0, 1, 0, 0), (1, .getfield 9, 3, 0, 0), (4, .aload_n 0, 1, 0, 0), (5, .getfield 33, 3, 0, 5), (8, .iload_n 1, 1, 0, 0), (9, .iastore, 1, 0, 0), 
  (10, .aload_n 0, 1, 0, 0), (11, .getfield 15, 3, 0, 1), (14, .aload_n 0, 1, 0, 0), (15, .getfield 33, 3, 0, 5), (18, .iload_n 2, 1, 0, 0), (19, .iastore, 1, 0, 0), (20, .aload_n 0, 1, 0, 0), 
  (21, .getfield 18, 3, 0, 2), (24, .aload_n 0, 1, 0, 0), (25, .getfield 33, 3, 0, 5), (28, .iload_n 3, 1, 0, 0), (29, .iastore, 1, 0, 0), (30, .aload_n 0, 1, 0, 0), (31, .getfield 21, 3, 0, 3), 
  (34, .aload_n 0, 1, 0, 0), (35, .getfield 33, 3, 0, 5), (38, .iload 4, 2, 0, 0), (40, .iastore, 1, 0, 0), (41, .aload_n 0, 1, 0, 0), (42, .getfield 24, 3, 0, 4), (45, .aload_n 0, 1, 0, 0), 
  (46, .getfield 33, 3, 0, 5), (49, .iload 5, 2, 0, 0), (51, .iastore, 1, 0, 0), (52, .aload_n 0, 1, 0, 0), (53, .aload_n 0, 1, 0, 0), (54, .getfield 33, 3, 0, 5), (57, .iconst 1, 1, 1, 0), 
  (58, .iadd, 1, 0, 0), (59, .bipush 12, 2, 3, 0), (61, .irem, 1, 0, 0), (62, .putfield 33, 3, 0, 5), (65, .aload_n 0, 1, 0, 0), (66, .aload_n 0, 1, 0, 0), (67, .getfield 37, 3, 0, 6), 
  (70, .iconst 1, 1, 1, 0), (71, .iadd, 1, 0, 0), (72, .bipush 12, 2, 3, 0), (74, .invokestatic 40, 3, 163, 2), (77, .putfield 37, 3, 0, 6), (80, .return_, 1, 0, 0)]
def m_Bells_ring : xM := (0, false, none, 6, k_Bells_ring)
abbrev i_Bells_ring : Nat := 2
def k_Bells_rowOf : xK := [(0, .aload_n 0, 1, 0, 0), (1, .getfield 33, 3, 0, 5), (4, .bipush 12, 2, 3, 0), (6, .iadd, 1, 0, 0), (7, .iconst 1, 1, 1, 0), (8, .isub, 1, 0, 0), (9, .iload_n 1, 1, 0, 0), 
  (10, .isub, 1, 0, 0), (11, .bipush 12, 2, 3, 0), (13, .irem, 1, 0, 0), (14, .ireturn, 1, 0, 0)]
def m_Bells_rowOf : xM := (0, false, (some .int), 2, k_Bells_rowOf)
abbrev i_Bells_rowOf : Nat := 3
def k_Chairs_init : xK := [(0, .aload_n 0, 1, 0, 0), (1, .invokespecial 3, 3, 1000, 0), (4, .aload_n 0, 1, 0, 0), (5, .bipush 16, 2, 6, 0), (7, .newarray .int, 2, 0, 0), (9, .putfield 9, 3, 1, 0), 
  (12, .aload_n 0, 1, 0, 0), (13, .bipush 16, 2, 6, 0), (15, .newarray .int, 2, 0, 0), (17, .putfield 15, 3, 1, 1), (20, .aload_n 0, 1, 0, 0), (21, .bipush 16, 2, 6, 0), (23, .newarray .int, 2, 0, 0), 
  (25, .putfield 18, 3, 1, 2), (28, .return_, 1, 0, 0)]
def m_Chairs_init : xM := (1, true, none, 1, k_Chairs_init)
abbrev i_Chairs_init : Nat := 4
def k_Chairs_copyFrom : xK := [(0, .aload_n 1, 1, 0, 0), (1, .getfield 9, 3, 1, 0), (4, .iconst 0, 1, 0, 0), (5, .aload_n 0, 1, 0, 0), (6, .getfield 9, 3, 1, 0), (9, .iconst 0, 1, 0, 0), 
  (10, .bipush 16, 2, 6, 0), (12, .invokestatic 21, 3, 1001, 0), (15, .aload_n 1, 1, 0, 0), (16, .getfield 15, 3, 1, 1), (19, .iconst 0, 1, 0, 0), (20, .aload_n 0, 1, 0, 0), (21, .getfield 15, 3, 1, 1), 
  (24, .iconst 0, 1, 0, 0), (25, .bipush 16, 2, 6, 0), (27, .invokestatic 21, 3, 1001, 0), (30, .aload_n 1, 1, 0, 0), (31, .getfield 18, 3, 1, 2), (34, .iconst 0, 1, 0, 0), (35, .aload_n 0, 1, 0, 0), 
  (36, .getfield 18, 3, 1, 2), (39, .iconst 0, 1, 0, 0), (40, .bipush 16, 2, 6, 0), (42, .invokestatic 21, 3, 1001, 0), (45, .aload_n 0, 1, 0, 0), (46, .aload_n 1, 1, 0, 0), (47, .getfield 27, 3, 1, 3), 
  (50, .putfield 27, 3, 1, 3), (53, .return_, 1, 0, 0)]
def m_Chairs_copyFrom : xM := (1, false, none, 2, k_Chairs_copyFrom)
abbrev i_Chairs_copyFrom : Nat := 5
def k_Chairs_has : xK := [(0, .iload_n 1, 1, 0, 0), (1, .ifCond .lt 15, 3, 16, 0), (4, .iload_n 1, 1, 0, 0), (5, .aload_n 0, 1, 0, 0), (6, .getfield 27, 3, 1, 3), (9, .if_icmp .ge 7, 3, 16, 0), 
  (12, .iconst 1, 1, 1, 0), (13, .goto 4, 3, 17, 0), (16, .iconst 0, 1, 0, 0), (17, .ireturn, 1, 0, 0)]
def m_Chairs_has : xM := (1, false, (some .boolean), 2, k_Chairs_has)
abbrev i_Chairs_has : Nat := 6
def k_Chairs_add : xK := [(0, .aload_n 0, 1, 0, 0), (1, .getfield 27, 3, 1, 3), (4, .bipush 16, 2, 6, 0), (6, .if_icmp .lt 6, 3, 12, 0), (9, .ldc 31, 2, 47, 0), (11, .ireturn, 1, 0, 0), 
  (12, .aload_n 0, 1, 0, 0), (13, .getfield 9, 3, 1, 0), (16, .aload_n 0, 1, 0, 0), (17, .getfield 27, 3, 1, 3), (20, .iload_n 1, 1, 0, 0), (21, .iastore, 1, 0, 0), (22, .aload_n 0, 1, 0, 0), 
  (23, .getfield 15, 3, 1, 1), (26, .aload_n 0, 1, 0, 0), (27, .getfield 27, 3, 1, 3), (30, .iconst 0, 1, 0, 0), (31, .iastore, 1, 0, 0), (32, .aload_n 0, 1, 0, 0), (33, .getfield 18, 3, 1, 2), 
  (36, .aload_n 0, 1, 0, 0), (37, .getfield 27, 3, 1, 3), (40, .iconst (-1), 1, 4, 0), (41, .iastore, 1, 0, 0), (42, .aload_n 0, 1, 0, 0), (43, .dup, 1, 0, 0), (44, .getfield 27, 3, 1, 3), 
  (47, .iconst 1, 1, 1, 0), (48, .iadd, 1, 0, 0), (49, .putfield 27, 3, 1, 3), (52, .aload_n 0, 1, 0, 0), (53, .getfield 27, 3, 1, 3), (56, .iconst 1, 1, 1, 0), (57, .isub, 1, 0, 0), 
  (58, .ireturn, 1, 0, 0)]
def m_Chairs_add : xM := (1, false, (some .int), 2, k_Chairs_add)
abbrev i_Chairs_add : Nat := 7
def k_Chairs_onFrom : xK := [(0, .aload_n 0, 1, 0, 0), (1, .getfield 27, 3, 1, 3), (4, .iconst 1, 1, 1, 0), (5, .if_icmp .ge 7, 3, 12, 0), (8, .iconst 0, 1, 0, 0), (9, .goto 11, 3, 20, 0), 
  (12, .iload_n 1, 1, 0, 0), (13, .iload_n 2, 1, 0, 0), (14, .iadd, 1, 0, 0), (15, .aload_n 0, 1, 0, 0), (16, .getfield 27, 3, 1, 3), (19, .irem, 1, 0, 0), (20, .ireturn, 1, 0, 0)]
def m_Chairs_onFrom : xM := (1, false, (some .int), 3, k_Chairs_onFrom)
abbrev i_Chairs_onFrom : Nat := 8
def k_Chairs_forgetSitters : xK := [(0, .iconst 0, 1, 0, 0), (1, .istore_n 1, 1, 0, 0), (2, .iload_n 1, 1, 0, 0), (3, .aload_n 0, 1, 0, 0), (4, .getfield 27, 3, 1, 3), (7, .if_icmp .ge 16, 3, 23, 0), 
  (10, .aload_n 0, 1, 0, 0), (11, .getfield 18, 3, 1, 2), (14, .iload_n 1, 1, 0, 0), (15, .iconst (-1), 1, 4, 0), (16, .iastore, 1, 0, 0), (17, .iinc 1 1, 3, 1, 0), (20, .goto (-18), 3, 2, 0), 
  (23, .return_, 1, 0, 0)]
def m_Chairs_forgetSitters : xM := (1, false, none, 2, k_Chairs_forgetSitters)
abbrev i_Chairs_forgetSitters : Nat := 9
def k_Chairs_seat : xK := [(0, .aload_n 0, 1, 0, 0), (1, .getfield 18, 3, 1, 2), (4, .iload_n 1, 1, 0, 0), (5, .iload_n 2, 1, 0, 0), (6, .iastore, 1, 0, 0), (7, .aload_n 0, 1, 0, 0), 
  (8, .getfield 15, 3, 1, 1), (11, .iload_n 1, 1, 0, 0), (12, .dup2, 1, 0, 0), (13, .iaload, 1, 0, 0), (14, .iconst 1, 1, 1, 0), (15, .iadd, 1, 0, 0), (16, .iastore, 1, 0, 0), (17, .return_, 1, 0, 0)]
def m_Chairs_seat : xM := (1, false, none, 3, k_Chairs_seat)
abbrev i_Chairs_seat : Nat := 10
def k_Chairs_leaveOnly : xK := [(0, .iconst 0, 1, 0, 0), (1, .istore_n 2, 1, 0, 0), (2, .iconst 0, 1, 0, 0), (3, .istore_n 3, 1, 0, 0), (4, .iload_n 3, 1, 0, 0), (5, .bipush 16, 2, 6, 0), 
  (7, .if_icmp .ge 28, 3, 35, 0), (10, .aload_n 0, 1, 0, 0), (11, .getfield 27, 3, 1, 3), (14, .iload_n 1, 1, 0, 0), (15, .if_icmp .le 20, 3, 35, 0), (18, .aload_n 0, 1, 0, 0), (19, .aload_n 0, 1, 0, 0), 
  (20, .invokevirtual 32, 3, 12, 0), (23, .invokevirtual 36, 3, 13, 1), (26, .iinc 2 1, 3, 1, 0), (29, .iinc 3 1, 3, 1, 0), (32, .goto (-28), 3, 4, 0), (35, .iload_n 2, 1, 0, 0), (36, .ireturn, 1, 0, 0)]
def m_Chairs_leaveOnly : xM := (1, false, (some .int), 4, k_Chairs_leaveOnly)
abbrev i_Chairs_leaveOnly : Nat := 11
def k_Chairs_mostWorn : xK := [(0, .iconst 0, 1, 0, 0), (1, .istore_n 1, 1, 0, 0), (2, .iconst 1, 1, 1, 0), (3, .istore_n 2, 1, 0, 0), (4, .iload_n 2, 1, 0, 0), (5, .aload_n 0, 1, 0, 0), 
  (6, .getfield 27, 3, 1, 3), (9, .if_icmp .ge 26, 3, 35, 0), (12, .aload_n 0, 1, 0, 0), (13, .getfield 15, 3, 1, 1), (16, .iload_n 2, 1, 0, 0), (17, .iaload, 1, 0, 0), (18, .aload_n 0, 1, 0, 0), 
  (19, .getfield 15, 3, 1, 1), (22, .iload_n 1, 1, 0, 0), (23, .iaload, 1, 0, 0), (24, .if_icmp .lt 5, 3, 29, 0), (27, .iload_n 2, 1, 0, 0), (28, .istore_n 1, 1, 0, 0), (29, .iinc 2 1, 3, 1, 0), 
  (32, .goto (-28), 3, 4, 0), (35, .iload_n 1, 1, 0, 0), (36, .ireturn, 1, 0, 0)]
def m_Chairs_mostWorn : xM := (1, false, (some .int), 3, k_Chairs_mostWorn)
abbrev i_Chairs_mostWorn : Nat := 12
def k_Chairs_takeAway : xK := [(0, .iload_n 1, 1, 0, 0), (1, .istore_n 2, 1, 0, 0), (2, .iload_n 2, 1, 0, 0), (3, .aload_n 0, 1, 0, 0), (4, .getfield 27, 3, 1, 3), (7, .iconst 1, 1, 1, 0), 
  (8, .isub, 1, 0, 0), (9, .if_icmp .ge 51, 3, 60, 0), (12, .aload_n 0, 1, 0, 0), (13, .getfield 9, 3, 1, 0), (16, .iload_n 2, 1, 0, 0), (17, .aload_n 0, 1, 0, 0), (18, .getfield 9, 3, 1, 0), 
  (21, .iload_n 2, 1, 0, 0), (22, .iconst 1, 1, 1, 0), (23, .iadd, 1, 0, 0), (24, .iaload, 1, 0, 0), (25, .iastore, 1, 0, 0), (26, .aload_n 0, 1, 0, 0), (27, .getfield 15, 3, 1, 1), 
  (30, .iload_n 2, 1, 0, 0), (31, .aload_n 0, 1, 0, 0), (32, .getfield 15, 3, 1, 1), (35, .iload_n 2, 1, 0, 0), (36, .iconst 1, 1, 1, 0), (37, .iadd, 1, 0, 0), (38, .iaload, 1, 0, 0), 
  (39, .iastore, 1, 0, 0), (40, .aload_n 0, 1, 0, 0), (41, .getfield 18, 3, 1, 2), (44, .iload_n 2, 1, 0, 0), (45, .aload_n 0, 1, 0, 0), (46, .getfield 18, 3, 1, 2), (49, .iload_n 2, 1, 0, 0), 
  (50, .iconst 1, 1, 1, 0), (51, .iadd, 1, 0, 0), (52, .iaload, 1, 0, 0), (53, .iastore, 1, 0, 0), (54, .iinc 2 1, 3, 1, 0), (57, .goto (-55), 3, 2, 0), (60, .aload_n 0, 1, 0, 0), (61, .dup, 1, 0, 0), 
  (62, .getfield 27, 3, 1, 3), (65, .iconst 1, 1, 1, 0), (66, .isub, 1, 0, 0), (67, .putfield 27, 3, 1, 3), (70, .return_, 1, 0, 0)]
def m_Chairs_takeAway : xM := (1, false, none, 3, k_Chairs_takeAway)
abbrev i_Chairs_takeAway : Nat := 13
def k_Game_init : xK := [(0, .aload_n 0, 1, 0, 0), (1, .invokespecial 3, 3, 1000, 0), (4, .aload_n 0, 1, 0, 0), (5, .new 9, 3, 1, 0), (8, .dup, 1, 0, 0), (9, .invokespecial 11, 3, 4, 0), 
  (12, .putfield 12, 3, 2, 0), (15, .aload_n 0, 1, 0, 0), (16, .new 18, 3, 6, 0), (19, .dup, 1, 0, 0), (20, .invokespecial 20, 3, 49, 0), (23, .putfield 21, 3, 2, 1), (26, .aload_n 0, 1, 0, 0), 
  (27, .new 25, 3, 0, 0), (30, .dup, 1, 0, 0), (31, .invokespecial 27, 3, 0, 0), (34, .putfield 28, 3, 2, 2), (37, .aload_n 0, 1, 0, 0), (38, .iconst 0, 1, 0, 0), (39, .putfield 32, 3, 2, 3), 
  (42, .aload_n 0, 1, 0, 0), (43, .iconst 1, 1, 1, 0), (44, .putfield 36, 3, 2, 4), (47, .return_, 1, 0, 0)]
def m_Game_init : xM := (2, true, none, 1, k_Game_init)
abbrev i_Game_init : Nat := 14
def k_Game_copyFrom : xK := [(0, .aload_n 0, 1, 0, 0), (1, .getfield 12, 3, 2, 0), (4, .aload_n 1, 1, 0, 0), (5, .getfield 12, 3, 2, 0), (8, .invokevirtual 39, 3, 5, 1), (11, .aload_n 0, 1, 0, 0), 
  (12, .getfield 21, 3, 2, 1), (15, .aload_n 1, 1, 0, 0), (16, .getfield 21, 3, 2, 1), (19, .invokevirtual 43, 3, 50, 1), (22, .aload_n 0, 1, 0, 0), (23, .getfield 28, 3, 2, 2), (26, .aload_n 1, 1, 0, 0), 
  (27, .getfield 28, 3, 2, 2), (30, .invokevirtual 46, 3, 1, 1), (33, .aload_n 0, 1, 0, 0), (34, .aload_n 1, 1, 0, 0), (35, .getfield 32, 3, 2, 3), (38, .putfield 32, 3, 2, 3), (41, .aload_n 0, 1, 0, 0), 
  (42, .aload_n 1, 1, 0, 0), (43, .getfield 36, 3, 2, 4), (46, .putfield 36, 3, 2, 4), (49, .aload_n 0, 1, 0, 0), (50, .aload_n 1, 1, 0, 0), (51, .getfield 49, 3, 2, 5), (54, .putfield 49, 3, 2, 5), 
  (57, .aload_n 0, 1, 0, 0), (58, .aload_n 1, 1, 0, 0), (59, .getfield 52, 3, 2, 6), (62, .putfield 52, 3, 2, 6), (65, .aload_n 0, 1, 0, 0), (66, .aload_n 1, 1, 0, 0), (67, .getfield 55, 3, 2, 7), 
  (70, .putfield 55, 3, 2, 7), (73, .aload_n 0, 1, 0, 0), (74, .aload_n 1, 1, 0, 0), (75, .getfield 58, 3, 2, 8), (78, .putfield 58, 3, 2, 8), (81, .aload_n 0, 1, 0, 0), (82, .aload_n 1, 1, 0, 0), 
  (83, .getfield 61, 3, 2, 9), (86, .putfield 61, 3, 2, 9), (89, .return_, 1, 0, 0)]
def m_Game_copyFrom : xM := (2, false, none, 2, k_Game_copyFrom)
abbrev i_Game_copyFrom : Nat := 15
def k_Game_addChair : xK := [(0, .iload_n 1, 1, 0, 0), (1, .iconst 0, 1, 0, 0), (2, .bipush 8, 2, 8, 0), (4, .invokestatic 64, 3, 93, 3), (7, .ifCond .ne 6, 3, 13, 0), (10, .ldc 68, 2, 48, 0), 
  (12, .ireturn, 1, 0, 0), (13, .aload_n 0, 1, 0, 0), (14, .getfield 32, 3, 2, 3), (17, .ifCond .ne 14, 3, 31, 0), (20, .aload_n 0, 1, 0, 0), (21, .getfield 12, 3, 2, 0), (24, .iload_n 1, 1, 0, 0), 
  (25, .invokevirtual 69, 3, 7, 1), (28, .goto 5, 3, 33, 0), (31, .ldc 73, 2, 49, 0), (33, .ireturn, 1, 0, 0)]
def m_Game_addChair : xM := (2, false, (some .int), 2, k_Game_addChair)
abbrev i_Game_addChair : Nat := 16
def k_Game_addPlayer : xK := [(0, .iload_n 1, 1, 0, 0), (1, .iconst 0, 1, 0, 0), (2, .bipush 9, 2, 10, 0), (4, .invokestatic 64, 3, 93, 3), (7, .ifCond .eq 14, 3, 21, 0), (10, .iload_n 2, 1, 0, 0), 
  (11, .iconst 0, 1, 0, 0), (12, .sipush 511, 3, 14, 0), (15, .invokestatic 64, 3, 93, 3), (18, .ifCond .ne 6, 3, 24, 0), (21, .ldc 68, 2, 48, 0), (23, .ireturn, 1, 0, 0), (24, .aload_n 0, 1, 0, 0), 
  (25, .getfield 32, 3, 2, 3), (28, .ifCond .ne 15, 3, 43, 0), (31, .aload_n 0, 1, 0, 0), (32, .getfield 21, 3, 2, 1), (35, .iload_n 1, 1, 0, 0), (36, .iload_n 2, 1, 0, 0), (37, .invokevirtual 74, 3, 54, 2), 
  (40, .goto 5, 3, 45, 0), (43, .ldc 73, 2, 49, 0), (45, .ireturn, 1, 0, 0)]
def m_Game_addPlayer : xM := (2, false, (some .int), 3, k_Game_addPlayer)
abbrev i_Game_addPlayer : Nat := 17
def k_Game_retune : xK := [(0, .aload_n 0, 1, 0, 0), (1, .getfield 12, 3, 2, 0), (4, .iload_n 1, 1, 0, 0), (5, .invokevirtual 77, 3, 6, 1), (8, .ifCond .eq 13, 3, 21, 0), (11, .iload_n 2, 1, 0, 0), 
  (12, .iconst 0, 1, 0, 0), (13, .bipush 8, 2, 8, 0), (15, .invokestatic 64, 3, 93, 3), (18, .ifCond .ne 6, 3, 24, 0), (21, .ldc 68, 2, 48, 0), (23, .ireturn, 1, 0, 0), (24, .aload_n 0, 1, 0, 0), 
  (25, .getfield 12, 3, 2, 0), (28, .getfield 81, 3, 1, 0), (31, .iload_n 1, 1, 0, 0), (32, .iaload, 1, 0, 0), (33, .istore_n 3, 1, 0, 0), (34, .aload_n 0, 1, 0, 0), (35, .getfield 12, 3, 2, 0), 
  (38, .getfield 81, 3, 1, 0), (41, .iload_n 1, 1, 0, 0), (42, .iload_n 2, 1, 0, 0), (43, .iastore, 1, 0, 0), (44, .iload_n 3, 1, 0, 0), (45, .ireturn, 1, 0, 0)]
def m_Game_retune : xM := (2, false, (some .int), 4, k_Game_retune)
abbrev i_Game_retune : Nat := 18
def k_Game_retrain : xK := [(0, .aload_n 0, 1, 0, 0), (1, .getfield 21, 3, 2, 1), (4, .iload_n 1, 1, 0, 0), (5, .invokevirtual 85, 3, 51, 1), (8, .ifCond .eq 24, 3, 32, 0), (11, .iload_n 2, 1, 0, 0), 
  (12, .iconst 0, 1, 0, 0), (13, .bipush 9, 2, 10, 0), (15, .invokestatic 64, 3, 93, 3), (18, .ifCond .eq 14, 3, 32, 0), (21, .iload_n 3, 1, 0, 0), (22, .iconst 0, 1, 0, 0), (23, .sipush 511, 3, 14, 0), 
  (26, .invokestatic 64, 3, 93, 3), (29, .ifCond .ne 6, 3, 35, 0), (32, .ldc 68, 2, 48, 0), (34, .ireturn, 1, 0, 0), (35, .aload_n 0, 1, 0, 0), (36, .getfield 21, 3, 2, 1), (39, .getfield 86, 3, 6, 1), 
  (42, .iload_n 1, 1, 0, 0), (43, .iaload, 1, 0, 0), (44, .istore 4, 2, 0, 0), (46, .aload_n 0, 1, 0, 0), (47, .getfield 21, 3, 2, 1), (50, .getfield 89, 3, 6, 0), (53, .iload_n 1, 1, 0, 0), 
  (54, .iload_n 2, 1, 0, 0), (55, .iastore, 1, 0, 0), (56, .aload_n 0, 1, 0, 0), (57, .getfield 21, 3, 2, 1), (60, .getfield 86, 3, 6, 1), (63, .iload_n 1, 1, 0, 0), (64, .iload_n 3, 1, 0, 0), 
  (65, .iastore, 1, 0, 0), (66, .iload 4, 2, 0, 0), (68, .ireturn, 1, 0, 0)]
def m_Game_retrain : xM := (2, false, (some .int), 5, k_Game_retrain)
abbrev i_Game_retrain : Nat := 19
def k_Game_startMusic : xK := [(0, .aload_n 0, 1, 0, 0), (1, .getfield 21, 3, 2, 1), (4, .invokevirtual 92, 3, 58, 0), (7, .istore_n 1, 1, 0, 0), (8, .aload_n 0, 1, 0, 0), (9, .getfield 32, 3, 2, 3), 
  (12, .ifCond .ne 25, 3, 37, 0), (15, .aload_n 0, 1, 0, 0), (16, .getfield 12, 3, 2, 0), (19, .getfield 96, 3, 1, 3), (22, .iconst 1, 1, 1, 0), (23, .if_icmp .lt 14, 3, 37, 0), (26, .iload_n 1, 1, 0, 0), 
  (27, .aload_n 0, 1, 0, 0), (28, .getfield 12, 3, 2, 0), (31, .getfield 96, 3, 1, 3), (34, .if_icmp .gt 6, 3, 40, 0), (37, .ldc 73, 2, 49, 0), (39, .ireturn, 1, 0, 0), (40, .aload_n 0, 1, 0, 0), 
  (41, .iconst 1, 1, 1, 0), (42, .putfield 32, 3, 2, 3), (45, .aload_n 0, 1, 0, 0), (46, .getfield 12, 3, 2, 0), (49, .invokevirtual 99, 3, 9, 0), (52, .aload_n 0, 1, 0, 0), (53, .getfield 21, 3, 2, 1), 
  (56, .aload_n 0, 1, 0, 0), (57, .getfield 12, 3, 2, 0), (60, .invokevirtual 102, 3, 55, 1), (63, .iload_n 1, 1, 0, 0), (64, .ireturn, 1, 0, 0)]
def m_Game_startMusic : xM := (2, false, (some .int), 2, k_Game_startMusic)
abbrev i_Game_startMusic : Nat := 20
def k_Game_walk : xK := [(0, .iload_n 1, 1, 0, 0), (1, .iconst 1, 1, 1, 0), (2, .bipush 99, 2, 15, 0), (4, .invokestatic 64, 3, 93, 3), (7, .ifCond .ne 6, 3, 13, 0), (10, .ldc 68, 2, 48, 0), 
  (12, .ireturn, 1, 0, 0), (13, .aload_n 0, 1, 0, 0), (14, .getfield 32, 3, 2, 3), (17, .iconst 1, 1, 1, 0), (18, .if_icmp .eq 6, 3, 24, 0), (21, .ldc 73, 2, 49, 0), (23, .ireturn, 1, 0, 0), 
  (24, .aload_n 0, 1, 0, 0), (25, .getfield 52, 3, 2, 6), (28, .iload_n 1, 1, 0, 0), (29, .iadd, 1, 0, 0), (30, .sipush 999, 3, 25, 0), (33, .if_icmp .le 6, 3, 39, 0), (36, .ldc 105, 2, 47, 0), 
  (38, .ireturn, 1, 0, 0), (39, .aload_n 0, 1, 0, 0), (40, .dup, 1, 0, 0), (41, .getfield 52, 3, 2, 6), (44, .iload_n 1, 1, 0, 0), (45, .iadd, 1, 0, 0), (46, .putfield 52, 3, 2, 6), 
  (49, .aload_n 0, 1, 0, 0), (50, .getfield 21, 3, 2, 1), (53, .aload_n 0, 1, 0, 0), (54, .getfield 12, 3, 2, 0), (57, .iload_n 1, 1, 0, 0), (58, .invokevirtual 106, 3, 56, 2), (61, .aload_n 0, 1, 0, 0), 
  (62, .getfield 52, 3, 2, 6), (65, .ireturn, 1, 0, 0)]
def m_Game_walk : xM := (2, false, (some .int), 2, k_Game_walk)
abbrev i_Game_walk : Nat := 21
def k_Game_stopMusic : xK := [(0, .aload_n 0, 1, 0, 0), (1, .getfield 32, 3, 2, 3), (4, .iconst 1, 1, 1, 0), (5, .if_icmp .eq 6, 3, 11, 0), (8, .ldc 73, 2, 49, 0), (10, .ireturn, 1, 0, 0), 
  (11, .aload_n 1, 1, 0, 0), (12, .aload_n 0, 1, 0, 0), (13, .getfield 12, 3, 2, 0), (16, .aload_n 0, 1, 0, 0), (17, .getfield 21, 3, 2, 1), (20, .iconst 0, 1, 0, 0), (21, .invokevirtual 110, 3, 29, 3), 
  (24, .aload_n 0, 1, 0, 0), (25, .dup, 1, 0, 0), (26, .getfield 49, 3, 2, 5), (29, .iconst 1, 1, 1, 0), (30, .iadd, 1, 0, 0), (31, .putfield 49, 3, 2, 5), (34, .aload_n 0, 1, 0, 0), 
  (35, .iconst 0, 1, 0, 0), (36, .putfield 52, 3, 2, 6), (39, .aload_n 0, 1, 0, 0), (40, .dup, 1, 0, 0), (41, .getfield 55, 3, 2, 7), (44, .aload_n 1, 1, 0, 0), (45, .getfield 116, 3, 3, 11), 
  (48, .iadd, 1, 0, 0), (49, .putfield 55, 3, 2, 7), (52, .aload_n 0, 1, 0, 0), (53, .dup, 1, 0, 0), (54, .getfield 61, 3, 2, 9), (57, .aload_n 0, 1, 0, 0), (58, .getfield 21, 3, 2, 1), 
  (61, .invokevirtual 92, 3, 58, 0), (64, .aload_n 0, 1, 0, 0), (65, .getfield 12, 3, 2, 0), (68, .getfield 96, 3, 1, 3), (71, .isub, 1, 0, 0), (72, .iadd, 1, 0, 0), (73, .putfield 61, 3, 2, 9), 
  (76, .aload_n 0, 1, 0, 0), (77, .aload_n 1, 1, 0, 0), (78, .invokevirtual 117, 3, 25, 1), (81, .aload_n 0, 1, 0, 0), (82, .aload_n 1, 1, 0, 0), (83, .invokevirtual 121, 3, 26, 1), 
  (86, .aload_n 0, 1, 0, 0), (87, .invokevirtual 124, 3, 27, 0), (90, .aload_n 1, 1, 0, 0), (91, .getfield 127, 3, 3, 10), (94, .ireturn, 1, 0, 0)]
def m_Game_stopMusic : xM := (2, false, (some .int), 2, k_Game_stopMusic)
abbrev i_Game_stopMusic : Nat := 22
def k_Game_choose : xK := [(0, .iload_n 1, 1, 0, 0), (1, .ifCond .ne 12, 3, 13, 0), (4, .iload_n 2, 1, 0, 0), (5, .iconst 1, 1, 1, 0), (6, .iconst 3, 1, 5, 0), (7, .invokestatic 64, 3, 93, 3), 
  (10, .ifCond .ne 6, 3, 16, 0), (13, .ldc 68, 2, 48, 0), (15, .ireturn, 1, 0, 0), (16, .aload_n 0, 1, 0, 0), (17, .getfield 36, 3, 2, 4), (20, .istore_n 3, 1, 0, 0), (21, .aload_n 0, 1, 0, 0), 
  (22, .iload_n 2, 1, 0, 0), (23, .putfield 36, 3, 2, 4), (26, .iload_n 3, 1, 0, 0), (27, .ireturn, 1, 0, 0)]
def m_Game_choose : xM := (2, false, (some .int), 4, k_Game_choose)
abbrev i_Game_choose : Nat := 23
def k_Game_perform : xK := [(0, .iload_n 1, 1, 0, 0), (1, .lookupswitch 67 #[(98, 56), (99, 43), (103, 62), (112, 49)], 43, 0, 0), (44, .aload_n 0, 1, 0, 0), (45, .iload_n 2, 1, 0, 0), 
  (46, .invokevirtual 130, 3, 16, 1), (49, .ireturn, 1, 0, 0), (50, .aload_n 0, 1, 0, 0), (51, .iload_n 2, 1, 0, 0), (52, .iload_n 3, 1, 0, 0), (53, .invokevirtual 133, 3, 17, 2), (56, .ireturn, 1, 0, 0), 
  (57, .aload_n 0, 1, 0, 0), (58, .iload_n 2, 1, 0, 0), (59, .invokevirtual 136, 3, 21, 1), (62, .ireturn, 1, 0, 0), (63, .aload_n 0, 1, 0, 0), (64, .invokevirtual 138, 3, 20, 0), (67, .ireturn, 1, 0, 0), 
  (68, .aload_n 0, 1, 0, 0), (69, .aload 4, 2, 0, 0), (71, .invokevirtual 141, 3, 22, 1), (74, .ireturn, 1, 0, 0)]
def m_Game_perform : xM := (2, false, (some .int), 5, k_Game_perform)
abbrev i_Game_perform : Nat := 24
def k_Game_settlePlayers : xK := [(0, .iconst 0, 1, 0, 0), (1, .istore_n 2, 1, 0, 0), (2, .iload_n 2, 1, 0, 0), (3, .aload_n 0, 1, 0, 0), (4, .getfield 21, 3, 2, 1), (7, .getfield 145, 3, 6, 9), 
  (10, .if_icmp .ge 91, 3, 101, 0), (13, .aload_n 0, 1, 0, 0), (14, .getfield 21, 3, 2, 1), (17, .iload_n 2, 1, 0, 0), (18, .invokevirtual 146, 3, 52, 1), (21, .ifCond .eq 74, 3, 95, 0), 
  (24, .aload_n 0, 1, 0, 0), (25, .getfield 21, 3, 2, 1), (28, .getfield 149, 3, 6, 4), (31, .iload_n 2, 1, 0, 0), (32, .dup2, 1, 0, 0), (33, .iaload, 1, 0, 0), (34, .aload_n 1, 1, 0, 0), 
  (35, .getfield 152, 3, 3, 5), (38, .iload_n 2, 1, 0, 0), (39, .iaload, 1, 0, 0), (40, .iadd, 1, 0, 0), (41, .iastore, 1, 0, 0), (42, .aload_n 0, 1, 0, 0), (43, .getfield 21, 3, 2, 1), 
  (46, .getfield 153, 3, 6, 7), (49, .iload_n 2, 1, 0, 0), (50, .aload_n 1, 1, 0, 0), (51, .getfield 156, 3, 3, 6), (54, .iload_n 2, 1, 0, 0), (55, .iaload, 1, 0, 0), (56, .iastore, 1, 0, 0), 
  (57, .aload_n 1, 1, 0, 0), (58, .getfield 159, 3, 3, 4), (61, .iload_n 2, 1, 0, 0), (62, .iaload, 1, 0, 0), (63, .iconst (-1), 1, 4, 0), (64, .if_icmp .ne 18, 3, 82, 0), (67, .aload_n 0, 1, 0, 0), 
  (68, .getfield 21, 3, 2, 1), (71, .iload_n 2, 1, 0, 0), (72, .aload_n 0, 1, 0, 0), (73, .getfield 49, 3, 2, 5), (76, .invokevirtual 162, 3, 57, 2), (79, .goto 16, 3, 95, 0), (82, .aload_n 0, 1, 0, 0), 
  (83, .getfield 21, 3, 2, 1), (86, .getfield 166, 3, 6, 3), (89, .iload_n 2, 1, 0, 0), (90, .dup2, 1, 0, 0), (91, .iaload, 1, 0, 0), (92, .iconst 1, 1, 1, 0), (93, .iadd, 1, 0, 0), 
  (94, .iastore, 1, 0, 0), (95, .iinc 2 1, 3, 1, 0), (98, .goto (-96), 3, 2, 0), (101, .return_, 1, 0, 0)]
def m_Game_settlePlayers : xM := (2, false, none, 3, k_Game_settlePlayers)
abbrev i_Game_settlePlayers : Nat := 25
def k_Game_settleChairs : xK := [(0, .iconst 1, 1, 1, 0), (1, .istore_n 2, 1, 0, 0), (2, .iload_n 2, 1, 0, 0), (3, .aload_n 1, 1, 0, 0), (4, .getfield 116, 3, 3, 11), (7, .if_icmp .gt 80, 3, 87, 0), 
  (10, .iconst 0, 1, 0, 0), (11, .istore_n 3, 1, 0, 0), (12, .iload_n 3, 1, 0, 0), (13, .aload_n 0, 1, 0, 0), (14, .getfield 12, 3, 2, 0), (17, .getfield 96, 3, 1, 3), (20, .if_icmp .ge 61, 3, 81, 0), 
  (23, .aload_n 1, 1, 0, 0), (24, .getfield 169, 3, 3, 8), (27, .iload_n 3, 1, 0, 0), (28, .iaload, 1, 0, 0), (29, .iload_n 2, 1, 0, 0), (30, .if_icmp .ne 45, 3, 75, 0), (33, .aload_n 1, 1, 0, 0), 
  (34, .getfield 172, 3, 3, 7), (37, .iload_n 3, 1, 0, 0), (38, .iaload, 1, 0, 0), (39, .istore 4, 2, 0, 0), (41, .aload_n 0, 1, 0, 0), (42, .getfield 12, 3, 2, 0), (45, .iload_n 3, 1, 0, 0), 
  (46, .iload 4, 2, 0, 0), (48, .invokevirtual 175, 3, 10, 2), (51, .aload_n 0, 1, 0, 0), (52, .getfield 28, 3, 2, 2), (55, .aload_n 0, 1, 0, 0), (56, .getfield 49, 3, 2, 5), (59, .iload_n 2, 1, 0, 0), 
  (60, .iload_n 3, 1, 0, 0), (61, .aload_n 0, 1, 0, 0), (62, .getfield 12, 3, 2, 0), (65, .getfield 81, 3, 1, 0), (68, .iload_n 3, 1, 0, 0), (69, .iaload, 1, 0, 0), (70, .iload 4, 2, 0, 0), 
  (72, .invokevirtual 177, 3, 2, 5), (75, .iinc 3 1, 3, 1, 0), (78, .goto (-66), 3, 12, 0), (81, .iinc 2 1, 3, 1, 0), (84, .goto (-82), 3, 2, 0), (87, .return_, 1, 0, 0)]
def m_Game_settleChairs : xM := (2, false, none, 5, k_Game_settleChairs)
abbrev i_Game_settleChairs : Nat := 26
def k_Game_goOn : xK := [(0, .aload_n 0, 1, 0, 0), (1, .getfield 21, 3, 2, 1), (4, .invokevirtual 92, 3, 58, 0), (7, .istore_n 1, 1, 0, 0), (8, .iload_n 1, 1, 0, 0), (9, .iconst 1, 1, 1, 0), 
  (10, .if_icmp .gt 9, 3, 19, 0), (13, .aload_n 0, 1, 0, 0), (14, .iconst 2, 1, 2, 0), (15, .putfield 32, 3, 2, 3), (18, .return_, 1, 0, 0), (19, .aload_n 0, 1, 0, 0), (20, .iconst 0, 1, 0, 0), 
  (21, .putfield 32, 3, 2, 3), (24, .aload_n 0, 1, 0, 0), (25, .dup, 1, 0, 0), (26, .getfield 58, 3, 2, 8), (29, .aload_n 0, 1, 0, 0), (30, .getfield 12, 3, 2, 0), (33, .iload_n 1, 1, 0, 0), 
  (34, .aload_n 0, 1, 0, 0), (35, .getfield 36, 3, 2, 4), (38, .isub, 1, 0, 0), (39, .iconst 1, 1, 1, 0), (40, .invokestatic 181, 3, 162, 2), (43, .invokevirtual 186, 3, 11, 1), (46, .iadd, 1, 0, 0), 
  (47, .putfield 58, 3, 2, 8), (50, .return_, 1, 0, 0)]
def m_Game_goOn : xM := (2, false, none, 2, k_Game_goOn)
abbrev i_Game_goOn : Nat := 27
def k_Grope_init : xK := [(0, .aload_n 0, 1, 0, 0), (1, .invokespecial 3, 3, 1000, 0), (4, .aload_n 0, 1, 0, 0), (5, .bipush 12, 2, 3, 0), (7, .newarray .int, 2, 0, 0), (9, .putfield 9, 3, 3, 0), 
  (12, .aload_n 0, 1, 0, 0), (13, .bipush 12, 2, 3, 0), (15, .newarray .int, 2, 0, 0), (17, .putfield 15, 3, 3, 1), (20, .aload_n 0, 1, 0, 0), (21, .bipush 12, 2, 3, 0), (23, .newarray .int, 2, 0, 0), 
  (25, .putfield 18, 3, 3, 2), (28, .aload_n 0, 1, 0, 0), (29, .bipush 12, 2, 3, 0), (31, .newarray .int, 2, 0, 0), (33, .putfield 21, 3, 3, 3), (36, .aload_n 0, 1, 0, 0), (37, .bipush 12, 2, 3, 0), 
  (39, .newarray .int, 2, 0, 0), (41, .putfield 24, 3, 3, 4), (44, .aload_n 0, 1, 0, 0), (45, .bipush 12, 2, 3, 0), (47, .newarray .int, 2, 0, 0), (49, .putfield 27, 3, 3, 5), (52, .aload_n 0, 1, 0, 0), 
  (53, .bipush 12, 2, 3, 0), (55, .newarray .int, 2, 0, 0), (57, .putfield 30, 3, 3, 6), (60, .aload_n 0, 1, 0, 0), (61, .bipush 16, 2, 6, 0), (63, .newarray .int, 2, 0, 0), (65, .putfield 33, 3, 3, 7), 
  (68, .aload_n 0, 1, 0, 0), (69, .bipush 16, 2, 6, 0), (71, .newarray .int, 2, 0, 0), (73, .putfield 36, 3, 3, 8), (76, .return_, 1, 0, 0)]
def m_Grope_init : xM := (3, true, none, 1, k_Grope_init)
abbrev i_Grope_init : Nat := 28
def k_Grope_follow : xK := [(0, .aload_n 0, 1, 0, 0), (1, .aload_n 1, 1, 0, 0), (2, .aload_n 2, 1, 0, 0), (3, .iload_n 3, 1, 0, 0), (4, .invokevirtual 39, 3, 30, 3), (7, .iconst 1, 1, 1, 0), 
  (8, .istore 4, 2, 0, 0), (10, .iload 4, 2, 0, 0), (12, .bipush 17, 2, 16, 0), (14, .if_icmp .gt 51, 3, 65, 0), (17, .aload_n 0, 1, 0, 0), (18, .getfield 43, 3, 3, 9), (21, .ifCond .eq 44, 3, 65, 0), 
  (24, .aload_n 0, 1, 0, 0), (25, .iload 4, 2, 0, 0), (27, .putfield 47, 3, 3, 11), (30, .aload_n 0, 1, 0, 0), (31, .aload_n 1, 1, 0, 0), (32, .aload_n 2, 1, 0, 0), (33, .invokevirtual 50, 3, 32, 2), 
  (36, .aload_n 0, 1, 0, 0), (37, .aload_n 1, 1, 0, 0), (38, .aload_n 2, 1, 0, 0), (39, .invokevirtual 54, 3, 33, 2), (42, .aload_n 0, 1, 0, 0), (43, .aload_n 1, 1, 0, 0), (44, .aload_n 2, 1, 0, 0), 
  (45, .invokevirtual 57, 3, 34, 2), (48, .aload_n 0, 1, 0, 0), (49, .aload_n 2, 1, 0, 0), (50, .invokevirtual 60, 3, 36, 1), (53, .aload_n 0, 1, 0, 0), (54, .aload_n 1, 1, 0, 0), (55, .aload_n 2, 1, 0, 0), 
  (56, .invokevirtual 64, 3, 37, 2), (59, .iinc 4 1, 3, 1, 0), (62, .goto (-52), 3, 10, 0), (65, .return_, 1, 0, 0)]
def m_Grope_follow : xM := (3, false, none, 5, k_Grope_follow)
abbrev i_Grope_follow : Nat := 29
def k_Grope_begin : xK := [(0, .aload_n 0, 1, 0, 0), (1, .iconst 0, 1, 0, 0), (2, .putfield 47, 3, 3, 11), (5, .aload_n 0, 1, 0, 0), (6, .iconst 0, 1, 0, 0), (7, .putfield 67, 3, 3, 10), 
  (10, .aload_n 0, 1, 0, 0), (11, .aload_n 2, 1, 0, 0), (12, .getfield 70, 3, 6, 8), (15, .putfield 43, 3, 3, 9), (18, .iconst 0, 1, 0, 0), (19, .istore 4, 2, 0, 0), (21, .iload 4, 2, 0, 0), 
  (23, .aload_n 2, 1, 0, 0), (24, .getfield 75, 3, 6, 9), (27, .if_icmp .ge 68, 3, 95, 0), (30, .aload_n 0, 1, 0, 0), (31, .getfield 9, 3, 3, 0), (34, .iload 4, 2, 0, 0), (36, .aload_n 1, 1, 0, 0), 
  (37, .aload_n 2, 1, 0, 0), (38, .getfield 78, 3, 6, 2), (41, .iload 4, 2, 0, 0), (43, .iaload, 1, 0, 0), (44, .aload_n 2, 1, 0, 0), (45, .getfield 79, 3, 6, 0), (48, .iload 4, 2, 0, 0), 
  (50, .iaload, 1, 0, 0), (51, .iload_n 3, 1, 0, 0), (52, .imul, 1, 0, 0), (53, .invokevirtual 82, 3, 8, 2), (56, .iastore, 1, 0, 0), (57, .aload_n 0, 1, 0, 0), (58, .getfield 15, 3, 3, 1), 
  (61, .iload 4, 2, 0, 0), (63, .iconst 0, 1, 0, 0), (64, .iastore, 1, 0, 0), (65, .aload_n 0, 1, 0, 0), (66, .getfield 24, 3, 3, 4), (69, .iload 4, 2, 0, 0), (71, .iconst (-1), 1, 4, 0), 
  (72, .iastore, 1, 0, 0), (73, .aload_n 0, 1, 0, 0), (74, .getfield 27, 3, 3, 5), (77, .iload 4, 2, 0, 0), (79, .iconst 0, 1, 0, 0), (80, .iastore, 1, 0, 0), (81, .aload_n 0, 1, 0, 0), 
  (82, .getfield 30, 3, 3, 6), (85, .iload 4, 2, 0, 0), (87, .iconst 0, 1, 0, 0), (88, .iastore, 1, 0, 0), (89, .iinc 4 1, 3, 1, 0), (92, .goto (-71), 3, 21, 0), (95, .iconst 0, 1, 0, 0), 
  (96, .istore 4, 2, 0, 0), (98, .iload 4, 2, 0, 0), (100, .aload_n 1, 1, 0, 0), (101, .getfield 88, 3, 1, 3), (104, .if_icmp .ge 25, 3, 129, 0), (107, .aload_n 0, 1, 0, 0), (108, .getfield 33, 3, 3, 7), 
  (111, .iload 4, 2, 0, 0), (113, .iconst (-1), 1, 4, 0), (114, .iastore, 1, 0, 0), (115, .aload_n 0, 1, 0, 0), (116, .getfield 36, 3, 3, 8), (119, .iload 4, 2, 0, 0), (121, .iconst 0, 1, 0, 0), 
  (122, .iastore, 1, 0, 0), (123, .iinc 4 1, 3, 1, 0), (126, .goto (-28), 3, 98, 0), (129, .return_, 1, 0, 0)]
def m_Grope_begin : xM := (3, false, none, 5, k_Grope_begin)
abbrev i_Grope_begin : Nat := 30
def k_Grope_gropes : xK := [(0, .aload_n 0, 1, 0, 0), (1, .getfield 43, 3, 3, 9), (4, .iload_n 1, 1, 0, 0), (5, .ishr, 1, 0, 0), (6, .iconst 1, 1, 1, 0), (7, .iand, 1, 0, 0), (8, .iconst 1, 1, 1, 0), 
  (9, .if_icmp .ne 7, 3, 16, 0), (12, .iconst 1, 1, 1, 0), (13, .goto 4, 3, 17, 0), (16, .iconst 0, 1, 0, 0), (17, .ireturn, 1, 0, 0)]
def m_Grope_gropes : xM := (3, false, (some .boolean), 2, k_Grope_gropes)
abbrev i_Grope_gropes : Nat := 31
def k_Grope_sendOut : xK := [(0, .iconst 1, 1, 1, 0), (1, .aload_n 1, 1, 0, 0), (2, .getfield 88, 3, 1, 3), (5, .ishl, 1, 0, 0), (6, .iconst 1, 1, 1, 0), (7, .isub, 1, 0, 0), (8, .istore_n 3, 1, 0, 0), 
  (9, .iconst 0, 1, 0, 0), (10, .istore 4, 2, 0, 0), (12, .iload 4, 2, 0, 0), (14, .aload_n 2, 1, 0, 0), (15, .getfield 75, 3, 6, 9), (18, .if_icmp .ge 48, 3, 66, 0), (21, .aload_n 0, 1, 0, 0), 
  (22, .iload 4, 2, 0, 0), (24, .invokevirtual 89, 3, 31, 1), (27, .ifCond .eq 33, 3, 60, 0), (30, .aload_n 0, 1, 0, 0), (31, .getfield 15, 3, 3, 1), (34, .iload 4, 2, 0, 0), (36, .iaload, 1, 0, 0), 
  (37, .iload_n 3, 1, 0, 0), (38, .if_icmp .ne 22, 3, 60, 0), (41, .aload_n 0, 1, 0, 0), (42, .dup, 1, 0, 0), (43, .getfield 67, 3, 3, 10), (46, .iconst 1, 1, 1, 0), (47, .iload 4, 2, 0, 0), 
  (49, .ishl, 1, 0, 0), (50, .ior, 1, 0, 0), (51, .putfield 67, 3, 3, 10), (54, .aload_n 0, 1, 0, 0), (55, .iload 4, 2, 0, 0), (57, .invokevirtual 93, 3, 38, 1), (60, .iinc 4 1, 3, 1, 0), 
  (63, .goto (-51), 3, 12, 0), (66, .return_, 1, 0, 0)]
def m_Grope_sendOut : xM := (3, false, none, 5, k_Grope_sendOut)
abbrev i_Grope_sendOut : Nat := 32
def k_Grope_takeAim : xK := [(0, .iconst 0, 1, 0, 0), (1, .istore_n 3, 1, 0, 0), (2, .iload_n 3, 1, 0, 0), (3, .aload_n 2, 1, 0, 0), (4, .getfield 75, 3, 6, 9), (7, .if_icmp .ge 103, 3, 110, 0), 
  (10, .aload_n 0, 1, 0, 0), (11, .getfield 18, 3, 3, 2), (14, .iload_n 3, 1, 0, 0), (15, .iconst (-1), 1, 4, 0), (16, .iastore, 1, 0, 0), (17, .aload_n 0, 1, 0, 0), (18, .getfield 21, 3, 3, 3), 
  (21, .iload_n 3, 1, 0, 0), (22, .iconst 0, 1, 0, 0), (23, .iastore, 1, 0, 0), (24, .iconst 0, 1, 0, 0), (25, .istore 4, 2, 0, 0), (27, .iload 4, 2, 0, 0), (29, .aload_n 1, 1, 0, 0), 
  (30, .getfield 88, 3, 1, 3), (33, .if_icmp .ge 71, 3, 104, 0), (36, .aload_n 0, 1, 0, 0), (37, .iload_n 3, 1, 0, 0), (38, .invokevirtual 89, 3, 31, 1), (41, .ifCond .eq 63, 3, 104, 0), 
  (44, .aload_n 0, 1, 0, 0), (45, .getfield 18, 3, 3, 2), (48, .iload_n 3, 1, 0, 0), (49, .iaload, 1, 0, 0), (50, .iconst (-1), 1, 4, 0), (51, .if_icmp .ne 53, 3, 104, 0), (54, .aload_n 1, 1, 0, 0), 
  (55, .aload_n 0, 1, 0, 0), (56, .getfield 9, 3, 3, 0), (59, .iload_n 3, 1, 0, 0), (60, .iaload, 1, 0, 0), (61, .iload 4, 2, 0, 0), (63, .invokevirtual 82, 3, 8, 2), (66, .istore 5, 2, 0, 0), 
  (68, .aload_n 0, 1, 0, 0), (69, .getfield 15, 3, 3, 1), (72, .iload_n 3, 1, 0, 0), (73, .iaload, 1, 0, 0), (74, .iload 5, 2, 0, 0), (76, .ishr, 1, 0, 0), (77, .iconst 1, 1, 1, 0), 
  (78, .iand, 1, 0, 0), (79, .ifCond .ne 19, 3, 98, 0), (82, .aload_n 0, 1, 0, 0), (83, .getfield 18, 3, 3, 2), (86, .iload_n 3, 1, 0, 0), (87, .iload 5, 2, 0, 0), (89, .iastore, 1, 0, 0), 
  (90, .aload_n 0, 1, 0, 0), (91, .getfield 21, 3, 3, 3), (94, .iload_n 3, 1, 0, 0), (95, .iload 4, 2, 0, 0), (97, .iastore, 1, 0, 0), (98, .iinc 4 1, 3, 1, 0), (101, .goto (-74), 3, 27, 0), 
  (104, .iinc 3 1, 3, 1, 0), (107, .goto (-105), 3, 2, 0), (110, .return_, 1, 0, 0)]
def m_Grope_takeAim : xM := (3, false, none, 6, k_Grope_takeAim)
abbrev i_Grope_takeAim : Nat := 33
def k_Grope_sitDown : xK := [(0, .iconst 0, 1, 0, 0), (1, .istore_n 3, 1, 0, 0), (2, .iload_n 3, 1, 0, 0), (3, .aload_n 1, 1, 0, 0), (4, .getfield 88, 3, 1, 3), (7, .if_icmp .ge 77, 3, 84, 0), 
  (10, .aload_n 0, 1, 0, 0), (11, .getfield 33, 3, 3, 7), (14, .iload_n 3, 1, 0, 0), (15, .iaload, 1, 0, 0), (16, .iconst (-1), 1, 4, 0), (17, .if_icmp .ne 12, 3, 29, 0), (20, .aload_n 0, 1, 0, 0), 
  (21, .aload_n 2, 1, 0, 0), (22, .iload_n 3, 1, 0, 0), (23, .invokevirtual 97, 3, 35, 2), (26, .goto 4, 3, 30, 0), (29, .iconst (-1), 1, 4, 0), (30, .istore 4, 2, 0, 0), (32, .iload 4, 2, 0, 0), 
  (34, .iconst (-1), 1, 4, 0), (35, .if_icmp .eq 43, 3, 78, 0), (38, .aload_n 0, 1, 0, 0), (39, .getfield 33, 3, 3, 7), (42, .iload_n 3, 1, 0, 0), (43, .iload 4, 2, 0, 0), (45, .iastore, 1, 0, 0), 
  (46, .aload_n 0, 1, 0, 0), (47, .getfield 36, 3, 3, 8), (50, .iload_n 3, 1, 0, 0), (51, .aload_n 0, 1, 0, 0), (52, .getfield 47, 3, 3, 11), (55, .iastore, 1, 0, 0), (56, .aload_n 0, 1, 0, 0), 
  (57, .getfield 24, 3, 3, 4), (60, .iload 4, 2, 0, 0), (62, .iload_n 3, 1, 0, 0), (63, .iastore, 1, 0, 0), (64, .aload_n 0, 1, 0, 0), (65, .getfield 18, 3, 3, 2), (68, .iload 4, 2, 0, 0), 
  (70, .iconst (-1), 1, 4, 0), (71, .iastore, 1, 0, 0), (72, .aload_n 0, 1, 0, 0), (73, .iload 4, 2, 0, 0), (75, .invokevirtual 93, 3, 38, 1), (78, .iinc 3 1, 3, 1, 0), (81, .goto (-79), 3, 2, 0), 
  (84, .return_, 1, 0, 0)]
def m_Grope_sitDown : xM := (3, false, none, 5, k_Grope_sitDown)
abbrev i_Grope_sitDown : Nat := 34
def k_Grope_nearest : xK := [(0, .iconst (-1), 1, 4, 0), (1, .istore_n 3, 1, 0, 0), (2, .iconst 0, 1, 0, 0), (3, .istore 4, 2, 0, 0), (5, .iload 4, 2, 0, 0), (7, .aload_n 1, 1, 0, 0), 
  (8, .getfield 75, 3, 6, 9), (11, .if_icmp .ge 44, 3, 55, 0), (14, .aload_n 0, 1, 0, 0), (15, .getfield 18, 3, 3, 2), (18, .iload 4, 2, 0, 0), (20, .iaload, 1, 0, 0), (21, .iload_n 2, 1, 0, 0), 
  (22, .if_icmp .ne 27, 3, 49, 0), (25, .iload_n 3, 1, 0, 0), (26, .iconst (-1), 1, 4, 0), (27, .if_icmp .eq 19, 3, 46, 0), (30, .aload_n 0, 1, 0, 0), (31, .getfield 21, 3, 3, 3), (34, .iload 4, 2, 0, 0), 
  (36, .iaload, 1, 0, 0), (37, .aload_n 0, 1, 0, 0), (38, .getfield 21, 3, 3, 3), (41, .iload_n 3, 1, 0, 0), (42, .iaload, 1, 0, 0), (43, .if_icmp .ge 6, 3, 49, 0), (46, .iload 4, 2, 0, 0), 
  (48, .istore_n 3, 1, 0, 0), (49, .iinc 4 1, 3, 1, 0), (52, .goto (-47), 3, 5, 0), (55, .iload_n 3, 1, 0, 0), (56, .ireturn, 1, 0, 0)]
def m_Grope_nearest : xM := (3, false, (some .int), 5, k_Grope_nearest)
abbrev i_Grope_nearest : Nat := 35
def k_Grope_bump : xK := [(0, .iconst 0, 1, 0, 0), (1, .istore_n 2, 1, 0, 0), (2, .iload_n 2, 1, 0, 0), (3, .aload_n 1, 1, 0, 0), (4, .getfield 75, 3, 6, 9), (7, .if_icmp .ge 50, 3, 57, 0), 
  (10, .aload_n 0, 1, 0, 0), (11, .getfield 18, 3, 3, 2), (14, .iload_n 2, 1, 0, 0), (15, .iaload, 1, 0, 0), (16, .istore_n 3, 1, 0, 0), (17, .iload_n 3, 1, 0, 0), (18, .iconst (-1), 1, 4, 0), 
  (19, .if_icmp .eq 32, 3, 51, 0), (22, .aload_n 0, 1, 0, 0), (23, .getfield 15, 3, 3, 1), (26, .iload_n 2, 1, 0, 0), (27, .dup2, 1, 0, 0), (28, .iaload, 1, 0, 0), (29, .iconst 1, 1, 1, 0), 
  (30, .iload_n 3, 1, 0, 0), (31, .ishl, 1, 0, 0), (32, .ior, 1, 0, 0), (33, .iastore, 1, 0, 0), (34, .aload_n 0, 1, 0, 0), (35, .getfield 9, 3, 3, 0), (38, .iload_n 2, 1, 0, 0), (39, .iload_n 3, 1, 0, 0), 
  (40, .iastore, 1, 0, 0), (41, .aload_n 0, 1, 0, 0), (42, .getfield 27, 3, 3, 5), (45, .iload_n 2, 1, 0, 0), (46, .dup2, 1, 0, 0), (47, .iaload, 1, 0, 0), (48, .iconst 1, 1, 1, 0), 
  (49, .iadd, 1, 0, 0), (50, .iastore, 1, 0, 0), (51, .iinc 2 1, 3, 1, 0), (54, .goto (-52), 3, 2, 0), (57, .return_, 1, 0, 0)]
def m_Grope_bump : xM := (3, false, none, 4, k_Grope_bump)
abbrev i_Grope_bump : Nat := 36
def k_Grope_ring : xK := [(0, .iconst 0, 1, 0, 0), (1, .istore_n 3, 1, 0, 0), (2, .iload_n 3, 1, 0, 0), (3, .aload_n 2, 1, 0, 0), (4, .getfield 75, 3, 6, 9), (7, .if_icmp .ge 69, 3, 76, 0), 
  (10, .iconst 0, 1, 0, 0), (11, .istore 4, 2, 0, 0), (13, .iload 4, 2, 0, 0), (15, .aload_n 1, 1, 0, 0), (16, .getfield 88, 3, 1, 3), (19, .if_icmp .ge 51, 3, 70, 0), (22, .aload_n 0, 1, 0, 0), 
  (23, .getfield 36, 3, 3, 8), (26, .iload 4, 2, 0, 0), (28, .iaload, 1, 0, 0), (29, .aload_n 0, 1, 0, 0), (30, .getfield 47, 3, 3, 11), (33, .if_icmp .ne 31, 3, 64, 0), (36, .aload_n 2, 1, 0, 0), 
  (37, .iload_n 3, 1, 0, 0), (38, .aload_n 1, 1, 0, 0), (39, .getfield 101, 3, 1, 0), (42, .iload 4, 2, 0, 0), (44, .iaload, 1, 0, 0), (45, .invokevirtual 104, 3, 53, 2), (48, .ifCond .eq 16, 3, 64, 0), 
  (51, .aload_n 0, 1, 0, 0), (52, .getfield 15, 3, 3, 1), (55, .iload_n 3, 1, 0, 0), (56, .dup2, 1, 0, 0), (57, .iaload, 1, 0, 0), (58, .iconst 1, 1, 1, 0), (59, .iload 4, 2, 0, 0), 
  (61, .ishl, 1, 0, 0), (62, .ior, 1, 0, 0), (63, .iastore, 1, 0, 0), (64, .iinc 4 1, 3, 1, 0), (67, .goto (-54), 3, 13, 0), (70, .iinc 3 1, 3, 1, 0), (73, .goto (-71), 3, 2, 0), (76, .return_, 1, 0, 0)]
def m_Grope_ring : xM := (3, false, none, 5, k_Grope_ring)
abbrev i_Grope_ring : Nat := 37
def k_Grope_settle : xK := [(0, .aload_n 0, 1, 0, 0), (1, .dup, 1, 0, 0), (2, .getfield 43, 3, 3, 9), (5, .iconst 1, 1, 1, 0), (6, .iload_n 1, 1, 0, 0), (7, .ishl, 1, 0, 0), (8, .iconst (-1), 1, 4, 0), 
  (9, .ixor, 1, 0, 0), (10, .iand, 1, 0, 0), (11, .putfield 43, 3, 3, 9), (14, .aload_n 0, 1, 0, 0), (15, .getfield 30, 3, 3, 6), (18, .iload_n 1, 1, 0, 0), (19, .aload_n 0, 1, 0, 0), 
  (20, .getfield 47, 3, 3, 11), (23, .iastore, 1, 0, 0), (24, .return_, 1, 0, 0)]
def m_Grope_settle : xM := (3, false, none, 2, k_Grope_settle)
abbrev i_Grope_settle : Nat := 38
def k_History_init : xK := [(0, .aload_n 0, 1, 0, 0), (1, .invokespecial 3, 3, 1000, 0), (4, .aload_n 0, 1, 0, 0), (5, .iconst 5, 1, 7, 0), (6, .anewarray 11, 3, 2, 0), (9, .putfield 13, 3, 4, 0), 
  (12, .iconst 0, 1, 0, 0), (13, .istore_n 1, 1, 0, 0), (14, .iload_n 1, 1, 0, 0), (15, .iconst 5, 1, 7, 0), (16, .if_icmp .ge 22, 3, 38, 0), (19, .aload_n 0, 1, 0, 0), (20, .getfield 13, 3, 4, 0), 
  (23, .iload_n 1, 1, 0, 0), (24, .new 11, 3, 2, 0), (27, .dup, 1, 0, 0), (28, .invokespecial 17, 3, 14, 0), (31, .aastore, 1, 0, 0), (32, .iinc 1 1, 3, 1, 0), (35, .goto (-21), 3, 14, 0), 
  (38, .return_, 1, 0, 0)]
def m_History_init : xM := (4, true, none, 2, k_History_init)
abbrev i_History_init : Nat := 39
def k_History_prepare : xK := [(0, .aload_n 0, 1, 0, 0), (1, .getfield 13, 3, 4, 0), (4, .aload_n 0, 1, 0, 0), (5, .getfield 18, 3, 4, 1), (8, .aaload, 1, 0, 0), (9, .aload_n 1, 1, 0, 0), 
  (10, .invokevirtual 22, 3, 15, 1), (13, .return_, 1, 0, 0)]
def m_History_prepare : xM := (4, false, none, 2, k_History_prepare)
abbrev i_History_prepare : Nat := 40
def k_History_settle : xK := [(0, .iload_n 1, 1, 0, 0), (1, .ifCond .lt 29, 3, 30, 0), (4, .aload_n 0, 1, 0, 0), (5, .aload_n 0, 1, 0, 0), (6, .getfield 18, 3, 4, 1), (9, .iconst 1, 1, 1, 0), 
  (10, .iadd, 1, 0, 0), (11, .iconst 5, 1, 7, 0), (12, .irem, 1, 0, 0), (13, .putfield 18, 3, 4, 1), (16, .aload_n 0, 1, 0, 0), (17, .aload_n 0, 1, 0, 0), (18, .getfield 26, 3, 4, 2), 
  (21, .iconst 1, 1, 1, 0), (22, .iadd, 1, 0, 0), (23, .iconst 4, 1, 9, 0), (24, .invokestatic 29, 3, 163, 2), (27, .putfield 26, 3, 4, 2), (30, .iload_n 1, 1, 0, 0), (31, .ireturn, 1, 0, 0)]
def m_History_settle : xM := (4, false, (some .int), 2, k_History_settle)
abbrev i_History_settle : Nat := 41
def k_History_goBack : xK := [(0, .aload_n 0, 1, 0, 0), (1, .getfield 26, 3, 4, 2), (4, .iconst 1, 1, 1, 0), (5, .if_icmp .ge 6, 3, 11, 0), (8, .ldc 35, 2, 49, 0), (10, .ireturn, 1, 0, 0), 
  (11, .aload_n 0, 1, 0, 0), (12, .aload_n 0, 1, 0, 0), (13, .getfield 18, 3, 4, 1), (16, .iconst 5, 1, 7, 0), (17, .iadd, 1, 0, 0), (18, .iconst 1, 1, 1, 0), (19, .isub, 1, 0, 0), 
  (20, .iconst 5, 1, 7, 0), (21, .irem, 1, 0, 0), (22, .putfield 18, 3, 4, 1), (25, .aload_n 0, 1, 0, 0), (26, .dup, 1, 0, 0), (27, .getfield 26, 3, 4, 2), (30, .iconst 1, 1, 1, 0), 
  (31, .isub, 1, 0, 0), (32, .putfield 26, 3, 4, 2), (35, .aload_n 1, 1, 0, 0), (36, .aload_n 0, 1, 0, 0), (37, .getfield 13, 3, 4, 0), (40, .aload_n 0, 1, 0, 0), (41, .getfield 18, 3, 4, 1), 
  (44, .aaload, 1, 0, 0), (45, .invokevirtual 22, 3, 15, 1), (48, .aload_n 0, 1, 0, 0), (49, .getfield 26, 3, 4, 2), (52, .ireturn, 1, 0, 0)]
def m_History_goBack : xM := (4, false, (some .int), 2, k_History_goBack)
abbrev i_History_goBack : Nat := 42
def k_Orders_init : xK := [(0, .aload_n 0, 1, 0, 0), (1, .invokespecial 3, 3, 1000, 0), (4, .aload_n 0, 1, 0, 0), (5, .new 9, 3, 2, 0), (8, .dup, 1, 0, 0), (9, .invokespecial 11, 3, 14, 0), 
  (12, .putfield 12, 3, 5, 0), (15, .return_, 1, 0, 0)]
def m_Orders_init : xM := (5, true, none, 1, k_Orders_init)
abbrev i_Orders_init : Nat := 43
def k_Orders_rehearse : xK := [(0, .aload_n 0, 1, 0, 0), (1, .getfield 12, 3, 5, 0), (4, .aload_n 2, 1, 0, 0), (5, .invokevirtual 18, 3, 15, 1), (8, .aload_n 0, 1, 0, 0), (9, .iconst 0, 1, 0, 0), 
  (10, .putfield 22, 3, 5, 1), (13, .aload_n 0, 1, 0, 0), (14, .iconst 0, 1, 0, 0), (15, .putfield 26, 3, 5, 5), (18, .aload_n 0, 1, 0, 0), (19, .iconst 0, 1, 0, 0), (20, .putfield 29, 3, 5, 3), 
  (23, .iconst 0, 1, 0, 0), (24, .istore 4, 2, 0, 0), (26, .iload 4, 2, 0, 0), (28, .bipush 60, 2, 12, 0), (30, .if_icmp .ge 88, 3, 118, 0), (33, .aload_n 0, 1, 0, 0), (34, .getfield 26, 3, 5, 5), 
  (37, .aload_n 1, 1, 0, 0), (38, .getfield 32, 3, 7, 1), (41, .if_icmp .ge 77, 3, 118, 0), (44, .aload_n 0, 1, 0, 0), (45, .getfield 29, 3, 5, 3), (48, .ifCond .ne 70, 3, 118, 0), 
  (51, .aload_n 0, 1, 0, 0), (52, .aload_n 0, 1, 0, 0), (53, .getfield 26, 3, 5, 5), (56, .putfield 37, 3, 5, 2), (59, .aload_n 0, 1, 0, 0), (60, .aload_n 1, 1, 0, 0), (61, .invokevirtual 40, 3, 46, 1), 
  (64, .ifCond .ne 24, 3, 88, 0), (67, .aload_n 0, 1, 0, 0), (68, .iconst 1, 1, 1, 0), (69, .putfield 29, 3, 5, 3), (72, .aload_n 0, 1, 0, 0), (73, .aload_n 0, 1, 0, 0), (74, .getfield 26, 3, 5, 5), 
  (77, .aload_n 0, 1, 0, 0), (78, .getfield 37, 3, 5, 2), (81, .isub, 1, 0, 0), (82, .putfield 44, 3, 5, 4), (85, .goto 27, 3, 112, 0), (88, .aload_n 0, 1, 0, 0), (89, .aload_n 0, 1, 0, 0), 
  (90, .getfield 12, 3, 5, 0), (93, .aload_n 0, 1, 0, 0), (94, .getfield 47, 3, 5, 6), (97, .aload_n 0, 1, 0, 0), (98, .getfield 50, 3, 5, 7), (101, .aload_n 0, 1, 0, 0), (102, .getfield 53, 3, 5, 8), 
  (105, .aload_n 3, 1, 0, 0), (106, .invokevirtual 56, 3, 24, 4), (109, .invokevirtual 60, 3, 45, 1), (112, .iinc 4 1, 3, 1, 0), (115, .goto (-89), 3, 26, 0), (118, .return_, 1, 0, 0)]
def m_Orders_rehearse : xM := (5, false, none, 5, k_Orders_rehearse)
abbrev i_Orders_rehearse : Nat := 44
def k_Orders_judge : xK := [(0, .iload_n 1, 1, 0, 0), (1, .ifCond .ge 16, 3, 17, 0), (4, .aload_n 0, 1, 0, 0), (5, .iconst 2, 1, 2, 0), (6, .putfield 29, 3, 5, 3), (9, .aload_n 0, 1, 0, 0), 
  (10, .iload_n 1, 1, 0, 0), (11, .putfield 44, 3, 5, 4), (14, .goto 13, 3, 27, 0), (17, .aload_n 0, 1, 0, 0), (18, .dup, 1, 0, 0), (19, .getfield 22, 3, 5, 1), (22, .iconst 1, 1, 1, 0), 
  (23, .iadd, 1, 0, 0), (24, .putfield 22, 3, 5, 1), (27, .return_, 1, 0, 0)]
def m_Orders_judge : xM := (5, false, none, 2, k_Orders_judge)
abbrev i_Orders_judge : Nat := 45
def k_Orders_readOrder : xK := [(0, .aload_n 0, 1, 0, 0), (1, .aload_n 1, 1, 0, 0), (2, .aload_n 0, 1, 0, 0), (3, .getfield 26, 3, 5, 5), (6, .invokevirtual 64, 3, 67, 1), (9, .putfield 47, 3, 5, 6), 
  (12, .aload_n 0, 1, 0, 0), (13, .iconst 0, 1, 0, 0), (14, .putfield 50, 3, 5, 7), (17, .aload_n 0, 1, 0, 0), (18, .iconst 0, 1, 0, 0), (19, .putfield 53, 3, 5, 8), (22, .aload_n 0, 1, 0, 0), 
  (23, .getfield 47, 3, 5, 6), (26, .lookupswitch 183 #[(98, 50), (99, 50), (103, 165), (112, 93), (115, 165)], 50, 1, 0), (76, .aload_n 0, 1, 0, 0), (77, .dup, 1, 0, 0), (78, .getfield 26, 3, 5, 5), 
  (81, .iconst 1, 1, 1, 0), (82, .iadd, 1, 0, 0), (83, .putfield 26, 3, 5, 5), (86, .aload_n 0, 1, 0, 0), (87, .aload_n 0, 1, 0, 0), (88, .aload_n 1, 1, 0, 0), (89, .invokevirtual 68, 3, 48, 1), 
  (92, .putfield 50, 3, 5, 7), (95, .aload_n 0, 1, 0, 0), (96, .getfield 50, 3, 5, 7), (99, .iconst (-1), 1, 4, 0), (100, .if_icmp .eq 17, 3, 117, 0), (103, .aload_n 0, 1, 0, 0), (104, .aload_n 1, 1, 0, 0), 
  (105, .bipush 59, 2, 17, 0), (107, .invokevirtual 72, 3, 47, 2), (110, .ifCond .eq 7, 3, 117, 0), (113, .iconst 1, 1, 1, 0), (114, .goto 4, 3, 118, 0), (117, .iconst 0, 1, 0, 0), 
  (118, .ireturn, 1, 0, 0), (119, .aload_n 0, 1, 0, 0), (120, .dup, 1, 0, 0), (121, .getfield 26, 3, 5, 5), (124, .iconst 1, 1, 1, 0), (125, .iadd, 1, 0, 0), (126, .putfield 26, 3, 5, 5), 
  (129, .aload_n 0, 1, 0, 0), (130, .aload_n 0, 1, 0, 0), (131, .aload_n 1, 1, 0, 0), (132, .invokevirtual 68, 3, 48, 1), (135, .putfield 50, 3, 5, 7), (138, .aload_n 0, 1, 0, 0), (139, .getfield 50, 3, 5, 7), 
  (142, .iconst (-1), 1, 4, 0), (143, .if_icmp .eq 13, 3, 156, 0), (146, .aload_n 0, 1, 0, 0), (147, .aload_n 1, 1, 0, 0), (148, .bipush 44, 2, 26, 0), (150, .invokevirtual 72, 3, 47, 2), 
  (153, .ifCond .ne 5, 3, 158, 0), (156, .iconst 0, 1, 0, 0), (157, .ireturn, 1, 0, 0), (158, .aload_n 0, 1, 0, 0), (159, .aload_n 0, 1, 0, 0), (160, .aload_n 1, 1, 0, 0), (161, .invokevirtual 68, 3, 48, 1), 
  (164, .putfield 53, 3, 5, 8), (167, .aload_n 0, 1, 0, 0), (168, .getfield 53, 3, 5, 8), (171, .iconst (-1), 1, 4, 0), (172, .if_icmp .eq 17, 3, 189, 0), (175, .aload_n 0, 1, 0, 0), 
  (176, .aload_n 1, 1, 0, 0), (177, .bipush 59, 2, 17, 0), (179, .invokevirtual 72, 3, 47, 2), (182, .ifCond .eq 7, 3, 189, 0), (185, .iconst 1, 1, 1, 0), (186, .goto 4, 3, 190, 0), 
  (189, .iconst 0, 1, 0, 0), (190, .ireturn, 1, 0, 0), (191, .aload_n 0, 1, 0, 0), (192, .dup, 1, 0, 0), (193, .getfield 26, 3, 5, 5), (196, .iconst 1, 1, 1, 0), (197, .iadd, 1, 0, 0), 
  (198, .putfield 26, 3, 5, 5), (201, .aload_n 0, 1, 0, 0), (202, .aload_n 1, 1, 0, 0), (203, .bipush 59, 2, 17, 0), (205, .invokevirtual 72, 3, 47, 2), (208, .ireturn, 1, 0, 0), (209, .iconst 0, 1, 0, 0), 
  (210, .ireturn, 1, 0, 0)]
def m_Orders_readOrder : xM := (5, false, (some .boolean), 2, k_Orders_readOrder)
abbrev i_Orders_readOrder : Nat := 46
def k_Orders_passes : xK := [(0, .aload_n 1, 1, 0, 0), (1, .aload_n 0, 1, 0, 0), (2, .getfield 26, 3, 5, 5), (5, .invokevirtual 64, 3, 67, 1), (8, .iload_n 2, 1, 0, 0), (9, .if_icmp .eq 5, 3, 14, 0), 
  (12, .iconst 0, 1, 0, 0), (13, .ireturn, 1, 0, 0), (14, .aload_n 0, 1, 0, 0), (15, .dup, 1, 0, 0), (16, .getfield 26, 3, 5, 5), (19, .iconst 1, 1, 1, 0), (20, .iadd, 1, 0, 0), (21, .putfield 26, 3, 5, 5), 
  (24, .iconst 1, 1, 1, 0), (25, .ireturn, 1, 0, 0)]
def m_Orders_passes : xM := (5, false, (some .boolean), 3, k_Orders_passes)
abbrev i_Orders_passes : Nat := 47
def k_Orders_readNumber : xK := [(0, .iconst (-1), 1, 4, 0), (1, .istore_n 2, 1, 0, 0), (2, .iconst 0, 1, 0, 0), (3, .istore_n 3, 1, 0, 0), (4, .iload_n 3, 1, 0, 0), (5, .iconst 3, 1, 5, 0), 
  (6, .if_icmp .ge 58, 3, 64, 0), (9, .aload_n 1, 1, 0, 0), (10, .aload_n 0, 1, 0, 0), (11, .getfield 26, 3, 5, 5), (14, .invokevirtual 64, 3, 67, 1), (17, .istore 4, 2, 0, 0), (19, .iload 4, 2, 0, 0), 
  (21, .bipush 48, 2, 18, 0), (23, .bipush 57, 2, 27, 0), (25, .invokestatic 76, 3, 93, 3), (28, .ifCond .ne 5, 3, 33, 0), (31, .iload_n 2, 1, 0, 0), (32, .ireturn, 1, 0, 0), (33, .iload_n 2, 1, 0, 0), 
  (34, .iconst 0, 1, 0, 0), (35, .invokestatic 80, 3, 162, 2), (38, .bipush 10, 2, 20, 0), (40, .imul, 1, 0, 0), (41, .iload 4, 2, 0, 0), (43, .iadd, 1, 0, 0), (44, .bipush 48, 2, 18, 0), 
  (46, .isub, 1, 0, 0), (47, .istore_n 2, 1, 0, 0), (48, .aload_n 0, 1, 0, 0), (49, .dup, 1, 0, 0), (50, .getfield 26, 3, 5, 5), (53, .iconst 1, 1, 1, 0), (54, .iadd, 1, 0, 0), (55, .putfield 26, 3, 5, 5), 
  (58, .iinc 3 1, 3, 1, 0), (61, .goto (-57), 3, 4, 0), (64, .iload_n 2, 1, 0, 0), (65, .ireturn, 1, 0, 0)]
def m_Orders_readNumber : xM := (5, false, (some .int), 5, k_Orders_readNumber)
abbrev i_Orders_readNumber : Nat := 48
def k_Players_init : xK := [(0, .aload_n 0, 1, 0, 0), (1, .invokespecial 3, 3, 1000, 0), (4, .aload_n 0, 1, 0, 0), (5, .bipush 12, 2, 3, 0), (7, .newarray .int, 2, 0, 0), (9, .putfield 9, 3, 6, 0), 
  (12, .aload_n 0, 1, 0, 0), (13, .bipush 12, 2, 3, 0), (15, .newarray .int, 2, 0, 0), (17, .putfield 15, 3, 6, 1), (20, .aload_n 0, 1, 0, 0), (21, .bipush 12, 2, 3, 0), (23, .newarray .int, 2, 0, 0), 
  (25, .putfield 18, 3, 6, 2), (28, .aload_n 0, 1, 0, 0), (29, .bipush 12, 2, 3, 0), (31, .newarray .int, 2, 0, 0), (33, .putfield 21, 3, 6, 3), (36, .aload_n 0, 1, 0, 0), (37, .bipush 12, 2, 3, 0), 
  (39, .newarray .int, 2, 0, 0), (41, .putfield 24, 3, 6, 4), (44, .aload_n 0, 1, 0, 0), (45, .bipush 12, 2, 3, 0), (47, .newarray .int, 2, 0, 0), (49, .putfield 27, 3, 6, 5), (52, .aload_n 0, 1, 0, 0), 
  (53, .bipush 12, 2, 3, 0), (55, .newarray .int, 2, 0, 0), (57, .putfield 30, 3, 6, 6), (60, .aload_n 0, 1, 0, 0), (61, .bipush 12, 2, 3, 0), (63, .newarray .int, 2, 0, 0), (65, .putfield 33, 3, 6, 7), 
  (68, .return_, 1, 0, 0)]
def m_Players_init : xM := (6, true, none, 1, k_Players_init)
abbrev i_Players_init : Nat := 49
def k_Players_copyFrom : xK := [(0, .aload_n 1, 1, 0, 0), (1, .getfield 9, 3, 6, 0), (4, .iconst 0, 1, 0, 0), (5, .aload_n 0, 1, 0, 0), (6, .getfield 9, 3, 6, 0), (9, .iconst 0, 1, 0, 0), 
  (10, .bipush 12, 2, 3, 0), (12, .invokestatic 36, 3, 1001, 0), (15, .aload_n 1, 1, 0, 0), (16, .getfield 15, 3, 6, 1), (19, .iconst 0, 1, 0, 0), (20, .aload_n 0, 1, 0, 0), (21, .getfield 15, 3, 6, 1), 
  (24, .iconst 0, 1, 0, 0), (25, .bipush 12, 2, 3, 0), (27, .invokestatic 36, 3, 1001, 0), (30, .aload_n 1, 1, 0, 0), (31, .getfield 18, 3, 6, 2), (34, .iconst 0, 1, 0, 0), (35, .aload_n 0, 1, 0, 0), 
  (36, .getfield 18, 3, 6, 2), (39, .iconst 0, 1, 0, 0), (40, .bipush 12, 2, 3, 0), (42, .invokestatic 36, 3, 1001, 0), (45, .aload_n 1, 1, 0, 0), (46, .getfield 21, 3, 6, 3), (49, .iconst 0, 1, 0, 0), 
  (50, .aload_n 0, 1, 0, 0), (51, .getfield 21, 3, 6, 3), (54, .iconst 0, 1, 0, 0), (55, .bipush 12, 2, 3, 0), (57, .invokestatic 36, 3, 1001, 0), (60, .aload_n 1, 1, 0, 0), (61, .getfield 24, 3, 6, 4), 
  (64, .iconst 0, 1, 0, 0), (65, .aload_n 0, 1, 0, 0), (66, .getfield 24, 3, 6, 4), (69, .iconst 0, 1, 0, 0), (70, .bipush 12, 2, 3, 0), (72, .invokestatic 36, 3, 1001, 0), (75, .aload_n 1, 1, 0, 0), 
  (76, .getfield 27, 3, 6, 5), (79, .iconst 0, 1, 0, 0), (80, .aload_n 0, 1, 0, 0), (81, .getfield 27, 3, 6, 5), (84, .iconst 0, 1, 0, 0), (85, .bipush 12, 2, 3, 0), (87, .invokestatic 36, 3, 1001, 0), 
  (90, .aload_n 1, 1, 0, 0), (91, .getfield 30, 3, 6, 6), (94, .iconst 0, 1, 0, 0), (95, .aload_n 0, 1, 0, 0), (96, .getfield 30, 3, 6, 6), (99, .iconst 0, 1, 0, 0), (100, .bipush 12, 2, 3, 0), 
  (102, .invokestatic 36, 3, 1001, 0), (105, .aload_n 1, 1, 0, 0), (106, .getfield 33, 3, 6, 7), (109, .iconst 0, 1, 0, 0), (110, .aload_n 0, 1, 0, 0), (111, .getfield 33, 3, 6, 7), 
  (114, .iconst 0, 1, 0, 0), (115, .bipush 12, 2, 3, 0), (117, .invokestatic 36, 3, 1001, 0), (120, .aload_n 0, 1, 0, 0), (121, .aload_n 1, 1, 0, 0), (122, .getfield 42, 3, 6, 8), (125, .putfield 42, 3, 6, 8), 
  (128, .aload_n 0, 1, 0, 0), (129, .aload_n 1, 1, 0, 0), (130, .getfield 46, 3, 6, 9), (133, .putfield 46, 3, 6, 9), (136, .return_, 1, 0, 0)]
def m_Players_copyFrom : xM := (6, false, none, 2, k_Players_copyFrom)
abbrev i_Players_copyFrom : Nat := 50
def k_Players_has : xK := [(0, .iload_n 1, 1, 0, 0), (1, .ifCond .lt 15, 3, 16, 0), (4, .iload_n 1, 1, 0, 0), (5, .aload_n 0, 1, 0, 0), (6, .getfield 46, 3, 6, 9), (9, .if_icmp .ge 7, 3, 16, 0), 
  (12, .iconst 1, 1, 1, 0), (13, .goto 4, 3, 17, 0), (16, .iconst 0, 1, 0, 0), (17, .ireturn, 1, 0, 0)]
def m_Players_has : xM := (6, false, (some .boolean), 2, k_Players_has)
abbrev i_Players_has : Nat := 51
def k_Players_isPlaying : xK := [(0, .aload_n 0, 1, 0, 0), (1, .getfield 42, 3, 6, 8), (4, .iload_n 1, 1, 0, 0), (5, .ishr, 1, 0, 0), (6, .iconst 1, 1, 1, 0), (7, .iand, 1, 0, 0), (8, .iconst 1, 1, 1, 0), 
  (9, .if_icmp .ne 7, 3, 16, 0), (12, .iconst 1, 1, 1, 0), (13, .goto 4, 3, 17, 0), (16, .iconst 0, 1, 0, 0), (17, .ireturn, 1, 0, 0)]
def m_Players_isPlaying : xM := (6, false, (some .boolean), 2, k_Players_isPlaying)
abbrev i_Players_isPlaying : Nat := 52
def k_Players_hearsTone : xK := [(0, .aload_n 0, 1, 0, 0), (1, .getfield 15, 3, 6, 1), (4, .iload_n 1, 1, 0, 0), (5, .iaload, 1, 0, 0), (6, .iload_n 2, 1, 0, 0), (7, .ishr, 1, 0, 0), 
  (8, .iconst 1, 1, 1, 0), (9, .iand, 1, 0, 0), (10, .iconst 1, 1, 1, 0), (11, .if_icmp .ne 7, 3, 18, 0), (14, .iconst 1, 1, 1, 0), (15, .goto 4, 3, 19, 0), (18, .iconst 0, 1, 0, 0), 
  (19, .ireturn, 1, 0, 0)]
def m_Players_hearsTone : xM := (6, false, (some .boolean), 3, k_Players_hearsTone)
abbrev i_Players_hearsTone : Nat := 53
def k_Players_add : xK := [(0, .aload_n 0, 1, 0, 0), (1, .getfield 46, 3, 6, 9), (4, .bipush 12, 2, 3, 0), (6, .if_icmp .lt 6, 3, 12, 0), (9, .ldc 49, 2, 47, 0), (11, .ireturn, 1, 0, 0), 
  (12, .aload_n 0, 1, 0, 0), (13, .getfield 9, 3, 6, 0), (16, .aload_n 0, 1, 0, 0), (17, .getfield 46, 3, 6, 9), (20, .iload_n 1, 1, 0, 0), (21, .iastore, 1, 0, 0), (22, .aload_n 0, 1, 0, 0), 
  (23, .getfield 15, 3, 6, 1), (26, .aload_n 0, 1, 0, 0), (27, .getfield 46, 3, 6, 9), (30, .iload_n 2, 1, 0, 0), (31, .iastore, 1, 0, 0), (32, .aload_n 0, 1, 0, 0), (33, .getfield 18, 3, 6, 2), 
  (36, .aload_n 0, 1, 0, 0), (37, .getfield 46, 3, 6, 9), (40, .iconst 0, 1, 0, 0), (41, .iastore, 1, 0, 0), (42, .aload_n 0, 1, 0, 0), (43, .getfield 21, 3, 6, 3), (46, .aload_n 0, 1, 0, 0), 
  (47, .getfield 46, 3, 6, 9), (50, .iconst 0, 1, 0, 0), (51, .iastore, 1, 0, 0), (52, .aload_n 0, 1, 0, 0), (53, .getfield 24, 3, 6, 4), (56, .aload_n 0, 1, 0, 0), (57, .getfield 46, 3, 6, 9), 
  (60, .iconst 0, 1, 0, 0), (61, .iastore, 1, 0, 0), (62, .aload_n 0, 1, 0, 0), (63, .getfield 27, 3, 6, 5), (66, .aload_n 0, 1, 0, 0), (67, .getfield 46, 3, 6, 9), (70, .iconst 0, 1, 0, 0), 
  (71, .iastore, 1, 0, 0), (72, .aload_n 0, 1, 0, 0), (73, .getfield 30, 3, 6, 6), (76, .aload_n 0, 1, 0, 0), (77, .getfield 46, 3, 6, 9), (80, .iconst 0, 1, 0, 0), (81, .iastore, 1, 0, 0), 
  (82, .aload_n 0, 1, 0, 0), (83, .getfield 33, 3, 6, 7), (86, .aload_n 0, 1, 0, 0), (87, .getfield 46, 3, 6, 9), (90, .iconst 0, 1, 0, 0), (91, .iastore, 1, 0, 0), (92, .aload_n 0, 1, 0, 0), 
  (93, .dup, 1, 0, 0), (94, .getfield 42, 3, 6, 8), (97, .iconst 1, 1, 1, 0), (98, .aload_n 0, 1, 0, 0), (99, .getfield 46, 3, 6, 9), (102, .ishl, 1, 0, 0), (103, .ior, 1, 0, 0), (104, .putfield 42, 3, 6, 8), 
  (107, .aload_n 0, 1, 0, 0), (108, .dup, 1, 0, 0), (109, .getfield 46, 3, 6, 9), (112, .iconst 1, 1, 1, 0), (113, .iadd, 1, 0, 0), (114, .putfield 46, 3, 6, 9), (117, .aload_n 0, 1, 0, 0), 
  (118, .getfield 46, 3, 6, 9), (121, .iconst 1, 1, 1, 0), (122, .isub, 1, 0, 0), (123, .ireturn, 1, 0, 0)]
def m_Players_add : xM := (6, false, (some .int), 3, k_Players_add)
abbrev i_Players_add : Nat := 54
def k_Players_lineUp : xK := [(0, .iconst 0, 1, 0, 0), (1, .istore_n 2, 1, 0, 0), (2, .iconst 0, 1, 0, 0), (3, .istore_n 3, 1, 0, 0), (4, .iload_n 3, 1, 0, 0), (5, .aload_n 0, 1, 0, 0), 
  (6, .getfield 46, 3, 6, 9), (9, .if_icmp .ge 32, 3, 41, 0), (12, .aload_n 0, 1, 0, 0), (13, .iload_n 3, 1, 0, 0), (14, .invokevirtual 50, 3, 52, 1), (17, .ifCond .eq 18, 3, 35, 0), 
  (20, .aload_n 0, 1, 0, 0), (21, .getfield 18, 3, 6, 2), (24, .iload_n 3, 1, 0, 0), (25, .aload_n 1, 1, 0, 0), (26, .iconst 0, 1, 0, 0), (27, .iload_n 2, 1, 0, 0), (28, .invokevirtual 54, 3, 8, 2), 
  (31, .iastore, 1, 0, 0), (32, .iinc 2 1, 3, 1, 0), (35, .iinc 3 1, 3, 1, 0), (38, .goto (-34), 3, 4, 0), (41, .return_, 1, 0, 0)]
def m_Players_lineUp : xM := (6, false, none, 4, k_Players_lineUp)
abbrev i_Players_lineUp : Nat := 55
def k_Players_walk : xK := [(0, .iconst 0, 1, 0, 0), (1, .istore_n 3, 1, 0, 0), (2, .iload_n 3, 1, 0, 0), (3, .aload_n 0, 1, 0, 0), (4, .getfield 46, 3, 6, 9), (7, .if_icmp .ge 56, 3, 63, 0), 
  (10, .aload_n 0, 1, 0, 0), (11, .iload_n 3, 1, 0, 0), (12, .invokevirtual 50, 3, 52, 1), (15, .ifCond .eq 42, 3, 57, 0), (18, .aload_n 0, 1, 0, 0), (19, .getfield 9, 3, 6, 0), (22, .iload_n 3, 1, 0, 0), 
  (23, .iaload, 1, 0, 0), (24, .iload_n 2, 1, 0, 0), (25, .imul, 1, 0, 0), (26, .istore 4, 2, 0, 0), (28, .aload_n 0, 1, 0, 0), (29, .getfield 18, 3, 6, 2), (32, .iload_n 3, 1, 0, 0), 
  (33, .aload_n 1, 1, 0, 0), (34, .aload_n 0, 1, 0, 0), (35, .getfield 18, 3, 6, 2), (38, .iload_n 3, 1, 0, 0), (39, .iaload, 1, 0, 0), (40, .iload 4, 2, 0, 0), (42, .invokevirtual 54, 3, 8, 2), 
  (45, .iastore, 1, 0, 0), (46, .aload_n 0, 1, 0, 0), (47, .getfield 27, 3, 6, 5), (50, .iload_n 3, 1, 0, 0), (51, .dup2, 1, 0, 0), (52, .iaload, 1, 0, 0), (53, .iload 4, 2, 0, 0), 
  (55, .iadd, 1, 0, 0), (56, .iastore, 1, 0, 0), (57, .iinc 3 1, 3, 1, 0), (60, .goto (-58), 3, 2, 0), (63, .return_, 1, 0, 0)]
def m_Players_walk : xM := (6, false, none, 5, k_Players_walk)
abbrev i_Players_walk : Nat := 56
def k_Players_leave : xK := [(0, .aload_n 0, 1, 0, 0), (1, .dup, 1, 0, 0), (2, .getfield 42, 3, 6, 8), (5, .iconst 1, 1, 1, 0), (6, .iload_n 1, 1, 0, 0), (7, .ishl, 1, 0, 0), (8, .iconst (-1), 1, 4, 0), 
  (9, .ixor, 1, 0, 0), (10, .iand, 1, 0, 0), (11, .putfield 42, 3, 6, 8), (14, .aload_n 0, 1, 0, 0), (15, .getfield 30, 3, 6, 6), (18, .iload_n 1, 1, 0, 0), (19, .iload_n 2, 1, 0, 0), 
  (20, .iastore, 1, 0, 0), (21, .return_, 1, 0, 0)]
def m_Players_leave : xM := (6, false, none, 3, k_Players_leave)
abbrev i_Players_leave : Nat := 57
def k_Players_howManyPlay : xK := [(0, .aload_n 0, 1, 0, 0), (1, .getfield 42, 3, 6, 8), (4, .invokestatic 60, 3, 161, 1), (7, .ireturn, 1, 0, 0)]
def m_Players_howManyPlay : xM := (6, false, (some .int), 1, k_Players_howManyPlay)
abbrev i_Players_howManyPlay : Nat := 58
def k_Players_firstPlaying : xK := [(0, .iconst 0, 1, 0, 0), (1, .istore_n 1, 1, 0, 0), (2, .iload_n 1, 1, 0, 0), (3, .aload_n 0, 1, 0, 0), (4, .getfield 46, 3, 6, 9), (7, .if_icmp .ge 19, 3, 26, 0), 
  (10, .aload_n 0, 1, 0, 0), (11, .iload_n 1, 1, 0, 0), (12, .invokevirtual 50, 3, 52, 1), (15, .ifCond .eq 5, 3, 20, 0), (18, .iload_n 1, 1, 0, 0), (19, .ireturn, 1, 0, 0), (20, .iinc 1 1, 3, 1, 0), 
  (23, .goto (-21), 3, 2, 0), (26, .ldc 66, 2, 50, 0), (28, .ireturn, 1, 0, 0)]
def m_Players_firstPlaying : xM := (6, false, (some .int), 2, k_Players_firstPlaying)
abbrev i_Players_firstPlaying : Nat := 59
def k_Players_allSittings : xK := [(0, .aload_n 0, 1, 0, 0), (1, .aload_n 0, 1, 0, 0), (2, .getfield 21, 3, 6, 3), (5, .invokevirtual 67, 3, 63, 1), (8, .ireturn, 1, 0, 0)]
def m_Players_allSittings : xM := (6, false, (some .int), 1, k_Players_allSittings)
abbrev i_Players_allSittings : Nat := 60
def k_Players_allBumps : xK := [(0, .aload_n 0, 1, 0, 0), (1, .aload_n 0, 1, 0, 0), (2, .getfield 24, 3, 6, 4), (5, .invokevirtual 67, 3, 63, 1), (8, .ireturn, 1, 0, 0)]
def m_Players_allBumps : xM := (6, false, (some .int), 1, k_Players_allBumps)
abbrev i_Players_allBumps : Nat := 61
def k_Players_allSteps : xK := [(0, .aload_n 0, 1, 0, 0), (1, .aload_n 0, 1, 0, 0), (2, .getfield 27, 3, 6, 5), (5, .invokevirtual 67, 3, 63, 1), (8, .ireturn, 1, 0, 0)]
def m_Players_allSteps : xM := (6, false, (some .int), 1, k_Players_allSteps)
abbrev i_Players_allSteps : Nat := 62
def k_Players_sum : xK := [(0, .iconst 0, 1, 0, 0), (1, .istore_n 2, 1, 0, 0), (2, .iconst 0, 1, 0, 0), (3, .istore_n 3, 1, 0, 0), (4, .iload_n 3, 1, 0, 0), (5, .aload_n 0, 1, 0, 0), 
  (6, .getfield 46, 3, 6, 9), (9, .if_icmp .ge 15, 3, 24, 0), (12, .iload_n 2, 1, 0, 0), (13, .aload_n 1, 1, 0, 0), (14, .iload_n 3, 1, 0, 0), (15, .iaload, 1, 0, 0), (16, .iadd, 1, 0, 0), 
  (17, .istore_n 2, 1, 0, 0), (18, .iinc 3 1, 3, 1, 0), (21, .goto (-17), 3, 4, 0), (24, .iload_n 2, 1, 0, 0), (25, .ireturn, 1, 0, 0)]
def m_Players_sum : xM := (6, false, (some .int), 4, k_Players_sum)
abbrev i_Players_sum : Nat := 63
def k_Text_init : xK := [(0, .aload_n 0, 1, 0, 0), (1, .invokespecial 3, 3, 1000, 0), (4, .aload_n 0, 1, 0, 0), (5, .bipush 60, 2, 12, 0), (7, .newarray .int, 2, 0, 0), (9, .putfield 9, 3, 7, 0), 
  (12, .return_, 1, 0, 0)]
def m_Text_init : xM := (7, true, none, 1, k_Text_init)
abbrev i_Text_init : Nat := 64
def k_Text_append : xK := [(0, .iload_n 1, 1, 0, 0), (1, .bipush 32, 2, 28, 0), (3, .bipush 126, 2, 21, 0), (5, .invokestatic 15, 3, 93, 3), (8, .ifCond .ne 6, 3, 14, 0), (11, .ldc 19, 2, 48, 0), 
  (13, .ireturn, 1, 0, 0), (14, .aload_n 0, 1, 0, 0), (15, .getfield 20, 3, 7, 1), (18, .bipush 60, 2, 12, 0), (20, .if_icmp .lt 6, 3, 26, 0), (23, .ldc 24, 2, 47, 0), (25, .ireturn, 1, 0, 0), 
  (26, .aload_n 0, 1, 0, 0), (27, .getfield 9, 3, 7, 0), (30, .aload_n 0, 1, 0, 0), (31, .getfield 20, 3, 7, 1), (34, .iload_n 1, 1, 0, 0), (35, .iastore, 1, 0, 0), (36, .aload_n 0, 1, 0, 0), 
  (37, .dup, 1, 0, 0), (38, .getfield 20, 3, 7, 1), (41, .iconst 1, 1, 1, 0), (42, .iadd, 1, 0, 0), (43, .putfield 20, 3, 7, 1), (46, .aload_n 0, 1, 0, 0), (47, .getfield 20, 3, 7, 1), 
  (50, .ireturn, 1, 0, 0)]
def m_Text_append : xM := (7, false, (some .int), 2, k_Text_append)
abbrev i_Text_append : Nat := 65
def k_Text_clear : xK := [(0, .aload_n 0, 1, 0, 0), (1, .getfield 20, 3, 7, 1), (4, .istore_n 1, 1, 0, 0), (5, .aload_n 0, 1, 0, 0), (6, .iconst 0, 1, 0, 0), (7, .putfield 20, 3, 7, 1), 
  (10, .iload_n 1, 1, 0, 0), (11, .ireturn, 1, 0, 0)]
def m_Text_clear : xM := (7, false, (some .int), 2, k_Text_clear)
abbrev i_Text_clear : Nat := 66
def k_Text_signAt : xK := [(0, .iload_n 1, 1, 0, 0), (1, .ifCond .lt 20, 3, 21, 0), (4, .iload_n 1, 1, 0, 0), (5, .aload_n 0, 1, 0, 0), (6, .getfield 20, 3, 7, 1), (9, .if_icmp .ge 12, 3, 21, 0), 
  (12, .aload_n 0, 1, 0, 0), (13, .getfield 9, 3, 7, 0), (16, .iload_n 1, 1, 0, 0), (17, .iaload, 1, 0, 0), (18, .goto 4, 3, 22, 0), (21, .iconst (-1), 1, 4, 0), (22, .ireturn, 1, 0, 0)]
def m_Text_signAt : xM := (7, false, (some .int), 2, k_Text_signAt)
abbrev i_Text_signAt : Nat := 67
def k_Bc_init : xK := [(0, .aload_n 0, 1, 0, 0), (1, .invokespecial 1, 3, 1000, 0), (4, .aload_n 0, 1, 0, 0), (5, .new 7, 3, 2, 0), (8, .dup, 1, 0, 0), (9, .invokespecial 9, 3, 14, 0), 
  (12, .putfield 10, 3, 8, 0), (15, .aload_n 0, 1, 0, 0), (16, .new 16, 3, 4, 0), (19, .dup, 1, 0, 0), (20, .invokespecial 18, 3, 39, 0), (23, .putfield 19, 3, 8, 1), (26, .aload_n 0, 1, 0, 0), 
  (27, .new 23, 3, 3, 0), (30, .dup, 1, 0, 0), (31, .invokespecial 25, 3, 28, 0), (34, .putfield 26, 3, 8, 2), (37, .aload_n 0, 1, 0, 0), (38, .new 30, 3, 7, 0), (41, .dup, 1, 0, 0), 
  (42, .invokespecial 32, 3, 64, 0), (45, .putfield 33, 3, 8, 3), (48, .aload_n 0, 1, 0, 0), (49, .new 37, 3, 5, 0), (52, .dup, 1, 0, 0), (53, .invokespecial 39, 3, 43, 0), (56, .putfield 40, 3, 8, 4), 
  (59, .return_, 1, 0, 0)]
def m_Bc_init : xM := (8, true, none, 1, k_Bc_init)
abbrev i_Bc_init : Nat := 68
def k_Bc_chair : xK := [(0, .aload_n 0, 1, 0, 0), (1, .getfield 19, 3, 8, 1), (4, .aload_n 0, 1, 0, 0), (5, .getfield 10, 3, 8, 0), (8, .invokevirtual 44, 3, 40, 1), (11, .aload_n 0, 1, 0, 0), 
  (12, .getfield 19, 3, 8, 1), (15, .aload_n 0, 1, 0, 0), (16, .getfield 10, 3, 8, 0), (19, .iload_n 1, 1, 0, 0), (20, .invokevirtual 48, 3, 16, 1), (23, .invokevirtual 52, 3, 41, 1), 
  (26, .ireturn, 1, 0, 0)]
def m_Bc_chair : xM := (8, false, (some .int), 2, k_Bc_chair)
abbrev i_Bc_chair : Nat := 69
def k_Bc_player : xK := [(0, .aload_n 0, 1, 0, 0), (1, .getfield 19, 3, 8, 1), (4, .aload_n 0, 1, 0, 0), (5, .getfield 10, 3, 8, 0), (8, .invokevirtual 44, 3, 40, 1), (11, .aload_n 0, 1, 0, 0), 
  (12, .getfield 19, 3, 8, 1), (15, .aload_n 0, 1, 0, 0), (16, .getfield 10, 3, 8, 0), (19, .iload_n 1, 1, 0, 0), (20, .iload_n 2, 1, 0, 0), (21, .invokevirtual 55, 3, 17, 2), (24, .invokevirtual 52, 3, 41, 1), 
  (27, .ireturn, 1, 0, 0)]
def m_Bc_player : xM := (8, false, (some .int), 3, k_Bc_player)
abbrev i_Bc_player : Nat := 70
def k_Bc_tune : xK := [(0, .aload_n 0, 1, 0, 0), (1, .getfield 19, 3, 8, 1), (4, .aload_n 0, 1, 0, 0), (5, .getfield 10, 3, 8, 0), (8, .invokevirtual 44, 3, 40, 1), (11, .aload_n 0, 1, 0, 0), 
  (12, .getfield 19, 3, 8, 1), (15, .aload_n 0, 1, 0, 0), (16, .getfield 10, 3, 8, 0), (19, .iload_n 1, 1, 0, 0), (20, .iload_n 2, 1, 0, 0), (21, .invokevirtual 59, 3, 18, 2), (24, .invokevirtual 52, 3, 41, 1), 
  (27, .ireturn, 1, 0, 0)]
def m_Bc_tune : xM := (8, false, (some .int), 3, k_Bc_tune)
abbrev i_Bc_tune : Nat := 71
def k_Bc_train : xK := [(0, .aload_n 0, 1, 0, 0), (1, .getfield 19, 3, 8, 1), (4, .aload_n 0, 1, 0, 0), (5, .getfield 10, 3, 8, 0), (8, .invokevirtual 44, 3, 40, 1), (11, .aload_n 0, 1, 0, 0), 
  (12, .getfield 19, 3, 8, 1), (15, .aload_n 0, 1, 0, 0), (16, .getfield 10, 3, 8, 0), (19, .iload_n 1, 1, 0, 0), (20, .iload_n 2, 1, 0, 0), (21, .iload_n 3, 1, 0, 0), (22, .invokevirtual 62, 3, 19, 3), 
  (25, .invokevirtual 52, 3, 41, 1), (28, .ireturn, 1, 0, 0)]
def m_Bc_train : xM := (8, false, (some .int), 4, k_Bc_train)
abbrev i_Bc_train : Nat := 72
def k_Bc_start : xK := [(0, .aload_n 0, 1, 0, 0), (1, .getfield 19, 3, 8, 1), (4, .aload_n 0, 1, 0, 0), (5, .getfield 10, 3, 8, 0), (8, .invokevirtual 44, 3, 40, 1), (11, .aload_n 0, 1, 0, 0), 
  (12, .getfield 19, 3, 8, 1), (15, .aload_n 0, 1, 0, 0), (16, .getfield 10, 3, 8, 0), (19, .invokevirtual 66, 3, 20, 0), (22, .invokevirtual 52, 3, 41, 1), (25, .ireturn, 1, 0, 0)]
def m_Bc_start : xM := (8, false, (some .int), 1, k_Bc_start)
abbrev i_Bc_start : Nat := 73
def k_Bc_beat : xK := [(0, .aload_n 0, 1, 0, 0), (1, .getfield 19, 3, 8, 1), (4, .aload_n 0, 1, 0, 0), (5, .getfield 10, 3, 8, 0), (8, .invokevirtual 44, 3, 40, 1), (11, .aload_n 0, 1, 0, 0), 
  (12, .getfield 19, 3, 8, 1), (15, .aload_n 0, 1, 0, 0), (16, .getfield 10, 3, 8, 0), (19, .iload_n 1, 1, 0, 0), (20, .invokevirtual 70, 3, 21, 1), (23, .invokevirtual 52, 3, 41, 1), 
  (26, .ireturn, 1, 0, 0)]
def m_Bc_beat : xM := (8, false, (some .int), 2, k_Bc_beat)
abbrev i_Bc_beat : Nat := 74
def k_Bc_stop : xK := [(0, .aload_n 0, 1, 0, 0), (1, .getfield 19, 3, 8, 1), (4, .aload_n 0, 1, 0, 0), (5, .getfield 10, 3, 8, 0), (8, .invokevirtual 44, 3, 40, 1), (11, .aload_n 0, 1, 0, 0), 
  (12, .getfield 19, 3, 8, 1), (15, .aload_n 0, 1, 0, 0), (16, .getfield 10, 3, 8, 0), (19, .aload_n 0, 1, 0, 0), (20, .getfield 26, 3, 8, 2), (23, .invokevirtual 73, 3, 22, 1), (26, .invokevirtual 52, 3, 41, 1), 
  (29, .ireturn, 1, 0, 0)]
def m_Bc_stop : xM := (8, false, (some .int), 1, k_Bc_stop)
abbrev i_Bc_stop : Nat := 75
def k_Bc_set : xK := [(0, .aload_n 0, 1, 0, 0), (1, .getfield 19, 3, 8, 1), (4, .aload_n 0, 1, 0, 0), (5, .getfield 10, 3, 8, 0), (8, .invokevirtual 44, 3, 40, 1), (11, .aload_n 0, 1, 0, 0), 
  (12, .getfield 19, 3, 8, 1), (15, .aload_n 0, 1, 0, 0), (16, .getfield 10, 3, 8, 0), (19, .iload_n 1, 1, 0, 0), (20, .iload_n 2, 1, 0, 0), (21, .invokevirtual 77, 3, 23, 2), (24, .invokevirtual 52, 3, 41, 1), 
  (27, .ireturn, 1, 0, 0)]
def m_Bc_set : xM := (8, false, (some .int), 3, k_Bc_set)
abbrev i_Bc_set : Nat := 76
def k_Bc_chairOf : xK := [(0, .aload_n 0, 1, 0, 0), (1, .getfield 10, 3, 8, 0), (4, .getfield 80, 3, 2, 0), (7, .astore_n 3, 1, 0, 0), (8, .aload_n 3, 1, 0, 0), (9, .iload_n 1, 1, 0, 0), 
  (10, .invokevirtual 84, 3, 6, 1), (13, .ifCond .ne 6, 3, 19, 0), (16, .ldc 90, 2, 48, 0), (18, .ireturn, 1, 0, 0), (19, .iload_n 2, 1, 0, 0), (20, .tableswitch 67 0 2 #[28, 35, 42], 28, 2, 0), 
  (48, .aload_n 3, 1, 0, 0), (49, .getfield 91, 3, 1, 0), (52, .iload_n 1, 1, 0, 0), (53, .iaload, 1, 0, 0), (54, .ireturn, 1, 0, 0), (55, .aload_n 3, 1, 0, 0), (56, .getfield 95, 3, 1, 1), 
  (59, .iload_n 1, 1, 0, 0), (60, .iaload, 1, 0, 0), (61, .ireturn, 1, 0, 0), (62, .aload_n 3, 1, 0, 0), (63, .getfield 98, 3, 1, 2), (66, .iload_n 1, 1, 0, 0), (67, .iaload, 1, 0, 0), 
  (68, .iconst (-1), 1, 4, 0), (69, .if_icmp .eq 7, 3, 76, 0), (72, .iconst 1, 1, 1, 0), (73, .goto 4, 3, 77, 0), (76, .iconst 0, 1, 0, 0), (77, .aload_n 3, 1, 0, 0), (78, .getfield 98, 3, 1, 2), 
  (81, .iload_n 1, 1, 0, 0), (82, .iaload, 1, 0, 0), (83, .invokestatic 101, 3, 92, 2), (86, .ireturn, 1, 0, 0), (87, .ldc 90, 2, 48, 0), (89, .ireturn, 1, 0, 0)]
def m_Bc_chairOf : xM := (8, false, (some .int), 4, k_Bc_chairOf)
abbrev i_Bc_chairOf : Nat := 77
def k_Bc_playerOf : xK := [(0, .aload_n 0, 1, 0, 0), (1, .getfield 10, 3, 8, 0), (4, .getfield 105, 3, 2, 1), (7, .astore_n 3, 1, 0, 0), (8, .aload_n 3, 1, 0, 0), (9, .iload_n 1, 1, 0, 0), 
  (10, .invokevirtual 109, 3, 51, 1), (13, .ifCond .ne 6, 3, 19, 0), (16, .ldc 90, 2, 48, 0), (18, .ireturn, 1, 0, 0), (19, .aload_n 3, 1, 0, 0), (20, .iload_n 1, 1, 0, 0), (21, .invokevirtual 112, 3, 52, 1), 
  (24, .istore 4, 2, 0, 0), (26, .iload_n 2, 1, 0, 0), (27, .tableswitch 170 0 8 #[49, 56, 63, 74, 105, 112, 119, 126, 146], 49, 3, 0), (76, .aload_n 3, 1, 0, 0), (77, .getfield 115, 3, 6, 0), 
  (80, .iload_n 1, 1, 0, 0), (81, .iaload, 1, 0, 0), (82, .ireturn, 1, 0, 0), (83, .aload_n 3, 1, 0, 0), (84, .getfield 118, 3, 6, 1), (87, .iload_n 1, 1, 0, 0), (88, .iaload, 1, 0, 0), 
  (89, .ireturn, 1, 0, 0), (90, .iload 4, 2, 0, 0), (92, .ifCond .eq 7, 3, 99, 0), (95, .iconst 1, 1, 1, 0), (96, .goto 4, 3, 100, 0), (99, .iconst 0, 1, 0, 0), (100, .ireturn, 1, 0, 0), 
  (101, .aload_n 0, 1, 0, 0), (102, .getfield 10, 3, 8, 0), (105, .getfield 121, 3, 2, 3), (108, .iconst 1, 1, 1, 0), (109, .if_icmp .ne 12, 3, 121, 0), (112, .iload 4, 2, 0, 0), (114, .ifCond .eq 7, 3, 121, 0), 
  (117, .iconst 1, 1, 1, 0), (118, .goto 4, 3, 122, 0), (121, .iconst 0, 1, 0, 0), (122, .aload_n 3, 1, 0, 0), (123, .getfield 125, 3, 6, 2), (126, .iload_n 1, 1, 0, 0), (127, .iaload, 1, 0, 0), 
  (128, .invokestatic 101, 3, 92, 2), (131, .ireturn, 1, 0, 0), (132, .aload_n 3, 1, 0, 0), (133, .getfield 128, 3, 6, 3), (136, .iload_n 1, 1, 0, 0), (137, .iaload, 1, 0, 0), (138, .ireturn, 1, 0, 0), 
  (139, .aload_n 3, 1, 0, 0), (140, .getfield 129, 3, 6, 4), (143, .iload_n 1, 1, 0, 0), (144, .iaload, 1, 0, 0), (145, .ireturn, 1, 0, 0), (146, .aload_n 3, 1, 0, 0), (147, .getfield 132, 3, 6, 5), 
  (150, .iload_n 1, 1, 0, 0), (151, .iaload, 1, 0, 0), (152, .ireturn, 1, 0, 0), (153, .iload 4, 2, 0, 0), (155, .ifCond .ne 7, 3, 162, 0), (158, .iconst 1, 1, 1, 0), (159, .goto 4, 3, 163, 0), 
  (162, .iconst 0, 1, 0, 0), (163, .aload_n 3, 1, 0, 0), (164, .getfield 135, 3, 6, 6), (167, .iload_n 1, 1, 0, 0), (168, .iaload, 1, 0, 0), (169, .invokestatic 101, 3, 92, 2), (172, .ireturn, 1, 0, 0), 
  (173, .aload_n 3, 1, 0, 0), (174, .getfield 138, 3, 6, 7), (177, .iload_n 1, 1, 0, 0), (178, .iaload, 1, 0, 0), (179, .ifCond .le 7, 3, 186, 0), (182, .iconst 1, 1, 1, 0), (183, .goto 4, 3, 187, 0), 
  (186, .iconst 0, 1, 0, 0), (187, .aload_n 3, 1, 0, 0), (188, .getfield 138, 3, 6, 7), (191, .iload_n 1, 1, 0, 0), (192, .iaload, 1, 0, 0), (193, .invokestatic 101, 3, 92, 2), (196, .ireturn, 1, 0, 0), 
  (197, .ldc 90, 2, 48, 0), (199, .ireturn, 1, 0, 0)]
def m_Bc_playerOf : xM := (8, false, (some .int), 5, k_Bc_playerOf)
abbrev i_Bc_playerOf : Nat := 78
def k_Bc_hears : xK := [(0, .aload_n 0, 1, 0, 0), (1, .getfield 10, 3, 8, 0), (4, .getfield 105, 3, 2, 1), (7, .iload_n 1, 1, 0, 0), (8, .invokevirtual 109, 3, 51, 1), (11, .ifCond .eq 17, 3, 28, 0), 
  (14, .aload_n 0, 1, 0, 0), (15, .getfield 10, 3, 8, 0), (18, .getfield 80, 3, 2, 0), (21, .iload_n 2, 1, 0, 0), (22, .invokevirtual 84, 3, 6, 1), (25, .ifCond .ne 6, 3, 31, 0), (28, .ldc 90, 2, 48, 0), 
  (30, .ireturn, 1, 0, 0), (31, .aload_n 0, 1, 0, 0), (32, .getfield 10, 3, 8, 0), (35, .getfield 105, 3, 2, 1), (38, .iload_n 1, 1, 0, 0), (39, .aload_n 0, 1, 0, 0), (40, .getfield 10, 3, 8, 0), 
  (43, .getfield 80, 3, 2, 0), (46, .getfield 91, 3, 1, 0), (49, .iload_n 2, 1, 0, 0), (50, .iaload, 1, 0, 0), (51, .invokevirtual 141, 3, 53, 2), (54, .ifCond .eq 7, 3, 61, 0), (57, .iconst 1, 1, 1, 0), 
  (58, .goto 4, 3, 62, 0), (61, .iconst 0, 1, 0, 0), (62, .ireturn, 1, 0, 0)]
def m_Bc_hears : xM := (8, false, (some .int), 3, k_Bc_hears)
abbrev i_Bc_hears : Nat := 79
def k_Bc_bell : xK := [(0, .iload_n 1, 1, 0, 0), (1, .ifCond .lt 12, 3, 13, 0), (4, .iload_n 2, 1, 0, 0), (5, .ifCond .lt 8, 3, 13, 0), (8, .iload_n 2, 1, 0, 0), (9, .iconst 4, 1, 9, 0), 
  (10, .if_icmp .le 6, 3, 16, 0), (13, .ldc 90, 2, 48, 0), (15, .ireturn, 1, 0, 0), (16, .aload_n 0, 1, 0, 0), (17, .getfield 10, 3, 8, 0), (20, .getfield 145, 3, 2, 2), (23, .astore_n 3, 1, 0, 0), 
  (24, .iload_n 1, 1, 0, 0), (25, .aload_n 3, 1, 0, 0), (26, .getfield 149, 3, 0, 6), (29, .if_icmp .lt 6, 3, 35, 0), (32, .ldc 154, 2, 50, 0), (34, .ireturn, 1, 0, 0), (35, .aload_n 3, 1, 0, 0), 
  (36, .iload_n 1, 1, 0, 0), (37, .invokevirtual 155, 3, 3, 1), (40, .istore 4, 2, 0, 0), (42, .iload_n 2, 1, 0, 0), (43, .tableswitch 61 0 3 #[29, 37, 45, 53], 29, 4, 0), (72, .aload_n 3, 1, 0, 0), 
  (73, .getfield 158, 3, 0, 0), (76, .iload 4, 2, 0, 0), (78, .iaload, 1, 0, 0), (79, .ireturn, 1, 0, 0), (80, .aload_n 3, 1, 0, 0), (81, .getfield 161, 3, 0, 1), (84, .iload 4, 2, 0, 0), 
  (86, .iaload, 1, 0, 0), (87, .ireturn, 1, 0, 0), (88, .aload_n 3, 1, 0, 0), (89, .getfield 164, 3, 0, 2), (92, .iload 4, 2, 0, 0), (94, .iaload, 1, 0, 0), (95, .ireturn, 1, 0, 0), 
  (96, .aload_n 3, 1, 0, 0), (97, .getfield 165, 3, 0, 3), (100, .iload 4, 2, 0, 0), (102, .iaload, 1, 0, 0), (103, .ireturn, 1, 0, 0), (104, .aload_n 3, 1, 0, 0), (105, .getfield 166, 3, 0, 4), 
  (108, .iload 4, 2, 0, 0), (110, .iaload, 1, 0, 0), (111, .ireturn, 1, 0, 0)]
def m_Bc_bell : xM := (8, false, (some .int), 5, k_Bc_bell)
abbrev i_Bc_bell : Nat := 80
def k_Bc_ifStopped : xK := [(0, .aload_n 0, 1, 0, 0), (1, .getfield 10, 3, 8, 0), (4, .getfield 105, 3, 2, 1), (7, .iload_n 1, 1, 0, 0), (8, .invokevirtual 109, 3, 51, 1), (11, .ifCond .eq 12, 3, 23, 0), 
  (14, .iload_n 2, 1, 0, 0), (15, .ifCond .lt 8, 3, 23, 0), (18, .iload_n 2, 1, 0, 0), (19, .iconst 2, 1, 2, 0), (20, .if_icmp .le 6, 3, 26, 0), (23, .ldc 90, 2, 48, 0), (25, .ireturn, 1, 0, 0), 
  (26, .aload_n 0, 1, 0, 0), (27, .getfield 10, 3, 8, 0), (30, .getfield 121, 3, 2, 3), (33, .iconst 1, 1, 1, 0), (34, .if_icmp .ne 17, 3, 51, 0), (37, .aload_n 0, 1, 0, 0), (38, .getfield 10, 3, 8, 0), 
  (41, .getfield 105, 3, 2, 1), (44, .iload_n 1, 1, 0, 0), (45, .invokevirtual 112, 3, 52, 1), (48, .ifCond .ne 6, 3, 54, 0), (51, .ldc 169, 2, 49, 0), (53, .ireturn, 1, 0, 0), (54, .aload_n 0, 1, 0, 0), 
  (55, .getfield 26, 3, 8, 2), (58, .aload_n 0, 1, 0, 0), (59, .getfield 10, 3, 8, 0), (62, .getfield 80, 3, 2, 0), (65, .aload_n 0, 1, 0, 0), (66, .getfield 10, 3, 8, 0), (69, .getfield 105, 3, 2, 1), 
  (72, .iconst 0, 1, 0, 0), (73, .invokevirtual 170, 3, 29, 3), (76, .iload_n 2, 1, 0, 0), (77, .lookupswitch 68 #[(0, 27), (1, 58)], 27, 5, 0), (104, .aload_n 0, 1, 0, 0), (105, .getfield 26, 3, 8, 2), 
  (108, .getfield 174, 3, 3, 4), (111, .iload_n 1, 1, 0, 0), (112, .iaload, 1, 0, 0), (113, .iconst (-1), 1, 4, 0), (114, .if_icmp .eq 7, 3, 121, 0), (117, .iconst 1, 1, 1, 0), (118, .goto 4, 3, 122, 0), 
  (121, .iconst 0, 1, 0, 0), (122, .aload_n 0, 1, 0, 0), (123, .getfield 26, 3, 8, 2), (126, .getfield 174, 3, 3, 4), (129, .iload_n 1, 1, 0, 0), (130, .iaload, 1, 0, 0), (131, .invokestatic 101, 3, 92, 2), 
  (134, .ireturn, 1, 0, 0), (135, .aload_n 0, 1, 0, 0), (136, .getfield 26, 3, 8, 2), (139, .getfield 177, 3, 3, 5), (142, .iload_n 1, 1, 0, 0), (143, .iaload, 1, 0, 0), (144, .ireturn, 1, 0, 0), 
  (145, .aload_n 0, 1, 0, 0), (146, .getfield 26, 3, 8, 2), (149, .getfield 178, 3, 3, 6), (152, .iload_n 1, 1, 0, 0), (153, .iaload, 1, 0, 0), (154, .ireturn, 1, 0, 0)]
def m_Bc_ifStopped : xM := (8, false, (some .int), 3, k_Bc_ifStopped)
abbrev i_Bc_ifStopped : Nat := 81
def k_Bc_outs : xK := [(0, .aload_n 0, 1, 0, 0), (1, .getfield 10, 3, 8, 0), (4, .getfield 121, 3, 2, 3), (7, .iconst 1, 1, 1, 0), (8, .if_icmp .eq 6, 3, 14, 0), (11, .ldc 169, 2, 49, 0), 
  (13, .ireturn, 1, 0, 0), (14, .aload_n 0, 1, 0, 0), (15, .getfield 26, 3, 8, 2), (18, .aload_n 0, 1, 0, 0), (19, .getfield 10, 3, 8, 0), (22, .getfield 80, 3, 2, 0), (25, .aload_n 0, 1, 0, 0), 
  (26, .getfield 10, 3, 8, 0), (29, .getfield 105, 3, 2, 1), (32, .iconst 0, 1, 0, 0), (33, .invokevirtual 170, 3, 29, 3), (36, .aload_n 0, 1, 0, 0), (37, .getfield 26, 3, 8, 2), (40, .getfield 179, 3, 3, 10), 
  (43, .ireturn, 1, 0, 0)]
def m_Bc_outs : xM := (8, false, (some .int), 1, k_Bc_outs)
abbrev i_Bc_outs : Nat := 82
def k_Bc_safeIn : xK := [(0, .aload_n 0, 1, 0, 0), (1, .getfield 10, 3, 8, 0), (4, .getfield 105, 3, 2, 1), (7, .iload_n 1, 1, 0, 0), (8, .invokevirtual 109, 3, 51, 1), (11, .ifCond .ne 6, 3, 17, 0), 
  (14, .ldc 90, 2, 48, 0), (16, .ireturn, 1, 0, 0), (17, .aload_n 0, 1, 0, 0), (18, .getfield 10, 3, 8, 0), (21, .getfield 121, 3, 2, 3), (24, .iconst 1, 1, 1, 0), (25, .if_icmp .ne 17, 3, 42, 0), 
  (28, .aload_n 0, 1, 0, 0), (29, .getfield 10, 3, 8, 0), (32, .getfield 105, 3, 2, 1), (35, .iload_n 1, 1, 0, 0), (36, .invokevirtual 112, 3, 52, 1), (39, .ifCond .ne 6, 3, 45, 0), 
  (42, .ldc 169, 2, 49, 0), (44, .ireturn, 1, 0, 0), (45, .iconst 0, 1, 0, 0), (46, .istore_n 2, 1, 0, 0), (47, .iload_n 2, 1, 0, 0), (48, .bipush 24, 2, 29, 0), (50, .if_icmp .gt 46, 3, 96, 0), 
  (53, .aload_n 0, 1, 0, 0), (54, .getfield 26, 3, 8, 2), (57, .aload_n 0, 1, 0, 0), (58, .getfield 10, 3, 8, 0), (61, .getfield 80, 3, 2, 0), (64, .aload_n 0, 1, 0, 0), (65, .getfield 10, 3, 8, 0), 
  (68, .getfield 105, 3, 2, 1), (71, .iload_n 2, 1, 0, 0), (72, .invokevirtual 170, 3, 29, 3), (75, .aload_n 0, 1, 0, 0), (76, .getfield 26, 3, 8, 2), (79, .getfield 174, 3, 3, 4), 
  (82, .iload_n 1, 1, 0, 0), (83, .iaload, 1, 0, 0), (84, .iconst (-1), 1, 4, 0), (85, .if_icmp .eq 5, 3, 90, 0), (88, .iload_n 2, 1, 0, 0), (89, .ireturn, 1, 0, 0), (90, .iinc 2 1, 3, 1, 0), 
  (93, .goto (-46), 3, 47, 0), (96, .ldc 154, 2, 50, 0), (98, .ireturn, 1, 0, 0)]
def m_Bc_safeIn : xM := (8, false, (some .int), 3, k_Bc_safeIn)
abbrev i_Bc_safeIn : Nat := 83
def k_Bc_mean : xK := [(0, .aload_n 0, 1, 0, 0), (1, .getfield 10, 3, 8, 0), (4, .getfield 105, 3, 2, 1), (7, .getfield 182, 3, 6, 9), (10, .istore_n 1, 1, 0, 0), (11, .iload_n 1, 1, 0, 0), 
  (12, .iconst 1, 1, 1, 0), (13, .if_icmp .ge 6, 3, 19, 0), (16, .ldc 154, 2, 50, 0), (18, .ireturn, 1, 0, 0), (19, .aload_n 0, 1, 0, 0), (20, .getfield 10, 3, 8, 0), (23, .getfield 105, 3, 2, 1), 
  (26, .invokevirtual 185, 3, 61, 0), (29, .i2f, 1, 0, 0), (30, .iload_n 1, 1, 0, 0), (31, .i2f, 1, 0, 0), (32, .fdiv, 1, 0, 0), (33, .invokestatic 188, 3, 94, 1), (36, .ireturn, 1, 0, 0)]
def m_Bc_mean : xM := (8, false, (some .int), 2, k_Bc_mean)
abbrev i_Bc_mean : Nat := 84
def k_Bc_count : xK := [(0, .iload_n 1, 1, 0, 0), (1, .tableswitch 225 0 12 #[67, 75, 86, 97, 108, 116, 124, 135, 146, 168, 176, 187, 195], 67, 6, 0), (68, .aload_n 0, 1, 0, 0), (69, .getfield 10, 3, 8, 0), 
  (72, .getfield 121, 3, 2, 3), (75, .ireturn, 1, 0, 0), (76, .aload_n 0, 1, 0, 0), (77, .getfield 10, 3, 8, 0), (80, .getfield 80, 3, 2, 0), (83, .getfield 192, 3, 1, 3), (86, .ireturn, 1, 0, 0), 
  (87, .aload_n 0, 1, 0, 0), (88, .getfield 10, 3, 8, 0), (91, .getfield 105, 3, 2, 1), (94, .getfield 182, 3, 6, 9), (97, .ireturn, 1, 0, 0), (98, .aload_n 0, 1, 0, 0), (99, .getfield 10, 3, 8, 0), 
  (102, .getfield 105, 3, 2, 1), (105, .getfield 193, 3, 6, 8), (108, .ireturn, 1, 0, 0), (109, .aload_n 0, 1, 0, 0), (110, .getfield 10, 3, 8, 0), (113, .getfield 196, 3, 2, 5), (116, .ireturn, 1, 0, 0), 
  (117, .aload_n 0, 1, 0, 0), (118, .getfield 10, 3, 8, 0), (121, .getfield 199, 3, 2, 6), (124, .ireturn, 1, 0, 0), (125, .aload_n 0, 1, 0, 0), (126, .getfield 10, 3, 8, 0), (129, .getfield 105, 3, 2, 1), 
  (132, .invokevirtual 202, 3, 60, 0), (135, .ireturn, 1, 0, 0), (136, .aload_n 0, 1, 0, 0), (137, .getfield 10, 3, 8, 0), (140, .getfield 105, 3, 2, 1), (143, .invokevirtual 185, 3, 61, 0), 
  (146, .ireturn, 1, 0, 0), (147, .aload_n 0, 1, 0, 0), (148, .getfield 10, 3, 8, 0), (151, .getfield 105, 3, 2, 1), (154, .getfield 182, 3, 6, 9), (157, .aload_n 0, 1, 0, 0), (158, .getfield 10, 3, 8, 0), 
  (161, .getfield 105, 3, 2, 1), (164, .invokevirtual 205, 3, 58, 0), (167, .isub, 1, 0, 0), (168, .ireturn, 1, 0, 0), (169, .aload_n 0, 1, 0, 0), (170, .getfield 10, 3, 8, 0), (173, .getfield 208, 3, 2, 9), 
  (176, .ireturn, 1, 0, 0), (177, .aload_n 0, 1, 0, 0), (178, .getfield 10, 3, 8, 0), (181, .getfield 105, 3, 2, 1), (184, .invokevirtual 211, 3, 62, 0), (187, .ireturn, 1, 0, 0), (188, .aload_n 0, 1, 0, 0), 
  (189, .getfield 10, 3, 8, 0), (192, .getfield 214, 3, 2, 7), (195, .ireturn, 1, 0, 0), (196, .aload_n 0, 1, 0, 0), (197, .getfield 10, 3, 8, 0), (200, .getfield 105, 3, 2, 1), (203, .invokevirtual 205, 3, 58, 0), 
  (206, .iconst 1, 1, 1, 0), (207, .if_icmp .ne 16, 3, 223, 0), (210, .aload_n 0, 1, 0, 0), (211, .getfield 10, 3, 8, 0), (214, .getfield 105, 3, 2, 1), (217, .invokevirtual 217, 3, 59, 0), 
  (220, .goto 5, 3, 225, 0), (223, .ldc 154, 2, 50, 0), (225, .ireturn, 1, 0, 0), (226, .aload_n 0, 1, 0, 0), (227, .iload_n 1, 1, 0, 0), (228, .invokevirtual 220, 3, 91, 1), (231, .ireturn, 1, 0, 0)]
def m_Bc_count : xM := (8, false, (some .int), 2, k_Bc_count)
abbrev i_Bc_count : Nat := 85
def k_Bc_undo : xK := [(0, .aload_n 0, 1, 0, 0), (1, .getfield 19, 3, 8, 1), (4, .aload_n 0, 1, 0, 0), (5, .getfield 10, 3, 8, 0), (8, .invokevirtual 223, 3, 42, 1), (11, .ireturn, 1, 0, 0)]
def m_Bc_undo : xM := (8, false, (some .int), 1, k_Bc_undo)
abbrev i_Bc_undo : Nat := 86
def k_Bc_type : xK := [(0, .aload_n 0, 1, 0, 0), (1, .getfield 33, 3, 8, 3), (4, .iload_n 1, 1, 0, 0), (5, .invokevirtual 227, 3, 65, 1), (8, .ireturn, 1, 0, 0)]
def m_Bc_type : xM := (8, false, (some .int), 2, k_Bc_type)
abbrev i_Bc_type : Nat := 87
def k_Bc_clearText : xK := [(0, .aload_n 0, 1, 0, 0), (1, .getfield 33, 3, 8, 3), (4, .invokevirtual 230, 3, 66, 0), (7, .ireturn, 1, 0, 0)]
def m_Bc_clearText : xM := (8, false, (some .int), 1, k_Bc_clearText)
abbrev i_Bc_clearText : Nat := 88
def k_Bc_fault : xK := [(0, .iload_n 1, 1, 0, 0), (1, .ifCond .lt 8, 3, 9, 0), (4, .iload_n 1, 1, 0, 0), (5, .iconst 2, 1, 2, 0), (6, .if_icmp .le 6, 3, 12, 0), (9, .ldc 90, 2, 48, 0), 
  (11, .ireturn, 1, 0, 0), (12, .aload_n 0, 1, 0, 0), (13, .getfield 40, 3, 8, 4), (16, .aload_n 0, 1, 0, 0), (17, .getfield 33, 3, 8, 3), (20, .aload_n 0, 1, 0, 0), (21, .getfield 10, 3, 8, 0), 
  (24, .aload_n 0, 1, 0, 0), (25, .getfield 26, 3, 8, 2), (28, .invokevirtual 233, 3, 44, 3), (31, .aload_n 0, 1, 0, 0), (32, .getfield 40, 3, 8, 4), (35, .getfield 237, 3, 5, 3), (38, .ifCond .ne 6, 3, 44, 0), 
  (41, .ldc 154, 2, 50, 0), (43, .ireturn, 1, 0, 0), (44, .iload_n 1, 1, 0, 0), (45, .lookupswitch 43 #[(0, 27), (1, 35)], 27, 7, 0), (72, .aload_n 0, 1, 0, 0), (73, .getfield 40, 3, 8, 4), 
  (76, .getfield 240, 3, 5, 2), (79, .ireturn, 1, 0, 0), (80, .aload_n 0, 1, 0, 0), (81, .getfield 40, 3, 8, 4), (84, .getfield 237, 3, 5, 3), (87, .ireturn, 1, 0, 0), (88, .aload_n 0, 1, 0, 0), 
  (89, .getfield 40, 3, 8, 4), (92, .getfield 243, 3, 5, 4), (95, .ireturn, 1, 0, 0)]
def m_Bc_fault : xM := (8, false, (some .int), 2, k_Bc_fault)
abbrev i_Bc_fault : Nat := 89
def k_Bc_play : xK := [(0, .aload_n 0, 1, 0, 0), (1, .getfield 40, 3, 8, 4), (4, .aload_n 0, 1, 0, 0), (5, .getfield 33, 3, 8, 3), (8, .aload_n 0, 1, 0, 0), (9, .getfield 10, 3, 8, 0), 
  (12, .aload_n 0, 1, 0, 0), (13, .getfield 26, 3, 8, 2), (16, .invokevirtual 233, 3, 44, 3), (19, .aload_n 0, 1, 0, 0), (20, .getfield 40, 3, 8, 4), (23, .getfield 237, 3, 5, 3), (26, .ifCond .eq 6, 3, 32, 0), 
  (29, .ldc 169, 2, 49, 0), (31, .ireturn, 1, 0, 0), (32, .aload_n 0, 1, 0, 0), (33, .getfield 19, 3, 8, 1), (36, .aload_n 0, 1, 0, 0), (37, .getfield 10, 3, 8, 0), (40, .invokevirtual 44, 3, 40, 1), 
  (43, .aload_n 0, 1, 0, 0), (44, .getfield 10, 3, 8, 0), (47, .aload_n 0, 1, 0, 0), (48, .getfield 40, 3, 8, 4), (51, .getfield 246, 3, 5, 0), (54, .invokevirtual 249, 3, 15, 1), (57, .aload_n 0, 1, 0, 0), 
  (58, .getfield 19, 3, 8, 1), (61, .aload_n 0, 1, 0, 0), (62, .getfield 40, 3, 8, 4), (65, .getfield 252, 3, 5, 1), (68, .invokevirtual 52, 3, 41, 1), (71, .ireturn, 1, 0, 0)]
def m_Bc_play : xM := (8, false, (some .int), 1, k_Bc_play)
abbrev i_Bc_play : Nat := 90
def k_Bc_countBesidesTheGame : xK := [(0, .iload_n 1, 1, 0, 0), (1, .tableswitch 90 13 20 #[47, 58, 66, 74, 90, 90, 90, 82], 47, 8, 0), (48, .aload_n 0, 1, 0, 0), (49, .getfield 10, 3, 8, 0), 
  (52, .getfield 145, 3, 2, 2), (55, .getfield 149, 3, 0, 6), (58, .ireturn, 1, 0, 0), (59, .aload_n 0, 1, 0, 0), (60, .getfield 19, 3, 8, 1), (63, .getfield 255, 3, 4, 2), (66, .ireturn, 1, 0, 0), 
  (67, .aload_n 0, 1, 0, 0), (68, .getfield 33, 3, 8, 3), (71, .getfield 256, 3, 7, 1), (74, .ireturn, 1, 0, 0), (75, .aload_n 0, 1, 0, 0), (76, .getfield 10, 3, 8, 0), (79, .getfield 259, 3, 2, 8), 
  (82, .ireturn, 1, 0, 0), (83, .aload_n 0, 1, 0, 0), (84, .getfield 10, 3, 8, 0), (87, .getfield 262, 3, 2, 4), (90, .ireturn, 1, 0, 0), (91, .ldc 90, 2, 48, 0), (93, .ireturn, 1, 0, 0)]
def m_Bc_countBesidesTheGame : xM := (8, false, (some .int), 2, k_Bc_countBesidesTheGame)
abbrev i_Bc_countBesidesTheGame : Nat := 91
def k_Bc_foundOrNot : xK := [(0, .iload_n 0, 1, 0, 0), (1, .ifCond .eq 7, 3, 8, 0), (4, .iload_n 1, 1, 0, 0), (5, .goto 5, 3, 10, 0), (8, .ldc 154, 2, 50, 0), (10, .ireturn, 1, 0, 0)]
def m_Bc_foundOrNot : xM := (8, false, (some .int), 2, k_Bc_foundOrNot)
abbrev i_Bc_foundOrNot : Nat := 92
def k_Bc_isWithin : xK := [(0, .iload_n 0, 1, 0, 0), (1, .iload_n 1, 1, 0, 0), (2, .if_icmp .lt 12, 3, 14, 0), (5, .iload_n 0, 1, 0, 0), (6, .iload_n 2, 1, 0, 0), (7, .if_icmp .gt 7, 3, 14, 0), 
  (10, .iconst 1, 1, 1, 0), (11, .goto 4, 3, 15, 0), (14, .iconst 0, 1, 0, 0), (15, .ireturn, 1, 0, 0)]
def m_Bc_isWithin : xM := (8, false, (some .boolean), 3, k_Bc_isWithin)
abbrev i_Bc_isWithin : Nat := 93
def k_Bc_bitsOf : xK := [(0, .fload_n 0, 1, 0, 0), (1, .fconst 0, 1, 51, 0), (2, .fcmp .l, 1, 0, 0), (3, .ifCond .gt 5, 3, 8, 0), (6, .iconst 0, 1, 0, 0), (7, .ireturn, 1, 0, 0), (8, .fload_n 0, 1, 0, 0), 
  (9, .fstore_n 1, 1, 0, 0), (10, .bipush 127, 2, 30, 0), (12, .istore_n 2, 1, 0, 0), (13, .iconst 0, 1, 0, 0), (14, .istore_n 3, 1, 0, 0), (15, .iload_n 3, 1, 0, 0), (16, .bipush 127, 2, 30, 0), 
  (18, .if_icmp .ge 22, 3, 40, 0), (21, .fload_n 1, 1, 0, 0), (22, .fconst 2, 1, 52, 0), (23, .fcmp .l, 1, 0, 0), (24, .ifCond .lt 16, 3, 40, 0), (27, .fload_n 1, 1, 0, 0), (28, .fconst 2, 1, 52, 0), 
  (29, .fdiv, 1, 0, 0), (30, .fstore_n 1, 1, 0, 0), (31, .iinc 2 1, 3, 1, 0), (34, .iinc 3 1, 3, 1, 0), (37, .goto (-22), 3, 15, 0), (40, .iconst 0, 1, 0, 0), (41, .istore_n 3, 1, 0, 0), 
  (42, .iload_n 3, 1, 0, 0), (43, .bipush 126, 2, 21, 0), (45, .if_icmp .ge 22, 3, 67, 0), (48, .fload_n 1, 1, 0, 0), (49, .fconst 1, 1, 53, 0), (50, .fcmp .g, 1, 0, 0), (51, .ifCond .ge 16, 3, 67, 0), 
  (54, .fload_n 1, 1, 0, 0), (55, .fconst 2, 1, 52, 0), (56, .fmul, 1, 0, 0), (57, .fstore_n 1, 1, 0, 0), (58, .iinc 2 (-1), 3, 4, 0), (61, .iinc 3 1, 3, 1, 0), (64, .goto (-22), 3, 42, 0), 
  (67, .iload_n 2, 1, 0, 0), (68, .bipush 23, 2, 33, 0), (70, .ishl, 1, 0, 0), (71, .fload_n 1, 1, 0, 0), (72, .fconst 1, 1, 53, 0), (73, .fsub, 1, 0, 0), (74, .ldc_w 265, 3, 54, 0), 
  (77, .fmul, 1, 0, 0), (78, .f2i, 1, 0, 0), (79, .iadd, 1, 0, 0), (80, .ireturn, 1, 0, 0)]
def m_Bc_bitsOf : xM := (8, false, (some .int), 4, k_Bc_bitsOf)
abbrev i_Bc_bitsOf : Nat := 94
def k_Md_init : xK := [(0, .aload_n 0, 1, 0, 0), (1, .invokespecial 1, 3, 1000, 0), (4, .aload_n 0, 1, 0, 0), (5, .sipush 233, 3, 11, 0), (8, .newarray .int, 2, 0, 0), (10, .putfield 7, 3, 9, 0), 
  (13, .aload_n 0, 1, 0, 0), (14, .sipush 233, 3, 11, 0), (17, .newarray .int, 2, 0, 0), (19, .putfield 13, 3, 9, 1), (22, .aload_n 0, 1, 0, 0), (23, .sipush 233, 3, 11, 0), (26, .newarray .int, 2, 0, 0), 
  (28, .putfield 16, 3, 9, 2), (31, .aload_n 0, 1, 0, 0), (32, .sipush 932, 3, 34, 0), (35, .newarray .int, 2, 0, 0), (37, .putfield 19, 3, 9, 3), (40, .aload_n 0, 1, 0, 0), (41, .bipush 60, 2, 12, 0), 
  (43, .newarray .int, 2, 0, 0), (45, .putfield 22, 3, 9, 5), (48, .aload_n 0, 1, 0, 0), (49, .bipush 12, 2, 3, 0), (51, .newarray .int, 2, 0, 0), (53, .putfield 25, 3, 9, 7), (56, .aload_n 0, 1, 0, 0), 
  (57, .bipush 12, 2, 3, 0), (59, .newarray .int, 2, 0, 0), (61, .putfield 28, 3, 9, 8), (64, .aload_n 0, 1, 0, 0), (65, .bipush 12, 2, 3, 0), (67, .newarray .int, 2, 0, 0), (69, .putfield 31, 3, 9, 9), 
  (72, .aload_n 0, 1, 0, 0), (73, .bipush 12, 2, 3, 0), (75, .newarray .int, 2, 0, 0), (77, .putfield 34, 3, 9, 10), (80, .aload_n 0, 1, 0, 0), (81, .bipush 16, 2, 6, 0), (83, .newarray .int, 2, 0, 0), 
  (85, .putfield 37, 3, 9, 11), (88, .aload_n 0, 1, 0, 0), (89, .bipush 16, 2, 6, 0), (91, .newarray .int, 2, 0, 0), (93, .putfield 40, 3, 9, 13), (96, .aload_n 0, 1, 0, 0), (97, .getfield 7, 3, 9, 0), 
  (100, .iconst 3, 1, 5, 0), (101, .iconst 1, 1, 1, 0), (102, .iastore, 1, 0, 0), (103, .return_, 1, 0, 0)]
def m_Md_init : xM := (9, true, none, 1, k_Md_init)
abbrev i_Md_init : Nat := 95
def k_Md_in : xK := [(0, .iload_n 0, 1, 0, 0), (1, .iload_n 1, 1, 0, 0), (2, .if_icmp .lt 12, 3, 14, 0), (5, .iload_n 0, 1, 0, 0), (6, .iload_n 2, 1, 0, 0), (7, .if_icmp .gt 7, 3, 14, 0), 
  (10, .iconst 1, 1, 1, 0), (11, .goto 4, 3, 15, 0), (14, .iconst 0, 1, 0, 0), (15, .ireturn, 1, 0, 0)]
def m_Md_in : xM := (9, false, (some .boolean), 3, k_Md_in)
abbrev i_Md_in : Nat := 96
def k_Md_copies : xK := [(0, .iconst 0, 1, 0, 0), (1, .istore 4, 2, 0, 0), (3, .iload 4, 2, 0, 0), (5, .sipush 233, 3, 11, 0), (8, .if_icmp .ge 21, 3, 29, 0), (11, .aload_n 2, 1, 0, 0), 
  (12, .iload_n 3, 1, 0, 0), (13, .iload 4, 2, 0, 0), (15, .iadd, 1, 0, 0), (16, .aload_n 0, 1, 0, 0), (17, .iload_n 1, 1, 0, 0), (18, .iload 4, 2, 0, 0), (20, .iadd, 1, 0, 0), (21, .iaload, 1, 0, 0), 
  (22, .iastore, 1, 0, 0), (23, .iinc 4 1, 3, 1, 0), (26, .goto (-23), 3, 3, 0), (29, .return_, 1, 0, 0)]
def m_Md_copies : xM := (9, false, none, 5, k_Md_copies)
abbrev i_Md_copies : Nat := 97
def k_Md_records : xK := [(0, .aload_n 0, 1, 0, 0), (1, .getfield 43, 3, 9, 4), (4, .iconst 4, 1, 9, 0), (5, .if_icmp .ne 44, 3, 49, 0), (8, .iconst 0, 1, 0, 0), (9, .istore_n 1, 1, 0, 0), 
  (10, .iload_n 1, 1, 0, 0), (11, .sipush 699, 3, 35, 0), (14, .if_icmp .ge 25, 3, 39, 0), (17, .aload_n 0, 1, 0, 0), (18, .getfield 19, 3, 9, 3), (21, .iload_n 1, 1, 0, 0), (22, .aload_n 0, 1, 0, 0), 
  (23, .getfield 19, 3, 9, 3), (26, .iload_n 1, 1, 0, 0), (27, .sipush 233, 3, 11, 0), (30, .iadd, 1, 0, 0), (31, .iaload, 1, 0, 0), (32, .iastore, 1, 0, 0), (33, .iinc 1 1, 3, 1, 0), 
  (36, .goto (-26), 3, 10, 0), (39, .aload_n 0, 1, 0, 0), (40, .dup, 1, 0, 0), (41, .getfield 43, 3, 9, 4), (44, .iconst 1, 1, 1, 0), (45, .isub, 1, 0, 0), (46, .putfield 43, 3, 9, 4), 
  (49, .aload_n 0, 1, 0, 0), (50, .getfield 7, 3, 9, 0), (53, .iconst 0, 1, 0, 0), (54, .aload_n 0, 1, 0, 0), (55, .getfield 19, 3, 9, 3), (58, .sipush 233, 3, 11, 0), (61, .aload_n 0, 1, 0, 0), 
  (62, .getfield 43, 3, 9, 4), (65, .imul, 1, 0, 0), (66, .invokestatic 47, 3, 97, 4), (69, .aload_n 0, 1, 0, 0), (70, .dup, 1, 0, 0), (71, .getfield 43, 3, 9, 4), (74, .iconst 1, 1, 1, 0), 
  (75, .iadd, 1, 0, 0), (76, .putfield 43, 3, 9, 4), (79, .return_, 1, 0, 0)]
def m_Md_records : xM := (9, false, none, 2, k_Md_records)
abbrev i_Md_records : Nat := 98
def k_Md_isChair : xK := [(0, .iload_n 1, 1, 0, 0), (1, .iconst 0, 1, 0, 0), (2, .aload_n 0, 1, 0, 0), (3, .getfield 7, 3, 9, 0), (6, .iconst 1, 1, 1, 0), (7, .iaload, 1, 0, 0), (8, .iconst 1, 1, 1, 0), 
  (9, .isub, 1, 0, 0), (10, .invokestatic 51, 3, 96, 3), (13, .ireturn, 1, 0, 0)]
def m_Md_isChair : xM := (9, false, (some .boolean), 2, k_Md_isChair)
abbrev i_Md_isChair : Nat := 99
def k_Md_isPlayer : xK := [(0, .iload_n 1, 1, 0, 0), (1, .iconst 0, 1, 0, 0), (2, .aload_n 0, 1, 0, 0), (3, .getfield 7, 3, 9, 0), (6, .iconst 2, 1, 2, 0), (7, .iaload, 1, 0, 0), (8, .iconst 1, 1, 1, 0), 
  (9, .isub, 1, 0, 0), (10, .invokestatic 51, 3, 96, 3), (13, .ireturn, 1, 0, 0)]
def m_Md_isPlayer : xM := (9, false, (some .boolean), 2, k_Md_isPlayer)
abbrev i_Md_isPlayer : Nat := 100
def k_Md_ofChair : xK := [(0, .aload_n 0, 1, 0, 0), (1, .getfield 7, 3, 9, 0), (4, .bipush 17, 2, 16, 0), (6, .iconst 3, 1, 5, 0), (7, .iload_n 1, 1, 0, 0), (8, .imul, 1, 0, 0), (9, .iadd, 1, 0, 0), 
  (10, .iload_n 2, 1, 0, 0), (11, .iadd, 1, 0, 0), (12, .iaload, 1, 0, 0), (13, .ireturn, 1, 0, 0)]
def m_Md_ofChair : xM := (9, false, (some .int), 3, k_Md_ofChair)
abbrev i_Md_ofChair : Nat := 101
def k_Md_laysChair : xK := [(0, .aload_n 0, 1, 0, 0), (1, .getfield 7, 3, 9, 0), (4, .bipush 17, 2, 16, 0), (6, .iconst 3, 1, 5, 0), (7, .iload_n 1, 1, 0, 0), (8, .imul, 1, 0, 0), (9, .iadd, 1, 0, 0), 
  (10, .iload_n 2, 1, 0, 0), (11, .iadd, 1, 0, 0), (12, .iload_n 3, 1, 0, 0), (13, .iastore, 1, 0, 0), (14, .return_, 1, 0, 0)]
def m_Md_laysChair : xM := (9, false, none, 4, k_Md_laysChair)
abbrev i_Md_laysChair : Nat := 102
def k_Md_of : xK := [(0, .aload_n 0, 1, 0, 0), (1, .getfield 7, 3, 9, 0), (4, .bipush 65, 2, 13, 0), (6, .bipush 9, 2, 10, 0), (8, .iload_n 1, 1, 0, 0), (9, .imul, 1, 0, 0), (10, .iadd, 1, 0, 0), 
  (11, .iload_n 2, 1, 0, 0), (12, .iadd, 1, 0, 0), (13, .iaload, 1, 0, 0), (14, .ireturn, 1, 0, 0)]
def m_Md_of : xM := (9, false, (some .int), 3, k_Md_of)
abbrev i_Md_of : Nat := 103
def k_Md_lays : xK := [(0, .aload_n 0, 1, 0, 0), (1, .getfield 7, 3, 9, 0), (4, .bipush 65, 2, 13, 0), (6, .bipush 9, 2, 10, 0), (8, .iload_n 1, 1, 0, 0), (9, .imul, 1, 0, 0), (10, .iadd, 1, 0, 0), 
  (11, .iload_n 2, 1, 0, 0), (12, .iadd, 1, 0, 0), (13, .iload_n 3, 1, 0, 0), (14, .iastore, 1, 0, 0), (15, .return_, 1, 0, 0)]
def m_Md_lays : xM := (9, false, none, 4, k_Md_lays)
abbrev i_Md_lays : Nat := 104
def k_Md_isIn : xK := [(0, .aload_n 0, 1, 0, 0), (1, .iload_n 1, 1, 0, 0), (2, .iconst 2, 1, 2, 0), (3, .invokevirtual 55, 3, 103, 2), (6, .iconst 1, 1, 1, 0), (7, .if_icmp .ne 7, 3, 14, 0), 
  (10, .iconst 1, 1, 1, 0), (11, .goto 4, 3, 15, 0), (14, .iconst 0, 1, 0, 0), (15, .ireturn, 1, 0, 0)]
def m_Md_isIn : xM := (9, false, (some .boolean), 2, k_Md_isIn)
abbrev i_Md_isIn : Nat := 105
def k_Md_inPlay : xK := [(0, .iconst 0, 1, 0, 0), (1, .istore_n 1, 1, 0, 0), (2, .iconst 0, 1, 0, 0), (3, .istore_n 2, 1, 0, 0), (4, .iload_n 2, 1, 0, 0), (5, .aload_n 0, 1, 0, 0), 
  (6, .getfield 7, 3, 9, 0), (9, .iconst 2, 1, 2, 0), (10, .iaload, 1, 0, 0), (11, .if_icmp .ge 18, 3, 29, 0), (14, .iload_n 1, 1, 0, 0), (15, .aload_n 0, 1, 0, 0), (16, .iload_n 2, 1, 0, 0), 
  (17, .iconst 2, 1, 2, 0), (18, .invokevirtual 55, 3, 103, 2), (21, .iadd, 1, 0, 0), (22, .istore_n 1, 1, 0, 0), (23, .iinc 2 1, 3, 1, 0), (26, .goto (-22), 3, 4, 0), (29, .iload_n 1, 1, 0, 0), 
  (30, .ireturn, 1, 0, 0)]
def m_Md_inPlay : xM := (9, false, (some .int), 3, k_Md_inPlay)
abbrev i_Md_inPlay : Nat := 106
def k_Md_doesHear : xK := [(0, .aload_n 0, 1, 0, 0), (1, .iload_n 1, 1, 0, 0), (2, .iconst 1, 1, 1, 0), (3, .invokevirtual 55, 3, 103, 2), (6, .aload_n 0, 1, 0, 0), (7, .iload_n 2, 1, 0, 0), 
  (8, .iconst 0, 1, 0, 0), (9, .invokevirtual 59, 3, 101, 2), (12, .ishr, 1, 0, 0), (13, .iconst 1, 1, 1, 0), (14, .iand, 1, 0, 0), (15, .iconst 1, 1, 1, 0), (16, .if_icmp .ne 7, 3, 23, 0), 
  (19, .iconst 1, 1, 1, 0), (20, .goto 4, 3, 24, 0), (23, .iconst 0, 1, 0, 0), (24, .ireturn, 1, 0, 0)]
def m_Md_doesHear : xM := (9, false, (some .boolean), 3, k_Md_doesHear)
abbrev i_Md_doesHear : Nat := 107
def k_Md_getsOut : xK := [(0, .aload_n 0, 1, 0, 0), (1, .iload_n 1, 1, 0, 0), (2, .iconst 2, 1, 2, 0), (3, .iconst 0, 1, 0, 0), (4, .invokevirtual 62, 3, 104, 3), (7, .aload_n 0, 1, 0, 0), 
  (8, .iload_n 1, 1, 0, 0), (9, .bipush 7, 2, 19, 0), (11, .aload_n 0, 1, 0, 0), (12, .getfield 7, 3, 9, 0), (15, .iconst 4, 1, 9, 0), (16, .iaload, 1, 0, 0), (17, .iconst 1, 1, 1, 0), 
  (18, .iadd, 1, 0, 0), (19, .invokevirtual 62, 3, 104, 3), (22, .aload_n 0, 1, 0, 0), (23, .iload_n 1, 1, 0, 0), (24, .bipush 8, 2, 8, 0), (26, .iload_n 2, 1, 0, 0), (27, .invokevirtual 62, 3, 104, 3), 
  (30, .aload_n 0, 1, 0, 0), (31, .dup, 1, 0, 0), (32, .getfield 66, 3, 9, 12), (35, .iconst 1, 1, 1, 0), (36, .iload_n 1, 1, 0, 0), (37, .ishl, 1, 0, 0), (38, .ior, 1, 0, 0), (39, .putfield 66, 3, 9, 12), 
  (42, .return_, 1, 0, 0)]
def m_Md_getsOut : xM := (9, false, none, 3, k_Md_getsOut)
abbrev i_Md_getsOut : Nat := 108
def k_Md_aims : xK := [(0, .iconst 0, 1, 0, 0), (1, .istore_n 2, 1, 0, 0), (2, .aload_n 0, 1, 0, 0), (3, .getfield 25, 3, 9, 7), (6, .iload_n 1, 1, 0, 0), (7, .iaload, 1, 0, 0), (8, .aload_n 0, 1, 0, 0), 
  (9, .iload_n 1, 1, 0, 0), (10, .iconst 3, 1, 5, 0), (11, .invokevirtual 55, 3, 103, 2), (14, .iload_n 2, 1, 0, 0), (15, .iadd, 1, 0, 0), (16, .aload_n 0, 1, 0, 0), (17, .getfield 7, 3, 9, 0), 
  (20, .iconst 1, 1, 1, 0), (21, .iaload, 1, 0, 0), (22, .irem, 1, 0, 0), (23, .ishr, 1, 0, 0), (24, .iconst 1, 1, 1, 0), (25, .iand, 1, 0, 0), (26, .iconst 1, 1, 1, 0), (27, .if_icmp .ne 9, 3, 36, 0), 
  (30, .iinc 2 1, 3, 1, 0), (33, .goto (-31), 3, 2, 0), (36, .aload_n 0, 1, 0, 0), (37, .getfield 31, 3, 9, 9), (40, .iload_n 1, 1, 0, 0), (41, .aload_n 0, 1, 0, 0), (42, .iload_n 1, 1, 0, 0), 
  (43, .iconst 3, 1, 5, 0), (44, .invokevirtual 55, 3, 103, 2), (47, .iload_n 2, 1, 0, 0), (48, .iadd, 1, 0, 0), (49, .aload_n 0, 1, 0, 0), (50, .getfield 7, 3, 9, 0), (53, .iconst 1, 1, 1, 0), 
  (54, .iaload, 1, 0, 0), (55, .irem, 1, 0, 0), (56, .iastore, 1, 0, 0), (57, .aload_n 0, 1, 0, 0), (58, .getfield 34, 3, 9, 10), (61, .iload_n 1, 1, 0, 0), (62, .iload_n 2, 1, 0, 0), 
  (63, .iastore, 1, 0, 0), (64, .return_, 1, 0, 0)]
def m_Md_aims : xM := (9, false, none, 3, k_Md_aims)
abbrev i_Md_aims : Nat := 109
def k_Md_gropes : xK := [(0, .aload_n 0, 1, 0, 0), (1, .iload_n 1, 1, 0, 0), (2, .invokevirtual 69, 3, 105, 1), (5, .ifCond .eq 16, 3, 21, 0), (8, .aload_n 0, 1, 0, 0), (9, .getfield 28, 3, 9, 8), 
  (12, .iload_n 1, 1, 0, 0), (13, .iaload, 1, 0, 0), (14, .ifCond .ge 7, 3, 21, 0), (17, .iconst 1, 1, 1, 0), (18, .goto 4, 3, 22, 0), (21, .iconst 0, 1, 0, 0), (22, .ireturn, 1, 0, 0)]
def m_Md_gropes : xM := (9, false, (some .boolean), 2, k_Md_gropes)
abbrev i_Md_gropes : Nat := 110
def k_Md_getterOf : xK := [(0, .ldc 73, 2, 50, 0), (2, .istore_n 2, 1, 0, 0), (3, .iconst 0, 1, 0, 0), (4, .istore_n 3, 1, 0, 0), (5, .iload_n 3, 1, 0, 0), (6, .aload_n 0, 1, 0, 0), 
  (7, .getfield 7, 3, 9, 0), (10, .iconst 2, 1, 2, 0), (11, .iaload, 1, 0, 0), (12, .if_icmp .ge 75, 3, 87, 0), (15, .aload_n 0, 1, 0, 0), (16, .iload_n 3, 1, 0, 0), (17, .invokevirtual 74, 3, 110, 1), 
  (20, .ifCond .eq 26, 3, 46, 0), (23, .aload_n 0, 1, 0, 0), (24, .getfield 31, 3, 9, 9), (27, .iload_n 3, 1, 0, 0), (28, .iaload, 1, 0, 0), (29, .iload_n 1, 1, 0, 0), (30, .if_icmp .ne 16, 3, 46, 0), 
  (33, .aload_n 0, 1, 0, 0), (34, .getfield 37, 3, 9, 11), (37, .iload_n 1, 1, 0, 0), (38, .iaload, 1, 0, 0), (39, .ifCond .ge 7, 3, 46, 0), (42, .iconst 1, 1, 1, 0), (43, .goto 4, 3, 47, 0), 
  (46, .iconst 0, 1, 0, 0), (47, .istore 4, 2, 0, 0), (49, .iload 4, 2, 0, 0), (51, .ifCond .eq 28, 3, 79, 0), (54, .iload_n 2, 1, 0, 0), (55, .ldc 73, 2, 50, 0), (57, .if_icmp .eq 18, 3, 75, 0), 
  (60, .aload_n 0, 1, 0, 0), (61, .getfield 34, 3, 9, 10), (64, .iload_n 3, 1, 0, 0), (65, .iaload, 1, 0, 0), (66, .aload_n 0, 1, 0, 0), (67, .getfield 34, 3, 9, 10), (70, .iload_n 2, 1, 0, 0), 
  (71, .iaload, 1, 0, 0), (72, .if_icmp .ge 7, 3, 79, 0), (75, .iload_n 3, 1, 0, 0), (76, .goto 4, 3, 80, 0), (79, .iload_n 2, 1, 0, 0), (80, .istore_n 2, 1, 0, 0), (81, .iinc 3 1, 3, 1, 0), 
  (84, .goto (-79), 3, 5, 0), (87, .iload_n 2, 1, 0, 0), (88, .ireturn, 1, 0, 0)]
def m_Md_getterOf : xM := (9, false, (some .int), 5, k_Md_getterOf)
abbrev i_Md_getterOf : Nat := 111
def k_Md_sitsDown : xK := [(0, .aload_n 0, 1, 0, 0), (1, .getfield 28, 3, 9, 8), (4, .iload_n 1, 1, 0, 0), (5, .iload_n 2, 1, 0, 0), (6, .iastore, 1, 0, 0), (7, .aload_n 0, 1, 0, 0), 
  (8, .getfield 37, 3, 9, 11), (11, .iload_n 2, 1, 0, 0), (12, .iload_n 1, 1, 0, 0), (13, .iastore, 1, 0, 0), (14, .aload_n 0, 1, 0, 0), (15, .iload_n 1, 1, 0, 0), (16, .iconst 4, 1, 9, 0), 
  (17, .aload_n 0, 1, 0, 0), (18, .iload_n 1, 1, 0, 0), (19, .iconst 4, 1, 9, 0), (20, .invokevirtual 55, 3, 103, 2), (23, .iconst 1, 1, 1, 0), (24, .iadd, 1, 0, 0), (25, .invokevirtual 62, 3, 104, 3), 
  (28, .aload_n 0, 1, 0, 0), (29, .iload_n 1, 1, 0, 0), (30, .bipush 8, 2, 8, 0), (32, .iload_n 3, 1, 0, 0), (33, .invokevirtual 62, 3, 104, 3), (36, .aload_n 0, 1, 0, 0), (37, .iload_n 1, 1, 0, 0), 
  (38, .iconst 3, 1, 5, 0), (39, .iload_n 2, 1, 0, 0), (40, .invokevirtual 62, 3, 104, 3), (43, .aload_n 0, 1, 0, 0), (44, .iload_n 2, 1, 0, 0), (45, .iconst 1, 1, 1, 0), (46, .aload_n 0, 1, 0, 0), 
  (47, .iload_n 2, 1, 0, 0), (48, .iconst 1, 1, 1, 0), (49, .invokevirtual 59, 3, 101, 2), (52, .iconst 1, 1, 1, 0), (53, .iadd, 1, 0, 0), (54, .invokevirtual 77, 3, 102, 3), (57, .aload_n 0, 1, 0, 0), 
  (58, .iload_n 2, 1, 0, 0), (59, .iconst 2, 1, 2, 0), (60, .iload_n 1, 1, 0, 0), (61, .iconst 1, 1, 1, 0), (62, .iadd, 1, 0, 0), (63, .invokevirtual 77, 3, 102, 3), (66, .aload_n 0, 1, 0, 0), 
  (67, .getfield 7, 3, 9, 0), (70, .bipush 6, 2, 22, 0), (72, .dup2, 1, 0, 0), (73, .iaload, 1, 0, 0), (74, .iconst 1, 1, 1, 0), (75, .iadd, 1, 0, 0), (76, .iastore, 1, 0, 0), (77, .return_, 1, 0, 0)]
def m_Md_sitsDown : xM := (9, false, none, 4, k_Md_sitsDown)
abbrev i_Md_sitsDown : Nat := 112
def k_Md_bumps : xK := [(0, .aload_n 0, 1, 0, 0), (1, .getfield 25, 3, 9, 7), (4, .iload_n 1, 1, 0, 0), (5, .dup2, 1, 0, 0), (6, .iaload, 1, 0, 0), (7, .iconst 1, 1, 1, 0), (8, .aload_n 0, 1, 0, 0), 
  (9, .getfield 31, 3, 9, 9), (12, .iload_n 1, 1, 0, 0), (13, .iaload, 1, 0, 0), (14, .ishl, 1, 0, 0), (15, .ior, 1, 0, 0), (16, .iastore, 1, 0, 0), (17, .aload_n 0, 1, 0, 0), (18, .iload_n 1, 1, 0, 0), 
  (19, .iconst 3, 1, 5, 0), (20, .aload_n 0, 1, 0, 0), (21, .getfield 31, 3, 9, 9), (24, .iload_n 1, 1, 0, 0), (25, .iaload, 1, 0, 0), (26, .invokevirtual 62, 3, 104, 3), (29, .aload_n 0, 1, 0, 0), 
  (30, .iload_n 1, 1, 0, 0), (31, .iconst 5, 1, 7, 0), (32, .aload_n 0, 1, 0, 0), (33, .iload_n 1, 1, 0, 0), (34, .iconst 5, 1, 7, 0), (35, .invokevirtual 55, 3, 103, 2), (38, .iconst 1, 1, 1, 0), 
  (39, .iadd, 1, 0, 0), (40, .invokevirtual 62, 3, 104, 3), (43, .aload_n 0, 1, 0, 0), (44, .getfield 7, 3, 9, 0), (47, .bipush 7, 2, 19, 0), (49, .dup2, 1, 0, 0), (50, .iaload, 1, 0, 0), 
  (51, .iconst 1, 1, 1, 0), (52, .iadd, 1, 0, 0), (53, .iastore, 1, 0, 0), (54, .return_, 1, 0, 0)]
def m_Md_bumps : xM := (9, false, none, 2, k_Md_bumps)
abbrev i_Md_bumps : Nat := 113
def k_Md_rings : xK := [(0, .sipush 232, 3, 36, 0), (3, .istore_n 3, 1, 0, 0), (4, .iload_n 3, 1, 0, 0), (5, .sipush 178, 3, 37, 0), (8, .if_icmp .lt 23, 3, 31, 0), (11, .aload_n 0, 1, 0, 0), 
  (12, .getfield 7, 3, 9, 0), (15, .iload_n 3, 1, 0, 0), (16, .aload_n 0, 1, 0, 0), (17, .getfield 7, 3, 9, 0), (20, .iload_n 3, 1, 0, 0), (21, .iconst 5, 1, 7, 0), (22, .isub, 1, 0, 0), 
  (23, .iaload, 1, 0, 0), (24, .iastore, 1, 0, 0), (25, .iinc 3 (-1), 3, 4, 0), (28, .goto (-24), 3, 4, 0), (31, .aload_n 0, 1, 0, 0), (32, .getfield 7, 3, 9, 0), (35, .sipush 173, 3, 31, 0), 
  (38, .aload_n 0, 1, 0, 0), (39, .getfield 7, 3, 9, 0), (42, .iconst 4, 1, 9, 0), (43, .iaload, 1, 0, 0), (44, .iconst 1, 1, 1, 0), (45, .iadd, 1, 0, 0), (46, .iastore, 1, 0, 0), (47, .aload_n 0, 1, 0, 0), 
  (48, .getfield 7, 3, 9, 0), (51, .sipush 174, 3, 38, 0), (54, .iload_n 2, 1, 0, 0), (55, .iastore, 1, 0, 0), (56, .aload_n 0, 1, 0, 0), (57, .getfield 7, 3, 9, 0), (60, .sipush 175, 3, 39, 0), 
  (63, .iload_n 1, 1, 0, 0), (64, .iastore, 1, 0, 0), (65, .aload_n 0, 1, 0, 0), (66, .getfield 7, 3, 9, 0), (69, .sipush 176, 3, 40, 0), (72, .aload_n 0, 1, 0, 0), (73, .iload_n 1, 1, 0, 0), 
  (74, .iconst 0, 1, 0, 0), (75, .invokevirtual 59, 3, 101, 2), (78, .iastore, 1, 0, 0), (79, .aload_n 0, 1, 0, 0), (80, .getfield 7, 3, 9, 0), (83, .sipush 177, 3, 41, 0), (86, .aload_n 0, 1, 0, 0), 
  (87, .getfield 37, 3, 9, 11), (90, .iload_n 1, 1, 0, 0), (91, .iaload, 1, 0, 0), (92, .iastore, 1, 0, 0), (93, .aload_n 0, 1, 0, 0), (94, .getfield 7, 3, 9, 0), (97, .bipush 13, 2, 23, 0), 
  (99, .dup2, 1, 0, 0), (100, .iaload, 1, 0, 0), (101, .aload_n 0, 1, 0, 0), (102, .getfield 7, 3, 9, 0), (105, .bipush 13, 2, 23, 0), (107, .iaload, 1, 0, 0), (108, .bipush 12, 2, 3, 0), 
  (110, .if_icmp .ge 7, 3, 117, 0), (113, .iconst 1, 1, 1, 0), (114, .goto 4, 3, 118, 0), (117, .iconst 0, 1, 0, 0), (118, .iadd, 1, 0, 0), (119, .iastore, 1, 0, 0), (120, .iconst 0, 1, 0, 0), 
  (121, .istore_n 3, 1, 0, 0), (122, .iload_n 3, 1, 0, 0), (123, .aload_n 0, 1, 0, 0), (124, .getfield 7, 3, 9, 0), (127, .iconst 2, 1, 2, 0), (128, .iaload, 1, 0, 0), (129, .if_icmp .ge 34, 3, 163, 0), 
  (132, .aload_n 0, 1, 0, 0), (133, .getfield 25, 3, 9, 7), (136, .iload_n 3, 1, 0, 0), (137, .dup2, 1, 0, 0), (138, .iaload, 1, 0, 0), (139, .aload_n 0, 1, 0, 0), (140, .iload_n 3, 1, 0, 0), 
  (141, .iload_n 1, 1, 0, 0), (142, .invokevirtual 80, 3, 107, 2), (145, .ifCond .eq 9, 3, 154, 0), (148, .iconst 1, 1, 1, 0), (149, .iload_n 1, 1, 0, 0), (150, .ishl, 1, 0, 0), (151, .goto 4, 3, 155, 0), 
  (154, .iconst 0, 1, 0, 0), (155, .ior, 1, 0, 0), (156, .iastore, 1, 0, 0), (157, .iinc 3 1, 3, 1, 0), (160, .goto (-38), 3, 122, 0), (163, .return_, 1, 0, 0)]
def m_Md_rings : xM := (9, false, none, 4, k_Md_rings)
abbrev i_Md_rings : Nat := 114
def k_Md_ticks : xK := [(0, .iconst 0, 1, 0, 0), (1, .istore_n 2, 1, 0, 0), (2, .iload_n 2, 1, 0, 0), (3, .aload_n 0, 1, 0, 0), (4, .getfield 7, 3, 9, 0), (7, .iconst 2, 1, 2, 0), (8, .iaload, 1, 0, 0), 
  (9, .if_icmp .ge 42, 3, 51, 0), (12, .aload_n 0, 1, 0, 0), (13, .iload_n 2, 1, 0, 0), (14, .invokevirtual 74, 3, 110, 1), (17, .ifCond .eq 28, 3, 45, 0), (20, .aload_n 0, 1, 0, 0), 
  (21, .getfield 25, 3, 9, 7), (24, .iload_n 2, 1, 0, 0), (25, .iaload, 1, 0, 0), (26, .iconst 1, 1, 1, 0), (27, .aload_n 0, 1, 0, 0), (28, .getfield 7, 3, 9, 0), (31, .iconst 1, 1, 1, 0), 
  (32, .iaload, 1, 0, 0), (33, .ishl, 1, 0, 0), (34, .iconst 1, 1, 1, 0), (35, .isub, 1, 0, 0), (36, .if_icmp .ne 9, 3, 45, 0), (39, .aload_n 0, 1, 0, 0), (40, .iload_n 2, 1, 0, 0), 
  (41, .iload_n 1, 1, 0, 0), (42, .invokevirtual 84, 3, 108, 2), (45, .iinc 2 1, 3, 1, 0), (48, .goto (-46), 3, 2, 0), (51, .iconst 0, 1, 0, 0), (52, .istore_n 2, 1, 0, 0), (53, .iload_n 2, 1, 0, 0), 
  (54, .aload_n 0, 1, 0, 0), (55, .getfield 7, 3, 9, 0), (58, .iconst 2, 1, 2, 0), (59, .iaload, 1, 0, 0), (60, .if_icmp .ge 22, 3, 82, 0), (63, .aload_n 0, 1, 0, 0), (64, .iload_n 2, 1, 0, 0), 
  (65, .invokevirtual 74, 3, 110, 1), (68, .ifCond .eq 8, 3, 76, 0), (71, .aload_n 0, 1, 0, 0), (72, .iload_n 2, 1, 0, 0), (73, .invokevirtual 88, 3, 109, 1), (76, .iinc 2 1, 3, 1, 0), 
  (79, .goto (-26), 3, 53, 0), (82, .iconst 0, 1, 0, 0), (83, .istore_n 2, 1, 0, 0), (84, .iload_n 2, 1, 0, 0), (85, .aload_n 0, 1, 0, 0), (86, .getfield 7, 3, 9, 0), (89, .iconst 1, 1, 1, 0), 
  (90, .iaload, 1, 0, 0), (91, .if_icmp .ge 20, 3, 111, 0), (94, .aload_n 0, 1, 0, 0), (95, .getfield 40, 3, 9, 13), (98, .iload_n 2, 1, 0, 0), (99, .aload_n 0, 1, 0, 0), (100, .iload_n 2, 1, 0, 0), 
  (101, .invokevirtual 92, 3, 111, 1), (104, .iastore, 1, 0, 0), (105, .iinc 2 1, 3, 1, 0), (108, .goto (-24), 3, 84, 0), (111, .iconst 0, 1, 0, 0), (112, .istore_n 2, 1, 0, 0), (113, .iload_n 2, 1, 0, 0), 
  (114, .aload_n 0, 1, 0, 0), (115, .getfield 7, 3, 9, 0), (118, .iconst 2, 1, 2, 0), (119, .iaload, 1, 0, 0), (120, .if_icmp .ge 37, 3, 157, 0), (123, .aload_n 0, 1, 0, 0), (124, .iload_n 2, 1, 0, 0), 
  (125, .invokevirtual 74, 3, 110, 1), (128, .ifCond .eq 23, 3, 151, 0), (131, .aload_n 0, 1, 0, 0), (132, .getfield 40, 3, 9, 13), (135, .aload_n 0, 1, 0, 0), (136, .getfield 31, 3, 9, 9), 
  (139, .iload_n 2, 1, 0, 0), (140, .iaload, 1, 0, 0), (141, .iaload, 1, 0, 0), (142, .iload_n 2, 1, 0, 0), (143, .if_icmp .eq 8, 3, 151, 0), (146, .aload_n 0, 1, 0, 0), (147, .iload_n 2, 1, 0, 0), 
  (148, .invokevirtual 96, 3, 113, 1), (151, .iinc 2 1, 3, 1, 0), (154, .goto (-41), 3, 113, 0), (157, .iconst 0, 1, 0, 0), (158, .istore_n 2, 1, 0, 0), (159, .iload_n 2, 1, 0, 0), 
  (160, .aload_n 0, 1, 0, 0), (161, .getfield 7, 3, 9, 0), (164, .iconst 1, 1, 1, 0), (165, .iaload, 1, 0, 0), (166, .if_icmp .ge 30, 3, 196, 0), (169, .aload_n 0, 1, 0, 0), (170, .getfield 40, 3, 9, 13), 
  (173, .iload_n 2, 1, 0, 0), (174, .iaload, 1, 0, 0), (175, .ifCond .lt 15, 3, 190, 0), (178, .aload_n 0, 1, 0, 0), (179, .aload_n 0, 1, 0, 0), (180, .getfield 40, 3, 9, 13), (183, .iload_n 2, 1, 0, 0), 
  (184, .iaload, 1, 0, 0), (185, .iload_n 2, 1, 0, 0), (186, .iload_n 1, 1, 0, 0), (187, .invokevirtual 99, 3, 112, 3), (190, .iinc 2 1, 3, 1, 0), (193, .goto (-34), 3, 159, 0), (196, .iconst 0, 1, 0, 0), 
  (197, .istore_n 2, 1, 0, 0), (198, .iload_n 2, 1, 0, 0), (199, .aload_n 0, 1, 0, 0), (200, .getfield 7, 3, 9, 0), (203, .iconst 1, 1, 1, 0), (204, .iaload, 1, 0, 0), (205, .if_icmp .ge 24, 3, 229, 0), 
  (208, .aload_n 0, 1, 0, 0), (209, .getfield 40, 3, 9, 13), (212, .iload_n 2, 1, 0, 0), (213, .iaload, 1, 0, 0), (214, .ifCond .lt 9, 3, 223, 0), (217, .aload_n 0, 1, 0, 0), (218, .iload_n 2, 1, 0, 0), 
  (219, .iload_n 1, 1, 0, 0), (220, .invokevirtual 102, 3, 114, 2), (223, .iinc 2 1, 3, 1, 0), (226, .goto (-28), 3, 198, 0), (229, .iconst 0, 1, 0, 0), (230, .istore_n 2, 1, 0, 0), 
  (231, .iconst 0, 1, 0, 0), (232, .istore_n 3, 1, 0, 0), (233, .iload_n 3, 1, 0, 0), (234, .aload_n 0, 1, 0, 0), (235, .getfield 7, 3, 9, 0), (238, .iconst 2, 1, 2, 0), (239, .iaload, 1, 0, 0), 
  (240, .if_icmp .ge 27, 3, 267, 0), (243, .iload_n 2, 1, 0, 0), (244, .ifCond .ne 11, 3, 255, 0), (247, .aload_n 0, 1, 0, 0), (248, .iload_n 3, 1, 0, 0), (249, .invokevirtual 74, 3, 110, 1), 
  (252, .ifCond .eq 7, 3, 259, 0), (255, .iconst 1, 1, 1, 0), (256, .goto 4, 3, 260, 0), (259, .iconst 0, 1, 0, 0), (260, .istore_n 2, 1, 0, 0), (261, .iinc 3 1, 3, 1, 0), (264, .goto (-31), 3, 233, 0), 
  (267, .iload_n 2, 1, 0, 0), (268, .ireturn, 1, 0, 0)]
def m_Md_ticks : xM := (9, false, (some .boolean), 4, k_Md_ticks)
abbrev i_Md_ticks : Nat := 115
def k_Md_gropesAll : xK := [(0, .aload_n 0, 1, 0, 0), (1, .iconst 0, 1, 0, 0), (2, .putfield 66, 3, 9, 12), (5, .iconst 0, 1, 0, 0), (6, .istore_n 1, 1, 0, 0), (7, .iload_n 1, 1, 0, 0), 
  (8, .aload_n 0, 1, 0, 0), (9, .getfield 7, 3, 9, 0), (12, .iconst 2, 1, 2, 0), (13, .iaload, 1, 0, 0), (14, .if_icmp .ge 23, 3, 37, 0), (17, .aload_n 0, 1, 0, 0), (18, .getfield 25, 3, 9, 7), 
  (21, .iload_n 1, 1, 0, 0), (22, .iconst 0, 1, 0, 0), (23, .iastore, 1, 0, 0), (24, .aload_n 0, 1, 0, 0), (25, .getfield 28, 3, 9, 8), (28, .iload_n 1, 1, 0, 0), (29, .iconst (-1), 1, 4, 0), 
  (30, .iastore, 1, 0, 0), (31, .iinc 1 1, 3, 1, 0), (34, .goto (-27), 3, 7, 0), (37, .iconst 0, 1, 0, 0), (38, .istore_n 1, 1, 0, 0), (39, .iload_n 1, 1, 0, 0), (40, .aload_n 0, 1, 0, 0), 
  (41, .getfield 7, 3, 9, 0), (44, .iconst 1, 1, 1, 0), (45, .iaload, 1, 0, 0), (46, .if_icmp .ge 16, 3, 62, 0), (49, .aload_n 0, 1, 0, 0), (50, .getfield 37, 3, 9, 11), (53, .iload_n 1, 1, 0, 0), 
  (54, .iconst (-1), 1, 4, 0), (55, .iastore, 1, 0, 0), (56, .iinc 1 1, 3, 1, 0), (59, .goto (-20), 3, 39, 0), (62, .iconst 0, 1, 0, 0), (63, .istore_n 1, 1, 0, 0), (64, .iconst 1, 1, 1, 0), 
  (65, .istore_n 2, 1, 0, 0), (66, .iload_n 2, 1, 0, 0), (67, .ifCond .eq 15, 3, 82, 0), (70, .iinc 1 1, 3, 1, 0), (73, .aload_n 0, 1, 0, 0), (74, .iload_n 1, 1, 0, 0), (75, .invokevirtual 105, 3, 115, 1), 
  (78, .istore_n 2, 1, 0, 0), (79, .goto (-13), 3, 66, 0), (82, .aload_n 0, 1, 0, 0), (83, .getfield 7, 3, 9, 0), (86, .bipush 11, 2, 42, 0), (88, .dup2, 1, 0, 0), (89, .iaload, 1, 0, 0), 
  (90, .iload_n 1, 1, 0, 0), (91, .iadd, 1, 0, 0), (92, .iastore, 1, 0, 0), (93, .return_, 1, 0, 0)]
def m_Md_gropesAll : xM := (9, false, none, 3, k_Md_gropesAll)
abbrev i_Md_gropesAll : Nat := 116
def k_Md_takesChair : xK := [(0, .iconst 0, 1, 0, 0), (1, .istore_n 1, 1, 0, 0), (2, .iconst 1, 1, 1, 0), (3, .istore_n 2, 1, 0, 0), (4, .iload_n 2, 1, 0, 0), (5, .aload_n 0, 1, 0, 0), 
  (6, .getfield 7, 3, 9, 0), (9, .iconst 1, 1, 1, 0), (10, .iaload, 1, 0, 0), (11, .if_icmp .ge 30, 3, 41, 0), (14, .aload_n 0, 1, 0, 0), (15, .iload_n 2, 1, 0, 0), (16, .iconst 1, 1, 1, 0), 
  (17, .invokevirtual 59, 3, 101, 2), (20, .aload_n 0, 1, 0, 0), (21, .iload_n 1, 1, 0, 0), (22, .iconst 1, 1, 1, 0), (23, .invokevirtual 59, 3, 101, 2), (26, .if_icmp .lt 7, 3, 33, 0), 
  (29, .iload_n 2, 1, 0, 0), (30, .goto 4, 3, 34, 0), (33, .iload_n 1, 1, 0, 0), (34, .istore_n 1, 1, 0, 0), (35, .iinc 2 1, 3, 1, 0), (38, .goto (-34), 3, 4, 0), (41, .aload_n 0, 1, 0, 0), 
  (42, .getfield 7, 3, 9, 0), (45, .iconst 1, 1, 1, 0), (46, .dup2, 1, 0, 0), (47, .iaload, 1, 0, 0), (48, .iconst 1, 1, 1, 0), (49, .isub, 1, 0, 0), (50, .iastore, 1, 0, 0), (51, .aload_n 0, 1, 0, 0), 
  (52, .getfield 7, 3, 9, 0), (55, .bipush 16, 2, 6, 0), (57, .dup2, 1, 0, 0), (58, .iaload, 1, 0, 0), (59, .iconst 1, 1, 1, 0), (60, .iadd, 1, 0, 0), (61, .iastore, 1, 0, 0), (62, .bipush 17, 2, 16, 0), 
  (64, .iconst 3, 1, 5, 0), (65, .iload_n 1, 1, 0, 0), (66, .imul, 1, 0, 0), (67, .iadd, 1, 0, 0), (68, .istore_n 2, 1, 0, 0), (69, .iload_n 2, 1, 0, 0), (70, .bipush 65, 2, 13, 0), 
  (72, .if_icmp .ge 35, 3, 107, 0), (75, .aload_n 0, 1, 0, 0), (76, .getfield 7, 3, 9, 0), (79, .iload_n 2, 1, 0, 0), (80, .iload_n 2, 1, 0, 0), (81, .iconst 3, 1, 5, 0), (82, .iadd, 1, 0, 0), 
  (83, .bipush 65, 2, 13, 0), (85, .if_icmp .ge 14, 3, 99, 0), (88, .aload_n 0, 1, 0, 0), (89, .getfield 7, 3, 9, 0), (92, .iload_n 2, 1, 0, 0), (93, .iconst 3, 1, 5, 0), (94, .iadd, 1, 0, 0), 
  (95, .iaload, 1, 0, 0), (96, .goto 4, 3, 100, 0), (99, .iconst 0, 1, 0, 0), (100, .iastore, 1, 0, 0), (101, .iinc 2 1, 3, 1, 0), (104, .goto (-35), 3, 69, 0), (107, .return_, 1, 0, 0)]
def m_Md_takesChair : xM := (9, false, none, 3, k_Md_takesChair)
abbrev i_Md_takesChair : Nat := 117
def k_Md_goStop : xK := [(0, .aload_n 0, 1, 0, 0), (1, .getfield 7, 3, 9, 0), (4, .bipush 9, 2, 10, 0), (6, .dup2, 1, 0, 0), (7, .iaload, 1, 0, 0), (8, .aload_n 0, 1, 0, 0), (9, .invokevirtual 108, 3, 106, 0), 
  (12, .aload_n 0, 1, 0, 0), (13, .getfield 7, 3, 9, 0), (16, .iconst 1, 1, 1, 0), (17, .iaload, 1, 0, 0), (18, .isub, 1, 0, 0), (19, .iadd, 1, 0, 0), (20, .iastore, 1, 0, 0), (21, .aload_n 0, 1, 0, 0), 
  (22, .invokevirtual 112, 3, 116, 0), (25, .aload_n 0, 1, 0, 0), (26, .getfield 7, 3, 9, 0), (29, .iconst 4, 1, 9, 0), (30, .dup2, 1, 0, 0), (31, .iaload, 1, 0, 0), (32, .iconst 1, 1, 1, 0), 
  (33, .iadd, 1, 0, 0), (34, .iastore, 1, 0, 0), (35, .aload_n 0, 1, 0, 0), (36, .getfield 7, 3, 9, 0), (39, .iconst 5, 1, 7, 0), (40, .iconst 0, 1, 0, 0), (41, .iastore, 1, 0, 0), 
  (42, .aload_n 0, 1, 0, 0), (43, .getfield 7, 3, 9, 0), (46, .iconst 0, 1, 0, 0), (47, .aload_n 0, 1, 0, 0), (48, .invokevirtual 108, 3, 106, 0), (51, .iconst 2, 1, 2, 0), (52, .if_icmp .ge 7, 3, 59, 0), 
  (55, .iconst 2, 1, 2, 0), (56, .goto 4, 3, 60, 0), (59, .iconst 0, 1, 0, 0), (60, .iastore, 1, 0, 0), (61, .aload_n 0, 1, 0, 0), (62, .getfield 7, 3, 9, 0), (65, .iconst 0, 1, 0, 0), 
  (66, .iaload, 1, 0, 0), (67, .ifCond .ne 40, 3, 107, 0), (70, .aload_n 0, 1, 0, 0), (71, .getfield 7, 3, 9, 0), (74, .iconst 1, 1, 1, 0), (75, .iaload, 1, 0, 0), (76, .iconst 1, 1, 1, 0), 
  (77, .if_icmp .le 30, 3, 107, 0), (80, .aload_n 0, 1, 0, 0), (81, .getfield 7, 3, 9, 0), (84, .iconst 1, 1, 1, 0), (85, .iaload, 1, 0, 0), (86, .aload_n 0, 1, 0, 0), (87, .invokevirtual 108, 3, 106, 0), 
  (90, .aload_n 0, 1, 0, 0), (91, .getfield 7, 3, 9, 0), (94, .iconst 3, 1, 5, 0), (95, .iaload, 1, 0, 0), (96, .isub, 1, 0, 0), (97, .if_icmp .le 10, 3, 107, 0), (100, .aload_n 0, 1, 0, 0), 
  (101, .invokevirtual 115, 3, 117, 0), (104, .goto (-43), 3, 61, 0), (107, .aload_n 0, 1, 0, 0), (108, .getfield 66, 3, 9, 12), (111, .ireturn, 1, 0, 0)]
def m_Md_goStop : xM := (9, false, (some .int), 1, k_Md_goStop)
abbrev i_Md_goStop : Nat := 118
def k_Md_goChair : xK := [(0, .aload_n 0, 1, 0, 0), (1, .aload_n 0, 1, 0, 0), (2, .getfield 7, 3, 9, 0), (5, .iconst 1, 1, 1, 0), (6, .iaload, 1, 0, 0), (7, .iconst 0, 1, 0, 0), (8, .iload_n 1, 1, 0, 0), 
  (9, .invokevirtual 77, 3, 102, 3), (12, .aload_n 0, 1, 0, 0), (13, .aload_n 0, 1, 0, 0), (14, .getfield 7, 3, 9, 0), (17, .iconst 1, 1, 1, 0), (18, .iaload, 1, 0, 0), (19, .iconst 1, 1, 1, 0), 
  (20, .iconst 0, 1, 0, 0), (21, .invokevirtual 77, 3, 102, 3), (24, .aload_n 0, 1, 0, 0), (25, .aload_n 0, 1, 0, 0), (26, .getfield 7, 3, 9, 0), (29, .iconst 1, 1, 1, 0), (30, .iaload, 1, 0, 0), 
  (31, .iconst 2, 1, 2, 0), (32, .iconst 0, 1, 0, 0), (33, .invokevirtual 77, 3, 102, 3), (36, .aload_n 0, 1, 0, 0), (37, .getfield 7, 3, 9, 0), (40, .iconst 1, 1, 1, 0), (41, .dup2, 1, 0, 0), 
  (42, .iaload, 1, 0, 0), (43, .iconst 1, 1, 1, 0), (44, .iadd, 1, 0, 0), (45, .iastore, 1, 0, 0), (46, .aload_n 0, 1, 0, 0), (47, .getfield 7, 3, 9, 0), (50, .iconst 1, 1, 1, 0), (51, .iaload, 1, 0, 0), 
  (52, .iconst 1, 1, 1, 0), (53, .isub, 1, 0, 0), (54, .ireturn, 1, 0, 0)]
def m_Md_goChair : xM := (9, false, (some .int), 2, k_Md_goChair)
abbrev i_Md_goChair : Nat := 119
def k_Md_goPlayer : xK := [(0, .aload_n 0, 1, 0, 0), (1, .getfield 7, 3, 9, 0), (4, .iconst 2, 1, 2, 0), (5, .iaload, 1, 0, 0), (6, .istore_n 3, 1, 0, 0), (7, .iconst 0, 1, 0, 0), (8, .istore 4, 2, 0, 0), 
  (10, .iload 4, 2, 0, 0), (12, .bipush 9, 2, 10, 0), (14, .if_icmp .ge 17, 3, 31, 0), (17, .aload_n 0, 1, 0, 0), (18, .iload_n 3, 1, 0, 0), (19, .iload 4, 2, 0, 0), (21, .iconst 0, 1, 0, 0), 
  (22, .invokevirtual 62, 3, 104, 3), (25, .iinc 4 1, 3, 1, 0), (28, .goto (-18), 3, 10, 0), (31, .aload_n 0, 1, 0, 0), (32, .iload_n 3, 1, 0, 0), (33, .iconst 0, 1, 0, 0), (34, .iload_n 1, 1, 0, 0), 
  (35, .invokevirtual 62, 3, 104, 3), (38, .aload_n 0, 1, 0, 0), (39, .iload_n 3, 1, 0, 0), (40, .iconst 1, 1, 1, 0), (41, .iload_n 2, 1, 0, 0), (42, .invokevirtual 62, 3, 104, 3), 
  (45, .aload_n 0, 1, 0, 0), (46, .iload_n 3, 1, 0, 0), (47, .iconst 2, 1, 2, 0), (48, .iconst 1, 1, 1, 0), (49, .invokevirtual 62, 3, 104, 3), (52, .aload_n 0, 1, 0, 0), (53, .getfield 7, 3, 9, 0), 
  (56, .iconst 2, 1, 2, 0), (57, .dup2, 1, 0, 0), (58, .iaload, 1, 0, 0), (59, .iconst 1, 1, 1, 0), (60, .iadd, 1, 0, 0), (61, .iastore, 1, 0, 0), (62, .iload_n 3, 1, 0, 0), (63, .ireturn, 1, 0, 0)]
def m_Md_goPlayer : xM := (9, false, (some .int), 5, k_Md_goPlayer)
abbrev i_Md_goPlayer : Nat := 120
def k_Md_goStart : xK := [(0, .iconst 0, 1, 0, 0), (1, .istore_n 1, 1, 0, 0), (2, .iconst 0, 1, 0, 0), (3, .istore_n 2, 1, 0, 0), (4, .iload_n 2, 1, 0, 0), (5, .aload_n 0, 1, 0, 0), 
  (6, .getfield 7, 3, 9, 0), (9, .iconst 2, 1, 2, 0), (10, .iaload, 1, 0, 0), (11, .if_icmp .ge 44, 3, 55, 0), (14, .aload_n 0, 1, 0, 0), (15, .iload_n 2, 1, 0, 0), (16, .iconst 3, 1, 5, 0), 
  (17, .aload_n 0, 1, 0, 0), (18, .iload_n 2, 1, 0, 0), (19, .invokevirtual 69, 3, 105, 1), (22, .ifCond .eq 14, 3, 36, 0), (25, .iload_n 1, 1, 0, 0), (26, .aload_n 0, 1, 0, 0), (27, .getfield 7, 3, 9, 0), 
  (30, .iconst 1, 1, 1, 0), (31, .iaload, 1, 0, 0), (32, .irem, 1, 0, 0), (33, .goto 4, 3, 37, 0), (36, .iconst 0, 1, 0, 0), (37, .invokevirtual 62, 3, 104, 3), (40, .iload_n 1, 1, 0, 0), 
  (41, .aload_n 0, 1, 0, 0), (42, .iload_n 2, 1, 0, 0), (43, .iconst 2, 1, 2, 0), (44, .invokevirtual 55, 3, 103, 2), (47, .iadd, 1, 0, 0), (48, .istore_n 1, 1, 0, 0), (49, .iinc 2 1, 3, 1, 0), 
  (52, .goto (-48), 3, 4, 0), (55, .iconst 0, 1, 0, 0), (56, .istore_n 2, 1, 0, 0), (57, .iload_n 2, 1, 0, 0), (58, .aload_n 0, 1, 0, 0), (59, .getfield 7, 3, 9, 0), (62, .iconst 1, 1, 1, 0), 
  (63, .iaload, 1, 0, 0), (64, .if_icmp .ge 16, 3, 80, 0), (67, .aload_n 0, 1, 0, 0), (68, .iload_n 2, 1, 0, 0), (69, .iconst 2, 1, 2, 0), (70, .iconst 0, 1, 0, 0), (71, .invokevirtual 77, 3, 102, 3), 
  (74, .iinc 2 1, 3, 1, 0), (77, .goto (-20), 3, 57, 0), (80, .aload_n 0, 1, 0, 0), (81, .getfield 7, 3, 9, 0), (84, .iconst 5, 1, 7, 0), (85, .iconst 0, 1, 0, 0), (86, .iastore, 1, 0, 0), 
  (87, .aload_n 0, 1, 0, 0), (88, .getfield 7, 3, 9, 0), (91, .iconst 0, 1, 0, 0), (92, .iconst 1, 1, 1, 0), (93, .iastore, 1, 0, 0), (94, .iload_n 1, 1, 0, 0), (95, .ireturn, 1, 0, 0)]
def m_Md_goStart : xM := (9, false, (some .int), 3, k_Md_goStart)
abbrev i_Md_goStart : Nat := 121
def k_Md_goBeat : xK := [(0, .iconst 0, 1, 0, 0), (1, .istore_n 2, 1, 0, 0), (2, .iload_n 2, 1, 0, 0), (3, .aload_n 0, 1, 0, 0), (4, .getfield 7, 3, 9, 0), (7, .iconst 2, 1, 2, 0), 
  (8, .iaload, 1, 0, 0), (9, .if_icmp .ge 78, 3, 87, 0), (12, .aload_n 0, 1, 0, 0), (13, .iload_n 2, 1, 0, 0), (14, .invokevirtual 69, 3, 105, 1), (17, .ifCond .eq 14, 3, 31, 0), (20, .iload_n 1, 1, 0, 0), 
  (21, .aload_n 0, 1, 0, 0), (22, .iload_n 2, 1, 0, 0), (23, .iconst 0, 1, 0, 0), (24, .invokevirtual 55, 3, 103, 2), (27, .imul, 1, 0, 0), (28, .goto 4, 3, 32, 0), (31, .iconst 0, 1, 0, 0), 
  (32, .istore_n 3, 1, 0, 0), (33, .aload_n 0, 1, 0, 0), (34, .iload_n 2, 1, 0, 0), (35, .iconst 3, 1, 5, 0), (36, .aload_n 0, 1, 0, 0), (37, .iload_n 2, 1, 0, 0), (38, .iconst 3, 1, 5, 0), 
  (39, .invokevirtual 55, 3, 103, 2), (42, .iload_n 3, 1, 0, 0), (43, .iadd, 1, 0, 0), (44, .aload_n 0, 1, 0, 0), (45, .getfield 7, 3, 9, 0), (48, .iconst 1, 1, 1, 0), (49, .iaload, 1, 0, 0), 
  (50, .irem, 1, 0, 0), (51, .invokevirtual 62, 3, 104, 3), (54, .aload_n 0, 1, 0, 0), (55, .iload_n 2, 1, 0, 0), (56, .bipush 6, 2, 22, 0), (58, .aload_n 0, 1, 0, 0), (59, .iload_n 2, 1, 0, 0), 
  (60, .bipush 6, 2, 22, 0), (62, .invokevirtual 55, 3, 103, 2), (65, .iload_n 3, 1, 0, 0), (66, .iadd, 1, 0, 0), (67, .invokevirtual 62, 3, 104, 3), (70, .aload_n 0, 1, 0, 0), (71, .getfield 7, 3, 9, 0), 
  (74, .bipush 10, 2, 20, 0), (76, .dup2, 1, 0, 0), (77, .iaload, 1, 0, 0), (78, .iload_n 3, 1, 0, 0), (79, .iadd, 1, 0, 0), (80, .iastore, 1, 0, 0), (81, .iinc 2 1, 3, 1, 0), (84, .goto (-82), 3, 2, 0), 
  (87, .aload_n 0, 1, 0, 0), (88, .getfield 7, 3, 9, 0), (91, .iconst 5, 1, 7, 0), (92, .dup2, 1, 0, 0), (93, .iaload, 1, 0, 0), (94, .iload_n 1, 1, 0, 0), (95, .iadd, 1, 0, 0), (96, .iastore, 1, 0, 0), 
  (97, .aload_n 0, 1, 0, 0), (98, .getfield 7, 3, 9, 0), (101, .iconst 5, 1, 7, 0), (102, .iaload, 1, 0, 0), (103, .ireturn, 1, 0, 0)]
def m_Md_goBeat : xM := (9, false, (some .int), 4, k_Md_goBeat)
abbrev i_Md_goBeat : Nat := 122
def k_Md_errorChair : xK := [(0, .iload_n 1, 1, 0, 0), (1, .iconst 0, 1, 0, 0), (2, .bipush 8, 2, 8, 0), (4, .invokestatic 51, 3, 96, 3), (7, .ifCond .ne 8, 3, 15, 0), (10, .ldc 118, 2, 48, 0), 
  (12, .goto 34, 3, 46, 0), (15, .aload_n 0, 1, 0, 0), (16, .getfield 7, 3, 9, 0), (19, .iconst 0, 1, 0, 0), (20, .iaload, 1, 0, 0), (21, .ifCond .eq 8, 3, 29, 0), (24, .ldc 119, 2, 49, 0), 
  (26, .goto 20, 3, 46, 0), (29, .aload_n 0, 1, 0, 0), (30, .getfield 7, 3, 9, 0), (33, .iconst 1, 1, 1, 0), (34, .iaload, 1, 0, 0), (35, .bipush 16, 2, 6, 0), (37, .if_icmp .ne 8, 3, 45, 0), 
  (40, .ldc 120, 2, 47, 0), (42, .goto 4, 3, 46, 0), (45, .iconst 0, 1, 0, 0), (46, .ireturn, 1, 0, 0)]
def m_Md_errorChair : xM := (9, false, (some .int), 2, k_Md_errorChair)
abbrev i_Md_errorChair : Nat := 123
def k_Md_errorPlayer : xK := [(0, .iload_n 1, 1, 0, 0), (1, .iconst 0, 1, 0, 0), (2, .bipush 9, 2, 10, 0), (4, .invokestatic 51, 3, 96, 3), (7, .ifCond .eq 14, 3, 21, 0), (10, .iload_n 2, 1, 0, 0), 
  (11, .iconst 0, 1, 0, 0), (12, .sipush 511, 3, 14, 0), (15, .invokestatic 51, 3, 96, 3), (18, .ifCond .ne 6, 3, 24, 0), (21, .ldc 118, 2, 48, 0), (23, .ireturn, 1, 0, 0), (24, .aload_n 0, 1, 0, 0), 
  (25, .getfield 7, 3, 9, 0), (28, .iconst 0, 1, 0, 0), (29, .iaload, 1, 0, 0), (30, .ifCond .eq 8, 3, 38, 0), (33, .ldc 119, 2, 49, 0), (35, .goto 20, 3, 55, 0), (38, .aload_n 0, 1, 0, 0), 
  (39, .getfield 7, 3, 9, 0), (42, .iconst 2, 1, 2, 0), (43, .iaload, 1, 0, 0), (44, .bipush 12, 2, 3, 0), (46, .if_icmp .ne 8, 3, 54, 0), (49, .ldc 120, 2, 47, 0), (51, .goto 4, 3, 55, 0), 
  (54, .iconst 0, 1, 0, 0), (55, .ireturn, 1, 0, 0)]
def m_Md_errorPlayer : xM := (9, false, (some .int), 3, k_Md_errorPlayer)
abbrev i_Md_errorPlayer : Nat := 124
def k_Md_errorStart : xK := [(0, .aload_n 0, 1, 0, 0), (1, .getfield 7, 3, 9, 0), (4, .iconst 0, 1, 0, 0), (5, .iaload, 1, 0, 0), (6, .ifCond .ne 25, 3, 31, 0), (9, .aload_n 0, 1, 0, 0), 
  (10, .getfield 7, 3, 9, 0), (13, .iconst 1, 1, 1, 0), (14, .iaload, 1, 0, 0), (15, .ifCond .eq 16, 3, 31, 0), (18, .aload_n 0, 1, 0, 0), (19, .invokevirtual 108, 3, 106, 0), (22, .aload_n 0, 1, 0, 0), 
  (23, .getfield 7, 3, 9, 0), (26, .iconst 1, 1, 1, 0), (27, .iaload, 1, 0, 0), (28, .if_icmp .gt 8, 3, 36, 0), (31, .ldc 119, 2, 49, 0), (33, .goto 4, 3, 37, 0), (36, .iconst 0, 1, 0, 0), 
  (37, .ireturn, 1, 0, 0)]
def m_Md_errorStart : xM := (9, false, (some .int), 1, k_Md_errorStart)
abbrev i_Md_errorStart : Nat := 125
def k_Md_errorBeat : xK := [(0, .iload_n 1, 1, 0, 0), (1, .iconst 1, 1, 1, 0), (2, .bipush 99, 2, 15, 0), (4, .invokestatic 51, 3, 96, 3), (7, .ifCond .ne 8, 3, 15, 0), (10, .ldc 118, 2, 48, 0), 
  (12, .goto 38, 3, 50, 0), (15, .aload_n 0, 1, 0, 0), (16, .getfield 7, 3, 9, 0), (19, .iconst 0, 1, 0, 0), (20, .iaload, 1, 0, 0), (21, .iconst 1, 1, 1, 0), (22, .if_icmp .eq 8, 3, 30, 0), 
  (25, .ldc 119, 2, 49, 0), (27, .goto 23, 3, 50, 0), (30, .aload_n 0, 1, 0, 0), (31, .getfield 7, 3, 9, 0), (34, .iconst 5, 1, 7, 0), (35, .iaload, 1, 0, 0), (36, .iload_n 1, 1, 0, 0), 
  (37, .iadd, 1, 0, 0), (38, .sipush 999, 3, 25, 0), (41, .if_icmp .le 8, 3, 49, 0), (44, .ldc 120, 2, 47, 0), (46, .goto 4, 3, 50, 0), (49, .iconst 0, 1, 0, 0), (50, .ireturn, 1, 0, 0)]
def m_Md_errorBeat : xM := (9, false, (some .int), 2, k_Md_errorBeat)
abbrev i_Md_errorBeat : Nat := 126
def k_Md_chair : xK := [(0, .aload_n 0, 1, 0, 0), (1, .iload_n 1, 1, 0, 0), (2, .invokevirtual 121, 3, 123, 1), (5, .istore_n 2, 1, 0, 0), (6, .iload_n 2, 1, 0, 0), (7, .ifCond .ge 5, 3, 12, 0), 
  (10, .iload_n 2, 1, 0, 0), (11, .ireturn, 1, 0, 0), (12, .aload_n 0, 1, 0, 0), (13, .invokevirtual 124, 3, 98, 0), (16, .aload_n 0, 1, 0, 0), (17, .iload_n 1, 1, 0, 0), (18, .invokevirtual 127, 3, 119, 1), 
  (21, .ireturn, 1, 0, 0)]
def m_Md_chair : xM := (9, false, (some .int), 3, k_Md_chair)
abbrev i_Md_chair : Nat := 127
def k_Md_player : xK := [(0, .aload_n 0, 1, 0, 0), (1, .iload_n 1, 1, 0, 0), (2, .iload_n 2, 1, 0, 0), (3, .invokevirtual 130, 3, 124, 2), (6, .istore_n 3, 1, 0, 0), (7, .iload_n 3, 1, 0, 0), 
  (8, .ifCond .ge 5, 3, 13, 0), (11, .iload_n 3, 1, 0, 0), (12, .ireturn, 1, 0, 0), (13, .aload_n 0, 1, 0, 0), (14, .invokevirtual 124, 3, 98, 0), (17, .aload_n 0, 1, 0, 0), (18, .iload_n 1, 1, 0, 0), 
  (19, .iload_n 2, 1, 0, 0), (20, .invokevirtual 133, 3, 120, 2), (23, .ireturn, 1, 0, 0)]
def m_Md_player : xM := (9, false, (some .int), 4, k_Md_player)
abbrev i_Md_player : Nat := 128
def k_Md_tune : xK := [(0, .aload_n 0, 1, 0, 0), (1, .iload_n 1, 1, 0, 0), (2, .invokevirtual 136, 3, 99, 1), (5, .ifCond .eq 13, 3, 18, 0), (8, .iload_n 2, 1, 0, 0), (9, .iconst 0, 1, 0, 0), 
  (10, .bipush 8, 2, 8, 0), (12, .invokestatic 51, 3, 96, 3), (15, .ifCond .ne 6, 3, 21, 0), (18, .ldc 118, 2, 48, 0), (20, .ireturn, 1, 0, 0), (21, .aload_n 0, 1, 0, 0), (22, .invokevirtual 124, 3, 98, 0), 
  (25, .aload_n 0, 1, 0, 0), (26, .iload_n 1, 1, 0, 0), (27, .iconst 0, 1, 0, 0), (28, .invokevirtual 59, 3, 101, 2), (31, .istore_n 3, 1, 0, 0), (32, .aload_n 0, 1, 0, 0), (33, .iload_n 1, 1, 0, 0), 
  (34, .iconst 0, 1, 0, 0), (35, .iload_n 2, 1, 0, 0), (36, .invokevirtual 77, 3, 102, 3), (39, .iload_n 3, 1, 0, 0), (40, .ireturn, 1, 0, 0)]
def m_Md_tune : xM := (9, false, (some .int), 4, k_Md_tune)
abbrev i_Md_tune : Nat := 129
def k_Md_train : xK := [(0, .aload_n 0, 1, 0, 0), (1, .iload_n 1, 1, 0, 0), (2, .invokevirtual 139, 3, 100, 1), (5, .ifCond .eq 24, 3, 29, 0), (8, .iload_n 2, 1, 0, 0), (9, .iconst 0, 1, 0, 0), 
  (10, .bipush 9, 2, 10, 0), (12, .invokestatic 51, 3, 96, 3), (15, .ifCond .eq 14, 3, 29, 0), (18, .iload_n 3, 1, 0, 0), (19, .iconst 0, 1, 0, 0), (20, .sipush 511, 3, 14, 0), (23, .invokestatic 51, 3, 96, 3), 
  (26, .ifCond .ne 6, 3, 32, 0), (29, .ldc 118, 2, 48, 0), (31, .ireturn, 1, 0, 0), (32, .aload_n 0, 1, 0, 0), (33, .invokevirtual 124, 3, 98, 0), (36, .aload_n 0, 1, 0, 0), (37, .iload_n 1, 1, 0, 0), 
  (38, .iconst 1, 1, 1, 0), (39, .invokevirtual 55, 3, 103, 2), (42, .istore 4, 2, 0, 0), (44, .aload_n 0, 1, 0, 0), (45, .iload_n 1, 1, 0, 0), (46, .iconst 0, 1, 0, 0), (47, .iload_n 2, 1, 0, 0), 
  (48, .invokevirtual 62, 3, 104, 3), (51, .aload_n 0, 1, 0, 0), (52, .iload_n 1, 1, 0, 0), (53, .iconst 1, 1, 1, 0), (54, .iload_n 3, 1, 0, 0), (55, .invokevirtual 62, 3, 104, 3), 
  (58, .iload 4, 2, 0, 0), (60, .ireturn, 1, 0, 0)]
def m_Md_train : xM := (9, false, (some .int), 5, k_Md_train)
abbrev i_Md_train : Nat := 130
def k_Md_start : xK := [(0, .aload_n 0, 1, 0, 0), (1, .invokevirtual 142, 3, 125, 0), (4, .istore_n 1, 1, 0, 0), (5, .iload_n 1, 1, 0, 0), (6, .ifCond .ge 5, 3, 11, 0), (9, .iload_n 1, 1, 0, 0), 
  (10, .ireturn, 1, 0, 0), (11, .aload_n 0, 1, 0, 0), (12, .invokevirtual 124, 3, 98, 0), (15, .aload_n 0, 1, 0, 0), (16, .invokevirtual 145, 3, 121, 0), (19, .ireturn, 1, 0, 0)]
def m_Md_start : xM := (9, false, (some .int), 2, k_Md_start)
abbrev i_Md_start : Nat := 131
def k_Md_beat : xK := [(0, .aload_n 0, 1, 0, 0), (1, .iload_n 1, 1, 0, 0), (2, .invokevirtual 148, 3, 126, 1), (5, .istore_n 2, 1, 0, 0), (6, .iload_n 2, 1, 0, 0), (7, .ifCond .ge 5, 3, 12, 0), 
  (10, .iload_n 2, 1, 0, 0), (11, .ireturn, 1, 0, 0), (12, .aload_n 0, 1, 0, 0), (13, .invokevirtual 124, 3, 98, 0), (16, .aload_n 0, 1, 0, 0), (17, .iload_n 1, 1, 0, 0), (18, .invokevirtual 151, 3, 122, 1), 
  (21, .ireturn, 1, 0, 0)]
def m_Md_beat : xM := (9, false, (some .int), 3, k_Md_beat)
abbrev i_Md_beat : Nat := 132
def k_Md_stop : xK := [(0, .aload_n 0, 1, 0, 0), (1, .getfield 7, 3, 9, 0), (4, .iconst 0, 1, 0, 0), (5, .iaload, 1, 0, 0), (6, .iconst 1, 1, 1, 0), (7, .if_icmp .eq 6, 3, 13, 0), (10, .ldc 119, 2, 49, 0), 
  (12, .ireturn, 1, 0, 0), (13, .aload_n 0, 1, 0, 0), (14, .invokevirtual 124, 3, 98, 0), (17, .aload_n 0, 1, 0, 0), (18, .invokevirtual 154, 3, 118, 0), (21, .ireturn, 1, 0, 0)]
def m_Md_stop : xM := (9, false, (some .int), 1, k_Md_stop)
abbrev i_Md_stop : Nat := 133
def k_Md_set : xK := [(0, .iload_n 1, 1, 0, 0), (1, .ifCond .ne 12, 3, 13, 0), (4, .iload_n 2, 1, 0, 0), (5, .iconst 1, 1, 1, 0), (6, .iconst 3, 1, 5, 0), (7, .invokestatic 51, 3, 96, 3), 
  (10, .ifCond .ne 6, 3, 16, 0), (13, .ldc 118, 2, 48, 0), (15, .ireturn, 1, 0, 0), (16, .aload_n 0, 1, 0, 0), (17, .invokevirtual 124, 3, 98, 0), (20, .aload_n 0, 1, 0, 0), (21, .getfield 7, 3, 9, 0), 
  (24, .iconst 3, 1, 5, 0), (25, .iaload, 1, 0, 0), (26, .istore_n 3, 1, 0, 0), (27, .aload_n 0, 1, 0, 0), (28, .getfield 7, 3, 9, 0), (31, .iconst 3, 1, 5, 0), (32, .iload_n 2, 1, 0, 0), 
  (33, .iastore, 1, 0, 0), (34, .iload_n 3, 1, 0, 0), (35, .ireturn, 1, 0, 0)]
def m_Md_set : xM := (9, false, (some .int), 4, k_Md_set)
abbrev i_Md_set : Nat := 134
def k_Md_undo : xK := [(0, .aload_n 0, 1, 0, 0), (1, .getfield 43, 3, 9, 4), (4, .ifCond .ne 6, 3, 10, 0), (7, .ldc 119, 2, 49, 0), (9, .ireturn, 1, 0, 0), (10, .aload_n 0, 1, 0, 0), 
  (11, .dup, 1, 0, 0), (12, .getfield 43, 3, 9, 4), (15, .iconst 1, 1, 1, 0), (16, .isub, 1, 0, 0), (17, .putfield 43, 3, 9, 4), (20, .aload_n 0, 1, 0, 0), (21, .getfield 19, 3, 9, 3), 
  (24, .sipush 233, 3, 11, 0), (27, .aload_n 0, 1, 0, 0), (28, .getfield 43, 3, 9, 4), (31, .imul, 1, 0, 0), (32, .aload_n 0, 1, 0, 0), (33, .getfield 7, 3, 9, 0), (36, .iconst 0, 1, 0, 0), 
  (37, .invokestatic 47, 3, 97, 4), (40, .aload_n 0, 1, 0, 0), (41, .getfield 43, 3, 9, 4), (44, .ireturn, 1, 0, 0)]
def m_Md_undo : xM := (9, false, (some .int), 1, k_Md_undo)
abbrev i_Md_undo : Nat := 135
def k_Md_chairOf : xK := [(0, .aload_n 0, 1, 0, 0), (1, .iload_n 1, 1, 0, 0), (2, .invokevirtual 136, 3, 99, 1), (5, .ifCond .eq 12, 3, 17, 0), (8, .iload_n 2, 1, 0, 0), (9, .iconst 0, 1, 0, 0), 
  (10, .iconst 2, 1, 2, 0), (11, .invokestatic 51, 3, 96, 3), (14, .ifCond .ne 6, 3, 20, 0), (17, .ldc 118, 2, 48, 0), (19, .ireturn, 1, 0, 0), (20, .iload_n 2, 1, 0, 0), (21, .iconst 2, 1, 2, 0), 
  (22, .if_icmp .ge 12, 3, 34, 0), (25, .aload_n 0, 1, 0, 0), (26, .iload_n 1, 1, 0, 0), (27, .iload_n 2, 1, 0, 0), (28, .invokevirtual 59, 3, 101, 2), (31, .goto 25, 3, 56, 0), (34, .aload_n 0, 1, 0, 0), 
  (35, .iload_n 1, 1, 0, 0), (36, .iconst 2, 1, 2, 0), (37, .invokevirtual 59, 3, 101, 2), (40, .ifCond .ne 8, 3, 48, 0), (43, .ldc 73, 2, 50, 0), (45, .goto 11, 3, 56, 0), (48, .aload_n 0, 1, 0, 0), 
  (49, .iload_n 1, 1, 0, 0), (50, .iconst 2, 1, 2, 0), (51, .invokevirtual 59, 3, 101, 2), (54, .iconst 1, 1, 1, 0), (55, .isub, 1, 0, 0), (56, .ireturn, 1, 0, 0)]
def m_Md_chairOf : xM := (9, false, (some .int), 3, k_Md_chairOf)
abbrev i_Md_chairOf : Nat := 136
def k_Md_playerOf : xK := [(0, .aload_n 0, 1, 0, 0), (1, .iload_n 1, 1, 0, 0), (2, .invokevirtual 139, 3, 100, 1), (5, .ifCond .eq 13, 3, 18, 0), (8, .iload_n 2, 1, 0, 0), (9, .iconst 0, 1, 0, 0), 
  (10, .bipush 8, 2, 8, 0), (12, .invokestatic 51, 3, 96, 3), (15, .ifCond .ne 6, 3, 21, 0), (18, .ldc 118, 2, 48, 0), (20, .ireturn, 1, 0, 0), (21, .iload_n 2, 1, 0, 0), (22, .lookupswitch 108 #[(3, 34), (7, 64), (8, 85)], 34, 9, 0), 
  (56, .aload_n 0, 1, 0, 0), (57, .getfield 7, 3, 9, 0), (60, .iconst 0, 1, 0, 0), (61, .iaload, 1, 0, 0), (62, .iconst 1, 1, 1, 0), (63, .if_icmp .ne 20, 3, 83, 0), (66, .aload_n 0, 1, 0, 0), 
  (67, .iload_n 1, 1, 0, 0), (68, .invokevirtual 69, 3, 105, 1), (71, .ifCond .eq 12, 3, 83, 0), (74, .aload_n 0, 1, 0, 0), (75, .iload_n 1, 1, 0, 0), (76, .iconst 3, 1, 5, 0), (77, .invokevirtual 55, 3, 103, 2), 
  (80, .goto 5, 3, 85, 0), (83, .ldc 73, 2, 50, 0), (85, .ireturn, 1, 0, 0), (86, .aload_n 0, 1, 0, 0), (87, .iload_n 1, 1, 0, 0), (88, .invokevirtual 69, 3, 105, 1), (91, .ifCond .eq 8, 3, 99, 0), 
  (94, .ldc 73, 2, 50, 0), (96, .goto 10, 3, 106, 0), (99, .aload_n 0, 1, 0, 0), (100, .iload_n 1, 1, 0, 0), (101, .bipush 7, 2, 19, 0), (103, .invokevirtual 55, 3, 103, 2), (106, .ireturn, 1, 0, 0), 
  (107, .aload_n 0, 1, 0, 0), (108, .iload_n 1, 1, 0, 0), (109, .bipush 8, 2, 8, 0), (111, .invokevirtual 55, 3, 103, 2), (114, .ifCond .ne 8, 3, 122, 0), (117, .ldc 73, 2, 50, 0), 
  (119, .goto 10, 3, 129, 0), (122, .aload_n 0, 1, 0, 0), (123, .iload_n 1, 1, 0, 0), (124, .bipush 8, 2, 8, 0), (126, .invokevirtual 55, 3, 103, 2), (129, .ireturn, 1, 0, 0), (130, .aload_n 0, 1, 0, 0), 
  (131, .iload_n 1, 1, 0, 0), (132, .iload_n 2, 1, 0, 0), (133, .invokevirtual 55, 3, 103, 2), (136, .ireturn, 1, 0, 0)]
def m_Md_playerOf : xM := (9, false, (some .int), 3, k_Md_playerOf)
abbrev i_Md_playerOf : Nat := 137
def k_Md_hears : xK := [(0, .aload_n 0, 1, 0, 0), (1, .iload_n 1, 1, 0, 0), (2, .invokevirtual 139, 3, 100, 1), (5, .ifCond .eq 11, 3, 16, 0), (8, .aload_n 0, 1, 0, 0), (9, .iload_n 2, 1, 0, 0), 
  (10, .invokevirtual 136, 3, 99, 1), (13, .ifCond .ne 8, 3, 21, 0), (16, .ldc 118, 2, 48, 0), (18, .goto 17, 3, 35, 0), (21, .aload_n 0, 1, 0, 0), (22, .iload_n 1, 1, 0, 0), (23, .iload_n 2, 1, 0, 0), 
  (24, .invokevirtual 80, 3, 107, 2), (27, .ifCond .eq 7, 3, 34, 0), (30, .iconst 1, 1, 1, 0), (31, .goto 4, 3, 35, 0), (34, .iconst 0, 1, 0, 0), (35, .ireturn, 1, 0, 0)]
def m_Md_hears : xM := (9, false, (some .int), 3, k_Md_hears)
abbrev i_Md_hears : Nat := 138
def k_Md_bell : xK := [(0, .iload_n 1, 1, 0, 0), (1, .ifCond .lt 12, 3, 13, 0), (4, .iload_n 2, 1, 0, 0), (5, .iconst 0, 1, 0, 0), (6, .iconst 4, 1, 9, 0), (7, .invokestatic 51, 3, 96, 3), 
  (10, .ifCond .ne 6, 3, 16, 0), (13, .ldc 118, 2, 48, 0), (15, .ireturn, 1, 0, 0), (16, .iload_n 1, 1, 0, 0), (17, .aload_n 0, 1, 0, 0), (18, .getfield 7, 3, 9, 0), (21, .bipush 13, 2, 23, 0), 
  (23, .iaload, 1, 0, 0), (24, .if_icmp .ge 20, 3, 44, 0), (27, .aload_n 0, 1, 0, 0), (28, .getfield 7, 3, 9, 0), (31, .sipush 173, 3, 31, 0), (34, .iconst 5, 1, 7, 0), (35, .iload_n 1, 1, 0, 0), 
  (36, .imul, 1, 0, 0), (37, .iadd, 1, 0, 0), (38, .iload_n 2, 1, 0, 0), (39, .iadd, 1, 0, 0), (40, .iaload, 1, 0, 0), (41, .goto 5, 3, 46, 0), (44, .ldc 73, 2, 50, 0), (46, .ireturn, 1, 0, 0)]
def m_Md_bell : xM := (9, false, (some .int), 3, k_Md_bell)
abbrev i_Md_bell : Nat := 139
def k_Md_ifStoppedBy : xK := [(0, .aload_n 0, 1, 0, 0), (1, .getfield 7, 3, 9, 0), (4, .iconst 0, 1, 0, 0), (5, .aload_n 0, 1, 0, 0), (6, .getfield 13, 3, 9, 1), (9, .iconst 0, 1, 0, 0), 
  (10, .invokestatic 47, 3, 97, 4), (13, .aload_n 0, 1, 0, 0), (14, .invokevirtual 112, 3, 116, 0), (17, .iload_n 2, 1, 0, 0), (18, .ifCond .ne 26, 3, 44, 0), (21, .aload_n 0, 1, 0, 0), 
  (22, .getfield 28, 3, 9, 8), (25, .iload_n 1, 1, 0, 0), (26, .iaload, 1, 0, 0), (27, .ifCond .ge 8, 3, 35, 0), (30, .ldc 73, 2, 50, 0), (32, .goto 48, 3, 80, 0), (35, .aload_n 0, 1, 0, 0), 
  (36, .getfield 28, 3, 9, 8), (39, .iload_n 1, 1, 0, 0), (40, .iaload, 1, 0, 0), (41, .goto 39, 3, 80, 0), (44, .iload_n 2, 1, 0, 0), (45, .iconst 1, 1, 1, 0), (46, .if_icmp .ne 27, 3, 73, 0), 
  (49, .aload_n 0, 1, 0, 0), (50, .iload_n 1, 1, 0, 0), (51, .iconst 5, 1, 7, 0), (52, .invokevirtual 55, 3, 103, 2), (55, .aload_n 0, 1, 0, 0), (56, .getfield 13, 3, 9, 1), (59, .bipush 65, 2, 13, 0), 
  (61, .bipush 9, 2, 10, 0), (63, .iload_n 1, 1, 0, 0), (64, .imul, 1, 0, 0), (65, .iadd, 1, 0, 0), (66, .iconst 5, 1, 7, 0), (67, .iadd, 1, 0, 0), (68, .iaload, 1, 0, 0), (69, .isub, 1, 0, 0), 
  (70, .goto 10, 3, 80, 0), (73, .aload_n 0, 1, 0, 0), (74, .iload_n 1, 1, 0, 0), (75, .bipush 8, 2, 8, 0), (77, .invokevirtual 55, 3, 103, 2), (80, .istore_n 3, 1, 0, 0), (81, .aload_n 0, 1, 0, 0), 
  (82, .getfield 13, 3, 9, 1), (85, .iconst 0, 1, 0, 0), (86, .aload_n 0, 1, 0, 0), (87, .getfield 7, 3, 9, 0), (90, .iconst 0, 1, 0, 0), (91, .invokestatic 47, 3, 97, 4), (94, .iload_n 3, 1, 0, 0), 
  (95, .ireturn, 1, 0, 0)]
def m_Md_ifStoppedBy : xM := (9, false, (some .int), 4, k_Md_ifStoppedBy)
abbrev i_Md_ifStoppedBy : Nat := 140
def k_Md_ifStopped : xK := [(0, .aload_n 0, 1, 0, 0), (1, .iload_n 1, 1, 0, 0), (2, .invokevirtual 139, 3, 100, 1), (5, .ifCond .eq 12, 3, 17, 0), (8, .iload_n 2, 1, 0, 0), (9, .iconst 0, 1, 0, 0), 
  (10, .iconst 2, 1, 2, 0), (11, .invokestatic 51, 3, 96, 3), (14, .ifCond .ne 6, 3, 20, 0), (17, .ldc 118, 2, 48, 0), (19, .ireturn, 1, 0, 0), (20, .aload_n 0, 1, 0, 0), (21, .getfield 7, 3, 9, 0), 
  (24, .iconst 0, 1, 0, 0), (25, .iaload, 1, 0, 0), (26, .iconst 1, 1, 1, 0), (27, .if_icmp .ne 11, 3, 38, 0), (30, .aload_n 0, 1, 0, 0), (31, .iload_n 1, 1, 0, 0), (32, .invokevirtual 69, 3, 105, 1), 
  (35, .ifCond .ne 8, 3, 43, 0), (38, .ldc 119, 2, 49, 0), (40, .goto 9, 3, 49, 0), (43, .aload_n 0, 1, 0, 0), (44, .iload_n 1, 1, 0, 0), (45, .iload_n 2, 1, 0, 0), (46, .invokevirtual 157, 3, 140, 2), 
  (49, .ireturn, 1, 0, 0)]
def m_Md_ifStopped : xM := (9, false, (some .int), 3, k_Md_ifStopped)
abbrev i_Md_ifStopped : Nat := 141
def k_Md_outs : xK := [(0, .aload_n 0, 1, 0, 0), (1, .getfield 7, 3, 9, 0), (4, .iconst 0, 1, 0, 0), (5, .iaload, 1, 0, 0), (6, .iconst 1, 1, 1, 0), (7, .if_icmp .eq 6, 3, 13, 0), (10, .ldc 119, 2, 49, 0), 
  (12, .ireturn, 1, 0, 0), (13, .aload_n 0, 1, 0, 0), (14, .getfield 7, 3, 9, 0), (17, .iconst 0, 1, 0, 0), (18, .aload_n 0, 1, 0, 0), (19, .getfield 13, 3, 9, 1), (22, .iconst 0, 1, 0, 0), 
  (23, .invokestatic 47, 3, 97, 4), (26, .aload_n 0, 1, 0, 0), (27, .invokevirtual 112, 3, 116, 0), (30, .aload_n 0, 1, 0, 0), (31, .getfield 13, 3, 9, 1), (34, .iconst 0, 1, 0, 0), 
  (35, .aload_n 0, 1, 0, 0), (36, .getfield 7, 3, 9, 0), (39, .iconst 0, 1, 0, 0), (40, .invokestatic 47, 3, 97, 4), (43, .aload_n 0, 1, 0, 0), (44, .getfield 66, 3, 9, 12), (47, .ireturn, 1, 0, 0)]
def m_Md_outs : xM := (9, false, (some .int), 1, k_Md_outs)
abbrev i_Md_outs : Nat := 142
def k_Md_safeIn : xK := [(0, .aload_n 0, 1, 0, 0), (1, .iload_n 1, 1, 0, 0), (2, .invokevirtual 139, 3, 100, 1), (5, .ifCond .ne 6, 3, 11, 0), (8, .ldc 118, 2, 48, 0), (10, .ireturn, 1, 0, 0), 
  (11, .aload_n 0, 1, 0, 0), (12, .getfield 7, 3, 9, 0), (15, .iconst 0, 1, 0, 0), (16, .iaload, 1, 0, 0), (17, .iconst 1, 1, 1, 0), (18, .if_icmp .ne 11, 3, 29, 0), (21, .aload_n 0, 1, 0, 0), 
  (22, .iload_n 1, 1, 0, 0), (23, .invokevirtual 69, 3, 105, 1), (26, .ifCond .ne 6, 3, 32, 0), (29, .ldc 119, 2, 49, 0), (31, .ireturn, 1, 0, 0), (32, .aload_n 0, 1, 0, 0), (33, .getfield 7, 3, 9, 0), 
  (36, .iconst 0, 1, 0, 0), (37, .aload_n 0, 1, 0, 0), (38, .getfield 16, 3, 9, 2), (41, .iconst 0, 1, 0, 0), (42, .invokestatic 47, 3, 97, 4), (45, .ldc 73, 2, 50, 0), (47, .istore_n 2, 1, 0, 0), 
  (48, .iconst 0, 1, 0, 0), (49, .istore_n 3, 1, 0, 0), (50, .iload_n 3, 1, 0, 0), (51, .bipush 24, 2, 29, 0), (53, .if_icmp .gt 37, 3, 90, 0), (56, .iload_n 2, 1, 0, 0), (57, .ldc 73, 2, 50, 0), 
  (59, .if_icmp .ne 31, 3, 90, 0), (62, .aload_n 0, 1, 0, 0), (63, .iload_n 1, 1, 0, 0), (64, .iconst 0, 1, 0, 0), (65, .invokevirtual 157, 3, 140, 2), (68, .ifCond .lt 7, 3, 75, 0), 
  (71, .iload_n 3, 1, 0, 0), (72, .goto 4, 3, 76, 0), (75, .iload_n 2, 1, 0, 0), (76, .istore_n 2, 1, 0, 0), (77, .aload_n 0, 1, 0, 0), (78, .iconst 1, 1, 1, 0), (79, .invokevirtual 151, 3, 122, 1), 
  (82, .istore 4, 2, 0, 0), (84, .iinc 3 1, 3, 1, 0), (87, .goto (-37), 3, 50, 0), (90, .aload_n 0, 1, 0, 0), (91, .getfield 16, 3, 9, 2), (94, .iconst 0, 1, 0, 0), (95, .aload_n 0, 1, 0, 0), 
  (96, .getfield 7, 3, 9, 0), (99, .iconst 0, 1, 0, 0), (100, .invokestatic 47, 3, 97, 4), (103, .iload_n 2, 1, 0, 0), (104, .ireturn, 1, 0, 0)]
def m_Md_safeIn : xM := (9, false, (some .int), 5, k_Md_safeIn)
abbrev i_Md_safeIn : Nat := 143
def k_Md_mean : xK := [(0, .aload_n 0, 1, 0, 0), (1, .getfield 7, 3, 9, 0), (4, .iconst 2, 1, 2, 0), (5, .iaload, 1, 0, 0), (6, .ifCond .ne 8, 3, 14, 0), (9, .ldc 73, 2, 50, 0), (11, .goto 22, 3, 33, 0), 
  (14, .aload_n 0, 1, 0, 0), (15, .getfield 7, 3, 9, 0), (18, .bipush 7, 2, 19, 0), (20, .iaload, 1, 0, 0), (21, .i2f, 1, 0, 0), (22, .aload_n 0, 1, 0, 0), (23, .getfield 7, 3, 9, 0), 
  (26, .iconst 2, 1, 2, 0), (27, .iaload, 1, 0, 0), (28, .i2f, 1, 0, 0), (29, .fdiv, 1, 0, 0), (30, .invokestatic 160, 3, 160, 1), (33, .ireturn, 1, 0, 0)]
def m_Md_mean : xM := (9, false, (some .int), 1, k_Md_mean)
abbrev i_Md_mean : Nat := 144
def k_Md_inSet : xK := [(0, .iconst 0, 1, 0, 0), (1, .istore_n 1, 1, 0, 0), (2, .iconst 0, 1, 0, 0), (3, .istore_n 2, 1, 0, 0), (4, .iload_n 2, 1, 0, 0), (5, .aload_n 0, 1, 0, 0), (6, .getfield 7, 3, 9, 0), 
  (9, .iconst 2, 1, 2, 0), (10, .iaload, 1, 0, 0), (11, .if_icmp .ge 20, 3, 31, 0), (14, .iload_n 1, 1, 0, 0), (15, .aload_n 0, 1, 0, 0), (16, .iload_n 2, 1, 0, 0), (17, .iconst 2, 1, 2, 0), 
  (18, .invokevirtual 55, 3, 103, 2), (21, .iload_n 2, 1, 0, 0), (22, .ishl, 1, 0, 0), (23, .ior, 1, 0, 0), (24, .istore_n 1, 1, 0, 0), (25, .iinc 2 1, 3, 1, 0), (28, .goto (-24), 3, 4, 0), 
  (31, .iload_n 1, 1, 0, 0), (32, .ireturn, 1, 0, 0)]
def m_Md_inSet : xM := (9, false, (some .int), 3, k_Md_inSet)
abbrev i_Md_inSet : Nat := 145
def k_Md_onlyOne : xK := [(0, .ldc 73, 2, 50, 0), (2, .istore_n 1, 1, 0, 0), (3, .iconst 0, 1, 0, 0), (4, .istore_n 2, 1, 0, 0), (5, .iload_n 2, 1, 0, 0), (6, .aload_n 0, 1, 0, 0), 
  (7, .getfield 7, 3, 9, 0), (10, .iconst 2, 1, 2, 0), (11, .iaload, 1, 0, 0), (12, .if_icmp .ge 31, 3, 43, 0), (15, .aload_n 0, 1, 0, 0), (16, .invokevirtual 108, 3, 106, 0), (19, .iconst 1, 1, 1, 0), 
  (20, .if_icmp .ne 23, 3, 43, 0), (23, .aload_n 0, 1, 0, 0), (24, .iload_n 2, 1, 0, 0), (25, .invokevirtual 69, 3, 105, 1), (28, .ifCond .eq 7, 3, 35, 0), (31, .iload_n 2, 1, 0, 0), 
  (32, .goto 4, 3, 36, 0), (35, .iload_n 1, 1, 0, 0), (36, .istore_n 1, 1, 0, 0), (37, .iinc 2 1, 3, 1, 0), (40, .goto (-35), 3, 5, 0), (43, .iload_n 1, 1, 0, 0), (44, .ireturn, 1, 0, 0)]
def m_Md_onlyOne : xM := (9, false, (some .int), 3, k_Md_onlyOne)
abbrev i_Md_onlyOne : Nat := 146
def k_Md_count : xK := [(0, .iload_n 1, 1, 0, 0), (1, .tableswitch 126 3 20 #[87, 126, 126, 126, 126, 92, 126, 126, 126, 104, 126, 109, 114, 126, 126, 126, 126, 119], 87, 10, 0), (88, .aload_n 0, 1, 0, 0), 
  (89, .invokevirtual 166, 3, 145, 0), (92, .ireturn, 1, 0, 0), (93, .aload_n 0, 1, 0, 0), (94, .getfield 7, 3, 9, 0), (97, .iconst 2, 1, 2, 0), (98, .iaload, 1, 0, 0), (99, .aload_n 0, 1, 0, 0), 
  (100, .invokevirtual 108, 3, 106, 0), (103, .isub, 1, 0, 0), (104, .ireturn, 1, 0, 0), (105, .aload_n 0, 1, 0, 0), (106, .invokevirtual 169, 3, 146, 0), (109, .ireturn, 1, 0, 0), 
  (110, .aload_n 0, 1, 0, 0), (111, .getfield 43, 3, 9, 4), (114, .ireturn, 1, 0, 0), (115, .aload_n 0, 1, 0, 0), (116, .getfield 172, 3, 9, 6), (119, .ireturn, 1, 0, 0), (120, .aload_n 0, 1, 0, 0), 
  (121, .getfield 7, 3, 9, 0), (124, .iconst 3, 1, 5, 0), (125, .iaload, 1, 0, 0), (126, .ireturn, 1, 0, 0), (127, .iload_n 1, 1, 0, 0), (128, .iconst 0, 1, 0, 0), (129, .bipush 16, 2, 6, 0), 
  (131, .invokestatic 51, 3, 96, 3), (134, .ifCond .eq 12, 3, 146, 0), (137, .aload_n 0, 1, 0, 0), (138, .getfield 7, 3, 9, 0), (141, .iload_n 1, 1, 0, 0), (142, .iaload, 1, 0, 0), 
  (143, .goto 5, 3, 148, 0), (146, .ldc 118, 2, 48, 0), (148, .ireturn, 1, 0, 0)]
def m_Md_count : xM := (9, false, (some .int), 2, k_Md_count)
abbrev i_Md_count : Nat := 147
def k_Md_type : xK := [(0, .iload_n 1, 1, 0, 0), (1, .bipush 32, 2, 28, 0), (3, .bipush 126, 2, 21, 0), (5, .invokestatic 51, 3, 96, 3), (8, .ifCond .ne 6, 3, 14, 0), (11, .ldc 118, 2, 48, 0), 
  (13, .ireturn, 1, 0, 0), (14, .aload_n 0, 1, 0, 0), (15, .getfield 172, 3, 9, 6), (18, .bipush 60, 2, 12, 0), (20, .if_icmp .ne 6, 3, 26, 0), (23, .ldc 120, 2, 47, 0), (25, .ireturn, 1, 0, 0), 
  (26, .aload_n 0, 1, 0, 0), (27, .getfield 22, 3, 9, 5), (30, .aload_n 0, 1, 0, 0), (31, .getfield 172, 3, 9, 6), (34, .iload_n 1, 1, 0, 0), (35, .iastore, 1, 0, 0), (36, .aload_n 0, 1, 0, 0), 
  (37, .dup, 1, 0, 0), (38, .getfield 172, 3, 9, 6), (41, .iconst 1, 1, 1, 0), (42, .iadd, 1, 0, 0), (43, .putfield 172, 3, 9, 6), (46, .aload_n 0, 1, 0, 0), (47, .getfield 172, 3, 9, 6), 
  (50, .ireturn, 1, 0, 0)]
def m_Md_type : xM := (9, false, (some .int), 2, k_Md_type)
abbrev i_Md_type : Nat := 148
def k_Md_clearText : xK := [(0, .aload_n 0, 1, 0, 0), (1, .getfield 172, 3, 9, 6), (4, .istore_n 1, 1, 0, 0), (5, .aload_n 0, 1, 0, 0), (6, .iconst 0, 1, 0, 0), (7, .putfield 172, 3, 9, 6), 
  (10, .iload_n 1, 1, 0, 0), (11, .ireturn, 1, 0, 0)]
def m_Md_clearText : xM := (9, false, (some .int), 2, k_Md_clearText)
abbrev i_Md_clearText : Nat := 149
def k_Md_here : xK := [(0, .aload_n 0, 1, 0, 0), (1, .getfield 175, 3, 9, 14), (4, .aload_n 0, 1, 0, 0), (5, .getfield 172, 3, 9, 6), (8, .if_icmp .ge 15, 3, 23, 0), (11, .aload_n 0, 1, 0, 0), 
  (12, .getfield 22, 3, 9, 5), (15, .aload_n 0, 1, 0, 0), (16, .getfield 175, 3, 9, 14), (19, .iaload, 1, 0, 0), (20, .goto 4, 3, 24, 0), (23, .iconst 0, 1, 0, 0), (24, .ireturn, 1, 0, 0)]
def m_Md_here : xM := (9, false, (some .int), 1, k_Md_here)
abbrev i_Md_here : Nat := 150
def k_Md_takes : xK := [(0, .aload_n 0, 1, 0, 0), (1, .aload_n 0, 1, 0, 0), (2, .getfield 178, 3, 9, 16), (5, .ifCond .eq 11, 3, 16, 0), (8, .iload_n 1, 1, 0, 0), (9, .ifCond .eq 7, 3, 16, 0), 
  (12, .iconst 1, 1, 1, 0), (13, .goto 4, 3, 17, 0), (16, .iconst 0, 1, 0, 0), (17, .putfield 178, 3, 9, 16), (20, .aload_n 0, 1, 0, 0), (21, .dup, 1, 0, 0), (22, .getfield 175, 3, 9, 14), 
  (25, .aload_n 0, 1, 0, 0), (26, .getfield 178, 3, 9, 16), (29, .ifCond .eq 7, 3, 36, 0), (32, .iconst 1, 1, 1, 0), (33, .goto 4, 3, 37, 0), (36, .iconst 0, 1, 0, 0), (37, .iadd, 1, 0, 0), 
  (38, .putfield 175, 3, 9, 14), (41, .return_, 1, 0, 0)]
def m_Md_takes : xM := (9, false, none, 2, k_Md_takes)
abbrev i_Md_takes : Nat := 151
def k_Md_takesNumber : xK := [(0, .iconst 0, 1, 0, 0), (1, .istore_n 1, 1, 0, 0), (2, .iconst 0, 1, 0, 0), (3, .istore_n 2, 1, 0, 0), (4, .aload_n 0, 1, 0, 0), (5, .getfield 178, 3, 9, 16), 
  (8, .ifCond .eq 51, 3, 59, 0), (11, .iload_n 2, 1, 0, 0), (12, .iconst 3, 1, 5, 0), (13, .if_icmp .ge 46, 3, 59, 0), (16, .aload_n 0, 1, 0, 0), (17, .invokevirtual 182, 3, 150, 0), 
  (20, .bipush 48, 2, 18, 0), (22, .bipush 57, 2, 27, 0), (24, .invokestatic 51, 3, 96, 3), (27, .ifCond .eq 32, 3, 59, 0), (30, .bipush 10, 2, 20, 0), (32, .iload_n 1, 1, 0, 0), (33, .imul, 1, 0, 0), 
  (34, .aload_n 0, 1, 0, 0), (35, .invokevirtual 182, 3, 150, 0), (38, .iadd, 1, 0, 0), (39, .bipush 48, 2, 18, 0), (41, .isub, 1, 0, 0), (42, .istore_n 1, 1, 0, 0), (43, .iinc 2 1, 3, 1, 0), 
  (46, .aload_n 0, 1, 0, 0), (47, .dup, 1, 0, 0), (48, .getfield 175, 3, 9, 14), (51, .iconst 1, 1, 1, 0), (52, .iadd, 1, 0, 0), (53, .putfield 175, 3, 9, 14), (56, .goto (-52), 3, 4, 0), 
  (59, .aload_n 0, 1, 0, 0), (60, .aload_n 0, 1, 0, 0), (61, .getfield 178, 3, 9, 16), (64, .ifCond .eq 11, 3, 75, 0), (67, .iload_n 2, 1, 0, 0), (68, .ifCond .le 7, 3, 75, 0), (71, .iconst 1, 1, 1, 0), 
  (72, .goto 4, 3, 76, 0), (75, .iconst 0, 1, 0, 0), (76, .putfield 178, 3, 9, 16), (79, .iload_n 1, 1, 0, 0), (80, .ireturn, 1, 0, 0)]
def m_Md_takesNumber : xM := (9, false, (some .int), 3, k_Md_takesNumber)
abbrev i_Md_takesNumber : Nat := 152
def k_Md_takesOrder : xK := [(0, .aload_n 0, 1, 0, 0), (1, .aload_n 0, 1, 0, 0), (2, .getfield 175, 3, 9, 14), (5, .putfield 185, 3, 9, 15), (8, .aload_n 0, 1, 0, 0), (9, .iconst 1, 1, 1, 0), 
  (10, .putfield 178, 3, 9, 16), (13, .aload_n 0, 1, 0, 0), (14, .aload_n 0, 1, 0, 0), (15, .invokevirtual 182, 3, 150, 0), (18, .putfield 188, 3, 9, 17), (21, .aload_n 0, 1, 0, 0), 
  (22, .aload_n 0, 1, 0, 0), (23, .getfield 188, 3, 9, 17), (26, .bipush 99, 2, 15, 0), (28, .if_icmp .eq 39, 3, 67, 0), (31, .aload_n 0, 1, 0, 0), (32, .getfield 188, 3, 9, 17), (35, .bipush 112, 2, 24, 0), 
  (37, .if_icmp .eq 30, 3, 67, 0), (40, .aload_n 0, 1, 0, 0), (41, .getfield 188, 3, 9, 17), (44, .bipush 98, 2, 32, 0), (46, .if_icmp .eq 21, 3, 67, 0), (49, .aload_n 0, 1, 0, 0), 
  (50, .getfield 188, 3, 9, 17), (53, .bipush 103, 2, 43, 0), (55, .if_icmp .eq 12, 3, 67, 0), (58, .aload_n 0, 1, 0, 0), (59, .getfield 188, 3, 9, 17), (62, .bipush 115, 2, 44, 0), 
  (64, .if_icmp .ne 7, 3, 71, 0), (67, .iconst 1, 1, 1, 0), (68, .goto 4, 3, 72, 0), (71, .iconst 0, 1, 0, 0), (72, .invokevirtual 191, 3, 151, 1), (75, .aload_n 0, 1, 0, 0), (76, .getfield 188, 3, 9, 17), 
  (79, .bipush 99, 2, 15, 0), (81, .if_icmp .eq 21, 3, 102, 0), (84, .aload_n 0, 1, 0, 0), (85, .getfield 188, 3, 9, 17), (88, .bipush 112, 2, 24, 0), (90, .if_icmp .eq 12, 3, 102, 0), 
  (93, .aload_n 0, 1, 0, 0), (94, .getfield 188, 3, 9, 17), (97, .bipush 98, 2, 32, 0), (99, .if_icmp .ne 11, 3, 110, 0), (102, .aload_n 0, 1, 0, 0), (103, .aload_n 0, 1, 0, 0), (104, .invokevirtual 195, 3, 152, 0), 
  (107, .putfield 198, 3, 9, 18), (110, .aload_n 0, 1, 0, 0), (111, .getfield 188, 3, 9, 17), (114, .bipush 112, 2, 24, 0), (116, .if_icmp .ne 29, 3, 145, 0), (119, .aload_n 0, 1, 0, 0), 
  (120, .aload_n 0, 1, 0, 0), (121, .invokevirtual 182, 3, 150, 0), (124, .bipush 44, 2, 26, 0), (126, .if_icmp .ne 7, 3, 133, 0), (129, .iconst 1, 1, 1, 0), (130, .goto 4, 3, 134, 0), 
  (133, .iconst 0, 1, 0, 0), (134, .invokevirtual 191, 3, 151, 1), (137, .aload_n 0, 1, 0, 0), (138, .aload_n 0, 1, 0, 0), (139, .invokevirtual 195, 3, 152, 0), (142, .putfield 201, 3, 9, 19), 
  (145, .aload_n 0, 1, 0, 0), (146, .aload_n 0, 1, 0, 0), (147, .invokevirtual 182, 3, 150, 0), (150, .bipush 59, 2, 17, 0), (152, .if_icmp .ne 7, 3, 159, 0), (155, .iconst 1, 1, 1, 0), 
  (156, .goto 4, 3, 160, 0), (159, .iconst 0, 1, 0, 0), (160, .invokevirtual 191, 3, 151, 1), (163, .return_, 1, 0, 0)]
def m_Md_takesOrder : xM := (9, false, none, 1, k_Md_takesOrder)
abbrev i_Md_takesOrder : Nat := 153
def k_Md_errorOfOrder : xK := [(0, .aload_n 0, 1, 0, 0), (1, .getfield 188, 3, 9, 17), (4, .lookupswitch 80 #[(98, 66), (99, 44), (103, 75), (112, 53)], 44, 11, 0), (48, .aload_n 0, 1, 0, 0), 
  (49, .aload_n 0, 1, 0, 0), (50, .getfield 198, 3, 9, 18), (53, .invokevirtual 121, 3, 123, 1), (56, .ireturn, 1, 0, 0), (57, .aload_n 0, 1, 0, 0), (58, .aload_n 0, 1, 0, 0), (59, .getfield 198, 3, 9, 18), 
  (62, .aload_n 0, 1, 0, 0), (63, .getfield 201, 3, 9, 19), (66, .invokevirtual 130, 3, 124, 2), (69, .ireturn, 1, 0, 0), (70, .aload_n 0, 1, 0, 0), (71, .aload_n 0, 1, 0, 0), (72, .getfield 198, 3, 9, 18), 
  (75, .invokevirtual 148, 3, 126, 1), (78, .ireturn, 1, 0, 0), (79, .aload_n 0, 1, 0, 0), (80, .invokevirtual 142, 3, 125, 0), (83, .ireturn, 1, 0, 0), (84, .aload_n 0, 1, 0, 0), (85, .getfield 7, 3, 9, 0), 
  (88, .iconst 0, 1, 0, 0), (89, .iaload, 1, 0, 0), (90, .iconst 1, 1, 1, 0), (91, .if_icmp .ne 7, 3, 98, 0), (94, .iconst 0, 1, 0, 0), (95, .goto 5, 3, 100, 0), (98, .ldc 119, 2, 49, 0), 
  (100, .ireturn, 1, 0, 0)]
def m_Md_errorOfOrder : xM := (9, false, (some .int), 1, k_Md_errorOfOrder)
abbrev i_Md_errorOfOrder : Nat := 154
def k_Md_doesOrder : xK := [(0, .aload_n 0, 1, 0, 0), (1, .getfield 188, 3, 9, 17), (4, .lookupswitch 80 #[(98, 66), (99, 44), (103, 75), (112, 53)], 44, 12, 0), (48, .aload_n 0, 1, 0, 0), 
  (49, .aload_n 0, 1, 0, 0), (50, .getfield 198, 3, 9, 18), (53, .invokevirtual 127, 3, 119, 1), (56, .ireturn, 1, 0, 0), (57, .aload_n 0, 1, 0, 0), (58, .aload_n 0, 1, 0, 0), (59, .getfield 198, 3, 9, 18), 
  (62, .aload_n 0, 1, 0, 0), (63, .getfield 201, 3, 9, 19), (66, .invokevirtual 133, 3, 120, 2), (69, .ireturn, 1, 0, 0), (70, .aload_n 0, 1, 0, 0), (71, .aload_n 0, 1, 0, 0), (72, .getfield 198, 3, 9, 18), 
  (75, .invokevirtual 151, 3, 122, 1), (78, .ireturn, 1, 0, 0), (79, .aload_n 0, 1, 0, 0), (80, .invokevirtual 145, 3, 121, 0), (83, .ireturn, 1, 0, 0), (84, .aload_n 0, 1, 0, 0), (85, .invokevirtual 154, 3, 118, 0), 
  (88, .ireturn, 1, 0, 0)]
def m_Md_doesOrder : xM := (9, false, (some .int), 1, k_Md_doesOrder)
abbrev i_Md_doesOrder : Nat := 155
def k_Md_doesAll : xK := [(0, .iconst 0, 1, 0, 0), (1, .istore_n 1, 1, 0, 0), (2, .aload_n 0, 1, 0, 0), (3, .iconst 0, 1, 0, 0), (4, .putfield 204, 3, 9, 20), (7, .aload_n 0, 1, 0, 0), 
  (8, .iconst 0, 1, 0, 0), (9, .putfield 175, 3, 9, 14), (12, .aload_n 0, 1, 0, 0), (13, .getfield 204, 3, 9, 20), (16, .ifCond .ne 99, 3, 115, 0), (19, .aload_n 0, 1, 0, 0), (20, .getfield 175, 3, 9, 14), 
  (23, .aload_n 0, 1, 0, 0), (24, .getfield 172, 3, 9, 6), (27, .if_icmp .ge 88, 3, 115, 0), (30, .aload_n 0, 1, 0, 0), (31, .invokevirtual 207, 3, 153, 0), (34, .aload_n 0, 1, 0, 0), 
  (35, .getfield 178, 3, 9, 16), (38, .ifCond .eq 10, 3, 48, 0), (41, .aload_n 0, 1, 0, 0), (42, .invokevirtual 210, 3, 154, 0), (45, .goto 4, 3, 49, 0), (48, .iconst 0, 1, 0, 0), (49, .istore_n 2, 1, 0, 0), 
  (50, .aload_n 0, 1, 0, 0), (51, .getfield 178, 3, 9, 16), (54, .ifCond .eq 7, 3, 61, 0), (57, .iload_n 2, 1, 0, 0), (58, .ifCond .ge 46, 3, 104, 0), (61, .aload_n 0, 1, 0, 0), (62, .aload_n 0, 1, 0, 0), 
  (63, .getfield 178, 3, 9, 16), (66, .ifCond .eq 7, 3, 73, 0), (69, .iconst 2, 1, 2, 0), (70, .goto 4, 3, 74, 0), (73, .iconst 1, 1, 1, 0), (74, .putfield 204, 3, 9, 20), (77, .aload_n 0, 1, 0, 0), 
  (78, .aload_n 0, 1, 0, 0), (79, .getfield 178, 3, 9, 16), (82, .ifCond .eq 7, 3, 89, 0), (85, .iload_n 2, 1, 0, 0), (86, .goto 12, 3, 98, 0), (89, .aload_n 0, 1, 0, 0), (90, .getfield 175, 3, 9, 14), 
  (93, .aload_n 0, 1, 0, 0), (94, .getfield 185, 3, 9, 15), (97, .isub, 1, 0, 0), (98, .putfield 213, 3, 9, 21), (101, .goto 11, 3, 112, 0), (104, .aload_n 0, 1, 0, 0), (105, .invokevirtual 216, 3, 155, 0), 
  (108, .istore_n 3, 1, 0, 0), (109, .iinc 1 1, 3, 1, 0), (112, .goto (-100), 3, 12, 0), (115, .iload_n 1, 1, 0, 0), (116, .ireturn, 1, 0, 0)]
def m_Md_doesAll : xM := (9, false, (some .int), 4, k_Md_doesAll)
abbrev i_Md_doesAll : Nat := 156
def k_Md_fault : xK := [(0, .iload_n 1, 1, 0, 0), (1, .iconst 0, 1, 0, 0), (2, .iconst 2, 1, 2, 0), (3, .invokestatic 51, 3, 96, 3), (6, .ifCond .ne 6, 3, 12, 0), (9, .ldc 118, 2, 48, 0), 
  (11, .ireturn, 1, 0, 0), (12, .aload_n 0, 1, 0, 0), (13, .getfield 7, 3, 9, 0), (16, .iconst 0, 1, 0, 0), (17, .aload_n 0, 1, 0, 0), (18, .getfield 16, 3, 9, 2), (21, .iconst 0, 1, 0, 0), 
  (22, .invokestatic 47, 3, 97, 4), (25, .aload_n 0, 1, 0, 0), (26, .invokevirtual 219, 3, 156, 0), (29, .istore_n 2, 1, 0, 0), (30, .aload_n 0, 1, 0, 0), (31, .getfield 16, 3, 9, 2), 
  (34, .iconst 0, 1, 0, 0), (35, .aload_n 0, 1, 0, 0), (36, .getfield 7, 3, 9, 0), (39, .iconst 0, 1, 0, 0), (40, .invokestatic 47, 3, 97, 4), (43, .aload_n 0, 1, 0, 0), (44, .getfield 204, 3, 9, 20), 
  (47, .ifCond .ne 8, 3, 55, 0), (50, .ldc 73, 2, 50, 0), (52, .goto 30, 3, 82, 0), (55, .iload_n 1, 1, 0, 0), (56, .ifCond .ne 10, 3, 66, 0), (59, .aload_n 0, 1, 0, 0), (60, .getfield 185, 3, 9, 15), 
  (63, .goto 19, 3, 82, 0), (66, .iload_n 1, 1, 0, 0), (67, .iconst 1, 1, 1, 0), (68, .if_icmp .ne 10, 3, 78, 0), (71, .aload_n 0, 1, 0, 0), (72, .getfield 204, 3, 9, 20), (75, .goto 7, 3, 82, 0), 
  (78, .aload_n 0, 1, 0, 0), (79, .getfield 213, 3, 9, 21), (82, .ireturn, 1, 0, 0)]
def m_Md_fault : xM := (9, false, (some .int), 3, k_Md_fault)
abbrev i_Md_fault : Nat := 157
def k_Md_play : xK := [(0, .aload_n 0, 1, 0, 0), (1, .getfield 7, 3, 9, 0), (4, .iconst 0, 1, 0, 0), (5, .aload_n 0, 1, 0, 0), (6, .getfield 16, 3, 9, 2), (9, .iconst 0, 1, 0, 0), (10, .invokestatic 47, 3, 97, 4), 
  (13, .aload_n 0, 1, 0, 0), (14, .invokevirtual 219, 3, 156, 0), (17, .istore_n 1, 1, 0, 0), (18, .aload_n 0, 1, 0, 0), (19, .getfield 16, 3, 9, 2), (22, .iconst 0, 1, 0, 0), (23, .aload_n 0, 1, 0, 0), 
  (24, .getfield 7, 3, 9, 0), (27, .iconst 0, 1, 0, 0), (28, .invokestatic 47, 3, 97, 4), (31, .aload_n 0, 1, 0, 0), (32, .getfield 204, 3, 9, 20), (35, .ifCond .le 6, 3, 41, 0), (38, .ldc 119, 2, 49, 0), 
  (40, .ireturn, 1, 0, 0), (41, .aload_n 0, 1, 0, 0), (42, .invokevirtual 124, 3, 98, 0), (45, .aload_n 0, 1, 0, 0), (46, .invokevirtual 219, 3, 156, 0), (49, .istore_n 1, 1, 0, 0), 
  (50, .iload_n 1, 1, 0, 0), (51, .ireturn, 1, 0, 0)]
def m_Md_play : xM := (9, false, (some .int), 2, k_Md_play)
abbrev i_Md_play : Nat := 158
def k_Flt_isNaN : xK := [(0, .fload_n 0, 1, 0, 0), (1, .fload_n 0, 1, 0, 0), (2, .fcmp .l, 1, 0, 0), (3, .ifCond .eq 7, 3, 10, 0), (6, .iconst 1, 1, 1, 0), (7, .goto 4, 3, 11, 0), (10, .iconst 0, 1, 0, 0), 
  (11, .ireturn, 1, 0, 0)]
def m_Flt_isNaN : xM := (10, false, (some .boolean), 1, k_Flt_isNaN)
abbrev i_Flt_isNaN : Nat := 159
def k_Flt_floatToIntBits : xK := [(0, .fload_n 0, 1, 0, 0), (1, .invokestatic 59, 3, 159, 1), (4, .ifCond .ne 8, 3, 12, 0), (7, .fload_n 0, 1, 0, 0), (8, .invokestatic 74, 3, 1002, 0), 
  (11, .ireturn, 1, 0, 0), (12, .ldc 77, 2, 55, 0), (14, .ireturn, 1, 0, 0)]
def m_Flt_floatToIntBits : xM := (10, false, (some .int), 1, k_Flt_floatToIntBits)
abbrev i_Flt_floatToIntBits : Nat := 160
def k_Int_bitCount : xK := [(0, .iload_n 0, 1, 0, 0), (1, .iload_n 0, 1, 0, 0), (2, .iconst 1, 1, 1, 0), (3, .iushr, 1, 0, 0), (4, .ldc_w 265, 3, 56, 0), (7, .iand, 1, 0, 0), (8, .isub, 1, 0, 0), 
  (9, .istore_n 0, 1, 0, 0), (10, .iload_n 0, 1, 0, 0), (11, .ldc_w 266, 3, 57, 0), (14, .iand, 1, 0, 0), (15, .iload_n 0, 1, 0, 0), (16, .iconst 2, 1, 2, 0), (17, .iushr, 1, 0, 0), 
  (18, .ldc_w 266, 3, 57, 0), (21, .iand, 1, 0, 0), (22, .iadd, 1, 0, 0), (23, .istore_n 0, 1, 0, 0), (24, .iload_n 0, 1, 0, 0), (25, .iload_n 0, 1, 0, 0), (26, .iconst 4, 1, 9, 0), 
  (27, .iushr, 1, 0, 0), (28, .iadd, 1, 0, 0), (29, .ldc_w 267, 3, 58, 0), (32, .iand, 1, 0, 0), (33, .istore_n 0, 1, 0, 0), (34, .iload_n 0, 1, 0, 0), (35, .iload_n 0, 1, 0, 0), (36, .bipush 8, 2, 8, 0), 
  (38, .iushr, 1, 0, 0), (39, .iadd, 1, 0, 0), (40, .istore_n 0, 1, 0, 0), (41, .iload_n 0, 1, 0, 0), (42, .iload_n 0, 1, 0, 0), (43, .bipush 16, 2, 6, 0), (45, .iushr, 1, 0, 0), (46, .iadd, 1, 0, 0), 
  (47, .istore_n 0, 1, 0, 0), (48, .iload_n 0, 1, 0, 0), (49, .bipush 63, 2, 45, 0), (51, .iand, 1, 0, 0), (52, .ireturn, 1, 0, 0)]
def m_Int_bitCount : xM := (11, false, (some .int), 1, k_Int_bitCount)
abbrev i_Int_bitCount : Nat := 161
def k_Math_max : xK := [(0, .iload_n 0, 1, 0, 0), (1, .iload_n 1, 1, 0, 0), (2, .if_icmp .lt 7, 3, 9, 0), (5, .iload_n 0, 1, 0, 0), (6, .goto 4, 3, 10, 0), (9, .iload_n 1, 1, 0, 0), 
  (10, .ireturn, 1, 0, 0)]
def m_Math_max : xM := (12, false, (some .int), 2, k_Math_max)
abbrev i_Math_max : Nat := 162
def k_Math_min : xK := [(0, .iload_n 0, 1, 0, 0), (1, .iload_n 1, 1, 0, 0), (2, .if_icmp .gt 7, 3, 9, 0), (5, .iload_n 0, 1, 0, 0), (6, .goto 4, 3, 10, 0), (9, .iload_n 1, 1, 0, 0), 
  (10, .ireturn, 1, 0, 0)]
def m_Math_min : xM := (12, false, (some .int), 2, k_Math_min)
abbrev i_Math_min : Nat := 163
def k_law : xK := [(0, .new 7, 3, 8, 0), (3, .dup, 1, 0, 0), (4, .invokespecial 9, 3, 68, 0), (7, .astore_n 1, 1, 0, 0), (8, .new 10, 3, 9, 0), (11, .dup, 1, 0, 0), (12, .invokespecial 12, 3, 95, 0), 
  (15, .astore_n 2, 1, 0, 0), (16, .iconst 0, 1, 0, 0), (17, .istore_n 3, 1, 0, 0), (18, .iload_n 3, 1, 0, 0), (19, .aload_n 0, 1, 0, 0), (20, .arraylength, 1, 0, 0), (21, .iconst 4, 1, 9, 0), 
  (22, .isub, 1, 0, 0), (23, .if_icmp .gt 655, 3, 678, 0), (26, .aload_n 0, 1, 0, 0), (27, .iload_n 3, 1, 0, 0), (28, .iaload, 1, 0, 0), (29, .bipush 31, 2, 46, 0), (31, .iand, 1, 0, 0), 
  (32, .tableswitch 640 0 21 #[104, 127, 160, 193, 236, 249, 272, 285, 318, 351, 384, 417, 450, 483, 496, 519, 532, 555, 568, 591, 604, 627], 104, 13, 0), (136, .aload_n 1, 1, 0, 0), 
  (137, .aload_n 0, 1, 0, 0), (138, .iload_n 3, 1, 0, 0), (139, .iconst 1, 1, 1, 0), (140, .iadd, 1, 0, 0), (141, .iaload, 1, 0, 0), (142, .invokevirtual 13, 3, 69, 1), (145, .aload_n 2, 1, 0, 0), 
  (146, .aload_n 0, 1, 0, 0), (147, .iload_n 3, 1, 0, 0), (148, .iconst 1, 1, 1, 0), (149, .iadd, 1, 0, 0), (150, .iaload, 1, 0, 0), (151, .invokevirtual 17, 3, 127, 1), (154, .if_icmp .eq 518, 3, 672, 0), 
  (157, .iconst 0, 1, 0, 0), (158, .ireturn, 1, 0, 0), (159, .aload_n 1, 1, 0, 0), (160, .aload_n 0, 1, 0, 0), (161, .iload_n 3, 1, 0, 0), (162, .iconst 1, 1, 1, 0), (163, .iadd, 1, 0, 0), 
  (164, .iaload, 1, 0, 0), (165, .aload_n 0, 1, 0, 0), (166, .iload_n 3, 1, 0, 0), (167, .iconst 2, 1, 2, 0), (168, .iadd, 1, 0, 0), (169, .iaload, 1, 0, 0), (170, .invokevirtual 18, 3, 70, 2), 
  (173, .aload_n 2, 1, 0, 0), (174, .aload_n 0, 1, 0, 0), (175, .iload_n 3, 1, 0, 0), (176, .iconst 1, 1, 1, 0), (177, .iadd, 1, 0, 0), (178, .iaload, 1, 0, 0), (179, .aload_n 0, 1, 0, 0), 
  (180, .iload_n 3, 1, 0, 0), (181, .iconst 2, 1, 2, 0), (182, .iadd, 1, 0, 0), (183, .iaload, 1, 0, 0), (184, .invokevirtual 22, 3, 128, 2), (187, .if_icmp .eq 485, 3, 672, 0), (190, .iconst 0, 1, 0, 0), 
  (191, .ireturn, 1, 0, 0), (192, .aload_n 1, 1, 0, 0), (193, .aload_n 0, 1, 0, 0), (194, .iload_n 3, 1, 0, 0), (195, .iconst 1, 1, 1, 0), (196, .iadd, 1, 0, 0), (197, .iaload, 1, 0, 0), 
  (198, .aload_n 0, 1, 0, 0), (199, .iload_n 3, 1, 0, 0), (200, .iconst 2, 1, 2, 0), (201, .iadd, 1, 0, 0), (202, .iaload, 1, 0, 0), (203, .invokevirtual 23, 3, 71, 2), (206, .aload_n 2, 1, 0, 0), 
  (207, .aload_n 0, 1, 0, 0), (208, .iload_n 3, 1, 0, 0), (209, .iconst 1, 1, 1, 0), (210, .iadd, 1, 0, 0), (211, .iaload, 1, 0, 0), (212, .aload_n 0, 1, 0, 0), (213, .iload_n 3, 1, 0, 0), 
  (214, .iconst 2, 1, 2, 0), (215, .iadd, 1, 0, 0), (216, .iaload, 1, 0, 0), (217, .invokevirtual 26, 3, 129, 2), (220, .if_icmp .eq 452, 3, 672, 0), (223, .iconst 0, 1, 0, 0), (224, .ireturn, 1, 0, 0), 
  (225, .aload_n 1, 1, 0, 0), (226, .aload_n 0, 1, 0, 0), (227, .iload_n 3, 1, 0, 0), (228, .iconst 1, 1, 1, 0), (229, .iadd, 1, 0, 0), (230, .iaload, 1, 0, 0), (231, .aload_n 0, 1, 0, 0), 
  (232, .iload_n 3, 1, 0, 0), (233, .iconst 2, 1, 2, 0), (234, .iadd, 1, 0, 0), (235, .iaload, 1, 0, 0), (236, .aload_n 0, 1, 0, 0), (237, .iload_n 3, 1, 0, 0), (238, .iconst 3, 1, 5, 0), 
  (239, .iadd, 1, 0, 0), (240, .iaload, 1, 0, 0), (241, .invokevirtual 27, 3, 72, 3), (244, .aload_n 2, 1, 0, 0), (245, .aload_n 0, 1, 0, 0), (246, .iload_n 3, 1, 0, 0), (247, .iconst 1, 1, 1, 0), 
  (248, .iadd, 1, 0, 0), (249, .iaload, 1, 0, 0), (250, .aload_n 0, 1, 0, 0), (251, .iload_n 3, 1, 0, 0), (252, .iconst 2, 1, 2, 0), (253, .iadd, 1, 0, 0), (254, .iaload, 1, 0, 0), 
  (255, .aload_n 0, 1, 0, 0), (256, .iload_n 3, 1, 0, 0), (257, .iconst 3, 1, 5, 0), (258, .iadd, 1, 0, 0), (259, .iaload, 1, 0, 0), (260, .invokevirtual 31, 3, 130, 3), (263, .if_icmp .eq 409, 3, 672, 0), 
  (266, .iconst 0, 1, 0, 0), (267, .ireturn, 1, 0, 0), (268, .aload_n 1, 1, 0, 0), (269, .invokevirtual 32, 3, 73, 0), (272, .aload_n 2, 1, 0, 0), (273, .invokevirtual 36, 3, 131, 0), 
  (276, .if_icmp .eq 396, 3, 672, 0), (279, .iconst 0, 1, 0, 0), (280, .ireturn, 1, 0, 0), (281, .aload_n 1, 1, 0, 0), (282, .aload_n 0, 1, 0, 0), (283, .iload_n 3, 1, 0, 0), (284, .iconst 1, 1, 1, 0), 
  (285, .iadd, 1, 0, 0), (286, .iaload, 1, 0, 0), (287, .invokevirtual 37, 3, 74, 1), (290, .aload_n 2, 1, 0, 0), (291, .aload_n 0, 1, 0, 0), (292, .iload_n 3, 1, 0, 0), (293, .iconst 1, 1, 1, 0), 
  (294, .iadd, 1, 0, 0), (295, .iaload, 1, 0, 0), (296, .invokevirtual 40, 3, 132, 1), (299, .if_icmp .eq 373, 3, 672, 0), (302, .iconst 0, 1, 0, 0), (303, .ireturn, 1, 0, 0), (304, .aload_n 1, 1, 0, 0), 
  (305, .invokevirtual 41, 3, 75, 0), (308, .aload_n 2, 1, 0, 0), (309, .invokevirtual 44, 3, 133, 0), (312, .if_icmp .eq 360, 3, 672, 0), (315, .iconst 0, 1, 0, 0), (316, .ireturn, 1, 0, 0), 
  (317, .aload_n 1, 1, 0, 0), (318, .aload_n 0, 1, 0, 0), (319, .iload_n 3, 1, 0, 0), (320, .iconst 1, 1, 1, 0), (321, .iadd, 1, 0, 0), (322, .iaload, 1, 0, 0), (323, .aload_n 0, 1, 0, 0), 
  (324, .iload_n 3, 1, 0, 0), (325, .iconst 2, 1, 2, 0), (326, .iadd, 1, 0, 0), (327, .iaload, 1, 0, 0), (328, .invokevirtual 45, 3, 76, 2), (331, .aload_n 2, 1, 0, 0), (332, .aload_n 0, 1, 0, 0), 
  (333, .iload_n 3, 1, 0, 0), (334, .iconst 1, 1, 1, 0), (335, .iadd, 1, 0, 0), (336, .iaload, 1, 0, 0), (337, .aload_n 0, 1, 0, 0), (338, .iload_n 3, 1, 0, 0), (339, .iconst 2, 1, 2, 0), 
  (340, .iadd, 1, 0, 0), (341, .iaload, 1, 0, 0), (342, .invokevirtual 48, 3, 134, 2), (345, .if_icmp .eq 327, 3, 672, 0), (348, .iconst 0, 1, 0, 0), (349, .ireturn, 1, 0, 0), (350, .aload_n 1, 1, 0, 0), 
  (351, .aload_n 0, 1, 0, 0), (352, .iload_n 3, 1, 0, 0), (353, .iconst 1, 1, 1, 0), (354, .iadd, 1, 0, 0), (355, .iaload, 1, 0, 0), (356, .aload_n 0, 1, 0, 0), (357, .iload_n 3, 1, 0, 0), 
  (358, .iconst 2, 1, 2, 0), (359, .iadd, 1, 0, 0), (360, .iaload, 1, 0, 0), (361, .invokevirtual 49, 3, 77, 2), (364, .aload_n 2, 1, 0, 0), (365, .aload_n 0, 1, 0, 0), (366, .iload_n 3, 1, 0, 0), 
  (367, .iconst 1, 1, 1, 0), (368, .iadd, 1, 0, 0), (369, .iaload, 1, 0, 0), (370, .aload_n 0, 1, 0, 0), (371, .iload_n 3, 1, 0, 0), (372, .iconst 2, 1, 2, 0), (373, .iadd, 1, 0, 0), 
  (374, .iaload, 1, 0, 0), (375, .invokevirtual 52, 3, 136, 2), (378, .if_icmp .eq 294, 3, 672, 0), (381, .iconst 0, 1, 0, 0), (382, .ireturn, 1, 0, 0), (383, .aload_n 1, 1, 0, 0), 
  (384, .aload_n 0, 1, 0, 0), (385, .iload_n 3, 1, 0, 0), (386, .iconst 1, 1, 1, 0), (387, .iadd, 1, 0, 0), (388, .iaload, 1, 0, 0), (389, .aload_n 0, 1, 0, 0), (390, .iload_n 3, 1, 0, 0), 
  (391, .iconst 2, 1, 2, 0), (392, .iadd, 1, 0, 0), (393, .iaload, 1, 0, 0), (394, .invokevirtual 53, 3, 78, 2), (397, .aload_n 2, 1, 0, 0), (398, .aload_n 0, 1, 0, 0), (399, .iload_n 3, 1, 0, 0), 
  (400, .iconst 1, 1, 1, 0), (401, .iadd, 1, 0, 0), (402, .iaload, 1, 0, 0), (403, .aload_n 0, 1, 0, 0), (404, .iload_n 3, 1, 0, 0), (405, .iconst 2, 1, 2, 0), (406, .iadd, 1, 0, 0), 
  (407, .iaload, 1, 0, 0), (408, .invokevirtual 56, 3, 137, 2), (411, .if_icmp .eq 261, 3, 672, 0), (414, .iconst 0, 1, 0, 0), (415, .ireturn, 1, 0, 0), (416, .aload_n 1, 1, 0, 0), 
  (417, .aload_n 0, 1, 0, 0), (418, .iload_n 3, 1, 0, 0), (419, .iconst 1, 1, 1, 0), (420, .iadd, 1, 0, 0), (421, .iaload, 1, 0, 0), (422, .aload_n 0, 1, 0, 0), (423, .iload_n 3, 1, 0, 0), 
  (424, .iconst 2, 1, 2, 0), (425, .iadd, 1, 0, 0), (426, .iaload, 1, 0, 0), (427, .invokevirtual 57, 3, 79, 2), (430, .aload_n 2, 1, 0, 0), (431, .aload_n 0, 1, 0, 0), (432, .iload_n 3, 1, 0, 0), 
  (433, .iconst 1, 1, 1, 0), (434, .iadd, 1, 0, 0), (435, .iaload, 1, 0, 0), (436, .aload_n 0, 1, 0, 0), (437, .iload_n 3, 1, 0, 0), (438, .iconst 2, 1, 2, 0), (439, .iadd, 1, 0, 0), 
  (440, .iaload, 1, 0, 0), (441, .invokevirtual 60, 3, 138, 2), (444, .if_icmp .eq 228, 3, 672, 0), (447, .iconst 0, 1, 0, 0), (448, .ireturn, 1, 0, 0), (449, .aload_n 1, 1, 0, 0), 
  (450, .aload_n 0, 1, 0, 0), (451, .iload_n 3, 1, 0, 0), (452, .iconst 1, 1, 1, 0), (453, .iadd, 1, 0, 0), (454, .iaload, 1, 0, 0), (455, .aload_n 0, 1, 0, 0), (456, .iload_n 3, 1, 0, 0), 
  (457, .iconst 2, 1, 2, 0), (458, .iadd, 1, 0, 0), (459, .iaload, 1, 0, 0), (460, .invokevirtual 61, 3, 80, 2), (463, .aload_n 2, 1, 0, 0), (464, .aload_n 0, 1, 0, 0), (465, .iload_n 3, 1, 0, 0), 
  (466, .iconst 1, 1, 1, 0), (467, .iadd, 1, 0, 0), (468, .iaload, 1, 0, 0), (469, .aload_n 0, 1, 0, 0), (470, .iload_n 3, 1, 0, 0), (471, .iconst 2, 1, 2, 0), (472, .iadd, 1, 0, 0), 
  (473, .iaload, 1, 0, 0), (474, .invokevirtual 64, 3, 139, 2), (477, .if_icmp .eq 195, 3, 672, 0), (480, .iconst 0, 1, 0, 0), (481, .ireturn, 1, 0, 0), (482, .aload_n 1, 1, 0, 0), 
  (483, .aload_n 0, 1, 0, 0), (484, .iload_n 3, 1, 0, 0), (485, .iconst 1, 1, 1, 0), (486, .iadd, 1, 0, 0), (487, .iaload, 1, 0, 0), (488, .aload_n 0, 1, 0, 0), (489, .iload_n 3, 1, 0, 0), 
  (490, .iconst 2, 1, 2, 0), (491, .iadd, 1, 0, 0), (492, .iaload, 1, 0, 0), (493, .invokevirtual 65, 3, 81, 2), (496, .aload_n 2, 1, 0, 0), (497, .aload_n 0, 1, 0, 0), (498, .iload_n 3, 1, 0, 0), 
  (499, .iconst 1, 1, 1, 0), (500, .iadd, 1, 0, 0), (501, .iaload, 1, 0, 0), (502, .aload_n 0, 1, 0, 0), (503, .iload_n 3, 1, 0, 0), (504, .iconst 2, 1, 2, 0), (505, .iadd, 1, 0, 0), 
  (506, .iaload, 1, 0, 0), (507, .invokevirtual 68, 3, 141, 2), (510, .if_icmp .eq 162, 3, 672, 0), (513, .iconst 0, 1, 0, 0), (514, .ireturn, 1, 0, 0), (515, .aload_n 1, 1, 0, 0), 
  (516, .invokevirtual 69, 3, 82, 0), (519, .aload_n 2, 1, 0, 0), (520, .invokevirtual 72, 3, 142, 0), (523, .if_icmp .eq 149, 3, 672, 0), (526, .iconst 0, 1, 0, 0), (527, .ireturn, 1, 0, 0), 
  (528, .aload_n 1, 1, 0, 0), (529, .aload_n 0, 1, 0, 0), (530, .iload_n 3, 1, 0, 0), (531, .iconst 1, 1, 1, 0), (532, .iadd, 1, 0, 0), (533, .iaload, 1, 0, 0), (534, .invokevirtual 73, 3, 83, 1), 
  (537, .aload_n 2, 1, 0, 0), (538, .aload_n 0, 1, 0, 0), (539, .iload_n 3, 1, 0, 0), (540, .iconst 1, 1, 1, 0), (541, .iadd, 1, 0, 0), (542, .iaload, 1, 0, 0), (543, .invokevirtual 76, 3, 143, 1), 
  (546, .if_icmp .eq 126, 3, 672, 0), (549, .iconst 0, 1, 0, 0), (550, .ireturn, 1, 0, 0), (551, .aload_n 1, 1, 0, 0), (552, .invokevirtual 77, 3, 84, 0), (555, .aload_n 2, 1, 0, 0), 
  (556, .invokevirtual 80, 3, 144, 0), (559, .if_icmp .eq 113, 3, 672, 0), (562, .iconst 0, 1, 0, 0), (563, .ireturn, 1, 0, 0), (564, .aload_n 1, 1, 0, 0), (565, .aload_n 0, 1, 0, 0), 
  (566, .iload_n 3, 1, 0, 0), (567, .iconst 1, 1, 1, 0), (568, .iadd, 1, 0, 0), (569, .iaload, 1, 0, 0), (570, .invokevirtual 81, 3, 85, 1), (573, .aload_n 2, 1, 0, 0), (574, .aload_n 0, 1, 0, 0), 
  (575, .iload_n 3, 1, 0, 0), (576, .iconst 1, 1, 1, 0), (577, .iadd, 1, 0, 0), (578, .iaload, 1, 0, 0), (579, .invokevirtual 84, 3, 147, 1), (582, .if_icmp .eq 90, 3, 672, 0), (585, .iconst 0, 1, 0, 0), 
  (586, .ireturn, 1, 0, 0), (587, .aload_n 1, 1, 0, 0), (588, .invokevirtual 85, 3, 86, 0), (591, .aload_n 2, 1, 0, 0), (592, .invokevirtual 88, 3, 135, 0), (595, .if_icmp .eq 77, 3, 672, 0), 
  (598, .iconst 0, 1, 0, 0), (599, .ireturn, 1, 0, 0), (600, .aload_n 1, 1, 0, 0), (601, .aload_n 0, 1, 0, 0), (602, .iload_n 3, 1, 0, 0), (603, .iconst 1, 1, 1, 0), (604, .iadd, 1, 0, 0), 
  (605, .iaload, 1, 0, 0), (606, .invokevirtual 89, 3, 87, 1), (609, .aload_n 2, 1, 0, 0), (610, .aload_n 0, 1, 0, 0), (611, .iload_n 3, 1, 0, 0), (612, .iconst 1, 1, 1, 0), (613, .iadd, 1, 0, 0), 
  (614, .iaload, 1, 0, 0), (615, .invokevirtual 92, 3, 148, 1), (618, .if_icmp .eq 54, 3, 672, 0), (621, .iconst 0, 1, 0, 0), (622, .ireturn, 1, 0, 0), (623, .aload_n 1, 1, 0, 0), (624, .invokevirtual 93, 3, 88, 0), 
  (627, .aload_n 2, 1, 0, 0), (628, .invokevirtual 96, 3, 149, 0), (631, .if_icmp .eq 41, 3, 672, 0), (634, .iconst 0, 1, 0, 0), (635, .ireturn, 1, 0, 0), (636, .aload_n 1, 1, 0, 0), 
  (637, .aload_n 0, 1, 0, 0), (638, .iload_n 3, 1, 0, 0), (639, .iconst 1, 1, 1, 0), (640, .iadd, 1, 0, 0), (641, .iaload, 1, 0, 0), (642, .invokevirtual 97, 3, 89, 1), (645, .aload_n 2, 1, 0, 0), 
  (646, .aload_n 0, 1, 0, 0), (647, .iload_n 3, 1, 0, 0), (648, .iconst 1, 1, 1, 0), (649, .iadd, 1, 0, 0), (650, .iaload, 1, 0, 0), (651, .invokevirtual 100, 3, 157, 1), (654, .if_icmp .eq 18, 3, 672, 0), 
  (657, .iconst 0, 1, 0, 0), (658, .ireturn, 1, 0, 0), (659, .aload_n 1, 1, 0, 0), (660, .invokevirtual 101, 3, 90, 0), (663, .aload_n 2, 1, 0, 0), (664, .invokevirtual 104, 3, 158, 0), 
  (667, .if_icmp .eq 5, 3, 672, 0), (670, .iconst 0, 1, 0, 0), (671, .ireturn, 1, 0, 0), (672, .iinc 3 4, 3, 9, 0), (675, .goto (-657), 3, 18, 0), (678, .iconst 1, 1, 1, 0), (679, .ireturn, 1, 0, 0)]
def m_law : xM := (13, false, some .boolean, 4, k_law)
def x_new : Nat → List (Option (Option Nat)) := fun ci => match ci with
  | 0 => [some none, some none, some none, some none, some none, none, none]
  | 1 => [some none, some none, some none, none]
  | 2 => [some none, some none, some none, none, none, none, none, none, none, none]
  | 3 => [some none, some none, some none, some none, some none, some none, some none, some none, some none, none, none, none]
  | 4 => [some none, none, none]
  | 5 => [some none, none, none, none, none, none, none, none, none]
  | 6 => [some none, some none, some none, some none, some none, some none, some none, some none, none, none]
  | 7 => [some none, none]
  | 8 => [some none, some none, some none, some none, some none]
  | _ => [some none, some none, some none, some none, none, some none, none, some none, some none, some none, some none, some none, none, some none, none, none, none, none, none, none, none, none]
def x_csts : List Value := [.int (nI 0), .int (nI 1), .int (nI 2), .int (nI 12), .int (-1), .int (nI 3), .int (nI 16), .int (nI 5), .int (nI 8), .int (nI 4), .int (nI 9), .int (nI 233), .int (nI 60), .int (nI 65), .int (nI 511), .int (nI 99), .int (nI 17), .int (nI 59), .int (nI 48), .int (nI 7), .int (nI 10), .int (nI 126), .int (nI 6), .int (nI 13), .int (nI 112), .int (nI 999), .int (nI 44), .int (nI 57), .int (nI 32), .int (nI 24), .int (nI 127), .int (nI 173), .int (nI 98), .int (nI 23), .int (nI 932), .int (nI 699), .int (nI 232), .int (nI 178), .int (nI 174), .int (nI 175), .int (nI 176), .int (nI 177), .int (nI 11), .int (nI 103), .int (nI 115), .int (nI 63), .int (nI 31), .int (-1000003), .int (-1000001), .int (-1000002), .int (-1000004), .float FP.fconst0, .float FP.fconst2, .float FP.fconst1, .float 1258291200, .int (2143289344), .int (1431655765), .int (858993459), .int (252645135)]
def x_sws : List (List (Nat × Nat) × Nat) := [
  ([(98, 57), (99, 44), (103, 63), (112, 50)], 68),
  ([(98, 76), (99, 76), (103, 191), (112, 119), (115, 191)], 209),
  ([(0, 48), (1, 55), (2, 62)], 87),
  ([(0, 76), (1, 83), (2, 90), (3, 101), (4, 132), (5, 139), (6, 146), (7, 153), (8, 173)], 197),
  ([(0, 72), (1, 80), (2, 88), (3, 96)], 104),
  ([(0, 104), (1, 135)], 145),
  ([(0, 68), (1, 76), (2, 87), (3, 98), (4, 109), (5, 117), (6, 125), (7, 136), (8, 147), (9, 169), (10, 177), (11, 188), (12, 196)], 226),
  ([(0, 72), (1, 80)], 88),
  ([(13, 48), (14, 59), (15, 67), (16, 75), (17, 91), (18, 91), (19, 91), (20, 83)], 91),
  ([(3, 56), (7, 86), (8, 107)], 130),
  ([(3, 88), (4, 127), (5, 127), (6, 127), (7, 127), (8, 93), (9, 127), (10, 127), (11, 127), (12, 105), (13, 127), (14, 110), (15, 115), (16, 127), (17, 127), (18, 127), (19, 127), (20, 120)], 127),
  ([(98, 70), (99, 48), (103, 79), (112, 57)], 84),
  ([(98, 70), (99, 48), (103, 79), (112, 57)], 84),
  ([(0, 136), (1, 159), (2, 192), (3, 225), (4, 268), (5, 281), (6, 304), (7, 317), (8, 350), (9, 383), (10, 416), (11, 449), (12, 482), (13, 515), (14, 528), (15, 551), (16, 564), (17, 587), (18, 600), (19, 623), (20, 636), (21, 659)], 672)]
def resF : List (Nat × Nat × Nat × Nat) := [(0, 9, 0, 0), (0, 15, 0, 1), (0, 18, 0, 2), (0, 21, 0, 3), (0, 24, 0, 4), (0, 33, 0, 5), (0, 37, 0, 6), (1, 9, 1, 0), (1, 15, 1, 1), (1, 18, 1, 2), (1, 27, 1, 3), (2, 12, 2, 0), (2, 21, 2, 1), (2, 28, 2, 2), (2, 32, 2, 3), (2, 36, 2, 4), (2, 49, 2, 5), (2, 52, 2, 6), (2, 55, 2, 7), (2, 58, 2, 8), (2, 61, 2, 9), (2, 81, 1, 0), (2, 86, 6, 1), (2, 89, 6, 0), (2, 96, 1, 3), (2, 116, 3, 11), (2, 127, 3, 10), (2, 145, 6, 9), (2, 149, 6, 4), (2, 152, 3, 5), (2, 153, 6, 7), (2, 156, 3, 6), (2, 159, 3, 4), (2, 166, 6, 3), (2, 169, 3, 8), (2, 172, 3, 7), (3, 9, 3, 0), (3, 15, 3, 1), (3, 18, 3, 2), (3, 21, 3, 3), (3, 24, 3, 4), (3, 27, 3, 5), (3, 30, 3, 6), (3, 33, 3, 7), (3, 36, 3, 8), (3, 43, 3, 9), (3, 47, 3, 11), (3, 67, 3, 10), (3, 70, 6, 8), (3, 75, 6, 9), (3, 78, 6, 2), (3, 79, 6, 0), (3, 88, 1, 3), (3, 101, 1, 0), (4, 13, 4, 0), (4, 18, 4, 1), (4, 26, 4, 2), (5, 12, 5, 0), (5, 22, 5, 1), (5, 26, 5, 5), (5, 29, 5, 3), (5, 32, 7, 1), (5, 37, 5, 2), (5, 44, 5, 4), (5, 47, 5, 6), (5, 50, 5, 7), (5, 53, 5, 8), (6, 9, 6, 0), (6, 15, 6, 1), (6, 18, 6, 2), (6, 21, 6, 3), (6, 24, 6, 4), (6, 27, 6, 5), (6, 30, 6, 6), (6, 33, 6, 7), (6, 42, 6, 8), (6, 46, 6, 9), (7, 9, 7, 0), (7, 20, 7, 1), (8, 10, 8, 0), (8, 19, 8, 1), (8, 26, 8, 2), (8, 33, 8, 3), (8, 40, 8, 4), (8, 80, 2, 0), (8, 91, 1, 0), (8, 95, 1, 1), (8, 98, 1, 2), (8, 105, 2, 1), (8, 115, 6, 0), (8, 118, 6, 1), (8, 121, 2, 3), (8, 125, 6, 2), (8, 128, 6, 3), (8, 129, 6, 4), (8, 132, 6, 5), (8, 135, 6, 6), (8, 138, 6, 7), (8, 145, 2, 2), (8, 149, 0, 6), (8, 158, 0, 0), (8, 161, 0, 1), (8, 164, 0, 2), (8, 165, 0, 3), (8, 166, 0, 4), (8, 174, 3, 4), (8, 177, 3, 5), (8, 178, 3, 6), (8, 179, 3, 10), (8, 182, 6, 9), (8, 192, 1, 3), (8, 193, 6, 8), (8, 196, 2, 5), (8, 199, 2, 6), (8, 208, 2, 9), (8, 214, 2, 7), (8, 237, 5, 3), (8, 240, 5, 2), (8, 243, 5, 4), (8, 246, 5, 0), (8, 252, 5, 1), (8, 255, 4, 2), (8, 256, 7, 1), (8, 259, 2, 8), (8, 262, 2, 4), (9, 7, 9, 0), (9, 13, 9, 1), (9, 16, 9, 2), (9, 19, 9, 3), (9, 22, 9, 5), (9, 25, 9, 7), (9, 28, 9, 8), (9, 31, 9, 9), (9, 34, 9, 10), (9, 37, 9, 11), (9, 40, 9, 13), (9, 43, 9, 4), (9, 66, 9, 12), (9, 172, 9, 6), (9, 175, 9, 14), (9, 178, 9, 16), (9, 185, 9, 15), (9, 188, 9, 17), (9, 198, 9, 18), (9, 201, 9, 19), (9, 204, 9, 20), (9, 213, 9, 21)]
def resM : List (Nat × Nat × Nat × Nat) := [(0, 3, 1000, 0), (0, 27, 1001, 0), (0, 40, 163, 2), (1, 3, 1000, 0), (1, 21, 1001, 0), (1, 32, 12, 0), (1, 36, 13, 1), (2, 3, 1000, 0), (2, 11, 4, 0), (2, 20, 49, 0), (2, 27, 0, 0), (2, 39, 5, 1), (2, 43, 50, 1), (2, 46, 1, 1), (2, 64, 93, 3), (2, 69, 7, 1), (2, 74, 54, 2), (2, 77, 6, 1), (2, 85, 51, 1), (2, 92, 58, 0), (2, 99, 9, 0), (2, 102, 55, 1), (2, 106, 56, 2), (2, 110, 29, 3), (2, 117, 25, 1), (2, 121, 26, 1), (2, 124, 27, 0), (2, 130, 16, 1), (2, 133, 17, 2), (2, 136, 21, 1), (2, 138, 20, 0), (2, 141, 22, 1), (2, 146, 52, 1), (2, 162, 57, 2), (2, 175, 10, 2), (2, 177, 2, 5), (2, 181, 162, 2), (2, 186, 11, 1), (3, 3, 1000, 0), (3, 39, 30, 3), (3, 50, 32, 2), (3, 54, 33, 2), (3, 57, 34, 2), (3, 60, 36, 1), (3, 64, 37, 2), (3, 82, 8, 2), (3, 89, 31, 1), (3, 93, 38, 1), (3, 97, 35, 2), (3, 104, 53, 2), (4, 3, 1000, 0), (4, 17, 14, 0), (4, 22, 15, 1), (4, 29, 163, 2), (5, 3, 1000, 0), (5, 11, 14, 0), (5, 18, 15, 1), (5, 40, 46, 1), (5, 56, 24, 4), (5, 60, 45, 1), (5, 64, 67, 1), (5, 68, 48, 1), (5, 72, 47, 2), (5, 76, 93, 3), (5, 80, 162, 2), (6, 3, 1000, 0), (6, 36, 1001, 0), (6, 50, 52, 1), (6, 54, 8, 2), (6, 60, 161, 1), (6, 67, 63, 1), (7, 3, 1000, 0), (7, 15, 93, 3), (8, 1, 1000, 0), (8, 9, 14, 0), (8, 18, 39, 0), (8, 25, 28, 0), (8, 32, 64, 0), (8, 39, 43, 0), (8, 44, 40, 1), (8, 48, 16, 1), (8, 52, 41, 1), (8, 55, 17, 2), (8, 59, 18, 2), (8, 62, 19, 3), (8, 66, 20, 0), (8, 70, 21, 1), (8, 73, 22, 1), (8, 77, 23, 2), (8, 84, 6, 1), (8, 101, 92, 2), (8, 109, 51, 1), (8, 112, 52, 1), (8, 141, 53, 2), (8, 155, 3, 1), (8, 170, 29, 3), (8, 185, 61, 0), (8, 188, 94, 1), (8, 202, 60, 0), (8, 205, 58, 0), (8, 211, 62, 0), (8, 217, 59, 0), (8, 220, 91, 1), (8, 223, 42, 1), (8, 227, 65, 1), (8, 230, 66, 0), (8, 233, 44, 3), (8, 249, 15, 1), (9, 1, 1000, 0), (9, 47, 97, 4), (9, 51, 96, 3), (9, 55, 103, 2), (9, 59, 101, 2), (9, 62, 104, 3), (9, 69, 105, 1), (9, 74, 110, 1), (9, 77, 102, 3), (9, 80, 107, 2), (9, 84, 108, 2), (9, 88, 109, 1), (9, 92, 111, 1), (9, 96, 113, 1), (9, 99, 112, 3), (9, 102, 114, 2), (9, 105, 115, 1), (9, 108, 106, 0), (9, 112, 116, 0), (9, 115, 117, 0), (9, 121, 123, 1), (9, 124, 98, 0), (9, 127, 119, 1), (9, 130, 124, 2), (9, 133, 120, 2), (9, 136, 99, 1), (9, 139, 100, 1), (9, 142, 125, 0), (9, 145, 121, 0), (9, 148, 126, 1), (9, 151, 122, 1), (9, 154, 118, 0), (9, 157, 140, 2), (9, 160, 160, 1), (9, 166, 145, 0), (9, 169, 146, 0), (9, 182, 150, 0), (9, 191, 151, 1), (9, 195, 152, 0), (9, 207, 153, 0), (9, 210, 154, 0), (9, 216, 155, 0), (9, 219, 156, 0), (10, 59, 159, 1), (10, 74, 1002, 0), (13, 9, 68, 0), (13, 12, 95, 0), (13, 13, 69, 1), (13, 17, 127, 1), (13, 18, 70, 2), (13, 22, 128, 2), (13, 23, 71, 2), (13, 26, 129, 2), (13, 27, 72, 3), (13, 31, 130, 3), (13, 32, 73, 0), (13, 36, 131, 0), (13, 37, 74, 1), (13, 40, 132, 1), (13, 41, 75, 0), (13, 44, 133, 0), (13, 45, 76, 2), (13, 48, 134, 2), (13, 49, 77, 2), (13, 52, 136, 2), (13, 53, 78, 2), (13, 56, 137, 2), (13, 57, 79, 2), (13, 60, 138, 2), (13, 61, 80, 2), (13, 64, 139, 2), (13, 65, 81, 2), (13, 68, 141, 2), (13, 69, 82, 0), (13, 72, 142, 0), (13, 73, 83, 1), (13, 76, 143, 1), (13, 77, 84, 0), (13, 80, 144, 0), (13, 81, 85, 1), (13, 84, 147, 1), (13, 85, 86, 0), (13, 88, 135, 0), (13, 89, 87, 1), (13, 92, 148, 1), (13, 93, 88, 0), (13, 96, 149, 0), (13, 97, 89, 1), (13, 100, 157, 1), (13, 101, 90, 0), (13, 104, 158, 0)]
def resN : List (Nat × Nat × Nat) := [(2, 9, 1), (2, 18, 6), (2, 25, 0), (4, 11, 2), (5, 9, 2), (8, 7, 2), (8, 16, 4), (8, 23, 3), (8, 30, 7), (8, 37, 5), (13, 7, 8), (13, 10, 9)]
def resC : List (Nat × Nat × Nat) := [(1, 31, 47), (2, 68, 48), (2, 73, 49), (2, 105, 47), (4, 35, 49), (6, 49, 47), (6, 66, 50), (7, 19, 48), (7, 24, 47), (8, 90, 48), (8, 154, 50), (8, 169, 49), (8, 265, 54), (9, 73, 50), (9, 118, 48), (9, 119, 49), (9, 120, 47), (10, 77, 55), (11, 265, 56), (11, 266, 57), (11, 267, 58)]
/-- the methods: picture, name, bytes, kind (0 of an object, 1 static, 2 a constructor), parameters -/
def mtA : List (xM × MethodName × ByteArray × Nat × Nat) := [
  (m_Bells_init, yX0_init, cX0_init, 2, 0),
  (m_Bells_copyFrom, yX0_copyFrom, cX0_copyFrom, 0, 1),
  (m_Bells_ring, yX0_ring, cX0_ring, 0, 5),
  (m_Bells_rowOf, yX0_rowOf, cX0_rowOf, 0, 1),
  (m_Chairs_init, yX1_init, cX1_init, 2, 0),
  (m_Chairs_copyFrom, yX1_copyFrom, cX1_copyFrom, 0, 1),
  (m_Chairs_has, yX1_has, cX1_has, 0, 1),
  (m_Chairs_add, yX1_add, cX1_add, 0, 1),
  (m_Chairs_onFrom, yX1_onFrom, cX1_onFrom, 0, 2),
  (m_Chairs_forgetSitters, yX1_forgetSitters, cX1_forgetSitters, 0, 0),
  (m_Chairs_seat, yX1_seat, cX1_seat, 0, 2),
  (m_Chairs_leaveOnly, yX1_leaveOnly, cX1_leaveOnly, 0, 1),
  (m_Chairs_mostWorn, yX1_mostWorn, cX1_mostWorn, 0, 0),
  (m_Chairs_takeAway, yX1_takeAway, cX1_takeAway, 0, 1),
  (m_Game_init, yX2_init, cX2_init, 2, 0),
  (m_Game_copyFrom, yX2_copyFrom, cX2_copyFrom, 0, 1),
  (m_Game_addChair, yX2_addChair, cX2_addChair, 0, 1),
  (m_Game_addPlayer, yX2_addPlayer, cX2_addPlayer, 0, 2),
  (m_Game_retune, yX2_retune, cX2_retune, 0, 2),
  (m_Game_retrain, yX2_retrain, cX2_retrain, 0, 3),
  (m_Game_startMusic, yX2_startMusic, cX2_startMusic, 0, 0),
  (m_Game_walk, yX2_walk, cX2_walk, 0, 1),
  (m_Game_stopMusic, yX2_stopMusic, cX2_stopMusic, 0, 1),
  (m_Game_choose, yX2_choose, cX2_choose, 0, 2),
  (m_Game_perform, yX2_perform, cX2_perform, 0, 4),
  (m_Game_settlePlayers, yX2_settlePlayers, cX2_settlePlayers, 0, 1),
  (m_Game_settleChairs, yX2_settleChairs, cX2_settleChairs, 0, 1),
  (m_Game_goOn, yX2_goOn, cX2_goOn, 0, 0),
  (m_Grope_init, yX3_init, cX3_init, 2, 0),
  (m_Grope_follow, yX3_follow, cX3_follow, 0, 3),
  (m_Grope_begin, yX3_begin, cX3_begin, 0, 3),
  (m_Grope_gropes, yX3_gropes, cX3_gropes, 0, 1),
  (m_Grope_sendOut, yX3_sendOut, cX3_sendOut, 0, 2),
  (m_Grope_takeAim, yX3_takeAim, cX3_takeAim, 0, 2),
  (m_Grope_sitDown, yX3_sitDown, cX3_sitDown, 0, 2),
  (m_Grope_nearest, yX3_nearest, cX3_nearest, 0, 2),
  (m_Grope_bump, yX3_bump, cX3_bump, 0, 1),
  (m_Grope_ring, yX3_ring, cX3_ring, 0, 2),
  (m_Grope_settle, yX3_settle, cX3_settle, 0, 1),
  (m_History_init, yX4_init, cX4_init, 2, 0),
  (m_History_prepare, yX4_prepare, cX4_prepare, 0, 1),
  (m_History_settle, yX4_settle, cX4_settle, 0, 1),
  (m_History_goBack, yX4_goBack, cX4_goBack, 0, 1),
  (m_Orders_init, yX5_init, cX5_init, 2, 0),
  (m_Orders_rehearse, yX5_rehearse, cX5_rehearse, 0, 3),
  (m_Orders_judge, yX5_judge, cX5_judge, 0, 1),
  (m_Orders_readOrder, yX5_readOrder, cX5_readOrder, 0, 1),
  (m_Orders_passes, yX5_passes, cX5_passes, 0, 2),
  (m_Orders_readNumber, yX5_readNumber, cX5_readNumber, 0, 1),
  (m_Players_init, yX6_init, cX6_init, 2, 0),
  (m_Players_copyFrom, yX6_copyFrom, cX6_copyFrom, 0, 1),
  (m_Players_has, yX6_has, cX6_has, 0, 1),
  (m_Players_isPlaying, yX6_isPlaying, cX6_isPlaying, 0, 1),
  (m_Players_hearsTone, yX6_hearsTone, cX6_hearsTone, 0, 2),
  (m_Players_add, yX6_add, cX6_add, 0, 2),
  (m_Players_lineUp, yX6_lineUp, cX6_lineUp, 0, 1),
  (m_Players_walk, yX6_walk, cX6_walk, 0, 2),
  (m_Players_leave, yX6_leave, cX6_leave, 0, 2),
  (m_Players_howManyPlay, yX6_howManyPlay, cX6_howManyPlay, 0, 0),
  (m_Players_firstPlaying, yX6_firstPlaying, cX6_firstPlaying, 0, 0),
  (m_Players_allSittings, yX6_allSittings, cX6_allSittings, 0, 0),
  (m_Players_allBumps, yX6_allBumps, cX6_allBumps, 0, 0),
  (m_Players_allSteps, yX6_allSteps, cX6_allSteps, 0, 0),
  (m_Players_sum, yX6_sum, cX6_sum, 0, 1),
  (m_Text_init, yX7_init, cX7_init, 2, 0),
  (m_Text_append, yX7_append, cX7_append, 0, 1),
  (m_Text_clear, yX7_clear, cX7_clear, 0, 0),
  (m_Text_signAt, yX7_signAt, cX7_signAt, 0, 1),
  (m_Bc_init, yX8_init, cX8_init, 2, 0),
  (m_Bc_chair, yX8_chair, cX8_chair, 0, 1),
  (m_Bc_player, yX8_player, cX8_player, 0, 2),
  (m_Bc_tune, yX8_tune, cX8_tune, 0, 2),
  (m_Bc_train, yX8_train, cX8_train, 0, 3),
  (m_Bc_start, yX8_start, cX8_start, 0, 0),
  (m_Bc_beat, yX8_beat, cX8_beat, 0, 1),
  (m_Bc_stop, yX8_stop, cX8_stop, 0, 0),
  (m_Bc_set, yX8_set, cX8_set, 0, 2),
  (m_Bc_chairOf, yX8_chairOf, cX8_chairOf, 0, 2),
  (m_Bc_playerOf, yX8_playerOf, cX8_playerOf, 0, 2),
  (m_Bc_hears, yX8_hears, cX8_hears, 0, 2),
  (m_Bc_bell, yX8_bell, cX8_bell, 0, 2),
  (m_Bc_ifStopped, yX8_ifStopped, cX8_ifStopped, 0, 2),
  (m_Bc_outs, yX8_outs, cX8_outs, 0, 0),
  (m_Bc_safeIn, yX8_safeIn, cX8_safeIn, 0, 1),
  (m_Bc_mean, yX8_mean, cX8_mean, 0, 0),
  (m_Bc_count, yX8_count, cX8_count, 0, 1),
  (m_Bc_undo, yX8_undo, cX8_undo, 0, 0),
  (m_Bc_type, yX8_type, cX8_type, 0, 1),
  (m_Bc_clearText, yX8_clearText, cX8_clearText, 0, 0),
  (m_Bc_fault, yX8_fault, cX8_fault, 0, 1),
  (m_Bc_play, yX8_play, cX8_play, 0, 0),
  (m_Bc_countBesidesTheGame, yX8_countBesidesTheGame, cX8_countBesidesTheGame, 0, 1),
  (m_Bc_foundOrNot, yX8_foundOrNot, cX8_foundOrNot, 1, 2),
  (m_Bc_isWithin, yX8_isWithin, cX8_isWithin, 1, 3),
  (m_Bc_bitsOf, yX8_bitsOf, cX8_bitsOf, 1, 1),
  (m_Md_init, yX9_init, cX9_init, 2, 0),
  (m_Md_in, yX9_in, cX9_in, 1, 3),
  (m_Md_copies, yX9_copies, cX9_copies, 1, 4),
  (m_Md_records, yX9_records, cX9_records, 0, 0),
  (m_Md_isChair, yX9_isChair, cX9_isChair, 0, 1),
  (m_Md_isPlayer, yX9_isPlayer, cX9_isPlayer, 0, 1),
  (m_Md_ofChair, yX9_ofChair, cX9_ofChair, 0, 2),
  (m_Md_laysChair, yX9_laysChair, cX9_laysChair, 0, 3),
  (m_Md_of, yX9_of, cX9_of, 0, 2),
  (m_Md_lays, yX9_lays, cX9_lays, 0, 3),
  (m_Md_isIn, yX9_isIn, cX9_isIn, 0, 1),
  (m_Md_inPlay, yX9_inPlay, cX9_inPlay, 0, 0),
  (m_Md_doesHear, yX9_doesHear, cX9_doesHear, 0, 2),
  (m_Md_getsOut, yX9_getsOut, cX9_getsOut, 0, 2),
  (m_Md_aims, yX9_aims, cX9_aims, 0, 1),
  (m_Md_gropes, yX9_gropes, cX9_gropes, 0, 1),
  (m_Md_getterOf, yX9_getterOf, cX9_getterOf, 0, 1),
  (m_Md_sitsDown, yX9_sitsDown, cX9_sitsDown, 0, 3),
  (m_Md_bumps, yX9_bumps, cX9_bumps, 0, 1),
  (m_Md_rings, yX9_rings, cX9_rings, 0, 2),
  (m_Md_ticks, yX9_ticks, cX9_ticks, 0, 1),
  (m_Md_gropesAll, yX9_gropesAll, cX9_gropesAll, 0, 0),
  (m_Md_takesChair, yX9_takesChair, cX9_takesChair, 0, 0),
  (m_Md_goStop, yX9_goStop, cX9_goStop, 0, 0),
  (m_Md_goChair, yX9_goChair, cX9_goChair, 0, 1),
  (m_Md_goPlayer, yX9_goPlayer, cX9_goPlayer, 0, 2),
  (m_Md_goStart, yX9_goStart, cX9_goStart, 0, 0),
  (m_Md_goBeat, yX9_goBeat, cX9_goBeat, 0, 1),
  (m_Md_errorChair, yX9_errorChair, cX9_errorChair, 0, 1),
  (m_Md_errorPlayer, yX9_errorPlayer, cX9_errorPlayer, 0, 2),
  (m_Md_errorStart, yX9_errorStart, cX9_errorStart, 0, 0),
  (m_Md_errorBeat, yX9_errorBeat, cX9_errorBeat, 0, 1),
  (m_Md_chair, yX9_chair, cX9_chair, 0, 1),
  (m_Md_player, yX9_player, cX9_player, 0, 2),
  (m_Md_tune, yX9_tune, cX9_tune, 0, 2),
  (m_Md_train, yX9_train, cX9_train, 0, 3),
  (m_Md_start, yX9_start, cX9_start, 0, 0),
  (m_Md_beat, yX9_beat, cX9_beat, 0, 1),
  (m_Md_stop, yX9_stop, cX9_stop, 0, 0),
  (m_Md_set, yX9_set, cX9_set, 0, 2),
  (m_Md_undo, yX9_undo, cX9_undo, 0, 0),
  (m_Md_chairOf, yX9_chairOf, cX9_chairOf, 0, 2),
  (m_Md_playerOf, yX9_playerOf, cX9_playerOf, 0, 2),
  (m_Md_hears, yX9_hears, cX9_hears, 0, 2),
  (m_Md_bell, yX9_bell, cX9_bell, 0, 2),
  (m_Md_ifStoppedBy, yX9_ifStoppedBy, cX9_ifStoppedBy, 0, 2),
  (m_Md_ifStopped, yX9_ifStopped, cX9_ifStopped, 0, 2),
  (m_Md_outs, yX9_outs, cX9_outs, 0, 0),
  (m_Md_safeIn, yX9_safeIn, cX9_safeIn, 0, 1),
  (m_Md_mean, yX9_mean, cX9_mean, 0, 0),
  (m_Md_inSet, yX9_inSet, cX9_inSet, 0, 0),
  (m_Md_onlyOne, yX9_onlyOne, cX9_onlyOne, 0, 0),
  (m_Md_count, yX9_count, cX9_count, 0, 1),
  (m_Md_type, yX9_type, cX9_type, 0, 1),
  (m_Md_clearText, yX9_clearText, cX9_clearText, 0, 0),
  (m_Md_here, yX9_here, cX9_here, 0, 0),
  (m_Md_takes, yX9_takes, cX9_takes, 0, 1),
  (m_Md_takesNumber, yX9_takesNumber, cX9_takesNumber, 0, 0),
  (m_Md_takesOrder, yX9_takesOrder, cX9_takesOrder, 0, 0),
  (m_Md_errorOfOrder, yX9_errorOfOrder, cX9_errorOfOrder, 0, 0),
  (m_Md_doesOrder, yX9_doesOrder, cX9_doesOrder, 0, 0),
  (m_Md_doesAll, yX9_doesAll, cX9_doesAll, 0, 0),
  (m_Md_fault, yX9_fault, cX9_fault, 0, 1),
  (m_Md_play, yX9_play, cX9_play, 0, 0),
  (m_Flt_isNaN, yJxf58ca_isNaN_12338, cJxf58ca_isNaN_12338, 1, 1),
  (m_Flt_floatToIntBits, yJxf58ca_floatToIntBits_5c35a, cJxf58ca_floatToIntBits_5c35a, 1, 1),
  (m_Int_bitCount, yJ6_bitCount_0f7a4, cJ6_bitCount_0f7a4, 1, 1),
  (m_Math_max, yJ9_max_7cf53, cJ9_max_7cf53, 1, 2),
  (m_Math_min, yJ9_min_7cf53, cJ9_min_7cf53, 1, 2)]
def x_tabOf (pc : Nat) : Jvm.ClassFile.Instr → List (Nat × Nat) × Nat
  | .tableswitch d lo _ offs => (offs.toList.mapIdx (fun j o => ((lo + (j : Int)).toNat, ((pc : Int) + o).toNat)), ((pc : Int) + d).toNat)
  | .lookupswitch d ps => (ps.toList.map (fun q => (q.1.toNat, ((pc : Int) + q.2).toNat)), ((pc : Int) + d).toNat)
  | _ => ([], 0)
def okS (pc : Nat) : Jvm.ClassFile.Instr → Bool
  | .tableswitch d lo hi offs => decide (0 ≤ lo ∧ hi < 1000 ∧ hi + 1 = lo + (offs.size : Int) ∧ 0 ≤ (pc : Int) + d) && offs.toList.all (fun o => decide (0 ≤ (pc : Int) + o))
  | .lookupswitch d ps => decide (0 ≤ (pc : Int) + d) && ps.toList.all (fun q => decide (0 ≤ q.1 ∧ q.1 < 1000 ∧ 0 ≤ (pc : Int) + q.2)) && (ps.toList.zip (ps.toList.drop 1)).all (fun (a, next) => decide (a.1 < next.1))
  | _ => true
/-- the kind of a method by its number; special ones 7 -/
def x_kind (t : Nat) : Nat := if 1000 ≤ t then 7 else match mtA[t]? with | some e => e.2.2.2.1 | none => 8
def x_len (i : Jvm.ClassFile.Instr) (d : Nat) : Nat := match i with
  | .tableswitch _ _ _ _ => d
  | .lookupswitch _ _ => d
  | .bipush _ => 2
  | .sipush _ => 3
  | .ldc _ => 2
  | .ldc_w _ => 3
  | .iload _ => 2
  | .istore _ => 2
  | .aload _ => 2
  | .iinc _ _ => 3
  | .getfield _ => 3
  | .putfield _ => 3
  | .invokevirtual _ => 3
  | .invokespecial _ => 3
  | .invokestatic _ => 3
  | .new _ => 3
  | .anewarray _ => 3
  | .goto _ => 3
  | .ifCond _ _ => 3
  | .if_icmp _ _ => 3
  | .newarray _ => 2
  | _ => 1
def okM (oc pc : Nat) (i : Jvm.ClassFile.Instr) (r1 r2 : Nat) : Bool := match i with
    | .getfield i => resF.contains (oc, i, r1, r2)
    | .putfield i => resF.contains (oc, i, r1, r2)
    | .ldc i => resC.contains (oc, i, r1)
    | .ldc_w i => resC.contains (oc, i, r1)
    | .new i => resN.contains (oc, i, r1)
    | .anewarray i => resN.contains (oc, i, r1)
    | .invokevirtual i => resM.contains (oc, i, r1, r2) && x_kind r1 == 0
    | .invokespecial i => resM.contains (oc, i, r1, r2) && (x_kind r1 == 2 || r1 == 1000)
    | .invokestatic i => resM.contains (oc, i, r1, r2) && (x_kind r1 == 1 || r1 == 1001 || r1 == 1002)
    | .iconst n => decide (x_csts[r1]? = some (.int (Int32.ofInt n)))
    | .bipush n => decide (x_csts[r1]? = some (.int (Int8.ofInt n).toInt32))
    | .sipush n => decide (x_csts[r1]? = some (.int (Int16.ofInt n).toInt32))
    | .fconst n => decide (x_csts[r1]? = some (.float (if n = 0 then FP.fconst0 else if n = 1 then FP.fconst1 else FP.fconst2)))
    | .iinc _ n => decide (x_csts[r1]? = some (.int (Int32.ofInt n)))
    | .goto off => decide ((pc : Int) + off = (r1 : Int))
    | .ifCond _ off => decide ((pc : Int) + off = (r1 : Int))
    | .if_icmp _ off => decide ((pc : Int) + off = (r1 : Int))
    | .tableswitch d lo hi offs => okS pc (.tableswitch d lo hi offs) && decide (x_sws[r1]? = some (x_tabOf pc (.tableswitch d lo hi offs)))
    | .lookupswitch d ps => okS pc (.lookupswitch d ps) && decide (x_sws[r1]? = some (x_tabOf pc (.lookupswitch d ps)))
    | _ => true
def okE (oc : Nat) (b : ByteArray) (e : Nat × Jvm.ClassFile.Instr × Nat × Nat × Nat) : Bool :=
  decide (decode b e.1 = .ok (e.2.1, e.2.2.1)) && Nat.beq e.2.2.1 (x_len e.2.1 e.2.2.1) && okM oc e.1 e.2.1 e.2.2.2.1 e.2.2.2.2
set_option maxRecDepth 100000 in
theorem kk_Bells_init : k_Bells_init.all (okE 0 cX0_init) = true := by decide +kernel
set_option maxRecDepth 100000 in
theorem kk_Bells_copyFrom : k_Bells_copyFrom.all (okE 0 cX0_copyFrom) = true := by decide +kernel
set_option maxRecDepth 100000 in
theorem kk_Bells_ring : k_Bells_ring.all (okE 0 cX0_ring) = true := by decide +kernel
set_option maxRecDepth 100000 in
theorem kk_Bells_rowOf : k_Bells_rowOf.all (okE 0 cX0_rowOf) = true := by decide +kernel
set_option maxRecDepth 100000 in
theorem kk_Chairs_init : k_Chairs_init.all (okE 1 cX1_init) = true := by decide +kernel
set_option maxRecDepth 100000 in
theorem kk_Chairs_copyFrom : k_Chairs_copyFrom.all (okE 1 cX1_copyFrom) = true := by decide +kernel
set_option maxRecDepth 100000 in
theorem kk_Chairs_has : k_Chairs_has.all (okE 1 cX1_has) = true := by decide +kernel
set_option maxRecDepth 100000 in
theorem kk_Chairs_add : k_Chairs_add.all (okE 1 cX1_add) = true := by decide +kernel
set_option maxRecDepth 100000 in
theorem kk_Chairs_onFrom : k_Chairs_onFrom.all (okE 1 cX1_onFrom) = true := by decide +kernel
set_option maxRecDepth 100000 in
theorem kk_Chairs_forgetSitters : k_Chairs_forgetSitters.all (okE 1 cX1_forgetSitters) = true := by decide +kernel
set_option maxRecDepth 100000 in
theorem kk_Chairs_seat : k_Chairs_seat.all (okE 1 cX1_seat) = true := by decide +kernel
set_option maxRecDepth 100000 in
theorem kk_Chairs_leaveOnly : k_Chairs_leaveOnly.all (okE 1 cX1_leaveOnly) = true := by decide +kernel
set_option maxRecDepth 100000 in
theorem kk_Chairs_mostWorn : k_Chairs_mostWorn.all (okE 1 cX1_mostWorn) = true := by decide +kernel
set_option maxRecDepth 100000 in
theorem kk_Chairs_takeAway : k_Chairs_takeAway.all (okE 1 cX1_takeAway) = true := by decide +kernel
set_option maxRecDepth 100000 in
theorem kk_Game_init : k_Game_init.all (okE 2 cX2_init) = true := by decide +kernel
set_option maxRecDepth 100000 in
theorem kk_Game_copyFrom : k_Game_copyFrom.all (okE 2 cX2_copyFrom) = true := by decide +kernel
set_option maxRecDepth 100000 in
theorem kk_Game_addChair : k_Game_addChair.all (okE 2 cX2_addChair) = true := by decide +kernel
set_option maxRecDepth 100000 in
theorem kk_Game_addPlayer : k_Game_addPlayer.all (okE 2 cX2_addPlayer) = true := by decide +kernel
set_option maxRecDepth 100000 in
theorem kk_Game_retune : k_Game_retune.all (okE 2 cX2_retune) = true := by decide +kernel
set_option maxRecDepth 100000 in
theorem kk_Game_retrain : k_Game_retrain.all (okE 2 cX2_retrain) = true := by decide +kernel
set_option maxRecDepth 100000 in
theorem kk_Game_startMusic : k_Game_startMusic.all (okE 2 cX2_startMusic) = true := by decide +kernel
set_option maxRecDepth 100000 in
theorem kk_Game_walk : k_Game_walk.all (okE 2 cX2_walk) = true := by decide +kernel
set_option maxRecDepth 100000 in
theorem kk_Game_stopMusic : k_Game_stopMusic.all (okE 2 cX2_stopMusic) = true := by decide +kernel
set_option maxRecDepth 100000 in
theorem kk_Game_choose : k_Game_choose.all (okE 2 cX2_choose) = true := by decide +kernel
set_option maxRecDepth 100000 in
theorem kk_Game_perform : k_Game_perform.all (okE 2 cX2_perform) = true := by decide +kernel
set_option maxRecDepth 100000 in
theorem kk_Game_settlePlayers : k_Game_settlePlayers.all (okE 2 cX2_settlePlayers) = true := by decide +kernel
set_option maxRecDepth 100000 in
theorem kk_Game_settleChairs : k_Game_settleChairs.all (okE 2 cX2_settleChairs) = true := by decide +kernel
set_option maxRecDepth 100000 in
theorem kk_Game_goOn : k_Game_goOn.all (okE 2 cX2_goOn) = true := by decide +kernel
set_option maxRecDepth 100000 in
theorem kk_Grope_init : k_Grope_init.all (okE 3 cX3_init) = true := by decide +kernel
set_option maxRecDepth 100000 in
theorem kk_Grope_follow : k_Grope_follow.all (okE 3 cX3_follow) = true := by decide +kernel
set_option maxRecDepth 100000 in
theorem kk_Grope_begin : k_Grope_begin.all (okE 3 cX3_begin) = true := by decide +kernel
set_option maxRecDepth 100000 in
theorem kk_Grope_gropes : k_Grope_gropes.all (okE 3 cX3_gropes) = true := by decide +kernel
set_option maxRecDepth 100000 in
theorem kk_Grope_sendOut : k_Grope_sendOut.all (okE 3 cX3_sendOut) = true := by decide +kernel
set_option maxRecDepth 100000 in
theorem kk_Grope_takeAim : k_Grope_takeAim.all (okE 3 cX3_takeAim) = true := by decide +kernel
set_option maxRecDepth 100000 in
theorem kk_Grope_sitDown : k_Grope_sitDown.all (okE 3 cX3_sitDown) = true := by decide +kernel
set_option maxRecDepth 100000 in
theorem kk_Grope_nearest : k_Grope_nearest.all (okE 3 cX3_nearest) = true := by decide +kernel
set_option maxRecDepth 100000 in
theorem kk_Grope_bump : k_Grope_bump.all (okE 3 cX3_bump) = true := by decide +kernel
set_option maxRecDepth 100000 in
theorem kk_Grope_ring : k_Grope_ring.all (okE 3 cX3_ring) = true := by decide +kernel
set_option maxRecDepth 100000 in
theorem kk_Grope_settle : k_Grope_settle.all (okE 3 cX3_settle) = true := by decide +kernel
set_option maxRecDepth 100000 in
theorem kk_History_init : k_History_init.all (okE 4 cX4_init) = true := by decide +kernel
set_option maxRecDepth 100000 in
theorem kk_History_prepare : k_History_prepare.all (okE 4 cX4_prepare) = true := by decide +kernel
set_option maxRecDepth 100000 in
theorem kk_History_settle : k_History_settle.all (okE 4 cX4_settle) = true := by decide +kernel
set_option maxRecDepth 100000 in
theorem kk_History_goBack : k_History_goBack.all (okE 4 cX4_goBack) = true := by decide +kernel
set_option maxRecDepth 100000 in
theorem kk_Orders_init : k_Orders_init.all (okE 5 cX5_init) = true := by decide +kernel
set_option maxRecDepth 100000 in
theorem kk_Orders_rehearse : k_Orders_rehearse.all (okE 5 cX5_rehearse) = true := by decide +kernel
set_option maxRecDepth 100000 in
theorem kk_Orders_judge : k_Orders_judge.all (okE 5 cX5_judge) = true := by decide +kernel
set_option maxRecDepth 100000 in
theorem kk_Orders_readOrder : k_Orders_readOrder.all (okE 5 cX5_readOrder) = true := by decide +kernel
set_option maxRecDepth 100000 in
theorem kk_Orders_passes : k_Orders_passes.all (okE 5 cX5_passes) = true := by decide +kernel
set_option maxRecDepth 100000 in
theorem kk_Orders_readNumber : k_Orders_readNumber.all (okE 5 cX5_readNumber) = true := by decide +kernel
set_option maxRecDepth 100000 in
theorem kk_Players_init : k_Players_init.all (okE 6 cX6_init) = true := by decide +kernel
set_option maxRecDepth 100000 in
theorem kk_Players_copyFrom : k_Players_copyFrom.all (okE 6 cX6_copyFrom) = true := by decide +kernel
set_option maxRecDepth 100000 in
theorem kk_Players_has : k_Players_has.all (okE 6 cX6_has) = true := by decide +kernel
set_option maxRecDepth 100000 in
theorem kk_Players_isPlaying : k_Players_isPlaying.all (okE 6 cX6_isPlaying) = true := by decide +kernel
set_option maxRecDepth 100000 in
theorem kk_Players_hearsTone : k_Players_hearsTone.all (okE 6 cX6_hearsTone) = true := by decide +kernel
set_option maxRecDepth 100000 in
theorem kk_Players_add : k_Players_add.all (okE 6 cX6_add) = true := by decide +kernel
set_option maxRecDepth 100000 in
theorem kk_Players_lineUp : k_Players_lineUp.all (okE 6 cX6_lineUp) = true := by decide +kernel
set_option maxRecDepth 100000 in
theorem kk_Players_walk : k_Players_walk.all (okE 6 cX6_walk) = true := by decide +kernel
set_option maxRecDepth 100000 in
theorem kk_Players_leave : k_Players_leave.all (okE 6 cX6_leave) = true := by decide +kernel
set_option maxRecDepth 100000 in
theorem kk_Players_howManyPlay : k_Players_howManyPlay.all (okE 6 cX6_howManyPlay) = true := by decide +kernel
set_option maxRecDepth 100000 in
theorem kk_Players_firstPlaying : k_Players_firstPlaying.all (okE 6 cX6_firstPlaying) = true := by decide +kernel
set_option maxRecDepth 100000 in
theorem kk_Players_allSittings : k_Players_allSittings.all (okE 6 cX6_allSittings) = true := by decide +kernel
set_option maxRecDepth 100000 in
theorem kk_Players_allBumps : k_Players_allBumps.all (okE 6 cX6_allBumps) = true := by decide +kernel
set_option maxRecDepth 100000 in
theorem kk_Players_allSteps : k_Players_allSteps.all (okE 6 cX6_allSteps) = true := by decide +kernel
set_option maxRecDepth 100000 in
theorem kk_Players_sum : k_Players_sum.all (okE 6 cX6_sum) = true := by decide +kernel
set_option maxRecDepth 100000 in
theorem kk_Text_init : k_Text_init.all (okE 7 cX7_init) = true := by decide +kernel
set_option maxRecDepth 100000 in
theorem kk_Text_append : k_Text_append.all (okE 7 cX7_append) = true := by decide +kernel
set_option maxRecDepth 100000 in
theorem kk_Text_clear : k_Text_clear.all (okE 7 cX7_clear) = true := by decide +kernel
set_option maxRecDepth 100000 in
theorem kk_Text_signAt : k_Text_signAt.all (okE 7 cX7_signAt) = true := by decide +kernel
set_option maxRecDepth 100000 in
theorem kk_Bc_init : k_Bc_init.all (okE 8 cX8_init) = true := by decide +kernel
set_option maxRecDepth 100000 in
theorem kk_Bc_chair : k_Bc_chair.all (okE 8 cX8_chair) = true := by decide +kernel
set_option maxRecDepth 100000 in
theorem kk_Bc_player : k_Bc_player.all (okE 8 cX8_player) = true := by decide +kernel
set_option maxRecDepth 100000 in
theorem kk_Bc_tune : k_Bc_tune.all (okE 8 cX8_tune) = true := by decide +kernel
set_option maxRecDepth 100000 in
theorem kk_Bc_train : k_Bc_train.all (okE 8 cX8_train) = true := by decide +kernel
set_option maxRecDepth 100000 in
theorem kk_Bc_start : k_Bc_start.all (okE 8 cX8_start) = true := by decide +kernel
set_option maxRecDepth 100000 in
theorem kk_Bc_beat : k_Bc_beat.all (okE 8 cX8_beat) = true := by decide +kernel
set_option maxRecDepth 100000 in
theorem kk_Bc_stop : k_Bc_stop.all (okE 8 cX8_stop) = true := by decide +kernel
set_option maxRecDepth 100000 in
theorem kk_Bc_set : k_Bc_set.all (okE 8 cX8_set) = true := by decide +kernel
set_option maxRecDepth 100000 in
theorem kk_Bc_chairOf : k_Bc_chairOf.all (okE 8 cX8_chairOf) = true := by decide +kernel
set_option maxRecDepth 100000 in
theorem kk_Bc_playerOf : k_Bc_playerOf.all (okE 8 cX8_playerOf) = true := by decide +kernel
set_option maxRecDepth 100000 in
theorem kk_Bc_hears : k_Bc_hears.all (okE 8 cX8_hears) = true := by decide +kernel
set_option maxRecDepth 100000 in
theorem kk_Bc_bell : k_Bc_bell.all (okE 8 cX8_bell) = true := by decide +kernel
set_option maxRecDepth 100000 in
theorem kk_Bc_ifStopped : k_Bc_ifStopped.all (okE 8 cX8_ifStopped) = true := by decide +kernel
set_option maxRecDepth 100000 in
theorem kk_Bc_outs : k_Bc_outs.all (okE 8 cX8_outs) = true := by decide +kernel
set_option maxRecDepth 100000 in
theorem kk_Bc_safeIn : k_Bc_safeIn.all (okE 8 cX8_safeIn) = true := by decide +kernel
set_option maxRecDepth 100000 in
theorem kk_Bc_mean : k_Bc_mean.all (okE 8 cX8_mean) = true := by decide +kernel
set_option maxRecDepth 100000 in
theorem kk_Bc_count : k_Bc_count.all (okE 8 cX8_count) = true := by decide +kernel
set_option maxRecDepth 100000 in
theorem kk_Bc_undo : k_Bc_undo.all (okE 8 cX8_undo) = true := by decide +kernel
set_option maxRecDepth 100000 in
theorem kk_Bc_type : k_Bc_type.all (okE 8 cX8_type) = true := by decide +kernel
set_option maxRecDepth 100000 in
theorem kk_Bc_clearText : k_Bc_clearText.all (okE 8 cX8_clearText) = true := by decide +kernel
set_option maxRecDepth 100000 in
theorem kk_Bc_fault : k_Bc_fault.all (okE 8 cX8_fault) = true := by decide +kernel
set_option maxRecDepth 100000 in
theorem kk_Bc_play : k_Bc_play.all (okE 8 cX8_play) = true := by decide +kernel
set_option maxRecDepth 100000 in
theorem kk_Bc_countBesidesTheGame : k_Bc_countBesidesTheGame.all (okE 8 cX8_countBesidesTheGame) = true := by decide +kernel
set_option maxRecDepth 100000 in
theorem kk_Bc_foundOrNot : k_Bc_foundOrNot.all (okE 8 cX8_foundOrNot) = true := by decide +kernel
set_option maxRecDepth 100000 in
theorem kk_Bc_isWithin : k_Bc_isWithin.all (okE 8 cX8_isWithin) = true := by decide +kernel
set_option maxRecDepth 100000 in
theorem kk_Bc_bitsOf : k_Bc_bitsOf.all (okE 8 cX8_bitsOf) = true := by decide +kernel
set_option maxRecDepth 100000 in
theorem kk_Md_init : k_Md_init.all (okE 9 cX9_init) = true := by decide +kernel
set_option maxRecDepth 100000 in
theorem kk_Md_in : k_Md_in.all (okE 9 cX9_in) = true := by decide +kernel
set_option maxRecDepth 100000 in
theorem kk_Md_copies : k_Md_copies.all (okE 9 cX9_copies) = true := by decide +kernel
set_option maxRecDepth 100000 in
theorem kk_Md_records : k_Md_records.all (okE 9 cX9_records) = true := by decide +kernel
set_option maxRecDepth 100000 in
theorem kk_Md_isChair : k_Md_isChair.all (okE 9 cX9_isChair) = true := by decide +kernel
set_option maxRecDepth 100000 in
theorem kk_Md_isPlayer : k_Md_isPlayer.all (okE 9 cX9_isPlayer) = true := by decide +kernel
set_option maxRecDepth 100000 in
theorem kk_Md_ofChair : k_Md_ofChair.all (okE 9 cX9_ofChair) = true := by decide +kernel
set_option maxRecDepth 100000 in
theorem kk_Md_laysChair : k_Md_laysChair.all (okE 9 cX9_laysChair) = true := by decide +kernel
set_option maxRecDepth 100000 in
theorem kk_Md_of : k_Md_of.all (okE 9 cX9_of) = true := by decide +kernel
set_option maxRecDepth 100000 in
theorem kk_Md_lays : k_Md_lays.all (okE 9 cX9_lays) = true := by decide +kernel
set_option maxRecDepth 100000 in
theorem kk_Md_isIn : k_Md_isIn.all (okE 9 cX9_isIn) = true := by decide +kernel
set_option maxRecDepth 100000 in
theorem kk_Md_inPlay : k_Md_inPlay.all (okE 9 cX9_inPlay) = true := by decide +kernel
set_option maxRecDepth 100000 in
theorem kk_Md_doesHear : k_Md_doesHear.all (okE 9 cX9_doesHear) = true := by decide +kernel
set_option maxRecDepth 100000 in
theorem kk_Md_getsOut : k_Md_getsOut.all (okE 9 cX9_getsOut) = true := by decide +kernel
set_option maxRecDepth 100000 in
theorem kk_Md_aims : k_Md_aims.all (okE 9 cX9_aims) = true := by decide +kernel
set_option maxRecDepth 100000 in
theorem kk_Md_gropes : k_Md_gropes.all (okE 9 cX9_gropes) = true := by decide +kernel
set_option maxRecDepth 100000 in
theorem kk_Md_getterOf : k_Md_getterOf.all (okE 9 cX9_getterOf) = true := by decide +kernel
set_option maxRecDepth 100000 in
theorem kk_Md_sitsDown : k_Md_sitsDown.all (okE 9 cX9_sitsDown) = true := by decide +kernel
set_option maxRecDepth 100000 in
theorem kk_Md_bumps : k_Md_bumps.all (okE 9 cX9_bumps) = true := by decide +kernel
set_option maxRecDepth 100000 in
theorem kk_Md_rings : k_Md_rings.all (okE 9 cX9_rings) = true := by decide +kernel
set_option maxRecDepth 100000 in
theorem kk_Md_ticks : k_Md_ticks.all (okE 9 cX9_ticks) = true := by decide +kernel
set_option maxRecDepth 100000 in
theorem kk_Md_gropesAll : k_Md_gropesAll.all (okE 9 cX9_gropesAll) = true := by decide +kernel
set_option maxRecDepth 100000 in
theorem kk_Md_takesChair : k_Md_takesChair.all (okE 9 cX9_takesChair) = true := by decide +kernel
set_option maxRecDepth 100000 in
theorem kk_Md_goStop : k_Md_goStop.all (okE 9 cX9_goStop) = true := by decide +kernel
set_option maxRecDepth 100000 in
theorem kk_Md_goChair : k_Md_goChair.all (okE 9 cX9_goChair) = true := by decide +kernel
set_option maxRecDepth 100000 in
theorem kk_Md_goPlayer : k_Md_goPlayer.all (okE 9 cX9_goPlayer) = true := by decide +kernel
set_option maxRecDepth 100000 in
theorem kk_Md_goStart : k_Md_goStart.all (okE 9 cX9_goStart) = true := by decide +kernel
set_option maxRecDepth 100000 in
theorem kk_Md_goBeat : k_Md_goBeat.all (okE 9 cX9_goBeat) = true := by decide +kernel
set_option maxRecDepth 100000 in
theorem kk_Md_errorChair : k_Md_errorChair.all (okE 9 cX9_errorChair) = true := by decide +kernel
set_option maxRecDepth 100000 in
theorem kk_Md_errorPlayer : k_Md_errorPlayer.all (okE 9 cX9_errorPlayer) = true := by decide +kernel
set_option maxRecDepth 100000 in
theorem kk_Md_errorStart : k_Md_errorStart.all (okE 9 cX9_errorStart) = true := by decide +kernel
set_option maxRecDepth 100000 in
theorem kk_Md_errorBeat : k_Md_errorBeat.all (okE 9 cX9_errorBeat) = true := by decide +kernel
set_option maxRecDepth 100000 in
theorem kk_Md_chair : k_Md_chair.all (okE 9 cX9_chair) = true := by decide +kernel
set_option maxRecDepth 100000 in
theorem kk_Md_player : k_Md_player.all (okE 9 cX9_player) = true := by decide +kernel
set_option maxRecDepth 100000 in
theorem kk_Md_tune : k_Md_tune.all (okE 9 cX9_tune) = true := by decide +kernel
set_option maxRecDepth 100000 in
theorem kk_Md_train : k_Md_train.all (okE 9 cX9_train) = true := by decide +kernel
set_option maxRecDepth 100000 in
theorem kk_Md_start : k_Md_start.all (okE 9 cX9_start) = true := by decide +kernel
set_option maxRecDepth 100000 in
theorem kk_Md_beat : k_Md_beat.all (okE 9 cX9_beat) = true := by decide +kernel
set_option maxRecDepth 100000 in
theorem kk_Md_stop : k_Md_stop.all (okE 9 cX9_stop) = true := by decide +kernel
set_option maxRecDepth 100000 in
theorem kk_Md_set : k_Md_set.all (okE 9 cX9_set) = true := by decide +kernel
set_option maxRecDepth 100000 in
theorem kk_Md_undo : k_Md_undo.all (okE 9 cX9_undo) = true := by decide +kernel
set_option maxRecDepth 100000 in
theorem kk_Md_chairOf : k_Md_chairOf.all (okE 9 cX9_chairOf) = true := by decide +kernel
set_option maxRecDepth 100000 in
theorem kk_Md_playerOf : k_Md_playerOf.all (okE 9 cX9_playerOf) = true := by decide +kernel
set_option maxRecDepth 100000 in
theorem kk_Md_hears : k_Md_hears.all (okE 9 cX9_hears) = true := by decide +kernel
set_option maxRecDepth 100000 in
theorem kk_Md_bell : k_Md_bell.all (okE 9 cX9_bell) = true := by decide +kernel
set_option maxRecDepth 100000 in
theorem kk_Md_ifStoppedBy : k_Md_ifStoppedBy.all (okE 9 cX9_ifStoppedBy) = true := by decide +kernel
set_option maxRecDepth 100000 in
theorem kk_Md_ifStopped : k_Md_ifStopped.all (okE 9 cX9_ifStopped) = true := by decide +kernel
set_option maxRecDepth 100000 in
theorem kk_Md_outs : k_Md_outs.all (okE 9 cX9_outs) = true := by decide +kernel
set_option maxRecDepth 100000 in
theorem kk_Md_safeIn : k_Md_safeIn.all (okE 9 cX9_safeIn) = true := by decide +kernel
set_option maxRecDepth 100000 in
theorem kk_Md_mean : k_Md_mean.all (okE 9 cX9_mean) = true := by decide +kernel
set_option maxRecDepth 100000 in
theorem kk_Md_inSet : k_Md_inSet.all (okE 9 cX9_inSet) = true := by decide +kernel
set_option maxRecDepth 100000 in
theorem kk_Md_onlyOne : k_Md_onlyOne.all (okE 9 cX9_onlyOne) = true := by decide +kernel
set_option maxRecDepth 100000 in
theorem kk_Md_count : k_Md_count.all (okE 9 cX9_count) = true := by decide +kernel
set_option maxRecDepth 100000 in
theorem kk_Md_type : k_Md_type.all (okE 9 cX9_type) = true := by decide +kernel
set_option maxRecDepth 100000 in
theorem kk_Md_clearText : k_Md_clearText.all (okE 9 cX9_clearText) = true := by decide +kernel
set_option maxRecDepth 100000 in
theorem kk_Md_here : k_Md_here.all (okE 9 cX9_here) = true := by decide +kernel
set_option maxRecDepth 100000 in
theorem kk_Md_takes : k_Md_takes.all (okE 9 cX9_takes) = true := by decide +kernel
set_option maxRecDepth 100000 in
theorem kk_Md_takesNumber : k_Md_takesNumber.all (okE 9 cX9_takesNumber) = true := by decide +kernel
set_option maxRecDepth 100000 in
theorem kk_Md_takesOrder : k_Md_takesOrder.all (okE 9 cX9_takesOrder) = true := by decide +kernel
set_option maxRecDepth 100000 in
theorem kk_Md_errorOfOrder : k_Md_errorOfOrder.all (okE 9 cX9_errorOfOrder) = true := by decide +kernel
set_option maxRecDepth 100000 in
theorem kk_Md_doesOrder : k_Md_doesOrder.all (okE 9 cX9_doesOrder) = true := by decide +kernel
set_option maxRecDepth 100000 in
theorem kk_Md_doesAll : k_Md_doesAll.all (okE 9 cX9_doesAll) = true := by decide +kernel
set_option maxRecDepth 100000 in
theorem kk_Md_fault : k_Md_fault.all (okE 9 cX9_fault) = true := by decide +kernel
set_option maxRecDepth 100000 in
theorem kk_Md_play : k_Md_play.all (okE 9 cX9_play) = true := by decide +kernel
set_option maxRecDepth 100000 in
theorem kk_Flt_isNaN : k_Flt_isNaN.all (okE 10 cJxf58ca_isNaN_12338) = true := by decide +kernel
set_option maxRecDepth 100000 in
theorem kk_Flt_floatToIntBits : k_Flt_floatToIntBits.all (okE 10 cJxf58ca_floatToIntBits_5c35a) = true := by decide +kernel
set_option maxRecDepth 100000 in
theorem kk_Int_bitCount : k_Int_bitCount.all (okE 11 cJ6_bitCount_0f7a4) = true := by decide +kernel
set_option maxRecDepth 100000 in
theorem kk_Math_max : k_Math_max.all (okE 12 cJ9_max_7cf53) = true := by decide +kernel
set_option maxRecDepth 100000 in
theorem kk_Math_min : k_Math_min.all (okE 12 cJ9_min_7cf53) = true := by decide +kernel
set_option maxRecDepth 100000 in
theorem kk_law0 : ((k_law.drop 0).take 60).all (okE 13 code) = true := by decide +kernel
set_option maxRecDepth 100000 in
theorem kk_law1 : ((k_law.drop 60).take 60).all (okE 13 code) = true := by decide +kernel
set_option maxRecDepth 100000 in
theorem kk_law2 : ((k_law.drop 120).take 60).all (okE 13 code) = true := by decide +kernel
set_option maxRecDepth 100000 in
theorem kk_law3 : ((k_law.drop 180).take 60).all (okE 13 code) = true := by decide +kernel
set_option maxRecDepth 100000 in
theorem kk_law4 : ((k_law.drop 240).take 60).all (okE 13 code) = true := by decide +kernel
set_option maxRecDepth 100000 in
theorem kk_law5 : ((k_law.drop 300).take 60).all (okE 13 code) = true := by decide +kernel
set_option maxRecDepth 100000 in
theorem kk_law6 : ((k_law.drop 360).take 60).all (okE 13 code) = true := by decide +kernel
set_option maxRecDepth 100000 in
theorem kk_law7 : ((k_law.drop 420).take 10).all (okE 13 code) = true := by decide +kernel
end
section
/-- what the tables say of a field's operand: (owner, index, class, field) -/
def rF (q : Nat × Nat × Nat × Nat) : Prop := ∃ r : vw_C, vwCl[q.2.2.1]? = some r ∧ q.2.2.2 < r.2.2 ∧ (r.2.1 q.2.2.2).1 = r.1 ∧ (Jvm.Cond.fieldLink (x_own q.1) q.2.1 r.1 (r.2.1 q.2.2.2).2.1 (r.2.1 q.2.2.2).2.2.1 ∈ tables_1 ∨ (q.1 ≠ q.2.2.1 ∧ Jvm.Cond.fieldLinkNest (x_own q.1) q.2.1 r.1 (r.2.1 q.2.2.2).2.1 (r.2.1 q.2.2.2).2.2.1 RX8 ∈ tables_1))
def rawName : MethodName := ⟨"java/lang/Float", "floatToRawIntBits", "(F)I"⟩
/-- of a method's operand: (owner, index, method, parameters) -/
def rM (q : Nat × Nat × Nat × Nat) : Prop := (∃ e : xM × MethodName × ByteArray × Nat × Nat, mtA[q.2.2.1]? = some e ∧ q.2.2.2 = e.2.2.2.2 ∧ (Jvm.Cond.methodLink (x_own q.1) q.2.1 e.2.1 ∈ tables_1 ∨ Jvm.Cond.methodLinkNest (x_own q.1) q.2.1 e.2.1 RX8 ∈ tables_1)) ∨ (q.2.2.1 = 1000 ∧ Jvm.Cond.methodLink (x_own q.1) q.2.1 Lib.objectInit ∈ tables_1) ∨ (q.2.2.1 = 1001 ∧ Jvm.Cond.methodLink (x_own q.1) q.2.1 arraycopyName ∈ tables_1) ∨ (q.2.2.1 = 1002 ∧ Jvm.Cond.methodLink (x_own q.1) q.2.1 rawName ∈ tables_1)
def rN (q : Nat × Nat × Nat) : Prop := ∃ r : vw_C, vwCl[q.2.2]? = some r ∧ Jvm.Cond.classLink (x_own q.1) q.2.1 r.1 ∈ tables_1
def rC (q : Nat × Nat × Nat) : Prop := (∃ x : Int32, x_csts[q.2.2]? = some (.int x) ∧ Jvm.Cond.constant (x_own q.1) q.2.1 x ∈ tables_1) ∨ (∃ x : UInt32, x_csts[q.2.2]? = some (.float x) ∧ Jvm.Cond.constantFloat (x_own q.1) q.2.1 x ∈ tables_1)
/-- of a class by its number -/
def rK (r : vw_C) : Prop := Jvm.Cond.instantiable r.1 r.2.2 ∈ tables_1 ∧ Jvm.Cond.initialized r.1 ∈ tables_1 ∧ (∀ w ∈ u_ws r.1 r.2.1 r.2.2, w ∈ tables_1) ∧ (∀ a, a < r.2.2 → ∀ b, b < r.2.2 → a ≠ b → (r.2.1 a).2.1 ≠ (r.2.1 b).2.1) ∧ ∃ ty : Nat → FieldType, ∀ k, k < r.2.2 → parseFieldDescriptor (r.2.1 k).2.2.1 = some (ty k)
/-- of a method -/
def mOk (e : xM × MethodName × ByteArray × Nat × Nat) : Prop :=
  (∀ q ∈ e.1.2.2.2.2, okE e.1.1 e.2.2.1 q = true) ∧ Jvm.Cond.code e.2.1 e.2.2.1 e.1.2.2.2.1 e.1.2.2.1 ∈ tables_1 ∧ x_own e.1.1 = e.2.1.cls ∧ Jvm.Cond.initialized e.2.1.cls ∈ tables_1 ∧ plainFor e.2.1 = true ∧ (e.2.1.cls ≠ "java/lang/invoke/MethodHandle" ∧ e.2.1.cls ≠ "java/lang/invoke/VarHandle" ∧ (parseMethodDescriptor e.2.1.desc).map (fun d => d.parameters.length) = some e.2.2.2.2) ∧ e.1.2.2.2.1 ≤ 17 ∧ (e.1.2.1 = true → e.2.1.name = "<init>") ∧
  ((e.2.2.2.1 = 0 ∧ Jvm.Cond.instanceMethod e.2.1 ∈ tables_1 ∧ Jvm.Cond.selects e.2.1.cls e.2.1 e.2.1 ∈ lw_tbl ∧ ∃ r : vw_C, vwCl[e.1.1]? = some r ∧ r.1 = e.2.1.cls) ∨ (e.2.2.2.1 = 1 ∧ Jvm.Cond.static e.2.1 ∈ tables_1) ∨ (e.2.2.2.1 = 2 ∧ e.2.1.name = "<init>" ∧ Jvm.Cond.instanceMethod e.2.1 ∈ tables_1 ∧ e.1.2.2.1 = none))
set_option maxRecDepth 20000 in
theorem rF_ok_0 : rF (0, 9, 0, 0) := ⟨_, rfl, by decide, rfl, Or.inl (List.mem_of_getElem? (i := 120) (by decide +kernel))⟩
set_option maxRecDepth 20000 in
theorem rF_ok_1 : rF (0, 15, 0, 1) := ⟨_, rfl, by decide, rfl, Or.inl (List.mem_of_getElem? (i := 122) (by decide +kernel))⟩
set_option maxRecDepth 20000 in
theorem rF_ok_2 : rF (0, 18, 0, 2) := ⟨_, rfl, by decide, rfl, Or.inl (List.mem_of_getElem? (i := 124) (by decide +kernel))⟩
set_option maxRecDepth 20000 in
theorem rF_ok_3 : rF (0, 21, 0, 3) := ⟨_, rfl, by decide, rfl, Or.inl (List.mem_of_getElem? (i := 126) (by decide +kernel))⟩
set_option maxRecDepth 20000 in
theorem rF_ok_4 : rF (0, 24, 0, 4) := ⟨_, rfl, by decide, rfl, Or.inl (List.mem_of_getElem? (i := 128) (by decide +kernel))⟩
set_option maxRecDepth 20000 in
theorem rF_ok_5 : rF (0, 33, 0, 5) := ⟨_, rfl, by decide, rfl, Or.inl (List.mem_of_getElem? (i := 130) (by decide +kernel))⟩
set_option maxRecDepth 20000 in
theorem rF_ok_6 : rF (0, 37, 0, 6) := ⟨_, rfl, by decide, rfl, Or.inl (List.mem_of_getElem? (i := 131) (by decide +kernel))⟩
set_option maxRecDepth 20000 in
theorem rF_ok_7 : rF (1, 9, 1, 0) := ⟨_, rfl, by decide, rfl, Or.inl (List.mem_of_getElem? (i := 35) (by decide +kernel))⟩
set_option maxRecDepth 20000 in
theorem rF_ok_8 : rF (1, 15, 1, 1) := ⟨_, rfl, by decide, rfl, Or.inl (List.mem_of_getElem? (i := 39) (by decide +kernel))⟩
set_option maxRecDepth 20000 in
theorem rF_ok_9 : rF (1, 18, 1, 2) := ⟨_, rfl, by decide, rfl, Or.inl (List.mem_of_getElem? (i := 41) (by decide +kernel))⟩
set_option maxRecDepth 20000 in
theorem rF_ok_10 : rF (1, 27, 1, 3) := ⟨_, rfl, by decide, rfl, Or.inl (List.mem_of_getElem? (i := 43) (by decide +kernel))⟩
set_option maxRecDepth 20000 in
theorem rF_ok_11 : rF (2, 12, 2, 0) := ⟨_, rfl, by decide, rfl, Or.inl (List.mem_of_getElem? (i := 148) (by decide +kernel))⟩
set_option maxRecDepth 20000 in
theorem rF_ok_12 : rF (2, 21, 2, 1) := ⟨_, rfl, by decide, rfl, Or.inl (List.mem_of_getElem? (i := 150) (by decide +kernel))⟩
set_option maxRecDepth 20000 in
theorem rF_ok_13 : rF (2, 28, 2, 2) := ⟨_, rfl, by decide, rfl, Or.inl (List.mem_of_getElem? (i := 152) (by decide +kernel))⟩
set_option maxRecDepth 20000 in
theorem rF_ok_14 : rF (2, 32, 2, 3) := ⟨_, rfl, by decide, rfl, Or.inl (List.mem_of_getElem? (i := 154) (by decide +kernel))⟩
set_option maxRecDepth 20000 in
theorem rF_ok_15 : rF (2, 36, 2, 4) := ⟨_, rfl, by decide, rfl, Or.inl (List.mem_of_getElem? (i := 156) (by decide +kernel))⟩
set_option maxRecDepth 20000 in
theorem rF_ok_16 : rF (2, 49, 2, 5) := ⟨_, rfl, by decide, rfl, Or.inl (List.mem_of_getElem? (i := 158) (by decide +kernel))⟩
set_option maxRecDepth 20000 in
theorem rF_ok_17 : rF (2, 52, 2, 6) := ⟨_, rfl, by decide, rfl, Or.inl (List.mem_of_getElem? (i := 160) (by decide +kernel))⟩
set_option maxRecDepth 20000 in
theorem rF_ok_18 : rF (2, 55, 2, 7) := ⟨_, rfl, by decide, rfl, Or.inl (List.mem_of_getElem? (i := 162) (by decide +kernel))⟩
set_option maxRecDepth 20000 in
theorem rF_ok_19 : rF (2, 58, 2, 8) := ⟨_, rfl, by decide, rfl, Or.inl (List.mem_of_getElem? (i := 164) (by decide +kernel))⟩
set_option maxRecDepth 20000 in
theorem rF_ok_20 : rF (2, 61, 2, 9) := ⟨_, rfl, by decide, rfl, Or.inl (List.mem_of_getElem? (i := 166) (by decide +kernel))⟩
set_option maxRecDepth 20000 in
theorem rF_ok_21 : rF (2, 81, 1, 0) := ⟨_, rfl, by decide, rfl, Or.inr ⟨by decide, List.mem_of_getElem? (i := 36) (by decide +kernel)⟩⟩
set_option maxRecDepth 20000 in
theorem rF_ok_22 : rF (2, 86, 6, 1) := ⟨_, rfl, by decide, rfl, Or.inr ⟨by decide, List.mem_of_getElem? (i := 68) (by decide +kernel)⟩⟩
set_option maxRecDepth 20000 in
theorem rF_ok_23 : rF (2, 89, 6, 0) := ⟨_, rfl, by decide, rfl, Or.inr ⟨by decide, List.mem_of_getElem? (i := 65) (by decide +kernel)⟩⟩
set_option maxRecDepth 20000 in
theorem rF_ok_24 : rF (2, 96, 1, 3) := ⟨_, rfl, by decide, rfl, Or.inr ⟨by decide, List.mem_of_getElem? (i := 45) (by decide +kernel)⟩⟩
set_option maxRecDepth 20000 in
theorem rF_ok_25 : rF (2, 116, 3, 11) := ⟨_, rfl, by decide, rfl, Or.inr ⟨by decide, List.mem_of_getElem? (i := 237) (by decide +kernel)⟩⟩
set_option maxRecDepth 20000 in
theorem rF_ok_26 : rF (2, 127, 3, 10) := ⟨_, rfl, by decide, rfl, Or.inr ⟨by decide, List.mem_of_getElem? (i := 234) (by decide +kernel)⟩⟩
set_option maxRecDepth 20000 in
theorem rF_ok_27 : rF (2, 145, 6, 9) := ⟨_, rfl, by decide, rfl, Or.inr ⟨by decide, List.mem_of_getElem? (i := 91) (by decide +kernel)⟩⟩
set_option maxRecDepth 20000 in
theorem rF_ok_28 : rF (2, 149, 6, 4) := ⟨_, rfl, by decide, rfl, Or.inr ⟨by decide, List.mem_of_getElem? (i := 78) (by decide +kernel)⟩⟩
set_option maxRecDepth 20000 in
theorem rF_ok_29 : rF (2, 152, 3, 5) := ⟨_, rfl, by decide, rfl, Or.inr ⟨by decide, List.mem_of_getElem? (i := 223) (by decide +kernel)⟩⟩
set_option maxRecDepth 20000 in
theorem rF_ok_30 : rF (2, 153, 6, 7) := ⟨_, rfl, by decide, rfl, Or.inr ⟨by decide, List.mem_of_getElem? (i := 85) (by decide +kernel)⟩⟩
set_option maxRecDepth 20000 in
theorem rF_ok_31 : rF (2, 156, 3, 6) := ⟨_, rfl, by decide, rfl, Or.inr ⟨by decide, List.mem_of_getElem? (i := 226) (by decide +kernel)⟩⟩
set_option maxRecDepth 20000 in
theorem rF_ok_32 : rF (2, 159, 3, 4) := ⟨_, rfl, by decide, rfl, Or.inr ⟨by decide, List.mem_of_getElem? (i := 220) (by decide +kernel)⟩⟩
set_option maxRecDepth 20000 in
theorem rF_ok_33 : rF (2, 166, 6, 3) := ⟨_, rfl, by decide, rfl, Or.inr ⟨by decide, List.mem_of_getElem? (i := 75) (by decide +kernel)⟩⟩
set_option maxRecDepth 20000 in
theorem rF_ok_34 : rF (2, 169, 3, 8) := ⟨_, rfl, by decide, rfl, Or.inr ⟨by decide, List.mem_of_getElem? (i := 231) (by decide +kernel)⟩⟩
set_option maxRecDepth 20000 in
theorem rF_ok_35 : rF (2, 172, 3, 7) := ⟨_, rfl, by decide, rfl, Or.inr ⟨by decide, List.mem_of_getElem? (i := 229) (by decide +kernel)⟩⟩
set_option maxRecDepth 20000 in
theorem rF_ok_36 : rF (3, 9, 3, 0) := ⟨_, rfl, by decide, rfl, Or.inl (List.mem_of_getElem? (i := 215) (by decide +kernel))⟩
set_option maxRecDepth 20000 in
theorem rF_ok_37 : rF (3, 15, 3, 1) := ⟨_, rfl, by decide, rfl, Or.inl (List.mem_of_getElem? (i := 216) (by decide +kernel))⟩
set_option maxRecDepth 20000 in
theorem rF_ok_38 : rF (3, 18, 3, 2) := ⟨_, rfl, by decide, rfl, Or.inl (List.mem_of_getElem? (i := 217) (by decide +kernel))⟩
set_option maxRecDepth 20000 in
theorem rF_ok_39 : rF (3, 21, 3, 3) := ⟨_, rfl, by decide, rfl, Or.inl (List.mem_of_getElem? (i := 218) (by decide +kernel))⟩
set_option maxRecDepth 20000 in
theorem rF_ok_40 : rF (3, 24, 3, 4) := ⟨_, rfl, by decide, rfl, Or.inl (List.mem_of_getElem? (i := 219) (by decide +kernel))⟩
set_option maxRecDepth 20000 in
theorem rF_ok_41 : rF (3, 27, 3, 5) := ⟨_, rfl, by decide, rfl, Or.inl (List.mem_of_getElem? (i := 222) (by decide +kernel))⟩
set_option maxRecDepth 20000 in
theorem rF_ok_42 : rF (3, 30, 3, 6) := ⟨_, rfl, by decide, rfl, Or.inl (List.mem_of_getElem? (i := 225) (by decide +kernel))⟩
set_option maxRecDepth 20000 in
theorem rF_ok_43 : rF (3, 33, 3, 7) := ⟨_, rfl, by decide, rfl, Or.inl (List.mem_of_getElem? (i := 228) (by decide +kernel))⟩
set_option maxRecDepth 20000 in
theorem rF_ok_44 : rF (3, 36, 3, 8) := ⟨_, rfl, by decide, rfl, Or.inl (List.mem_of_getElem? (i := 230) (by decide +kernel))⟩
set_option maxRecDepth 20000 in
theorem rF_ok_45 : rF (3, 43, 3, 9) := ⟨_, rfl, by decide, rfl, Or.inl (List.mem_of_getElem? (i := 232) (by decide +kernel))⟩
set_option maxRecDepth 20000 in
theorem rF_ok_46 : rF (3, 47, 3, 11) := ⟨_, rfl, by decide, rfl, Or.inl (List.mem_of_getElem? (i := 236) (by decide +kernel))⟩
set_option maxRecDepth 20000 in
theorem rF_ok_47 : rF (3, 67, 3, 10) := ⟨_, rfl, by decide, rfl, Or.inl (List.mem_of_getElem? (i := 233) (by decide +kernel))⟩
set_option maxRecDepth 20000 in
theorem rF_ok_48 : rF (3, 70, 6, 8) := ⟨_, rfl, by decide, rfl, Or.inr ⟨by decide, List.mem_of_getElem? (i := 87) (by decide +kernel)⟩⟩
set_option maxRecDepth 20000 in
theorem rF_ok_49 : rF (3, 75, 6, 9) := ⟨_, rfl, by decide, rfl, Or.inr ⟨by decide, List.mem_of_getElem? (i := 90) (by decide +kernel)⟩⟩
set_option maxRecDepth 20000 in
theorem rF_ok_50 : rF (3, 78, 6, 2) := ⟨_, rfl, by decide, rfl, Or.inr ⟨by decide, List.mem_of_getElem? (i := 71) (by decide +kernel)⟩⟩
set_option maxRecDepth 20000 in
theorem rF_ok_51 : rF (3, 79, 6, 0) := ⟨_, rfl, by decide, rfl, Or.inr ⟨by decide, List.mem_of_getElem? (i := 64) (by decide +kernel)⟩⟩
set_option maxRecDepth 20000 in
theorem rF_ok_52 : rF (3, 88, 1, 3) := ⟨_, rfl, by decide, rfl, Or.inr ⟨by decide, List.mem_of_getElem? (i := 44) (by decide +kernel)⟩⟩
set_option maxRecDepth 20000 in
theorem rF_ok_53 : rF (3, 101, 1, 0) := ⟨_, rfl, by decide, rfl, Or.inr ⟨by decide, List.mem_of_getElem? (i := 37) (by decide +kernel)⟩⟩
set_option maxRecDepth 20000 in
theorem rF_ok_54 : rF (4, 13, 4, 0) := ⟨_, rfl, by decide, rfl, Or.inl (List.mem_of_getElem? (i := 198) (by decide +kernel))⟩
set_option maxRecDepth 20000 in
theorem rF_ok_55 : rF (4, 18, 4, 1) := ⟨_, rfl, by decide, rfl, Or.inl (List.mem_of_getElem? (i := 199) (by decide +kernel))⟩
set_option maxRecDepth 20000 in
theorem rF_ok_56 : rF (4, 26, 4, 2) := ⟨_, rfl, by decide, rfl, Or.inl (List.mem_of_getElem? (i := 200) (by decide +kernel))⟩
set_option maxRecDepth 20000 in
theorem rF_ok_57 : rF (5, 12, 5, 0) := ⟨_, rfl, by decide, rfl, Or.inl (List.mem_of_getElem? (i := 286) (by decide +kernel))⟩
set_option maxRecDepth 20000 in
theorem rF_ok_58 : rF (5, 22, 5, 1) := ⟨_, rfl, by decide, rfl, Or.inl (List.mem_of_getElem? (i := 288) (by decide +kernel))⟩
set_option maxRecDepth 20000 in
theorem rF_ok_59 : rF (5, 26, 5, 5) := ⟨_, rfl, by decide, rfl, Or.inl (List.mem_of_getElem? (i := 296) (by decide +kernel))⟩
set_option maxRecDepth 20000 in
theorem rF_ok_60 : rF (5, 29, 5, 3) := ⟨_, rfl, by decide, rfl, Or.inl (List.mem_of_getElem? (i := 292) (by decide +kernel))⟩
set_option maxRecDepth 20000 in
theorem rF_ok_61 : rF (5, 32, 7, 1) := ⟨_, rfl, by decide, rfl, Or.inr ⟨by decide, List.mem_of_getElem? (i := 271) (by decide +kernel)⟩⟩
set_option maxRecDepth 20000 in
theorem rF_ok_62 : rF (5, 37, 5, 2) := ⟨_, rfl, by decide, rfl, Or.inl (List.mem_of_getElem? (i := 290) (by decide +kernel))⟩
set_option maxRecDepth 20000 in
theorem rF_ok_63 : rF (5, 44, 5, 4) := ⟨_, rfl, by decide, rfl, Or.inl (List.mem_of_getElem? (i := 294) (by decide +kernel))⟩
set_option maxRecDepth 20000 in
theorem rF_ok_64 : rF (5, 47, 5, 6) := ⟨_, rfl, by decide, rfl, Or.inl (List.mem_of_getElem? (i := 297) (by decide +kernel))⟩
set_option maxRecDepth 20000 in
theorem rF_ok_65 : rF (5, 50, 5, 7) := ⟨_, rfl, by decide, rfl, Or.inl (List.mem_of_getElem? (i := 298) (by decide +kernel))⟩
set_option maxRecDepth 20000 in
theorem rF_ok_66 : rF (5, 53, 5, 8) := ⟨_, rfl, by decide, rfl, Or.inl (List.mem_of_getElem? (i := 299) (by decide +kernel))⟩
set_option maxRecDepth 20000 in
theorem rF_ok_67 : rF (6, 9, 6, 0) := ⟨_, rfl, by decide, rfl, Or.inl (List.mem_of_getElem? (i := 63) (by decide +kernel))⟩
set_option maxRecDepth 20000 in
theorem rF_ok_68 : rF (6, 15, 6, 1) := ⟨_, rfl, by decide, rfl, Or.inl (List.mem_of_getElem? (i := 67) (by decide +kernel))⟩
set_option maxRecDepth 20000 in
theorem rF_ok_69 : rF (6, 18, 6, 2) := ⟨_, rfl, by decide, rfl, Or.inl (List.mem_of_getElem? (i := 70) (by decide +kernel))⟩
set_option maxRecDepth 20000 in
theorem rF_ok_70 : rF (6, 21, 6, 3) := ⟨_, rfl, by decide, rfl, Or.inl (List.mem_of_getElem? (i := 73) (by decide +kernel))⟩
set_option maxRecDepth 20000 in
theorem rF_ok_71 : rF (6, 24, 6, 4) := ⟨_, rfl, by decide, rfl, Or.inl (List.mem_of_getElem? (i := 76) (by decide +kernel))⟩
set_option maxRecDepth 20000 in
theorem rF_ok_72 : rF (6, 27, 6, 5) := ⟨_, rfl, by decide, rfl, Or.inl (List.mem_of_getElem? (i := 79) (by decide +kernel))⟩
set_option maxRecDepth 20000 in
theorem rF_ok_73 : rF (6, 30, 6, 6) := ⟨_, rfl, by decide, rfl, Or.inl (List.mem_of_getElem? (i := 81) (by decide +kernel))⟩
set_option maxRecDepth 20000 in
theorem rF_ok_74 : rF (6, 33, 6, 7) := ⟨_, rfl, by decide, rfl, Or.inl (List.mem_of_getElem? (i := 83) (by decide +kernel))⟩
set_option maxRecDepth 20000 in
theorem rF_ok_75 : rF (6, 42, 6, 8) := ⟨_, rfl, by decide, rfl, Or.inl (List.mem_of_getElem? (i := 86) (by decide +kernel))⟩
set_option maxRecDepth 20000 in
theorem rF_ok_76 : rF (6, 46, 6, 9) := ⟨_, rfl, by decide, rfl, Or.inl (List.mem_of_getElem? (i := 89) (by decide +kernel))⟩
set_option maxRecDepth 20000 in
theorem rF_ok_77 : rF (7, 9, 7, 0) := ⟨_, rfl, by decide, rfl, Or.inl (List.mem_of_getElem? (i := 269) (by decide +kernel))⟩
set_option maxRecDepth 20000 in
theorem rF_ok_78 : rF (7, 20, 7, 1) := ⟨_, rfl, by decide, rfl, Or.inl (List.mem_of_getElem? (i := 270) (by decide +kernel))⟩
set_option maxRecDepth 20000 in
theorem rF_ok_79 : rF (8, 10, 8, 0) := ⟨_, rfl, by decide, rfl, Or.inl (List.mem_of_getElem? (i := 319) (by decide +kernel))⟩
set_option maxRecDepth 20000 in
theorem rF_ok_80 : rF (8, 19, 8, 1) := ⟨_, rfl, by decide, rfl, Or.inl (List.mem_of_getElem? (i := 320) (by decide +kernel))⟩
set_option maxRecDepth 20000 in
theorem rF_ok_81 : rF (8, 26, 8, 2) := ⟨_, rfl, by decide, rfl, Or.inl (List.mem_of_getElem? (i := 321) (by decide +kernel))⟩
set_option maxRecDepth 20000 in
theorem rF_ok_82 : rF (8, 33, 8, 3) := ⟨_, rfl, by decide, rfl, Or.inl (List.mem_of_getElem? (i := 322) (by decide +kernel))⟩
set_option maxRecDepth 20000 in
theorem rF_ok_83 : rF (8, 40, 8, 4) := ⟨_, rfl, by decide, rfl, Or.inl (List.mem_of_getElem? (i := 323) (by decide +kernel))⟩
set_option maxRecDepth 20000 in
theorem rF_ok_84 : rF (8, 80, 2, 0) := ⟨_, rfl, by decide, rfl, Or.inr ⟨by decide, List.mem_of_getElem? (i := 149) (by decide +kernel)⟩⟩
set_option maxRecDepth 20000 in
theorem rF_ok_85 : rF (8, 91, 1, 0) := ⟨_, rfl, by decide, rfl, Or.inr ⟨by decide, List.mem_of_getElem? (i := 38) (by decide +kernel)⟩⟩
set_option maxRecDepth 20000 in
theorem rF_ok_86 : rF (8, 95, 1, 1) := ⟨_, rfl, by decide, rfl, Or.inr ⟨by decide, List.mem_of_getElem? (i := 40) (by decide +kernel)⟩⟩
set_option maxRecDepth 20000 in
theorem rF_ok_87 : rF (8, 98, 1, 2) := ⟨_, rfl, by decide, rfl, Or.inr ⟨by decide, List.mem_of_getElem? (i := 42) (by decide +kernel)⟩⟩
set_option maxRecDepth 20000 in
theorem rF_ok_88 : rF (8, 105, 2, 1) := ⟨_, rfl, by decide, rfl, Or.inr ⟨by decide, List.mem_of_getElem? (i := 151) (by decide +kernel)⟩⟩
set_option maxRecDepth 20000 in
theorem rF_ok_89 : rF (8, 115, 6, 0) := ⟨_, rfl, by decide, rfl, Or.inr ⟨by decide, List.mem_of_getElem? (i := 66) (by decide +kernel)⟩⟩
set_option maxRecDepth 20000 in
theorem rF_ok_90 : rF (8, 118, 6, 1) := ⟨_, rfl, by decide, rfl, Or.inr ⟨by decide, List.mem_of_getElem? (i := 69) (by decide +kernel)⟩⟩
set_option maxRecDepth 20000 in
theorem rF_ok_91 : rF (8, 121, 2, 3) := ⟨_, rfl, by decide, rfl, Or.inr ⟨by decide, List.mem_of_getElem? (i := 155) (by decide +kernel)⟩⟩
set_option maxRecDepth 20000 in
theorem rF_ok_92 : rF (8, 125, 6, 2) := ⟨_, rfl, by decide, rfl, Or.inr ⟨by decide, List.mem_of_getElem? (i := 72) (by decide +kernel)⟩⟩
set_option maxRecDepth 20000 in
theorem rF_ok_93 : rF (8, 128, 6, 3) := ⟨_, rfl, by decide, rfl, Or.inr ⟨by decide, List.mem_of_getElem? (i := 74) (by decide +kernel)⟩⟩
set_option maxRecDepth 20000 in
theorem rF_ok_94 : rF (8, 129, 6, 4) := ⟨_, rfl, by decide, rfl, Or.inr ⟨by decide, List.mem_of_getElem? (i := 77) (by decide +kernel)⟩⟩
set_option maxRecDepth 20000 in
theorem rF_ok_95 : rF (8, 132, 6, 5) := ⟨_, rfl, by decide, rfl, Or.inr ⟨by decide, List.mem_of_getElem? (i := 80) (by decide +kernel)⟩⟩
set_option maxRecDepth 20000 in
theorem rF_ok_96 : rF (8, 135, 6, 6) := ⟨_, rfl, by decide, rfl, Or.inr ⟨by decide, List.mem_of_getElem? (i := 82) (by decide +kernel)⟩⟩
set_option maxRecDepth 20000 in
theorem rF_ok_97 : rF (8, 138, 6, 7) := ⟨_, rfl, by decide, rfl, Or.inr ⟨by decide, List.mem_of_getElem? (i := 84) (by decide +kernel)⟩⟩
set_option maxRecDepth 20000 in
theorem rF_ok_98 : rF (8, 145, 2, 2) := ⟨_, rfl, by decide, rfl, Or.inr ⟨by decide, List.mem_of_getElem? (i := 153) (by decide +kernel)⟩⟩
set_option maxRecDepth 20000 in
theorem rF_ok_99 : rF (8, 149, 0, 6) := ⟨_, rfl, by decide, rfl, Or.inr ⟨by decide, List.mem_of_getElem? (i := 132) (by decide +kernel)⟩⟩
set_option maxRecDepth 20000 in
theorem rF_ok_100 : rF (8, 158, 0, 0) := ⟨_, rfl, by decide, rfl, Or.inr ⟨by decide, List.mem_of_getElem? (i := 121) (by decide +kernel)⟩⟩
set_option maxRecDepth 20000 in
theorem rF_ok_101 : rF (8, 161, 0, 1) := ⟨_, rfl, by decide, rfl, Or.inr ⟨by decide, List.mem_of_getElem? (i := 123) (by decide +kernel)⟩⟩
set_option maxRecDepth 20000 in
theorem rF_ok_102 : rF (8, 164, 0, 2) := ⟨_, rfl, by decide, rfl, Or.inr ⟨by decide, List.mem_of_getElem? (i := 125) (by decide +kernel)⟩⟩
set_option maxRecDepth 20000 in
theorem rF_ok_103 : rF (8, 165, 0, 3) := ⟨_, rfl, by decide, rfl, Or.inr ⟨by decide, List.mem_of_getElem? (i := 127) (by decide +kernel)⟩⟩
set_option maxRecDepth 20000 in
theorem rF_ok_104 : rF (8, 166, 0, 4) := ⟨_, rfl, by decide, rfl, Or.inr ⟨by decide, List.mem_of_getElem? (i := 129) (by decide +kernel)⟩⟩
set_option maxRecDepth 20000 in
theorem rF_ok_105 : rF (8, 174, 3, 4) := ⟨_, rfl, by decide, rfl, Or.inr ⟨by decide, List.mem_of_getElem? (i := 221) (by decide +kernel)⟩⟩
set_option maxRecDepth 20000 in
theorem rF_ok_106 : rF (8, 177, 3, 5) := ⟨_, rfl, by decide, rfl, Or.inr ⟨by decide, List.mem_of_getElem? (i := 224) (by decide +kernel)⟩⟩
set_option maxRecDepth 20000 in
theorem rF_ok_107 : rF (8, 178, 3, 6) := ⟨_, rfl, by decide, rfl, Or.inr ⟨by decide, List.mem_of_getElem? (i := 227) (by decide +kernel)⟩⟩
set_option maxRecDepth 20000 in
theorem rF_ok_108 : rF (8, 179, 3, 10) := ⟨_, rfl, by decide, rfl, Or.inr ⟨by decide, List.mem_of_getElem? (i := 235) (by decide +kernel)⟩⟩
set_option maxRecDepth 20000 in
theorem rF_ok_109 : rF (8, 182, 6, 9) := ⟨_, rfl, by decide, rfl, Or.inr ⟨by decide, List.mem_of_getElem? (i := 92) (by decide +kernel)⟩⟩
set_option maxRecDepth 20000 in
theorem rF_ok_110 : rF (8, 192, 1, 3) := ⟨_, rfl, by decide, rfl, Or.inr ⟨by decide, List.mem_of_getElem? (i := 46) (by decide +kernel)⟩⟩
set_option maxRecDepth 20000 in
theorem rF_ok_111 : rF (8, 193, 6, 8) := ⟨_, rfl, by decide, rfl, Or.inr ⟨by decide, List.mem_of_getElem? (i := 88) (by decide +kernel)⟩⟩
set_option maxRecDepth 20000 in
theorem rF_ok_112 : rF (8, 196, 2, 5) := ⟨_, rfl, by decide, rfl, Or.inr ⟨by decide, List.mem_of_getElem? (i := 159) (by decide +kernel)⟩⟩
set_option maxRecDepth 20000 in
theorem rF_ok_113 : rF (8, 199, 2, 6) := ⟨_, rfl, by decide, rfl, Or.inr ⟨by decide, List.mem_of_getElem? (i := 161) (by decide +kernel)⟩⟩
set_option maxRecDepth 20000 in
theorem rF_ok_114 : rF (8, 208, 2, 9) := ⟨_, rfl, by decide, rfl, Or.inr ⟨by decide, List.mem_of_getElem? (i := 167) (by decide +kernel)⟩⟩
set_option maxRecDepth 20000 in
theorem rF_ok_115 : rF (8, 214, 2, 7) := ⟨_, rfl, by decide, rfl, Or.inr ⟨by decide, List.mem_of_getElem? (i := 163) (by decide +kernel)⟩⟩
set_option maxRecDepth 20000 in
theorem rF_ok_116 : rF (8, 237, 5, 3) := ⟨_, rfl, by decide, rfl, Or.inr ⟨by decide, List.mem_of_getElem? (i := 293) (by decide +kernel)⟩⟩
set_option maxRecDepth 20000 in
theorem rF_ok_117 : rF (8, 240, 5, 2) := ⟨_, rfl, by decide, rfl, Or.inr ⟨by decide, List.mem_of_getElem? (i := 291) (by decide +kernel)⟩⟩
set_option maxRecDepth 20000 in
theorem rF_ok_118 : rF (8, 243, 5, 4) := ⟨_, rfl, by decide, rfl, Or.inr ⟨by decide, List.mem_of_getElem? (i := 295) (by decide +kernel)⟩⟩
set_option maxRecDepth 20000 in
theorem rF_ok_119 : rF (8, 246, 5, 0) := ⟨_, rfl, by decide, rfl, Or.inr ⟨by decide, List.mem_of_getElem? (i := 287) (by decide +kernel)⟩⟩
set_option maxRecDepth 20000 in
theorem rF_ok_120 : rF (8, 252, 5, 1) := ⟨_, rfl, by decide, rfl, Or.inr ⟨by decide, List.mem_of_getElem? (i := 289) (by decide +kernel)⟩⟩
set_option maxRecDepth 20000 in
theorem rF_ok_121 : rF (8, 255, 4, 2) := ⟨_, rfl, by decide, rfl, Or.inr ⟨by decide, List.mem_of_getElem? (i := 201) (by decide +kernel)⟩⟩
set_option maxRecDepth 20000 in
theorem rF_ok_122 : rF (8, 256, 7, 1) := ⟨_, rfl, by decide, rfl, Or.inr ⟨by decide, List.mem_of_getElem? (i := 272) (by decide +kernel)⟩⟩
set_option maxRecDepth 20000 in
theorem rF_ok_123 : rF (8, 259, 2, 8) := ⟨_, rfl, by decide, rfl, Or.inr ⟨by decide, List.mem_of_getElem? (i := 165) (by decide +kernel)⟩⟩
set_option maxRecDepth 20000 in
theorem rF_ok_124 : rF (8, 262, 2, 4) := ⟨_, rfl, by decide, rfl, Or.inr ⟨by decide, List.mem_of_getElem? (i := 157) (by decide +kernel)⟩⟩
set_option maxRecDepth 20000 in
theorem rF_ok_125 : rF (9, 7, 9, 0) := ⟨_, rfl, by decide, rfl, Or.inl (List.mem_of_getElem? (i := 731) (by decide +kernel))⟩
set_option maxRecDepth 20000 in
theorem rF_ok_126 : rF (9, 13, 9, 1) := ⟨_, rfl, by decide, rfl, Or.inl (List.mem_of_getElem? (i := 732) (by decide +kernel))⟩
set_option maxRecDepth 20000 in
theorem rF_ok_127 : rF (9, 16, 9, 2) := ⟨_, rfl, by decide, rfl, Or.inl (List.mem_of_getElem? (i := 733) (by decide +kernel))⟩
set_option maxRecDepth 20000 in
theorem rF_ok_128 : rF (9, 19, 9, 3) := ⟨_, rfl, by decide, rfl, Or.inl (List.mem_of_getElem? (i := 734) (by decide +kernel))⟩
set_option maxRecDepth 20000 in
theorem rF_ok_129 : rF (9, 22, 9, 5) := ⟨_, rfl, by decide, rfl, Or.inl (List.mem_of_getElem? (i := 736) (by decide +kernel))⟩
set_option maxRecDepth 20000 in
theorem rF_ok_130 : rF (9, 25, 9, 7) := ⟨_, rfl, by decide, rfl, Or.inl (List.mem_of_getElem? (i := 738) (by decide +kernel))⟩
set_option maxRecDepth 20000 in
theorem rF_ok_131 : rF (9, 28, 9, 8) := ⟨_, rfl, by decide, rfl, Or.inl (List.mem_of_getElem? (i := 739) (by decide +kernel))⟩
set_option maxRecDepth 20000 in
theorem rF_ok_132 : rF (9, 31, 9, 9) := ⟨_, rfl, by decide, rfl, Or.inl (List.mem_of_getElem? (i := 740) (by decide +kernel))⟩
set_option maxRecDepth 20000 in
theorem rF_ok_133 : rF (9, 34, 9, 10) := ⟨_, rfl, by decide, rfl, Or.inl (List.mem_of_getElem? (i := 741) (by decide +kernel))⟩
set_option maxRecDepth 20000 in
theorem rF_ok_134 : rF (9, 37, 9, 11) := ⟨_, rfl, by decide, rfl, Or.inl (List.mem_of_getElem? (i := 742) (by decide +kernel))⟩
set_option maxRecDepth 20000 in
theorem rF_ok_135 : rF (9, 40, 9, 13) := ⟨_, rfl, by decide, rfl, Or.inl (List.mem_of_getElem? (i := 744) (by decide +kernel))⟩
set_option maxRecDepth 20000 in
theorem rF_ok_136 : rF (9, 43, 9, 4) := ⟨_, rfl, by decide, rfl, Or.inl (List.mem_of_getElem? (i := 735) (by decide +kernel))⟩
set_option maxRecDepth 20000 in
theorem rF_ok_137 : rF (9, 66, 9, 12) := ⟨_, rfl, by decide, rfl, Or.inl (List.mem_of_getElem? (i := 743) (by decide +kernel))⟩
set_option maxRecDepth 20000 in
theorem rF_ok_138 : rF (9, 172, 9, 6) := ⟨_, rfl, by decide, rfl, Or.inl (List.mem_of_getElem? (i := 737) (by decide +kernel))⟩
set_option maxRecDepth 20000 in
theorem rF_ok_139 : rF (9, 175, 9, 14) := ⟨_, rfl, by decide, rfl, Or.inl (List.mem_of_getElem? (i := 745) (by decide +kernel))⟩
set_option maxRecDepth 20000 in
theorem rF_ok_140 : rF (9, 178, 9, 16) := ⟨_, rfl, by decide, rfl, Or.inl (List.mem_of_getElem? (i := 747) (by decide +kernel))⟩
set_option maxRecDepth 20000 in
theorem rF_ok_141 : rF (9, 185, 9, 15) := ⟨_, rfl, by decide, rfl, Or.inl (List.mem_of_getElem? (i := 746) (by decide +kernel))⟩
set_option maxRecDepth 20000 in
theorem rF_ok_142 : rF (9, 188, 9, 17) := ⟨_, rfl, by decide, rfl, Or.inl (List.mem_of_getElem? (i := 748) (by decide +kernel))⟩
set_option maxRecDepth 20000 in
theorem rF_ok_143 : rF (9, 198, 9, 18) := ⟨_, rfl, by decide, rfl, Or.inl (List.mem_of_getElem? (i := 749) (by decide +kernel))⟩
set_option maxRecDepth 20000 in
theorem rF_ok_144 : rF (9, 201, 9, 19) := ⟨_, rfl, by decide, rfl, Or.inl (List.mem_of_getElem? (i := 750) (by decide +kernel))⟩
set_option maxRecDepth 20000 in
theorem rF_ok_145 : rF (9, 204, 9, 20) := ⟨_, rfl, by decide, rfl, Or.inl (List.mem_of_getElem? (i := 751) (by decide +kernel))⟩
set_option maxRecDepth 20000 in
theorem rF_ok_146 : rF (9, 213, 9, 21) := ⟨_, rfl, by decide, rfl, Or.inl (List.mem_of_getElem? (i := 752) (by decide +kernel))⟩
set_option maxRecDepth 100000 in
theorem rF_ok : ∀ q ∈ resF, rF q := List.forall_mem_cons.mpr ⟨rF_ok_0, List.forall_mem_cons.mpr ⟨rF_ok_1, List.forall_mem_cons.mpr ⟨rF_ok_2, List.forall_mem_cons.mpr ⟨rF_ok_3, List.forall_mem_cons.mpr ⟨rF_ok_4, List.forall_mem_cons.mpr ⟨rF_ok_5, List.forall_mem_cons.mpr ⟨rF_ok_6, List.forall_mem_cons.mpr ⟨rF_ok_7, List.forall_mem_cons.mpr ⟨rF_ok_8, List.forall_mem_cons.mpr ⟨rF_ok_9, List.forall_mem_cons.mpr ⟨rF_ok_10, List.forall_mem_cons.mpr ⟨rF_ok_11, List.forall_mem_cons.mpr ⟨rF_ok_12, List.forall_mem_cons.mpr ⟨rF_ok_13, List.forall_mem_cons.mpr ⟨rF_ok_14, List.forall_mem_cons.mpr ⟨rF_ok_15, List.forall_mem_cons.mpr ⟨rF_ok_16, List.forall_mem_cons.mpr ⟨rF_ok_17, List.forall_mem_cons.mpr ⟨rF_ok_18, List.forall_mem_cons.mpr ⟨rF_ok_19, List.forall_mem_cons.mpr ⟨rF_ok_20, List.forall_mem_cons.mpr ⟨rF_ok_21, List.forall_mem_cons.mpr ⟨rF_ok_22, List.forall_mem_cons.mpr ⟨rF_ok_23, List.forall_mem_cons.mpr ⟨rF_ok_24, List.forall_mem_cons.mpr ⟨rF_ok_25, List.forall_mem_cons.mpr ⟨rF_ok_26, List.forall_mem_cons.mpr ⟨rF_ok_27, List.forall_mem_cons.mpr ⟨rF_ok_28, List.forall_mem_cons.mpr ⟨rF_ok_29, List.forall_mem_cons.mpr ⟨rF_ok_30, List.forall_mem_cons.mpr ⟨rF_ok_31, List.forall_mem_cons.mpr ⟨rF_ok_32, List.forall_mem_cons.mpr ⟨rF_ok_33, List.forall_mem_cons.mpr ⟨rF_ok_34, List.forall_mem_cons.mpr ⟨rF_ok_35, List.forall_mem_cons.mpr ⟨rF_ok_36, List.forall_mem_cons.mpr ⟨rF_ok_37, List.forall_mem_cons.mpr ⟨rF_ok_38, List.forall_mem_cons.mpr ⟨rF_ok_39, List.forall_mem_cons.mpr ⟨rF_ok_40, List.forall_mem_cons.mpr ⟨rF_ok_41, List.forall_mem_cons.mpr ⟨rF_ok_42, List.forall_mem_cons.mpr ⟨rF_ok_43, List.forall_mem_cons.mpr ⟨rF_ok_44, List.forall_mem_cons.mpr ⟨rF_ok_45, List.forall_mem_cons.mpr ⟨rF_ok_46, List.forall_mem_cons.mpr ⟨rF_ok_47, List.forall_mem_cons.mpr ⟨rF_ok_48, List.forall_mem_cons.mpr ⟨rF_ok_49, List.forall_mem_cons.mpr ⟨rF_ok_50, List.forall_mem_cons.mpr ⟨rF_ok_51, List.forall_mem_cons.mpr ⟨rF_ok_52, List.forall_mem_cons.mpr ⟨rF_ok_53, List.forall_mem_cons.mpr ⟨rF_ok_54, List.forall_mem_cons.mpr ⟨rF_ok_55, List.forall_mem_cons.mpr ⟨rF_ok_56, List.forall_mem_cons.mpr ⟨rF_ok_57, List.forall_mem_cons.mpr ⟨rF_ok_58, List.forall_mem_cons.mpr ⟨rF_ok_59, List.forall_mem_cons.mpr ⟨rF_ok_60, List.forall_mem_cons.mpr ⟨rF_ok_61, List.forall_mem_cons.mpr ⟨rF_ok_62, List.forall_mem_cons.mpr ⟨rF_ok_63, List.forall_mem_cons.mpr ⟨rF_ok_64, List.forall_mem_cons.mpr ⟨rF_ok_65, List.forall_mem_cons.mpr ⟨rF_ok_66, List.forall_mem_cons.mpr ⟨rF_ok_67, List.forall_mem_cons.mpr ⟨rF_ok_68, List.forall_mem_cons.mpr ⟨rF_ok_69, List.forall_mem_cons.mpr ⟨rF_ok_70, List.forall_mem_cons.mpr ⟨rF_ok_71, List.forall_mem_cons.mpr ⟨rF_ok_72, List.forall_mem_cons.mpr ⟨rF_ok_73, List.forall_mem_cons.mpr ⟨rF_ok_74, List.forall_mem_cons.mpr ⟨rF_ok_75, List.forall_mem_cons.mpr ⟨rF_ok_76, List.forall_mem_cons.mpr ⟨rF_ok_77, List.forall_mem_cons.mpr ⟨rF_ok_78, List.forall_mem_cons.mpr ⟨rF_ok_79, List.forall_mem_cons.mpr ⟨rF_ok_80, List.forall_mem_cons.mpr ⟨rF_ok_81, List.forall_mem_cons.mpr ⟨rF_ok_82, List.forall_mem_cons.mpr ⟨rF_ok_83, List.forall_mem_cons.mpr ⟨rF_ok_84, List.forall_mem_cons.mpr ⟨rF_ok_85, List.forall_mem_cons.mpr ⟨rF_ok_86, List.forall_mem_cons.mpr ⟨rF_ok_87, List.forall_mem_cons.mpr ⟨rF_ok_88, List.forall_mem_cons.mpr ⟨rF_ok_89, List.forall_mem_cons.mpr ⟨rF_ok_90, List.forall_mem_cons.mpr ⟨rF_ok_91, List.forall_mem_cons.mpr ⟨rF_ok_92, List.forall_mem_cons.mpr ⟨rF_ok_93, List.forall_mem_cons.mpr ⟨rF_ok_94, List.forall_mem_cons.mpr ⟨rF_ok_95, List.forall_mem_cons.mpr ⟨rF_ok_96, List.forall_mem_cons.mpr ⟨rF_ok_97, List.forall_mem_cons.mpr ⟨rF_ok_98, List.forall_mem_cons.mpr ⟨rF_ok_99, List.forall_mem_cons.mpr ⟨rF_ok_100, List.forall_mem_cons.mpr ⟨rF_ok_101, List.forall_mem_cons.mpr ⟨rF_ok_102, List.forall_mem_cons.mpr ⟨rF_ok_103, List.forall_mem_cons.mpr ⟨rF_ok_104, List.forall_mem_cons.mpr ⟨rF_ok_105, List.forall_mem_cons.mpr ⟨rF_ok_106, List.forall_mem_cons.mpr ⟨rF_ok_107, List.forall_mem_cons.mpr ⟨rF_ok_108, List.forall_mem_cons.mpr ⟨rF_ok_109, List.forall_mem_cons.mpr ⟨rF_ok_110, List.forall_mem_cons.mpr ⟨rF_ok_111, List.forall_mem_cons.mpr ⟨rF_ok_112, List.forall_mem_cons.mpr ⟨rF_ok_113, List.forall_mem_cons.mpr ⟨rF_ok_114, List.forall_mem_cons.mpr ⟨rF_ok_115, List.forall_mem_cons.mpr ⟨rF_ok_116, List.forall_mem_cons.mpr ⟨rF_ok_117, List.forall_mem_cons.mpr ⟨rF_ok_118, List.forall_mem_cons.mpr ⟨rF_ok_119, List.forall_mem_cons.mpr ⟨rF_ok_120, List.forall_mem_cons.mpr ⟨rF_ok_121, List.forall_mem_cons.mpr ⟨rF_ok_122, List.forall_mem_cons.mpr ⟨rF_ok_123, List.forall_mem_cons.mpr ⟨rF_ok_124, List.forall_mem_cons.mpr ⟨rF_ok_125, List.forall_mem_cons.mpr ⟨rF_ok_126, List.forall_mem_cons.mpr ⟨rF_ok_127, List.forall_mem_cons.mpr ⟨rF_ok_128, List.forall_mem_cons.mpr ⟨rF_ok_129, List.forall_mem_cons.mpr ⟨rF_ok_130, List.forall_mem_cons.mpr ⟨rF_ok_131, List.forall_mem_cons.mpr ⟨rF_ok_132, List.forall_mem_cons.mpr ⟨rF_ok_133, List.forall_mem_cons.mpr ⟨rF_ok_134, List.forall_mem_cons.mpr ⟨rF_ok_135, List.forall_mem_cons.mpr ⟨rF_ok_136, List.forall_mem_cons.mpr ⟨rF_ok_137, List.forall_mem_cons.mpr ⟨rF_ok_138, List.forall_mem_cons.mpr ⟨rF_ok_139, List.forall_mem_cons.mpr ⟨rF_ok_140, List.forall_mem_cons.mpr ⟨rF_ok_141, List.forall_mem_cons.mpr ⟨rF_ok_142, List.forall_mem_cons.mpr ⟨rF_ok_143, List.forall_mem_cons.mpr ⟨rF_ok_144, List.forall_mem_cons.mpr ⟨rF_ok_145, List.forall_mem_cons.mpr ⟨rF_ok_146, fun _ h => absurd h List.not_mem_nil⟩⟩⟩⟩⟩⟩⟩⟩⟩⟩⟩⟩⟩⟩⟩⟩⟩⟩⟩⟩⟩⟩⟩⟩⟩⟩⟩⟩⟩⟩⟩⟩⟩⟩⟩⟩⟩⟩⟩⟩⟩⟩⟩⟩⟩⟩⟩⟩⟩⟩⟩⟩⟩⟩⟩⟩⟩⟩⟩⟩⟩⟩⟩⟩⟩⟩⟩⟩⟩⟩⟩⟩⟩⟩⟩⟩⟩⟩⟩⟩⟩⟩⟩⟩⟩⟩⟩⟩⟩⟩⟩⟩⟩⟩⟩⟩⟩⟩⟩⟩⟩⟩⟩⟩⟩⟩⟩⟩⟩⟩⟩⟩⟩⟩⟩⟩⟩⟩⟩⟩⟩⟩⟩⟩⟩⟩⟩⟩⟩⟩⟩⟩⟩⟩⟩⟩⟩⟩⟩⟩⟩⟩⟩⟩⟩⟩⟩
set_option maxRecDepth 20000 in
theorem rM_ok_0 : rM (0, 3, 1000, 0) := Or.inr (Or.inl ⟨rfl, List.mem_of_getElem? (i := 119) (by decide +kernel)⟩)
set_option maxRecDepth 20000 in
theorem rM_ok_1 : rM (0, 27, 1001, 0) := Or.inr (Or.inr (Or.inl ⟨rfl, List.mem_of_getElem? (i := 363) (by decide +kernel)⟩))
set_option maxRecDepth 20000 in
theorem rM_ok_2 : rM (0, 40, 163, 2) := Or.inl ⟨_, rfl, rfl, Or.inl (List.mem_of_getElem? (i := 543) (by decide +kernel))⟩
set_option maxRecDepth 20000 in
theorem rM_ok_3 : rM (1, 3, 1000, 0) := Or.inr (Or.inl ⟨rfl, List.mem_of_getElem? (i := 34) (by decide +kernel)⟩)
set_option maxRecDepth 20000 in
theorem rM_ok_4 : rM (1, 21, 1001, 0) := Or.inr (Or.inr (Or.inl ⟨rfl, List.mem_of_getElem? (i := 351) (by decide +kernel)⟩))
set_option maxRecDepth 20000 in
theorem rM_ok_5 : rM (1, 32, 12, 0) := Or.inl ⟨_, rfl, rfl, Or.inl (List.mem_of_getElem? (i := 555) (by decide +kernel))⟩
set_option maxRecDepth 20000 in
theorem rM_ok_6 : rM (1, 36, 13, 1) := Or.inl ⟨_, rfl, rfl, Or.inl (List.mem_of_getElem? (i := 559) (by decide +kernel))⟩
set_option maxRecDepth 20000 in
theorem rM_ok_7 : rM (2, 3, 1000, 0) := Or.inr (Or.inl ⟨rfl, List.mem_of_getElem? (i := 28) (by decide +kernel)⟩)
set_option maxRecDepth 20000 in
theorem rM_ok_8 : rM (2, 11, 4, 0) := Or.inl ⟨_, rfl, rfl, Or.inr (List.mem_of_getElem? (i := 31) (by decide +kernel))⟩
set_option maxRecDepth 20000 in
theorem rM_ok_9 : rM (2, 20, 49, 0) := Or.inl ⟨_, rfl, rfl, Or.inr (List.mem_of_getElem? (i := 59) (by decide +kernel))⟩
set_option maxRecDepth 20000 in
theorem rM_ok_10 : rM (2, 27, 0, 0) := Or.inl ⟨_, rfl, rfl, Or.inr (List.mem_of_getElem? (i := 116) (by decide +kernel))⟩
set_option maxRecDepth 20000 in
theorem rM_ok_11 : rM (2, 39, 5, 1) := Or.inl ⟨_, rfl, rfl, Or.inl (List.mem_of_getElem? (i := 347) (by decide +kernel))⟩
set_option maxRecDepth 20000 in
theorem rM_ok_12 : rM (2, 43, 50, 1) := Or.inl ⟨_, rfl, rfl, Or.inl (List.mem_of_getElem? (i := 354) (by decide +kernel))⟩
set_option maxRecDepth 20000 in
theorem rM_ok_13 : rM (2, 46, 1, 1) := Or.inl ⟨_, rfl, rfl, Or.inl (List.mem_of_getElem? (i := 359) (by decide +kernel))⟩
set_option maxRecDepth 20000 in
theorem rM_ok_14 : rM (2, 64, 93, 3) := Or.inl ⟨_, rfl, rfl, Or.inr (List.mem_of_getElem? (i := 368) (by decide +kernel))⟩
set_option maxRecDepth 20000 in
theorem rM_ok_15 : rM (2, 69, 7, 1) := Or.inl ⟨_, rfl, rfl, Or.inl (List.mem_of_getElem? (i := 372) (by decide +kernel))⟩
set_option maxRecDepth 20000 in
theorem rM_ok_16 : rM (2, 74, 54, 2) := Or.inl ⟨_, rfl, rfl, Or.inl (List.mem_of_getElem? (i := 393) (by decide +kernel))⟩
set_option maxRecDepth 20000 in
theorem rM_ok_17 : rM (2, 77, 6, 1) := Or.inl ⟨_, rfl, rfl, Or.inl (List.mem_of_getElem? (i := 406) (by decide +kernel))⟩
set_option maxRecDepth 20000 in
theorem rM_ok_18 : rM (2, 85, 51, 1) := Or.inl ⟨_, rfl, rfl, Or.inl (List.mem_of_getElem? (i := 418) (by decide +kernel))⟩
set_option maxRecDepth 20000 in
theorem rM_ok_19 : rM (2, 92, 58, 0) := Or.inl ⟨_, rfl, rfl, Or.inl (List.mem_of_getElem? (i := 430) (by decide +kernel))⟩
set_option maxRecDepth 20000 in
theorem rM_ok_20 : rM (2, 99, 9, 0) := Or.inl ⟨_, rfl, rfl, Or.inl (List.mem_of_getElem? (i := 440) (by decide +kernel))⟩
set_option maxRecDepth 20000 in
theorem rM_ok_21 : rM (2, 102, 55, 1) := Or.inl ⟨_, rfl, rfl, Or.inl (List.mem_of_getElem? (i := 444) (by decide +kernel))⟩
set_option maxRecDepth 20000 in
theorem rM_ok_22 : rM (2, 106, 56, 2) := Or.inl ⟨_, rfl, rfl, Or.inl (List.mem_of_getElem? (i := 465) (by decide +kernel))⟩
set_option maxRecDepth 20000 in
theorem rM_ok_23 : rM (2, 110, 29, 3) := Or.inl ⟨_, rfl, rfl, Or.inl (List.mem_of_getElem? (i := 477) (by decide +kernel))⟩
set_option maxRecDepth 20000 in
theorem rM_ok_24 : rM (2, 117, 25, 1) := Or.inl ⟨_, rfl, rfl, Or.inl (List.mem_of_getElem? (i := 522) (by decide +kernel))⟩
set_option maxRecDepth 20000 in
theorem rM_ok_25 : rM (2, 121, 26, 1) := Or.inl ⟨_, rfl, rfl, Or.inl (List.mem_of_getElem? (i := 531) (by decide +kernel))⟩
set_option maxRecDepth 20000 in
theorem rM_ok_26 : rM (2, 124, 27, 0) := Or.inl ⟨_, rfl, rfl, Or.inl (List.mem_of_getElem? (i := 544) (by decide +kernel))⟩
set_option maxRecDepth 20000 in
theorem rM_ok_27 : rM (2, 130, 16, 1) := Or.inl ⟨_, rfl, rfl, Or.inl (List.mem_of_getElem? (i := 711) (by decide +kernel))⟩
set_option maxRecDepth 20000 in
theorem rM_ok_28 : rM (2, 133, 17, 2) := Or.inl ⟨_, rfl, rfl, Or.inl (List.mem_of_getElem? (i := 712) (by decide +kernel))⟩
set_option maxRecDepth 20000 in
theorem rM_ok_29 : rM (2, 136, 21, 1) := Or.inl ⟨_, rfl, rfl, Or.inl (List.mem_of_getElem? (i := 713) (by decide +kernel))⟩
set_option maxRecDepth 20000 in
theorem rM_ok_30 : rM (2, 138, 20, 0) := Or.inl ⟨_, rfl, rfl, Or.inl (List.mem_of_getElem? (i := 714) (by decide +kernel))⟩
set_option maxRecDepth 20000 in
theorem rM_ok_31 : rM (2, 141, 22, 1) := Or.inl ⟨_, rfl, rfl, Or.inl (List.mem_of_getElem? (i := 715) (by decide +kernel))⟩
set_option maxRecDepth 20000 in
theorem rM_ok_32 : rM (2, 146, 52, 1) := Or.inl ⟨_, rfl, rfl, Or.inl (List.mem_of_getElem? (i := 526) (by decide +kernel))⟩
set_option maxRecDepth 20000 in
theorem rM_ok_33 : rM (2, 162, 57, 2) := Or.inl ⟨_, rfl, rfl, Or.inl (List.mem_of_getElem? (i := 527) (by decide +kernel))⟩
set_option maxRecDepth 20000 in
theorem rM_ok_34 : rM (2, 175, 10, 2) := Or.inl ⟨_, rfl, rfl, Or.inl (List.mem_of_getElem? (i := 535) (by decide +kernel))⟩
set_option maxRecDepth 20000 in
theorem rM_ok_35 : rM (2, 177, 2, 5) := Or.inl ⟨_, rfl, rfl, Or.inl (List.mem_of_getElem? (i := 539) (by decide +kernel))⟩
set_option maxRecDepth 20000 in
theorem rM_ok_36 : rM (2, 181, 162, 2) := Or.inl ⟨_, rfl, rfl, Or.inl (List.mem_of_getElem? (i := 548) (by decide +kernel))⟩
set_option maxRecDepth 20000 in
theorem rM_ok_37 : rM (2, 186, 11, 1) := Or.inl ⟨_, rfl, rfl, Or.inl (List.mem_of_getElem? (i := 551) (by decide +kernel))⟩
set_option maxRecDepth 20000 in
theorem rM_ok_38 : rM (3, 3, 1000, 0) := Or.inr (Or.inl ⟨rfl, List.mem_of_getElem? (i := 214) (by decide +kernel)⟩)
set_option maxRecDepth 20000 in
theorem rM_ok_39 : rM (3, 39, 30, 3) := Or.inl ⟨_, rfl, rfl, Or.inl (List.mem_of_getElem? (i := 481) (by decide +kernel))⟩
set_option maxRecDepth 20000 in
theorem rM_ok_40 : rM (3, 50, 32, 2) := Or.inl ⟨_, rfl, rfl, Or.inl (List.mem_of_getElem? (i := 486) (by decide +kernel))⟩
set_option maxRecDepth 20000 in
theorem rM_ok_41 : rM (3, 54, 33, 2) := Or.inl ⟨_, rfl, rfl, Or.inl (List.mem_of_getElem? (i := 498) (by decide +kernel))⟩
set_option maxRecDepth 20000 in
theorem rM_ok_42 : rM (3, 57, 34, 2) := Or.inl ⟨_, rfl, rfl, Or.inl (List.mem_of_getElem? (i := 502) (by decide +kernel))⟩
set_option maxRecDepth 20000 in
theorem rM_ok_43 : rM (3, 60, 36, 1) := Or.inl ⟨_, rfl, rfl, Or.inl (List.mem_of_getElem? (i := 510) (by decide +kernel))⟩
set_option maxRecDepth 20000 in
theorem rM_ok_44 : rM (3, 64, 37, 2) := Or.inl ⟨_, rfl, rfl, Or.inl (List.mem_of_getElem? (i := 514) (by decide +kernel))⟩
set_option maxRecDepth 20000 in
theorem rM_ok_45 : rM (3, 82, 8, 2) := Or.inl ⟨_, rfl, rfl, Or.inl (List.mem_of_getElem? (i := 485) (by decide +kernel))⟩
set_option maxRecDepth 20000 in
theorem rM_ok_46 : rM (3, 89, 31, 1) := Or.inl ⟨_, rfl, rfl, Or.inl (List.mem_of_getElem? (i := 490) (by decide +kernel))⟩
set_option maxRecDepth 20000 in
theorem rM_ok_47 : rM (3, 93, 38, 1) := Or.inl ⟨_, rfl, rfl, Or.inl (List.mem_of_getElem? (i := 494) (by decide +kernel))⟩
set_option maxRecDepth 20000 in
theorem rM_ok_48 : rM (3, 97, 35, 2) := Or.inl ⟨_, rfl, rfl, Or.inl (List.mem_of_getElem? (i := 506) (by decide +kernel))⟩
set_option maxRecDepth 20000 in
theorem rM_ok_49 : rM (3, 104, 53, 2) := Or.inl ⟨_, rfl, rfl, Or.inl (List.mem_of_getElem? (i := 518) (by decide +kernel))⟩
set_option maxRecDepth 20000 in
theorem rM_ok_50 : rM (4, 3, 1000, 0) := Or.inr (Or.inl ⟨rfl, List.mem_of_getElem? (i := 194) (by decide +kernel)⟩)
set_option maxRecDepth 20000 in
theorem rM_ok_51 : rM (4, 17, 14, 0) := Or.inl ⟨_, rfl, rfl, Or.inr (List.mem_of_getElem? (i := 197) (by decide +kernel))⟩
set_option maxRecDepth 20000 in
theorem rM_ok_52 : rM (4, 22, 15, 1) := Or.inl ⟨_, rfl, rfl, Or.inl (List.mem_of_getElem? (i := 343) (by decide +kernel))⟩
set_option maxRecDepth 20000 in
theorem rM_ok_53 : rM (4, 29, 163, 2) := Or.inl ⟨_, rfl, rfl, Or.inl (List.mem_of_getElem? (i := 382) (by decide +kernel))⟩
set_option maxRecDepth 20000 in
theorem rM_ok_54 : rM (5, 3, 1000, 0) := Or.inr (Or.inl ⟨rfl, List.mem_of_getElem? (i := 283) (by decide +kernel)⟩)
set_option maxRecDepth 20000 in
theorem rM_ok_55 : rM (5, 11, 14, 0) := Or.inl ⟨_, rfl, rfl, Or.inr (List.mem_of_getElem? (i := 285) (by decide +kernel))⟩
set_option maxRecDepth 20000 in
theorem rM_ok_56 : rM (5, 18, 15, 1) := Or.inl ⟨_, rfl, rfl, Or.inl (List.mem_of_getElem? (i := 688) (by decide +kernel))⟩
set_option maxRecDepth 20000 in
theorem rM_ok_57 : rM (5, 40, 46, 1) := Or.inl ⟨_, rfl, rfl, Or.inl (List.mem_of_getElem? (i := 689) (by decide +kernel))⟩
set_option maxRecDepth 20000 in
theorem rM_ok_58 : rM (5, 56, 24, 4) := Or.inl ⟨_, rfl, rfl, Or.inl (List.mem_of_getElem? (i := 707) (by decide +kernel))⟩
set_option maxRecDepth 20000 in
theorem rM_ok_59 : rM (5, 60, 45, 1) := Or.inl ⟨_, rfl, rfl, Or.inl (List.mem_of_getElem? (i := 716) (by decide +kernel))⟩
set_option maxRecDepth 20000 in
theorem rM_ok_60 : rM (5, 64, 67, 1) := Or.inl ⟨_, rfl, rfl, Or.inl (List.mem_of_getElem? (i := 693) (by decide +kernel))⟩
set_option maxRecDepth 20000 in
theorem rM_ok_61 : rM (5, 68, 48, 1) := Or.inl ⟨_, rfl, rfl, Or.inl (List.mem_of_getElem? (i := 697) (by decide +kernel))⟩
set_option maxRecDepth 20000 in
theorem rM_ok_62 : rM (5, 72, 47, 2) := Or.inl ⟨_, rfl, rfl, Or.inl (List.mem_of_getElem? (i := 703) (by decide +kernel))⟩
set_option maxRecDepth 20000 in
theorem rM_ok_63 : rM (5, 76, 93, 3) := Or.inl ⟨_, rfl, rfl, Or.inr (List.mem_of_getElem? (i := 701) (by decide +kernel))⟩
set_option maxRecDepth 20000 in
theorem rM_ok_64 : rM (5, 80, 162, 2) := Or.inl ⟨_, rfl, rfl, Or.inl (List.mem_of_getElem? (i := 702) (by decide +kernel))⟩
set_option maxRecDepth 20000 in
theorem rM_ok_65 : rM (6, 3, 1000, 0) := Or.inr (Or.inl ⟨rfl, List.mem_of_getElem? (i := 62) (by decide +kernel)⟩)
set_option maxRecDepth 20000 in
theorem rM_ok_66 : rM (6, 36, 1001, 0) := Or.inr (Or.inr (Or.inl ⟨rfl, List.mem_of_getElem? (i := 358) (by decide +kernel)⟩))
set_option maxRecDepth 20000 in
theorem rM_ok_67 : rM (6, 50, 52, 1) := Or.inl ⟨_, rfl, rfl, Or.inl (List.mem_of_getElem? (i := 448) (by decide +kernel))⟩
set_option maxRecDepth 20000 in
theorem rM_ok_68 : rM (6, 54, 8, 2) := Or.inl ⟨_, rfl, rfl, Or.inl (List.mem_of_getElem? (i := 452) (by decide +kernel))⟩
set_option maxRecDepth 20000 in
theorem rM_ok_69 : rM (6, 60, 161, 1) := Or.inl ⟨_, rfl, rfl, Or.inl (List.mem_of_getElem? (i := 434) (by decide +kernel))⟩
set_option maxRecDepth 20000 in
theorem rM_ok_70 : rM (6, 67, 63, 1) := Or.inl ⟨_, rfl, rfl, Or.inl (List.mem_of_getElem? (i := 622) (by decide +kernel))⟩
set_option maxRecDepth 20000 in
theorem rM_ok_71 : rM (7, 3, 1000, 0) := Or.inr (Or.inl ⟨rfl, List.mem_of_getElem? (i := 268) (by decide +kernel)⟩)
set_option maxRecDepth 20000 in
theorem rM_ok_72 : rM (7, 15, 93, 3) := Or.inl ⟨_, rfl, rfl, Or.inr (List.mem_of_getElem? (i := 669) (by decide +kernel))⟩
set_option maxRecDepth 20000 in
theorem rM_ok_73 : rM (8, 1, 1000, 0) := Or.inr (Or.inl ⟨rfl, List.mem_of_getElem? (i := 20) (by decide +kernel)⟩)
set_option maxRecDepth 20000 in
theorem rM_ok_74 : rM (8, 9, 14, 0) := Or.inl ⟨_, rfl, rfl, Or.inr (List.mem_of_getElem? (i := 25) (by decide +kernel))⟩
set_option maxRecDepth 20000 in
theorem rM_ok_75 : rM (8, 18, 39, 0) := Or.inl ⟨_, rfl, rfl, Or.inl (List.mem_of_getElem? (i := 191) (by decide +kernel))⟩
set_option maxRecDepth 20000 in
theorem rM_ok_76 : rM (8, 25, 28, 0) := Or.inl ⟨_, rfl, rfl, Or.inr (List.mem_of_getElem? (i := 211) (by decide +kernel))⟩
set_option maxRecDepth 20000 in
theorem rM_ok_77 : rM (8, 32, 64, 0) := Or.inl ⟨_, rfl, rfl, Or.inr (List.mem_of_getElem? (i := 265) (by decide +kernel))⟩
set_option maxRecDepth 20000 in
theorem rM_ok_78 : rM (8, 39, 43, 0) := Or.inl ⟨_, rfl, rfl, Or.inr (List.mem_of_getElem? (i := 280) (by decide +kernel))⟩
set_option maxRecDepth 20000 in
theorem rM_ok_79 : rM (8, 44, 40, 1) := Or.inl ⟨_, rfl, rfl, Or.inl (List.mem_of_getElem? (i := 339) (by decide +kernel))⟩
set_option maxRecDepth 20000 in
theorem rM_ok_80 : rM (8, 48, 16, 1) := Or.inl ⟨_, rfl, rfl, Or.inl (List.mem_of_getElem? (i := 364) (by decide +kernel))⟩
set_option maxRecDepth 20000 in
theorem rM_ok_81 : rM (8, 52, 41, 1) := Or.inl ⟨_, rfl, rfl, Or.inl (List.mem_of_getElem? (i := 378) (by decide +kernel))⟩
set_option maxRecDepth 20000 in
theorem rM_ok_82 : rM (8, 55, 17, 2) := Or.inl ⟨_, rfl, rfl, Or.inl (List.mem_of_getElem? (i := 389) (by decide +kernel))⟩
set_option maxRecDepth 20000 in
theorem rM_ok_83 : rM (8, 59, 18, 2) := Or.inl ⟨_, rfl, rfl, Or.inl (List.mem_of_getElem? (i := 402) (by decide +kernel))⟩
set_option maxRecDepth 20000 in
theorem rM_ok_84 : rM (8, 62, 19, 3) := Or.inl ⟨_, rfl, rfl, Or.inl (List.mem_of_getElem? (i := 414) (by decide +kernel))⟩
set_option maxRecDepth 20000 in
theorem rM_ok_85 : rM (8, 66, 20, 0) := Or.inl ⟨_, rfl, rfl, Or.inl (List.mem_of_getElem? (i := 426) (by decide +kernel))⟩
set_option maxRecDepth 20000 in
theorem rM_ok_86 : rM (8, 70, 21, 1) := Or.inl ⟨_, rfl, rfl, Or.inl (List.mem_of_getElem? (i := 460) (by decide +kernel))⟩
set_option maxRecDepth 20000 in
theorem rM_ok_87 : rM (8, 73, 22, 1) := Or.inl ⟨_, rfl, rfl, Or.inl (List.mem_of_getElem? (i := 473) (by decide +kernel))⟩
set_option maxRecDepth 20000 in
theorem rM_ok_88 : rM (8, 77, 23, 2) := Or.inl ⟨_, rfl, rfl, Or.inl (List.mem_of_getElem? (i := 567) (by decide +kernel))⟩
set_option maxRecDepth 20000 in
theorem rM_ok_89 : rM (8, 84, 6, 1) := Or.inl ⟨_, rfl, rfl, Or.inl (List.mem_of_getElem? (i := 575) (by decide +kernel))⟩
set_option maxRecDepth 20000 in
theorem rM_ok_90 : rM (8, 101, 92, 2) := Or.inl ⟨_, rfl, rfl, Or.inl (List.mem_of_getElem? (i := 577) (by decide +kernel))⟩
set_option maxRecDepth 20000 in
theorem rM_ok_91 : rM (8, 109, 51, 1) := Or.inl ⟨_, rfl, rfl, Or.inl (List.mem_of_getElem? (i := 585) (by decide +kernel))⟩
set_option maxRecDepth 20000 in
theorem rM_ok_92 : rM (8, 112, 52, 1) := Or.inl ⟨_, rfl, rfl, Or.inl (List.mem_of_getElem? (i := 586) (by decide +kernel))⟩
set_option maxRecDepth 20000 in
theorem rM_ok_93 : rM (8, 141, 53, 2) := Or.inl ⟨_, rfl, rfl, Or.inl (List.mem_of_getElem? (i := 591) (by decide +kernel))⟩
set_option maxRecDepth 20000 in
theorem rM_ok_94 : rM (8, 155, 3, 1) := Or.inl ⟨_, rfl, rfl, Or.inl (List.mem_of_getElem? (i := 596) (by decide +kernel))⟩
set_option maxRecDepth 20000 in
theorem rM_ok_95 : rM (8, 170, 29, 3) := Or.inl ⟨_, rfl, rfl, Or.inl (List.mem_of_getElem? (i := 605) (by decide +kernel))⟩
set_option maxRecDepth 20000 in
theorem rM_ok_96 : rM (8, 185, 61, 0) := Or.inl ⟨_, rfl, rfl, Or.inl (List.mem_of_getElem? (i := 618) (by decide +kernel))⟩
set_option maxRecDepth 20000 in
theorem rM_ok_97 : rM (8, 188, 94, 1) := Or.inl ⟨_, rfl, rfl, Or.inl (List.mem_of_getElem? (i := 626) (by decide +kernel))⟩
set_option maxRecDepth 20000 in
theorem rM_ok_98 : rM (8, 202, 60, 0) := Or.inl ⟨_, rfl, rfl, Or.inl (List.mem_of_getElem? (i := 634) (by decide +kernel))⟩
set_option maxRecDepth 20000 in
theorem rM_ok_99 : rM (8, 205, 58, 0) := Or.inl ⟨_, rfl, rfl, Or.inl (List.mem_of_getElem? (i := 638) (by decide +kernel))⟩
set_option maxRecDepth 20000 in
theorem rM_ok_100 : rM (8, 211, 62, 0) := Or.inl ⟨_, rfl, rfl, Or.inl (List.mem_of_getElem? (i := 639) (by decide +kernel))⟩
set_option maxRecDepth 20000 in
theorem rM_ok_101 : rM (8, 217, 59, 0) := Or.inl ⟨_, rfl, rfl, Or.inl (List.mem_of_getElem? (i := 643) (by decide +kernel))⟩
set_option maxRecDepth 20000 in
theorem rM_ok_102 : rM (8, 220, 91, 1) := Or.inl ⟨_, rfl, rfl, Or.inl (List.mem_of_getElem? (i := 648) (by decide +kernel))⟩
set_option maxRecDepth 20000 in
theorem rM_ok_103 : rM (8, 223, 42, 1) := Or.inl ⟨_, rfl, rfl, Or.inl (List.mem_of_getElem? (i := 656) (by decide +kernel))⟩
set_option maxRecDepth 20000 in
theorem rM_ok_104 : rM (8, 227, 65, 1) := Or.inl ⟨_, rfl, rfl, Or.inl (List.mem_of_getElem? (i := 665) (by decide +kernel))⟩
set_option maxRecDepth 20000 in
theorem rM_ok_105 : rM (8, 230, 66, 0) := Or.inl ⟨_, rfl, rfl, Or.inl (List.mem_of_getElem? (i := 676) (by decide +kernel))⟩
set_option maxRecDepth 20000 in
theorem rM_ok_106 : rM (8, 233, 44, 3) := Or.inl ⟨_, rfl, rfl, Or.inl (List.mem_of_getElem? (i := 684) (by decide +kernel))⟩
set_option maxRecDepth 20000 in
theorem rM_ok_107 : rM (8, 249, 15, 1) := Or.inl ⟨_, rfl, rfl, Or.inl (List.mem_of_getElem? (i := 724) (by decide +kernel))⟩
set_option maxRecDepth 20000 in
theorem rM_ok_108 : rM (9, 1, 1000, 0) := Or.inr (Or.inl ⟨rfl, List.mem_of_getElem? (i := 730) (by decide +kernel)⟩)
set_option maxRecDepth 20000 in
theorem rM_ok_109 : rM (9, 47, 97, 4) := Or.inl ⟨_, rfl, rfl, Or.inl (List.mem_of_getElem? (i := 816) (by decide +kernel))⟩
set_option maxRecDepth 20000 in
theorem rM_ok_110 : rM (9, 51, 96, 3) := Or.inl ⟨_, rfl, rfl, Or.inl (List.mem_of_getElem? (i := 806) (by decide +kernel))⟩
set_option maxRecDepth 20000 in
theorem rM_ok_111 : rM (9, 55, 103, 2) := Or.inl ⟨_, rfl, rfl, Or.inl (List.mem_of_getElem? (i := 863) (by decide +kernel))⟩
set_option maxRecDepth 20000 in
theorem rM_ok_112 : rM (9, 59, 101, 2) := Or.inl ⟨_, rfl, rfl, Or.inl (List.mem_of_getElem? (i := 851) (by decide +kernel))⟩
set_option maxRecDepth 20000 in
theorem rM_ok_113 : rM (9, 62, 104, 3) := Or.inl ⟨_, rfl, rfl, Or.inl (List.mem_of_getElem? (i := 839) (by decide +kernel))⟩
set_option maxRecDepth 20000 in
theorem rM_ok_114 : rM (9, 69, 105, 1) := Or.inl ⟨_, rfl, rfl, Or.inl (List.mem_of_getElem? (i := 883) (by decide +kernel))⟩
set_option maxRecDepth 20000 in
theorem rM_ok_115 : rM (9, 74, 110, 1) := Or.inl ⟨_, rfl, rfl, Or.inl (List.mem_of_getElem? (i := 915) (by decide +kernel))⟩
set_option maxRecDepth 20000 in
theorem rM_ok_116 : rM (9, 77, 102, 3) := Or.inl ⟨_, rfl, rfl, Or.inl (List.mem_of_getElem? (i := 823) (by decide +kernel))⟩
set_option maxRecDepth 20000 in
theorem rM_ok_117 : rM (9, 80, 107, 2) := Or.inl ⟨_, rfl, rfl, Or.inl (List.mem_of_getElem? (i := 944) (by decide +kernel))⟩
set_option maxRecDepth 20000 in
theorem rM_ok_118 : rM (9, 84, 108, 2) := Or.inl ⟨_, rfl, rfl, Or.inl (List.mem_of_getElem? (i := 919) (by decide +kernel))⟩
set_option maxRecDepth 20000 in
theorem rM_ok_119 : rM (9, 88, 109, 1) := Or.inl ⟨_, rfl, rfl, Or.inl (List.mem_of_getElem? (i := 923) (by decide +kernel))⟩
set_option maxRecDepth 20000 in
theorem rM_ok_120 : rM (9, 92, 111, 1) := Or.inl ⟨_, rfl, rfl, Or.inl (List.mem_of_getElem? (i := 927) (by decide +kernel))⟩
set_option maxRecDepth 20000 in
theorem rM_ok_121 : rM (9, 96, 113, 1) := Or.inl ⟨_, rfl, rfl, Or.inl (List.mem_of_getElem? (i := 932) (by decide +kernel))⟩
set_option maxRecDepth 20000 in
theorem rM_ok_122 : rM (9, 99, 112, 3) := Or.inl ⟨_, rfl, rfl, Or.inl (List.mem_of_getElem? (i := 936) (by decide +kernel))⟩
set_option maxRecDepth 20000 in
theorem rM_ok_123 : rM (9, 102, 114, 2) := Or.inl ⟨_, rfl, rfl, Or.inl (List.mem_of_getElem? (i := 940) (by decide +kernel))⟩
set_option maxRecDepth 20000 in
theorem rM_ok_124 : rM (9, 105, 115, 1) := Or.inl ⟨_, rfl, rfl, Or.inl (List.mem_of_getElem? (i := 911) (by decide +kernel))⟩
set_option maxRecDepth 20000 in
theorem rM_ok_125 : rM (9, 108, 106, 0) := Or.inl ⟨_, rfl, rfl, Or.inl (List.mem_of_getElem? (i := 875) (by decide +kernel))⟩
set_option maxRecDepth 20000 in
theorem rM_ok_126 : rM (9, 112, 116, 0) := Or.inl ⟨_, rfl, rfl, Or.inl (List.mem_of_getElem? (i := 907) (by decide +kernel))⟩
set_option maxRecDepth 20000 in
theorem rM_ok_127 : rM (9, 115, 117, 0) := Or.inl ⟨_, rfl, rfl, Or.inl (List.mem_of_getElem? (i := 948) (by decide +kernel))⟩
set_option maxRecDepth 20000 in
theorem rM_ok_128 : rM (9, 121, 123, 1) := Or.inl ⟨_, rfl, rfl, Or.inl (List.mem_of_getElem? (i := 802) (by decide +kernel))⟩
set_option maxRecDepth 20000 in
theorem rM_ok_129 : rM (9, 124, 98, 0) := Or.inl ⟨_, rfl, rfl, Or.inl (List.mem_of_getElem? (i := 812) (by decide +kernel))⟩
set_option maxRecDepth 20000 in
theorem rM_ok_130 : rM (9, 127, 119, 1) := Or.inl ⟨_, rfl, rfl, Or.inl (List.mem_of_getElem? (i := 819) (by decide +kernel))⟩
set_option maxRecDepth 20000 in
theorem rM_ok_131 : rM (9, 130, 124, 2) := Or.inl ⟨_, rfl, rfl, Or.inl (List.mem_of_getElem? (i := 831) (by decide +kernel))⟩
set_option maxRecDepth 20000 in
theorem rM_ok_132 : rM (9, 133, 120, 2) := Or.inl ⟨_, rfl, rfl, Or.inl (List.mem_of_getElem? (i := 835) (by decide +kernel))⟩
set_option maxRecDepth 20000 in
theorem rM_ok_133 : rM (9, 136, 99, 1) := Or.inl ⟨_, rfl, rfl, Or.inl (List.mem_of_getElem? (i := 847) (by decide +kernel))⟩
set_option maxRecDepth 20000 in
theorem rM_ok_134 : rM (9, 139, 100, 1) := Or.inl ⟨_, rfl, rfl, Or.inl (List.mem_of_getElem? (i := 859) (by decide +kernel))⟩
set_option maxRecDepth 20000 in
theorem rM_ok_135 : rM (9, 142, 125, 0) := Or.inl ⟨_, rfl, rfl, Or.inl (List.mem_of_getElem? (i := 871) (by decide +kernel))⟩
set_option maxRecDepth 20000 in
theorem rM_ok_136 : rM (9, 145, 121, 0) := Or.inl ⟨_, rfl, rfl, Or.inl (List.mem_of_getElem? (i := 879) (by decide +kernel))⟩
set_option maxRecDepth 20000 in
theorem rM_ok_137 : rM (9, 148, 126, 1) := Or.inl ⟨_, rfl, rfl, Or.inl (List.mem_of_getElem? (i := 891) (by decide +kernel))⟩
set_option maxRecDepth 20000 in
theorem rM_ok_138 : rM (9, 151, 122, 1) := Or.inl ⟨_, rfl, rfl, Or.inl (List.mem_of_getElem? (i := 895) (by decide +kernel))⟩
set_option maxRecDepth 20000 in
theorem rM_ok_139 : rM (9, 154, 118, 0) := Or.inl ⟨_, rfl, rfl, Or.inl (List.mem_of_getElem? (i := 903) (by decide +kernel))⟩
set_option maxRecDepth 20000 in
theorem rM_ok_140 : rM (9, 157, 140, 2) := Or.inl ⟨_, rfl, rfl, Or.inl (List.mem_of_getElem? (i := 980) (by decide +kernel))⟩
set_option maxRecDepth 20000 in
theorem rM_ok_141 : rM (9, 160, 160, 1) := Or.inl ⟨_, rfl, rfl, Or.inl (List.mem_of_getElem? (i := 996) (by decide +kernel))⟩
set_option maxRecDepth 20000 in
theorem rM_ok_142 : rM (9, 166, 145, 0) := Or.inl ⟨_, rfl, rfl, Or.inl (List.mem_of_getElem? (i := 1010) (by decide +kernel))⟩
set_option maxRecDepth 20000 in
theorem rM_ok_143 : rM (9, 169, 146, 0) := Or.inl ⟨_, rfl, rfl, Or.inl (List.mem_of_getElem? (i := 1014) (by decide +kernel))⟩
set_option maxRecDepth 20000 in
theorem rM_ok_144 : rM (9, 182, 150, 0) := Or.inl ⟨_, rfl, rfl, Or.inl (List.mem_of_getElem? (i := 1038) (by decide +kernel))⟩
set_option maxRecDepth 20000 in
theorem rM_ok_145 : rM (9, 191, 151, 1) := Or.inl ⟨_, rfl, rfl, Or.inl (List.mem_of_getElem? (i := 1042) (by decide +kernel))⟩
set_option maxRecDepth 20000 in
theorem rM_ok_146 : rM (9, 195, 152, 0) := Or.inl ⟨_, rfl, rfl, Or.inl (List.mem_of_getElem? (i := 1046) (by decide +kernel))⟩
set_option maxRecDepth 20000 in
theorem rM_ok_147 : rM (9, 207, 153, 0) := Or.inl ⟨_, rfl, rfl, Or.inl (List.mem_of_getElem? (i := 1034) (by decide +kernel))⟩
set_option maxRecDepth 20000 in
theorem rM_ok_148 : rM (9, 210, 154, 0) := Or.inl ⟨_, rfl, rfl, Or.inl (List.mem_of_getElem? (i := 1050) (by decide +kernel))⟩
set_option maxRecDepth 20000 in
theorem rM_ok_149 : rM (9, 216, 155, 0) := Or.inl ⟨_, rfl, rfl, Or.inl (List.mem_of_getElem? (i := 1054) (by decide +kernel))⟩
set_option maxRecDepth 20000 in
theorem rM_ok_150 : rM (9, 219, 156, 0) := Or.inl ⟨_, rfl, rfl, Or.inl (List.mem_of_getElem? (i := 1030) (by decide +kernel))⟩
set_option maxRecDepth 20000 in
theorem rM_ok_151 : rM (10, 59, 159, 1) := Or.inl ⟨_, rfl, rfl, Or.inl (List.mem_of_getElem? (i := 999) (by decide +kernel))⟩
set_option maxRecDepth 20000 in
theorem rM_ok_152 : rM (10, 74, 1002, 0) := Or.inr (Or.inr (Or.inr ⟨rfl, List.mem_of_getElem? (i := 1002) (by decide +kernel)⟩))
set_option maxRecDepth 20000 in
theorem rM_ok_153 : rM (13, 9, 68, 0) := Or.inl ⟨_, rfl, rfl, Or.inl (List.mem_of_getElem? (i := 17) (by decide +kernel))⟩
set_option maxRecDepth 20000 in
theorem rM_ok_154 : rM (13, 12, 95, 0) := Or.inl ⟨_, rfl, rfl, Or.inl (List.mem_of_getElem? (i := 727) (by decide +kernel))⟩
set_option maxRecDepth 20000 in
theorem rM_ok_155 : rM (13, 13, 69, 1) := Or.inl ⟨_, rfl, rfl, Or.inl (List.mem_of_getElem? (i := 335) (by decide +kernel))⟩
set_option maxRecDepth 20000 in
theorem rM_ok_156 : rM (13, 17, 127, 1) := Or.inl ⟨_, rfl, rfl, Or.inl (List.mem_of_getElem? (i := 798) (by decide +kernel))⟩
set_option maxRecDepth 20000 in
theorem rM_ok_157 : rM (13, 18, 70, 2) := Or.inl ⟨_, rfl, rfl, Or.inl (List.mem_of_getElem? (i := 385) (by decide +kernel))⟩
set_option maxRecDepth 20000 in
theorem rM_ok_158 : rM (13, 22, 128, 2) := Or.inl ⟨_, rfl, rfl, Or.inl (List.mem_of_getElem? (i := 827) (by decide +kernel))⟩
set_option maxRecDepth 20000 in
theorem rM_ok_159 : rM (13, 23, 71, 2) := Or.inl ⟨_, rfl, rfl, Or.inl (List.mem_of_getElem? (i := 398) (by decide +kernel))⟩
set_option maxRecDepth 20000 in
theorem rM_ok_160 : rM (13, 26, 129, 2) := Or.inl ⟨_, rfl, rfl, Or.inl (List.mem_of_getElem? (i := 843) (by decide +kernel))⟩
set_option maxRecDepth 20000 in
theorem rM_ok_161 : rM (13, 27, 72, 3) := Or.inl ⟨_, rfl, rfl, Or.inl (List.mem_of_getElem? (i := 410) (by decide +kernel))⟩
set_option maxRecDepth 20000 in
theorem rM_ok_162 : rM (13, 31, 130, 3) := Or.inl ⟨_, rfl, rfl, Or.inl (List.mem_of_getElem? (i := 855) (by decide +kernel))⟩
set_option maxRecDepth 20000 in
theorem rM_ok_163 : rM (13, 32, 73, 0) := Or.inl ⟨_, rfl, rfl, Or.inl (List.mem_of_getElem? (i := 422) (by decide +kernel))⟩
set_option maxRecDepth 20000 in
theorem rM_ok_164 : rM (13, 36, 131, 0) := Or.inl ⟨_, rfl, rfl, Or.inl (List.mem_of_getElem? (i := 867) (by decide +kernel))⟩
set_option maxRecDepth 20000 in
theorem rM_ok_165 : rM (13, 37, 74, 1) := Or.inl ⟨_, rfl, rfl, Or.inl (List.mem_of_getElem? (i := 456) (by decide +kernel))⟩
set_option maxRecDepth 20000 in
theorem rM_ok_166 : rM (13, 40, 132, 1) := Or.inl ⟨_, rfl, rfl, Or.inl (List.mem_of_getElem? (i := 887) (by decide +kernel))⟩
set_option maxRecDepth 20000 in
theorem rM_ok_167 : rM (13, 41, 75, 0) := Or.inl ⟨_, rfl, rfl, Or.inl (List.mem_of_getElem? (i := 469) (by decide +kernel))⟩
set_option maxRecDepth 20000 in
theorem rM_ok_168 : rM (13, 44, 133, 0) := Or.inl ⟨_, rfl, rfl, Or.inl (List.mem_of_getElem? (i := 899) (by decide +kernel))⟩
set_option maxRecDepth 20000 in
theorem rM_ok_169 : rM (13, 45, 76, 2) := Or.inl ⟨_, rfl, rfl, Or.inl (List.mem_of_getElem? (i := 563) (by decide +kernel))⟩
set_option maxRecDepth 20000 in
theorem rM_ok_170 : rM (13, 48, 134, 2) := Or.inl ⟨_, rfl, rfl, Or.inl (List.mem_of_getElem? (i := 952) (by decide +kernel))⟩
set_option maxRecDepth 20000 in
theorem rM_ok_171 : rM (13, 49, 77, 2) := Or.inl ⟨_, rfl, rfl, Or.inl (List.mem_of_getElem? (i := 571) (by decide +kernel))⟩
set_option maxRecDepth 20000 in
theorem rM_ok_172 : rM (13, 52, 136, 2) := Or.inl ⟨_, rfl, rfl, Or.inl (List.mem_of_getElem? (i := 960) (by decide +kernel))⟩
set_option maxRecDepth 20000 in
theorem rM_ok_173 : rM (13, 53, 78, 2) := Or.inl ⟨_, rfl, rfl, Or.inl (List.mem_of_getElem? (i := 581) (by decide +kernel))⟩
set_option maxRecDepth 20000 in
theorem rM_ok_174 : rM (13, 56, 137, 2) := Or.inl ⟨_, rfl, rfl, Or.inl (List.mem_of_getElem? (i := 964) (by decide +kernel))⟩
set_option maxRecDepth 20000 in
theorem rM_ok_175 : rM (13, 57, 79, 2) := Or.inl ⟨_, rfl, rfl, Or.inl (List.mem_of_getElem? (i := 587) (by decide +kernel))⟩
set_option maxRecDepth 20000 in
theorem rM_ok_176 : rM (13, 60, 138, 2) := Or.inl ⟨_, rfl, rfl, Or.inl (List.mem_of_getElem? (i := 968) (by decide +kernel))⟩
set_option maxRecDepth 20000 in
theorem rM_ok_177 : rM (13, 61, 80, 2) := Or.inl ⟨_, rfl, rfl, Or.inl (List.mem_of_getElem? (i := 592) (by decide +kernel))⟩
set_option maxRecDepth 20000 in
theorem rM_ok_178 : rM (13, 64, 139, 2) := Or.inl ⟨_, rfl, rfl, Or.inl (List.mem_of_getElem? (i := 972) (by decide +kernel))⟩
set_option maxRecDepth 20000 in
theorem rM_ok_179 : rM (13, 65, 81, 2) := Or.inl ⟨_, rfl, rfl, Or.inl (List.mem_of_getElem? (i := 600) (by decide +kernel))⟩
set_option maxRecDepth 20000 in
theorem rM_ok_180 : rM (13, 68, 141, 2) := Or.inl ⟨_, rfl, rfl, Or.inl (List.mem_of_getElem? (i := 976) (by decide +kernel))⟩
set_option maxRecDepth 20000 in
theorem rM_ok_181 : rM (13, 69, 82, 0) := Or.inl ⟨_, rfl, rfl, Or.inl (List.mem_of_getElem? (i := 606) (by decide +kernel))⟩
set_option maxRecDepth 20000 in
theorem rM_ok_182 : rM (13, 72, 142, 0) := Or.inl ⟨_, rfl, rfl, Or.inl (List.mem_of_getElem? (i := 984) (by decide +kernel))⟩
set_option maxRecDepth 20000 in
theorem rM_ok_183 : rM (13, 73, 83, 1) := Or.inl ⟨_, rfl, rfl, Or.inl (List.mem_of_getElem? (i := 610) (by decide +kernel))⟩
set_option maxRecDepth 20000 in
theorem rM_ok_184 : rM (13, 76, 143, 1) := Or.inl ⟨_, rfl, rfl, Or.inl (List.mem_of_getElem? (i := 988) (by decide +kernel))⟩
set_option maxRecDepth 20000 in
theorem rM_ok_185 : rM (13, 77, 84, 0) := Or.inl ⟨_, rfl, rfl, Or.inl (List.mem_of_getElem? (i := 614) (by decide +kernel))⟩
set_option maxRecDepth 20000 in
theorem rM_ok_186 : rM (13, 80, 144, 0) := Or.inl ⟨_, rfl, rfl, Or.inl (List.mem_of_getElem? (i := 992) (by decide +kernel))⟩
set_option maxRecDepth 20000 in
theorem rM_ok_187 : rM (13, 81, 85, 1) := Or.inl ⟨_, rfl, rfl, Or.inl (List.mem_of_getElem? (i := 630) (by decide +kernel))⟩
set_option maxRecDepth 20000 in
theorem rM_ok_188 : rM (13, 84, 147, 1) := Or.inl ⟨_, rfl, rfl, Or.inl (List.mem_of_getElem? (i := 1006) (by decide +kernel))⟩
set_option maxRecDepth 20000 in
theorem rM_ok_189 : rM (13, 85, 86, 0) := Or.inl ⟨_, rfl, rfl, Or.inl (List.mem_of_getElem? (i := 652) (by decide +kernel))⟩
set_option maxRecDepth 20000 in
theorem rM_ok_190 : rM (13, 88, 135, 0) := Or.inl ⟨_, rfl, rfl, Or.inl (List.mem_of_getElem? (i := 956) (by decide +kernel))⟩
set_option maxRecDepth 20000 in
theorem rM_ok_191 : rM (13, 89, 87, 1) := Or.inl ⟨_, rfl, rfl, Or.inl (List.mem_of_getElem? (i := 661) (by decide +kernel))⟩
set_option maxRecDepth 20000 in
theorem rM_ok_192 : rM (13, 92, 148, 1) := Or.inl ⟨_, rfl, rfl, Or.inl (List.mem_of_getElem? (i := 1018) (by decide +kernel))⟩
set_option maxRecDepth 20000 in
theorem rM_ok_193 : rM (13, 93, 88, 0) := Or.inl ⟨_, rfl, rfl, Or.inl (List.mem_of_getElem? (i := 672) (by decide +kernel))⟩
set_option maxRecDepth 20000 in
theorem rM_ok_194 : rM (13, 96, 149, 0) := Or.inl ⟨_, rfl, rfl, Or.inl (List.mem_of_getElem? (i := 1022) (by decide +kernel))⟩
set_option maxRecDepth 20000 in
theorem rM_ok_195 : rM (13, 97, 89, 1) := Or.inl ⟨_, rfl, rfl, Or.inl (List.mem_of_getElem? (i := 680) (by decide +kernel))⟩
set_option maxRecDepth 20000 in
theorem rM_ok_196 : rM (13, 100, 157, 1) := Or.inl ⟨_, rfl, rfl, Or.inl (List.mem_of_getElem? (i := 1026) (by decide +kernel))⟩
set_option maxRecDepth 20000 in
theorem rM_ok_197 : rM (13, 101, 90, 0) := Or.inl ⟨_, rfl, rfl, Or.inl (List.mem_of_getElem? (i := 720) (by decide +kernel))⟩
set_option maxRecDepth 20000 in
theorem rM_ok_198 : rM (13, 104, 158, 0) := Or.inl ⟨_, rfl, rfl, Or.inl (List.mem_of_getElem? (i := 1058) (by decide +kernel))⟩
set_option maxRecDepth 100000 in
theorem rM_ok : ∀ q ∈ resM, rM q := List.forall_mem_cons.mpr ⟨rM_ok_0, List.forall_mem_cons.mpr ⟨rM_ok_1, List.forall_mem_cons.mpr ⟨rM_ok_2, List.forall_mem_cons.mpr ⟨rM_ok_3, List.forall_mem_cons.mpr ⟨rM_ok_4, List.forall_mem_cons.mpr ⟨rM_ok_5, List.forall_mem_cons.mpr ⟨rM_ok_6, List.forall_mem_cons.mpr ⟨rM_ok_7, List.forall_mem_cons.mpr ⟨rM_ok_8, List.forall_mem_cons.mpr ⟨rM_ok_9, List.forall_mem_cons.mpr ⟨rM_ok_10, List.forall_mem_cons.mpr ⟨rM_ok_11, List.forall_mem_cons.mpr ⟨rM_ok_12, List.forall_mem_cons.mpr ⟨rM_ok_13, List.forall_mem_cons.mpr ⟨rM_ok_14, List.forall_mem_cons.mpr ⟨rM_ok_15, List.forall_mem_cons.mpr ⟨rM_ok_16, List.forall_mem_cons.mpr ⟨rM_ok_17, List.forall_mem_cons.mpr ⟨rM_ok_18, List.forall_mem_cons.mpr ⟨rM_ok_19, List.forall_mem_cons.mpr ⟨rM_ok_20, List.forall_mem_cons.mpr ⟨rM_ok_21, List.forall_mem_cons.mpr ⟨rM_ok_22, List.forall_mem_cons.mpr ⟨rM_ok_23, List.forall_mem_cons.mpr ⟨rM_ok_24, List.forall_mem_cons.mpr ⟨rM_ok_25, List.forall_mem_cons.mpr ⟨rM_ok_26, List.forall_mem_cons.mpr ⟨rM_ok_27, List.forall_mem_cons.mpr ⟨rM_ok_28, List.forall_mem_cons.mpr ⟨rM_ok_29, List.forall_mem_cons.mpr ⟨rM_ok_30, List.forall_mem_cons.mpr ⟨rM_ok_31, List.forall_mem_cons.mpr ⟨rM_ok_32, List.forall_mem_cons.mpr ⟨rM_ok_33, List.forall_mem_cons.mpr ⟨rM_ok_34, List.forall_mem_cons.mpr ⟨rM_ok_35, List.forall_mem_cons.mpr ⟨rM_ok_36, List.forall_mem_cons.mpr ⟨rM_ok_37, List.forall_mem_cons.mpr ⟨rM_ok_38, List.forall_mem_cons.mpr ⟨rM_ok_39, List.forall_mem_cons.mpr ⟨rM_ok_40, List.forall_mem_cons.mpr ⟨rM_ok_41, List.forall_mem_cons.mpr ⟨rM_ok_42, List.forall_mem_cons.mpr ⟨rM_ok_43, List.forall_mem_cons.mpr ⟨rM_ok_44, List.forall_mem_cons.mpr ⟨rM_ok_45, List.forall_mem_cons.mpr ⟨rM_ok_46, List.forall_mem_cons.mpr ⟨rM_ok_47, List.forall_mem_cons.mpr ⟨rM_ok_48, List.forall_mem_cons.mpr ⟨rM_ok_49, List.forall_mem_cons.mpr ⟨rM_ok_50, List.forall_mem_cons.mpr ⟨rM_ok_51, List.forall_mem_cons.mpr ⟨rM_ok_52, List.forall_mem_cons.mpr ⟨rM_ok_53, List.forall_mem_cons.mpr ⟨rM_ok_54, List.forall_mem_cons.mpr ⟨rM_ok_55, List.forall_mem_cons.mpr ⟨rM_ok_56, List.forall_mem_cons.mpr ⟨rM_ok_57, List.forall_mem_cons.mpr ⟨rM_ok_58, List.forall_mem_cons.mpr ⟨rM_ok_59, List.forall_mem_cons.mpr ⟨rM_ok_60, List.forall_mem_cons.mpr ⟨rM_ok_61, List.forall_mem_cons.mpr ⟨rM_ok_62, List.forall_mem_cons.mpr ⟨rM_ok_63, List.forall_mem_cons.mpr ⟨rM_ok_64, List.forall_mem_cons.mpr ⟨rM_ok_65, List.forall_mem_cons.mpr ⟨rM_ok_66, List.forall_mem_cons.mpr ⟨rM_ok_67, List.forall_mem_cons.mpr ⟨rM_ok_68, List.forall_mem_cons.mpr ⟨rM_ok_69, List.forall_mem_cons.mpr ⟨rM_ok_70, List.forall_mem_cons.mpr ⟨rM_ok_71, List.forall_mem_cons.mpr ⟨rM_ok_72, List.forall_mem_cons.mpr ⟨rM_ok_73, List.forall_mem_cons.mpr ⟨rM_ok_74, List.forall_mem_cons.mpr ⟨rM_ok_75, List.forall_mem_cons.mpr ⟨rM_ok_76, List.forall_mem_cons.mpr ⟨rM_ok_77, List.forall_mem_cons.mpr ⟨rM_ok_78, List.forall_mem_cons.mpr ⟨rM_ok_79, List.forall_mem_cons.mpr ⟨rM_ok_80, List.forall_mem_cons.mpr ⟨rM_ok_81, List.forall_mem_cons.mpr ⟨rM_ok_82, List.forall_mem_cons.mpr ⟨rM_ok_83, List.forall_mem_cons.mpr ⟨rM_ok_84, List.forall_mem_cons.mpr ⟨rM_ok_85, List.forall_mem_cons.mpr ⟨rM_ok_86, List.forall_mem_cons.mpr ⟨rM_ok_87, List.forall_mem_cons.mpr ⟨rM_ok_88, List.forall_mem_cons.mpr ⟨rM_ok_89, List.forall_mem_cons.mpr ⟨rM_ok_90, List.forall_mem_cons.mpr ⟨rM_ok_91, List.forall_mem_cons.mpr ⟨rM_ok_92, List.forall_mem_cons.mpr ⟨rM_ok_93, List.forall_mem_cons.mpr ⟨rM_ok_94, List.forall_mem_cons.mpr ⟨rM_ok_95, List.forall_mem_cons.mpr ⟨rM_ok_96, List.forall_mem_cons.mpr ⟨rM_ok_97, List.forall_mem_cons.mpr ⟨rM_ok_98, List.forall_mem_cons.mpr ⟨rM_ok_99, List.forall_mem_cons.mpr ⟨rM_ok_100, List.forall_mem_cons.mpr ⟨rM_ok_101, List.forall_mem_cons.mpr ⟨rM_ok_102, List.forall_mem_cons.mpr ⟨rM_ok_103, List.forall_mem_cons.mpr ⟨rM_ok_104, List.forall_mem_cons.mpr ⟨rM_ok_105, List.forall_mem_cons.mpr ⟨rM_ok_106, List.forall_mem_cons.mpr ⟨rM_ok_107, List.forall_mem_cons.mpr ⟨rM_ok_108, List.forall_mem_cons.mpr ⟨rM_ok_109, List.forall_mem_cons.mpr ⟨rM_ok_110, List.forall_mem_cons.mpr ⟨rM_ok_111, List.forall_mem_cons.mpr ⟨rM_ok_112, List.forall_mem_cons.mpr ⟨rM_ok_113, List.forall_mem_cons.mpr ⟨rM_ok_114, List.forall_mem_cons.mpr ⟨rM_ok_115, List.forall_mem_cons.mpr ⟨rM_ok_116, List.forall_mem_cons.mpr ⟨rM_ok_117, List.forall_mem_cons.mpr ⟨rM_ok_118, List.forall_mem_cons.mpr ⟨rM_ok_119, List.forall_mem_cons.mpr ⟨rM_ok_120, List.forall_mem_cons.mpr ⟨rM_ok_121, List.forall_mem_cons.mpr ⟨rM_ok_122, List.forall_mem_cons.mpr ⟨rM_ok_123, List.forall_mem_cons.mpr ⟨rM_ok_124, List.forall_mem_cons.mpr ⟨rM_ok_125, List.forall_mem_cons.mpr ⟨rM_ok_126, List.forall_mem_cons.mpr ⟨rM_ok_127, List.forall_mem_cons.mpr ⟨rM_ok_128, List.forall_mem_cons.mpr ⟨rM_ok_129, List.forall_mem_cons.mpr ⟨rM_ok_130, List.forall_mem_cons.mpr ⟨rM_ok_131, List.forall_mem_cons.mpr ⟨rM_ok_132, List.forall_mem_cons.mpr ⟨rM_ok_133, List.forall_mem_cons.mpr ⟨rM_ok_134, List.forall_mem_cons.mpr ⟨rM_ok_135, List.forall_mem_cons.mpr ⟨rM_ok_136, List.forall_mem_cons.mpr ⟨rM_ok_137, List.forall_mem_cons.mpr ⟨rM_ok_138, List.forall_mem_cons.mpr ⟨rM_ok_139, List.forall_mem_cons.mpr ⟨rM_ok_140, List.forall_mem_cons.mpr ⟨rM_ok_141, List.forall_mem_cons.mpr ⟨rM_ok_142, List.forall_mem_cons.mpr ⟨rM_ok_143, List.forall_mem_cons.mpr ⟨rM_ok_144, List.forall_mem_cons.mpr ⟨rM_ok_145, List.forall_mem_cons.mpr ⟨rM_ok_146, List.forall_mem_cons.mpr ⟨rM_ok_147, List.forall_mem_cons.mpr ⟨rM_ok_148, List.forall_mem_cons.mpr ⟨rM_ok_149, List.forall_mem_cons.mpr ⟨rM_ok_150, List.forall_mem_cons.mpr ⟨rM_ok_151, List.forall_mem_cons.mpr ⟨rM_ok_152, List.forall_mem_cons.mpr ⟨rM_ok_153, List.forall_mem_cons.mpr ⟨rM_ok_154, List.forall_mem_cons.mpr ⟨rM_ok_155, List.forall_mem_cons.mpr ⟨rM_ok_156, List.forall_mem_cons.mpr ⟨rM_ok_157, List.forall_mem_cons.mpr ⟨rM_ok_158, List.forall_mem_cons.mpr ⟨rM_ok_159, List.forall_mem_cons.mpr ⟨rM_ok_160, List.forall_mem_cons.mpr ⟨rM_ok_161, List.forall_mem_cons.mpr ⟨rM_ok_162, List.forall_mem_cons.mpr ⟨rM_ok_163, List.forall_mem_cons.mpr ⟨rM_ok_164, List.forall_mem_cons.mpr ⟨rM_ok_165, List.forall_mem_cons.mpr ⟨rM_ok_166, List.forall_mem_cons.mpr ⟨rM_ok_167, List.forall_mem_cons.mpr ⟨rM_ok_168, List.forall_mem_cons.mpr ⟨rM_ok_169, List.forall_mem_cons.mpr ⟨rM_ok_170, List.forall_mem_cons.mpr ⟨rM_ok_171, List.forall_mem_cons.mpr ⟨rM_ok_172, List.forall_mem_cons.mpr ⟨rM_ok_173, List.forall_mem_cons.mpr ⟨rM_ok_174, List.forall_mem_cons.mpr ⟨rM_ok_175, List.forall_mem_cons.mpr ⟨rM_ok_176, List.forall_mem_cons.mpr ⟨rM_ok_177, List.forall_mem_cons.mpr ⟨rM_ok_178, List.forall_mem_cons.mpr ⟨rM_ok_179, List.forall_mem_cons.mpr ⟨rM_ok_180, List.forall_mem_cons.mpr ⟨rM_ok_181, List.forall_mem_cons.mpr ⟨rM_ok_182, List.forall_mem_cons.mpr ⟨rM_ok_183, List.forall_mem_cons.mpr ⟨rM_ok_184, List.forall_mem_cons.mpr ⟨rM_ok_185, List.forall_mem_cons.mpr ⟨rM_ok_186, List.forall_mem_cons.mpr ⟨rM_ok_187, List.forall_mem_cons.mpr ⟨rM_ok_188, List.forall_mem_cons.mpr ⟨rM_ok_189, List.forall_mem_cons.mpr ⟨rM_ok_190, List.forall_mem_cons.mpr ⟨rM_ok_191, List.forall_mem_cons.mpr ⟨rM_ok_192, List.forall_mem_cons.mpr ⟨rM_ok_193, List.forall_mem_cons.mpr ⟨rM_ok_194, List.forall_mem_cons.mpr ⟨rM_ok_195, List.forall_mem_cons.mpr ⟨rM_ok_196, List.forall_mem_cons.mpr ⟨rM_ok_197, List.forall_mem_cons.mpr ⟨rM_ok_198, fun _ h => absurd h List.not_mem_nil⟩⟩⟩⟩⟩⟩⟩⟩⟩⟩⟩⟩⟩⟩⟩⟩⟩⟩⟩⟩⟩⟩⟩⟩⟩⟩⟩⟩⟩⟩⟩⟩⟩⟩⟩⟩⟩⟩⟩⟩⟩⟩⟩⟩⟩⟩⟩⟩⟩⟩⟩⟩⟩⟩⟩⟩⟩⟩⟩⟩⟩⟩⟩⟩⟩⟩⟩⟩⟩⟩⟩⟩⟩⟩⟩⟩⟩⟩⟩⟩⟩⟩⟩⟩⟩⟩⟩⟩⟩⟩⟩⟩⟩⟩⟩⟩⟩⟩⟩⟩⟩⟩⟩⟩⟩⟩⟩⟩⟩⟩⟩⟩⟩⟩⟩⟩⟩⟩⟩⟩⟩⟩⟩⟩⟩⟩⟩⟩⟩⟩⟩⟩⟩⟩⟩⟩⟩⟩⟩⟩⟩⟩⟩⟩⟩⟩⟩⟩⟩⟩⟩⟩⟩⟩⟩⟩⟩⟩⟩⟩⟩⟩⟩⟩⟩⟩⟩⟩⟩⟩⟩⟩⟩⟩⟩⟩⟩⟩⟩⟩⟩⟩⟩⟩⟩⟩⟩⟩⟩⟩⟩⟩⟩⟩⟩⟩⟩⟩⟩
set_option maxRecDepth 20000 in
theorem rN_ok_0 : rN (2, 9, 1) := ⟨_, rfl, List.mem_of_getElem? (i := 29) (by decide +kernel)⟩
set_option maxRecDepth 20000 in
theorem rN_ok_1 : rN (2, 18, 6) := ⟨_, rfl, List.mem_of_getElem? (i := 57) (by decide +kernel)⟩
set_option maxRecDepth 20000 in
theorem rN_ok_2 : rN (2, 25, 0) := ⟨_, rfl, List.mem_of_getElem? (i := 114) (by decide +kernel)⟩
set_option maxRecDepth 20000 in
theorem rN_ok_3 : rN (4, 11, 2) := ⟨_, rfl, List.mem_of_getElem? (i := 195) (by decide +kernel)⟩
set_option maxRecDepth 20000 in
theorem rN_ok_4 : rN (5, 9, 2) := ⟨_, rfl, List.mem_of_getElem? (i := 284) (by decide +kernel)⟩
set_option maxRecDepth 20000 in
theorem rN_ok_5 : rN (8, 7, 2) := ⟨_, rfl, List.mem_of_getElem? (i := 23) (by decide +kernel)⟩
set_option maxRecDepth 20000 in
theorem rN_ok_6 : rN (8, 16, 4) := ⟨_, rfl, List.mem_of_getElem? (i := 189) (by decide +kernel)⟩
set_option maxRecDepth 20000 in
theorem rN_ok_7 : rN (8, 23, 3) := ⟨_, rfl, List.mem_of_getElem? (i := 209) (by decide +kernel)⟩
set_option maxRecDepth 20000 in
theorem rN_ok_8 : rN (8, 30, 7) := ⟨_, rfl, List.mem_of_getElem? (i := 263) (by decide +kernel)⟩
set_option maxRecDepth 20000 in
theorem rN_ok_9 : rN (8, 37, 5) := ⟨_, rfl, List.mem_of_getElem? (i := 278) (by decide +kernel)⟩
set_option maxRecDepth 20000 in
theorem rN_ok_10 : rN (13, 7, 8) := ⟨_, rfl, List.mem_of_getElem? (i := 15) (by decide +kernel)⟩
set_option maxRecDepth 20000 in
theorem rN_ok_11 : rN (13, 10, 9) := ⟨_, rfl, List.mem_of_getElem? (i := 725) (by decide +kernel)⟩
set_option maxRecDepth 100000 in
theorem rN_ok : ∀ q ∈ resN, rN q := List.forall_mem_cons.mpr ⟨rN_ok_0, List.forall_mem_cons.mpr ⟨rN_ok_1, List.forall_mem_cons.mpr ⟨rN_ok_2, List.forall_mem_cons.mpr ⟨rN_ok_3, List.forall_mem_cons.mpr ⟨rN_ok_4, List.forall_mem_cons.mpr ⟨rN_ok_5, List.forall_mem_cons.mpr ⟨rN_ok_6, List.forall_mem_cons.mpr ⟨rN_ok_7, List.forall_mem_cons.mpr ⟨rN_ok_8, List.forall_mem_cons.mpr ⟨rN_ok_9, List.forall_mem_cons.mpr ⟨rN_ok_10, List.forall_mem_cons.mpr ⟨rN_ok_11, fun _ h => absurd h List.not_mem_nil⟩⟩⟩⟩⟩⟩⟩⟩⟩⟩⟩⟩
set_option maxRecDepth 20000 in
theorem rC_ok_0 : rC (1, 31, 47) := Or.inl ⟨_, rfl, List.mem_of_getElem? (i := 376) (by decide +kernel)⟩
set_option maxRecDepth 20000 in
theorem rC_ok_1 : rC (2, 68, 48) := Or.inl ⟨_, rfl, List.mem_of_getElem? (i := 371) (by decide +kernel)⟩
set_option maxRecDepth 20000 in
theorem rC_ok_2 : rC (2, 73, 49) := Or.inl ⟨_, rfl, List.mem_of_getElem? (i := 377) (by decide +kernel)⟩
set_option maxRecDepth 20000 in
theorem rC_ok_3 : rC (2, 105, 47) := Or.inl ⟨_, rfl, List.mem_of_getElem? (i := 464) (by decide +kernel)⟩
set_option maxRecDepth 20000 in
theorem rC_ok_4 : rC (4, 35, 49) := Or.inl ⟨_, rfl, List.mem_of_getElem? (i := 660) (by decide +kernel)⟩
set_option maxRecDepth 20000 in
theorem rC_ok_5 : rC (6, 49, 47) := Or.inl ⟨_, rfl, List.mem_of_getElem? (i := 397) (by decide +kernel)⟩
set_option maxRecDepth 20000 in
theorem rC_ok_6 : rC (6, 66, 50) := Or.inl ⟨_, rfl, List.mem_of_getElem? (i := 647) (by decide +kernel)⟩
set_option maxRecDepth 20000 in
theorem rC_ok_7 : rC (7, 19, 48) := Or.inl ⟨_, rfl, List.mem_of_getElem? (i := 670) (by decide +kernel)⟩
set_option maxRecDepth 20000 in
theorem rC_ok_8 : rC (7, 24, 47) := Or.inl ⟨_, rfl, List.mem_of_getElem? (i := 671) (by decide +kernel)⟩
set_option maxRecDepth 20000 in
theorem rC_ok_9 : rC (8, 90, 48) := Or.inl ⟨_, rfl, List.mem_of_getElem? (i := 576) (by decide +kernel)⟩
set_option maxRecDepth 20000 in
theorem rC_ok_10 : rC (8, 154, 50) := Or.inl ⟨_, rfl, List.mem_of_getElem? (i := 580) (by decide +kernel)⟩
set_option maxRecDepth 20000 in
theorem rC_ok_11 : rC (8, 169, 49) := Or.inl ⟨_, rfl, List.mem_of_getElem? (i := 604) (by decide +kernel)⟩
set_option maxRecDepth 20000 in
theorem rC_ok_12 : rC (8, 265, 54) := Or.inr ⟨_, rfl, List.mem_of_getElem? (i := 629) (by decide +kernel)⟩
set_option maxRecDepth 20000 in
theorem rC_ok_13 : rC (9, 73, 50) := Or.inl ⟨_, rfl, List.mem_of_getElem? (i := 931) (by decide +kernel)⟩
set_option maxRecDepth 20000 in
theorem rC_ok_14 : rC (9, 118, 48) := Or.inl ⟨_, rfl, List.mem_of_getElem? (i := 809) (by decide +kernel)⟩
set_option maxRecDepth 20000 in
theorem rC_ok_15 : rC (9, 119, 49) := Or.inl ⟨_, rfl, List.mem_of_getElem? (i := 810) (by decide +kernel)⟩
set_option maxRecDepth 20000 in
theorem rC_ok_16 : rC (9, 120, 47) := Or.inl ⟨_, rfl, List.mem_of_getElem? (i := 811) (by decide +kernel)⟩
set_option maxRecDepth 20000 in
theorem rC_ok_17 : rC (10, 77, 55) := Or.inl ⟨_, rfl, List.mem_of_getElem? (i := 1005) (by decide +kernel)⟩
set_option maxRecDepth 20000 in
theorem rC_ok_18 : rC (11, 265, 56) := Or.inl ⟨_, rfl, List.mem_of_getElem? (i := 437) (by decide +kernel)⟩
set_option maxRecDepth 20000 in
theorem rC_ok_19 : rC (11, 266, 57) := Or.inl ⟨_, rfl, List.mem_of_getElem? (i := 438) (by decide +kernel)⟩
set_option maxRecDepth 20000 in
theorem rC_ok_20 : rC (11, 267, 58) := Or.inl ⟨_, rfl, List.mem_of_getElem? (i := 439) (by decide +kernel)⟩
set_option maxRecDepth 100000 in
theorem rC_ok : ∀ q ∈ resC, rC q := List.forall_mem_cons.mpr ⟨rC_ok_0, List.forall_mem_cons.mpr ⟨rC_ok_1, List.forall_mem_cons.mpr ⟨rC_ok_2, List.forall_mem_cons.mpr ⟨rC_ok_3, List.forall_mem_cons.mpr ⟨rC_ok_4, List.forall_mem_cons.mpr ⟨rC_ok_5, List.forall_mem_cons.mpr ⟨rC_ok_6, List.forall_mem_cons.mpr ⟨rC_ok_7, List.forall_mem_cons.mpr ⟨rC_ok_8, List.forall_mem_cons.mpr ⟨rC_ok_9, List.forall_mem_cons.mpr ⟨rC_ok_10, List.forall_mem_cons.mpr ⟨rC_ok_11, List.forall_mem_cons.mpr ⟨rC_ok_12, List.forall_mem_cons.mpr ⟨rC_ok_13, List.forall_mem_cons.mpr ⟨rC_ok_14, List.forall_mem_cons.mpr ⟨rC_ok_15, List.forall_mem_cons.mpr ⟨rC_ok_16, List.forall_mem_cons.mpr ⟨rC_ok_17, List.forall_mem_cons.mpr ⟨rC_ok_18, List.forall_mem_cons.mpr ⟨rC_ok_19, List.forall_mem_cons.mpr ⟨rC_ok_20, fun _ h => absurd h List.not_mem_nil⟩⟩⟩⟩⟩⟩⟩⟩⟩⟩⟩⟩⟩⟩⟩⟩⟩⟩⟩⟩⟩
set_option maxRecDepth 20000 in
theorem rK_ok_0 : rK (RX0, TX0, 7) := ⟨List.mem_of_getElem? (i := 115) (by decide +kernel), List.mem_of_getElem? (i := 5) (by decide +kernel), by decide +kernel, nmX0, tyX0, tyX0_ok⟩
set_option maxRecDepth 20000 in
theorem rK_ok_1 : rK (RX1, TX1, 4) := ⟨List.mem_of_getElem? (i := 30) (by decide +kernel), List.mem_of_getElem? (i := 3) (by decide +kernel), by decide +kernel, nmX1, tyX1, tyX1_ok⟩
set_option maxRecDepth 20000 in
theorem rK_ok_2 : rK (RX2, TX2, 10) := ⟨List.mem_of_getElem? (i := 24) (by decide +kernel), List.mem_of_getElem? (i := 2) (by decide +kernel), by decide +kernel, nmX2, tyX2, tyX2_ok⟩
set_option maxRecDepth 20000 in
theorem rK_ok_3 : rK (RX3, TX3, 12) := ⟨List.mem_of_getElem? (i := 210) (by decide +kernel), List.mem_of_getElem? (i := 7) (by decide +kernel), by decide +kernel, nmX3, tyX3, tyX3_ok⟩
set_option maxRecDepth 20000 in
theorem rK_ok_4 : rK (RX4, TX4, 3) := ⟨List.mem_of_getElem? (i := 190) (by decide +kernel), List.mem_of_getElem? (i := 6) (by decide +kernel), by decide +kernel, nmX4, tyX4, tyX4_ok⟩
set_option maxRecDepth 20000 in
theorem rK_ok_5 : rK (RX5, TX5, 9) := ⟨List.mem_of_getElem? (i := 279) (by decide +kernel), List.mem_of_getElem? (i := 9) (by decide +kernel), by decide +kernel, nmX5, tyX5, tyX5_ok⟩
set_option maxRecDepth 20000 in
theorem rK_ok_6 : rK (RX6, TX6, 10) := ⟨List.mem_of_getElem? (i := 58) (by decide +kernel), List.mem_of_getElem? (i := 4) (by decide +kernel), by decide +kernel, nmX6, tyX6, tyX6_ok⟩
set_option maxRecDepth 20000 in
theorem rK_ok_7 : rK (RX7, TX7, 2) := ⟨List.mem_of_getElem? (i := 264) (by decide +kernel), List.mem_of_getElem? (i := 8) (by decide +kernel), by decide +kernel, nmX7, tyX7, tyX7_ok⟩
set_option maxRecDepth 20000 in
theorem rK_ok_8 : rK (RX8, TX8, 5) := ⟨List.mem_of_getElem? (i := 16) (by decide +kernel), List.mem_of_getElem? (i := 1) (by decide +kernel), by decide +kernel, nmX8, tyX8, tyX8_ok⟩
set_option maxRecDepth 20000 in
theorem rK_ok_9 : rK (RX9, TX9, 22) := ⟨List.mem_of_getElem? (i := 726) (by decide +kernel), List.mem_of_getElem? (i := 10) (by decide +kernel), by decide +kernel, nmX9, tyX9, tyX9_ok⟩
set_option maxRecDepth 100000 in
theorem rK_ok : ∀ q ∈ vwCl, rK q := List.forall_mem_cons.mpr ⟨rK_ok_0, List.forall_mem_cons.mpr ⟨rK_ok_1, List.forall_mem_cons.mpr ⟨rK_ok_2, List.forall_mem_cons.mpr ⟨rK_ok_3, List.forall_mem_cons.mpr ⟨rK_ok_4, List.forall_mem_cons.mpr ⟨rK_ok_5, List.forall_mem_cons.mpr ⟨rK_ok_6, List.forall_mem_cons.mpr ⟨rK_ok_7, List.forall_mem_cons.mpr ⟨rK_ok_8, List.forall_mem_cons.mpr ⟨rK_ok_9, fun _ h => absurd h List.not_mem_nil⟩⟩⟩⟩⟩⟩⟩⟩⟩⟩
set_option maxRecDepth 20000 in
theorem mt_ok_0 : mOk (m_Bells_init, yX0_init, cX0_init, 2, 0) := ⟨List.all_eq_true.mp kk_Bells_init, List.mem_of_getElem? (i := 118) (by decide +kernel), rfl, List.mem_of_getElem? (i := 5) (by decide +kernel), plainFor_of_name (by decide +kernel), ⟨by decide +kernel, by decide +kernel, by decide +kernel⟩, by decide, fun _ => rfl, Or.inr (Or.inr ⟨rfl, rfl, List.mem_of_getElem? (i := 117) (by decide +kernel), rfl⟩)⟩
set_option maxRecDepth 20000 in
theorem mt_ok_1 : mOk (m_Bells_copyFrom, yX0_copyFrom, cX0_copyFrom, 0, 1) := ⟨List.all_eq_true.mp kk_Bells_copyFrom, List.mem_of_getElem? (i := 362) (by decide +kernel), rfl, List.mem_of_getElem? (i := 5) (by decide +kernel), plainFor_of_name (by decide +kernel), ⟨by decide +kernel, by decide +kernel, by decide +kernel⟩, by decide, fun h => absurd h (by decide), Or.inl ⟨rfl, List.mem_of_getElem? (i := 360) (by decide +kernel), List.mem_of_getElem? (i := 420) (by decide +kernel), _, rfl, rfl⟩⟩
set_option maxRecDepth 20000 in
theorem mt_ok_2 : mOk (m_Bells_ring, yX0_ring, cX0_ring, 0, 5) := ⟨List.all_eq_true.mp kk_Bells_ring, List.mem_of_getElem? (i := 542) (by decide +kernel), rfl, List.mem_of_getElem? (i := 5) (by decide +kernel), plainFor_of_name (by decide +kernel), ⟨by decide +kernel, by decide +kernel, by decide +kernel⟩, by decide, fun h => absurd h (by decide), Or.inl ⟨rfl, List.mem_of_getElem? (i := 540) (by decide +kernel), List.mem_of_getElem? (i := 600) (by decide +kernel), _, rfl, rfl⟩⟩
set_option maxRecDepth 20000 in
theorem mt_ok_3 : mOk (m_Bells_rowOf, yX0_rowOf, cX0_rowOf, 0, 1) := ⟨List.all_eq_true.mp kk_Bells_rowOf, List.mem_of_getElem? (i := 599) (by decide +kernel), rfl, List.mem_of_getElem? (i := 5) (by decide +kernel), plainFor_of_name (by decide +kernel), ⟨by decide +kernel, by decide +kernel, by decide +kernel⟩, by decide, fun h => absurd h (by decide), Or.inl ⟨rfl, List.mem_of_getElem? (i := 597) (by decide +kernel), List.mem_of_getElem? (i := 657) (by decide +kernel), _, rfl, rfl⟩⟩
set_option maxRecDepth 20000 in
theorem mt_ok_4 : mOk (m_Chairs_init, yX1_init, cX1_init, 2, 0) := ⟨List.all_eq_true.mp kk_Chairs_init, List.mem_of_getElem? (i := 33) (by decide +kernel), rfl, List.mem_of_getElem? (i := 3) (by decide +kernel), plainFor_of_name (by decide +kernel), ⟨by decide +kernel, by decide +kernel, by decide +kernel⟩, by decide, fun _ => rfl, Or.inr (Or.inr ⟨rfl, rfl, List.mem_of_getElem? (i := 32) (by decide +kernel), rfl⟩)⟩
set_option maxRecDepth 20000 in
theorem mt_ok_5 : mOk (m_Chairs_copyFrom, yX1_copyFrom, cX1_copyFrom, 0, 1) := ⟨List.all_eq_true.mp kk_Chairs_copyFrom, List.mem_of_getElem? (i := 350) (by decide +kernel), rfl, List.mem_of_getElem? (i := 3) (by decide +kernel), plainFor_of_name (by decide +kernel), ⟨by decide +kernel, by decide +kernel, by decide +kernel⟩, by decide, fun h => absurd h (by decide), Or.inl ⟨rfl, List.mem_of_getElem? (i := 348) (by decide +kernel), List.mem_of_getElem? (i := 408) (by decide +kernel), _, rfl, rfl⟩⟩
set_option maxRecDepth 20000 in
theorem mt_ok_6 : mOk (m_Chairs_has, yX1_has, cX1_has, 0, 1) := ⟨List.all_eq_true.mp kk_Chairs_has, List.mem_of_getElem? (i := 409) (by decide +kernel), rfl, List.mem_of_getElem? (i := 3) (by decide +kernel), plainFor_of_name (by decide +kernel), ⟨by decide +kernel, by decide +kernel, by decide +kernel⟩, by decide, fun h => absurd h (by decide), Or.inl ⟨rfl, List.mem_of_getElem? (i := 407) (by decide +kernel), List.mem_of_getElem? (i := 467) (by decide +kernel), _, rfl, rfl⟩⟩
set_option maxRecDepth 20000 in
theorem mt_ok_7 : mOk (m_Chairs_add, yX1_add, cX1_add, 0, 1) := ⟨List.all_eq_true.mp kk_Chairs_add, List.mem_of_getElem? (i := 375) (by decide +kernel), rfl, List.mem_of_getElem? (i := 3) (by decide +kernel), plainFor_of_name (by decide +kernel), ⟨by decide +kernel, by decide +kernel, by decide +kernel⟩, by decide, fun h => absurd h (by decide), Or.inl ⟨rfl, List.mem_of_getElem? (i := 373) (by decide +kernel), List.mem_of_getElem? (i := 433) (by decide +kernel), _, rfl, rfl⟩⟩
set_option maxRecDepth 20000 in
theorem mt_ok_8 : mOk (m_Chairs_onFrom, yX1_onFrom, cX1_onFrom, 0, 2) := ⟨List.all_eq_true.mp kk_Chairs_onFrom, List.mem_of_getElem? (i := 455) (by decide +kernel), rfl, List.mem_of_getElem? (i := 3) (by decide +kernel), plainFor_of_name (by decide +kernel), ⟨by decide +kernel, by decide +kernel, by decide +kernel⟩, by decide, fun h => absurd h (by decide), Or.inl ⟨rfl, List.mem_of_getElem? (i := 453) (by decide +kernel), List.mem_of_getElem? (i := 513) (by decide +kernel), _, rfl, rfl⟩⟩
set_option maxRecDepth 20000 in
theorem mt_ok_9 : mOk (m_Chairs_forgetSitters, yX1_forgetSitters, cX1_forgetSitters, 0, 0) := ⟨List.all_eq_true.mp kk_Chairs_forgetSitters, List.mem_of_getElem? (i := 443) (by decide +kernel), rfl, List.mem_of_getElem? (i := 3) (by decide +kernel), plainFor_of_name (by decide +kernel), ⟨by decide +kernel, by decide +kernel, by decide +kernel⟩, by decide, fun h => absurd h (by decide), Or.inl ⟨rfl, List.mem_of_getElem? (i := 441) (by decide +kernel), List.mem_of_getElem? (i := 501) (by decide +kernel), _, rfl, rfl⟩⟩
set_option maxRecDepth 20000 in
theorem mt_ok_10 : mOk (m_Chairs_seat, yX1_seat, cX1_seat, 0, 2) := ⟨List.all_eq_true.mp kk_Chairs_seat, List.mem_of_getElem? (i := 538) (by decide +kernel), rfl, List.mem_of_getElem? (i := 3) (by decide +kernel), plainFor_of_name (by decide +kernel), ⟨by decide +kernel, by decide +kernel, by decide +kernel⟩, by decide, fun h => absurd h (by decide), Or.inl ⟨rfl, List.mem_of_getElem? (i := 536) (by decide +kernel), List.mem_of_getElem? (i := 596) (by decide +kernel), _, rfl, rfl⟩⟩
set_option maxRecDepth 20000 in
theorem mt_ok_11 : mOk (m_Chairs_leaveOnly, yX1_leaveOnly, cX1_leaveOnly, 0, 1) := ⟨List.all_eq_true.mp kk_Chairs_leaveOnly, List.mem_of_getElem? (i := 554) (by decide +kernel), rfl, List.mem_of_getElem? (i := 3) (by decide +kernel), plainFor_of_name (by decide +kernel), ⟨by decide +kernel, by decide +kernel, by decide +kernel⟩, by decide, fun h => absurd h (by decide), Or.inl ⟨rfl, List.mem_of_getElem? (i := 552) (by decide +kernel), List.mem_of_getElem? (i := 612) (by decide +kernel), _, rfl, rfl⟩⟩
set_option maxRecDepth 20000 in
theorem mt_ok_12 : mOk (m_Chairs_mostWorn, yX1_mostWorn, cX1_mostWorn, 0, 0) := ⟨List.all_eq_true.mp kk_Chairs_mostWorn, List.mem_of_getElem? (i := 558) (by decide +kernel), rfl, List.mem_of_getElem? (i := 3) (by decide +kernel), plainFor_of_name (by decide +kernel), ⟨by decide +kernel, by decide +kernel, by decide +kernel⟩, by decide, fun h => absurd h (by decide), Or.inl ⟨rfl, List.mem_of_getElem? (i := 557) (by decide +kernel), List.mem_of_getElem? (i := 12) (by decide +kernel), _, rfl, rfl⟩⟩
set_option maxRecDepth 20000 in
theorem mt_ok_13 : mOk (m_Chairs_takeAway, yX1_takeAway, cX1_takeAway, 0, 1) := ⟨List.all_eq_true.mp kk_Chairs_takeAway, List.mem_of_getElem? (i := 562) (by decide +kernel), rfl, List.mem_of_getElem? (i := 3) (by decide +kernel), plainFor_of_name (by decide +kernel), ⟨by decide +kernel, by decide +kernel, by decide +kernel⟩, by decide, fun h => absurd h (by decide), Or.inl ⟨rfl, List.mem_of_getElem? (i := 561) (by decide +kernel), List.mem_of_getElem? (i := 13) (by decide +kernel), _, rfl, rfl⟩⟩
set_option maxRecDepth 20000 in
theorem mt_ok_14 : mOk (m_Game_init, yX2_init, cX2_init, 2, 0) := ⟨List.all_eq_true.mp kk_Game_init, List.mem_of_getElem? (i := 27) (by decide +kernel), rfl, List.mem_of_getElem? (i := 2) (by decide +kernel), plainFor_of_name (by decide +kernel), ⟨by decide +kernel, by decide +kernel, by decide +kernel⟩, by decide, fun _ => rfl, Or.inr (Or.inr ⟨rfl, rfl, List.mem_of_getElem? (i := 26) (by decide +kernel), rfl⟩)⟩
set_option maxRecDepth 20000 in
theorem mt_ok_15 : mOk (m_Game_copyFrom, yX2_copyFrom, cX2_copyFrom, 0, 1) := ⟨List.all_eq_true.mp kk_Game_copyFrom, List.mem_of_getElem? (i := 346) (by decide +kernel), rfl, List.mem_of_getElem? (i := 2) (by decide +kernel), plainFor_of_name (by decide +kernel), ⟨by decide +kernel, by decide +kernel, by decide +kernel⟩, by decide, fun h => absurd h (by decide), Or.inl ⟨rfl, List.mem_of_getElem? (i := 344) (by decide +kernel), List.mem_of_getElem? (i := 404) (by decide +kernel), _, rfl, rfl⟩⟩
set_option maxRecDepth 20000 in
theorem mt_ok_16 : mOk (m_Game_addChair, yX2_addChair, cX2_addChair, 0, 1) := ⟨List.all_eq_true.mp kk_Game_addChair, List.mem_of_getElem? (i := 367) (by decide +kernel), rfl, List.mem_of_getElem? (i := 2) (by decide +kernel), plainFor_of_name (by decide +kernel), ⟨by decide +kernel, by decide +kernel, by decide +kernel⟩, by decide, fun h => absurd h (by decide), Or.inl ⟨rfl, List.mem_of_getElem? (i := 365) (by decide +kernel), List.mem_of_getElem? (i := 425) (by decide +kernel), _, rfl, rfl⟩⟩
set_option maxRecDepth 20000 in
theorem mt_ok_17 : mOk (m_Game_addPlayer, yX2_addPlayer, cX2_addPlayer, 0, 2) := ⟨List.all_eq_true.mp kk_Game_addPlayer, List.mem_of_getElem? (i := 392) (by decide +kernel), rfl, List.mem_of_getElem? (i := 2) (by decide +kernel), plainFor_of_name (by decide +kernel), ⟨by decide +kernel, by decide +kernel, by decide +kernel⟩, by decide, fun h => absurd h (by decide), Or.inl ⟨rfl, List.mem_of_getElem? (i := 390) (by decide +kernel), List.mem_of_getElem? (i := 450) (by decide +kernel), _, rfl, rfl⟩⟩
set_option maxRecDepth 20000 in
theorem mt_ok_18 : mOk (m_Game_retune, yX2_retune, cX2_retune, 0, 2) := ⟨List.all_eq_true.mp kk_Game_retune, List.mem_of_getElem? (i := 405) (by decide +kernel), rfl, List.mem_of_getElem? (i := 2) (by decide +kernel), plainFor_of_name (by decide +kernel), ⟨by decide +kernel, by decide +kernel, by decide +kernel⟩, by decide, fun h => absurd h (by decide), Or.inl ⟨rfl, List.mem_of_getElem? (i := 403) (by decide +kernel), List.mem_of_getElem? (i := 463) (by decide +kernel), _, rfl, rfl⟩⟩
set_option maxRecDepth 20000 in
theorem mt_ok_19 : mOk (m_Game_retrain, yX2_retrain, cX2_retrain, 0, 3) := ⟨List.all_eq_true.mp kk_Game_retrain, List.mem_of_getElem? (i := 417) (by decide +kernel), rfl, List.mem_of_getElem? (i := 2) (by decide +kernel), plainFor_of_name (by decide +kernel), ⟨by decide +kernel, by decide +kernel, by decide +kernel⟩, by decide, fun h => absurd h (by decide), Or.inl ⟨rfl, List.mem_of_getElem? (i := 415) (by decide +kernel), List.mem_of_getElem? (i := 475) (by decide +kernel), _, rfl, rfl⟩⟩
set_option maxRecDepth 20000 in
theorem mt_ok_20 : mOk (m_Game_startMusic, yX2_startMusic, cX2_startMusic, 0, 0) := ⟨List.all_eq_true.mp kk_Game_startMusic, List.mem_of_getElem? (i := 429) (by decide +kernel), rfl, List.mem_of_getElem? (i := 2) (by decide +kernel), plainFor_of_name (by decide +kernel), ⟨by decide +kernel, by decide +kernel, by decide +kernel⟩, by decide, fun h => absurd h (by decide), Or.inl ⟨rfl, List.mem_of_getElem? (i := 427) (by decide +kernel), List.mem_of_getElem? (i := 487) (by decide +kernel), _, rfl, rfl⟩⟩
set_option maxRecDepth 20000 in
theorem mt_ok_21 : mOk (m_Game_walk, yX2_walk, cX2_walk, 0, 1) := ⟨List.all_eq_true.mp kk_Game_walk, List.mem_of_getElem? (i := 463) (by decide +kernel), rfl, List.mem_of_getElem? (i := 2) (by decide +kernel), plainFor_of_name (by decide +kernel), ⟨by decide +kernel, by decide +kernel, by decide +kernel⟩, by decide, fun h => absurd h (by decide), Or.inl ⟨rfl, List.mem_of_getElem? (i := 461) (by decide +kernel), List.mem_of_getElem? (i := 521) (by decide +kernel), _, rfl, rfl⟩⟩
set_option maxRecDepth 20000 in
theorem mt_ok_22 : mOk (m_Game_stopMusic, yX2_stopMusic, cX2_stopMusic, 0, 1) := ⟨List.all_eq_true.mp kk_Game_stopMusic, List.mem_of_getElem? (i := 476) (by decide +kernel), rfl, List.mem_of_getElem? (i := 2) (by decide +kernel), plainFor_of_name (by decide +kernel), ⟨by decide +kernel, by decide +kernel, by decide +kernel⟩, by decide, fun h => absurd h (by decide), Or.inl ⟨rfl, List.mem_of_getElem? (i := 474) (by decide +kernel), List.mem_of_getElem? (i := 534) (by decide +kernel), _, rfl, rfl⟩⟩
set_option maxRecDepth 20000 in
theorem mt_ok_23 : mOk (m_Game_choose, yX2_choose, cX2_choose, 0, 2) := ⟨List.all_eq_true.mp kk_Game_choose, List.mem_of_getElem? (i := 570) (by decide +kernel), rfl, List.mem_of_getElem? (i := 2) (by decide +kernel), plainFor_of_name (by decide +kernel), ⟨by decide +kernel, by decide +kernel, by decide +kernel⟩, by decide, fun h => absurd h (by decide), Or.inl ⟨rfl, List.mem_of_getElem? (i := 568) (by decide +kernel), List.mem_of_getElem? (i := 628) (by decide +kernel), _, rfl, rfl⟩⟩
set_option maxRecDepth 20000 in
theorem mt_ok_24 : mOk (m_Game_perform, yX2_perform, cX2_perform, 0, 4) := ⟨List.all_eq_true.mp kk_Game_perform, List.mem_of_getElem? (i := 710) (by decide +kernel), rfl, List.mem_of_getElem? (i := 2) (by decide +kernel), plainFor_of_name (by decide +kernel), ⟨by decide +kernel, by decide +kernel, by decide +kernel⟩, by decide, fun h => absurd h (by decide), Or.inl ⟨rfl, List.mem_of_getElem? (i := 708) (by decide +kernel), List.mem_of_getElem? (i := 768) (by decide +kernel), _, rfl, rfl⟩⟩
set_option maxRecDepth 20000 in
theorem mt_ok_25 : mOk (m_Game_settlePlayers, yX2_settlePlayers, cX2_settlePlayers, 0, 1) := ⟨List.all_eq_true.mp kk_Game_settlePlayers, List.mem_of_getElem? (i := 525) (by decide +kernel), rfl, List.mem_of_getElem? (i := 2) (by decide +kernel), plainFor_of_name (by decide +kernel), ⟨by decide +kernel, by decide +kernel, by decide +kernel⟩, by decide, fun h => absurd h (by decide), Or.inl ⟨rfl, List.mem_of_getElem? (i := 524) (by decide +kernel), List.mem_of_getElem? (i := 9) (by decide +kernel), _, rfl, rfl⟩⟩
set_option maxRecDepth 20000 in
theorem mt_ok_26 : mOk (m_Game_settleChairs, yX2_settleChairs, cX2_settleChairs, 0, 1) := ⟨List.all_eq_true.mp kk_Game_settleChairs, List.mem_of_getElem? (i := 534) (by decide +kernel), rfl, List.mem_of_getElem? (i := 2) (by decide +kernel), plainFor_of_name (by decide +kernel), ⟨by decide +kernel, by decide +kernel, by decide +kernel⟩, by decide, fun h => absurd h (by decide), Or.inl ⟨rfl, List.mem_of_getElem? (i := 533) (by decide +kernel), List.mem_of_getElem? (i := 10) (by decide +kernel), _, rfl, rfl⟩⟩
set_option maxRecDepth 20000 in
theorem mt_ok_27 : mOk (m_Game_goOn, yX2_goOn, cX2_goOn, 0, 0) := ⟨List.all_eq_true.mp kk_Game_goOn, List.mem_of_getElem? (i := 547) (by decide +kernel), rfl, List.mem_of_getElem? (i := 2) (by decide +kernel), plainFor_of_name (by decide +kernel), ⟨by decide +kernel, by decide +kernel, by decide +kernel⟩, by decide, fun h => absurd h (by decide), Or.inl ⟨rfl, List.mem_of_getElem? (i := 546) (by decide +kernel), List.mem_of_getElem? (i := 11) (by decide +kernel), _, rfl, rfl⟩⟩
set_option maxRecDepth 20000 in
theorem mt_ok_28 : mOk (m_Grope_init, yX3_init, cX3_init, 2, 0) := ⟨List.all_eq_true.mp kk_Grope_init, List.mem_of_getElem? (i := 213) (by decide +kernel), rfl, List.mem_of_getElem? (i := 7) (by decide +kernel), plainFor_of_name (by decide +kernel), ⟨by decide +kernel, by decide +kernel, by decide +kernel⟩, by decide, fun _ => rfl, Or.inr (Or.inr ⟨rfl, rfl, List.mem_of_getElem? (i := 212) (by decide +kernel), rfl⟩)⟩
set_option maxRecDepth 20000 in
theorem mt_ok_29 : mOk (m_Grope_follow, yX3_follow, cX3_follow, 0, 3) := ⟨List.all_eq_true.mp kk_Grope_follow, List.mem_of_getElem? (i := 480) (by decide +kernel), rfl, List.mem_of_getElem? (i := 7) (by decide +kernel), plainFor_of_name (by decide +kernel), ⟨by decide +kernel, by decide +kernel, by decide +kernel⟩, by decide, fun h => absurd h (by decide), Or.inl ⟨rfl, List.mem_of_getElem? (i := 478) (by decide +kernel), List.mem_of_getElem? (i := 538) (by decide +kernel), _, rfl, rfl⟩⟩
set_option maxRecDepth 20000 in
theorem mt_ok_30 : mOk (m_Grope_begin, yX3_begin, cX3_begin, 0, 3) := ⟨List.all_eq_true.mp kk_Grope_begin, List.mem_of_getElem? (i := 484) (by decide +kernel), rfl, List.mem_of_getElem? (i := 7) (by decide +kernel), plainFor_of_name (by decide +kernel), ⟨by decide +kernel, by decide +kernel, by decide +kernel⟩, by decide, fun h => absurd h (by decide), Or.inl ⟨rfl, List.mem_of_getElem? (i := 483) (by decide +kernel), List.mem_of_getElem? (i := 0) (by decide +kernel), _, rfl, rfl⟩⟩
set_option maxRecDepth 20000 in
theorem mt_ok_31 : mOk (m_Grope_gropes, yX3_gropes, cX3_gropes, 0, 1) := ⟨List.all_eq_true.mp kk_Grope_gropes, List.mem_of_getElem? (i := 493) (by decide +kernel), rfl, List.mem_of_getElem? (i := 7) (by decide +kernel), plainFor_of_name (by decide +kernel), ⟨by decide +kernel, by decide +kernel, by decide +kernel⟩, by decide, fun h => absurd h (by decide), Or.inl ⟨rfl, List.mem_of_getElem? (i := 492) (by decide +kernel), List.mem_of_getElem? (i := 2) (by decide +kernel), _, rfl, rfl⟩⟩
set_option maxRecDepth 20000 in
theorem mt_ok_32 : mOk (m_Grope_sendOut, yX3_sendOut, cX3_sendOut, 0, 2) := ⟨List.all_eq_true.mp kk_Grope_sendOut, List.mem_of_getElem? (i := 489) (by decide +kernel), rfl, List.mem_of_getElem? (i := 7) (by decide +kernel), plainFor_of_name (by decide +kernel), ⟨by decide +kernel, by decide +kernel, by decide +kernel⟩, by decide, fun h => absurd h (by decide), Or.inl ⟨rfl, List.mem_of_getElem? (i := 488) (by decide +kernel), List.mem_of_getElem? (i := 1) (by decide +kernel), _, rfl, rfl⟩⟩
set_option maxRecDepth 20000 in
theorem mt_ok_33 : mOk (m_Grope_takeAim, yX3_takeAim, cX3_takeAim, 0, 2) := ⟨List.all_eq_true.mp kk_Grope_takeAim, List.mem_of_getElem? (i := 501) (by decide +kernel), rfl, List.mem_of_getElem? (i := 7) (by decide +kernel), plainFor_of_name (by decide +kernel), ⟨by decide +kernel, by decide +kernel, by decide +kernel⟩, by decide, fun h => absurd h (by decide), Or.inl ⟨rfl, List.mem_of_getElem? (i := 500) (by decide +kernel), List.mem_of_getElem? (i := 4) (by decide +kernel), _, rfl, rfl⟩⟩
set_option maxRecDepth 20000 in
theorem mt_ok_34 : mOk (m_Grope_sitDown, yX3_sitDown, cX3_sitDown, 0, 2) := ⟨List.all_eq_true.mp kk_Grope_sitDown, List.mem_of_getElem? (i := 505) (by decide +kernel), rfl, List.mem_of_getElem? (i := 7) (by decide +kernel), plainFor_of_name (by decide +kernel), ⟨by decide +kernel, by decide +kernel, by decide +kernel⟩, by decide, fun h => absurd h (by decide), Or.inl ⟨rfl, List.mem_of_getElem? (i := 504) (by decide +kernel), List.mem_of_getElem? (i := 5) (by decide +kernel), _, rfl, rfl⟩⟩
set_option maxRecDepth 20000 in
theorem mt_ok_35 : mOk (m_Grope_nearest, yX3_nearest, cX3_nearest, 0, 2) := ⟨List.all_eq_true.mp kk_Grope_nearest, List.mem_of_getElem? (i := 509) (by decide +kernel), rfl, List.mem_of_getElem? (i := 7) (by decide +kernel), plainFor_of_name (by decide +kernel), ⟨by decide +kernel, by decide +kernel, by decide +kernel⟩, by decide, fun h => absurd h (by decide), Or.inl ⟨rfl, List.mem_of_getElem? (i := 508) (by decide +kernel), List.mem_of_getElem? (i := 6) (by decide +kernel), _, rfl, rfl⟩⟩
set_option maxRecDepth 20000 in
theorem mt_ok_36 : mOk (m_Grope_bump, yX3_bump, cX3_bump, 0, 1) := ⟨List.all_eq_true.mp kk_Grope_bump, List.mem_of_getElem? (i := 513) (by decide +kernel), rfl, List.mem_of_getElem? (i := 7) (by decide +kernel), plainFor_of_name (by decide +kernel), ⟨by decide +kernel, by decide +kernel, by decide +kernel⟩, by decide, fun h => absurd h (by decide), Or.inl ⟨rfl, List.mem_of_getElem? (i := 512) (by decide +kernel), List.mem_of_getElem? (i := 7) (by decide +kernel), _, rfl, rfl⟩⟩
set_option maxRecDepth 20000 in
theorem mt_ok_37 : mOk (m_Grope_ring, yX3_ring, cX3_ring, 0, 2) := ⟨List.all_eq_true.mp kk_Grope_ring, List.mem_of_getElem? (i := 517) (by decide +kernel), rfl, List.mem_of_getElem? (i := 7) (by decide +kernel), plainFor_of_name (by decide +kernel), ⟨by decide +kernel, by decide +kernel, by decide +kernel⟩, by decide, fun h => absurd h (by decide), Or.inl ⟨rfl, List.mem_of_getElem? (i := 516) (by decide +kernel), List.mem_of_getElem? (i := 8) (by decide +kernel), _, rfl, rfl⟩⟩
set_option maxRecDepth 20000 in
theorem mt_ok_38 : mOk (m_Grope_settle, yX3_settle, cX3_settle, 0, 1) := ⟨List.all_eq_true.mp kk_Grope_settle, List.mem_of_getElem? (i := 497) (by decide +kernel), rfl, List.mem_of_getElem? (i := 7) (by decide +kernel), plainFor_of_name (by decide +kernel), ⟨by decide +kernel, by decide +kernel, by decide +kernel⟩, by decide, fun h => absurd h (by decide), Or.inl ⟨rfl, List.mem_of_getElem? (i := 496) (by decide +kernel), List.mem_of_getElem? (i := 3) (by decide +kernel), _, rfl, rfl⟩⟩
set_option maxRecDepth 20000 in
theorem mt_ok_39 : mOk (m_History_init, yX4_init, cX4_init, 2, 0) := ⟨List.all_eq_true.mp kk_History_init, List.mem_of_getElem? (i := 193) (by decide +kernel), rfl, List.mem_of_getElem? (i := 6) (by decide +kernel), plainFor_of_name (by decide +kernel), ⟨by decide +kernel, by decide +kernel, by decide +kernel⟩, by decide, fun _ => rfl, Or.inr (Or.inr ⟨rfl, rfl, List.mem_of_getElem? (i := 192) (by decide +kernel), rfl⟩)⟩
set_option maxRecDepth 20000 in
theorem mt_ok_40 : mOk (m_History_prepare, yX4_prepare, cX4_prepare, 0, 1) := ⟨List.all_eq_true.mp kk_History_prepare, List.mem_of_getElem? (i := 342) (by decide +kernel), rfl, List.mem_of_getElem? (i := 6) (by decide +kernel), plainFor_of_name (by decide +kernel), ⟨by decide +kernel, by decide +kernel, by decide +kernel⟩, by decide, fun h => absurd h (by decide), Or.inl ⟨rfl, List.mem_of_getElem? (i := 340) (by decide +kernel), List.mem_of_getElem? (i := 400) (by decide +kernel), _, rfl, rfl⟩⟩
set_option maxRecDepth 20000 in
theorem mt_ok_41 : mOk (m_History_settle, yX4_settle, cX4_settle, 0, 1) := ⟨List.all_eq_true.mp kk_History_settle, List.mem_of_getElem? (i := 381) (by decide +kernel), rfl, List.mem_of_getElem? (i := 6) (by decide +kernel), plainFor_of_name (by decide +kernel), ⟨by decide +kernel, by decide +kernel, by decide +kernel⟩, by decide, fun h => absurd h (by decide), Or.inl ⟨rfl, List.mem_of_getElem? (i := 379) (by decide +kernel), List.mem_of_getElem? (i := 439) (by decide +kernel), _, rfl, rfl⟩⟩
set_option maxRecDepth 20000 in
theorem mt_ok_42 : mOk (m_History_goBack, yX4_goBack, cX4_goBack, 0, 1) := ⟨List.all_eq_true.mp kk_History_goBack, List.mem_of_getElem? (i := 659) (by decide +kernel), rfl, List.mem_of_getElem? (i := 6) (by decide +kernel), plainFor_of_name (by decide +kernel), ⟨by decide +kernel, by decide +kernel, by decide +kernel⟩, by decide, fun h => absurd h (by decide), Or.inl ⟨rfl, List.mem_of_getElem? (i := 657) (by decide +kernel), List.mem_of_getElem? (i := 717) (by decide +kernel), _, rfl, rfl⟩⟩
set_option maxRecDepth 20000 in
theorem mt_ok_43 : mOk (m_Orders_init, yX5_init, cX5_init, 2, 0) := ⟨List.all_eq_true.mp kk_Orders_init, List.mem_of_getElem? (i := 282) (by decide +kernel), rfl, List.mem_of_getElem? (i := 9) (by decide +kernel), plainFor_of_name (by decide +kernel), ⟨by decide +kernel, by decide +kernel, by decide +kernel⟩, by decide, fun _ => rfl, Or.inr (Or.inr ⟨rfl, rfl, List.mem_of_getElem? (i := 281) (by decide +kernel), rfl⟩)⟩
set_option maxRecDepth 20000 in
theorem mt_ok_44 : mOk (m_Orders_rehearse, yX5_rehearse, cX5_rehearse, 0, 3) := ⟨List.all_eq_true.mp kk_Orders_rehearse, List.mem_of_getElem? (i := 687) (by decide +kernel), rfl, List.mem_of_getElem? (i := 9) (by decide +kernel), plainFor_of_name (by decide +kernel), ⟨by decide +kernel, by decide +kernel, by decide +kernel⟩, by decide, fun h => absurd h (by decide), Or.inl ⟨rfl, List.mem_of_getElem? (i := 685) (by decide +kernel), List.mem_of_getElem? (i := 745) (by decide +kernel), _, rfl, rfl⟩⟩
set_option maxRecDepth 20000 in
theorem mt_ok_45 : mOk (m_Orders_judge, yX5_judge, cX5_judge, 0, 1) := ⟨List.all_eq_true.mp kk_Orders_judge, List.mem_of_getElem? (i := 719) (by decide +kernel), rfl, List.mem_of_getElem? (i := 9) (by decide +kernel), plainFor_of_name (by decide +kernel), ⟨by decide +kernel, by decide +kernel, by decide +kernel⟩, by decide, fun h => absurd h (by decide), Or.inl ⟨rfl, List.mem_of_getElem? (i := 718) (by decide +kernel), List.mem_of_getElem? (i := 19) (by decide +kernel), _, rfl, rfl⟩⟩
set_option maxRecDepth 20000 in
theorem mt_ok_46 : mOk (m_Orders_readOrder, yX5_readOrder, cX5_readOrder, 0, 1) := ⟨List.all_eq_true.mp kk_Orders_readOrder, List.mem_of_getElem? (i := 692) (by decide +kernel), rfl, List.mem_of_getElem? (i := 9) (by decide +kernel), plainFor_of_name (by decide +kernel), ⟨by decide +kernel, by decide +kernel, by decide +kernel⟩, by decide, fun h => absurd h (by decide), Or.inl ⟨rfl, List.mem_of_getElem? (i := 691) (by decide +kernel), List.mem_of_getElem? (i := 16) (by decide +kernel), _, rfl, rfl⟩⟩
set_option maxRecDepth 20000 in
theorem mt_ok_47 : mOk (m_Orders_passes, yX5_passes, cX5_passes, 0, 2) := ⟨List.all_eq_true.mp kk_Orders_passes, List.mem_of_getElem? (i := 706) (by decide +kernel), rfl, List.mem_of_getElem? (i := 9) (by decide +kernel), plainFor_of_name (by decide +kernel), ⟨by decide +kernel, by decide +kernel, by decide +kernel⟩, by decide, fun h => absurd h (by decide), Or.inl ⟨rfl, List.mem_of_getElem? (i := 705) (by decide +kernel), List.mem_of_getElem? (i := 18) (by decide +kernel), _, rfl, rfl⟩⟩
set_option maxRecDepth 20000 in
theorem mt_ok_48 : mOk (m_Orders_readNumber, yX5_readNumber, cX5_readNumber, 0, 1) := ⟨List.all_eq_true.mp kk_Orders_readNumber, List.mem_of_getElem? (i := 700) (by decide +kernel), rfl, List.mem_of_getElem? (i := 9) (by decide +kernel), plainFor_of_name (by decide +kernel), ⟨by decide +kernel, by decide +kernel, by decide +kernel⟩, by decide, fun h => absurd h (by decide), Or.inl ⟨rfl, List.mem_of_getElem? (i := 699) (by decide +kernel), List.mem_of_getElem? (i := 17) (by decide +kernel), _, rfl, rfl⟩⟩
set_option maxRecDepth 20000 in
theorem mt_ok_49 : mOk (m_Players_init, yX6_init, cX6_init, 2, 0) := ⟨List.all_eq_true.mp kk_Players_init, List.mem_of_getElem? (i := 61) (by decide +kernel), rfl, List.mem_of_getElem? (i := 4) (by decide +kernel), plainFor_of_name (by decide +kernel), ⟨by decide +kernel, by decide +kernel, by decide +kernel⟩, by decide, fun _ => rfl, Or.inr (Or.inr ⟨rfl, rfl, List.mem_of_getElem? (i := 60) (by decide +kernel), rfl⟩)⟩
set_option maxRecDepth 20000 in
theorem mt_ok_50 : mOk (m_Players_copyFrom, yX6_copyFrom, cX6_copyFrom, 0, 1) := ⟨List.all_eq_true.mp kk_Players_copyFrom, List.mem_of_getElem? (i := 357) (by decide +kernel), rfl, List.mem_of_getElem? (i := 4) (by decide +kernel), plainFor_of_name (by decide +kernel), ⟨by decide +kernel, by decide +kernel, by decide +kernel⟩, by decide, fun h => absurd h (by decide), Or.inl ⟨rfl, List.mem_of_getElem? (i := 355) (by decide +kernel), List.mem_of_getElem? (i := 415) (by decide +kernel), _, rfl, rfl⟩⟩
set_option maxRecDepth 20000 in
theorem mt_ok_51 : mOk (m_Players_has, yX6_has, cX6_has, 0, 1) := ⟨List.all_eq_true.mp kk_Players_has, List.mem_of_getElem? (i := 421) (by decide +kernel), rfl, List.mem_of_getElem? (i := 4) (by decide +kernel), plainFor_of_name (by decide +kernel), ⟨by decide +kernel, by decide +kernel, by decide +kernel⟩, by decide, fun h => absurd h (by decide), Or.inl ⟨rfl, List.mem_of_getElem? (i := 419) (by decide +kernel), List.mem_of_getElem? (i := 479) (by decide +kernel), _, rfl, rfl⟩⟩
set_option maxRecDepth 20000 in
theorem mt_ok_52 : mOk (m_Players_isPlaying, yX6_isPlaying, cX6_isPlaying, 0, 1) := ⟨List.all_eq_true.mp kk_Players_isPlaying, List.mem_of_getElem? (i := 451) (by decide +kernel), rfl, List.mem_of_getElem? (i := 4) (by decide +kernel), plainFor_of_name (by decide +kernel), ⟨by decide +kernel, by decide +kernel, by decide +kernel⟩, by decide, fun h => absurd h (by decide), Or.inl ⟨rfl, List.mem_of_getElem? (i := 449) (by decide +kernel), List.mem_of_getElem? (i := 509) (by decide +kernel), _, rfl, rfl⟩⟩
set_option maxRecDepth 20000 in
theorem mt_ok_53 : mOk (m_Players_hearsTone, yX6_hearsTone, cX6_hearsTone, 0, 2) := ⟨List.all_eq_true.mp kk_Players_hearsTone, List.mem_of_getElem? (i := 521) (by decide +kernel), rfl, List.mem_of_getElem? (i := 4) (by decide +kernel), plainFor_of_name (by decide +kernel), ⟨by decide +kernel, by decide +kernel, by decide +kernel⟩, by decide, fun h => absurd h (by decide), Or.inl ⟨rfl, List.mem_of_getElem? (i := 519) (by decide +kernel), List.mem_of_getElem? (i := 579) (by decide +kernel), _, rfl, rfl⟩⟩
set_option maxRecDepth 20000 in
theorem mt_ok_54 : mOk (m_Players_add, yX6_add, cX6_add, 0, 2) := ⟨List.all_eq_true.mp kk_Players_add, List.mem_of_getElem? (i := 396) (by decide +kernel), rfl, List.mem_of_getElem? (i := 4) (by decide +kernel), plainFor_of_name (by decide +kernel), ⟨by decide +kernel, by decide +kernel, by decide +kernel⟩, by decide, fun h => absurd h (by decide), Or.inl ⟨rfl, List.mem_of_getElem? (i := 394) (by decide +kernel), List.mem_of_getElem? (i := 454) (by decide +kernel), _, rfl, rfl⟩⟩
set_option maxRecDepth 20000 in
theorem mt_ok_55 : mOk (m_Players_lineUp, yX6_lineUp, cX6_lineUp, 0, 1) := ⟨List.all_eq_true.mp kk_Players_lineUp, List.mem_of_getElem? (i := 447) (by decide +kernel), rfl, List.mem_of_getElem? (i := 4) (by decide +kernel), plainFor_of_name (by decide +kernel), ⟨by decide +kernel, by decide +kernel, by decide +kernel⟩, by decide, fun h => absurd h (by decide), Or.inl ⟨rfl, List.mem_of_getElem? (i := 445) (by decide +kernel), List.mem_of_getElem? (i := 505) (by decide +kernel), _, rfl, rfl⟩⟩
set_option maxRecDepth 20000 in
theorem mt_ok_56 : mOk (m_Players_walk, yX6_walk, cX6_walk, 0, 2) := ⟨List.all_eq_true.mp kk_Players_walk, List.mem_of_getElem? (i := 468) (by decide +kernel), rfl, List.mem_of_getElem? (i := 4) (by decide +kernel), plainFor_of_name (by decide +kernel), ⟨by decide +kernel, by decide +kernel, by decide +kernel⟩, by decide, fun h => absurd h (by decide), Or.inl ⟨rfl, List.mem_of_getElem? (i := 466) (by decide +kernel), List.mem_of_getElem? (i := 526) (by decide +kernel), _, rfl, rfl⟩⟩
set_option maxRecDepth 20000 in
theorem mt_ok_57 : mOk (m_Players_leave, yX6_leave, cX6_leave, 0, 2) := ⟨List.all_eq_true.mp kk_Players_leave, List.mem_of_getElem? (i := 530) (by decide +kernel), rfl, List.mem_of_getElem? (i := 4) (by decide +kernel), plainFor_of_name (by decide +kernel), ⟨by decide +kernel, by decide +kernel, by decide +kernel⟩, by decide, fun h => absurd h (by decide), Or.inl ⟨rfl, List.mem_of_getElem? (i := 528) (by decide +kernel), List.mem_of_getElem? (i := 588) (by decide +kernel), _, rfl, rfl⟩⟩
set_option maxRecDepth 20000 in
theorem mt_ok_58 : mOk (m_Players_howManyPlay, yX6_howManyPlay, cX6_howManyPlay, 0, 0) := ⟨List.all_eq_true.mp kk_Players_howManyPlay, List.mem_of_getElem? (i := 433) (by decide +kernel), rfl, List.mem_of_getElem? (i := 4) (by decide +kernel), plainFor_of_name (by decide +kernel), ⟨by decide +kernel, by decide +kernel, by decide +kernel⟩, by decide, fun h => absurd h (by decide), Or.inl ⟨rfl, List.mem_of_getElem? (i := 431) (by decide +kernel), List.mem_of_getElem? (i := 491) (by decide +kernel), _, rfl, rfl⟩⟩
set_option maxRecDepth 20000 in
theorem mt_ok_59 : mOk (m_Players_firstPlaying, yX6_firstPlaying, cX6_firstPlaying, 0, 0) := ⟨List.all_eq_true.mp kk_Players_firstPlaying, List.mem_of_getElem? (i := 646) (by decide +kernel), rfl, List.mem_of_getElem? (i := 4) (by decide +kernel), plainFor_of_name (by decide +kernel), ⟨by decide +kernel, by decide +kernel, by decide +kernel⟩, by decide, fun h => absurd h (by decide), Or.inl ⟨rfl, List.mem_of_getElem? (i := 644) (by decide +kernel), List.mem_of_getElem? (i := 704) (by decide +kernel), _, rfl, rfl⟩⟩
set_option maxRecDepth 20000 in
theorem mt_ok_60 : mOk (m_Players_allSittings, yX6_allSittings, cX6_allSittings, 0, 0) := ⟨List.all_eq_true.mp kk_Players_allSittings, List.mem_of_getElem? (i := 637) (by decide +kernel), rfl, List.mem_of_getElem? (i := 4) (by decide +kernel), plainFor_of_name (by decide +kernel), ⟨by decide +kernel, by decide +kernel, by decide +kernel⟩, by decide, fun h => absurd h (by decide), Or.inl ⟨rfl, List.mem_of_getElem? (i := 635) (by decide +kernel), List.mem_of_getElem? (i := 695) (by decide +kernel), _, rfl, rfl⟩⟩
set_option maxRecDepth 20000 in
theorem mt_ok_61 : mOk (m_Players_allBumps, yX6_allBumps, cX6_allBumps, 0, 0) := ⟨List.all_eq_true.mp kk_Players_allBumps, List.mem_of_getElem? (i := 621) (by decide +kernel), rfl, List.mem_of_getElem? (i := 4) (by decide +kernel), plainFor_of_name (by decide +kernel), ⟨by decide +kernel, by decide +kernel, by decide +kernel⟩, by decide, fun h => absurd h (by decide), Or.inl ⟨rfl, List.mem_of_getElem? (i := 619) (by decide +kernel), List.mem_of_getElem? (i := 679) (by decide +kernel), _, rfl, rfl⟩⟩
set_option maxRecDepth 20000 in
theorem mt_ok_62 : mOk (m_Players_allSteps, yX6_allSteps, cX6_allSteps, 0, 0) := ⟨List.all_eq_true.mp kk_Players_allSteps, List.mem_of_getElem? (i := 642) (by decide +kernel), rfl, List.mem_of_getElem? (i := 4) (by decide +kernel), plainFor_of_name (by decide +kernel), ⟨by decide +kernel, by decide +kernel, by decide +kernel⟩, by decide, fun h => absurd h (by decide), Or.inl ⟨rfl, List.mem_of_getElem? (i := 640) (by decide +kernel), List.mem_of_getElem? (i := 700) (by decide +kernel), _, rfl, rfl⟩⟩
set_option maxRecDepth 20000 in
theorem mt_ok_63 : mOk (m_Players_sum, yX6_sum, cX6_sum, 0, 1) := ⟨List.all_eq_true.mp kk_Players_sum, List.mem_of_getElem? (i := 625) (by decide +kernel), rfl, List.mem_of_getElem? (i := 4) (by decide +kernel), plainFor_of_name (by decide +kernel), ⟨by decide +kernel, by decide +kernel, by decide +kernel⟩, by decide, fun h => absurd h (by decide), Or.inl ⟨rfl, List.mem_of_getElem? (i := 624) (by decide +kernel), List.mem_of_getElem? (i := 14) (by decide +kernel), _, rfl, rfl⟩⟩
set_option maxRecDepth 20000 in
theorem mt_ok_64 : mOk (m_Text_init, yX7_init, cX7_init, 2, 0) := ⟨List.all_eq_true.mp kk_Text_init, List.mem_of_getElem? (i := 267) (by decide +kernel), rfl, List.mem_of_getElem? (i := 8) (by decide +kernel), plainFor_of_name (by decide +kernel), ⟨by decide +kernel, by decide +kernel, by decide +kernel⟩, by decide, fun _ => rfl, Or.inr (Or.inr ⟨rfl, rfl, List.mem_of_getElem? (i := 266) (by decide +kernel), rfl⟩)⟩
set_option maxRecDepth 20000 in
theorem mt_ok_65 : mOk (m_Text_append, yX7_append, cX7_append, 0, 1) := ⟨List.all_eq_true.mp kk_Text_append, List.mem_of_getElem? (i := 668) (by decide +kernel), rfl, List.mem_of_getElem? (i := 8) (by decide +kernel), plainFor_of_name (by decide +kernel), ⟨by decide +kernel, by decide +kernel, by decide +kernel⟩, by decide, fun h => absurd h (by decide), Or.inl ⟨rfl, List.mem_of_getElem? (i := 666) (by decide +kernel), List.mem_of_getElem? (i := 726) (by decide +kernel), _, rfl, rfl⟩⟩
set_option maxRecDepth 20000 in
theorem mt_ok_66 : mOk (m_Text_clear, yX7_clear, cX7_clear, 0, 0) := ⟨List.all_eq_true.mp kk_Text_clear, List.mem_of_getElem? (i := 679) (by decide +kernel), rfl, List.mem_of_getElem? (i := 8) (by decide +kernel), plainFor_of_name (by decide +kernel), ⟨by decide +kernel, by decide +kernel, by decide +kernel⟩, by decide, fun h => absurd h (by decide), Or.inl ⟨rfl, List.mem_of_getElem? (i := 677) (by decide +kernel), List.mem_of_getElem? (i := 737) (by decide +kernel), _, rfl, rfl⟩⟩
set_option maxRecDepth 20000 in
theorem mt_ok_67 : mOk (m_Text_signAt, yX7_signAt, cX7_signAt, 0, 1) := ⟨List.all_eq_true.mp kk_Text_signAt, List.mem_of_getElem? (i := 696) (by decide +kernel), rfl, List.mem_of_getElem? (i := 8) (by decide +kernel), plainFor_of_name (by decide +kernel), ⟨by decide +kernel, by decide +kernel, by decide +kernel⟩, by decide, fun h => absurd h (by decide), Or.inl ⟨rfl, List.mem_of_getElem? (i := 694) (by decide +kernel), List.mem_of_getElem? (i := 754) (by decide +kernel), _, rfl, rfl⟩⟩
set_option maxRecDepth 20000 in
theorem mt_ok_68 : mOk (m_Bc_init, yX8_init, cX8_init, 2, 0) := ⟨List.all_eq_true.mp kk_Bc_init, List.mem_of_getElem? (i := 19) (by decide +kernel), rfl, List.mem_of_getElem? (i := 1) (by decide +kernel), plainFor_of_name (by decide +kernel), ⟨by decide +kernel, by decide +kernel, by decide +kernel⟩, by decide, fun _ => rfl, Or.inr (Or.inr ⟨rfl, rfl, List.mem_of_getElem? (i := 18) (by decide +kernel), rfl⟩)⟩
set_option maxRecDepth 20000 in
theorem mt_ok_69 : mOk (m_Bc_chair, yX8_chair, cX8_chair, 0, 1) := ⟨List.all_eq_true.mp kk_Bc_chair, List.mem_of_getElem? (i := 338) (by decide +kernel), rfl, List.mem_of_getElem? (i := 1) (by decide +kernel), plainFor_of_name (by decide +kernel), ⟨by decide +kernel, by decide +kernel, by decide +kernel⟩, by decide, fun h => absurd h (by decide), Or.inl ⟨rfl, List.mem_of_getElem? (i := 336) (by decide +kernel), List.mem_of_getElem? (i := 396) (by decide +kernel), _, rfl, rfl⟩⟩
set_option maxRecDepth 20000 in
theorem mt_ok_70 : mOk (m_Bc_player, yX8_player, cX8_player, 0, 2) := ⟨List.all_eq_true.mp kk_Bc_player, List.mem_of_getElem? (i := 388) (by decide +kernel), rfl, List.mem_of_getElem? (i := 1) (by decide +kernel), plainFor_of_name (by decide +kernel), ⟨by decide +kernel, by decide +kernel, by decide +kernel⟩, by decide, fun h => absurd h (by decide), Or.inl ⟨rfl, List.mem_of_getElem? (i := 386) (by decide +kernel), List.mem_of_getElem? (i := 446) (by decide +kernel), _, rfl, rfl⟩⟩
set_option maxRecDepth 20000 in
theorem mt_ok_71 : mOk (m_Bc_tune, yX8_tune, cX8_tune, 0, 2) := ⟨List.all_eq_true.mp kk_Bc_tune, List.mem_of_getElem? (i := 401) (by decide +kernel), rfl, List.mem_of_getElem? (i := 1) (by decide +kernel), plainFor_of_name (by decide +kernel), ⟨by decide +kernel, by decide +kernel, by decide +kernel⟩, by decide, fun h => absurd h (by decide), Or.inl ⟨rfl, List.mem_of_getElem? (i := 399) (by decide +kernel), List.mem_of_getElem? (i := 459) (by decide +kernel), _, rfl, rfl⟩⟩
set_option maxRecDepth 20000 in
theorem mt_ok_72 : mOk (m_Bc_train, yX8_train, cX8_train, 0, 3) := ⟨List.all_eq_true.mp kk_Bc_train, List.mem_of_getElem? (i := 413) (by decide +kernel), rfl, List.mem_of_getElem? (i := 1) (by decide +kernel), plainFor_of_name (by decide +kernel), ⟨by decide +kernel, by decide +kernel, by decide +kernel⟩, by decide, fun h => absurd h (by decide), Or.inl ⟨rfl, List.mem_of_getElem? (i := 411) (by decide +kernel), List.mem_of_getElem? (i := 471) (by decide +kernel), _, rfl, rfl⟩⟩
set_option maxRecDepth 20000 in
theorem mt_ok_73 : mOk (m_Bc_start, yX8_start, cX8_start, 0, 0) := ⟨List.all_eq_true.mp kk_Bc_start, List.mem_of_getElem? (i := 425) (by decide +kernel), rfl, List.mem_of_getElem? (i := 1) (by decide +kernel), plainFor_of_name (by decide +kernel), ⟨by decide +kernel, by decide +kernel, by decide +kernel⟩, by decide, fun h => absurd h (by decide), Or.inl ⟨rfl, List.mem_of_getElem? (i := 423) (by decide +kernel), List.mem_of_getElem? (i := 483) (by decide +kernel), _, rfl, rfl⟩⟩
set_option maxRecDepth 20000 in
theorem mt_ok_74 : mOk (m_Bc_beat, yX8_beat, cX8_beat, 0, 1) := ⟨List.all_eq_true.mp kk_Bc_beat, List.mem_of_getElem? (i := 459) (by decide +kernel), rfl, List.mem_of_getElem? (i := 1) (by decide +kernel), plainFor_of_name (by decide +kernel), ⟨by decide +kernel, by decide +kernel, by decide +kernel⟩, by decide, fun h => absurd h (by decide), Or.inl ⟨rfl, List.mem_of_getElem? (i := 457) (by decide +kernel), List.mem_of_getElem? (i := 517) (by decide +kernel), _, rfl, rfl⟩⟩
set_option maxRecDepth 20000 in
theorem mt_ok_75 : mOk (m_Bc_stop, yX8_stop, cX8_stop, 0, 0) := ⟨List.all_eq_true.mp kk_Bc_stop, List.mem_of_getElem? (i := 472) (by decide +kernel), rfl, List.mem_of_getElem? (i := 1) (by decide +kernel), plainFor_of_name (by decide +kernel), ⟨by decide +kernel, by decide +kernel, by decide +kernel⟩, by decide, fun h => absurd h (by decide), Or.inl ⟨rfl, List.mem_of_getElem? (i := 470) (by decide +kernel), List.mem_of_getElem? (i := 530) (by decide +kernel), _, rfl, rfl⟩⟩
set_option maxRecDepth 20000 in
theorem mt_ok_76 : mOk (m_Bc_set, yX8_set, cX8_set, 0, 2) := ⟨List.all_eq_true.mp kk_Bc_set, List.mem_of_getElem? (i := 566) (by decide +kernel), rfl, List.mem_of_getElem? (i := 1) (by decide +kernel), plainFor_of_name (by decide +kernel), ⟨by decide +kernel, by decide +kernel, by decide +kernel⟩, by decide, fun h => absurd h (by decide), Or.inl ⟨rfl, List.mem_of_getElem? (i := 564) (by decide +kernel), List.mem_of_getElem? (i := 624) (by decide +kernel), _, rfl, rfl⟩⟩
set_option maxRecDepth 20000 in
theorem mt_ok_77 : mOk (m_Bc_chairOf, yX8_chairOf, cX8_chairOf, 0, 2) := ⟨List.all_eq_true.mp kk_Bc_chairOf, List.mem_of_getElem? (i := 574) (by decide +kernel), rfl, List.mem_of_getElem? (i := 1) (by decide +kernel), plainFor_of_name (by decide +kernel), ⟨by decide +kernel, by decide +kernel, by decide +kernel⟩, by decide, fun h => absurd h (by decide), Or.inl ⟨rfl, List.mem_of_getElem? (i := 572) (by decide +kernel), List.mem_of_getElem? (i := 632) (by decide +kernel), _, rfl, rfl⟩⟩
set_option maxRecDepth 20000 in
theorem mt_ok_78 : mOk (m_Bc_playerOf, yX8_playerOf, cX8_playerOf, 0, 2) := ⟨List.all_eq_true.mp kk_Bc_playerOf, List.mem_of_getElem? (i := 584) (by decide +kernel), rfl, List.mem_of_getElem? (i := 1) (by decide +kernel), plainFor_of_name (by decide +kernel), ⟨by decide +kernel, by decide +kernel, by decide +kernel⟩, by decide, fun h => absurd h (by decide), Or.inl ⟨rfl, List.mem_of_getElem? (i := 582) (by decide +kernel), List.mem_of_getElem? (i := 642) (by decide +kernel), _, rfl, rfl⟩⟩
set_option maxRecDepth 20000 in
theorem mt_ok_79 : mOk (m_Bc_hears, yX8_hears, cX8_hears, 0, 2) := ⟨List.all_eq_true.mp kk_Bc_hears, List.mem_of_getElem? (i := 590) (by decide +kernel), rfl, List.mem_of_getElem? (i := 1) (by decide +kernel), plainFor_of_name (by decide +kernel), ⟨by decide +kernel, by decide +kernel, by decide +kernel⟩, by decide, fun h => absurd h (by decide), Or.inl ⟨rfl, List.mem_of_getElem? (i := 588) (by decide +kernel), List.mem_of_getElem? (i := 648) (by decide +kernel), _, rfl, rfl⟩⟩
set_option maxRecDepth 20000 in
theorem mt_ok_80 : mOk (m_Bc_bell, yX8_bell, cX8_bell, 0, 2) := ⟨List.all_eq_true.mp kk_Bc_bell, List.mem_of_getElem? (i := 595) (by decide +kernel), rfl, List.mem_of_getElem? (i := 1) (by decide +kernel), plainFor_of_name (by decide +kernel), ⟨by decide +kernel, by decide +kernel, by decide +kernel⟩, by decide, fun h => absurd h (by decide), Or.inl ⟨rfl, List.mem_of_getElem? (i := 593) (by decide +kernel), List.mem_of_getElem? (i := 653) (by decide +kernel), _, rfl, rfl⟩⟩
set_option maxRecDepth 20000 in
theorem mt_ok_81 : mOk (m_Bc_ifStopped, yX8_ifStopped, cX8_ifStopped, 0, 2) := ⟨List.all_eq_true.mp kk_Bc_ifStopped, List.mem_of_getElem? (i := 603) (by decide +kernel), rfl, List.mem_of_getElem? (i := 1) (by decide +kernel), plainFor_of_name (by decide +kernel), ⟨by decide +kernel, by decide +kernel, by decide +kernel⟩, by decide, fun h => absurd h (by decide), Or.inl ⟨rfl, List.mem_of_getElem? (i := 601) (by decide +kernel), List.mem_of_getElem? (i := 661) (by decide +kernel), _, rfl, rfl⟩⟩
set_option maxRecDepth 20000 in
theorem mt_ok_82 : mOk (m_Bc_outs, yX8_outs, cX8_outs, 0, 0) := ⟨List.all_eq_true.mp kk_Bc_outs, List.mem_of_getElem? (i := 609) (by decide +kernel), rfl, List.mem_of_getElem? (i := 1) (by decide +kernel), plainFor_of_name (by decide +kernel), ⟨by decide +kernel, by decide +kernel, by decide +kernel⟩, by decide, fun h => absurd h (by decide), Or.inl ⟨rfl, List.mem_of_getElem? (i := 607) (by decide +kernel), List.mem_of_getElem? (i := 667) (by decide +kernel), _, rfl, rfl⟩⟩
set_option maxRecDepth 20000 in
theorem mt_ok_83 : mOk (m_Bc_safeIn, yX8_safeIn, cX8_safeIn, 0, 1) := ⟨List.all_eq_true.mp kk_Bc_safeIn, List.mem_of_getElem? (i := 613) (by decide +kernel), rfl, List.mem_of_getElem? (i := 1) (by decide +kernel), plainFor_of_name (by decide +kernel), ⟨by decide +kernel, by decide +kernel, by decide +kernel⟩, by decide, fun h => absurd h (by decide), Or.inl ⟨rfl, List.mem_of_getElem? (i := 611) (by decide +kernel), List.mem_of_getElem? (i := 671) (by decide +kernel), _, rfl, rfl⟩⟩
set_option maxRecDepth 20000 in
theorem mt_ok_84 : mOk (m_Bc_mean, yX8_mean, cX8_mean, 0, 0) := ⟨List.all_eq_true.mp kk_Bc_mean, List.mem_of_getElem? (i := 617) (by decide +kernel), rfl, List.mem_of_getElem? (i := 1) (by decide +kernel), plainFor_of_name (by decide +kernel), ⟨by decide +kernel, by decide +kernel, by decide +kernel⟩, by decide, fun h => absurd h (by decide), Or.inl ⟨rfl, List.mem_of_getElem? (i := 615) (by decide +kernel), List.mem_of_getElem? (i := 675) (by decide +kernel), _, rfl, rfl⟩⟩
set_option maxRecDepth 20000 in
theorem mt_ok_85 : mOk (m_Bc_count, yX8_count, cX8_count, 0, 1) := ⟨List.all_eq_true.mp kk_Bc_count, List.mem_of_getElem? (i := 633) (by decide +kernel), rfl, List.mem_of_getElem? (i := 1) (by decide +kernel), plainFor_of_name (by decide +kernel), ⟨by decide +kernel, by decide +kernel, by decide +kernel⟩, by decide, fun h => absurd h (by decide), Or.inl ⟨rfl, List.mem_of_getElem? (i := 631) (by decide +kernel), List.mem_of_getElem? (i := 691) (by decide +kernel), _, rfl, rfl⟩⟩
set_option maxRecDepth 20000 in
theorem mt_ok_86 : mOk (m_Bc_undo, yX8_undo, cX8_undo, 0, 0) := ⟨List.all_eq_true.mp kk_Bc_undo, List.mem_of_getElem? (i := 655) (by decide +kernel), rfl, List.mem_of_getElem? (i := 1) (by decide +kernel), plainFor_of_name (by decide +kernel), ⟨by decide +kernel, by decide +kernel, by decide +kernel⟩, by decide, fun h => absurd h (by decide), Or.inl ⟨rfl, List.mem_of_getElem? (i := 653) (by decide +kernel), List.mem_of_getElem? (i := 713) (by decide +kernel), _, rfl, rfl⟩⟩
set_option maxRecDepth 20000 in
theorem mt_ok_87 : mOk (m_Bc_type, yX8_type, cX8_type, 0, 1) := ⟨List.all_eq_true.mp kk_Bc_type, List.mem_of_getElem? (i := 664) (by decide +kernel), rfl, List.mem_of_getElem? (i := 1) (by decide +kernel), plainFor_of_name (by decide +kernel), ⟨by decide +kernel, by decide +kernel, by decide +kernel⟩, by decide, fun h => absurd h (by decide), Or.inl ⟨rfl, List.mem_of_getElem? (i := 662) (by decide +kernel), List.mem_of_getElem? (i := 722) (by decide +kernel), _, rfl, rfl⟩⟩
set_option maxRecDepth 20000 in
theorem mt_ok_88 : mOk (m_Bc_clearText, yX8_clearText, cX8_clearText, 0, 0) := ⟨List.all_eq_true.mp kk_Bc_clearText, List.mem_of_getElem? (i := 675) (by decide +kernel), rfl, List.mem_of_getElem? (i := 1) (by decide +kernel), plainFor_of_name (by decide +kernel), ⟨by decide +kernel, by decide +kernel, by decide +kernel⟩, by decide, fun h => absurd h (by decide), Or.inl ⟨rfl, List.mem_of_getElem? (i := 673) (by decide +kernel), List.mem_of_getElem? (i := 733) (by decide +kernel), _, rfl, rfl⟩⟩
set_option maxRecDepth 20000 in
theorem mt_ok_89 : mOk (m_Bc_fault, yX8_fault, cX8_fault, 0, 1) := ⟨List.all_eq_true.mp kk_Bc_fault, List.mem_of_getElem? (i := 683) (by decide +kernel), rfl, List.mem_of_getElem? (i := 1) (by decide +kernel), plainFor_of_name (by decide +kernel), ⟨by decide +kernel, by decide +kernel, by decide +kernel⟩, by decide, fun h => absurd h (by decide), Or.inl ⟨rfl, List.mem_of_getElem? (i := 681) (by decide +kernel), List.mem_of_getElem? (i := 741) (by decide +kernel), _, rfl, rfl⟩⟩
set_option maxRecDepth 20000 in
theorem mt_ok_90 : mOk (m_Bc_play, yX8_play, cX8_play, 0, 0) := ⟨List.all_eq_true.mp kk_Bc_play, List.mem_of_getElem? (i := 723) (by decide +kernel), rfl, List.mem_of_getElem? (i := 1) (by decide +kernel), plainFor_of_name (by decide +kernel), ⟨by decide +kernel, by decide +kernel, by decide +kernel⟩, by decide, fun h => absurd h (by decide), Or.inl ⟨rfl, List.mem_of_getElem? (i := 721) (by decide +kernel), List.mem_of_getElem? (i := 781) (by decide +kernel), _, rfl, rfl⟩⟩
set_option maxRecDepth 20000 in
theorem mt_ok_91 : mOk (m_Bc_countBesidesTheGame, yX8_countBesidesTheGame, cX8_countBesidesTheGame, 0, 1) := ⟨List.all_eq_true.mp kk_Bc_countBesidesTheGame, List.mem_of_getElem? (i := 651) (by decide +kernel), rfl, List.mem_of_getElem? (i := 1) (by decide +kernel), plainFor_of_name (by decide +kernel), ⟨by decide +kernel, by decide +kernel, by decide +kernel⟩, by decide, fun h => absurd h (by decide), Or.inl ⟨rfl, List.mem_of_getElem? (i := 650) (by decide +kernel), List.mem_of_getElem? (i := 15) (by decide +kernel), _, rfl, rfl⟩⟩
set_option maxRecDepth 20000 in
theorem mt_ok_92 : mOk (m_Bc_foundOrNot, yX8_foundOrNot, cX8_foundOrNot, 1, 2) := ⟨List.all_eq_true.mp kk_Bc_foundOrNot, List.mem_of_getElem? (i := 579) (by decide +kernel), rfl, List.mem_of_getElem? (i := 1) (by decide +kernel), plainFor_of_name (by decide +kernel), ⟨by decide +kernel, by decide +kernel, by decide +kernel⟩, by decide, fun h => absurd h (by decide), Or.inr (Or.inl ⟨rfl, List.mem_of_getElem? (i := 578) (by decide +kernel)⟩)⟩
set_option maxRecDepth 20000 in
theorem mt_ok_93 : mOk (m_Bc_isWithin, yX8_isWithin, cX8_isWithin, 1, 3) := ⟨List.all_eq_true.mp kk_Bc_isWithin, List.mem_of_getElem? (i := 370) (by decide +kernel), rfl, List.mem_of_getElem? (i := 1) (by decide +kernel), plainFor_of_name (by decide +kernel), ⟨by decide +kernel, by decide +kernel, by decide +kernel⟩, by decide, fun h => absurd h (by decide), Or.inr (Or.inl ⟨rfl, List.mem_of_getElem? (i := 369) (by decide +kernel)⟩)⟩
set_option maxRecDepth 20000 in
theorem mt_ok_94 : mOk (m_Bc_bitsOf, yX8_bitsOf, cX8_bitsOf, 1, 1) := ⟨List.all_eq_true.mp kk_Bc_bitsOf, List.mem_of_getElem? (i := 628) (by decide +kernel), rfl, List.mem_of_getElem? (i := 1) (by decide +kernel), plainFor_of_name (by decide +kernel), ⟨by decide +kernel, by decide +kernel, by decide +kernel⟩, by decide, fun h => absurd h (by decide), Or.inr (Or.inl ⟨rfl, List.mem_of_getElem? (i := 627) (by decide +kernel)⟩)⟩
set_option maxRecDepth 20000 in
theorem mt_ok_95 : mOk (m_Md_init, yX9_init, cX9_init, 2, 0) := ⟨List.all_eq_true.mp kk_Md_init, List.mem_of_getElem? (i := 729) (by decide +kernel), rfl, List.mem_of_getElem? (i := 10) (by decide +kernel), plainFor_of_name (by decide +kernel), ⟨by decide +kernel, by decide +kernel, by decide +kernel⟩, by decide, fun _ => rfl, Or.inr (Or.inr ⟨rfl, rfl, List.mem_of_getElem? (i := 728) (by decide +kernel), rfl⟩)⟩
set_option maxRecDepth 20000 in
theorem mt_ok_96 : mOk (m_Md_in, yX9_in, cX9_in, 1, 3) := ⟨List.all_eq_true.mp kk_Md_in, List.mem_of_getElem? (i := 808) (by decide +kernel), rfl, List.mem_of_getElem? (i := 10) (by decide +kernel), plainFor_of_name (by decide +kernel), ⟨by decide +kernel, by decide +kernel, by decide +kernel⟩, by decide, fun h => absurd h (by decide), Or.inr (Or.inl ⟨rfl, List.mem_of_getElem? (i := 807) (by decide +kernel)⟩)⟩
set_option maxRecDepth 20000 in
theorem mt_ok_97 : mOk (m_Md_copies, yX9_copies, cX9_copies, 1, 4) := ⟨List.all_eq_true.mp kk_Md_copies, List.mem_of_getElem? (i := 818) (by decide +kernel), rfl, List.mem_of_getElem? (i := 10) (by decide +kernel), plainFor_of_name (by decide +kernel), ⟨by decide +kernel, by decide +kernel, by decide +kernel⟩, by decide, fun h => absurd h (by decide), Or.inr (Or.inl ⟨rfl, List.mem_of_getElem? (i := 817) (by decide +kernel)⟩)⟩
set_option maxRecDepth 20000 in
theorem mt_ok_98 : mOk (m_Md_records, yX9_records, cX9_records, 0, 0) := ⟨List.all_eq_true.mp kk_Md_records, List.mem_of_getElem? (i := 815) (by decide +kernel), rfl, List.mem_of_getElem? (i := 10) (by decide +kernel), plainFor_of_name (by decide +kernel), ⟨by decide +kernel, by decide +kernel, by decide +kernel⟩, by decide, fun h => absurd h (by decide), Or.inl ⟨rfl, List.mem_of_getElem? (i := 814) (by decide +kernel), List.mem_of_getElem? (i := 21) (by decide +kernel), _, rfl, rfl⟩⟩
set_option maxRecDepth 20000 in
theorem mt_ok_99 : mOk (m_Md_isChair, yX9_isChair, cX9_isChair, 0, 1) := ⟨List.all_eq_true.mp kk_Md_isChair, List.mem_of_getElem? (i := 850) (by decide +kernel), rfl, List.mem_of_getElem? (i := 10) (by decide +kernel), plainFor_of_name (by decide +kernel), ⟨by decide +kernel, by decide +kernel, by decide +kernel⟩, by decide, fun h => absurd h (by decide), Or.inl ⟨rfl, List.mem_of_getElem? (i := 849) (by decide +kernel), List.mem_of_getElem? (i := 27) (by decide +kernel), _, rfl, rfl⟩⟩
set_option maxRecDepth 20000 in
theorem mt_ok_100 : mOk (m_Md_isPlayer, yX9_isPlayer, cX9_isPlayer, 0, 1) := ⟨List.all_eq_true.mp kk_Md_isPlayer, List.mem_of_getElem? (i := 862) (by decide +kernel), rfl, List.mem_of_getElem? (i := 10) (by decide +kernel), plainFor_of_name (by decide +kernel), ⟨by decide +kernel, by decide +kernel, by decide +kernel⟩, by decide, fun h => absurd h (by decide), Or.inl ⟨rfl, List.mem_of_getElem? (i := 861) (by decide +kernel), List.mem_of_getElem? (i := 29) (by decide +kernel), _, rfl, rfl⟩⟩
set_option maxRecDepth 20000 in
theorem mt_ok_101 : mOk (m_Md_ofChair, yX9_ofChair, cX9_ofChair, 0, 2) := ⟨List.all_eq_true.mp kk_Md_ofChair, List.mem_of_getElem? (i := 854) (by decide +kernel), rfl, List.mem_of_getElem? (i := 10) (by decide +kernel), plainFor_of_name (by decide +kernel), ⟨by decide +kernel, by decide +kernel, by decide +kernel⟩, by decide, fun h => absurd h (by decide), Or.inl ⟨rfl, List.mem_of_getElem? (i := 853) (by decide +kernel), List.mem_of_getElem? (i := 28) (by decide +kernel), _, rfl, rfl⟩⟩
set_option maxRecDepth 20000 in
theorem mt_ok_102 : mOk (m_Md_laysChair, yX9_laysChair, cX9_laysChair, 0, 3) := ⟨List.all_eq_true.mp kk_Md_laysChair, List.mem_of_getElem? (i := 826) (by decide +kernel), rfl, List.mem_of_getElem? (i := 10) (by decide +kernel), plainFor_of_name (by decide +kernel), ⟨by decide +kernel, by decide +kernel, by decide +kernel⟩, by decide, fun h => absurd h (by decide), Or.inl ⟨rfl, List.mem_of_getElem? (i := 825) (by decide +kernel), List.mem_of_getElem? (i := 23) (by decide +kernel), _, rfl, rfl⟩⟩
set_option maxRecDepth 20000 in
theorem mt_ok_103 : mOk (m_Md_of, yX9_of, cX9_of, 0, 2) := ⟨List.all_eq_true.mp kk_Md_of, List.mem_of_getElem? (i := 866) (by decide +kernel), rfl, List.mem_of_getElem? (i := 10) (by decide +kernel), plainFor_of_name (by decide +kernel), ⟨by decide +kernel, by decide +kernel, by decide +kernel⟩, by decide, fun h => absurd h (by decide), Or.inl ⟨rfl, List.mem_of_getElem? (i := 865) (by decide +kernel), List.mem_of_getElem? (i := 30) (by decide +kernel), _, rfl, rfl⟩⟩
set_option maxRecDepth 20000 in
theorem mt_ok_104 : mOk (m_Md_lays, yX9_lays, cX9_lays, 0, 3) := ⟨List.all_eq_true.mp kk_Md_lays, List.mem_of_getElem? (i := 842) (by decide +kernel), rfl, List.mem_of_getElem? (i := 10) (by decide +kernel), plainFor_of_name (by decide +kernel), ⟨by decide +kernel, by decide +kernel, by decide +kernel⟩, by decide, fun h => absurd h (by decide), Or.inl ⟨rfl, List.mem_of_getElem? (i := 841) (by decide +kernel), List.mem_of_getElem? (i := 26) (by decide +kernel), _, rfl, rfl⟩⟩
set_option maxRecDepth 20000 in
theorem mt_ok_105 : mOk (m_Md_isIn, yX9_isIn, cX9_isIn, 0, 1) := ⟨List.all_eq_true.mp kk_Md_isIn, List.mem_of_getElem? (i := 886) (by decide +kernel), rfl, List.mem_of_getElem? (i := 10) (by decide +kernel), plainFor_of_name (by decide +kernel), ⟨by decide +kernel, by decide +kernel, by decide +kernel⟩, by decide, fun h => absurd h (by decide), Or.inl ⟨rfl, List.mem_of_getElem? (i := 885) (by decide +kernel), List.mem_of_getElem? (i := 34) (by decide +kernel), _, rfl, rfl⟩⟩
set_option maxRecDepth 20000 in
theorem mt_ok_106 : mOk (m_Md_inPlay, yX9_inPlay, cX9_inPlay, 0, 0) := ⟨List.all_eq_true.mp kk_Md_inPlay, List.mem_of_getElem? (i := 878) (by decide +kernel), rfl, List.mem_of_getElem? (i := 10) (by decide +kernel), plainFor_of_name (by decide +kernel), ⟨by decide +kernel, by decide +kernel, by decide +kernel⟩, by decide, fun h => absurd h (by decide), Or.inl ⟨rfl, List.mem_of_getElem? (i := 877) (by decide +kernel), List.mem_of_getElem? (i := 32) (by decide +kernel), _, rfl, rfl⟩⟩
set_option maxRecDepth 20000 in
theorem mt_ok_107 : mOk (m_Md_doesHear, yX9_doesHear, cX9_doesHear, 0, 2) := ⟨List.all_eq_true.mp kk_Md_doesHear, List.mem_of_getElem? (i := 947) (by decide +kernel), rfl, List.mem_of_getElem? (i := 10) (by decide +kernel), plainFor_of_name (by decide +kernel), ⟨by decide +kernel, by decide +kernel, by decide +kernel⟩, by decide, fun h => absurd h (by decide), Or.inl ⟨rfl, List.mem_of_getElem? (i := 946) (by decide +kernel), List.mem_of_getElem? (i := 47) (by decide +kernel), _, rfl, rfl⟩⟩
set_option maxRecDepth 20000 in
theorem mt_ok_108 : mOk (m_Md_getsOut, yX9_getsOut, cX9_getsOut, 0, 2) := ⟨List.all_eq_true.mp kk_Md_getsOut, List.mem_of_getElem? (i := 922) (by decide +kernel), rfl, List.mem_of_getElem? (i := 10) (by decide +kernel), plainFor_of_name (by decide +kernel), ⟨by decide +kernel, by decide +kernel, by decide +kernel⟩, by decide, fun h => absurd h (by decide), Or.inl ⟨rfl, List.mem_of_getElem? (i := 921) (by decide +kernel), List.mem_of_getElem? (i := 41) (by decide +kernel), _, rfl, rfl⟩⟩
set_option maxRecDepth 20000 in
theorem mt_ok_109 : mOk (m_Md_aims, yX9_aims, cX9_aims, 0, 1) := ⟨List.all_eq_true.mp kk_Md_aims, List.mem_of_getElem? (i := 926) (by decide +kernel), rfl, List.mem_of_getElem? (i := 10) (by decide +kernel), plainFor_of_name (by decide +kernel), ⟨by decide +kernel, by decide +kernel, by decide +kernel⟩, by decide, fun h => absurd h (by decide), Or.inl ⟨rfl, List.mem_of_getElem? (i := 925) (by decide +kernel), List.mem_of_getElem? (i := 42) (by decide +kernel), _, rfl, rfl⟩⟩
set_option maxRecDepth 20000 in
theorem mt_ok_110 : mOk (m_Md_gropes, yX9_gropes, cX9_gropes, 0, 1) := ⟨List.all_eq_true.mp kk_Md_gropes, List.mem_of_getElem? (i := 918) (by decide +kernel), rfl, List.mem_of_getElem? (i := 10) (by decide +kernel), plainFor_of_name (by decide +kernel), ⟨by decide +kernel, by decide +kernel, by decide +kernel⟩, by decide, fun h => absurd h (by decide), Or.inl ⟨rfl, List.mem_of_getElem? (i := 917) (by decide +kernel), List.mem_of_getElem? (i := 40) (by decide +kernel), _, rfl, rfl⟩⟩
set_option maxRecDepth 20000 in
theorem mt_ok_111 : mOk (m_Md_getterOf, yX9_getterOf, cX9_getterOf, 0, 1) := ⟨List.all_eq_true.mp kk_Md_getterOf, List.mem_of_getElem? (i := 930) (by decide +kernel), rfl, List.mem_of_getElem? (i := 10) (by decide +kernel), plainFor_of_name (by decide +kernel), ⟨by decide +kernel, by decide +kernel, by decide +kernel⟩, by decide, fun h => absurd h (by decide), Or.inl ⟨rfl, List.mem_of_getElem? (i := 929) (by decide +kernel), List.mem_of_getElem? (i := 43) (by decide +kernel), _, rfl, rfl⟩⟩
set_option maxRecDepth 20000 in
theorem mt_ok_112 : mOk (m_Md_sitsDown, yX9_sitsDown, cX9_sitsDown, 0, 3) := ⟨List.all_eq_true.mp kk_Md_sitsDown, List.mem_of_getElem? (i := 939) (by decide +kernel), rfl, List.mem_of_getElem? (i := 10) (by decide +kernel), plainFor_of_name (by decide +kernel), ⟨by decide +kernel, by decide +kernel, by decide +kernel⟩, by decide, fun h => absurd h (by decide), Or.inl ⟨rfl, List.mem_of_getElem? (i := 938) (by decide +kernel), List.mem_of_getElem? (i := 45) (by decide +kernel), _, rfl, rfl⟩⟩
set_option maxRecDepth 20000 in
theorem mt_ok_113 : mOk (m_Md_bumps, yX9_bumps, cX9_bumps, 0, 1) := ⟨List.all_eq_true.mp kk_Md_bumps, List.mem_of_getElem? (i := 935) (by decide +kernel), rfl, List.mem_of_getElem? (i := 10) (by decide +kernel), plainFor_of_name (by decide +kernel), ⟨by decide +kernel, by decide +kernel, by decide +kernel⟩, by decide, fun h => absurd h (by decide), Or.inl ⟨rfl, List.mem_of_getElem? (i := 934) (by decide +kernel), List.mem_of_getElem? (i := 44) (by decide +kernel), _, rfl, rfl⟩⟩
set_option maxRecDepth 20000 in
theorem mt_ok_114 : mOk (m_Md_rings, yX9_rings, cX9_rings, 0, 2) := ⟨List.all_eq_true.mp kk_Md_rings, List.mem_of_getElem? (i := 943) (by decide +kernel), rfl, List.mem_of_getElem? (i := 10) (by decide +kernel), plainFor_of_name (by decide +kernel), ⟨by decide +kernel, by decide +kernel, by decide +kernel⟩, by decide, fun h => absurd h (by decide), Or.inl ⟨rfl, List.mem_of_getElem? (i := 942) (by decide +kernel), List.mem_of_getElem? (i := 46) (by decide +kernel), _, rfl, rfl⟩⟩
set_option maxRecDepth 20000 in
theorem mt_ok_115 : mOk (m_Md_ticks, yX9_ticks, cX9_ticks, 0, 1) := ⟨List.all_eq_true.mp kk_Md_ticks, List.mem_of_getElem? (i := 914) (by decide +kernel), rfl, List.mem_of_getElem? (i := 10) (by decide +kernel), plainFor_of_name (by decide +kernel), ⟨by decide +kernel, by decide +kernel, by decide +kernel⟩, by decide, fun h => absurd h (by decide), Or.inl ⟨rfl, List.mem_of_getElem? (i := 913) (by decide +kernel), List.mem_of_getElem? (i := 39) (by decide +kernel), _, rfl, rfl⟩⟩
set_option maxRecDepth 20000 in
theorem mt_ok_116 : mOk (m_Md_gropesAll, yX9_gropesAll, cX9_gropesAll, 0, 0) := ⟨List.all_eq_true.mp kk_Md_gropesAll, List.mem_of_getElem? (i := 910) (by decide +kernel), rfl, List.mem_of_getElem? (i := 10) (by decide +kernel), plainFor_of_name (by decide +kernel), ⟨by decide +kernel, by decide +kernel, by decide +kernel⟩, by decide, fun h => absurd h (by decide), Or.inl ⟨rfl, List.mem_of_getElem? (i := 909) (by decide +kernel), List.mem_of_getElem? (i := 38) (by decide +kernel), _, rfl, rfl⟩⟩
set_option maxRecDepth 20000 in
theorem mt_ok_117 : mOk (m_Md_takesChair, yX9_takesChair, cX9_takesChair, 0, 0) := ⟨List.all_eq_true.mp kk_Md_takesChair, List.mem_of_getElem? (i := 951) (by decide +kernel), rfl, List.mem_of_getElem? (i := 10) (by decide +kernel), plainFor_of_name (by decide +kernel), ⟨by decide +kernel, by decide +kernel, by decide +kernel⟩, by decide, fun h => absurd h (by decide), Or.inl ⟨rfl, List.mem_of_getElem? (i := 950) (by decide +kernel), List.mem_of_getElem? (i := 48) (by decide +kernel), _, rfl, rfl⟩⟩
set_option maxRecDepth 20000 in
theorem mt_ok_118 : mOk (m_Md_goStop, yX9_goStop, cX9_goStop, 0, 0) := ⟨List.all_eq_true.mp kk_Md_goStop, List.mem_of_getElem? (i := 906) (by decide +kernel), rfl, List.mem_of_getElem? (i := 10) (by decide +kernel), plainFor_of_name (by decide +kernel), ⟨by decide +kernel, by decide +kernel, by decide +kernel⟩, by decide, fun h => absurd h (by decide), Or.inl ⟨rfl, List.mem_of_getElem? (i := 905) (by decide +kernel), List.mem_of_getElem? (i := 37) (by decide +kernel), _, rfl, rfl⟩⟩
set_option maxRecDepth 20000 in
theorem mt_ok_119 : mOk (m_Md_goChair, yX9_goChair, cX9_goChair, 0, 1) := ⟨List.all_eq_true.mp kk_Md_goChair, List.mem_of_getElem? (i := 822) (by decide +kernel), rfl, List.mem_of_getElem? (i := 10) (by decide +kernel), plainFor_of_name (by decide +kernel), ⟨by decide +kernel, by decide +kernel, by decide +kernel⟩, by decide, fun h => absurd h (by decide), Or.inl ⟨rfl, List.mem_of_getElem? (i := 821) (by decide +kernel), List.mem_of_getElem? (i := 22) (by decide +kernel), _, rfl, rfl⟩⟩
set_option maxRecDepth 20000 in
theorem mt_ok_120 : mOk (m_Md_goPlayer, yX9_goPlayer, cX9_goPlayer, 0, 2) := ⟨List.all_eq_true.mp kk_Md_goPlayer, List.mem_of_getElem? (i := 838) (by decide +kernel), rfl, List.mem_of_getElem? (i := 10) (by decide +kernel), plainFor_of_name (by decide +kernel), ⟨by decide +kernel, by decide +kernel, by decide +kernel⟩, by decide, fun h => absurd h (by decide), Or.inl ⟨rfl, List.mem_of_getElem? (i := 837) (by decide +kernel), List.mem_of_getElem? (i := 25) (by decide +kernel), _, rfl, rfl⟩⟩
set_option maxRecDepth 20000 in
theorem mt_ok_121 : mOk (m_Md_goStart, yX9_goStart, cX9_goStart, 0, 0) := ⟨List.all_eq_true.mp kk_Md_goStart, List.mem_of_getElem? (i := 882) (by decide +kernel), rfl, List.mem_of_getElem? (i := 10) (by decide +kernel), plainFor_of_name (by decide +kernel), ⟨by decide +kernel, by decide +kernel, by decide +kernel⟩, by decide, fun h => absurd h (by decide), Or.inl ⟨rfl, List.mem_of_getElem? (i := 881) (by decide +kernel), List.mem_of_getElem? (i := 33) (by decide +kernel), _, rfl, rfl⟩⟩
set_option maxRecDepth 20000 in
theorem mt_ok_122 : mOk (m_Md_goBeat, yX9_goBeat, cX9_goBeat, 0, 1) := ⟨List.all_eq_true.mp kk_Md_goBeat, List.mem_of_getElem? (i := 898) (by decide +kernel), rfl, List.mem_of_getElem? (i := 10) (by decide +kernel), plainFor_of_name (by decide +kernel), ⟨by decide +kernel, by decide +kernel, by decide +kernel⟩, by decide, fun h => absurd h (by decide), Or.inl ⟨rfl, List.mem_of_getElem? (i := 897) (by decide +kernel), List.mem_of_getElem? (i := 36) (by decide +kernel), _, rfl, rfl⟩⟩
set_option maxRecDepth 20000 in
theorem mt_ok_123 : mOk (m_Md_errorChair, yX9_errorChair, cX9_errorChair, 0, 1) := ⟨List.all_eq_true.mp kk_Md_errorChair, List.mem_of_getElem? (i := 805) (by decide +kernel), rfl, List.mem_of_getElem? (i := 10) (by decide +kernel), plainFor_of_name (by decide +kernel), ⟨by decide +kernel, by decide +kernel, by decide +kernel⟩, by decide, fun h => absurd h (by decide), Or.inl ⟨rfl, List.mem_of_getElem? (i := 804) (by decide +kernel), List.mem_of_getElem? (i := 20) (by decide +kernel), _, rfl, rfl⟩⟩
set_option maxRecDepth 20000 in
theorem mt_ok_124 : mOk (m_Md_errorPlayer, yX9_errorPlayer, cX9_errorPlayer, 0, 2) := ⟨List.all_eq_true.mp kk_Md_errorPlayer, List.mem_of_getElem? (i := 834) (by decide +kernel), rfl, List.mem_of_getElem? (i := 10) (by decide +kernel), plainFor_of_name (by decide +kernel), ⟨by decide +kernel, by decide +kernel, by decide +kernel⟩, by decide, fun h => absurd h (by decide), Or.inl ⟨rfl, List.mem_of_getElem? (i := 833) (by decide +kernel), List.mem_of_getElem? (i := 24) (by decide +kernel), _, rfl, rfl⟩⟩
set_option maxRecDepth 20000 in
theorem mt_ok_125 : mOk (m_Md_errorStart, yX9_errorStart, cX9_errorStart, 0, 0) := ⟨List.all_eq_true.mp kk_Md_errorStart, List.mem_of_getElem? (i := 874) (by decide +kernel), rfl, List.mem_of_getElem? (i := 10) (by decide +kernel), plainFor_of_name (by decide +kernel), ⟨by decide +kernel, by decide +kernel, by decide +kernel⟩, by decide, fun h => absurd h (by decide), Or.inl ⟨rfl, List.mem_of_getElem? (i := 873) (by decide +kernel), List.mem_of_getElem? (i := 31) (by decide +kernel), _, rfl, rfl⟩⟩
set_option maxRecDepth 20000 in
theorem mt_ok_126 : mOk (m_Md_errorBeat, yX9_errorBeat, cX9_errorBeat, 0, 1) := ⟨List.all_eq_true.mp kk_Md_errorBeat, List.mem_of_getElem? (i := 894) (by decide +kernel), rfl, List.mem_of_getElem? (i := 10) (by decide +kernel), plainFor_of_name (by decide +kernel), ⟨by decide +kernel, by decide +kernel, by decide +kernel⟩, by decide, fun h => absurd h (by decide), Or.inl ⟨rfl, List.mem_of_getElem? (i := 893) (by decide +kernel), List.mem_of_getElem? (i := 35) (by decide +kernel), _, rfl, rfl⟩⟩
set_option maxRecDepth 20000 in
theorem mt_ok_127 : mOk (m_Md_chair, yX9_chair, cX9_chair, 0, 1) := ⟨List.all_eq_true.mp kk_Md_chair, List.mem_of_getElem? (i := 801) (by decide +kernel), rfl, List.mem_of_getElem? (i := 10) (by decide +kernel), plainFor_of_name (by decide +kernel), ⟨by decide +kernel, by decide +kernel, by decide +kernel⟩, by decide, fun h => absurd h (by decide), Or.inl ⟨rfl, List.mem_of_getElem? (i := 799) (by decide +kernel), List.mem_of_getElem? (i := 859) (by decide +kernel), _, rfl, rfl⟩⟩
set_option maxRecDepth 20000 in
theorem mt_ok_128 : mOk (m_Md_player, yX9_player, cX9_player, 0, 2) := ⟨List.all_eq_true.mp kk_Md_player, List.mem_of_getElem? (i := 830) (by decide +kernel), rfl, List.mem_of_getElem? (i := 10) (by decide +kernel), plainFor_of_name (by decide +kernel), ⟨by decide +kernel, by decide +kernel, by decide +kernel⟩, by decide, fun h => absurd h (by decide), Or.inl ⟨rfl, List.mem_of_getElem? (i := 828) (by decide +kernel), List.mem_of_getElem? (i := 888) (by decide +kernel), _, rfl, rfl⟩⟩
set_option maxRecDepth 20000 in
theorem mt_ok_129 : mOk (m_Md_tune, yX9_tune, cX9_tune, 0, 2) := ⟨List.all_eq_true.mp kk_Md_tune, List.mem_of_getElem? (i := 846) (by decide +kernel), rfl, List.mem_of_getElem? (i := 10) (by decide +kernel), plainFor_of_name (by decide +kernel), ⟨by decide +kernel, by decide +kernel, by decide +kernel⟩, by decide, fun h => absurd h (by decide), Or.inl ⟨rfl, List.mem_of_getElem? (i := 844) (by decide +kernel), List.mem_of_getElem? (i := 904) (by decide +kernel), _, rfl, rfl⟩⟩
set_option maxRecDepth 20000 in
theorem mt_ok_130 : mOk (m_Md_train, yX9_train, cX9_train, 0, 3) := ⟨List.all_eq_true.mp kk_Md_train, List.mem_of_getElem? (i := 858) (by decide +kernel), rfl, List.mem_of_getElem? (i := 10) (by decide +kernel), plainFor_of_name (by decide +kernel), ⟨by decide +kernel, by decide +kernel, by decide +kernel⟩, by decide, fun h => absurd h (by decide), Or.inl ⟨rfl, List.mem_of_getElem? (i := 856) (by decide +kernel), List.mem_of_getElem? (i := 916) (by decide +kernel), _, rfl, rfl⟩⟩
set_option maxRecDepth 20000 in
theorem mt_ok_131 : mOk (m_Md_start, yX9_start, cX9_start, 0, 0) := ⟨List.all_eq_true.mp kk_Md_start, List.mem_of_getElem? (i := 870) (by decide +kernel), rfl, List.mem_of_getElem? (i := 10) (by decide +kernel), plainFor_of_name (by decide +kernel), ⟨by decide +kernel, by decide +kernel, by decide +kernel⟩, by decide, fun h => absurd h (by decide), Or.inl ⟨rfl, List.mem_of_getElem? (i := 868) (by decide +kernel), List.mem_of_getElem? (i := 928) (by decide +kernel), _, rfl, rfl⟩⟩
set_option maxRecDepth 20000 in
theorem mt_ok_132 : mOk (m_Md_beat, yX9_beat, cX9_beat, 0, 1) := ⟨List.all_eq_true.mp kk_Md_beat, List.mem_of_getElem? (i := 890) (by decide +kernel), rfl, List.mem_of_getElem? (i := 10) (by decide +kernel), plainFor_of_name (by decide +kernel), ⟨by decide +kernel, by decide +kernel, by decide +kernel⟩, by decide, fun h => absurd h (by decide), Or.inl ⟨rfl, List.mem_of_getElem? (i := 888) (by decide +kernel), List.mem_of_getElem? (i := 948) (by decide +kernel), _, rfl, rfl⟩⟩
set_option maxRecDepth 20000 in
theorem mt_ok_133 : mOk (m_Md_stop, yX9_stop, cX9_stop, 0, 0) := ⟨List.all_eq_true.mp kk_Md_stop, List.mem_of_getElem? (i := 902) (by decide +kernel), rfl, List.mem_of_getElem? (i := 10) (by decide +kernel), plainFor_of_name (by decide +kernel), ⟨by decide +kernel, by decide +kernel, by decide +kernel⟩, by decide, fun h => absurd h (by decide), Or.inl ⟨rfl, List.mem_of_getElem? (i := 900) (by decide +kernel), List.mem_of_getElem? (i := 960) (by decide +kernel), _, rfl, rfl⟩⟩
set_option maxRecDepth 20000 in
theorem mt_ok_134 : mOk (m_Md_set, yX9_set, cX9_set, 0, 2) := ⟨List.all_eq_true.mp kk_Md_set, List.mem_of_getElem? (i := 955) (by decide +kernel), rfl, List.mem_of_getElem? (i := 10) (by decide +kernel), plainFor_of_name (by decide +kernel), ⟨by decide +kernel, by decide +kernel, by decide +kernel⟩, by decide, fun h => absurd h (by decide), Or.inl ⟨rfl, List.mem_of_getElem? (i := 953) (by decide +kernel), List.mem_of_getElem? (i := 1013) (by decide +kernel), _, rfl, rfl⟩⟩
set_option maxRecDepth 20000 in
theorem mt_ok_135 : mOk (m_Md_undo, yX9_undo, cX9_undo, 0, 0) := ⟨List.all_eq_true.mp kk_Md_undo, List.mem_of_getElem? (i := 959) (by decide +kernel), rfl, List.mem_of_getElem? (i := 10) (by decide +kernel), plainFor_of_name (by decide +kernel), ⟨by decide +kernel, by decide +kernel, by decide +kernel⟩, by decide, fun h => absurd h (by decide), Or.inl ⟨rfl, List.mem_of_getElem? (i := 957) (by decide +kernel), List.mem_of_getElem? (i := 1017) (by decide +kernel), _, rfl, rfl⟩⟩
set_option maxRecDepth 20000 in
theorem mt_ok_136 : mOk (m_Md_chairOf, yX9_chairOf, cX9_chairOf, 0, 2) := ⟨List.all_eq_true.mp kk_Md_chairOf, List.mem_of_getElem? (i := 963) (by decide +kernel), rfl, List.mem_of_getElem? (i := 10) (by decide +kernel), plainFor_of_name (by decide +kernel), ⟨by decide +kernel, by decide +kernel, by decide +kernel⟩, by decide, fun h => absurd h (by decide), Or.inl ⟨rfl, List.mem_of_getElem? (i := 961) (by decide +kernel), List.mem_of_getElem? (i := 1021) (by decide +kernel), _, rfl, rfl⟩⟩
set_option maxRecDepth 20000 in
theorem mt_ok_137 : mOk (m_Md_playerOf, yX9_playerOf, cX9_playerOf, 0, 2) := ⟨List.all_eq_true.mp kk_Md_playerOf, List.mem_of_getElem? (i := 967) (by decide +kernel), rfl, List.mem_of_getElem? (i := 10) (by decide +kernel), plainFor_of_name (by decide +kernel), ⟨by decide +kernel, by decide +kernel, by decide +kernel⟩, by decide, fun h => absurd h (by decide), Or.inl ⟨rfl, List.mem_of_getElem? (i := 965) (by decide +kernel), List.mem_of_getElem? (i := 1025) (by decide +kernel), _, rfl, rfl⟩⟩
set_option maxRecDepth 20000 in
theorem mt_ok_138 : mOk (m_Md_hears, yX9_hears, cX9_hears, 0, 2) := ⟨List.all_eq_true.mp kk_Md_hears, List.mem_of_getElem? (i := 971) (by decide +kernel), rfl, List.mem_of_getElem? (i := 10) (by decide +kernel), plainFor_of_name (by decide +kernel), ⟨by decide +kernel, by decide +kernel, by decide +kernel⟩, by decide, fun h => absurd h (by decide), Or.inl ⟨rfl, List.mem_of_getElem? (i := 969) (by decide +kernel), List.mem_of_getElem? (i := 1029) (by decide +kernel), _, rfl, rfl⟩⟩
set_option maxRecDepth 20000 in
theorem mt_ok_139 : mOk (m_Md_bell, yX9_bell, cX9_bell, 0, 2) := ⟨List.all_eq_true.mp kk_Md_bell, List.mem_of_getElem? (i := 975) (by decide +kernel), rfl, List.mem_of_getElem? (i := 10) (by decide +kernel), plainFor_of_name (by decide +kernel), ⟨by decide +kernel, by decide +kernel, by decide +kernel⟩, by decide, fun h => absurd h (by decide), Or.inl ⟨rfl, List.mem_of_getElem? (i := 973) (by decide +kernel), List.mem_of_getElem? (i := 1033) (by decide +kernel), _, rfl, rfl⟩⟩
set_option maxRecDepth 20000 in
theorem mt_ok_140 : mOk (m_Md_ifStoppedBy, yX9_ifStoppedBy, cX9_ifStoppedBy, 0, 2) := ⟨List.all_eq_true.mp kk_Md_ifStoppedBy, List.mem_of_getElem? (i := 983) (by decide +kernel), rfl, List.mem_of_getElem? (i := 10) (by decide +kernel), plainFor_of_name (by decide +kernel), ⟨by decide +kernel, by decide +kernel, by decide +kernel⟩, by decide, fun h => absurd h (by decide), Or.inl ⟨rfl, List.mem_of_getElem? (i := 982) (by decide +kernel), List.mem_of_getElem? (i := 49) (by decide +kernel), _, rfl, rfl⟩⟩
set_option maxRecDepth 20000 in
theorem mt_ok_141 : mOk (m_Md_ifStopped, yX9_ifStopped, cX9_ifStopped, 0, 2) := ⟨List.all_eq_true.mp kk_Md_ifStopped, List.mem_of_getElem? (i := 979) (by decide +kernel), rfl, List.mem_of_getElem? (i := 10) (by decide +kernel), plainFor_of_name (by decide +kernel), ⟨by decide +kernel, by decide +kernel, by decide +kernel⟩, by decide, fun h => absurd h (by decide), Or.inl ⟨rfl, List.mem_of_getElem? (i := 977) (by decide +kernel), List.mem_of_getElem? (i := 1037) (by decide +kernel), _, rfl, rfl⟩⟩
set_option maxRecDepth 20000 in
theorem mt_ok_142 : mOk (m_Md_outs, yX9_outs, cX9_outs, 0, 0) := ⟨List.all_eq_true.mp kk_Md_outs, List.mem_of_getElem? (i := 987) (by decide +kernel), rfl, List.mem_of_getElem? (i := 10) (by decide +kernel), plainFor_of_name (by decide +kernel), ⟨by decide +kernel, by decide +kernel, by decide +kernel⟩, by decide, fun h => absurd h (by decide), Or.inl ⟨rfl, List.mem_of_getElem? (i := 985) (by decide +kernel), List.mem_of_getElem? (i := 1045) (by decide +kernel), _, rfl, rfl⟩⟩
set_option maxRecDepth 20000 in
theorem mt_ok_143 : mOk (m_Md_safeIn, yX9_safeIn, cX9_safeIn, 0, 1) := ⟨List.all_eq_true.mp kk_Md_safeIn, List.mem_of_getElem? (i := 991) (by decide +kernel), rfl, List.mem_of_getElem? (i := 10) (by decide +kernel), plainFor_of_name (by decide +kernel), ⟨by decide +kernel, by decide +kernel, by decide +kernel⟩, by decide, fun h => absurd h (by decide), Or.inl ⟨rfl, List.mem_of_getElem? (i := 989) (by decide +kernel), List.mem_of_getElem? (i := 1049) (by decide +kernel), _, rfl, rfl⟩⟩
set_option maxRecDepth 20000 in
theorem mt_ok_144 : mOk (m_Md_mean, yX9_mean, cX9_mean, 0, 0) := ⟨List.all_eq_true.mp kk_Md_mean, List.mem_of_getElem? (i := 995) (by decide +kernel), rfl, List.mem_of_getElem? (i := 10) (by decide +kernel), plainFor_of_name (by decide +kernel), ⟨by decide +kernel, by decide +kernel, by decide +kernel⟩, by decide, fun h => absurd h (by decide), Or.inl ⟨rfl, List.mem_of_getElem? (i := 993) (by decide +kernel), List.mem_of_getElem? (i := 1053) (by decide +kernel), _, rfl, rfl⟩⟩
set_option maxRecDepth 20000 in
theorem mt_ok_145 : mOk (m_Md_inSet, yX9_inSet, cX9_inSet, 0, 0) := ⟨List.all_eq_true.mp kk_Md_inSet, List.mem_of_getElem? (i := 1013) (by decide +kernel), rfl, List.mem_of_getElem? (i := 10) (by decide +kernel), plainFor_of_name (by decide +kernel), ⟨by decide +kernel, by decide +kernel, by decide +kernel⟩, by decide, fun h => absurd h (by decide), Or.inl ⟨rfl, List.mem_of_getElem? (i := 1012) (by decide +kernel), List.mem_of_getElem? (i := 50) (by decide +kernel), _, rfl, rfl⟩⟩
set_option maxRecDepth 20000 in
theorem mt_ok_146 : mOk (m_Md_onlyOne, yX9_onlyOne, cX9_onlyOne, 0, 0) := ⟨List.all_eq_true.mp kk_Md_onlyOne, List.mem_of_getElem? (i := 1017) (by decide +kernel), rfl, List.mem_of_getElem? (i := 10) (by decide +kernel), plainFor_of_name (by decide +kernel), ⟨by decide +kernel, by decide +kernel, by decide +kernel⟩, by decide, fun h => absurd h (by decide), Or.inl ⟨rfl, List.mem_of_getElem? (i := 1016) (by decide +kernel), List.mem_of_getElem? (i := 51) (by decide +kernel), _, rfl, rfl⟩⟩
set_option maxRecDepth 20000 in
theorem mt_ok_147 : mOk (m_Md_count, yX9_count, cX9_count, 0, 1) := ⟨List.all_eq_true.mp kk_Md_count, List.mem_of_getElem? (i := 1009) (by decide +kernel), rfl, List.mem_of_getElem? (i := 10) (by decide +kernel), plainFor_of_name (by decide +kernel), ⟨by decide +kernel, by decide +kernel, by decide +kernel⟩, by decide, fun h => absurd h (by decide), Or.inl ⟨rfl, List.mem_of_getElem? (i := 1007) (by decide +kernel), List.mem_of_getElem? (i := 1067) (by decide +kernel), _, rfl, rfl⟩⟩
set_option maxRecDepth 20000 in
theorem mt_ok_148 : mOk (m_Md_type, yX9_type, cX9_type, 0, 1) := ⟨List.all_eq_true.mp kk_Md_type, List.mem_of_getElem? (i := 1021) (by decide +kernel), rfl, List.mem_of_getElem? (i := 10) (by decide +kernel), plainFor_of_name (by decide +kernel), ⟨by decide +kernel, by decide +kernel, by decide +kernel⟩, by decide, fun h => absurd h (by decide), Or.inl ⟨rfl, List.mem_of_getElem? (i := 1019) (by decide +kernel), List.mem_of_getElem? (i := 1079) (by decide +kernel), _, rfl, rfl⟩⟩
set_option maxRecDepth 20000 in
theorem mt_ok_149 : mOk (m_Md_clearText, yX9_clearText, cX9_clearText, 0, 0) := ⟨List.all_eq_true.mp kk_Md_clearText, List.mem_of_getElem? (i := 1025) (by decide +kernel), rfl, List.mem_of_getElem? (i := 10) (by decide +kernel), plainFor_of_name (by decide +kernel), ⟨by decide +kernel, by decide +kernel, by decide +kernel⟩, by decide, fun h => absurd h (by decide), Or.inl ⟨rfl, List.mem_of_getElem? (i := 1023) (by decide +kernel), List.mem_of_getElem? (i := 1083) (by decide +kernel), _, rfl, rfl⟩⟩
set_option maxRecDepth 20000 in
theorem mt_ok_150 : mOk (m_Md_here, yX9_here, cX9_here, 0, 0) := ⟨List.all_eq_true.mp kk_Md_here, List.mem_of_getElem? (i := 1041) (by decide +kernel), rfl, List.mem_of_getElem? (i := 10) (by decide +kernel), plainFor_of_name (by decide +kernel), ⟨by decide +kernel, by decide +kernel, by decide +kernel⟩, by decide, fun h => absurd h (by decide), Or.inl ⟨rfl, List.mem_of_getElem? (i := 1040) (by decide +kernel), List.mem_of_getElem? (i := 54) (by decide +kernel), _, rfl, rfl⟩⟩
set_option maxRecDepth 20000 in
theorem mt_ok_151 : mOk (m_Md_takes, yX9_takes, cX9_takes, 0, 1) := ⟨List.all_eq_true.mp kk_Md_takes, List.mem_of_getElem? (i := 1045) (by decide +kernel), rfl, List.mem_of_getElem? (i := 10) (by decide +kernel), plainFor_of_name (by decide +kernel), ⟨by decide +kernel, by decide +kernel, by decide +kernel⟩, by decide, fun h => absurd h (by decide), Or.inl ⟨rfl, List.mem_of_getElem? (i := 1044) (by decide +kernel), List.mem_of_getElem? (i := 55) (by decide +kernel), _, rfl, rfl⟩⟩
set_option maxRecDepth 20000 in
theorem mt_ok_152 : mOk (m_Md_takesNumber, yX9_takesNumber, cX9_takesNumber, 0, 0) := ⟨List.all_eq_true.mp kk_Md_takesNumber, List.mem_of_getElem? (i := 1049) (by decide +kernel), rfl, List.mem_of_getElem? (i := 10) (by decide +kernel), plainFor_of_name (by decide +kernel), ⟨by decide +kernel, by decide +kernel, by decide +kernel⟩, by decide, fun h => absurd h (by decide), Or.inl ⟨rfl, List.mem_of_getElem? (i := 1048) (by decide +kernel), List.mem_of_getElem? (i := 56) (by decide +kernel), _, rfl, rfl⟩⟩
set_option maxRecDepth 20000 in
theorem mt_ok_153 : mOk (m_Md_takesOrder, yX9_takesOrder, cX9_takesOrder, 0, 0) := ⟨List.all_eq_true.mp kk_Md_takesOrder, List.mem_of_getElem? (i := 1037) (by decide +kernel), rfl, List.mem_of_getElem? (i := 10) (by decide +kernel), plainFor_of_name (by decide +kernel), ⟨by decide +kernel, by decide +kernel, by decide +kernel⟩, by decide, fun h => absurd h (by decide), Or.inl ⟨rfl, List.mem_of_getElem? (i := 1036) (by decide +kernel), List.mem_of_getElem? (i := 53) (by decide +kernel), _, rfl, rfl⟩⟩
set_option maxRecDepth 20000 in
theorem mt_ok_154 : mOk (m_Md_errorOfOrder, yX9_errorOfOrder, cX9_errorOfOrder, 0, 0) := ⟨List.all_eq_true.mp kk_Md_errorOfOrder, List.mem_of_getElem? (i := 1053) (by decide +kernel), rfl, List.mem_of_getElem? (i := 10) (by decide +kernel), plainFor_of_name (by decide +kernel), ⟨by decide +kernel, by decide +kernel, by decide +kernel⟩, by decide, fun h => absurd h (by decide), Or.inl ⟨rfl, List.mem_of_getElem? (i := 1052) (by decide +kernel), List.mem_of_getElem? (i := 57) (by decide +kernel), _, rfl, rfl⟩⟩
set_option maxRecDepth 20000 in
theorem mt_ok_155 : mOk (m_Md_doesOrder, yX9_doesOrder, cX9_doesOrder, 0, 0) := ⟨List.all_eq_true.mp kk_Md_doesOrder, List.mem_of_getElem? (i := 1057) (by decide +kernel), rfl, List.mem_of_getElem? (i := 10) (by decide +kernel), plainFor_of_name (by decide +kernel), ⟨by decide +kernel, by decide +kernel, by decide +kernel⟩, by decide, fun h => absurd h (by decide), Or.inl ⟨rfl, List.mem_of_getElem? (i := 1056) (by decide +kernel), List.mem_of_getElem? (i := 58) (by decide +kernel), _, rfl, rfl⟩⟩
set_option maxRecDepth 20000 in
theorem mt_ok_156 : mOk (m_Md_doesAll, yX9_doesAll, cX9_doesAll, 0, 0) := ⟨List.all_eq_true.mp kk_Md_doesAll, List.mem_of_getElem? (i := 1033) (by decide +kernel), rfl, List.mem_of_getElem? (i := 10) (by decide +kernel), plainFor_of_name (by decide +kernel), ⟨by decide +kernel, by decide +kernel, by decide +kernel⟩, by decide, fun h => absurd h (by decide), Or.inl ⟨rfl, List.mem_of_getElem? (i := 1032) (by decide +kernel), List.mem_of_getElem? (i := 52) (by decide +kernel), _, rfl, rfl⟩⟩
set_option maxRecDepth 20000 in
theorem mt_ok_157 : mOk (m_Md_fault, yX9_fault, cX9_fault, 0, 1) := ⟨List.all_eq_true.mp kk_Md_fault, List.mem_of_getElem? (i := 1029) (by decide +kernel), rfl, List.mem_of_getElem? (i := 10) (by decide +kernel), plainFor_of_name (by decide +kernel), ⟨by decide +kernel, by decide +kernel, by decide +kernel⟩, by decide, fun h => absurd h (by decide), Or.inl ⟨rfl, List.mem_of_getElem? (i := 1027) (by decide +kernel), List.mem_of_getElem? (i := 1087) (by decide +kernel), _, rfl, rfl⟩⟩
set_option maxRecDepth 20000 in
theorem mt_ok_158 : mOk (m_Md_play, yX9_play, cX9_play, 0, 0) := ⟨List.all_eq_true.mp kk_Md_play, List.mem_of_getElem? (i := 1061) (by decide +kernel), rfl, List.mem_of_getElem? (i := 10) (by decide +kernel), plainFor_of_name (by decide +kernel), ⟨by decide +kernel, by decide +kernel, by decide +kernel⟩, by decide, fun h => absurd h (by decide), Or.inl ⟨rfl, List.mem_of_getElem? (i := 1059) (by decide +kernel), List.mem_of_getElem? (i := 1119) (by decide +kernel), _, rfl, rfl⟩⟩
set_option maxRecDepth 20000 in
theorem mt_ok_159 : mOk (m_Flt_isNaN, yJxf58ca_isNaN_12338, cJxf58ca_isNaN_12338, 1, 1) := ⟨List.all_eq_true.mp kk_Flt_isNaN, List.mem_of_getElem? (i := 1001) (by decide +kernel), rfl, List.mem_of_getElem? (i := 14) (by decide +kernel), by decide +kernel, ⟨by decide +kernel, by decide +kernel, by decide +kernel⟩, by decide, fun h => absurd h (by decide), Or.inr (Or.inl ⟨rfl, List.mem_of_getElem? (i := 1000) (by decide +kernel)⟩)⟩
set_option maxRecDepth 20000 in
theorem mt_ok_160 : mOk (m_Flt_floatToIntBits, yJxf58ca_floatToIntBits_5c35a, cJxf58ca_floatToIntBits_5c35a, 1, 1) := ⟨List.all_eq_true.mp kk_Flt_floatToIntBits, List.mem_of_getElem? (i := 998) (by decide +kernel), rfl, List.mem_of_getElem? (i := 14) (by decide +kernel), by decide +kernel, ⟨by decide +kernel, by decide +kernel, by decide +kernel⟩, by decide, fun h => absurd h (by decide), Or.inr (Or.inl ⟨rfl, List.mem_of_getElem? (i := 997) (by decide +kernel)⟩)⟩
set_option maxRecDepth 20000 in
theorem mt_ok_161 : mOk (m_Int_bitCount, yJ6_bitCount_0f7a4, cJ6_bitCount_0f7a4, 1, 1) := ⟨List.all_eq_true.mp kk_Int_bitCount, List.mem_of_getElem? (i := 436) (by decide +kernel), rfl, List.mem_of_getElem? (i := 13) (by decide +kernel), plainFor_of_name (by decide +kernel), ⟨by decide +kernel, by decide +kernel, by decide +kernel⟩, by decide, fun h => absurd h (by decide), Or.inr (Or.inl ⟨rfl, List.mem_of_getElem? (i := 435) (by decide +kernel)⟩)⟩
set_option maxRecDepth 20000 in
theorem mt_ok_162 : mOk (m_Math_max, yJ9_max_7cf53, cJ9_max_7cf53, 1, 2) := ⟨List.all_eq_true.mp kk_Math_max, List.mem_of_getElem? (i := 550) (by decide +kernel), rfl, List.mem_of_getElem? (i := 12) (by decide +kernel), by decide +kernel, ⟨by decide +kernel, by decide +kernel, by decide +kernel⟩, by decide, fun h => absurd h (by decide), Or.inr (Or.inl ⟨rfl, List.mem_of_getElem? (i := 549) (by decide +kernel)⟩)⟩
set_option maxRecDepth 20000 in
theorem mt_ok_163 : mOk (m_Math_min, yJ9_min_7cf53, cJ9_min_7cf53, 1, 2) := ⟨List.all_eq_true.mp kk_Math_min, List.mem_of_getElem? (i := 384) (by decide +kernel), rfl, List.mem_of_getElem? (i := 12) (by decide +kernel), by decide +kernel, ⟨by decide +kernel, by decide +kernel, by decide +kernel⟩, by decide, fun h => absurd h (by decide), Or.inr (Or.inl ⟨rfl, List.mem_of_getElem? (i := 383) (by decide +kernel)⟩)⟩
set_option maxRecDepth 100000 in
theorem mt_ok : ∀ q ∈ mtA, mOk q := List.forall_mem_cons.mpr ⟨mt_ok_0, List.forall_mem_cons.mpr ⟨mt_ok_1, List.forall_mem_cons.mpr ⟨mt_ok_2, List.forall_mem_cons.mpr ⟨mt_ok_3, List.forall_mem_cons.mpr ⟨mt_ok_4, List.forall_mem_cons.mpr ⟨mt_ok_5, List.forall_mem_cons.mpr ⟨mt_ok_6, List.forall_mem_cons.mpr ⟨mt_ok_7, List.forall_mem_cons.mpr ⟨mt_ok_8, List.forall_mem_cons.mpr ⟨mt_ok_9, List.forall_mem_cons.mpr ⟨mt_ok_10, List.forall_mem_cons.mpr ⟨mt_ok_11, List.forall_mem_cons.mpr ⟨mt_ok_12, List.forall_mem_cons.mpr ⟨mt_ok_13, List.forall_mem_cons.mpr ⟨mt_ok_14, List.forall_mem_cons.mpr ⟨mt_ok_15, List.forall_mem_cons.mpr ⟨mt_ok_16, List.forall_mem_cons.mpr ⟨mt_ok_17, List.forall_mem_cons.mpr ⟨mt_ok_18, List.forall_mem_cons.mpr ⟨mt_ok_19, List.forall_mem_cons.mpr ⟨mt_ok_20, List.forall_mem_cons.mpr ⟨mt_ok_21, List.forall_mem_cons.mpr ⟨mt_ok_22, List.forall_mem_cons.mpr ⟨mt_ok_23, List.forall_mem_cons.mpr ⟨mt_ok_24, List.forall_mem_cons.mpr ⟨mt_ok_25, List.forall_mem_cons.mpr ⟨mt_ok_26, List.forall_mem_cons.mpr ⟨mt_ok_27, List.forall_mem_cons.mpr ⟨mt_ok_28, List.forall_mem_cons.mpr ⟨mt_ok_29, List.forall_mem_cons.mpr ⟨mt_ok_30, List.forall_mem_cons.mpr ⟨mt_ok_31, List.forall_mem_cons.mpr ⟨mt_ok_32, List.forall_mem_cons.mpr ⟨mt_ok_33, List.forall_mem_cons.mpr ⟨mt_ok_34, List.forall_mem_cons.mpr ⟨mt_ok_35, List.forall_mem_cons.mpr ⟨mt_ok_36, List.forall_mem_cons.mpr ⟨mt_ok_37, List.forall_mem_cons.mpr ⟨mt_ok_38, List.forall_mem_cons.mpr ⟨mt_ok_39, List.forall_mem_cons.mpr ⟨mt_ok_40, List.forall_mem_cons.mpr ⟨mt_ok_41, List.forall_mem_cons.mpr ⟨mt_ok_42, List.forall_mem_cons.mpr ⟨mt_ok_43, List.forall_mem_cons.mpr ⟨mt_ok_44, List.forall_mem_cons.mpr ⟨mt_ok_45, List.forall_mem_cons.mpr ⟨mt_ok_46, List.forall_mem_cons.mpr ⟨mt_ok_47, List.forall_mem_cons.mpr ⟨mt_ok_48, List.forall_mem_cons.mpr ⟨mt_ok_49, List.forall_mem_cons.mpr ⟨mt_ok_50, List.forall_mem_cons.mpr ⟨mt_ok_51, List.forall_mem_cons.mpr ⟨mt_ok_52, List.forall_mem_cons.mpr ⟨mt_ok_53, List.forall_mem_cons.mpr ⟨mt_ok_54, List.forall_mem_cons.mpr ⟨mt_ok_55, List.forall_mem_cons.mpr ⟨mt_ok_56, List.forall_mem_cons.mpr ⟨mt_ok_57, List.forall_mem_cons.mpr ⟨mt_ok_58, List.forall_mem_cons.mpr ⟨mt_ok_59, List.forall_mem_cons.mpr ⟨mt_ok_60, List.forall_mem_cons.mpr ⟨mt_ok_61, List.forall_mem_cons.mpr ⟨mt_ok_62, List.forall_mem_cons.mpr ⟨mt_ok_63, List.forall_mem_cons.mpr ⟨mt_ok_64, List.forall_mem_cons.mpr ⟨mt_ok_65, List.forall_mem_cons.mpr ⟨mt_ok_66, List.forall_mem_cons.mpr ⟨mt_ok_67, List.forall_mem_cons.mpr ⟨mt_ok_68, List.forall_mem_cons.mpr ⟨mt_ok_69, List.forall_mem_cons.mpr ⟨mt_ok_70, List.forall_mem_cons.mpr ⟨mt_ok_71, List.forall_mem_cons.mpr ⟨mt_ok_72, List.forall_mem_cons.mpr ⟨mt_ok_73, List.forall_mem_cons.mpr ⟨mt_ok_74, List.forall_mem_cons.mpr ⟨mt_ok_75, List.forall_mem_cons.mpr ⟨mt_ok_76, List.forall_mem_cons.mpr ⟨mt_ok_77, List.forall_mem_cons.mpr ⟨mt_ok_78, List.forall_mem_cons.mpr ⟨mt_ok_79, List.forall_mem_cons.mpr ⟨mt_ok_80, List.forall_mem_cons.mpr ⟨mt_ok_81, List.forall_mem_cons.mpr ⟨mt_ok_82, List.forall_mem_cons.mpr ⟨mt_ok_83, List.forall_mem_cons.mpr ⟨mt_ok_84, List.forall_mem_cons.mpr ⟨mt_ok_85, List.forall_mem_cons.mpr ⟨mt_ok_86, List.forall_mem_cons.mpr ⟨mt_ok_87, List.forall_mem_cons.mpr ⟨mt_ok_88, List.forall_mem_cons.mpr ⟨mt_ok_89, List.forall_mem_cons.mpr ⟨mt_ok_90, List.forall_mem_cons.mpr ⟨mt_ok_91, List.forall_mem_cons.mpr ⟨mt_ok_92, List.forall_mem_cons.mpr ⟨mt_ok_93, List.forall_mem_cons.mpr ⟨mt_ok_94, List.forall_mem_cons.mpr ⟨mt_ok_95, List.forall_mem_cons.mpr ⟨mt_ok_96, List.forall_mem_cons.mpr ⟨mt_ok_97, List.forall_mem_cons.mpr ⟨mt_ok_98, List.forall_mem_cons.mpr ⟨mt_ok_99, List.forall_mem_cons.mpr ⟨mt_ok_100, List.forall_mem_cons.mpr ⟨mt_ok_101, List.forall_mem_cons.mpr ⟨mt_ok_102, List.forall_mem_cons.mpr ⟨mt_ok_103, List.forall_mem_cons.mpr ⟨mt_ok_104, List.forall_mem_cons.mpr ⟨mt_ok_105, List.forall_mem_cons.mpr ⟨mt_ok_106, List.forall_mem_cons.mpr ⟨mt_ok_107, List.forall_mem_cons.mpr ⟨mt_ok_108, List.forall_mem_cons.mpr ⟨mt_ok_109, List.forall_mem_cons.mpr ⟨mt_ok_110, List.forall_mem_cons.mpr ⟨mt_ok_111, List.forall_mem_cons.mpr ⟨mt_ok_112, List.forall_mem_cons.mpr ⟨mt_ok_113, List.forall_mem_cons.mpr ⟨mt_ok_114, List.forall_mem_cons.mpr ⟨mt_ok_115, List.forall_mem_cons.mpr ⟨mt_ok_116, List.forall_mem_cons.mpr ⟨mt_ok_117, List.forall_mem_cons.mpr ⟨mt_ok_118, List.forall_mem_cons.mpr ⟨mt_ok_119, List.forall_mem_cons.mpr ⟨mt_ok_120, List.forall_mem_cons.mpr ⟨mt_ok_121, List.forall_mem_cons.mpr ⟨mt_ok_122, List.forall_mem_cons.mpr ⟨mt_ok_123, List.forall_mem_cons.mpr ⟨mt_ok_124, List.forall_mem_cons.mpr ⟨mt_ok_125, List.forall_mem_cons.mpr ⟨mt_ok_126, List.forall_mem_cons.mpr ⟨mt_ok_127, List.forall_mem_cons.mpr ⟨mt_ok_128, List.forall_mem_cons.mpr ⟨mt_ok_129, List.forall_mem_cons.mpr ⟨mt_ok_130, List.forall_mem_cons.mpr ⟨mt_ok_131, List.forall_mem_cons.mpr ⟨mt_ok_132, List.forall_mem_cons.mpr ⟨mt_ok_133, List.forall_mem_cons.mpr ⟨mt_ok_134, List.forall_mem_cons.mpr ⟨mt_ok_135, List.forall_mem_cons.mpr ⟨mt_ok_136, List.forall_mem_cons.mpr ⟨mt_ok_137, List.forall_mem_cons.mpr ⟨mt_ok_138, List.forall_mem_cons.mpr ⟨mt_ok_139, List.forall_mem_cons.mpr ⟨mt_ok_140, List.forall_mem_cons.mpr ⟨mt_ok_141, List.forall_mem_cons.mpr ⟨mt_ok_142, List.forall_mem_cons.mpr ⟨mt_ok_143, List.forall_mem_cons.mpr ⟨mt_ok_144, List.forall_mem_cons.mpr ⟨mt_ok_145, List.forall_mem_cons.mpr ⟨mt_ok_146, List.forall_mem_cons.mpr ⟨mt_ok_147, List.forall_mem_cons.mpr ⟨mt_ok_148, List.forall_mem_cons.mpr ⟨mt_ok_149, List.forall_mem_cons.mpr ⟨mt_ok_150, List.forall_mem_cons.mpr ⟨mt_ok_151, List.forall_mem_cons.mpr ⟨mt_ok_152, List.forall_mem_cons.mpr ⟨mt_ok_153, List.forall_mem_cons.mpr ⟨mt_ok_154, List.forall_mem_cons.mpr ⟨mt_ok_155, List.forall_mem_cons.mpr ⟨mt_ok_156, List.forall_mem_cons.mpr ⟨mt_ok_157, List.forall_mem_cons.mpr ⟨mt_ok_158, List.forall_mem_cons.mpr ⟨mt_ok_159, List.forall_mem_cons.mpr ⟨mt_ok_160, List.forall_mem_cons.mpr ⟨mt_ok_161, List.forall_mem_cons.mpr ⟨mt_ok_162, List.forall_mem_cons.mpr ⟨mt_ok_163, fun _ h => absurd h List.not_mem_nil⟩⟩⟩⟩⟩⟩⟩⟩⟩⟩⟩⟩⟩⟩⟩⟩⟩⟩⟩⟩⟩⟩⟩⟩⟩⟩⟩⟩⟩⟩⟩⟩⟩⟩⟩⟩⟩⟩⟩⟩⟩⟩⟩⟩⟩⟩⟩⟩⟩⟩⟩⟩⟩⟩⟩⟩⟩⟩⟩⟩⟩⟩⟩⟩⟩⟩⟩⟩⟩⟩⟩⟩⟩⟩⟩⟩⟩⟩⟩⟩⟩⟩⟩⟩⟩⟩⟩⟩⟩⟩⟩⟩⟩⟩⟩⟩⟩⟩⟩⟩⟩⟩⟩⟩⟩⟩⟩⟩⟩⟩⟩⟩⟩⟩⟩⟩⟩⟩⟩⟩⟩⟩⟩⟩⟩⟩⟩⟩⟩⟩⟩⟩⟩⟩⟩⟩⟩⟩⟩⟩⟩⟩⟩⟩⟩⟩⟩⟩⟩⟩⟩⟩⟩⟩⟩⟩⟩⟩⟩⟩⟩⟩⟩⟩
set_option maxRecDepth 100000 in
theorem x_tk {α : Type} (l : List α) (n : Nat) (P : α → Prop) (a : Nat) (h : ∀ q ∈ (l.drop a).take n, P q) (h2 : ∀ q ∈ l.drop (a + n), P q) : ∀ q ∈ l.drop a, P q := by
  intro q hq
  rw [← List.take_append_drop n (l.drop a), List.mem_append, List.drop_drop] at hq
  exact hq.elim (h q) (h2 q)
theorem kk_law : ∀ q ∈ k_law, okE 13 code q = true := by
  have h8 : ∀ q ∈ k_law.drop 430, okE 13 code q = true := fun q hq => absurd hq (by rw [show k_law.drop 430 = [] from rfl]; exact List.not_mem_nil)
  have h7 : ∀ q ∈ k_law.drop 420, okE 13 code q = true := x_tk k_law 10 (fun q => okE 13 code q = true) 420 (List.all_eq_true.mp kk_law7) h8
  have h6 : ∀ q ∈ k_law.drop 360, okE 13 code q = true := x_tk k_law 60 (fun q => okE 13 code q = true) 360 (List.all_eq_true.mp kk_law6) h7
  have h5 : ∀ q ∈ k_law.drop 300, okE 13 code q = true := x_tk k_law 60 (fun q => okE 13 code q = true) 300 (List.all_eq_true.mp kk_law5) h6
  have h4 : ∀ q ∈ k_law.drop 240, okE 13 code q = true := x_tk k_law 60 (fun q => okE 13 code q = true) 240 (List.all_eq_true.mp kk_law4) h5
  have h3 : ∀ q ∈ k_law.drop 180, okE 13 code q = true := x_tk k_law 60 (fun q => okE 13 code q = true) 180 (List.all_eq_true.mp kk_law3) h4
  have h2 : ∀ q ∈ k_law.drop 120, okE 13 code q = true := x_tk k_law 60 (fun q => okE 13 code q = true) 120 (List.all_eq_true.mp kk_law2) h3
  have h1 : ∀ q ∈ k_law.drop 60, okE 13 code q = true := x_tk k_law 60 (fun q => okE 13 code q = true) 60 (List.all_eq_true.mp kk_law1) h2
  have h0 : ∀ q ∈ k_law.drop 0, okE 13 code q = true := x_tk k_law 60 (fun q => okE 13 code q = true) 0 (List.all_eq_true.mp kk_law0) h1
  exact h0
end
section
/-! ===== the program run over a small picture of the heap: a skeleton of cells, and a store of their ints ===== -/
/-- a field: an int (none), null, or a cell -/
abbrev xF : Type := Option (Option Nat)
/-- a cell: an array of n ints, an object of a class, an array of references -/
abbrev xS : Type := Nat ⊕ ((Nat × List xF) ⊕ List (Option Nat))
abbrev xW : Type := List xS
abbrev xG : Type := Nat → Nat → Int32
abbrev xL : Type := List (Option Value)
abbrev xQ : Type := Option Value → xG → Prop
abbrev xCall : Type := Nat → List Value → xW → xG → xW → xQ → Prop
def x_at : xK → Nat → Option (Jvm.ClassFile.Instr × Nat × Nat × Nat)
  | [], _ => none
  | e :: k, pc => bif Nat.beq e.1 pc then some e.2 else x_at k pc
def x_up (g : xG) (k j : Nat) (x : Int32) : xG := fun a b => if a = k then (if b = j then x else g a b) else g a b
def x_z (g : xG) (k : Nat) : xG := fun a b => if a = k then 0 else g a b
def x_cp (g : xG) (k0 k1 sp dp n : Nat) : xG := fun a b => if a = k1 then va_cpy (g k0) (g k1) sp dp n b else g a b
/-- the one field of truth values, and what it may hold -/
def x_bool (ci k : Nat) : Bool := Nat.beq ci 9 && Nat.beq k 16
def x_01 (x : Int32) : Bool := decide (x = nI 0) || decide (x = nI 1)
/-- slots of a cell -/
def x_cs : xS → Nat
  | .inl n => n
  | .inr (.inl o) => o.2.length
  | .inr (.inr es) => es.length
def x_sz (S : xW) : Nat := (S.map x_cs).sum
def x_s (mm : xM) (Ls : Option (Nat × (Nat → Int32))) (i : Jvm.ClassFile.Instr) (r1 r2 : Nat) (L : xL) (st : List Value) (S : xW) (g : xG) : Option (xL × List Value × xW × xG) :=
  match i with
  | .iconst _ => match x_csts[r1]? with | some v => some (L, v :: st, S, g) | none => none
  | .bipush _ => match x_csts[r1]? with | some v => some (L, v :: st, S, g) | none => none
  | .sipush _ => match x_csts[r1]? with | some v => some (L, v :: st, S, g) | none => none
  | .fconst _ => match x_csts[r1]? with | some v => some (L, v :: st, S, g) | none => none
  | .ldc _ => match x_csts[r1]? with | some v => some (L, v :: st, S, g) | none => none
  | .ldc_w _ => match x_csts[r1]? with | some v => some (L, v :: st, S, g) | none => none
  | .iload_n k => match L[k.val]? with | some (some (.int x)) => some (L, .int x :: st, S, g) | _ => none
  | .iload k => match L[k]? with | some (some (.int x)) => some (L, .int x :: st, S, g) | _ => none
  | .fload_n k => match L[k.val]? with | some (some (.float x)) => some (L, .float x :: st, S, g) | _ => none
  | .aload_n k => match L[k.val]? with | some (some (.ref x)) => some (L, .ref x :: st, S, g) | _ => none
  | .aload k => match L[k]? with | some (some (.ref x)) => some (L, .ref x :: st, S, g) | _ => none
  | .istore_n k => match st with
    | .int x :: r => match L[k.val]? with | some _ => some (L.set k.val (some (.int x)), r, S, g) | none => none
    | _ => none
  | .istore k => match st with
    | .int x :: r => match L[k]? with | some _ => some (L.set k (some (.int x)), r, S, g) | none => none
    | _ => none
  | .fstore_n k => match st with
    | .float x :: r => match L[k.val]? with | some _ => some (L.set k.val (some (.float x)), r, S, g) | none => none
    | _ => none
  | .astore_n k => match st with
    | .ref x :: r => match L[k.val]? with | some _ => some (L.set k.val (some (.ref x)), r, S, g) | none => none
    | _ => none
  | .iinc k _ => match L[k]? with
    | some (some (.int x)) => match x_csts[r1]? with | some (.int c) => some (L.set k (some (.int (x + c))), st, S, g) | _ => none
    | _ => none
  | .iadd => match st with | .int y :: .int x :: r => some (L, .int (x + y) :: r, S, g) | _ => none
  | .isub => match st with | .int y :: .int x :: r => some (L, .int (x - y) :: r, S, g) | _ => none
  | .imul => match st with | .int y :: .int x :: r => some (L, .int (x * y) :: r, S, g) | _ => none
  | .iand => match st with | .int y :: .int x :: r => some (L, .int (x &&& y) :: r, S, g) | _ => none
  | .ior => match st with | .int y :: .int x :: r => some (L, .int (x ||| y) :: r, S, g) | _ => none
  | .ixor => match st with | .int y :: .int x :: r => some (L, .int (x ^^^ y) :: r, S, g) | _ => none
  | .ishl => match st with | .int y :: .int x :: r => some (L, .int (x <<< (y &&& 31)) :: r, S, g) | _ => none
  | .ishr => match st with | .int y :: .int x :: r => some (L, .int (x >>> (y &&& 31)) :: r, S, g) | _ => none
  | .iushr => match st with | .int y :: .int x :: r => some (L, .int (x.toUInt32 >>> (y.toUInt32 &&& Int32.toUInt32 31)).toInt32 :: r, S, g) | _ => none
  | .i2f => match st with | .int x :: r => some (L, .float (FP.i2f x) :: r, S, g) | _ => none
  | .f2i => match st with | .float x :: r => some (L, .int (FP.f2i x) :: r, S, g) | _ => none
  | .fcmp op => match st with | .float y :: .float x :: r => some (L, .int (Op.cmpValue (FP.fcmp x y) op) :: r, S, g) | _ => none
  | .dup => match st with
    | .ref x :: r => some (L, .ref x :: .ref x :: r, S, g)
    | .int x :: r => some (L, .int x :: .int x :: r, S, g)
    | _ => none
  | .dup2 => match st with | .int x :: .ref y :: r => some (L, .int x :: .ref y :: .int x :: .ref y :: r, S, g) | _ => none
  | .arraylength => match st with | .ref 0 :: r => (match Ls with | some n => some (L, .int (nI n.1) :: r, S, g) | none => none) | _ => none
  | .getfield _ => match st with
    | .ref (q + 1) :: r => match S[q]? with
      | some (.inr (.inl (ci, fs))) => bif Nat.beq ci r1 then (match fs[r2]? with
        | some none => some (L, .int (g (q + 1) r2) :: r, S, g)
        | some (some (some k)) => some (L, .ref k :: r, S, g)
        | _ => none) else none
      | _ => none
    | _ => none
  | .putfield _ => match st with
    | .int x :: .ref (q + 1) :: r => match S[q]? with
      | some (.inr (.inl (ci, fs))) => bif Nat.beq ci r1 then (match (x_new r1)[r2]?, fs[r2]? with
        | some none, some none => bif !x_bool r1 r2 || x_01 x then some (L, r, S, x_up g (q + 1) r2 x) else none
        | _, _ => none) else none
      | _ => none
    | .ref v :: .ref (q + 1) :: r => match S[q]? with
      | some (.inr (.inl (ci, fs))) => bif Nat.beq ci r1 && Nat.beq ci mm.1 && mm.2.1 then (match (x_new r1)[r2]?, fs[r2]? with
        | some (some _), some (some _) => some (L, r, S.set q (.inr (.inl (ci, fs.set r2 (some (some v))))), g)
        | _, _ => none) else none
      | _ => none
    | _ => none
  | _ => none
def x_c (c : Jvm.ClassFile.Cond) (x y : Int32) : Prop := match c with
  | .eq => x = y
  | .ne => ¬ x = y
  | .lt => x < y
  | .ge => y ≤ x
  | .gt => y < x
  | .le => x ≤ y
def x_spl : Nat → List Value → List Value → Option (List Value × List Value)
  | 0, acc, st => some (acc, st)
  | n + 1, acc, v :: st => x_spl n (v :: acc) st
  | _ + 1, _, [] => none
def x_sw (tab : List (Nat × Nat)) (d : Nat) (x : Int32) (P : Nat → Prop) : Prop := (∀ q ∈ tab, x = nI q.1 → P q.2) ∧ ((∀ q ∈ tab, ¬ x = nI q.1) → P d)
abbrev xA : Type := Nat → xL → List Value → xW → xG → Prop
/-- one instruction: what must hold for the way on to be A's -/
def x_F (call : xCall) (mm : xM) (Ls : Option (Nat × (Nat → Int32))) (Se : xW) (Q : xQ) (A : xA) (pc : Nat) (L : xL) (st : List Value) (S : xW) (g : xG) : Prop :=
    match x_at mm.2.2.2.2 pc with
    | none => False
    | some (i, len, r1, r2) =>
      match i with
      | .goto _ => A r1 L st S g
      | .ifCond c _ => match st with
        | .int x :: r => (x_c c x 0 → A r1 L r S g) ∧ (¬ x_c c x 0 → A (pc + len) L r S g)
        | _ => False
      | .if_icmp c _ => match st with
        | .int y :: .int x :: r => (x_c c x y → A r1 L r S g) ∧ (¬ x_c c x y → A (pc + len) L r S g)
        | _ => False
      | .tableswitch _ _ _ _ => match st with
        | .int x :: r => match x_sws[r1]? with
          | some (tab, d) => x_sw tab d x (fun t => A t L r S g)
          | none => False
        | _ => False
      | .lookupswitch _ _ => match st with
        | .int x :: r => match x_sws[r1]? with
          | some (tab, d) => x_sw tab d x (fun t => A t L r S g)
          | none => False
        | _ => False
      | .iaload => match st with
        | .int i :: .ref 0 :: r => ∃ j n', Ls = some n' ∧ i = nI j ∧ j < n'.1 ∧ j < 65536 ∧ A (pc + len) L (.int (n'.2 j) :: r) S g
        | .int i :: .ref (q + 1) :: r => match S[q]? with
          | some (.inl m) => ∃ j, i = nI j ∧ j < m ∧ j < 65536 ∧ A (pc + len) L (.int (g (q + 1) j) :: r) S g
          | _ => False
        | _ => False
      | .iastore => match st with
        | .int x :: .int i :: .ref (q + 1) :: r => match S[q]? with
          | some (.inl m) => ∃ j, i = nI j ∧ j < m ∧ j < 65536 ∧ A (pc + len) L r S (x_up g (q + 1) j x)
          | _ => False
        | _ => False
      | .aaload => match st with
        | .int i :: .ref (q + 1) :: r => match S[q]? with
          | some (.inr (.inr es)) => ∃ j k, i = nI j ∧ es[j]? = some (some k) ∧ j < 65536 ∧ A (pc + len) L (.ref k :: r) S g
          | _ => False
        | _ => False
      | .aastore => match st with
        | .ref (v + 1) :: .int i :: .ref (q + 1) :: r => match S[q]? with
          | some (.inr (.inr es)) => ∃ j fs, i = nI j ∧ j < es.length ∧ j < 65536 ∧ S[v]? = some (.inr (.inl (2, fs))) ∧ A (pc + len) L r (S.set q (.inr (.inr (es.set j (some (v + 1)))))) g
          | _ => False
        | _ => False
      | .irem => match st with
        | .int y :: .int x :: r => ¬ y = 0 ∧ A (pc + len) L (.int (x - x / y * y) :: r) S g
        | _ => False
      | .fdiv => match st with
        | .float y :: .float x :: r => vf_n32 (FP.fdiv x y) ∧ A (pc + len) L (.float (FP.fdiv x y) :: r) S g
        | _ => False
      | .fmul => match st with
        | .float y :: .float x :: r => vf_n32 (FP.fmul x y) ∧ A (pc + len) L (.float (FP.fmul x y) :: r) S g
        | _ => False
      | .fsub => match st with
        | .float y :: .float x :: r => vf_n32 (FP.fsub x y) ∧ A (pc + len) L (.float (FP.fsub x y) :: r) S g
        | _ => False
      | .new _ => (S.length + 1 ≤ Se.length ∧ x_sz S + (x_new r1).length ≤ x_sz Se) ∧ A (pc + len) L (.ref (S.length + 1) :: st) (S ++ [.inr (.inl (r1, x_new r1))]) (x_z g (S.length + 1))
      | .newarray .int => match st with
        | .int c :: r => ∃ m, c = nI m ∧ m < 65536 ∧ (S.length + 1 ≤ Se.length ∧ x_sz S + m ≤ x_sz Se) ∧ A (pc + len) L (.ref (S.length + 1) :: r) (S ++ [.inl m]) (x_z g (S.length + 1))
        | _ => False
      | .anewarray _ => match st with
        | .int c :: r => ∃ m, c = nI m ∧ m < 65536 ∧ r1 = 2 ∧ (S.length + 1 ≤ Se.length ∧ x_sz S + m ≤ x_sz Se) ∧ A (pc + len) L (.ref (S.length + 1) :: r) (S ++ [.inr (.inr (List.replicate m none))]) g
        | _ => False
      | .invokevirtual _ => match x_spl (r2 + 1) [] st with
        | some (As, r) => (r.map fun v => v.category).sum ≤ 8 ∧ ∃ S1 Q1, call r1 As S g S1 Q1 ∧ (S1.length ≤ Se.length ∧ x_sz S1 ≤ x_sz Se) ∧ ∀ v g1, Q1 v g1 → A (pc + len) L (v.toList ++ r) S1 g1
        | none => False
      | .invokestatic _ => bif Nat.beq r1 1001 then (match st with
          | .int c :: .int b :: .ref (q1 + 1) :: .int a :: .ref (q0 + 1) :: r => match S[q0]? with
            | some (.inl n0) => match S[q1]? with
              | some (.inl n1) => (r.map fun v => v.category).sum ≤ 8 ∧ ∃ a' b' c', a = nI a' ∧ b = nI b' ∧ c = nI c' ∧ a' + c' ≤ n0 ∧ b' + c' ≤ n1 ∧ a' + b' + c' < 65536 ∧ A (pc + len) L r S (x_cp g (q0 + 1) (q1 + 1) a' b' c')
              | _ => False
            | _ => False
          | _ => False)
        else bif Nat.beq r1 1002 then (match st with
          | .float x :: r => (r.map fun v => v.category).sum ≤ 8 ∧ A (pc + len) L (.int x.toInt32 :: r) S g
          | _ => False)
        else (match x_spl r2 [] st with
          | some (As, r) => (r.map fun v => v.category).sum ≤ 8 ∧ ∃ S1 Q1, call r1 As S g S1 Q1 ∧ (S1.length ≤ Se.length ∧ x_sz S1 ≤ x_sz Se) ∧ ∀ v g1, Q1 v g1 → A (pc + len) L (v.toList ++ r) S1 g1
          | none => False)
      | .invokespecial _ => bif Nat.beq r1 1000 then (match st with
          | .ref _ :: r => (r.map fun v => v.category).sum ≤ 8 ∧ A (pc + len) L r S g
          | _ => False)
        else (match x_spl (r2 + 1) [] st with
          | some (As, r) => (r.map fun v => v.category).sum ≤ 8 ∧ ∃ S1 Q1, call r1 As S g S1 Q1 ∧ (S1.length ≤ Se.length ∧ x_sz S1 ≤ x_sz Se) ∧ ∀ v g1, Q1 v g1 → A (pc + len) L (v.toList ++ r) S1 g1
          | none => False)
      | .ireturn => match st with
        | [.int v] => (∃ ty, mm.2.2.1 = some ty ∧ narrow ty (.int v) = .int v) ∧ S = Se ∧ Q (some (.int v)) g
        | _ => False
      | .return_ => st = [] ∧ mm.2.2.1 = none ∧ S = Se ∧ Q none g
      | i => match x_s mm Ls i r1 r2 L st S g with
        | some (L', st', S', g') => A (pc + len) L' st' S' g'
        | none => False
/-- the least of it: from here the run comes to its end, with Q -/
def Rn (call : xCall) (mm : xM) (Ls : Option (Nat × (Nat → Int32))) (Se : xW) (Q : xQ) : xA := fun pc L st S g =>
  ∀ P : xA, (∀ (pc : Nat) (L : xL) (st : List Value) (S : xW) (g : xG) (A : xA), (∀ (pc : Nat) (L : xL) (st : List Value) (S : xW) (g : xG), A pc L st S g → P pc L st S g) → x_F call mm Ls Se Q A pc L st S g → P pc L st S g) → P pc L st S g
theorem Rn.in {call : xCall} {mm : xM} {Ls : Option (Nat × (Nat → Int32))} {Se : xW} {Q : xQ} {pc : Nat} {L : xL} {st : List Value} {S : xW} {g : xG} (h : x_F call mm Ls Se Q (Rn call mm Ls Se Q) pc L st S g) : Rn call mm Ls Se Q pc L st S g :=
  fun P hP => hP pc L st S g _ (fun _ _ _ _ _ h => h P hP) h
/-- a method called: by its number, to the depth d -/
def x_cl : Nat → xCall
  | 0, _, _, _, _, _, _ => False
  | d + 1, t, As, S, g, Se, Q => ∃ e : xM × MethodName × ByteArray × Nat × Nat, mtA[t]? = some e ∧
      (e.2.2.2.1 = 1 ∨ ∃ q fs Bs, As = .ref (q + 1) :: Bs ∧ S[q]? = some (.inr (.inl (e.1.1, fs)))) ∧
      As.length ≤ e.1.2.2.2.1 ∧ (∀ v ∈ As, v.category = 1) ∧ (S.length ≤ Se.length ∧ x_sz S ≤ x_sz Se) ∧
      Rn (x_cl d) e.1 none Se Q 0 (As.map some ++ List.replicate (e.1.2.2.2.1 - As.length) none) [] S g
end
section
/-! ===== the picture as the machine's heap ===== -/
/-- the address of a cell's number: 0 the script's, k + 1 the k-th cell made -/
def x_a (b sz : Nat) : Nat → Nat
  | 0 => b
  | k + 1 => sz + k
def x_v (b sz : Nat) : Value → Value
  | .ref k => .ref (x_a b sz k)
  | v => v
def x_f (b sz : Nat) (gk : Nat → Int32) (j : Nat) (f : xF) : Value := match f with
  | none => .int (gk j)
  | some none => .null
  | some (some k) => .ref (x_a b sz k)
def x_e (cI cG : ClassId) (b sz : Nat) (gk : Nat → Int32) (c : xS) : va_E := match c with
  | .inl n => .inl (cI, n, .inl gk)
  | .inr (.inl o) => .inr (o.1, o.2.mapIdx (x_f b sz gk))
  | .inr (.inr es) => .inl (cG, es.length, .inr (.inr (.inr (.inr (fun j => (es[j]?.getD none).map (x_a b sz))))))
def x_ws (cI cG : ClassId) (b sz : Nat) (S : xW) (g : xG) : va_W := S.mapIdx fun k c => (sz + k, x_e cI cG b sz (g (k + 1)) c)
theorem x_ws_get {cI cG : ClassId} {b sz q : Nat} {S : xW} {g : xG} {c : xS} (h : S[q]? = some c) : (x_ws cI cG b sz S g)[q]? = some (sz + q, x_e cI cG b sz (g (q + 1)) c) := by
  simp [x_ws, List.getElem?_mapIdx, h]
theorem x_ws_len {cI cG : ClassId} {b sz : Nat} {S : xW} {g : xG} : (x_ws cI cG b sz S g).length = S.length := by simp [x_ws]
theorem x_ws_set {cI cG : ClassId} {b sz q : Nat} {S : xW} {g g' : xG} {c' : xS} (hg : ∀ k, k ≠ q + 1 → g' k = g k) : (x_ws cI cG b sz S g).set q (sz + q, x_e cI cG b sz (g' (q + 1)) c') = x_ws cI cG b sz (S.set q c') g' := by
  apply List.ext_getElem?
  intro i
  simp only [x_ws, List.getElem?_set, List.getElem?_mapIdx, List.length_mapIdx]
  by_cases hi : q = i
  · subst hi
    by_cases hl : q < S.length <;> simp [hl]
  · simp only [hi, if_false]
    rw [hg (i + 1) (fun z => hi (Nat.succ.inj z).symm)]
theorem x_ws_push {cI cG : ClassId} {b sz : Nat} {S : xW} {g g' : xG} {c' : xS} (hg : ∀ k, k ≠ S.length + 1 → g' k = g k) : x_ws cI cG b sz (S ++ [c']) g' = x_ws cI cG b sz S g ++ [(sz + S.length, x_e cI cG b sz (g' (S.length + 1)) c')] := by
  apply List.ext_getElem?
  intro i
  simp only [x_ws, List.getElem?_mapIdx, List.getElem?_append, List.length_mapIdx]
  by_cases hl : i < S.length
  · simp only [hl, if_true]
    rw [hg (i + 1) (fun z => by omega)]
  · simp only [hl, if_false]
    by_cases h0 : i - S.length = 0
    · have : i = S.length := by omega
      subst this
      simp
    · rw [List.getElem?_eq_none (by simp; omega), List.getElem?_eq_none (by simp; omega)]
      rfl
theorem x_set_self {S : xW} {q : Nat} {c : xS} (h : S[q]? = some c) : S.set q c = S := by
  apply List.ext_getElem?
  intro i
  rw [List.getElem?_set]
  by_cases hi : q = i
  · subst hi
    rw [if_pos rfl, h, if_pos (List.getElem?_eq_some_iff.mp h).1]
  · rw [if_neg hi]
theorem x_D {cI cG : ClassId} {b sz : Nat} {S : xW} {g : xG} : va_D (fun q => sz ≤ q) (x_ws cI cG b sz S g) := by
  refine ⟨fun i j p q hi hj e => ?_, fun k q hk => ?_⟩
  · simp only [x_ws, List.getElem?_mapIdx, Option.map_eq_some_iff] at hi hj
    obtain ⟨c1, -, rfl⟩ := hi
    obtain ⟨c2, -, rfl⟩ := hj
    dsimp only at e
    omega
  · simp only [x_ws, List.getElem?_mapIdx, Option.map_eq_some_iff] at hk
    obtain ⟨c1, -, rfl⟩ := hk
    exact Nat.le_add_right _ _
theorem x_up_ne {g : xG} {q j : Nat} {x : Int32} : ∀ k, k ≠ q + 1 → x_up g (q + 1) j x k = g k := fun k hk => by
  funext a
  simp [x_up, hk]
theorem x_up_eq {g : xG} {q j : Nat} {x : Int32} : x_up g q j x q = upd (g q) j x := by
  funext a
  simp [x_up, upd]
theorem x_v_cat {b sz : Nat} (v : Value) : (x_v b sz v).category = v.category := by cases v <;> rfl
/-! the locals -/
def x_lh (b sz : Nat) (ls : Array Slot) (L : xL) : Prop := ls.size = L.length ∧ lv_wf ls ∧ ∀ (i : Nat) (v : Value), L[i]? = some (some v) → ls[i]? = some (.val (x_v b sz v)) ∧ v.category = 1
def x_lst (b sz : Nat) (L : xL) : List (Nat × Value) := (List.range L.length).filterMap fun i => match L[i]? with
  | some (some v) => some (i, x_v b sz v)
  | _ => none
theorem x_lst_mem {b sz : Nat} {L : xL} {q : Nat × Value} (h : q ∈ x_lst b sz L) : ∃ v, L[q.1]? = some (some v) ∧ q.2 = x_v b sz v := by
  obtain ⟨i, -, hi⟩ := List.mem_filterMap.mp h
  split at hi
  · rename_i v hv
    cases hi
    exact ⟨v, hv, rfl⟩
  · cases hi
theorem x_lst_in {b sz i : Nat} {L : xL} {v : Value} (h : L[i]? = some (some v)) : (i, x_v b sz v) ∈ x_lst b sz L := by
  refine List.mem_filterMap.mpr ⟨i, List.mem_range.mpr (List.getElem?_eq_some_iff.mp h).1, ?_⟩
  rw [h]
theorem x_lh_has {b sz : Nat} {ls : Array Slot} {L : xL} (h : x_lh b sz ls L) : lv_has ls L.length (x_lst b sz L) := by
  refine ⟨h.1, h.2.1, fun q hq => ?_⟩
  obtain ⟨v, h1, h2⟩ := x_lst_mem hq
  rw [h2]
  exact (h.2.2 _ _ h1).1
theorem x_has_lh {b sz i : Nat} {ls ls' : Array Slot} {L : xL} {v : Value} (h : x_lh b sz ls L) (hc : v.category = 1) (hi : i < L.length) (h' : lv_has ls' L.length ((i, x_v b sz v) :: (x_lst b sz L).filter (fun q => !(q.1 == i) && !(q.1 + 1 == i && q.2.category == 2)))) : x_lh b sz ls' (L.set i (some v)) := by
  refine ⟨by rw [h'.1, List.length_set], h'.2.1, fun j w hw => ?_⟩
  rw [List.getElem?_set] at hw
  by_cases hj : i = j
  · subst hj
    rw [if_pos rfl, if_pos hi] at hw
    cases hw
    exact ⟨h'.2.2 (i, x_v b sz v) List.mem_cons_self, hc⟩
  · rw [if_neg hj] at hw
    obtain ⟨-, h2⟩ := h.2.2 j w hw
    refine ⟨h'.2.2 (j, x_v b sz w) (List.mem_cons_of_mem _ (List.mem_filter.mpr ⟨x_lst_in hw, ?_⟩)), h2⟩
    have e1 : (j == i) = false := by simp; omega
    have e2 : ((x_v b sz w).category == 2) = false := by rw [x_v_cat, h2]; rfl
    simp [e1, e2]
theorem x_lh_at {b sz i : Nat} {ls : Array Slot} {L : xL} {v : Value} (h : x_lh b sz ls L) (hv : L[i]? = some (some v)) : ls[i]? = some (.val (x_v b sz v)) := (h.2.2 i v hv).1
theorem x_lv_args (b sz : Nat) : ∀ (vs : List Value) (i : Nat), (∀ v ∈ vs, v.category = 1) → ∀ (j : Nat) (v : Value), vs[j]? = some v → (i + j, x_v b sz v) ∈ lv_args i (vs.map (x_v b sz))
  | [], _, _, _, _, h => by simp at h
  | w :: vs, i, hc, 0, v, h => by
    simp at h
    subst h
    exact List.mem_cons_self
  | w :: vs, i, hc, j + 1, v, h => by
    have h1 : (x_v b sz w).category = 1 := by rw [x_v_cat]; exact hc w List.mem_cons_self
    have h2 := x_lv_args b sz vs (i + 1) (fun z hz => hc z (List.mem_cons_of_mem _ hz)) j v (by simpa using h)
    show _ ∈ _ :: lv_args (if (x_v b sz w).category = 2 then i + 2 else i + 1) _
    rw [h1]
    rw [show i + (j + 1) = i + 1 + j by omega]
    exact List.mem_cons_of_mem _ h2
theorem x_sl_len (b sz : Nat) : ∀ (vs : List Value), (∀ v ∈ vs, v.category = 1) → (lg_sl (vs.map (x_v b sz))).length = vs.length
  | [], _ => rfl
  | v :: vs, h => by
    have h1 : (x_v b sz v).category = 1 := by rw [x_v_cat]; exact h v List.mem_cons_self
    have h2 := x_sl_len b sz vs (fun z hz => h z (List.mem_cons_of_mem _ hz))
    unfold lg_sl at h2 ⊢
    simp [h1, h2, List.flatMap_cons]
theorem x_entry {b sz n : Nat} {vs : List Value} (hc : ∀ v ∈ vs, v.category = 1) (hn : vs.length ≤ n) : x_lh b sz ((lg_sl (vs.map (x_v b sz)) ++ List.replicate (n - (lg_sl (vs.map (x_v b sz))).length) Slot.unset).toArray) (vs.map some ++ List.replicate (n - vs.length) none) := by
  have hl := lv_entry (vs.map (x_v b sz)) (n := n) (by rw [x_sl_len b sz vs hc]; exact hn)
  refine ⟨by rw [hl.1]; simp; omega, hl.2.1, fun i v hv => ?_⟩
  have hi : i < vs.length := by
    rcases Nat.lt_or_ge i vs.length with h | h
    · exact h
    · rw [List.getElem?_append_right (by simpa using h)] at hv
      have := List.mem_of_getElem? hv
      rw [List.mem_replicate] at this
      cases this.2
  rw [List.getElem?_append_left (by simpa using hi), List.getElem?_map] at hv
  obtain ⟨w, hw, e⟩ := Option.map_eq_some_iff.mp hv
  cases e
  have := hl.2.2 (0 + i, x_v b sz v) (x_lv_args b sz vs 0 hc i v hw)
  rw [Nat.zero_add] at this
  exact ⟨this, hc v (List.mem_of_getElem? hw)⟩
/-! the words -/
def x_LW : List Jvm.Cond := lw_tbl.filter goodWord
def x_nest : Jvm.Cond → Bool
  | .fieldLinkNest _ _ _ _ _ _ => true
  | .methodLinkNest _ _ _ _ => true
  | _ => false
def x_nw (s : State) : Prop := ∀ w ∈ tables_1, x_nest w = true → va_Nw w s
theorem x_nw_warm {s U : State} (hW : s.WarmedH U.vm) (h : x_nw s) : x_nw U := by
  intro w hw hn
  have h1 := h w hw hn
  cases w <;> first | exact va_Nw.warmF hW h1 | exact va_Nw.warmM hW h1 | exact absurd hn (by decide) | exact absurd hn (by intro z; cases z)
theorem x_nw_same {s U : State} (hv : s.vm = U.vm) (h : x_nw s) : x_nw U := by
  intro w hw hn
  have h1 := h w hw hn
  refine va_Nw.same ?_ hv h1
  cases w <;> first | rfl | exact absurd hn (by intro z; cases z)
theorem x_lw_tbl {w : Jvm.Cond} (h : w ∈ tables_1) : w ∈ lw_tbl := List.mem_append_right _ h
theorem x_in {w : Jvm.Cond} (h : w ∈ tables_1) (hg : goodWord w = true) : w ∈ x_LW := List.mem_filter.mpr ⟨x_lw_tbl h, hg⟩
def x_tys (cI cG : ClassId) : List (ClassId × FieldType) := [(cI, .int), (cG, .object RX2)]
/-- what a method knows of the tables -/
def x_kn (D : va_G) (cI cG : ClassId) (args : Array Value) (s : State) : Prop := (∀ w ∈ x_LW, w.before args s = true) ∧ x_nw s ∧ va_AO RX2 s ∧ va_K D vwCl (x_tys cI cG) s
theorem x_kn.w {D : va_G} {cI cG : ClassId} {args : Array Value} {s : State} (h : x_kn D cI cG args s) {w : Jvm.Cond} (hw : w ∈ tables_1) (hg : goodWord w = true) : w.before args s = true := h.1 w (x_in hw hg)
theorem x_kn.u {D : va_G} {cI cG : ClassId} {args : Array Value} {s : State} (h : x_kn D cI cG args s) {r : vw_C} (hr : rK r) : ∀ w ∈ u_ws r.1 r.2.1 r.2.2, w ∈ x_LW := by
  intro w hw
  refine x_in (hr.2.2.1 w hw) ?_
  obtain ⟨k, -, rfl⟩ := List.mem_map.mp hw
  unfold u_lay
  split <;> rfl
theorem x_cl_at {ci : Nat} {r : vw_C} (h : vwCl[ci]? = some r) : rK r := rK_ok r (List.mem_of_getElem? h)
end
section
/-! ===== one plain instruction of the picture is one of the machine ===== -/
section XS
variable {p : Program} {l : Launch} {e : Env} {R : Room} {s : State} {m : MethodId} {args : Array Value} {below : List Frame} {meth : Method} {c : Code} {H : Heap} {locs : List Loc} {cells slots : Nat} {Q : State → Prop}
variable {D : va_G} {cI cG : ClassId} {b sz : Nat} {cc : ByteArray} {mm : xM}
/-- a float of the class's constants, by the wide form -/
theorem x_ldcwf (hexec : p.tables.exec = Jvm.exec) (hb : c.code = cc) {own : String} {index pc : Nat} {v : UInt32} {ls : Array Slot} {rest : List Value} (hown : s.vm.findClass own = some m.cls) (hconst : (Jvm.Cond.constantFloat own index v).before args s = true) (hdg : decode cc pc = .ok (.ldc_w index, 3)) (k : W p l e R s m args below meth c H locs cells slots Q (F0 m (pc + 3) ls (.float v :: rest))) : W p l e R s m args below meth c H locs cells slots Q (F0 m pc ls rest) := by
  intro T hT X
  obtain ⟨t, a, b⟩ := k T hT X
  obtain ⟨kc, cf, hk, hcf, hcp⟩ := Jvm.Cond.constantFloat_spec hown hconst
  obtain ⟨k', hk', he⟩ := X.warmed.alike.2.2 _ _ hk
  refine ⟨t, ?_, b⟩
  subst hb
  jvm_step X.here [hexec, hdg, ldc_w.wp_float (s := T) (f := F0 m pc ls rest) X.here.top hk' (by rw [he]; exact hcf) hcp]
  exact a
/-- where a walk stands: the machine, the code, the class, the knowledge -/
def x_C (p : Program) (s : State) (m : MethodId) (args : Array Value) (meth : Method) (c : Code) (D : va_G) (cI cG : ClassId) (cc : ByteArray) (mm : xM) : Prop :=
  p.tables.exec = Jvm.exec ∧ c.code = cc ∧ s.vm.findClass (x_own mm.1) = some m.cls ∧ x_kn D cI cG args s ∧ meth.sig.returnType = mm.2.2.1 ∧ meth.locks = false ∧ (mm.2.1 = true → meth.name = "<init>") ∧ c.maxLocals = mm.2.2.2.1
theorem x_ok1 {oc : Nat} {cc : ByteArray} {q : Nat × Jvm.ClassFile.Instr × Nat × Nat × Nat} (h : okE oc cc q = true) : decode cc q.1 = .ok (q.2.1, q.2.2.1) ∧ q.2.2.1 = x_len q.2.1 q.2.2.1 := by
  unfold okE at h
  rw [Bool.and_eq_true, Bool.and_eq_true] at h
  exact ⟨of_decide_eq_true h.1.1, Nat.eq_of_beq_eq_true h.1.2⟩
theorem x_ok2 {oc : Nat} {cc : ByteArray} {pc len r1 r2 : Nat} {i : Jvm.ClassFile.Instr} (h : okE oc cc (pc, i, len, r1, r2) = true) : okM oc pc i r1 r2 = true := by
  unfold okE at h
  rw [Bool.and_eq_true] at h
  exact h.2
theorem x_fld {D : va_G} {cI cG : ClassId} {args : Array Value} {s : State} (hk : x_kn D cI cG args s) {oc i ci k : Nat} (h : resF.contains (oc, i, ci, k) = true) : ∃ r : vw_C, vwCl[ci]? = some r ∧ k < r.2.2 ∧ (r.2.1 k).1 = r.1 ∧ ((Jvm.Cond.fieldLink (x_own oc) i r.1 (r.2.1 k).2.1 (r.2.1 k).2.2.1).before args s = true ∨ (oc ≠ ci ∧ (Jvm.Cond.fieldLinkNest (x_own oc) i r.1 (r.2.1 k).2.1 (r.2.1 k).2.2.1 RX8).before args s = true)) := by
  obtain ⟨r, h1, h2, h3, h4⟩ := rF_ok _ (List.contains_iff_mem.mp h)
  refine ⟨r, h1, h2, h3, ?_⟩
  rcases h4 with h4 | h4
  · exact Or.inl (hk.w h4 rfl)
  · exact Or.inr ⟨h4.1, va_Nw.use rfl (hk.2.1 _ h4.2 rfl)⟩
set_option maxHeartbeats 4000000 in
theorem x_getf (C : x_C p s m args meth c D cI cG cc mm) {S : xW} {g : xG} (hP : va_P D vwCl (x_ws cI cG b sz S g) H) {i pc q ci k : Nat} {fs : List xF} {f : xF} (hr : resF.contains (mm.1, i, ci, k) = true) (hq : S[q]? = some (.inr (.inl (ci, fs)))) (hf : fs[k]? = some f) (hdg : decode cc pc = .ok (.getfield i, 3)) {ls : Array Slot} {rest : List Value}
    (kk : W p l e R s m args below meth c H locs cells slots Q (F0 m (pc + 3) ls (x_f b sz (g (q + 1)) k f :: rest))) : W p l e R s m args below meth c H locs cells slots Q (F0 m pc ls (.ref (sz + q) :: rest)) := by
  obtain ⟨hx, hb, hown, hk, -⟩ := C
  obtain ⟨r, h1, h2, h3, h4⟩ := x_fld hk hr
  have hv : (fs.mapIdx (x_f b sz (g (q + 1))))[k]? = some (x_f b sz (g (q + 1)) k f) := by simp [List.getElem?_mapIdx, hf]
  have he := x_ws_get (cI := cI) (cG := cG) (b := b) (sz := sz) (g := g) hq
  have hs : ∀ x, s.fieldFound? (r.2.1 k).1 (r.2.1 k).2.1 (r.2.1 k).2.2.1 = some x → s.fieldFound? r.1 (r.2.1 k).2.1 (r.2.1 k).2.2.1 = some x := fun x z => by rw [h3] at z; exact z
  rcases h4 with h4 | h4
  · exact va_get (C := r.1) (T := r.2.1) (N := r.2.2) hx hb hk.1 (hk.u (x_cl_at h1)) hown hk.2.2.2 hP q he h1 k h2 h4 hs hv hdg kk
  · exact va_getN (C := r.1) (T := r.2.1) (N := r.2.2) hx hb hk.1 (hk.u (x_cl_at h1)) hown hk.2.2.2 hP q he h1 k h2 h4.2 hs hv hdg kk
def x_rty : Option FieldType → Bool
  | some (.object _) => true
  | some (.array _) => true
  | _ => false
theorem x_rty_ok {t : Option FieldType} (h : x_rty t = true) : ∃ ty, t = some ty ∧ (∀ a, narrow ty (.ref a) = .ref a ∧ fits ty (.ref a) = true) ∧ defaultValue ty = .null := by
  match t, h with
  | some (.object _), _ => exact ⟨_, rfl, fun _ => ⟨rfl, rfl⟩, rfl⟩
  | some (.array _), _ => exact ⟨_, rfl, fun _ => ⟨rfl, rfl⟩, rfl⟩
def x_fK (ci : Nat) (r : vw_C) (l : List xF) : Prop := l.length = r.2.2 ∧ ∀ k, k < r.2.2 → (l[k]? = some none ∧ (r.2.1 k).2.2.2 = false ∧ (parseFieldDescriptor (r.2.1 k).2.2.1 = some .int ∨ (parseFieldDescriptor (r.2.1 k).2.2.1 = some .boolean ∧ x_bool ci k = true))) ∨ (l[k]? = some (some none) ∧ (r.2.1 k).2.2.2 = true ∧ (r.2.1 k).1 = r.1 ∧ x_rty (parseFieldDescriptor (r.2.1 k).2.2.1) = true)
theorem x_fK0 : x_fK 0 (RX0, TX0, 7) (x_new 0) := ⟨rfl, by decide +kernel⟩
theorem x_fK1 : x_fK 1 (RX1, TX1, 4) (x_new 1) := ⟨rfl, by decide +kernel⟩
theorem x_fK2 : x_fK 2 (RX2, TX2, 10) (x_new 2) := ⟨rfl, by decide +kernel⟩
theorem x_fK3 : x_fK 3 (RX3, TX3, 12) (x_new 3) := ⟨rfl, by decide +kernel⟩
theorem x_fK4 : x_fK 4 (RX4, TX4, 3) (x_new 4) := ⟨rfl, by decide +kernel⟩
theorem x_fK5 : x_fK 5 (RX5, TX5, 9) (x_new 5) := ⟨rfl, by decide +kernel⟩
theorem x_fK6 : x_fK 6 (RX6, TX6, 10) (x_new 6) := ⟨rfl, by decide +kernel⟩
theorem x_fK7 : x_fK 7 (RX7, TX7, 2) (x_new 7) := ⟨rfl, by decide +kernel⟩
theorem x_fK8 : x_fK 8 (RX8, TX8, 5) (x_new 8) := ⟨rfl, by decide +kernel⟩
theorem x_fK9 : x_fK 9 (RX9, TX9, 22) (x_new 9) := ⟨rfl, by decide +kernel⟩
/-- the fields by their kind: the ints aren't final, the others are -/
theorem x_flds {ci : Nat} {r : vw_C} (h : vwCl[ci]? = some r) : x_fK ci r (x_new ci) ∧ x_own ci = r.1 := by
  match ci, h with
  | 0, h => cases h; exact ⟨x_fK0, rfl⟩
  | 1, h => cases h; exact ⟨x_fK1, rfl⟩
  | 2, h => cases h; exact ⟨x_fK2, rfl⟩
  | 3, h => cases h; exact ⟨x_fK3, rfl⟩
  | 4, h => cases h; exact ⟨x_fK4, rfl⟩
  | 5, h => cases h; exact ⟨x_fK5, rfl⟩
  | 6, h => cases h; exact ⟨x_fK6, rfl⟩
  | 7, h => cases h; exact ⟨x_fK7, rfl⟩
  | 8, h => cases h; exact ⟨x_fK8, rfl⟩
  | 9, h => cases h; exact ⟨x_fK9, rfl⟩
  | k + 10, h => simp [vwCl] at h
theorem x_01_ok {x : Int32} (h : x_01 x = true) : narrow .boolean (.int x) = .int x ∧ fits .boolean (.int x) = true := by
  unfold x_01 at h
  rw [Bool.or_eq_true] at h
  rcases h with h | h
  · rw [of_decide_eq_true h]
    exact ⟨by decide, by decide⟩
  · rw [of_decide_eq_true h]
    exact ⟨by decide, by decide⟩
theorem x_mset {b sz q k : Nat} {g : xG} {fs : List xF} {x : Int32} (hf : fs[k]? = some none) : (fs.mapIdx (x_f b sz (g (q + 1)))).set k (.int x) = fs.mapIdx (x_f b sz (x_up g (q + 1) k x (q + 1))) := by
  apply List.ext_getElem?
  intro i
  rw [List.getElem?_set, List.getElem?_mapIdx, List.getElem?_mapIdx, List.length_mapIdx]
  by_cases hi : k = i
  · subst hi
    rw [if_pos rfl, if_pos (List.getElem?_eq_some_iff.mp hf).1, hf]
    simp [x_f, x_up]
  · rw [if_neg hi]
    cases hfi : fs[i]? with
    | none => rfl
    | some f =>
      cases f with
      | none => simp [x_f, x_up, Ne.symm hi]
      | some f => cases f <;> rfl
theorem x_msetR {b sz k v : Nat} {gk : Nat → Int32} {fs : List xF} : (fs.mapIdx (x_f b sz gk)).set k (.ref (x_a b sz v)) = (fs.set k (some (some v))).mapIdx (x_f b sz gk) := by
  apply List.ext_getElem?
  intro i
  rw [List.getElem?_set, List.getElem?_mapIdx, List.getElem?_mapIdx, List.length_mapIdx, List.getElem?_set]
  by_cases hi : k = i
  · subst hi
    by_cases hl : k < fs.length <;> simp [hl, x_f]
  · rw [if_neg hi, if_neg hi]
set_option maxHeartbeats 4000000 in
theorem x_putI (C : x_C p s m args meth c D cI cG cc mm) {S : xW} {g : xG} (hP : va_P D vwCl (x_ws cI cG b sz S g) H) {H0 : Heap} (hS : va_S (fun q => sz ≤ q) H0 H locs) {i pc q ci k : Nat} {fs : List xF} (hr : resF.contains (mm.1, i, ci, k) = true) (hq : S[q]? = some (.inr (.inl (ci, fs)))) (hn : (x_new ci)[k]? = some none) (hf : fs[k]? = some none) (hdg : decode cc pc = .ok (.putfield i, 3)) {ls : Array Slot} {rest : List Value} {x : Int32} (h01 : x_bool ci k = true → x_01 x = true)
    (kk : ∀ (H1 : Heap) (locs1 : List Loc), va_P D vwCl (x_ws cI cG b sz S (x_up g (q + 1) k x)) H1 → va_S (fun q => sz ≤ q) H0 H1 locs1 → W p l e R s m args below meth c H1 locs1 cells slots Q (F0 m (pc + 3) ls rest)) : W p l e R s m args below meth c H locs cells slots Q (F0 m pc ls (.int x :: .ref (sz + q) :: rest)) := by
  obtain ⟨hx, hb, hown, hk, -⟩ := C
  obtain ⟨r, h1, h2, h3, h4⟩ := x_fld hk hr
  have hc := x_cl_at h1
  obtain ⟨-, -, -, hnm, ty, hty⟩ := id hc
  have he := x_ws_get (cI := cI) (cG := cG) (b := b) (sz := sz) (g := g) hq
  have hs : ∀ x, s.fieldFound? (r.2.1 k).1 (r.2.1 k).2.1 (r.2.1 k).2.2.1 = some x → s.fieldFound? r.1 (r.2.1 k).2.1 (r.2.1 k).2.2.1 = some x := fun x z => by rw [h3] at z; exact z
  obtain ⟨⟨hlen, hfk⟩, -⟩ := x_flds h1
  obtain ⟨tz, hz1, hz2, hz3, hz4⟩ : ∃ tz : FieldType, (r.2.1 k).2.2.2 = false ∧ parseFieldDescriptor (r.2.1 k).2.2.1 = some tz ∧ narrow tz (.int x) = .int x ∧ fits tz (.int x) = true := by
    rcases hfk k h2 with ⟨-, z1, z2 | ⟨z2, z3⟩⟩ | ⟨z, -⟩
    · exact ⟨_, z1, z2, rfl, rfl⟩
    · exact ⟨_, z1, z2, (x_01_ok (h01 z3)).1, (x_01_ok (h01 z3)).2⟩
    · rw [hn] at z; cases z
  have hl : k < (fs.mapIdx (x_f b sz (g (q + 1)))).length := by rw [List.length_mapIdx]; exact (List.getElem?_eq_some_iff.mp hf).1
  have e1 : (x_ws cI cG b sz S g).set q (sz + q, .inr (ci, (fs.mapIdx (x_f b sz (g (q + 1)))).set k (.int x))) = x_ws cI cG b sz S (x_up g (q + 1) k x) := by
    rw [x_mset hf]
    have := x_ws_set (cI := cI) (cG := cG) (b := b) (sz := sz) (S := S) (g := g) (g' := x_up g (q + 1) k x) (q := q) (c' := .inr (.inl (ci, fs))) x_up_ne
    rw [x_set_self hq] at this
    exact this
  rcases h4 with h4 | h4
  · exact va_put (C := r.1) (T := r.2.1) (N := r.2.2) hx hb hk.1 (hk.u hc) ty hty hnm hown hk.2.2.2 hP x_D hS q he h1 k h2 h4 hs hz1 hz2 hz3 hz4 hl hdg (fun H1 locs1 a1 _ a3 => kk H1 locs1 (by rw [← e1]; exact a1) a3)
  · exact va_putN (C := r.1) (T := r.2.1) (N := r.2.2) hx hb hk.1 (hk.u hc) ty hty hnm hown hk.2.2.2 hP x_D hS q he h1 k h2 h4.2 hs hz1 hz2 hz3 hz4 hl hdg (fun H1 locs1 a1 _ a3 => kk H1 locs1 (by rw [← e1]; exact a1) a3)
set_option maxHeartbeats 4000000 in
theorem x_putR (C : x_C p s m args meth c D cI cG cc mm) {S : xW} {g : xG} (hP : va_P D vwCl (x_ws cI cG b sz S g) H) {H0 : Heap} (hS : va_S (fun q => sz ≤ q) H0 H locs) {i pc q k v : Nat} {fs : List xF} {f1 f2 : Option Nat} (hr : resF.contains (mm.1, i, mm.1, k) = true) (hin : mm.2.1 = true) (hq : S[q]? = some (.inr (.inl (mm.1, fs)))) (hn : (x_new mm.1)[k]? = some (some f1)) (hf : fs[k]? = some (some f2)) (hdg : decode cc pc = .ok (.putfield i, 3)) {ls : Array Slot} {rest : List Value}
    (kk : ∀ (H1 : Heap) (locs1 : List Loc), va_P D vwCl (x_ws cI cG b sz (S.set q (.inr (.inl (mm.1, fs.set k (some (some v)))))) g) H1 → va_S (fun q => sz ≤ q) H0 H1 locs1 → W p l e R s m args below meth c H1 locs1 cells slots Q (F0 m (pc + 3) ls rest)) : W p l e R s m args below meth c H locs cells slots Q (F0 m pc ls (.ref (x_a b sz v) :: .ref (sz + q) :: rest)) := by
  obtain ⟨hx, hb, hown, hk, -, -, hini, -⟩ := C
  obtain ⟨r, h1, h2, h3, h4⟩ := x_fld hk hr
  have h4 := h4.resolve_right (fun z => z.1 rfl)
  have hc := x_cl_at h1
  obtain ⟨-, -, -, hnm, ty, hty⟩ := id hc
  have he := x_ws_get (cI := cI) (cG := cG) (b := b) (sz := sz) (g := g) hq
  have hs : ∀ x, s.fieldFound? (r.2.1 k).1 (r.2.1 k).2.1 (r.2.1 k).2.2.1 = some x → s.fieldFound? r.1 (r.2.1 k).2.1 (r.2.1 k).2.2.1 = some x := fun x z => by rw [h3] at z; exact z
  obtain ⟨⟨hlen, hfk⟩, how⟩ := x_flds h1
  have hz : (r.2.1 k).2.2.2 = true ∧ x_rty (parseFieldDescriptor (r.2.1 k).2.2.1) = true := by
    rcases hfk k h2 with ⟨z, -⟩ | ⟨-, z1, -, z2⟩
    · rw [hn] at z; cases z
    · exact ⟨z1, z2⟩
  obtain ⟨tz, hd, hnf, -⟩ := x_rty_ok hz.2
  have hl : k < (fs.mapIdx (x_f b sz (g (q + 1)))).length := by rw [List.length_mapIdx]; exact (List.getElem?_eq_some_iff.mp hf).1
  have e1 : (x_ws cI cG b sz S g).set q (sz + q, .inr (mm.1, (fs.mapIdx (x_f b sz (g (q + 1)))).set k (.ref (x_a b sz v)))) = x_ws cI cG b sz (S.set q (.inr (.inl (mm.1, fs.set k (some (some v)))))) g := by
    rw [x_msetR]
    exact x_ws_set (cI := cI) (cG := cG) (b := b) (sz := sz) (S := S) (g := g) (g' := g) (q := q) (c' := .inr (.inl (mm.1, fs.set k (some (some v))))) (fun _ _ => rfl)
  exact va_putF (C := r.1) (T := r.2.1) (N := r.2.2) hx hb hk.1 (hk.u hc) ty hty hnm hown hk.2.2.2 hP x_D hS q he h1 k h2 h4 hs hz.1 (hini hin) (by rw [how]; exact h3) hd (hnf _).1 (hnf _).2 hl hdg (fun H1 locs1 a1 _ a3 => kk H1 locs1 (by rw [← e1]; exact a1) a3)
theorem x_sz_set {S : xW} {q : Nat} {c c' : xS} (h : S[q]? = some c) (he : x_cs c' = x_cs c) : x_sz (S.set q c') = x_sz S := by
  unfold x_sz
  congr 1
  apply List.ext_getElem?
  intro i
  rw [List.getElem?_map, List.getElem?_map, List.getElem?_set]
  by_cases hi : q = i
  · subst hi
    rw [if_pos rfl, if_pos (List.getElem?_eq_some_iff.mp h).1, h]
    show some _ = some _
    rw [he]
  · rw [if_neg hi]
set_option maxHeartbeats 4000000 in
theorem x_s_ok {H0 : Heap} {Ls : Option (Nat × (Nat → Int32))} {S S' : xW} {g g' : xG} {L L' : xL} {st st' : List Value} {i : Jvm.ClassFile.Instr} {pc len r1 r2 : Nat} {ls : Array Slot} (C : x_C p s m args meth c D cI cG cc mm)
    (hs : x_s mm Ls i r1 r2 L st S g = some (L', st', S', g')) (hok : okE mm.1 cc (pc, i, len, r1, r2) = true) (hP : va_P D vwCl (x_ws cI cG b sz S g) H) (hS : va_S (fun q => sz ≤ q) H0 H locs) (hl : x_lh b sz ls L)
    (hX : ∀ n, Ls = some n → va_X b n.1 n.2 s H0 ∧ b < H0.size ∧ b < sz)
    (kk : ∀ (H1 : Heap) (locs1 : List Loc) (ls1 : Array Slot), (S'.length = S.length ∧ x_sz S' = x_sz S ∧ L'.length = L.length) → va_P D vwCl (x_ws cI cG b sz S' g') H1 → va_S (fun q => sz ≤ q) H0 H1 locs1 → x_lh b sz ls1 L' → W p l e R s m args below meth c H1 locs1 cells slots Q (F0 m (pc + len) ls1 (st'.map (x_v b sz)))) :
    W p l e R s m args below meth c H locs cells slots Q (F0 m pc ls (st.map (x_v b sz))) := by
  obtain ⟨hx, hb, hown, hk, -⟩ := id C
  have ok1 := x_ok1 hok
  have hdg := ok1.1
  dsimp only at hdg
  cases i
  case iconst n =>
    have hlen : len = 1 := ok1.2
    subst hlen
    dsimp only [x_s] at hs
    rw [of_decide_eq_true (x_ok2 hok)] at hs
    cases hs
    exact lv_iconst hx hb hdg rfl (kk _ _ _ ⟨rfl, rfl, rfl⟩ hP hS hl)
  case bipush n =>
    have hlen : len = 2 := ok1.2
    subst hlen
    dsimp only [x_s] at hs
    rw [of_decide_eq_true (x_ok2 hok)] at hs
    cases hs
    exact lv_bipush hx hb hdg rfl (kk _ _ _ ⟨rfl, rfl, rfl⟩ hP hS hl)
  case sipush n =>
    have hlen : len = 3 := ok1.2
    subst hlen
    dsimp only [x_s] at hs
    rw [of_decide_eq_true (x_ok2 hok)] at hs
    cases hs
    exact lv_sipush hx hb hdg rfl (kk _ _ _ ⟨rfl, rfl, rfl⟩ hP hS hl)
  case fconst n =>
    have hlen : len = 1 := ok1.2
    subst hlen
    dsimp only [x_s] at hs
    rw [of_decide_eq_true (x_ok2 hok)] at hs
    cases hs
    match n, hdg, kk with
    | 0, hdg, kk => exact lv_fconst0 hx hb hdg (kk _ _ _ ⟨rfl, rfl, rfl⟩ hP hS hl)
    | 1, hdg, kk => exact lv_fconst1 hx hb hdg (kk _ _ _ ⟨rfl, rfl, rfl⟩ hP hS hl)
    | 2, hdg, kk => exact lv_fconst2 hx hb hdg (kk _ _ _ ⟨rfl, rfl, rfl⟩ hP hS hl)
  case ldc n =>
    have hlen : len = 2 := ok1.2
    subst hlen
    dsimp only [x_s] at hs
    rcases rC_ok _ (List.contains_iff_mem.mp (x_ok2 hok)) with ⟨x, h1, h2⟩ | ⟨x, h1, h2⟩
    · dsimp only at h1
      rw [h1] at hs
      cases hs
      exact lv_ldc hx hb hown (hk.w h2 rfl) hdg (kk _ _ _ ⟨rfl, rfl, rfl⟩ hP hS hl)
    · dsimp only at h1
      rw [h1] at hs
      cases hs
      exact lv_ldcf hx hb hown (hk.w h2 rfl) hdg (kk _ _ _ ⟨rfl, rfl, rfl⟩ hP hS hl)
  case ldc_w n =>
    have hlen : len = 3 := ok1.2
    subst hlen
    dsimp only [x_s] at hs
    rcases rC_ok _ (List.contains_iff_mem.mp (x_ok2 hok)) with ⟨x, h1, h2⟩ | ⟨x, h1, h2⟩
    · dsimp only at h1
      rw [h1] at hs
      cases hs
      exact lv_ldcw hx hb hown (hk.w h2 rfl) hdg (kk _ _ _ ⟨rfl, rfl, rfl⟩ hP hS hl)
    · dsimp only at h1
      rw [h1] at hs
      cases hs
      exact x_ldcwf hx hb hown (hk.w h2 rfl) hdg (kk _ _ _ ⟨rfl, rfl, rfl⟩ hP hS hl)
  case iload_n k =>
    have hlen : len = 1 := ok1.2
    subst hlen
    dsimp only [x_s] at hs
    split at hs
    · rename_i x hv
      cases hs
      exact lv_iload_n hx hb hdg rfl (x_lh_at hl hv) (kk _ _ _ ⟨rfl, rfl, rfl⟩ hP hS hl)
    · cases hs
  case iload k =>
    have hlen : len = 2 := ok1.2
    subst hlen
    dsimp only [x_s] at hs
    split at hs
    · rename_i x hv
      cases hs
      exact lv_iload hx hb hdg (x_lh_at hl hv) (kk _ _ _ ⟨rfl, rfl, rfl⟩ hP hS hl)
    · cases hs
  case fload_n k =>
    have hlen : len = 1 := ok1.2
    subst hlen
    dsimp only [x_s] at hs
    split at hs
    · rename_i x hv
      cases hs
      exact lv_fload_n hx hb hdg rfl (x_lh_at hl hv) (kk _ _ _ ⟨rfl, rfl, rfl⟩ hP hS hl)
    · cases hs
  case aload_n k =>
    have hlen : len = 1 := ok1.2
    subst hlen
    dsimp only [x_s] at hs
    split at hs
    · rename_i x hv
      cases hs
      exact lv_aload_n hx hb hdg rfl (x_lh_at hl hv) (kk _ _ _ ⟨rfl, rfl, rfl⟩ hP hS hl)
    · cases hs
  case aload k =>
    have hlen : len = 2 := ok1.2
    subst hlen
    dsimp only [x_s] at hs
    split at hs
    · rename_i x hv
      cases hs
      exact lv_aload hx hb hdg (x_lh_at hl hv) (kk _ _ _ ⟨rfl, rfl, rfl⟩ hP hS hl)
    · cases hs
  case istore_n k =>
    have hlen : len = 1 := ok1.2
    subst hlen
    dsimp only [x_s] at hs
    split at hs
    · split at hs
      · rename_i x hv
        cases hs
        have hi := (List.getElem?_eq_some_iff.mp hv).1
        exact lv_istore_n hx hb hdg rfl (x_lh_has hl) hi rfl (fun ls' h' => kk _ _ _ ⟨rfl, rfl, List.length_set⟩ hP hS (x_has_lh hl rfl hi h'))
      · cases hs
    · cases hs
  case istore k =>
    have hlen : len = 2 := ok1.2
    subst hlen
    dsimp only [x_s] at hs
    split at hs
    · split at hs
      · rename_i x hv
        cases hs
        have hi := (List.getElem?_eq_some_iff.mp hv).1
        exact lv_istore hx hb hdg (x_lh_has hl) hi rfl (fun ls' h' => kk _ _ _ ⟨rfl, rfl, List.length_set⟩ hP hS (x_has_lh hl rfl hi h'))
      · cases hs
    · cases hs
  case fstore_n k =>
    have hlen : len = 1 := ok1.2
    subst hlen
    dsimp only [x_s] at hs
    split at hs
    · split at hs
      · rename_i x hv
        cases hs
        have hi := (List.getElem?_eq_some_iff.mp hv).1
        exact lv_fstore_n hx hb hdg rfl (x_lh_has hl) hi rfl (fun ls' h' => kk _ _ _ ⟨rfl, rfl, List.length_set⟩ hP hS (x_has_lh hl rfl hi h'))
      · cases hs
    · cases hs
  case astore_n k =>
    have hlen : len = 1 := ok1.2
    subst hlen
    dsimp only [x_s] at hs
    split at hs
    · split at hs
      · rename_i x hv
        cases hs
        have hi := (List.getElem?_eq_some_iff.mp hv).1
        exact lv_astore_n hx hb hdg rfl (x_lh_has hl) hi rfl (fun ls' h' => kk _ _ _ ⟨rfl, rfl, List.length_set⟩ hP hS (x_has_lh hl rfl hi h'))
      · cases hs
    · cases hs
  case iinc k n =>
    have hlen : len = 3 := ok1.2
    subst hlen
    dsimp only [x_s] at hs
    split at hs
    · rename_i x hv
      rw [of_decide_eq_true (x_ok2 hok)] at hs
      cases hs
      have hi := (List.getElem?_eq_some_iff.mp hv).1
      obtain ⟨j, hj⟩ := List.getElem?_of_mem (x_lst_in (b := b) (sz := sz) hv)
      exact lv_iinc hx hb hdg (x_lh_has hl) hj rfl hi rfl (fun ls' h' => kk _ _ _ ⟨rfl, rfl, List.length_set⟩ hP hS (x_has_lh hl rfl hi h'))
    · cases hs
  case iadd =>
    have hlen : len = 1 := ok1.2
    subst hlen
    dsimp only [x_s] at hs
    split at hs
    · cases hs
      exact lv_iadd hx hb hdg (kk _ _ _ ⟨rfl, rfl, rfl⟩ hP hS hl)
    · cases hs
  case isub =>
    have hlen : len = 1 := ok1.2
    subst hlen
    dsimp only [x_s] at hs
    split at hs
    · cases hs
      exact lv_isub hx hb hdg (kk _ _ _ ⟨rfl, rfl, rfl⟩ hP hS hl)
    · cases hs
  case imul =>
    have hlen : len = 1 := ok1.2
    subst hlen
    dsimp only [x_s] at hs
    split at hs
    · cases hs
      exact lv_imul hx hb hdg (kk _ _ _ ⟨rfl, rfl, rfl⟩ hP hS hl)
    · cases hs
  case iand =>
    have hlen : len = 1 := ok1.2
    subst hlen
    dsimp only [x_s] at hs
    split at hs
    · cases hs
      exact lv_iand hx hb hdg (kk _ _ _ ⟨rfl, rfl, rfl⟩ hP hS hl)
    · cases hs
  case ior =>
    have hlen : len = 1 := ok1.2
    subst hlen
    dsimp only [x_s] at hs
    split at hs
    · cases hs
      exact lv_ior hx hb hdg (kk _ _ _ ⟨rfl, rfl, rfl⟩ hP hS hl)
    · cases hs
  case ixor =>
    have hlen : len = 1 := ok1.2
    subst hlen
    dsimp only [x_s] at hs
    split at hs
    · cases hs
      exact lv_ixor hx hb hdg (kk _ _ _ ⟨rfl, rfl, rfl⟩ hP hS hl)
    · cases hs
  case ishl =>
    have hlen : len = 1 := ok1.2
    subst hlen
    dsimp only [x_s] at hs
    split at hs
    · cases hs
      exact lv_ishl hx hb hdg (kk _ _ _ ⟨rfl, rfl, rfl⟩ hP hS hl)
    · cases hs
  case ishr =>
    have hlen : len = 1 := ok1.2
    subst hlen
    dsimp only [x_s] at hs
    split at hs
    · cases hs
      exact lv_ishr hx hb hdg (kk _ _ _ ⟨rfl, rfl, rfl⟩ hP hS hl)
    · cases hs
  case iushr =>
    have hlen : len = 1 := ok1.2
    subst hlen
    dsimp only [x_s] at hs
    split at hs
    · cases hs
      exact lv_iushr hx hb hdg rfl (kk _ _ _ ⟨rfl, rfl, rfl⟩ hP hS hl)
    · cases hs
  case i2f =>
    have hlen : len = 1 := ok1.2
    subst hlen
    dsimp only [x_s] at hs
    split at hs
    · cases hs
      exact lv_i2f hx hb hdg (kk _ _ _ ⟨rfl, rfl, rfl⟩ hP hS hl)
    · cases hs
  case f2i =>
    have hlen : len = 1 := ok1.2
    subst hlen
    dsimp only [x_s] at hs
    split at hs
    · cases hs
      exact lv_f2i hx hb hdg (kk _ _ _ ⟨rfl, rfl, rfl⟩ hP hS hl)
    · cases hs
  case fcmp op =>
    have hlen : len = 1 := ok1.2
    subst hlen
    dsimp only [x_s] at hs
    split at hs
    · cases hs
      exact lv_fcmp hx hb hdg (kk _ _ _ ⟨rfl, rfl, rfl⟩ hP hS hl)
    · cases hs
  case dup =>
    have hlen : len = 1 := ok1.2
    subst hlen
    dsimp only [x_s] at hs
    split at hs
    · cases hs
      exact lv_dup hx hb hdg rfl (kk _ _ _ ⟨rfl, rfl, rfl⟩ hP hS hl)
    · cases hs
      exact lv_dup hx hb hdg rfl (kk _ _ _ ⟨rfl, rfl, rfl⟩ hP hS hl)
    · cases hs
  case dup2 =>
    have hlen : len = 1 := ok1.2
    subst hlen
    dsimp only [x_s] at hs
    split at hs
    · cases hs
      exact lv_dup2_11 hx hb hdg rfl rfl (kk _ _ _ ⟨rfl, rfl, rfl⟩ hP hS hl)
    · cases hs
  case arraylength =>
    have hlen : len = 1 := ok1.2
    subst hlen
    dsimp only [x_s] at hs
    split at hs
    · split at hs
      · rename_i n
        cases hs
        obtain ⟨h1, h2, h3⟩ := hX n rfl
        exact va_slen hx hb h1 h2 (show ¬ sz ≤ b from Nat.not_le.mpr h3) hS hdg (kk _ _ _ ⟨rfl, rfl, rfl⟩ hP hS hl)
      · cases hs
    · cases hs
  case getfield n =>
    have hlen : len = 3 := ok1.2
    subst hlen
    dsimp only [x_s] at hs
    split at hs
    · rename_i q r
      split at hs
      · rename_i ci fs hq
        cases hc : Nat.beq ci r1
        · rw [hc] at hs; cases hs
        · rw [hc] at hs
          have hc := Nat.eq_of_beq_eq_true hc
          subst hc
          dsimp only [cond] at hs
          split at hs
          · rename_i hf
            cases hs
            exact x_getf C hP (x_ok2 hok) hq hf hdg (kk _ _ _ ⟨rfl, rfl, rfl⟩ hP hS hl)
          · rename_i hf
            cases hs
            exact x_getf C hP (x_ok2 hok) hq hf hdg (kk _ _ _ ⟨rfl, rfl, rfl⟩ hP hS hl)
          · cases hs
      · cases hs
    · cases hs
  case putfield n =>
    have hlen : len = 3 := ok1.2
    subst hlen
    dsimp only [x_s] at hs
    split at hs
    · rename_i x q r
      split at hs
      · rename_i ci fs hq
        cases hc : Nat.beq ci r1
        · rw [hc] at hs; cases hs
        · rw [hc] at hs
          have hc := Nat.eq_of_beq_eq_true hc
          subst hc
          dsimp only [cond] at hs
          split at hs
          · rename_i hn hf
            cases h01 : (!x_bool ci r2 || x_01 x)
            · rw [h01] at hs; cases hs
            rw [h01] at hs
            cases hs
            exact x_putI C hP hS (x_ok2 hok) hq hn hf hdg (fun z => by rw [z] at h01; simpa using h01) (fun H1 l1 a1 a2 => kk H1 l1 ls ⟨rfl, rfl, rfl⟩ a1 a2 hl)
          · cases hs
      · cases hs
    · rename_i v q r
      split at hs
      · rename_i ci fs hq
        cases hc : (Nat.beq ci r1 && Nat.beq ci mm.1 && mm.2.1)
        · rw [hc] at hs; cases hs
        · rw [hc] at hs
          rw [Bool.and_eq_true, Bool.and_eq_true] at hc
          obtain ⟨⟨hc1, hc2⟩, hc3⟩ := hc
          have hc1 := Nat.eq_of_beq_eq_true hc1
          subst hc1
          have hc2 := Nat.eq_of_beq_eq_true hc2
          subst hc2
          dsimp only [cond] at hs
          split at hs
          · rename_i f1 f2 hn hf
            cases hs
            exact x_putR C hP hS (x_ok2 hok) hc3 hq hn hf hdg (fun H1 l1 a1 a2 => kk H1 l1 ls ⟨List.length_set, x_sz_set hq (List.length_set), rfl⟩ a1 a2 hl)
          · cases hs
      · cases hs
    · cases hs
  all_goals (exact absurd hs (by intro z; cases z))
end XS
end
