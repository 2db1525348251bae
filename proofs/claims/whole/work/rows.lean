section
-- ===== PART A: goes FIRST, ahead of the names: the tables' words, and 'selects' of the private methods out of them =====
/-- a private method of a class that the tables say can be made, by its rows of tables_1 -/
def lw_okq (q : MethodName × Nat) : Prop := (q.1.cls ≠ "java/lang/invoke/MethodHandle" ∧ q.1.cls ≠ "java/lang/invoke/VarHandle") ∧ Cond.instantiable q.1.cls q.2 ∈ tables_1 ∧ Cond.privateMethod q.1 ∈ tables_1 ∧ Cond.instanceMethod q.1 ∈ tables_1
theorem lw_p0 : lw_okq (⟨"MastRobots", "freshTrial", "()LMastRobots$Library;"⟩, 4) := ⟨⟨by decide +kernel, by decide +kernel⟩, List.mem_of_getElem? (i := 17) (by decide +kernel), List.mem_of_getElem? (i := 198) (by decide +kernel), List.mem_of_getElem? (i := 199) (by decide +kernel)⟩
theorem lw_p1 : lw_okq (⟨"MastRobots", "keep", "(I)I"⟩, 4) := ⟨⟨by decide +kernel, by decide +kernel⟩, List.mem_of_getElem? (i := 17) (by decide +kernel), List.mem_of_getElem? (i := 253) (by decide +kernel), List.mem_of_getElem? (i := 254) (by decide +kernel)⟩
theorem lw_p2 : lw_okq (⟨"MastRobots$History", "stateAt", "(I)LMastRobots$Library;"⟩, 3) := ⟨⟨by decide +kernel, by decide +kernel⟩, List.mem_of_getElem? (i := 125) (by decide +kernel), List.mem_of_getElem? (i := 261) (by decide +kernel), List.mem_of_getElem? (i := 262) (by decide +kernel)⟩
theorem lw_p3 : lw_okq (⟨"MastRobots$Library", "ontoPile", "(II)I"⟩, 10) := ⟨⟨by decide +kernel, by decide +kernel⟩, List.mem_of_getElem? (i := 25) (by decide +kernel), List.mem_of_getElem? (i := 302) (by decide +kernel), List.mem_of_getElem? (i := 303) (by decide +kernel)⟩
theorem lw_p4 : lw_okq (⟨"MastRobots$Library", "topOfPile", "()I"⟩, 10) := ⟨⟨by decide +kernel, by decide +kernel⟩, List.mem_of_getElem? (i := 25) (by decide +kernel), List.mem_of_getElem? (i := 319) (by decide +kernel), List.mem_of_getElem? (i := 320) (by decide +kernel)⟩
theorem lw_p5 : lw_okq (⟨"MastRobots$Library", "offPile", "(III)V"⟩, 10) := ⟨⟨by decide +kernel, by decide +kernel⟩, List.mem_of_getElem? (i := 25) (by decide +kernel), List.mem_of_getElem? (i := 323) (by decide +kernel), List.mem_of_getElem? (i := 324) (by decide +kernel)⟩
theorem lw_p6 : lw_okq (⟨"MastRobots$Orders", "read", "(I)V"⟩, 9) := ⟨⟨by decide +kernel, by decide +kernel⟩, List.mem_of_getElem? (i := 145) (by decide +kernel), List.mem_of_getElem? (i := 626) (by decide +kernel), List.mem_of_getElem? (i := 627) (by decide +kernel)⟩
theorem lw_p7 : lw_okq (⟨"MastRobots$Orders", "lettersFrom", "(I)I"⟩, 9) := ⟨⟨by decide +kernel, by decide +kernel⟩, List.mem_of_getElem? (i := 145) (by decide +kernel), List.mem_of_getElem? (i := 630) (by decide +kernel), List.mem_of_getElem? (i := 631) (by decide +kernel)⟩
theorem lw_p8 : lw_okq (⟨"MastRobots$Orders", "signAt", "(I)I"⟩, 9) := ⟨⟨by decide +kernel, by decide +kernel⟩, List.mem_of_getElem? (i := 145) (by decide +kernel), List.mem_of_getElem? (i := 634) (by decide +kernel), List.mem_of_getElem? (i := 635) (by decide +kernel)⟩
theorem lw_p9 : lw_okq (⟨"MastRobots$Orders", "wordOf", "(II)I"⟩, 9) := ⟨⟨by decide +kernel, by decide +kernel⟩, List.mem_of_getElem? (i := 145) (by decide +kernel), List.mem_of_getElem? (i := 638) (by decide +kernel), List.mem_of_getElem? (i := 639) (by decide +kernel)⟩
theorem lw_p10 : lw_okq (⟨"MastRobots$Orders", "standsAt", "(IILjava/lang/String;)Z"⟩, 9) := ⟨⟨by decide +kernel, by decide +kernel⟩, List.mem_of_getElem? (i := 145) (by decide +kernel), List.mem_of_getElem? (i := 653) (by decide +kernel), List.mem_of_getElem? (i := 654) (by decide +kernel)⟩
theorem lw_p11 : lw_okq (⟨"MastRobots$Orders", "readSign", "(C)Z"⟩, 9) := ⟨⟨by decide +kernel, by decide +kernel⟩, List.mem_of_getElem? (i := 145) (by decide +kernel), List.mem_of_getElem? (i := 705) (by decide +kernel), List.mem_of_getElem? (i := 706) (by decide +kernel)⟩
theorem lw_p12 : lw_okq (⟨"MastRobots$Orders", "readDigit", "()Z"⟩, 9) := ⟨⟨by decide +kernel, by decide +kernel⟩, List.mem_of_getElem? (i := 145) (by decide +kernel), List.mem_of_getElem? (i := 709) (by decide +kernel), List.mem_of_getElem? (i := 710) (by decide +kernel)⟩
theorem lw_p13 : lw_okq (⟨"MastRobots$Orders", "reasonAgainstForm", "()I"⟩, 9) := ⟨⟨by decide +kernel, by decide +kernel⟩, List.mem_of_getElem? (i := 145) (by decide +kernel), List.mem_of_getElem? (i := 713) (by decide +kernel), List.mem_of_getElem? (i := 714) (by decide +kernel)⟩
theorem lw_p14 : lw_okq (⟨"MastRobots$Orders", "lowestNumber", "()I"⟩, 9) := ⟨⟨by decide +kernel, by decide +kernel⟩, List.mem_of_getElem? (i := 145) (by decide +kernel), List.mem_of_getElem? (i := 717) (by decide +kernel), List.mem_of_getElem? (i := 718) (by decide +kernel)⟩
theorem lw_p15 : lw_okq (⟨"MastRobots$Orders", "greatestNumber", "()I"⟩, 9) := ⟨⟨by decide +kernel, by decide +kernel⟩, List.mem_of_getElem? (i := 145) (by decide +kernel), List.mem_of_getElem? (i := 721) (by decide +kernel), List.mem_of_getElem? (i := 722) (by decide +kernel)⟩
def lw_privs_1 : List (MethodName × Nat) := [(⟨"MastRobots", "freshTrial", "()LMastRobots$Library;"⟩, 4), (⟨"MastRobots", "keep", "(I)I"⟩, 4), (⟨"MastRobots$History", "stateAt", "(I)LMastRobots$Library;"⟩, 3), (⟨"MastRobots$Library", "ontoPile", "(II)I"⟩, 10), (⟨"MastRobots$Library", "topOfPile", "()I"⟩, 10), (⟨"MastRobots$Library", "offPile", "(III)V"⟩, 10), (⟨"MastRobots$Orders", "read", "(I)V"⟩, 9), (⟨"MastRobots$Orders", "lettersFrom", "(I)I"⟩, 9), (⟨"MastRobots$Orders", "signAt", "(I)I"⟩, 9), (⟨"MastRobots$Orders", "wordOf", "(II)I"⟩, 9), (⟨"MastRobots$Orders", "standsAt", "(IILjava/lang/String;)Z"⟩, 9), (⟨"MastRobots$Orders", "readSign", "(C)Z"⟩, 9), (⟨"MastRobots$Orders", "readDigit", "()Z"⟩, 9), (⟨"MastRobots$Orders", "reasonAgainstForm", "()I"⟩, 9), (⟨"MastRobots$Orders", "lowestNumber", "()I"⟩, 9), (⟨"MastRobots$Orders", "greatestNumber", "()I"⟩, 9)]
theorem lw_r1 : ∀ q ∈ lw_privs_1, lw_okq q := List.forall_mem_cons.mpr ⟨lw_p0, List.forall_mem_cons.mpr ⟨lw_p1, List.forall_mem_cons.mpr ⟨lw_p2, List.forall_mem_cons.mpr ⟨lw_p3, List.forall_mem_cons.mpr ⟨lw_p4, List.forall_mem_cons.mpr ⟨lw_p5, List.forall_mem_cons.mpr ⟨lw_p6, List.forall_mem_cons.mpr ⟨lw_p7, List.forall_mem_cons.mpr ⟨lw_p8, List.forall_mem_cons.mpr ⟨lw_p9, List.forall_mem_cons.mpr ⟨lw_p10, List.forall_mem_cons.mpr ⟨lw_p11, List.forall_mem_cons.mpr ⟨lw_p12, List.forall_mem_cons.mpr ⟨lw_p13, List.forall_mem_cons.mpr ⟨lw_p14, List.forall_mem_cons.mpr ⟨lw_p15, fun _ h => absurd h List.not_mem_nil⟩⟩⟩⟩⟩⟩⟩⟩⟩⟩⟩⟩⟩⟩⟩⟩
theorem lw_p16 : lw_okq (⟨"MastRobots$Orders", "carryOut", "(LMastRobots$Library;)I"⟩, 9) := ⟨⟨by decide +kernel, by decide +kernel⟩, List.mem_of_getElem? (i := 145) (by decide +kernel), List.mem_of_getElem? (i := 725) (by decide +kernel), List.mem_of_getElem? (i := 726) (by decide +kernel)⟩
theorem lw_p17 : lw_okq (⟨"MastRobotsModel", "keeps", "()V"⟩, 14) := ⟨⟨by decide +kernel, by decide +kernel⟩, List.mem_of_getElem? (i := 747) (by decide +kernel), List.mem_of_getElem? (i := 806) (by decide +kernel), List.mem_of_getElem? (i := 807) (by decide +kernel)⟩
theorem lw_p18 : lw_okq (⟨"MastRobotsModel", "acted", "(I)I"⟩, 14) := ⟨⟨by decide +kernel, by decide +kernel⟩, List.mem_of_getElem? (i := 747) (by decide +kernel), List.mem_of_getElem? (i := 810) (by decide +kernel), List.mem_of_getElem? (i := 811) (by decide +kernel)⟩
theorem lw_p19 : lw_okq (⟨"MastRobotsModel", "isCartridge", "(I)Z"⟩, 14) := ⟨⟨by decide +kernel, by decide +kernel⟩, List.mem_of_getElem? (i := 747) (by decide +kernel), List.mem_of_getElem? (i := 818) (by decide +kernel), List.mem_of_getElem? (i := 819) (by decide +kernel)⟩
theorem lw_p20 : lw_okq (⟨"MastRobotsModel", "ca", "(II)I"⟩, 14) := ⟨⟨by decide +kernel, by decide +kernel⟩, List.mem_of_getElem? (i := 747) (by decide +kernel), List.mem_of_getElem? (i := 822) (by decide +kernel), List.mem_of_getElem? (i := 823) (by decide +kernel)⟩
theorem lw_p21 : lw_okq (⟨"MastRobotsModel", "standsAt", "(I)I"⟩, 14) := ⟨⟨by decide +kernel, by decide +kernel⟩, List.mem_of_getElem? (i := 747) (by decide +kernel), List.mem_of_getElem? (i := 826) (by decide +kernel), List.mem_of_getElem? (i := 827) (by decide +kernel)⟩
theorem lw_p22 : lw_okq (⟨"MastRobotsModel", "isAt", "(II)V"⟩, 14) := ⟨⟨by decide +kernel, by decide +kernel⟩, List.mem_of_getElem? (i := 747) (by decide +kernel), List.mem_of_getElem? (i := 830) (by decide +kernel), List.mem_of_getElem? (i := 831) (by decide +kernel)⟩
theorem lw_p23 : lw_okq (⟨"MastRobotsModel", "withNeighbors", "()I"⟩, 14) := ⟨⟨by decide +kernel, by decide +kernel⟩, List.mem_of_getElem? (i := 747) (by decide +kernel), List.mem_of_getElem? (i := 834) (by decide +kernel), List.mem_of_getElem? (i := 835) (by decide +kernel)⟩
theorem lw_p24 : lw_okq (⟨"MastRobotsModel", "lifts", "(I)I"⟩, 14) := ⟨⟨by decide +kernel, by decide +kernel⟩, List.mem_of_getElem? (i := 747) (by decide +kernel), List.mem_of_getElem? (i := 842) (by decide +kernel), List.mem_of_getElem? (i := 843) (by decide +kernel)⟩
theorem lw_p25 : lw_okq (⟨"MastRobotsModel", "comes", "(I)V"⟩, 14) := ⟨⟨by decide +kernel, by decide +kernel⟩, List.mem_of_getElem? (i := 747) (by decide +kernel), List.mem_of_getElem? (i := 846) (by decide +kernel), List.mem_of_getElem? (i := 847) (by decide +kernel)⟩
theorem lw_p26 : lw_okq (⟨"MastRobotsModel", "lays", "(I)I"⟩, 14) := ⟨⟨by decide +kernel, by decide +kernel⟩, List.mem_of_getElem? (i := 747) (by decide +kernel), List.mem_of_getElem? (i := 854) (by decide +kernel), List.mem_of_getElem? (i := 855) (by decide +kernel)⟩
theorem lw_p27 : lw_okq (⟨"MastRobotsModel", "leaves", "()I"⟩, 14) := ⟨⟨by decide +kernel, by decide +kernel⟩, List.mem_of_getElem? (i := 747) (by decide +kernel), List.mem_of_getElem? (i := 858) (by decide +kernel), List.mem_of_getElem? (i := 859) (by decide +kernel)⟩
theorem lw_p28 : lw_okq (⟨"MastRobotsModel", "weighs", "()I"⟩, 14) := ⟨⟨by decide +kernel, by decide +kernel⟩, List.mem_of_getElem? (i := 747) (by decide +kernel), List.mem_of_getElem? (i := 866) (by decide +kernel), List.mem_of_getElem? (i := 867) (by decide +kernel)⟩
theorem lw_p29 : lw_okq (⟨"MastRobotsModel", "weight", "()I"⟩, 14) := ⟨⟨by decide +kernel, by decide +kernel⟩, List.mem_of_getElem? (i := 747) (by decide +kernel), List.mem_of_getElem? (i := 870) (by decide +kernel), List.mem_of_getElem? (i := 871) (by decide +kernel)⟩
theorem lw_p30 : lw_okq (⟨"MastRobotsModel", "turns", "(I)I"⟩, 14) := ⟨⟨by decide +kernel, by decide +kernel⟩, List.mem_of_getElem? (i := 747) (by decide +kernel), List.mem_of_getElem? (i := 878) (by decide +kernel), List.mem_of_getElem? (i := 879) (by decide +kernel)⟩
theorem lw_p31 : lw_okq (⟨"MastRobotsModel", "most", "()I"⟩, 14) := ⟨⟨by decide +kernel, by decide +kernel⟩, List.mem_of_getElem? (i := 747) (by decide +kernel), List.mem_of_getElem? (i := 882) (by decide +kernel), List.mem_of_getElem? (i := 883) (by decide +kernel)⟩
def lw_privs_2 : List (MethodName × Nat) := [(⟨"MastRobots$Orders", "carryOut", "(LMastRobots$Library;)I"⟩, 9), (⟨"MastRobotsModel", "keeps", "()V"⟩, 14), (⟨"MastRobotsModel", "acted", "(I)I"⟩, 14), (⟨"MastRobotsModel", "isCartridge", "(I)Z"⟩, 14), (⟨"MastRobotsModel", "ca", "(II)I"⟩, 14), (⟨"MastRobotsModel", "standsAt", "(I)I"⟩, 14), (⟨"MastRobotsModel", "isAt", "(II)V"⟩, 14), (⟨"MastRobotsModel", "withNeighbors", "()I"⟩, 14), (⟨"MastRobotsModel", "lifts", "(I)I"⟩, 14), (⟨"MastRobotsModel", "comes", "(I)V"⟩, 14), (⟨"MastRobotsModel", "lays", "(I)I"⟩, 14), (⟨"MastRobotsModel", "leaves", "()I"⟩, 14), (⟨"MastRobotsModel", "weighs", "()I"⟩, 14), (⟨"MastRobotsModel", "weight", "()I"⟩, 14), (⟨"MastRobotsModel", "turns", "(I)I"⟩, 14), (⟨"MastRobotsModel", "most", "()I"⟩, 14)]
theorem lw_r2 : ∀ q ∈ lw_privs_2, lw_okq q := List.forall_mem_cons.mpr ⟨lw_p16, List.forall_mem_cons.mpr ⟨lw_p17, List.forall_mem_cons.mpr ⟨lw_p18, List.forall_mem_cons.mpr ⟨lw_p19, List.forall_mem_cons.mpr ⟨lw_p20, List.forall_mem_cons.mpr ⟨lw_p21, List.forall_mem_cons.mpr ⟨lw_p22, List.forall_mem_cons.mpr ⟨lw_p23, List.forall_mem_cons.mpr ⟨lw_p24, List.forall_mem_cons.mpr ⟨lw_p25, List.forall_mem_cons.mpr ⟨lw_p26, List.forall_mem_cons.mpr ⟨lw_p27, List.forall_mem_cons.mpr ⟨lw_p28, List.forall_mem_cons.mpr ⟨lw_p29, List.forall_mem_cons.mpr ⟨lw_p30, List.forall_mem_cons.mpr ⟨lw_p31, fun _ h => absurd h List.not_mem_nil⟩⟩⟩⟩⟩⟩⟩⟩⟩⟩⟩⟩⟩⟩⟩⟩
theorem lw_p32 : lw_okq (⟨"MastRobotsModel", "mounts", "(I)I"⟩, 14) := ⟨⟨by decide +kernel, by decide +kernel⟩, List.mem_of_getElem? (i := 747) (by decide +kernel), List.mem_of_getElem? (i := 890) (by decide +kernel), List.mem_of_getElem? (i := 891) (by decide +kernel)⟩
theorem lw_p33 : lw_okq (⟨"MastRobotsModel", "serves", "(I)I"⟩, 14) := ⟨⟨by decide +kernel, by decide +kernel⟩, List.mem_of_getElem? (i := 747) (by decide +kernel), List.mem_of_getElem? (i := 897) (by decide +kernel), List.mem_of_getElem? (i := 898) (by decide +kernel)⟩
theorem lw_p34 : lw_okq (⟨"MastRobotsModel", "takes", "(I)I"⟩, 14) := ⟨⟨by decide +kernel, by decide +kernel⟩, List.mem_of_getElem? (i := 747) (by decide +kernel), List.mem_of_getElem? (i := 905) (by decide +kernel), List.mem_of_getElem? (i := 906) (by decide +kernel)⟩
theorem lw_p35 : lw_okq (⟨"MastRobotsModel", "files", "(I)I"⟩, 14) := ⟨⟨by decide +kernel, by decide +kernel⟩, List.mem_of_getElem? (i := 747) (by decide +kernel), List.mem_of_getElem? (i := 913) (by decide +kernel), List.mem_of_getElem? (i := 914) (by decide +kernel)⟩
theorem lw_p36 : lw_okq (⟨"MastRobotsModel", "servesBy", "(I)I"⟩, 14) := ⟨⟨by decide +kernel, by decide +kernel⟩, List.mem_of_getElem? (i := 747) (by decide +kernel), List.mem_of_getElem? (i := 925) (by decide +kernel), List.mem_of_getElem? (i := 926) (by decide +kernel)⟩
theorem lw_p37 : lw_okq (⟨"MastRobotsModel", "next", "(I)I"⟩, 14) := ⟨⟨by decide +kernel, by decide +kernel⟩, List.mem_of_getElem? (i := 747) (by decide +kernel), List.mem_of_getElem? (i := 929) (by decide +kernel), List.mem_of_getElem? (i := 930) (by decide +kernel)⟩
theorem lw_p38 : lw_okq (⟨"MastRobotsModel", "worth", "(II)I"⟩, 14) := ⟨⟨by decide +kernel, by decide +kernel⟩, List.mem_of_getElem? (i := 747) (by decide +kernel), List.mem_of_getElem? (i := 933) (by decide +kernel), List.mem_of_getElem? (i := 934) (by decide +kernel)⟩
theorem lw_p39 : lw_okq (⟨"MastRobotsModel", "wanted", "(I)I"⟩, 14) := ⟨⟨by decide +kernel, by decide +kernel⟩, List.mem_of_getElem? (i := 747) (by decide +kernel), List.mem_of_getElem? (i := 940) (by decide +kernel), List.mem_of_getElem? (i := 941) (by decide +kernel)⟩
theorem lw_p40 : lw_okq (⟨"MastRobotsModel", "chooses", "(I)I"⟩, 14) := ⟨⟨by decide +kernel, by decide +kernel⟩, List.mem_of_getElem? (i := 747) (by decide +kernel), List.mem_of_getElem? (i := 944) (by decide +kernel), List.mem_of_getElem? (i := 945) (by decide +kernel)⟩
theorem lw_p41 : lw_okq (⟨"MastRobotsModel", "nearest", "(I)I"⟩, 14) := ⟨⟨by decide +kernel, by decide +kernel⟩, List.mem_of_getElem? (i := 747) (by decide +kernel), List.mem_of_getElem? (i := 948) (by decide +kernel), List.mem_of_getElem? (i := 949) (by decide +kernel)⟩
theorem lw_p42 : lw_okq (⟨"MastRobotsModel", "empty", "(I)I"⟩, 14) := ⟨⟨by decide +kernel, by decide +kernel⟩, List.mem_of_getElem? (i := 747) (by decide +kernel), List.mem_of_getElem? (i := 952) (by decide +kernel), List.mem_of_getElem? (i := 953) (by decide +kernel)⟩
theorem lw_p43 : lw_okq (⟨"MastRobotsModel", "goes", "(I)V"⟩, 14) := ⟨⟨by decide +kernel, by decide +kernel⟩, List.mem_of_getElem? (i := 747) (by decide +kernel), List.mem_of_getElem? (i := 956) (by decide +kernel), List.mem_of_getElem? (i := 957) (by decide +kernel)⟩
theorem lw_p44 : lw_okq (⟨"MastRobotsModel", "whereOf", "(I)I"⟩, 14) := ⟨⟨by decide +kernel, by decide +kernel⟩, List.mem_of_getElem? (i := 747) (by decide +kernel), List.mem_of_getElem? (i := 964) (by decide +kernel), List.mem_of_getElem? (i := 965) (by decide +kernel)⟩
theorem lw_p45 : lw_okq (⟨"MastRobotsModel", "puts", "()V"⟩, 14) := ⟨⟨by decide +kernel, by decide +kernel⟩, List.mem_of_getElem? (i := 747) (by decide +kernel), List.mem_of_getElem? (i := 989) (by decide +kernel), List.mem_of_getElem? (i := 990) (by decide +kernel)⟩
theorem lw_p46 : lw_okq (⟨"MastRobotsModel", "restores", "()V"⟩, 14) := ⟨⟨by decide +kernel, by decide +kernel⟩, List.mem_of_getElem? (i := 747) (by decide +kernel), List.mem_of_getElem? (i := 993) (by decide +kernel), List.mem_of_getElem? (i := 994) (by decide +kernel)⟩
theorem lw_p47 : lw_okq (⟨"MastRobotsModel", "worn", "()I"⟩, 14) := ⟨⟨by decide +kernel, by decide +kernel⟩, List.mem_of_getElem? (i := 747) (by decide +kernel), List.mem_of_getElem? (i := 1009) (by decide +kernel), List.mem_of_getElem? (i := 1010) (by decide +kernel)⟩
def lw_privs_3 : List (MethodName × Nat) := [(⟨"MastRobotsModel", "mounts", "(I)I"⟩, 14), (⟨"MastRobotsModel", "serves", "(I)I"⟩, 14), (⟨"MastRobotsModel", "takes", "(I)I"⟩, 14), (⟨"MastRobotsModel", "files", "(I)I"⟩, 14), (⟨"MastRobotsModel", "servesBy", "(I)I"⟩, 14), (⟨"MastRobotsModel", "next", "(I)I"⟩, 14), (⟨"MastRobotsModel", "worth", "(II)I"⟩, 14), (⟨"MastRobotsModel", "wanted", "(I)I"⟩, 14), (⟨"MastRobotsModel", "chooses", "(I)I"⟩, 14), (⟨"MastRobotsModel", "nearest", "(I)I"⟩, 14), (⟨"MastRobotsModel", "empty", "(I)I"⟩, 14), (⟨"MastRobotsModel", "goes", "(I)V"⟩, 14), (⟨"MastRobotsModel", "whereOf", "(I)I"⟩, 14), (⟨"MastRobotsModel", "puts", "()V"⟩, 14), (⟨"MastRobotsModel", "restores", "()V"⟩, 14), (⟨"MastRobotsModel", "worn", "()I"⟩, 14)]
theorem lw_r3 : ∀ q ∈ lw_privs_3, lw_okq q := List.forall_mem_cons.mpr ⟨lw_p32, List.forall_mem_cons.mpr ⟨lw_p33, List.forall_mem_cons.mpr ⟨lw_p34, List.forall_mem_cons.mpr ⟨lw_p35, List.forall_mem_cons.mpr ⟨lw_p36, List.forall_mem_cons.mpr ⟨lw_p37, List.forall_mem_cons.mpr ⟨lw_p38, List.forall_mem_cons.mpr ⟨lw_p39, List.forall_mem_cons.mpr ⟨lw_p40, List.forall_mem_cons.mpr ⟨lw_p41, List.forall_mem_cons.mpr ⟨lw_p42, List.forall_mem_cons.mpr ⟨lw_p43, List.forall_mem_cons.mpr ⟨lw_p44, List.forall_mem_cons.mpr ⟨lw_p45, List.forall_mem_cons.mpr ⟨lw_p46, List.forall_mem_cons.mpr ⟨lw_p47, fun _ h => absurd h List.not_mem_nil⟩⟩⟩⟩⟩⟩⟩⟩⟩⟩⟩⟩⟩⟩⟩⟩
theorem lw_p48 : lw_okq (⟨"MastRobotsModel", "faulty", "()I"⟩, 14) := ⟨⟨by decide +kernel, by decide +kernel⟩, List.mem_of_getElem? (i := 747) (by decide +kernel), List.mem_of_getElem? (i := 1029) (by decide +kernel), List.mem_of_getElem? (i := 1030) (by decide +kernel)⟩
theorem lw_p49 : lw_okq (⟨"MastRobotsModel", "doesNext", "()I"⟩, 14) := ⟨⟨by decide +kernel, by decide +kernel⟩, List.mem_of_getElem? (i := 747) (by decide +kernel), List.mem_of_getElem? (i := 1033) (by decide +kernel), List.mem_of_getElem? (i := 1034) (by decide +kernel)⟩
theorem lw_p50 : lw_okq (⟨"MastRobotsModel", "reads", "()I"⟩, 14) := ⟨⟨by decide +kernel, by decide +kernel⟩, List.mem_of_getElem? (i := 747) (by decide +kernel), List.mem_of_getElem? (i := 1037) (by decide +kernel), List.mem_of_getElem? (i := 1038) (by decide +kernel)⟩
theorem lw_p51 : lw_okq (⟨"MastRobotsModel", "sign", "()I"⟩, 14) := ⟨⟨by decide +kernel, by decide +kernel⟩, List.mem_of_getElem? (i := 747) (by decide +kernel), List.mem_of_getElem? (i := 1041) (by decide +kernel), List.mem_of_getElem? (i := 1042) (by decide +kernel)⟩
theorem lw_p52 : lw_okq (⟨"MastRobotsModel", "wordFrom", "(I)I"⟩, 14) := ⟨⟨by decide +kernel, by decide +kernel⟩, List.mem_of_getElem? (i := 747) (by decide +kernel), List.mem_of_getElem? (i := 1045) (by decide +kernel), List.mem_of_getElem? (i := 1046) (by decide +kernel)⟩
theorem lw_p53 : lw_okq (⟨"MastRobotsModel", "isWord", "(ICCCCC)Z"⟩, 14) := ⟨⟨by decide +kernel, by decide +kernel⟩, List.mem_of_getElem? (i := 747) (by decide +kernel), List.mem_of_getElem? (i := 1049) (by decide +kernel), List.mem_of_getElem? (i := 1050) (by decide +kernel)⟩
theorem lw_p54 : lw_okq (⟨"MastRobotsModel", "does", "()I"⟩, 14) := ⟨⟨by decide +kernel, by decide +kernel⟩, List.mem_of_getElem? (i := 747) (by decide +kernel), List.mem_of_getElem? (i := 1053) (by decide +kernel), List.mem_of_getElem? (i := 1054) (by decide +kernel)⟩
def lw_privs_4 : List (MethodName × Nat) := [(⟨"MastRobotsModel", "faulty", "()I"⟩, 14), (⟨"MastRobotsModel", "doesNext", "()I"⟩, 14), (⟨"MastRobotsModel", "reads", "()I"⟩, 14), (⟨"MastRobotsModel", "sign", "()I"⟩, 14), (⟨"MastRobotsModel", "wordFrom", "(I)I"⟩, 14), (⟨"MastRobotsModel", "isWord", "(ICCCCC)Z"⟩, 14), (⟨"MastRobotsModel", "does", "()I"⟩, 14)]
theorem lw_r4 : ∀ q ∈ lw_privs_4, lw_okq q := List.forall_mem_cons.mpr ⟨lw_p48, List.forall_mem_cons.mpr ⟨lw_p49, List.forall_mem_cons.mpr ⟨lw_p50, List.forall_mem_cons.mpr ⟨lw_p51, List.forall_mem_cons.mpr ⟨lw_p52, List.forall_mem_cons.mpr ⟨lw_p53, List.forall_mem_cons.mpr ⟨lw_p54, fun _ h => absurd h List.not_mem_nil⟩⟩⟩⟩⟩⟩⟩
def lw_privs : List (MethodName × Nat) := lw_privs_1 ++ (lw_privs_2 ++ (lw_privs_3 ++ (lw_privs_4)))
def lw_tbl : List Cond := k2_sels lw_privs ++ tables_1
theorem lw_privs_ok : ∀ q ∈ lw_privs, lw_okq q := by
  show ∀ q ∈ lw_privs_1 ++ (lw_privs_2 ++ (lw_privs_3 ++ (lw_privs_4))), lw_okq q
  exact List.forall_mem_append.mpr ⟨lw_r1, List.forall_mem_append.mpr ⟨lw_r2, List.forall_mem_append.mpr ⟨lw_r3, lw_r4⟩⟩⟩
end
section
/-! ===== BEGIN printed: names, fields, word lists, decode rows ===== -/
def RX0 : String := "MastRobots$Cartridges"
def TX0 : u_T := fun k => match k with
  | 0 => ("MastRobots$Cartridges", "weights", "[I", true)
  | 1 => ("MastRobots$Cartridges", "wears", "[I", true)
  | 2 => ("MastRobots$Cartridges", "requestsServed", "[I", true)
  | 3 => ("MastRobots$Cartridges", "slots", "[I", true)
  | 4 => ("MastRobots$Cartridges", "occupants", "[I", true)
  | 5 => ("MastRobots$Cartridges", "holders", "[I", true)
  | _ => ("MastRobots$Cartridges", "size", "I", false)
def tyX0 : Nat → FieldType := fun k => match k with
  | 0 => .array .int
  | 1 => .array .int
  | 2 => .array .int
  | 3 => .array .int
  | 4 => .array .int
  | 5 => .array .int
  | _ => .int
abbrev wsX00 : List Cond := u_ws RX0 TX0 7
theorem nmX0 : ∀ a, a < 7 → ∀ b, b < 7 → a ≠ b → (TX0 a).2.1 ≠ (TX0 b).2.1 := by decide +kernel
theorem tyX0_ok : ∀ k, k < 7 → parseFieldDescriptor (TX0 k).2.2.1 = some (tyX0 k) := by decide +kernel
abbrev cX0_init : ByteArray := prog_2_method_1_code
def yX0_init : MethodName := ⟨RX0, "<init>", "()V"⟩
abbrev cX0_copyFrom : ByteArray := prog_2_method_2_code
def yX0_copyFrom : MethodName := ⟨RX0, "copyFrom", "(LMastRobots$Cartridges;)V"⟩
abbrev cX0_has : ByteArray := prog_2_method_3_code
def yX0_has : MethodName := ⟨RX0, "has", "(I)Z"⟩
abbrev cX0_add : ByteArray := prog_2_method_4_code
def yX0_add : MethodName := ⟨RX0, "add", "(II)I"⟩
abbrev cX0_moveTo : ByteArray := prog_2_method_5_code
def yX0_moveTo : MethodName := ⟨RX0, "moveTo", "(II)V"⟩
abbrev cX0_countMounting : ByteArray := prog_2_method_6_code
def yX0_countMounting : MethodName := ⟨RX0, "countMounting", "(II)V"⟩
abbrev cX0_putFile : ByteArray := prog_2_method_7_code
def yX0_putFile : MethodName := ⟨RX0, "putFile", "(II)V"⟩
abbrev cX0_weightOf : ByteArray := prog_2_method_8_code
def yX0_weightOf : MethodName := ⟨RX0, "weightOf", "(I)I"⟩
abbrev cX0_wearOf : ByteArray := prog_2_method_9_code
def yX0_wearOf : MethodName := ⟨RX0, "wearOf", "(I)I"⟩
abbrev cX0_servedBy : ByteArray := prog_2_method_10_code
def yX0_servedBy : MethodName := ⟨RX0, "servedBy", "(I)I"⟩
abbrev cX0_slotOf : ByteArray := prog_2_method_11_code
def yX0_slotOf : MethodName := ⟨RX0, "slotOf", "(I)I"⟩
abbrev cX0_inSlot : ByteArray := prog_2_method_12_code
def yX0_inSlot : MethodName := ⟨RX0, "inSlot", "(I)I"⟩
abbrev cX0_holderOf : ByteArray := prog_2_method_13_code
def yX0_holderOf : MethodName := ⟨RX0, "holderOf", "(I)I"⟩
abbrev cX0_isWorn : ByteArray := prog_2_method_14_code
def yX0_isWorn : MethodName := ⟨RX0, "isWorn", "(I)Z"⟩
abbrev cX0_isOnShelf : ByteArray := prog_2_method_15_code
def yX0_isOnShelf : MethodName := ⟨RX0, "isOnShelf", "(I)Z"⟩
abbrev cX0_wallOf : ByteArray := prog_2_method_16_code
def yX0_wallOf : MethodName := ⟨RX0, "wallOf", "(I)I"⟩
abbrev cX0_shelfOfWall : ByteArray := prog_2_method_17_code
def yX0_shelfOfWall : MethodName := ⟨RX0, "shelfOfWall", "(I)I"⟩
abbrev cX0_kindOfPlaceOf : ByteArray := prog_2_method_18_code
def yX0_kindOfPlaceOf : MethodName := ⟨RX0, "kindOfPlaceOf", "(I)I"⟩
abbrev cX0_placeOf : ByteArray := prog_2_method_19_code
def yX0_placeOf : MethodName := ⟨RX0, "placeOf", "(I)I"⟩
abbrev cX0_filesHeldBy : ByteArray := prog_2_method_20_code
def yX0_filesHeldBy : MethodName := ⟨RX0, "filesHeldBy", "(I)I"⟩
abbrev cX0_filesHeld : ByteArray := prog_2_method_21_code
def yX0_filesHeld : MethodName := ⟨RX0, "filesHeld", "()I"⟩
abbrev cX0_withNeighbors : ByteArray := prog_2_method_22_code
def yX0_withNeighbors : MethodName := ⟨RX0, "withNeighbors", "()I"⟩
abbrev cX0_worn : ByteArray := prog_2_method_23_code
def yX0_worn : MethodName := ⟨RX0, "worn", "()I"⟩
abbrev cX0_emptyShelfNear : ByteArray := prog_2_method_24_code
def yX0_emptyShelfNear : MethodName := ⟨RX0, "emptyShelfNear", "(I)I"⟩
def RX1 : String := "MastRobots$History"
def TX1 : u_T := fun k => match k with
  | 0 => ("MastRobots$History", "states", "[LMastRobots$Library;", true)
  | 1 => ("MastRobots$History", "next", "I", false)
  | _ => ("MastRobots$History", "size", "I", false)
def tyX1 : Nat → FieldType := fun k => match k with
  | 0 => .array (.object "MastRobots$Library")
  | 1 => .int
  | _ => .int
abbrev wsX10 : List Cond := u_ws RX1 TX1 3
theorem nmX1 : ∀ a, a < 3 → ∀ b, b < 3 → a ≠ b → (TX1 a).2.1 ≠ (TX1 b).2.1 := by decide +kernel
theorem tyX1_ok : ∀ k, k < 3 → parseFieldDescriptor (TX1 k).2.2.1 = some (tyX1 k) := by decide +kernel
abbrev cX1_init : ByteArray := prog_3_method_1_code
def yX1_init : MethodName := ⟨RX1, "<init>", "()V"⟩
abbrev cX1_record : ByteArray := prog_3_method_2_code
def yX1_record : MethodName := ⟨RX1, "record", "(LMastRobots$Library;)V"⟩
abbrev cX1_restore : ByteArray := prog_3_method_3_code
def yX1_restore : MethodName := ⟨RX1, "restore", "(LMastRobots$Library;)I"⟩
abbrev cX1_stateAt : ByteArray := prog_3_method_4_code
def yX1_stateAt : MethodName := ⟨RX1, "stateAt", "(I)LMastRobots$Library;"⟩
def RX2 : String := "MastRobots$Library"
def TX2 : u_T := fun k => match k with
  | 0 => ("MastRobots$Library", "cartridges", "LMastRobots$Cartridges;", true)
  | 1 => ("MastRobots$Library", "requests", "LMastRobots$Requests;", true)
  | 2 => ("MastRobots$Library", "wall", "I", false)
  | 3 => ("MastRobots$Library", "weighed", "Z", false)
  | 4 => ("MastRobots$Library", "pileSize", "I", false)
  | 5 => ("MastRobots$Library", "pileWeight", "I", false)
  | 6 => ("MastRobots$Library", "lastMounted", "I", false)
  | 7 => ("MastRobots$Library", "ticks", "I", false)
  | 8 => ("MastRobots$Library", "turns", "I", false)
  | _ => ("MastRobots$Library", "served", "I", false)
def tyX2 : Nat → FieldType := fun k => match k with
  | 0 => .object "MastRobots$Cartridges"
  | 1 => .object "MastRobots$Requests"
  | 2 => .int
  | 3 => .boolean
  | 4 => .int
  | 5 => .int
  | 6 => .int
  | 7 => .int
  | 8 => .int
  | _ => .int
abbrev wsX20 : List Cond := u_ws RX2 TX2 10
theorem nmX2 : ∀ a, a < 10 → ∀ b, b < 10 → a ≠ b → (TX2 a).2.1 ≠ (TX2 b).2.1 := by decide +kernel
theorem tyX2_ok : ∀ k, k < 10 → parseFieldDescriptor (TX2 k).2.2.1 = some (tyX2 k) := by decide +kernel
abbrev cX2_init : ByteArray := prog_4_method_1_code
def yX2_init : MethodName := ⟨RX2, "<init>", "()V"⟩
abbrev cX2_copyFrom : ByteArray := prog_4_method_2_code
def yX2_copyFrom : MethodName := ⟨RX2, "copyFrom", "(LMastRobots$Library;)V"⟩
abbrev cX2_addCartridge : ByteArray := prog_4_method_3_code
def yX2_addCartridge : MethodName := ⟨RX2, "addCartridge", "(III)I"⟩
abbrev cX2_exchange : ByteArray := prog_4_method_4_code
def yX2_exchange : MethodName := ⟨RX2, "exchange", "(III)I"⟩
abbrev cX2_liftFrom : ByteArray := prog_4_method_5_code
def yX2_liftFrom : MethodName := ⟨RX2, "liftFrom", "(I)I"⟩
abbrev cX2_layOn : ByteArray := prog_4_method_6_code
def yX2_layOn : MethodName := ⟨RX2, "layOn", "(I)I"⟩
abbrev cX2_weighPallet : ByteArray := prog_4_method_7_code
def yX2_weighPallet : MethodName := ⟨RX2, "weighPallet", "()I"⟩
abbrev cX2_turnBy : ByteArray := prog_4_method_8_code
def yX2_turnBy : MethodName := ⟨RX2, "turnBy", "(I)I"⟩
abbrev cX2_mountIn : ByteArray := prog_4_method_9_code
def yX2_mountIn : MethodName := ⟨RX2, "mountIn", "(I)I"⟩
abbrev cX2_takeFrom : ByteArray := prog_4_method_10_code
def yX2_takeFrom : MethodName := ⟨RX2, "takeFrom", "(I)I"⟩
abbrev cX2_holdFile : ByteArray := prog_4_method_11_code
def yX2_holdFile : MethodName := ⟨RX2, "holdFile", "(II)I"⟩
abbrev cX2_addRequest : ByteArray := prog_4_method_12_code
def yX2_addRequest : MethodName := ⟨RX2, "addRequest", "(II)I"⟩
abbrev cX2_serveBy : ByteArray := prog_4_method_13_code
def yX2_serveBy : MethodName := ⟨RX2, "serveBy", "(I)I"⟩
abbrev cX2_serveAllBy : ByteArray := prog_4_method_14_code
def yX2_serveAllBy : MethodName := ⟨RX2, "serveAllBy", "(I)I"⟩
abbrev cX2_nextRequest : ByteArray := prog_4_method_15_code
def yX2_nextRequest : MethodName := ⟨RX2, "nextRequest", "(I)I"⟩
abbrev cX2_holderFor : ByteArray := prog_4_method_16_code
def yX2_holderFor : MethodName := ⟨RX2, "holderFor", "(I)I"⟩
abbrev cX2_driveFor : ByteArray := prog_4_method_17_code
def yX2_driveFor : MethodName := ⟨RX2, "driveFor", "(I)I"⟩
abbrev cX2_waitingFor : ByteArray := prog_4_method_18_code
def yX2_waitingFor : MethodName := ⟨RX2, "waitingFor", "(I)I"⟩
abbrev cX2_goTo : ByteArray := prog_4_method_19_code
def yX2_goTo : MethodName := ⟨RX2, "goTo", "(I)V"⟩
abbrev cX2_inDrive : ByteArray := prog_4_method_20_code
def yX2_inDrive : MethodName := ⟨RX2, "inDrive", "(I)I"⟩
abbrev cX2_topOfPile : ByteArray := prog_4_method_21_code
def yX2_topOfPile : MethodName := ⟨RX2, "topOfPile", "()I"⟩
abbrev cX2_ontoPile : ByteArray := prog_4_method_22_code
def yX2_ontoPile : MethodName := ⟨RX2, "ontoPile", "(II)I"⟩
abbrev cX2_offPile : ByteArray := prog_4_method_23_code
def yX2_offPile : MethodName := ⟨RX2, "offPile", "(III)V"⟩
def RX3 : String := "MastRobots$Orders"
def TX3 : u_T := fun k => match k with
  | 0 => ("MastRobots$Orders", "signs", "[C", true)
  | 1 => ("MastRobots$Orders", "length", "I", false)
  | 2 => ("MastRobots$Orders", "word", "I", false)
  | 3 => ("MastRobots$Orders", "number", "I", false)
  | 4 => ("MastRobots$Orders", "end", "I", false)
  | 5 => ("MastRobots$Orders", "breaksOffAt", "I", false)
  | 6 => ("MastRobots$Orders", "faultPosition", "I", false)
  | 7 => ("MastRobots$Orders", "faultReason", "I", false)
  | _ => ("MastRobots$Orders", "faultCause", "I", false)
def tyX3 : Nat → FieldType := fun k => match k with
  | 0 => .array .char
  | 1 => .int
  | 2 => .int
  | 3 => .int
  | 4 => .int
  | 5 => .int
  | 6 => .int
  | 7 => .int
  | _ => .int
abbrev wsX30 : List Cond := u_ws RX3 TX3 9
theorem nmX3 : ∀ a, a < 9 → ∀ b, b < 9 → a ≠ b → (TX3 a).2.1 ≠ (TX3 b).2.1 := by decide +kernel
theorem tyX3_ok : ∀ k, k < 9 → parseFieldDescriptor (TX3 k).2.2.1 = some (tyX3 k) := by decide +kernel
abbrev cX3_init : ByteArray := prog_5_method_1_code
def yX3_init : MethodName := ⟨RX3, "<init>", "()V"⟩
abbrev cX3_append : ByteArray := prog_5_method_2_code
def yX3_append : MethodName := ⟨RX3, "append", "(I)I"⟩
abbrev cX3_empty : ByteArray := prog_5_method_3_code
def yX3_empty : MethodName := ⟨RX3, "empty", "()I"⟩
abbrev cX3_doAll : ByteArray := prog_5_method_4_code
def yX3_doAll : MethodName := ⟨RX3, "doAll", "(LMastRobots$Library;)I"⟩
abbrev cX3_aboutFault : ByteArray := prog_5_method_5_code
def yX3_aboutFault : MethodName := ⟨RX3, "aboutFault", "(I)I"⟩
abbrev cX3_reasonAgainstForm : ByteArray := prog_5_method_6_code
def yX3_reasonAgainstForm : MethodName := ⟨RX3, "reasonAgainstForm", "()I"⟩
abbrev cX3_carryOut : ByteArray := prog_5_method_7_code
def yX3_carryOut : MethodName := ⟨RX3, "carryOut", "(LMastRobots$Library;)I"⟩
abbrev cX3_lowestNumber : ByteArray := prog_5_method_8_code
def yX3_lowestNumber : MethodName := ⟨RX3, "lowestNumber", "()I"⟩
abbrev cX3_greatestNumber : ByteArray := prog_5_method_9_code
def yX3_greatestNumber : MethodName := ⟨RX3, "greatestNumber", "()I"⟩
abbrev cX3_read : ByteArray := prog_5_method_10_code
def yX3_read : MethodName := ⟨RX3, "read", "(I)V"⟩
abbrev cX3_readSign : ByteArray := prog_5_method_11_code
def yX3_readSign : MethodName := ⟨RX3, "readSign", "(C)Z"⟩
abbrev cX3_readDigit : ByteArray := prog_5_method_12_code
def yX3_readDigit : MethodName := ⟨RX3, "readDigit", "()Z"⟩
abbrev cX3_lettersFrom : ByteArray := prog_5_method_13_code
def yX3_lettersFrom : MethodName := ⟨RX3, "lettersFrom", "(I)I"⟩
abbrev cX3_wordOf : ByteArray := prog_5_method_14_code
def yX3_wordOf : MethodName := ⟨RX3, "wordOf", "(II)I"⟩
abbrev cX3_standsAt : ByteArray := prog_5_method_15_code
def yX3_standsAt : MethodName := ⟨RX3, "standsAt", "(IILjava/lang/String;)Z"⟩
abbrev cX3_signAt : ByteArray := prog_5_method_16_code
def yX3_signAt : MethodName := ⟨RX3, "signAt", "(I)I"⟩
abbrev cX3_textOf : ByteArray := prog_5_method_17_code
def yX3_textOf : MethodName := ⟨RX3, "textOf", "(I)Ljava/lang/String;"⟩
def RX4 : String := "MastRobots$Requests"
def TX4 : u_T := fun k => match k with
  | 0 => ("MastRobots$Requests", "files", "[I", true)
  | 1 => ("MastRobots$Requests", "ranks", "[I", true)
  | 2 => ("MastRobots$Requests", "ticks", "[I", true)
  | _ => ("MastRobots$Requests", "size", "I", false)
def tyX4 : Nat → FieldType := fun k => match k with
  | 0 => .array .int
  | 1 => .array .int
  | 2 => .array .int
  | _ => .int
abbrev wsX40 : List Cond := u_ws RX4 TX4 4
theorem nmX4 : ∀ a, a < 4 → ∀ b, b < 4 → a ≠ b → (TX4 a).2.1 ≠ (TX4 b).2.1 := by decide +kernel
theorem tyX4_ok : ∀ k, k < 4 → parseFieldDescriptor (TX4 k).2.2.1 = some (tyX4 k) := by decide +kernel
abbrev cX4_init : ByteArray := prog_6_method_1_code
def yX4_init : MethodName := ⟨RX4, "<init>", "()V"⟩
abbrev cX4_copyFrom : ByteArray := prog_6_method_2_code
def yX4_copyFrom : MethodName := ⟨RX4, "copyFrom", "(LMastRobots$Requests;)V"⟩
abbrev cX4_add : ByteArray := prog_6_method_3_code
def yX4_add : MethodName := ⟨RX4, "add", "(III)I"⟩
abbrev cX4_removeHeldBy : ByteArray := prog_6_method_4_code
def yX4_removeHeldBy : MethodName := ⟨RX4, "removeHeldBy", "(ILMastRobots$Cartridges;)I"⟩
abbrev cX4_fileOf : ByteArray := prog_6_method_5_code
def yX4_fileOf : MethodName := ⟨RX4, "fileOf", "(I)I"⟩
abbrev cX4_rankOf : ByteArray := prog_6_method_6_code
def yX4_rankOf : MethodName := ⟨RX4, "rankOf", "(I)I"⟩
abbrev cX4_tickOf : ByteArray := prog_6_method_7_code
def yX4_tickOf : MethodName := ⟨RX4, "tickOf", "(I)I"⟩
def RX5 : String := "MastRobots$Rows"
def TX5 : u_T := fun k => match k with
  | _ => ("", "", "", false)
def tyX5 : Nat → FieldType := fun k => match k with
  | _ => .int
abbrev wsX50 : List Cond := u_ws RX5 TX5 0
theorem nmX5 : ∀ a, a < 0 → ∀ b, b < 0 → a ≠ b → (TX5 a).2.1 ≠ (TX5 b).2.1 := by decide +kernel
theorem tyX5_ok : ∀ k, k < 0 → parseFieldDescriptor (TX5 k).2.2.1 = some (tyX5 k) := by decide +kernel
abbrev cX5_copy : ByteArray := prog_7_method_2_code
def yX5_copy : MethodName := ⟨RX5, "copy", "([I[I)V"⟩
abbrev cX5_howOften : ByteArray := prog_7_method_3_code
def yX5_howOften : MethodName := ⟨RX5, "howOften", "([II)I"⟩
def RX6 : String := "MastRobots"
def TX6 : u_T := fun k => match k with
  | 0 => ("MastRobots", "now", "LMastRobots$Library;", true)
  | 1 => ("MastRobots", "trial", "LMastRobots$Library;", true)
  | 2 => ("MastRobots", "history", "LMastRobots$History;", true)
  | _ => ("MastRobots", "orders", "LMastRobots$Orders;", true)
def tyX6 : Nat → FieldType := fun k => match k with
  | 0 => .object "MastRobots$Library"
  | 1 => .object "MastRobots$Library"
  | 2 => .object "MastRobots$History"
  | _ => .object "MastRobots$Orders"
abbrev wsX60 : List Cond := u_ws RX6 TX6 4
theorem nmX6 : ∀ a, a < 4 → ∀ b, b < 4 → a ≠ b → (TX6 a).2.1 ≠ (TX6 b).2.1 := by decide +kernel
theorem tyX6_ok : ∀ k, k < 4 → parseFieldDescriptor (TX6 k).2.2.1 = some (tyX6 k) := by decide +kernel
abbrev cX6_init : ByteArray := prog_1_method_1_code
def yX6_init : MethodName := ⟨RX6, "<init>", "()V"⟩
abbrev cX6_bring : ByteArray := prog_1_method_2_code
def yX6_bring : MethodName := ⟨RX6, "bring", "(III)I"⟩
abbrev cX6_send : ByteArray := prog_1_method_3_code
def yX6_send : MethodName := ⟨RX6, "send", "(III)I"⟩
abbrev cX6_lift : ByteArray := prog_1_method_4_code
def yX6_lift : MethodName := ⟨RX6, "lift", "(I)I"⟩
abbrev cX6_lay : ByteArray := prog_1_method_5_code
def yX6_lay : MethodName := ⟨RX6, "lay", "(I)I"⟩
abbrev cX6_weigh : ByteArray := prog_1_method_6_code
def yX6_weigh : MethodName := ⟨RX6, "weigh", "()I"⟩
abbrev cX6_turn : ByteArray := prog_1_method_7_code
def yX6_turn : MethodName := ⟨RX6, "turn", "(I)I"⟩
abbrev cX6_mount : ByteArray := prog_1_method_8_code
def yX6_mount : MethodName := ⟨RX6, "mount", "(I)I"⟩
abbrev cX6_take : ByteArray := prog_1_method_9_code
def yX6_take : MethodName := ⟨RX6, "take", "(I)I"⟩
abbrev cX6_hold : ByteArray := prog_1_method_10_code
def yX6_hold : MethodName := ⟨RX6, "hold", "(II)I"⟩
abbrev cX6_request : ByteArray := prog_1_method_11_code
def yX6_request : MethodName := ⟨RX6, "request", "(II)I"⟩
abbrev cX6_serve : ByteArray := prog_1_method_12_code
def yX6_serve : MethodName := ⟨RX6, "serve", "(I)I"⟩
abbrev cX6_cartridgeOf : ByteArray := prog_1_method_13_code
def yX6_cartridgeOf : MethodName := ⟨RX6, "cartridgeOf", "(II)I"⟩
abbrev cX6_shelfOf : ByteArray := prog_1_method_14_code
def yX6_shelfOf : MethodName := ⟨RX6, "shelfOf", "(II)I"⟩
abbrev cX6_holder : ByteArray := prog_1_method_15_code
def yX6_holder : MethodName := ⟨RX6, "holder", "(I)I"⟩
abbrev cX6_requestOf : ByteArray := prog_1_method_16_code
def yX6_requestOf : MethodName := ⟨RX6, "requestOf", "(II)I"⟩
abbrev cX6_nextBy : ByteArray := prog_1_method_17_code
def yX6_nextBy : MethodName := ⟨RX6, "nextBy", "(I)I"⟩
abbrev cX6_would : ByteArray := prog_1_method_18_code
def yX6_would : MethodName := ⟨RX6, "would", "(II)I"⟩
abbrev cX6_wayTo : ByteArray := prog_1_method_19_code
def yX6_wayTo : MethodName := ⟨RX6, "wayTo", "(I)I"⟩
abbrev cX6_wholeBatch : ByteArray := prog_1_method_20_code
def yX6_wholeBatch : MethodName := ⟨RX6, "wholeBatch", "(II)I"⟩
abbrev cX6_count : ByteArray := prog_1_method_21_code
def yX6_count : MethodName := ⟨RX6, "count", "(I)I"⟩
abbrev cX6_undo : ByteArray := prog_1_method_22_code
def yX6_undo : MethodName := ⟨RX6, "undo", "()I"⟩
abbrev cX6_type : ByteArray := prog_1_method_23_code
def yX6_type : MethodName := ⟨RX6, "type", "(I)I"⟩
abbrev cX6_clearText : ByteArray := prog_1_method_24_code
def yX6_clearText : MethodName := ⟨RX6, "clearText", "()I"⟩
abbrev cX6_fault : ByteArray := prog_1_method_25_code
def yX6_fault : MethodName := ⟨RX6, "fault", "(I)I"⟩
abbrev cX6_play : ByteArray := prog_1_method_26_code
def yX6_play : MethodName := ⟨RX6, "play", "()I"⟩
abbrev cX6_freshTrial : ByteArray := prog_1_method_27_code
def yX6_freshTrial : MethodName := ⟨RX6, "freshTrial", "()LMastRobots$Library;"⟩
abbrev cX6_keep : ByteArray := prog_1_method_28_code
def yX6_keep : MethodName := ⟨RX6, "keep", "(I)I"⟩
abbrev cX6_found : ByteArray := prog_1_method_29_code
def yX6_found : MethodName := ⟨RX6, "found", "(I)I"⟩
abbrev cX6_isIn : ByteArray := prog_1_method_30_code
def yX6_isIn : MethodName := ⟨RX6, "isIn", "(III)Z"⟩
abbrev cX6_isRule : ByteArray := prog_1_method_31_code
def yX6_isRule : MethodName := ⟨RX6, "isRule", "(I)Z"⟩
abbrev cX6_isShelf : ByteArray := prog_1_method_32_code
def yX6_isShelf : MethodName := ⟨RX6, "isShelf", "(II)Z"⟩
abbrev cX6_shelfSlot : ByteArray := prog_1_method_33_code
def yX6_shelfSlot : MethodName := ⟨RX6, "shelfSlot", "(II)I"⟩
abbrev cX6_wallOfDrive : ByteArray := prog_1_method_34_code
def yX6_wallOfDrive : MethodName := ⟨RX6, "wallOfDrive", "(I)I"⟩
abbrev cX6_wallsToTheRight : ByteArray := prog_1_method_35_code
def yX6_wallsToTheRight : MethodName := ⟨RX6, "wallsToTheRight", "(II)I"⟩
abbrev cX6_distance : ByteArray := prog_1_method_36_code
def yX6_distance : MethodName := ⟨RX6, "distance", "(II)I"⟩
abbrev cX6_mostWallsWith : ByteArray := prog_1_method_37_code
def yX6_mostWallsWith : MethodName := ⟨RX6, "mostWallsWith", "(I)I"⟩
def RX7 : String := "MastRobotsModel"
def TX7 : u_T := fun k => match k with
  | 0 => ("MastRobotsModel", "s", "[I", true)
  | 1 => ("MastRobotsModel", "was", "[I", true)
  | 2 => ("MastRobotsModel", "begun", "[I", true)
  | 3 => ("MastRobotsModel", "aside", "[I", true)
  | 4 => ("MastRobotsModel", "states", "I", false)
  | 5 => ("MastRobotsModel", "text", "[C", true)
  | 6 => ("MastRobotsModel", "typed", "I", false)
  | 7 => ("MastRobotsModel", "at", "I", false)
  | 8 => ("MastRobotsModel", "reason", "I", false)
  | 9 => ("MastRobotsModel", "cause", "I", false)
  | 10 => ("MastRobotsModel", "digit", "I", false)
  | 11 => ("MastRobotsModel", "order", "I", false)
  | 12 => ("MastRobotsModel", "drive", "I", false)
  | _ => ("MastRobotsModel", "moved", "I", false)
def tyX7 : Nat → FieldType := fun k => match k with
  | 0 => .array .int
  | 1 => .array .int
  | 2 => .array .int
  | 3 => .array .int
  | 4 => .int
  | 5 => .array .char
  | 6 => .int
  | 7 => .int
  | 8 => .int
  | 9 => .int
  | 10 => .int
  | 11 => .int
  | 12 => .int
  | _ => .int
abbrev wsX70 : List Cond := u_ws RX7 TX7 14
theorem nmX7 : ∀ a, a < 14 → ∀ b, b < 14 → a ≠ b → (TX7 a).2.1 ≠ (TX7 b).2.1 := by decide +kernel
theorem tyX7_ok : ∀ k, k < 14 → parseFieldDescriptor (TX7 k).2.2.1 = some (tyX7 k) := by decide +kernel
abbrev cX7_init : ByteArray := prog_9_method_1_code
def yX7_init : MethodName := ⟨RX7, "<init>", "()V"⟩
abbrev cX7_in : ByteArray := prog_9_method_2_code
def yX7_in : MethodName := ⟨RX7, "in", "(III)Z"⟩
abbrev cX7_ca : ByteArray := prog_9_method_3_code
def yX7_ca : MethodName := ⟨RX7, "ca", "(II)I"⟩
abbrev cX7_isCartridge : ByteArray := prog_9_method_4_code
def yX7_isCartridge : MethodName := ⟨RX7, "isCartridge", "(I)Z"⟩
abbrev cX7_isAt : ByteArray := prog_9_method_5_code
def yX7_isAt : MethodName := ⟨RX7, "isAt", "(II)V"⟩
abbrev cX7_keeps : ByteArray := prog_9_method_6_code
def yX7_keeps : MethodName := ⟨RX7, "keeps", "()V"⟩
abbrev cX7_acted : ByteArray := prog_9_method_7_code
def yX7_acted : MethodName := ⟨RX7, "acted", "(I)I"⟩
abbrev cX7_puts : ByteArray := prog_9_method_8_code
def yX7_puts : MethodName := ⟨RX7, "puts", "()V"⟩
abbrev cX7_restores : ByteArray := prog_9_method_9_code
def yX7_restores : MethodName := ⟨RX7, "restores", "()V"⟩
abbrev cX7_bring : ByteArray := prog_9_method_10_code
def yX7_bring : MethodName := ⟨RX7, "bring", "(III)I"⟩
abbrev cX7_withNeighbors : ByteArray := prog_9_method_11_code
def yX7_withNeighbors : MethodName := ⟨RX7, "withNeighbors", "()I"⟩
abbrev cX7_standsAt : ByteArray := prog_9_method_12_code
def yX7_standsAt : MethodName := ⟨RX7, "standsAt", "(I)I"⟩
abbrev cX7_send : ByteArray := prog_9_method_13_code
def yX7_send : MethodName := ⟨RX7, "send", "(III)I"⟩
abbrev cX7_weight : ByteArray := prog_9_method_14_code
def yX7_weight : MethodName := ⟨RX7, "weight", "()I"⟩
abbrev cX7_most : ByteArray := prog_9_method_15_code
def yX7_most : MethodName := ⟨RX7, "most", "()I"⟩
abbrev cX7_comes : ByteArray := prog_9_method_16_code
def yX7_comes : MethodName := ⟨RX7, "comes", "(I)V"⟩
abbrev cX7_leaves : ByteArray := prog_9_method_17_code
def yX7_leaves : MethodName := ⟨RX7, "leaves", "()I"⟩
abbrev cX7_lifts : ByteArray := prog_9_method_18_code
def yX7_lifts : MethodName := ⟨RX7, "lifts", "(I)I"⟩
abbrev cX7_lift : ByteArray := prog_9_method_19_code
def yX7_lift : MethodName := ⟨RX7, "lift", "(I)I"⟩
abbrev cX7_lays : ByteArray := prog_9_method_20_code
def yX7_lays : MethodName := ⟨RX7, "lays", "(I)I"⟩
abbrev cX7_lay : ByteArray := prog_9_method_21_code
def yX7_lay : MethodName := ⟨RX7, "lay", "(I)I"⟩
abbrev cX7_weighs : ByteArray := prog_9_method_22_code
def yX7_weighs : MethodName := ⟨RX7, "weighs", "()I"⟩
abbrev cX7_weigh : ByteArray := prog_9_method_23_code
def yX7_weigh : MethodName := ⟨RX7, "weigh", "()I"⟩
abbrev cX7_turns : ByteArray := prog_9_method_24_code
def yX7_turns : MethodName := ⟨RX7, "turns", "(I)I"⟩
abbrev cX7_turn : ByteArray := prog_9_method_25_code
def yX7_turn : MethodName := ⟨RX7, "turn", "(I)I"⟩
abbrev cX7_wallOf : ByteArray := prog_9_method_26_code
def yX7_wallOf : MethodName := ⟨RX7, "wallOf", "(I)I"⟩
abbrev cX7_serves : ByteArray := prog_9_method_27_code
def yX7_serves : MethodName := ⟨RX7, "serves", "(I)I"⟩
abbrev cX7_mounts : ByteArray := prog_9_method_28_code
def yX7_mounts : MethodName := ⟨RX7, "mounts", "(I)I"⟩
abbrev cX7_mount : ByteArray := prog_9_method_29_code
def yX7_mount : MethodName := ⟨RX7, "mount", "(I)I"⟩
abbrev cX7_takes : ByteArray := prog_9_method_30_code
def yX7_takes : MethodName := ⟨RX7, "takes", "(I)I"⟩
abbrev cX7_take : ByteArray := prog_9_method_31_code
def yX7_take : MethodName := ⟨RX7, "take", "(I)I"⟩
abbrev cX7_files : ByteArray := prog_9_method_32_code
def yX7_files : MethodName := ⟨RX7, "files", "(I)I"⟩
abbrev cX7_hold : ByteArray := prog_9_method_33_code
def yX7_hold : MethodName := ⟨RX7, "hold", "(II)I"⟩
abbrev cX7_request : ByteArray := prog_9_method_34_code
def yX7_request : MethodName := ⟨RX7, "request", "(II)I"⟩
abbrev cX7_wanted : ByteArray := prog_9_method_35_code
def yX7_wanted : MethodName := ⟨RX7, "wanted", "(I)I"⟩
abbrev cX7_apart : ByteArray := prog_9_method_36_code
def yX7_apart : MethodName := ⟨RX7, "apart", "(II)I"⟩
abbrev cX7_worth : ByteArray := prog_9_method_37_code
def yX7_worth : MethodName := ⟨RX7, "worth", "(II)I"⟩
abbrev cX7_next : ByteArray := prog_9_method_38_code
def yX7_next : MethodName := ⟨RX7, "next", "(I)I"⟩
abbrev cX7_goes : ByteArray := prog_9_method_39_code
def yX7_goes : MethodName := ⟨RX7, "goes", "(I)V"⟩
abbrev cX7_empty : ByteArray := prog_9_method_40_code
def yX7_empty : MethodName := ⟨RX7, "empty", "(I)I"⟩
abbrev cX7_nearest : ByteArray := prog_9_method_41_code
def yX7_nearest : MethodName := ⟨RX7, "nearest", "(I)I"⟩
abbrev cX7_chooses : ByteArray := prog_9_method_42_code
def yX7_chooses : MethodName := ⟨RX7, "chooses", "(I)I"⟩
abbrev cX7_servesBy : ByteArray := prog_9_method_43_code
def yX7_servesBy : MethodName := ⟨RX7, "servesBy", "(I)I"⟩
abbrev cX7_serve : ByteArray := prog_9_method_44_code
def yX7_serve : MethodName := ⟨RX7, "serve", "(I)I"⟩
abbrev cX7_whereOf : ByteArray := prog_9_method_45_code
def yX7_whereOf : MethodName := ⟨RX7, "whereOf", "(I)I"⟩
abbrev cX7_cartridgeOf : ByteArray := prog_9_method_46_code
def yX7_cartridgeOf : MethodName := ⟨RX7, "cartridgeOf", "(II)I"⟩
abbrev cX7_shelfOf : ByteArray := prog_9_method_47_code
def yX7_shelfOf : MethodName := ⟨RX7, "shelfOf", "(II)I"⟩
abbrev cX7_holder : ByteArray := prog_9_method_48_code
def yX7_holder : MethodName := ⟨RX7, "holder", "(I)I"⟩
abbrev cX7_requestOf : ByteArray := prog_9_method_49_code
def yX7_requestOf : MethodName := ⟨RX7, "requestOf", "(II)I"⟩
abbrev cX7_nextBy : ByteArray := prog_9_method_50_code
def yX7_nextBy : MethodName := ⟨RX7, "nextBy", "(I)I"⟩
abbrev cX7_would : ByteArray := prog_9_method_51_code
def yX7_would : MethodName := ⟨RX7, "would", "(II)I"⟩
abbrev cX7_wayTo : ByteArray := prog_9_method_52_code
def yX7_wayTo : MethodName := ⟨RX7, "wayTo", "(I)I"⟩
abbrev cX7_wholeBatch : ByteArray := prog_9_method_53_code
def yX7_wholeBatch : MethodName := ⟨RX7, "wholeBatch", "(II)I"⟩
abbrev cX7_worn : ByteArray := prog_9_method_54_code
def yX7_worn : MethodName := ⟨RX7, "worn", "()I"⟩
abbrev cX7_count : ByteArray := prog_9_method_55_code
def yX7_count : MethodName := ⟨RX7, "count", "(I)I"⟩
abbrev cX7_undo : ByteArray := prog_9_method_56_code
def yX7_undo : MethodName := ⟨RX7, "undo", "()I"⟩
abbrev cX7_type : ByteArray := prog_9_method_57_code
def yX7_type : MethodName := ⟨RX7, "type", "(I)I"⟩
abbrev cX7_clearText : ByteArray := prog_9_method_58_code
def yX7_clearText : MethodName := ⟨RX7, "clearText", "()I"⟩
abbrev cX7_sign : ByteArray := prog_9_method_59_code
def yX7_sign : MethodName := ⟨RX7, "sign", "()I"⟩
abbrev cX7_isWord : ByteArray := prog_9_method_60_code
def yX7_isWord : MethodName := ⟨RX7, "isWord", "(ICCCCC)Z"⟩
abbrev cX7_wordFrom : ByteArray := prog_9_method_61_code
def yX7_wordFrom : MethodName := ⟨RX7, "wordFrom", "(I)I"⟩
abbrev cX7_reads : ByteArray := prog_9_method_62_code
def yX7_reads : MethodName := ⟨RX7, "reads", "()I"⟩
abbrev cX7_does : ByteArray := prog_9_method_63_code
def yX7_does : MethodName := ⟨RX7, "does", "()I"⟩
abbrev cX7_doesNext : ByteArray := prog_9_method_64_code
def yX7_doesNext : MethodName := ⟨RX7, "doesNext", "()I"⟩
abbrev cX7_faulty : ByteArray := prog_9_method_65_code
def yX7_faulty : MethodName := ⟨RX7, "faulty", "()I"⟩
abbrev cX7_fault : ByteArray := prog_9_method_66_code
def yX7_fault : MethodName := ⟨RX7, "fault", "(I)I"⟩
abbrev cX7_play : ByteArray := prog_9_method_67_code
def yX7_play : MethodName := ⟨RX7, "play", "()I"⟩
def RJx145de : String := "java/io/Serializable"
def TJx145de : u_T := fun k => match k with
  | _ => ("", "", "", false)
def tyJx145de : Nat → FieldType := fun k => match k with
  | _ => .int
abbrev wsJx145de0 : List Cond := u_ws RJx145de TJx145de 0
theorem nmJx145de : ∀ a, a < 0 → ∀ b, b < 0 → a ≠ b → (TJx145de a).2.1 ≠ (TJx145de b).2.1 := by decide +kernel
theorem tyJx145de_ok : ∀ k, k < 0 → parseFieldDescriptor (TJx145de k).2.2.1 = some (tyJx145de k) := by decide +kernel
def RJx9f9b0 : String := "java/lang/CharSequence"
def TJx9f9b0 : u_T := fun k => match k with
  | _ => ("", "", "", false)
def tyJx9f9b0 : Nat → FieldType := fun k => match k with
  | _ => .int
abbrev wsJx9f9b00 : List Cond := u_ws RJx9f9b0 TJx9f9b0 0
theorem nmJx9f9b0 : ∀ a, a < 0 → ∀ b, b < 0 → a ≠ b → (TJx9f9b0 a).2.1 ≠ (TJx9f9b0 b).2.1 := by decide +kernel
theorem tyJx9f9b0_ok : ∀ k, k < 0 → parseFieldDescriptor (TJx9f9b0 k).2.2.1 = some (tyJx9f9b0 k) := by decide +kernel
def RJxb160c : String := "java/lang/Comparable"
def TJxb160c : u_T := fun k => match k with
  | _ => ("", "", "", false)
def tyJxb160c : Nat → FieldType := fun k => match k with
  | _ => .int
abbrev wsJxb160c0 : List Cond := u_ws RJxb160c TJxb160c 0
theorem nmJxb160c : ∀ a, a < 0 → ∀ b, b < 0 → a ≠ b → (TJxb160c a).2.1 ≠ (TJxb160c b).2.1 := by decide +kernel
theorem tyJxb160c_ok : ∀ k, k < 0 → parseFieldDescriptor (TJxb160c k).2.2.1 = some (tyJxb160c k) := by decide +kernel
def RJ9 : String := "java/lang/Math"
def TJ9 : u_T := fun k => match k with
  | _ => ("", "", "", false)
def tyJ9 : Nat → FieldType := fun k => match k with
  | _ => .int
abbrev wsJ90 : List Cond := u_ws RJ9 TJ9 0
theorem nmJ9 : ∀ a, a < 0 → ∀ b, b < 0 → a ≠ b → (TJ9 a).2.1 ≠ (TJ9 b).2.1 := by decide +kernel
theorem tyJ9_ok : ∀ k, k < 0 → parseFieldDescriptor (TJ9 k).2.2.1 = some (tyJ9 k) := by decide +kernel
abbrev cJ9_abs_0f7a4 : ByteArray := prog_10_method_59_code
def yJ9_abs_0f7a4 : MethodName := ⟨RJ9, "abs", "(I)I"⟩
abbrev cJ9_min_7cf53 : ByteArray := prog_10_method_69_code
def yJ9_min_7cf53 : MethodName := ⟨RJ9, "min", "(II)I"⟩
def RJ0 : String := "java/lang/String"
def TJ0 : u_T := fun k => match k with
  | _ => ("", "", "", false)
def tyJ0 : Nat → FieldType := fun k => match k with
  | _ => .int
abbrev wsJ00 : List Cond := u_ws RJ0 TJ0 0
theorem nmJ0 : ∀ a, a < 0 → ∀ b, b < 0 → a ≠ b → (TJ0 a).2.1 ≠ (TJ0 b).2.1 := by decide +kernel
theorem tyJ0_ok : ∀ k, k < 0 → parseFieldDescriptor (TJ0 k).2.2.1 = some (tyJ0 k) := by decide +kernel
abbrev cJ0_length_8abf5 : ByteArray := prog_11_method_54_code
def yJ0_length_8abf5 : MethodName := ⟨RJ0, "length", "()I"⟩
abbrev cJ0_charAt_5068e : ByteArray := prog_11_method_56_code
def yJ0_charAt_5068e : MethodName := ⟨RJ0, "charAt", "(I)C"⟩
abbrev cJ0_coder_7d493 : ByteArray := prog_11_method_152_code
def yJ0_coder_7d493 : MethodName := ⟨RJ0, "coder", "()B"⟩
abbrev cJ0_isLatin1_aae02 : ByteArray := prog_11_method_154_code
def yJ0_isLatin1_aae02 : MethodName := ⟨RJ0, "isLatin1", "()Z"⟩
abbrev cJ0_checkIndex_df160 : ByteArray := prog_11_method_155_code
def yJ0_checkIndex_df160 : MethodName := ⟨RJ0, "checkIndex", "(II)V"⟩
def RJ1 : String := "java/lang/StringLatin1"
def TJ1 : u_T := fun k => match k with
  | _ => ("", "", "", false)
def tyJ1 : Nat → FieldType := fun k => match k with
  | _ => .int
abbrev wsJ10 : List Cond := u_ws RJ1 TJ1 0
theorem nmJ1 : ∀ a, a < 0 → ∀ b, b < 0 → a ≠ b → (TJ1 a).2.1 ≠ (TJ1 b).2.1 := by decide +kernel
theorem tyJ1_ok : ∀ k, k < 0 → parseFieldDescriptor (TJ1 k).2.2.1 = some (tyJ1 k) := by decide +kernel
abbrev cJ1_charAt_3b067 : ByteArray := prog_12_method_2_code
def yJ1_charAt_3b067 : MethodName := ⟨RJ1, "charAt", "([BI)C"⟩
def RJ2 : String := "java/lang/StringUTF16"
def TJ2 : u_T := fun k => match k with
  | _ => ("", "", "", false)
def tyJ2 : Nat → FieldType := fun k => match k with
  | _ => .int
abbrev wsJ20 : List Cond := u_ws RJ2 TJ2 0
theorem nmJ2 : ∀ a, a < 0 → ∀ b, b < 0 → a ≠ b → (TJ2 a).2.1 ≠ (TJ2 b).2.1 := by decide +kernel
theorem tyJ2_ok : ∀ k, k < 0 → parseFieldDescriptor (TJ2 k).2.2.1 = some (tyJ2 k) := by decide +kernel
abbrev cJ2_getChar_3b067 : ByteArray := prog_13_method_5_code
def yJ2_getChar_3b067 : MethodName := ⟨RJ2, "getChar", "([BI)C"⟩
abbrev cJ2_length_9d52b : ByteArray := prog_13_method_6_code
def yJ2_length_9d52b : MethodName := ⟨RJ2, "length", "([B)I"⟩
abbrev cJ2_charAt_3b067 : ByteArray := prog_13_method_83_code
def yJ2_charAt_3b067 : MethodName := ⟨RJ2, "charAt", "([BI)C"⟩
abbrev cJ2_checkIndex_2214a : ByteArray := prog_13_method_91_code
def yJ2_checkIndex_2214a : MethodName := ⟨RJ2, "checkIndex", "(I[B)V"⟩
def RJ10 : String := "java/lang/System"
def TJ10 : u_T := fun k => match k with
  | _ => ("", "", "", false)
def tyJ10 : Nat → FieldType := fun k => match k with
  | _ => .int
abbrev wsJ100 : List Cond := u_ws RJ10 TJ10 0
theorem nmJ10 : ∀ a, a < 0 → ∀ b, b < 0 → a ≠ b → (TJ10 a).2.1 ≠ (TJ10 b).2.1 := by decide +kernel
theorem tyJ10_ok : ∀ k, k < 0 → parseFieldDescriptor (TJ10 k).2.2.1 = some (tyJ10 k) := by decide +kernel
def RJxfd54e : String := "java/lang/constant/Constable"
def TJxfd54e : u_T := fun k => match k with
  | _ => ("", "", "", false)
def tyJxfd54e : Nat → FieldType := fun k => match k with
  | _ => .int
abbrev wsJxfd54e0 : List Cond := u_ws RJxfd54e TJxfd54e 0
theorem nmJxfd54e : ∀ a, a < 0 → ∀ b, b < 0 → a ≠ b → (TJxfd54e a).2.1 ≠ (TJxfd54e b).2.1 := by decide +kernel
theorem tyJxfd54e_ok : ∀ k, k < 0 → parseFieldDescriptor (TJxfd54e k).2.2.1 = some (tyJxfd54e k) := by decide +kernel
def RJx3cf43 : String := "java/lang/constant/ConstantDesc"
def TJx3cf43 : u_T := fun k => match k with
  | _ => ("", "", "", false)
def tyJx3cf43 : Nat → FieldType := fun k => match k with
  | _ => .int
abbrev wsJx3cf430 : List Cond := u_ws RJx3cf43 TJx3cf43 0
theorem nmJx3cf43 : ∀ a, a < 0 → ∀ b, b < 0 → a ≠ b → (TJx3cf43 a).2.1 ≠ (TJx3cf43 b).2.1 := by decide +kernel
theorem tyJx3cf43_ok : ∀ k, k < 0 → parseFieldDescriptor (TJx3cf43 k).2.2.1 = some (tyJx3cf43 k) := by decide +kernel
def RJ7 : String := "java/util/Arrays"
def TJ7 : u_T := fun k => match k with
  | _ => ("", "", "", false)
def tyJ7 : Nat → FieldType := fun k => match k with
  | _ => .int
abbrev wsJ70 : List Cond := u_ws RJ7 TJ7 0
theorem nmJ7 : ∀ a, a < 0 → ∀ b, b < 0 → a ≠ b → (TJ7 a).2.1 ≠ (TJ7 b).2.1 := by decide +kernel
theorem tyJ7_ok : ∀ k, k < 0 → parseFieldDescriptor (TJ7 k).2.2.1 = some (tyJ7 k) := by decide +kernel
abbrev cJ7_fill_53178 : ByteArray := prog_15_method_103_code
def yJ7_fill_53178 : MethodName := ⟨RJ7, "fill", "([II)V"⟩
def RJ3 : String := "jdk/internal/util/Preconditions"
def TJ3 : u_T := fun k => match k with
  | _ => ("", "", "", false)
def tyJ3 : Nat → FieldType := fun k => match k with
  | _ => .int
abbrev wsJ30 : List Cond := u_ws RJ3 TJ3 0
theorem nmJ3 : ∀ a, a < 0 → ∀ b, b < 0 → a ≠ b → (TJ3 a).2.1 ≠ (TJ3 b).2.1 := by decide +kernel
theorem tyJ3_ok : ∀ k, k < 0 → parseFieldDescriptor (TJ3 k).2.2.1 = some (tyJ3 k) := by decide +kernel
abbrev cJ3_checkIndex_8e157 : ByteArray := prog_16_method_11_code
def yJ3_checkIndex_8e157 : MethodName := ⟨RJ3, "checkIndex", "(IILjava/util/function/BiFunction;)I"⟩
def RL : String := "MastRobotsLaw"
abbrev cL_law : ByteArray := code
def yL_law : MethodName := ⟨RL, "law", "([I)Z"⟩
abbrev vwCl : List vw_C := [(RX0, TX0, 7), (RX1, TX1, 3), (RX2, TX2, 10), (RX3, TX3, 9), (RX4, TX4, 4), (RX6, TX6, 4), (RX7, TX7, 14)]
/-! ===== END printed ===== -/
end
section
-- printed decode rows
theorem dX0_init_0 : decode cX0_init 0 = .ok (.aload_n 0, 1) := by decide +kernel
theorem dX0_init_1 : decode cX0_init 1 = .ok (.invokespecial 3, 3) := by decide +kernel
theorem dX0_init_4 : decode cX0_init 4 = .ok (.aload_n 0, 1) := by decide +kernel
theorem dX0_init_5 : decode cX0_init 5 = .ok (.bipush 30, 2) := by decide +kernel
theorem dX0_init_7 : decode cX0_init 7 = .ok (.newarray .int, 2) := by decide +kernel
theorem dX0_init_9 : decode cX0_init 9 = .ok (.putfield 9, 3) := by decide +kernel
theorem dX0_init_12 : decode cX0_init 12 = .ok (.aload_n 0, 1) := by decide +kernel
theorem dX0_init_13 : decode cX0_init 13 = .ok (.bipush 30, 2) := by decide +kernel
theorem dX0_init_15 : decode cX0_init 15 = .ok (.newarray .int, 2) := by decide +kernel
theorem dX0_init_17 : decode cX0_init 17 = .ok (.putfield 15, 3) := by decide +kernel
theorem dX0_init_20 : decode cX0_init 20 = .ok (.aload_n 0, 1) := by decide +kernel
theorem dX0_init_21 : decode cX0_init 21 = .ok (.bipush 30, 2) := by decide +kernel
theorem dX0_init_23 : decode cX0_init 23 = .ok (.newarray .int, 2) := by decide +kernel
theorem dX0_init_25 : decode cX0_init 25 = .ok (.putfield 18, 3) := by decide +kernel
theorem dX0_init_28 : decode cX0_init 28 = .ok (.aload_n 0, 1) := by decide +kernel
theorem dX0_init_29 : decode cX0_init 29 = .ok (.bipush 30, 2) := by decide +kernel
theorem dX0_init_31 : decode cX0_init 31 = .ok (.newarray .int, 2) := by decide +kernel
theorem dX0_init_33 : decode cX0_init 33 = .ok (.putfield 21, 3) := by decide +kernel
theorem dX0_init_36 : decode cX0_init 36 = .ok (.aload_n 0, 1) := by decide +kernel
theorem dX0_init_37 : decode cX0_init 37 = .ok (.bipush 37, 2) := by decide +kernel
theorem dX0_init_39 : decode cX0_init 39 = .ok (.newarray .int, 2) := by decide +kernel
theorem dX0_init_41 : decode cX0_init 41 = .ok (.putfield 24, 3) := by decide +kernel
theorem dX0_init_44 : decode cX0_init 44 = .ok (.aload_n 0, 1) := by decide +kernel
theorem dX0_init_45 : decode cX0_init 45 = .ok (.bipush 60, 2) := by decide +kernel
theorem dX0_init_47 : decode cX0_init 47 = .ok (.newarray .int, 2) := by decide +kernel
theorem dX0_init_49 : decode cX0_init 49 = .ok (.putfield 27, 3) := by decide +kernel
theorem dX0_init_52 : decode cX0_init 52 = .ok (.aload_n 0, 1) := by decide +kernel
theorem dX0_init_53 : decode cX0_init 53 = .ok (.getfield 24, 3) := by decide +kernel
theorem dX0_init_56 : decode cX0_init 56 = .ok (.iconst (-1), 1) := by decide +kernel
theorem dX0_init_57 : decode cX0_init 57 = .ok (.invokestatic 30, 3) := by decide +kernel
theorem dX0_init_60 : decode cX0_init 60 = .ok (.aload_n 0, 1) := by decide +kernel
theorem dX0_init_61 : decode cX0_init 61 = .ok (.getfield 27, 3) := by decide +kernel
theorem dX0_init_64 : decode cX0_init 64 = .ok (.iconst (-1), 1) := by decide +kernel
theorem dX0_init_65 : decode cX0_init 65 = .ok (.invokestatic 30, 3) := by decide +kernel
theorem dX0_init_68 : decode cX0_init 68 = .ok (.return_, 1) := by decide +kernel
theorem dX0_copyFrom_0 : decode cX0_copyFrom 0 = .ok (.aload_n 1, 1) := by decide +kernel
theorem dX0_copyFrom_1 : decode cX0_copyFrom 1 = .ok (.getfield 9, 3) := by decide +kernel
theorem dX0_copyFrom_4 : decode cX0_copyFrom 4 = .ok (.aload_n 0, 1) := by decide +kernel
theorem dX0_copyFrom_5 : decode cX0_copyFrom 5 = .ok (.getfield 9, 3) := by decide +kernel
theorem dX0_copyFrom_8 : decode cX0_copyFrom 8 = .ok (.invokestatic 36, 3) := by decide +kernel
theorem dX0_copyFrom_11 : decode cX0_copyFrom 11 = .ok (.aload_n 1, 1) := by decide +kernel
theorem dX0_copyFrom_12 : decode cX0_copyFrom 12 = .ok (.getfield 15, 3) := by decide +kernel
theorem dX0_copyFrom_15 : decode cX0_copyFrom 15 = .ok (.aload_n 0, 1) := by decide +kernel
theorem dX0_copyFrom_16 : decode cX0_copyFrom 16 = .ok (.getfield 15, 3) := by decide +kernel
theorem dX0_copyFrom_19 : decode cX0_copyFrom 19 = .ok (.invokestatic 36, 3) := by decide +kernel
theorem dX0_copyFrom_22 : decode cX0_copyFrom 22 = .ok (.aload_n 1, 1) := by decide +kernel
theorem dX0_copyFrom_23 : decode cX0_copyFrom 23 = .ok (.getfield 18, 3) := by decide +kernel
theorem dX0_copyFrom_26 : decode cX0_copyFrom 26 = .ok (.aload_n 0, 1) := by decide +kernel
theorem dX0_copyFrom_27 : decode cX0_copyFrom 27 = .ok (.getfield 18, 3) := by decide +kernel
theorem dX0_copyFrom_30 : decode cX0_copyFrom 30 = .ok (.invokestatic 36, 3) := by decide +kernel
theorem dX0_copyFrom_33 : decode cX0_copyFrom 33 = .ok (.aload_n 1, 1) := by decide +kernel
theorem dX0_copyFrom_34 : decode cX0_copyFrom 34 = .ok (.getfield 21, 3) := by decide +kernel
theorem dX0_copyFrom_37 : decode cX0_copyFrom 37 = .ok (.aload_n 0, 1) := by decide +kernel
theorem dX0_copyFrom_38 : decode cX0_copyFrom 38 = .ok (.getfield 21, 3) := by decide +kernel
theorem dX0_copyFrom_41 : decode cX0_copyFrom 41 = .ok (.invokestatic 36, 3) := by decide +kernel
theorem dX0_copyFrom_44 : decode cX0_copyFrom 44 = .ok (.aload_n 1, 1) := by decide +kernel
theorem dX0_copyFrom_45 : decode cX0_copyFrom 45 = .ok (.getfield 24, 3) := by decide +kernel
theorem dX0_copyFrom_48 : decode cX0_copyFrom 48 = .ok (.aload_n 0, 1) := by decide +kernel
theorem dX0_copyFrom_49 : decode cX0_copyFrom 49 = .ok (.getfield 24, 3) := by decide +kernel
theorem dX0_copyFrom_52 : decode cX0_copyFrom 52 = .ok (.invokestatic 36, 3) := by decide +kernel
theorem dX0_copyFrom_55 : decode cX0_copyFrom 55 = .ok (.aload_n 1, 1) := by decide +kernel
theorem dX0_copyFrom_56 : decode cX0_copyFrom 56 = .ok (.getfield 27, 3) := by decide +kernel
theorem dX0_copyFrom_59 : decode cX0_copyFrom 59 = .ok (.aload_n 0, 1) := by decide +kernel
theorem dX0_copyFrom_60 : decode cX0_copyFrom 60 = .ok (.getfield 27, 3) := by decide +kernel
theorem dX0_copyFrom_63 : decode cX0_copyFrom 63 = .ok (.invokestatic 36, 3) := by decide +kernel
theorem dX0_copyFrom_66 : decode cX0_copyFrom 66 = .ok (.aload_n 0, 1) := by decide +kernel
theorem dX0_copyFrom_67 : decode cX0_copyFrom 67 = .ok (.aload_n 1, 1) := by decide +kernel
theorem dX0_copyFrom_68 : decode cX0_copyFrom 68 = .ok (.getfield 42, 3) := by decide +kernel
theorem dX0_copyFrom_71 : decode cX0_copyFrom 71 = .ok (.putfield 42, 3) := by decide +kernel
theorem dX0_copyFrom_74 : decode cX0_copyFrom 74 = .ok (.return_, 1) := by decide +kernel
theorem dX0_has_0 : decode cX0_has 0 = .ok (.iload_n 1, 1) := by decide +kernel
theorem dX0_has_1 : decode cX0_has 1 = .ok (.iconst 0, 1) := by decide +kernel
theorem dX0_has_2 : decode cX0_has 2 = .ok (.aload_n 0, 1) := by decide +kernel
theorem dX0_has_3 : decode cX0_has 3 = .ok (.getfield 42, 3) := by decide +kernel
theorem dX0_has_6 : decode cX0_has 6 = .ok (.iconst 1, 1) := by decide +kernel
theorem dX0_has_7 : decode cX0_has 7 = .ok (.isub, 1) := by decide +kernel
theorem dX0_has_8 : decode cX0_has 8 = .ok (.invokestatic 46, 3) := by decide +kernel
theorem dX0_has_11 : decode cX0_has 11 = .ok (.ireturn, 1) := by decide +kernel
theorem dX0_add_0 : decode cX0_add 0 = .ok (.aload_n 0, 1) := by decide +kernel
theorem dX0_add_1 : decode cX0_add 1 = .ok (.getfield 42, 3) := by decide +kernel
theorem dX0_add_4 : decode cX0_add 4 = .ok (.istore_n 3, 1) := by decide +kernel
theorem dX0_add_5 : decode cX0_add 5 = .ok (.iload_n 3, 1) := by decide +kernel
theorem dX0_add_6 : decode cX0_add 6 = .ok (.ifCond .lt 9, 3) := by decide +kernel
theorem dX0_add_9 : decode cX0_add 9 = .ok (.iload_n 3, 1) := by decide +kernel
theorem dX0_add_10 : decode cX0_add 10 = .ok (.bipush 30, 2) := by decide +kernel
theorem dX0_add_12 : decode cX0_add 12 = .ok (.if_icmp .lt 6, 3) := by decide +kernel
theorem dX0_add_15 : decode cX0_add 15 = .ok (.ldc 50, 2) := by decide +kernel
theorem dX0_add_17 : decode cX0_add 17 = .ok (.ireturn, 1) := by decide +kernel
theorem dX0_add_18 : decode cX0_add 18 = .ok (.aload_n 0, 1) := by decide +kernel
theorem dX0_add_19 : decode cX0_add 19 = .ok (.dup, 1) := by decide +kernel
theorem dX0_add_20 : decode cX0_add 20 = .ok (.getfield 42, 3) := by decide +kernel
theorem dX0_add_23 : decode cX0_add 23 = .ok (.iconst 1, 1) := by decide +kernel
theorem dX0_add_24 : decode cX0_add 24 = .ok (.iadd, 1) := by decide +kernel
theorem dX0_add_25 : decode cX0_add 25 = .ok (.putfield 42, 3) := by decide +kernel
theorem dX0_add_28 : decode cX0_add 28 = .ok (.aload_n 0, 1) := by decide +kernel
theorem dX0_add_29 : decode cX0_add 29 = .ok (.getfield 9, 3) := by decide +kernel
theorem dX0_add_32 : decode cX0_add 32 = .ok (.iload_n 3, 1) := by decide +kernel
theorem dX0_add_33 : decode cX0_add 33 = .ok (.iload_n 1, 1) := by decide +kernel
theorem dX0_add_34 : decode cX0_add 34 = .ok (.iastore, 1) := by decide +kernel
theorem dX0_add_35 : decode cX0_add 35 = .ok (.aload_n 0, 1) := by decide +kernel
theorem dX0_add_36 : decode cX0_add 36 = .ok (.getfield 15, 3) := by decide +kernel
theorem dX0_add_39 : decode cX0_add 39 = .ok (.iload_n 3, 1) := by decide +kernel
theorem dX0_add_40 : decode cX0_add 40 = .ok (.iconst 0, 1) := by decide +kernel
theorem dX0_add_41 : decode cX0_add 41 = .ok (.iastore, 1) := by decide +kernel
theorem dX0_add_42 : decode cX0_add 42 = .ok (.aload_n 0, 1) := by decide +kernel
theorem dX0_add_43 : decode cX0_add 43 = .ok (.getfield 18, 3) := by decide +kernel
theorem dX0_add_46 : decode cX0_add 46 = .ok (.iload_n 3, 1) := by decide +kernel
theorem dX0_add_47 : decode cX0_add 47 = .ok (.iconst 0, 1) := by decide +kernel
theorem dX0_add_48 : decode cX0_add 48 = .ok (.iastore, 1) := by decide +kernel
theorem dX0_add_49 : decode cX0_add 49 = .ok (.aload_n 0, 1) := by decide +kernel
theorem dX0_add_50 : decode cX0_add 50 = .ok (.getfield 21, 3) := by decide +kernel
theorem dX0_add_53 : decode cX0_add 53 = .ok (.iload_n 3, 1) := by decide +kernel
theorem dX0_add_54 : decode cX0_add 54 = .ok (.iconst (-1), 1) := by decide +kernel
theorem dX0_add_55 : decode cX0_add 55 = .ok (.iastore, 1) := by decide +kernel
theorem dX0_add_56 : decode cX0_add 56 = .ok (.aload_n 0, 1) := by decide +kernel
theorem dX0_add_57 : decode cX0_add 57 = .ok (.iload_n 3, 1) := by decide +kernel
theorem dX0_add_58 : decode cX0_add 58 = .ok (.iload_n 2, 1) := by decide +kernel
theorem dX0_add_59 : decode cX0_add 59 = .ok (.invokevirtual 51, 3) := by decide +kernel
theorem dX0_add_62 : decode cX0_add 62 = .ok (.iload_n 3, 1) := by decide +kernel
theorem dX0_add_63 : decode cX0_add 63 = .ok (.ireturn, 1) := by decide +kernel
theorem dX0_moveTo_0 : decode cX0_moveTo 0 = .ok (.iload_n 1, 1) := by decide +kernel
theorem dX0_moveTo_1 : decode cX0_moveTo 1 = .ok (.ifCond .lt 12, 3) := by decide +kernel
theorem dX0_moveTo_4 : decode cX0_moveTo 4 = .ok (.iload_n 1, 1) := by decide +kernel
theorem dX0_moveTo_5 : decode cX0_moveTo 5 = .ok (.aload_n 0, 1) := by decide +kernel
theorem dX0_moveTo_6 : decode cX0_moveTo 6 = .ok (.getfield 21, 3) := by decide +kernel
theorem dX0_moveTo_9 : decode cX0_moveTo 9 = .ok (.arraylength, 1) := by decide +kernel
theorem dX0_moveTo_10 : decode cX0_moveTo 10 = .ok (.if_icmp .lt 4, 3) := by decide +kernel
theorem dX0_moveTo_13 : decode cX0_moveTo 13 = .ok (.return_, 1) := by decide +kernel
theorem dX0_moveTo_14 : decode cX0_moveTo 14 = .ok (.aload_n 0, 1) := by decide +kernel
theorem dX0_moveTo_15 : decode cX0_moveTo 15 = .ok (.getfield 21, 3) := by decide +kernel
theorem dX0_moveTo_18 : decode cX0_moveTo 18 = .ok (.iload_n 1, 1) := by decide +kernel
theorem dX0_moveTo_19 : decode cX0_moveTo 19 = .ok (.iaload, 1) := by decide +kernel
theorem dX0_moveTo_20 : decode cX0_moveTo 20 = .ok (.istore_n 3, 1) := by decide +kernel
theorem dX0_moveTo_21 : decode cX0_moveTo 21 = .ok (.iload_n 3, 1) := by decide +kernel
theorem dX0_moveTo_22 : decode cX0_moveTo 22 = .ok (.ifCond .lt 19, 3) := by decide +kernel
theorem dX0_moveTo_25 : decode cX0_moveTo 25 = .ok (.iload_n 3, 1) := by decide +kernel
theorem dX0_moveTo_26 : decode cX0_moveTo 26 = .ok (.aload_n 0, 1) := by decide +kernel
theorem dX0_moveTo_27 : decode cX0_moveTo 27 = .ok (.getfield 24, 3) := by decide +kernel
theorem dX0_moveTo_30 : decode cX0_moveTo 30 = .ok (.arraylength, 1) := by decide +kernel
theorem dX0_moveTo_31 : decode cX0_moveTo 31 = .ok (.if_icmp .ge 10, 3) := by decide +kernel
theorem dX0_moveTo_34 : decode cX0_moveTo 34 = .ok (.aload_n 0, 1) := by decide +kernel
theorem dX0_moveTo_35 : decode cX0_moveTo 35 = .ok (.getfield 24, 3) := by decide +kernel
theorem dX0_moveTo_38 : decode cX0_moveTo 38 = .ok (.iload_n 3, 1) := by decide +kernel
theorem dX0_moveTo_39 : decode cX0_moveTo 39 = .ok (.iconst (-1), 1) := by decide +kernel
theorem dX0_moveTo_40 : decode cX0_moveTo 40 = .ok (.iastore, 1) := by decide +kernel
theorem dX0_moveTo_41 : decode cX0_moveTo 41 = .ok (.aload_n 0, 1) := by decide +kernel
theorem dX0_moveTo_42 : decode cX0_moveTo 42 = .ok (.getfield 21, 3) := by decide +kernel
theorem dX0_moveTo_45 : decode cX0_moveTo 45 = .ok (.iload_n 1, 1) := by decide +kernel
theorem dX0_moveTo_46 : decode cX0_moveTo 46 = .ok (.iload_n 2, 1) := by decide +kernel
theorem dX0_moveTo_47 : decode cX0_moveTo 47 = .ok (.iastore, 1) := by decide +kernel
theorem dX0_moveTo_48 : decode cX0_moveTo 48 = .ok (.iload_n 2, 1) := by decide +kernel
theorem dX0_moveTo_49 : decode cX0_moveTo 49 = .ok (.ifCond .lt 19, 3) := by decide +kernel
theorem dX0_moveTo_52 : decode cX0_moveTo 52 = .ok (.iload_n 2, 1) := by decide +kernel
theorem dX0_moveTo_53 : decode cX0_moveTo 53 = .ok (.aload_n 0, 1) := by decide +kernel
theorem dX0_moveTo_54 : decode cX0_moveTo 54 = .ok (.getfield 24, 3) := by decide +kernel
theorem dX0_moveTo_57 : decode cX0_moveTo 57 = .ok (.arraylength, 1) := by decide +kernel
theorem dX0_moveTo_58 : decode cX0_moveTo 58 = .ok (.if_icmp .ge 10, 3) := by decide +kernel
theorem dX0_moveTo_61 : decode cX0_moveTo 61 = .ok (.aload_n 0, 1) := by decide +kernel
theorem dX0_moveTo_62 : decode cX0_moveTo 62 = .ok (.getfield 24, 3) := by decide +kernel
theorem dX0_moveTo_65 : decode cX0_moveTo 65 = .ok (.iload_n 2, 1) := by decide +kernel
theorem dX0_moveTo_66 : decode cX0_moveTo 66 = .ok (.iload_n 1, 1) := by decide +kernel
theorem dX0_moveTo_67 : decode cX0_moveTo 67 = .ok (.iastore, 1) := by decide +kernel
theorem dX0_moveTo_68 : decode cX0_moveTo 68 = .ok (.return_, 1) := by decide +kernel
theorem dX0_countMounting_0 : decode cX0_countMounting 0 = .ok (.iload_n 1, 1) := by decide +kernel
theorem dX0_countMounting_1 : decode cX0_countMounting 1 = .ok (.ifCond .lt 41, 3) := by decide +kernel
theorem dX0_countMounting_4 : decode cX0_countMounting 4 = .ok (.iload_n 1, 1) := by decide +kernel
theorem dX0_countMounting_5 : decode cX0_countMounting 5 = .ok (.aload_n 0, 1) := by decide +kernel
theorem dX0_countMounting_6 : decode cX0_countMounting 6 = .ok (.getfield 15, 3) := by decide +kernel
theorem dX0_countMounting_9 : decode cX0_countMounting 9 = .ok (.arraylength, 1) := by decide +kernel
theorem dX0_countMounting_10 : decode cX0_countMounting 10 = .ok (.if_icmp .ge 32, 3) := by decide +kernel
theorem dX0_countMounting_13 : decode cX0_countMounting 13 = .ok (.iload_n 1, 1) := by decide +kernel
theorem dX0_countMounting_14 : decode cX0_countMounting 14 = .ok (.aload_n 0, 1) := by decide +kernel
theorem dX0_countMounting_15 : decode cX0_countMounting 15 = .ok (.getfield 18, 3) := by decide +kernel
theorem dX0_countMounting_18 : decode cX0_countMounting 18 = .ok (.arraylength, 1) := by decide +kernel
theorem dX0_countMounting_19 : decode cX0_countMounting 19 = .ok (.if_icmp .ge 23, 3) := by decide +kernel
theorem dX0_countMounting_22 : decode cX0_countMounting 22 = .ok (.aload_n 0, 1) := by decide +kernel
theorem dX0_countMounting_23 : decode cX0_countMounting 23 = .ok (.getfield 15, 3) := by decide +kernel
theorem dX0_countMounting_26 : decode cX0_countMounting 26 = .ok (.iload_n 1, 1) := by decide +kernel
theorem dX0_countMounting_27 : decode cX0_countMounting 27 = .ok (.dup2, 1) := by decide +kernel
theorem dX0_countMounting_28 : decode cX0_countMounting 28 = .ok (.iaload, 1) := by decide +kernel
theorem dX0_countMounting_29 : decode cX0_countMounting 29 = .ok (.iconst 1, 1) := by decide +kernel
theorem dX0_countMounting_30 : decode cX0_countMounting 30 = .ok (.iadd, 1) := by decide +kernel
theorem dX0_countMounting_31 : decode cX0_countMounting 31 = .ok (.iastore, 1) := by decide +kernel
theorem dX0_countMounting_32 : decode cX0_countMounting 32 = .ok (.aload_n 0, 1) := by decide +kernel
theorem dX0_countMounting_33 : decode cX0_countMounting 33 = .ok (.getfield 18, 3) := by decide +kernel
theorem dX0_countMounting_36 : decode cX0_countMounting 36 = .ok (.iload_n 1, 1) := by decide +kernel
theorem dX0_countMounting_37 : decode cX0_countMounting 37 = .ok (.dup2, 1) := by decide +kernel
theorem dX0_countMounting_38 : decode cX0_countMounting 38 = .ok (.iaload, 1) := by decide +kernel
theorem dX0_countMounting_39 : decode cX0_countMounting 39 = .ok (.iload_n 2, 1) := by decide +kernel
theorem dX0_countMounting_40 : decode cX0_countMounting 40 = .ok (.iadd, 1) := by decide +kernel
theorem dX0_countMounting_41 : decode cX0_countMounting 41 = .ok (.iastore, 1) := by decide +kernel
theorem dX0_countMounting_42 : decode cX0_countMounting 42 = .ok (.return_, 1) := by decide +kernel
theorem dX0_putFile_0 : decode cX0_putFile 0 = .ok (.iload_n 2, 1) := by decide +kernel
theorem dX0_putFile_1 : decode cX0_putFile 1 = .ok (.ifCond .lt 19, 3) := by decide +kernel
theorem dX0_putFile_4 : decode cX0_putFile 4 = .ok (.iload_n 2, 1) := by decide +kernel
theorem dX0_putFile_5 : decode cX0_putFile 5 = .ok (.aload_n 0, 1) := by decide +kernel
theorem dX0_putFile_6 : decode cX0_putFile 6 = .ok (.getfield 27, 3) := by decide +kernel
theorem dX0_putFile_9 : decode cX0_putFile 9 = .ok (.arraylength, 1) := by decide +kernel
theorem dX0_putFile_10 : decode cX0_putFile 10 = .ok (.if_icmp .ge 10, 3) := by decide +kernel
theorem dX0_putFile_13 : decode cX0_putFile 13 = .ok (.aload_n 0, 1) := by decide +kernel
theorem dX0_putFile_14 : decode cX0_putFile 14 = .ok (.getfield 27, 3) := by decide +kernel
theorem dX0_putFile_17 : decode cX0_putFile 17 = .ok (.iload_n 2, 1) := by decide +kernel
theorem dX0_putFile_18 : decode cX0_putFile 18 = .ok (.iload_n 1, 1) := by decide +kernel
theorem dX0_putFile_19 : decode cX0_putFile 19 = .ok (.iastore, 1) := by decide +kernel
theorem dX0_putFile_20 : decode cX0_putFile 20 = .ok (.return_, 1) := by decide +kernel
theorem dX0_weightOf_0 : decode cX0_weightOf 0 = .ok (.iload_n 1, 1) := by decide +kernel
theorem dX0_weightOf_1 : decode cX0_weightOf 1 = .ok (.ifCond .lt 21, 3) := by decide +kernel
theorem dX0_weightOf_4 : decode cX0_weightOf 4 = .ok (.iload_n 1, 1) := by decide +kernel
theorem dX0_weightOf_5 : decode cX0_weightOf 5 = .ok (.aload_n 0, 1) := by decide +kernel
theorem dX0_weightOf_6 : decode cX0_weightOf 6 = .ok (.getfield 9, 3) := by decide +kernel
theorem dX0_weightOf_9 : decode cX0_weightOf 9 = .ok (.arraylength, 1) := by decide +kernel
theorem dX0_weightOf_10 : decode cX0_weightOf 10 = .ok (.if_icmp .ge 12, 3) := by decide +kernel
theorem dX0_weightOf_13 : decode cX0_weightOf 13 = .ok (.aload_n 0, 1) := by decide +kernel
theorem dX0_weightOf_14 : decode cX0_weightOf 14 = .ok (.getfield 9, 3) := by decide +kernel
theorem dX0_weightOf_17 : decode cX0_weightOf 17 = .ok (.iload_n 1, 1) := by decide +kernel
theorem dX0_weightOf_18 : decode cX0_weightOf 18 = .ok (.iaload, 1) := by decide +kernel
theorem dX0_weightOf_19 : decode cX0_weightOf 19 = .ok (.goto 4, 3) := by decide +kernel
theorem dX0_weightOf_22 : decode cX0_weightOf 22 = .ok (.iconst 0, 1) := by decide +kernel
theorem dX0_weightOf_23 : decode cX0_weightOf 23 = .ok (.ireturn, 1) := by decide +kernel
theorem dX0_wearOf_0 : decode cX0_wearOf 0 = .ok (.iload_n 1, 1) := by decide +kernel
theorem dX0_wearOf_1 : decode cX0_wearOf 1 = .ok (.ifCond .lt 21, 3) := by decide +kernel
theorem dX0_wearOf_4 : decode cX0_wearOf 4 = .ok (.iload_n 1, 1) := by decide +kernel
theorem dX0_wearOf_5 : decode cX0_wearOf 5 = .ok (.aload_n 0, 1) := by decide +kernel
theorem dX0_wearOf_6 : decode cX0_wearOf 6 = .ok (.getfield 15, 3) := by decide +kernel
theorem dX0_wearOf_9 : decode cX0_wearOf 9 = .ok (.arraylength, 1) := by decide +kernel
theorem dX0_wearOf_10 : decode cX0_wearOf 10 = .ok (.if_icmp .ge 12, 3) := by decide +kernel
theorem dX0_wearOf_13 : decode cX0_wearOf 13 = .ok (.aload_n 0, 1) := by decide +kernel
theorem dX0_wearOf_14 : decode cX0_wearOf 14 = .ok (.getfield 15, 3) := by decide +kernel
theorem dX0_wearOf_17 : decode cX0_wearOf 17 = .ok (.iload_n 1, 1) := by decide +kernel
theorem dX0_wearOf_18 : decode cX0_wearOf 18 = .ok (.iaload, 1) := by decide +kernel
theorem dX0_wearOf_19 : decode cX0_wearOf 19 = .ok (.goto 4, 3) := by decide +kernel
theorem dX0_wearOf_22 : decode cX0_wearOf 22 = .ok (.iconst 0, 1) := by decide +kernel
theorem dX0_wearOf_23 : decode cX0_wearOf 23 = .ok (.ireturn, 1) := by decide +kernel
theorem dX0_servedBy_0 : decode cX0_servedBy 0 = .ok (.iload_n 1, 1) := by decide +kernel
theorem dX0_servedBy_1 : decode cX0_servedBy 1 = .ok (.ifCond .lt 21, 3) := by decide +kernel
theorem dX0_servedBy_4 : decode cX0_servedBy 4 = .ok (.iload_n 1, 1) := by decide +kernel
theorem dX0_servedBy_5 : decode cX0_servedBy 5 = .ok (.aload_n 0, 1) := by decide +kernel
theorem dX0_servedBy_6 : decode cX0_servedBy 6 = .ok (.getfield 18, 3) := by decide +kernel
theorem dX0_servedBy_9 : decode cX0_servedBy 9 = .ok (.arraylength, 1) := by decide +kernel
theorem dX0_servedBy_10 : decode cX0_servedBy 10 = .ok (.if_icmp .ge 12, 3) := by decide +kernel
theorem dX0_servedBy_13 : decode cX0_servedBy 13 = .ok (.aload_n 0, 1) := by decide +kernel
theorem dX0_servedBy_14 : decode cX0_servedBy 14 = .ok (.getfield 18, 3) := by decide +kernel
theorem dX0_servedBy_17 : decode cX0_servedBy 17 = .ok (.iload_n 1, 1) := by decide +kernel
theorem dX0_servedBy_18 : decode cX0_servedBy 18 = .ok (.iaload, 1) := by decide +kernel
theorem dX0_servedBy_19 : decode cX0_servedBy 19 = .ok (.goto 4, 3) := by decide +kernel
theorem dX0_servedBy_22 : decode cX0_servedBy 22 = .ok (.iconst 0, 1) := by decide +kernel
theorem dX0_servedBy_23 : decode cX0_servedBy 23 = .ok (.ireturn, 1) := by decide +kernel
theorem dX0_slotOf_0 : decode cX0_slotOf 0 = .ok (.iload_n 1, 1) := by decide +kernel
theorem dX0_slotOf_1 : decode cX0_slotOf 1 = .ok (.ifCond .lt 21, 3) := by decide +kernel
theorem dX0_slotOf_4 : decode cX0_slotOf 4 = .ok (.iload_n 1, 1) := by decide +kernel
theorem dX0_slotOf_5 : decode cX0_slotOf 5 = .ok (.aload_n 0, 1) := by decide +kernel
theorem dX0_slotOf_6 : decode cX0_slotOf 6 = .ok (.getfield 21, 3) := by decide +kernel
theorem dX0_slotOf_9 : decode cX0_slotOf 9 = .ok (.arraylength, 1) := by decide +kernel
theorem dX0_slotOf_10 : decode cX0_slotOf 10 = .ok (.if_icmp .ge 12, 3) := by decide +kernel
theorem dX0_slotOf_13 : decode cX0_slotOf 13 = .ok (.aload_n 0, 1) := by decide +kernel
theorem dX0_slotOf_14 : decode cX0_slotOf 14 = .ok (.getfield 21, 3) := by decide +kernel
theorem dX0_slotOf_17 : decode cX0_slotOf 17 = .ok (.iload_n 1, 1) := by decide +kernel
theorem dX0_slotOf_18 : decode cX0_slotOf 18 = .ok (.iaload, 1) := by decide +kernel
theorem dX0_slotOf_19 : decode cX0_slotOf 19 = .ok (.goto 4, 3) := by decide +kernel
theorem dX0_slotOf_22 : decode cX0_slotOf 22 = .ok (.iconst (-1), 1) := by decide +kernel
theorem dX0_slotOf_23 : decode cX0_slotOf 23 = .ok (.ireturn, 1) := by decide +kernel
theorem dX0_inSlot_0 : decode cX0_inSlot 0 = .ok (.iload_n 1, 1) := by decide +kernel
theorem dX0_inSlot_1 : decode cX0_inSlot 1 = .ok (.ifCond .lt 21, 3) := by decide +kernel
theorem dX0_inSlot_4 : decode cX0_inSlot 4 = .ok (.iload_n 1, 1) := by decide +kernel
theorem dX0_inSlot_5 : decode cX0_inSlot 5 = .ok (.aload_n 0, 1) := by decide +kernel
theorem dX0_inSlot_6 : decode cX0_inSlot 6 = .ok (.getfield 24, 3) := by decide +kernel
theorem dX0_inSlot_9 : decode cX0_inSlot 9 = .ok (.arraylength, 1) := by decide +kernel
theorem dX0_inSlot_10 : decode cX0_inSlot 10 = .ok (.if_icmp .ge 12, 3) := by decide +kernel
theorem dX0_inSlot_13 : decode cX0_inSlot 13 = .ok (.aload_n 0, 1) := by decide +kernel
theorem dX0_inSlot_14 : decode cX0_inSlot 14 = .ok (.getfield 24, 3) := by decide +kernel
theorem dX0_inSlot_17 : decode cX0_inSlot 17 = .ok (.iload_n 1, 1) := by decide +kernel
theorem dX0_inSlot_18 : decode cX0_inSlot 18 = .ok (.iaload, 1) := by decide +kernel
theorem dX0_inSlot_19 : decode cX0_inSlot 19 = .ok (.goto 4, 3) := by decide +kernel
theorem dX0_inSlot_22 : decode cX0_inSlot 22 = .ok (.iconst (-1), 1) := by decide +kernel
theorem dX0_inSlot_23 : decode cX0_inSlot 23 = .ok (.ireturn, 1) := by decide +kernel
theorem dX0_holderOf_0 : decode cX0_holderOf 0 = .ok (.iload_n 1, 1) := by decide +kernel
theorem dX0_holderOf_1 : decode cX0_holderOf 1 = .ok (.ifCond .lt 21, 3) := by decide +kernel
theorem dX0_holderOf_4 : decode cX0_holderOf 4 = .ok (.iload_n 1, 1) := by decide +kernel
theorem dX0_holderOf_5 : decode cX0_holderOf 5 = .ok (.aload_n 0, 1) := by decide +kernel
theorem dX0_holderOf_6 : decode cX0_holderOf 6 = .ok (.getfield 27, 3) := by decide +kernel
theorem dX0_holderOf_9 : decode cX0_holderOf 9 = .ok (.arraylength, 1) := by decide +kernel
theorem dX0_holderOf_10 : decode cX0_holderOf 10 = .ok (.if_icmp .ge 12, 3) := by decide +kernel
theorem dX0_holderOf_13 : decode cX0_holderOf 13 = .ok (.aload_n 0, 1) := by decide +kernel
theorem dX0_holderOf_14 : decode cX0_holderOf 14 = .ok (.getfield 27, 3) := by decide +kernel
theorem dX0_holderOf_17 : decode cX0_holderOf 17 = .ok (.iload_n 1, 1) := by decide +kernel
theorem dX0_holderOf_18 : decode cX0_holderOf 18 = .ok (.iaload, 1) := by decide +kernel
theorem dX0_holderOf_19 : decode cX0_holderOf 19 = .ok (.goto 4, 3) := by decide +kernel
theorem dX0_holderOf_22 : decode cX0_holderOf 22 = .ok (.iconst (-1), 1) := by decide +kernel
theorem dX0_holderOf_23 : decode cX0_holderOf 23 = .ok (.ireturn, 1) := by decide +kernel
theorem dX0_isWorn_0 : decode cX0_isWorn 0 = .ok (.aload_n 0, 1) := by decide +kernel
theorem dX0_isWorn_1 : decode cX0_isWorn 1 = .ok (.iload_n 1, 1) := by decide +kernel
theorem dX0_isWorn_2 : decode cX0_isWorn 2 = .ok (.invokevirtual 55, 3) := by decide +kernel
theorem dX0_isWorn_5 : decode cX0_isWorn 5 = .ok (.bipush 6, 2) := by decide +kernel
theorem dX0_isWorn_7 : decode cX0_isWorn 7 = .ok (.if_icmp .lt 7, 3) := by decide +kernel
theorem dX0_isWorn_10 : decode cX0_isWorn 10 = .ok (.iconst 1, 1) := by decide +kernel
theorem dX0_isWorn_11 : decode cX0_isWorn 11 = .ok (.goto 4, 3) := by decide +kernel
theorem dX0_isWorn_14 : decode cX0_isWorn 14 = .ok (.iconst 0, 1) := by decide +kernel
theorem dX0_isWorn_15 : decode cX0_isWorn 15 = .ok (.ireturn, 1) := by decide +kernel
theorem dX0_isOnShelf_0 : decode cX0_isOnShelf 0 = .ok (.aload_n 0, 1) := by decide +kernel
theorem dX0_isOnShelf_1 : decode cX0_isOnShelf 1 = .ok (.iload_n 1, 1) := by decide +kernel
theorem dX0_isOnShelf_2 : decode cX0_isOnShelf 2 = .ok (.invokevirtual 59, 3) := by decide +kernel
theorem dX0_isOnShelf_5 : decode cX0_isOnShelf 5 = .ok (.iconst 0, 1) := by decide +kernel
theorem dX0_isOnShelf_6 : decode cX0_isOnShelf 6 = .ok (.bipush 31, 2) := by decide +kernel
theorem dX0_isOnShelf_8 : decode cX0_isOnShelf 8 = .ok (.invokestatic 46, 3) := by decide +kernel
theorem dX0_isOnShelf_11 : decode cX0_isOnShelf 11 = .ok (.ireturn, 1) := by decide +kernel
theorem dX0_wallOf_0 : decode cX0_wallOf 0 = .ok (.aload_n 0, 1) := by decide +kernel
theorem dX0_wallOf_1 : decode cX0_wallOf 1 = .ok (.iload_n 1, 1) := by decide +kernel
theorem dX0_wallOf_2 : decode cX0_wallOf 2 = .ok (.invokevirtual 59, 3) := by decide +kernel
theorem dX0_wallOf_5 : decode cX0_wallOf 5 = .ok (.iconst 4, 1) := by decide +kernel
theorem dX0_wallOf_6 : decode cX0_wallOf 6 = .ok (.idiv, 1) := by decide +kernel
theorem dX0_wallOf_7 : decode cX0_wallOf 7 = .ok (.ireturn, 1) := by decide +kernel
theorem dX0_shelfOfWall_0 : decode cX0_shelfOfWall 0 = .ok (.aload_n 0, 1) := by decide +kernel
theorem dX0_shelfOfWall_1 : decode cX0_shelfOfWall 1 = .ok (.iload_n 1, 1) := by decide +kernel
theorem dX0_shelfOfWall_2 : decode cX0_shelfOfWall 2 = .ok (.invokevirtual 59, 3) := by decide +kernel
theorem dX0_shelfOfWall_5 : decode cX0_shelfOfWall 5 = .ok (.iconst 4, 1) := by decide +kernel
theorem dX0_shelfOfWall_6 : decode cX0_shelfOfWall 6 = .ok (.irem, 1) := by decide +kernel
theorem dX0_shelfOfWall_7 : decode cX0_shelfOfWall 7 = .ok (.ireturn, 1) := by decide +kernel
theorem dX0_kindOfPlaceOf_0 : decode cX0_kindOfPlaceOf 0 = .ok (.aload_n 0, 1) := by decide +kernel
theorem dX0_kindOfPlaceOf_1 : decode cX0_kindOfPlaceOf 1 = .ok (.iload_n 1, 1) := by decide +kernel
theorem dX0_kindOfPlaceOf_2 : decode cX0_kindOfPlaceOf 2 = .ok (.invokevirtual 59, 3) := by decide +kernel
theorem dX0_kindOfPlaceOf_5 : decode cX0_kindOfPlaceOf 5 = .ok (.istore_n 2, 1) := by decide +kernel
theorem dX0_kindOfPlaceOf_6 : decode cX0_kindOfPlaceOf 6 = .ok (.iload_n 2, 1) := by decide +kernel
theorem dX0_kindOfPlaceOf_7 : decode cX0_kindOfPlaceOf 7 = .ok (.iconst (-1), 1) := by decide +kernel
theorem dX0_kindOfPlaceOf_8 : decode cX0_kindOfPlaceOf 8 = .ok (.if_icmp .ne 5, 3) := by decide +kernel
theorem dX0_kindOfPlaceOf_11 : decode cX0_kindOfPlaceOf 11 = .ok (.iconst 3, 1) := by decide +kernel
theorem dX0_kindOfPlaceOf_12 : decode cX0_kindOfPlaceOf 12 = .ok (.ireturn, 1) := by decide +kernel
theorem dX0_kindOfPlaceOf_13 : decode cX0_kindOfPlaceOf 13 = .ok (.iload_n 2, 1) := by decide +kernel
theorem dX0_kindOfPlaceOf_14 : decode cX0_kindOfPlaceOf 14 = .ok (.bipush 32, 2) := by decide +kernel
theorem dX0_kindOfPlaceOf_16 : decode cX0_kindOfPlaceOf 16 = .ok (.if_icmp .ge 5, 3) := by decide +kernel
theorem dX0_kindOfPlaceOf_19 : decode cX0_kindOfPlaceOf 19 = .ok (.iconst 0, 1) := by decide +kernel
theorem dX0_kindOfPlaceOf_20 : decode cX0_kindOfPlaceOf 20 = .ok (.ireturn, 1) := by decide +kernel
theorem dX0_kindOfPlaceOf_21 : decode cX0_kindOfPlaceOf 21 = .ok (.iload_n 2, 1) := by decide +kernel
theorem dX0_kindOfPlaceOf_22 : decode cX0_kindOfPlaceOf 22 = .ok (.bipush 35, 2) := by decide +kernel
theorem dX0_kindOfPlaceOf_24 : decode cX0_kindOfPlaceOf 24 = .ok (.if_icmp .ge 7, 3) := by decide +kernel
theorem dX0_kindOfPlaceOf_27 : decode cX0_kindOfPlaceOf 27 = .ok (.iconst 1, 1) := by decide +kernel
theorem dX0_kindOfPlaceOf_28 : decode cX0_kindOfPlaceOf 28 = .ok (.goto 4, 3) := by decide +kernel
theorem dX0_kindOfPlaceOf_31 : decode cX0_kindOfPlaceOf 31 = .ok (.iconst 2, 1) := by decide +kernel
theorem dX0_kindOfPlaceOf_32 : decode cX0_kindOfPlaceOf 32 = .ok (.ireturn, 1) := by decide +kernel
theorem dX0_placeOf_0 : decode cX0_placeOf 0 = .ok (.aload_n 0, 1) := by decide +kernel
theorem dX0_placeOf_1 : decode cX0_placeOf 1 = .ok (.iload_n 1, 1) := by decide +kernel
theorem dX0_placeOf_2 : decode cX0_placeOf 2 = .ok (.invokevirtual 62, 3) := by decide +kernel
theorem dX0_placeOf_5 : decode cX0_placeOf 5 = .ok (.tableswitch 60 0 2 #[27, 42, 51], 27) := by decide +kernel
theorem dX0_placeOf_32 : decode cX0_placeOf 32 = .ok (.bipush 10, 2) := by decide +kernel
theorem dX0_placeOf_34 : decode cX0_placeOf 34 = .ok (.aload_n 0, 1) := by decide +kernel
theorem dX0_placeOf_35 : decode cX0_placeOf 35 = .ok (.iload_n 1, 1) := by decide +kernel
theorem dX0_placeOf_36 : decode cX0_placeOf 36 = .ok (.invokevirtual 65, 3) := by decide +kernel
theorem dX0_placeOf_39 : decode cX0_placeOf 39 = .ok (.imul, 1) := by decide +kernel
theorem dX0_placeOf_40 : decode cX0_placeOf 40 = .ok (.aload_n 0, 1) := by decide +kernel
theorem dX0_placeOf_41 : decode cX0_placeOf 41 = .ok (.iload_n 1, 1) := by decide +kernel
theorem dX0_placeOf_42 : decode cX0_placeOf 42 = .ok (.invokevirtual 68, 3) := by decide +kernel
theorem dX0_placeOf_45 : decode cX0_placeOf 45 = .ok (.iadd, 1) := by decide +kernel
theorem dX0_placeOf_46 : decode cX0_placeOf 46 = .ok (.ireturn, 1) := by decide +kernel
theorem dX0_placeOf_47 : decode cX0_placeOf 47 = .ok (.aload_n 0, 1) := by decide +kernel
theorem dX0_placeOf_48 : decode cX0_placeOf 48 = .ok (.iload_n 1, 1) := by decide +kernel
theorem dX0_placeOf_49 : decode cX0_placeOf 49 = .ok (.invokevirtual 59, 3) := by decide +kernel
theorem dX0_placeOf_52 : decode cX0_placeOf 52 = .ok (.bipush 32, 2) := by decide +kernel
theorem dX0_placeOf_54 : decode cX0_placeOf 54 = .ok (.isub, 1) := by decide +kernel
theorem dX0_placeOf_55 : decode cX0_placeOf 55 = .ok (.ireturn, 1) := by decide +kernel
theorem dX0_placeOf_56 : decode cX0_placeOf 56 = .ok (.aload_n 0, 1) := by decide +kernel
theorem dX0_placeOf_57 : decode cX0_placeOf 57 = .ok (.iload_n 1, 1) := by decide +kernel
theorem dX0_placeOf_58 : decode cX0_placeOf 58 = .ok (.invokevirtual 59, 3) := by decide +kernel
theorem dX0_placeOf_61 : decode cX0_placeOf 61 = .ok (.bipush 35, 2) := by decide +kernel
theorem dX0_placeOf_63 : decode cX0_placeOf 63 = .ok (.isub, 1) := by decide +kernel
theorem dX0_placeOf_64 : decode cX0_placeOf 64 = .ok (.ireturn, 1) := by decide +kernel
theorem dX0_placeOf_65 : decode cX0_placeOf 65 = .ok (.ldc 71, 2) := by decide +kernel
theorem dX0_placeOf_67 : decode cX0_placeOf 67 = .ok (.ireturn, 1) := by decide +kernel
theorem dX0_filesHeldBy_0 : decode cX0_filesHeldBy 0 = .ok (.aload_n 0, 1) := by decide +kernel
theorem dX0_filesHeldBy_1 : decode cX0_filesHeldBy 1 = .ok (.getfield 27, 3) := by decide +kernel
theorem dX0_filesHeldBy_4 : decode cX0_filesHeldBy 4 = .ok (.iload_n 1, 1) := by decide +kernel
theorem dX0_filesHeldBy_5 : decode cX0_filesHeldBy 5 = .ok (.invokestatic 72, 3) := by decide +kernel
theorem dX0_filesHeldBy_8 : decode cX0_filesHeldBy 8 = .ok (.ireturn, 1) := by decide +kernel
theorem dX0_filesHeld_0 : decode cX0_filesHeld 0 = .ok (.bipush 60, 2) := by decide +kernel
theorem dX0_filesHeld_2 : decode cX0_filesHeld 2 = .ok (.aload_n 0, 1) := by decide +kernel
theorem dX0_filesHeld_3 : decode cX0_filesHeld 3 = .ok (.getfield 27, 3) := by decide +kernel
theorem dX0_filesHeld_6 : decode cX0_filesHeld 6 = .ok (.iconst (-1), 1) := by decide +kernel
theorem dX0_filesHeld_7 : decode cX0_filesHeld 7 = .ok (.invokestatic 72, 3) := by decide +kernel
theorem dX0_filesHeld_10 : decode cX0_filesHeld 10 = .ok (.isub, 1) := by decide +kernel
theorem dX0_filesHeld_11 : decode cX0_filesHeld 11 = .ok (.ireturn, 1) := by decide +kernel
theorem dX0_withNeighbors_0 : decode cX0_withNeighbors 0 = .ok (.iconst 0, 1) := by decide +kernel
theorem dX0_withNeighbors_1 : decode cX0_withNeighbors 1 = .ok (.istore_n 1, 1) := by decide +kernel
theorem dX0_withNeighbors_2 : decode cX0_withNeighbors 2 = .ok (.iconst 0, 1) := by decide +kernel
theorem dX0_withNeighbors_3 : decode cX0_withNeighbors 3 = .ok (.istore_n 2, 1) := by decide +kernel
theorem dX0_withNeighbors_4 : decode cX0_withNeighbors 4 = .ok (.iload_n 2, 1) := by decide +kernel
theorem dX0_withNeighbors_5 : decode cX0_withNeighbors 5 = .ok (.aload_n 0, 1) := by decide +kernel
theorem dX0_withNeighbors_6 : decode cX0_withNeighbors 6 = .ok (.getfield 42, 3) := by decide +kernel
theorem dX0_withNeighbors_9 : decode cX0_withNeighbors 9 = .ok (.if_icmp .ge 21, 3) := by decide +kernel
theorem dX0_withNeighbors_12 : decode cX0_withNeighbors 12 = .ok (.aload_n 0, 1) := by decide +kernel
theorem dX0_withNeighbors_13 : decode cX0_withNeighbors 13 = .ok (.iload_n 2, 1) := by decide +kernel
theorem dX0_withNeighbors_14 : decode cX0_withNeighbors 14 = .ok (.invokevirtual 59, 3) := by decide +kernel
theorem dX0_withNeighbors_17 : decode cX0_withNeighbors 17 = .ok (.iconst (-1), 1) := by decide +kernel
theorem dX0_withNeighbors_18 : decode cX0_withNeighbors 18 = .ok (.if_icmp .ne 6, 3) := by decide +kernel
theorem dX0_withNeighbors_21 : decode cX0_withNeighbors 21 = .ok (.iinc 1 1, 3) := by decide +kernel
theorem dX0_withNeighbors_24 : decode cX0_withNeighbors 24 = .ok (.iinc 2 1, 3) := by decide +kernel
theorem dX0_withNeighbors_27 : decode cX0_withNeighbors 27 = .ok (.goto (-23), 3) := by decide +kernel
theorem dX0_withNeighbors_30 : decode cX0_withNeighbors 30 = .ok (.iload_n 1, 1) := by decide +kernel
theorem dX0_withNeighbors_31 : decode cX0_withNeighbors 31 = .ok (.ireturn, 1) := by decide +kernel
theorem dX0_worn_0 : decode cX0_worn 0 = .ok (.iconst 0, 1) := by decide +kernel
theorem dX0_worn_1 : decode cX0_worn 1 = .ok (.istore_n 1, 1) := by decide +kernel
theorem dX0_worn_2 : decode cX0_worn 2 = .ok (.iconst 0, 1) := by decide +kernel
theorem dX0_worn_3 : decode cX0_worn 3 = .ok (.istore_n 2, 1) := by decide +kernel
theorem dX0_worn_4 : decode cX0_worn 4 = .ok (.iload_n 2, 1) := by decide +kernel
theorem dX0_worn_5 : decode cX0_worn 5 = .ok (.aload_n 0, 1) := by decide +kernel
theorem dX0_worn_6 : decode cX0_worn 6 = .ok (.getfield 42, 3) := by decide +kernel
theorem dX0_worn_9 : decode cX0_worn 9 = .ok (.if_icmp .ge 20, 3) := by decide +kernel
theorem dX0_worn_12 : decode cX0_worn 12 = .ok (.aload_n 0, 1) := by decide +kernel
theorem dX0_worn_13 : decode cX0_worn 13 = .ok (.iload_n 2, 1) := by decide +kernel
theorem dX0_worn_14 : decode cX0_worn 14 = .ok (.invokevirtual 76, 3) := by decide +kernel
theorem dX0_worn_17 : decode cX0_worn 17 = .ok (.ifCond .eq 6, 3) := by decide +kernel
theorem dX0_worn_20 : decode cX0_worn 20 = .ok (.iinc 1 1, 3) := by decide +kernel
theorem dX0_worn_23 : decode cX0_worn 23 = .ok (.iinc 2 1, 3) := by decide +kernel
theorem dX0_worn_26 : decode cX0_worn 26 = .ok (.goto (-22), 3) := by decide +kernel
theorem dX0_worn_29 : decode cX0_worn 29 = .ok (.iload_n 1, 1) := by decide +kernel
theorem dX0_worn_30 : decode cX0_worn 30 = .ok (.ireturn, 1) := by decide +kernel
theorem dX0_emptyShelfNear_0 : decode cX0_emptyShelfNear 0 = .ok (.iconst 0, 1) := by decide +kernel
theorem dX0_emptyShelfNear_1 : decode cX0_emptyShelfNear 1 = .ok (.istore_n 2, 1) := by decide +kernel
theorem dX0_emptyShelfNear_2 : decode cX0_emptyShelfNear 2 = .ok (.iload_n 2, 1) := by decide +kernel
theorem dX0_emptyShelfNear_3 : decode cX0_emptyShelfNear 3 = .ok (.bipush 8, 2) := by decide +kernel
theorem dX0_emptyShelfNear_5 : decode cX0_emptyShelfNear 5 = .ok (.if_icmp .ge 75, 3) := by decide +kernel
theorem dX0_emptyShelfNear_8 : decode cX0_emptyShelfNear 8 = .ok (.iload_n 2, 1) := by decide +kernel
theorem dX0_emptyShelfNear_9 : decode cX0_emptyShelfNear 9 = .ok (.iconst 2, 1) := by decide +kernel
theorem dX0_emptyShelfNear_10 : decode cX0_emptyShelfNear 10 = .ok (.irem, 1) := by decide +kernel
theorem dX0_emptyShelfNear_11 : decode cX0_emptyShelfNear 11 = .ok (.iconst 1, 1) := by decide +kernel
theorem dX0_emptyShelfNear_12 : decode cX0_emptyShelfNear 12 = .ok (.if_icmp .ne 11, 3) := by decide +kernel
theorem dX0_emptyShelfNear_15 : decode cX0_emptyShelfNear 15 = .ok (.iload_n 2, 1) := by decide +kernel
theorem dX0_emptyShelfNear_16 : decode cX0_emptyShelfNear 16 = .ok (.iconst 1, 1) := by decide +kernel
theorem dX0_emptyShelfNear_17 : decode cX0_emptyShelfNear 17 = .ok (.iadd, 1) := by decide +kernel
theorem dX0_emptyShelfNear_18 : decode cX0_emptyShelfNear 18 = .ok (.iconst 2, 1) := by decide +kernel
theorem dX0_emptyShelfNear_19 : decode cX0_emptyShelfNear 19 = .ok (.idiv, 1) := by decide +kernel
theorem dX0_emptyShelfNear_20 : decode cX0_emptyShelfNear 20 = .ok (.goto 9, 3) := by decide +kernel
theorem dX0_emptyShelfNear_23 : decode cX0_emptyShelfNear 23 = .ok (.bipush 8, 2) := by decide +kernel
theorem dX0_emptyShelfNear_25 : decode cX0_emptyShelfNear 25 = .ok (.iload_n 2, 1) := by decide +kernel
theorem dX0_emptyShelfNear_26 : decode cX0_emptyShelfNear 26 = .ok (.iconst 2, 1) := by decide +kernel
theorem dX0_emptyShelfNear_27 : decode cX0_emptyShelfNear 27 = .ok (.idiv, 1) := by decide +kernel
theorem dX0_emptyShelfNear_28 : decode cX0_emptyShelfNear 28 = .ok (.isub, 1) := by decide +kernel
theorem dX0_emptyShelfNear_29 : decode cX0_emptyShelfNear 29 = .ok (.istore_n 3, 1) := by decide +kernel
theorem dX0_emptyShelfNear_30 : decode cX0_emptyShelfNear 30 = .ok (.iload_n 1, 1) := by decide +kernel
theorem dX0_emptyShelfNear_31 : decode cX0_emptyShelfNear 31 = .ok (.iload_n 3, 1) := by decide +kernel
theorem dX0_emptyShelfNear_32 : decode cX0_emptyShelfNear 32 = .ok (.iadd, 1) := by decide +kernel
theorem dX0_emptyShelfNear_33 : decode cX0_emptyShelfNear 33 = .ok (.bipush 8, 2) := by decide +kernel
theorem dX0_emptyShelfNear_35 : decode cX0_emptyShelfNear 35 = .ok (.irem, 1) := by decide +kernel
theorem dX0_emptyShelfNear_36 : decode cX0_emptyShelfNear 36 = .ok (.iconst 0, 1) := by decide +kernel
theorem dX0_emptyShelfNear_37 : decode cX0_emptyShelfNear 37 = .ok (.invokestatic 80, 3) := by decide +kernel
theorem dX0_emptyShelfNear_40 : decode cX0_emptyShelfNear 40 = .ok (.istore 4, 2) := by decide +kernel
theorem dX0_emptyShelfNear_42 : decode cX0_emptyShelfNear 42 = .ok (.iload 4, 2) := by decide +kernel
theorem dX0_emptyShelfNear_44 : decode cX0_emptyShelfNear 44 = .ok (.istore 5, 2) := by decide +kernel
theorem dX0_emptyShelfNear_46 : decode cX0_emptyShelfNear 46 = .ok (.iload 5, 2) := by decide +kernel
theorem dX0_emptyShelfNear_48 : decode cX0_emptyShelfNear 48 = .ok (.iload 4, 2) := by decide +kernel
theorem dX0_emptyShelfNear_50 : decode cX0_emptyShelfNear 50 = .ok (.iconst 4, 1) := by decide +kernel
theorem dX0_emptyShelfNear_51 : decode cX0_emptyShelfNear 51 = .ok (.iadd, 1) := by decide +kernel
theorem dX0_emptyShelfNear_52 : decode cX0_emptyShelfNear 52 = .ok (.if_icmp .ge 22, 3) := by decide +kernel
theorem dX0_emptyShelfNear_55 : decode cX0_emptyShelfNear 55 = .ok (.aload_n 0, 1) := by decide +kernel
theorem dX0_emptyShelfNear_56 : decode cX0_emptyShelfNear 56 = .ok (.iload 5, 2) := by decide +kernel
theorem dX0_emptyShelfNear_58 : decode cX0_emptyShelfNear 58 = .ok (.invokevirtual 84, 3) := by decide +kernel
theorem dX0_emptyShelfNear_61 : decode cX0_emptyShelfNear 61 = .ok (.iconst (-1), 1) := by decide +kernel
theorem dX0_emptyShelfNear_62 : decode cX0_emptyShelfNear 62 = .ok (.if_icmp .ne 6, 3) := by decide +kernel
theorem dX0_emptyShelfNear_65 : decode cX0_emptyShelfNear 65 = .ok (.iload 5, 2) := by decide +kernel
theorem dX0_emptyShelfNear_67 : decode cX0_emptyShelfNear 67 = .ok (.ireturn, 1) := by decide +kernel
theorem dX0_emptyShelfNear_68 : decode cX0_emptyShelfNear 68 = .ok (.iinc 5 1, 3) := by decide +kernel
theorem dX0_emptyShelfNear_71 : decode cX0_emptyShelfNear 71 = .ok (.goto (-25), 3) := by decide +kernel
theorem dX0_emptyShelfNear_74 : decode cX0_emptyShelfNear 74 = .ok (.iinc 2 1, 3) := by decide +kernel
theorem dX0_emptyShelfNear_77 : decode cX0_emptyShelfNear 77 = .ok (.goto (-75), 3) := by decide +kernel
theorem dX0_emptyShelfNear_80 : decode cX0_emptyShelfNear 80 = .ok (.iconst (-1), 1) := by decide +kernel
theorem dX0_emptyShelfNear_81 : decode cX0_emptyShelfNear 81 = .ok (.ireturn, 1) := by decide +kernel
theorem dX1_init_0 : decode cX1_init 0 = .ok (.aload_n 0, 1) := by decide +kernel
theorem dX1_init_1 : decode cX1_init 1 = .ok (.invokespecial 3, 3) := by decide +kernel
theorem dX1_init_4 : decode cX1_init 4 = .ok (.aload_n 0, 1) := by decide +kernel
theorem dX1_init_5 : decode cX1_init 5 = .ok (.iconst 4, 1) := by decide +kernel
theorem dX1_init_6 : decode cX1_init 6 = .ok (.anewarray 9, 3) := by decide +kernel
theorem dX1_init_9 : decode cX1_init 9 = .ok (.putfield 11, 3) := by decide +kernel
theorem dX1_init_12 : decode cX1_init 12 = .ok (.iconst 0, 1) := by decide +kernel
theorem dX1_init_13 : decode cX1_init 13 = .ok (.istore_n 1, 1) := by decide +kernel
theorem dX1_init_14 : decode cX1_init 14 = .ok (.iload_n 1, 1) := by decide +kernel
theorem dX1_init_15 : decode cX1_init 15 = .ok (.aload_n 0, 1) := by decide +kernel
theorem dX1_init_16 : decode cX1_init 16 = .ok (.getfield 11, 3) := by decide +kernel
theorem dX1_init_19 : decode cX1_init 19 = .ok (.arraylength, 1) := by decide +kernel
theorem dX1_init_20 : decode cX1_init 20 = .ok (.if_icmp .ge 22, 3) := by decide +kernel
theorem dX1_init_23 : decode cX1_init 23 = .ok (.aload_n 0, 1) := by decide +kernel
theorem dX1_init_24 : decode cX1_init 24 = .ok (.getfield 11, 3) := by decide +kernel
theorem dX1_init_27 : decode cX1_init 27 = .ok (.iload_n 1, 1) := by decide +kernel
theorem dX1_init_28 : decode cX1_init 28 = .ok (.new 9, 3) := by decide +kernel
theorem dX1_init_31 : decode cX1_init 31 = .ok (.dup, 1) := by decide +kernel
theorem dX1_init_32 : decode cX1_init 32 = .ok (.invokespecial 17, 3) := by decide +kernel
theorem dX1_init_35 : decode cX1_init 35 = .ok (.aastore, 1) := by decide +kernel
theorem dX1_init_36 : decode cX1_init 36 = .ok (.iinc 1 1, 3) := by decide +kernel
theorem dX1_init_39 : decode cX1_init 39 = .ok (.goto (-25), 3) := by decide +kernel
theorem dX1_init_42 : decode cX1_init 42 = .ok (.return_, 1) := by decide +kernel
theorem dX1_record_0 : decode cX1_record 0 = .ok (.aload_n 0, 1) := by decide +kernel
theorem dX1_record_1 : decode cX1_record 1 = .ok (.aload_n 0, 1) := by decide +kernel
theorem dX1_record_2 : decode cX1_record 2 = .ok (.getfield 18, 3) := by decide +kernel
theorem dX1_record_5 : decode cX1_record 5 = .ok (.invokevirtual 22, 3) := by decide +kernel
theorem dX1_record_8 : decode cX1_record 8 = .ok (.astore_n 2, 1) := by decide +kernel
theorem dX1_record_9 : decode cX1_record 9 = .ok (.aload_n 2, 1) := by decide +kernel
theorem dX1_record_10 : decode cX1_record 10 = .ok (.ifnull 34, 3) := by decide +kernel
theorem dX1_record_13 : decode cX1_record 13 = .ok (.aload_n 2, 1) := by decide +kernel
theorem dX1_record_14 : decode cX1_record 14 = .ok (.aload_n 1, 1) := by decide +kernel
theorem dX1_record_15 : decode cX1_record 15 = .ok (.invokevirtual 26, 3) := by decide +kernel
theorem dX1_record_18 : decode cX1_record 18 = .ok (.aload_n 0, 1) := by decide +kernel
theorem dX1_record_19 : decode cX1_record 19 = .ok (.aload_n 0, 1) := by decide +kernel
theorem dX1_record_20 : decode cX1_record 20 = .ok (.getfield 18, 3) := by decide +kernel
theorem dX1_record_23 : decode cX1_record 23 = .ok (.iconst 1, 1) := by decide +kernel
theorem dX1_record_24 : decode cX1_record 24 = .ok (.iadd, 1) := by decide +kernel
theorem dX1_record_25 : decode cX1_record 25 = .ok (.iconst 4, 1) := by decide +kernel
theorem dX1_record_26 : decode cX1_record 26 = .ok (.irem, 1) := by decide +kernel
theorem dX1_record_27 : decode cX1_record 27 = .ok (.putfield 18, 3) := by decide +kernel
theorem dX1_record_30 : decode cX1_record 30 = .ok (.aload_n 0, 1) := by decide +kernel
theorem dX1_record_31 : decode cX1_record 31 = .ok (.aload_n 0, 1) := by decide +kernel
theorem dX1_record_32 : decode cX1_record 32 = .ok (.getfield 30, 3) := by decide +kernel
theorem dX1_record_35 : decode cX1_record 35 = .ok (.iconst 1, 1) := by decide +kernel
theorem dX1_record_36 : decode cX1_record 36 = .ok (.iadd, 1) := by decide +kernel
theorem dX1_record_37 : decode cX1_record 37 = .ok (.iconst 4, 1) := by decide +kernel
theorem dX1_record_38 : decode cX1_record 38 = .ok (.invokestatic 33, 3) := by decide +kernel
theorem dX1_record_41 : decode cX1_record 41 = .ok (.putfield 30, 3) := by decide +kernel
theorem dX1_record_44 : decode cX1_record 44 = .ok (.return_, 1) := by decide +kernel
theorem dX1_restore_0 : decode cX1_restore 0 = .ok (.aload_n 0, 1) := by decide +kernel
theorem dX1_restore_1 : decode cX1_restore 1 = .ok (.getfield 18, 3) := by decide +kernel
theorem dX1_restore_4 : decode cX1_restore 4 = .ok (.iconst 4, 1) := by decide +kernel
theorem dX1_restore_5 : decode cX1_restore 5 = .ok (.iadd, 1) := by decide +kernel
theorem dX1_restore_6 : decode cX1_restore 6 = .ok (.iconst 1, 1) := by decide +kernel
theorem dX1_restore_7 : decode cX1_restore 7 = .ok (.isub, 1) := by decide +kernel
theorem dX1_restore_8 : decode cX1_restore 8 = .ok (.iconst 4, 1) := by decide +kernel
theorem dX1_restore_9 : decode cX1_restore 9 = .ok (.irem, 1) := by decide +kernel
theorem dX1_restore_10 : decode cX1_restore 10 = .ok (.istore_n 2, 1) := by decide +kernel
theorem dX1_restore_11 : decode cX1_restore 11 = .ok (.aload_n 0, 1) := by decide +kernel
theorem dX1_restore_12 : decode cX1_restore 12 = .ok (.iload_n 2, 1) := by decide +kernel
theorem dX1_restore_13 : decode cX1_restore 13 = .ok (.invokevirtual 22, 3) := by decide +kernel
theorem dX1_restore_16 : decode cX1_restore 16 = .ok (.astore_n 3, 1) := by decide +kernel
theorem dX1_restore_17 : decode cX1_restore 17 = .ok (.aload_n 0, 1) := by decide +kernel
theorem dX1_restore_18 : decode cX1_restore 18 = .ok (.getfield 30, 3) := by decide +kernel
theorem dX1_restore_21 : decode cX1_restore 21 = .ok (.ifCond .le 7, 3) := by decide +kernel
theorem dX1_restore_24 : decode cX1_restore 24 = .ok (.aload_n 3, 1) := by decide +kernel
theorem dX1_restore_25 : decode cX1_restore 25 = .ok (.ifnonnull 6, 3) := by decide +kernel
theorem dX1_restore_28 : decode cX1_restore 28 = .ok (.ldc 39, 2) := by decide +kernel
theorem dX1_restore_30 : decode cX1_restore 30 = .ok (.ireturn, 1) := by decide +kernel
theorem dX1_restore_31 : decode cX1_restore 31 = .ok (.aload_n 1, 1) := by decide +kernel
theorem dX1_restore_32 : decode cX1_restore 32 = .ok (.aload_n 3, 1) := by decide +kernel
theorem dX1_restore_33 : decode cX1_restore 33 = .ok (.invokevirtual 26, 3) := by decide +kernel
theorem dX1_restore_36 : decode cX1_restore 36 = .ok (.aload_n 0, 1) := by decide +kernel
theorem dX1_restore_37 : decode cX1_restore 37 = .ok (.iload_n 2, 1) := by decide +kernel
theorem dX1_restore_38 : decode cX1_restore 38 = .ok (.putfield 18, 3) := by decide +kernel
theorem dX1_restore_41 : decode cX1_restore 41 = .ok (.aload_n 0, 1) := by decide +kernel
theorem dX1_restore_42 : decode cX1_restore 42 = .ok (.dup, 1) := by decide +kernel
theorem dX1_restore_43 : decode cX1_restore 43 = .ok (.getfield 30, 3) := by decide +kernel
theorem dX1_restore_46 : decode cX1_restore 46 = .ok (.iconst 1, 1) := by decide +kernel
theorem dX1_restore_47 : decode cX1_restore 47 = .ok (.isub, 1) := by decide +kernel
theorem dX1_restore_48 : decode cX1_restore 48 = .ok (.putfield 30, 3) := by decide +kernel
theorem dX1_restore_51 : decode cX1_restore 51 = .ok (.aload_n 0, 1) := by decide +kernel
theorem dX1_restore_52 : decode cX1_restore 52 = .ok (.getfield 30, 3) := by decide +kernel
theorem dX1_restore_55 : decode cX1_restore 55 = .ok (.ireturn, 1) := by decide +kernel
theorem dX1_stateAt_0 : decode cX1_stateAt 0 = .ok (.iload_n 1, 1) := by decide +kernel
theorem dX1_stateAt_1 : decode cX1_stateAt 1 = .ok (.ifCond .lt 21, 3) := by decide +kernel
theorem dX1_stateAt_4 : decode cX1_stateAt 4 = .ok (.iload_n 1, 1) := by decide +kernel
theorem dX1_stateAt_5 : decode cX1_stateAt 5 = .ok (.aload_n 0, 1) := by decide +kernel
theorem dX1_stateAt_6 : decode cX1_stateAt 6 = .ok (.getfield 11, 3) := by decide +kernel
theorem dX1_stateAt_9 : decode cX1_stateAt 9 = .ok (.arraylength, 1) := by decide +kernel
theorem dX1_stateAt_10 : decode cX1_stateAt 10 = .ok (.if_icmp .ge 12, 3) := by decide +kernel
theorem dX1_stateAt_13 : decode cX1_stateAt 13 = .ok (.aload_n 0, 1) := by decide +kernel
theorem dX1_stateAt_14 : decode cX1_stateAt 14 = .ok (.getfield 11, 3) := by decide +kernel
theorem dX1_stateAt_17 : decode cX1_stateAt 17 = .ok (.iload_n 1, 1) := by decide +kernel
theorem dX1_stateAt_18 : decode cX1_stateAt 18 = .ok (.aaload, 1) := by decide +kernel
theorem dX1_stateAt_19 : decode cX1_stateAt 19 = .ok (.goto 4, 3) := by decide +kernel
theorem dX1_stateAt_22 : decode cX1_stateAt 22 = .ok (.aconst_null, 1) := by decide +kernel
theorem dX1_stateAt_23 : decode cX1_stateAt 23 = .ok (.areturn, 1) := by decide +kernel
theorem dX2_init_0 : decode cX2_init 0 = .ok (.aload_n 0, 1) := by decide +kernel
theorem dX2_init_1 : decode cX2_init 1 = .ok (.invokespecial 3, 3) := by decide +kernel
theorem dX2_init_4 : decode cX2_init 4 = .ok (.aload_n 0, 1) := by decide +kernel
theorem dX2_init_5 : decode cX2_init 5 = .ok (.new 9, 3) := by decide +kernel
theorem dX2_init_8 : decode cX2_init 8 = .ok (.dup, 1) := by decide +kernel
theorem dX2_init_9 : decode cX2_init 9 = .ok (.invokespecial 11, 3) := by decide +kernel
theorem dX2_init_12 : decode cX2_init 12 = .ok (.putfield 12, 3) := by decide +kernel
theorem dX2_init_15 : decode cX2_init 15 = .ok (.aload_n 0, 1) := by decide +kernel
theorem dX2_init_16 : decode cX2_init 16 = .ok (.new 18, 3) := by decide +kernel
theorem dX2_init_19 : decode cX2_init 19 = .ok (.dup, 1) := by decide +kernel
theorem dX2_init_20 : decode cX2_init 20 = .ok (.invokespecial 20, 3) := by decide +kernel
theorem dX2_init_23 : decode cX2_init 23 = .ok (.putfield 21, 3) := by decide +kernel
theorem dX2_init_26 : decode cX2_init 26 = .ok (.return_, 1) := by decide +kernel
theorem dX2_copyFrom_0 : decode cX2_copyFrom 0 = .ok (.aload_n 0, 1) := by decide +kernel
theorem dX2_copyFrom_1 : decode cX2_copyFrom 1 = .ok (.getfield 12, 3) := by decide +kernel
theorem dX2_copyFrom_4 : decode cX2_copyFrom 4 = .ok (.aload_n 1, 1) := by decide +kernel
theorem dX2_copyFrom_5 : decode cX2_copyFrom 5 = .ok (.getfield 12, 3) := by decide +kernel
theorem dX2_copyFrom_8 : decode cX2_copyFrom 8 = .ok (.invokevirtual 25, 3) := by decide +kernel
theorem dX2_copyFrom_11 : decode cX2_copyFrom 11 = .ok (.aload_n 0, 1) := by decide +kernel
theorem dX2_copyFrom_12 : decode cX2_copyFrom 12 = .ok (.getfield 21, 3) := by decide +kernel
theorem dX2_copyFrom_15 : decode cX2_copyFrom 15 = .ok (.aload_n 1, 1) := by decide +kernel
theorem dX2_copyFrom_16 : decode cX2_copyFrom 16 = .ok (.getfield 21, 3) := by decide +kernel
theorem dX2_copyFrom_19 : decode cX2_copyFrom 19 = .ok (.invokevirtual 29, 3) := by decide +kernel
theorem dX2_copyFrom_22 : decode cX2_copyFrom 22 = .ok (.aload_n 0, 1) := by decide +kernel
theorem dX2_copyFrom_23 : decode cX2_copyFrom 23 = .ok (.aload_n 1, 1) := by decide +kernel
theorem dX2_copyFrom_24 : decode cX2_copyFrom 24 = .ok (.getfield 32, 3) := by decide +kernel
theorem dX2_copyFrom_27 : decode cX2_copyFrom 27 = .ok (.putfield 32, 3) := by decide +kernel
theorem dX2_copyFrom_30 : decode cX2_copyFrom 30 = .ok (.aload_n 0, 1) := by decide +kernel
theorem dX2_copyFrom_31 : decode cX2_copyFrom 31 = .ok (.aload_n 1, 1) := by decide +kernel
theorem dX2_copyFrom_32 : decode cX2_copyFrom 32 = .ok (.getfield 36, 3) := by decide +kernel
theorem dX2_copyFrom_35 : decode cX2_copyFrom 35 = .ok (.putfield 36, 3) := by decide +kernel
theorem dX2_copyFrom_38 : decode cX2_copyFrom 38 = .ok (.aload_n 0, 1) := by decide +kernel
theorem dX2_copyFrom_39 : decode cX2_copyFrom 39 = .ok (.aload_n 1, 1) := by decide +kernel
theorem dX2_copyFrom_40 : decode cX2_copyFrom 40 = .ok (.getfield 40, 3) := by decide +kernel
theorem dX2_copyFrom_43 : decode cX2_copyFrom 43 = .ok (.putfield 40, 3) := by decide +kernel
theorem dX2_copyFrom_46 : decode cX2_copyFrom 46 = .ok (.aload_n 0, 1) := by decide +kernel
theorem dX2_copyFrom_47 : decode cX2_copyFrom 47 = .ok (.aload_n 1, 1) := by decide +kernel
theorem dX2_copyFrom_48 : decode cX2_copyFrom 48 = .ok (.getfield 43, 3) := by decide +kernel
theorem dX2_copyFrom_51 : decode cX2_copyFrom 51 = .ok (.putfield 43, 3) := by decide +kernel
theorem dX2_copyFrom_54 : decode cX2_copyFrom 54 = .ok (.aload_n 0, 1) := by decide +kernel
theorem dX2_copyFrom_55 : decode cX2_copyFrom 55 = .ok (.aload_n 1, 1) := by decide +kernel
theorem dX2_copyFrom_56 : decode cX2_copyFrom 56 = .ok (.getfield 46, 3) := by decide +kernel
theorem dX2_copyFrom_59 : decode cX2_copyFrom 59 = .ok (.putfield 46, 3) := by decide +kernel
theorem dX2_copyFrom_62 : decode cX2_copyFrom 62 = .ok (.aload_n 0, 1) := by decide +kernel
theorem dX2_copyFrom_63 : decode cX2_copyFrom 63 = .ok (.aload_n 1, 1) := by decide +kernel
theorem dX2_copyFrom_64 : decode cX2_copyFrom 64 = .ok (.getfield 49, 3) := by decide +kernel
theorem dX2_copyFrom_67 : decode cX2_copyFrom 67 = .ok (.putfield 49, 3) := by decide +kernel
theorem dX2_copyFrom_70 : decode cX2_copyFrom 70 = .ok (.aload_n 0, 1) := by decide +kernel
theorem dX2_copyFrom_71 : decode cX2_copyFrom 71 = .ok (.aload_n 1, 1) := by decide +kernel
theorem dX2_copyFrom_72 : decode cX2_copyFrom 72 = .ok (.getfield 52, 3) := by decide +kernel
theorem dX2_copyFrom_75 : decode cX2_copyFrom 75 = .ok (.putfield 52, 3) := by decide +kernel
theorem dX2_copyFrom_78 : decode cX2_copyFrom 78 = .ok (.aload_n 0, 1) := by decide +kernel
theorem dX2_copyFrom_79 : decode cX2_copyFrom 79 = .ok (.aload_n 1, 1) := by decide +kernel
theorem dX2_copyFrom_80 : decode cX2_copyFrom 80 = .ok (.getfield 55, 3) := by decide +kernel
theorem dX2_copyFrom_83 : decode cX2_copyFrom 83 = .ok (.putfield 55, 3) := by decide +kernel
theorem dX2_copyFrom_86 : decode cX2_copyFrom 86 = .ok (.return_, 1) := by decide +kernel
theorem dX2_addCartridge_0 : decode cX2_addCartridge 0 = .ok (.iload_n 1, 1) := by decide +kernel
theorem dX2_addCartridge_1 : decode cX2_addCartridge 1 = .ok (.iconst 1, 1) := by decide +kernel
theorem dX2_addCartridge_2 : decode cX2_addCartridge 2 = .ok (.bipush 20, 2) := by decide +kernel
theorem dX2_addCartridge_4 : decode cX2_addCartridge 4 = .ok (.invokestatic 58, 3) := by decide +kernel
theorem dX2_addCartridge_7 : decode cX2_addCartridge 7 = .ok (.ifCond .eq 11, 3) := by decide +kernel
theorem dX2_addCartridge_10 : decode cX2_addCartridge 10 = .ok (.iload_n 2, 1) := by decide +kernel
theorem dX2_addCartridge_11 : decode cX2_addCartridge 11 = .ok (.iload_n 3, 1) := by decide +kernel
theorem dX2_addCartridge_12 : decode cX2_addCartridge 12 = .ok (.invokestatic 62, 3) := by decide +kernel
theorem dX2_addCartridge_15 : decode cX2_addCartridge 15 = .ok (.ifCond .ne 6, 3) := by decide +kernel
theorem dX2_addCartridge_18 : decode cX2_addCartridge 18 = .ok (.ldc 66, 2) := by decide +kernel
theorem dX2_addCartridge_20 : decode cX2_addCartridge 20 = .ok (.ireturn, 1) := by decide +kernel
theorem dX2_addCartridge_21 : decode cX2_addCartridge 21 = .ok (.iload_n 2, 1) := by decide +kernel
theorem dX2_addCartridge_22 : decode cX2_addCartridge 22 = .ok (.iload_n 3, 1) := by decide +kernel
theorem dX2_addCartridge_23 : decode cX2_addCartridge 23 = .ok (.invokestatic 67, 3) := by decide +kernel
theorem dX2_addCartridge_26 : decode cX2_addCartridge 26 = .ok (.istore 4, 2) := by decide +kernel
theorem dX2_addCartridge_28 : decode cX2_addCartridge 28 = .ok (.aload_n 0, 1) := by decide +kernel
theorem dX2_addCartridge_29 : decode cX2_addCartridge 29 = .ok (.getfield 12, 3) := by decide +kernel
theorem dX2_addCartridge_32 : decode cX2_addCartridge 32 = .ok (.iload 4, 2) := by decide +kernel
theorem dX2_addCartridge_34 : decode cX2_addCartridge 34 = .ok (.invokevirtual 71, 3) := by decide +kernel
theorem dX2_addCartridge_37 : decode cX2_addCartridge 37 = .ok (.iconst (-1), 1) := by decide +kernel
theorem dX2_addCartridge_38 : decode cX2_addCartridge 38 = .ok (.if_icmp .eq 6, 3) := by decide +kernel
theorem dX2_addCartridge_41 : decode cX2_addCartridge 41 = .ok (.ldc 75, 2) := by decide +kernel
theorem dX2_addCartridge_43 : decode cX2_addCartridge 43 = .ok (.ireturn, 1) := by decide +kernel
theorem dX2_addCartridge_44 : decode cX2_addCartridge 44 = .ok (.aload_n 0, 1) := by decide +kernel
theorem dX2_addCartridge_45 : decode cX2_addCartridge 45 = .ok (.getfield 12, 3) := by decide +kernel
theorem dX2_addCartridge_48 : decode cX2_addCartridge 48 = .ok (.iload_n 1, 1) := by decide +kernel
theorem dX2_addCartridge_49 : decode cX2_addCartridge 49 = .ok (.iload 4, 2) := by decide +kernel
theorem dX2_addCartridge_51 : decode cX2_addCartridge 51 = .ok (.invokevirtual 76, 3) := by decide +kernel
theorem dX2_addCartridge_54 : decode cX2_addCartridge 54 = .ok (.ireturn, 1) := by decide +kernel
theorem dX2_exchange_0 : decode cX2_exchange 0 = .ok (.iload_n 2, 1) := by decide +kernel
theorem dX2_exchange_1 : decode cX2_exchange 1 = .ok (.iconst (-1), 1) := by decide +kernel
theorem dX2_exchange_2 : decode cX2_exchange 2 = .ok (.if_icmp .ne 12, 3) := by decide +kernel
theorem dX2_exchange_5 : decode cX2_exchange 5 = .ok (.iload_n 3, 1) := by decide +kernel
theorem dX2_exchange_6 : decode cX2_exchange 6 = .ok (.iconst (-1), 1) := by decide +kernel
theorem dX2_exchange_7 : decode cX2_exchange 7 = .ok (.if_icmp .ne 7, 3) := by decide +kernel
theorem dX2_exchange_10 : decode cX2_exchange 10 = .ok (.iconst 1, 1) := by decide +kernel
theorem dX2_exchange_11 : decode cX2_exchange 11 = .ok (.goto 4, 3) := by decide +kernel
theorem dX2_exchange_14 : decode cX2_exchange 14 = .ok (.iconst 0, 1) := by decide +kernel
theorem dX2_exchange_15 : decode cX2_exchange 15 = .ok (.istore 4, 2) := by decide +kernel
theorem dX2_exchange_17 : decode cX2_exchange 17 = .ok (.aload_n 0, 1) := by decide +kernel
theorem dX2_exchange_18 : decode cX2_exchange 18 = .ok (.getfield 12, 3) := by decide +kernel
theorem dX2_exchange_21 : decode cX2_exchange 21 = .ok (.iload_n 1, 1) := by decide +kernel
theorem dX2_exchange_22 : decode cX2_exchange 22 = .ok (.invokevirtual 79, 3) := by decide +kernel
theorem dX2_exchange_25 : decode cX2_exchange 25 = .ok (.ifCond .eq 16, 3) := by decide +kernel
theorem dX2_exchange_28 : decode cX2_exchange 28 = .ok (.iload 4, 2) := by decide +kernel
theorem dX2_exchange_30 : decode cX2_exchange 30 = .ok (.ifCond .ne 14, 3) := by decide +kernel
theorem dX2_exchange_33 : decode cX2_exchange 33 = .ok (.iload_n 2, 1) := by decide +kernel
theorem dX2_exchange_34 : decode cX2_exchange 34 = .ok (.iload_n 3, 1) := by decide +kernel
theorem dX2_exchange_35 : decode cX2_exchange 35 = .ok (.invokestatic 62, 3) := by decide +kernel
theorem dX2_exchange_38 : decode cX2_exchange 38 = .ok (.ifCond .ne 6, 3) := by decide +kernel
theorem dX2_exchange_41 : decode cX2_exchange 41 = .ok (.ldc 66, 2) := by decide +kernel
theorem dX2_exchange_43 : decode cX2_exchange 43 = .ok (.ireturn, 1) := by decide +kernel
theorem dX2_exchange_44 : decode cX2_exchange 44 = .ok (.iload 4, 2) := by decide +kernel
theorem dX2_exchange_46 : decode cX2_exchange 46 = .ok (.ifCond .eq 7, 3) := by decide +kernel
theorem dX2_exchange_49 : decode cX2_exchange 49 = .ok (.iconst (-1), 1) := by decide +kernel
theorem dX2_exchange_50 : decode cX2_exchange 50 = .ok (.goto 8, 3) := by decide +kernel
theorem dX2_exchange_53 : decode cX2_exchange 53 = .ok (.iload_n 2, 1) := by decide +kernel
theorem dX2_exchange_54 : decode cX2_exchange 54 = .ok (.iload_n 3, 1) := by decide +kernel
theorem dX2_exchange_55 : decode cX2_exchange 55 = .ok (.invokestatic 67, 3) := by decide +kernel
theorem dX2_exchange_58 : decode cX2_exchange 58 = .ok (.istore 5, 2) := by decide +kernel
theorem dX2_exchange_60 : decode cX2_exchange 60 = .ok (.iload 4, 2) := by decide +kernel
theorem dX2_exchange_62 : decode cX2_exchange 62 = .ok (.ifCond .eq 14, 3) := by decide +kernel
theorem dX2_exchange_65 : decode cX2_exchange 65 = .ok (.aload_n 0, 1) := by decide +kernel
theorem dX2_exchange_66 : decode cX2_exchange 66 = .ok (.getfield 12, 3) := by decide +kernel
theorem dX2_exchange_69 : decode cX2_exchange 69 = .ok (.iload_n 1, 1) := by decide +kernel
theorem dX2_exchange_70 : decode cX2_exchange 70 = .ok (.invokevirtual 83, 3) := by decide +kernel
theorem dX2_exchange_73 : decode cX2_exchange 73 = .ok (.goto 33, 3) := by decide +kernel
theorem dX2_exchange_76 : decode cX2_exchange 76 = .ok (.aload_n 0, 1) := by decide +kernel
theorem dX2_exchange_77 : decode cX2_exchange 77 = .ok (.getfield 12, 3) := by decide +kernel
theorem dX2_exchange_80 : decode cX2_exchange 80 = .ok (.iload_n 1, 1) := by decide +kernel
theorem dX2_exchange_81 : decode cX2_exchange 81 = .ok (.invokevirtual 86, 3) := by decide +kernel
theorem dX2_exchange_84 : decode cX2_exchange 84 = .ok (.iconst (-1), 1) := by decide +kernel
theorem dX2_exchange_85 : decode cX2_exchange 85 = .ok (.if_icmp .ne 20, 3) := by decide +kernel
theorem dX2_exchange_88 : decode cX2_exchange 88 = .ok (.aload_n 0, 1) := by decide +kernel
theorem dX2_exchange_89 : decode cX2_exchange 89 = .ok (.getfield 12, 3) := by decide +kernel
theorem dX2_exchange_92 : decode cX2_exchange 92 = .ok (.iload 5, 2) := by decide +kernel
theorem dX2_exchange_94 : decode cX2_exchange 94 = .ok (.invokevirtual 71, 3) := by decide +kernel
theorem dX2_exchange_97 : decode cX2_exchange 97 = .ok (.iconst (-1), 1) := by decide +kernel
theorem dX2_exchange_98 : decode cX2_exchange 98 = .ok (.if_icmp .ne 7, 3) := by decide +kernel
theorem dX2_exchange_101 : decode cX2_exchange 101 = .ok (.iconst 1, 1) := by decide +kernel
theorem dX2_exchange_102 : decode cX2_exchange 102 = .ok (.goto 4, 3) := by decide +kernel
theorem dX2_exchange_105 : decode cX2_exchange 105 = .ok (.iconst 0, 1) := by decide +kernel
theorem dX2_exchange_106 : decode cX2_exchange 106 = .ok (.istore 6, 2) := by decide +kernel
theorem dX2_exchange_108 : decode cX2_exchange 108 = .ok (.iload 6, 2) := by decide +kernel
theorem dX2_exchange_110 : decode cX2_exchange 110 = .ok (.ifCond .ne 6, 3) := by decide +kernel
theorem dX2_exchange_113 : decode cX2_exchange 113 = .ok (.ldc 75, 2) := by decide +kernel
theorem dX2_exchange_115 : decode cX2_exchange 115 = .ok (.ireturn, 1) := by decide +kernel
theorem dX2_exchange_116 : decode cX2_exchange 116 = .ok (.aload_n 0, 1) := by decide +kernel
theorem dX2_exchange_117 : decode cX2_exchange 117 = .ok (.getfield 12, 3) := by decide +kernel
theorem dX2_exchange_120 : decode cX2_exchange 120 = .ok (.iload_n 1, 1) := by decide +kernel
theorem dX2_exchange_121 : decode cX2_exchange 121 = .ok (.iload 5, 2) := by decide +kernel
theorem dX2_exchange_123 : decode cX2_exchange 123 = .ok (.invokevirtual 89, 3) := by decide +kernel
theorem dX2_exchange_126 : decode cX2_exchange 126 = .ok (.aload_n 0, 1) := by decide +kernel
theorem dX2_exchange_127 : decode cX2_exchange 127 = .ok (.getfield 12, 3) := by decide +kernel
theorem dX2_exchange_130 : decode cX2_exchange 130 = .ok (.invokevirtual 93, 3) := by decide +kernel
theorem dX2_exchange_133 : decode cX2_exchange 133 = .ok (.ireturn, 1) := by decide +kernel
theorem dX2_liftFrom_0 : decode cX2_liftFrom 0 = .ok (.aload_n 0, 1) := by decide +kernel
theorem dX2_liftFrom_1 : decode cX2_liftFrom 1 = .ok (.getfield 32, 3) := by decide +kernel
theorem dX2_liftFrom_4 : decode cX2_liftFrom 4 = .ok (.iload_n 1, 1) := by decide +kernel
theorem dX2_liftFrom_5 : decode cX2_liftFrom 5 = .ok (.invokestatic 62, 3) := by decide +kernel
theorem dX2_liftFrom_8 : decode cX2_liftFrom 8 = .ok (.ifCond .ne 6, 3) := by decide +kernel
theorem dX2_liftFrom_11 : decode cX2_liftFrom 11 = .ok (.ldc 66, 2) := by decide +kernel
theorem dX2_liftFrom_13 : decode cX2_liftFrom 13 = .ok (.ireturn, 1) := by decide +kernel
theorem dX2_liftFrom_14 : decode cX2_liftFrom 14 = .ok (.aload_n 0, 1) := by decide +kernel
theorem dX2_liftFrom_15 : decode cX2_liftFrom 15 = .ok (.aload_n 0, 1) := by decide +kernel
theorem dX2_liftFrom_16 : decode cX2_liftFrom 16 = .ok (.getfield 12, 3) := by decide +kernel
theorem dX2_liftFrom_19 : decode cX2_liftFrom 19 = .ok (.aload_n 0, 1) := by decide +kernel
theorem dX2_liftFrom_20 : decode cX2_liftFrom 20 = .ok (.getfield 32, 3) := by decide +kernel
theorem dX2_liftFrom_23 : decode cX2_liftFrom 23 = .ok (.iload_n 1, 1) := by decide +kernel
theorem dX2_liftFrom_24 : decode cX2_liftFrom 24 = .ok (.invokestatic 67, 3) := by decide +kernel
theorem dX2_liftFrom_27 : decode cX2_liftFrom 27 = .ok (.invokevirtual 71, 3) := by decide +kernel
theorem dX2_liftFrom_30 : decode cX2_liftFrom 30 = .ok (.iconst 1, 1) := by decide +kernel
theorem dX2_liftFrom_31 : decode cX2_liftFrom 31 = .ok (.invokevirtual 97, 3) := by decide +kernel
theorem dX2_liftFrom_34 : decode cX2_liftFrom 34 = .ok (.ireturn, 1) := by decide +kernel
theorem dX2_layOn_0 : decode cX2_layOn 0 = .ok (.aload_n 0, 1) := by decide +kernel
theorem dX2_layOn_1 : decode cX2_layOn 1 = .ok (.getfield 32, 3) := by decide +kernel
theorem dX2_layOn_4 : decode cX2_layOn 4 = .ok (.iload_n 1, 1) := by decide +kernel
theorem dX2_layOn_5 : decode cX2_layOn 5 = .ok (.invokestatic 62, 3) := by decide +kernel
theorem dX2_layOn_8 : decode cX2_layOn 8 = .ok (.ifCond .ne 6, 3) := by decide +kernel
theorem dX2_layOn_11 : decode cX2_layOn 11 = .ok (.ldc 66, 2) := by decide +kernel
theorem dX2_layOn_13 : decode cX2_layOn 13 = .ok (.ireturn, 1) := by decide +kernel
theorem dX2_layOn_14 : decode cX2_layOn 14 = .ok (.aload_n 0, 1) := by decide +kernel
theorem dX2_layOn_15 : decode cX2_layOn 15 = .ok (.getfield 32, 3) := by decide +kernel
theorem dX2_layOn_18 : decode cX2_layOn 18 = .ok (.iload_n 1, 1) := by decide +kernel
theorem dX2_layOn_19 : decode cX2_layOn 19 = .ok (.invokestatic 67, 3) := by decide +kernel
theorem dX2_layOn_22 : decode cX2_layOn 22 = .ok (.istore_n 2, 1) := by decide +kernel
theorem dX2_layOn_23 : decode cX2_layOn 23 = .ok (.aload_n 0, 1) := by decide +kernel
theorem dX2_layOn_24 : decode cX2_layOn 24 = .ok (.invokevirtual 100, 3) := by decide +kernel
theorem dX2_layOn_27 : decode cX2_layOn 27 = .ok (.istore_n 3, 1) := by decide +kernel
theorem dX2_layOn_28 : decode cX2_layOn 28 = .ok (.iload_n 3, 1) := by decide +kernel
theorem dX2_layOn_29 : decode cX2_layOn 29 = .ok (.iconst (-1), 1) := by decide +kernel
theorem dX2_layOn_30 : decode cX2_layOn 30 = .ok (.if_icmp .eq 15, 3) := by decide +kernel
theorem dX2_layOn_33 : decode cX2_layOn 33 = .ok (.aload_n 0, 1) := by decide +kernel
theorem dX2_layOn_34 : decode cX2_layOn 34 = .ok (.getfield 12, 3) := by decide +kernel
theorem dX2_layOn_37 : decode cX2_layOn 37 = .ok (.iload_n 2, 1) := by decide +kernel
theorem dX2_layOn_38 : decode cX2_layOn 38 = .ok (.invokevirtual 71, 3) := by decide +kernel
theorem dX2_layOn_41 : decode cX2_layOn 41 = .ok (.iconst (-1), 1) := by decide +kernel
theorem dX2_layOn_42 : decode cX2_layOn 42 = .ok (.if_icmp .eq 6, 3) := by decide +kernel
theorem dX2_layOn_45 : decode cX2_layOn 45 = .ok (.ldc 75, 2) := by decide +kernel
theorem dX2_layOn_47 : decode cX2_layOn 47 = .ok (.ireturn, 1) := by decide +kernel
theorem dX2_layOn_48 : decode cX2_layOn 48 = .ok (.aload_n 0, 1) := by decide +kernel
theorem dX2_layOn_49 : decode cX2_layOn 49 = .ok (.iload_n 3, 1) := by decide +kernel
theorem dX2_layOn_50 : decode cX2_layOn 50 = .ok (.iload_n 2, 1) := by decide +kernel
theorem dX2_layOn_51 : decode cX2_layOn 51 = .ok (.iconst 1, 1) := by decide +kernel
theorem dX2_layOn_52 : decode cX2_layOn 52 = .ok (.invokevirtual 103, 3) := by decide +kernel
theorem dX2_layOn_55 : decode cX2_layOn 55 = .ok (.iload_n 3, 1) := by decide +kernel
theorem dX2_layOn_56 : decode cX2_layOn 56 = .ok (.ireturn, 1) := by decide +kernel
theorem dX2_weighPallet_0 : decode cX2_weighPallet 0 = .ok (.aload_n 0, 1) := by decide +kernel
theorem dX2_weighPallet_1 : decode cX2_weighPallet 1 = .ok (.iconst 1, 1) := by decide +kernel
theorem dX2_weighPallet_2 : decode cX2_weighPallet 2 = .ok (.putfield 36, 3) := by decide +kernel
theorem dX2_weighPallet_5 : decode cX2_weighPallet 5 = .ok (.aload_n 0, 1) := by decide +kernel
theorem dX2_weighPallet_6 : decode cX2_weighPallet 6 = .ok (.dup, 1) := by decide +kernel
theorem dX2_weighPallet_7 : decode cX2_weighPallet 7 = .ok (.getfield 49, 3) := by decide +kernel
theorem dX2_weighPallet_10 : decode cX2_weighPallet 10 = .ok (.iconst 1, 1) := by decide +kernel
theorem dX2_weighPallet_11 : decode cX2_weighPallet 11 = .ok (.iadd, 1) := by decide +kernel
theorem dX2_weighPallet_12 : decode cX2_weighPallet 12 = .ok (.putfield 49, 3) := by decide +kernel
theorem dX2_weighPallet_15 : decode cX2_weighPallet 15 = .ok (.aload_n 0, 1) := by decide +kernel
theorem dX2_weighPallet_16 : decode cX2_weighPallet 16 = .ok (.getfield 43, 3) := by decide +kernel
theorem dX2_weighPallet_19 : decode cX2_weighPallet 19 = .ok (.ireturn, 1) := by decide +kernel
theorem dX2_turnBy_0 : decode cX2_turnBy 0 = .ok (.iload_n 1, 1) := by decide +kernel
theorem dX2_turnBy_1 : decode cX2_turnBy 1 = .ok (.ifCond .eq 13, 3) := by decide +kernel
theorem dX2_turnBy_4 : decode cX2_turnBy 4 = .ok (.iload_n 1, 1) := by decide +kernel
theorem dX2_turnBy_5 : decode cX2_turnBy 5 = .ok (.bipush (-4), 2) := by decide +kernel
theorem dX2_turnBy_7 : decode cX2_turnBy 7 = .ok (.iconst 4, 1) := by decide +kernel
theorem dX2_turnBy_8 : decode cX2_turnBy 8 = .ok (.invokestatic 58, 3) := by decide +kernel
theorem dX2_turnBy_11 : decode cX2_turnBy 11 = .ok (.ifCond .ne 6, 3) := by decide +kernel
theorem dX2_turnBy_14 : decode cX2_turnBy 14 = .ok (.ldc 66, 2) := by decide +kernel
theorem dX2_turnBy_16 : decode cX2_turnBy 16 = .ok (.ireturn, 1) := by decide +kernel
theorem dX2_turnBy_17 : decode cX2_turnBy 17 = .ok (.iload_n 1, 1) := by decide +kernel
theorem dX2_turnBy_18 : decode cX2_turnBy 18 = .ok (.invokestatic 107, 3) := by decide +kernel
theorem dX2_turnBy_21 : decode cX2_turnBy 21 = .ok (.istore_n 2, 1) := by decide +kernel
theorem dX2_turnBy_22 : decode cX2_turnBy 22 = .ok (.aload_n 0, 1) := by decide +kernel
theorem dX2_turnBy_23 : decode cX2_turnBy 23 = .ok (.getfield 36, 3) := by decide +kernel
theorem dX2_turnBy_26 : decode cX2_turnBy 26 = .ok (.ifCond .eq 14, 3) := by decide +kernel
theorem dX2_turnBy_29 : decode cX2_turnBy 29 = .ok (.iload_n 2, 1) := by decide +kernel
theorem dX2_turnBy_30 : decode cX2_turnBy 30 = .ok (.aload_n 0, 1) := by decide +kernel
theorem dX2_turnBy_31 : decode cX2_turnBy 31 = .ok (.getfield 43, 3) := by decide +kernel
theorem dX2_turnBy_34 : decode cX2_turnBy 34 = .ok (.invokestatic 112, 3) := by decide +kernel
theorem dX2_turnBy_37 : decode cX2_turnBy 37 = .ok (.if_icmp .le 6, 3) := by decide +kernel
theorem dX2_turnBy_40 : decode cX2_turnBy 40 = .ok (.ldc 75, 2) := by decide +kernel
theorem dX2_turnBy_42 : decode cX2_turnBy 42 = .ok (.ireturn, 1) := by decide +kernel
theorem dX2_turnBy_43 : decode cX2_turnBy 43 = .ok (.aload_n 0, 1) := by decide +kernel
theorem dX2_turnBy_44 : decode cX2_turnBy 44 = .ok (.aload_n 0, 1) := by decide +kernel
theorem dX2_turnBy_45 : decode cX2_turnBy 45 = .ok (.getfield 32, 3) := by decide +kernel
theorem dX2_turnBy_48 : decode cX2_turnBy 48 = .ok (.iload_n 1, 1) := by decide +kernel
theorem dX2_turnBy_49 : decode cX2_turnBy 49 = .ok (.iadd, 1) := by decide +kernel
theorem dX2_turnBy_50 : decode cX2_turnBy 50 = .ok (.bipush 8, 2) := by decide +kernel
theorem dX2_turnBy_52 : decode cX2_turnBy 52 = .ok (.iadd, 1) := by decide +kernel
theorem dX2_turnBy_53 : decode cX2_turnBy 53 = .ok (.bipush 8, 2) := by decide +kernel
theorem dX2_turnBy_55 : decode cX2_turnBy 55 = .ok (.irem, 1) := by decide +kernel
theorem dX2_turnBy_56 : decode cX2_turnBy 56 = .ok (.putfield 32, 3) := by decide +kernel
theorem dX2_turnBy_59 : decode cX2_turnBy 59 = .ok (.aload_n 0, 1) := by decide +kernel
theorem dX2_turnBy_60 : decode cX2_turnBy 60 = .ok (.iconst 0, 1) := by decide +kernel
theorem dX2_turnBy_61 : decode cX2_turnBy 61 = .ok (.putfield 36, 3) := by decide +kernel
theorem dX2_turnBy_64 : decode cX2_turnBy 64 = .ok (.aload_n 0, 1) := by decide +kernel
theorem dX2_turnBy_65 : decode cX2_turnBy 65 = .ok (.dup, 1) := by decide +kernel
theorem dX2_turnBy_66 : decode cX2_turnBy 66 = .ok (.getfield 49, 3) := by decide +kernel
theorem dX2_turnBy_69 : decode cX2_turnBy 69 = .ok (.iload_n 2, 1) := by decide +kernel
theorem dX2_turnBy_70 : decode cX2_turnBy 70 = .ok (.iconst 1, 1) := by decide +kernel
theorem dX2_turnBy_71 : decode cX2_turnBy 71 = .ok (.aload_n 0, 1) := by decide +kernel
theorem dX2_turnBy_72 : decode cX2_turnBy 72 = .ok (.getfield 43, 3) := by decide +kernel
theorem dX2_turnBy_75 : decode cX2_turnBy 75 = .ok (.bipush 10, 2) := by decide +kernel
theorem dX2_turnBy_77 : decode cX2_turnBy 77 = .ok (.idiv, 1) := by decide +kernel
theorem dX2_turnBy_78 : decode cX2_turnBy 78 = .ok (.iadd, 1) := by decide +kernel
theorem dX2_turnBy_79 : decode cX2_turnBy 79 = .ok (.imul, 1) := by decide +kernel
theorem dX2_turnBy_80 : decode cX2_turnBy 80 = .ok (.iadd, 1) := by decide +kernel
theorem dX2_turnBy_81 : decode cX2_turnBy 81 = .ok (.putfield 49, 3) := by decide +kernel
theorem dX2_turnBy_84 : decode cX2_turnBy 84 = .ok (.aload_n 0, 1) := by decide +kernel
theorem dX2_turnBy_85 : decode cX2_turnBy 85 = .ok (.dup, 1) := by decide +kernel
theorem dX2_turnBy_86 : decode cX2_turnBy 86 = .ok (.getfield 52, 3) := by decide +kernel
theorem dX2_turnBy_89 : decode cX2_turnBy 89 = .ok (.iconst 1, 1) := by decide +kernel
theorem dX2_turnBy_90 : decode cX2_turnBy 90 = .ok (.iadd, 1) := by decide +kernel
theorem dX2_turnBy_91 : decode cX2_turnBy 91 = .ok (.putfield 52, 3) := by decide +kernel
theorem dX2_turnBy_94 : decode cX2_turnBy 94 = .ok (.aload_n 0, 1) := by decide +kernel
theorem dX2_turnBy_95 : decode cX2_turnBy 95 = .ok (.getfield 32, 3) := by decide +kernel
theorem dX2_turnBy_98 : decode cX2_turnBy 98 = .ok (.ireturn, 1) := by decide +kernel
theorem dX2_mountIn_0 : decode cX2_mountIn 0 = .ok (.iload_n 1, 1) := by decide +kernel
theorem dX2_mountIn_1 : decode cX2_mountIn 1 = .ok (.iconst 0, 1) := by decide +kernel
theorem dX2_mountIn_2 : decode cX2_mountIn 2 = .ok (.iconst 1, 1) := by decide +kernel
theorem dX2_mountIn_3 : decode cX2_mountIn 3 = .ok (.invokestatic 58, 3) := by decide +kernel
theorem dX2_mountIn_6 : decode cX2_mountIn 6 = .ok (.ifCond .ne 6, 3) := by decide +kernel
theorem dX2_mountIn_9 : decode cX2_mountIn 9 = .ok (.ldc 66, 2) := by decide +kernel
theorem dX2_mountIn_11 : decode cX2_mountIn 11 = .ok (.ireturn, 1) := by decide +kernel
theorem dX2_mountIn_12 : decode cX2_mountIn 12 = .ok (.aload_n 0, 1) := by decide +kernel
theorem dX2_mountIn_13 : decode cX2_mountIn 13 = .ok (.invokevirtual 100, 3) := by decide +kernel
theorem dX2_mountIn_16 : decode cX2_mountIn 16 = .ok (.istore_n 2, 1) := by decide +kernel
theorem dX2_mountIn_17 : decode cX2_mountIn 17 = .ok (.aload_n 0, 1) := by decide +kernel
theorem dX2_mountIn_18 : decode cX2_mountIn 18 = .ok (.getfield 32, 3) := by decide +kernel
theorem dX2_mountIn_21 : decode cX2_mountIn 21 = .ok (.iload_n 1, 1) := by decide +kernel
theorem dX2_mountIn_22 : decode cX2_mountIn 22 = .ok (.invokestatic 115, 3) := by decide +kernel
theorem dX2_mountIn_25 : decode cX2_mountIn 25 = .ok (.if_icmp .ne 28, 3) := by decide +kernel
theorem dX2_mountIn_28 : decode cX2_mountIn 28 = .ok (.iload_n 2, 1) := by decide +kernel
theorem dX2_mountIn_29 : decode cX2_mountIn 29 = .ok (.iconst (-1), 1) := by decide +kernel
theorem dX2_mountIn_30 : decode cX2_mountIn 30 = .ok (.if_icmp .eq 23, 3) := by decide +kernel
theorem dX2_mountIn_33 : decode cX2_mountIn 33 = .ok (.aload_n 0, 1) := by decide +kernel
theorem dX2_mountIn_34 : decode cX2_mountIn 34 = .ok (.iload_n 1, 1) := by decide +kernel
theorem dX2_mountIn_35 : decode cX2_mountIn 35 = .ok (.invokevirtual 118, 3) := by decide +kernel
theorem dX2_mountIn_38 : decode cX2_mountIn 38 = .ok (.iconst (-1), 1) := by decide +kernel
theorem dX2_mountIn_39 : decode cX2_mountIn 39 = .ok (.if_icmp .ne 14, 3) := by decide +kernel
theorem dX2_mountIn_42 : decode cX2_mountIn 42 = .ok (.aload_n 0, 1) := by decide +kernel
theorem dX2_mountIn_43 : decode cX2_mountIn 43 = .ok (.getfield 12, 3) := by decide +kernel
theorem dX2_mountIn_46 : decode cX2_mountIn 46 = .ok (.iload_n 2, 1) := by decide +kernel
theorem dX2_mountIn_47 : decode cX2_mountIn 47 = .ok (.invokevirtual 121, 3) := by decide +kernel
theorem dX2_mountIn_50 : decode cX2_mountIn 50 = .ok (.ifCond .eq 6, 3) := by decide +kernel
theorem dX2_mountIn_53 : decode cX2_mountIn 53 = .ok (.ldc 75, 2) := by decide +kernel
theorem dX2_mountIn_55 : decode cX2_mountIn 55 = .ok (.ireturn, 1) := by decide +kernel
theorem dX2_mountIn_56 : decode cX2_mountIn 56 = .ok (.aload_n 0, 1) := by decide +kernel
theorem dX2_mountIn_57 : decode cX2_mountIn 57 = .ok (.iload_n 2, 1) := by decide +kernel
theorem dX2_mountIn_58 : decode cX2_mountIn 58 = .ok (.bipush 35, 2) := by decide +kernel
theorem dX2_mountIn_60 : decode cX2_mountIn 60 = .ok (.iload_n 1, 1) := by decide +kernel
theorem dX2_mountIn_61 : decode cX2_mountIn 61 = .ok (.iadd, 1) := by decide +kernel
theorem dX2_mountIn_62 : decode cX2_mountIn 62 = .ok (.iconst 3, 1) := by decide +kernel
theorem dX2_mountIn_63 : decode cX2_mountIn 63 = .ok (.invokevirtual 103, 3) := by decide +kernel
theorem dX2_mountIn_66 : decode cX2_mountIn 66 = .ok (.aload_n 0, 1) := by decide +kernel
theorem dX2_mountIn_67 : decode cX2_mountIn 67 = .ok (.getfield 21, 3) := by decide +kernel
theorem dX2_mountIn_70 : decode cX2_mountIn 70 = .ok (.iload_n 2, 1) := by decide +kernel
theorem dX2_mountIn_71 : decode cX2_mountIn 71 = .ok (.aload_n 0, 1) := by decide +kernel
theorem dX2_mountIn_72 : decode cX2_mountIn 72 = .ok (.getfield 12, 3) := by decide +kernel
theorem dX2_mountIn_75 : decode cX2_mountIn 75 = .ok (.invokevirtual 124, 3) := by decide +kernel
theorem dX2_mountIn_78 : decode cX2_mountIn 78 = .ok (.istore_n 3, 1) := by decide +kernel
theorem dX2_mountIn_79 : decode cX2_mountIn 79 = .ok (.aload_n 0, 1) := by decide +kernel
theorem dX2_mountIn_80 : decode cX2_mountIn 80 = .ok (.getfield 12, 3) := by decide +kernel
theorem dX2_mountIn_83 : decode cX2_mountIn 83 = .ok (.iload_n 2, 1) := by decide +kernel
theorem dX2_mountIn_84 : decode cX2_mountIn 84 = .ok (.iload_n 3, 1) := by decide +kernel
theorem dX2_mountIn_85 : decode cX2_mountIn 85 = .ok (.invokevirtual 128, 3) := by decide +kernel
theorem dX2_mountIn_88 : decode cX2_mountIn 88 = .ok (.aload_n 0, 1) := by decide +kernel
theorem dX2_mountIn_89 : decode cX2_mountIn 89 = .ok (.dup, 1) := by decide +kernel
theorem dX2_mountIn_90 : decode cX2_mountIn 90 = .ok (.getfield 55, 3) := by decide +kernel
theorem dX2_mountIn_93 : decode cX2_mountIn 93 = .ok (.iload_n 3, 1) := by decide +kernel
theorem dX2_mountIn_94 : decode cX2_mountIn 94 = .ok (.iadd, 1) := by decide +kernel
theorem dX2_mountIn_95 : decode cX2_mountIn 95 = .ok (.putfield 55, 3) := by decide +kernel
theorem dX2_mountIn_98 : decode cX2_mountIn 98 = .ok (.aload_n 0, 1) := by decide +kernel
theorem dX2_mountIn_99 : decode cX2_mountIn 99 = .ok (.iload_n 1, 1) := by decide +kernel
theorem dX2_mountIn_100 : decode cX2_mountIn 100 = .ok (.putfield 46, 3) := by decide +kernel
theorem dX2_mountIn_103 : decode cX2_mountIn 103 = .ok (.iload_n 3, 1) := by decide +kernel
theorem dX2_mountIn_104 : decode cX2_mountIn 104 = .ok (.ireturn, 1) := by decide +kernel
theorem dX2_takeFrom_0 : decode cX2_takeFrom 0 = .ok (.iload_n 1, 1) := by decide +kernel
theorem dX2_takeFrom_1 : decode cX2_takeFrom 1 = .ok (.iconst 0, 1) := by decide +kernel
theorem dX2_takeFrom_2 : decode cX2_takeFrom 2 = .ok (.iconst 1, 1) := by decide +kernel
theorem dX2_takeFrom_3 : decode cX2_takeFrom 3 = .ok (.invokestatic 58, 3) := by decide +kernel
theorem dX2_takeFrom_6 : decode cX2_takeFrom 6 = .ok (.ifCond .ne 6, 3) := by decide +kernel
theorem dX2_takeFrom_9 : decode cX2_takeFrom 9 = .ok (.ldc 66, 2) := by decide +kernel
theorem dX2_takeFrom_11 : decode cX2_takeFrom 11 = .ok (.ireturn, 1) := by decide +kernel
theorem dX2_takeFrom_12 : decode cX2_takeFrom 12 = .ok (.aload_n 0, 1) := by decide +kernel
theorem dX2_takeFrom_13 : decode cX2_takeFrom 13 = .ok (.getfield 32, 3) := by decide +kernel
theorem dX2_takeFrom_16 : decode cX2_takeFrom 16 = .ok (.iload_n 1, 1) := by decide +kernel
theorem dX2_takeFrom_17 : decode cX2_takeFrom 17 = .ok (.invokestatic 115, 3) := by decide +kernel
theorem dX2_takeFrom_20 : decode cX2_takeFrom 20 = .ok (.if_icmp .eq 6, 3) := by decide +kernel
theorem dX2_takeFrom_23 : decode cX2_takeFrom 23 = .ok (.ldc 75, 2) := by decide +kernel
theorem dX2_takeFrom_25 : decode cX2_takeFrom 25 = .ok (.ireturn, 1) := by decide +kernel
theorem dX2_takeFrom_26 : decode cX2_takeFrom 26 = .ok (.aload_n 0, 1) := by decide +kernel
theorem dX2_takeFrom_27 : decode cX2_takeFrom 27 = .ok (.aload_n 0, 1) := by decide +kernel
theorem dX2_takeFrom_28 : decode cX2_takeFrom 28 = .ok (.iload_n 1, 1) := by decide +kernel
theorem dX2_takeFrom_29 : decode cX2_takeFrom 29 = .ok (.invokevirtual 118, 3) := by decide +kernel
theorem dX2_takeFrom_32 : decode cX2_takeFrom 32 = .ok (.iconst 2, 1) := by decide +kernel
theorem dX2_takeFrom_33 : decode cX2_takeFrom 33 = .ok (.invokevirtual 97, 3) := by decide +kernel
theorem dX2_takeFrom_36 : decode cX2_takeFrom 36 = .ok (.ireturn, 1) := by decide +kernel
theorem dX2_holdFile_0 : decode cX2_holdFile 0 = .ok (.aload_n 0, 1) := by decide +kernel
theorem dX2_holdFile_1 : decode cX2_holdFile 1 = .ok (.getfield 12, 3) := by decide +kernel
theorem dX2_holdFile_4 : decode cX2_holdFile 4 = .ok (.iload_n 1, 1) := by decide +kernel
theorem dX2_holdFile_5 : decode cX2_holdFile 5 = .ok (.invokevirtual 79, 3) := by decide +kernel
theorem dX2_holdFile_8 : decode cX2_holdFile 8 = .ok (.ifCond .eq 13, 3) := by decide +kernel
theorem dX2_holdFile_11 : decode cX2_holdFile 11 = .ok (.iload_n 2, 1) := by decide +kernel
theorem dX2_holdFile_12 : decode cX2_holdFile 12 = .ok (.iconst 0, 1) := by decide +kernel
theorem dX2_holdFile_13 : decode cX2_holdFile 13 = .ok (.bipush 59, 2) := by decide +kernel
theorem dX2_holdFile_15 : decode cX2_holdFile 15 = .ok (.invokestatic 58, 3) := by decide +kernel
theorem dX2_holdFile_18 : decode cX2_holdFile 18 = .ok (.ifCond .ne 6, 3) := by decide +kernel
theorem dX2_holdFile_21 : decode cX2_holdFile 21 = .ok (.ldc 66, 2) := by decide +kernel
theorem dX2_holdFile_23 : decode cX2_holdFile 23 = .ok (.ireturn, 1) := by decide +kernel
theorem dX2_holdFile_24 : decode cX2_holdFile 24 = .ok (.aload_n 0, 1) := by decide +kernel
theorem dX2_holdFile_25 : decode cX2_holdFile 25 = .ok (.getfield 12, 3) := by decide +kernel
theorem dX2_holdFile_28 : decode cX2_holdFile 28 = .ok (.iload_n 1, 1) := by decide +kernel
theorem dX2_holdFile_29 : decode cX2_holdFile 29 = .ok (.invokevirtual 86, 3) := by decide +kernel
theorem dX2_holdFile_32 : decode cX2_holdFile 32 = .ok (.iconst (-1), 1) := by decide +kernel
theorem dX2_holdFile_33 : decode cX2_holdFile 33 = .ok (.if_icmp .ne 6, 3) := by decide +kernel
theorem dX2_holdFile_36 : decode cX2_holdFile 36 = .ok (.ldc 75, 2) := by decide +kernel
theorem dX2_holdFile_38 : decode cX2_holdFile 38 = .ok (.ireturn, 1) := by decide +kernel
theorem dX2_holdFile_39 : decode cX2_holdFile 39 = .ok (.aload_n 0, 1) := by decide +kernel
theorem dX2_holdFile_40 : decode cX2_holdFile 40 = .ok (.getfield 12, 3) := by decide +kernel
theorem dX2_holdFile_43 : decode cX2_holdFile 43 = .ok (.iload_n 2, 1) := by decide +kernel
theorem dX2_holdFile_44 : decode cX2_holdFile 44 = .ok (.invokevirtual 131, 3) := by decide +kernel
theorem dX2_holdFile_47 : decode cX2_holdFile 47 = .ok (.istore_n 3, 1) := by decide +kernel
theorem dX2_holdFile_48 : decode cX2_holdFile 48 = .ok (.iload_n 3, 1) := by decide +kernel
theorem dX2_holdFile_49 : decode cX2_holdFile 49 = .ok (.iload_n 1, 1) := by decide +kernel
theorem dX2_holdFile_50 : decode cX2_holdFile 50 = .ok (.if_icmp .eq 18, 3) := by decide +kernel
theorem dX2_holdFile_53 : decode cX2_holdFile 53 = .ok (.aload_n 0, 1) := by decide +kernel
theorem dX2_holdFile_54 : decode cX2_holdFile 54 = .ok (.getfield 12, 3) := by decide +kernel
theorem dX2_holdFile_57 : decode cX2_holdFile 57 = .ok (.iload_n 1, 1) := by decide +kernel
theorem dX2_holdFile_58 : decode cX2_holdFile 58 = .ok (.invokevirtual 134, 3) := by decide +kernel
theorem dX2_holdFile_61 : decode cX2_holdFile 61 = .ok (.iconst 4, 1) := by decide +kernel
theorem dX2_holdFile_62 : decode cX2_holdFile 62 = .ok (.if_icmp .lt 6, 3) := by decide +kernel
theorem dX2_holdFile_65 : decode cX2_holdFile 65 = .ok (.ldc 137, 2) := by decide +kernel
theorem dX2_holdFile_67 : decode cX2_holdFile 67 = .ok (.ireturn, 1) := by decide +kernel
theorem dX2_holdFile_68 : decode cX2_holdFile 68 = .ok (.aload_n 0, 1) := by decide +kernel
theorem dX2_holdFile_69 : decode cX2_holdFile 69 = .ok (.getfield 12, 3) := by decide +kernel
theorem dX2_holdFile_72 : decode cX2_holdFile 72 = .ok (.iload_n 1, 1) := by decide +kernel
theorem dX2_holdFile_73 : decode cX2_holdFile 73 = .ok (.iload_n 2, 1) := by decide +kernel
theorem dX2_holdFile_74 : decode cX2_holdFile 74 = .ok (.invokevirtual 138, 3) := by decide +kernel
theorem dX2_holdFile_77 : decode cX2_holdFile 77 = .ok (.iload_n 3, 1) := by decide +kernel
theorem dX2_holdFile_78 : decode cX2_holdFile 78 = .ok (.ireturn, 1) := by decide +kernel
theorem dX2_addRequest_0 : decode cX2_addRequest 0 = .ok (.iload_n 1, 1) := by decide +kernel
theorem dX2_addRequest_1 : decode cX2_addRequest 1 = .ok (.iconst 0, 1) := by decide +kernel
theorem dX2_addRequest_2 : decode cX2_addRequest 2 = .ok (.bipush 59, 2) := by decide +kernel
theorem dX2_addRequest_4 : decode cX2_addRequest 4 = .ok (.invokestatic 58, 3) := by decide +kernel
theorem dX2_addRequest_7 : decode cX2_addRequest 7 = .ok (.ifCond .eq 13, 3) := by decide +kernel
theorem dX2_addRequest_10 : decode cX2_addRequest 10 = .ok (.iload_n 2, 1) := by decide +kernel
theorem dX2_addRequest_11 : decode cX2_addRequest 11 = .ok (.iconst 0, 1) := by decide +kernel
theorem dX2_addRequest_12 : decode cX2_addRequest 12 = .ok (.bipush 9, 2) := by decide +kernel
theorem dX2_addRequest_14 : decode cX2_addRequest 14 = .ok (.invokestatic 58, 3) := by decide +kernel
theorem dX2_addRequest_17 : decode cX2_addRequest 17 = .ok (.ifCond .ne 6, 3) := by decide +kernel
theorem dX2_addRequest_20 : decode cX2_addRequest 20 = .ok (.ldc 66, 2) := by decide +kernel
theorem dX2_addRequest_22 : decode cX2_addRequest 22 = .ok (.ireturn, 1) := by decide +kernel
theorem dX2_addRequest_23 : decode cX2_addRequest 23 = .ok (.aload_n 0, 1) := by decide +kernel
theorem dX2_addRequest_24 : decode cX2_addRequest 24 = .ok (.getfield 21, 3) := by decide +kernel
theorem dX2_addRequest_27 : decode cX2_addRequest 27 = .ok (.iload_n 1, 1) := by decide +kernel
theorem dX2_addRequest_28 : decode cX2_addRequest 28 = .ok (.iload_n 2, 1) := by decide +kernel
theorem dX2_addRequest_29 : decode cX2_addRequest 29 = .ok (.aload_n 0, 1) := by decide +kernel
theorem dX2_addRequest_30 : decode cX2_addRequest 30 = .ok (.getfield 49, 3) := by decide +kernel
theorem dX2_addRequest_33 : decode cX2_addRequest 33 = .ok (.invokevirtual 141, 3) := by decide +kernel
theorem dX2_addRequest_36 : decode cX2_addRequest 36 = .ok (.ireturn, 1) := by decide +kernel
theorem dX2_serveBy_0 : decode cX2_serveBy 0 = .ok (.iload_n 1, 1) := by decide +kernel
theorem dX2_serveBy_1 : decode cX2_serveBy 1 = .ok (.invokestatic 144, 3) := by decide +kernel
theorem dX2_serveBy_4 : decode cX2_serveBy 4 = .ok (.ifCond .ne 6, 3) := by decide +kernel
theorem dX2_serveBy_7 : decode cX2_serveBy 7 = .ok (.ldc 66, 2) := by decide +kernel
theorem dX2_serveBy_9 : decode cX2_serveBy 9 = .ok (.ireturn, 1) := by decide +kernel
theorem dX2_serveBy_10 : decode cX2_serveBy 10 = .ok (.aload_n 0, 1) := by decide +kernel
theorem dX2_serveBy_11 : decode cX2_serveBy 11 = .ok (.aload_n 0, 1) := by decide +kernel
theorem dX2_serveBy_12 : decode cX2_serveBy 12 = .ok (.iload_n 1, 1) := by decide +kernel
theorem dX2_serveBy_13 : decode cX2_serveBy 13 = .ok (.invokevirtual 147, 3) := by decide +kernel
theorem dX2_serveBy_16 : decode cX2_serveBy 16 = .ok (.invokevirtual 150, 3) := by decide +kernel
theorem dX2_serveBy_19 : decode cX2_serveBy 19 = .ok (.istore_n 2, 1) := by decide +kernel
theorem dX2_serveBy_20 : decode cX2_serveBy 20 = .ok (.aload_n 0, 1) := by decide +kernel
theorem dX2_serveBy_21 : decode cX2_serveBy 21 = .ok (.getfield 40, 3) := by decide +kernel
theorem dX2_serveBy_24 : decode cX2_serveBy 24 = .ok (.ifCond .gt 8, 3) := by decide +kernel
theorem dX2_serveBy_27 : decode cX2_serveBy 27 = .ok (.iload_n 2, 1) := by decide +kernel
theorem dX2_serveBy_28 : decode cX2_serveBy 28 = .ok (.iconst (-1), 1) := by decide +kernel
theorem dX2_serveBy_29 : decode cX2_serveBy 29 = .ok (.if_icmp .ne 6, 3) := by decide +kernel
theorem dX2_serveBy_32 : decode cX2_serveBy 32 = .ok (.ldc 75, 2) := by decide +kernel
theorem dX2_serveBy_34 : decode cX2_serveBy 34 = .ok (.ireturn, 1) := by decide +kernel
theorem dX2_serveBy_35 : decode cX2_serveBy 35 = .ok (.aload_n 0, 1) := by decide +kernel
theorem dX2_serveBy_36 : decode cX2_serveBy 36 = .ok (.iload_n 2, 1) := by decide +kernel
theorem dX2_serveBy_37 : decode cX2_serveBy 37 = .ok (.invokevirtual 153, 3) := by decide +kernel
theorem dX2_serveBy_40 : decode cX2_serveBy 40 = .ok (.istore_n 3, 1) := by decide +kernel
theorem dX2_serveBy_41 : decode cX2_serveBy 41 = .ok (.iload_n 3, 1) := by decide +kernel
theorem dX2_serveBy_42 : decode cX2_serveBy 42 = .ok (.invokestatic 115, 3) := by decide +kernel
theorem dX2_serveBy_45 : decode cX2_serveBy 45 = .ok (.istore 4, 2) := by decide +kernel
theorem dX2_serveBy_47 : decode cX2_serveBy 47 = .ok (.aload_n 0, 1) := by decide +kernel
theorem dX2_serveBy_48 : decode cX2_serveBy 48 = .ok (.iload_n 3, 1) := by decide +kernel
theorem dX2_serveBy_49 : decode cX2_serveBy 49 = .ok (.invokevirtual 118, 3) := by decide +kernel
theorem dX2_serveBy_52 : decode cX2_serveBy 52 = .ok (.iconst (-1), 1) := by decide +kernel
theorem dX2_serveBy_53 : decode cX2_serveBy 53 = .ok (.if_icmp .eq 52, 3) := by decide +kernel
theorem dX2_serveBy_56 : decode cX2_serveBy 56 = .ok (.aload_n 0, 1) := by decide +kernel
theorem dX2_serveBy_57 : decode cX2_serveBy 57 = .ok (.getfield 12, 3) := by decide +kernel
theorem dX2_serveBy_60 : decode cX2_serveBy 60 = .ok (.iload 4, 2) := by decide +kernel
theorem dX2_serveBy_62 : decode cX2_serveBy 62 = .ok (.invokevirtual 156, 3) := by decide +kernel
theorem dX2_serveBy_65 : decode cX2_serveBy 65 = .ok (.istore 5, 2) := by decide +kernel
theorem dX2_serveBy_67 : decode cX2_serveBy 67 = .ok (.iload 5, 2) := by decide +kernel
theorem dX2_serveBy_69 : decode cX2_serveBy 69 = .ok (.iconst (-1), 1) := by decide +kernel
theorem dX2_serveBy_70 : decode cX2_serveBy 70 = .ok (.if_icmp .ne 6, 3) := by decide +kernel
theorem dX2_serveBy_73 : decode cX2_serveBy 73 = .ok (.ldc 75, 2) := by decide +kernel
theorem dX2_serveBy_75 : decode cX2_serveBy 75 = .ok (.ireturn, 1) := by decide +kernel
theorem dX2_serveBy_76 : decode cX2_serveBy 76 = .ok (.aload_n 0, 1) := by decide +kernel
theorem dX2_serveBy_77 : decode cX2_serveBy 77 = .ok (.iload 4, 2) := by decide +kernel
theorem dX2_serveBy_79 : decode cX2_serveBy 79 = .ok (.invokevirtual 159, 3) := by decide +kernel
theorem dX2_serveBy_82 : decode cX2_serveBy 82 = .ok (.aload_n 0, 1) := by decide +kernel
theorem dX2_serveBy_83 : decode cX2_serveBy 83 = .ok (.iload_n 3, 1) := by decide +kernel
theorem dX2_serveBy_84 : decode cX2_serveBy 84 = .ok (.invokevirtual 163, 3) := by decide +kernel
theorem dX2_serveBy_87 : decode cX2_serveBy 87 = .ok (.pop, 1) := by decide +kernel
theorem dX2_serveBy_88 : decode cX2_serveBy 88 = .ok (.aload_n 0, 1) := by decide +kernel
theorem dX2_serveBy_89 : decode cX2_serveBy 89 = .ok (.iload 5, 2) := by decide +kernel
theorem dX2_serveBy_91 : decode cX2_serveBy 91 = .ok (.iconst 4, 1) := by decide +kernel
theorem dX2_serveBy_92 : decode cX2_serveBy 92 = .ok (.idiv, 1) := by decide +kernel
theorem dX2_serveBy_93 : decode cX2_serveBy 93 = .ok (.invokevirtual 159, 3) := by decide +kernel
theorem dX2_serveBy_96 : decode cX2_serveBy 96 = .ok (.aload_n 0, 1) := by decide +kernel
theorem dX2_serveBy_97 : decode cX2_serveBy 97 = .ok (.iload 5, 2) := by decide +kernel
theorem dX2_serveBy_99 : decode cX2_serveBy 99 = .ok (.iconst 4, 1) := by decide +kernel
theorem dX2_serveBy_100 : decode cX2_serveBy 100 = .ok (.irem, 1) := by decide +kernel
theorem dX2_serveBy_101 : decode cX2_serveBy 101 = .ok (.invokevirtual 166, 3) := by decide +kernel
theorem dX2_serveBy_104 : decode cX2_serveBy 104 = .ok (.pop, 1) := by decide +kernel
theorem dX2_serveBy_105 : decode cX2_serveBy 105 = .ok (.aload_n 0, 1) := by decide +kernel
theorem dX2_serveBy_106 : decode cX2_serveBy 106 = .ok (.aload_n 0, 1) := by decide +kernel
theorem dX2_serveBy_107 : decode cX2_serveBy 107 = .ok (.getfield 12, 3) := by decide +kernel
theorem dX2_serveBy_110 : decode cX2_serveBy 110 = .ok (.iload_n 2, 1) := by decide +kernel
theorem dX2_serveBy_111 : decode cX2_serveBy 111 = .ok (.invokevirtual 169, 3) := by decide +kernel
theorem dX2_serveBy_114 : decode cX2_serveBy 114 = .ok (.invokevirtual 159, 3) := by decide +kernel
theorem dX2_serveBy_117 : decode cX2_serveBy 117 = .ok (.aload_n 0, 1) := by decide +kernel
theorem dX2_serveBy_118 : decode cX2_serveBy 118 = .ok (.aload_n 0, 1) := by decide +kernel
theorem dX2_serveBy_119 : decode cX2_serveBy 119 = .ok (.getfield 12, 3) := by decide +kernel
theorem dX2_serveBy_122 : decode cX2_serveBy 122 = .ok (.iload_n 2, 1) := by decide +kernel
theorem dX2_serveBy_123 : decode cX2_serveBy 123 = .ok (.invokevirtual 172, 3) := by decide +kernel
theorem dX2_serveBy_126 : decode cX2_serveBy 126 = .ok (.invokevirtual 175, 3) := by decide +kernel
theorem dX2_serveBy_129 : decode cX2_serveBy 129 = .ok (.pop, 1) := by decide +kernel
theorem dX2_serveBy_130 : decode cX2_serveBy 130 = .ok (.aload_n 0, 1) := by decide +kernel
theorem dX2_serveBy_131 : decode cX2_serveBy 131 = .ok (.iload 4, 2) := by decide +kernel
theorem dX2_serveBy_133 : decode cX2_serveBy 133 = .ok (.invokevirtual 159, 3) := by decide +kernel
theorem dX2_serveBy_136 : decode cX2_serveBy 136 = .ok (.aload_n 0, 1) := by decide +kernel
theorem dX2_serveBy_137 : decode cX2_serveBy 137 = .ok (.iload_n 3, 1) := by decide +kernel
theorem dX2_serveBy_138 : decode cX2_serveBy 138 = .ok (.invokevirtual 178, 3) := by decide +kernel
theorem dX2_serveBy_141 : decode cX2_serveBy 141 = .ok (.ireturn, 1) := by decide +kernel
theorem dX2_serveAllBy_0 : decode cX2_serveAllBy 0 = .ok (.iconst 0, 1) := by decide +kernel
theorem dX2_serveAllBy_1 : decode cX2_serveAllBy 1 = .ok (.istore_n 2, 1) := by decide +kernel
theorem dX2_serveAllBy_2 : decode cX2_serveAllBy 2 = .ok (.iload_n 2, 1) := by decide +kernel
theorem dX2_serveAllBy_3 : decode cX2_serveAllBy 3 = .ok (.bipush 12, 2) := by decide +kernel
theorem dX2_serveAllBy_5 : decode cX2_serveAllBy 5 = .ok (.if_icmp .ge 17, 3) := by decide +kernel
theorem dX2_serveAllBy_8 : decode cX2_serveAllBy 8 = .ok (.aload_n 0, 1) := by decide +kernel
theorem dX2_serveAllBy_9 : decode cX2_serveAllBy 9 = .ok (.iload_n 1, 1) := by decide +kernel
theorem dX2_serveAllBy_10 : decode cX2_serveAllBy 10 = .ok (.invokevirtual 181, 3) := by decide +kernel
theorem dX2_serveAllBy_13 : decode cX2_serveAllBy 13 = .ok (.ifCond .lt 9, 3) := by decide +kernel
theorem dX2_serveAllBy_16 : decode cX2_serveAllBy 16 = .ok (.iinc 2 1, 3) := by decide +kernel
theorem dX2_serveAllBy_19 : decode cX2_serveAllBy 19 = .ok (.goto (-17), 3) := by decide +kernel
theorem dX2_serveAllBy_22 : decode cX2_serveAllBy 22 = .ok (.iload_n 2, 1) := by decide +kernel
theorem dX2_serveAllBy_23 : decode cX2_serveAllBy 23 = .ok (.ireturn, 1) := by decide +kernel
theorem dX2_nextRequest_0 : decode cX2_nextRequest 0 = .ok (.iconst (-1), 1) := by decide +kernel
theorem dX2_nextRequest_1 : decode cX2_nextRequest 1 = .ok (.istore_n 2, 1) := by decide +kernel
theorem dX2_nextRequest_2 : decode cX2_nextRequest 2 = .ok (.iconst 0, 1) := by decide +kernel
theorem dX2_nextRequest_3 : decode cX2_nextRequest 3 = .ok (.istore_n 3, 1) := by decide +kernel
theorem dX2_nextRequest_4 : decode cX2_nextRequest 4 = .ok (.iconst 0, 1) := by decide +kernel
theorem dX2_nextRequest_5 : decode cX2_nextRequest 5 = .ok (.istore 4, 2) := by decide +kernel
theorem dX2_nextRequest_7 : decode cX2_nextRequest 7 = .ok (.iload 4, 2) := by decide +kernel
theorem dX2_nextRequest_9 : decode cX2_nextRequest 9 = .ok (.aload_n 0, 1) := by decide +kernel
theorem dX2_nextRequest_10 : decode cX2_nextRequest 10 = .ok (.getfield 21, 3) := by decide +kernel
theorem dX2_nextRequest_13 : decode cX2_nextRequest 13 = .ok (.getfield 184, 3) := by decide +kernel
theorem dX2_nextRequest_16 : decode cX2_nextRequest 16 = .ok (.if_icmp .ge 123, 3) := by decide +kernel
theorem dX2_nextRequest_19 : decode cX2_nextRequest 19 = .ok (.aload_n 0, 1) := by decide +kernel
theorem dX2_nextRequest_20 : decode cX2_nextRequest 20 = .ok (.iload 4, 2) := by decide +kernel
theorem dX2_nextRequest_22 : decode cX2_nextRequest 22 = .ok (.invokevirtual 150, 3) := by decide +kernel
theorem dX2_nextRequest_25 : decode cX2_nextRequest 25 = .ok (.istore 5, 2) := by decide +kernel
theorem dX2_nextRequest_27 : decode cX2_nextRequest 27 = .ok (.aload_n 0, 1) := by decide +kernel
theorem dX2_nextRequest_28 : decode cX2_nextRequest 28 = .ok (.getfield 12, 3) := by decide +kernel
theorem dX2_nextRequest_31 : decode cX2_nextRequest 31 = .ok (.iload 5, 2) := by decide +kernel
theorem dX2_nextRequest_33 : decode cX2_nextRequest 33 = .ok (.invokevirtual 83, 3) := by decide +kernel
theorem dX2_nextRequest_36 : decode cX2_nextRequest 36 = .ok (.ifCond .eq 97, 3) := by decide +kernel
theorem dX2_nextRequest_39 : decode cX2_nextRequest 39 = .ok (.aload_n 0, 1) := by decide +kernel
theorem dX2_nextRequest_40 : decode cX2_nextRequest 40 = .ok (.getfield 12, 3) := by decide +kernel
theorem dX2_nextRequest_43 : decode cX2_nextRequest 43 = .ok (.iload 5, 2) := by decide +kernel
theorem dX2_nextRequest_45 : decode cX2_nextRequest 45 = .ok (.invokevirtual 121, 3) := by decide +kernel
theorem dX2_nextRequest_48 : decode cX2_nextRequest 48 = .ok (.ifCond .eq 6, 3) := by decide +kernel
theorem dX2_nextRequest_51 : decode cX2_nextRequest 51 = .ok (.goto 82, 3) := by decide +kernel
theorem dX2_nextRequest_54 : decode cX2_nextRequest 54 = .ok (.iconst 0, 1) := by decide +kernel
theorem dX2_nextRequest_55 : decode cX2_nextRequest 55 = .ok (.istore 6, 2) := by decide +kernel
theorem dX2_nextRequest_57 : decode cX2_nextRequest 57 = .ok (.iload_n 1, 1) := by decide +kernel
theorem dX2_nextRequest_58 : decode cX2_nextRequest 58 = .ok (.iconst 1, 1) := by decide +kernel
theorem dX2_nextRequest_59 : decode cX2_nextRequest 59 = .ok (.if_icmp .ne 17, 3) := by decide +kernel
theorem dX2_nextRequest_62 : decode cX2_nextRequest 62 = .ok (.aload_n 0, 1) := by decide +kernel
theorem dX2_nextRequest_63 : decode cX2_nextRequest 63 = .ok (.getfield 21, 3) := by decide +kernel
theorem dX2_nextRequest_66 : decode cX2_nextRequest 66 = .ok (.iload 4, 2) := by decide +kernel
theorem dX2_nextRequest_68 : decode cX2_nextRequest 68 = .ok (.invokevirtual 187, 3) := by decide +kernel
theorem dX2_nextRequest_71 : decode cX2_nextRequest 71 = .ok (.istore 6, 2) := by decide +kernel
theorem dX2_nextRequest_73 : decode cX2_nextRequest 73 = .ok (.goto 43, 3) := by decide +kernel
theorem dX2_nextRequest_76 : decode cX2_nextRequest 76 = .ok (.iload_n 1, 1) := by decide +kernel
theorem dX2_nextRequest_77 : decode cX2_nextRequest 77 = .ok (.iconst 2, 1) := by decide +kernel
theorem dX2_nextRequest_78 : decode cX2_nextRequest 78 = .ok (.if_icmp .ne 25, 3) := by decide +kernel
theorem dX2_nextRequest_81 : decode cX2_nextRequest 81 = .ok (.aload_n 0, 1) := by decide +kernel
theorem dX2_nextRequest_82 : decode cX2_nextRequest 82 = .ok (.getfield 32, 3) := by decide +kernel
theorem dX2_nextRequest_85 : decode cX2_nextRequest 85 = .ok (.aload_n 0, 1) := by decide +kernel
theorem dX2_nextRequest_86 : decode cX2_nextRequest 86 = .ok (.getfield 12, 3) := by decide +kernel
theorem dX2_nextRequest_89 : decode cX2_nextRequest 89 = .ok (.iload 5, 2) := by decide +kernel
theorem dX2_nextRequest_91 : decode cX2_nextRequest 91 = .ok (.invokevirtual 169, 3) := by decide +kernel
theorem dX2_nextRequest_94 : decode cX2_nextRequest 94 = .ok (.invokestatic 190, 3) := by decide +kernel
theorem dX2_nextRequest_97 : decode cX2_nextRequest 97 = .ok (.ineg, 1) := by decide +kernel
theorem dX2_nextRequest_98 : decode cX2_nextRequest 98 = .ok (.istore 6, 2) := by decide +kernel
theorem dX2_nextRequest_100 : decode cX2_nextRequest 100 = .ok (.goto 16, 3) := by decide +kernel
theorem dX2_nextRequest_103 : decode cX2_nextRequest 103 = .ok (.iload_n 1, 1) := by decide +kernel
theorem dX2_nextRequest_104 : decode cX2_nextRequest 104 = .ok (.iconst 3, 1) := by decide +kernel
theorem dX2_nextRequest_105 : decode cX2_nextRequest 105 = .ok (.if_icmp .ne 11, 3) := by decide +kernel
theorem dX2_nextRequest_108 : decode cX2_nextRequest 108 = .ok (.aload_n 0, 1) := by decide +kernel
theorem dX2_nextRequest_109 : decode cX2_nextRequest 109 = .ok (.iload 5, 2) := by decide +kernel
theorem dX2_nextRequest_111 : decode cX2_nextRequest 111 = .ok (.invokevirtual 193, 3) := by decide +kernel
theorem dX2_nextRequest_114 : decode cX2_nextRequest 114 = .ok (.istore 6, 2) := by decide +kernel
theorem dX2_nextRequest_116 : decode cX2_nextRequest 116 = .ok (.iload_n 2, 1) := by decide +kernel
theorem dX2_nextRequest_117 : decode cX2_nextRequest 117 = .ok (.iconst (-1), 1) := by decide +kernel
theorem dX2_nextRequest_118 : decode cX2_nextRequest 118 = .ok (.if_icmp .eq 9, 3) := by decide +kernel
theorem dX2_nextRequest_121 : decode cX2_nextRequest 121 = .ok (.iload 6, 2) := by decide +kernel
theorem dX2_nextRequest_123 : decode cX2_nextRequest 123 = .ok (.iload_n 3, 1) := by decide +kernel
theorem dX2_nextRequest_124 : decode cX2_nextRequest 124 = .ok (.if_icmp .le 9, 3) := by decide +kernel
theorem dX2_nextRequest_127 : decode cX2_nextRequest 127 = .ok (.iload 4, 2) := by decide +kernel
theorem dX2_nextRequest_129 : decode cX2_nextRequest 129 = .ok (.istore_n 2, 1) := by decide +kernel
theorem dX2_nextRequest_130 : decode cX2_nextRequest 130 = .ok (.iload 6, 2) := by decide +kernel
theorem dX2_nextRequest_132 : decode cX2_nextRequest 132 = .ok (.istore_n 3, 1) := by decide +kernel
theorem dX2_nextRequest_133 : decode cX2_nextRequest 133 = .ok (.iinc 4 1, 3) := by decide +kernel
theorem dX2_nextRequest_136 : decode cX2_nextRequest 136 = .ok (.goto (-129), 3) := by decide +kernel
theorem dX2_nextRequest_139 : decode cX2_nextRequest 139 = .ok (.iload_n 2, 1) := by decide +kernel
theorem dX2_nextRequest_140 : decode cX2_nextRequest 140 = .ok (.ireturn, 1) := by decide +kernel
theorem dX2_holderFor_0 : decode cX2_holderFor 0 = .ok (.aload_n 0, 1) := by decide +kernel
theorem dX2_holderFor_1 : decode cX2_holderFor 1 = .ok (.getfield 12, 3) := by decide +kernel
theorem dX2_holderFor_4 : decode cX2_holderFor 4 = .ok (.aload_n 0, 1) := by decide +kernel
theorem dX2_holderFor_5 : decode cX2_holderFor 5 = .ok (.getfield 21, 3) := by decide +kernel
theorem dX2_holderFor_8 : decode cX2_holderFor 8 = .ok (.iload_n 1, 1) := by decide +kernel
theorem dX2_holderFor_9 : decode cX2_holderFor 9 = .ok (.invokevirtual 196, 3) := by decide +kernel
theorem dX2_holderFor_12 : decode cX2_holderFor 12 = .ok (.invokevirtual 131, 3) := by decide +kernel
theorem dX2_holderFor_15 : decode cX2_holderFor 15 = .ok (.ireturn, 1) := by decide +kernel
theorem dX2_driveFor_0 : decode cX2_driveFor 0 = .ok (.aload_n 0, 1) := by decide +kernel
theorem dX2_driveFor_1 : decode cX2_driveFor 1 = .ok (.iconst 0, 1) := by decide +kernel
theorem dX2_driveFor_2 : decode cX2_driveFor 2 = .ok (.invokevirtual 118, 3) := by decide +kernel
theorem dX2_driveFor_5 : decode cX2_driveFor 5 = .ok (.iconst (-1), 1) := by decide +kernel
theorem dX2_driveFor_6 : decode cX2_driveFor 6 = .ok (.if_icmp .ne 7, 3) := by decide +kernel
theorem dX2_driveFor_9 : decode cX2_driveFor 9 = .ok (.iconst 1, 1) := by decide +kernel
theorem dX2_driveFor_10 : decode cX2_driveFor 10 = .ok (.goto 4, 3) := by decide +kernel
theorem dX2_driveFor_13 : decode cX2_driveFor 13 = .ok (.iconst 0, 1) := by decide +kernel
theorem dX2_driveFor_14 : decode cX2_driveFor 14 = .ok (.istore_n 2, 1) := by decide +kernel
theorem dX2_driveFor_15 : decode cX2_driveFor 15 = .ok (.aload_n 0, 1) := by decide +kernel
theorem dX2_driveFor_16 : decode cX2_driveFor 16 = .ok (.iconst 1, 1) := by decide +kernel
theorem dX2_driveFor_17 : decode cX2_driveFor 17 = .ok (.invokevirtual 118, 3) := by decide +kernel
theorem dX2_driveFor_20 : decode cX2_driveFor 20 = .ok (.iconst (-1), 1) := by decide +kernel
theorem dX2_driveFor_21 : decode cX2_driveFor 21 = .ok (.if_icmp .ne 7, 3) := by decide +kernel
theorem dX2_driveFor_24 : decode cX2_driveFor 24 = .ok (.iconst 1, 1) := by decide +kernel
theorem dX2_driveFor_25 : decode cX2_driveFor 25 = .ok (.goto 4, 3) := by decide +kernel
theorem dX2_driveFor_28 : decode cX2_driveFor 28 = .ok (.iconst 0, 1) := by decide +kernel
theorem dX2_driveFor_29 : decode cX2_driveFor 29 = .ok (.istore_n 3, 1) := by decide +kernel
theorem dX2_driveFor_30 : decode cX2_driveFor 30 = .ok (.iload_n 2, 1) := by decide +kernel
theorem dX2_driveFor_31 : decode cX2_driveFor 31 = .ok (.ifCond .eq 44, 3) := by decide +kernel
theorem dX2_driveFor_34 : decode cX2_driveFor 34 = .ok (.iload_n 3, 1) := by decide +kernel
theorem dX2_driveFor_35 : decode cX2_driveFor 35 = .ok (.ifCond .eq 40, 3) := by decide +kernel
theorem dX2_driveFor_38 : decode cX2_driveFor 38 = .ok (.aload_n 0, 1) := by decide +kernel
theorem dX2_driveFor_39 : decode cX2_driveFor 39 = .ok (.getfield 12, 3) := by decide +kernel
theorem dX2_driveFor_42 : decode cX2_driveFor 42 = .ok (.iload_n 1, 1) := by decide +kernel
theorem dX2_driveFor_43 : decode cX2_driveFor 43 = .ok (.invokevirtual 169, 3) := by decide +kernel
theorem dX2_driveFor_46 : decode cX2_driveFor 46 = .ok (.istore 4, 2) := by decide +kernel
theorem dX2_driveFor_48 : decode cX2_driveFor 48 = .ok (.iload 4, 2) := by decide +kernel
theorem dX2_driveFor_50 : decode cX2_driveFor 50 = .ok (.iconst 0, 1) := by decide +kernel
theorem dX2_driveFor_51 : decode cX2_driveFor 51 = .ok (.invokestatic 115, 3) := by decide +kernel
theorem dX2_driveFor_54 : decode cX2_driveFor 54 = .ok (.invokestatic 190, 3) := by decide +kernel
theorem dX2_driveFor_57 : decode cX2_driveFor 57 = .ok (.iload 4, 2) := by decide +kernel
theorem dX2_driveFor_59 : decode cX2_driveFor 59 = .ok (.iconst 1, 1) := by decide +kernel
theorem dX2_driveFor_60 : decode cX2_driveFor 60 = .ok (.invokestatic 115, 3) := by decide +kernel
theorem dX2_driveFor_63 : decode cX2_driveFor 63 = .ok (.invokestatic 190, 3) := by decide +kernel
theorem dX2_driveFor_66 : decode cX2_driveFor 66 = .ok (.if_icmp .gt 7, 3) := by decide +kernel
theorem dX2_driveFor_69 : decode cX2_driveFor 69 = .ok (.iconst 0, 1) := by decide +kernel
theorem dX2_driveFor_70 : decode cX2_driveFor 70 = .ok (.goto 4, 3) := by decide +kernel
theorem dX2_driveFor_73 : decode cX2_driveFor 73 = .ok (.iconst 1, 1) := by decide +kernel
theorem dX2_driveFor_74 : decode cX2_driveFor 74 = .ok (.ireturn, 1) := by decide +kernel
theorem dX2_driveFor_75 : decode cX2_driveFor 75 = .ok (.iload_n 2, 1) := by decide +kernel
theorem dX2_driveFor_76 : decode cX2_driveFor 76 = .ok (.ifCond .ne 20, 3) := by decide +kernel
theorem dX2_driveFor_79 : decode cX2_driveFor 79 = .ok (.iload_n 3, 1) := by decide +kernel
theorem dX2_driveFor_80 : decode cX2_driveFor 80 = .ok (.ifCond .ne 16, 3) := by decide +kernel
theorem dX2_driveFor_83 : decode cX2_driveFor 83 = .ok (.aload_n 0, 1) := by decide +kernel
theorem dX2_driveFor_84 : decode cX2_driveFor 84 = .ok (.getfield 46, 3) := by decide +kernel
theorem dX2_driveFor_87 : decode cX2_driveFor 87 = .ok (.ifCond .ne 7, 3) := by decide +kernel
theorem dX2_driveFor_90 : decode cX2_driveFor 90 = .ok (.iconst 1, 1) := by decide +kernel
theorem dX2_driveFor_91 : decode cX2_driveFor 91 = .ok (.goto 4, 3) := by decide +kernel
theorem dX2_driveFor_94 : decode cX2_driveFor 94 = .ok (.iconst 0, 1) := by decide +kernel
theorem dX2_driveFor_95 : decode cX2_driveFor 95 = .ok (.ireturn, 1) := by decide +kernel
theorem dX2_driveFor_96 : decode cX2_driveFor 96 = .ok (.iload_n 2, 1) := by decide +kernel
theorem dX2_driveFor_97 : decode cX2_driveFor 97 = .ok (.ifCond .eq 7, 3) := by decide +kernel
theorem dX2_driveFor_100 : decode cX2_driveFor 100 = .ok (.iconst 0, 1) := by decide +kernel
theorem dX2_driveFor_101 : decode cX2_driveFor 101 = .ok (.goto 4, 3) := by decide +kernel
theorem dX2_driveFor_104 : decode cX2_driveFor 104 = .ok (.iconst 1, 1) := by decide +kernel
theorem dX2_driveFor_105 : decode cX2_driveFor 105 = .ok (.ireturn, 1) := by decide +kernel
theorem dX2_waitingFor_0 : decode cX2_waitingFor 0 = .ok (.iconst 0, 1) := by decide +kernel
theorem dX2_waitingFor_1 : decode cX2_waitingFor 1 = .ok (.istore_n 2, 1) := by decide +kernel
theorem dX2_waitingFor_2 : decode cX2_waitingFor 2 = .ok (.iconst 0, 1) := by decide +kernel
theorem dX2_waitingFor_3 : decode cX2_waitingFor 3 = .ok (.istore_n 3, 1) := by decide +kernel
theorem dX2_waitingFor_4 : decode cX2_waitingFor 4 = .ok (.iload_n 3, 1) := by decide +kernel
theorem dX2_waitingFor_5 : decode cX2_waitingFor 5 = .ok (.aload_n 0, 1) := by decide +kernel
theorem dX2_waitingFor_6 : decode cX2_waitingFor 6 = .ok (.getfield 21, 3) := by decide +kernel
theorem dX2_waitingFor_9 : decode cX2_waitingFor 9 = .ok (.getfield 184, 3) := by decide +kernel
theorem dX2_waitingFor_12 : decode cX2_waitingFor 12 = .ok (.if_icmp .ge 31, 3) := by decide +kernel
theorem dX2_waitingFor_15 : decode cX2_waitingFor 15 = .ok (.aload_n 0, 1) := by decide +kernel
theorem dX2_waitingFor_16 : decode cX2_waitingFor 16 = .ok (.getfield 12, 3) := by decide +kernel
theorem dX2_waitingFor_19 : decode cX2_waitingFor 19 = .ok (.aload_n 0, 1) := by decide +kernel
theorem dX2_waitingFor_20 : decode cX2_waitingFor 20 = .ok (.getfield 21, 3) := by decide +kernel
theorem dX2_waitingFor_23 : decode cX2_waitingFor 23 = .ok (.iload_n 3, 1) := by decide +kernel
theorem dX2_waitingFor_24 : decode cX2_waitingFor 24 = .ok (.invokevirtual 196, 3) := by decide +kernel
theorem dX2_waitingFor_27 : decode cX2_waitingFor 27 = .ok (.invokevirtual 131, 3) := by decide +kernel
theorem dX2_waitingFor_30 : decode cX2_waitingFor 30 = .ok (.iload_n 1, 1) := by decide +kernel
theorem dX2_waitingFor_31 : decode cX2_waitingFor 31 = .ok (.if_icmp .ne 6, 3) := by decide +kernel
theorem dX2_waitingFor_34 : decode cX2_waitingFor 34 = .ok (.iinc 2 1, 3) := by decide +kernel
theorem dX2_waitingFor_37 : decode cX2_waitingFor 37 = .ok (.iinc 3 1, 3) := by decide +kernel
theorem dX2_waitingFor_40 : decode cX2_waitingFor 40 = .ok (.goto (-36), 3) := by decide +kernel
theorem dX2_waitingFor_43 : decode cX2_waitingFor 43 = .ok (.iload_n 2, 1) := by decide +kernel
theorem dX2_waitingFor_44 : decode cX2_waitingFor 44 = .ok (.ireturn, 1) := by decide +kernel
theorem dX2_goTo_0 : decode cX2_goTo 0 = .ok (.iconst 0, 1) := by decide +kernel
theorem dX2_goTo_1 : decode cX2_goTo 1 = .ok (.istore_n 2, 1) := by decide +kernel
theorem dX2_goTo_2 : decode cX2_goTo 2 = .ok (.iload_n 2, 1) := by decide +kernel
theorem dX2_goTo_3 : decode cX2_goTo 3 = .ok (.bipush 8, 2) := by decide +kernel
theorem dX2_goTo_5 : decode cX2_goTo 5 = .ok (.if_icmp .ge 70, 3) := by decide +kernel
theorem dX2_goTo_8 : decode cX2_goTo 8 = .ok (.aload_n 0, 1) := by decide +kernel
theorem dX2_goTo_9 : decode cX2_goTo 9 = .ok (.getfield 32, 3) := by decide +kernel
theorem dX2_goTo_12 : decode cX2_goTo 12 = .ok (.iload_n 1, 1) := by decide +kernel
theorem dX2_goTo_13 : decode cX2_goTo 13 = .ok (.if_icmp .eq 62, 3) := by decide +kernel
theorem dX2_goTo_16 : decode cX2_goTo 16 = .ok (.aload_n 0, 1) := by decide +kernel
theorem dX2_goTo_17 : decode cX2_goTo 17 = .ok (.invokevirtual 199, 3) := by decide +kernel
theorem dX2_goTo_20 : decode cX2_goTo 20 = .ok (.invokestatic 112, 3) := by decide +kernel
theorem dX2_goTo_23 : decode cX2_goTo 23 = .ok (.istore_n 3, 1) := by decide +kernel
theorem dX2_goTo_24 : decode cX2_goTo 24 = .ok (.aload_n 0, 1) := by decide +kernel
theorem dX2_goTo_25 : decode cX2_goTo 25 = .ok (.getfield 32, 3) := by decide +kernel
theorem dX2_goTo_28 : decode cX2_goTo 28 = .ok (.iload_n 1, 1) := by decide +kernel
theorem dX2_goTo_29 : decode cX2_goTo 29 = .ok (.invokestatic 202, 3) := by decide +kernel
theorem dX2_goTo_32 : decode cX2_goTo 32 = .ok (.istore 4, 2) := by decide +kernel
theorem dX2_goTo_34 : decode cX2_goTo 34 = .ok (.bipush 8, 2) := by decide +kernel
theorem dX2_goTo_36 : decode cX2_goTo 36 = .ok (.iload 4, 2) := by decide +kernel
theorem dX2_goTo_38 : decode cX2_goTo 38 = .ok (.isub, 1) := by decide +kernel
theorem dX2_goTo_39 : decode cX2_goTo 39 = .ok (.istore 5, 2) := by decide +kernel
theorem dX2_goTo_41 : decode cX2_goTo 41 = .ok (.aload_n 0, 1) := by decide +kernel
theorem dX2_goTo_42 : decode cX2_goTo 42 = .ok (.iload 4, 2) := by decide +kernel
theorem dX2_goTo_44 : decode cX2_goTo 44 = .ok (.iload 5, 2) := by decide +kernel
theorem dX2_goTo_46 : decode cX2_goTo 46 = .ok (.if_icmp .gt 12, 3) := by decide +kernel
theorem dX2_goTo_49 : decode cX2_goTo 49 = .ok (.iload 4, 2) := by decide +kernel
theorem dX2_goTo_51 : decode cX2_goTo 51 = .ok (.iload_n 3, 1) := by decide +kernel
theorem dX2_goTo_52 : decode cX2_goTo 52 = .ok (.invokestatic 205, 3) := by decide +kernel
theorem dX2_goTo_55 : decode cX2_goTo 55 = .ok (.goto 10, 3) := by decide +kernel
theorem dX2_goTo_58 : decode cX2_goTo 58 = .ok (.iload 5, 2) := by decide +kernel
theorem dX2_goTo_60 : decode cX2_goTo 60 = .ok (.iload_n 3, 1) := by decide +kernel
theorem dX2_goTo_61 : decode cX2_goTo 61 = .ok (.invokestatic 205, 3) := by decide +kernel
theorem dX2_goTo_64 : decode cX2_goTo 64 = .ok (.ineg, 1) := by decide +kernel
theorem dX2_goTo_65 : decode cX2_goTo 65 = .ok (.invokevirtual 208, 3) := by decide +kernel
theorem dX2_goTo_68 : decode cX2_goTo 68 = .ok (.pop, 1) := by decide +kernel
theorem dX2_goTo_69 : decode cX2_goTo 69 = .ok (.iinc 2 1, 3) := by decide +kernel
theorem dX2_goTo_72 : decode cX2_goTo 72 = .ok (.goto (-70), 3) := by decide +kernel
theorem dX2_goTo_75 : decode cX2_goTo 75 = .ok (.return_, 1) := by decide +kernel
theorem dX2_inDrive_0 : decode cX2_inDrive 0 = .ok (.aload_n 0, 1) := by decide +kernel
theorem dX2_inDrive_1 : decode cX2_inDrive 1 = .ok (.getfield 12, 3) := by decide +kernel
theorem dX2_inDrive_4 : decode cX2_inDrive 4 = .ok (.bipush 35, 2) := by decide +kernel
theorem dX2_inDrive_6 : decode cX2_inDrive 6 = .ok (.iload_n 1, 1) := by decide +kernel
theorem dX2_inDrive_7 : decode cX2_inDrive 7 = .ok (.iadd, 1) := by decide +kernel
theorem dX2_inDrive_8 : decode cX2_inDrive 8 = .ok (.invokevirtual 71, 3) := by decide +kernel
theorem dX2_inDrive_11 : decode cX2_inDrive 11 = .ok (.ireturn, 1) := by decide +kernel
theorem dX2_topOfPile_0 : decode cX2_topOfPile 0 = .ok (.aload_n 0, 1) := by decide +kernel
theorem dX2_topOfPile_1 : decode cX2_topOfPile 1 = .ok (.getfield 40, 3) := by decide +kernel
theorem dX2_topOfPile_4 : decode cX2_topOfPile 4 = .ok (.ifCond .le 22, 3) := by decide +kernel
theorem dX2_topOfPile_7 : decode cX2_topOfPile 7 = .ok (.aload_n 0, 1) := by decide +kernel
theorem dX2_topOfPile_8 : decode cX2_topOfPile 8 = .ok (.getfield 12, 3) := by decide +kernel
theorem dX2_topOfPile_11 : decode cX2_topOfPile 11 = .ok (.bipush 32, 2) := by decide +kernel
theorem dX2_topOfPile_13 : decode cX2_topOfPile 13 = .ok (.aload_n 0, 1) := by decide +kernel
theorem dX2_topOfPile_14 : decode cX2_topOfPile 14 = .ok (.getfield 40, 3) := by decide +kernel
theorem dX2_topOfPile_17 : decode cX2_topOfPile 17 = .ok (.iadd, 1) := by decide +kernel
theorem dX2_topOfPile_18 : decode cX2_topOfPile 18 = .ok (.iconst 1, 1) := by decide +kernel
theorem dX2_topOfPile_19 : decode cX2_topOfPile 19 = .ok (.isub, 1) := by decide +kernel
theorem dX2_topOfPile_20 : decode cX2_topOfPile 20 = .ok (.invokevirtual 71, 3) := by decide +kernel
theorem dX2_topOfPile_23 : decode cX2_topOfPile 23 = .ok (.goto 4, 3) := by decide +kernel
theorem dX2_topOfPile_26 : decode cX2_topOfPile 26 = .ok (.iconst (-1), 1) := by decide +kernel
theorem dX2_topOfPile_27 : decode cX2_topOfPile 27 = .ok (.ireturn, 1) := by decide +kernel
theorem dX2_ontoPile_0 : decode cX2_ontoPile 0 = .ok (.iload_n 1, 1) := by decide +kernel
theorem dX2_ontoPile_1 : decode cX2_ontoPile 1 = .ok (.iconst (-1), 1) := by decide +kernel
theorem dX2_ontoPile_2 : decode cX2_ontoPile 2 = .ok (.if_icmp .ne 6, 3) := by decide +kernel
theorem dX2_ontoPile_5 : decode cX2_ontoPile 5 = .ok (.ldc 75, 2) := by decide +kernel
theorem dX2_ontoPile_7 : decode cX2_ontoPile 7 = .ok (.ireturn, 1) := by decide +kernel
theorem dX2_ontoPile_8 : decode cX2_ontoPile 8 = .ok (.aload_n 0, 1) := by decide +kernel
theorem dX2_ontoPile_9 : decode cX2_ontoPile 9 = .ok (.getfield 40, 3) := by decide +kernel
theorem dX2_ontoPile_12 : decode cX2_ontoPile 12 = .ok (.iconst 3, 1) := by decide +kernel
theorem dX2_ontoPile_13 : decode cX2_ontoPile 13 = .ok (.if_icmp .lt 6, 3) := by decide +kernel
theorem dX2_ontoPile_16 : decode cX2_ontoPile 16 = .ok (.ldc 137, 2) := by decide +kernel
theorem dX2_ontoPile_18 : decode cX2_ontoPile 18 = .ok (.ireturn, 1) := by decide +kernel
theorem dX2_ontoPile_19 : decode cX2_ontoPile 19 = .ok (.aload_n 0, 1) := by decide +kernel
theorem dX2_ontoPile_20 : decode cX2_ontoPile 20 = .ok (.getfield 12, 3) := by decide +kernel
theorem dX2_ontoPile_23 : decode cX2_ontoPile 23 = .ok (.iload_n 1, 1) := by decide +kernel
theorem dX2_ontoPile_24 : decode cX2_ontoPile 24 = .ok (.bipush 32, 2) := by decide +kernel
theorem dX2_ontoPile_26 : decode cX2_ontoPile 26 = .ok (.aload_n 0, 1) := by decide +kernel
theorem dX2_ontoPile_27 : decode cX2_ontoPile 27 = .ok (.getfield 40, 3) := by decide +kernel
theorem dX2_ontoPile_30 : decode cX2_ontoPile 30 = .ok (.iadd, 1) := by decide +kernel
theorem dX2_ontoPile_31 : decode cX2_ontoPile 31 = .ok (.invokevirtual 89, 3) := by decide +kernel
theorem dX2_ontoPile_34 : decode cX2_ontoPile 34 = .ok (.aload_n 0, 1) := by decide +kernel
theorem dX2_ontoPile_35 : decode cX2_ontoPile 35 = .ok (.dup, 1) := by decide +kernel
theorem dX2_ontoPile_36 : decode cX2_ontoPile 36 = .ok (.getfield 40, 3) := by decide +kernel
theorem dX2_ontoPile_39 : decode cX2_ontoPile 39 = .ok (.iconst 1, 1) := by decide +kernel
theorem dX2_ontoPile_40 : decode cX2_ontoPile 40 = .ok (.iadd, 1) := by decide +kernel
theorem dX2_ontoPile_41 : decode cX2_ontoPile 41 = .ok (.putfield 40, 3) := by decide +kernel
theorem dX2_ontoPile_44 : decode cX2_ontoPile 44 = .ok (.aload_n 0, 1) := by decide +kernel
theorem dX2_ontoPile_45 : decode cX2_ontoPile 45 = .ok (.dup, 1) := by decide +kernel
theorem dX2_ontoPile_46 : decode cX2_ontoPile 46 = .ok (.getfield 43, 3) := by decide +kernel
theorem dX2_ontoPile_49 : decode cX2_ontoPile 49 = .ok (.aload_n 0, 1) := by decide +kernel
theorem dX2_ontoPile_50 : decode cX2_ontoPile 50 = .ok (.getfield 12, 3) := by decide +kernel
theorem dX2_ontoPile_53 : decode cX2_ontoPile 53 = .ok (.iload_n 1, 1) := by decide +kernel
theorem dX2_ontoPile_54 : decode cX2_ontoPile 54 = .ok (.invokevirtual 211, 3) := by decide +kernel
theorem dX2_ontoPile_57 : decode cX2_ontoPile 57 = .ok (.iadd, 1) := by decide +kernel
theorem dX2_ontoPile_58 : decode cX2_ontoPile 58 = .ok (.putfield 43, 3) := by decide +kernel
theorem dX2_ontoPile_61 : decode cX2_ontoPile 61 = .ok (.aload_n 0, 1) := by decide +kernel
theorem dX2_ontoPile_62 : decode cX2_ontoPile 62 = .ok (.iconst 0, 1) := by decide +kernel
theorem dX2_ontoPile_63 : decode cX2_ontoPile 63 = .ok (.putfield 36, 3) := by decide +kernel
theorem dX2_ontoPile_66 : decode cX2_ontoPile 66 = .ok (.aload_n 0, 1) := by decide +kernel
theorem dX2_ontoPile_67 : decode cX2_ontoPile 67 = .ok (.dup, 1) := by decide +kernel
theorem dX2_ontoPile_68 : decode cX2_ontoPile 68 = .ok (.getfield 49, 3) := by decide +kernel
theorem dX2_ontoPile_71 : decode cX2_ontoPile 71 = .ok (.iload_n 2, 1) := by decide +kernel
theorem dX2_ontoPile_72 : decode cX2_ontoPile 72 = .ok (.iadd, 1) := by decide +kernel
theorem dX2_ontoPile_73 : decode cX2_ontoPile 73 = .ok (.putfield 49, 3) := by decide +kernel
theorem dX2_ontoPile_76 : decode cX2_ontoPile 76 = .ok (.iload_n 1, 1) := by decide +kernel
theorem dX2_ontoPile_77 : decode cX2_ontoPile 77 = .ok (.ireturn, 1) := by decide +kernel
theorem dX2_offPile_0 : decode cX2_offPile 0 = .ok (.aload_n 0, 1) := by decide +kernel
theorem dX2_offPile_1 : decode cX2_offPile 1 = .ok (.getfield 12, 3) := by decide +kernel
theorem dX2_offPile_4 : decode cX2_offPile 4 = .ok (.iload_n 1, 1) := by decide +kernel
theorem dX2_offPile_5 : decode cX2_offPile 5 = .ok (.iload_n 2, 1) := by decide +kernel
theorem dX2_offPile_6 : decode cX2_offPile 6 = .ok (.invokevirtual 89, 3) := by decide +kernel
theorem dX2_offPile_9 : decode cX2_offPile 9 = .ok (.aload_n 0, 1) := by decide +kernel
theorem dX2_offPile_10 : decode cX2_offPile 10 = .ok (.dup, 1) := by decide +kernel
theorem dX2_offPile_11 : decode cX2_offPile 11 = .ok (.getfield 40, 3) := by decide +kernel
theorem dX2_offPile_14 : decode cX2_offPile 14 = .ok (.iconst 1, 1) := by decide +kernel
theorem dX2_offPile_15 : decode cX2_offPile 15 = .ok (.isub, 1) := by decide +kernel
theorem dX2_offPile_16 : decode cX2_offPile 16 = .ok (.putfield 40, 3) := by decide +kernel
theorem dX2_offPile_19 : decode cX2_offPile 19 = .ok (.aload_n 0, 1) := by decide +kernel
theorem dX2_offPile_20 : decode cX2_offPile 20 = .ok (.dup, 1) := by decide +kernel
theorem dX2_offPile_21 : decode cX2_offPile 21 = .ok (.getfield 43, 3) := by decide +kernel
theorem dX2_offPile_24 : decode cX2_offPile 24 = .ok (.aload_n 0, 1) := by decide +kernel
theorem dX2_offPile_25 : decode cX2_offPile 25 = .ok (.getfield 12, 3) := by decide +kernel
theorem dX2_offPile_28 : decode cX2_offPile 28 = .ok (.iload_n 1, 1) := by decide +kernel
theorem dX2_offPile_29 : decode cX2_offPile 29 = .ok (.invokevirtual 211, 3) := by decide +kernel
theorem dX2_offPile_32 : decode cX2_offPile 32 = .ok (.isub, 1) := by decide +kernel
theorem dX2_offPile_33 : decode cX2_offPile 33 = .ok (.putfield 43, 3) := by decide +kernel
theorem dX2_offPile_36 : decode cX2_offPile 36 = .ok (.aload_n 0, 1) := by decide +kernel
theorem dX2_offPile_37 : decode cX2_offPile 37 = .ok (.iconst 0, 1) := by decide +kernel
theorem dX2_offPile_38 : decode cX2_offPile 38 = .ok (.putfield 36, 3) := by decide +kernel
theorem dX2_offPile_41 : decode cX2_offPile 41 = .ok (.aload_n 0, 1) := by decide +kernel
theorem dX2_offPile_42 : decode cX2_offPile 42 = .ok (.dup, 1) := by decide +kernel
theorem dX2_offPile_43 : decode cX2_offPile 43 = .ok (.getfield 49, 3) := by decide +kernel
theorem dX2_offPile_46 : decode cX2_offPile 46 = .ok (.iload_n 3, 1) := by decide +kernel
theorem dX2_offPile_47 : decode cX2_offPile 47 = .ok (.iadd, 1) := by decide +kernel
theorem dX2_offPile_48 : decode cX2_offPile 48 = .ok (.putfield 49, 3) := by decide +kernel
theorem dX2_offPile_51 : decode cX2_offPile 51 = .ok (.return_, 1) := by decide +kernel
theorem dX3_init_0 : decode cX3_init 0 = .ok (.aload_n 0, 1) := by decide +kernel
theorem dX3_init_1 : decode cX3_init 1 = .ok (.invokespecial 3, 3) := by decide +kernel
theorem dX3_init_4 : decode cX3_init 4 = .ok (.aload_n 0, 1) := by decide +kernel
theorem dX3_init_5 : decode cX3_init 5 = .ok (.bipush 60, 2) := by decide +kernel
theorem dX3_init_7 : decode cX3_init 7 = .ok (.newarray .char, 2) := by decide +kernel
theorem dX3_init_9 : decode cX3_init 9 = .ok (.putfield 9, 3) := by decide +kernel
theorem dX3_init_12 : decode cX3_init 12 = .ok (.return_, 1) := by decide +kernel
theorem dX3_append_0 : decode cX3_append 0 = .ok (.iload_n 1, 1) := by decide +kernel
theorem dX3_append_1 : decode cX3_append 1 = .ok (.bipush 32, 2) := by decide +kernel
theorem dX3_append_3 : decode cX3_append 3 = .ok (.bipush 126, 2) := by decide +kernel
theorem dX3_append_5 : decode cX3_append 5 = .ok (.invokestatic 15, 3) := by decide +kernel
theorem dX3_append_8 : decode cX3_append 8 = .ok (.ifCond .ne 6, 3) := by decide +kernel
theorem dX3_append_11 : decode cX3_append 11 = .ok (.ldc 19, 2) := by decide +kernel
theorem dX3_append_13 : decode cX3_append 13 = .ok (.ireturn, 1) := by decide +kernel
theorem dX3_append_14 : decode cX3_append 14 = .ok (.aload_n 0, 1) := by decide +kernel
theorem dX3_append_15 : decode cX3_append 15 = .ok (.getfield 20, 3) := by decide +kernel
theorem dX3_append_18 : decode cX3_append 18 = .ok (.ifCond .lt 15, 3) := by decide +kernel
theorem dX3_append_21 : decode cX3_append 21 = .ok (.aload_n 0, 1) := by decide +kernel
theorem dX3_append_22 : decode cX3_append 22 = .ok (.getfield 20, 3) := by decide +kernel
theorem dX3_append_25 : decode cX3_append 25 = .ok (.aload_n 0, 1) := by decide +kernel
theorem dX3_append_26 : decode cX3_append 26 = .ok (.getfield 9, 3) := by decide +kernel
theorem dX3_append_29 : decode cX3_append 29 = .ok (.arraylength, 1) := by decide +kernel
theorem dX3_append_30 : decode cX3_append 30 = .ok (.if_icmp .lt 6, 3) := by decide +kernel
theorem dX3_append_33 : decode cX3_append 33 = .ok (.ldc 24, 2) := by decide +kernel
theorem dX3_append_35 : decode cX3_append 35 = .ok (.ireturn, 1) := by decide +kernel
theorem dX3_append_36 : decode cX3_append 36 = .ok (.aload_n 0, 1) := by decide +kernel
theorem dX3_append_37 : decode cX3_append 37 = .ok (.getfield 9, 3) := by decide +kernel
theorem dX3_append_40 : decode cX3_append 40 = .ok (.aload_n 0, 1) := by decide +kernel
theorem dX3_append_41 : decode cX3_append 41 = .ok (.getfield 20, 3) := by decide +kernel
theorem dX3_append_44 : decode cX3_append 44 = .ok (.iload_n 1, 1) := by decide +kernel
theorem dX3_append_45 : decode cX3_append 45 = .ok (.i2c, 1) := by decide +kernel
theorem dX3_append_46 : decode cX3_append 46 = .ok (.castore, 1) := by decide +kernel
theorem dX3_append_47 : decode cX3_append 47 = .ok (.aload_n 0, 1) := by decide +kernel
theorem dX3_append_48 : decode cX3_append 48 = .ok (.dup, 1) := by decide +kernel
theorem dX3_append_49 : decode cX3_append 49 = .ok (.getfield 20, 3) := by decide +kernel
theorem dX3_append_52 : decode cX3_append 52 = .ok (.iconst 1, 1) := by decide +kernel
theorem dX3_append_53 : decode cX3_append 53 = .ok (.iadd, 1) := by decide +kernel
theorem dX3_append_54 : decode cX3_append 54 = .ok (.putfield 20, 3) := by decide +kernel
theorem dX3_append_57 : decode cX3_append 57 = .ok (.aload_n 0, 1) := by decide +kernel
theorem dX3_append_58 : decode cX3_append 58 = .ok (.getfield 20, 3) := by decide +kernel
theorem dX3_append_61 : decode cX3_append 61 = .ok (.ireturn, 1) := by decide +kernel
theorem dX3_empty_0 : decode cX3_empty 0 = .ok (.aload_n 0, 1) := by decide +kernel
theorem dX3_empty_1 : decode cX3_empty 1 = .ok (.getfield 20, 3) := by decide +kernel
theorem dX3_empty_4 : decode cX3_empty 4 = .ok (.istore_n 1, 1) := by decide +kernel
theorem dX3_empty_5 : decode cX3_empty 5 = .ok (.aload_n 0, 1) := by decide +kernel
theorem dX3_empty_6 : decode cX3_empty 6 = .ok (.iconst 0, 1) := by decide +kernel
theorem dX3_empty_7 : decode cX3_empty 7 = .ok (.putfield 20, 3) := by decide +kernel
theorem dX3_empty_10 : decode cX3_empty 10 = .ok (.iload_n 1, 1) := by decide +kernel
theorem dX3_empty_11 : decode cX3_empty 11 = .ok (.ireturn, 1) := by decide +kernel
theorem dX3_doAll_0 : decode cX3_doAll 0 = .ok (.iconst 0, 1) := by decide +kernel
theorem dX3_doAll_1 : decode cX3_doAll 1 = .ok (.istore_n 2, 1) := by decide +kernel
theorem dX3_doAll_2 : decode cX3_doAll 2 = .ok (.iconst 0, 1) := by decide +kernel
theorem dX3_doAll_3 : decode cX3_doAll 3 = .ok (.istore_n 3, 1) := by decide +kernel
theorem dX3_doAll_4 : decode cX3_doAll 4 = .ok (.aload_n 0, 1) := by decide +kernel
theorem dX3_doAll_5 : decode cX3_doAll 5 = .ok (.iconst 0, 1) := by decide +kernel
theorem dX3_doAll_6 : decode cX3_doAll 6 = .ok (.putfield 25, 3) := by decide +kernel
theorem dX3_doAll_9 : decode cX3_doAll 9 = .ok (.iload_n 2, 1) := by decide +kernel
theorem dX3_doAll_10 : decode cX3_doAll 10 = .ok (.bipush 60, 2) := by decide +kernel
theorem dX3_doAll_12 : decode cX3_doAll 12 = .ok (.if_icmp .ge 78, 3) := by decide +kernel
theorem dX3_doAll_15 : decode cX3_doAll 15 = .ok (.iload_n 3, 1) := by decide +kernel
theorem dX3_doAll_16 : decode cX3_doAll 16 = .ok (.aload_n 0, 1) := by decide +kernel
theorem dX3_doAll_17 : decode cX3_doAll 17 = .ok (.getfield 20, 3) := by decide +kernel
theorem dX3_doAll_20 : decode cX3_doAll 20 = .ok (.if_icmp .ge 70, 3) := by decide +kernel
theorem dX3_doAll_23 : decode cX3_doAll 23 = .ok (.aload_n 0, 1) := by decide +kernel
theorem dX3_doAll_24 : decode cX3_doAll 24 = .ok (.iload_n 3, 1) := by decide +kernel
theorem dX3_doAll_25 : decode cX3_doAll 25 = .ok (.invokevirtual 28, 3) := by decide +kernel
theorem dX3_doAll_28 : decode cX3_doAll 28 = .ok (.aload_n 0, 1) := by decide +kernel
theorem dX3_doAll_29 : decode cX3_doAll 29 = .ok (.aload_n 0, 1) := by decide +kernel
theorem dX3_doAll_30 : decode cX3_doAll 30 = .ok (.invokevirtual 32, 3) := by decide +kernel
theorem dX3_doAll_33 : decode cX3_doAll 33 = .ok (.putfield 25, 3) := by decide +kernel
theorem dX3_doAll_36 : decode cX3_doAll 36 = .ok (.aload_n 0, 1) := by decide +kernel
theorem dX3_doAll_37 : decode cX3_doAll 37 = .ok (.getfield 25, 3) := by decide +kernel
theorem dX3_doAll_40 : decode cX3_doAll 40 = .ok (.ifCond .ne 16, 3) := by decide +kernel
theorem dX3_doAll_43 : decode cX3_doAll 43 = .ok (.aload_n 0, 1) := by decide +kernel
theorem dX3_doAll_44 : decode cX3_doAll 44 = .ok (.aload_n 1, 1) := by decide +kernel
theorem dX3_doAll_45 : decode cX3_doAll 45 = .ok (.invokevirtual 36, 3) := by decide +kernel
theorem dX3_doAll_48 : decode cX3_doAll 48 = .ok (.ifCond .ge 8, 3) := by decide +kernel
theorem dX3_doAll_51 : decode cX3_doAll 51 = .ok (.aload_n 0, 1) := by decide +kernel
theorem dX3_doAll_52 : decode cX3_doAll 52 = .ok (.iconst 3, 1) := by decide +kernel
theorem dX3_doAll_53 : decode cX3_doAll 53 = .ok (.putfield 25, 3) := by decide +kernel
theorem dX3_doAll_56 : decode cX3_doAll 56 = .ok (.aload_n 0, 1) := by decide +kernel
theorem dX3_doAll_57 : decode cX3_doAll 57 = .ok (.getfield 25, 3) := by decide +kernel
theorem dX3_doAll_60 : decode cX3_doAll 60 = .ok (.ifCond .eq 19, 3) := by decide +kernel
theorem dX3_doAll_63 : decode cX3_doAll 63 = .ok (.aload_n 0, 1) := by decide +kernel
theorem dX3_doAll_64 : decode cX3_doAll 64 = .ok (.iload_n 3, 1) := by decide +kernel
theorem dX3_doAll_65 : decode cX3_doAll 65 = .ok (.putfield 40, 3) := by decide +kernel
theorem dX3_doAll_68 : decode cX3_doAll 68 = .ok (.aload_n 0, 1) := by decide +kernel
theorem dX3_doAll_69 : decode cX3_doAll 69 = .ok (.aload_n 0, 1) := by decide +kernel
theorem dX3_doAll_70 : decode cX3_doAll 70 = .ok (.getfield 43, 3) := by decide +kernel
theorem dX3_doAll_73 : decode cX3_doAll 73 = .ok (.putfield 46, 3) := by decide +kernel
theorem dX3_doAll_76 : decode cX3_doAll 76 = .ok (.ldc 49, 2) := by decide +kernel
theorem dX3_doAll_78 : decode cX3_doAll 78 = .ok (.ireturn, 1) := by decide +kernel
theorem dX3_doAll_79 : decode cX3_doAll 79 = .ok (.iinc 2 1, 3) := by decide +kernel
theorem dX3_doAll_82 : decode cX3_doAll 82 = .ok (.aload_n 0, 1) := by decide +kernel
theorem dX3_doAll_83 : decode cX3_doAll 83 = .ok (.getfield 50, 3) := by decide +kernel
theorem dX3_doAll_86 : decode cX3_doAll 86 = .ok (.istore_n 3, 1) := by decide +kernel
theorem dX3_doAll_87 : decode cX3_doAll 87 = .ok (.goto (-78), 3) := by decide +kernel
theorem dX3_doAll_90 : decode cX3_doAll 90 = .ok (.iload_n 2, 1) := by decide +kernel
theorem dX3_doAll_91 : decode cX3_doAll 91 = .ok (.ireturn, 1) := by decide +kernel
theorem dX3_aboutFault_0 : decode cX3_aboutFault 0 = .ok (.aload_n 0, 1) := by decide +kernel
theorem dX3_aboutFault_1 : decode cX3_aboutFault 1 = .ok (.getfield 25, 3) := by decide +kernel
theorem dX3_aboutFault_4 : decode cX3_aboutFault 4 = .ok (.ifCond .ne 6, 3) := by decide +kernel
theorem dX3_aboutFault_7 : decode cX3_aboutFault 7 = .ok (.ldc 53, 2) := by decide +kernel
theorem dX3_aboutFault_9 : decode cX3_aboutFault 9 = .ok (.ireturn, 1) := by decide +kernel
theorem dX3_aboutFault_10 : decode cX3_aboutFault 10 = .ok (.iload_n 1, 1) := by decide +kernel
theorem dX3_aboutFault_11 : decode cX3_aboutFault 11 = .ok (.lookupswitch 35 #[(0, 25), (1, 30)], 25) := by decide +kernel
theorem dX3_aboutFault_36 : decode cX3_aboutFault 36 = .ok (.aload_n 0, 1) := by decide +kernel
theorem dX3_aboutFault_37 : decode cX3_aboutFault 37 = .ok (.getfield 40, 3) := by decide +kernel
theorem dX3_aboutFault_40 : decode cX3_aboutFault 40 = .ok (.ireturn, 1) := by decide +kernel
theorem dX3_aboutFault_41 : decode cX3_aboutFault 41 = .ok (.aload_n 0, 1) := by decide +kernel
theorem dX3_aboutFault_42 : decode cX3_aboutFault 42 = .ok (.getfield 25, 3) := by decide +kernel
theorem dX3_aboutFault_45 : decode cX3_aboutFault 45 = .ok (.ireturn, 1) := by decide +kernel
theorem dX3_aboutFault_46 : decode cX3_aboutFault 46 = .ok (.aload_n 0, 1) := by decide +kernel
theorem dX3_aboutFault_47 : decode cX3_aboutFault 47 = .ok (.getfield 25, 3) := by decide +kernel
theorem dX3_aboutFault_50 : decode cX3_aboutFault 50 = .ok (.iconst 1, 1) := by decide +kernel
theorem dX3_aboutFault_51 : decode cX3_aboutFault 51 = .ok (.if_icmp .ne 10, 3) := by decide +kernel
theorem dX3_aboutFault_54 : decode cX3_aboutFault 54 = .ok (.aload_n 0, 1) := by decide +kernel
theorem dX3_aboutFault_55 : decode cX3_aboutFault 55 = .ok (.getfield 46, 3) := by decide +kernel
theorem dX3_aboutFault_58 : decode cX3_aboutFault 58 = .ok (.goto 5, 3) := by decide +kernel
theorem dX3_aboutFault_61 : decode cX3_aboutFault 61 = .ok (.ldc 53, 2) := by decide +kernel
theorem dX3_aboutFault_63 : decode cX3_aboutFault 63 = .ok (.ireturn, 1) := by decide +kernel
theorem dX3_reasonAgainstForm_0 : decode cX3_reasonAgainstForm 0 = .ok (.aload_n 0, 1) := by decide +kernel
theorem dX3_reasonAgainstForm_1 : decode cX3_reasonAgainstForm 1 = .ok (.getfield 43, 3) := by decide +kernel
theorem dX3_reasonAgainstForm_4 : decode cX3_reasonAgainstForm 4 = .ok (.iconst (-1), 1) := by decide +kernel
theorem dX3_reasonAgainstForm_5 : decode cX3_reasonAgainstForm 5 = .ok (.if_icmp .eq 5, 3) := by decide +kernel
theorem dX3_reasonAgainstForm_8 : decode cX3_reasonAgainstForm 8 = .ok (.iconst 1, 1) := by decide +kernel
theorem dX3_reasonAgainstForm_9 : decode cX3_reasonAgainstForm 9 = .ok (.ireturn, 1) := by decide +kernel
theorem dX3_reasonAgainstForm_10 : decode cX3_reasonAgainstForm 10 = .ok (.aload_n 0, 1) := by decide +kernel
theorem dX3_reasonAgainstForm_11 : decode cX3_reasonAgainstForm 11 = .ok (.getfield 54, 3) := by decide +kernel
theorem dX3_reasonAgainstForm_14 : decode cX3_reasonAgainstForm 14 = .ok (.aload_n 0, 1) := by decide +kernel
theorem dX3_reasonAgainstForm_15 : decode cX3_reasonAgainstForm 15 = .ok (.invokevirtual 57, 3) := by decide +kernel
theorem dX3_reasonAgainstForm_18 : decode cX3_reasonAgainstForm 18 = .ok (.aload_n 0, 1) := by decide +kernel
theorem dX3_reasonAgainstForm_19 : decode cX3_reasonAgainstForm 19 = .ok (.invokevirtual 60, 3) := by decide +kernel
theorem dX3_reasonAgainstForm_22 : decode cX3_reasonAgainstForm 22 = .ok (.invokestatic 15, 3) := by decide +kernel
theorem dX3_reasonAgainstForm_25 : decode cX3_reasonAgainstForm 25 = .ok (.ifCond .eq 7, 3) := by decide +kernel
end
section
-- printed decode rows
theorem dX3_reasonAgainstForm_28 : decode cX3_reasonAgainstForm 28 = .ok (.iconst 0, 1) := by decide +kernel
theorem dX3_reasonAgainstForm_29 : decode cX3_reasonAgainstForm 29 = .ok (.goto 4, 3) := by decide +kernel
theorem dX3_reasonAgainstForm_32 : decode cX3_reasonAgainstForm 32 = .ok (.iconst 2, 1) := by decide +kernel
theorem dX3_reasonAgainstForm_33 : decode cX3_reasonAgainstForm 33 = .ok (.ireturn, 1) := by decide +kernel
theorem dX3_carryOut_0 : decode cX3_carryOut 0 = .ok (.aload_n 0, 1) := by decide +kernel
theorem dX3_carryOut_1 : decode cX3_carryOut 1 = .ok (.getfield 63, 3) := by decide +kernel
theorem dX3_carryOut_4 : decode cX3_carryOut 4 = .ok (.tableswitch 104 0 6 #[44, 53, 62, 67, 76, 86, 95], 44) := by decide +kernel
theorem dX3_carryOut_48 : decode cX3_carryOut 48 = .ok (.aload_n 1, 1) := by decide +kernel
theorem dX3_carryOut_49 : decode cX3_carryOut 49 = .ok (.aload_n 0, 1) := by decide +kernel
theorem dX3_carryOut_50 : decode cX3_carryOut 50 = .ok (.getfield 54, 3) := by decide +kernel
theorem dX3_carryOut_53 : decode cX3_carryOut 53 = .ok (.invokevirtual 66, 3) := by decide +kernel
theorem dX3_carryOut_56 : decode cX3_carryOut 56 = .ok (.ireturn, 1) := by decide +kernel
theorem dX3_carryOut_57 : decode cX3_carryOut 57 = .ok (.aload_n 1, 1) := by decide +kernel
theorem dX3_carryOut_58 : decode cX3_carryOut 58 = .ok (.aload_n 0, 1) := by decide +kernel
theorem dX3_carryOut_59 : decode cX3_carryOut 59 = .ok (.getfield 54, 3) := by decide +kernel
theorem dX3_carryOut_62 : decode cX3_carryOut 62 = .ok (.invokevirtual 72, 3) := by decide +kernel
theorem dX3_carryOut_65 : decode cX3_carryOut 65 = .ok (.ireturn, 1) := by decide +kernel
theorem dX3_carryOut_66 : decode cX3_carryOut 66 = .ok (.aload_n 1, 1) := by decide +kernel
theorem dX3_carryOut_67 : decode cX3_carryOut 67 = .ok (.invokevirtual 75, 3) := by decide +kernel
theorem dX3_carryOut_70 : decode cX3_carryOut 70 = .ok (.ireturn, 1) := by decide +kernel
theorem dX3_carryOut_71 : decode cX3_carryOut 71 = .ok (.aload_n 1, 1) := by decide +kernel
theorem dX3_carryOut_72 : decode cX3_carryOut 72 = .ok (.aload_n 0, 1) := by decide +kernel
theorem dX3_carryOut_73 : decode cX3_carryOut 73 = .ok (.getfield 54, 3) := by decide +kernel
theorem dX3_carryOut_76 : decode cX3_carryOut 76 = .ok (.invokevirtual 78, 3) := by decide +kernel
theorem dX3_carryOut_79 : decode cX3_carryOut 79 = .ok (.ireturn, 1) := by decide +kernel
theorem dX3_carryOut_80 : decode cX3_carryOut 80 = .ok (.aload_n 1, 1) := by decide +kernel
theorem dX3_carryOut_81 : decode cX3_carryOut 81 = .ok (.aload_n 0, 1) := by decide +kernel
theorem dX3_carryOut_82 : decode cX3_carryOut 82 = .ok (.getfield 54, 3) := by decide +kernel
theorem dX3_carryOut_85 : decode cX3_carryOut 85 = .ok (.ineg, 1) := by decide +kernel
theorem dX3_carryOut_86 : decode cX3_carryOut 86 = .ok (.invokevirtual 78, 3) := by decide +kernel
theorem dX3_carryOut_89 : decode cX3_carryOut 89 = .ok (.ireturn, 1) := by decide +kernel
theorem dX3_carryOut_90 : decode cX3_carryOut 90 = .ok (.aload_n 1, 1) := by decide +kernel
theorem dX3_carryOut_91 : decode cX3_carryOut 91 = .ok (.aload_n 0, 1) := by decide +kernel
theorem dX3_carryOut_92 : decode cX3_carryOut 92 = .ok (.getfield 54, 3) := by decide +kernel
theorem dX3_carryOut_95 : decode cX3_carryOut 95 = .ok (.invokevirtual 81, 3) := by decide +kernel
theorem dX3_carryOut_98 : decode cX3_carryOut 98 = .ok (.ireturn, 1) := by decide +kernel
theorem dX3_carryOut_99 : decode cX3_carryOut 99 = .ok (.aload_n 1, 1) := by decide +kernel
theorem dX3_carryOut_100 : decode cX3_carryOut 100 = .ok (.aload_n 0, 1) := by decide +kernel
theorem dX3_carryOut_101 : decode cX3_carryOut 101 = .ok (.getfield 54, 3) := by decide +kernel
theorem dX3_carryOut_104 : decode cX3_carryOut 104 = .ok (.invokevirtual 84, 3) := by decide +kernel
theorem dX3_carryOut_107 : decode cX3_carryOut 107 = .ok (.ireturn, 1) := by decide +kernel
theorem dX3_carryOut_108 : decode cX3_carryOut 108 = .ok (.aload_n 1, 1) := by decide +kernel
theorem dX3_carryOut_109 : decode cX3_carryOut 109 = .ok (.aload_n 0, 1) := by decide +kernel
theorem dX3_carryOut_110 : decode cX3_carryOut 110 = .ok (.getfield 54, 3) := by decide +kernel
theorem dX3_carryOut_113 : decode cX3_carryOut 113 = .ok (.invokevirtual 87, 3) := by decide +kernel
theorem dX3_carryOut_116 : decode cX3_carryOut 116 = .ok (.ireturn, 1) := by decide +kernel
theorem dX3_lowestNumber_0 : decode cX3_lowestNumber 0 = .ok (.aload_n 0, 1) := by decide +kernel
theorem dX3_lowestNumber_1 : decode cX3_lowestNumber 1 = .ok (.getfield 63, 3) := by decide +kernel
theorem dX3_lowestNumber_4 : decode cX3_lowestNumber 4 = .ok (.iconst 3, 1) := by decide +kernel
theorem dX3_lowestNumber_5 : decode cX3_lowestNumber 5 = .ok (.if_icmp .eq 11, 3) := by decide +kernel
theorem dX3_lowestNumber_8 : decode cX3_lowestNumber 8 = .ok (.aload_n 0, 1) := by decide +kernel
theorem dX3_lowestNumber_9 : decode cX3_lowestNumber 9 = .ok (.getfield 63, 3) := by decide +kernel
theorem dX3_lowestNumber_12 : decode cX3_lowestNumber 12 = .ok (.iconst 4, 1) := by decide +kernel
theorem dX3_lowestNumber_13 : decode cX3_lowestNumber 13 = .ok (.if_icmp .ne 7, 3) := by decide +kernel
theorem dX3_lowestNumber_16 : decode cX3_lowestNumber 16 = .ok (.iconst 1, 1) := by decide +kernel
theorem dX3_lowestNumber_17 : decode cX3_lowestNumber 17 = .ok (.goto 4, 3) := by decide +kernel
theorem dX3_lowestNumber_20 : decode cX3_lowestNumber 20 = .ok (.iconst 0, 1) := by decide +kernel
theorem dX3_lowestNumber_21 : decode cX3_lowestNumber 21 = .ok (.ireturn, 1) := by decide +kernel
theorem dX3_greatestNumber_0 : decode cX3_greatestNumber 0 = .ok (.aload_n 0, 1) := by decide +kernel
theorem dX3_greatestNumber_1 : decode cX3_greatestNumber 1 = .ok (.getfield 63, 3) := by decide +kernel
theorem dX3_greatestNumber_4 : decode cX3_greatestNumber 4 = .ok (.tableswitch 50 0 6 #[44, 44, 50, 46, 46, 48, 48], 44) := by decide +kernel
theorem dX3_greatestNumber_48 : decode cX3_greatestNumber 48 = .ok (.iconst 3, 1) := by decide +kernel
theorem dX3_greatestNumber_49 : decode cX3_greatestNumber 49 = .ok (.ireturn, 1) := by decide +kernel
theorem dX3_greatestNumber_50 : decode cX3_greatestNumber 50 = .ok (.iconst 4, 1) := by decide +kernel
theorem dX3_greatestNumber_51 : decode cX3_greatestNumber 51 = .ok (.ireturn, 1) := by decide +kernel
theorem dX3_greatestNumber_52 : decode cX3_greatestNumber 52 = .ok (.iconst 1, 1) := by decide +kernel
theorem dX3_greatestNumber_53 : decode cX3_greatestNumber 53 = .ok (.ireturn, 1) := by decide +kernel
theorem dX3_greatestNumber_54 : decode cX3_greatestNumber 54 = .ok (.iconst 3, 1) := by decide +kernel
theorem dX3_greatestNumber_55 : decode cX3_greatestNumber 55 = .ok (.ireturn, 1) := by decide +kernel
theorem dX3_read_0 : decode cX3_read 0 = .ok (.aload_n 0, 1) := by decide +kernel
theorem dX3_read_1 : decode cX3_read 1 = .ok (.iload_n 1, 1) := by decide +kernel
theorem dX3_read_2 : decode cX3_read 2 = .ok (.invokevirtual 90, 3) := by decide +kernel
theorem dX3_read_5 : decode cX3_read 5 = .ok (.istore_n 2, 1) := by decide +kernel
theorem dX3_read_6 : decode cX3_read 6 = .ok (.aload_n 0, 1) := by decide +kernel
theorem dX3_read_7 : decode cX3_read 7 = .ok (.aload_n 0, 1) := by decide +kernel
theorem dX3_read_8 : decode cX3_read 8 = .ok (.iload_n 1, 1) := by decide +kernel
theorem dX3_read_9 : decode cX3_read 9 = .ok (.iload_n 2, 1) := by decide +kernel
theorem dX3_read_10 : decode cX3_read 10 = .ok (.invokevirtual 93, 3) := by decide +kernel
theorem dX3_read_13 : decode cX3_read 13 = .ok (.putfield 63, 3) := by decide +kernel
theorem dX3_read_16 : decode cX3_read 16 = .ok (.aload_n 0, 1) := by decide +kernel
theorem dX3_read_17 : decode cX3_read 17 = .ok (.iconst 0, 1) := by decide +kernel
theorem dX3_read_18 : decode cX3_read 18 = .ok (.putfield 54, 3) := by decide +kernel
theorem dX3_read_21 : decode cX3_read 21 = .ok (.aload_n 0, 1) := by decide +kernel
theorem dX3_read_22 : decode cX3_read 22 = .ok (.iload_n 1, 1) := by decide +kernel
theorem dX3_read_23 : decode cX3_read 23 = .ok (.iload_n 2, 1) := by decide +kernel
theorem dX3_read_24 : decode cX3_read 24 = .ok (.iadd, 1) := by decide +kernel
theorem dX3_read_25 : decode cX3_read 25 = .ok (.putfield 50, 3) := by decide +kernel
theorem dX3_read_28 : decode cX3_read 28 = .ok (.aload_n 0, 1) := by decide +kernel
theorem dX3_read_29 : decode cX3_read 29 = .ok (.getfield 63, 3) := by decide +kernel
theorem dX3_read_32 : decode cX3_read 32 = .ok (.iconst (-1), 1) := by decide +kernel
theorem dX3_read_33 : decode cX3_read 33 = .ok (.if_icmp .ne 9, 3) := by decide +kernel
theorem dX3_read_36 : decode cX3_read 36 = .ok (.aload_n 0, 1) := by decide +kernel
theorem dX3_read_37 : decode cX3_read 37 = .ok (.iconst 0, 1) := by decide +kernel
theorem dX3_read_38 : decode cX3_read 38 = .ok (.putfield 43, 3) := by decide +kernel
theorem dX3_read_41 : decode cX3_read 41 = .ok (.return_, 1) := by decide +kernel
theorem dX3_read_42 : decode cX3_read 42 = .ok (.aload_n 0, 1) := by decide +kernel
theorem dX3_read_43 : decode cX3_read 43 = .ok (.getfield 63, 3) := by decide +kernel
theorem dX3_read_46 : decode cX3_read 46 = .ok (.iconst 2, 1) := by decide +kernel
theorem dX3_read_47 : decode cX3_read 47 = .ok (.if_icmp .eq 19, 3) := by decide +kernel
theorem dX3_read_50 : decode cX3_read 50 = .ok (.aload_n 0, 1) := by decide +kernel
theorem dX3_read_51 : decode cX3_read 51 = .ok (.bipush 32, 2) := by decide +kernel
theorem dX3_read_53 : decode cX3_read 53 = .ok (.invokevirtual 97, 3) := by decide +kernel
theorem dX3_read_56 : decode cX3_read 56 = .ok (.ifCond .eq 23, 3) := by decide +kernel
theorem dX3_read_59 : decode cX3_read 59 = .ok (.aload_n 0, 1) := by decide +kernel
theorem dX3_read_60 : decode cX3_read 60 = .ok (.invokevirtual 101, 3) := by decide +kernel
theorem dX3_read_63 : decode cX3_read 63 = .ok (.ifCond .eq 16, 3) := by decide +kernel
theorem dX3_read_66 : decode cX3_read 66 = .ok (.aload_n 0, 1) := by decide +kernel
theorem dX3_read_67 : decode cX3_read 67 = .ok (.bipush 59, 2) := by decide +kernel
theorem dX3_read_69 : decode cX3_read 69 = .ok (.invokevirtual 97, 3) := by decide +kernel
theorem dX3_read_72 : decode cX3_read 72 = .ok (.ifCond .eq 7, 3) := by decide +kernel
theorem dX3_read_75 : decode cX3_read 75 = .ok (.iconst 1, 1) := by decide +kernel
theorem dX3_read_76 : decode cX3_read 76 = .ok (.goto 4, 3) := by decide +kernel
theorem dX3_read_79 : decode cX3_read 79 = .ok (.iconst 0, 1) := by decide +kernel
theorem dX3_read_80 : decode cX3_read 80 = .ok (.istore_n 3, 1) := by decide +kernel
theorem dX3_read_81 : decode cX3_read 81 = .ok (.aload_n 0, 1) := by decide +kernel
theorem dX3_read_82 : decode cX3_read 82 = .ok (.iload_n 3, 1) := by decide +kernel
theorem dX3_read_83 : decode cX3_read 83 = .ok (.ifCond .eq 7, 3) := by decide +kernel
theorem dX3_read_86 : decode cX3_read 86 = .ok (.iconst (-1), 1) := by decide +kernel
theorem dX3_read_87 : decode cX3_read 87 = .ok (.goto 9, 3) := by decide +kernel
theorem dX3_read_90 : decode cX3_read 90 = .ok (.aload_n 0, 1) := by decide +kernel
theorem dX3_read_91 : decode cX3_read 91 = .ok (.getfield 50, 3) := by decide +kernel
theorem dX3_read_94 : decode cX3_read 94 = .ok (.iload_n 1, 1) := by decide +kernel
theorem dX3_read_95 : decode cX3_read 95 = .ok (.isub, 1) := by decide +kernel
theorem dX3_read_96 : decode cX3_read 96 = .ok (.putfield 43, 3) := by decide +kernel
theorem dX3_read_99 : decode cX3_read 99 = .ok (.return_, 1) := by decide +kernel
theorem dX3_readSign_0 : decode cX3_readSign 0 = .ok (.aload_n 0, 1) := by decide +kernel
theorem dX3_readSign_1 : decode cX3_readSign 1 = .ok (.aload_n 0, 1) := by decide +kernel
theorem dX3_readSign_2 : decode cX3_readSign 2 = .ok (.getfield 50, 3) := by decide +kernel
theorem dX3_readSign_5 : decode cX3_readSign 5 = .ok (.invokevirtual 105, 3) := by decide +kernel
theorem dX3_readSign_8 : decode cX3_readSign 8 = .ok (.iload_n 1, 1) := by decide +kernel
theorem dX3_readSign_9 : decode cX3_readSign 9 = .ok (.if_icmp .eq 5, 3) := by decide +kernel
theorem dX3_readSign_12 : decode cX3_readSign 12 = .ok (.iconst 0, 1) := by decide +kernel
theorem dX3_readSign_13 : decode cX3_readSign 13 = .ok (.ireturn, 1) := by decide +kernel
theorem dX3_readSign_14 : decode cX3_readSign 14 = .ok (.aload_n 0, 1) := by decide +kernel
theorem dX3_readSign_15 : decode cX3_readSign 15 = .ok (.dup, 1) := by decide +kernel
theorem dX3_readSign_16 : decode cX3_readSign 16 = .ok (.getfield 50, 3) := by decide +kernel
theorem dX3_readSign_19 : decode cX3_readSign 19 = .ok (.iconst 1, 1) := by decide +kernel
theorem dX3_readSign_20 : decode cX3_readSign 20 = .ok (.iadd, 1) := by decide +kernel
theorem dX3_readSign_21 : decode cX3_readSign 21 = .ok (.putfield 50, 3) := by decide +kernel
theorem dX3_readSign_24 : decode cX3_readSign 24 = .ok (.iconst 1, 1) := by decide +kernel
theorem dX3_readSign_25 : decode cX3_readSign 25 = .ok (.ireturn, 1) := by decide +kernel
theorem dX3_readDigit_0 : decode cX3_readDigit 0 = .ok (.aload_n 0, 1) := by decide +kernel
theorem dX3_readDigit_1 : decode cX3_readDigit 1 = .ok (.aload_n 0, 1) := by decide +kernel
theorem dX3_readDigit_2 : decode cX3_readDigit 2 = .ok (.getfield 50, 3) := by decide +kernel
theorem dX3_readDigit_5 : decode cX3_readDigit 5 = .ok (.invokevirtual 105, 3) := by decide +kernel
theorem dX3_readDigit_8 : decode cX3_readDigit 8 = .ok (.istore_n 1, 1) := by decide +kernel
theorem dX3_readDigit_9 : decode cX3_readDigit 9 = .ok (.iload_n 1, 1) := by decide +kernel
theorem dX3_readDigit_10 : decode cX3_readDigit 10 = .ok (.bipush 48, 2) := by decide +kernel
theorem dX3_readDigit_12 : decode cX3_readDigit 12 = .ok (.bipush 57, 2) := by decide +kernel
theorem dX3_readDigit_14 : decode cX3_readDigit 14 = .ok (.invokestatic 15, 3) := by decide +kernel
theorem dX3_readDigit_17 : decode cX3_readDigit 17 = .ok (.ifCond .ne 5, 3) := by decide +kernel
theorem dX3_readDigit_20 : decode cX3_readDigit 20 = .ok (.iconst 0, 1) := by decide +kernel
theorem dX3_readDigit_21 : decode cX3_readDigit 21 = .ok (.ireturn, 1) := by decide +kernel
theorem dX3_readDigit_22 : decode cX3_readDigit 22 = .ok (.aload_n 0, 1) := by decide +kernel
theorem dX3_readDigit_23 : decode cX3_readDigit 23 = .ok (.iload_n 1, 1) := by decide +kernel
theorem dX3_readDigit_24 : decode cX3_readDigit 24 = .ok (.bipush 48, 2) := by decide +kernel
theorem dX3_readDigit_26 : decode cX3_readDigit 26 = .ok (.isub, 1) := by decide +kernel
theorem dX3_readDigit_27 : decode cX3_readDigit 27 = .ok (.putfield 54, 3) := by decide +kernel
theorem dX3_readDigit_30 : decode cX3_readDigit 30 = .ok (.aload_n 0, 1) := by decide +kernel
theorem dX3_readDigit_31 : decode cX3_readDigit 31 = .ok (.dup, 1) := by decide +kernel
theorem dX3_readDigit_32 : decode cX3_readDigit 32 = .ok (.getfield 50, 3) := by decide +kernel
theorem dX3_readDigit_35 : decode cX3_readDigit 35 = .ok (.iconst 1, 1) := by decide +kernel
theorem dX3_readDigit_36 : decode cX3_readDigit 36 = .ok (.iadd, 1) := by decide +kernel
theorem dX3_readDigit_37 : decode cX3_readDigit 37 = .ok (.putfield 50, 3) := by decide +kernel
theorem dX3_readDigit_40 : decode cX3_readDigit 40 = .ok (.iconst 1, 1) := by decide +kernel
theorem dX3_readDigit_41 : decode cX3_readDigit 41 = .ok (.ireturn, 1) := by decide +kernel
theorem dX3_lettersFrom_0 : decode cX3_lettersFrom 0 = .ok (.iconst 0, 1) := by decide +kernel
theorem dX3_lettersFrom_1 : decode cX3_lettersFrom 1 = .ok (.istore_n 2, 1) := by decide +kernel
theorem dX3_lettersFrom_2 : decode cX3_lettersFrom 2 = .ok (.iload_n 2, 1) := by decide +kernel
theorem dX3_lettersFrom_3 : decode cX3_lettersFrom 3 = .ok (.bipush 60, 2) := by decide +kernel
theorem dX3_lettersFrom_5 : decode cX3_lettersFrom 5 = .ok (.if_icmp .ge 26, 3) := by decide +kernel
theorem dX3_lettersFrom_8 : decode cX3_lettersFrom 8 = .ok (.aload_n 0, 1) := by decide +kernel
theorem dX3_lettersFrom_9 : decode cX3_lettersFrom 9 = .ok (.iload_n 1, 1) := by decide +kernel
theorem dX3_lettersFrom_10 : decode cX3_lettersFrom 10 = .ok (.iload_n 2, 1) := by decide +kernel
theorem dX3_lettersFrom_11 : decode cX3_lettersFrom 11 = .ok (.iadd, 1) := by decide +kernel
theorem dX3_lettersFrom_12 : decode cX3_lettersFrom 12 = .ok (.invokevirtual 105, 3) := by decide +kernel
theorem dX3_lettersFrom_15 : decode cX3_lettersFrom 15 = .ok (.bipush 97, 2) := by decide +kernel
theorem dX3_lettersFrom_17 : decode cX3_lettersFrom 17 = .ok (.bipush 122, 2) := by decide +kernel
theorem dX3_lettersFrom_19 : decode cX3_lettersFrom 19 = .ok (.invokestatic 15, 3) := by decide +kernel
theorem dX3_lettersFrom_22 : decode cX3_lettersFrom 22 = .ok (.ifCond .eq 9, 3) := by decide +kernel
theorem dX3_lettersFrom_25 : decode cX3_lettersFrom 25 = .ok (.iinc 2 1, 3) := by decide +kernel
theorem dX3_lettersFrom_28 : decode cX3_lettersFrom 28 = .ok (.goto (-26), 3) := by decide +kernel
theorem dX3_lettersFrom_31 : decode cX3_lettersFrom 31 = .ok (.iload_n 2, 1) := by decide +kernel
theorem dX3_lettersFrom_32 : decode cX3_lettersFrom 32 = .ok (.ireturn, 1) := by decide +kernel
theorem dX3_wordOf_0 : decode cX3_wordOf 0 = .ok (.iconst 0, 1) := by decide +kernel
theorem dX3_wordOf_1 : decode cX3_wordOf 1 = .ok (.istore_n 3, 1) := by decide +kernel
theorem dX3_wordOf_2 : decode cX3_wordOf 2 = .ok (.iload_n 3, 1) := by decide +kernel
theorem dX3_wordOf_3 : decode cX3_wordOf 3 = .ok (.bipush 8, 2) := by decide +kernel
theorem dX3_wordOf_5 : decode cX3_wordOf 5 = .ok (.if_icmp .ge 24, 3) := by decide +kernel
theorem dX3_wordOf_8 : decode cX3_wordOf 8 = .ok (.aload_n 0, 1) := by decide +kernel
theorem dX3_wordOf_9 : decode cX3_wordOf 9 = .ok (.iload_n 1, 1) := by decide +kernel
theorem dX3_wordOf_10 : decode cX3_wordOf 10 = .ok (.iload_n 2, 1) := by decide +kernel
theorem dX3_wordOf_11 : decode cX3_wordOf 11 = .ok (.iload_n 3, 1) := by decide +kernel
theorem dX3_wordOf_12 : decode cX3_wordOf 12 = .ok (.invokestatic 108, 3) := by decide +kernel
theorem dX3_wordOf_15 : decode cX3_wordOf 15 = .ok (.invokevirtual 112, 3) := by decide +kernel
theorem dX3_wordOf_18 : decode cX3_wordOf 18 = .ok (.ifCond .eq 5, 3) := by decide +kernel
theorem dX3_wordOf_21 : decode cX3_wordOf 21 = .ok (.iload_n 3, 1) := by decide +kernel
theorem dX3_wordOf_22 : decode cX3_wordOf 22 = .ok (.ireturn, 1) := by decide +kernel
theorem dX3_wordOf_23 : decode cX3_wordOf 23 = .ok (.iinc 3 1, 3) := by decide +kernel
theorem dX3_wordOf_26 : decode cX3_wordOf 26 = .ok (.goto (-24), 3) := by decide +kernel
theorem dX3_wordOf_29 : decode cX3_wordOf 29 = .ok (.iconst (-1), 1) := by decide +kernel
theorem dX3_wordOf_30 : decode cX3_wordOf 30 = .ok (.ireturn, 1) := by decide +kernel
theorem dX3_standsAt_0 : decode cX3_standsAt 0 = .ok (.aload_n 3, 1) := by decide +kernel
theorem dX3_standsAt_1 : decode cX3_standsAt 1 = .ok (.invokevirtual 116, 3) := by decide +kernel
theorem dX3_standsAt_4 : decode cX3_standsAt 4 = .ok (.iload_n 2, 1) := by decide +kernel
theorem dX3_standsAt_5 : decode cX3_standsAt 5 = .ok (.if_icmp .eq 5, 3) := by decide +kernel
theorem dX3_standsAt_8 : decode cX3_standsAt 8 = .ok (.iconst 0, 1) := by decide +kernel
theorem dX3_standsAt_9 : decode cX3_standsAt 9 = .ok (.ireturn, 1) := by decide +kernel
theorem dX3_standsAt_10 : decode cX3_standsAt 10 = .ok (.iconst 0, 1) := by decide +kernel
theorem dX3_standsAt_11 : decode cX3_standsAt 11 = .ok (.istore 4, 2) := by decide +kernel
theorem dX3_standsAt_13 : decode cX3_standsAt 13 = .ok (.iload 4, 2) := by decide +kernel
theorem dX3_standsAt_15 : decode cX3_standsAt 15 = .ok (.aload_n 3, 1) := by decide +kernel
theorem dX3_standsAt_16 : decode cX3_standsAt 16 = .ok (.invokevirtual 116, 3) := by decide +kernel
theorem dX3_standsAt_19 : decode cX3_standsAt 19 = .ok (.if_icmp .ge 28, 3) := by decide +kernel
theorem dX3_standsAt_22 : decode cX3_standsAt 22 = .ok (.aload_n 0, 1) := by decide +kernel
theorem dX3_standsAt_23 : decode cX3_standsAt 23 = .ok (.iload_n 1, 1) := by decide +kernel
theorem dX3_standsAt_24 : decode cX3_standsAt 24 = .ok (.iload 4, 2) := by decide +kernel
theorem dX3_standsAt_26 : decode cX3_standsAt 26 = .ok (.iadd, 1) := by decide +kernel
theorem dX3_standsAt_27 : decode cX3_standsAt 27 = .ok (.invokevirtual 105, 3) := by decide +kernel
theorem dX3_standsAt_30 : decode cX3_standsAt 30 = .ok (.aload_n 3, 1) := by decide +kernel
theorem dX3_standsAt_31 : decode cX3_standsAt 31 = .ok (.iload 4, 2) := by decide +kernel
theorem dX3_standsAt_33 : decode cX3_standsAt 33 = .ok (.invokevirtual 120, 3) := by decide +kernel
theorem dX3_standsAt_36 : decode cX3_standsAt 36 = .ok (.if_icmp .eq 5, 3) := by decide +kernel
theorem dX3_standsAt_39 : decode cX3_standsAt 39 = .ok (.iconst 0, 1) := by decide +kernel
theorem dX3_standsAt_40 : decode cX3_standsAt 40 = .ok (.ireturn, 1) := by decide +kernel
theorem dX3_standsAt_41 : decode cX3_standsAt 41 = .ok (.iinc 4 1, 3) := by decide +kernel
theorem dX3_standsAt_44 : decode cX3_standsAt 44 = .ok (.goto (-31), 3) := by decide +kernel
theorem dX3_standsAt_47 : decode cX3_standsAt 47 = .ok (.iconst 1, 1) := by decide +kernel
theorem dX3_standsAt_48 : decode cX3_standsAt 48 = .ok (.ireturn, 1) := by decide +kernel
theorem dX3_signAt_0 : decode cX3_signAt 0 = .ok (.iload_n 1, 1) := by decide +kernel
theorem dX3_signAt_1 : decode cX3_signAt 1 = .ok (.ifCond .lt 29, 3) := by decide +kernel
theorem dX3_signAt_4 : decode cX3_signAt 4 = .ok (.iload_n 1, 1) := by decide +kernel
theorem dX3_signAt_5 : decode cX3_signAt 5 = .ok (.aload_n 0, 1) := by decide +kernel
theorem dX3_signAt_6 : decode cX3_signAt 6 = .ok (.getfield 20, 3) := by decide +kernel
theorem dX3_signAt_9 : decode cX3_signAt 9 = .ok (.if_icmp .ge 21, 3) := by decide +kernel
theorem dX3_signAt_12 : decode cX3_signAt 12 = .ok (.iload_n 1, 1) := by decide +kernel
theorem dX3_signAt_13 : decode cX3_signAt 13 = .ok (.aload_n 0, 1) := by decide +kernel
theorem dX3_signAt_14 : decode cX3_signAt 14 = .ok (.getfield 9, 3) := by decide +kernel
theorem dX3_signAt_17 : decode cX3_signAt 17 = .ok (.arraylength, 1) := by decide +kernel
theorem dX3_signAt_18 : decode cX3_signAt 18 = .ok (.if_icmp .ge 12, 3) := by decide +kernel
theorem dX3_signAt_21 : decode cX3_signAt 21 = .ok (.aload_n 0, 1) := by decide +kernel
theorem dX3_signAt_22 : decode cX3_signAt 22 = .ok (.getfield 9, 3) := by decide +kernel
theorem dX3_signAt_25 : decode cX3_signAt 25 = .ok (.iload_n 1, 1) := by decide +kernel
theorem dX3_signAt_26 : decode cX3_signAt 26 = .ok (.caload, 1) := by decide +kernel
theorem dX3_signAt_27 : decode cX3_signAt 27 = .ok (.goto 4, 3) := by decide +kernel
theorem dX3_signAt_30 : decode cX3_signAt 30 = .ok (.iconst (-1), 1) := by decide +kernel
theorem dX3_signAt_31 : decode cX3_signAt 31 = .ok (.ireturn, 1) := by decide +kernel
theorem dX3_textOf_0 : decode cX3_textOf 0 = .ok (.iload_n 0, 1) := by decide +kernel
theorem dX3_textOf_1 : decode cX3_textOf 1 = .ok (.tableswitch 64 0 6 #[43, 46, 49, 52, 55, 58, 61], 43) := by decide +kernel
theorem dX3_textOf_44 : decode cX3_textOf 44 = .ok (.ldc 124, 2) := by decide +kernel
theorem dX3_textOf_46 : decode cX3_textOf 46 = .ok (.areturn, 1) := by decide +kernel
theorem dX3_textOf_47 : decode cX3_textOf 47 = .ok (.ldc 126, 2) := by decide +kernel
theorem dX3_textOf_49 : decode cX3_textOf 49 = .ok (.areturn, 1) := by decide +kernel
theorem dX3_textOf_50 : decode cX3_textOf 50 = .ok (.ldc 128, 2) := by decide +kernel
theorem dX3_textOf_52 : decode cX3_textOf 52 = .ok (.areturn, 1) := by decide +kernel
theorem dX3_textOf_53 : decode cX3_textOf 53 = .ok (.ldc 130, 2) := by decide +kernel
theorem dX3_textOf_55 : decode cX3_textOf 55 = .ok (.areturn, 1) := by decide +kernel
theorem dX3_textOf_56 : decode cX3_textOf 56 = .ok (.ldc 132, 2) := by decide +kernel
theorem dX3_textOf_58 : decode cX3_textOf 58 = .ok (.areturn, 1) := by decide +kernel
theorem dX3_textOf_59 : decode cX3_textOf 59 = .ok (.ldc 134, 2) := by decide +kernel
theorem dX3_textOf_61 : decode cX3_textOf 61 = .ok (.areturn, 1) := by decide +kernel
theorem dX3_textOf_62 : decode cX3_textOf 62 = .ok (.ldc 136, 2) := by decide +kernel
theorem dX3_textOf_64 : decode cX3_textOf 64 = .ok (.areturn, 1) := by decide +kernel
theorem dX3_textOf_65 : decode cX3_textOf 65 = .ok (.ldc 138, 2) := by decide +kernel
theorem dX3_textOf_67 : decode cX3_textOf 67 = .ok (.areturn, 1) := by decide +kernel
theorem dX4_init_0 : decode cX4_init 0 = .ok (.aload_n 0, 1) := by decide +kernel
theorem dX4_init_1 : decode cX4_init 1 = .ok (.invokespecial 3, 3) := by decide +kernel
theorem dX4_init_4 : decode cX4_init 4 = .ok (.aload_n 0, 1) := by decide +kernel
theorem dX4_init_5 : decode cX4_init 5 = .ok (.bipush 12, 2) := by decide +kernel
theorem dX4_init_7 : decode cX4_init 7 = .ok (.newarray .int, 2) := by decide +kernel
theorem dX4_init_9 : decode cX4_init 9 = .ok (.putfield 9, 3) := by decide +kernel
theorem dX4_init_12 : decode cX4_init 12 = .ok (.aload_n 0, 1) := by decide +kernel
theorem dX4_init_13 : decode cX4_init 13 = .ok (.bipush 12, 2) := by decide +kernel
theorem dX4_init_15 : decode cX4_init 15 = .ok (.newarray .int, 2) := by decide +kernel
theorem dX4_init_17 : decode cX4_init 17 = .ok (.putfield 15, 3) := by decide +kernel
theorem dX4_init_20 : decode cX4_init 20 = .ok (.aload_n 0, 1) := by decide +kernel
theorem dX4_init_21 : decode cX4_init 21 = .ok (.bipush 12, 2) := by decide +kernel
theorem dX4_init_23 : decode cX4_init 23 = .ok (.newarray .int, 2) := by decide +kernel
theorem dX4_init_25 : decode cX4_init 25 = .ok (.putfield 18, 3) := by decide +kernel
theorem dX4_init_28 : decode cX4_init 28 = .ok (.return_, 1) := by decide +kernel
theorem dX4_copyFrom_0 : decode cX4_copyFrom 0 = .ok (.aload_n 1, 1) := by decide +kernel
theorem dX4_copyFrom_1 : decode cX4_copyFrom 1 = .ok (.getfield 9, 3) := by decide +kernel
theorem dX4_copyFrom_4 : decode cX4_copyFrom 4 = .ok (.aload_n 0, 1) := by decide +kernel
theorem dX4_copyFrom_5 : decode cX4_copyFrom 5 = .ok (.getfield 9, 3) := by decide +kernel
theorem dX4_copyFrom_8 : decode cX4_copyFrom 8 = .ok (.invokestatic 21, 3) := by decide +kernel
theorem dX4_copyFrom_11 : decode cX4_copyFrom 11 = .ok (.aload_n 1, 1) := by decide +kernel
theorem dX4_copyFrom_12 : decode cX4_copyFrom 12 = .ok (.getfield 15, 3) := by decide +kernel
theorem dX4_copyFrom_15 : decode cX4_copyFrom 15 = .ok (.aload_n 0, 1) := by decide +kernel
theorem dX4_copyFrom_16 : decode cX4_copyFrom 16 = .ok (.getfield 15, 3) := by decide +kernel
theorem dX4_copyFrom_19 : decode cX4_copyFrom 19 = .ok (.invokestatic 21, 3) := by decide +kernel
theorem dX4_copyFrom_22 : decode cX4_copyFrom 22 = .ok (.aload_n 1, 1) := by decide +kernel
theorem dX4_copyFrom_23 : decode cX4_copyFrom 23 = .ok (.getfield 18, 3) := by decide +kernel
theorem dX4_copyFrom_26 : decode cX4_copyFrom 26 = .ok (.aload_n 0, 1) := by decide +kernel
theorem dX4_copyFrom_27 : decode cX4_copyFrom 27 = .ok (.getfield 18, 3) := by decide +kernel
theorem dX4_copyFrom_30 : decode cX4_copyFrom 30 = .ok (.invokestatic 21, 3) := by decide +kernel
theorem dX4_copyFrom_33 : decode cX4_copyFrom 33 = .ok (.aload_n 0, 1) := by decide +kernel
theorem dX4_copyFrom_34 : decode cX4_copyFrom 34 = .ok (.aload_n 1, 1) := by decide +kernel
theorem dX4_copyFrom_35 : decode cX4_copyFrom 35 = .ok (.getfield 27, 3) := by decide +kernel
theorem dX4_copyFrom_38 : decode cX4_copyFrom 38 = .ok (.putfield 27, 3) := by decide +kernel
theorem dX4_copyFrom_41 : decode cX4_copyFrom 41 = .ok (.return_, 1) := by decide +kernel
theorem dX4_add_0 : decode cX4_add 0 = .ok (.aload_n 0, 1) := by decide +kernel
theorem dX4_add_1 : decode cX4_add 1 = .ok (.getfield 27, 3) := by decide +kernel
theorem dX4_add_4 : decode cX4_add 4 = .ok (.ifCond .lt 12, 3) := by decide +kernel
theorem dX4_add_7 : decode cX4_add 7 = .ok (.aload_n 0, 1) := by decide +kernel
theorem dX4_add_8 : decode cX4_add 8 = .ok (.getfield 27, 3) := by decide +kernel
theorem dX4_add_11 : decode cX4_add 11 = .ok (.bipush 12, 2) := by decide +kernel
theorem dX4_add_13 : decode cX4_add 13 = .ok (.if_icmp .lt 6, 3) := by decide +kernel
theorem dX4_add_16 : decode cX4_add 16 = .ok (.ldc 31, 2) := by decide +kernel
theorem dX4_add_18 : decode cX4_add 18 = .ok (.ireturn, 1) := by decide +kernel
theorem dX4_add_19 : decode cX4_add 19 = .ok (.aload_n 0, 1) := by decide +kernel
theorem dX4_add_20 : decode cX4_add 20 = .ok (.getfield 9, 3) := by decide +kernel
theorem dX4_add_23 : decode cX4_add 23 = .ok (.aload_n 0, 1) := by decide +kernel
theorem dX4_add_24 : decode cX4_add 24 = .ok (.getfield 27, 3) := by decide +kernel
theorem dX4_add_27 : decode cX4_add 27 = .ok (.iload_n 1, 1) := by decide +kernel
theorem dX4_add_28 : decode cX4_add 28 = .ok (.iastore, 1) := by decide +kernel
theorem dX4_add_29 : decode cX4_add 29 = .ok (.aload_n 0, 1) := by decide +kernel
theorem dX4_add_30 : decode cX4_add 30 = .ok (.getfield 15, 3) := by decide +kernel
theorem dX4_add_33 : decode cX4_add 33 = .ok (.aload_n 0, 1) := by decide +kernel
theorem dX4_add_34 : decode cX4_add 34 = .ok (.getfield 27, 3) := by decide +kernel
theorem dX4_add_37 : decode cX4_add 37 = .ok (.iload_n 2, 1) := by decide +kernel
theorem dX4_add_38 : decode cX4_add 38 = .ok (.iastore, 1) := by decide +kernel
theorem dX4_add_39 : decode cX4_add 39 = .ok (.aload_n 0, 1) := by decide +kernel
theorem dX4_add_40 : decode cX4_add 40 = .ok (.getfield 18, 3) := by decide +kernel
theorem dX4_add_43 : decode cX4_add 43 = .ok (.aload_n 0, 1) := by decide +kernel
theorem dX4_add_44 : decode cX4_add 44 = .ok (.getfield 27, 3) := by decide +kernel
theorem dX4_add_47 : decode cX4_add 47 = .ok (.iload_n 3, 1) := by decide +kernel
theorem dX4_add_48 : decode cX4_add 48 = .ok (.iastore, 1) := by decide +kernel
theorem dX4_add_49 : decode cX4_add 49 = .ok (.aload_n 0, 1) := by decide +kernel
theorem dX4_add_50 : decode cX4_add 50 = .ok (.dup, 1) := by decide +kernel
theorem dX4_add_51 : decode cX4_add 51 = .ok (.getfield 27, 3) := by decide +kernel
theorem dX4_add_54 : decode cX4_add 54 = .ok (.iconst 1, 1) := by decide +kernel
theorem dX4_add_55 : decode cX4_add 55 = .ok (.iadd, 1) := by decide +kernel
theorem dX4_add_56 : decode cX4_add 56 = .ok (.putfield 27, 3) := by decide +kernel
theorem dX4_add_59 : decode cX4_add 59 = .ok (.aload_n 0, 1) := by decide +kernel
theorem dX4_add_60 : decode cX4_add 60 = .ok (.getfield 27, 3) := by decide +kernel
theorem dX4_add_63 : decode cX4_add 63 = .ok (.ireturn, 1) := by decide +kernel
theorem dX4_removeHeldBy_0 : decode cX4_removeHeldBy 0 = .ok (.aload_n 0, 1) := by decide +kernel
theorem dX4_removeHeldBy_1 : decode cX4_removeHeldBy 1 = .ok (.getfield 27, 3) := by decide +kernel
theorem dX4_removeHeldBy_4 : decode cX4_removeHeldBy 4 = .ok (.istore_n 3, 1) := by decide +kernel
theorem dX4_removeHeldBy_5 : decode cX4_removeHeldBy 5 = .ok (.aload_n 0, 1) := by decide +kernel
theorem dX4_removeHeldBy_6 : decode cX4_removeHeldBy 6 = .ok (.iconst 0, 1) := by decide +kernel
theorem dX4_removeHeldBy_7 : decode cX4_removeHeldBy 7 = .ok (.putfield 27, 3) := by decide +kernel
theorem dX4_removeHeldBy_10 : decode cX4_removeHeldBy 10 = .ok (.iconst 0, 1) := by decide +kernel
theorem dX4_removeHeldBy_11 : decode cX4_removeHeldBy 11 = .ok (.istore 4, 2) := by decide +kernel
theorem dX4_removeHeldBy_13 : decode cX4_removeHeldBy 13 = .ok (.iload 4, 2) := by decide +kernel
theorem dX4_removeHeldBy_15 : decode cX4_removeHeldBy 15 = .ok (.iload_n 3, 1) := by decide +kernel
theorem dX4_removeHeldBy_16 : decode cX4_removeHeldBy 16 = .ok (.if_icmp .ge 46, 3) := by decide +kernel
theorem dX4_removeHeldBy_19 : decode cX4_removeHeldBy 19 = .ok (.aload_n 2, 1) := by decide +kernel
theorem dX4_removeHeldBy_20 : decode cX4_removeHeldBy 20 = .ok (.aload_n 0, 1) := by decide +kernel
theorem dX4_removeHeldBy_21 : decode cX4_removeHeldBy 21 = .ok (.iload 4, 2) := by decide +kernel
theorem dX4_removeHeldBy_23 : decode cX4_removeHeldBy 23 = .ok (.invokevirtual 32, 3) := by decide +kernel
theorem dX4_removeHeldBy_26 : decode cX4_removeHeldBy 26 = .ok (.invokevirtual 36, 3) := by decide +kernel
theorem dX4_removeHeldBy_29 : decode cX4_removeHeldBy 29 = .ok (.iload_n 1, 1) := by decide +kernel
theorem dX4_removeHeldBy_30 : decode cX4_removeHeldBy 30 = .ok (.if_icmp .eq 26, 3) := by decide +kernel
theorem dX4_removeHeldBy_33 : decode cX4_removeHeldBy 33 = .ok (.aload_n 0, 1) := by decide +kernel
theorem dX4_removeHeldBy_34 : decode cX4_removeHeldBy 34 = .ok (.aload_n 0, 1) := by decide +kernel
theorem dX4_removeHeldBy_35 : decode cX4_removeHeldBy 35 = .ok (.iload 4, 2) := by decide +kernel
theorem dX4_removeHeldBy_37 : decode cX4_removeHeldBy 37 = .ok (.invokevirtual 32, 3) := by decide +kernel
theorem dX4_removeHeldBy_40 : decode cX4_removeHeldBy 40 = .ok (.aload_n 0, 1) := by decide +kernel
theorem dX4_removeHeldBy_41 : decode cX4_removeHeldBy 41 = .ok (.iload 4, 2) := by decide +kernel
theorem dX4_removeHeldBy_43 : decode cX4_removeHeldBy 43 = .ok (.invokevirtual 41, 3) := by decide +kernel
theorem dX4_removeHeldBy_46 : decode cX4_removeHeldBy 46 = .ok (.aload_n 0, 1) := by decide +kernel
theorem dX4_removeHeldBy_47 : decode cX4_removeHeldBy 47 = .ok (.iload 4, 2) := by decide +kernel
theorem dX4_removeHeldBy_49 : decode cX4_removeHeldBy 49 = .ok (.invokevirtual 44, 3) := by decide +kernel
theorem dX4_removeHeldBy_52 : decode cX4_removeHeldBy 52 = .ok (.invokevirtual 47, 3) := by decide +kernel
theorem dX4_removeHeldBy_55 : decode cX4_removeHeldBy 55 = .ok (.pop, 1) := by decide +kernel
theorem dX4_removeHeldBy_56 : decode cX4_removeHeldBy 56 = .ok (.iinc 4 1, 3) := by decide +kernel
theorem dX4_removeHeldBy_59 : decode cX4_removeHeldBy 59 = .ok (.goto (-46), 3) := by decide +kernel
theorem dX4_removeHeldBy_62 : decode cX4_removeHeldBy 62 = .ok (.iload_n 3, 1) := by decide +kernel
theorem dX4_removeHeldBy_63 : decode cX4_removeHeldBy 63 = .ok (.aload_n 0, 1) := by decide +kernel
theorem dX4_removeHeldBy_64 : decode cX4_removeHeldBy 64 = .ok (.getfield 27, 3) := by decide +kernel
theorem dX4_removeHeldBy_67 : decode cX4_removeHeldBy 67 = .ok (.isub, 1) := by decide +kernel
theorem dX4_removeHeldBy_68 : decode cX4_removeHeldBy 68 = .ok (.ireturn, 1) := by decide +kernel
theorem dX4_fileOf_0 : decode cX4_fileOf 0 = .ok (.iload_n 1, 1) := by decide +kernel
theorem dX4_fileOf_1 : decode cX4_fileOf 1 = .ok (.ifCond .lt 21, 3) := by decide +kernel
theorem dX4_fileOf_4 : decode cX4_fileOf 4 = .ok (.iload_n 1, 1) := by decide +kernel
theorem dX4_fileOf_5 : decode cX4_fileOf 5 = .ok (.aload_n 0, 1) := by decide +kernel
theorem dX4_fileOf_6 : decode cX4_fileOf 6 = .ok (.getfield 9, 3) := by decide +kernel
theorem dX4_fileOf_9 : decode cX4_fileOf 9 = .ok (.arraylength, 1) := by decide +kernel
theorem dX4_fileOf_10 : decode cX4_fileOf 10 = .ok (.if_icmp .ge 12, 3) := by decide +kernel
theorem dX4_fileOf_13 : decode cX4_fileOf 13 = .ok (.aload_n 0, 1) := by decide +kernel
theorem dX4_fileOf_14 : decode cX4_fileOf 14 = .ok (.getfield 9, 3) := by decide +kernel
theorem dX4_fileOf_17 : decode cX4_fileOf 17 = .ok (.iload_n 1, 1) := by decide +kernel
theorem dX4_fileOf_18 : decode cX4_fileOf 18 = .ok (.iaload, 1) := by decide +kernel
theorem dX4_fileOf_19 : decode cX4_fileOf 19 = .ok (.goto 4, 3) := by decide +kernel
theorem dX4_fileOf_22 : decode cX4_fileOf 22 = .ok (.iconst (-1), 1) := by decide +kernel
theorem dX4_fileOf_23 : decode cX4_fileOf 23 = .ok (.ireturn, 1) := by decide +kernel
theorem dX4_rankOf_0 : decode cX4_rankOf 0 = .ok (.iload_n 1, 1) := by decide +kernel
theorem dX4_rankOf_1 : decode cX4_rankOf 1 = .ok (.ifCond .lt 21, 3) := by decide +kernel
theorem dX4_rankOf_4 : decode cX4_rankOf 4 = .ok (.iload_n 1, 1) := by decide +kernel
theorem dX4_rankOf_5 : decode cX4_rankOf 5 = .ok (.aload_n 0, 1) := by decide +kernel
theorem dX4_rankOf_6 : decode cX4_rankOf 6 = .ok (.getfield 15, 3) := by decide +kernel
theorem dX4_rankOf_9 : decode cX4_rankOf 9 = .ok (.arraylength, 1) := by decide +kernel
theorem dX4_rankOf_10 : decode cX4_rankOf 10 = .ok (.if_icmp .ge 12, 3) := by decide +kernel
theorem dX4_rankOf_13 : decode cX4_rankOf 13 = .ok (.aload_n 0, 1) := by decide +kernel
theorem dX4_rankOf_14 : decode cX4_rankOf 14 = .ok (.getfield 15, 3) := by decide +kernel
theorem dX4_rankOf_17 : decode cX4_rankOf 17 = .ok (.iload_n 1, 1) := by decide +kernel
theorem dX4_rankOf_18 : decode cX4_rankOf 18 = .ok (.iaload, 1) := by decide +kernel
theorem dX4_rankOf_19 : decode cX4_rankOf 19 = .ok (.goto 4, 3) := by decide +kernel
theorem dX4_rankOf_22 : decode cX4_rankOf 22 = .ok (.iconst (-1), 1) := by decide +kernel
theorem dX4_rankOf_23 : decode cX4_rankOf 23 = .ok (.ireturn, 1) := by decide +kernel
theorem dX4_tickOf_0 : decode cX4_tickOf 0 = .ok (.iload_n 1, 1) := by decide +kernel
theorem dX4_tickOf_1 : decode cX4_tickOf 1 = .ok (.ifCond .lt 21, 3) := by decide +kernel
theorem dX4_tickOf_4 : decode cX4_tickOf 4 = .ok (.iload_n 1, 1) := by decide +kernel
theorem dX4_tickOf_5 : decode cX4_tickOf 5 = .ok (.aload_n 0, 1) := by decide +kernel
theorem dX4_tickOf_6 : decode cX4_tickOf 6 = .ok (.getfield 18, 3) := by decide +kernel
theorem dX4_tickOf_9 : decode cX4_tickOf 9 = .ok (.arraylength, 1) := by decide +kernel
theorem dX4_tickOf_10 : decode cX4_tickOf 10 = .ok (.if_icmp .ge 12, 3) := by decide +kernel
theorem dX4_tickOf_13 : decode cX4_tickOf 13 = .ok (.aload_n 0, 1) := by decide +kernel
theorem dX4_tickOf_14 : decode cX4_tickOf 14 = .ok (.getfield 18, 3) := by decide +kernel
theorem dX4_tickOf_17 : decode cX4_tickOf 17 = .ok (.iload_n 1, 1) := by decide +kernel
theorem dX4_tickOf_18 : decode cX4_tickOf 18 = .ok (.iaload, 1) := by decide +kernel
theorem dX4_tickOf_19 : decode cX4_tickOf 19 = .ok (.goto 4, 3) := by decide +kernel
theorem dX4_tickOf_22 : decode cX4_tickOf 22 = .ok (.iconst (-1), 1) := by decide +kernel
theorem dX4_tickOf_23 : decode cX4_tickOf 23 = .ok (.ireturn, 1) := by decide +kernel
theorem dX5_copy_0 : decode cX5_copy 0 = .ok (.aload_n 0, 1) := by decide +kernel
theorem dX5_copy_1 : decode cX5_copy 1 = .ok (.iconst 0, 1) := by decide +kernel
theorem dX5_copy_2 : decode cX5_copy 2 = .ok (.aload_n 1, 1) := by decide +kernel
theorem dX5_copy_3 : decode cX5_copy 3 = .ok (.iconst 0, 1) := by decide +kernel
theorem dX5_copy_4 : decode cX5_copy 4 = .ok (.aload_n 0, 1) := by decide +kernel
theorem dX5_copy_5 : decode cX5_copy 5 = .ok (.arraylength, 1) := by decide +kernel
theorem dX5_copy_6 : decode cX5_copy 6 = .ok (.aload_n 1, 1) := by decide +kernel
theorem dX5_copy_7 : decode cX5_copy 7 = .ok (.arraylength, 1) := by decide +kernel
theorem dX5_copy_8 : decode cX5_copy 8 = .ok (.invokestatic 7, 3) := by decide +kernel
theorem dX5_copy_11 : decode cX5_copy 11 = .ok (.invokestatic 13, 3) := by decide +kernel
theorem dX5_copy_14 : decode cX5_copy 14 = .ok (.return_, 1) := by decide +kernel
theorem dX5_howOften_0 : decode cX5_howOften 0 = .ok (.iconst 0, 1) := by decide +kernel
theorem dX5_howOften_1 : decode cX5_howOften 1 = .ok (.istore_n 2, 1) := by decide +kernel
theorem dX5_howOften_2 : decode cX5_howOften 2 = .ok (.aload_n 0, 1) := by decide +kernel
theorem dX5_howOften_3 : decode cX5_howOften 3 = .ok (.astore_n 3, 1) := by decide +kernel
theorem dX5_howOften_4 : decode cX5_howOften 4 = .ok (.aload_n 3, 1) := by decide +kernel
theorem dX5_howOften_5 : decode cX5_howOften 5 = .ok (.arraylength, 1) := by decide +kernel
theorem dX5_howOften_6 : decode cX5_howOften 6 = .ok (.istore 4, 2) := by decide +kernel
theorem dX5_howOften_8 : decode cX5_howOften 8 = .ok (.iconst 0, 1) := by decide +kernel
theorem dX5_howOften_9 : decode cX5_howOften 9 = .ok (.istore 5, 2) := by decide +kernel
theorem dX5_howOften_11 : decode cX5_howOften 11 = .ok (.iload 5, 2) := by decide +kernel
theorem dX5_howOften_13 : decode cX5_howOften 13 = .ok (.iload 4, 2) := by decide +kernel
theorem dX5_howOften_15 : decode cX5_howOften 15 = .ok (.if_icmp .ge 24, 3) := by decide +kernel
theorem dX5_howOften_18 : decode cX5_howOften 18 = .ok (.aload_n 3, 1) := by decide +kernel
theorem dX5_howOften_19 : decode cX5_howOften 19 = .ok (.iload 5, 2) := by decide +kernel
theorem dX5_howOften_21 : decode cX5_howOften 21 = .ok (.iaload, 1) := by decide +kernel
theorem dX5_howOften_22 : decode cX5_howOften 22 = .ok (.istore 6, 2) := by decide +kernel
theorem dX5_howOften_24 : decode cX5_howOften 24 = .ok (.iload 6, 2) := by decide +kernel
theorem dX5_howOften_26 : decode cX5_howOften 26 = .ok (.iload_n 1, 1) := by decide +kernel
theorem dX5_howOften_27 : decode cX5_howOften 27 = .ok (.if_icmp .ne 6, 3) := by decide +kernel
theorem dX5_howOften_30 : decode cX5_howOften 30 = .ok (.iinc 2 1, 3) := by decide +kernel
theorem dX5_howOften_33 : decode cX5_howOften 33 = .ok (.iinc 5 1, 3) := by decide +kernel
theorem dX5_howOften_36 : decode cX5_howOften 36 = .ok (.goto (-25), 3) := by decide +kernel
theorem dX5_howOften_39 : decode cX5_howOften 39 = .ok (.iload_n 2, 1) := by decide +kernel
theorem dX5_howOften_40 : decode cX5_howOften 40 = .ok (.ireturn, 1) := by decide +kernel
theorem dX6_init_0 : decode cX6_init 0 = .ok (.aload_n 0, 1) := by decide +kernel
theorem dX6_init_1 : decode cX6_init 1 = .ok (.invokespecial 3, 3) := by decide +kernel
theorem dX6_init_4 : decode cX6_init 4 = .ok (.aload_n 0, 1) := by decide +kernel
theorem dX6_init_5 : decode cX6_init 5 = .ok (.new 9, 3) := by decide +kernel
theorem dX6_init_8 : decode cX6_init 8 = .ok (.dup, 1) := by decide +kernel
theorem dX6_init_9 : decode cX6_init 9 = .ok (.invokespecial 11, 3) := by decide +kernel
theorem dX6_init_12 : decode cX6_init 12 = .ok (.putfield 12, 3) := by decide +kernel
theorem dX6_init_15 : decode cX6_init 15 = .ok (.aload_n 0, 1) := by decide +kernel
theorem dX6_init_16 : decode cX6_init 16 = .ok (.new 9, 3) := by decide +kernel
theorem dX6_init_19 : decode cX6_init 19 = .ok (.dup, 1) := by decide +kernel
theorem dX6_init_20 : decode cX6_init 20 = .ok (.invokespecial 11, 3) := by decide +kernel
theorem dX6_init_23 : decode cX6_init 23 = .ok (.putfield 16, 3) := by decide +kernel
theorem dX6_init_26 : decode cX6_init 26 = .ok (.aload_n 0, 1) := by decide +kernel
theorem dX6_init_27 : decode cX6_init 27 = .ok (.new 19, 3) := by decide +kernel
theorem dX6_init_30 : decode cX6_init 30 = .ok (.dup, 1) := by decide +kernel
theorem dX6_init_31 : decode cX6_init 31 = .ok (.invokespecial 21, 3) := by decide +kernel
theorem dX6_init_34 : decode cX6_init 34 = .ok (.putfield 22, 3) := by decide +kernel
theorem dX6_init_37 : decode cX6_init 37 = .ok (.aload_n 0, 1) := by decide +kernel
theorem dX6_init_38 : decode cX6_init 38 = .ok (.new 26, 3) := by decide +kernel
theorem dX6_init_41 : decode cX6_init 41 = .ok (.dup, 1) := by decide +kernel
theorem dX6_init_42 : decode cX6_init 42 = .ok (.invokespecial 28, 3) := by decide +kernel
theorem dX6_init_45 : decode cX6_init 45 = .ok (.putfield 29, 3) := by decide +kernel
theorem dX6_init_48 : decode cX6_init 48 = .ok (.return_, 1) := by decide +kernel
theorem dX6_bring_0 : decode cX6_bring 0 = .ok (.aload_n 0, 1) := by decide +kernel
theorem dX6_bring_1 : decode cX6_bring 1 = .ok (.aload_n 0, 1) := by decide +kernel
theorem dX6_bring_2 : decode cX6_bring 2 = .ok (.invokevirtual 33, 3) := by decide +kernel
theorem dX6_bring_5 : decode cX6_bring 5 = .ok (.iload_n 1, 1) := by decide +kernel
theorem dX6_bring_6 : decode cX6_bring 6 = .ok (.iload_n 2, 1) := by decide +kernel
theorem dX6_bring_7 : decode cX6_bring 7 = .ok (.iload_n 3, 1) := by decide +kernel
theorem dX6_bring_8 : decode cX6_bring 8 = .ok (.invokevirtual 37, 3) := by decide +kernel
theorem dX6_bring_11 : decode cX6_bring 11 = .ok (.invokevirtual 41, 3) := by decide +kernel
theorem dX6_bring_14 : decode cX6_bring 14 = .ok (.ireturn, 1) := by decide +kernel
theorem dX6_send_0 : decode cX6_send 0 = .ok (.aload_n 0, 1) := by decide +kernel
theorem dX6_send_1 : decode cX6_send 1 = .ok (.aload_n 0, 1) := by decide +kernel
theorem dX6_send_2 : decode cX6_send 2 = .ok (.invokevirtual 33, 3) := by decide +kernel
theorem dX6_send_5 : decode cX6_send 5 = .ok (.iload_n 1, 1) := by decide +kernel
theorem dX6_send_6 : decode cX6_send 6 = .ok (.iload_n 2, 1) := by decide +kernel
theorem dX6_send_7 : decode cX6_send 7 = .ok (.iload_n 3, 1) := by decide +kernel
theorem dX6_send_8 : decode cX6_send 8 = .ok (.invokevirtual 45, 3) := by decide +kernel
theorem dX6_send_11 : decode cX6_send 11 = .ok (.invokevirtual 41, 3) := by decide +kernel
theorem dX6_send_14 : decode cX6_send 14 = .ok (.ireturn, 1) := by decide +kernel
theorem dX6_lift_0 : decode cX6_lift 0 = .ok (.aload_n 0, 1) := by decide +kernel
theorem dX6_lift_1 : decode cX6_lift 1 = .ok (.aload_n 0, 1) := by decide +kernel
theorem dX6_lift_2 : decode cX6_lift 2 = .ok (.invokevirtual 33, 3) := by decide +kernel
theorem dX6_lift_5 : decode cX6_lift 5 = .ok (.iload_n 1, 1) := by decide +kernel
theorem dX6_lift_6 : decode cX6_lift 6 = .ok (.invokevirtual 48, 3) := by decide +kernel
theorem dX6_lift_9 : decode cX6_lift 9 = .ok (.invokevirtual 41, 3) := by decide +kernel
theorem dX6_lift_12 : decode cX6_lift 12 = .ok (.ireturn, 1) := by decide +kernel
theorem dX6_lay_0 : decode cX6_lay 0 = .ok (.aload_n 0, 1) := by decide +kernel
theorem dX6_lay_1 : decode cX6_lay 1 = .ok (.aload_n 0, 1) := by decide +kernel
theorem dX6_lay_2 : decode cX6_lay 2 = .ok (.invokevirtual 33, 3) := by decide +kernel
theorem dX6_lay_5 : decode cX6_lay 5 = .ok (.iload_n 1, 1) := by decide +kernel
theorem dX6_lay_6 : decode cX6_lay 6 = .ok (.invokevirtual 51, 3) := by decide +kernel
theorem dX6_lay_9 : decode cX6_lay 9 = .ok (.invokevirtual 41, 3) := by decide +kernel
theorem dX6_lay_12 : decode cX6_lay 12 = .ok (.ireturn, 1) := by decide +kernel
theorem dX6_weigh_0 : decode cX6_weigh 0 = .ok (.aload_n 0, 1) := by decide +kernel
theorem dX6_weigh_1 : decode cX6_weigh 1 = .ok (.aload_n 0, 1) := by decide +kernel
theorem dX6_weigh_2 : decode cX6_weigh 2 = .ok (.invokevirtual 33, 3) := by decide +kernel
theorem dX6_weigh_5 : decode cX6_weigh 5 = .ok (.invokevirtual 54, 3) := by decide +kernel
theorem dX6_weigh_8 : decode cX6_weigh 8 = .ok (.invokevirtual 41, 3) := by decide +kernel
theorem dX6_weigh_11 : decode cX6_weigh 11 = .ok (.ireturn, 1) := by decide +kernel
theorem dX6_turn_0 : decode cX6_turn 0 = .ok (.aload_n 0, 1) := by decide +kernel
theorem dX6_turn_1 : decode cX6_turn 1 = .ok (.aload_n 0, 1) := by decide +kernel
theorem dX6_turn_2 : decode cX6_turn 2 = .ok (.invokevirtual 33, 3) := by decide +kernel
theorem dX6_turn_5 : decode cX6_turn 5 = .ok (.iload_n 1, 1) := by decide +kernel
theorem dX6_turn_6 : decode cX6_turn 6 = .ok (.invokevirtual 58, 3) := by decide +kernel
theorem dX6_turn_9 : decode cX6_turn 9 = .ok (.invokevirtual 41, 3) := by decide +kernel
theorem dX6_turn_12 : decode cX6_turn 12 = .ok (.ireturn, 1) := by decide +kernel
theorem dX6_mount_0 : decode cX6_mount 0 = .ok (.aload_n 0, 1) := by decide +kernel
theorem dX6_mount_1 : decode cX6_mount 1 = .ok (.aload_n 0, 1) := by decide +kernel
theorem dX6_mount_2 : decode cX6_mount 2 = .ok (.invokevirtual 33, 3) := by decide +kernel
theorem dX6_mount_5 : decode cX6_mount 5 = .ok (.iload_n 1, 1) := by decide +kernel
theorem dX6_mount_6 : decode cX6_mount 6 = .ok (.invokevirtual 61, 3) := by decide +kernel
theorem dX6_mount_9 : decode cX6_mount 9 = .ok (.invokevirtual 41, 3) := by decide +kernel
theorem dX6_mount_12 : decode cX6_mount 12 = .ok (.ireturn, 1) := by decide +kernel
theorem dX6_take_0 : decode cX6_take 0 = .ok (.aload_n 0, 1) := by decide +kernel
theorem dX6_take_1 : decode cX6_take 1 = .ok (.aload_n 0, 1) := by decide +kernel
theorem dX6_take_2 : decode cX6_take 2 = .ok (.invokevirtual 33, 3) := by decide +kernel
theorem dX6_take_5 : decode cX6_take 5 = .ok (.iload_n 1, 1) := by decide +kernel
theorem dX6_take_6 : decode cX6_take 6 = .ok (.invokevirtual 64, 3) := by decide +kernel
theorem dX6_take_9 : decode cX6_take 9 = .ok (.invokevirtual 41, 3) := by decide +kernel
theorem dX6_take_12 : decode cX6_take 12 = .ok (.ireturn, 1) := by decide +kernel
theorem dX6_hold_0 : decode cX6_hold 0 = .ok (.aload_n 0, 1) := by decide +kernel
theorem dX6_hold_1 : decode cX6_hold 1 = .ok (.aload_n 0, 1) := by decide +kernel
theorem dX6_hold_2 : decode cX6_hold 2 = .ok (.invokevirtual 33, 3) := by decide +kernel
theorem dX6_hold_5 : decode cX6_hold 5 = .ok (.iload_n 1, 1) := by decide +kernel
theorem dX6_hold_6 : decode cX6_hold 6 = .ok (.iload_n 2, 1) := by decide +kernel
theorem dX6_hold_7 : decode cX6_hold 7 = .ok (.invokevirtual 67, 3) := by decide +kernel
theorem dX6_hold_10 : decode cX6_hold 10 = .ok (.invokevirtual 41, 3) := by decide +kernel
theorem dX6_hold_13 : decode cX6_hold 13 = .ok (.ireturn, 1) := by decide +kernel
theorem dX6_request_0 : decode cX6_request 0 = .ok (.aload_n 0, 1) := by decide +kernel
theorem dX6_request_1 : decode cX6_request 1 = .ok (.aload_n 0, 1) := by decide +kernel
theorem dX6_request_2 : decode cX6_request 2 = .ok (.invokevirtual 33, 3) := by decide +kernel
theorem dX6_request_5 : decode cX6_request 5 = .ok (.iload_n 1, 1) := by decide +kernel
theorem dX6_request_6 : decode cX6_request 6 = .ok (.iload_n 2, 1) := by decide +kernel
theorem dX6_request_7 : decode cX6_request 7 = .ok (.invokevirtual 71, 3) := by decide +kernel
theorem dX6_request_10 : decode cX6_request 10 = .ok (.invokevirtual 41, 3) := by decide +kernel
theorem dX6_request_13 : decode cX6_request 13 = .ok (.ireturn, 1) := by decide +kernel
theorem dX6_serve_0 : decode cX6_serve 0 = .ok (.aload_n 0, 1) := by decide +kernel
theorem dX6_serve_1 : decode cX6_serve 1 = .ok (.aload_n 0, 1) := by decide +kernel
theorem dX6_serve_2 : decode cX6_serve 2 = .ok (.invokevirtual 33, 3) := by decide +kernel
theorem dX6_serve_5 : decode cX6_serve 5 = .ok (.iload_n 1, 1) := by decide +kernel
theorem dX6_serve_6 : decode cX6_serve 6 = .ok (.invokevirtual 74, 3) := by decide +kernel
theorem dX6_serve_9 : decode cX6_serve 9 = .ok (.invokevirtual 41, 3) := by decide +kernel
theorem dX6_serve_12 : decode cX6_serve 12 = .ok (.ireturn, 1) := by decide +kernel
theorem dX6_cartridgeOf_0 : decode cX6_cartridgeOf 0 = .ok (.aload_n 0, 1) := by decide +kernel
theorem dX6_cartridgeOf_1 : decode cX6_cartridgeOf 1 = .ok (.getfield 12, 3) := by decide +kernel
theorem dX6_cartridgeOf_4 : decode cX6_cartridgeOf 4 = .ok (.getfield 77, 3) := by decide +kernel
theorem dX6_cartridgeOf_7 : decode cX6_cartridgeOf 7 = .ok (.iload_n 1, 1) := by decide +kernel
theorem dX6_cartridgeOf_8 : decode cX6_cartridgeOf 8 = .ok (.invokevirtual 81, 3) := by decide +kernel
theorem dX6_cartridgeOf_11 : decode cX6_cartridgeOf 11 = .ok (.ifCond .ne 6, 3) := by decide +kernel
theorem dX6_cartridgeOf_14 : decode cX6_cartridgeOf 14 = .ok (.ldc 87, 2) := by decide +kernel
theorem dX6_cartridgeOf_16 : decode cX6_cartridgeOf 16 = .ok (.ireturn, 1) := by decide +kernel
theorem dX6_cartridgeOf_17 : decode cX6_cartridgeOf 17 = .ok (.iload_n 2, 1) := by decide +kernel
theorem dX6_cartridgeOf_18 : decode cX6_cartridgeOf 18 = .ok (.tableswitch 123 0 6 #[42, 54, 66, 78, 90, 102, 111], 42) := by decide +kernel
theorem dX6_cartridgeOf_60 : decode cX6_cartridgeOf 60 = .ok (.aload_n 0, 1) := by decide +kernel
theorem dX6_cartridgeOf_61 : decode cX6_cartridgeOf 61 = .ok (.getfield 12, 3) := by decide +kernel
theorem dX6_cartridgeOf_64 : decode cX6_cartridgeOf 64 = .ok (.getfield 77, 3) := by decide +kernel
theorem dX6_cartridgeOf_67 : decode cX6_cartridgeOf 67 = .ok (.iload_n 1, 1) := by decide +kernel
theorem dX6_cartridgeOf_68 : decode cX6_cartridgeOf 68 = .ok (.invokevirtual 88, 3) := by decide +kernel
theorem dX6_cartridgeOf_71 : decode cX6_cartridgeOf 71 = .ok (.ireturn, 1) := by decide +kernel
theorem dX6_cartridgeOf_72 : decode cX6_cartridgeOf 72 = .ok (.aload_n 0, 1) := by decide +kernel
theorem dX6_cartridgeOf_73 : decode cX6_cartridgeOf 73 = .ok (.getfield 12, 3) := by decide +kernel
theorem dX6_cartridgeOf_76 : decode cX6_cartridgeOf 76 = .ok (.getfield 77, 3) := by decide +kernel
theorem dX6_cartridgeOf_79 : decode cX6_cartridgeOf 79 = .ok (.iload_n 1, 1) := by decide +kernel
theorem dX6_cartridgeOf_80 : decode cX6_cartridgeOf 80 = .ok (.invokevirtual 91, 3) := by decide +kernel
theorem dX6_cartridgeOf_83 : decode cX6_cartridgeOf 83 = .ok (.ireturn, 1) := by decide +kernel
theorem dX6_cartridgeOf_84 : decode cX6_cartridgeOf 84 = .ok (.aload_n 0, 1) := by decide +kernel
theorem dX6_cartridgeOf_85 : decode cX6_cartridgeOf 85 = .ok (.getfield 12, 3) := by decide +kernel
theorem dX6_cartridgeOf_88 : decode cX6_cartridgeOf 88 = .ok (.getfield 77, 3) := by decide +kernel
theorem dX6_cartridgeOf_91 : decode cX6_cartridgeOf 91 = .ok (.iload_n 1, 1) := by decide +kernel
theorem dX6_cartridgeOf_92 : decode cX6_cartridgeOf 92 = .ok (.invokevirtual 94, 3) := by decide +kernel
theorem dX6_cartridgeOf_95 : decode cX6_cartridgeOf 95 = .ok (.ireturn, 1) := by decide +kernel
theorem dX6_cartridgeOf_96 : decode cX6_cartridgeOf 96 = .ok (.aload_n 0, 1) := by decide +kernel
theorem dX6_cartridgeOf_97 : decode cX6_cartridgeOf 97 = .ok (.getfield 12, 3) := by decide +kernel
theorem dX6_cartridgeOf_100 : decode cX6_cartridgeOf 100 = .ok (.getfield 77, 3) := by decide +kernel
theorem dX6_cartridgeOf_103 : decode cX6_cartridgeOf 103 = .ok (.iload_n 1, 1) := by decide +kernel
theorem dX6_cartridgeOf_104 : decode cX6_cartridgeOf 104 = .ok (.invokevirtual 97, 3) := by decide +kernel
theorem dX6_cartridgeOf_107 : decode cX6_cartridgeOf 107 = .ok (.ireturn, 1) := by decide +kernel
theorem dX6_cartridgeOf_108 : decode cX6_cartridgeOf 108 = .ok (.aload_n 0, 1) := by decide +kernel
theorem dX6_cartridgeOf_109 : decode cX6_cartridgeOf 109 = .ok (.getfield 12, 3) := by decide +kernel
theorem dX6_cartridgeOf_112 : decode cX6_cartridgeOf 112 = .ok (.getfield 77, 3) := by decide +kernel
theorem dX6_cartridgeOf_115 : decode cX6_cartridgeOf 115 = .ok (.iload_n 1, 1) := by decide +kernel
theorem dX6_cartridgeOf_116 : decode cX6_cartridgeOf 116 = .ok (.invokevirtual 100, 3) := by decide +kernel
theorem dX6_cartridgeOf_119 : decode cX6_cartridgeOf 119 = .ok (.ireturn, 1) := by decide +kernel
theorem dX6_cartridgeOf_120 : decode cX6_cartridgeOf 120 = .ok (.aload_n 0, 1) := by decide +kernel
theorem dX6_cartridgeOf_121 : decode cX6_cartridgeOf 121 = .ok (.getfield 12, 3) := by decide +kernel
theorem dX6_cartridgeOf_124 : decode cX6_cartridgeOf 124 = .ok (.iload_n 1, 1) := by decide +kernel
theorem dX6_cartridgeOf_125 : decode cX6_cartridgeOf 125 = .ok (.invokevirtual 103, 3) := by decide +kernel
theorem dX6_cartridgeOf_128 : decode cX6_cartridgeOf 128 = .ok (.ireturn, 1) := by decide +kernel
theorem dX6_cartridgeOf_129 : decode cX6_cartridgeOf 129 = .ok (.aload_n 0, 1) := by decide +kernel
theorem dX6_cartridgeOf_130 : decode cX6_cartridgeOf 130 = .ok (.getfield 12, 3) := by decide +kernel
theorem dX6_cartridgeOf_133 : decode cX6_cartridgeOf 133 = .ok (.getfield 77, 3) := by decide +kernel
theorem dX6_cartridgeOf_136 : decode cX6_cartridgeOf 136 = .ok (.iload_n 1, 1) := by decide +kernel
theorem dX6_cartridgeOf_137 : decode cX6_cartridgeOf 137 = .ok (.invokevirtual 106, 3) := by decide +kernel
theorem dX6_cartridgeOf_140 : decode cX6_cartridgeOf 140 = .ok (.ireturn, 1) := by decide +kernel
theorem dX6_cartridgeOf_141 : decode cX6_cartridgeOf 141 = .ok (.ldc 87, 2) := by decide +kernel
theorem dX6_cartridgeOf_143 : decode cX6_cartridgeOf 143 = .ok (.ireturn, 1) := by decide +kernel
theorem dX6_shelfOf_0 : decode cX6_shelfOf 0 = .ok (.iload_n 1, 1) := by decide +kernel
theorem dX6_shelfOf_1 : decode cX6_shelfOf 1 = .ok (.iload_n 2, 1) := by decide +kernel
theorem dX6_shelfOf_2 : decode cX6_shelfOf 2 = .ok (.invokestatic 109, 3) := by decide +kernel
theorem dX6_shelfOf_5 : decode cX6_shelfOf 5 = .ok (.ifCond .ne 6, 3) := by decide +kernel
theorem dX6_shelfOf_8 : decode cX6_shelfOf 8 = .ok (.ldc 87, 2) := by decide +kernel
theorem dX6_shelfOf_10 : decode cX6_shelfOf 10 = .ok (.ireturn, 1) := by decide +kernel
theorem dX6_shelfOf_11 : decode cX6_shelfOf 11 = .ok (.aload_n 0, 1) := by decide +kernel
theorem dX6_shelfOf_12 : decode cX6_shelfOf 12 = .ok (.getfield 12, 3) := by decide +kernel
theorem dX6_shelfOf_15 : decode cX6_shelfOf 15 = .ok (.getfield 77, 3) := by decide +kernel
theorem dX6_shelfOf_18 : decode cX6_shelfOf 18 = .ok (.iload_n 1, 1) := by decide +kernel
theorem dX6_shelfOf_19 : decode cX6_shelfOf 19 = .ok (.iload_n 2, 1) := by decide +kernel
theorem dX6_shelfOf_20 : decode cX6_shelfOf 20 = .ok (.invokestatic 113, 3) := by decide +kernel
theorem dX6_shelfOf_23 : decode cX6_shelfOf 23 = .ok (.invokevirtual 116, 3) := by decide +kernel
theorem dX6_shelfOf_26 : decode cX6_shelfOf 26 = .ok (.invokestatic 119, 3) := by decide +kernel
theorem dX6_shelfOf_29 : decode cX6_shelfOf 29 = .ok (.ireturn, 1) := by decide +kernel
theorem dX6_holder_0 : decode cX6_holder 0 = .ok (.iload_n 1, 1) := by decide +kernel
theorem dX6_holder_1 : decode cX6_holder 1 = .ok (.iconst 0, 1) := by decide +kernel
theorem dX6_holder_2 : decode cX6_holder 2 = .ok (.bipush 59, 2) := by decide +kernel
theorem dX6_holder_4 : decode cX6_holder 4 = .ok (.invokestatic 122, 3) := by decide +kernel
theorem dX6_holder_7 : decode cX6_holder 7 = .ok (.ifCond .ne 6, 3) := by decide +kernel
theorem dX6_holder_10 : decode cX6_holder 10 = .ok (.ldc 87, 2) := by decide +kernel
theorem dX6_holder_12 : decode cX6_holder 12 = .ok (.ireturn, 1) := by decide +kernel
theorem dX6_holder_13 : decode cX6_holder 13 = .ok (.aload_n 0, 1) := by decide +kernel
theorem dX6_holder_14 : decode cX6_holder 14 = .ok (.getfield 12, 3) := by decide +kernel
theorem dX6_holder_17 : decode cX6_holder 17 = .ok (.getfield 77, 3) := by decide +kernel
theorem dX6_holder_20 : decode cX6_holder 20 = .ok (.iload_n 1, 1) := by decide +kernel
theorem dX6_holder_21 : decode cX6_holder 21 = .ok (.invokevirtual 126, 3) := by decide +kernel
theorem dX6_holder_24 : decode cX6_holder 24 = .ok (.invokestatic 119, 3) := by decide +kernel
theorem dX6_holder_27 : decode cX6_holder 27 = .ok (.ireturn, 1) := by decide +kernel
theorem dX6_requestOf_0 : decode cX6_requestOf 0 = .ok (.iload_n 1, 1) := by decide +kernel
theorem dX6_requestOf_1 : decode cX6_requestOf 1 = .ok (.ifCond .lt 12, 3) := by decide +kernel
theorem dX6_requestOf_4 : decode cX6_requestOf 4 = .ok (.iload_n 2, 1) := by decide +kernel
theorem dX6_requestOf_5 : decode cX6_requestOf 5 = .ok (.iconst 0, 1) := by decide +kernel
theorem dX6_requestOf_6 : decode cX6_requestOf 6 = .ok (.iconst 2, 1) := by decide +kernel
theorem dX6_requestOf_7 : decode cX6_requestOf 7 = .ok (.invokestatic 122, 3) := by decide +kernel
theorem dX6_requestOf_10 : decode cX6_requestOf 10 = .ok (.ifCond .ne 6, 3) := by decide +kernel
theorem dX6_requestOf_13 : decode cX6_requestOf 13 = .ok (.ldc 87, 2) := by decide +kernel
theorem dX6_requestOf_15 : decode cX6_requestOf 15 = .ok (.ireturn, 1) := by decide +kernel
theorem dX6_requestOf_16 : decode cX6_requestOf 16 = .ok (.iload_n 1, 1) := by decide +kernel
theorem dX6_requestOf_17 : decode cX6_requestOf 17 = .ok (.aload_n 0, 1) := by decide +kernel
theorem dX6_requestOf_18 : decode cX6_requestOf 18 = .ok (.getfield 12, 3) := by decide +kernel
theorem dX6_requestOf_21 : decode cX6_requestOf 21 = .ok (.getfield 129, 3) := by decide +kernel
theorem dX6_requestOf_24 : decode cX6_requestOf 24 = .ok (.getfield 133, 3) := by decide +kernel
theorem dX6_requestOf_27 : decode cX6_requestOf 27 = .ok (.if_icmp .lt 6, 3) := by decide +kernel
theorem dX6_requestOf_30 : decode cX6_requestOf 30 = .ok (.ldc 139, 2) := by decide +kernel
theorem dX6_requestOf_32 : decode cX6_requestOf 32 = .ok (.ireturn, 1) := by decide +kernel
theorem dX6_requestOf_33 : decode cX6_requestOf 33 = .ok (.iload_n 2, 1) := by decide +kernel
theorem dX6_requestOf_34 : decode cX6_requestOf 34 = .ok (.lookupswitch 50 #[(0, 26), (1, 38)], 26) := by decide +kernel
theorem dX6_requestOf_60 : decode cX6_requestOf 60 = .ok (.aload_n 0, 1) := by decide +kernel
theorem dX6_requestOf_61 : decode cX6_requestOf 61 = .ok (.getfield 12, 3) := by decide +kernel
theorem dX6_requestOf_64 : decode cX6_requestOf 64 = .ok (.getfield 129, 3) := by decide +kernel
theorem dX6_requestOf_67 : decode cX6_requestOf 67 = .ok (.iload_n 1, 1) := by decide +kernel
theorem dX6_requestOf_68 : decode cX6_requestOf 68 = .ok (.invokevirtual 140, 3) := by decide +kernel
theorem dX6_requestOf_71 : decode cX6_requestOf 71 = .ok (.ireturn, 1) := by decide +kernel
theorem dX6_requestOf_72 : decode cX6_requestOf 72 = .ok (.aload_n 0, 1) := by decide +kernel
theorem dX6_requestOf_73 : decode cX6_requestOf 73 = .ok (.getfield 12, 3) := by decide +kernel
theorem dX6_requestOf_76 : decode cX6_requestOf 76 = .ok (.getfield 129, 3) := by decide +kernel
theorem dX6_requestOf_79 : decode cX6_requestOf 79 = .ok (.iload_n 1, 1) := by decide +kernel
theorem dX6_requestOf_80 : decode cX6_requestOf 80 = .ok (.invokevirtual 143, 3) := by decide +kernel
theorem dX6_requestOf_83 : decode cX6_requestOf 83 = .ok (.ireturn, 1) := by decide +kernel
theorem dX6_requestOf_84 : decode cX6_requestOf 84 = .ok (.aload_n 0, 1) := by decide +kernel
theorem dX6_requestOf_85 : decode cX6_requestOf 85 = .ok (.getfield 12, 3) := by decide +kernel
theorem dX6_requestOf_88 : decode cX6_requestOf 88 = .ok (.getfield 129, 3) := by decide +kernel
theorem dX6_requestOf_91 : decode cX6_requestOf 91 = .ok (.iload_n 1, 1) := by decide +kernel
theorem dX6_requestOf_92 : decode cX6_requestOf 92 = .ok (.invokevirtual 146, 3) := by decide +kernel
theorem dX6_requestOf_95 : decode cX6_requestOf 95 = .ok (.ireturn, 1) := by decide +kernel
theorem dX6_nextBy_0 : decode cX6_nextBy 0 = .ok (.iload_n 1, 1) := by decide +kernel
theorem dX6_nextBy_1 : decode cX6_nextBy 1 = .ok (.invokestatic 149, 3) := by decide +kernel
theorem dX6_nextBy_4 : decode cX6_nextBy 4 = .ok (.ifCond .ne 6, 3) := by decide +kernel
theorem dX6_nextBy_7 : decode cX6_nextBy 7 = .ok (.ldc 87, 2) := by decide +kernel
theorem dX6_nextBy_9 : decode cX6_nextBy 9 = .ok (.ireturn, 1) := by decide +kernel
theorem dX6_nextBy_10 : decode cX6_nextBy 10 = .ok (.aload_n 0, 1) := by decide +kernel
theorem dX6_nextBy_11 : decode cX6_nextBy 11 = .ok (.getfield 12, 3) := by decide +kernel
theorem dX6_nextBy_14 : decode cX6_nextBy 14 = .ok (.iload_n 1, 1) := by decide +kernel
theorem dX6_nextBy_15 : decode cX6_nextBy 15 = .ok (.invokevirtual 152, 3) := by decide +kernel
theorem dX6_nextBy_18 : decode cX6_nextBy 18 = .ok (.invokestatic 119, 3) := by decide +kernel
theorem dX6_nextBy_21 : decode cX6_nextBy 21 = .ok (.ireturn, 1) := by decide +kernel
theorem dX6_would_0 : decode cX6_would 0 = .ok (.iload_n 1, 1) := by decide +kernel
theorem dX6_would_1 : decode cX6_would 1 = .ok (.invokestatic 149, 3) := by decide +kernel
theorem dX6_would_4 : decode cX6_would 4 = .ok (.ifCond .eq 12, 3) := by decide +kernel
theorem dX6_would_7 : decode cX6_would 7 = .ok (.iload_n 2, 1) := by decide +kernel
theorem dX6_would_8 : decode cX6_would 8 = .ok (.iconst 0, 1) := by decide +kernel
theorem dX6_would_9 : decode cX6_would 9 = .ok (.iconst 4, 1) := by decide +kernel
theorem dX6_would_10 : decode cX6_would 10 = .ok (.invokestatic 122, 3) := by decide +kernel
theorem dX6_would_13 : decode cX6_would 13 = .ok (.ifCond .ne 6, 3) := by decide +kernel
theorem dX6_would_16 : decode cX6_would 16 = .ok (.ldc 87, 2) := by decide +kernel
theorem dX6_would_18 : decode cX6_would 18 = .ok (.ireturn, 1) := by decide +kernel
theorem dX6_would_19 : decode cX6_would 19 = .ok (.aload_n 0, 1) := by decide +kernel
theorem dX6_would_20 : decode cX6_would 20 = .ok (.invokevirtual 33, 3) := by decide +kernel
theorem dX6_would_23 : decode cX6_would 23 = .ok (.iload_n 1, 1) := by decide +kernel
theorem dX6_would_24 : decode cX6_would 24 = .ok (.invokevirtual 74, 3) := by decide +kernel
theorem dX6_would_27 : decode cX6_would 27 = .ok (.istore_n 3, 1) := by decide +kernel
theorem dX6_would_28 : decode cX6_would 28 = .ok (.iload_n 3, 1) := by decide +kernel
theorem dX6_would_29 : decode cX6_would 29 = .ok (.ifCond .ge 6, 3) := by decide +kernel
theorem dX6_would_32 : decode cX6_would 32 = .ok (.ldc 155, 2) := by decide +kernel
theorem dX6_would_34 : decode cX6_would 34 = .ok (.ireturn, 1) := by decide +kernel
theorem dX6_would_35 : decode cX6_would 35 = .ok (.aload_n 0, 1) := by decide +kernel
theorem dX6_would_36 : decode cX6_would 36 = .ok (.getfield 12, 3) := by decide +kernel
theorem dX6_would_39 : decode cX6_would 39 = .ok (.aload_n 0, 1) := by decide +kernel
theorem dX6_would_40 : decode cX6_would 40 = .ok (.getfield 12, 3) := by decide +kernel
theorem dX6_would_43 : decode cX6_would 43 = .ok (.iload_n 1, 1) := by decide +kernel
theorem dX6_would_44 : decode cX6_would 44 = .ok (.invokevirtual 152, 3) := by decide +kernel
theorem dX6_would_47 : decode cX6_would 47 = .ok (.invokevirtual 156, 3) := by decide +kernel
theorem dX6_would_50 : decode cX6_would 50 = .ok (.istore 4, 2) := by decide +kernel
theorem dX6_would_52 : decode cX6_would 52 = .ok (.iload_n 2, 1) := by decide +kernel
theorem dX6_would_53 : decode cX6_would 53 = .ok (.tableswitch 75 0 3 #[31, 47, 63, 65], 31) := by decide +kernel
theorem dX6_would_84 : decode cX6_would 84 = .ok (.aload_n 0, 1) := by decide +kernel
theorem dX6_would_85 : decode cX6_would 85 = .ok (.getfield 16, 3) := by decide +kernel
theorem dX6_would_88 : decode cX6_would 88 = .ok (.getfield 159, 3) := by decide +kernel
theorem dX6_would_91 : decode cX6_would 91 = .ok (.aload_n 0, 1) := by decide +kernel
theorem dX6_would_92 : decode cX6_would 92 = .ok (.getfield 12, 3) := by decide +kernel
theorem dX6_would_95 : decode cX6_would 95 = .ok (.getfield 159, 3) := by decide +kernel
theorem dX6_would_98 : decode cX6_would 98 = .ok (.isub, 1) := by decide +kernel
theorem dX6_would_99 : decode cX6_would 99 = .ok (.ireturn, 1) := by decide +kernel
theorem dX6_would_100 : decode cX6_would 100 = .ok (.aload_n 0, 1) := by decide +kernel
theorem dX6_would_101 : decode cX6_would 101 = .ok (.getfield 16, 3) := by decide +kernel
theorem dX6_would_104 : decode cX6_would 104 = .ok (.getfield 162, 3) := by decide +kernel
theorem dX6_would_107 : decode cX6_would 107 = .ok (.aload_n 0, 1) := by decide +kernel
theorem dX6_would_108 : decode cX6_would 108 = .ok (.getfield 12, 3) := by decide +kernel
theorem dX6_would_111 : decode cX6_would 111 = .ok (.getfield 162, 3) := by decide +kernel
theorem dX6_would_114 : decode cX6_would 114 = .ok (.isub, 1) := by decide +kernel
theorem dX6_would_115 : decode cX6_would 115 = .ok (.ireturn, 1) := by decide +kernel
theorem dX6_would_116 : decode cX6_would 116 = .ok (.iload_n 3, 1) := by decide +kernel
theorem dX6_would_117 : decode cX6_would 117 = .ok (.ireturn, 1) := by decide +kernel
theorem dX6_would_118 : decode cX6_would 118 = .ok (.aload_n 0, 1) := by decide +kernel
theorem dX6_would_119 : decode cX6_would 119 = .ok (.getfield 12, 3) := by decide +kernel
theorem dX6_would_122 : decode cX6_would 122 = .ok (.iload 4, 2) := by decide +kernel
theorem dX6_would_124 : decode cX6_would 124 = .ok (.invokevirtual 165, 3) := by decide +kernel
theorem dX6_would_127 : decode cX6_would 127 = .ok (.ireturn, 1) := by decide +kernel
theorem dX6_would_128 : decode cX6_would 128 = .ok (.iload 4, 2) := by decide +kernel
theorem dX6_would_130 : decode cX6_would 130 = .ok (.ireturn, 1) := by decide +kernel
theorem dX6_wayTo_0 : decode cX6_wayTo 0 = .ok (.iload_n 1, 1) := by decide +kernel
theorem dX6_wayTo_1 : decode cX6_wayTo 1 = .ok (.iconst 0, 1) := by decide +kernel
theorem dX6_wayTo_2 : decode cX6_wayTo 2 = .ok (.bipush 7, 2) := by decide +kernel
theorem dX6_wayTo_4 : decode cX6_wayTo 4 = .ok (.invokestatic 122, 3) := by decide +kernel
theorem dX6_wayTo_7 : decode cX6_wayTo 7 = .ok (.ifCond .ne 6, 3) := by decide +kernel
theorem dX6_wayTo_10 : decode cX6_wayTo 10 = .ok (.ldc 87, 2) := by decide +kernel
theorem dX6_wayTo_12 : decode cX6_wayTo 12 = .ok (.ireturn, 1) := by decide +kernel
theorem dX6_wayTo_13 : decode cX6_wayTo 13 = .ok (.aload_n 0, 1) := by decide +kernel
theorem dX6_wayTo_14 : decode cX6_wayTo 14 = .ok (.invokevirtual 33, 3) := by decide +kernel
theorem dX6_wayTo_17 : decode cX6_wayTo 17 = .ok (.iload_n 1, 1) := by decide +kernel
theorem dX6_wayTo_18 : decode cX6_wayTo 18 = .ok (.invokevirtual 168, 3) := by decide +kernel
theorem dX6_wayTo_21 : decode cX6_wayTo 21 = .ok (.aload_n 0, 1) := by decide +kernel
theorem dX6_wayTo_22 : decode cX6_wayTo 22 = .ok (.getfield 16, 3) := by decide +kernel
theorem dX6_wayTo_25 : decode cX6_wayTo 25 = .ok (.getfield 159, 3) := by decide +kernel
theorem dX6_wayTo_28 : decode cX6_wayTo 28 = .ok (.aload_n 0, 1) := by decide +kernel
theorem dX6_wayTo_29 : decode cX6_wayTo 29 = .ok (.getfield 12, 3) := by decide +kernel
theorem dX6_wayTo_32 : decode cX6_wayTo 32 = .ok (.getfield 159, 3) := by decide +kernel
theorem dX6_wayTo_35 : decode cX6_wayTo 35 = .ok (.isub, 1) := by decide +kernel
theorem dX6_wayTo_36 : decode cX6_wayTo 36 = .ok (.ireturn, 1) := by decide +kernel
theorem dX6_wholeBatch_0 : decode cX6_wholeBatch 0 = .ok (.iload_n 1, 1) := by decide +kernel
theorem dX6_wholeBatch_1 : decode cX6_wholeBatch 1 = .ok (.invokestatic 149, 3) := by decide +kernel
theorem dX6_wholeBatch_4 : decode cX6_wholeBatch 4 = .ok (.ifCond .eq 12, 3) := by decide +kernel
theorem dX6_wholeBatch_7 : decode cX6_wholeBatch 7 = .ok (.iload_n 2, 1) := by decide +kernel
theorem dX6_wholeBatch_8 : decode cX6_wholeBatch 8 = .ok (.iconst 0, 1) := by decide +kernel
theorem dX6_wholeBatch_9 : decode cX6_wholeBatch 9 = .ok (.iconst 2, 1) := by decide +kernel
theorem dX6_wholeBatch_10 : decode cX6_wholeBatch 10 = .ok (.invokestatic 122, 3) := by decide +kernel
theorem dX6_wholeBatch_13 : decode cX6_wholeBatch 13 = .ok (.ifCond .ne 6, 3) := by decide +kernel
theorem dX6_wholeBatch_16 : decode cX6_wholeBatch 16 = .ok (.ldc 87, 2) := by decide +kernel
theorem dX6_wholeBatch_18 : decode cX6_wholeBatch 18 = .ok (.ireturn, 1) := by decide +kernel
theorem dX6_wholeBatch_19 : decode cX6_wholeBatch 19 = .ok (.aload_n 0, 1) := by decide +kernel
theorem dX6_wholeBatch_20 : decode cX6_wholeBatch 20 = .ok (.invokevirtual 33, 3) := by decide +kernel
theorem dX6_wholeBatch_23 : decode cX6_wholeBatch 23 = .ok (.iload_n 1, 1) := by decide +kernel
theorem dX6_wholeBatch_24 : decode cX6_wholeBatch 24 = .ok (.invokevirtual 172, 3) := by decide +kernel
theorem dX6_wholeBatch_27 : decode cX6_wholeBatch 27 = .ok (.istore_n 3, 1) := by decide +kernel
theorem dX6_wholeBatch_28 : decode cX6_wholeBatch 28 = .ok (.iload_n 2, 1) := by decide +kernel
theorem dX6_wholeBatch_29 : decode cX6_wholeBatch 29 = .ok (.lookupswitch 45 #[(0, 27), (1, 43)], 27) := by decide +kernel
theorem dX6_wholeBatch_56 : decode cX6_wholeBatch 56 = .ok (.aload_n 0, 1) := by decide +kernel
theorem dX6_wholeBatch_57 : decode cX6_wholeBatch 57 = .ok (.getfield 16, 3) := by decide +kernel
theorem dX6_wholeBatch_60 : decode cX6_wholeBatch 60 = .ok (.getfield 159, 3) := by decide +kernel
theorem dX6_wholeBatch_63 : decode cX6_wholeBatch 63 = .ok (.aload_n 0, 1) := by decide +kernel
theorem dX6_wholeBatch_64 : decode cX6_wholeBatch 64 = .ok (.getfield 12, 3) := by decide +kernel
theorem dX6_wholeBatch_67 : decode cX6_wholeBatch 67 = .ok (.getfield 159, 3) := by decide +kernel
theorem dX6_wholeBatch_70 : decode cX6_wholeBatch 70 = .ok (.isub, 1) := by decide +kernel
theorem dX6_wholeBatch_71 : decode cX6_wholeBatch 71 = .ok (.ireturn, 1) := by decide +kernel
theorem dX6_wholeBatch_72 : decode cX6_wholeBatch 72 = .ok (.iload_n 3, 1) := by decide +kernel
theorem dX6_wholeBatch_73 : decode cX6_wholeBatch 73 = .ok (.ireturn, 1) := by decide +kernel
theorem dX6_wholeBatch_74 : decode cX6_wholeBatch 74 = .ok (.aload_n 0, 1) := by decide +kernel
theorem dX6_wholeBatch_75 : decode cX6_wholeBatch 75 = .ok (.getfield 16, 3) := by decide +kernel
theorem dX6_wholeBatch_78 : decode cX6_wholeBatch 78 = .ok (.getfield 129, 3) := by decide +kernel
theorem dX6_wholeBatch_81 : decode cX6_wholeBatch 81 = .ok (.getfield 133, 3) := by decide +kernel
theorem dX6_wholeBatch_84 : decode cX6_wholeBatch 84 = .ok (.ireturn, 1) := by decide +kernel
theorem dX6_count_0 : decode cX6_count 0 = .ok (.iload_n 1, 1) := by decide +kernel
theorem dX6_count_1 : decode cX6_count 1 = .ok (.tableswitch 238 0 15 #[79, 87, 95, 103, 111, 127, 138, 149, 160, 171, 179, 187, 199, 211, 222, 230], 79) := by decide +kernel
theorem dX6_count_80 : decode cX6_count 80 = .ok (.aload_n 0, 1) := by decide +kernel
theorem dX6_count_81 : decode cX6_count 81 = .ok (.getfield 12, 3) := by decide +kernel
theorem dX6_count_84 : decode cX6_count 84 = .ok (.getfield 159, 3) := by decide +kernel
theorem dX6_count_87 : decode cX6_count 87 = .ok (.ireturn, 1) := by decide +kernel
theorem dX6_count_88 : decode cX6_count 88 = .ok (.aload_n 0, 1) := by decide +kernel
theorem dX6_count_89 : decode cX6_count 89 = .ok (.getfield 12, 3) := by decide +kernel
theorem dX6_count_92 : decode cX6_count 92 = .ok (.getfield 175, 3) := by decide +kernel
theorem dX6_count_95 : decode cX6_count 95 = .ok (.ireturn, 1) := by decide +kernel
theorem dX6_count_96 : decode cX6_count 96 = .ok (.aload_n 0, 1) := by decide +kernel
theorem dX6_count_97 : decode cX6_count 97 = .ok (.getfield 12, 3) := by decide +kernel
theorem dX6_count_100 : decode cX6_count 100 = .ok (.getfield 178, 3) := by decide +kernel
theorem dX6_count_103 : decode cX6_count 103 = .ok (.ireturn, 1) := by decide +kernel
theorem dX6_count_104 : decode cX6_count 104 = .ok (.aload_n 0, 1) := by decide +kernel
theorem dX6_count_105 : decode cX6_count 105 = .ok (.getfield 12, 3) := by decide +kernel
theorem dX6_count_108 : decode cX6_count 108 = .ok (.getfield 181, 3) := by decide +kernel
theorem dX6_count_111 : decode cX6_count 111 = .ok (.ireturn, 1) := by decide +kernel
theorem dX6_count_112 : decode cX6_count 112 = .ok (.aload_n 0, 1) := by decide +kernel
theorem dX6_count_113 : decode cX6_count 113 = .ok (.getfield 12, 3) := by decide +kernel
theorem dX6_count_116 : decode cX6_count 116 = .ok (.getfield 184, 3) := by decide +kernel
theorem dX6_count_119 : decode cX6_count 119 = .ok (.ifCond .eq 7, 3) := by decide +kernel
theorem dX6_count_122 : decode cX6_count 122 = .ok (.iconst 1, 1) := by decide +kernel
theorem dX6_count_123 : decode cX6_count 123 = .ok (.goto 4, 3) := by decide +kernel
theorem dX6_count_126 : decode cX6_count 126 = .ok (.iconst 0, 1) := by decide +kernel
theorem dX6_count_127 : decode cX6_count 127 = .ok (.ireturn, 1) := by decide +kernel
theorem dX6_count_128 : decode cX6_count 128 = .ok (.aload_n 0, 1) := by decide +kernel
theorem dX6_count_129 : decode cX6_count 129 = .ok (.getfield 12, 3) := by decide +kernel
theorem dX6_count_132 : decode cX6_count 132 = .ok (.getfield 77, 3) := by decide +kernel
theorem dX6_count_135 : decode cX6_count 135 = .ok (.getfield 188, 3) := by decide +kernel
theorem dX6_count_138 : decode cX6_count 138 = .ok (.ireturn, 1) := by decide +kernel
theorem dX6_count_139 : decode cX6_count 139 = .ok (.aload_n 0, 1) := by decide +kernel
theorem dX6_count_140 : decode cX6_count 140 = .ok (.getfield 12, 3) := by decide +kernel
theorem dX6_count_143 : decode cX6_count 143 = .ok (.getfield 77, 3) := by decide +kernel
theorem dX6_count_146 : decode cX6_count 146 = .ok (.invokevirtual 189, 3) := by decide +kernel
theorem dX6_count_149 : decode cX6_count 149 = .ok (.ireturn, 1) := by decide +kernel
theorem dX6_count_150 : decode cX6_count 150 = .ok (.aload_n 0, 1) := by decide +kernel
theorem dX6_count_151 : decode cX6_count 151 = .ok (.getfield 12, 3) := by decide +kernel
theorem dX6_count_154 : decode cX6_count 154 = .ok (.getfield 77, 3) := by decide +kernel
theorem dX6_count_157 : decode cX6_count 157 = .ok (.invokevirtual 192, 3) := by decide +kernel
theorem dX6_count_160 : decode cX6_count 160 = .ok (.ireturn, 1) := by decide +kernel
theorem dX6_count_161 : decode cX6_count 161 = .ok (.aload_n 0, 1) := by decide +kernel
theorem dX6_count_162 : decode cX6_count 162 = .ok (.getfield 12, 3) := by decide +kernel
theorem dX6_count_165 : decode cX6_count 165 = .ok (.getfield 129, 3) := by decide +kernel
theorem dX6_count_168 : decode cX6_count 168 = .ok (.getfield 133, 3) := by decide +kernel
theorem dX6_count_171 : decode cX6_count 171 = .ok (.ireturn, 1) := by decide +kernel
theorem dX6_count_172 : decode cX6_count 172 = .ok (.aload_n 0, 1) := by decide +kernel
theorem dX6_count_173 : decode cX6_count 173 = .ok (.getfield 12, 3) := by decide +kernel
theorem dX6_count_176 : decode cX6_count 176 = .ok (.getfield 195, 3) := by decide +kernel
theorem dX6_count_179 : decode cX6_count 179 = .ok (.ireturn, 1) := by decide +kernel
theorem dX6_count_180 : decode cX6_count 180 = .ok (.aload_n 0, 1) := by decide +kernel
theorem dX6_count_181 : decode cX6_count 181 = .ok (.getfield 12, 3) := by decide +kernel
theorem dX6_count_184 : decode cX6_count 184 = .ok (.getfield 162, 3) := by decide +kernel
theorem dX6_count_187 : decode cX6_count 187 = .ok (.ireturn, 1) := by decide +kernel
theorem dX6_count_188 : decode cX6_count 188 = .ok (.aload_n 0, 1) := by decide +kernel
theorem dX6_count_189 : decode cX6_count 189 = .ok (.getfield 12, 3) := by decide +kernel
theorem dX6_count_192 : decode cX6_count 192 = .ok (.iconst 0, 1) := by decide +kernel
theorem dX6_count_193 : decode cX6_count 193 = .ok (.invokevirtual 198, 3) := by decide +kernel
theorem dX6_count_196 : decode cX6_count 196 = .ok (.invokestatic 119, 3) := by decide +kernel
theorem dX6_count_199 : decode cX6_count 199 = .ok (.ireturn, 1) := by decide +kernel
theorem dX6_count_200 : decode cX6_count 200 = .ok (.aload_n 0, 1) := by decide +kernel
theorem dX6_count_201 : decode cX6_count 201 = .ok (.getfield 12, 3) := by decide +kernel
theorem dX6_count_204 : decode cX6_count 204 = .ok (.iconst 1, 1) := by decide +kernel
theorem dX6_count_205 : decode cX6_count 205 = .ok (.invokevirtual 198, 3) := by decide +kernel
theorem dX6_count_208 : decode cX6_count 208 = .ok (.invokestatic 119, 3) := by decide +kernel
theorem dX6_count_211 : decode cX6_count 211 = .ok (.ireturn, 1) := by decide +kernel
theorem dX6_count_212 : decode cX6_count 212 = .ok (.aload_n 0, 1) := by decide +kernel
theorem dX6_count_213 : decode cX6_count 213 = .ok (.getfield 12, 3) := by decide +kernel
theorem dX6_count_216 : decode cX6_count 216 = .ok (.getfield 77, 3) := by decide +kernel
theorem dX6_count_219 : decode cX6_count 219 = .ok (.invokevirtual 201, 3) := by decide +kernel
theorem dX6_count_222 : decode cX6_count 222 = .ok (.ireturn, 1) := by decide +kernel
theorem dX6_count_223 : decode cX6_count 223 = .ok (.aload_n 0, 1) := by decide +kernel
theorem dX6_count_224 : decode cX6_count 224 = .ok (.getfield 22, 3) := by decide +kernel
theorem dX6_count_227 : decode cX6_count 227 = .ok (.getfield 204, 3) := by decide +kernel
theorem dX6_count_230 : decode cX6_count 230 = .ok (.ireturn, 1) := by decide +kernel
theorem dX6_count_231 : decode cX6_count 231 = .ok (.aload_n 0, 1) := by decide +kernel
theorem dX6_count_232 : decode cX6_count 232 = .ok (.getfield 29, 3) := by decide +kernel
theorem dX6_count_235 : decode cX6_count 235 = .ok (.getfield 205, 3) := by decide +kernel
theorem dX6_count_238 : decode cX6_count 238 = .ok (.ireturn, 1) := by decide +kernel
theorem dX6_count_239 : decode cX6_count 239 = .ok (.ldc 87, 2) := by decide +kernel
theorem dX6_count_241 : decode cX6_count 241 = .ok (.ireturn, 1) := by decide +kernel
theorem dX6_undo_0 : decode cX6_undo 0 = .ok (.aload_n 0, 1) := by decide +kernel
theorem dX6_undo_1 : decode cX6_undo 1 = .ok (.getfield 22, 3) := by decide +kernel
theorem dX6_undo_4 : decode cX6_undo 4 = .ok (.aload_n 0, 1) := by decide +kernel
theorem dX6_undo_5 : decode cX6_undo 5 = .ok (.getfield 12, 3) := by decide +kernel
theorem dX6_undo_8 : decode cX6_undo 8 = .ok (.invokevirtual 208, 3) := by decide +kernel
theorem dX6_undo_11 : decode cX6_undo 11 = .ok (.ireturn, 1) := by decide +kernel
theorem dX6_type_0 : decode cX6_type 0 = .ok (.aload_n 0, 1) := by decide +kernel
theorem dX6_type_1 : decode cX6_type 1 = .ok (.getfield 29, 3) := by decide +kernel
theorem dX6_type_4 : decode cX6_type 4 = .ok (.iload_n 1, 1) := by decide +kernel
theorem dX6_type_5 : decode cX6_type 5 = .ok (.invokevirtual 212, 3) := by decide +kernel
theorem dX6_type_8 : decode cX6_type 8 = .ok (.ireturn, 1) := by decide +kernel
theorem dX6_clearText_0 : decode cX6_clearText 0 = .ok (.aload_n 0, 1) := by decide +kernel
theorem dX6_clearText_1 : decode cX6_clearText 1 = .ok (.getfield 29, 3) := by decide +kernel
theorem dX6_clearText_4 : decode cX6_clearText 4 = .ok (.invokevirtual 215, 3) := by decide +kernel
theorem dX6_clearText_7 : decode cX6_clearText 7 = .ok (.ireturn, 1) := by decide +kernel
theorem dX6_fault_0 : decode cX6_fault 0 = .ok (.iload_n 1, 1) := by decide +kernel
theorem dX6_fault_1 : decode cX6_fault 1 = .ok (.iconst 0, 1) := by decide +kernel
theorem dX6_fault_2 : decode cX6_fault 2 = .ok (.iconst 2, 1) := by decide +kernel
theorem dX6_fault_3 : decode cX6_fault 3 = .ok (.invokestatic 122, 3) := by decide +kernel
theorem dX6_fault_6 : decode cX6_fault 6 = .ok (.ifCond .ne 6, 3) := by decide +kernel
theorem dX6_fault_9 : decode cX6_fault 9 = .ok (.ldc 87, 2) := by decide +kernel
theorem dX6_fault_11 : decode cX6_fault 11 = .ok (.ireturn, 1) := by decide +kernel
theorem dX6_fault_12 : decode cX6_fault 12 = .ok (.aload_n 0, 1) := by decide +kernel
theorem dX6_fault_13 : decode cX6_fault 13 = .ok (.getfield 29, 3) := by decide +kernel
theorem dX6_fault_16 : decode cX6_fault 16 = .ok (.aload_n 0, 1) := by decide +kernel
theorem dX6_fault_17 : decode cX6_fault 17 = .ok (.invokevirtual 33, 3) := by decide +kernel
theorem dX6_fault_20 : decode cX6_fault 20 = .ok (.invokevirtual 218, 3) := by decide +kernel
theorem dX6_fault_23 : decode cX6_fault 23 = .ok (.pop, 1) := by decide +kernel
theorem dX6_fault_24 : decode cX6_fault 24 = .ok (.aload_n 0, 1) := by decide +kernel
theorem dX6_fault_25 : decode cX6_fault 25 = .ok (.getfield 29, 3) := by decide +kernel
theorem dX6_fault_28 : decode cX6_fault 28 = .ok (.iload_n 1, 1) := by decide +kernel
theorem dX6_fault_29 : decode cX6_fault 29 = .ok (.invokevirtual 221, 3) := by decide +kernel
theorem dX6_fault_32 : decode cX6_fault 32 = .ok (.ireturn, 1) := by decide +kernel
theorem dX6_play_0 : decode cX6_play 0 = .ok (.aload_n 0, 1) := by decide +kernel
theorem dX6_play_1 : decode cX6_play 1 = .ok (.aload_n 0, 1) := by decide +kernel
theorem dX6_play_2 : decode cX6_play 2 = .ok (.getfield 29, 3) := by decide +kernel
theorem dX6_play_5 : decode cX6_play 5 = .ok (.aload_n 0, 1) := by decide +kernel
theorem dX6_play_6 : decode cX6_play 6 = .ok (.invokevirtual 33, 3) := by decide +kernel
theorem dX6_play_9 : decode cX6_play 9 = .ok (.invokevirtual 218, 3) := by decide +kernel
theorem dX6_play_12 : decode cX6_play 12 = .ok (.invokevirtual 41, 3) := by decide +kernel
theorem dX6_play_15 : decode cX6_play 15 = .ok (.ireturn, 1) := by decide +kernel
theorem dX6_freshTrial_0 : decode cX6_freshTrial 0 = .ok (.aload_n 0, 1) := by decide +kernel
theorem dX6_freshTrial_1 : decode cX6_freshTrial 1 = .ok (.getfield 16, 3) := by decide +kernel
theorem dX6_freshTrial_4 : decode cX6_freshTrial 4 = .ok (.aload_n 0, 1) := by decide +kernel
theorem dX6_freshTrial_5 : decode cX6_freshTrial 5 = .ok (.getfield 12, 3) := by decide +kernel
theorem dX6_freshTrial_8 : decode cX6_freshTrial 8 = .ok (.invokevirtual 224, 3) := by decide +kernel
theorem dX6_freshTrial_11 : decode cX6_freshTrial 11 = .ok (.aload_n 0, 1) := by decide +kernel
theorem dX6_freshTrial_12 : decode cX6_freshTrial 12 = .ok (.getfield 16, 3) := by decide +kernel
theorem dX6_freshTrial_15 : decode cX6_freshTrial 15 = .ok (.areturn, 1) := by decide +kernel
theorem dX6_keep_0 : decode cX6_keep 0 = .ok (.iload_n 1, 1) := by decide +kernel
theorem dX6_keep_1 : decode cX6_keep 1 = .ok (.iconst (-1), 1) := by decide +kernel
theorem dX6_keep_2 : decode cX6_keep 2 = .ok (.if_icmp .lt 25, 3) := by decide +kernel
theorem dX6_keep_5 : decode cX6_keep 5 = .ok (.aload_n 0, 1) := by decide +kernel
theorem dX6_keep_6 : decode cX6_keep 6 = .ok (.getfield 22, 3) := by decide +kernel
theorem dX6_keep_9 : decode cX6_keep 9 = .ok (.aload_n 0, 1) := by decide +kernel
theorem dX6_keep_10 : decode cX6_keep 10 = .ok (.getfield 12, 3) := by decide +kernel
theorem dX6_keep_13 : decode cX6_keep 13 = .ok (.invokevirtual 228, 3) := by decide +kernel
theorem dX6_keep_16 : decode cX6_keep 16 = .ok (.aload_n 0, 1) := by decide +kernel
theorem dX6_keep_17 : decode cX6_keep 17 = .ok (.getfield 12, 3) := by decide +kernel
theorem dX6_keep_20 : decode cX6_keep 20 = .ok (.aload_n 0, 1) := by decide +kernel
theorem dX6_keep_21 : decode cX6_keep 21 = .ok (.getfield 16, 3) := by decide +kernel
theorem dX6_keep_24 : decode cX6_keep 24 = .ok (.invokevirtual 224, 3) := by decide +kernel
theorem dX6_keep_27 : decode cX6_keep 27 = .ok (.iload_n 1, 1) := by decide +kernel
theorem dX6_keep_28 : decode cX6_keep 28 = .ok (.ireturn, 1) := by decide +kernel
theorem dX6_found_0 : decode cX6_found 0 = .ok (.iload_n 0, 1) := by decide +kernel
theorem dX6_found_1 : decode cX6_found 1 = .ok (.iconst (-1), 1) := by decide +kernel
theorem dX6_found_2 : decode cX6_found 2 = .ok (.if_icmp .ne 8, 3) := by decide +kernel
theorem dX6_found_5 : decode cX6_found 5 = .ok (.ldc 139, 2) := by decide +kernel
theorem dX6_found_7 : decode cX6_found 7 = .ok (.goto 4, 3) := by decide +kernel
theorem dX6_found_10 : decode cX6_found 10 = .ok (.iload_n 0, 1) := by decide +kernel
theorem dX6_found_11 : decode cX6_found 11 = .ok (.ireturn, 1) := by decide +kernel
theorem dX6_isIn_0 : decode cX6_isIn 0 = .ok (.iload_n 0, 1) := by decide +kernel
theorem dX6_isIn_1 : decode cX6_isIn 1 = .ok (.iload_n 1, 1) := by decide +kernel
theorem dX6_isIn_2 : decode cX6_isIn 2 = .ok (.if_icmp .lt 12, 3) := by decide +kernel
theorem dX6_isIn_5 : decode cX6_isIn 5 = .ok (.iload_n 0, 1) := by decide +kernel
theorem dX6_isIn_6 : decode cX6_isIn 6 = .ok (.iload_n 2, 1) := by decide +kernel
theorem dX6_isIn_7 : decode cX6_isIn 7 = .ok (.if_icmp .gt 7, 3) := by decide +kernel
theorem dX6_isIn_10 : decode cX6_isIn 10 = .ok (.iconst 1, 1) := by decide +kernel
theorem dX6_isIn_11 : decode cX6_isIn 11 = .ok (.goto 4, 3) := by decide +kernel
theorem dX6_isIn_14 : decode cX6_isIn 14 = .ok (.iconst 0, 1) := by decide +kernel
theorem dX6_isIn_15 : decode cX6_isIn 15 = .ok (.ireturn, 1) := by decide +kernel
theorem dX6_isRule_0 : decode cX6_isRule 0 = .ok (.iload_n 0, 1) := by decide +kernel
theorem dX6_isRule_1 : decode cX6_isRule 1 = .ok (.iconst 0, 1) := by decide +kernel
theorem dX6_isRule_2 : decode cX6_isRule 2 = .ok (.iconst 3, 1) := by decide +kernel
theorem dX6_isRule_3 : decode cX6_isRule 3 = .ok (.invokestatic 122, 3) := by decide +kernel
theorem dX6_isRule_6 : decode cX6_isRule 6 = .ok (.ireturn, 1) := by decide +kernel
theorem dX6_isShelf_0 : decode cX6_isShelf 0 = .ok (.iload_n 0, 1) := by decide +kernel
theorem dX6_isShelf_1 : decode cX6_isShelf 1 = .ok (.iconst 0, 1) := by decide +kernel
theorem dX6_isShelf_2 : decode cX6_isShelf 2 = .ok (.bipush 7, 2) := by decide +kernel
theorem dX6_isShelf_4 : decode cX6_isShelf 4 = .ok (.invokestatic 122, 3) := by decide +kernel
theorem dX6_isShelf_7 : decode cX6_isShelf 7 = .ok (.ifCond .eq 16, 3) := by decide +kernel
theorem dX6_isShelf_10 : decode cX6_isShelf 10 = .ok (.iload_n 1, 1) := by decide +kernel
theorem dX6_isShelf_11 : decode cX6_isShelf 11 = .ok (.iconst 0, 1) := by decide +kernel
theorem dX6_isShelf_12 : decode cX6_isShelf 12 = .ok (.iconst 3, 1) := by decide +kernel
theorem dX6_isShelf_13 : decode cX6_isShelf 13 = .ok (.invokestatic 122, 3) := by decide +kernel
theorem dX6_isShelf_16 : decode cX6_isShelf 16 = .ok (.ifCond .eq 7, 3) := by decide +kernel
theorem dX6_isShelf_19 : decode cX6_isShelf 19 = .ok (.iconst 1, 1) := by decide +kernel
theorem dX6_isShelf_20 : decode cX6_isShelf 20 = .ok (.goto 4, 3) := by decide +kernel
theorem dX6_isShelf_23 : decode cX6_isShelf 23 = .ok (.iconst 0, 1) := by decide +kernel
theorem dX6_isShelf_24 : decode cX6_isShelf 24 = .ok (.ireturn, 1) := by decide +kernel
theorem dX6_shelfSlot_0 : decode cX6_shelfSlot 0 = .ok (.iconst 4, 1) := by decide +kernel
theorem dX6_shelfSlot_1 : decode cX6_shelfSlot 1 = .ok (.iload_n 0, 1) := by decide +kernel
theorem dX6_shelfSlot_2 : decode cX6_shelfSlot 2 = .ok (.imul, 1) := by decide +kernel
theorem dX6_shelfSlot_3 : decode cX6_shelfSlot 3 = .ok (.iload_n 1, 1) := by decide +kernel
theorem dX6_shelfSlot_4 : decode cX6_shelfSlot 4 = .ok (.iadd, 1) := by decide +kernel
theorem dX6_shelfSlot_5 : decode cX6_shelfSlot 5 = .ok (.ireturn, 1) := by decide +kernel
theorem dX6_wallOfDrive_0 : decode cX6_wallOfDrive 0 = .ok (.iload_n 0, 1) := by decide +kernel
theorem dX6_wallOfDrive_1 : decode cX6_wallOfDrive 1 = .ok (.ifCond .ne 7, 3) := by decide +kernel
theorem dX6_wallOfDrive_4 : decode cX6_wallOfDrive 4 = .ok (.iconst 2, 1) := by decide +kernel
theorem dX6_wallOfDrive_5 : decode cX6_wallOfDrive 5 = .ok (.goto 5, 3) := by decide +kernel
theorem dX6_wallOfDrive_8 : decode cX6_wallOfDrive 8 = .ok (.bipush 6, 2) := by decide +kernel
theorem dX6_wallOfDrive_10 : decode cX6_wallOfDrive 10 = .ok (.ireturn, 1) := by decide +kernel
theorem dX6_wallsToTheRight_0 : decode cX6_wallsToTheRight 0 = .ok (.iload_n 1, 1) := by decide +kernel
theorem dX6_wallsToTheRight_1 : decode cX6_wallsToTheRight 1 = .ok (.iload_n 0, 1) := by decide +kernel
theorem dX6_wallsToTheRight_2 : decode cX6_wallsToTheRight 2 = .ok (.isub, 1) := by decide +kernel
theorem dX6_wallsToTheRight_3 : decode cX6_wallsToTheRight 3 = .ok (.bipush 8, 2) := by decide +kernel
theorem dX6_wallsToTheRight_5 : decode cX6_wallsToTheRight 5 = .ok (.iadd, 1) := by decide +kernel
theorem dX6_wallsToTheRight_6 : decode cX6_wallsToTheRight 6 = .ok (.bipush 8, 2) := by decide +kernel
theorem dX6_wallsToTheRight_8 : decode cX6_wallsToTheRight 8 = .ok (.irem, 1) := by decide +kernel
theorem dX6_wallsToTheRight_9 : decode cX6_wallsToTheRight 9 = .ok (.ireturn, 1) := by decide +kernel
theorem dX6_distance_0 : decode cX6_distance 0 = .ok (.iload_n 0, 1) := by decide +kernel
theorem dX6_distance_1 : decode cX6_distance 1 = .ok (.iload_n 1, 1) := by decide +kernel
theorem dX6_distance_2 : decode cX6_distance 2 = .ok (.invokestatic 231, 3) := by decide +kernel
theorem dX6_distance_5 : decode cX6_distance 5 = .ok (.istore_n 2, 1) := by decide +kernel
theorem dX6_distance_6 : decode cX6_distance 6 = .ok (.iload_n 2, 1) := by decide +kernel
theorem dX6_distance_7 : decode cX6_distance 7 = .ok (.iconst 4, 1) := by decide +kernel
theorem dX6_distance_8 : decode cX6_distance 8 = .ok (.if_icmp .gt 7, 3) := by decide +kernel
theorem dX6_distance_11 : decode cX6_distance 11 = .ok (.iload_n 2, 1) := by decide +kernel
theorem dX6_distance_12 : decode cX6_distance 12 = .ok (.goto 7, 3) := by decide +kernel
theorem dX6_distance_15 : decode cX6_distance 15 = .ok (.bipush 8, 2) := by decide +kernel
theorem dX6_distance_17 : decode cX6_distance 17 = .ok (.iload_n 2, 1) := by decide +kernel
theorem dX6_distance_18 : decode cX6_distance 18 = .ok (.isub, 1) := by decide +kernel
theorem dX6_distance_19 : decode cX6_distance 19 = .ok (.ireturn, 1) := by decide +kernel
theorem dX6_mostWallsWith_0 : decode cX6_mostWallsWith 0 = .ok (.iload_n 0, 1) := by decide +kernel
theorem dX6_mostWallsWith_1 : decode cX6_mostWallsWith 1 = .ok (.bipush 10, 2) := by decide +kernel
theorem dX6_mostWallsWith_3 : decode cX6_mostWallsWith 3 = .ok (.if_icmp .gt 5, 3) := by decide +kernel
theorem dX6_mostWallsWith_6 : decode cX6_mostWallsWith 6 = .ok (.iconst 4, 1) := by decide +kernel
theorem dX6_mostWallsWith_7 : decode cX6_mostWallsWith 7 = .ok (.ireturn, 1) := by decide +kernel
theorem dX6_mostWallsWith_8 : decode cX6_mostWallsWith 8 = .ok (.iload_n 0, 1) := by decide +kernel
theorem dX6_mostWallsWith_9 : decode cX6_mostWallsWith 9 = .ok (.bipush 20, 2) := by decide +kernel
theorem dX6_mostWallsWith_11 : decode cX6_mostWallsWith 11 = .ok (.if_icmp .gt 7, 3) := by decide +kernel
theorem dX6_mostWallsWith_14 : decode cX6_mostWallsWith 14 = .ok (.iconst 2, 1) := by decide +kernel
theorem dX6_mostWallsWith_15 : decode cX6_mostWallsWith 15 = .ok (.goto 4, 3) := by decide +kernel
theorem dX6_mostWallsWith_18 : decode cX6_mostWallsWith 18 = .ok (.iconst 1, 1) := by decide +kernel
theorem dX6_mostWallsWith_19 : decode cX6_mostWallsWith 19 = .ok (.ireturn, 1) := by decide +kernel
theorem dX7_init_0 : decode cX7_init 0 = .ok (.aload_n 0, 1) := by decide +kernel
theorem dX7_init_1 : decode cX7_init 1 = .ok (.invokespecial 1, 3) := by decide +kernel
theorem dX7_init_4 : decode cX7_init 4 = .ok (.aload_n 0, 1) := by decide +kernel
theorem dX7_init_5 : decode cX7_init 5 = .ok (.sipush 264, 3) := by decide +kernel
theorem dX7_init_8 : decode cX7_init 8 = .ok (.newarray .int, 2) := by decide +kernel
theorem dX7_init_10 : decode cX7_init 10 = .ok (.putfield 7, 3) := by decide +kernel
theorem dX7_init_13 : decode cX7_init 13 = .ok (.aload_n 0, 1) := by decide +kernel
theorem dX7_init_14 : decode cX7_init 14 = .ok (.sipush 1056, 3) := by decide +kernel
theorem dX7_init_17 : decode cX7_init 17 = .ok (.newarray .int, 2) := by decide +kernel
theorem dX7_init_19 : decode cX7_init 19 = .ok (.putfield 13, 3) := by decide +kernel
theorem dX7_init_22 : decode cX7_init 22 = .ok (.aload_n 0, 1) := by decide +kernel
theorem dX7_init_23 : decode cX7_init 23 = .ok (.sipush 264, 3) := by decide +kernel
theorem dX7_init_26 : decode cX7_init 26 = .ok (.newarray .int, 2) := by decide +kernel
theorem dX7_init_28 : decode cX7_init 28 = .ok (.putfield 16, 3) := by decide +kernel
theorem dX7_init_31 : decode cX7_init 31 = .ok (.aload_n 0, 1) := by decide +kernel
theorem dX7_init_32 : decode cX7_init 32 = .ok (.sipush 264, 3) := by decide +kernel
theorem dX7_init_35 : decode cX7_init 35 = .ok (.newarray .int, 2) := by decide +kernel
theorem dX7_init_37 : decode cX7_init 37 = .ok (.putfield 19, 3) := by decide +kernel
theorem dX7_init_40 : decode cX7_init 40 = .ok (.aload_n 0, 1) := by decide +kernel
theorem dX7_init_41 : decode cX7_init 41 = .ok (.bipush 60, 2) := by decide +kernel
theorem dX7_init_43 : decode cX7_init 43 = .ok (.newarray .char, 2) := by decide +kernel
theorem dX7_init_45 : decode cX7_init 45 = .ok (.putfield 22, 3) := by decide +kernel
theorem dX7_init_48 : decode cX7_init 48 = .ok (.aload_n 0, 1) := by decide +kernel
theorem dX7_init_49 : decode cX7_init 49 = .ok (.getfield 7, 3) := by decide +kernel
theorem dX7_init_52 : decode cX7_init 52 = .ok (.bipush 11, 2) := by decide +kernel
theorem dX7_init_54 : decode cX7_init 54 = .ok (.iconst (-1), 1) := by decide +kernel
theorem dX7_init_55 : decode cX7_init 55 = .ok (.iastore, 1) := by decide +kernel
theorem dX7_init_56 : decode cX7_init 56 = .ok (.aload_n 0, 1) := by decide +kernel
theorem dX7_init_57 : decode cX7_init 57 = .ok (.getfield 7, 3) := by decide +kernel
theorem dX7_init_60 : decode cX7_init 60 = .ok (.bipush 12, 2) := by decide +kernel
theorem dX7_init_62 : decode cX7_init 62 = .ok (.iconst (-1), 1) := by decide +kernel
theorem dX7_init_63 : decode cX7_init 63 = .ok (.iastore, 1) := by decide +kernel
theorem dX7_init_64 : decode cX7_init 64 = .ok (.iconst 0, 1) := by decide +kernel
theorem dX7_init_65 : decode cX7_init 65 = .ok (.istore_n 1, 1) := by decide +kernel
theorem dX7_init_66 : decode cX7_init 66 = .ok (.iload_n 1, 1) := by decide +kernel
theorem dX7_init_67 : decode cX7_init 67 = .ok (.bipush 32, 2) := by decide +kernel
theorem dX7_init_69 : decode cX7_init 69 = .ok (.if_icmp .ge 19, 3) := by decide +kernel
theorem dX7_init_72 : decode cX7_init 72 = .ok (.aload_n 0, 1) := by decide +kernel
theorem dX7_init_73 : decode cX7_init 73 = .ok (.getfield 7, 3) := by decide +kernel
theorem dX7_init_76 : decode cX7_init 76 = .ok (.bipush 16, 2) := by decide +kernel
theorem dX7_init_78 : decode cX7_init 78 = .ok (.iload_n 1, 1) := by decide +kernel
theorem dX7_init_79 : decode cX7_init 79 = .ok (.iadd, 1) := by decide +kernel
theorem dX7_init_80 : decode cX7_init 80 = .ok (.iconst (-1), 1) := by decide +kernel
theorem dX7_init_81 : decode cX7_init 81 = .ok (.iastore, 1) := by decide +kernel
theorem dX7_init_82 : decode cX7_init 82 = .ok (.iinc 1 1, 3) := by decide +kernel
theorem dX7_init_85 : decode cX7_init 85 = .ok (.goto (-19), 3) := by decide +kernel
theorem dX7_init_88 : decode cX7_init 88 = .ok (.iconst 0, 1) := by decide +kernel
theorem dX7_init_89 : decode cX7_init 89 = .ok (.istore_n 1, 1) := by decide +kernel
theorem dX7_init_90 : decode cX7_init 90 = .ok (.iload_n 1, 1) := by decide +kernel
theorem dX7_init_91 : decode cX7_init 91 = .ok (.bipush 60, 2) := by decide +kernel
theorem dX7_init_93 : decode cX7_init 93 = .ok (.if_icmp .ge 20, 3) := by decide +kernel
theorem dX7_init_96 : decode cX7_init 96 = .ok (.aload_n 0, 1) := by decide +kernel
theorem dX7_init_97 : decode cX7_init 97 = .ok (.getfield 7, 3) := by decide +kernel
theorem dX7_init_100 : decode cX7_init 100 = .ok (.sipush 168, 3) := by decide +kernel
theorem dX7_init_103 : decode cX7_init 103 = .ok (.iload_n 1, 1) := by decide +kernel
theorem dX7_init_104 : decode cX7_init 104 = .ok (.iadd, 1) := by decide +kernel
theorem dX7_init_105 : decode cX7_init 105 = .ok (.iconst (-1), 1) := by decide +kernel
theorem dX7_init_106 : decode cX7_init 106 = .ok (.iastore, 1) := by decide +kernel
theorem dX7_init_107 : decode cX7_init 107 = .ok (.iinc 1 1, 3) := by decide +kernel
theorem dX7_init_110 : decode cX7_init 110 = .ok (.goto (-20), 3) := by decide +kernel
theorem dX7_init_113 : decode cX7_init 113 = .ok (.return_, 1) := by decide +kernel
theorem dX7_in_0 : decode cX7_in 0 = .ok (.iload_n 0, 1) := by decide +kernel
theorem dX7_in_1 : decode cX7_in 1 = .ok (.iload_n 1, 1) := by decide +kernel
theorem dX7_in_2 : decode cX7_in 2 = .ok (.if_icmp .lt 12, 3) := by decide +kernel
theorem dX7_in_5 : decode cX7_in 5 = .ok (.iload_n 0, 1) := by decide +kernel
theorem dX7_in_6 : decode cX7_in 6 = .ok (.iload_n 2, 1) := by decide +kernel
theorem dX7_in_7 : decode cX7_in 7 = .ok (.if_icmp .gt 7, 3) := by decide +kernel
theorem dX7_in_10 : decode cX7_in 10 = .ok (.iconst 1, 1) := by decide +kernel
theorem dX7_in_11 : decode cX7_in 11 = .ok (.goto 4, 3) := by decide +kernel
theorem dX7_in_14 : decode cX7_in 14 = .ok (.iconst 0, 1) := by decide +kernel
theorem dX7_in_15 : decode cX7_in 15 = .ok (.ireturn, 1) := by decide +kernel
theorem dX7_ca_0 : decode cX7_ca 0 = .ok (.aload_n 0, 1) := by decide +kernel
theorem dX7_ca_1 : decode cX7_ca 1 = .ok (.getfield 7, 3) := by decide +kernel
theorem dX7_ca_4 : decode cX7_ca 4 = .ok (.bipush 48, 2) := by decide +kernel
theorem dX7_ca_6 : decode cX7_ca 6 = .ok (.iconst 4, 1) := by decide +kernel
theorem dX7_ca_7 : decode cX7_ca 7 = .ok (.iload_n 1, 1) := by decide +kernel
theorem dX7_ca_8 : decode cX7_ca 8 = .ok (.imul, 1) := by decide +kernel
theorem dX7_ca_9 : decode cX7_ca 9 = .ok (.iadd, 1) := by decide +kernel
theorem dX7_ca_10 : decode cX7_ca 10 = .ok (.iload_n 2, 1) := by decide +kernel
theorem dX7_ca_11 : decode cX7_ca 11 = .ok (.iadd, 1) := by decide +kernel
theorem dX7_ca_12 : decode cX7_ca 12 = .ok (.iaload, 1) := by decide +kernel
theorem dX7_ca_13 : decode cX7_ca 13 = .ok (.ireturn, 1) := by decide +kernel
theorem dX7_isCartridge_0 : decode cX7_isCartridge 0 = .ok (.iload_n 1, 1) := by decide +kernel
theorem dX7_isCartridge_1 : decode cX7_isCartridge 1 = .ok (.iconst 0, 1) := by decide +kernel
theorem dX7_isCartridge_2 : decode cX7_isCartridge 2 = .ok (.aload_n 0, 1) := by decide +kernel
theorem dX7_isCartridge_3 : decode cX7_isCartridge 3 = .ok (.getfield 7, 3) := by decide +kernel
theorem dX7_isCartridge_6 : decode cX7_isCartridge 6 = .ok (.bipush 7, 2) := by decide +kernel
theorem dX7_isCartridge_8 : decode cX7_isCartridge 8 = .ok (.iaload, 1) := by decide +kernel
theorem dX7_isCartridge_9 : decode cX7_isCartridge 9 = .ok (.iconst 1, 1) := by decide +kernel
theorem dX7_isCartridge_10 : decode cX7_isCartridge 10 = .ok (.isub, 1) := by decide +kernel
theorem dX7_isCartridge_11 : decode cX7_isCartridge 11 = .ok (.invokestatic 26, 3) := by decide +kernel
theorem dX7_isCartridge_14 : decode cX7_isCartridge 14 = .ok (.ireturn, 1) := by decide +kernel
theorem dX7_isAt_0 : decode cX7_isAt 0 = .ok (.aload_n 0, 1) := by decide +kernel
theorem dX7_isAt_1 : decode cX7_isAt 1 = .ok (.getfield 7, 3) := by decide +kernel
theorem dX7_isAt_4 : decode cX7_isAt 4 = .ok (.bipush 48, 2) := by decide +kernel
theorem dX7_isAt_6 : decode cX7_isAt 6 = .ok (.iconst 4, 1) := by decide +kernel
theorem dX7_isAt_7 : decode cX7_isAt 7 = .ok (.iload_n 1, 1) := by decide +kernel
theorem dX7_isAt_8 : decode cX7_isAt 8 = .ok (.imul, 1) := by decide +kernel
theorem dX7_isAt_9 : decode cX7_isAt 9 = .ok (.iadd, 1) := by decide +kernel
theorem dX7_isAt_10 : decode cX7_isAt 10 = .ok (.iconst 2, 1) := by decide +kernel
theorem dX7_isAt_11 : decode cX7_isAt 11 = .ok (.iadd, 1) := by decide +kernel
theorem dX7_isAt_12 : decode cX7_isAt 12 = .ok (.iload_n 2, 1) := by decide +kernel
theorem dX7_isAt_13 : decode cX7_isAt 13 = .ok (.iastore, 1) := by decide +kernel
theorem dX7_isAt_14 : decode cX7_isAt 14 = .ok (.return_, 1) := by decide +kernel
theorem dX7_keeps_0 : decode cX7_keeps 0 = .ok (.iconst 0, 1) := by decide +kernel
theorem dX7_keeps_1 : decode cX7_keeps 1 = .ok (.istore_n 1, 1) := by decide +kernel
theorem dX7_keeps_2 : decode cX7_keeps 2 = .ok (.iload_n 1, 1) := by decide +kernel
theorem dX7_keeps_3 : decode cX7_keeps 3 = .ok (.sipush 264, 3) := by decide +kernel
theorem dX7_keeps_6 : decode cX7_keeps 6 = .ok (.if_icmp .ge 21, 3) := by decide +kernel
theorem dX7_keeps_9 : decode cX7_keeps 9 = .ok (.aload_n 0, 1) := by decide +kernel
theorem dX7_keeps_10 : decode cX7_keeps 10 = .ok (.getfield 16, 3) := by decide +kernel
theorem dX7_keeps_13 : decode cX7_keeps 13 = .ok (.iload_n 1, 1) := by decide +kernel
theorem dX7_keeps_14 : decode cX7_keeps 14 = .ok (.aload_n 0, 1) := by decide +kernel
theorem dX7_keeps_15 : decode cX7_keeps 15 = .ok (.getfield 7, 3) := by decide +kernel
theorem dX7_keeps_18 : decode cX7_keeps 18 = .ok (.iload_n 1, 1) := by decide +kernel
theorem dX7_keeps_19 : decode cX7_keeps 19 = .ok (.iaload, 1) := by decide +kernel
theorem dX7_keeps_20 : decode cX7_keeps 20 = .ok (.iastore, 1) := by decide +kernel
theorem dX7_keeps_21 : decode cX7_keeps 21 = .ok (.iinc 1 1, 3) := by decide +kernel
theorem dX7_keeps_24 : decode cX7_keeps 24 = .ok (.goto (-22), 3) := by decide +kernel
theorem dX7_keeps_27 : decode cX7_keeps 27 = .ok (.return_, 1) := by decide +kernel
theorem dX7_acted_0 : decode cX7_acted 0 = .ok (.iload_n 1, 1) := by decide +kernel
theorem dX7_acted_1 : decode cX7_acted 1 = .ok (.ldc 30, 2) := by decide +kernel
theorem dX7_acted_3 : decode cX7_acted 3 = .ok (.if_icmp .le 98, 3) := by decide +kernel
theorem dX7_acted_6 : decode cX7_acted 6 = .ok (.aload_n 0, 1) := by decide +kernel
theorem dX7_acted_7 : decode cX7_acted 7 = .ok (.getfield 31, 3) := by decide +kernel
theorem dX7_acted_10 : decode cX7_acted 10 = .ok (.iconst 4, 1) := by decide +kernel
theorem dX7_acted_11 : decode cX7_acted 11 = .ok (.if_icmp .ne 44, 3) := by decide +kernel
theorem dX7_acted_14 : decode cX7_acted 14 = .ok (.iconst 0, 1) := by decide +kernel
theorem dX7_acted_15 : decode cX7_acted 15 = .ok (.istore_n 2, 1) := by decide +kernel
theorem dX7_acted_16 : decode cX7_acted 16 = .ok (.iload_n 2, 1) := by decide +kernel
theorem dX7_acted_17 : decode cX7_acted 17 = .ok (.sipush 792, 3) := by decide +kernel
theorem dX7_acted_20 : decode cX7_acted 20 = .ok (.if_icmp .ge 25, 3) := by decide +kernel
theorem dX7_acted_23 : decode cX7_acted 23 = .ok (.aload_n 0, 1) := by decide +kernel
theorem dX7_acted_24 : decode cX7_acted 24 = .ok (.getfield 13, 3) := by decide +kernel
theorem dX7_acted_27 : decode cX7_acted 27 = .ok (.iload_n 2, 1) := by decide +kernel
theorem dX7_acted_28 : decode cX7_acted 28 = .ok (.aload_n 0, 1) := by decide +kernel
theorem dX7_acted_29 : decode cX7_acted 29 = .ok (.getfield 13, 3) := by decide +kernel
theorem dX7_acted_32 : decode cX7_acted 32 = .ok (.iload_n 2, 1) := by decide +kernel
theorem dX7_acted_33 : decode cX7_acted 33 = .ok (.sipush 264, 3) := by decide +kernel
theorem dX7_acted_36 : decode cX7_acted 36 = .ok (.iadd, 1) := by decide +kernel
theorem dX7_acted_37 : decode cX7_acted 37 = .ok (.iaload, 1) := by decide +kernel
theorem dX7_acted_38 : decode cX7_acted 38 = .ok (.iastore, 1) := by decide +kernel
theorem dX7_acted_39 : decode cX7_acted 39 = .ok (.iinc 2 1, 3) := by decide +kernel
theorem dX7_acted_42 : decode cX7_acted 42 = .ok (.goto (-26), 3) := by decide +kernel
theorem dX7_acted_45 : decode cX7_acted 45 = .ok (.aload_n 0, 1) := by decide +kernel
theorem dX7_acted_46 : decode cX7_acted 46 = .ok (.dup, 1) := by decide +kernel
theorem dX7_acted_47 : decode cX7_acted 47 = .ok (.getfield 31, 3) := by decide +kernel
theorem dX7_acted_50 : decode cX7_acted 50 = .ok (.iconst 1, 1) := by decide +kernel
theorem dX7_acted_51 : decode cX7_acted 51 = .ok (.isub, 1) := by decide +kernel
theorem dX7_acted_52 : decode cX7_acted 52 = .ok (.putfield 31, 3) := by decide +kernel
theorem dX7_acted_55 : decode cX7_acted 55 = .ok (.iconst 0, 1) := by decide +kernel
theorem dX7_acted_56 : decode cX7_acted 56 = .ok (.istore_n 2, 1) := by decide +kernel
theorem dX7_acted_57 : decode cX7_acted 57 = .ok (.iload_n 2, 1) := by decide +kernel
theorem dX7_acted_58 : decode cX7_acted 58 = .ok (.sipush 264, 3) := by decide +kernel
theorem dX7_acted_61 : decode cX7_acted 61 = .ok (.if_icmp .ge 30, 3) := by decide +kernel
theorem dX7_acted_64 : decode cX7_acted 64 = .ok (.aload_n 0, 1) := by decide +kernel
theorem dX7_acted_65 : decode cX7_acted 65 = .ok (.getfield 13, 3) := by decide +kernel
theorem dX7_acted_68 : decode cX7_acted 68 = .ok (.sipush 264, 3) := by decide +kernel
theorem dX7_acted_71 : decode cX7_acted 71 = .ok (.aload_n 0, 1) := by decide +kernel
theorem dX7_acted_72 : decode cX7_acted 72 = .ok (.getfield 31, 3) := by decide +kernel
theorem dX7_acted_75 : decode cX7_acted 75 = .ok (.imul, 1) := by decide +kernel
theorem dX7_acted_76 : decode cX7_acted 76 = .ok (.iload_n 2, 1) := by decide +kernel
theorem dX7_acted_77 : decode cX7_acted 77 = .ok (.iadd, 1) := by decide +kernel
theorem dX7_acted_78 : decode cX7_acted 78 = .ok (.aload_n 0, 1) := by decide +kernel
theorem dX7_acted_79 : decode cX7_acted 79 = .ok (.getfield 16, 3) := by decide +kernel
theorem dX7_acted_82 : decode cX7_acted 82 = .ok (.iload_n 2, 1) := by decide +kernel
theorem dX7_acted_83 : decode cX7_acted 83 = .ok (.iaload, 1) := by decide +kernel
theorem dX7_acted_84 : decode cX7_acted 84 = .ok (.iastore, 1) := by decide +kernel
theorem dX7_acted_85 : decode cX7_acted 85 = .ok (.iinc 2 1, 3) := by decide +kernel
theorem dX7_acted_88 : decode cX7_acted 88 = .ok (.goto (-31), 3) := by decide +kernel
theorem dX7_acted_91 : decode cX7_acted 91 = .ok (.aload_n 0, 1) := by decide +kernel
theorem dX7_acted_92 : decode cX7_acted 92 = .ok (.dup, 1) := by decide +kernel
theorem dX7_acted_93 : decode cX7_acted 93 = .ok (.getfield 31, 3) := by decide +kernel
theorem dX7_acted_96 : decode cX7_acted 96 = .ok (.iconst 1, 1) := by decide +kernel
theorem dX7_acted_97 : decode cX7_acted 97 = .ok (.iadd, 1) := by decide +kernel
theorem dX7_acted_98 : decode cX7_acted 98 = .ok (.putfield 31, 3) := by decide +kernel
theorem dX7_acted_101 : decode cX7_acted 101 = .ok (.iload_n 1, 1) := by decide +kernel
theorem dX7_acted_102 : decode cX7_acted 102 = .ok (.ireturn, 1) := by decide +kernel
theorem dX7_puts_0 : decode cX7_puts 0 = .ok (.iconst 0, 1) := by decide +kernel
theorem dX7_puts_1 : decode cX7_puts 1 = .ok (.istore_n 1, 1) := by decide +kernel
theorem dX7_puts_2 : decode cX7_puts 2 = .ok (.iload_n 1, 1) := by decide +kernel
theorem dX7_puts_3 : decode cX7_puts 3 = .ok (.sipush 264, 3) := by decide +kernel
theorem dX7_puts_6 : decode cX7_puts 6 = .ok (.if_icmp .ge 21, 3) := by decide +kernel
theorem dX7_puts_9 : decode cX7_puts 9 = .ok (.aload_n 0, 1) := by decide +kernel
theorem dX7_puts_10 : decode cX7_puts 10 = .ok (.getfield 19, 3) := by decide +kernel
theorem dX7_puts_13 : decode cX7_puts 13 = .ok (.iload_n 1, 1) := by decide +kernel
theorem dX7_puts_14 : decode cX7_puts 14 = .ok (.aload_n 0, 1) := by decide +kernel
theorem dX7_puts_15 : decode cX7_puts 15 = .ok (.getfield 7, 3) := by decide +kernel
theorem dX7_puts_18 : decode cX7_puts 18 = .ok (.iload_n 1, 1) := by decide +kernel
theorem dX7_puts_19 : decode cX7_puts 19 = .ok (.iaload, 1) := by decide +kernel
theorem dX7_puts_20 : decode cX7_puts 20 = .ok (.iastore, 1) := by decide +kernel
theorem dX7_puts_21 : decode cX7_puts 21 = .ok (.iinc 1 1, 3) := by decide +kernel
theorem dX7_puts_24 : decode cX7_puts 24 = .ok (.goto (-22), 3) := by decide +kernel
theorem dX7_puts_27 : decode cX7_puts 27 = .ok (.return_, 1) := by decide +kernel
theorem dX7_restores_0 : decode cX7_restores 0 = .ok (.iconst 0, 1) := by decide +kernel
theorem dX7_restores_1 : decode cX7_restores 1 = .ok (.istore_n 1, 1) := by decide +kernel
theorem dX7_restores_2 : decode cX7_restores 2 = .ok (.iload_n 1, 1) := by decide +kernel
theorem dX7_restores_3 : decode cX7_restores 3 = .ok (.sipush 264, 3) := by decide +kernel
theorem dX7_restores_6 : decode cX7_restores 6 = .ok (.if_icmp .ge 21, 3) := by decide +kernel
theorem dX7_restores_9 : decode cX7_restores 9 = .ok (.aload_n 0, 1) := by decide +kernel
theorem dX7_restores_10 : decode cX7_restores 10 = .ok (.getfield 7, 3) := by decide +kernel
theorem dX7_restores_13 : decode cX7_restores 13 = .ok (.iload_n 1, 1) := by decide +kernel
theorem dX7_restores_14 : decode cX7_restores 14 = .ok (.aload_n 0, 1) := by decide +kernel
theorem dX7_restores_15 : decode cX7_restores 15 = .ok (.getfield 19, 3) := by decide +kernel
theorem dX7_restores_18 : decode cX7_restores 18 = .ok (.iload_n 1, 1) := by decide +kernel
theorem dX7_restores_19 : decode cX7_restores 19 = .ok (.iaload, 1) := by decide +kernel
theorem dX7_restores_20 : decode cX7_restores 20 = .ok (.iastore, 1) := by decide +kernel
theorem dX7_restores_21 : decode cX7_restores 21 = .ok (.iinc 1 1, 3) := by decide +kernel
theorem dX7_restores_24 : decode cX7_restores 24 = .ok (.goto (-22), 3) := by decide +kernel
theorem dX7_restores_27 : decode cX7_restores 27 = .ok (.return_, 1) := by decide +kernel
theorem dX7_bring_0 : decode cX7_bring 0 = .ok (.iload_n 1, 1) := by decide +kernel
theorem dX7_bring_1 : decode cX7_bring 1 = .ok (.iconst 1, 1) := by decide +kernel
theorem dX7_bring_2 : decode cX7_bring 2 = .ok (.bipush 20, 2) := by decide +kernel
theorem dX7_bring_4 : decode cX7_bring 4 = .ok (.invokestatic 26, 3) := by decide +kernel
theorem dX7_bring_7 : decode cX7_bring 7 = .ok (.ifCond .eq 22, 3) := by decide +kernel
theorem dX7_bring_10 : decode cX7_bring 10 = .ok (.iload_n 2, 1) := by decide +kernel
theorem dX7_bring_11 : decode cX7_bring 11 = .ok (.iconst 0, 1) := by decide +kernel
theorem dX7_bring_12 : decode cX7_bring 12 = .ok (.bipush 7, 2) := by decide +kernel
theorem dX7_bring_14 : decode cX7_bring 14 = .ok (.invokestatic 26, 3) := by decide +kernel
theorem dX7_bring_17 : decode cX7_bring 17 = .ok (.ifCond .eq 12, 3) := by decide +kernel
theorem dX7_bring_20 : decode cX7_bring 20 = .ok (.iload_n 3, 1) := by decide +kernel
theorem dX7_bring_21 : decode cX7_bring 21 = .ok (.iconst 0, 1) := by decide +kernel
theorem dX7_bring_22 : decode cX7_bring 22 = .ok (.iconst 3, 1) := by decide +kernel
theorem dX7_bring_23 : decode cX7_bring 23 = .ok (.invokestatic 26, 3) := by decide +kernel
theorem dX7_bring_26 : decode cX7_bring 26 = .ok (.ifCond .ne 6, 3) := by decide +kernel
theorem dX7_bring_29 : decode cX7_bring 29 = .ok (.ldc 30, 2) := by decide +kernel
theorem dX7_bring_31 : decode cX7_bring 31 = .ok (.ireturn, 1) := by decide +kernel
theorem dX7_bring_32 : decode cX7_bring 32 = .ok (.aload_n 0, 1) := by decide +kernel
theorem dX7_bring_33 : decode cX7_bring 33 = .ok (.getfield 7, 3) := by decide +kernel
theorem dX7_bring_36 : decode cX7_bring 36 = .ok (.bipush 16, 2) := by decide +kernel
theorem dX7_bring_38 : decode cX7_bring 38 = .ok (.iconst 4, 1) := by decide +kernel
theorem dX7_bring_39 : decode cX7_bring 39 = .ok (.iload_n 2, 1) := by decide +kernel
theorem dX7_bring_40 : decode cX7_bring 40 = .ok (.imul, 1) := by decide +kernel
theorem dX7_bring_41 : decode cX7_bring 41 = .ok (.iadd, 1) := by decide +kernel
theorem dX7_bring_42 : decode cX7_bring 42 = .ok (.iload_n 3, 1) := by decide +kernel
theorem dX7_bring_43 : decode cX7_bring 43 = .ok (.iadd, 1) := by decide +kernel
theorem dX7_bring_44 : decode cX7_bring 44 = .ok (.iaload, 1) := by decide +kernel
theorem dX7_bring_45 : decode cX7_bring 45 = .ok (.ifCond .lt 6, 3) := by decide +kernel
theorem dX7_bring_48 : decode cX7_bring 48 = .ok (.ldc 35, 2) := by decide +kernel
theorem dX7_bring_50 : decode cX7_bring 50 = .ok (.ireturn, 1) := by decide +kernel
theorem dX7_bring_51 : decode cX7_bring 51 = .ok (.aload_n 0, 1) := by decide +kernel
theorem dX7_bring_52 : decode cX7_bring 52 = .ok (.getfield 7, 3) := by decide +kernel
theorem dX7_bring_55 : decode cX7_bring 55 = .ok (.bipush 7, 2) := by decide +kernel
theorem dX7_bring_57 : decode cX7_bring 57 = .ok (.iaload, 1) := by decide +kernel
theorem dX7_bring_58 : decode cX7_bring 58 = .ok (.bipush 30, 2) := by decide +kernel
theorem dX7_bring_60 : decode cX7_bring 60 = .ok (.if_icmp .ne 6, 3) := by decide +kernel
theorem dX7_bring_63 : decode cX7_bring 63 = .ok (.ldc 36, 2) := by decide +kernel
theorem dX7_bring_65 : decode cX7_bring 65 = .ok (.ireturn, 1) := by decide +kernel
theorem dX7_bring_66 : decode cX7_bring 66 = .ok (.aload_n 0, 1) := by decide +kernel
theorem dX7_bring_67 : decode cX7_bring 67 = .ok (.invokevirtual 37, 3) := by decide +kernel
theorem dX7_bring_70 : decode cX7_bring 70 = .ok (.aload_n 0, 1) := by decide +kernel
theorem dX7_bring_71 : decode cX7_bring 71 = .ok (.getfield 7, 3) := by decide +kernel
theorem dX7_bring_74 : decode cX7_bring 74 = .ok (.bipush 7, 2) := by decide +kernel
theorem dX7_bring_76 : decode cX7_bring 76 = .ok (.iaload, 1) := by decide +kernel
theorem dX7_bring_77 : decode cX7_bring 77 = .ok (.istore 4, 2) := by decide +kernel
theorem dX7_bring_79 : decode cX7_bring 79 = .ok (.iconst 0, 1) := by decide +kernel
theorem dX7_bring_80 : decode cX7_bring 80 = .ok (.istore 5, 2) := by decide +kernel
theorem dX7_bring_82 : decode cX7_bring 82 = .ok (.iload 5, 2) := by decide +kernel
theorem dX7_bring_84 : decode cX7_bring 84 = .ok (.iconst 4, 1) := by decide +kernel
theorem dX7_bring_85 : decode cX7_bring 85 = .ok (.if_icmp .ge 25, 3) := by decide +kernel
theorem dX7_bring_88 : decode cX7_bring 88 = .ok (.aload_n 0, 1) := by decide +kernel
theorem dX7_bring_89 : decode cX7_bring 89 = .ok (.getfield 7, 3) := by decide +kernel
theorem dX7_bring_92 : decode cX7_bring 92 = .ok (.bipush 48, 2) := by decide +kernel
theorem dX7_bring_94 : decode cX7_bring 94 = .ok (.iconst 4, 1) := by decide +kernel
theorem dX7_bring_95 : decode cX7_bring 95 = .ok (.iload 4, 2) := by decide +kernel
theorem dX7_bring_97 : decode cX7_bring 97 = .ok (.imul, 1) := by decide +kernel
theorem dX7_bring_98 : decode cX7_bring 98 = .ok (.iadd, 1) := by decide +kernel
theorem dX7_bring_99 : decode cX7_bring 99 = .ok (.iload 5, 2) := by decide +kernel
theorem dX7_bring_101 : decode cX7_bring 101 = .ok (.iadd, 1) := by decide +kernel
theorem dX7_bring_102 : decode cX7_bring 102 = .ok (.iconst 0, 1) := by decide +kernel
theorem dX7_bring_103 : decode cX7_bring 103 = .ok (.iastore, 1) := by decide +kernel
theorem dX7_bring_104 : decode cX7_bring 104 = .ok (.iinc 5 1, 3) := by decide +kernel
theorem dX7_bring_107 : decode cX7_bring 107 = .ok (.goto (-25), 3) := by decide +kernel
theorem dX7_bring_110 : decode cX7_bring 110 = .ok (.aload_n 0, 1) := by decide +kernel
theorem dX7_bring_111 : decode cX7_bring 111 = .ok (.getfield 7, 3) := by decide +kernel
theorem dX7_bring_114 : decode cX7_bring 114 = .ok (.bipush 48, 2) := by decide +kernel
theorem dX7_bring_116 : decode cX7_bring 116 = .ok (.iconst 4, 1) := by decide +kernel
theorem dX7_bring_117 : decode cX7_bring 117 = .ok (.iload 4, 2) := by decide +kernel
theorem dX7_bring_119 : decode cX7_bring 119 = .ok (.imul, 1) := by decide +kernel
theorem dX7_bring_120 : decode cX7_bring 120 = .ok (.iadd, 1) := by decide +kernel
theorem dX7_bring_121 : decode cX7_bring 121 = .ok (.iload_n 1, 1) := by decide +kernel
theorem dX7_bring_122 : decode cX7_bring 122 = .ok (.iastore, 1) := by decide +kernel
theorem dX7_bring_123 : decode cX7_bring 123 = .ok (.aload_n 0, 1) := by decide +kernel
theorem dX7_bring_124 : decode cX7_bring 124 = .ok (.getfield 7, 3) := by decide +kernel
theorem dX7_bring_127 : decode cX7_bring 127 = .ok (.bipush 16, 2) := by decide +kernel
theorem dX7_bring_129 : decode cX7_bring 129 = .ok (.iconst 4, 1) := by decide +kernel
theorem dX7_bring_130 : decode cX7_bring 130 = .ok (.iload_n 2, 1) := by decide +kernel
theorem dX7_bring_131 : decode cX7_bring 131 = .ok (.imul, 1) := by decide +kernel
theorem dX7_bring_132 : decode cX7_bring 132 = .ok (.iadd, 1) := by decide +kernel
theorem dX7_bring_133 : decode cX7_bring 133 = .ok (.iload_n 3, 1) := by decide +kernel
theorem dX7_bring_134 : decode cX7_bring 134 = .ok (.iadd, 1) := by decide +kernel
theorem dX7_bring_135 : decode cX7_bring 135 = .ok (.iload 4, 2) := by decide +kernel
theorem dX7_bring_137 : decode cX7_bring 137 = .ok (.iastore, 1) := by decide +kernel
theorem dX7_bring_138 : decode cX7_bring 138 = .ok (.aload_n 0, 1) := by decide +kernel
theorem dX7_bring_139 : decode cX7_bring 139 = .ok (.getfield 7, 3) := by decide +kernel
theorem dX7_bring_142 : decode cX7_bring 142 = .ok (.bipush 7, 2) := by decide +kernel
theorem dX7_bring_144 : decode cX7_bring 144 = .ok (.dup2, 1) := by decide +kernel
theorem dX7_bring_145 : decode cX7_bring 145 = .ok (.iaload, 1) := by decide +kernel
theorem dX7_bring_146 : decode cX7_bring 146 = .ok (.iconst 1, 1) := by decide +kernel
theorem dX7_bring_147 : decode cX7_bring 147 = .ok (.iadd, 1) := by decide +kernel
theorem dX7_bring_148 : decode cX7_bring 148 = .ok (.iastore, 1) := by decide +kernel
theorem dX7_bring_149 : decode cX7_bring 149 = .ok (.aload_n 0, 1) := by decide +kernel
theorem dX7_bring_150 : decode cX7_bring 150 = .ok (.iload 4, 2) := by decide +kernel
theorem dX7_bring_152 : decode cX7_bring 152 = .ok (.invokevirtual 40, 3) := by decide +kernel
theorem dX7_bring_155 : decode cX7_bring 155 = .ok (.ireturn, 1) := by decide +kernel
theorem dX7_withNeighbors_0 : decode cX7_withNeighbors 0 = .ok (.iconst 0, 1) := by decide +kernel
theorem dX7_withNeighbors_1 : decode cX7_withNeighbors 1 = .ok (.istore_n 1, 1) := by decide +kernel
theorem dX7_withNeighbors_2 : decode cX7_withNeighbors 2 = .ok (.iconst 0, 1) := by decide +kernel
theorem dX7_withNeighbors_3 : decode cX7_withNeighbors 3 = .ok (.istore_n 2, 1) := by decide +kernel
theorem dX7_withNeighbors_4 : decode cX7_withNeighbors 4 = .ok (.iload_n 2, 1) := by decide +kernel
theorem dX7_withNeighbors_5 : decode cX7_withNeighbors 5 = .ok (.aload_n 0, 1) := by decide +kernel
theorem dX7_withNeighbors_6 : decode cX7_withNeighbors 6 = .ok (.getfield 7, 3) := by decide +kernel
theorem dX7_withNeighbors_9 : decode cX7_withNeighbors 9 = .ok (.bipush 7, 2) := by decide +kernel
theorem dX7_withNeighbors_11 : decode cX7_withNeighbors 11 = .ok (.iaload, 1) := by decide +kernel
theorem dX7_withNeighbors_12 : decode cX7_withNeighbors 12 = .ok (.if_icmp .ge 27, 3) := by decide +kernel
theorem dX7_withNeighbors_15 : decode cX7_withNeighbors 15 = .ok (.iload_n 1, 1) := by decide +kernel
theorem dX7_withNeighbors_16 : decode cX7_withNeighbors 16 = .ok (.aload_n 0, 1) := by decide +kernel
theorem dX7_withNeighbors_17 : decode cX7_withNeighbors 17 = .ok (.iload_n 2, 1) := by decide +kernel
theorem dX7_withNeighbors_18 : decode cX7_withNeighbors 18 = .ok (.iconst 2, 1) := by decide +kernel
theorem dX7_withNeighbors_19 : decode cX7_withNeighbors 19 = .ok (.invokevirtual 44, 3) := by decide +kernel
theorem dX7_withNeighbors_22 : decode cX7_withNeighbors 22 = .ok (.iconst 3, 1) := by decide +kernel
theorem dX7_withNeighbors_23 : decode cX7_withNeighbors 23 = .ok (.if_icmp .ne 7, 3) := by decide +kernel
theorem dX7_withNeighbors_26 : decode cX7_withNeighbors 26 = .ok (.iconst 1, 1) := by decide +kernel
theorem dX7_withNeighbors_27 : decode cX7_withNeighbors 27 = .ok (.goto 4, 3) := by decide +kernel
theorem dX7_withNeighbors_30 : decode cX7_withNeighbors 30 = .ok (.iconst 0, 1) := by decide +kernel
theorem dX7_withNeighbors_31 : decode cX7_withNeighbors 31 = .ok (.iadd, 1) := by decide +kernel
theorem dX7_withNeighbors_32 : decode cX7_withNeighbors 32 = .ok (.istore_n 1, 1) := by decide +kernel
theorem dX7_withNeighbors_33 : decode cX7_withNeighbors 33 = .ok (.iinc 2 1, 3) := by decide +kernel
theorem dX7_withNeighbors_36 : decode cX7_withNeighbors 36 = .ok (.goto (-32), 3) := by decide +kernel
theorem dX7_withNeighbors_39 : decode cX7_withNeighbors 39 = .ok (.iload_n 1, 1) := by decide +kernel
theorem dX7_withNeighbors_40 : decode cX7_withNeighbors 40 = .ok (.ireturn, 1) := by decide +kernel
theorem dX7_standsAt_0 : decode cX7_standsAt 0 = .ok (.iconst 0, 1) := by decide +kernel
theorem dX7_standsAt_1 : decode cX7_standsAt 1 = .ok (.istore_n 2, 1) := by decide +kernel
theorem dX7_standsAt_2 : decode cX7_standsAt 2 = .ok (.aload_n 0, 1) := by decide +kernel
theorem dX7_standsAt_3 : decode cX7_standsAt 3 = .ok (.getfield 7, 3) := by decide +kernel
theorem dX7_standsAt_6 : decode cX7_standsAt 6 = .ok (.bipush 16, 2) := by decide +kernel
theorem dX7_standsAt_8 : decode cX7_standsAt 8 = .ok (.iload_n 2, 1) := by decide +kernel
theorem dX7_standsAt_9 : decode cX7_standsAt 9 = .ok (.iadd, 1) := by decide +kernel
theorem dX7_standsAt_10 : decode cX7_standsAt 10 = .ok (.iaload, 1) := by decide +kernel
theorem dX7_standsAt_11 : decode cX7_standsAt 11 = .ok (.iload_n 1, 1) := by decide +kernel
theorem dX7_standsAt_12 : decode cX7_standsAt 12 = .ok (.if_icmp .eq 9, 3) := by decide +kernel
theorem dX7_standsAt_15 : decode cX7_standsAt 15 = .ok (.iinc 2 1, 3) := by decide +kernel
theorem dX7_standsAt_18 : decode cX7_standsAt 18 = .ok (.goto (-16), 3) := by decide +kernel
theorem dX7_standsAt_21 : decode cX7_standsAt 21 = .ok (.iload_n 2, 1) := by decide +kernel
theorem dX7_standsAt_22 : decode cX7_standsAt 22 = .ok (.ireturn, 1) := by decide +kernel
theorem dX7_send_0 : decode cX7_send 0 = .ok (.iload_n 2, 1) := by decide +kernel
theorem dX7_send_1 : decode cX7_send 1 = .ok (.iconst (-1), 1) := by decide +kernel
theorem dX7_send_2 : decode cX7_send 2 = .ok (.if_icmp .ne 12, 3) := by decide +kernel
theorem dX7_send_5 : decode cX7_send 5 = .ok (.iload_n 3, 1) := by decide +kernel
theorem dX7_send_6 : decode cX7_send 6 = .ok (.iconst (-1), 1) := by decide +kernel
theorem dX7_send_7 : decode cX7_send 7 = .ok (.if_icmp .ne 7, 3) := by decide +kernel
theorem dX7_send_10 : decode cX7_send 10 = .ok (.iconst 1, 1) := by decide +kernel
theorem dX7_send_11 : decode cX7_send 11 = .ok (.goto 4, 3) := by decide +kernel
theorem dX7_send_14 : decode cX7_send 14 = .ok (.iconst 0, 1) := by decide +kernel
theorem dX7_send_15 : decode cX7_send 15 = .ok (.istore 4, 2) := by decide +kernel
theorem dX7_send_17 : decode cX7_send 17 = .ok (.aload_n 0, 1) := by decide +kernel
theorem dX7_send_18 : decode cX7_send 18 = .ok (.iload_n 1, 1) := by decide +kernel
theorem dX7_send_19 : decode cX7_send 19 = .ok (.invokevirtual 48, 3) := by decide +kernel
theorem dX7_send_22 : decode cX7_send 22 = .ok (.ifCond .eq 27, 3) := by decide +kernel
theorem dX7_send_25 : decode cX7_send 25 = .ok (.iload 4, 2) := by decide +kernel
theorem dX7_send_27 : decode cX7_send 27 = .ok (.ifCond .ne 25, 3) := by decide +kernel
theorem dX7_send_30 : decode cX7_send 30 = .ok (.iload_n 2, 1) := by decide +kernel
theorem dX7_send_31 : decode cX7_send 31 = .ok (.iconst 0, 1) := by decide +kernel
theorem dX7_send_32 : decode cX7_send 32 = .ok (.bipush 7, 2) := by decide +kernel
theorem dX7_send_34 : decode cX7_send 34 = .ok (.invokestatic 26, 3) := by decide +kernel
theorem dX7_send_37 : decode cX7_send 37 = .ok (.ifCond .eq 12, 3) := by decide +kernel
theorem dX7_send_40 : decode cX7_send 40 = .ok (.iload_n 3, 1) := by decide +kernel
theorem dX7_send_41 : decode cX7_send 41 = .ok (.iconst 0, 1) := by decide +kernel
theorem dX7_send_42 : decode cX7_send 42 = .ok (.iconst 3, 1) := by decide +kernel
theorem dX7_send_43 : decode cX7_send 43 = .ok (.invokestatic 26, 3) := by decide +kernel
theorem dX7_send_46 : decode cX7_send 46 = .ok (.ifCond .ne 6, 3) := by decide +kernel
theorem dX7_send_49 : decode cX7_send 49 = .ok (.ldc 30, 2) := by decide +kernel
theorem dX7_send_51 : decode cX7_send 51 = .ok (.ireturn, 1) := by decide +kernel
theorem dX7_send_52 : decode cX7_send 52 = .ok (.aload_n 0, 1) := by decide +kernel
theorem dX7_send_53 : decode cX7_send 53 = .ok (.iload_n 1, 1) := by decide +kernel
theorem dX7_send_54 : decode cX7_send 54 = .ok (.iconst 2, 1) := by decide +kernel
theorem dX7_send_55 : decode cX7_send 55 = .ok (.invokevirtual 44, 3) := by decide +kernel
theorem dX7_send_58 : decode cX7_send 58 = .ok (.iload 4, 2) := by decide +kernel
theorem dX7_send_60 : decode cX7_send 60 = .ok (.ifCond .eq 7, 3) := by decide +kernel
theorem dX7_send_63 : decode cX7_send 63 = .ok (.iconst 0, 1) := by decide +kernel
theorem dX7_send_64 : decode cX7_send 64 = .ok (.goto 4, 3) := by decide +kernel
theorem dX7_send_67 : decode cX7_send 67 = .ok (.iconst 3, 1) := by decide +kernel
theorem dX7_send_68 : decode cX7_send 68 = .ok (.if_icmp .ne 24, 3) := by decide +kernel
theorem dX7_send_71 : decode cX7_send 71 = .ok (.iload 4, 2) := by decide +kernel
theorem dX7_send_73 : decode cX7_send 73 = .ok (.ifCond .ne 22, 3) := by decide +kernel
theorem dX7_send_76 : decode cX7_send 76 = .ok (.aload_n 0, 1) := by decide +kernel
theorem dX7_send_77 : decode cX7_send 77 = .ok (.getfield 7, 3) := by decide +kernel
theorem dX7_send_80 : decode cX7_send 80 = .ok (.bipush 16, 2) := by decide +kernel
theorem dX7_send_82 : decode cX7_send 82 = .ok (.iconst 4, 1) := by decide +kernel
theorem dX7_send_83 : decode cX7_send 83 = .ok (.iload_n 2, 1) := by decide +kernel
theorem dX7_send_84 : decode cX7_send 84 = .ok (.imul, 1) := by decide +kernel
theorem dX7_send_85 : decode cX7_send 85 = .ok (.iadd, 1) := by decide +kernel
theorem dX7_send_86 : decode cX7_send 86 = .ok (.iload_n 3, 1) := by decide +kernel
theorem dX7_send_87 : decode cX7_send 87 = .ok (.iadd, 1) := by decide +kernel
theorem dX7_send_88 : decode cX7_send 88 = .ok (.iaload, 1) := by decide +kernel
theorem dX7_send_89 : decode cX7_send 89 = .ok (.ifCond .lt 6, 3) := by decide +kernel
theorem dX7_send_92 : decode cX7_send 92 = .ok (.ldc 35, 2) := by decide +kernel
theorem dX7_send_94 : decode cX7_send 94 = .ok (.ireturn, 1) := by decide +kernel
theorem dX7_send_95 : decode cX7_send 95 = .ok (.aload_n 0, 1) := by decide +kernel
theorem dX7_send_96 : decode cX7_send 96 = .ok (.invokevirtual 37, 3) := by decide +kernel
theorem dX7_send_99 : decode cX7_send 99 = .ok (.aload_n 0, 1) := by decide +kernel
theorem dX7_send_100 : decode cX7_send 100 = .ok (.getfield 7, 3) := by decide +kernel
theorem dX7_send_103 : decode cX7_send 103 = .ok (.bipush 16, 2) := by decide +kernel
theorem dX7_send_105 : decode cX7_send 105 = .ok (.iload 4, 2) := by decide +kernel
theorem dX7_send_107 : decode cX7_send 107 = .ok (.ifCond .eq 11, 3) := by decide +kernel
theorem dX7_send_110 : decode cX7_send 110 = .ok (.aload_n 0, 1) := by decide +kernel
theorem dX7_send_111 : decode cX7_send 111 = .ok (.iload_n 1, 1) := by decide +kernel
theorem dX7_send_112 : decode cX7_send 112 = .ok (.invokevirtual 52, 3) := by decide +kernel
theorem dX7_send_115 : decode cX7_send 115 = .ok (.goto 8, 3) := by decide +kernel
theorem dX7_send_118 : decode cX7_send 118 = .ok (.iconst 4, 1) := by decide +kernel
theorem dX7_send_119 : decode cX7_send 119 = .ok (.iload_n 2, 1) := by decide +kernel
theorem dX7_send_120 : decode cX7_send 120 = .ok (.imul, 1) := by decide +kernel
theorem dX7_send_121 : decode cX7_send 121 = .ok (.iload_n 3, 1) := by decide +kernel
theorem dX7_send_122 : decode cX7_send 122 = .ok (.iadd, 1) := by decide +kernel
theorem dX7_send_123 : decode cX7_send 123 = .ok (.iadd, 1) := by decide +kernel
theorem dX7_send_124 : decode cX7_send 124 = .ok (.iload 4, 2) := by decide +kernel
theorem dX7_send_126 : decode cX7_send 126 = .ok (.ifCond .eq 7, 3) := by decide +kernel
theorem dX7_send_129 : decode cX7_send 129 = .ok (.iconst (-1), 1) := by decide +kernel
theorem dX7_send_130 : decode cX7_send 130 = .ok (.goto 4, 3) := by decide +kernel
theorem dX7_send_133 : decode cX7_send 133 = .ok (.iload_n 1, 1) := by decide +kernel
theorem dX7_send_134 : decode cX7_send 134 = .ok (.iastore, 1) := by decide +kernel
theorem dX7_send_135 : decode cX7_send 135 = .ok (.aload_n 0, 1) := by decide +kernel
theorem dX7_send_136 : decode cX7_send 136 = .ok (.iload_n 1, 1) := by decide +kernel
theorem dX7_send_137 : decode cX7_send 137 = .ok (.iload 4, 2) := by decide +kernel
theorem dX7_send_139 : decode cX7_send 139 = .ok (.ifCond .eq 7, 3) := by decide +kernel
theorem dX7_send_142 : decode cX7_send 142 = .ok (.iconst 3, 1) := by decide +kernel
theorem dX7_send_143 : decode cX7_send 143 = .ok (.goto 4, 3) := by decide +kernel
theorem dX7_send_146 : decode cX7_send 146 = .ok (.iconst 0, 1) := by decide +kernel
theorem dX7_send_147 : decode cX7_send 147 = .ok (.invokevirtual 55, 3) := by decide +kernel
theorem dX7_send_150 : decode cX7_send 150 = .ok (.aload_n 0, 1) := by decide +kernel
theorem dX7_send_151 : decode cX7_send 151 = .ok (.aload_n 0, 1) := by decide +kernel
theorem dX7_send_152 : decode cX7_send 152 = .ok (.invokevirtual 59, 3) := by decide +kernel
theorem dX7_send_155 : decode cX7_send 155 = .ok (.invokevirtual 40, 3) := by decide +kernel
theorem dX7_send_158 : decode cX7_send 158 = .ok (.ireturn, 1) := by decide +kernel
theorem dX7_weight_0 : decode cX7_weight 0 = .ok (.iconst 0, 1) := by decide +kernel
theorem dX7_weight_1 : decode cX7_weight 1 = .ok (.istore_n 1, 1) := by decide +kernel
theorem dX7_weight_2 : decode cX7_weight 2 = .ok (.iconst 0, 1) := by decide +kernel
theorem dX7_weight_3 : decode cX7_weight 3 = .ok (.istore_n 2, 1) := by decide +kernel
theorem dX7_weight_4 : decode cX7_weight 4 = .ok (.iload_n 2, 1) := by decide +kernel
theorem dX7_weight_5 : decode cX7_weight 5 = .ok (.aload_n 0, 1) := by decide +kernel
theorem dX7_weight_6 : decode cX7_weight 6 = .ok (.getfield 7, 3) := by decide +kernel
theorem dX7_weight_9 : decode cX7_weight 9 = .ok (.iconst 2, 1) := by decide +kernel
theorem dX7_weight_10 : decode cX7_weight 10 = .ok (.iaload, 1) := by decide +kernel
theorem dX7_weight_11 : decode cX7_weight 11 = .ok (.if_icmp .ge 25, 3) := by decide +kernel
theorem dX7_weight_14 : decode cX7_weight 14 = .ok (.iload_n 1, 1) := by decide +kernel
theorem dX7_weight_15 : decode cX7_weight 15 = .ok (.aload_n 0, 1) := by decide +kernel
theorem dX7_weight_16 : decode cX7_weight 16 = .ok (.aload_n 0, 1) := by decide +kernel
theorem dX7_weight_17 : decode cX7_weight 17 = .ok (.getfield 7, 3) := by decide +kernel
theorem dX7_weight_20 : decode cX7_weight 20 = .ok (.iconst 3, 1) := by decide +kernel
theorem dX7_weight_21 : decode cX7_weight 21 = .ok (.iload_n 2, 1) := by decide +kernel
theorem dX7_weight_22 : decode cX7_weight 22 = .ok (.iadd, 1) := by decide +kernel
theorem dX7_weight_23 : decode cX7_weight 23 = .ok (.iaload, 1) := by decide +kernel
theorem dX7_weight_24 : decode cX7_weight 24 = .ok (.iconst 0, 1) := by decide +kernel
theorem dX7_weight_25 : decode cX7_weight 25 = .ok (.invokevirtual 44, 3) := by decide +kernel
theorem dX7_weight_28 : decode cX7_weight 28 = .ok (.iadd, 1) := by decide +kernel
theorem dX7_weight_29 : decode cX7_weight 29 = .ok (.istore_n 1, 1) := by decide +kernel
theorem dX7_weight_30 : decode cX7_weight 30 = .ok (.iinc 2 1, 3) := by decide +kernel
theorem dX7_weight_33 : decode cX7_weight 33 = .ok (.goto (-29), 3) := by decide +kernel
theorem dX7_weight_36 : decode cX7_weight 36 = .ok (.iload_n 1, 1) := by decide +kernel
theorem dX7_weight_37 : decode cX7_weight 37 = .ok (.ireturn, 1) := by decide +kernel
theorem dX7_most_0 : decode cX7_most 0 = .ok (.aload_n 0, 1) := by decide +kernel
theorem dX7_most_1 : decode cX7_most 1 = .ok (.invokevirtual 63, 3) := by decide +kernel
theorem dX7_most_4 : decode cX7_most 4 = .ok (.bipush 10, 2) := by decide +kernel
theorem dX7_most_6 : decode cX7_most 6 = .ok (.if_icmp .gt 7, 3) := by decide +kernel
theorem dX7_most_9 : decode cX7_most 9 = .ok (.iconst 4, 1) := by decide +kernel
theorem dX7_most_10 : decode cX7_most 10 = .ok (.goto 17, 3) := by decide +kernel
theorem dX7_most_13 : decode cX7_most 13 = .ok (.aload_n 0, 1) := by decide +kernel
theorem dX7_most_14 : decode cX7_most 14 = .ok (.invokevirtual 63, 3) := by decide +kernel
theorem dX7_most_17 : decode cX7_most 17 = .ok (.bipush 20, 2) := by decide +kernel
theorem dX7_most_19 : decode cX7_most 19 = .ok (.if_icmp .gt 7, 3) := by decide +kernel
theorem dX7_most_22 : decode cX7_most 22 = .ok (.iconst 2, 1) := by decide +kernel
theorem dX7_most_23 : decode cX7_most 23 = .ok (.goto 4, 3) := by decide +kernel
theorem dX7_most_26 : decode cX7_most 26 = .ok (.iconst 1, 1) := by decide +kernel
theorem dX7_most_27 : decode cX7_most 27 = .ok (.ireturn, 1) := by decide +kernel
theorem dX7_comes_0 : decode cX7_comes 0 = .ok (.aload_n 0, 1) := by decide +kernel
theorem dX7_comes_1 : decode cX7_comes 1 = .ok (.getfield 7, 3) := by decide +kernel
theorem dX7_comes_4 : decode cX7_comes 4 = .ok (.iconst 3, 1) := by decide +kernel
theorem dX7_comes_5 : decode cX7_comes 5 = .ok (.aload_n 0, 1) := by decide +kernel
theorem dX7_comes_6 : decode cX7_comes 6 = .ok (.getfield 7, 3) := by decide +kernel
theorem dX7_comes_9 : decode cX7_comes 9 = .ok (.iconst 2, 1) := by decide +kernel
theorem dX7_comes_10 : decode cX7_comes 10 = .ok (.iaload, 1) := by decide +kernel
theorem dX7_comes_11 : decode cX7_comes 11 = .ok (.iadd, 1) := by decide +kernel
theorem dX7_comes_12 : decode cX7_comes 12 = .ok (.iload_n 1, 1) := by decide +kernel
theorem dX7_comes_13 : decode cX7_comes 13 = .ok (.iastore, 1) := by decide +kernel
end
section
-- printed decode rows
theorem dX7_comes_14 : decode cX7_comes 14 = .ok (.aload_n 0, 1) := by decide +kernel
theorem dX7_comes_15 : decode cX7_comes 15 = .ok (.getfield 7, 3) := by decide +kernel
theorem dX7_comes_18 : decode cX7_comes 18 = .ok (.iconst 2, 1) := by decide +kernel
theorem dX7_comes_19 : decode cX7_comes 19 = .ok (.dup2, 1) := by decide +kernel
theorem dX7_comes_20 : decode cX7_comes 20 = .ok (.iaload, 1) := by decide +kernel
theorem dX7_comes_21 : decode cX7_comes 21 = .ok (.iconst 1, 1) := by decide +kernel
theorem dX7_comes_22 : decode cX7_comes 22 = .ok (.iadd, 1) := by decide +kernel
theorem dX7_comes_23 : decode cX7_comes 23 = .ok (.iastore, 1) := by decide +kernel
theorem dX7_comes_24 : decode cX7_comes 24 = .ok (.aload_n 0, 1) := by decide +kernel
theorem dX7_comes_25 : decode cX7_comes 25 = .ok (.getfield 7, 3) := by decide +kernel
theorem dX7_comes_28 : decode cX7_comes 28 = .ok (.bipush 6, 2) := by decide +kernel
theorem dX7_comes_30 : decode cX7_comes 30 = .ok (.iconst 0, 1) := by decide +kernel
theorem dX7_comes_31 : decode cX7_comes 31 = .ok (.iastore, 1) := by decide +kernel
theorem dX7_comes_32 : decode cX7_comes 32 = .ok (.aload_n 0, 1) := by decide +kernel
theorem dX7_comes_33 : decode cX7_comes 33 = .ok (.iload_n 1, 1) := by decide +kernel
theorem dX7_comes_34 : decode cX7_comes 34 = .ok (.iconst 1, 1) := by decide +kernel
theorem dX7_comes_35 : decode cX7_comes 35 = .ok (.invokevirtual 55, 3) := by decide +kernel
theorem dX7_comes_38 : decode cX7_comes 38 = .ok (.return_, 1) := by decide +kernel
theorem dX7_leaves_0 : decode cX7_leaves 0 = .ok (.aload_n 0, 1) := by decide +kernel
theorem dX7_leaves_1 : decode cX7_leaves 1 = .ok (.getfield 7, 3) := by decide +kernel
theorem dX7_leaves_4 : decode cX7_leaves 4 = .ok (.iconst 2, 1) := by decide +kernel
theorem dX7_leaves_5 : decode cX7_leaves 5 = .ok (.dup2, 1) := by decide +kernel
theorem dX7_leaves_6 : decode cX7_leaves 6 = .ok (.iaload, 1) := by decide +kernel
theorem dX7_leaves_7 : decode cX7_leaves 7 = .ok (.iconst 1, 1) := by decide +kernel
theorem dX7_leaves_8 : decode cX7_leaves 8 = .ok (.isub, 1) := by decide +kernel
theorem dX7_leaves_9 : decode cX7_leaves 9 = .ok (.iastore, 1) := by decide +kernel
theorem dX7_leaves_10 : decode cX7_leaves 10 = .ok (.aload_n 0, 1) := by decide +kernel
theorem dX7_leaves_11 : decode cX7_leaves 11 = .ok (.getfield 7, 3) := by decide +kernel
theorem dX7_leaves_14 : decode cX7_leaves 14 = .ok (.bipush 6, 2) := by decide +kernel
theorem dX7_leaves_16 : decode cX7_leaves 16 = .ok (.iconst 0, 1) := by decide +kernel
theorem dX7_leaves_17 : decode cX7_leaves 17 = .ok (.iastore, 1) := by decide +kernel
theorem dX7_leaves_18 : decode cX7_leaves 18 = .ok (.aload_n 0, 1) := by decide +kernel
theorem dX7_leaves_19 : decode cX7_leaves 19 = .ok (.getfield 7, 3) := by decide +kernel
theorem dX7_leaves_22 : decode cX7_leaves 22 = .ok (.iconst 3, 1) := by decide +kernel
theorem dX7_leaves_23 : decode cX7_leaves 23 = .ok (.aload_n 0, 1) := by decide +kernel
theorem dX7_leaves_24 : decode cX7_leaves 24 = .ok (.getfield 7, 3) := by decide +kernel
theorem dX7_leaves_27 : decode cX7_leaves 27 = .ok (.iconst 2, 1) := by decide +kernel
theorem dX7_leaves_28 : decode cX7_leaves 28 = .ok (.iaload, 1) := by decide +kernel
theorem dX7_leaves_29 : decode cX7_leaves 29 = .ok (.iadd, 1) := by decide +kernel
theorem dX7_leaves_30 : decode cX7_leaves 30 = .ok (.iaload, 1) := by decide +kernel
theorem dX7_leaves_31 : decode cX7_leaves 31 = .ok (.ireturn, 1) := by decide +kernel
theorem dX7_lifts_0 : decode cX7_lifts 0 = .ok (.iload_n 1, 1) := by decide +kernel
theorem dX7_lifts_1 : decode cX7_lifts 1 = .ok (.iconst 0, 1) := by decide +kernel
theorem dX7_lifts_2 : decode cX7_lifts 2 = .ok (.iconst 3, 1) := by decide +kernel
theorem dX7_lifts_3 : decode cX7_lifts 3 = .ok (.invokestatic 26, 3) := by decide +kernel
theorem dX7_lifts_6 : decode cX7_lifts 6 = .ok (.ifCond .ne 6, 3) := by decide +kernel
theorem dX7_lifts_9 : decode cX7_lifts 9 = .ok (.ldc 30, 2) := by decide +kernel
theorem dX7_lifts_11 : decode cX7_lifts 11 = .ok (.ireturn, 1) := by decide +kernel
theorem dX7_lifts_12 : decode cX7_lifts 12 = .ok (.bipush 16, 2) := by decide +kernel
theorem dX7_lifts_14 : decode cX7_lifts 14 = .ok (.iconst 4, 1) := by decide +kernel
theorem dX7_lifts_15 : decode cX7_lifts 15 = .ok (.aload_n 0, 1) := by decide +kernel
theorem dX7_lifts_16 : decode cX7_lifts 16 = .ok (.getfield 7, 3) := by decide +kernel
theorem dX7_lifts_19 : decode cX7_lifts 19 = .ok (.iconst 1, 1) := by decide +kernel
theorem dX7_lifts_20 : decode cX7_lifts 20 = .ok (.iaload, 1) := by decide +kernel
theorem dX7_lifts_21 : decode cX7_lifts 21 = .ok (.imul, 1) := by decide +kernel
theorem dX7_lifts_22 : decode cX7_lifts 22 = .ok (.iadd, 1) := by decide +kernel
theorem dX7_lifts_23 : decode cX7_lifts 23 = .ok (.iload_n 1, 1) := by decide +kernel
theorem dX7_lifts_24 : decode cX7_lifts 24 = .ok (.iadd, 1) := by decide +kernel
theorem dX7_lifts_25 : decode cX7_lifts 25 = .ok (.istore_n 2, 1) := by decide +kernel
theorem dX7_lifts_26 : decode cX7_lifts 26 = .ok (.aload_n 0, 1) := by decide +kernel
theorem dX7_lifts_27 : decode cX7_lifts 27 = .ok (.getfield 7, 3) := by decide +kernel
theorem dX7_lifts_30 : decode cX7_lifts 30 = .ok (.iload_n 2, 1) := by decide +kernel
theorem dX7_lifts_31 : decode cX7_lifts 31 = .ok (.iaload, 1) := by decide +kernel
theorem dX7_lifts_32 : decode cX7_lifts 32 = .ok (.istore_n 3, 1) := by decide +kernel
theorem dX7_lifts_33 : decode cX7_lifts 33 = .ok (.iload_n 3, 1) := by decide +kernel
theorem dX7_lifts_34 : decode cX7_lifts 34 = .ok (.ifCond .ge 6, 3) := by decide +kernel
theorem dX7_lifts_37 : decode cX7_lifts 37 = .ok (.ldc 35, 2) := by decide +kernel
theorem dX7_lifts_39 : decode cX7_lifts 39 = .ok (.ireturn, 1) := by decide +kernel
theorem dX7_lifts_40 : decode cX7_lifts 40 = .ok (.aload_n 0, 1) := by decide +kernel
theorem dX7_lifts_41 : decode cX7_lifts 41 = .ok (.getfield 7, 3) := by decide +kernel
theorem dX7_lifts_44 : decode cX7_lifts 44 = .ok (.iconst 2, 1) := by decide +kernel
theorem dX7_lifts_45 : decode cX7_lifts 45 = .ok (.iaload, 1) := by decide +kernel
theorem dX7_lifts_46 : decode cX7_lifts 46 = .ok (.iconst 3, 1) := by decide +kernel
theorem dX7_lifts_47 : decode cX7_lifts 47 = .ok (.if_icmp .ne 6, 3) := by decide +kernel
theorem dX7_lifts_50 : decode cX7_lifts 50 = .ok (.ldc 36, 2) := by decide +kernel
theorem dX7_lifts_52 : decode cX7_lifts 52 = .ok (.ireturn, 1) := by decide +kernel
theorem dX7_lifts_53 : decode cX7_lifts 53 = .ok (.aload_n 0, 1) := by decide +kernel
theorem dX7_lifts_54 : decode cX7_lifts 54 = .ok (.getfield 7, 3) := by decide +kernel
theorem dX7_lifts_57 : decode cX7_lifts 57 = .ok (.iload_n 2, 1) := by decide +kernel
theorem dX7_lifts_58 : decode cX7_lifts 58 = .ok (.iconst (-1), 1) := by decide +kernel
theorem dX7_lifts_59 : decode cX7_lifts 59 = .ok (.iastore, 1) := by decide +kernel
theorem dX7_lifts_60 : decode cX7_lifts 60 = .ok (.aload_n 0, 1) := by decide +kernel
theorem dX7_lifts_61 : decode cX7_lifts 61 = .ok (.iload_n 3, 1) := by decide +kernel
theorem dX7_lifts_62 : decode cX7_lifts 62 = .ok (.invokevirtual 66, 3) := by decide +kernel
theorem dX7_lifts_65 : decode cX7_lifts 65 = .ok (.aload_n 0, 1) := by decide +kernel
theorem dX7_lifts_66 : decode cX7_lifts 66 = .ok (.getfield 7, 3) := by decide +kernel
theorem dX7_lifts_69 : decode cX7_lifts 69 = .ok (.iconst 0, 1) := by decide +kernel
theorem dX7_lifts_70 : decode cX7_lifts 70 = .ok (.dup2, 1) := by decide +kernel
theorem dX7_lifts_71 : decode cX7_lifts 71 = .ok (.iaload, 1) := by decide +kernel
theorem dX7_lifts_72 : decode cX7_lifts 72 = .ok (.iconst 1, 1) := by decide +kernel
theorem dX7_lifts_73 : decode cX7_lifts 73 = .ok (.iadd, 1) := by decide +kernel
theorem dX7_lifts_74 : decode cX7_lifts 74 = .ok (.iastore, 1) := by decide +kernel
theorem dX7_lifts_75 : decode cX7_lifts 75 = .ok (.iload_n 3, 1) := by decide +kernel
theorem dX7_lifts_76 : decode cX7_lifts 76 = .ok (.ireturn, 1) := by decide +kernel
theorem dX7_lift_0 : decode cX7_lift 0 = .ok (.aload_n 0, 1) := by decide +kernel
theorem dX7_lift_1 : decode cX7_lift 1 = .ok (.invokevirtual 37, 3) := by decide +kernel
theorem dX7_lift_4 : decode cX7_lift 4 = .ok (.aload_n 0, 1) := by decide +kernel
theorem dX7_lift_5 : decode cX7_lift 5 = .ok (.aload_n 0, 1) := by decide +kernel
theorem dX7_lift_6 : decode cX7_lift 6 = .ok (.iload_n 1, 1) := by decide +kernel
theorem dX7_lift_7 : decode cX7_lift 7 = .ok (.invokevirtual 70, 3) := by decide +kernel
theorem dX7_lift_10 : decode cX7_lift 10 = .ok (.invokevirtual 40, 3) := by decide +kernel
theorem dX7_lift_13 : decode cX7_lift 13 = .ok (.ireturn, 1) := by decide +kernel
theorem dX7_lays_0 : decode cX7_lays 0 = .ok (.iload_n 1, 1) := by decide +kernel
theorem dX7_lays_1 : decode cX7_lays 1 = .ok (.iconst 0, 1) := by decide +kernel
theorem dX7_lays_2 : decode cX7_lays 2 = .ok (.iconst 3, 1) := by decide +kernel
theorem dX7_lays_3 : decode cX7_lays 3 = .ok (.invokestatic 26, 3) := by decide +kernel
theorem dX7_lays_6 : decode cX7_lays 6 = .ok (.ifCond .ne 6, 3) := by decide +kernel
theorem dX7_lays_9 : decode cX7_lays 9 = .ok (.ldc 30, 2) := by decide +kernel
theorem dX7_lays_11 : decode cX7_lays 11 = .ok (.ireturn, 1) := by decide +kernel
theorem dX7_lays_12 : decode cX7_lays 12 = .ok (.bipush 16, 2) := by decide +kernel
theorem dX7_lays_14 : decode cX7_lays 14 = .ok (.iconst 4, 1) := by decide +kernel
theorem dX7_lays_15 : decode cX7_lays 15 = .ok (.aload_n 0, 1) := by decide +kernel
theorem dX7_lays_16 : decode cX7_lays 16 = .ok (.getfield 7, 3) := by decide +kernel
theorem dX7_lays_19 : decode cX7_lays 19 = .ok (.iconst 1, 1) := by decide +kernel
theorem dX7_lays_20 : decode cX7_lays 20 = .ok (.iaload, 1) := by decide +kernel
theorem dX7_lays_21 : decode cX7_lays 21 = .ok (.imul, 1) := by decide +kernel
theorem dX7_lays_22 : decode cX7_lays 22 = .ok (.iadd, 1) := by decide +kernel
theorem dX7_lays_23 : decode cX7_lays 23 = .ok (.iload_n 1, 1) := by decide +kernel
theorem dX7_lays_24 : decode cX7_lays 24 = .ok (.iadd, 1) := by decide +kernel
theorem dX7_lays_25 : decode cX7_lays 25 = .ok (.istore_n 2, 1) := by decide +kernel
theorem dX7_lays_26 : decode cX7_lays 26 = .ok (.aload_n 0, 1) := by decide +kernel
theorem dX7_lays_27 : decode cX7_lays 27 = .ok (.getfield 7, 3) := by decide +kernel
theorem dX7_lays_30 : decode cX7_lays 30 = .ok (.iconst 2, 1) := by decide +kernel
theorem dX7_lays_31 : decode cX7_lays 31 = .ok (.iaload, 1) := by decide +kernel
theorem dX7_lays_32 : decode cX7_lays 32 = .ok (.ifCond .eq 12, 3) := by decide +kernel
theorem dX7_lays_35 : decode cX7_lays 35 = .ok (.aload_n 0, 1) := by decide +kernel
theorem dX7_lays_36 : decode cX7_lays 36 = .ok (.getfield 7, 3) := by decide +kernel
theorem dX7_lays_39 : decode cX7_lays 39 = .ok (.iload_n 2, 1) := by decide +kernel
theorem dX7_lays_40 : decode cX7_lays 40 = .ok (.iaload, 1) := by decide +kernel
theorem dX7_lays_41 : decode cX7_lays 41 = .ok (.ifCond .lt 6, 3) := by decide +kernel
theorem dX7_lays_44 : decode cX7_lays 44 = .ok (.ldc 35, 2) := by decide +kernel
theorem dX7_lays_46 : decode cX7_lays 46 = .ok (.ireturn, 1) := by decide +kernel
theorem dX7_lays_47 : decode cX7_lays 47 = .ok (.aload_n 0, 1) := by decide +kernel
theorem dX7_lays_48 : decode cX7_lays 48 = .ok (.invokevirtual 73, 3) := by decide +kernel
theorem dX7_lays_51 : decode cX7_lays 51 = .ok (.istore_n 3, 1) := by decide +kernel
theorem dX7_lays_52 : decode cX7_lays 52 = .ok (.aload_n 0, 1) := by decide +kernel
theorem dX7_lays_53 : decode cX7_lays 53 = .ok (.getfield 7, 3) := by decide +kernel
theorem dX7_lays_56 : decode cX7_lays 56 = .ok (.iload_n 2, 1) := by decide +kernel
theorem dX7_lays_57 : decode cX7_lays 57 = .ok (.iload_n 3, 1) := by decide +kernel
theorem dX7_lays_58 : decode cX7_lays 58 = .ok (.iastore, 1) := by decide +kernel
theorem dX7_lays_59 : decode cX7_lays 59 = .ok (.aload_n 0, 1) := by decide +kernel
theorem dX7_lays_60 : decode cX7_lays 60 = .ok (.iload_n 3, 1) := by decide +kernel
theorem dX7_lays_61 : decode cX7_lays 61 = .ok (.iconst 0, 1) := by decide +kernel
theorem dX7_lays_62 : decode cX7_lays 62 = .ok (.invokevirtual 55, 3) := by decide +kernel
theorem dX7_lays_65 : decode cX7_lays 65 = .ok (.aload_n 0, 1) := by decide +kernel
theorem dX7_lays_66 : decode cX7_lays 66 = .ok (.getfield 7, 3) := by decide +kernel
theorem dX7_lays_69 : decode cX7_lays 69 = .ok (.iconst 0, 1) := by decide +kernel
theorem dX7_lays_70 : decode cX7_lays 70 = .ok (.dup2, 1) := by decide +kernel
theorem dX7_lays_71 : decode cX7_lays 71 = .ok (.iaload, 1) := by decide +kernel
theorem dX7_lays_72 : decode cX7_lays 72 = .ok (.iconst 1, 1) := by decide +kernel
theorem dX7_lays_73 : decode cX7_lays 73 = .ok (.iadd, 1) := by decide +kernel
theorem dX7_lays_74 : decode cX7_lays 74 = .ok (.iastore, 1) := by decide +kernel
theorem dX7_lays_75 : decode cX7_lays 75 = .ok (.iload_n 3, 1) := by decide +kernel
theorem dX7_lays_76 : decode cX7_lays 76 = .ok (.ireturn, 1) := by decide +kernel
theorem dX7_lay_0 : decode cX7_lay 0 = .ok (.aload_n 0, 1) := by decide +kernel
theorem dX7_lay_1 : decode cX7_lay 1 = .ok (.invokevirtual 37, 3) := by decide +kernel
theorem dX7_lay_4 : decode cX7_lay 4 = .ok (.aload_n 0, 1) := by decide +kernel
theorem dX7_lay_5 : decode cX7_lay 5 = .ok (.aload_n 0, 1) := by decide +kernel
theorem dX7_lay_6 : decode cX7_lay 6 = .ok (.iload_n 1, 1) := by decide +kernel
theorem dX7_lay_7 : decode cX7_lay 7 = .ok (.invokevirtual 76, 3) := by decide +kernel
theorem dX7_lay_10 : decode cX7_lay 10 = .ok (.invokevirtual 40, 3) := by decide +kernel
theorem dX7_lay_13 : decode cX7_lay 13 = .ok (.ireturn, 1) := by decide +kernel
theorem dX7_weighs_0 : decode cX7_weighs 0 = .ok (.aload_n 0, 1) := by decide +kernel
theorem dX7_weighs_1 : decode cX7_weighs 1 = .ok (.getfield 7, 3) := by decide +kernel
theorem dX7_weighs_4 : decode cX7_weighs 4 = .ok (.bipush 6, 2) := by decide +kernel
theorem dX7_weighs_6 : decode cX7_weighs 6 = .ok (.iconst 1, 1) := by decide +kernel
theorem dX7_weighs_7 : decode cX7_weighs 7 = .ok (.iastore, 1) := by decide +kernel
theorem dX7_weighs_8 : decode cX7_weighs 8 = .ok (.aload_n 0, 1) := by decide +kernel
theorem dX7_weighs_9 : decode cX7_weighs 9 = .ok (.getfield 7, 3) := by decide +kernel
theorem dX7_weighs_12 : decode cX7_weighs 12 = .ok (.iconst 0, 1) := by decide +kernel
theorem dX7_weighs_13 : decode cX7_weighs 13 = .ok (.dup2, 1) := by decide +kernel
theorem dX7_weighs_14 : decode cX7_weighs 14 = .ok (.iaload, 1) := by decide +kernel
theorem dX7_weighs_15 : decode cX7_weighs 15 = .ok (.iconst 1, 1) := by decide +kernel
theorem dX7_weighs_16 : decode cX7_weighs 16 = .ok (.iadd, 1) := by decide +kernel
theorem dX7_weighs_17 : decode cX7_weighs 17 = .ok (.iastore, 1) := by decide +kernel
theorem dX7_weighs_18 : decode cX7_weighs 18 = .ok (.aload_n 0, 1) := by decide +kernel
theorem dX7_weighs_19 : decode cX7_weighs 19 = .ok (.invokevirtual 63, 3) := by decide +kernel
theorem dX7_weighs_22 : decode cX7_weighs 22 = .ok (.ireturn, 1) := by decide +kernel
theorem dX7_weigh_0 : decode cX7_weigh 0 = .ok (.aload_n 0, 1) := by decide +kernel
theorem dX7_weigh_1 : decode cX7_weigh 1 = .ok (.invokevirtual 37, 3) := by decide +kernel
theorem dX7_weigh_4 : decode cX7_weigh 4 = .ok (.aload_n 0, 1) := by decide +kernel
theorem dX7_weigh_5 : decode cX7_weigh 5 = .ok (.aload_n 0, 1) := by decide +kernel
theorem dX7_weigh_6 : decode cX7_weigh 6 = .ok (.invokevirtual 79, 3) := by decide +kernel
theorem dX7_weigh_9 : decode cX7_weigh 9 = .ok (.invokevirtual 40, 3) := by decide +kernel
theorem dX7_weigh_12 : decode cX7_weigh 12 = .ok (.ireturn, 1) := by decide +kernel
theorem dX7_turns_0 : decode cX7_turns 0 = .ok (.iload_n 1, 1) := by decide +kernel
theorem dX7_turns_1 : decode cX7_turns 1 = .ok (.ifCond .ge 8, 3) := by decide +kernel
theorem dX7_turns_4 : decode cX7_turns 4 = .ok (.iload_n 1, 1) := by decide +kernel
theorem dX7_turns_5 : decode cX7_turns 5 = .ok (.ineg, 1) := by decide +kernel
theorem dX7_turns_6 : decode cX7_turns 6 = .ok (.goto 4, 3) := by decide +kernel
theorem dX7_turns_9 : decode cX7_turns 9 = .ok (.iload_n 1, 1) := by decide +kernel
theorem dX7_turns_10 : decode cX7_turns 10 = .ok (.istore_n 2, 1) := by decide +kernel
theorem dX7_turns_11 : decode cX7_turns 11 = .ok (.iload_n 1, 1) := by decide +kernel
theorem dX7_turns_12 : decode cX7_turns 12 = .ok (.bipush (-4), 2) := by decide +kernel
theorem dX7_turns_14 : decode cX7_turns 14 = .ok (.iconst 4, 1) := by decide +kernel
theorem dX7_turns_15 : decode cX7_turns 15 = .ok (.invokestatic 26, 3) := by decide +kernel
theorem dX7_turns_18 : decode cX7_turns 18 = .ok (.ifCond .eq 7, 3) := by decide +kernel
theorem dX7_turns_21 : decode cX7_turns 21 = .ok (.iload_n 1, 1) := by decide +kernel
theorem dX7_turns_22 : decode cX7_turns 22 = .ok (.ifCond .ne 6, 3) := by decide +kernel
theorem dX7_turns_25 : decode cX7_turns 25 = .ok (.ldc 30, 2) := by decide +kernel
theorem dX7_turns_27 : decode cX7_turns 27 = .ok (.ireturn, 1) := by decide +kernel
theorem dX7_turns_28 : decode cX7_turns 28 = .ok (.aload_n 0, 1) := by decide +kernel
theorem dX7_turns_29 : decode cX7_turns 29 = .ok (.getfield 7, 3) := by decide +kernel
theorem dX7_turns_32 : decode cX7_turns 32 = .ok (.bipush 6, 2) := by decide +kernel
theorem dX7_turns_34 : decode cX7_turns 34 = .ok (.iaload, 1) := by decide +kernel
theorem dX7_turns_35 : decode cX7_turns 35 = .ok (.ifCond .eq 11, 3) := by decide +kernel
theorem dX7_turns_38 : decode cX7_turns 38 = .ok (.iload_n 2, 1) := by decide +kernel
theorem dX7_turns_39 : decode cX7_turns 39 = .ok (.aload_n 0, 1) := by decide +kernel
theorem dX7_turns_40 : decode cX7_turns 40 = .ok (.invokevirtual 82, 3) := by decide +kernel
theorem dX7_turns_43 : decode cX7_turns 43 = .ok (.if_icmp .le 6, 3) := by decide +kernel
theorem dX7_turns_46 : decode cX7_turns 46 = .ok (.ldc 35, 2) := by decide +kernel
theorem dX7_turns_48 : decode cX7_turns 48 = .ok (.ireturn, 1) := by decide +kernel
theorem dX7_turns_49 : decode cX7_turns 49 = .ok (.aload_n 0, 1) := by decide +kernel
theorem dX7_turns_50 : decode cX7_turns 50 = .ok (.getfield 7, 3) := by decide +kernel
theorem dX7_turns_53 : decode cX7_turns 53 = .ok (.iconst 1, 1) := by decide +kernel
theorem dX7_turns_54 : decode cX7_turns 54 = .ok (.aload_n 0, 1) := by decide +kernel
theorem dX7_turns_55 : decode cX7_turns 55 = .ok (.getfield 7, 3) := by decide +kernel
theorem dX7_turns_58 : decode cX7_turns 58 = .ok (.iconst 1, 1) := by decide +kernel
theorem dX7_turns_59 : decode cX7_turns 59 = .ok (.iaload, 1) := by decide +kernel
theorem dX7_turns_60 : decode cX7_turns 60 = .ok (.iload_n 1, 1) := by decide +kernel
theorem dX7_turns_61 : decode cX7_turns 61 = .ok (.iadd, 1) := by decide +kernel
theorem dX7_turns_62 : decode cX7_turns 62 = .ok (.bipush 8, 2) := by decide +kernel
theorem dX7_turns_64 : decode cX7_turns 64 = .ok (.iadd, 1) := by decide +kernel
theorem dX7_turns_65 : decode cX7_turns 65 = .ok (.bipush 8, 2) := by decide +kernel
theorem dX7_turns_67 : decode cX7_turns 67 = .ok (.irem, 1) := by decide +kernel
theorem dX7_turns_68 : decode cX7_turns 68 = .ok (.iastore, 1) := by decide +kernel
theorem dX7_turns_69 : decode cX7_turns 69 = .ok (.aload_n 0, 1) := by decide +kernel
theorem dX7_turns_70 : decode cX7_turns 70 = .ok (.getfield 7, 3) := by decide +kernel
theorem dX7_turns_73 : decode cX7_turns 73 = .ok (.bipush 6, 2) := by decide +kernel
theorem dX7_turns_75 : decode cX7_turns 75 = .ok (.iconst 0, 1) := by decide +kernel
theorem dX7_turns_76 : decode cX7_turns 76 = .ok (.iastore, 1) := by decide +kernel
theorem dX7_turns_77 : decode cX7_turns 77 = .ok (.aload_n 0, 1) := by decide +kernel
theorem dX7_turns_78 : decode cX7_turns 78 = .ok (.getfield 7, 3) := by decide +kernel
theorem dX7_turns_81 : decode cX7_turns 81 = .ok (.iconst 0, 1) := by decide +kernel
theorem dX7_turns_82 : decode cX7_turns 82 = .ok (.dup2, 1) := by decide +kernel
theorem dX7_turns_83 : decode cX7_turns 83 = .ok (.iaload, 1) := by decide +kernel
theorem dX7_turns_84 : decode cX7_turns 84 = .ok (.iload_n 2, 1) := by decide +kernel
theorem dX7_turns_85 : decode cX7_turns 85 = .ok (.iconst 1, 1) := by decide +kernel
theorem dX7_turns_86 : decode cX7_turns 86 = .ok (.aload_n 0, 1) := by decide +kernel
theorem dX7_turns_87 : decode cX7_turns 87 = .ok (.invokevirtual 63, 3) := by decide +kernel
theorem dX7_turns_90 : decode cX7_turns 90 = .ok (.bipush 10, 2) := by decide +kernel
theorem dX7_turns_92 : decode cX7_turns 92 = .ok (.idiv, 1) := by decide +kernel
theorem dX7_turns_93 : decode cX7_turns 93 = .ok (.iadd, 1) := by decide +kernel
theorem dX7_turns_94 : decode cX7_turns 94 = .ok (.imul, 1) := by decide +kernel
theorem dX7_turns_95 : decode cX7_turns 95 = .ok (.iadd, 1) := by decide +kernel
theorem dX7_turns_96 : decode cX7_turns 96 = .ok (.iastore, 1) := by decide +kernel
theorem dX7_turns_97 : decode cX7_turns 97 = .ok (.aload_n 0, 1) := by decide +kernel
theorem dX7_turns_98 : decode cX7_turns 98 = .ok (.getfield 7, 3) := by decide +kernel
theorem dX7_turns_101 : decode cX7_turns 101 = .ok (.bipush 10, 2) := by decide +kernel
theorem dX7_turns_103 : decode cX7_turns 103 = .ok (.dup2, 1) := by decide +kernel
theorem dX7_turns_104 : decode cX7_turns 104 = .ok (.iaload, 1) := by decide +kernel
theorem dX7_turns_105 : decode cX7_turns 105 = .ok (.iconst 1, 1) := by decide +kernel
theorem dX7_turns_106 : decode cX7_turns 106 = .ok (.iadd, 1) := by decide +kernel
theorem dX7_turns_107 : decode cX7_turns 107 = .ok (.iastore, 1) := by decide +kernel
theorem dX7_turns_108 : decode cX7_turns 108 = .ok (.aload_n 0, 1) := by decide +kernel
theorem dX7_turns_109 : decode cX7_turns 109 = .ok (.getfield 7, 3) := by decide +kernel
theorem dX7_turns_112 : decode cX7_turns 112 = .ok (.iconst 1, 1) := by decide +kernel
theorem dX7_turns_113 : decode cX7_turns 113 = .ok (.iaload, 1) := by decide +kernel
theorem dX7_turns_114 : decode cX7_turns 114 = .ok (.ireturn, 1) := by decide +kernel
theorem dX7_turn_0 : decode cX7_turn 0 = .ok (.aload_n 0, 1) := by decide +kernel
theorem dX7_turn_1 : decode cX7_turn 1 = .ok (.invokevirtual 37, 3) := by decide +kernel
theorem dX7_turn_4 : decode cX7_turn 4 = .ok (.aload_n 0, 1) := by decide +kernel
theorem dX7_turn_5 : decode cX7_turn 5 = .ok (.aload_n 0, 1) := by decide +kernel
theorem dX7_turn_6 : decode cX7_turn 6 = .ok (.iload_n 1, 1) := by decide +kernel
theorem dX7_turn_7 : decode cX7_turn 7 = .ok (.invokevirtual 85, 3) := by decide +kernel
theorem dX7_turn_10 : decode cX7_turn 10 = .ok (.invokevirtual 40, 3) := by decide +kernel
theorem dX7_turn_13 : decode cX7_turn 13 = .ok (.ireturn, 1) := by decide +kernel
theorem dX7_wallOf_0 : decode cX7_wallOf 0 = .ok (.iconst 2, 1) := by decide +kernel
theorem dX7_wallOf_1 : decode cX7_wallOf 1 = .ok (.iconst 4, 1) := by decide +kernel
theorem dX7_wallOf_2 : decode cX7_wallOf 2 = .ok (.iload_n 0, 1) := by decide +kernel
theorem dX7_wallOf_3 : decode cX7_wallOf 3 = .ok (.imul, 1) := by decide +kernel
theorem dX7_wallOf_4 : decode cX7_wallOf 4 = .ok (.iadd, 1) := by decide +kernel
theorem dX7_wallOf_5 : decode cX7_wallOf 5 = .ok (.ireturn, 1) := by decide +kernel
theorem dX7_serves_0 : decode cX7_serves 0 = .ok (.iconst 0, 1) := by decide +kernel
theorem dX7_serves_1 : decode cX7_serves 1 = .ok (.istore_n 2, 1) := by decide +kernel
theorem dX7_serves_2 : decode cX7_serves 2 = .ok (.iconst 0, 1) := by decide +kernel
theorem dX7_serves_3 : decode cX7_serves 3 = .ok (.istore_n 3, 1) := by decide +kernel
theorem dX7_serves_4 : decode cX7_serves 4 = .ok (.iconst 0, 1) := by decide +kernel
theorem dX7_serves_5 : decode cX7_serves 5 = .ok (.istore 4, 2) := by decide +kernel
theorem dX7_serves_7 : decode cX7_serves 7 = .ok (.iload 4, 2) := by decide +kernel
theorem dX7_serves_9 : decode cX7_serves 9 = .ok (.aload_n 0, 1) := by decide +kernel
theorem dX7_serves_10 : decode cX7_serves 10 = .ok (.getfield 7, 3) := by decide +kernel
theorem dX7_serves_13 : decode cX7_serves 13 = .ok (.bipush 8, 2) := by decide +kernel
theorem dX7_serves_15 : decode cX7_serves 15 = .ok (.iaload, 1) := by decide +kernel
theorem dX7_serves_16 : decode cX7_serves 16 = .ok (.if_icmp .ge 114, 3) := by decide +kernel
theorem dX7_serves_19 : decode cX7_serves 19 = .ok (.aload_n 0, 1) := by decide +kernel
theorem dX7_serves_20 : decode cX7_serves 20 = .ok (.getfield 7, 3) := by decide +kernel
theorem dX7_serves_23 : decode cX7_serves 23 = .ok (.sipush 168, 3) := by decide +kernel
theorem dX7_serves_26 : decode cX7_serves 26 = .ok (.aload_n 0, 1) := by decide +kernel
theorem dX7_serves_27 : decode cX7_serves 27 = .ok (.getfield 7, 3) := by decide +kernel
theorem dX7_serves_30 : decode cX7_serves 30 = .ok (.sipush 228, 3) := by decide +kernel
theorem dX7_serves_33 : decode cX7_serves 33 = .ok (.iconst 3, 1) := by decide +kernel
theorem dX7_serves_34 : decode cX7_serves 34 = .ok (.iload 4, 2) := by decide +kernel
theorem dX7_serves_36 : decode cX7_serves 36 = .ok (.imul, 1) := by decide +kernel
theorem dX7_serves_37 : decode cX7_serves 37 = .ok (.iadd, 1) := by decide +kernel
theorem dX7_serves_38 : decode cX7_serves 38 = .ok (.iaload, 1) := by decide +kernel
theorem dX7_serves_39 : decode cX7_serves 39 = .ok (.iadd, 1) := by decide +kernel
theorem dX7_serves_40 : decode cX7_serves 40 = .ok (.iaload, 1) := by decide +kernel
theorem dX7_serves_41 : decode cX7_serves 41 = .ok (.iload_n 1, 1) := by decide +kernel
theorem dX7_serves_42 : decode cX7_serves 42 = .ok (.if_icmp .ne 7, 3) := by decide +kernel
theorem dX7_serves_45 : decode cX7_serves 45 = .ok (.iconst 1, 1) := by decide +kernel
theorem dX7_serves_46 : decode cX7_serves 46 = .ok (.goto 4, 3) := by decide +kernel
theorem dX7_serves_49 : decode cX7_serves 49 = .ok (.iconst 0, 1) := by decide +kernel
theorem dX7_serves_50 : decode cX7_serves 50 = .ok (.istore 5, 2) := by decide +kernel
theorem dX7_serves_52 : decode cX7_serves 52 = .ok (.iconst 0, 1) := by decide +kernel
theorem dX7_serves_53 : decode cX7_serves 53 = .ok (.istore 6, 2) := by decide +kernel
theorem dX7_serves_55 : decode cX7_serves 55 = .ok (.iload 6, 2) := by decide +kernel
theorem dX7_serves_57 : decode cX7_serves 57 = .ok (.iconst 3, 1) := by decide +kernel
theorem dX7_serves_58 : decode cX7_serves 58 = .ok (.if_icmp .ge 40, 3) := by decide +kernel
theorem dX7_serves_61 : decode cX7_serves 61 = .ok (.aload_n 0, 1) := by decide +kernel
theorem dX7_serves_62 : decode cX7_serves 62 = .ok (.getfield 7, 3) := by decide +kernel
theorem dX7_serves_65 : decode cX7_serves 65 = .ok (.sipush 228, 3) := by decide +kernel
theorem dX7_serves_68 : decode cX7_serves 68 = .ok (.iconst 3, 1) := by decide +kernel
theorem dX7_serves_69 : decode cX7_serves 69 = .ok (.iload_n 3, 1) := by decide +kernel
theorem dX7_serves_70 : decode cX7_serves 70 = .ok (.imul, 1) := by decide +kernel
theorem dX7_serves_71 : decode cX7_serves 71 = .ok (.iadd, 1) := by decide +kernel
theorem dX7_serves_72 : decode cX7_serves 72 = .ok (.iload 6, 2) := by decide +kernel
theorem dX7_serves_74 : decode cX7_serves 74 = .ok (.iadd, 1) := by decide +kernel
theorem dX7_serves_75 : decode cX7_serves 75 = .ok (.aload_n 0, 1) := by decide +kernel
theorem dX7_serves_76 : decode cX7_serves 76 = .ok (.getfield 7, 3) := by decide +kernel
theorem dX7_serves_79 : decode cX7_serves 79 = .ok (.sipush 228, 3) := by decide +kernel
theorem dX7_serves_82 : decode cX7_serves 82 = .ok (.iconst 3, 1) := by decide +kernel
theorem dX7_serves_83 : decode cX7_serves 83 = .ok (.iload 4, 2) := by decide +kernel
theorem dX7_serves_85 : decode cX7_serves 85 = .ok (.imul, 1) := by decide +kernel
theorem dX7_serves_86 : decode cX7_serves 86 = .ok (.iadd, 1) := by decide +kernel
theorem dX7_serves_87 : decode cX7_serves 87 = .ok (.iload 6, 2) := by decide +kernel
theorem dX7_serves_89 : decode cX7_serves 89 = .ok (.iadd, 1) := by decide +kernel
theorem dX7_serves_90 : decode cX7_serves 90 = .ok (.iaload, 1) := by decide +kernel
theorem dX7_serves_91 : decode cX7_serves 91 = .ok (.iastore, 1) := by decide +kernel
theorem dX7_serves_92 : decode cX7_serves 92 = .ok (.iinc 6 1, 3) := by decide +kernel
theorem dX7_serves_95 : decode cX7_serves 95 = .ok (.goto (-40), 3) := by decide +kernel
theorem dX7_serves_98 : decode cX7_serves 98 = .ok (.iload_n 2, 1) := by decide +kernel
theorem dX7_serves_99 : decode cX7_serves 99 = .ok (.iload 5, 2) := by decide +kernel
theorem dX7_serves_101 : decode cX7_serves 101 = .ok (.ifCond .eq 7, 3) := by decide +kernel
theorem dX7_serves_104 : decode cX7_serves 104 = .ok (.iconst 1, 1) := by decide +kernel
theorem dX7_serves_105 : decode cX7_serves 105 = .ok (.goto 4, 3) := by decide +kernel
theorem dX7_serves_108 : decode cX7_serves 108 = .ok (.iconst 0, 1) := by decide +kernel
theorem dX7_serves_109 : decode cX7_serves 109 = .ok (.iadd, 1) := by decide +kernel
theorem dX7_serves_110 : decode cX7_serves 110 = .ok (.istore_n 2, 1) := by decide +kernel
theorem dX7_serves_111 : decode cX7_serves 111 = .ok (.iload_n 3, 1) := by decide +kernel
theorem dX7_serves_112 : decode cX7_serves 112 = .ok (.iload 5, 2) := by decide +kernel
theorem dX7_serves_114 : decode cX7_serves 114 = .ok (.ifCond .eq 7, 3) := by decide +kernel
theorem dX7_serves_117 : decode cX7_serves 117 = .ok (.iconst 0, 1) := by decide +kernel
theorem dX7_serves_118 : decode cX7_serves 118 = .ok (.goto 4, 3) := by decide +kernel
theorem dX7_serves_121 : decode cX7_serves 121 = .ok (.iconst 1, 1) := by decide +kernel
theorem dX7_serves_122 : decode cX7_serves 122 = .ok (.iadd, 1) := by decide +kernel
theorem dX7_serves_123 : decode cX7_serves 123 = .ok (.istore_n 3, 1) := by decide +kernel
theorem dX7_serves_124 : decode cX7_serves 124 = .ok (.iinc 4 1, 3) := by decide +kernel
theorem dX7_serves_127 : decode cX7_serves 127 = .ok (.goto (-120), 3) := by decide +kernel
theorem dX7_serves_130 : decode cX7_serves 130 = .ok (.aload_n 0, 1) := by decide +kernel
theorem dX7_serves_131 : decode cX7_serves 131 = .ok (.getfield 7, 3) := by decide +kernel
theorem dX7_serves_134 : decode cX7_serves 134 = .ok (.bipush 8, 2) := by decide +kernel
theorem dX7_serves_136 : decode cX7_serves 136 = .ok (.iload_n 3, 1) := by decide +kernel
theorem dX7_serves_137 : decode cX7_serves 137 = .ok (.iastore, 1) := by decide +kernel
theorem dX7_serves_138 : decode cX7_serves 138 = .ok (.aload_n 0, 1) := by decide +kernel
theorem dX7_serves_139 : decode cX7_serves 139 = .ok (.getfield 7, 3) := by decide +kernel
theorem dX7_serves_142 : decode cX7_serves 142 = .ok (.bipush 9, 2) := by decide +kernel
theorem dX7_serves_144 : decode cX7_serves 144 = .ok (.dup2, 1) := by decide +kernel
theorem dX7_serves_145 : decode cX7_serves 145 = .ok (.iaload, 1) := by decide +kernel
theorem dX7_serves_146 : decode cX7_serves 146 = .ok (.iload_n 2, 1) := by decide +kernel
theorem dX7_serves_147 : decode cX7_serves 147 = .ok (.iadd, 1) := by decide +kernel
theorem dX7_serves_148 : decode cX7_serves 148 = .ok (.iastore, 1) := by decide +kernel
theorem dX7_serves_149 : decode cX7_serves 149 = .ok (.aload_n 0, 1) := by decide +kernel
theorem dX7_serves_150 : decode cX7_serves 150 = .ok (.getfield 7, 3) := by decide +kernel
theorem dX7_serves_153 : decode cX7_serves 153 = .ok (.bipush 48, 2) := by decide +kernel
theorem dX7_serves_155 : decode cX7_serves 155 = .ok (.iconst 4, 1) := by decide +kernel
theorem dX7_serves_156 : decode cX7_serves 156 = .ok (.iload_n 1, 1) := by decide +kernel
theorem dX7_serves_157 : decode cX7_serves 157 = .ok (.imul, 1) := by decide +kernel
theorem dX7_serves_158 : decode cX7_serves 158 = .ok (.iadd, 1) := by decide +kernel
theorem dX7_serves_159 : decode cX7_serves 159 = .ok (.iconst 3, 1) := by decide +kernel
theorem dX7_serves_160 : decode cX7_serves 160 = .ok (.iadd, 1) := by decide +kernel
theorem dX7_serves_161 : decode cX7_serves 161 = .ok (.dup2, 1) := by decide +kernel
theorem dX7_serves_162 : decode cX7_serves 162 = .ok (.iaload, 1) := by decide +kernel
theorem dX7_serves_163 : decode cX7_serves 163 = .ok (.iload_n 2, 1) := by decide +kernel
theorem dX7_serves_164 : decode cX7_serves 164 = .ok (.iadd, 1) := by decide +kernel
theorem dX7_serves_165 : decode cX7_serves 165 = .ok (.iastore, 1) := by decide +kernel
theorem dX7_serves_166 : decode cX7_serves 166 = .ok (.iload_n 2, 1) := by decide +kernel
theorem dX7_serves_167 : decode cX7_serves 167 = .ok (.ireturn, 1) := by decide +kernel
theorem dX7_mounts_0 : decode cX7_mounts 0 = .ok (.iload_n 1, 1) := by decide +kernel
theorem dX7_mounts_1 : decode cX7_mounts 1 = .ok (.iconst 0, 1) := by decide +kernel
theorem dX7_mounts_2 : decode cX7_mounts 2 = .ok (.iconst 1, 1) := by decide +kernel
theorem dX7_mounts_3 : decode cX7_mounts 3 = .ok (.invokestatic 26, 3) := by decide +kernel
theorem dX7_mounts_6 : decode cX7_mounts 6 = .ok (.ifCond .ne 6, 3) := by decide +kernel
theorem dX7_mounts_9 : decode cX7_mounts 9 = .ok (.ldc 30, 2) := by decide +kernel
theorem dX7_mounts_11 : decode cX7_mounts 11 = .ok (.ireturn, 1) := by decide +kernel
theorem dX7_mounts_12 : decode cX7_mounts 12 = .ok (.aload_n 0, 1) := by decide +kernel
theorem dX7_mounts_13 : decode cX7_mounts 13 = .ok (.getfield 7, 3) := by decide +kernel
theorem dX7_mounts_16 : decode cX7_mounts 16 = .ok (.iconst 1, 1) := by decide +kernel
theorem dX7_mounts_17 : decode cX7_mounts 17 = .ok (.iaload, 1) := by decide +kernel
theorem dX7_mounts_18 : decode cX7_mounts 18 = .ok (.iload_n 1, 1) := by decide +kernel
theorem dX7_mounts_19 : decode cX7_mounts 19 = .ok (.invokestatic 88, 3) := by decide +kernel
theorem dX7_mounts_22 : decode cX7_mounts 22 = .ok (.if_icmp .ne 49, 3) := by decide +kernel
theorem dX7_mounts_25 : decode cX7_mounts 25 = .ok (.aload_n 0, 1) := by decide +kernel
theorem dX7_mounts_26 : decode cX7_mounts 26 = .ok (.getfield 7, 3) := by decide +kernel
theorem dX7_mounts_29 : decode cX7_mounts 29 = .ok (.iconst 2, 1) := by decide +kernel
theorem dX7_mounts_30 : decode cX7_mounts 30 = .ok (.iaload, 1) := by decide +kernel
theorem dX7_mounts_31 : decode cX7_mounts 31 = .ok (.ifCond .eq 40, 3) := by decide +kernel
theorem dX7_mounts_34 : decode cX7_mounts 34 = .ok (.aload_n 0, 1) := by decide +kernel
theorem dX7_mounts_35 : decode cX7_mounts 35 = .ok (.getfield 7, 3) := by decide +kernel
theorem dX7_mounts_38 : decode cX7_mounts 38 = .ok (.bipush 11, 2) := by decide +kernel
theorem dX7_mounts_40 : decode cX7_mounts 40 = .ok (.iload_n 1, 1) := by decide +kernel
theorem dX7_mounts_41 : decode cX7_mounts 41 = .ok (.iadd, 1) := by decide +kernel
theorem dX7_mounts_42 : decode cX7_mounts 42 = .ok (.iaload, 1) := by decide +kernel
theorem dX7_mounts_43 : decode cX7_mounts 43 = .ok (.ifCond .ge 28, 3) := by decide +kernel
theorem dX7_mounts_46 : decode cX7_mounts 46 = .ok (.aload_n 0, 1) := by decide +kernel
theorem dX7_mounts_47 : decode cX7_mounts 47 = .ok (.aload_n 0, 1) := by decide +kernel
theorem dX7_mounts_48 : decode cX7_mounts 48 = .ok (.getfield 7, 3) := by decide +kernel
theorem dX7_mounts_51 : decode cX7_mounts 51 = .ok (.iconst 3, 1) := by decide +kernel
theorem dX7_mounts_52 : decode cX7_mounts 52 = .ok (.aload_n 0, 1) := by decide +kernel
theorem dX7_mounts_53 : decode cX7_mounts 53 = .ok (.getfield 7, 3) := by decide +kernel
theorem dX7_mounts_56 : decode cX7_mounts 56 = .ok (.iconst 2, 1) := by decide +kernel
theorem dX7_mounts_57 : decode cX7_mounts 57 = .ok (.iaload, 1) := by decide +kernel
theorem dX7_mounts_58 : decode cX7_mounts 58 = .ok (.iadd, 1) := by decide +kernel
theorem dX7_mounts_59 : decode cX7_mounts 59 = .ok (.iconst 1, 1) := by decide +kernel
theorem dX7_mounts_60 : decode cX7_mounts 60 = .ok (.isub, 1) := by decide +kernel
theorem dX7_mounts_61 : decode cX7_mounts 61 = .ok (.iaload, 1) := by decide +kernel
theorem dX7_mounts_62 : decode cX7_mounts 62 = .ok (.iconst 1, 1) := by decide +kernel
theorem dX7_mounts_63 : decode cX7_mounts 63 = .ok (.invokevirtual 44, 3) := by decide +kernel
theorem dX7_mounts_66 : decode cX7_mounts 66 = .ok (.bipush 6, 2) := by decide +kernel
theorem dX7_mounts_68 : decode cX7_mounts 68 = .ok (.if_icmp .lt 6, 3) := by decide +kernel
theorem dX7_mounts_71 : decode cX7_mounts 71 = .ok (.ldc 35, 2) := by decide +kernel
theorem dX7_mounts_73 : decode cX7_mounts 73 = .ok (.ireturn, 1) := by decide +kernel
theorem dX7_mounts_74 : decode cX7_mounts 74 = .ok (.aload_n 0, 1) := by decide +kernel
theorem dX7_mounts_75 : decode cX7_mounts 75 = .ok (.invokevirtual 73, 3) := by decide +kernel
theorem dX7_mounts_78 : decode cX7_mounts 78 = .ok (.istore_n 2, 1) := by decide +kernel
theorem dX7_mounts_79 : decode cX7_mounts 79 = .ok (.aload_n 0, 1) := by decide +kernel
theorem dX7_mounts_80 : decode cX7_mounts 80 = .ok (.getfield 7, 3) := by decide +kernel
theorem dX7_mounts_83 : decode cX7_mounts 83 = .ok (.bipush 11, 2) := by decide +kernel
theorem dX7_mounts_85 : decode cX7_mounts 85 = .ok (.iload_n 1, 1) := by decide +kernel
theorem dX7_mounts_86 : decode cX7_mounts 86 = .ok (.iadd, 1) := by decide +kernel
theorem dX7_mounts_87 : decode cX7_mounts 87 = .ok (.iload_n 2, 1) := by decide +kernel
theorem dX7_mounts_88 : decode cX7_mounts 88 = .ok (.iastore, 1) := by decide +kernel
theorem dX7_mounts_89 : decode cX7_mounts 89 = .ok (.aload_n 0, 1) := by decide +kernel
theorem dX7_mounts_90 : decode cX7_mounts 90 = .ok (.getfield 7, 3) := by decide +kernel
theorem dX7_mounts_93 : decode cX7_mounts 93 = .ok (.bipush 13, 2) := by decide +kernel
theorem dX7_mounts_95 : decode cX7_mounts 95 = .ok (.iload_n 1, 1) := by decide +kernel
theorem dX7_mounts_96 : decode cX7_mounts 96 = .ok (.iadd, 1) := by decide +kernel
theorem dX7_mounts_97 : decode cX7_mounts 97 = .ok (.aload_n 0, 1) := by decide +kernel
theorem dX7_mounts_98 : decode cX7_mounts 98 = .ok (.getfield 7, 3) := by decide +kernel
theorem dX7_mounts_101 : decode cX7_mounts 101 = .ok (.bipush 15, 2) := by decide +kernel
theorem dX7_mounts_103 : decode cX7_mounts 103 = .ok (.iaload, 1) := by decide +kernel
theorem dX7_mounts_104 : decode cX7_mounts 104 = .ok (.iastore, 1) := by decide +kernel
theorem dX7_mounts_105 : decode cX7_mounts 105 = .ok (.aload_n 0, 1) := by decide +kernel
theorem dX7_mounts_106 : decode cX7_mounts 106 = .ok (.getfield 7, 3) := by decide +kernel
theorem dX7_mounts_109 : decode cX7_mounts 109 = .ok (.bipush 15, 2) := by decide +kernel
theorem dX7_mounts_111 : decode cX7_mounts 111 = .ok (.dup2, 1) := by decide +kernel
theorem dX7_mounts_112 : decode cX7_mounts 112 = .ok (.iaload, 1) := by decide +kernel
theorem dX7_mounts_113 : decode cX7_mounts 113 = .ok (.iconst 1, 1) := by decide +kernel
theorem dX7_mounts_114 : decode cX7_mounts 114 = .ok (.iadd, 1) := by decide +kernel
theorem dX7_mounts_115 : decode cX7_mounts 115 = .ok (.iastore, 1) := by decide +kernel
theorem dX7_mounts_116 : decode cX7_mounts 116 = .ok (.aload_n 0, 1) := by decide +kernel
theorem dX7_mounts_117 : decode cX7_mounts 117 = .ok (.getfield 7, 3) := by decide +kernel
theorem dX7_mounts_120 : decode cX7_mounts 120 = .ok (.bipush 48, 2) := by decide +kernel
theorem dX7_mounts_122 : decode cX7_mounts 122 = .ok (.iconst 4, 1) := by decide +kernel
theorem dX7_mounts_123 : decode cX7_mounts 123 = .ok (.iload_n 2, 1) := by decide +kernel
theorem dX7_mounts_124 : decode cX7_mounts 124 = .ok (.imul, 1) := by decide +kernel
theorem dX7_mounts_125 : decode cX7_mounts 125 = .ok (.iadd, 1) := by decide +kernel
theorem dX7_mounts_126 : decode cX7_mounts 126 = .ok (.iconst 1, 1) := by decide +kernel
theorem dX7_mounts_127 : decode cX7_mounts 127 = .ok (.iadd, 1) := by decide +kernel
theorem dX7_mounts_128 : decode cX7_mounts 128 = .ok (.dup2, 1) := by decide +kernel
theorem dX7_mounts_129 : decode cX7_mounts 129 = .ok (.iaload, 1) := by decide +kernel
theorem dX7_mounts_130 : decode cX7_mounts 130 = .ok (.iconst 1, 1) := by decide +kernel
theorem dX7_mounts_131 : decode cX7_mounts 131 = .ok (.iadd, 1) := by decide +kernel
theorem dX7_mounts_132 : decode cX7_mounts 132 = .ok (.iastore, 1) := by decide +kernel
theorem dX7_mounts_133 : decode cX7_mounts 133 = .ok (.aload_n 0, 1) := by decide +kernel
theorem dX7_mounts_134 : decode cX7_mounts 134 = .ok (.iload_n 2, 1) := by decide +kernel
theorem dX7_mounts_135 : decode cX7_mounts 135 = .ok (.iconst 2, 1) := by decide +kernel
theorem dX7_mounts_136 : decode cX7_mounts 136 = .ok (.invokevirtual 55, 3) := by decide +kernel
theorem dX7_mounts_139 : decode cX7_mounts 139 = .ok (.aload_n 0, 1) := by decide +kernel
theorem dX7_mounts_140 : decode cX7_mounts 140 = .ok (.getfield 7, 3) := by decide +kernel
theorem dX7_mounts_143 : decode cX7_mounts 143 = .ok (.iconst 0, 1) := by decide +kernel
theorem dX7_mounts_144 : decode cX7_mounts 144 = .ok (.dup2, 1) := by decide +kernel
theorem dX7_mounts_145 : decode cX7_mounts 145 = .ok (.iaload, 1) := by decide +kernel
theorem dX7_mounts_146 : decode cX7_mounts 146 = .ok (.iconst 3, 1) := by decide +kernel
theorem dX7_mounts_147 : decode cX7_mounts 147 = .ok (.iadd, 1) := by decide +kernel
theorem dX7_mounts_148 : decode cX7_mounts 148 = .ok (.iastore, 1) := by decide +kernel
theorem dX7_mounts_149 : decode cX7_mounts 149 = .ok (.aload_n 0, 1) := by decide +kernel
theorem dX7_mounts_150 : decode cX7_mounts 150 = .ok (.iload_n 2, 1) := by decide +kernel
theorem dX7_mounts_151 : decode cX7_mounts 151 = .ok (.invokevirtual 91, 3) := by decide +kernel
theorem dX7_mounts_154 : decode cX7_mounts 154 = .ok (.ireturn, 1) := by decide +kernel
theorem dX7_mount_0 : decode cX7_mount 0 = .ok (.aload_n 0, 1) := by decide +kernel
theorem dX7_mount_1 : decode cX7_mount 1 = .ok (.invokevirtual 37, 3) := by decide +kernel
theorem dX7_mount_4 : decode cX7_mount 4 = .ok (.aload_n 0, 1) := by decide +kernel
theorem dX7_mount_5 : decode cX7_mount 5 = .ok (.aload_n 0, 1) := by decide +kernel
theorem dX7_mount_6 : decode cX7_mount 6 = .ok (.iload_n 1, 1) := by decide +kernel
theorem dX7_mount_7 : decode cX7_mount 7 = .ok (.invokevirtual 94, 3) := by decide +kernel
theorem dX7_mount_10 : decode cX7_mount 10 = .ok (.invokevirtual 40, 3) := by decide +kernel
theorem dX7_mount_13 : decode cX7_mount 13 = .ok (.ireturn, 1) := by decide +kernel
theorem dX7_takes_0 : decode cX7_takes 0 = .ok (.iload_n 1, 1) := by decide +kernel
theorem dX7_takes_1 : decode cX7_takes 1 = .ok (.iconst 0, 1) := by decide +kernel
theorem dX7_takes_2 : decode cX7_takes 2 = .ok (.iconst 1, 1) := by decide +kernel
theorem dX7_takes_3 : decode cX7_takes 3 = .ok (.invokestatic 26, 3) := by decide +kernel
theorem dX7_takes_6 : decode cX7_takes 6 = .ok (.ifCond .ne 6, 3) := by decide +kernel
theorem dX7_takes_9 : decode cX7_takes 9 = .ok (.ldc 30, 2) := by decide +kernel
theorem dX7_takes_11 : decode cX7_takes 11 = .ok (.ireturn, 1) := by decide +kernel
theorem dX7_takes_12 : decode cX7_takes 12 = .ok (.aload_n 0, 1) := by decide +kernel
theorem dX7_takes_13 : decode cX7_takes 13 = .ok (.getfield 7, 3) := by decide +kernel
theorem dX7_takes_16 : decode cX7_takes 16 = .ok (.bipush 11, 2) := by decide +kernel
theorem dX7_takes_18 : decode cX7_takes 18 = .ok (.iload_n 1, 1) := by decide +kernel
theorem dX7_takes_19 : decode cX7_takes 19 = .ok (.iadd, 1) := by decide +kernel
theorem dX7_takes_20 : decode cX7_takes 20 = .ok (.iaload, 1) := by decide +kernel
theorem dX7_takes_21 : decode cX7_takes 21 = .ok (.istore_n 2, 1) := by decide +kernel
theorem dX7_takes_22 : decode cX7_takes 22 = .ok (.aload_n 0, 1) := by decide +kernel
theorem dX7_takes_23 : decode cX7_takes 23 = .ok (.getfield 7, 3) := by decide +kernel
theorem dX7_takes_26 : decode cX7_takes 26 = .ok (.iconst 1, 1) := by decide +kernel
theorem dX7_takes_27 : decode cX7_takes 27 = .ok (.iaload, 1) := by decide +kernel
theorem dX7_takes_28 : decode cX7_takes 28 = .ok (.iload_n 1, 1) := by decide +kernel
theorem dX7_takes_29 : decode cX7_takes 29 = .ok (.invokestatic 88, 3) := by decide +kernel
theorem dX7_takes_32 : decode cX7_takes 32 = .ok (.if_icmp .ne 7, 3) := by decide +kernel
theorem dX7_takes_35 : decode cX7_takes 35 = .ok (.iload_n 2, 1) := by decide +kernel
theorem dX7_takes_36 : decode cX7_takes 36 = .ok (.ifCond .ge 6, 3) := by decide +kernel
theorem dX7_takes_39 : decode cX7_takes 39 = .ok (.ldc 35, 2) := by decide +kernel
theorem dX7_takes_41 : decode cX7_takes 41 = .ok (.ireturn, 1) := by decide +kernel
theorem dX7_takes_42 : decode cX7_takes 42 = .ok (.aload_n 0, 1) := by decide +kernel
theorem dX7_takes_43 : decode cX7_takes 43 = .ok (.getfield 7, 3) := by decide +kernel
theorem dX7_takes_46 : decode cX7_takes 46 = .ok (.iconst 2, 1) := by decide +kernel
theorem dX7_takes_47 : decode cX7_takes 47 = .ok (.iaload, 1) := by decide +kernel
theorem dX7_takes_48 : decode cX7_takes 48 = .ok (.iconst 3, 1) := by decide +kernel
theorem dX7_takes_49 : decode cX7_takes 49 = .ok (.if_icmp .ne 6, 3) := by decide +kernel
theorem dX7_takes_52 : decode cX7_takes 52 = .ok (.ldc 36, 2) := by decide +kernel
theorem dX7_takes_54 : decode cX7_takes 54 = .ok (.ireturn, 1) := by decide +kernel
theorem dX7_takes_55 : decode cX7_takes 55 = .ok (.aload_n 0, 1) := by decide +kernel
theorem dX7_takes_56 : decode cX7_takes 56 = .ok (.getfield 7, 3) := by decide +kernel
theorem dX7_takes_59 : decode cX7_takes 59 = .ok (.bipush 11, 2) := by decide +kernel
theorem dX7_takes_61 : decode cX7_takes 61 = .ok (.iload_n 1, 1) := by decide +kernel
theorem dX7_takes_62 : decode cX7_takes 62 = .ok (.iadd, 1) := by decide +kernel
theorem dX7_takes_63 : decode cX7_takes 63 = .ok (.iconst (-1), 1) := by decide +kernel
theorem dX7_takes_64 : decode cX7_takes 64 = .ok (.iastore, 1) := by decide +kernel
theorem dX7_takes_65 : decode cX7_takes 65 = .ok (.aload_n 0, 1) := by decide +kernel
theorem dX7_takes_66 : decode cX7_takes 66 = .ok (.iload_n 2, 1) := by decide +kernel
theorem dX7_takes_67 : decode cX7_takes 67 = .ok (.invokevirtual 66, 3) := by decide +kernel
theorem dX7_takes_70 : decode cX7_takes 70 = .ok (.aload_n 0, 1) := by decide +kernel
theorem dX7_takes_71 : decode cX7_takes 71 = .ok (.getfield 7, 3) := by decide +kernel
theorem dX7_takes_74 : decode cX7_takes 74 = .ok (.iconst 0, 1) := by decide +kernel
theorem dX7_takes_75 : decode cX7_takes 75 = .ok (.dup2, 1) := by decide +kernel
theorem dX7_takes_76 : decode cX7_takes 76 = .ok (.iaload, 1) := by decide +kernel
theorem dX7_takes_77 : decode cX7_takes 77 = .ok (.iconst 2, 1) := by decide +kernel
theorem dX7_takes_78 : decode cX7_takes 78 = .ok (.iadd, 1) := by decide +kernel
theorem dX7_takes_79 : decode cX7_takes 79 = .ok (.iastore, 1) := by decide +kernel
theorem dX7_takes_80 : decode cX7_takes 80 = .ok (.iload_n 2, 1) := by decide +kernel
theorem dX7_takes_81 : decode cX7_takes 81 = .ok (.ireturn, 1) := by decide +kernel
theorem dX7_take_0 : decode cX7_take 0 = .ok (.aload_n 0, 1) := by decide +kernel
theorem dX7_take_1 : decode cX7_take 1 = .ok (.invokevirtual 37, 3) := by decide +kernel
theorem dX7_take_4 : decode cX7_take 4 = .ok (.aload_n 0, 1) := by decide +kernel
theorem dX7_take_5 : decode cX7_take 5 = .ok (.aload_n 0, 1) := by decide +kernel
theorem dX7_take_6 : decode cX7_take 6 = .ok (.iload_n 1, 1) := by decide +kernel
theorem dX7_take_7 : decode cX7_take 7 = .ok (.invokevirtual 97, 3) := by decide +kernel
theorem dX7_take_10 : decode cX7_take 10 = .ok (.invokevirtual 40, 3) := by decide +kernel
theorem dX7_take_13 : decode cX7_take 13 = .ok (.ireturn, 1) := by decide +kernel
theorem dX7_files_0 : decode cX7_files 0 = .ok (.iconst 0, 1) := by decide +kernel
theorem dX7_files_1 : decode cX7_files 1 = .ok (.istore_n 2, 1) := by decide +kernel
theorem dX7_files_2 : decode cX7_files 2 = .ok (.iconst 0, 1) := by decide +kernel
theorem dX7_files_3 : decode cX7_files 3 = .ok (.istore_n 3, 1) := by decide +kernel
theorem dX7_files_4 : decode cX7_files 4 = .ok (.iload_n 3, 1) := by decide +kernel
theorem dX7_files_5 : decode cX7_files 5 = .ok (.bipush 60, 2) := by decide +kernel
theorem dX7_files_7 : decode cX7_files 7 = .ok (.if_icmp .ge 31, 3) := by decide +kernel
theorem dX7_files_10 : decode cX7_files 10 = .ok (.iload_n 2, 1) := by decide +kernel
theorem dX7_files_11 : decode cX7_files 11 = .ok (.aload_n 0, 1) := by decide +kernel
theorem dX7_files_12 : decode cX7_files 12 = .ok (.getfield 7, 3) := by decide +kernel
theorem dX7_files_15 : decode cX7_files 15 = .ok (.sipush 168, 3) := by decide +kernel
theorem dX7_files_18 : decode cX7_files 18 = .ok (.iload_n 3, 1) := by decide +kernel
theorem dX7_files_19 : decode cX7_files 19 = .ok (.iadd, 1) := by decide +kernel
theorem dX7_files_20 : decode cX7_files 20 = .ok (.iaload, 1) := by decide +kernel
theorem dX7_files_21 : decode cX7_files 21 = .ok (.iload_n 1, 1) := by decide +kernel
theorem dX7_files_22 : decode cX7_files 22 = .ok (.if_icmp .ne 7, 3) := by decide +kernel
theorem dX7_files_25 : decode cX7_files 25 = .ok (.iconst 1, 1) := by decide +kernel
theorem dX7_files_26 : decode cX7_files 26 = .ok (.goto 4, 3) := by decide +kernel
theorem dX7_files_29 : decode cX7_files 29 = .ok (.iconst 0, 1) := by decide +kernel
theorem dX7_files_30 : decode cX7_files 30 = .ok (.iadd, 1) := by decide +kernel
theorem dX7_files_31 : decode cX7_files 31 = .ok (.istore_n 2, 1) := by decide +kernel
theorem dX7_files_32 : decode cX7_files 32 = .ok (.iinc 3 1, 3) := by decide +kernel
theorem dX7_files_35 : decode cX7_files 35 = .ok (.goto (-31), 3) := by decide +kernel
theorem dX7_files_38 : decode cX7_files 38 = .ok (.iload_n 2, 1) := by decide +kernel
theorem dX7_files_39 : decode cX7_files 39 = .ok (.ireturn, 1) := by decide +kernel
theorem dX7_hold_0 : decode cX7_hold 0 = .ok (.aload_n 0, 1) := by decide +kernel
theorem dX7_hold_1 : decode cX7_hold 1 = .ok (.iload_n 1, 1) := by decide +kernel
theorem dX7_hold_2 : decode cX7_hold 2 = .ok (.invokevirtual 48, 3) := by decide +kernel
theorem dX7_hold_5 : decode cX7_hold 5 = .ok (.ifCond .eq 13, 3) := by decide +kernel
theorem dX7_hold_8 : decode cX7_hold 8 = .ok (.iload_n 2, 1) := by decide +kernel
theorem dX7_hold_9 : decode cX7_hold 9 = .ok (.iconst 0, 1) := by decide +kernel
theorem dX7_hold_10 : decode cX7_hold 10 = .ok (.bipush 59, 2) := by decide +kernel
theorem dX7_hold_12 : decode cX7_hold 12 = .ok (.invokestatic 26, 3) := by decide +kernel
theorem dX7_hold_15 : decode cX7_hold 15 = .ok (.ifCond .ne 6, 3) := by decide +kernel
theorem dX7_hold_18 : decode cX7_hold 18 = .ok (.ldc 30, 2) := by decide +kernel
theorem dX7_hold_20 : decode cX7_hold 20 = .ok (.ireturn, 1) := by decide +kernel
theorem dX7_hold_21 : decode cX7_hold 21 = .ok (.aload_n 0, 1) := by decide +kernel
theorem dX7_hold_22 : decode cX7_hold 22 = .ok (.iload_n 1, 1) := by decide +kernel
theorem dX7_hold_23 : decode cX7_hold 23 = .ok (.iconst 2, 1) := by decide +kernel
theorem dX7_hold_24 : decode cX7_hold 24 = .ok (.invokevirtual 44, 3) := by decide +kernel
theorem dX7_hold_27 : decode cX7_hold 27 = .ok (.iconst 3, 1) := by decide +kernel
theorem dX7_hold_28 : decode cX7_hold 28 = .ok (.if_icmp .ne 6, 3) := by decide +kernel
theorem dX7_hold_31 : decode cX7_hold 31 = .ok (.ldc 35, 2) := by decide +kernel
theorem dX7_hold_33 : decode cX7_hold 33 = .ok (.ireturn, 1) := by decide +kernel
theorem dX7_hold_34 : decode cX7_hold 34 = .ok (.aload_n 0, 1) := by decide +kernel
theorem dX7_hold_35 : decode cX7_hold 35 = .ok (.getfield 7, 3) := by decide +kernel
theorem dX7_hold_38 : decode cX7_hold 38 = .ok (.sipush 168, 3) := by decide +kernel
theorem dX7_hold_41 : decode cX7_hold 41 = .ok (.iload_n 2, 1) := by decide +kernel
theorem dX7_hold_42 : decode cX7_hold 42 = .ok (.iadd, 1) := by decide +kernel
theorem dX7_hold_43 : decode cX7_hold 43 = .ok (.iaload, 1) := by decide +kernel
theorem dX7_hold_44 : decode cX7_hold 44 = .ok (.istore_n 3, 1) := by decide +kernel
theorem dX7_hold_45 : decode cX7_hold 45 = .ok (.iload_n 3, 1) := by decide +kernel
theorem dX7_hold_46 : decode cX7_hold 46 = .ok (.iload_n 1, 1) := by decide +kernel
theorem dX7_hold_47 : decode cX7_hold 47 = .ok (.if_icmp .eq 15, 3) := by decide +kernel
theorem dX7_hold_50 : decode cX7_hold 50 = .ok (.aload_n 0, 1) := by decide +kernel
theorem dX7_hold_51 : decode cX7_hold 51 = .ok (.iload_n 1, 1) := by decide +kernel
theorem dX7_hold_52 : decode cX7_hold 52 = .ok (.invokevirtual 100, 3) := by decide +kernel
theorem dX7_hold_55 : decode cX7_hold 55 = .ok (.iconst 4, 1) := by decide +kernel
theorem dX7_hold_56 : decode cX7_hold 56 = .ok (.if_icmp .ne 6, 3) := by decide +kernel
theorem dX7_hold_59 : decode cX7_hold 59 = .ok (.ldc 36, 2) := by decide +kernel
theorem dX7_hold_61 : decode cX7_hold 61 = .ok (.ireturn, 1) := by decide +kernel
theorem dX7_hold_62 : decode cX7_hold 62 = .ok (.aload_n 0, 1) := by decide +kernel
theorem dX7_hold_63 : decode cX7_hold 63 = .ok (.invokevirtual 37, 3) := by decide +kernel
theorem dX7_hold_66 : decode cX7_hold 66 = .ok (.aload_n 0, 1) := by decide +kernel
theorem dX7_hold_67 : decode cX7_hold 67 = .ok (.getfield 7, 3) := by decide +kernel
theorem dX7_hold_70 : decode cX7_hold 70 = .ok (.sipush 168, 3) := by decide +kernel
theorem dX7_hold_73 : decode cX7_hold 73 = .ok (.iload_n 2, 1) := by decide +kernel
theorem dX7_hold_74 : decode cX7_hold 74 = .ok (.iadd, 1) := by decide +kernel
theorem dX7_hold_75 : decode cX7_hold 75 = .ok (.iload_n 1, 1) := by decide +kernel
theorem dX7_hold_76 : decode cX7_hold 76 = .ok (.iastore, 1) := by decide +kernel
theorem dX7_hold_77 : decode cX7_hold 77 = .ok (.aload_n 0, 1) := by decide +kernel
theorem dX7_hold_78 : decode cX7_hold 78 = .ok (.iload_n 3, 1) := by decide +kernel
theorem dX7_hold_79 : decode cX7_hold 79 = .ok (.invokevirtual 40, 3) := by decide +kernel
theorem dX7_hold_82 : decode cX7_hold 82 = .ok (.ireturn, 1) := by decide +kernel
theorem dX7_request_0 : decode cX7_request 0 = .ok (.iload_n 1, 1) := by decide +kernel
theorem dX7_request_1 : decode cX7_request 1 = .ok (.iconst 0, 1) := by decide +kernel
theorem dX7_request_2 : decode cX7_request 2 = .ok (.bipush 59, 2) := by decide +kernel
theorem dX7_request_4 : decode cX7_request 4 = .ok (.invokestatic 26, 3) := by decide +kernel
theorem dX7_request_7 : decode cX7_request 7 = .ok (.ifCond .eq 13, 3) := by decide +kernel
theorem dX7_request_10 : decode cX7_request 10 = .ok (.iload_n 2, 1) := by decide +kernel
theorem dX7_request_11 : decode cX7_request 11 = .ok (.iconst 0, 1) := by decide +kernel
theorem dX7_request_12 : decode cX7_request 12 = .ok (.bipush 9, 2) := by decide +kernel
theorem dX7_request_14 : decode cX7_request 14 = .ok (.invokestatic 26, 3) := by decide +kernel
theorem dX7_request_17 : decode cX7_request 17 = .ok (.ifCond .ne 6, 3) := by decide +kernel
theorem dX7_request_20 : decode cX7_request 20 = .ok (.ldc 30, 2) := by decide +kernel
theorem dX7_request_22 : decode cX7_request 22 = .ok (.ireturn, 1) := by decide +kernel
theorem dX7_request_23 : decode cX7_request 23 = .ok (.aload_n 0, 1) := by decide +kernel
theorem dX7_request_24 : decode cX7_request 24 = .ok (.getfield 7, 3) := by decide +kernel
theorem dX7_request_27 : decode cX7_request 27 = .ok (.bipush 8, 2) := by decide +kernel
theorem dX7_request_29 : decode cX7_request 29 = .ok (.iaload, 1) := by decide +kernel
theorem dX7_request_30 : decode cX7_request 30 = .ok (.bipush 12, 2) := by decide +kernel
theorem dX7_request_32 : decode cX7_request 32 = .ok (.if_icmp .ne 6, 3) := by decide +kernel
theorem dX7_request_35 : decode cX7_request 35 = .ok (.ldc 36, 2) := by decide +kernel
theorem dX7_request_37 : decode cX7_request 37 = .ok (.ireturn, 1) := by decide +kernel
theorem dX7_request_38 : decode cX7_request 38 = .ok (.aload_n 0, 1) := by decide +kernel
theorem dX7_request_39 : decode cX7_request 39 = .ok (.invokevirtual 37, 3) := by decide +kernel
theorem dX7_request_42 : decode cX7_request 42 = .ok (.sipush 228, 3) := by decide +kernel
theorem dX7_request_45 : decode cX7_request 45 = .ok (.iconst 3, 1) := by decide +kernel
theorem dX7_request_46 : decode cX7_request 46 = .ok (.aload_n 0, 1) := by decide +kernel
theorem dX7_request_47 : decode cX7_request 47 = .ok (.getfield 7, 3) := by decide +kernel
theorem dX7_request_50 : decode cX7_request 50 = .ok (.bipush 8, 2) := by decide +kernel
theorem dX7_request_52 : decode cX7_request 52 = .ok (.iaload, 1) := by decide +kernel
theorem dX7_request_53 : decode cX7_request 53 = .ok (.imul, 1) := by decide +kernel
theorem dX7_request_54 : decode cX7_request 54 = .ok (.iadd, 1) := by decide +kernel
theorem dX7_request_55 : decode cX7_request 55 = .ok (.istore_n 3, 1) := by decide +kernel
theorem dX7_request_56 : decode cX7_request 56 = .ok (.aload_n 0, 1) := by decide +kernel
theorem dX7_request_57 : decode cX7_request 57 = .ok (.getfield 7, 3) := by decide +kernel
theorem dX7_request_60 : decode cX7_request 60 = .ok (.iload_n 3, 1) := by decide +kernel
theorem dX7_request_61 : decode cX7_request 61 = .ok (.iload_n 1, 1) := by decide +kernel
theorem dX7_request_62 : decode cX7_request 62 = .ok (.iastore, 1) := by decide +kernel
theorem dX7_request_63 : decode cX7_request 63 = .ok (.aload_n 0, 1) := by decide +kernel
theorem dX7_request_64 : decode cX7_request 64 = .ok (.getfield 7, 3) := by decide +kernel
theorem dX7_request_67 : decode cX7_request 67 = .ok (.iload_n 3, 1) := by decide +kernel
theorem dX7_request_68 : decode cX7_request 68 = .ok (.iconst 1, 1) := by decide +kernel
theorem dX7_request_69 : decode cX7_request 69 = .ok (.iadd, 1) := by decide +kernel
theorem dX7_request_70 : decode cX7_request 70 = .ok (.iload_n 2, 1) := by decide +kernel
theorem dX7_request_71 : decode cX7_request 71 = .ok (.iastore, 1) := by decide +kernel
theorem dX7_request_72 : decode cX7_request 72 = .ok (.aload_n 0, 1) := by decide +kernel
theorem dX7_request_73 : decode cX7_request 73 = .ok (.getfield 7, 3) := by decide +kernel
theorem dX7_request_76 : decode cX7_request 76 = .ok (.iload_n 3, 1) := by decide +kernel
theorem dX7_request_77 : decode cX7_request 77 = .ok (.iconst 2, 1) := by decide +kernel
theorem dX7_request_78 : decode cX7_request 78 = .ok (.iadd, 1) := by decide +kernel
theorem dX7_request_79 : decode cX7_request 79 = .ok (.aload_n 0, 1) := by decide +kernel
theorem dX7_request_80 : decode cX7_request 80 = .ok (.getfield 7, 3) := by decide +kernel
theorem dX7_request_83 : decode cX7_request 83 = .ok (.iconst 0, 1) := by decide +kernel
theorem dX7_request_84 : decode cX7_request 84 = .ok (.iaload, 1) := by decide +kernel
theorem dX7_request_85 : decode cX7_request 85 = .ok (.iastore, 1) := by decide +kernel
theorem dX7_request_86 : decode cX7_request 86 = .ok (.aload_n 0, 1) := by decide +kernel
theorem dX7_request_87 : decode cX7_request 87 = .ok (.getfield 7, 3) := by decide +kernel
theorem dX7_request_90 : decode cX7_request 90 = .ok (.bipush 8, 2) := by decide +kernel
theorem dX7_request_92 : decode cX7_request 92 = .ok (.dup2, 1) := by decide +kernel
theorem dX7_request_93 : decode cX7_request 93 = .ok (.iaload, 1) := by decide +kernel
theorem dX7_request_94 : decode cX7_request 94 = .ok (.iconst 1, 1) := by decide +kernel
theorem dX7_request_95 : decode cX7_request 95 = .ok (.iadd, 1) := by decide +kernel
theorem dX7_request_96 : decode cX7_request 96 = .ok (.iastore, 1) := by decide +kernel
theorem dX7_request_97 : decode cX7_request 97 = .ok (.aload_n 0, 1) := by decide +kernel
theorem dX7_request_98 : decode cX7_request 98 = .ok (.aload_n 0, 1) := by decide +kernel
theorem dX7_request_99 : decode cX7_request 99 = .ok (.getfield 7, 3) := by decide +kernel
theorem dX7_request_102 : decode cX7_request 102 = .ok (.bipush 8, 2) := by decide +kernel
theorem dX7_request_104 : decode cX7_request 104 = .ok (.iaload, 1) := by decide +kernel
theorem dX7_request_105 : decode cX7_request 105 = .ok (.invokevirtual 40, 3) := by decide +kernel
theorem dX7_request_108 : decode cX7_request 108 = .ok (.ireturn, 1) := by decide +kernel
theorem dX7_wanted_0 : decode cX7_wanted 0 = .ok (.iconst 0, 1) := by decide +kernel
theorem dX7_wanted_1 : decode cX7_wanted 1 = .ok (.istore_n 2, 1) := by decide +kernel
theorem dX7_wanted_2 : decode cX7_wanted 2 = .ok (.iconst 0, 1) := by decide +kernel
theorem dX7_wanted_3 : decode cX7_wanted 3 = .ok (.istore_n 3, 1) := by decide +kernel
theorem dX7_wanted_4 : decode cX7_wanted 4 = .ok (.iload_n 3, 1) := by decide +kernel
theorem dX7_wanted_5 : decode cX7_wanted 5 = .ok (.aload_n 0, 1) := by decide +kernel
theorem dX7_wanted_6 : decode cX7_wanted 6 = .ok (.getfield 7, 3) := by decide +kernel
theorem dX7_wanted_9 : decode cX7_wanted 9 = .ok (.bipush 8, 2) := by decide +kernel
theorem dX7_wanted_11 : decode cX7_wanted 11 = .ok (.iaload, 1) := by decide +kernel
theorem dX7_wanted_12 : decode cX7_wanted 12 = .ok (.if_icmp .ge 42, 3) := by decide +kernel
theorem dX7_wanted_15 : decode cX7_wanted 15 = .ok (.iload_n 2, 1) := by decide +kernel
theorem dX7_wanted_16 : decode cX7_wanted 16 = .ok (.aload_n 0, 1) := by decide +kernel
theorem dX7_wanted_17 : decode cX7_wanted 17 = .ok (.getfield 7, 3) := by decide +kernel
theorem dX7_wanted_20 : decode cX7_wanted 20 = .ok (.sipush 168, 3) := by decide +kernel
theorem dX7_wanted_23 : decode cX7_wanted 23 = .ok (.aload_n 0, 1) := by decide +kernel
theorem dX7_wanted_24 : decode cX7_wanted 24 = .ok (.getfield 7, 3) := by decide +kernel
theorem dX7_wanted_27 : decode cX7_wanted 27 = .ok (.sipush 228, 3) := by decide +kernel
theorem dX7_wanted_30 : decode cX7_wanted 30 = .ok (.iconst 3, 1) := by decide +kernel
theorem dX7_wanted_31 : decode cX7_wanted 31 = .ok (.iload_n 3, 1) := by decide +kernel
theorem dX7_wanted_32 : decode cX7_wanted 32 = .ok (.imul, 1) := by decide +kernel
theorem dX7_wanted_33 : decode cX7_wanted 33 = .ok (.iadd, 1) := by decide +kernel
theorem dX7_wanted_34 : decode cX7_wanted 34 = .ok (.iaload, 1) := by decide +kernel
theorem dX7_wanted_35 : decode cX7_wanted 35 = .ok (.iadd, 1) := by decide +kernel
theorem dX7_wanted_36 : decode cX7_wanted 36 = .ok (.iaload, 1) := by decide +kernel
theorem dX7_wanted_37 : decode cX7_wanted 37 = .ok (.iload_n 1, 1) := by decide +kernel
theorem dX7_wanted_38 : decode cX7_wanted 38 = .ok (.if_icmp .ne 7, 3) := by decide +kernel
theorem dX7_wanted_41 : decode cX7_wanted 41 = .ok (.iconst 1, 1) := by decide +kernel
theorem dX7_wanted_42 : decode cX7_wanted 42 = .ok (.goto 4, 3) := by decide +kernel
theorem dX7_wanted_45 : decode cX7_wanted 45 = .ok (.iconst 0, 1) := by decide +kernel
theorem dX7_wanted_46 : decode cX7_wanted 46 = .ok (.iadd, 1) := by decide +kernel
theorem dX7_wanted_47 : decode cX7_wanted 47 = .ok (.istore_n 2, 1) := by decide +kernel
theorem dX7_wanted_48 : decode cX7_wanted 48 = .ok (.iinc 3 1, 3) := by decide +kernel
theorem dX7_wanted_51 : decode cX7_wanted 51 = .ok (.goto (-47), 3) := by decide +kernel
theorem dX7_wanted_54 : decode cX7_wanted 54 = .ok (.iload_n 2, 1) := by decide +kernel
theorem dX7_wanted_55 : decode cX7_wanted 55 = .ok (.ireturn, 1) := by decide +kernel
theorem dX7_apart_0 : decode cX7_apart 0 = .ok (.iload_n 1, 1) := by decide +kernel
theorem dX7_apart_1 : decode cX7_apart 1 = .ok (.iload_n 0, 1) := by decide +kernel
theorem dX7_apart_2 : decode cX7_apart 2 = .ok (.isub, 1) := by decide +kernel
theorem dX7_apart_3 : decode cX7_apart 3 = .ok (.bipush 8, 2) := by decide +kernel
theorem dX7_apart_5 : decode cX7_apart 5 = .ok (.iadd, 1) := by decide +kernel
theorem dX7_apart_6 : decode cX7_apart 6 = .ok (.bipush 8, 2) := by decide +kernel
theorem dX7_apart_8 : decode cX7_apart 8 = .ok (.irem, 1) := by decide +kernel
theorem dX7_apart_9 : decode cX7_apart 9 = .ok (.istore_n 2, 1) := by decide +kernel
theorem dX7_apart_10 : decode cX7_apart 10 = .ok (.iload_n 2, 1) := by decide +kernel
theorem dX7_apart_11 : decode cX7_apart 11 = .ok (.iconst 4, 1) := by decide +kernel
theorem dX7_apart_12 : decode cX7_apart 12 = .ok (.if_icmp .gt 7, 3) := by decide +kernel
theorem dX7_apart_15 : decode cX7_apart 15 = .ok (.iload_n 2, 1) := by decide +kernel
theorem dX7_apart_16 : decode cX7_apart 16 = .ok (.goto 7, 3) := by decide +kernel
theorem dX7_apart_19 : decode cX7_apart 19 = .ok (.bipush 8, 2) := by decide +kernel
theorem dX7_apart_21 : decode cX7_apart 21 = .ok (.iload_n 2, 1) := by decide +kernel
theorem dX7_apart_22 : decode cX7_apart 22 = .ok (.isub, 1) := by decide +kernel
theorem dX7_apart_23 : decode cX7_apart 23 = .ok (.ireturn, 1) := by decide +kernel
theorem dX7_worth_0 : decode cX7_worth 0 = .ok (.aload_n 0, 1) := by decide +kernel
theorem dX7_worth_1 : decode cX7_worth 1 = .ok (.getfield 7, 3) := by decide +kernel
theorem dX7_worth_4 : decode cX7_worth 4 = .ok (.sipush 168, 3) := by decide +kernel
theorem dX7_worth_7 : decode cX7_worth 7 = .ok (.aload_n 0, 1) := by decide +kernel
theorem dX7_worth_8 : decode cX7_worth 8 = .ok (.getfield 7, 3) := by decide +kernel
theorem dX7_worth_11 : decode cX7_worth 11 = .ok (.sipush 228, 3) := by decide +kernel
theorem dX7_worth_14 : decode cX7_worth 14 = .ok (.iconst 3, 1) := by decide +kernel
theorem dX7_worth_15 : decode cX7_worth 15 = .ok (.iload_n 1, 1) := by decide +kernel
theorem dX7_worth_16 : decode cX7_worth 16 = .ok (.imul, 1) := by decide +kernel
theorem dX7_worth_17 : decode cX7_worth 17 = .ok (.iadd, 1) := by decide +kernel
theorem dX7_worth_18 : decode cX7_worth 18 = .ok (.iaload, 1) := by decide +kernel
theorem dX7_worth_19 : decode cX7_worth 19 = .ok (.iadd, 1) := by decide +kernel
theorem dX7_worth_20 : decode cX7_worth 20 = .ok (.iaload, 1) := by decide +kernel
theorem dX7_worth_21 : decode cX7_worth 21 = .ok (.istore_n 3, 1) := by decide +kernel
theorem dX7_worth_22 : decode cX7_worth 22 = .ok (.iload_n 2, 1) := by decide +kernel
theorem dX7_worth_23 : decode cX7_worth 23 = .ok (.tableswitch 60 0 2 #[25, 27, 42], 25) := by decide +kernel
theorem dX7_worth_48 : decode cX7_worth 48 = .ok (.iconst 0, 1) := by decide +kernel
theorem dX7_worth_49 : decode cX7_worth 49 = .ok (.ireturn, 1) := by decide +kernel
theorem dX7_worth_50 : decode cX7_worth 50 = .ok (.aload_n 0, 1) := by decide +kernel
theorem dX7_worth_51 : decode cX7_worth 51 = .ok (.getfield 7, 3) := by decide +kernel
theorem dX7_worth_54 : decode cX7_worth 54 = .ok (.sipush 228, 3) := by decide +kernel
theorem dX7_worth_57 : decode cX7_worth 57 = .ok (.iconst 3, 1) := by decide +kernel
theorem dX7_worth_58 : decode cX7_worth 58 = .ok (.iload_n 1, 1) := by decide +kernel
theorem dX7_worth_59 : decode cX7_worth 59 = .ok (.imul, 1) := by decide +kernel
theorem dX7_worth_60 : decode cX7_worth 60 = .ok (.iadd, 1) := by decide +kernel
theorem dX7_worth_61 : decode cX7_worth 61 = .ok (.iconst 1, 1) := by decide +kernel
theorem dX7_worth_62 : decode cX7_worth 62 = .ok (.iadd, 1) := by decide +kernel
theorem dX7_worth_63 : decode cX7_worth 63 = .ok (.iaload, 1) := by decide +kernel
theorem dX7_worth_64 : decode cX7_worth 64 = .ok (.ireturn, 1) := by decide +kernel
theorem dX7_worth_65 : decode cX7_worth 65 = .ok (.aload_n 0, 1) := by decide +kernel
theorem dX7_worth_66 : decode cX7_worth 66 = .ok (.getfield 7, 3) := by decide +kernel
theorem dX7_worth_69 : decode cX7_worth 69 = .ok (.iconst 1, 1) := by decide +kernel
theorem dX7_worth_70 : decode cX7_worth 70 = .ok (.iaload, 1) := by decide +kernel
theorem dX7_worth_71 : decode cX7_worth 71 = .ok (.aload_n 0, 1) := by decide +kernel
theorem dX7_worth_72 : decode cX7_worth 72 = .ok (.iload_n 3, 1) := by decide +kernel
theorem dX7_worth_73 : decode cX7_worth 73 = .ok (.invokevirtual 52, 3) := by decide +kernel
theorem dX7_worth_76 : decode cX7_worth 76 = .ok (.iconst 4, 1) := by decide +kernel
theorem dX7_worth_77 : decode cX7_worth 77 = .ok (.idiv, 1) := by decide +kernel
theorem dX7_worth_78 : decode cX7_worth 78 = .ok (.invokestatic 103, 3) := by decide +kernel
theorem dX7_worth_81 : decode cX7_worth 81 = .ok (.ineg, 1) := by decide +kernel
theorem dX7_worth_82 : decode cX7_worth 82 = .ok (.ireturn, 1) := by decide +kernel
theorem dX7_worth_83 : decode cX7_worth 83 = .ok (.aload_n 0, 1) := by decide +kernel
theorem dX7_worth_84 : decode cX7_worth 84 = .ok (.iload_n 3, 1) := by decide +kernel
theorem dX7_worth_85 : decode cX7_worth 85 = .ok (.invokevirtual 106, 3) := by decide +kernel
theorem dX7_worth_88 : decode cX7_worth 88 = .ok (.ireturn, 1) := by decide +kernel
theorem dX7_next_0 : decode cX7_next 0 = .ok (.iconst (-1), 1) := by decide +kernel
theorem dX7_next_1 : decode cX7_next 1 = .ok (.istore_n 2, 1) := by decide +kernel
theorem dX7_next_2 : decode cX7_next 2 = .ok (.iconst 0, 1) := by decide +kernel
theorem dX7_next_3 : decode cX7_next 3 = .ok (.istore_n 3, 1) := by decide +kernel
theorem dX7_next_4 : decode cX7_next 4 = .ok (.iload_n 3, 1) := by decide +kernel
theorem dX7_next_5 : decode cX7_next 5 = .ok (.aload_n 0, 1) := by decide +kernel
theorem dX7_next_6 : decode cX7_next 6 = .ok (.getfield 7, 3) := by decide +kernel
theorem dX7_next_9 : decode cX7_next 9 = .ok (.bipush 8, 2) := by decide +kernel
theorem dX7_next_11 : decode cX7_next 11 = .ok (.iaload, 1) := by decide +kernel
theorem dX7_next_12 : decode cX7_next 12 = .ok (.if_icmp .ge 96, 3) := by decide +kernel
theorem dX7_next_15 : decode cX7_next 15 = .ok (.aload_n 0, 1) := by decide +kernel
theorem dX7_next_16 : decode cX7_next 16 = .ok (.getfield 7, 3) := by decide +kernel
theorem dX7_next_19 : decode cX7_next 19 = .ok (.sipush 168, 3) := by decide +kernel
theorem dX7_next_22 : decode cX7_next 22 = .ok (.aload_n 0, 1) := by decide +kernel
theorem dX7_next_23 : decode cX7_next 23 = .ok (.getfield 7, 3) := by decide +kernel
theorem dX7_next_26 : decode cX7_next 26 = .ok (.sipush 228, 3) := by decide +kernel
theorem dX7_next_29 : decode cX7_next 29 = .ok (.iconst 3, 1) := by decide +kernel
theorem dX7_next_30 : decode cX7_next 30 = .ok (.iload_n 3, 1) := by decide +kernel
theorem dX7_next_31 : decode cX7_next 31 = .ok (.imul, 1) := by decide +kernel
theorem dX7_next_32 : decode cX7_next 32 = .ok (.iadd, 1) := by decide +kernel
theorem dX7_next_33 : decode cX7_next 33 = .ok (.iaload, 1) := by decide +kernel
theorem dX7_next_34 : decode cX7_next 34 = .ok (.iadd, 1) := by decide +kernel
theorem dX7_next_35 : decode cX7_next 35 = .ok (.iaload, 1) := by decide +kernel
theorem dX7_next_36 : decode cX7_next 36 = .ok (.istore 4, 2) := by decide +kernel
theorem dX7_next_38 : decode cX7_next 38 = .ok (.iload 4, 2) := by decide +kernel
theorem dX7_next_40 : decode cX7_next 40 = .ok (.ifCond .lt 29, 3) := by decide +kernel
theorem dX7_next_43 : decode cX7_next 43 = .ok (.aload_n 0, 1) := by decide +kernel
theorem dX7_next_44 : decode cX7_next 44 = .ok (.iload 4, 2) := by decide +kernel
theorem dX7_next_46 : decode cX7_next 46 = .ok (.iconst 2, 1) := by decide +kernel
theorem dX7_next_47 : decode cX7_next 47 = .ok (.invokevirtual 44, 3) := by decide +kernel
theorem dX7_next_50 : decode cX7_next 50 = .ok (.ifCond .ne 19, 3) := by decide +kernel
theorem dX7_next_53 : decode cX7_next 53 = .ok (.aload_n 0, 1) := by decide +kernel
theorem dX7_next_54 : decode cX7_next 54 = .ok (.iload 4, 2) := by decide +kernel
theorem dX7_next_56 : decode cX7_next 56 = .ok (.iconst 1, 1) := by decide +kernel
theorem dX7_next_57 : decode cX7_next 57 = .ok (.invokevirtual 44, 3) := by decide +kernel
theorem dX7_next_60 : decode cX7_next 60 = .ok (.bipush 6, 2) := by decide +kernel
theorem dX7_next_62 : decode cX7_next 62 = .ok (.if_icmp .ge 7, 3) := by decide +kernel
theorem dX7_next_65 : decode cX7_next 65 = .ok (.iconst 1, 1) := by decide +kernel
theorem dX7_next_66 : decode cX7_next 66 = .ok (.goto 4, 3) := by decide +kernel
theorem dX7_next_69 : decode cX7_next 69 = .ok (.iconst 0, 1) := by decide +kernel
theorem dX7_next_70 : decode cX7_next 70 = .ok (.istore 5, 2) := by decide +kernel
theorem dX7_next_72 : decode cX7_next 72 = .ok (.iload 5, 2) := by decide +kernel
theorem dX7_next_74 : decode cX7_next 74 = .ok (.ifCond .eq 26, 3) := by decide +kernel
theorem dX7_next_77 : decode cX7_next 77 = .ok (.iload_n 2, 1) := by decide +kernel
theorem dX7_next_78 : decode cX7_next 78 = .ok (.ifCond .lt 18, 3) := by decide +kernel
theorem dX7_next_81 : decode cX7_next 81 = .ok (.aload_n 0, 1) := by decide +kernel
theorem dX7_next_82 : decode cX7_next 82 = .ok (.iload_n 3, 1) := by decide +kernel
theorem dX7_next_83 : decode cX7_next 83 = .ok (.iload_n 1, 1) := by decide +kernel
theorem dX7_next_84 : decode cX7_next 84 = .ok (.invokevirtual 109, 3) := by decide +kernel
theorem dX7_next_87 : decode cX7_next 87 = .ok (.aload_n 0, 1) := by decide +kernel
theorem dX7_next_88 : decode cX7_next 88 = .ok (.iload_n 2, 1) := by decide +kernel
theorem dX7_next_89 : decode cX7_next 89 = .ok (.iload_n 1, 1) := by decide +kernel
theorem dX7_next_90 : decode cX7_next 90 = .ok (.invokevirtual 109, 3) := by decide +kernel
theorem dX7_next_93 : decode cX7_next 93 = .ok (.if_icmp .le 7, 3) := by decide +kernel
theorem dX7_next_96 : decode cX7_next 96 = .ok (.iload_n 3, 1) := by decide +kernel
theorem dX7_next_97 : decode cX7_next 97 = .ok (.goto 4, 3) := by decide +kernel
theorem dX7_next_100 : decode cX7_next 100 = .ok (.iload_n 2, 1) := by decide +kernel
theorem dX7_next_101 : decode cX7_next 101 = .ok (.istore_n 2, 1) := by decide +kernel
theorem dX7_next_102 : decode cX7_next 102 = .ok (.iinc 3 1, 3) := by decide +kernel
theorem dX7_next_105 : decode cX7_next 105 = .ok (.goto (-101), 3) := by decide +kernel
theorem dX7_next_108 : decode cX7_next 108 = .ok (.iload_n 2, 1) := by decide +kernel
theorem dX7_next_109 : decode cX7_next 109 = .ok (.ireturn, 1) := by decide +kernel
theorem dX7_goes_0 : decode cX7_goes 0 = .ok (.aload_n 0, 1) := by decide +kernel
theorem dX7_goes_1 : decode cX7_goes 1 = .ok (.getfield 7, 3) := by decide +kernel
theorem dX7_goes_4 : decode cX7_goes 4 = .ok (.iconst 1, 1) := by decide +kernel
theorem dX7_goes_5 : decode cX7_goes 5 = .ok (.iaload, 1) := by decide +kernel
theorem dX7_goes_6 : decode cX7_goes 6 = .ok (.iload_n 1, 1) := by decide +kernel
theorem dX7_goes_7 : decode cX7_goes 7 = .ok (.if_icmp .eq 76, 3) := by decide +kernel
theorem dX7_goes_10 : decode cX7_goes 10 = .ok (.aload_n 0, 1) := by decide +kernel
theorem dX7_goes_11 : decode cX7_goes 11 = .ok (.invokevirtual 79, 3) := by decide +kernel
theorem dX7_goes_14 : decode cX7_goes 14 = .ok (.pop, 1) := by decide +kernel
theorem dX7_goes_15 : decode cX7_goes 15 = .ok (.iload_n 1, 1) := by decide +kernel
theorem dX7_goes_16 : decode cX7_goes 16 = .ok (.aload_n 0, 1) := by decide +kernel
theorem dX7_goes_17 : decode cX7_goes 17 = .ok (.getfield 7, 3) := by decide +kernel
theorem dX7_goes_20 : decode cX7_goes 20 = .ok (.iconst 1, 1) := by decide +kernel
theorem dX7_goes_21 : decode cX7_goes 21 = .ok (.iaload, 1) := by decide +kernel
theorem dX7_goes_22 : decode cX7_goes 22 = .ok (.isub, 1) := by decide +kernel
theorem dX7_goes_23 : decode cX7_goes 23 = .ok (.bipush 8, 2) := by decide +kernel
theorem dX7_goes_25 : decode cX7_goes 25 = .ok (.iadd, 1) := by decide +kernel
theorem dX7_goes_26 : decode cX7_goes 26 = .ok (.bipush 8, 2) := by decide +kernel
theorem dX7_goes_28 : decode cX7_goes 28 = .ok (.irem, 1) := by decide +kernel
theorem dX7_goes_29 : decode cX7_goes 29 = .ok (.istore_n 2, 1) := by decide +kernel
theorem dX7_goes_30 : decode cX7_goes 30 = .ok (.iload_n 2, 1) := by decide +kernel
theorem dX7_goes_31 : decode cX7_goes 31 = .ok (.iconst 4, 1) := by decide +kernel
theorem dX7_goes_32 : decode cX7_goes 32 = .ok (.if_icmp .gt 7, 3) := by decide +kernel
theorem dX7_goes_35 : decode cX7_goes 35 = .ok (.iload_n 2, 1) := by decide +kernel
theorem dX7_goes_36 : decode cX7_goes 36 = .ok (.goto 7, 3) := by decide +kernel
theorem dX7_goes_39 : decode cX7_goes 39 = .ok (.bipush 8, 2) := by decide +kernel
theorem dX7_goes_41 : decode cX7_goes 41 = .ok (.iload_n 2, 1) := by decide +kernel
theorem dX7_goes_42 : decode cX7_goes 42 = .ok (.isub, 1) := by decide +kernel
theorem dX7_goes_43 : decode cX7_goes 43 = .ok (.istore_n 3, 1) := by decide +kernel
theorem dX7_goes_44 : decode cX7_goes 44 = .ok (.iload_n 3, 1) := by decide +kernel
theorem dX7_goes_45 : decode cX7_goes 45 = .ok (.aload_n 0, 1) := by decide +kernel
theorem dX7_goes_46 : decode cX7_goes 46 = .ok (.invokevirtual 82, 3) := by decide +kernel
theorem dX7_goes_49 : decode cX7_goes 49 = .ok (.if_icmp .le 10, 3) := by decide +kernel
theorem dX7_goes_52 : decode cX7_goes 52 = .ok (.aload_n 0, 1) := by decide +kernel
theorem dX7_goes_53 : decode cX7_goes 53 = .ok (.invokevirtual 82, 3) := by decide +kernel
theorem dX7_goes_56 : decode cX7_goes 56 = .ok (.goto 4, 3) := by decide +kernel
theorem dX7_goes_59 : decode cX7_goes 59 = .ok (.iload_n 3, 1) := by decide +kernel
theorem dX7_goes_60 : decode cX7_goes 60 = .ok (.istore 4, 2) := by decide +kernel
theorem dX7_goes_62 : decode cX7_goes 62 = .ok (.aload_n 0, 1) := by decide +kernel
theorem dX7_goes_63 : decode cX7_goes 63 = .ok (.iload_n 2, 1) := by decide +kernel
theorem dX7_goes_64 : decode cX7_goes 64 = .ok (.iconst 4, 1) := by decide +kernel
theorem dX7_goes_65 : decode cX7_goes 65 = .ok (.if_icmp .gt 8, 3) := by decide +kernel
theorem dX7_goes_68 : decode cX7_goes 68 = .ok (.iload 4, 2) := by decide +kernel
theorem dX7_goes_70 : decode cX7_goes 70 = .ok (.goto 6, 3) := by decide +kernel
theorem dX7_goes_73 : decode cX7_goes 73 = .ok (.iload 4, 2) := by decide +kernel
theorem dX7_goes_75 : decode cX7_goes 75 = .ok (.ineg, 1) := by decide +kernel
theorem dX7_goes_76 : decode cX7_goes 76 = .ok (.invokevirtual 85, 3) := by decide +kernel
theorem dX7_goes_79 : decode cX7_goes 79 = .ok (.pop, 1) := by decide +kernel
theorem dX7_goes_80 : decode cX7_goes 80 = .ok (.goto (-80), 3) := by decide +kernel
theorem dX7_goes_83 : decode cX7_goes 83 = .ok (.return_, 1) := by decide +kernel
theorem dX7_empty_0 : decode cX7_empty 0 = .ok (.iconst (-1), 1) := by decide +kernel
theorem dX7_empty_1 : decode cX7_empty 1 = .ok (.istore_n 2, 1) := by decide +kernel
theorem dX7_empty_2 : decode cX7_empty 2 = .ok (.iconst 3, 1) := by decide +kernel
theorem dX7_empty_3 : decode cX7_empty 3 = .ok (.istore_n 3, 1) := by decide +kernel
theorem dX7_empty_4 : decode cX7_empty 4 = .ok (.iload_n 3, 1) := by decide +kernel
theorem dX7_empty_5 : decode cX7_empty 5 = .ok (.ifCond .lt 31, 3) := by decide +kernel
theorem dX7_empty_8 : decode cX7_empty 8 = .ok (.aload_n 0, 1) := by decide +kernel
theorem dX7_empty_9 : decode cX7_empty 9 = .ok (.getfield 7, 3) := by decide +kernel
theorem dX7_empty_12 : decode cX7_empty 12 = .ok (.bipush 16, 2) := by decide +kernel
theorem dX7_empty_14 : decode cX7_empty 14 = .ok (.iconst 4, 1) := by decide +kernel
theorem dX7_empty_15 : decode cX7_empty 15 = .ok (.iload_n 1, 1) := by decide +kernel
theorem dX7_empty_16 : decode cX7_empty 16 = .ok (.imul, 1) := by decide +kernel
theorem dX7_empty_17 : decode cX7_empty 17 = .ok (.iadd, 1) := by decide +kernel
theorem dX7_empty_18 : decode cX7_empty 18 = .ok (.iload_n 3, 1) := by decide +kernel
theorem dX7_empty_19 : decode cX7_empty 19 = .ok (.iadd, 1) := by decide +kernel
theorem dX7_empty_20 : decode cX7_empty 20 = .ok (.iaload, 1) := by decide +kernel
theorem dX7_empty_21 : decode cX7_empty 21 = .ok (.ifCond .ge 7, 3) := by decide +kernel
theorem dX7_empty_24 : decode cX7_empty 24 = .ok (.iload_n 3, 1) := by decide +kernel
theorem dX7_empty_25 : decode cX7_empty 25 = .ok (.goto 4, 3) := by decide +kernel
theorem dX7_empty_28 : decode cX7_empty 28 = .ok (.iload_n 2, 1) := by decide +kernel
theorem dX7_empty_29 : decode cX7_empty 29 = .ok (.istore_n 2, 1) := by decide +kernel
theorem dX7_empty_30 : decode cX7_empty 30 = .ok (.iinc 3 (-1), 3) := by decide +kernel
theorem dX7_empty_33 : decode cX7_empty 33 = .ok (.goto (-29), 3) := by decide +kernel
theorem dX7_empty_36 : decode cX7_empty 36 = .ok (.iload_n 2, 1) := by decide +kernel
theorem dX7_empty_37 : decode cX7_empty 37 = .ok (.ireturn, 1) := by decide +kernel
theorem dX7_nearest_0 : decode cX7_nearest 0 = .ok (.iconst 0, 1) := by decide +kernel
theorem dX7_nearest_1 : decode cX7_nearest 1 = .ok (.istore_n 2, 1) := by decide +kernel
theorem dX7_nearest_2 : decode cX7_nearest 2 = .ok (.iload_n 2, 1) := by decide +kernel
theorem dX7_nearest_3 : decode cX7_nearest 3 = .ok (.iconst 4, 1) := by decide +kernel
theorem dX7_nearest_4 : decode cX7_nearest 4 = .ok (.if_icmp .gt 49, 3) := by decide +kernel
theorem dX7_nearest_7 : decode cX7_nearest 7 = .ok (.iload_n 1, 1) := by decide +kernel
theorem dX7_nearest_8 : decode cX7_nearest 8 = .ok (.iload_n 2, 1) := by decide +kernel
theorem dX7_nearest_9 : decode cX7_nearest 9 = .ok (.iadd, 1) := by decide +kernel
theorem dX7_nearest_10 : decode cX7_nearest 10 = .ok (.bipush 8, 2) := by decide +kernel
theorem dX7_nearest_12 : decode cX7_nearest 12 = .ok (.irem, 1) := by decide +kernel
theorem dX7_nearest_13 : decode cX7_nearest 13 = .ok (.istore_n 3, 1) := by decide +kernel
theorem dX7_nearest_14 : decode cX7_nearest 14 = .ok (.iload_n 1, 1) := by decide +kernel
theorem dX7_nearest_15 : decode cX7_nearest 15 = .ok (.iload_n 2, 1) := by decide +kernel
theorem dX7_nearest_16 : decode cX7_nearest 16 = .ok (.isub, 1) := by decide +kernel
theorem dX7_nearest_17 : decode cX7_nearest 17 = .ok (.bipush 8, 2) := by decide +kernel
theorem dX7_nearest_19 : decode cX7_nearest 19 = .ok (.iadd, 1) := by decide +kernel
theorem dX7_nearest_20 : decode cX7_nearest 20 = .ok (.bipush 8, 2) := by decide +kernel
theorem dX7_nearest_22 : decode cX7_nearest 22 = .ok (.irem, 1) := by decide +kernel
theorem dX7_nearest_23 : decode cX7_nearest 23 = .ok (.istore 4, 2) := by decide +kernel
theorem dX7_nearest_25 : decode cX7_nearest 25 = .ok (.aload_n 0, 1) := by decide +kernel
theorem dX7_nearest_26 : decode cX7_nearest 26 = .ok (.iload_n 3, 1) := by decide +kernel
theorem dX7_nearest_27 : decode cX7_nearest 27 = .ok (.invokevirtual 112, 3) := by decide +kernel
theorem dX7_nearest_30 : decode cX7_nearest 30 = .ok (.ifCond .lt 5, 3) := by decide +kernel
theorem dX7_nearest_33 : decode cX7_nearest 33 = .ok (.iload_n 3, 1) := by decide +kernel
theorem dX7_nearest_34 : decode cX7_nearest 34 = .ok (.ireturn, 1) := by decide +kernel
theorem dX7_nearest_35 : decode cX7_nearest 35 = .ok (.aload_n 0, 1) := by decide +kernel
theorem dX7_nearest_36 : decode cX7_nearest 36 = .ok (.iload 4, 2) := by decide +kernel
theorem dX7_nearest_38 : decode cX7_nearest 38 = .ok (.invokevirtual 112, 3) := by decide +kernel
theorem dX7_nearest_41 : decode cX7_nearest 41 = .ok (.ifCond .lt 6, 3) := by decide +kernel
theorem dX7_nearest_44 : decode cX7_nearest 44 = .ok (.iload 4, 2) := by decide +kernel
theorem dX7_nearest_46 : decode cX7_nearest 46 = .ok (.ireturn, 1) := by decide +kernel
theorem dX7_nearest_47 : decode cX7_nearest 47 = .ok (.iinc 2 1, 3) := by decide +kernel
theorem dX7_nearest_50 : decode cX7_nearest 50 = .ok (.goto (-48), 3) := by decide +kernel
theorem dX7_nearest_53 : decode cX7_nearest 53 = .ok (.iconst (-1), 1) := by decide +kernel
theorem dX7_nearest_54 : decode cX7_nearest 54 = .ok (.ireturn, 1) := by decide +kernel
theorem dX7_chooses_0 : decode cX7_chooses 0 = .ok (.aload_n 0, 1) := by decide +kernel
theorem dX7_chooses_1 : decode cX7_chooses 1 = .ok (.getfield 7, 3) := by decide +kernel
theorem dX7_chooses_4 : decode cX7_chooses 4 = .ok (.bipush 11, 2) := by decide +kernel
theorem dX7_chooses_6 : decode cX7_chooses 6 = .ok (.iaload, 1) := by decide +kernel
theorem dX7_chooses_7 : decode cX7_chooses 7 = .ok (.ifCond .ge 7, 3) := by decide +kernel
theorem dX7_chooses_10 : decode cX7_chooses 10 = .ok (.iconst 1, 1) := by decide +kernel
theorem dX7_chooses_11 : decode cX7_chooses 11 = .ok (.goto 4, 3) := by decide +kernel
theorem dX7_chooses_14 : decode cX7_chooses 14 = .ok (.iconst 0, 1) := by decide +kernel
theorem dX7_chooses_15 : decode cX7_chooses 15 = .ok (.istore_n 2, 1) := by decide +kernel
theorem dX7_chooses_16 : decode cX7_chooses 16 = .ok (.aload_n 0, 1) := by decide +kernel
theorem dX7_chooses_17 : decode cX7_chooses 17 = .ok (.getfield 7, 3) := by decide +kernel
theorem dX7_chooses_20 : decode cX7_chooses 20 = .ok (.bipush 12, 2) := by decide +kernel
theorem dX7_chooses_22 : decode cX7_chooses 22 = .ok (.iaload, 1) := by decide +kernel
theorem dX7_chooses_23 : decode cX7_chooses 23 = .ok (.ifCond .ge 7, 3) := by decide +kernel
theorem dX7_chooses_26 : decode cX7_chooses 26 = .ok (.iconst 1, 1) := by decide +kernel
theorem dX7_chooses_27 : decode cX7_chooses 27 = .ok (.goto 4, 3) := by decide +kernel
theorem dX7_chooses_30 : decode cX7_chooses 30 = .ok (.iconst 0, 1) := by decide +kernel
theorem dX7_chooses_31 : decode cX7_chooses 31 = .ok (.istore_n 3, 1) := by decide +kernel
theorem dX7_chooses_32 : decode cX7_chooses 32 = .ok (.iload_n 2, 1) := by decide +kernel
theorem dX7_chooses_33 : decode cX7_chooses 33 = .ok (.ifCond .eq 32, 3) := by decide +kernel
theorem dX7_chooses_36 : decode cX7_chooses 36 = .ok (.iload_n 3, 1) := by decide +kernel
theorem dX7_chooses_37 : decode cX7_chooses 37 = .ok (.ifCond .eq 28, 3) := by decide +kernel
theorem dX7_chooses_40 : decode cX7_chooses 40 = .ok (.iconst 1, 1) := by decide +kernel
theorem dX7_chooses_41 : decode cX7_chooses 41 = .ok (.invokestatic 88, 3) := by decide +kernel
theorem dX7_chooses_44 : decode cX7_chooses 44 = .ok (.iload_n 1, 1) := by decide +kernel
theorem dX7_chooses_45 : decode cX7_chooses 45 = .ok (.invokestatic 103, 3) := by decide +kernel
theorem dX7_chooses_48 : decode cX7_chooses 48 = .ok (.iconst 0, 1) := by decide +kernel
theorem dX7_chooses_49 : decode cX7_chooses 49 = .ok (.invokestatic 88, 3) := by decide +kernel
theorem dX7_chooses_52 : decode cX7_chooses 52 = .ok (.iload_n 1, 1) := by decide +kernel
theorem dX7_chooses_53 : decode cX7_chooses 53 = .ok (.invokestatic 103, 3) := by decide +kernel
theorem dX7_chooses_56 : decode cX7_chooses 56 = .ok (.if_icmp .ge 7, 3) := by decide +kernel
theorem dX7_chooses_59 : decode cX7_chooses 59 = .ok (.iconst 1, 1) := by decide +kernel
theorem dX7_chooses_60 : decode cX7_chooses 60 = .ok (.goto 4, 3) := by decide +kernel
theorem dX7_chooses_63 : decode cX7_chooses 63 = .ok (.iconst 0, 1) := by decide +kernel
theorem dX7_chooses_64 : decode cX7_chooses 64 = .ok (.ireturn, 1) := by decide +kernel
theorem dX7_chooses_65 : decode cX7_chooses 65 = .ok (.iload_n 2, 1) := by decide +kernel
theorem dX7_chooses_66 : decode cX7_chooses 66 = .ok (.ifCond .eq 7, 3) := by decide +kernel
theorem dX7_chooses_69 : decode cX7_chooses 69 = .ok (.iconst 0, 1) := by decide +kernel
theorem dX7_chooses_70 : decode cX7_chooses 70 = .ok (.goto 33, 3) := by decide +kernel
theorem dX7_chooses_73 : decode cX7_chooses 73 = .ok (.iload_n 3, 1) := by decide +kernel
theorem dX7_chooses_74 : decode cX7_chooses 74 = .ok (.ifCond .eq 7, 3) := by decide +kernel
theorem dX7_chooses_77 : decode cX7_chooses 77 = .ok (.iconst 1, 1) := by decide +kernel
theorem dX7_chooses_78 : decode cX7_chooses 78 = .ok (.goto 25, 3) := by decide +kernel
theorem dX7_chooses_81 : decode cX7_chooses 81 = .ok (.aload_n 0, 1) := by decide +kernel
theorem dX7_chooses_82 : decode cX7_chooses 82 = .ok (.getfield 7, 3) := by decide +kernel
theorem dX7_chooses_85 : decode cX7_chooses 85 = .ok (.bipush 13, 2) := by decide +kernel
theorem dX7_chooses_87 : decode cX7_chooses 87 = .ok (.iaload, 1) := by decide +kernel
theorem dX7_chooses_88 : decode cX7_chooses 88 = .ok (.aload_n 0, 1) := by decide +kernel
theorem dX7_chooses_89 : decode cX7_chooses 89 = .ok (.getfield 7, 3) := by decide +kernel
theorem dX7_chooses_92 : decode cX7_chooses 92 = .ok (.bipush 14, 2) := by decide +kernel
theorem dX7_chooses_94 : decode cX7_chooses 94 = .ok (.iaload, 1) := by decide +kernel
theorem dX7_chooses_95 : decode cX7_chooses 95 = .ok (.if_icmp .ge 7, 3) := by decide +kernel
theorem dX7_chooses_98 : decode cX7_chooses 98 = .ok (.iconst 0, 1) := by decide +kernel
theorem dX7_chooses_99 : decode cX7_chooses 99 = .ok (.goto 4, 3) := by decide +kernel
theorem dX7_chooses_102 : decode cX7_chooses 102 = .ok (.iconst 1, 1) := by decide +kernel
theorem dX7_chooses_103 : decode cX7_chooses 103 = .ok (.ireturn, 1) := by decide +kernel
theorem dX7_servesBy_0 : decode cX7_servesBy 0 = .ok (.iload_n 1, 1) := by decide +kernel
theorem dX7_servesBy_1 : decode cX7_servesBy 1 = .ok (.iconst 0, 1) := by decide +kernel
theorem dX7_servesBy_2 : decode cX7_servesBy 2 = .ok (.iconst 3, 1) := by decide +kernel
theorem dX7_servesBy_3 : decode cX7_servesBy 3 = .ok (.invokestatic 26, 3) := by decide +kernel
theorem dX7_servesBy_6 : decode cX7_servesBy 6 = .ok (.ifCond .ne 6, 3) := by decide +kernel
theorem dX7_servesBy_9 : decode cX7_servesBy 9 = .ok (.ldc 30, 2) := by decide +kernel
theorem dX7_servesBy_11 : decode cX7_servesBy 11 = .ok (.ireturn, 1) := by decide +kernel
theorem dX7_servesBy_12 : decode cX7_servesBy 12 = .ok (.aload_n 0, 1) := by decide +kernel
theorem dX7_servesBy_13 : decode cX7_servesBy 13 = .ok (.iload_n 1, 1) := by decide +kernel
theorem dX7_servesBy_14 : decode cX7_servesBy 14 = .ok (.invokevirtual 115, 3) := by decide +kernel
theorem dX7_servesBy_17 : decode cX7_servesBy 17 = .ok (.istore_n 2, 1) := by decide +kernel
theorem dX7_servesBy_18 : decode cX7_servesBy 18 = .ok (.aload_n 0, 1) := by decide +kernel
theorem dX7_servesBy_19 : decode cX7_servesBy 19 = .ok (.getfield 7, 3) := by decide +kernel
theorem dX7_servesBy_22 : decode cX7_servesBy 22 = .ok (.iconst 2, 1) := by decide +kernel
theorem dX7_servesBy_23 : decode cX7_servesBy 23 = .ok (.iaload, 1) := by decide +kernel
theorem dX7_servesBy_24 : decode cX7_servesBy 24 = .ok (.ifCond .gt 7, 3) := by decide +kernel
theorem dX7_servesBy_27 : decode cX7_servesBy 27 = .ok (.iload_n 2, 1) := by decide +kernel
theorem dX7_servesBy_28 : decode cX7_servesBy 28 = .ok (.ifCond .ge 6, 3) := by decide +kernel
theorem dX7_servesBy_31 : decode cX7_servesBy 31 = .ok (.ldc 35, 2) := by decide +kernel
theorem dX7_servesBy_33 : decode cX7_servesBy 33 = .ok (.ireturn, 1) := by decide +kernel
theorem dX7_servesBy_34 : decode cX7_servesBy 34 = .ok (.aload_n 0, 1) := by decide +kernel
theorem dX7_servesBy_35 : decode cX7_servesBy 35 = .ok (.getfield 7, 3) := by decide +kernel
theorem dX7_servesBy_38 : decode cX7_servesBy 38 = .ok (.sipush 168, 3) := by decide +kernel
theorem dX7_servesBy_41 : decode cX7_servesBy 41 = .ok (.aload_n 0, 1) := by decide +kernel
theorem dX7_servesBy_42 : decode cX7_servesBy 42 = .ok (.getfield 7, 3) := by decide +kernel
theorem dX7_servesBy_45 : decode cX7_servesBy 45 = .ok (.sipush 228, 3) := by decide +kernel
theorem dX7_servesBy_48 : decode cX7_servesBy 48 = .ok (.iconst 3, 1) := by decide +kernel
theorem dX7_servesBy_49 : decode cX7_servesBy 49 = .ok (.iload_n 2, 1) := by decide +kernel
theorem dX7_servesBy_50 : decode cX7_servesBy 50 = .ok (.imul, 1) := by decide +kernel
theorem dX7_servesBy_51 : decode cX7_servesBy 51 = .ok (.iadd, 1) := by decide +kernel
theorem dX7_servesBy_52 : decode cX7_servesBy 52 = .ok (.iaload, 1) := by decide +kernel
theorem dX7_servesBy_53 : decode cX7_servesBy 53 = .ok (.iadd, 1) := by decide +kernel
theorem dX7_servesBy_54 : decode cX7_servesBy 54 = .ok (.iaload, 1) := by decide +kernel
theorem dX7_servesBy_55 : decode cX7_servesBy 55 = .ok (.istore_n 3, 1) := by decide +kernel
theorem dX7_servesBy_56 : decode cX7_servesBy 56 = .ok (.aload_n 0, 1) := by decide +kernel
theorem dX7_servesBy_57 : decode cX7_servesBy 57 = .ok (.iload_n 3, 1) := by decide +kernel
theorem dX7_servesBy_58 : decode cX7_servesBy 58 = .ok (.invokevirtual 52, 3) := by decide +kernel
theorem dX7_servesBy_61 : decode cX7_servesBy 61 = .ok (.istore 4, 2) := by decide +kernel
theorem dX7_servesBy_63 : decode cX7_servesBy 63 = .ok (.aload_n 0, 1) := by decide +kernel
theorem dX7_servesBy_64 : decode cX7_servesBy 64 = .ok (.iload 4, 2) := by decide +kernel
theorem dX7_servesBy_66 : decode cX7_servesBy 66 = .ok (.iconst 4, 1) := by decide +kernel
theorem dX7_servesBy_67 : decode cX7_servesBy 67 = .ok (.idiv, 1) := by decide +kernel
theorem dX7_servesBy_68 : decode cX7_servesBy 68 = .ok (.invokevirtual 118, 3) := by decide +kernel
theorem dX7_servesBy_71 : decode cX7_servesBy 71 = .ok (.istore 5, 2) := by decide +kernel
theorem dX7_servesBy_73 : decode cX7_servesBy 73 = .ok (.aload_n 0, 1) := by decide +kernel
theorem dX7_servesBy_74 : decode cX7_servesBy 74 = .ok (.iload 5, 2) := by decide +kernel
theorem dX7_servesBy_76 : decode cX7_servesBy 76 = .ok (.invokestatic 88, 3) := by decide +kernel
theorem dX7_servesBy_79 : decode cX7_servesBy 79 = .ok (.invokevirtual 121, 3) := by decide +kernel
theorem dX7_servesBy_82 : decode cX7_servesBy 82 = .ok (.istore 6, 2) := by decide +kernel
theorem dX7_servesBy_84 : decode cX7_servesBy 84 = .ok (.aload_n 0, 1) := by decide +kernel
theorem dX7_servesBy_85 : decode cX7_servesBy 85 = .ok (.getfield 7, 3) := by decide +kernel
theorem dX7_servesBy_88 : decode cX7_servesBy 88 = .ok (.bipush 11, 2) := by decide +kernel
theorem dX7_servesBy_90 : decode cX7_servesBy 90 = .ok (.iload 5, 2) := by decide +kernel
theorem dX7_servesBy_92 : decode cX7_servesBy 92 = .ok (.iadd, 1) := by decide +kernel
theorem dX7_servesBy_93 : decode cX7_servesBy 93 = .ok (.iaload, 1) := by decide +kernel
theorem dX7_servesBy_94 : decode cX7_servesBy 94 = .ok (.ifCond .lt 11, 3) := by decide +kernel
theorem dX7_servesBy_97 : decode cX7_servesBy 97 = .ok (.iload 6, 2) := by decide +kernel
theorem dX7_servesBy_99 : decode cX7_servesBy 99 = .ok (.ifCond .ge 6, 3) := by decide +kernel
theorem dX7_servesBy_102 : decode cX7_servesBy 102 = .ok (.ldc 35, 2) := by decide +kernel
theorem dX7_servesBy_104 : decode cX7_servesBy 104 = .ok (.ireturn, 1) := by decide +kernel
theorem dX7_servesBy_105 : decode cX7_servesBy 105 = .ok (.aload_n 0, 1) := by decide +kernel
theorem dX7_servesBy_106 : decode cX7_servesBy 106 = .ok (.iload 5, 2) := by decide +kernel
theorem dX7_servesBy_108 : decode cX7_servesBy 108 = .ok (.putfield 124, 3) := by decide +kernel
theorem dX7_servesBy_111 : decode cX7_servesBy 111 = .ok (.aload_n 0, 1) := by decide +kernel
theorem dX7_servesBy_112 : decode cX7_servesBy 112 = .ok (.iload_n 3, 1) := by decide +kernel
theorem dX7_servesBy_113 : decode cX7_servesBy 113 = .ok (.putfield 127, 3) := by decide +kernel
theorem dX7_servesBy_116 : decode cX7_servesBy 116 = .ok (.aload_n 0, 1) := by decide +kernel
theorem dX7_servesBy_117 : decode cX7_servesBy 117 = .ok (.getfield 7, 3) := by decide +kernel
theorem dX7_servesBy_120 : decode cX7_servesBy 120 = .ok (.bipush 11, 2) := by decide +kernel
theorem dX7_servesBy_122 : decode cX7_servesBy 122 = .ok (.iload 5, 2) := by decide +kernel
theorem dX7_servesBy_124 : decode cX7_servesBy 124 = .ok (.iadd, 1) := by decide +kernel
theorem dX7_servesBy_125 : decode cX7_servesBy 125 = .ok (.iaload, 1) := by decide +kernel
theorem dX7_servesBy_126 : decode cX7_servesBy 126 = .ok (.ifCond .lt 36, 3) := by decide +kernel
theorem dX7_servesBy_129 : decode cX7_servesBy 129 = .ok (.aload_n 0, 1) := by decide +kernel
theorem dX7_servesBy_130 : decode cX7_servesBy 130 = .ok (.iload 5, 2) := by decide +kernel
theorem dX7_servesBy_132 : decode cX7_servesBy 132 = .ok (.invokestatic 88, 3) := by decide +kernel
theorem dX7_servesBy_135 : decode cX7_servesBy 135 = .ok (.invokevirtual 130, 3) := by decide +kernel
theorem dX7_servesBy_138 : decode cX7_servesBy 138 = .ok (.aload_n 0, 1) := by decide +kernel
theorem dX7_servesBy_139 : decode cX7_servesBy 139 = .ok (.iload 5, 2) := by decide +kernel
theorem dX7_servesBy_141 : decode cX7_servesBy 141 = .ok (.invokevirtual 97, 3) := by decide +kernel
theorem dX7_servesBy_144 : decode cX7_servesBy 144 = .ok (.pop, 1) := by decide +kernel
theorem dX7_servesBy_145 : decode cX7_servesBy 145 = .ok (.aload_n 0, 1) := by decide +kernel
theorem dX7_servesBy_146 : decode cX7_servesBy 146 = .ok (.iload 6, 2) := by decide +kernel
theorem dX7_servesBy_148 : decode cX7_servesBy 148 = .ok (.invokevirtual 130, 3) := by decide +kernel
theorem dX7_servesBy_151 : decode cX7_servesBy 151 = .ok (.aload_n 0, 1) := by decide +kernel
theorem dX7_servesBy_152 : decode cX7_servesBy 152 = .ok (.aload_n 0, 1) := by decide +kernel
theorem dX7_servesBy_153 : decode cX7_servesBy 153 = .ok (.iload 6, 2) := by decide +kernel
theorem dX7_servesBy_155 : decode cX7_servesBy 155 = .ok (.invokevirtual 112, 3) := by decide +kernel
theorem dX7_servesBy_158 : decode cX7_servesBy 158 = .ok (.invokevirtual 76, 3) := by decide +kernel
theorem dX7_servesBy_161 : decode cX7_servesBy 161 = .ok (.pop, 1) := by decide +kernel
theorem dX7_servesBy_162 : decode cX7_servesBy 162 = .ok (.aload_n 0, 1) := by decide +kernel
theorem dX7_servesBy_163 : decode cX7_servesBy 163 = .ok (.iload 4, 2) := by decide +kernel
theorem dX7_servesBy_165 : decode cX7_servesBy 165 = .ok (.iconst 4, 1) := by decide +kernel
theorem dX7_servesBy_166 : decode cX7_servesBy 166 = .ok (.idiv, 1) := by decide +kernel
theorem dX7_servesBy_167 : decode cX7_servesBy 167 = .ok (.invokevirtual 130, 3) := by decide +kernel
theorem dX7_servesBy_170 : decode cX7_servesBy 170 = .ok (.aload_n 0, 1) := by decide +kernel
theorem dX7_servesBy_171 : decode cX7_servesBy 171 = .ok (.iload 4, 2) := by decide +kernel
theorem dX7_servesBy_173 : decode cX7_servesBy 173 = .ok (.iconst 4, 1) := by decide +kernel
theorem dX7_servesBy_174 : decode cX7_servesBy 174 = .ok (.irem, 1) := by decide +kernel
theorem dX7_servesBy_175 : decode cX7_servesBy 175 = .ok (.invokevirtual 70, 3) := by decide +kernel
theorem dX7_servesBy_178 : decode cX7_servesBy 178 = .ok (.pop, 1) := by decide +kernel
theorem dX7_servesBy_179 : decode cX7_servesBy 179 = .ok (.aload_n 0, 1) := by decide +kernel
theorem dX7_servesBy_180 : decode cX7_servesBy 180 = .ok (.iload 5, 2) := by decide +kernel
theorem dX7_servesBy_182 : decode cX7_servesBy 182 = .ok (.invokestatic 88, 3) := by decide +kernel
theorem dX7_servesBy_185 : decode cX7_servesBy 185 = .ok (.invokevirtual 130, 3) := by decide +kernel
theorem dX7_servesBy_188 : decode cX7_servesBy 188 = .ok (.aload_n 0, 1) := by decide +kernel
theorem dX7_servesBy_189 : decode cX7_servesBy 189 = .ok (.iload 5, 2) := by decide +kernel
theorem dX7_servesBy_191 : decode cX7_servesBy 191 = .ok (.invokevirtual 94, 3) := by decide +kernel
theorem dX7_servesBy_194 : decode cX7_servesBy 194 = .ok (.ireturn, 1) := by decide +kernel
theorem dX7_serve_0 : decode cX7_serve 0 = .ok (.aload_n 0, 1) := by decide +kernel
theorem dX7_serve_1 : decode cX7_serve 1 = .ok (.invokevirtual 37, 3) := by decide +kernel
theorem dX7_serve_4 : decode cX7_serve 4 = .ok (.aload_n 0, 1) := by decide +kernel
theorem dX7_serve_5 : decode cX7_serve 5 = .ok (.aload_n 0, 1) := by decide +kernel
theorem dX7_serve_6 : decode cX7_serve 6 = .ok (.iload_n 1, 1) := by decide +kernel
theorem dX7_serve_7 : decode cX7_serve 7 = .ok (.invokevirtual 133, 3) := by decide +kernel
theorem dX7_serve_10 : decode cX7_serve 10 = .ok (.invokevirtual 40, 3) := by decide +kernel
theorem dX7_serve_13 : decode cX7_serve 13 = .ok (.ireturn, 1) := by decide +kernel
theorem dX7_whereOf_0 : decode cX7_whereOf 0 = .ok (.aload_n 0, 1) := by decide +kernel
theorem dX7_whereOf_1 : decode cX7_whereOf 1 = .ok (.iload_n 1, 1) := by decide +kernel
theorem dX7_whereOf_2 : decode cX7_whereOf 2 = .ok (.iconst 2, 1) := by decide +kernel
theorem dX7_whereOf_3 : decode cX7_whereOf 3 = .ok (.invokevirtual 44, 3) := by decide +kernel
theorem dX7_whereOf_6 : decode cX7_whereOf 6 = .ok (.istore_n 2, 1) := by decide +kernel
theorem dX7_whereOf_7 : decode cX7_whereOf 7 = .ok (.iload_n 2, 1) := by decide +kernel
theorem dX7_whereOf_8 : decode cX7_whereOf 8 = .ok (.ifCond .ne 22, 3) := by decide +kernel
theorem dX7_whereOf_11 : decode cX7_whereOf 11 = .ok (.aload_n 0, 1) := by decide +kernel
theorem dX7_whereOf_12 : decode cX7_whereOf 12 = .ok (.iload_n 1, 1) := by decide +kernel
theorem dX7_whereOf_13 : decode cX7_whereOf 13 = .ok (.invokevirtual 52, 3) := by decide +kernel
theorem dX7_whereOf_16 : decode cX7_whereOf 16 = .ok (.iconst 4, 1) := by decide +kernel
theorem dX7_whereOf_17 : decode cX7_whereOf 17 = .ok (.idiv, 1) := by decide +kernel
theorem dX7_whereOf_18 : decode cX7_whereOf 18 = .ok (.bipush 10, 2) := by decide +kernel
theorem dX7_whereOf_20 : decode cX7_whereOf 20 = .ok (.imul, 1) := by decide +kernel
theorem dX7_whereOf_21 : decode cX7_whereOf 21 = .ok (.aload_n 0, 1) := by decide +kernel
theorem dX7_whereOf_22 : decode cX7_whereOf 22 = .ok (.iload_n 1, 1) := by decide +kernel
theorem dX7_whereOf_23 : decode cX7_whereOf 23 = .ok (.invokevirtual 52, 3) := by decide +kernel
theorem dX7_whereOf_26 : decode cX7_whereOf 26 = .ok (.iconst 4, 1) := by decide +kernel
theorem dX7_whereOf_27 : decode cX7_whereOf 27 = .ok (.irem, 1) := by decide +kernel
theorem dX7_whereOf_28 : decode cX7_whereOf 28 = .ok (.iadd, 1) := by decide +kernel
theorem dX7_whereOf_29 : decode cX7_whereOf 29 = .ok (.ireturn, 1) := by decide +kernel
theorem dX7_whereOf_30 : decode cX7_whereOf 30 = .ok (.iload_n 2, 1) := by decide +kernel
theorem dX7_whereOf_31 : decode cX7_whereOf 31 = .ok (.iconst 2, 1) := by decide +kernel
theorem dX7_whereOf_32 : decode cX7_whereOf 32 = .ok (.if_icmp .ne 20, 3) := by decide +kernel
theorem dX7_whereOf_35 : decode cX7_whereOf 35 = .ok (.aload_n 0, 1) := by decide +kernel
theorem dX7_whereOf_36 : decode cX7_whereOf 36 = .ok (.getfield 7, 3) := by decide +kernel
theorem dX7_whereOf_39 : decode cX7_whereOf 39 = .ok (.bipush 11, 2) := by decide +kernel
theorem dX7_whereOf_41 : decode cX7_whereOf 41 = .ok (.iaload, 1) := by decide +kernel
theorem dX7_whereOf_42 : decode cX7_whereOf 42 = .ok (.iload_n 1, 1) := by decide +kernel
theorem dX7_whereOf_43 : decode cX7_whereOf 43 = .ok (.if_icmp .ne 7, 3) := by decide +kernel
theorem dX7_whereOf_46 : decode cX7_whereOf 46 = .ok (.iconst 0, 1) := by decide +kernel
theorem dX7_whereOf_47 : decode cX7_whereOf 47 = .ok (.goto 4, 3) := by decide +kernel
theorem dX7_whereOf_50 : decode cX7_whereOf 50 = .ok (.iconst 1, 1) := by decide +kernel
theorem dX7_whereOf_51 : decode cX7_whereOf 51 = .ok (.ireturn, 1) := by decide +kernel
theorem dX7_whereOf_52 : decode cX7_whereOf 52 = .ok (.ldc 136, 2) := by decide +kernel
theorem dX7_whereOf_54 : decode cX7_whereOf 54 = .ok (.istore_n 3, 1) := by decide +kernel
theorem dX7_whereOf_55 : decode cX7_whereOf 55 = .ok (.iconst 0, 1) := by decide +kernel
theorem dX7_whereOf_56 : decode cX7_whereOf 56 = .ok (.istore 4, 2) := by decide +kernel
theorem dX7_whereOf_58 : decode cX7_whereOf 58 = .ok (.iload 4, 2) := by decide +kernel
theorem dX7_whereOf_60 : decode cX7_whereOf 60 = .ok (.aload_n 0, 1) := by decide +kernel
theorem dX7_whereOf_61 : decode cX7_whereOf 61 = .ok (.getfield 7, 3) := by decide +kernel
theorem dX7_whereOf_64 : decode cX7_whereOf 64 = .ok (.iconst 2, 1) := by decide +kernel
theorem dX7_whereOf_65 : decode cX7_whereOf 65 = .ok (.iaload, 1) := by decide +kernel
theorem dX7_whereOf_66 : decode cX7_whereOf 66 = .ok (.if_icmp .ge 29, 3) := by decide +kernel
theorem dX7_whereOf_69 : decode cX7_whereOf 69 = .ok (.aload_n 0, 1) := by decide +kernel
theorem dX7_whereOf_70 : decode cX7_whereOf 70 = .ok (.getfield 7, 3) := by decide +kernel
theorem dX7_whereOf_73 : decode cX7_whereOf 73 = .ok (.iconst 3, 1) := by decide +kernel
theorem dX7_whereOf_74 : decode cX7_whereOf 74 = .ok (.iload 4, 2) := by decide +kernel
theorem dX7_whereOf_76 : decode cX7_whereOf 76 = .ok (.iadd, 1) := by decide +kernel
theorem dX7_whereOf_77 : decode cX7_whereOf 77 = .ok (.iaload, 1) := by decide +kernel
theorem dX7_whereOf_78 : decode cX7_whereOf 78 = .ok (.iload_n 1, 1) := by decide +kernel
theorem dX7_whereOf_79 : decode cX7_whereOf 79 = .ok (.if_icmp .ne 8, 3) := by decide +kernel
theorem dX7_whereOf_82 : decode cX7_whereOf 82 = .ok (.iload 4, 2) := by decide +kernel
theorem dX7_whereOf_84 : decode cX7_whereOf 84 = .ok (.goto 4, 3) := by decide +kernel
theorem dX7_whereOf_87 : decode cX7_whereOf 87 = .ok (.iload_n 3, 1) := by decide +kernel
theorem dX7_whereOf_88 : decode cX7_whereOf 88 = .ok (.istore_n 3, 1) := by decide +kernel
theorem dX7_whereOf_89 : decode cX7_whereOf 89 = .ok (.iinc 4 1, 3) := by decide +kernel
theorem dX7_whereOf_92 : decode cX7_whereOf 92 = .ok (.goto (-34), 3) := by decide +kernel
theorem dX7_whereOf_95 : decode cX7_whereOf 95 = .ok (.iload_n 3, 1) := by decide +kernel
theorem dX7_whereOf_96 : decode cX7_whereOf 96 = .ok (.ireturn, 1) := by decide +kernel
theorem dX7_cartridgeOf_0 : decode cX7_cartridgeOf 0 = .ok (.aload_n 0, 1) := by decide +kernel
theorem dX7_cartridgeOf_1 : decode cX7_cartridgeOf 1 = .ok (.iload_n 1, 1) := by decide +kernel
theorem dX7_cartridgeOf_2 : decode cX7_cartridgeOf 2 = .ok (.invokevirtual 48, 3) := by decide +kernel
theorem dX7_cartridgeOf_5 : decode cX7_cartridgeOf 5 = .ok (.ifCond .eq 13, 3) := by decide +kernel
theorem dX7_cartridgeOf_8 : decode cX7_cartridgeOf 8 = .ok (.iload_n 2, 1) := by decide +kernel
theorem dX7_cartridgeOf_9 : decode cX7_cartridgeOf 9 = .ok (.iconst 0, 1) := by decide +kernel
theorem dX7_cartridgeOf_10 : decode cX7_cartridgeOf 10 = .ok (.bipush 6, 2) := by decide +kernel
theorem dX7_cartridgeOf_12 : decode cX7_cartridgeOf 12 = .ok (.invokestatic 26, 3) := by decide +kernel
theorem dX7_cartridgeOf_15 : decode cX7_cartridgeOf 15 = .ok (.ifCond .ne 6, 3) := by decide +kernel
theorem dX7_cartridgeOf_18 : decode cX7_cartridgeOf 18 = .ok (.ldc 30, 2) := by decide +kernel
theorem dX7_cartridgeOf_20 : decode cX7_cartridgeOf 20 = .ok (.ireturn, 1) := by decide +kernel
theorem dX7_cartridgeOf_21 : decode cX7_cartridgeOf 21 = .ok (.iload_n 2, 1) := by decide +kernel
theorem dX7_cartridgeOf_22 : decode cX7_cartridgeOf 22 = .ok (.tableswitch 55 3 6 #[30, 36, 42, 48], 30) := by decide +kernel
theorem dX7_cartridgeOf_52 : decode cX7_cartridgeOf 52 = .ok (.aload_n 0, 1) := by decide +kernel
theorem dX7_cartridgeOf_53 : decode cX7_cartridgeOf 53 = .ok (.iload_n 1, 1) := by decide +kernel
theorem dX7_cartridgeOf_54 : decode cX7_cartridgeOf 54 = .ok (.invokevirtual 137, 3) := by decide +kernel
theorem dX7_cartridgeOf_57 : decode cX7_cartridgeOf 57 = .ok (.ireturn, 1) := by decide +kernel
theorem dX7_cartridgeOf_58 : decode cX7_cartridgeOf 58 = .ok (.aload_n 0, 1) := by decide +kernel
theorem dX7_cartridgeOf_59 : decode cX7_cartridgeOf 59 = .ok (.iload_n 1, 1) := by decide +kernel
theorem dX7_cartridgeOf_60 : decode cX7_cartridgeOf 60 = .ok (.invokevirtual 100, 3) := by decide +kernel
theorem dX7_cartridgeOf_63 : decode cX7_cartridgeOf 63 = .ok (.ireturn, 1) := by decide +kernel
theorem dX7_cartridgeOf_64 : decode cX7_cartridgeOf 64 = .ok (.aload_n 0, 1) := by decide +kernel
theorem dX7_cartridgeOf_65 : decode cX7_cartridgeOf 65 = .ok (.iload_n 1, 1) := by decide +kernel
theorem dX7_cartridgeOf_66 : decode cX7_cartridgeOf 66 = .ok (.invokevirtual 106, 3) := by decide +kernel
theorem dX7_cartridgeOf_69 : decode cX7_cartridgeOf 69 = .ok (.ireturn, 1) := by decide +kernel
theorem dX7_cartridgeOf_70 : decode cX7_cartridgeOf 70 = .ok (.aload_n 0, 1) := by decide +kernel
theorem dX7_cartridgeOf_71 : decode cX7_cartridgeOf 71 = .ok (.iload_n 1, 1) := by decide +kernel
theorem dX7_cartridgeOf_72 : decode cX7_cartridgeOf 72 = .ok (.iconst 3, 1) := by decide +kernel
theorem dX7_cartridgeOf_73 : decode cX7_cartridgeOf 73 = .ok (.invokevirtual 44, 3) := by decide +kernel
theorem dX7_cartridgeOf_76 : decode cX7_cartridgeOf 76 = .ok (.ireturn, 1) := by decide +kernel
theorem dX7_cartridgeOf_77 : decode cX7_cartridgeOf 77 = .ok (.aload_n 0, 1) := by decide +kernel
theorem dX7_cartridgeOf_78 : decode cX7_cartridgeOf 78 = .ok (.iload_n 1, 1) := by decide +kernel
theorem dX7_cartridgeOf_79 : decode cX7_cartridgeOf 79 = .ok (.iload_n 2, 1) := by decide +kernel
theorem dX7_cartridgeOf_80 : decode cX7_cartridgeOf 80 = .ok (.invokevirtual 44, 3) := by decide +kernel
theorem dX7_cartridgeOf_83 : decode cX7_cartridgeOf 83 = .ok (.ireturn, 1) := by decide +kernel
theorem dX7_shelfOf_0 : decode cX7_shelfOf 0 = .ok (.iload_n 1, 1) := by decide +kernel
theorem dX7_shelfOf_1 : decode cX7_shelfOf 1 = .ok (.iconst 0, 1) := by decide +kernel
theorem dX7_shelfOf_2 : decode cX7_shelfOf 2 = .ok (.bipush 7, 2) := by decide +kernel
theorem dX7_shelfOf_4 : decode cX7_shelfOf 4 = .ok (.invokestatic 26, 3) := by decide +kernel
theorem dX7_shelfOf_7 : decode cX7_shelfOf 7 = .ok (.ifCond .eq 12, 3) := by decide +kernel
theorem dX7_shelfOf_10 : decode cX7_shelfOf 10 = .ok (.iload_n 2, 1) := by decide +kernel
theorem dX7_shelfOf_11 : decode cX7_shelfOf 11 = .ok (.iconst 0, 1) := by decide +kernel
theorem dX7_shelfOf_12 : decode cX7_shelfOf 12 = .ok (.iconst 3, 1) := by decide +kernel
theorem dX7_shelfOf_13 : decode cX7_shelfOf 13 = .ok (.invokestatic 26, 3) := by decide +kernel
theorem dX7_shelfOf_16 : decode cX7_shelfOf 16 = .ok (.ifCond .ne 6, 3) := by decide +kernel
theorem dX7_shelfOf_19 : decode cX7_shelfOf 19 = .ok (.ldc 30, 2) := by decide +kernel
theorem dX7_shelfOf_21 : decode cX7_shelfOf 21 = .ok (.ireturn, 1) := by decide +kernel
theorem dX7_shelfOf_22 : decode cX7_shelfOf 22 = .ok (.aload_n 0, 1) := by decide +kernel
theorem dX7_shelfOf_23 : decode cX7_shelfOf 23 = .ok (.getfield 7, 3) := by decide +kernel
theorem dX7_shelfOf_26 : decode cX7_shelfOf 26 = .ok (.bipush 16, 2) := by decide +kernel
theorem dX7_shelfOf_28 : decode cX7_shelfOf 28 = .ok (.iconst 4, 1) := by decide +kernel
theorem dX7_shelfOf_29 : decode cX7_shelfOf 29 = .ok (.iload_n 1, 1) := by decide +kernel
theorem dX7_shelfOf_30 : decode cX7_shelfOf 30 = .ok (.imul, 1) := by decide +kernel
theorem dX7_shelfOf_31 : decode cX7_shelfOf 31 = .ok (.iadd, 1) := by decide +kernel
theorem dX7_shelfOf_32 : decode cX7_shelfOf 32 = .ok (.iload_n 2, 1) := by decide +kernel
theorem dX7_shelfOf_33 : decode cX7_shelfOf 33 = .ok (.iadd, 1) := by decide +kernel
theorem dX7_shelfOf_34 : decode cX7_shelfOf 34 = .ok (.iaload, 1) := by decide +kernel
theorem dX7_shelfOf_35 : decode cX7_shelfOf 35 = .ok (.istore_n 3, 1) := by decide +kernel
theorem dX7_shelfOf_36 : decode cX7_shelfOf 36 = .ok (.iload_n 3, 1) := by decide +kernel
theorem dX7_shelfOf_37 : decode cX7_shelfOf 37 = .ok (.ifCond .ge 8, 3) := by decide +kernel
theorem dX7_shelfOf_40 : decode cX7_shelfOf 40 = .ok (.ldc 136, 2) := by decide +kernel
theorem dX7_shelfOf_42 : decode cX7_shelfOf 42 = .ok (.goto 4, 3) := by decide +kernel
theorem dX7_shelfOf_45 : decode cX7_shelfOf 45 = .ok (.iload_n 3, 1) := by decide +kernel
theorem dX7_shelfOf_46 : decode cX7_shelfOf 46 = .ok (.ireturn, 1) := by decide +kernel
theorem dX7_holder_0 : decode cX7_holder 0 = .ok (.iload_n 1, 1) := by decide +kernel
theorem dX7_holder_1 : decode cX7_holder 1 = .ok (.iconst 0, 1) := by decide +kernel
theorem dX7_holder_2 : decode cX7_holder 2 = .ok (.bipush 59, 2) := by decide +kernel
theorem dX7_holder_4 : decode cX7_holder 4 = .ok (.invokestatic 26, 3) := by decide +kernel
theorem dX7_holder_7 : decode cX7_holder 7 = .ok (.ifCond .ne 6, 3) := by decide +kernel
theorem dX7_holder_10 : decode cX7_holder 10 = .ok (.ldc 30, 2) := by decide +kernel
theorem dX7_holder_12 : decode cX7_holder 12 = .ok (.ireturn, 1) := by decide +kernel
theorem dX7_holder_13 : decode cX7_holder 13 = .ok (.aload_n 0, 1) := by decide +kernel
theorem dX7_holder_14 : decode cX7_holder 14 = .ok (.getfield 7, 3) := by decide +kernel
theorem dX7_holder_17 : decode cX7_holder 17 = .ok (.sipush 168, 3) := by decide +kernel
theorem dX7_holder_20 : decode cX7_holder 20 = .ok (.iload_n 1, 1) := by decide +kernel
theorem dX7_holder_21 : decode cX7_holder 21 = .ok (.iadd, 1) := by decide +kernel
theorem dX7_holder_22 : decode cX7_holder 22 = .ok (.iaload, 1) := by decide +kernel
theorem dX7_holder_23 : decode cX7_holder 23 = .ok (.ifCond .ge 8, 3) := by decide +kernel
theorem dX7_holder_26 : decode cX7_holder 26 = .ok (.ldc 136, 2) := by decide +kernel
theorem dX7_holder_28 : decode cX7_holder 28 = .ok (.goto 13, 3) := by decide +kernel
theorem dX7_holder_31 : decode cX7_holder 31 = .ok (.aload_n 0, 1) := by decide +kernel
theorem dX7_holder_32 : decode cX7_holder 32 = .ok (.getfield 7, 3) := by decide +kernel
theorem dX7_holder_35 : decode cX7_holder 35 = .ok (.sipush 168, 3) := by decide +kernel
theorem dX7_holder_38 : decode cX7_holder 38 = .ok (.iload_n 1, 1) := by decide +kernel
theorem dX7_holder_39 : decode cX7_holder 39 = .ok (.iadd, 1) := by decide +kernel
theorem dX7_holder_40 : decode cX7_holder 40 = .ok (.iaload, 1) := by decide +kernel
theorem dX7_holder_41 : decode cX7_holder 41 = .ok (.ireturn, 1) := by decide +kernel
theorem dX7_requestOf_0 : decode cX7_requestOf 0 = .ok (.iload_n 1, 1) := by decide +kernel
theorem dX7_requestOf_1 : decode cX7_requestOf 1 = .ok (.ifCond .lt 12, 3) := by decide +kernel
theorem dX7_requestOf_4 : decode cX7_requestOf 4 = .ok (.iload_n 2, 1) := by decide +kernel
theorem dX7_requestOf_5 : decode cX7_requestOf 5 = .ok (.iconst 0, 1) := by decide +kernel
theorem dX7_requestOf_6 : decode cX7_requestOf 6 = .ok (.iconst 2, 1) := by decide +kernel
theorem dX7_requestOf_7 : decode cX7_requestOf 7 = .ok (.invokestatic 26, 3) := by decide +kernel
theorem dX7_requestOf_10 : decode cX7_requestOf 10 = .ok (.ifCond .ne 6, 3) := by decide +kernel
theorem dX7_requestOf_13 : decode cX7_requestOf 13 = .ok (.ldc 30, 2) := by decide +kernel
theorem dX7_requestOf_15 : decode cX7_requestOf 15 = .ok (.ireturn, 1) := by decide +kernel
theorem dX7_requestOf_16 : decode cX7_requestOf 16 = .ok (.iload_n 1, 1) := by decide +kernel
theorem dX7_requestOf_17 : decode cX7_requestOf 17 = .ok (.aload_n 0, 1) := by decide +kernel
theorem dX7_requestOf_18 : decode cX7_requestOf 18 = .ok (.getfield 7, 3) := by decide +kernel
theorem dX7_requestOf_21 : decode cX7_requestOf 21 = .ok (.bipush 8, 2) := by decide +kernel
theorem dX7_requestOf_23 : decode cX7_requestOf 23 = .ok (.iaload, 1) := by decide +kernel
theorem dX7_requestOf_24 : decode cX7_requestOf 24 = .ok (.if_icmp .ge 20, 3) := by decide +kernel
theorem dX7_requestOf_27 : decode cX7_requestOf 27 = .ok (.aload_n 0, 1) := by decide +kernel
theorem dX7_requestOf_28 : decode cX7_requestOf 28 = .ok (.getfield 7, 3) := by decide +kernel
theorem dX7_requestOf_31 : decode cX7_requestOf 31 = .ok (.sipush 228, 3) := by decide +kernel
theorem dX7_requestOf_34 : decode cX7_requestOf 34 = .ok (.iconst 3, 1) := by decide +kernel
theorem dX7_requestOf_35 : decode cX7_requestOf 35 = .ok (.iload_n 1, 1) := by decide +kernel
theorem dX7_requestOf_36 : decode cX7_requestOf 36 = .ok (.imul, 1) := by decide +kernel
theorem dX7_requestOf_37 : decode cX7_requestOf 37 = .ok (.iadd, 1) := by decide +kernel
theorem dX7_requestOf_38 : decode cX7_requestOf 38 = .ok (.iload_n 2, 1) := by decide +kernel
theorem dX7_requestOf_39 : decode cX7_requestOf 39 = .ok (.iadd, 1) := by decide +kernel
theorem dX7_requestOf_40 : decode cX7_requestOf 40 = .ok (.iaload, 1) := by decide +kernel
theorem dX7_requestOf_41 : decode cX7_requestOf 41 = .ok (.goto 5, 3) := by decide +kernel
theorem dX7_requestOf_44 : decode cX7_requestOf 44 = .ok (.ldc 136, 2) := by decide +kernel
theorem dX7_requestOf_46 : decode cX7_requestOf 46 = .ok (.ireturn, 1) := by decide +kernel
theorem dX7_nextBy_0 : decode cX7_nextBy 0 = .ok (.iload_n 1, 1) := by decide +kernel
theorem dX7_nextBy_1 : decode cX7_nextBy 1 = .ok (.iconst 0, 1) := by decide +kernel
theorem dX7_nextBy_2 : decode cX7_nextBy 2 = .ok (.iconst 3, 1) := by decide +kernel
theorem dX7_nextBy_3 : decode cX7_nextBy 3 = .ok (.invokestatic 26, 3) := by decide +kernel
theorem dX7_nextBy_6 : decode cX7_nextBy 6 = .ok (.ifCond .ne 6, 3) := by decide +kernel
theorem dX7_nextBy_9 : decode cX7_nextBy 9 = .ok (.ldc 30, 2) := by decide +kernel
theorem dX7_nextBy_11 : decode cX7_nextBy 11 = .ok (.ireturn, 1) := by decide +kernel
theorem dX7_nextBy_12 : decode cX7_nextBy 12 = .ok (.aload_n 0, 1) := by decide +kernel
theorem dX7_nextBy_13 : decode cX7_nextBy 13 = .ok (.iload_n 1, 1) := by decide +kernel
theorem dX7_nextBy_14 : decode cX7_nextBy 14 = .ok (.invokevirtual 115, 3) := by decide +kernel
theorem dX7_nextBy_17 : decode cX7_nextBy 17 = .ok (.istore_n 2, 1) := by decide +kernel
theorem dX7_nextBy_18 : decode cX7_nextBy 18 = .ok (.iload_n 2, 1) := by decide +kernel
theorem dX7_nextBy_19 : decode cX7_nextBy 19 = .ok (.ifCond .ge 8, 3) := by decide +kernel
theorem dX7_nextBy_22 : decode cX7_nextBy 22 = .ok (.ldc 136, 2) := by decide +kernel
theorem dX7_nextBy_24 : decode cX7_nextBy 24 = .ok (.goto 4, 3) := by decide +kernel
theorem dX7_nextBy_27 : decode cX7_nextBy 27 = .ok (.iload_n 2, 1) := by decide +kernel
theorem dX7_nextBy_28 : decode cX7_nextBy 28 = .ok (.ireturn, 1) := by decide +kernel
theorem dX7_would_0 : decode cX7_would 0 = .ok (.iload_n 1, 1) := by decide +kernel
theorem dX7_would_1 : decode cX7_would 1 = .ok (.iconst 0, 1) := by decide +kernel
theorem dX7_would_2 : decode cX7_would 2 = .ok (.iconst 3, 1) := by decide +kernel
theorem dX7_would_3 : decode cX7_would 3 = .ok (.invokestatic 26, 3) := by decide +kernel
theorem dX7_would_6 : decode cX7_would 6 = .ok (.ifCond .eq 12, 3) := by decide +kernel
theorem dX7_would_9 : decode cX7_would 9 = .ok (.iload_n 2, 1) := by decide +kernel
theorem dX7_would_10 : decode cX7_would 10 = .ok (.iconst 0, 1) := by decide +kernel
theorem dX7_would_11 : decode cX7_would 11 = .ok (.iconst 4, 1) := by decide +kernel
theorem dX7_would_12 : decode cX7_would 12 = .ok (.invokestatic 26, 3) := by decide +kernel
theorem dX7_would_15 : decode cX7_would 15 = .ok (.ifCond .ne 6, 3) := by decide +kernel
theorem dX7_would_18 : decode cX7_would 18 = .ok (.ldc 30, 2) := by decide +kernel
theorem dX7_would_20 : decode cX7_would 20 = .ok (.ireturn, 1) := by decide +kernel
theorem dX7_would_21 : decode cX7_would 21 = .ok (.aload_n 0, 1) := by decide +kernel
theorem dX7_would_22 : decode cX7_would 22 = .ok (.invokevirtual 140, 3) := by decide +kernel
theorem dX7_would_25 : decode cX7_would 25 = .ok (.aload_n 0, 1) := by decide +kernel
theorem dX7_would_26 : decode cX7_would 26 = .ok (.iload_n 1, 1) := by decide +kernel
theorem dX7_would_27 : decode cX7_would 27 = .ok (.invokevirtual 133, 3) := by decide +kernel
theorem dX7_would_30 : decode cX7_would 30 = .ok (.istore_n 3, 1) := by decide +kernel
theorem dX7_would_31 : decode cX7_would 31 = .ok (.aload_n 0, 1) := by decide +kernel
theorem dX7_would_32 : decode cX7_would 32 = .ok (.getfield 7, 3) := by decide +kernel
theorem dX7_would_35 : decode cX7_would 35 = .ok (.iconst 0, 1) := by decide +kernel
theorem dX7_would_36 : decode cX7_would 36 = .ok (.iaload, 1) := by decide +kernel
theorem dX7_would_37 : decode cX7_would 37 = .ok (.istore 4, 2) := by decide +kernel
theorem dX7_would_39 : decode cX7_would 39 = .ok (.aload_n 0, 1) := by decide +kernel
theorem dX7_would_40 : decode cX7_would 40 = .ok (.getfield 7, 3) := by decide +kernel
theorem dX7_would_43 : decode cX7_would 43 = .ok (.bipush 10, 2) := by decide +kernel
theorem dX7_would_45 : decode cX7_would 45 = .ok (.iaload, 1) := by decide +kernel
theorem dX7_would_46 : decode cX7_would 46 = .ok (.istore 5, 2) := by decide +kernel
theorem dX7_would_48 : decode cX7_would 48 = .ok (.aload_n 0, 1) := by decide +kernel
theorem dX7_would_49 : decode cX7_would 49 = .ok (.invokevirtual 143, 3) := by decide +kernel
theorem dX7_would_52 : decode cX7_would 52 = .ok (.iload_n 3, 1) := by decide +kernel
theorem dX7_would_53 : decode cX7_would 53 = .ok (.ldc 35, 2) := by decide +kernel
theorem dX7_would_55 : decode cX7_would 55 = .ok (.if_icmp .ne 6, 3) := by decide +kernel
theorem dX7_would_58 : decode cX7_would 58 = .ok (.ldc 35, 2) := by decide +kernel
theorem dX7_would_60 : decode cX7_would 60 = .ok (.ireturn, 1) := by decide +kernel
theorem dX7_would_61 : decode cX7_would 61 = .ok (.iload_n 2, 1) := by decide +kernel
theorem dX7_would_62 : decode cX7_would 62 = .ok (.tableswitch 58 0 3 #[30, 40, 51, 53], 30) := by decide +kernel
theorem dX7_would_92 : decode cX7_would 92 = .ok (.iload 4, 2) := by decide +kernel
theorem dX7_would_94 : decode cX7_would 94 = .ok (.aload_n 0, 1) := by decide +kernel
theorem dX7_would_95 : decode cX7_would 95 = .ok (.getfield 7, 3) := by decide +kernel
theorem dX7_would_98 : decode cX7_would 98 = .ok (.iconst 0, 1) := by decide +kernel
theorem dX7_would_99 : decode cX7_would 99 = .ok (.iaload, 1) := by decide +kernel
theorem dX7_would_100 : decode cX7_would 100 = .ok (.isub, 1) := by decide +kernel
theorem dX7_would_101 : decode cX7_would 101 = .ok (.ireturn, 1) := by decide +kernel
theorem dX7_would_102 : decode cX7_would 102 = .ok (.iload 5, 2) := by decide +kernel
theorem dX7_would_104 : decode cX7_would 104 = .ok (.aload_n 0, 1) := by decide +kernel
theorem dX7_would_105 : decode cX7_would 105 = .ok (.getfield 7, 3) := by decide +kernel
theorem dX7_would_108 : decode cX7_would 108 = .ok (.bipush 10, 2) := by decide +kernel
theorem dX7_would_110 : decode cX7_would 110 = .ok (.iaload, 1) := by decide +kernel
theorem dX7_would_111 : decode cX7_would 111 = .ok (.isub, 1) := by decide +kernel
theorem dX7_would_112 : decode cX7_would 112 = .ok (.ireturn, 1) := by decide +kernel
theorem dX7_would_113 : decode cX7_would 113 = .ok (.iload_n 3, 1) := by decide +kernel
theorem dX7_would_114 : decode cX7_would 114 = .ok (.ireturn, 1) := by decide +kernel
theorem dX7_would_115 : decode cX7_would 115 = .ok (.aload_n 0, 1) := by decide +kernel
theorem dX7_would_116 : decode cX7_would 116 = .ok (.getfield 124, 3) := by decide +kernel
theorem dX7_would_119 : decode cX7_would 119 = .ok (.ireturn, 1) := by decide +kernel
theorem dX7_would_120 : decode cX7_would 120 = .ok (.aload_n 0, 1) := by decide +kernel
theorem dX7_would_121 : decode cX7_would 121 = .ok (.getfield 127, 3) := by decide +kernel
theorem dX7_would_124 : decode cX7_would 124 = .ok (.ireturn, 1) := by decide +kernel
theorem dX7_wayTo_0 : decode cX7_wayTo 0 = .ok (.iload_n 1, 1) := by decide +kernel
theorem dX7_wayTo_1 : decode cX7_wayTo 1 = .ok (.iconst 0, 1) := by decide +kernel
theorem dX7_wayTo_2 : decode cX7_wayTo 2 = .ok (.bipush 7, 2) := by decide +kernel
theorem dX7_wayTo_4 : decode cX7_wayTo 4 = .ok (.invokestatic 26, 3) := by decide +kernel
theorem dX7_wayTo_7 : decode cX7_wayTo 7 = .ok (.ifCond .ne 6, 3) := by decide +kernel
theorem dX7_wayTo_10 : decode cX7_wayTo 10 = .ok (.ldc 30, 2) := by decide +kernel
theorem dX7_wayTo_12 : decode cX7_wayTo 12 = .ok (.ireturn, 1) := by decide +kernel
theorem dX7_wayTo_13 : decode cX7_wayTo 13 = .ok (.aload_n 0, 1) := by decide +kernel
theorem dX7_wayTo_14 : decode cX7_wayTo 14 = .ok (.invokevirtual 140, 3) := by decide +kernel
theorem dX7_wayTo_17 : decode cX7_wayTo 17 = .ok (.aload_n 0, 1) := by decide +kernel
theorem dX7_wayTo_18 : decode cX7_wayTo 18 = .ok (.iload_n 1, 1) := by decide +kernel
theorem dX7_wayTo_19 : decode cX7_wayTo 19 = .ok (.invokevirtual 130, 3) := by decide +kernel
theorem dX7_wayTo_22 : decode cX7_wayTo 22 = .ok (.aload_n 0, 1) := by decide +kernel
theorem dX7_wayTo_23 : decode cX7_wayTo 23 = .ok (.getfield 7, 3) := by decide +kernel
theorem dX7_wayTo_26 : decode cX7_wayTo 26 = .ok (.iconst 0, 1) := by decide +kernel
theorem dX7_wayTo_27 : decode cX7_wayTo 27 = .ok (.iaload, 1) := by decide +kernel
theorem dX7_wayTo_28 : decode cX7_wayTo 28 = .ok (.istore_n 2, 1) := by decide +kernel
theorem dX7_wayTo_29 : decode cX7_wayTo 29 = .ok (.aload_n 0, 1) := by decide +kernel
theorem dX7_wayTo_30 : decode cX7_wayTo 30 = .ok (.invokevirtual 143, 3) := by decide +kernel
theorem dX7_wayTo_33 : decode cX7_wayTo 33 = .ok (.iload_n 2, 1) := by decide +kernel
theorem dX7_wayTo_34 : decode cX7_wayTo 34 = .ok (.aload_n 0, 1) := by decide +kernel
theorem dX7_wayTo_35 : decode cX7_wayTo 35 = .ok (.getfield 7, 3) := by decide +kernel
theorem dX7_wayTo_38 : decode cX7_wayTo 38 = .ok (.iconst 0, 1) := by decide +kernel
theorem dX7_wayTo_39 : decode cX7_wayTo 39 = .ok (.iaload, 1) := by decide +kernel
theorem dX7_wayTo_40 : decode cX7_wayTo 40 = .ok (.isub, 1) := by decide +kernel
theorem dX7_wayTo_41 : decode cX7_wayTo 41 = .ok (.ireturn, 1) := by decide +kernel
theorem dX7_wholeBatch_0 : decode cX7_wholeBatch 0 = .ok (.iload_n 1, 1) := by decide +kernel
theorem dX7_wholeBatch_1 : decode cX7_wholeBatch 1 = .ok (.iconst 0, 1) := by decide +kernel
theorem dX7_wholeBatch_2 : decode cX7_wholeBatch 2 = .ok (.iconst 3, 1) := by decide +kernel
theorem dX7_wholeBatch_3 : decode cX7_wholeBatch 3 = .ok (.invokestatic 26, 3) := by decide +kernel
theorem dX7_wholeBatch_6 : decode cX7_wholeBatch 6 = .ok (.ifCond .eq 12, 3) := by decide +kernel
theorem dX7_wholeBatch_9 : decode cX7_wholeBatch 9 = .ok (.iload_n 2, 1) := by decide +kernel
theorem dX7_wholeBatch_10 : decode cX7_wholeBatch 10 = .ok (.iconst 0, 1) := by decide +kernel
theorem dX7_wholeBatch_11 : decode cX7_wholeBatch 11 = .ok (.iconst 2, 1) := by decide +kernel
theorem dX7_wholeBatch_12 : decode cX7_wholeBatch 12 = .ok (.invokestatic 26, 3) := by decide +kernel
theorem dX7_wholeBatch_15 : decode cX7_wholeBatch 15 = .ok (.ifCond .ne 6, 3) := by decide +kernel
theorem dX7_wholeBatch_18 : decode cX7_wholeBatch 18 = .ok (.ldc 30, 2) := by decide +kernel
theorem dX7_wholeBatch_20 : decode cX7_wholeBatch 20 = .ok (.ireturn, 1) := by decide +kernel
theorem dX7_wholeBatch_21 : decode cX7_wholeBatch 21 = .ok (.aload_n 0, 1) := by decide +kernel
theorem dX7_wholeBatch_22 : decode cX7_wholeBatch 22 = .ok (.invokevirtual 140, 3) := by decide +kernel
theorem dX7_wholeBatch_25 : decode cX7_wholeBatch 25 = .ok (.iconst 0, 1) := by decide +kernel
theorem dX7_wholeBatch_26 : decode cX7_wholeBatch 26 = .ok (.istore_n 3, 1) := by decide +kernel
theorem dX7_wholeBatch_27 : decode cX7_wholeBatch 27 = .ok (.aload_n 0, 1) := by decide +kernel
theorem dX7_wholeBatch_28 : decode cX7_wholeBatch 28 = .ok (.getfield 7, 3) := by decide +kernel
theorem dX7_wholeBatch_31 : decode cX7_wholeBatch 31 = .ok (.bipush 8, 2) := by decide +kernel
theorem dX7_wholeBatch_33 : decode cX7_wholeBatch 33 = .ok (.iaload, 1) := by decide +kernel
theorem dX7_wholeBatch_34 : decode cX7_wholeBatch 34 = .ok (.ifCond .le 17, 3) := by decide +kernel
theorem dX7_wholeBatch_37 : decode cX7_wholeBatch 37 = .ok (.aload_n 0, 1) := by decide +kernel
theorem dX7_wholeBatch_38 : decode cX7_wholeBatch 38 = .ok (.iload_n 1, 1) := by decide +kernel
theorem dX7_wholeBatch_39 : decode cX7_wholeBatch 39 = .ok (.invokevirtual 133, 3) := by decide +kernel
theorem dX7_wholeBatch_42 : decode cX7_wholeBatch 42 = .ok (.ifCond .lt 9, 3) := by decide +kernel
theorem dX7_wholeBatch_45 : decode cX7_wholeBatch 45 = .ok (.iinc 3 1, 3) := by decide +kernel
theorem dX7_wholeBatch_48 : decode cX7_wholeBatch 48 = .ok (.goto (-21), 3) := by decide +kernel
theorem dX7_wholeBatch_51 : decode cX7_wholeBatch 51 = .ok (.aload_n 0, 1) := by decide +kernel
theorem dX7_wholeBatch_52 : decode cX7_wholeBatch 52 = .ok (.getfield 7, 3) := by decide +kernel
theorem dX7_wholeBatch_55 : decode cX7_wholeBatch 55 = .ok (.iconst 0, 1) := by decide +kernel
theorem dX7_wholeBatch_56 : decode cX7_wholeBatch 56 = .ok (.iaload, 1) := by decide +kernel
theorem dX7_wholeBatch_57 : decode cX7_wholeBatch 57 = .ok (.istore 4, 2) := by decide +kernel
theorem dX7_wholeBatch_59 : decode cX7_wholeBatch 59 = .ok (.aload_n 0, 1) := by decide +kernel
theorem dX7_wholeBatch_60 : decode cX7_wholeBatch 60 = .ok (.getfield 7, 3) := by decide +kernel
theorem dX7_wholeBatch_63 : decode cX7_wholeBatch 63 = .ok (.bipush 8, 2) := by decide +kernel
theorem dX7_wholeBatch_65 : decode cX7_wholeBatch 65 = .ok (.iaload, 1) := by decide +kernel
theorem dX7_wholeBatch_66 : decode cX7_wholeBatch 66 = .ok (.istore 5, 2) := by decide +kernel
theorem dX7_wholeBatch_68 : decode cX7_wholeBatch 68 = .ok (.aload_n 0, 1) := by decide +kernel
theorem dX7_wholeBatch_69 : decode cX7_wholeBatch 69 = .ok (.invokevirtual 143, 3) := by decide +kernel
theorem dX7_wholeBatch_72 : decode cX7_wholeBatch 72 = .ok (.iload_n 2, 1) := by decide +kernel
theorem dX7_wholeBatch_73 : decode cX7_wholeBatch 73 = .ok (.ifCond .ne 15, 3) := by decide +kernel
theorem dX7_wholeBatch_76 : decode cX7_wholeBatch 76 = .ok (.iload 4, 2) := by decide +kernel
theorem dX7_wholeBatch_78 : decode cX7_wholeBatch 78 = .ok (.aload_n 0, 1) := by decide +kernel
theorem dX7_wholeBatch_79 : decode cX7_wholeBatch 79 = .ok (.getfield 7, 3) := by decide +kernel
theorem dX7_wholeBatch_82 : decode cX7_wholeBatch 82 = .ok (.iconst 0, 1) := by decide +kernel
theorem dX7_wholeBatch_83 : decode cX7_wholeBatch 83 = .ok (.iaload, 1) := by decide +kernel
theorem dX7_wholeBatch_84 : decode cX7_wholeBatch 84 = .ok (.isub, 1) := by decide +kernel
theorem dX7_wholeBatch_85 : decode cX7_wholeBatch 85 = .ok (.goto 14, 3) := by decide +kernel
theorem dX7_wholeBatch_88 : decode cX7_wholeBatch 88 = .ok (.iload_n 2, 1) := by decide +kernel
theorem dX7_wholeBatch_89 : decode cX7_wholeBatch 89 = .ok (.iconst 1, 1) := by decide +kernel
theorem dX7_wholeBatch_90 : decode cX7_wholeBatch 90 = .ok (.if_icmp .ne 7, 3) := by decide +kernel
theorem dX7_wholeBatch_93 : decode cX7_wholeBatch 93 = .ok (.iload_n 3, 1) := by decide +kernel
theorem dX7_wholeBatch_94 : decode cX7_wholeBatch 94 = .ok (.goto 5, 3) := by decide +kernel
theorem dX7_wholeBatch_97 : decode cX7_wholeBatch 97 = .ok (.iload 5, 2) := by decide +kernel
theorem dX7_wholeBatch_99 : decode cX7_wholeBatch 99 = .ok (.ireturn, 1) := by decide +kernel
theorem dX7_worn_0 : decode cX7_worn 0 = .ok (.iconst 0, 1) := by decide +kernel
theorem dX7_worn_1 : decode cX7_worn 1 = .ok (.istore_n 1, 1) := by decide +kernel
theorem dX7_worn_2 : decode cX7_worn 2 = .ok (.iconst 0, 1) := by decide +kernel
theorem dX7_worn_3 : decode cX7_worn 3 = .ok (.istore_n 2, 1) := by decide +kernel
theorem dX7_worn_4 : decode cX7_worn 4 = .ok (.iload_n 2, 1) := by decide +kernel
theorem dX7_worn_5 : decode cX7_worn 5 = .ok (.aload_n 0, 1) := by decide +kernel
theorem dX7_worn_6 : decode cX7_worn 6 = .ok (.getfield 7, 3) := by decide +kernel
theorem dX7_worn_9 : decode cX7_worn 9 = .ok (.bipush 7, 2) := by decide +kernel
theorem dX7_worn_11 : decode cX7_worn 11 = .ok (.iaload, 1) := by decide +kernel
theorem dX7_worn_12 : decode cX7_worn 12 = .ok (.if_icmp .ge 28, 3) := by decide +kernel
theorem dX7_worn_15 : decode cX7_worn 15 = .ok (.iload_n 1, 1) := by decide +kernel
theorem dX7_worn_16 : decode cX7_worn 16 = .ok (.aload_n 0, 1) := by decide +kernel
theorem dX7_worn_17 : decode cX7_worn 17 = .ok (.iload_n 2, 1) := by decide +kernel
theorem dX7_worn_18 : decode cX7_worn 18 = .ok (.iconst 1, 1) := by decide +kernel
theorem dX7_worn_19 : decode cX7_worn 19 = .ok (.invokevirtual 44, 3) := by decide +kernel
theorem dX7_worn_22 : decode cX7_worn 22 = .ok (.bipush 6, 2) := by decide +kernel
theorem dX7_worn_24 : decode cX7_worn 24 = .ok (.if_icmp .lt 7, 3) := by decide +kernel
theorem dX7_worn_27 : decode cX7_worn 27 = .ok (.iconst 1, 1) := by decide +kernel
theorem dX7_worn_28 : decode cX7_worn 28 = .ok (.goto 4, 3) := by decide +kernel
theorem dX7_worn_31 : decode cX7_worn 31 = .ok (.iconst 0, 1) := by decide +kernel
theorem dX7_worn_32 : decode cX7_worn 32 = .ok (.iadd, 1) := by decide +kernel
theorem dX7_worn_33 : decode cX7_worn 33 = .ok (.istore_n 1, 1) := by decide +kernel
theorem dX7_worn_34 : decode cX7_worn 34 = .ok (.iinc 2 1, 3) := by decide +kernel
theorem dX7_worn_37 : decode cX7_worn 37 = .ok (.goto (-33), 3) := by decide +kernel
theorem dX7_worn_40 : decode cX7_worn 40 = .ok (.iload_n 1, 1) := by decide +kernel
theorem dX7_worn_41 : decode cX7_worn 41 = .ok (.ireturn, 1) := by decide +kernel
theorem dX7_count_0 : decode cX7_count 0 = .ok (.iload_n 1, 1) := by decide +kernel
theorem dX7_count_1 : decode cX7_count 1 = .ok (.tableswitch 164 0 15 #[79, 79, 79, 86, 91, 99, 107, 112, 117, 117, 117, 124, 124, 145, 154, 159], 79) := by decide +kernel
theorem dX7_count_80 : decode cX7_count 80 = .ok (.aload_n 0, 1) := by decide +kernel
theorem dX7_count_81 : decode cX7_count 81 = .ok (.getfield 7, 3) := by decide +kernel
theorem dX7_count_84 : decode cX7_count 84 = .ok (.iload_n 1, 1) := by decide +kernel
theorem dX7_count_85 : decode cX7_count 85 = .ok (.iaload, 1) := by decide +kernel
theorem dX7_count_86 : decode cX7_count 86 = .ok (.ireturn, 1) := by decide +kernel
theorem dX7_count_87 : decode cX7_count 87 = .ok (.aload_n 0, 1) := by decide +kernel
theorem dX7_count_88 : decode cX7_count 88 = .ok (.invokevirtual 63, 3) := by decide +kernel
end
section
-- printed decode rows
theorem dX7_count_91 : decode cX7_count 91 = .ok (.ireturn, 1) := by decide +kernel
theorem dX7_count_92 : decode cX7_count 92 = .ok (.aload_n 0, 1) := by decide +kernel
theorem dX7_count_93 : decode cX7_count 93 = .ok (.getfield 7, 3) := by decide +kernel
theorem dX7_count_96 : decode cX7_count 96 = .ok (.bipush 6, 2) := by decide +kernel
theorem dX7_count_98 : decode cX7_count 98 = .ok (.iaload, 1) := by decide +kernel
theorem dX7_count_99 : decode cX7_count 99 = .ok (.ireturn, 1) := by decide +kernel
theorem dX7_count_100 : decode cX7_count 100 = .ok (.aload_n 0, 1) := by decide +kernel
theorem dX7_count_101 : decode cX7_count 101 = .ok (.getfield 7, 3) := by decide +kernel
theorem dX7_count_104 : decode cX7_count 104 = .ok (.bipush 7, 2) := by decide +kernel
theorem dX7_count_106 : decode cX7_count 106 = .ok (.iaload, 1) := by decide +kernel
theorem dX7_count_107 : decode cX7_count 107 = .ok (.ireturn, 1) := by decide +kernel
theorem dX7_count_108 : decode cX7_count 108 = .ok (.aload_n 0, 1) := by decide +kernel
theorem dX7_count_109 : decode cX7_count 109 = .ok (.invokevirtual 59, 3) := by decide +kernel
theorem dX7_count_112 : decode cX7_count 112 = .ok (.ireturn, 1) := by decide +kernel
theorem dX7_count_113 : decode cX7_count 113 = .ok (.aload_n 0, 1) := by decide +kernel
theorem dX7_count_114 : decode cX7_count 114 = .ok (.invokevirtual 146, 3) := by decide +kernel
theorem dX7_count_117 : decode cX7_count 117 = .ok (.ireturn, 1) := by decide +kernel
theorem dX7_count_118 : decode cX7_count 118 = .ok (.aload_n 0, 1) := by decide +kernel
theorem dX7_count_119 : decode cX7_count 119 = .ok (.getfield 7, 3) := by decide +kernel
theorem dX7_count_122 : decode cX7_count 122 = .ok (.iload_n 1, 1) := by decide +kernel
theorem dX7_count_123 : decode cX7_count 123 = .ok (.iaload, 1) := by decide +kernel
theorem dX7_count_124 : decode cX7_count 124 = .ok (.ireturn, 1) := by decide +kernel
theorem dX7_count_125 : decode cX7_count 125 = .ok (.aload_n 0, 1) := by decide +kernel
theorem dX7_count_126 : decode cX7_count 126 = .ok (.getfield 7, 3) := by decide +kernel
theorem dX7_count_129 : decode cX7_count 129 = .ok (.iload_n 1, 1) := by decide +kernel
theorem dX7_count_130 : decode cX7_count 130 = .ok (.iaload, 1) := by decide +kernel
theorem dX7_count_131 : decode cX7_count 131 = .ok (.ifCond .ge 8, 3) := by decide +kernel
theorem dX7_count_134 : decode cX7_count 134 = .ok (.ldc 136, 2) := by decide +kernel
theorem dX7_count_136 : decode cX7_count 136 = .ok (.goto 9, 3) := by decide +kernel
theorem dX7_count_139 : decode cX7_count 139 = .ok (.aload_n 0, 1) := by decide +kernel
theorem dX7_count_140 : decode cX7_count 140 = .ok (.getfield 7, 3) := by decide +kernel
theorem dX7_count_143 : decode cX7_count 143 = .ok (.iload_n 1, 1) := by decide +kernel
theorem dX7_count_144 : decode cX7_count 144 = .ok (.iaload, 1) := by decide +kernel
theorem dX7_count_145 : decode cX7_count 145 = .ok (.ireturn, 1) := by decide +kernel
theorem dX7_count_146 : decode cX7_count 146 = .ok (.bipush 60, 2) := by decide +kernel
theorem dX7_count_148 : decode cX7_count 148 = .ok (.aload_n 0, 1) := by decide +kernel
theorem dX7_count_149 : decode cX7_count 149 = .ok (.iconst (-1), 1) := by decide +kernel
theorem dX7_count_150 : decode cX7_count 150 = .ok (.invokevirtual 100, 3) := by decide +kernel
theorem dX7_count_153 : decode cX7_count 153 = .ok (.isub, 1) := by decide +kernel
theorem dX7_count_154 : decode cX7_count 154 = .ok (.ireturn, 1) := by decide +kernel
theorem dX7_count_155 : decode cX7_count 155 = .ok (.aload_n 0, 1) := by decide +kernel
theorem dX7_count_156 : decode cX7_count 156 = .ok (.getfield 31, 3) := by decide +kernel
theorem dX7_count_159 : decode cX7_count 159 = .ok (.ireturn, 1) := by decide +kernel
theorem dX7_count_160 : decode cX7_count 160 = .ok (.aload_n 0, 1) := by decide +kernel
theorem dX7_count_161 : decode cX7_count 161 = .ok (.getfield 149, 3) := by decide +kernel
theorem dX7_count_164 : decode cX7_count 164 = .ok (.ireturn, 1) := by decide +kernel
theorem dX7_count_165 : decode cX7_count 165 = .ok (.ldc 30, 2) := by decide +kernel
theorem dX7_count_167 : decode cX7_count 167 = .ok (.ireturn, 1) := by decide +kernel
theorem dX7_undo_0 : decode cX7_undo 0 = .ok (.aload_n 0, 1) := by decide +kernel
theorem dX7_undo_1 : decode cX7_undo 1 = .ok (.getfield 31, 3) := by decide +kernel
theorem dX7_undo_4 : decode cX7_undo 4 = .ok (.ifCond .ne 6, 3) := by decide +kernel
theorem dX7_undo_7 : decode cX7_undo 7 = .ok (.ldc 35, 2) := by decide +kernel
theorem dX7_undo_9 : decode cX7_undo 9 = .ok (.ireturn, 1) := by decide +kernel
theorem dX7_undo_10 : decode cX7_undo 10 = .ok (.aload_n 0, 1) := by decide +kernel
theorem dX7_undo_11 : decode cX7_undo 11 = .ok (.dup, 1) := by decide +kernel
theorem dX7_undo_12 : decode cX7_undo 12 = .ok (.getfield 31, 3) := by decide +kernel
theorem dX7_undo_15 : decode cX7_undo 15 = .ok (.iconst 1, 1) := by decide +kernel
theorem dX7_undo_16 : decode cX7_undo 16 = .ok (.isub, 1) := by decide +kernel
theorem dX7_undo_17 : decode cX7_undo 17 = .ok (.putfield 31, 3) := by decide +kernel
theorem dX7_undo_20 : decode cX7_undo 20 = .ok (.iconst 0, 1) := by decide +kernel
theorem dX7_undo_21 : decode cX7_undo 21 = .ok (.istore_n 1, 1) := by decide +kernel
theorem dX7_undo_22 : decode cX7_undo 22 = .ok (.iload_n 1, 1) := by decide +kernel
theorem dX7_undo_23 : decode cX7_undo 23 = .ok (.sipush 264, 3) := by decide +kernel
theorem dX7_undo_26 : decode cX7_undo 26 = .ok (.if_icmp .ge 30, 3) := by decide +kernel
theorem dX7_undo_29 : decode cX7_undo 29 = .ok (.aload_n 0, 1) := by decide +kernel
theorem dX7_undo_30 : decode cX7_undo 30 = .ok (.getfield 7, 3) := by decide +kernel
theorem dX7_undo_33 : decode cX7_undo 33 = .ok (.iload_n 1, 1) := by decide +kernel
theorem dX7_undo_34 : decode cX7_undo 34 = .ok (.aload_n 0, 1) := by decide +kernel
theorem dX7_undo_35 : decode cX7_undo 35 = .ok (.getfield 13, 3) := by decide +kernel
theorem dX7_undo_38 : decode cX7_undo 38 = .ok (.sipush 264, 3) := by decide +kernel
theorem dX7_undo_41 : decode cX7_undo 41 = .ok (.aload_n 0, 1) := by decide +kernel
theorem dX7_undo_42 : decode cX7_undo 42 = .ok (.getfield 31, 3) := by decide +kernel
theorem dX7_undo_45 : decode cX7_undo 45 = .ok (.imul, 1) := by decide +kernel
theorem dX7_undo_46 : decode cX7_undo 46 = .ok (.iload_n 1, 1) := by decide +kernel
theorem dX7_undo_47 : decode cX7_undo 47 = .ok (.iadd, 1) := by decide +kernel
theorem dX7_undo_48 : decode cX7_undo 48 = .ok (.iaload, 1) := by decide +kernel
theorem dX7_undo_49 : decode cX7_undo 49 = .ok (.iastore, 1) := by decide +kernel
theorem dX7_undo_50 : decode cX7_undo 50 = .ok (.iinc 1 1, 3) := by decide +kernel
theorem dX7_undo_53 : decode cX7_undo 53 = .ok (.goto (-31), 3) := by decide +kernel
theorem dX7_undo_56 : decode cX7_undo 56 = .ok (.aload_n 0, 1) := by decide +kernel
theorem dX7_undo_57 : decode cX7_undo 57 = .ok (.getfield 31, 3) := by decide +kernel
theorem dX7_undo_60 : decode cX7_undo 60 = .ok (.ireturn, 1) := by decide +kernel
theorem dX7_type_0 : decode cX7_type 0 = .ok (.iload_n 1, 1) := by decide +kernel
theorem dX7_type_1 : decode cX7_type 1 = .ok (.bipush 32, 2) := by decide +kernel
theorem dX7_type_3 : decode cX7_type 3 = .ok (.bipush 126, 2) := by decide +kernel
theorem dX7_type_5 : decode cX7_type 5 = .ok (.invokestatic 26, 3) := by decide +kernel
theorem dX7_type_8 : decode cX7_type 8 = .ok (.ifCond .ne 6, 3) := by decide +kernel
theorem dX7_type_11 : decode cX7_type 11 = .ok (.ldc 30, 2) := by decide +kernel
theorem dX7_type_13 : decode cX7_type 13 = .ok (.ireturn, 1) := by decide +kernel
theorem dX7_type_14 : decode cX7_type 14 = .ok (.aload_n 0, 1) := by decide +kernel
theorem dX7_type_15 : decode cX7_type 15 = .ok (.getfield 149, 3) := by decide +kernel
theorem dX7_type_18 : decode cX7_type 18 = .ok (.bipush 60, 2) := by decide +kernel
theorem dX7_type_20 : decode cX7_type 20 = .ok (.if_icmp .ne 6, 3) := by decide +kernel
theorem dX7_type_23 : decode cX7_type 23 = .ok (.ldc 36, 2) := by decide +kernel
theorem dX7_type_25 : decode cX7_type 25 = .ok (.ireturn, 1) := by decide +kernel
theorem dX7_type_26 : decode cX7_type 26 = .ok (.aload_n 0, 1) := by decide +kernel
theorem dX7_type_27 : decode cX7_type 27 = .ok (.getfield 22, 3) := by decide +kernel
theorem dX7_type_30 : decode cX7_type 30 = .ok (.aload_n 0, 1) := by decide +kernel
theorem dX7_type_31 : decode cX7_type 31 = .ok (.getfield 149, 3) := by decide +kernel
theorem dX7_type_34 : decode cX7_type 34 = .ok (.iload_n 1, 1) := by decide +kernel
theorem dX7_type_35 : decode cX7_type 35 = .ok (.i2c, 1) := by decide +kernel
theorem dX7_type_36 : decode cX7_type 36 = .ok (.castore, 1) := by decide +kernel
theorem dX7_type_37 : decode cX7_type 37 = .ok (.aload_n 0, 1) := by decide +kernel
theorem dX7_type_38 : decode cX7_type 38 = .ok (.dup, 1) := by decide +kernel
theorem dX7_type_39 : decode cX7_type 39 = .ok (.getfield 149, 3) := by decide +kernel
theorem dX7_type_42 : decode cX7_type 42 = .ok (.iconst 1, 1) := by decide +kernel
theorem dX7_type_43 : decode cX7_type 43 = .ok (.iadd, 1) := by decide +kernel
theorem dX7_type_44 : decode cX7_type 44 = .ok (.putfield 149, 3) := by decide +kernel
theorem dX7_type_47 : decode cX7_type 47 = .ok (.aload_n 0, 1) := by decide +kernel
theorem dX7_type_48 : decode cX7_type 48 = .ok (.getfield 149, 3) := by decide +kernel
theorem dX7_type_51 : decode cX7_type 51 = .ok (.ireturn, 1) := by decide +kernel
theorem dX7_clearText_0 : decode cX7_clearText 0 = .ok (.aload_n 0, 1) := by decide +kernel
theorem dX7_clearText_1 : decode cX7_clearText 1 = .ok (.getfield 149, 3) := by decide +kernel
theorem dX7_clearText_4 : decode cX7_clearText 4 = .ok (.istore_n 1, 1) := by decide +kernel
theorem dX7_clearText_5 : decode cX7_clearText 5 = .ok (.aload_n 0, 1) := by decide +kernel
theorem dX7_clearText_6 : decode cX7_clearText 6 = .ok (.iconst 0, 1) := by decide +kernel
theorem dX7_clearText_7 : decode cX7_clearText 7 = .ok (.putfield 149, 3) := by decide +kernel
theorem dX7_clearText_10 : decode cX7_clearText 10 = .ok (.iload_n 1, 1) := by decide +kernel
theorem dX7_clearText_11 : decode cX7_clearText 11 = .ok (.ireturn, 1) := by decide +kernel
theorem dX7_sign_0 : decode cX7_sign 0 = .ok (.aload_n 0, 1) := by decide +kernel
theorem dX7_sign_1 : decode cX7_sign 1 = .ok (.getfield 152, 3) := by decide +kernel
theorem dX7_sign_4 : decode cX7_sign 4 = .ok (.aload_n 0, 1) := by decide +kernel
theorem dX7_sign_5 : decode cX7_sign 5 = .ok (.getfield 149, 3) := by decide +kernel
theorem dX7_sign_8 : decode cX7_sign 8 = .ok (.if_icmp .ge 15, 3) := by decide +kernel
theorem dX7_sign_11 : decode cX7_sign 11 = .ok (.aload_n 0, 1) := by decide +kernel
theorem dX7_sign_12 : decode cX7_sign 12 = .ok (.getfield 22, 3) := by decide +kernel
theorem dX7_sign_15 : decode cX7_sign 15 = .ok (.aload_n 0, 1) := by decide +kernel
theorem dX7_sign_16 : decode cX7_sign 16 = .ok (.getfield 152, 3) := by decide +kernel
theorem dX7_sign_19 : decode cX7_sign 19 = .ok (.caload, 1) := by decide +kernel
theorem dX7_sign_20 : decode cX7_sign 20 = .ok (.goto 4, 3) := by decide +kernel
theorem dX7_sign_23 : decode cX7_sign 23 = .ok (.iconst (-1), 1) := by decide +kernel
theorem dX7_sign_24 : decode cX7_sign 24 = .ok (.ireturn, 1) := by decide +kernel
theorem dX7_isWord_0 : decode cX7_isWord 0 = .ok (.iload 4, 2) := by decide +kernel
theorem dX7_isWord_2 : decode cX7_isWord 2 = .ok (.bipush 32, 2) := by decide +kernel
theorem dX7_isWord_4 : decode cX7_isWord 4 = .ok (.if_icmp .ne 7, 3) := by decide +kernel
theorem dX7_isWord_7 : decode cX7_isWord 7 = .ok (.iconst 2, 1) := by decide +kernel
theorem dX7_isWord_8 : decode cX7_isWord 8 = .ok (.goto 26, 3) := by decide +kernel
theorem dX7_isWord_11 : decode cX7_isWord 11 = .ok (.iload 5, 2) := by decide +kernel
theorem dX7_isWord_13 : decode cX7_isWord 13 = .ok (.bipush 32, 2) := by decide +kernel
theorem dX7_isWord_15 : decode cX7_isWord 15 = .ok (.if_icmp .ne 7, 3) := by decide +kernel
theorem dX7_isWord_18 : decode cX7_isWord 18 = .ok (.iconst 3, 1) := by decide +kernel
theorem dX7_isWord_19 : decode cX7_isWord 19 = .ok (.goto 15, 3) := by decide +kernel
theorem dX7_isWord_22 : decode cX7_isWord 22 = .ok (.iload 6, 2) := by decide +kernel
theorem dX7_isWord_24 : decode cX7_isWord 24 = .ok (.bipush 32, 2) := by decide +kernel
theorem dX7_isWord_26 : decode cX7_isWord 26 = .ok (.if_icmp .ne 7, 3) := by decide +kernel
theorem dX7_isWord_29 : decode cX7_isWord 29 = .ok (.iconst 4, 1) := by decide +kernel
theorem dX7_isWord_30 : decode cX7_isWord 30 = .ok (.goto 4, 3) := by decide +kernel
theorem dX7_isWord_33 : decode cX7_isWord 33 = .ok (.iconst 5, 1) := by decide +kernel
theorem dX7_isWord_34 : decode cX7_isWord 34 = .ok (.istore 7, 2) := by decide +kernel
theorem dX7_isWord_36 : decode cX7_isWord 36 = .ok (.aload_n 0, 1) := by decide +kernel
theorem dX7_isWord_37 : decode cX7_isWord 37 = .ok (.getfield 152, 3) := by decide +kernel
theorem dX7_isWord_40 : decode cX7_isWord 40 = .ok (.iload_n 1, 1) := by decide +kernel
theorem dX7_isWord_41 : decode cX7_isWord 41 = .ok (.isub, 1) := by decide +kernel
theorem dX7_isWord_42 : decode cX7_isWord 42 = .ok (.iload 7, 2) := by decide +kernel
theorem dX7_isWord_44 : decode cX7_isWord 44 = .ok (.if_icmp .ne 7, 3) := by decide +kernel
theorem dX7_isWord_47 : decode cX7_isWord 47 = .ok (.iconst 1, 1) := by decide +kernel
theorem dX7_isWord_48 : decode cX7_isWord 48 = .ok (.goto 4, 3) := by decide +kernel
theorem dX7_isWord_51 : decode cX7_isWord 51 = .ok (.iconst 0, 1) := by decide +kernel
theorem dX7_isWord_52 : decode cX7_isWord 52 = .ok (.istore 8, 2) := by decide +kernel
theorem dX7_isWord_54 : decode cX7_isWord 54 = .ok (.iload 8, 2) := by decide +kernel
theorem dX7_isWord_56 : decode cX7_isWord 56 = .ok (.ifCond .eq 49, 3) := by decide +kernel
theorem dX7_isWord_59 : decode cX7_isWord 59 = .ok (.aload_n 0, 1) := by decide +kernel
theorem dX7_isWord_60 : decode cX7_isWord 60 = .ok (.getfield 22, 3) := by decide +kernel
theorem dX7_isWord_63 : decode cX7_isWord 63 = .ok (.iload_n 1, 1) := by decide +kernel
theorem dX7_isWord_64 : decode cX7_isWord 64 = .ok (.caload, 1) := by decide +kernel
theorem dX7_isWord_65 : decode cX7_isWord 65 = .ok (.iload_n 2, 1) := by decide +kernel
theorem dX7_isWord_66 : decode cX7_isWord 66 = .ok (.if_icmp .ne 39, 3) := by decide +kernel
theorem dX7_isWord_69 : decode cX7_isWord 69 = .ok (.aload_n 0, 1) := by decide +kernel
theorem dX7_isWord_70 : decode cX7_isWord 70 = .ok (.getfield 22, 3) := by decide +kernel
theorem dX7_isWord_73 : decode cX7_isWord 73 = .ok (.iload_n 1, 1) := by decide +kernel
theorem dX7_isWord_74 : decode cX7_isWord 74 = .ok (.iconst 1, 1) := by decide +kernel
theorem dX7_isWord_75 : decode cX7_isWord 75 = .ok (.iadd, 1) := by decide +kernel
theorem dX7_isWord_76 : decode cX7_isWord 76 = .ok (.caload, 1) := by decide +kernel
theorem dX7_isWord_77 : decode cX7_isWord 77 = .ok (.iload_n 3, 1) := by decide +kernel
theorem dX7_isWord_78 : decode cX7_isWord 78 = .ok (.if_icmp .ne 27, 3) := by decide +kernel
theorem dX7_isWord_81 : decode cX7_isWord 81 = .ok (.iload 4, 2) := by decide +kernel
theorem dX7_isWord_83 : decode cX7_isWord 83 = .ok (.bipush 32, 2) := by decide +kernel
theorem dX7_isWord_85 : decode cX7_isWord 85 = .ok (.if_icmp .eq 16, 3) := by decide +kernel
theorem dX7_isWord_88 : decode cX7_isWord 88 = .ok (.aload_n 0, 1) := by decide +kernel
theorem dX7_isWord_89 : decode cX7_isWord 89 = .ok (.getfield 22, 3) := by decide +kernel
theorem dX7_isWord_92 : decode cX7_isWord 92 = .ok (.iload_n 1, 1) := by decide +kernel
theorem dX7_isWord_93 : decode cX7_isWord 93 = .ok (.iconst 2, 1) := by decide +kernel
theorem dX7_isWord_94 : decode cX7_isWord 94 = .ok (.iadd, 1) := by decide +kernel
theorem dX7_isWord_95 : decode cX7_isWord 95 = .ok (.caload, 1) := by decide +kernel
theorem dX7_isWord_96 : decode cX7_isWord 96 = .ok (.iload 4, 2) := by decide +kernel
theorem dX7_isWord_98 : decode cX7_isWord 98 = .ok (.if_icmp .ne 7, 3) := by decide +kernel
theorem dX7_isWord_101 : decode cX7_isWord 101 = .ok (.iconst 1, 1) := by decide +kernel
theorem dX7_isWord_102 : decode cX7_isWord 102 = .ok (.goto 4, 3) := by decide +kernel
theorem dX7_isWord_105 : decode cX7_isWord 105 = .ok (.iconst 0, 1) := by decide +kernel
theorem dX7_isWord_106 : decode cX7_isWord 106 = .ok (.istore 8, 2) := by decide +kernel
theorem dX7_isWord_108 : decode cX7_isWord 108 = .ok (.iload 8, 2) := by decide +kernel
theorem dX7_isWord_110 : decode cX7_isWord 110 = .ok (.ifCond .eq 47, 3) := by decide +kernel
theorem dX7_isWord_113 : decode cX7_isWord 113 = .ok (.iload 5, 2) := by decide +kernel
theorem dX7_isWord_115 : decode cX7_isWord 115 = .ok (.bipush 32, 2) := by decide +kernel
theorem dX7_isWord_117 : decode cX7_isWord 117 = .ok (.if_icmp .eq 16, 3) := by decide +kernel
theorem dX7_isWord_120 : decode cX7_isWord 120 = .ok (.aload_n 0, 1) := by decide +kernel
theorem dX7_isWord_121 : decode cX7_isWord 121 = .ok (.getfield 22, 3) := by decide +kernel
theorem dX7_isWord_124 : decode cX7_isWord 124 = .ok (.iload_n 1, 1) := by decide +kernel
theorem dX7_isWord_125 : decode cX7_isWord 125 = .ok (.iconst 3, 1) := by decide +kernel
theorem dX7_isWord_126 : decode cX7_isWord 126 = .ok (.iadd, 1) := by decide +kernel
theorem dX7_isWord_127 : decode cX7_isWord 127 = .ok (.caload, 1) := by decide +kernel
theorem dX7_isWord_128 : decode cX7_isWord 128 = .ok (.iload 5, 2) := by decide +kernel
theorem dX7_isWord_130 : decode cX7_isWord 130 = .ok (.if_icmp .ne 27, 3) := by decide +kernel
theorem dX7_isWord_133 : decode cX7_isWord 133 = .ok (.iload 6, 2) := by decide +kernel
theorem dX7_isWord_135 : decode cX7_isWord 135 = .ok (.bipush 32, 2) := by decide +kernel
theorem dX7_isWord_137 : decode cX7_isWord 137 = .ok (.if_icmp .eq 16, 3) := by decide +kernel
theorem dX7_isWord_140 : decode cX7_isWord 140 = .ok (.aload_n 0, 1) := by decide +kernel
theorem dX7_isWord_141 : decode cX7_isWord 141 = .ok (.getfield 22, 3) := by decide +kernel
theorem dX7_isWord_144 : decode cX7_isWord 144 = .ok (.iload_n 1, 1) := by decide +kernel
theorem dX7_isWord_145 : decode cX7_isWord 145 = .ok (.iconst 4, 1) := by decide +kernel
theorem dX7_isWord_146 : decode cX7_isWord 146 = .ok (.iadd, 1) := by decide +kernel
theorem dX7_isWord_147 : decode cX7_isWord 147 = .ok (.caload, 1) := by decide +kernel
theorem dX7_isWord_148 : decode cX7_isWord 148 = .ok (.iload 6, 2) := by decide +kernel
theorem dX7_isWord_150 : decode cX7_isWord 150 = .ok (.if_icmp .ne 7, 3) := by decide +kernel
theorem dX7_isWord_153 : decode cX7_isWord 153 = .ok (.iconst 1, 1) := by decide +kernel
theorem dX7_isWord_154 : decode cX7_isWord 154 = .ok (.goto 4, 3) := by decide +kernel
theorem dX7_isWord_157 : decode cX7_isWord 157 = .ok (.iconst 0, 1) := by decide +kernel
theorem dX7_isWord_158 : decode cX7_isWord 158 = .ok (.ireturn, 1) := by decide +kernel
theorem dX7_wordFrom_0 : decode cX7_wordFrom 0 = .ok (.aload_n 0, 1) := by decide +kernel
theorem dX7_wordFrom_1 : decode cX7_wordFrom 1 = .ok (.iload_n 1, 1) := by decide +kernel
theorem dX7_wordFrom_2 : decode cX7_wordFrom 2 = .ok (.bipush 108, 2) := by decide +kernel
theorem dX7_wordFrom_4 : decode cX7_wordFrom 4 = .ok (.bipush 105, 2) := by decide +kernel
theorem dX7_wordFrom_6 : decode cX7_wordFrom 6 = .ok (.bipush 102, 2) := by decide +kernel
theorem dX7_wordFrom_8 : decode cX7_wordFrom 8 = .ok (.bipush 116, 2) := by decide +kernel
theorem dX7_wordFrom_10 : decode cX7_wordFrom 10 = .ok (.bipush 32, 2) := by decide +kernel
theorem dX7_wordFrom_12 : decode cX7_wordFrom 12 = .ok (.invokevirtual 155, 3) := by decide +kernel
theorem dX7_wordFrom_15 : decode cX7_wordFrom 15 = .ok (.ifCond .eq 5, 3) := by decide +kernel
theorem dX7_wordFrom_18 : decode cX7_wordFrom 18 = .ok (.iconst 0, 1) := by decide +kernel
theorem dX7_wordFrom_19 : decode cX7_wordFrom 19 = .ok (.ireturn, 1) := by decide +kernel
theorem dX7_wordFrom_20 : decode cX7_wordFrom 20 = .ok (.aload_n 0, 1) := by decide +kernel
theorem dX7_wordFrom_21 : decode cX7_wordFrom 21 = .ok (.iload_n 1, 1) := by decide +kernel
theorem dX7_wordFrom_22 : decode cX7_wordFrom 22 = .ok (.bipush 108, 2) := by decide +kernel
theorem dX7_wordFrom_24 : decode cX7_wordFrom 24 = .ok (.bipush 97, 2) := by decide +kernel
theorem dX7_wordFrom_26 : decode cX7_wordFrom 26 = .ok (.bipush 121, 2) := by decide +kernel
theorem dX7_wordFrom_28 : decode cX7_wordFrom 28 = .ok (.bipush 32, 2) := by decide +kernel
theorem dX7_wordFrom_30 : decode cX7_wordFrom 30 = .ok (.bipush 32, 2) := by decide +kernel
theorem dX7_wordFrom_32 : decode cX7_wordFrom 32 = .ok (.invokevirtual 155, 3) := by decide +kernel
theorem dX7_wordFrom_35 : decode cX7_wordFrom 35 = .ok (.ifCond .eq 5, 3) := by decide +kernel
theorem dX7_wordFrom_38 : decode cX7_wordFrom 38 = .ok (.iconst 1, 1) := by decide +kernel
theorem dX7_wordFrom_39 : decode cX7_wordFrom 39 = .ok (.ireturn, 1) := by decide +kernel
theorem dX7_wordFrom_40 : decode cX7_wordFrom 40 = .ok (.aload_n 0, 1) := by decide +kernel
theorem dX7_wordFrom_41 : decode cX7_wordFrom 41 = .ok (.iload_n 1, 1) := by decide +kernel
theorem dX7_wordFrom_42 : decode cX7_wordFrom 42 = .ok (.bipush 119, 2) := by decide +kernel
theorem dX7_wordFrom_44 : decode cX7_wordFrom 44 = .ok (.bipush 101, 2) := by decide +kernel
theorem dX7_wordFrom_46 : decode cX7_wordFrom 46 = .ok (.bipush 105, 2) := by decide +kernel
theorem dX7_wordFrom_48 : decode cX7_wordFrom 48 = .ok (.bipush 103, 2) := by decide +kernel
theorem dX7_wordFrom_50 : decode cX7_wordFrom 50 = .ok (.bipush 104, 2) := by decide +kernel
theorem dX7_wordFrom_52 : decode cX7_wordFrom 52 = .ok (.invokevirtual 155, 3) := by decide +kernel
theorem dX7_wordFrom_55 : decode cX7_wordFrom 55 = .ok (.ifCond .eq 5, 3) := by decide +kernel
theorem dX7_wordFrom_58 : decode cX7_wordFrom 58 = .ok (.iconst 2, 1) := by decide +kernel
theorem dX7_wordFrom_59 : decode cX7_wordFrom 59 = .ok (.ireturn, 1) := by decide +kernel
theorem dX7_wordFrom_60 : decode cX7_wordFrom 60 = .ok (.aload_n 0, 1) := by decide +kernel
theorem dX7_wordFrom_61 : decode cX7_wordFrom 61 = .ok (.iload_n 1, 1) := by decide +kernel
theorem dX7_wordFrom_62 : decode cX7_wordFrom 62 = .ok (.bipush 114, 2) := by decide +kernel
theorem dX7_wordFrom_64 : decode cX7_wordFrom 64 = .ok (.bipush 105, 2) := by decide +kernel
theorem dX7_wordFrom_66 : decode cX7_wordFrom 66 = .ok (.bipush 103, 2) := by decide +kernel
theorem dX7_wordFrom_68 : decode cX7_wordFrom 68 = .ok (.bipush 104, 2) := by decide +kernel
theorem dX7_wordFrom_70 : decode cX7_wordFrom 70 = .ok (.bipush 116, 2) := by decide +kernel
theorem dX7_wordFrom_72 : decode cX7_wordFrom 72 = .ok (.invokevirtual 155, 3) := by decide +kernel
theorem dX7_wordFrom_75 : decode cX7_wordFrom 75 = .ok (.ifCond .eq 5, 3) := by decide +kernel
theorem dX7_wordFrom_78 : decode cX7_wordFrom 78 = .ok (.iconst 3, 1) := by decide +kernel
theorem dX7_wordFrom_79 : decode cX7_wordFrom 79 = .ok (.ireturn, 1) := by decide +kernel
theorem dX7_wordFrom_80 : decode cX7_wordFrom 80 = .ok (.aload_n 0, 1) := by decide +kernel
theorem dX7_wordFrom_81 : decode cX7_wordFrom 81 = .ok (.iload_n 1, 1) := by decide +kernel
theorem dX7_wordFrom_82 : decode cX7_wordFrom 82 = .ok (.bipush 108, 2) := by decide +kernel
theorem dX7_wordFrom_84 : decode cX7_wordFrom 84 = .ok (.bipush 101, 2) := by decide +kernel
theorem dX7_wordFrom_86 : decode cX7_wordFrom 86 = .ok (.bipush 102, 2) := by decide +kernel
theorem dX7_wordFrom_88 : decode cX7_wordFrom 88 = .ok (.bipush 116, 2) := by decide +kernel
theorem dX7_wordFrom_90 : decode cX7_wordFrom 90 = .ok (.bipush 32, 2) := by decide +kernel
theorem dX7_wordFrom_92 : decode cX7_wordFrom 92 = .ok (.invokevirtual 155, 3) := by decide +kernel
theorem dX7_wordFrom_95 : decode cX7_wordFrom 95 = .ok (.ifCond .eq 5, 3) := by decide +kernel
theorem dX7_wordFrom_98 : decode cX7_wordFrom 98 = .ok (.iconst 4, 1) := by decide +kernel
theorem dX7_wordFrom_99 : decode cX7_wordFrom 99 = .ok (.ireturn, 1) := by decide +kernel
theorem dX7_wordFrom_100 : decode cX7_wordFrom 100 = .ok (.aload_n 0, 1) := by decide +kernel
theorem dX7_wordFrom_101 : decode cX7_wordFrom 101 = .ok (.iload_n 1, 1) := by decide +kernel
theorem dX7_wordFrom_102 : decode cX7_wordFrom 102 = .ok (.bipush 109, 2) := by decide +kernel
theorem dX7_wordFrom_104 : decode cX7_wordFrom 104 = .ok (.bipush 111, 2) := by decide +kernel
theorem dX7_wordFrom_106 : decode cX7_wordFrom 106 = .ok (.bipush 117, 2) := by decide +kernel
theorem dX7_wordFrom_108 : decode cX7_wordFrom 108 = .ok (.bipush 110, 2) := by decide +kernel
theorem dX7_wordFrom_110 : decode cX7_wordFrom 110 = .ok (.bipush 116, 2) := by decide +kernel
theorem dX7_wordFrom_112 : decode cX7_wordFrom 112 = .ok (.invokevirtual 155, 3) := by decide +kernel
theorem dX7_wordFrom_115 : decode cX7_wordFrom 115 = .ok (.ifCond .eq 5, 3) := by decide +kernel
theorem dX7_wordFrom_118 : decode cX7_wordFrom 118 = .ok (.iconst 5, 1) := by decide +kernel
theorem dX7_wordFrom_119 : decode cX7_wordFrom 119 = .ok (.ireturn, 1) := by decide +kernel
theorem dX7_wordFrom_120 : decode cX7_wordFrom 120 = .ok (.aload_n 0, 1) := by decide +kernel
theorem dX7_wordFrom_121 : decode cX7_wordFrom 121 = .ok (.iload_n 1, 1) := by decide +kernel
theorem dX7_wordFrom_122 : decode cX7_wordFrom 122 = .ok (.bipush 116, 2) := by decide +kernel
theorem dX7_wordFrom_124 : decode cX7_wordFrom 124 = .ok (.bipush 97, 2) := by decide +kernel
theorem dX7_wordFrom_126 : decode cX7_wordFrom 126 = .ok (.bipush 107, 2) := by decide +kernel
theorem dX7_wordFrom_128 : decode cX7_wordFrom 128 = .ok (.bipush 101, 2) := by decide +kernel
theorem dX7_wordFrom_130 : decode cX7_wordFrom 130 = .ok (.bipush 32, 2) := by decide +kernel
theorem dX7_wordFrom_132 : decode cX7_wordFrom 132 = .ok (.invokevirtual 155, 3) := by decide +kernel
theorem dX7_wordFrom_135 : decode cX7_wordFrom 135 = .ok (.ifCond .eq 6, 3) := by decide +kernel
theorem dX7_wordFrom_138 : decode cX7_wordFrom 138 = .ok (.bipush 6, 2) := by decide +kernel
theorem dX7_wordFrom_140 : decode cX7_wordFrom 140 = .ok (.ireturn, 1) := by decide +kernel
theorem dX7_wordFrom_141 : decode cX7_wordFrom 141 = .ok (.aload_n 0, 1) := by decide +kernel
theorem dX7_wordFrom_142 : decode cX7_wordFrom 142 = .ok (.iload_n 1, 1) := by decide +kernel
theorem dX7_wordFrom_143 : decode cX7_wordFrom 143 = .ok (.bipush 115, 2) := by decide +kernel
theorem dX7_wordFrom_145 : decode cX7_wordFrom 145 = .ok (.bipush 101, 2) := by decide +kernel
theorem dX7_wordFrom_147 : decode cX7_wordFrom 147 = .ok (.bipush 114, 2) := by decide +kernel
theorem dX7_wordFrom_149 : decode cX7_wordFrom 149 = .ok (.bipush 118, 2) := by decide +kernel
theorem dX7_wordFrom_151 : decode cX7_wordFrom 151 = .ok (.bipush 101, 2) := by decide +kernel
theorem dX7_wordFrom_153 : decode cX7_wordFrom 153 = .ok (.invokevirtual 155, 3) := by decide +kernel
theorem dX7_wordFrom_156 : decode cX7_wordFrom 156 = .ok (.ifCond .eq 8, 3) := by decide +kernel
theorem dX7_wordFrom_159 : decode cX7_wordFrom 159 = .ok (.bipush 7, 2) := by decide +kernel
theorem dX7_wordFrom_161 : decode cX7_wordFrom 161 = .ok (.goto 4, 3) := by decide +kernel
theorem dX7_wordFrom_164 : decode cX7_wordFrom 164 = .ok (.iconst (-1), 1) := by decide +kernel
theorem dX7_wordFrom_165 : decode cX7_wordFrom 165 = .ok (.ireturn, 1) := by decide +kernel
theorem dX7_reads_0 : decode cX7_reads 0 = .ok (.aload_n 0, 1) := by decide +kernel
theorem dX7_reads_1 : decode cX7_reads 1 = .ok (.getfield 152, 3) := by decide +kernel
theorem dX7_reads_4 : decode cX7_reads 4 = .ok (.istore_n 1, 1) := by decide +kernel
theorem dX7_reads_5 : decode cX7_reads 5 = .ok (.aload_n 0, 1) := by decide +kernel
theorem dX7_reads_6 : decode cX7_reads 6 = .ok (.invokevirtual 159, 3) := by decide +kernel
theorem dX7_reads_9 : decode cX7_reads 9 = .ok (.bipush 97, 2) := by decide +kernel
theorem dX7_reads_11 : decode cX7_reads 11 = .ok (.bipush 122, 2) := by decide +kernel
theorem dX7_reads_13 : decode cX7_reads 13 = .ok (.invokestatic 26, 3) := by decide +kernel
theorem dX7_reads_16 : decode cX7_reads 16 = .ok (.ifCond .eq 16, 3) := by decide +kernel
theorem dX7_reads_19 : decode cX7_reads 19 = .ok (.aload_n 0, 1) := by decide +kernel
theorem dX7_reads_20 : decode cX7_reads 20 = .ok (.dup, 1) := by decide +kernel
theorem dX7_reads_21 : decode cX7_reads 21 = .ok (.getfield 152, 3) := by decide +kernel
theorem dX7_reads_24 : decode cX7_reads 24 = .ok (.iconst 1, 1) := by decide +kernel
theorem dX7_reads_25 : decode cX7_reads 25 = .ok (.iadd, 1) := by decide +kernel
theorem dX7_reads_26 : decode cX7_reads 26 = .ok (.putfield 152, 3) := by decide +kernel
theorem dX7_reads_29 : decode cX7_reads 29 = .ok (.goto (-24), 3) := by decide +kernel
theorem dX7_reads_32 : decode cX7_reads 32 = .ok (.aload_n 0, 1) := by decide +kernel
theorem dX7_reads_33 : decode cX7_reads 33 = .ok (.aload_n 0, 1) := by decide +kernel
theorem dX7_reads_34 : decode cX7_reads 34 = .ok (.iload_n 1, 1) := by decide +kernel
theorem dX7_reads_35 : decode cX7_reads 35 = .ok (.invokevirtual 162, 3) := by decide +kernel
theorem dX7_reads_38 : decode cX7_reads 38 = .ok (.putfield 165, 3) := by decide +kernel
theorem dX7_reads_41 : decode cX7_reads 41 = .ok (.aload_n 0, 1) := by decide +kernel
theorem dX7_reads_42 : decode cX7_reads 42 = .ok (.getfield 165, 3) := by decide +kernel
theorem dX7_reads_45 : decode cX7_reads 45 = .ok (.ifCond .ge 5, 3) := by decide +kernel
theorem dX7_reads_48 : decode cX7_reads 48 = .ok (.iconst 0, 1) := by decide +kernel
theorem dX7_reads_49 : decode cX7_reads 49 = .ok (.ireturn, 1) := by decide +kernel
theorem dX7_reads_50 : decode cX7_reads 50 = .ok (.aload_n 0, 1) := by decide +kernel
theorem dX7_reads_51 : decode cX7_reads 51 = .ok (.getfield 165, 3) := by decide +kernel
theorem dX7_reads_54 : decode cX7_reads 54 = .ok (.iconst 2, 1) := by decide +kernel
theorem dX7_reads_55 : decode cX7_reads 55 = .ok (.if_icmp .eq 71, 3) := by decide +kernel
theorem dX7_reads_58 : decode cX7_reads 58 = .ok (.aload_n 0, 1) := by decide +kernel
theorem dX7_reads_59 : decode cX7_reads 59 = .ok (.invokevirtual 159, 3) := by decide +kernel
theorem dX7_reads_62 : decode cX7_reads 62 = .ok (.bipush 32, 2) := by decide +kernel
theorem dX7_reads_64 : decode cX7_reads 64 = .ok (.if_icmp .eq 10, 3) := by decide +kernel
theorem dX7_reads_67 : decode cX7_reads 67 = .ok (.aload_n 0, 1) := by decide +kernel
theorem dX7_reads_68 : decode cX7_reads 68 = .ok (.getfield 152, 3) := by decide +kernel
theorem dX7_reads_71 : decode cX7_reads 71 = .ok (.iload_n 1, 1) := by decide +kernel
theorem dX7_reads_72 : decode cX7_reads 72 = .ok (.isub, 1) := by decide +kernel
theorem dX7_reads_73 : decode cX7_reads 73 = .ok (.ireturn, 1) := by decide +kernel
theorem dX7_reads_74 : decode cX7_reads 74 = .ok (.aload_n 0, 1) := by decide +kernel
theorem dX7_reads_75 : decode cX7_reads 75 = .ok (.dup, 1) := by decide +kernel
theorem dX7_reads_76 : decode cX7_reads 76 = .ok (.getfield 152, 3) := by decide +kernel
theorem dX7_reads_79 : decode cX7_reads 79 = .ok (.iconst 1, 1) := by decide +kernel
theorem dX7_reads_80 : decode cX7_reads 80 = .ok (.iadd, 1) := by decide +kernel
theorem dX7_reads_81 : decode cX7_reads 81 = .ok (.putfield 152, 3) := by decide +kernel
theorem dX7_reads_84 : decode cX7_reads 84 = .ok (.aload_n 0, 1) := by decide +kernel
theorem dX7_reads_85 : decode cX7_reads 85 = .ok (.invokevirtual 159, 3) := by decide +kernel
theorem dX7_reads_88 : decode cX7_reads 88 = .ok (.bipush 48, 2) := by decide +kernel
theorem dX7_reads_90 : decode cX7_reads 90 = .ok (.bipush 57, 2) := by decide +kernel
theorem dX7_reads_92 : decode cX7_reads 92 = .ok (.invokestatic 26, 3) := by decide +kernel
theorem dX7_reads_95 : decode cX7_reads 95 = .ok (.ifCond .ne 10, 3) := by decide +kernel
theorem dX7_reads_98 : decode cX7_reads 98 = .ok (.aload_n 0, 1) := by decide +kernel
theorem dX7_reads_99 : decode cX7_reads 99 = .ok (.getfield 152, 3) := by decide +kernel
theorem dX7_reads_102 : decode cX7_reads 102 = .ok (.iload_n 1, 1) := by decide +kernel
theorem dX7_reads_103 : decode cX7_reads 103 = .ok (.isub, 1) := by decide +kernel
theorem dX7_reads_104 : decode cX7_reads 104 = .ok (.ireturn, 1) := by decide +kernel
theorem dX7_reads_105 : decode cX7_reads 105 = .ok (.aload_n 0, 1) := by decide +kernel
theorem dX7_reads_106 : decode cX7_reads 106 = .ok (.aload_n 0, 1) := by decide +kernel
theorem dX7_reads_107 : decode cX7_reads 107 = .ok (.invokevirtual 159, 3) := by decide +kernel
theorem dX7_reads_110 : decode cX7_reads 110 = .ok (.bipush 48, 2) := by decide +kernel
theorem dX7_reads_112 : decode cX7_reads 112 = .ok (.isub, 1) := by decide +kernel
theorem dX7_reads_113 : decode cX7_reads 113 = .ok (.putfield 168, 3) := by decide +kernel
theorem dX7_reads_116 : decode cX7_reads 116 = .ok (.aload_n 0, 1) := by decide +kernel
theorem dX7_reads_117 : decode cX7_reads 117 = .ok (.dup, 1) := by decide +kernel
theorem dX7_reads_118 : decode cX7_reads 118 = .ok (.getfield 152, 3) := by decide +kernel
theorem dX7_reads_121 : decode cX7_reads 121 = .ok (.iconst 1, 1) := by decide +kernel
theorem dX7_reads_122 : decode cX7_reads 122 = .ok (.iadd, 1) := by decide +kernel
theorem dX7_reads_123 : decode cX7_reads 123 = .ok (.putfield 152, 3) := by decide +kernel
theorem dX7_reads_126 : decode cX7_reads 126 = .ok (.aload_n 0, 1) := by decide +kernel
theorem dX7_reads_127 : decode cX7_reads 127 = .ok (.invokevirtual 159, 3) := by decide +kernel
theorem dX7_reads_130 : decode cX7_reads 130 = .ok (.bipush 59, 2) := by decide +kernel
theorem dX7_reads_132 : decode cX7_reads 132 = .ok (.if_icmp .eq 10, 3) := by decide +kernel
theorem dX7_reads_135 : decode cX7_reads 135 = .ok (.aload_n 0, 1) := by decide +kernel
theorem dX7_reads_136 : decode cX7_reads 136 = .ok (.getfield 152, 3) := by decide +kernel
theorem dX7_reads_139 : decode cX7_reads 139 = .ok (.iload_n 1, 1) := by decide +kernel
theorem dX7_reads_140 : decode cX7_reads 140 = .ok (.isub, 1) := by decide +kernel
theorem dX7_reads_141 : decode cX7_reads 141 = .ok (.ireturn, 1) := by decide +kernel
theorem dX7_reads_142 : decode cX7_reads 142 = .ok (.aload_n 0, 1) := by decide +kernel
theorem dX7_reads_143 : decode cX7_reads 143 = .ok (.dup, 1) := by decide +kernel
theorem dX7_reads_144 : decode cX7_reads 144 = .ok (.getfield 152, 3) := by decide +kernel
theorem dX7_reads_147 : decode cX7_reads 147 = .ok (.iconst 1, 1) := by decide +kernel
theorem dX7_reads_148 : decode cX7_reads 148 = .ok (.iadd, 1) := by decide +kernel
theorem dX7_reads_149 : decode cX7_reads 149 = .ok (.putfield 152, 3) := by decide +kernel
theorem dX7_reads_152 : decode cX7_reads 152 = .ok (.iconst (-1), 1) := by decide +kernel
theorem dX7_reads_153 : decode cX7_reads 153 = .ok (.ireturn, 1) := by decide +kernel
theorem dX7_does_0 : decode cX7_does 0 = .ok (.aload_n 0, 1) := by decide +kernel
theorem dX7_does_1 : decode cX7_does 1 = .ok (.getfield 165, 3) := by decide +kernel
theorem dX7_does_4 : decode cX7_does 4 = .ok (.tableswitch 104 0 6 #[44, 53, 62, 67, 76, 86, 95], 44) := by decide +kernel
theorem dX7_does_48 : decode cX7_does 48 = .ok (.aload_n 0, 1) := by decide +kernel
theorem dX7_does_49 : decode cX7_does 49 = .ok (.aload_n 0, 1) := by decide +kernel
theorem dX7_does_50 : decode cX7_does 50 = .ok (.getfield 168, 3) := by decide +kernel
theorem dX7_does_53 : decode cX7_does 53 = .ok (.invokevirtual 70, 3) := by decide +kernel
theorem dX7_does_56 : decode cX7_does 56 = .ok (.ireturn, 1) := by decide +kernel
theorem dX7_does_57 : decode cX7_does 57 = .ok (.aload_n 0, 1) := by decide +kernel
theorem dX7_does_58 : decode cX7_does 58 = .ok (.aload_n 0, 1) := by decide +kernel
theorem dX7_does_59 : decode cX7_does 59 = .ok (.getfield 168, 3) := by decide +kernel
theorem dX7_does_62 : decode cX7_does 62 = .ok (.invokevirtual 76, 3) := by decide +kernel
theorem dX7_does_65 : decode cX7_does 65 = .ok (.ireturn, 1) := by decide +kernel
theorem dX7_does_66 : decode cX7_does 66 = .ok (.aload_n 0, 1) := by decide +kernel
theorem dX7_does_67 : decode cX7_does 67 = .ok (.invokevirtual 79, 3) := by decide +kernel
theorem dX7_does_70 : decode cX7_does 70 = .ok (.ireturn, 1) := by decide +kernel
theorem dX7_does_71 : decode cX7_does 71 = .ok (.aload_n 0, 1) := by decide +kernel
theorem dX7_does_72 : decode cX7_does 72 = .ok (.aload_n 0, 1) := by decide +kernel
theorem dX7_does_73 : decode cX7_does 73 = .ok (.getfield 168, 3) := by decide +kernel
theorem dX7_does_76 : decode cX7_does 76 = .ok (.invokevirtual 85, 3) := by decide +kernel
theorem dX7_does_79 : decode cX7_does 79 = .ok (.ireturn, 1) := by decide +kernel
theorem dX7_does_80 : decode cX7_does 80 = .ok (.aload_n 0, 1) := by decide +kernel
theorem dX7_does_81 : decode cX7_does 81 = .ok (.aload_n 0, 1) := by decide +kernel
theorem dX7_does_82 : decode cX7_does 82 = .ok (.getfield 168, 3) := by decide +kernel
theorem dX7_does_85 : decode cX7_does 85 = .ok (.ineg, 1) := by decide +kernel
theorem dX7_does_86 : decode cX7_does 86 = .ok (.invokevirtual 85, 3) := by decide +kernel
theorem dX7_does_89 : decode cX7_does 89 = .ok (.ireturn, 1) := by decide +kernel
theorem dX7_does_90 : decode cX7_does 90 = .ok (.aload_n 0, 1) := by decide +kernel
theorem dX7_does_91 : decode cX7_does 91 = .ok (.aload_n 0, 1) := by decide +kernel
theorem dX7_does_92 : decode cX7_does 92 = .ok (.getfield 168, 3) := by decide +kernel
theorem dX7_does_95 : decode cX7_does 95 = .ok (.invokevirtual 94, 3) := by decide +kernel
theorem dX7_does_98 : decode cX7_does 98 = .ok (.ireturn, 1) := by decide +kernel
theorem dX7_does_99 : decode cX7_does 99 = .ok (.aload_n 0, 1) := by decide +kernel
theorem dX7_does_100 : decode cX7_does 100 = .ok (.aload_n 0, 1) := by decide +kernel
theorem dX7_does_101 : decode cX7_does 101 = .ok (.getfield 168, 3) := by decide +kernel
theorem dX7_does_104 : decode cX7_does 104 = .ok (.invokevirtual 97, 3) := by decide +kernel
theorem dX7_does_107 : decode cX7_does 107 = .ok (.ireturn, 1) := by decide +kernel
theorem dX7_does_108 : decode cX7_does 108 = .ok (.aload_n 0, 1) := by decide +kernel
theorem dX7_does_109 : decode cX7_does 109 = .ok (.aload_n 0, 1) := by decide +kernel
theorem dX7_does_110 : decode cX7_does 110 = .ok (.getfield 168, 3) := by decide +kernel
theorem dX7_does_113 : decode cX7_does 113 = .ok (.invokevirtual 133, 3) := by decide +kernel
theorem dX7_does_116 : decode cX7_does 116 = .ok (.ireturn, 1) := by decide +kernel
theorem dX7_doesNext_0 : decode cX7_doesNext 0 = .ok (.aload_n 0, 1) := by decide +kernel
theorem dX7_doesNext_1 : decode cX7_doesNext 1 = .ok (.aload_n 0, 1) := by decide +kernel
theorem dX7_doesNext_2 : decode cX7_doesNext 2 = .ok (.invokevirtual 171, 3) := by decide +kernel
theorem dX7_doesNext_5 : decode cX7_doesNext 5 = .ok (.putfield 174, 3) := by decide +kernel
theorem dX7_doesNext_8 : decode cX7_doesNext 8 = .ok (.aload_n 0, 1) := by decide +kernel
theorem dX7_doesNext_9 : decode cX7_doesNext 9 = .ok (.getfield 174, 3) := by decide +kernel
theorem dX7_doesNext_12 : decode cX7_doesNext 12 = .ok (.ifCond .lt 5, 3) := by decide +kernel
theorem dX7_doesNext_15 : decode cX7_doesNext 15 = .ok (.iconst 1, 1) := by decide +kernel
theorem dX7_doesNext_16 : decode cX7_doesNext 16 = .ok (.ireturn, 1) := by decide +kernel
theorem dX7_doesNext_17 : decode cX7_doesNext 17 = .ok (.aload_n 0, 1) := by decide +kernel
theorem dX7_doesNext_18 : decode cX7_doesNext 18 = .ok (.ldc 136, 2) := by decide +kernel
theorem dX7_doesNext_20 : decode cX7_doesNext 20 = .ok (.putfield 174, 3) := by decide +kernel
theorem dX7_doesNext_23 : decode cX7_doesNext 23 = .ok (.aload_n 0, 1) := by decide +kernel
theorem dX7_doesNext_24 : decode cX7_doesNext 24 = .ok (.invokevirtual 177, 3) := by decide +kernel
theorem dX7_doesNext_27 : decode cX7_doesNext 27 = .ok (.istore_n 1, 1) := by decide +kernel
theorem dX7_doesNext_28 : decode cX7_doesNext 28 = .ok (.iload_n 1, 1) := by decide +kernel
theorem dX7_doesNext_29 : decode cX7_doesNext 29 = .ok (.ldc 30, 2) := by decide +kernel
theorem dX7_doesNext_31 : decode cX7_doesNext 31 = .ok (.if_icmp .le 7, 3) := by decide +kernel
theorem dX7_doesNext_34 : decode cX7_doesNext 34 = .ok (.iconst 0, 1) := by decide +kernel
theorem dX7_doesNext_35 : decode cX7_doesNext 35 = .ok (.goto 14, 3) := by decide +kernel
theorem dX7_doesNext_38 : decode cX7_doesNext 38 = .ok (.iload_n 1, 1) := by decide +kernel
theorem dX7_doesNext_39 : decode cX7_doesNext 39 = .ok (.ldc 30, 2) := by decide +kernel
theorem dX7_doesNext_41 : decode cX7_doesNext 41 = .ok (.if_icmp .ne 7, 3) := by decide +kernel
theorem dX7_doesNext_44 : decode cX7_doesNext 44 = .ok (.iconst 2, 1) := by decide +kernel
theorem dX7_doesNext_45 : decode cX7_doesNext 45 = .ok (.goto 4, 3) := by decide +kernel
theorem dX7_doesNext_48 : decode cX7_doesNext 48 = .ok (.iconst 3, 1) := by decide +kernel
theorem dX7_doesNext_49 : decode cX7_doesNext 49 = .ok (.ireturn, 1) := by decide +kernel
theorem dX7_faulty_0 : decode cX7_faulty 0 = .ok (.aload_n 0, 1) := by decide +kernel
theorem dX7_faulty_1 : decode cX7_faulty 1 = .ok (.invokevirtual 140, 3) := by decide +kernel
theorem dX7_faulty_4 : decode cX7_faulty 4 = .ok (.ldc 136, 2) := by decide +kernel
theorem dX7_faulty_6 : decode cX7_faulty 6 = .ok (.istore_n 1, 1) := by decide +kernel
theorem dX7_faulty_7 : decode cX7_faulty 7 = .ok (.aload_n 0, 1) := by decide +kernel
theorem dX7_faulty_8 : decode cX7_faulty 8 = .ok (.iconst 0, 1) := by decide +kernel
theorem dX7_faulty_9 : decode cX7_faulty 9 = .ok (.putfield 152, 3) := by decide +kernel
theorem dX7_faulty_12 : decode cX7_faulty 12 = .ok (.aload_n 0, 1) := by decide +kernel
theorem dX7_faulty_13 : decode cX7_faulty 13 = .ok (.getfield 152, 3) := by decide +kernel
theorem dX7_faulty_16 : decode cX7_faulty 16 = .ok (.aload_n 0, 1) := by decide +kernel
theorem dX7_faulty_17 : decode cX7_faulty 17 = .ok (.getfield 149, 3) := by decide +kernel
theorem dX7_faulty_20 : decode cX7_faulty 20 = .ok (.if_icmp .ge 38, 3) := by decide +kernel
theorem dX7_faulty_23 : decode cX7_faulty 23 = .ok (.iload_n 1, 1) := by decide +kernel
theorem dX7_faulty_24 : decode cX7_faulty 24 = .ok (.ldc 136, 2) := by decide +kernel
theorem dX7_faulty_26 : decode cX7_faulty 26 = .ok (.if_icmp .ne 32, 3) := by decide +kernel
theorem dX7_faulty_29 : decode cX7_faulty 29 = .ok (.aload_n 0, 1) := by decide +kernel
theorem dX7_faulty_30 : decode cX7_faulty 30 = .ok (.getfield 152, 3) := by decide +kernel
theorem dX7_faulty_33 : decode cX7_faulty 33 = .ok (.istore_n 2, 1) := by decide +kernel
theorem dX7_faulty_34 : decode cX7_faulty 34 = .ok (.aload_n 0, 1) := by decide +kernel
theorem dX7_faulty_35 : decode cX7_faulty 35 = .ok (.aload_n 0, 1) := by decide +kernel
theorem dX7_faulty_36 : decode cX7_faulty 36 = .ok (.invokevirtual 180, 3) := by decide +kernel
theorem dX7_faulty_39 : decode cX7_faulty 39 = .ok (.putfield 183, 3) := by decide +kernel
theorem dX7_faulty_42 : decode cX7_faulty 42 = .ok (.aload_n 0, 1) := by decide +kernel
theorem dX7_faulty_43 : decode cX7_faulty 43 = .ok (.getfield 183, 3) := by decide +kernel
theorem dX7_faulty_46 : decode cX7_faulty 46 = .ok (.ifCond .le 7, 3) := by decide +kernel
theorem dX7_faulty_49 : decode cX7_faulty 49 = .ok (.iload_n 2, 1) := by decide +kernel
theorem dX7_faulty_50 : decode cX7_faulty 50 = .ok (.goto 4, 3) := by decide +kernel
theorem dX7_faulty_53 : decode cX7_faulty 53 = .ok (.iload_n 1, 1) := by decide +kernel
theorem dX7_faulty_54 : decode cX7_faulty 54 = .ok (.istore_n 1, 1) := by decide +kernel
theorem dX7_faulty_55 : decode cX7_faulty 55 = .ok (.goto (-43), 3) := by decide +kernel
theorem dX7_faulty_58 : decode cX7_faulty 58 = .ok (.aload_n 0, 1) := by decide +kernel
theorem dX7_faulty_59 : decode cX7_faulty 59 = .ok (.invokevirtual 143, 3) := by decide +kernel
theorem dX7_faulty_62 : decode cX7_faulty 62 = .ok (.iload_n 1, 1) := by decide +kernel
theorem dX7_faulty_63 : decode cX7_faulty 63 = .ok (.ireturn, 1) := by decide +kernel
theorem dX7_fault_0 : decode cX7_fault 0 = .ok (.iload_n 1, 1) := by decide +kernel
theorem dX7_fault_1 : decode cX7_fault 1 = .ok (.iconst 0, 1) := by decide +kernel
theorem dX7_fault_2 : decode cX7_fault 2 = .ok (.iconst 2, 1) := by decide +kernel
theorem dX7_fault_3 : decode cX7_fault 3 = .ok (.invokestatic 26, 3) := by decide +kernel
theorem dX7_fault_6 : decode cX7_fault 6 = .ok (.ifCond .ne 6, 3) := by decide +kernel
theorem dX7_fault_9 : decode cX7_fault 9 = .ok (.ldc 30, 2) := by decide +kernel
theorem dX7_fault_11 : decode cX7_fault 11 = .ok (.ireturn, 1) := by decide +kernel
theorem dX7_fault_12 : decode cX7_fault 12 = .ok (.aload_n 0, 1) := by decide +kernel
theorem dX7_fault_13 : decode cX7_fault 13 = .ok (.invokevirtual 186, 3) := by decide +kernel
theorem dX7_fault_16 : decode cX7_fault 16 = .ok (.istore_n 2, 1) := by decide +kernel
theorem dX7_fault_17 : decode cX7_fault 17 = .ok (.iload_n 2, 1) := by decide +kernel
theorem dX7_fault_18 : decode cX7_fault 18 = .ok (.ldc 136, 2) := by decide +kernel
theorem dX7_fault_20 : decode cX7_fault 20 = .ok (.if_icmp .eq 7, 3) := by decide +kernel
theorem dX7_fault_23 : decode cX7_fault 23 = .ok (.iload_n 1, 1) := by decide +kernel
theorem dX7_fault_24 : decode cX7_fault 24 = .ok (.ifCond .ne 7, 3) := by decide +kernel
theorem dX7_fault_27 : decode cX7_fault 27 = .ok (.iload_n 2, 1) := by decide +kernel
theorem dX7_fault_28 : decode cX7_fault 28 = .ok (.goto 19, 3) := by decide +kernel
theorem dX7_fault_31 : decode cX7_fault 31 = .ok (.iload_n 1, 1) := by decide +kernel
theorem dX7_fault_32 : decode cX7_fault 32 = .ok (.iconst 1, 1) := by decide +kernel
theorem dX7_fault_33 : decode cX7_fault 33 = .ok (.if_icmp .ne 10, 3) := by decide +kernel
theorem dX7_fault_36 : decode cX7_fault 36 = .ok (.aload_n 0, 1) := by decide +kernel
theorem dX7_fault_37 : decode cX7_fault 37 = .ok (.getfield 183, 3) := by decide +kernel
theorem dX7_fault_40 : decode cX7_fault 40 = .ok (.goto 7, 3) := by decide +kernel
theorem dX7_fault_43 : decode cX7_fault 43 = .ok (.aload_n 0, 1) := by decide +kernel
theorem dX7_fault_44 : decode cX7_fault 44 = .ok (.getfield 174, 3) := by decide +kernel
theorem dX7_fault_47 : decode cX7_fault 47 = .ok (.ireturn, 1) := by decide +kernel
theorem dX7_play_0 : decode cX7_play 0 = .ok (.aload_n 0, 1) := by decide +kernel
theorem dX7_play_1 : decode cX7_play 1 = .ok (.invokevirtual 186, 3) := by decide +kernel
theorem dX7_play_4 : decode cX7_play 4 = .ok (.ldc 136, 2) := by decide +kernel
theorem dX7_play_6 : decode cX7_play 6 = .ok (.if_icmp .eq 6, 3) := by decide +kernel
theorem dX7_play_9 : decode cX7_play 9 = .ok (.ldc 35, 2) := by decide +kernel
theorem dX7_play_11 : decode cX7_play 11 = .ok (.ireturn, 1) := by decide +kernel
theorem dX7_play_12 : decode cX7_play 12 = .ok (.aload_n 0, 1) := by decide +kernel
theorem dX7_play_13 : decode cX7_play 13 = .ok (.invokevirtual 37, 3) := by decide +kernel
theorem dX7_play_16 : decode cX7_play 16 = .ok (.iconst 0, 1) := by decide +kernel
theorem dX7_play_17 : decode cX7_play 17 = .ok (.istore_n 1, 1) := by decide +kernel
theorem dX7_play_18 : decode cX7_play 18 = .ok (.aload_n 0, 1) := by decide +kernel
theorem dX7_play_19 : decode cX7_play 19 = .ok (.iconst 0, 1) := by decide +kernel
theorem dX7_play_20 : decode cX7_play 20 = .ok (.putfield 152, 3) := by decide +kernel
theorem dX7_play_23 : decode cX7_play 23 = .ok (.aload_n 0, 1) := by decide +kernel
theorem dX7_play_24 : decode cX7_play 24 = .ok (.getfield 152, 3) := by decide +kernel
theorem dX7_play_27 : decode cX7_play 27 = .ok (.aload_n 0, 1) := by decide +kernel
theorem dX7_play_28 : decode cX7_play 28 = .ok (.getfield 149, 3) := by decide +kernel
theorem dX7_play_31 : decode cX7_play 31 = .ok (.if_icmp .ge 21, 3) := by decide +kernel
theorem dX7_play_34 : decode cX7_play 34 = .ok (.iload_n 1, 1) := by decide +kernel
theorem dX7_play_35 : decode cX7_play 35 = .ok (.aload_n 0, 1) := by decide +kernel
theorem dX7_play_36 : decode cX7_play 36 = .ok (.invokevirtual 180, 3) := by decide +kernel
theorem dX7_play_39 : decode cX7_play 39 = .ok (.ifCond .ne 7, 3) := by decide +kernel
theorem dX7_play_42 : decode cX7_play 42 = .ok (.iconst 1, 1) := by decide +kernel
theorem dX7_play_43 : decode cX7_play 43 = .ok (.goto 4, 3) := by decide +kernel
theorem dX7_play_46 : decode cX7_play 46 = .ok (.iconst 0, 1) := by decide +kernel
theorem dX7_play_47 : decode cX7_play 47 = .ok (.iadd, 1) := by decide +kernel
theorem dX7_play_48 : decode cX7_play 48 = .ok (.istore_n 1, 1) := by decide +kernel
theorem dX7_play_49 : decode cX7_play 49 = .ok (.goto (-26), 3) := by decide +kernel
theorem dX7_play_52 : decode cX7_play 52 = .ok (.aload_n 0, 1) := by decide +kernel
theorem dX7_play_53 : decode cX7_play 53 = .ok (.iload_n 1, 1) := by decide +kernel
theorem dX7_play_54 : decode cX7_play 54 = .ok (.invokevirtual 40, 3) := by decide +kernel
theorem dX7_play_57 : decode cX7_play 57 = .ok (.ireturn, 1) := by decide +kernel
theorem dJ9_abs_0f7a4_0 : decode cJ9_abs_0f7a4 0 = .ok (.iload_n 0, 1) := by decide +kernel
theorem dJ9_abs_0f7a4_1 : decode cJ9_abs_0f7a4 1 = .ok (.ifCond .ge 8, 3) := by decide +kernel
theorem dJ9_abs_0f7a4_4 : decode cJ9_abs_0f7a4 4 = .ok (.iload_n 0, 1) := by decide +kernel
theorem dJ9_abs_0f7a4_5 : decode cJ9_abs_0f7a4 5 = .ok (.ineg, 1) := by decide +kernel
theorem dJ9_abs_0f7a4_6 : decode cJ9_abs_0f7a4 6 = .ok (.goto 4, 3) := by decide +kernel
theorem dJ9_abs_0f7a4_9 : decode cJ9_abs_0f7a4 9 = .ok (.iload_n 0, 1) := by decide +kernel
theorem dJ9_abs_0f7a4_10 : decode cJ9_abs_0f7a4 10 = .ok (.ireturn, 1) := by decide +kernel
theorem dJ9_min_7cf53_0 : decode cJ9_min_7cf53 0 = .ok (.iload_n 0, 1) := by decide +kernel
theorem dJ9_min_7cf53_1 : decode cJ9_min_7cf53 1 = .ok (.iload_n 1, 1) := by decide +kernel
theorem dJ9_min_7cf53_2 : decode cJ9_min_7cf53 2 = .ok (.if_icmp .gt 7, 3) := by decide +kernel
theorem dJ9_min_7cf53_5 : decode cJ9_min_7cf53 5 = .ok (.iload_n 0, 1) := by decide +kernel
theorem dJ9_min_7cf53_6 : decode cJ9_min_7cf53 6 = .ok (.goto 4, 3) := by decide +kernel
theorem dJ9_min_7cf53_9 : decode cJ9_min_7cf53 9 = .ok (.iload_n 1, 1) := by decide +kernel
theorem dJ9_min_7cf53_10 : decode cJ9_min_7cf53 10 = .ok (.ireturn, 1) := by decide +kernel
theorem dJ0_length_8abf5_0 : decode cJ0_length_8abf5 0 = .ok (.aload_n 0, 1) := by decide +kernel
theorem dJ0_length_8abf5_1 : decode cJ0_length_8abf5 1 = .ok (.getfield 9, 3) := by decide +kernel
theorem dJ0_length_8abf5_4 : decode cJ0_length_8abf5 4 = .ok (.arraylength, 1) := by decide +kernel
theorem dJ0_length_8abf5_5 : decode cJ0_length_8abf5 5 = .ok (.aload_n 0, 1) := by decide +kernel
theorem dJ0_length_8abf5_6 : decode cJ0_length_8abf5 6 = .ok (.invokevirtual 335, 3) := by decide +kernel
theorem dJ0_length_8abf5_9 : decode cJ0_length_8abf5 9 = .ok (.ishr, 1) := by decide +kernel
theorem dJ0_length_8abf5_10 : decode cJ0_length_8abf5 10 = .ok (.ireturn, 1) := by decide +kernel
theorem dJ0_charAt_5068e_0 : decode cJ0_charAt_5068e 0 = .ok (.aload_n 0, 1) := by decide +kernel
theorem dJ0_charAt_5068e_1 : decode cJ0_charAt_5068e 1 = .ok (.invokevirtual 492, 3) := by decide +kernel
theorem dJ0_charAt_5068e_4 : decode cJ0_charAt_5068e 4 = .ok (.ifCond .eq 12, 3) := by decide +kernel
theorem dJ0_charAt_5068e_7 : decode cJ0_charAt_5068e 7 = .ok (.aload_n 0, 1) := by decide +kernel
theorem dJ0_charAt_5068e_8 : decode cJ0_charAt_5068e 8 = .ok (.getfield 9, 3) := by decide +kernel
theorem dJ0_charAt_5068e_11 : decode cJ0_charAt_5068e 11 = .ok (.iload_n 1, 1) := by decide +kernel
theorem dJ0_charAt_5068e_12 : decode cJ0_charAt_5068e 12 = .ok (.invokestatic 495, 3) := by decide +kernel
theorem dJ0_charAt_5068e_15 : decode cJ0_charAt_5068e 15 = .ok (.ireturn, 1) := by decide +kernel
theorem dJ0_charAt_5068e_16 : decode cJ0_charAt_5068e 16 = .ok (.aload_n 0, 1) := by decide +kernel
theorem dJ0_charAt_5068e_17 : decode cJ0_charAt_5068e 17 = .ok (.getfield 9, 3) := by decide +kernel
theorem dJ0_charAt_5068e_20 : decode cJ0_charAt_5068e 20 = .ok (.iload_n 1, 1) := by decide +kernel
theorem dJ0_charAt_5068e_21 : decode cJ0_charAt_5068e 21 = .ok (.invokestatic 498, 3) := by decide +kernel
theorem dJ0_charAt_5068e_24 : decode cJ0_charAt_5068e 24 = .ok (.ireturn, 1) := by decide +kernel
theorem dJ0_coder_7d493_0 : decode cJ0_coder_7d493 0 = .ok (.getstatic 38, 3) := by decide +kernel
theorem dJ0_coder_7d493_3 : decode cJ0_coder_7d493 3 = .ok (.ifCond .eq 10, 3) := by decide +kernel
theorem dJ0_coder_7d493_6 : decode cJ0_coder_7d493 6 = .ok (.aload_n 0, 1) := by decide +kernel
theorem dJ0_coder_7d493_7 : decode cJ0_coder_7d493 7 = .ok (.getfield 15, 3) := by decide +kernel
theorem dJ0_coder_7d493_10 : decode cJ0_coder_7d493 10 = .ok (.goto 4, 3) := by decide +kernel
theorem dJ0_coder_7d493_13 : decode cJ0_coder_7d493 13 = .ok (.iconst 1, 1) := by decide +kernel
theorem dJ0_coder_7d493_14 : decode cJ0_coder_7d493 14 = .ok (.ireturn, 1) := by decide +kernel
theorem dJ0_isLatin1_aae02_0 : decode cJ0_isLatin1_aae02 0 = .ok (.getstatic 38, 3) := by decide +kernel
theorem dJ0_isLatin1_aae02_3 : decode cJ0_isLatin1_aae02 3 = .ok (.ifCond .eq 14, 3) := by decide +kernel
theorem dJ0_isLatin1_aae02_6 : decode cJ0_isLatin1_aae02 6 = .ok (.aload_n 0, 1) := by decide +kernel
theorem dJ0_isLatin1_aae02_7 : decode cJ0_isLatin1_aae02 7 = .ok (.getfield 15, 3) := by decide +kernel
theorem dJ0_isLatin1_aae02_10 : decode cJ0_isLatin1_aae02 10 = .ok (.ifCond .ne 7, 3) := by decide +kernel
theorem dJ0_isLatin1_aae02_13 : decode cJ0_isLatin1_aae02 13 = .ok (.iconst 1, 1) := by decide +kernel
theorem dJ0_isLatin1_aae02_14 : decode cJ0_isLatin1_aae02 14 = .ok (.goto 4, 3) := by decide +kernel
theorem dJ0_isLatin1_aae02_17 : decode cJ0_isLatin1_aae02 17 = .ok (.iconst 0, 1) := by decide +kernel
theorem dJ0_isLatin1_aae02_18 : decode cJ0_isLatin1_aae02 18 = .ok (.ireturn, 1) := by decide +kernel
theorem dJ0_checkIndex_df160_0 : decode cJ0_checkIndex_df160 0 = .ok (.iload_n 0, 1) := by decide +kernel
theorem dJ0_checkIndex_df160_1 : decode cJ0_checkIndex_df160 1 = .ok (.iload_n 1, 1) := by decide +kernel
theorem dJ0_checkIndex_df160_2 : decode cJ0_checkIndex_df160 2 = .ok (.getstatic 1053, 3) := by decide +kernel
theorem dJ0_checkIndex_df160_5 : decode cJ0_checkIndex_df160 5 = .ok (.invokestatic 1059, 3) := by decide +kernel
theorem dJ0_checkIndex_df160_8 : decode cJ0_checkIndex_df160 8 = .ok (.pop, 1) := by decide +kernel
theorem dJ0_checkIndex_df160_9 : decode cJ0_checkIndex_df160 9 = .ok (.return_, 1) := by decide +kernel
theorem dJ1_charAt_3b067_0 : decode cJ1_charAt_3b067 0 = .ok (.iload_n 1, 1) := by decide +kernel
theorem dJ1_charAt_3b067_1 : decode cJ1_charAt_3b067 1 = .ok (.aload_n 0, 1) := by decide +kernel
theorem dJ1_charAt_3b067_2 : decode cJ1_charAt_3b067 2 = .ok (.arraylength, 1) := by decide +kernel
theorem dJ1_charAt_3b067_3 : decode cJ1_charAt_3b067 3 = .ok (.invokestatic 9, 3) := by decide +kernel
theorem dJ1_charAt_3b067_6 : decode cJ1_charAt_3b067 6 = .ok (.aload_n 0, 1) := by decide +kernel
theorem dJ1_charAt_3b067_7 : decode cJ1_charAt_3b067 7 = .ok (.iload_n 1, 1) := by decide +kernel
theorem dJ1_charAt_3b067_8 : decode cJ1_charAt_3b067 8 = .ok (.baload, 1) := by decide +kernel
theorem dJ1_charAt_3b067_9 : decode cJ1_charAt_3b067 9 = .ok (.sipush 255, 3) := by decide +kernel
theorem dJ1_charAt_3b067_12 : decode cJ1_charAt_3b067 12 = .ok (.iand, 1) := by decide +kernel
theorem dJ1_charAt_3b067_13 : decode cJ1_charAt_3b067 13 = .ok (.i2c, 1) := by decide +kernel
theorem dJ1_charAt_3b067_14 : decode cJ1_charAt_3b067 14 = .ok (.ireturn, 1) := by decide +kernel
theorem dJ2_getChar_3b067_0 : decode cJ2_getChar_3b067 0 = .ok (.getstatic 44, 3) := by decide +kernel
theorem dJ2_getChar_3b067_3 : decode cJ2_getChar_3b067 3 = .ok (.ifCond .ne 25, 3) := by decide +kernel
theorem dJ2_getChar_3b067_6 : decode cJ2_getChar_3b067 6 = .ok (.iload_n 1, 1) := by decide +kernel
theorem dJ2_getChar_3b067_7 : decode cJ2_getChar_3b067 7 = .ok (.ifCond .lt 11, 3) := by decide +kernel
theorem dJ2_getChar_3b067_10 : decode cJ2_getChar_3b067 10 = .ok (.iload_n 1, 1) := by decide +kernel
theorem dJ2_getChar_3b067_11 : decode cJ2_getChar_3b067 11 = .ok (.aload_n 0, 1) := by decide +kernel
theorem dJ2_getChar_3b067_12 : decode cJ2_getChar_3b067 12 = .ok (.invokestatic 48, 3) := by decide +kernel
theorem dJ2_getChar_3b067_15 : decode cJ2_getChar_3b067 15 = .ok (.if_icmp .lt 13, 3) := by decide +kernel
theorem dJ2_getChar_3b067_18 : decode cJ2_getChar_3b067 18 = .ok (.new 52, 3) := by decide +kernel
theorem dJ2_getChar_3b067_21 : decode cJ2_getChar_3b067 21 = .ok (.dup, 1) := by decide +kernel
theorem dJ2_getChar_3b067_22 : decode cJ2_getChar_3b067 22 = .ok (.ldc 54, 2) := by decide +kernel
theorem dJ2_getChar_3b067_24 : decode cJ2_getChar_3b067 24 = .ok (.invokespecial 56, 3) := by decide +kernel
theorem dJ2_getChar_3b067_27 : decode cJ2_getChar_3b067 27 = .ok (.athrow, 1) := by decide +kernel
theorem dJ2_getChar_3b067_28 : decode cJ2_getChar_3b067 28 = .ok (.iload_n 1, 1) := by decide +kernel
theorem dJ2_getChar_3b067_29 : decode cJ2_getChar_3b067 29 = .ok (.iconst 1, 1) := by decide +kernel
theorem dJ2_getChar_3b067_30 : decode cJ2_getChar_3b067 30 = .ok (.ishl, 1) := by decide +kernel
theorem dJ2_getChar_3b067_31 : decode cJ2_getChar_3b067 31 = .ok (.istore_n 1, 1) := by decide +kernel
theorem dJ2_getChar_3b067_32 : decode cJ2_getChar_3b067 32 = .ok (.aload_n 0, 1) := by decide +kernel
theorem dJ2_getChar_3b067_33 : decode cJ2_getChar_3b067 33 = .ok (.iload_n 1, 1) := by decide +kernel
theorem dJ2_getChar_3b067_34 : decode cJ2_getChar_3b067 34 = .ok (.iinc 1 1, 3) := by decide +kernel
theorem dJ2_getChar_3b067_37 : decode cJ2_getChar_3b067 37 = .ok (.baload, 1) := by decide +kernel
theorem dJ2_getChar_3b067_38 : decode cJ2_getChar_3b067 38 = .ok (.sipush 255, 3) := by decide +kernel
theorem dJ2_getChar_3b067_41 : decode cJ2_getChar_3b067 41 = .ok (.iand, 1) := by decide +kernel
theorem dJ2_getChar_3b067_42 : decode cJ2_getChar_3b067 42 = .ok (.getstatic 59, 3) := by decide +kernel
theorem dJ2_getChar_3b067_45 : decode cJ2_getChar_3b067 45 = .ok (.ishl, 1) := by decide +kernel
theorem dJ2_getChar_3b067_46 : decode cJ2_getChar_3b067 46 = .ok (.aload_n 0, 1) := by decide +kernel
theorem dJ2_getChar_3b067_47 : decode cJ2_getChar_3b067 47 = .ok (.iload_n 1, 1) := by decide +kernel
theorem dJ2_getChar_3b067_48 : decode cJ2_getChar_3b067 48 = .ok (.baload, 1) := by decide +kernel
theorem dJ2_getChar_3b067_49 : decode cJ2_getChar_3b067 49 = .ok (.sipush 255, 3) := by decide +kernel
theorem dJ2_getChar_3b067_52 : decode cJ2_getChar_3b067 52 = .ok (.iand, 1) := by decide +kernel
theorem dJ2_getChar_3b067_53 : decode cJ2_getChar_3b067 53 = .ok (.getstatic 63, 3) := by decide +kernel
theorem dJ2_getChar_3b067_56 : decode cJ2_getChar_3b067 56 = .ok (.ishl, 1) := by decide +kernel
theorem dJ2_getChar_3b067_57 : decode cJ2_getChar_3b067 57 = .ok (.ior, 1) := by decide +kernel
theorem dJ2_getChar_3b067_58 : decode cJ2_getChar_3b067 58 = .ok (.i2c, 1) := by decide +kernel
theorem dJ2_getChar_3b067_59 : decode cJ2_getChar_3b067 59 = .ok (.ireturn, 1) := by decide +kernel
theorem dJ2_length_9d52b_0 : decode cJ2_length_9d52b 0 = .ok (.aload_n 0, 1) := by decide +kernel
theorem dJ2_length_9d52b_1 : decode cJ2_length_9d52b 1 = .ok (.arraylength, 1) := by decide +kernel
theorem dJ2_length_9d52b_2 : decode cJ2_length_9d52b 2 = .ok (.iconst 1, 1) := by decide +kernel
theorem dJ2_length_9d52b_3 : decode cJ2_length_9d52b 3 = .ok (.ishr, 1) := by decide +kernel
theorem dJ2_length_9d52b_4 : decode cJ2_length_9d52b 4 = .ok (.ireturn, 1) := by decide +kernel
theorem dJ2_charAt_3b067_0 : decode cJ2_charAt_3b067 0 = .ok (.iload_n 1, 1) := by decide +kernel
theorem dJ2_charAt_3b067_1 : decode cJ2_charAt_3b067 1 = .ok (.aload_n 0, 1) := by decide +kernel
theorem dJ2_charAt_3b067_2 : decode cJ2_charAt_3b067 2 = .ok (.invokestatic 67, 3) := by decide +kernel
theorem dJ2_charAt_3b067_5 : decode cJ2_charAt_3b067 5 = .ok (.aload_n 0, 1) := by decide +kernel
theorem dJ2_charAt_3b067_6 : decode cJ2_charAt_3b067 6 = .ok (.iload_n 1, 1) := by decide +kernel
theorem dJ2_charAt_3b067_7 : decode cJ2_charAt_3b067 7 = .ok (.invokestatic 71, 3) := by decide +kernel
theorem dJ2_charAt_3b067_10 : decode cJ2_charAt_3b067 10 = .ok (.ireturn, 1) := by decide +kernel
theorem dJ2_checkIndex_2214a_0 : decode cJ2_checkIndex_2214a 0 = .ok (.iload_n 0, 1) := by decide +kernel
theorem dJ2_checkIndex_2214a_1 : decode cJ2_checkIndex_2214a 1 = .ok (.aload_n 1, 1) := by decide +kernel
theorem dJ2_checkIndex_2214a_2 : decode cJ2_checkIndex_2214a 2 = .ok (.invokestatic 48, 3) := by decide +kernel
theorem dJ2_checkIndex_2214a_5 : decode cJ2_checkIndex_2214a 5 = .ok (.invokestatic 414, 3) := by decide +kernel
theorem dJ2_checkIndex_2214a_8 : decode cJ2_checkIndex_2214a 8 = .ok (.return_, 1) := by decide +kernel
theorem dJ7_fill_53178_0 : decode cJ7_fill_53178 0 = .ok (.iconst 0, 1) := by decide +kernel
theorem dJ7_fill_53178_1 : decode cJ7_fill_53178 1 = .ok (.istore_n 2, 1) := by decide +kernel
theorem dJ7_fill_53178_2 : decode cJ7_fill_53178 2 = .ok (.aload_n 0, 1) := by decide +kernel
theorem dJ7_fill_53178_3 : decode cJ7_fill_53178 3 = .ok (.arraylength, 1) := by decide +kernel
theorem dJ7_fill_53178_4 : decode cJ7_fill_53178 4 = .ok (.istore_n 3, 1) := by decide +kernel
theorem dJ7_fill_53178_5 : decode cJ7_fill_53178 5 = .ok (.iload_n 2, 1) := by decide +kernel
theorem dJ7_fill_53178_6 : decode cJ7_fill_53178 6 = .ok (.iload_n 3, 1) := by decide +kernel
theorem dJ7_fill_53178_7 : decode cJ7_fill_53178 7 = .ok (.if_icmp .ge 13, 3) := by decide +kernel
theorem dJ7_fill_53178_10 : decode cJ7_fill_53178 10 = .ok (.aload_n 0, 1) := by decide +kernel
theorem dJ7_fill_53178_11 : decode cJ7_fill_53178 11 = .ok (.iload_n 2, 1) := by decide +kernel
theorem dJ7_fill_53178_12 : decode cJ7_fill_53178 12 = .ok (.iload_n 1, 1) := by decide +kernel
theorem dJ7_fill_53178_13 : decode cJ7_fill_53178 13 = .ok (.iastore, 1) := by decide +kernel
theorem dJ7_fill_53178_14 : decode cJ7_fill_53178 14 = .ok (.iinc 2 1, 3) := by decide +kernel
theorem dJ7_fill_53178_17 : decode cJ7_fill_53178 17 = .ok (.goto (-12), 3) := by decide +kernel
theorem dJ7_fill_53178_20 : decode cJ7_fill_53178 20 = .ok (.return_, 1) := by decide +kernel
theorem dJ3_checkIndex_8e157_0 : decode cJ3_checkIndex_8e157 0 = .ok (.iload_n 0, 1) := by decide +kernel
theorem dJ3_checkIndex_8e157_1 : decode cJ3_checkIndex_8e157 1 = .ok (.ifCond .lt 8, 3) := by decide +kernel
theorem dJ3_checkIndex_8e157_4 : decode cJ3_checkIndex_8e157 4 = .ok (.iload_n 0, 1) := by decide +kernel
theorem dJ3_checkIndex_8e157_5 : decode cJ3_checkIndex_8e157 5 = .ok (.iload_n 1, 1) := by decide +kernel
theorem dJ3_checkIndex_8e157_6 : decode cJ3_checkIndex_8e157 6 = .ok (.if_icmp .lt 10, 3) := by decide +kernel
theorem dJ3_checkIndex_8e157_9 : decode cJ3_checkIndex_8e157 9 = .ok (.aload_n 2, 1) := by decide +kernel
theorem dJ3_checkIndex_8e157_10 : decode cJ3_checkIndex_8e157 10 = .ok (.iload_n 0, 1) := by decide +kernel
theorem dJ3_checkIndex_8e157_11 : decode cJ3_checkIndex_8e157 11 = .ok (.iload_n 1, 1) := by decide +kernel
theorem dJ3_checkIndex_8e157_12 : decode cJ3_checkIndex_8e157 12 = .ok (.invokestatic 95, 3) := by decide +kernel
theorem dJ3_checkIndex_8e157_15 : decode cJ3_checkIndex_8e157 15 = .ok (.athrow, 1) := by decide +kernel
theorem dJ3_checkIndex_8e157_16 : decode cJ3_checkIndex_8e157 16 = .ok (.iload_n 0, 1) := by decide +kernel
theorem dJ3_checkIndex_8e157_17 : decode cJ3_checkIndex_8e157 17 = .ok (.ireturn, 1) := by decide +kernel
theorem dL_law_0 : decode cL_law 0 = .ok (.new 7, 3) := by decide +kernel
theorem dL_law_3 : decode cL_law 3 = .ok (.dup, 1) := by decide +kernel
theorem dL_law_4 : decode cL_law 4 = .ok (.invokespecial 9, 3) := by decide +kernel
theorem dL_law_7 : decode cL_law 7 = .ok (.astore_n 1, 1) := by decide +kernel
theorem dL_law_8 : decode cL_law 8 = .ok (.new 10, 3) := by decide +kernel
theorem dL_law_11 : decode cL_law 11 = .ok (.dup, 1) := by decide +kernel
theorem dL_law_12 : decode cL_law 12 = .ok (.invokespecial 12, 3) := by decide +kernel
theorem dL_law_15 : decode cL_law 15 = .ok (.astore_n 2, 1) := by decide +kernel
theorem dL_law_16 : decode cL_law 16 = .ok (.iconst 0, 1) := by decide +kernel
theorem dL_law_17 : decode cL_law 17 = .ok (.istore_n 3, 1) := by decide +kernel
theorem dL_law_18 : decode cL_law 18 = .ok (.iload_n 3, 1) := by decide +kernel
theorem dL_law_19 : decode cL_law 19 = .ok (.aload_n 0, 1) := by decide +kernel
theorem dL_law_20 : decode cL_law 20 = .ok (.arraylength, 1) := by decide +kernel
theorem dL_law_21 : decode cL_law 21 = .ok (.iconst 4, 1) := by decide +kernel
theorem dL_law_22 : decode cL_law 22 = .ok (.isub, 1) := by decide +kernel
theorem dL_law_23 : decode cL_law 23 = .ok (.if_icmp .gt 776, 3) := by decide +kernel
theorem dL_law_26 : decode cL_law 26 = .ok (.aload_n 0, 1) := by decide +kernel
theorem dL_law_27 : decode cL_law 27 = .ok (.iload_n 3, 1) := by decide +kernel
theorem dL_law_28 : decode cL_law 28 = .ok (.iaload, 1) := by decide +kernel
theorem dL_law_29 : decode cL_law 29 = .ok (.bipush 31, 2) := by decide +kernel
theorem dL_law_31 : decode cL_law 31 = .ok (.iand, 1) := by decide +kernel
theorem dL_law_32 : decode cL_law 32 = .ok (.tableswitch 761 0 24 #[116, 159, 202, 225, 248, 261, 284, 307, 330, 363, 396, 419, 452, 485, 508, 541, 564, 597, 620, 653, 676, 689, 712, 725, 748], 116) := by decide +kernel
theorem dL_law_148 : decode cL_law 148 = .ok (.aload_n 1, 1) := by decide +kernel
theorem dL_law_149 : decode cL_law 149 = .ok (.aload_n 0, 1) := by decide +kernel
theorem dL_law_150 : decode cL_law 150 = .ok (.iload_n 3, 1) := by decide +kernel
theorem dL_law_151 : decode cL_law 151 = .ok (.iconst 1, 1) := by decide +kernel
theorem dL_law_152 : decode cL_law 152 = .ok (.iadd, 1) := by decide +kernel
theorem dL_law_153 : decode cL_law 153 = .ok (.iaload, 1) := by decide +kernel
theorem dL_law_154 : decode cL_law 154 = .ok (.aload_n 0, 1) := by decide +kernel
theorem dL_law_155 : decode cL_law 155 = .ok (.iload_n 3, 1) := by decide +kernel
theorem dL_law_156 : decode cL_law 156 = .ok (.iconst 2, 1) := by decide +kernel
theorem dL_law_157 : decode cL_law 157 = .ok (.iadd, 1) := by decide +kernel
theorem dL_law_158 : decode cL_law 158 = .ok (.iaload, 1) := by decide +kernel
theorem dL_law_159 : decode cL_law 159 = .ok (.aload_n 0, 1) := by decide +kernel
theorem dL_law_160 : decode cL_law 160 = .ok (.iload_n 3, 1) := by decide +kernel
theorem dL_law_161 : decode cL_law 161 = .ok (.iconst 3, 1) := by decide +kernel
theorem dL_law_162 : decode cL_law 162 = .ok (.iadd, 1) := by decide +kernel
theorem dL_law_163 : decode cL_law 163 = .ok (.iaload, 1) := by decide +kernel
theorem dL_law_164 : decode cL_law 164 = .ok (.invokevirtual 13, 3) := by decide +kernel
theorem dL_law_167 : decode cL_law 167 = .ok (.aload_n 2, 1) := by decide +kernel
theorem dL_law_168 : decode cL_law 168 = .ok (.aload_n 0, 1) := by decide +kernel
theorem dL_law_169 : decode cL_law 169 = .ok (.iload_n 3, 1) := by decide +kernel
theorem dL_law_170 : decode cL_law 170 = .ok (.iconst 1, 1) := by decide +kernel
theorem dL_law_171 : decode cL_law 171 = .ok (.iadd, 1) := by decide +kernel
theorem dL_law_172 : decode cL_law 172 = .ok (.iaload, 1) := by decide +kernel
theorem dL_law_173 : decode cL_law 173 = .ok (.aload_n 0, 1) := by decide +kernel
theorem dL_law_174 : decode cL_law 174 = .ok (.iload_n 3, 1) := by decide +kernel
theorem dL_law_175 : decode cL_law 175 = .ok (.iconst 2, 1) := by decide +kernel
theorem dL_law_176 : decode cL_law 176 = .ok (.iadd, 1) := by decide +kernel
theorem dL_law_177 : decode cL_law 177 = .ok (.iaload, 1) := by decide +kernel
theorem dL_law_178 : decode cL_law 178 = .ok (.aload_n 0, 1) := by decide +kernel
theorem dL_law_179 : decode cL_law 179 = .ok (.iload_n 3, 1) := by decide +kernel
theorem dL_law_180 : decode cL_law 180 = .ok (.iconst 3, 1) := by decide +kernel
theorem dL_law_181 : decode cL_law 181 = .ok (.iadd, 1) := by decide +kernel
theorem dL_law_182 : decode cL_law 182 = .ok (.iaload, 1) := by decide +kernel
theorem dL_law_183 : decode cL_law 183 = .ok (.invokevirtual 17, 3) := by decide +kernel
theorem dL_law_186 : decode cL_law 186 = .ok (.if_icmp .eq 607, 3) := by decide +kernel
theorem dL_law_189 : decode cL_law 189 = .ok (.iconst 0, 1) := by decide +kernel
theorem dL_law_190 : decode cL_law 190 = .ok (.ireturn, 1) := by decide +kernel
theorem dL_law_191 : decode cL_law 191 = .ok (.aload_n 1, 1) := by decide +kernel
theorem dL_law_192 : decode cL_law 192 = .ok (.aload_n 0, 1) := by decide +kernel
theorem dL_law_193 : decode cL_law 193 = .ok (.iload_n 3, 1) := by decide +kernel
theorem dL_law_194 : decode cL_law 194 = .ok (.iconst 1, 1) := by decide +kernel
theorem dL_law_195 : decode cL_law 195 = .ok (.iadd, 1) := by decide +kernel
theorem dL_law_196 : decode cL_law 196 = .ok (.iaload, 1) := by decide +kernel
theorem dL_law_197 : decode cL_law 197 = .ok (.aload_n 0, 1) := by decide +kernel
theorem dL_law_198 : decode cL_law 198 = .ok (.iload_n 3, 1) := by decide +kernel
theorem dL_law_199 : decode cL_law 199 = .ok (.iconst 2, 1) := by decide +kernel
theorem dL_law_200 : decode cL_law 200 = .ok (.iadd, 1) := by decide +kernel
theorem dL_law_201 : decode cL_law 201 = .ok (.iaload, 1) := by decide +kernel
theorem dL_law_202 : decode cL_law 202 = .ok (.aload_n 0, 1) := by decide +kernel
theorem dL_law_203 : decode cL_law 203 = .ok (.iload_n 3, 1) := by decide +kernel
theorem dL_law_204 : decode cL_law 204 = .ok (.iconst 3, 1) := by decide +kernel
theorem dL_law_205 : decode cL_law 205 = .ok (.iadd, 1) := by decide +kernel
theorem dL_law_206 : decode cL_law 206 = .ok (.iaload, 1) := by decide +kernel
theorem dL_law_207 : decode cL_law 207 = .ok (.invokevirtual 18, 3) := by decide +kernel
theorem dL_law_210 : decode cL_law 210 = .ok (.aload_n 2, 1) := by decide +kernel
theorem dL_law_211 : decode cL_law 211 = .ok (.aload_n 0, 1) := by decide +kernel
theorem dL_law_212 : decode cL_law 212 = .ok (.iload_n 3, 1) := by decide +kernel
theorem dL_law_213 : decode cL_law 213 = .ok (.iconst 1, 1) := by decide +kernel
theorem dL_law_214 : decode cL_law 214 = .ok (.iadd, 1) := by decide +kernel
theorem dL_law_215 : decode cL_law 215 = .ok (.iaload, 1) := by decide +kernel
theorem dL_law_216 : decode cL_law 216 = .ok (.aload_n 0, 1) := by decide +kernel
theorem dL_law_217 : decode cL_law 217 = .ok (.iload_n 3, 1) := by decide +kernel
theorem dL_law_218 : decode cL_law 218 = .ok (.iconst 2, 1) := by decide +kernel
theorem dL_law_219 : decode cL_law 219 = .ok (.iadd, 1) := by decide +kernel
theorem dL_law_220 : decode cL_law 220 = .ok (.iaload, 1) := by decide +kernel
theorem dL_law_221 : decode cL_law 221 = .ok (.aload_n 0, 1) := by decide +kernel
theorem dL_law_222 : decode cL_law 222 = .ok (.iload_n 3, 1) := by decide +kernel
theorem dL_law_223 : decode cL_law 223 = .ok (.iconst 3, 1) := by decide +kernel
theorem dL_law_224 : decode cL_law 224 = .ok (.iadd, 1) := by decide +kernel
theorem dL_law_225 : decode cL_law 225 = .ok (.iaload, 1) := by decide +kernel
theorem dL_law_226 : decode cL_law 226 = .ok (.invokevirtual 21, 3) := by decide +kernel
theorem dL_law_229 : decode cL_law 229 = .ok (.if_icmp .eq 564, 3) := by decide +kernel
theorem dL_law_232 : decode cL_law 232 = .ok (.iconst 0, 1) := by decide +kernel
theorem dL_law_233 : decode cL_law 233 = .ok (.ireturn, 1) := by decide +kernel
theorem dL_law_234 : decode cL_law 234 = .ok (.aload_n 1, 1) := by decide +kernel
theorem dL_law_235 : decode cL_law 235 = .ok (.aload_n 0, 1) := by decide +kernel
theorem dL_law_236 : decode cL_law 236 = .ok (.iload_n 3, 1) := by decide +kernel
theorem dL_law_237 : decode cL_law 237 = .ok (.iconst 1, 1) := by decide +kernel
theorem dL_law_238 : decode cL_law 238 = .ok (.iadd, 1) := by decide +kernel
theorem dL_law_239 : decode cL_law 239 = .ok (.iaload, 1) := by decide +kernel
theorem dL_law_240 : decode cL_law 240 = .ok (.invokevirtual 22, 3) := by decide +kernel
theorem dL_law_243 : decode cL_law 243 = .ok (.aload_n 2, 1) := by decide +kernel
theorem dL_law_244 : decode cL_law 244 = .ok (.aload_n 0, 1) := by decide +kernel
theorem dL_law_245 : decode cL_law 245 = .ok (.iload_n 3, 1) := by decide +kernel
theorem dL_law_246 : decode cL_law 246 = .ok (.iconst 1, 1) := by decide +kernel
theorem dL_law_247 : decode cL_law 247 = .ok (.iadd, 1) := by decide +kernel
theorem dL_law_248 : decode cL_law 248 = .ok (.iaload, 1) := by decide +kernel
theorem dL_law_249 : decode cL_law 249 = .ok (.invokevirtual 26, 3) := by decide +kernel
theorem dL_law_252 : decode cL_law 252 = .ok (.if_icmp .eq 541, 3) := by decide +kernel
theorem dL_law_255 : decode cL_law 255 = .ok (.iconst 0, 1) := by decide +kernel
theorem dL_law_256 : decode cL_law 256 = .ok (.ireturn, 1) := by decide +kernel
theorem dL_law_257 : decode cL_law 257 = .ok (.aload_n 1, 1) := by decide +kernel
theorem dL_law_258 : decode cL_law 258 = .ok (.aload_n 0, 1) := by decide +kernel
theorem dL_law_259 : decode cL_law 259 = .ok (.iload_n 3, 1) := by decide +kernel
theorem dL_law_260 : decode cL_law 260 = .ok (.iconst 1, 1) := by decide +kernel
theorem dL_law_261 : decode cL_law 261 = .ok (.iadd, 1) := by decide +kernel
theorem dL_law_262 : decode cL_law 262 = .ok (.iaload, 1) := by decide +kernel
theorem dL_law_263 : decode cL_law 263 = .ok (.invokevirtual 27, 3) := by decide +kernel
theorem dL_law_266 : decode cL_law 266 = .ok (.aload_n 2, 1) := by decide +kernel
theorem dL_law_267 : decode cL_law 267 = .ok (.aload_n 0, 1) := by decide +kernel
theorem dL_law_268 : decode cL_law 268 = .ok (.iload_n 3, 1) := by decide +kernel
theorem dL_law_269 : decode cL_law 269 = .ok (.iconst 1, 1) := by decide +kernel
theorem dL_law_270 : decode cL_law 270 = .ok (.iadd, 1) := by decide +kernel
theorem dL_law_271 : decode cL_law 271 = .ok (.iaload, 1) := by decide +kernel
theorem dL_law_272 : decode cL_law 272 = .ok (.invokevirtual 30, 3) := by decide +kernel
theorem dL_law_275 : decode cL_law 275 = .ok (.if_icmp .eq 518, 3) := by decide +kernel
theorem dL_law_278 : decode cL_law 278 = .ok (.iconst 0, 1) := by decide +kernel
theorem dL_law_279 : decode cL_law 279 = .ok (.ireturn, 1) := by decide +kernel
theorem dL_law_280 : decode cL_law 280 = .ok (.aload_n 1, 1) := by decide +kernel
theorem dL_law_281 : decode cL_law 281 = .ok (.invokevirtual 31, 3) := by decide +kernel
theorem dL_law_284 : decode cL_law 284 = .ok (.aload_n 2, 1) := by decide +kernel
theorem dL_law_285 : decode cL_law 285 = .ok (.invokevirtual 35, 3) := by decide +kernel
theorem dL_law_288 : decode cL_law 288 = .ok (.if_icmp .eq 505, 3) := by decide +kernel
theorem dL_law_291 : decode cL_law 291 = .ok (.iconst 0, 1) := by decide +kernel
theorem dL_law_292 : decode cL_law 292 = .ok (.ireturn, 1) := by decide +kernel
theorem dL_law_293 : decode cL_law 293 = .ok (.aload_n 1, 1) := by decide +kernel
theorem dL_law_294 : decode cL_law 294 = .ok (.aload_n 0, 1) := by decide +kernel
theorem dL_law_295 : decode cL_law 295 = .ok (.iload_n 3, 1) := by decide +kernel
theorem dL_law_296 : decode cL_law 296 = .ok (.iconst 1, 1) := by decide +kernel
theorem dL_law_297 : decode cL_law 297 = .ok (.iadd, 1) := by decide +kernel
theorem dL_law_298 : decode cL_law 298 = .ok (.iaload, 1) := by decide +kernel
theorem dL_law_299 : decode cL_law 299 = .ok (.invokevirtual 36, 3) := by decide +kernel
theorem dL_law_302 : decode cL_law 302 = .ok (.aload_n 2, 1) := by decide +kernel
theorem dL_law_303 : decode cL_law 303 = .ok (.aload_n 0, 1) := by decide +kernel
theorem dL_law_304 : decode cL_law 304 = .ok (.iload_n 3, 1) := by decide +kernel
theorem dL_law_305 : decode cL_law 305 = .ok (.iconst 1, 1) := by decide +kernel
theorem dL_law_306 : decode cL_law 306 = .ok (.iadd, 1) := by decide +kernel
theorem dL_law_307 : decode cL_law 307 = .ok (.iaload, 1) := by decide +kernel
theorem dL_law_308 : decode cL_law 308 = .ok (.invokevirtual 39, 3) := by decide +kernel
theorem dL_law_311 : decode cL_law 311 = .ok (.if_icmp .eq 482, 3) := by decide +kernel
theorem dL_law_314 : decode cL_law 314 = .ok (.iconst 0, 1) := by decide +kernel
theorem dL_law_315 : decode cL_law 315 = .ok (.ireturn, 1) := by decide +kernel
theorem dL_law_316 : decode cL_law 316 = .ok (.aload_n 1, 1) := by decide +kernel
theorem dL_law_317 : decode cL_law 317 = .ok (.aload_n 0, 1) := by decide +kernel
theorem dL_law_318 : decode cL_law 318 = .ok (.iload_n 3, 1) := by decide +kernel
theorem dL_law_319 : decode cL_law 319 = .ok (.iconst 1, 1) := by decide +kernel
theorem dL_law_320 : decode cL_law 320 = .ok (.iadd, 1) := by decide +kernel
theorem dL_law_321 : decode cL_law 321 = .ok (.iaload, 1) := by decide +kernel
theorem dL_law_322 : decode cL_law 322 = .ok (.invokevirtual 40, 3) := by decide +kernel
theorem dL_law_325 : decode cL_law 325 = .ok (.aload_n 2, 1) := by decide +kernel
theorem dL_law_326 : decode cL_law 326 = .ok (.aload_n 0, 1) := by decide +kernel
theorem dL_law_327 : decode cL_law 327 = .ok (.iload_n 3, 1) := by decide +kernel
theorem dL_law_328 : decode cL_law 328 = .ok (.iconst 1, 1) := by decide +kernel
theorem dL_law_329 : decode cL_law 329 = .ok (.iadd, 1) := by decide +kernel
theorem dL_law_330 : decode cL_law 330 = .ok (.iaload, 1) := by decide +kernel
theorem dL_law_331 : decode cL_law 331 = .ok (.invokevirtual 43, 3) := by decide +kernel
theorem dL_law_334 : decode cL_law 334 = .ok (.if_icmp .eq 459, 3) := by decide +kernel
theorem dL_law_337 : decode cL_law 337 = .ok (.iconst 0, 1) := by decide +kernel
theorem dL_law_338 : decode cL_law 338 = .ok (.ireturn, 1) := by decide +kernel
theorem dL_law_339 : decode cL_law 339 = .ok (.aload_n 1, 1) := by decide +kernel
theorem dL_law_340 : decode cL_law 340 = .ok (.aload_n 0, 1) := by decide +kernel
theorem dL_law_341 : decode cL_law 341 = .ok (.iload_n 3, 1) := by decide +kernel
theorem dL_law_342 : decode cL_law 342 = .ok (.iconst 1, 1) := by decide +kernel
theorem dL_law_343 : decode cL_law 343 = .ok (.iadd, 1) := by decide +kernel
theorem dL_law_344 : decode cL_law 344 = .ok (.iaload, 1) := by decide +kernel
theorem dL_law_345 : decode cL_law 345 = .ok (.invokevirtual 44, 3) := by decide +kernel
theorem dL_law_348 : decode cL_law 348 = .ok (.aload_n 2, 1) := by decide +kernel
theorem dL_law_349 : decode cL_law 349 = .ok (.aload_n 0, 1) := by decide +kernel
theorem dL_law_350 : decode cL_law 350 = .ok (.iload_n 3, 1) := by decide +kernel
theorem dL_law_351 : decode cL_law 351 = .ok (.iconst 1, 1) := by decide +kernel
theorem dL_law_352 : decode cL_law 352 = .ok (.iadd, 1) := by decide +kernel
theorem dL_law_353 : decode cL_law 353 = .ok (.iaload, 1) := by decide +kernel
theorem dL_law_354 : decode cL_law 354 = .ok (.invokevirtual 47, 3) := by decide +kernel
theorem dL_law_357 : decode cL_law 357 = .ok (.if_icmp .eq 436, 3) := by decide +kernel
theorem dL_law_360 : decode cL_law 360 = .ok (.iconst 0, 1) := by decide +kernel
theorem dL_law_361 : decode cL_law 361 = .ok (.ireturn, 1) := by decide +kernel
theorem dL_law_362 : decode cL_law 362 = .ok (.aload_n 1, 1) := by decide +kernel
theorem dL_law_363 : decode cL_law 363 = .ok (.aload_n 0, 1) := by decide +kernel
theorem dL_law_364 : decode cL_law 364 = .ok (.iload_n 3, 1) := by decide +kernel
theorem dL_law_365 : decode cL_law 365 = .ok (.iconst 1, 1) := by decide +kernel
theorem dL_law_366 : decode cL_law 366 = .ok (.iadd, 1) := by decide +kernel
theorem dL_law_367 : decode cL_law 367 = .ok (.iaload, 1) := by decide +kernel
theorem dL_law_368 : decode cL_law 368 = .ok (.aload_n 0, 1) := by decide +kernel
theorem dL_law_369 : decode cL_law 369 = .ok (.iload_n 3, 1) := by decide +kernel
theorem dL_law_370 : decode cL_law 370 = .ok (.iconst 2, 1) := by decide +kernel
theorem dL_law_371 : decode cL_law 371 = .ok (.iadd, 1) := by decide +kernel
theorem dL_law_372 : decode cL_law 372 = .ok (.iaload, 1) := by decide +kernel
theorem dL_law_373 : decode cL_law 373 = .ok (.invokevirtual 48, 3) := by decide +kernel
theorem dL_law_376 : decode cL_law 376 = .ok (.aload_n 2, 1) := by decide +kernel
theorem dL_law_377 : decode cL_law 377 = .ok (.aload_n 0, 1) := by decide +kernel
theorem dL_law_378 : decode cL_law 378 = .ok (.iload_n 3, 1) := by decide +kernel
theorem dL_law_379 : decode cL_law 379 = .ok (.iconst 1, 1) := by decide +kernel
theorem dL_law_380 : decode cL_law 380 = .ok (.iadd, 1) := by decide +kernel
theorem dL_law_381 : decode cL_law 381 = .ok (.iaload, 1) := by decide +kernel
theorem dL_law_382 : decode cL_law 382 = .ok (.aload_n 0, 1) := by decide +kernel
theorem dL_law_383 : decode cL_law 383 = .ok (.iload_n 3, 1) := by decide +kernel
theorem dL_law_384 : decode cL_law 384 = .ok (.iconst 2, 1) := by decide +kernel
theorem dL_law_385 : decode cL_law 385 = .ok (.iadd, 1) := by decide +kernel
theorem dL_law_386 : decode cL_law 386 = .ok (.iaload, 1) := by decide +kernel
theorem dL_law_387 : decode cL_law 387 = .ok (.invokevirtual 52, 3) := by decide +kernel
theorem dL_law_390 : decode cL_law 390 = .ok (.if_icmp .eq 403, 3) := by decide +kernel
theorem dL_law_393 : decode cL_law 393 = .ok (.iconst 0, 1) := by decide +kernel
theorem dL_law_394 : decode cL_law 394 = .ok (.ireturn, 1) := by decide +kernel
theorem dL_law_395 : decode cL_law 395 = .ok (.aload_n 1, 1) := by decide +kernel
theorem dL_law_396 : decode cL_law 396 = .ok (.aload_n 0, 1) := by decide +kernel
theorem dL_law_397 : decode cL_law 397 = .ok (.iload_n 3, 1) := by decide +kernel
theorem dL_law_398 : decode cL_law 398 = .ok (.iconst 1, 1) := by decide +kernel
theorem dL_law_399 : decode cL_law 399 = .ok (.iadd, 1) := by decide +kernel
theorem dL_law_400 : decode cL_law 400 = .ok (.iaload, 1) := by decide +kernel
theorem dL_law_401 : decode cL_law 401 = .ok (.aload_n 0, 1) := by decide +kernel
theorem dL_law_402 : decode cL_law 402 = .ok (.iload_n 3, 1) := by decide +kernel
theorem dL_law_403 : decode cL_law 403 = .ok (.iconst 2, 1) := by decide +kernel
theorem dL_law_404 : decode cL_law 404 = .ok (.iadd, 1) := by decide +kernel
theorem dL_law_405 : decode cL_law 405 = .ok (.iaload, 1) := by decide +kernel
theorem dL_law_406 : decode cL_law 406 = .ok (.invokevirtual 53, 3) := by decide +kernel
theorem dL_law_409 : decode cL_law 409 = .ok (.aload_n 2, 1) := by decide +kernel
theorem dL_law_410 : decode cL_law 410 = .ok (.aload_n 0, 1) := by decide +kernel
theorem dL_law_411 : decode cL_law 411 = .ok (.iload_n 3, 1) := by decide +kernel
theorem dL_law_412 : decode cL_law 412 = .ok (.iconst 1, 1) := by decide +kernel
theorem dL_law_413 : decode cL_law 413 = .ok (.iadd, 1) := by decide +kernel
theorem dL_law_414 : decode cL_law 414 = .ok (.iaload, 1) := by decide +kernel
theorem dL_law_415 : decode cL_law 415 = .ok (.aload_n 0, 1) := by decide +kernel
theorem dL_law_416 : decode cL_law 416 = .ok (.iload_n 3, 1) := by decide +kernel
theorem dL_law_417 : decode cL_law 417 = .ok (.iconst 2, 1) := by decide +kernel
theorem dL_law_418 : decode cL_law 418 = .ok (.iadd, 1) := by decide +kernel
theorem dL_law_419 : decode cL_law 419 = .ok (.iaload, 1) := by decide +kernel
theorem dL_law_420 : decode cL_law 420 = .ok (.invokevirtual 56, 3) := by decide +kernel
theorem dL_law_423 : decode cL_law 423 = .ok (.if_icmp .eq 370, 3) := by decide +kernel
theorem dL_law_426 : decode cL_law 426 = .ok (.iconst 0, 1) := by decide +kernel
theorem dL_law_427 : decode cL_law 427 = .ok (.ireturn, 1) := by decide +kernel
theorem dL_law_428 : decode cL_law 428 = .ok (.aload_n 1, 1) := by decide +kernel
theorem dL_law_429 : decode cL_law 429 = .ok (.aload_n 0, 1) := by decide +kernel
theorem dL_law_430 : decode cL_law 430 = .ok (.iload_n 3, 1) := by decide +kernel
theorem dL_law_431 : decode cL_law 431 = .ok (.iconst 1, 1) := by decide +kernel
theorem dL_law_432 : decode cL_law 432 = .ok (.iadd, 1) := by decide +kernel
theorem dL_law_433 : decode cL_law 433 = .ok (.iaload, 1) := by decide +kernel
theorem dL_law_434 : decode cL_law 434 = .ok (.invokevirtual 57, 3) := by decide +kernel
theorem dL_law_437 : decode cL_law 437 = .ok (.aload_n 2, 1) := by decide +kernel
theorem dL_law_438 : decode cL_law 438 = .ok (.aload_n 0, 1) := by decide +kernel
theorem dL_law_439 : decode cL_law 439 = .ok (.iload_n 3, 1) := by decide +kernel
theorem dL_law_440 : decode cL_law 440 = .ok (.iconst 1, 1) := by decide +kernel
theorem dL_law_441 : decode cL_law 441 = .ok (.iadd, 1) := by decide +kernel
theorem dL_law_442 : decode cL_law 442 = .ok (.iaload, 1) := by decide +kernel
theorem dL_law_443 : decode cL_law 443 = .ok (.invokevirtual 60, 3) := by decide +kernel
theorem dL_law_446 : decode cL_law 446 = .ok (.if_icmp .eq 347, 3) := by decide +kernel
theorem dL_law_449 : decode cL_law 449 = .ok (.iconst 0, 1) := by decide +kernel
theorem dL_law_450 : decode cL_law 450 = .ok (.ireturn, 1) := by decide +kernel
theorem dL_law_451 : decode cL_law 451 = .ok (.aload_n 1, 1) := by decide +kernel
theorem dL_law_452 : decode cL_law 452 = .ok (.aload_n 0, 1) := by decide +kernel
theorem dL_law_453 : decode cL_law 453 = .ok (.iload_n 3, 1) := by decide +kernel
theorem dL_law_454 : decode cL_law 454 = .ok (.iconst 1, 1) := by decide +kernel
theorem dL_law_455 : decode cL_law 455 = .ok (.iadd, 1) := by decide +kernel
theorem dL_law_456 : decode cL_law 456 = .ok (.iaload, 1) := by decide +kernel
theorem dL_law_457 : decode cL_law 457 = .ok (.aload_n 0, 1) := by decide +kernel
theorem dL_law_458 : decode cL_law 458 = .ok (.iload_n 3, 1) := by decide +kernel
theorem dL_law_459 : decode cL_law 459 = .ok (.iconst 2, 1) := by decide +kernel
theorem dL_law_460 : decode cL_law 460 = .ok (.iadd, 1) := by decide +kernel
theorem dL_law_461 : decode cL_law 461 = .ok (.iaload, 1) := by decide +kernel
theorem dL_law_462 : decode cL_law 462 = .ok (.invokevirtual 61, 3) := by decide +kernel
theorem dL_law_465 : decode cL_law 465 = .ok (.aload_n 2, 1) := by decide +kernel
theorem dL_law_466 : decode cL_law 466 = .ok (.aload_n 0, 1) := by decide +kernel
theorem dL_law_467 : decode cL_law 467 = .ok (.iload_n 3, 1) := by decide +kernel
theorem dL_law_468 : decode cL_law 468 = .ok (.iconst 1, 1) := by decide +kernel
theorem dL_law_469 : decode cL_law 469 = .ok (.iadd, 1) := by decide +kernel
theorem dL_law_470 : decode cL_law 470 = .ok (.iaload, 1) := by decide +kernel
theorem dL_law_471 : decode cL_law 471 = .ok (.aload_n 0, 1) := by decide +kernel
theorem dL_law_472 : decode cL_law 472 = .ok (.iload_n 3, 1) := by decide +kernel
theorem dL_law_473 : decode cL_law 473 = .ok (.iconst 2, 1) := by decide +kernel
theorem dL_law_474 : decode cL_law 474 = .ok (.iadd, 1) := by decide +kernel
theorem dL_law_475 : decode cL_law 475 = .ok (.iaload, 1) := by decide +kernel
theorem dL_law_476 : decode cL_law 476 = .ok (.invokevirtual 64, 3) := by decide +kernel
theorem dL_law_479 : decode cL_law 479 = .ok (.if_icmp .eq 314, 3) := by decide +kernel
theorem dL_law_482 : decode cL_law 482 = .ok (.iconst 0, 1) := by decide +kernel
theorem dL_law_483 : decode cL_law 483 = .ok (.ireturn, 1) := by decide +kernel
theorem dL_law_484 : decode cL_law 484 = .ok (.aload_n 1, 1) := by decide +kernel
theorem dL_law_485 : decode cL_law 485 = .ok (.aload_n 0, 1) := by decide +kernel
theorem dL_law_486 : decode cL_law 486 = .ok (.iload_n 3, 1) := by decide +kernel
theorem dL_law_487 : decode cL_law 487 = .ok (.iconst 1, 1) := by decide +kernel
theorem dL_law_488 : decode cL_law 488 = .ok (.iadd, 1) := by decide +kernel
theorem dL_law_489 : decode cL_law 489 = .ok (.iaload, 1) := by decide +kernel
theorem dL_law_490 : decode cL_law 490 = .ok (.aload_n 0, 1) := by decide +kernel
theorem dL_law_491 : decode cL_law 491 = .ok (.iload_n 3, 1) := by decide +kernel
theorem dL_law_492 : decode cL_law 492 = .ok (.iconst 2, 1) := by decide +kernel
theorem dL_law_493 : decode cL_law 493 = .ok (.iadd, 1) := by decide +kernel
theorem dL_law_494 : decode cL_law 494 = .ok (.iaload, 1) := by decide +kernel
theorem dL_law_495 : decode cL_law 495 = .ok (.invokevirtual 65, 3) := by decide +kernel
theorem dL_law_498 : decode cL_law 498 = .ok (.aload_n 2, 1) := by decide +kernel
theorem dL_law_499 : decode cL_law 499 = .ok (.aload_n 0, 1) := by decide +kernel
theorem dL_law_500 : decode cL_law 500 = .ok (.iload_n 3, 1) := by decide +kernel
theorem dL_law_501 : decode cL_law 501 = .ok (.iconst 1, 1) := by decide +kernel
theorem dL_law_502 : decode cL_law 502 = .ok (.iadd, 1) := by decide +kernel
theorem dL_law_503 : decode cL_law 503 = .ok (.iaload, 1) := by decide +kernel
theorem dL_law_504 : decode cL_law 504 = .ok (.aload_n 0, 1) := by decide +kernel
theorem dL_law_505 : decode cL_law 505 = .ok (.iload_n 3, 1) := by decide +kernel
theorem dL_law_506 : decode cL_law 506 = .ok (.iconst 2, 1) := by decide +kernel
theorem dL_law_507 : decode cL_law 507 = .ok (.iadd, 1) := by decide +kernel
theorem dL_law_508 : decode cL_law 508 = .ok (.iaload, 1) := by decide +kernel
theorem dL_law_509 : decode cL_law 509 = .ok (.invokevirtual 68, 3) := by decide +kernel
theorem dL_law_512 : decode cL_law 512 = .ok (.if_icmp .eq 281, 3) := by decide +kernel
theorem dL_law_515 : decode cL_law 515 = .ok (.iconst 0, 1) := by decide +kernel
theorem dL_law_516 : decode cL_law 516 = .ok (.ireturn, 1) := by decide +kernel
theorem dL_law_517 : decode cL_law 517 = .ok (.aload_n 1, 1) := by decide +kernel
theorem dL_law_518 : decode cL_law 518 = .ok (.aload_n 0, 1) := by decide +kernel
theorem dL_law_519 : decode cL_law 519 = .ok (.iload_n 3, 1) := by decide +kernel
theorem dL_law_520 : decode cL_law 520 = .ok (.iconst 1, 1) := by decide +kernel
theorem dL_law_521 : decode cL_law 521 = .ok (.iadd, 1) := by decide +kernel
theorem dL_law_522 : decode cL_law 522 = .ok (.iaload, 1) := by decide +kernel
theorem dL_law_523 : decode cL_law 523 = .ok (.invokevirtual 69, 3) := by decide +kernel
theorem dL_law_526 : decode cL_law 526 = .ok (.aload_n 2, 1) := by decide +kernel
theorem dL_law_527 : decode cL_law 527 = .ok (.aload_n 0, 1) := by decide +kernel
theorem dL_law_528 : decode cL_law 528 = .ok (.iload_n 3, 1) := by decide +kernel
theorem dL_law_529 : decode cL_law 529 = .ok (.iconst 1, 1) := by decide +kernel
theorem dL_law_530 : decode cL_law 530 = .ok (.iadd, 1) := by decide +kernel
theorem dL_law_531 : decode cL_law 531 = .ok (.iaload, 1) := by decide +kernel
theorem dL_law_532 : decode cL_law 532 = .ok (.invokevirtual 72, 3) := by decide +kernel
theorem dL_law_535 : decode cL_law 535 = .ok (.if_icmp .eq 258, 3) := by decide +kernel
theorem dL_law_538 : decode cL_law 538 = .ok (.iconst 0, 1) := by decide +kernel
theorem dL_law_539 : decode cL_law 539 = .ok (.ireturn, 1) := by decide +kernel
theorem dL_law_540 : decode cL_law 540 = .ok (.aload_n 1, 1) := by decide +kernel
theorem dL_law_541 : decode cL_law 541 = .ok (.aload_n 0, 1) := by decide +kernel
theorem dL_law_542 : decode cL_law 542 = .ok (.iload_n 3, 1) := by decide +kernel
theorem dL_law_543 : decode cL_law 543 = .ok (.iconst 1, 1) := by decide +kernel
theorem dL_law_544 : decode cL_law 544 = .ok (.iadd, 1) := by decide +kernel
theorem dL_law_545 : decode cL_law 545 = .ok (.iaload, 1) := by decide +kernel
theorem dL_law_546 : decode cL_law 546 = .ok (.aload_n 0, 1) := by decide +kernel
theorem dL_law_547 : decode cL_law 547 = .ok (.iload_n 3, 1) := by decide +kernel
theorem dL_law_548 : decode cL_law 548 = .ok (.iconst 2, 1) := by decide +kernel
theorem dL_law_549 : decode cL_law 549 = .ok (.iadd, 1) := by decide +kernel
theorem dL_law_550 : decode cL_law 550 = .ok (.iaload, 1) := by decide +kernel
theorem dL_law_551 : decode cL_law 551 = .ok (.invokevirtual 73, 3) := by decide +kernel
theorem dL_law_554 : decode cL_law 554 = .ok (.aload_n 2, 1) := by decide +kernel
theorem dL_law_555 : decode cL_law 555 = .ok (.aload_n 0, 1) := by decide +kernel
theorem dL_law_556 : decode cL_law 556 = .ok (.iload_n 3, 1) := by decide +kernel
theorem dL_law_557 : decode cL_law 557 = .ok (.iconst 1, 1) := by decide +kernel
theorem dL_law_558 : decode cL_law 558 = .ok (.iadd, 1) := by decide +kernel
theorem dL_law_559 : decode cL_law 559 = .ok (.iaload, 1) := by decide +kernel
theorem dL_law_560 : decode cL_law 560 = .ok (.aload_n 0, 1) := by decide +kernel
theorem dL_law_561 : decode cL_law 561 = .ok (.iload_n 3, 1) := by decide +kernel
theorem dL_law_562 : decode cL_law 562 = .ok (.iconst 2, 1) := by decide +kernel
theorem dL_law_563 : decode cL_law 563 = .ok (.iadd, 1) := by decide +kernel
theorem dL_law_564 : decode cL_law 564 = .ok (.iaload, 1) := by decide +kernel
theorem dL_law_565 : decode cL_law 565 = .ok (.invokevirtual 76, 3) := by decide +kernel
theorem dL_law_568 : decode cL_law 568 = .ok (.if_icmp .eq 225, 3) := by decide +kernel
theorem dL_law_571 : decode cL_law 571 = .ok (.iconst 0, 1) := by decide +kernel
theorem dL_law_572 : decode cL_law 572 = .ok (.ireturn, 1) := by decide +kernel
theorem dL_law_573 : decode cL_law 573 = .ok (.aload_n 1, 1) := by decide +kernel
theorem dL_law_574 : decode cL_law 574 = .ok (.aload_n 0, 1) := by decide +kernel
theorem dL_law_575 : decode cL_law 575 = .ok (.iload_n 3, 1) := by decide +kernel
theorem dL_law_576 : decode cL_law 576 = .ok (.iconst 1, 1) := by decide +kernel
theorem dL_law_577 : decode cL_law 577 = .ok (.iadd, 1) := by decide +kernel
theorem dL_law_578 : decode cL_law 578 = .ok (.iaload, 1) := by decide +kernel
theorem dL_law_579 : decode cL_law 579 = .ok (.invokevirtual 77, 3) := by decide +kernel
theorem dL_law_582 : decode cL_law 582 = .ok (.aload_n 2, 1) := by decide +kernel
theorem dL_law_583 : decode cL_law 583 = .ok (.aload_n 0, 1) := by decide +kernel
theorem dL_law_584 : decode cL_law 584 = .ok (.iload_n 3, 1) := by decide +kernel
theorem dL_law_585 : decode cL_law 585 = .ok (.iconst 1, 1) := by decide +kernel
theorem dL_law_586 : decode cL_law 586 = .ok (.iadd, 1) := by decide +kernel
theorem dL_law_587 : decode cL_law 587 = .ok (.iaload, 1) := by decide +kernel
theorem dL_law_588 : decode cL_law 588 = .ok (.invokevirtual 80, 3) := by decide +kernel
theorem dL_law_591 : decode cL_law 591 = .ok (.if_icmp .eq 202, 3) := by decide +kernel
theorem dL_law_594 : decode cL_law 594 = .ok (.iconst 0, 1) := by decide +kernel
theorem dL_law_595 : decode cL_law 595 = .ok (.ireturn, 1) := by decide +kernel
theorem dL_law_596 : decode cL_law 596 = .ok (.aload_n 1, 1) := by decide +kernel
theorem dL_law_597 : decode cL_law 597 = .ok (.aload_n 0, 1) := by decide +kernel
theorem dL_law_598 : decode cL_law 598 = .ok (.iload_n 3, 1) := by decide +kernel
theorem dL_law_599 : decode cL_law 599 = .ok (.iconst 1, 1) := by decide +kernel
theorem dL_law_600 : decode cL_law 600 = .ok (.iadd, 1) := by decide +kernel
theorem dL_law_601 : decode cL_law 601 = .ok (.iaload, 1) := by decide +kernel
theorem dL_law_602 : decode cL_law 602 = .ok (.aload_n 0, 1) := by decide +kernel
theorem dL_law_603 : decode cL_law 603 = .ok (.iload_n 3, 1) := by decide +kernel
theorem dL_law_604 : decode cL_law 604 = .ok (.iconst 2, 1) := by decide +kernel
theorem dL_law_605 : decode cL_law 605 = .ok (.iadd, 1) := by decide +kernel
theorem dL_law_606 : decode cL_law 606 = .ok (.iaload, 1) := by decide +kernel
theorem dL_law_607 : decode cL_law 607 = .ok (.invokevirtual 81, 3) := by decide +kernel
theorem dL_law_610 : decode cL_law 610 = .ok (.aload_n 2, 1) := by decide +kernel
theorem dL_law_611 : decode cL_law 611 = .ok (.aload_n 0, 1) := by decide +kernel
theorem dL_law_612 : decode cL_law 612 = .ok (.iload_n 3, 1) := by decide +kernel
theorem dL_law_613 : decode cL_law 613 = .ok (.iconst 1, 1) := by decide +kernel
theorem dL_law_614 : decode cL_law 614 = .ok (.iadd, 1) := by decide +kernel
theorem dL_law_615 : decode cL_law 615 = .ok (.iaload, 1) := by decide +kernel
theorem dL_law_616 : decode cL_law 616 = .ok (.aload_n 0, 1) := by decide +kernel
theorem dL_law_617 : decode cL_law 617 = .ok (.iload_n 3, 1) := by decide +kernel
theorem dL_law_618 : decode cL_law 618 = .ok (.iconst 2, 1) := by decide +kernel
theorem dL_law_619 : decode cL_law 619 = .ok (.iadd, 1) := by decide +kernel
theorem dL_law_620 : decode cL_law 620 = .ok (.iaload, 1) := by decide +kernel
theorem dL_law_621 : decode cL_law 621 = .ok (.invokevirtual 84, 3) := by decide +kernel
theorem dL_law_624 : decode cL_law 624 = .ok (.if_icmp .eq 169, 3) := by decide +kernel
theorem dL_law_627 : decode cL_law 627 = .ok (.iconst 0, 1) := by decide +kernel
theorem dL_law_628 : decode cL_law 628 = .ok (.ireturn, 1) := by decide +kernel
theorem dL_law_629 : decode cL_law 629 = .ok (.aload_n 1, 1) := by decide +kernel
theorem dL_law_630 : decode cL_law 630 = .ok (.aload_n 0, 1) := by decide +kernel
theorem dL_law_631 : decode cL_law 631 = .ok (.iload_n 3, 1) := by decide +kernel
theorem dL_law_632 : decode cL_law 632 = .ok (.iconst 1, 1) := by decide +kernel
theorem dL_law_633 : decode cL_law 633 = .ok (.iadd, 1) := by decide +kernel
theorem dL_law_634 : decode cL_law 634 = .ok (.iaload, 1) := by decide +kernel
theorem dL_law_635 : decode cL_law 635 = .ok (.invokevirtual 85, 3) := by decide +kernel
theorem dL_law_638 : decode cL_law 638 = .ok (.aload_n 2, 1) := by decide +kernel
theorem dL_law_639 : decode cL_law 639 = .ok (.aload_n 0, 1) := by decide +kernel
theorem dL_law_640 : decode cL_law 640 = .ok (.iload_n 3, 1) := by decide +kernel
theorem dL_law_641 : decode cL_law 641 = .ok (.iconst 1, 1) := by decide +kernel
theorem dL_law_642 : decode cL_law 642 = .ok (.iadd, 1) := by decide +kernel
theorem dL_law_643 : decode cL_law 643 = .ok (.iaload, 1) := by decide +kernel
theorem dL_law_644 : decode cL_law 644 = .ok (.invokevirtual 88, 3) := by decide +kernel
theorem dL_law_647 : decode cL_law 647 = .ok (.if_icmp .eq 146, 3) := by decide +kernel
theorem dL_law_650 : decode cL_law 650 = .ok (.iconst 0, 1) := by decide +kernel
theorem dL_law_651 : decode cL_law 651 = .ok (.ireturn, 1) := by decide +kernel
theorem dL_law_652 : decode cL_law 652 = .ok (.aload_n 1, 1) := by decide +kernel
theorem dL_law_653 : decode cL_law 653 = .ok (.aload_n 0, 1) := by decide +kernel
theorem dL_law_654 : decode cL_law 654 = .ok (.iload_n 3, 1) := by decide +kernel
theorem dL_law_655 : decode cL_law 655 = .ok (.iconst 1, 1) := by decide +kernel
theorem dL_law_656 : decode cL_law 656 = .ok (.iadd, 1) := by decide +kernel
theorem dL_law_657 : decode cL_law 657 = .ok (.iaload, 1) := by decide +kernel
theorem dL_law_658 : decode cL_law 658 = .ok (.aload_n 0, 1) := by decide +kernel
theorem dL_law_659 : decode cL_law 659 = .ok (.iload_n 3, 1) := by decide +kernel
theorem dL_law_660 : decode cL_law 660 = .ok (.iconst 2, 1) := by decide +kernel
theorem dL_law_661 : decode cL_law 661 = .ok (.iadd, 1) := by decide +kernel
theorem dL_law_662 : decode cL_law 662 = .ok (.iaload, 1) := by decide +kernel
theorem dL_law_663 : decode cL_law 663 = .ok (.invokevirtual 89, 3) := by decide +kernel
theorem dL_law_666 : decode cL_law 666 = .ok (.aload_n 2, 1) := by decide +kernel
theorem dL_law_667 : decode cL_law 667 = .ok (.aload_n 0, 1) := by decide +kernel
theorem dL_law_668 : decode cL_law 668 = .ok (.iload_n 3, 1) := by decide +kernel
theorem dL_law_669 : decode cL_law 669 = .ok (.iconst 1, 1) := by decide +kernel
theorem dL_law_670 : decode cL_law 670 = .ok (.iadd, 1) := by decide +kernel
theorem dL_law_671 : decode cL_law 671 = .ok (.iaload, 1) := by decide +kernel
theorem dL_law_672 : decode cL_law 672 = .ok (.aload_n 0, 1) := by decide +kernel
theorem dL_law_673 : decode cL_law 673 = .ok (.iload_n 3, 1) := by decide +kernel
theorem dL_law_674 : decode cL_law 674 = .ok (.iconst 2, 1) := by decide +kernel
theorem dL_law_675 : decode cL_law 675 = .ok (.iadd, 1) := by decide +kernel
theorem dL_law_676 : decode cL_law 676 = .ok (.iaload, 1) := by decide +kernel
theorem dL_law_677 : decode cL_law 677 = .ok (.invokevirtual 92, 3) := by decide +kernel
theorem dL_law_680 : decode cL_law 680 = .ok (.if_icmp .eq 113, 3) := by decide +kernel
theorem dL_law_683 : decode cL_law 683 = .ok (.iconst 0, 1) := by decide +kernel
theorem dL_law_684 : decode cL_law 684 = .ok (.ireturn, 1) := by decide +kernel
theorem dL_law_685 : decode cL_law 685 = .ok (.aload_n 1, 1) := by decide +kernel
theorem dL_law_686 : decode cL_law 686 = .ok (.aload_n 0, 1) := by decide +kernel
theorem dL_law_687 : decode cL_law 687 = .ok (.iload_n 3, 1) := by decide +kernel
theorem dL_law_688 : decode cL_law 688 = .ok (.iconst 1, 1) := by decide +kernel
theorem dL_law_689 : decode cL_law 689 = .ok (.iadd, 1) := by decide +kernel
theorem dL_law_690 : decode cL_law 690 = .ok (.iaload, 1) := by decide +kernel
theorem dL_law_691 : decode cL_law 691 = .ok (.invokevirtual 93, 3) := by decide +kernel
theorem dL_law_694 : decode cL_law 694 = .ok (.aload_n 2, 1) := by decide +kernel
theorem dL_law_695 : decode cL_law 695 = .ok (.aload_n 0, 1) := by decide +kernel
theorem dL_law_696 : decode cL_law 696 = .ok (.iload_n 3, 1) := by decide +kernel
theorem dL_law_697 : decode cL_law 697 = .ok (.iconst 1, 1) := by decide +kernel
theorem dL_law_698 : decode cL_law 698 = .ok (.iadd, 1) := by decide +kernel
theorem dL_law_699 : decode cL_law 699 = .ok (.iaload, 1) := by decide +kernel
theorem dL_law_700 : decode cL_law 700 = .ok (.invokevirtual 96, 3) := by decide +kernel
theorem dL_law_703 : decode cL_law 703 = .ok (.if_icmp .eq 90, 3) := by decide +kernel
theorem dL_law_706 : decode cL_law 706 = .ok (.iconst 0, 1) := by decide +kernel
theorem dL_law_707 : decode cL_law 707 = .ok (.ireturn, 1) := by decide +kernel
theorem dL_law_708 : decode cL_law 708 = .ok (.aload_n 1, 1) := by decide +kernel
theorem dL_law_709 : decode cL_law 709 = .ok (.invokevirtual 97, 3) := by decide +kernel
theorem dL_law_712 : decode cL_law 712 = .ok (.aload_n 2, 1) := by decide +kernel
theorem dL_law_713 : decode cL_law 713 = .ok (.invokevirtual 100, 3) := by decide +kernel
theorem dL_law_716 : decode cL_law 716 = .ok (.if_icmp .eq 77, 3) := by decide +kernel
theorem dL_law_719 : decode cL_law 719 = .ok (.iconst 0, 1) := by decide +kernel
theorem dL_law_720 : decode cL_law 720 = .ok (.ireturn, 1) := by decide +kernel
theorem dL_law_721 : decode cL_law 721 = .ok (.aload_n 1, 1) := by decide +kernel
theorem dL_law_722 : decode cL_law 722 = .ok (.aload_n 0, 1) := by decide +kernel
theorem dL_law_723 : decode cL_law 723 = .ok (.iload_n 3, 1) := by decide +kernel
theorem dL_law_724 : decode cL_law 724 = .ok (.iconst 1, 1) := by decide +kernel
theorem dL_law_725 : decode cL_law 725 = .ok (.iadd, 1) := by decide +kernel
theorem dL_law_726 : decode cL_law 726 = .ok (.iaload, 1) := by decide +kernel
theorem dL_law_727 : decode cL_law 727 = .ok (.invokevirtual 101, 3) := by decide +kernel
theorem dL_law_730 : decode cL_law 730 = .ok (.aload_n 2, 1) := by decide +kernel
theorem dL_law_731 : decode cL_law 731 = .ok (.aload_n 0, 1) := by decide +kernel
theorem dL_law_732 : decode cL_law 732 = .ok (.iload_n 3, 1) := by decide +kernel
theorem dL_law_733 : decode cL_law 733 = .ok (.iconst 1, 1) := by decide +kernel
theorem dL_law_734 : decode cL_law 734 = .ok (.iadd, 1) := by decide +kernel
theorem dL_law_735 : decode cL_law 735 = .ok (.iaload, 1) := by decide +kernel
theorem dL_law_736 : decode cL_law 736 = .ok (.invokevirtual 104, 3) := by decide +kernel
theorem dL_law_739 : decode cL_law 739 = .ok (.if_icmp .eq 54, 3) := by decide +kernel
theorem dL_law_742 : decode cL_law 742 = .ok (.iconst 0, 1) := by decide +kernel
theorem dL_law_743 : decode cL_law 743 = .ok (.ireturn, 1) := by decide +kernel
theorem dL_law_744 : decode cL_law 744 = .ok (.aload_n 1, 1) := by decide +kernel
theorem dL_law_745 : decode cL_law 745 = .ok (.invokevirtual 105, 3) := by decide +kernel
theorem dL_law_748 : decode cL_law 748 = .ok (.aload_n 2, 1) := by decide +kernel
theorem dL_law_749 : decode cL_law 749 = .ok (.invokevirtual 108, 3) := by decide +kernel
theorem dL_law_752 : decode cL_law 752 = .ok (.if_icmp .eq 41, 3) := by decide +kernel
theorem dL_law_755 : decode cL_law 755 = .ok (.iconst 0, 1) := by decide +kernel
theorem dL_law_756 : decode cL_law 756 = .ok (.ireturn, 1) := by decide +kernel
theorem dL_law_757 : decode cL_law 757 = .ok (.aload_n 1, 1) := by decide +kernel
theorem dL_law_758 : decode cL_law 758 = .ok (.aload_n 0, 1) := by decide +kernel
theorem dL_law_759 : decode cL_law 759 = .ok (.iload_n 3, 1) := by decide +kernel
theorem dL_law_760 : decode cL_law 760 = .ok (.iconst 1, 1) := by decide +kernel
theorem dL_law_761 : decode cL_law 761 = .ok (.iadd, 1) := by decide +kernel
theorem dL_law_762 : decode cL_law 762 = .ok (.iaload, 1) := by decide +kernel
theorem dL_law_763 : decode cL_law 763 = .ok (.invokevirtual 109, 3) := by decide +kernel
theorem dL_law_766 : decode cL_law 766 = .ok (.aload_n 2, 1) := by decide +kernel
theorem dL_law_767 : decode cL_law 767 = .ok (.aload_n 0, 1) := by decide +kernel
theorem dL_law_768 : decode cL_law 768 = .ok (.iload_n 3, 1) := by decide +kernel
theorem dL_law_769 : decode cL_law 769 = .ok (.iconst 1, 1) := by decide +kernel
theorem dL_law_770 : decode cL_law 770 = .ok (.iadd, 1) := by decide +kernel
theorem dL_law_771 : decode cL_law 771 = .ok (.iaload, 1) := by decide +kernel
theorem dL_law_772 : decode cL_law 772 = .ok (.invokevirtual 112, 3) := by decide +kernel
theorem dL_law_775 : decode cL_law 775 = .ok (.if_icmp .eq 18, 3) := by decide +kernel
theorem dL_law_778 : decode cL_law 778 = .ok (.iconst 0, 1) := by decide +kernel
theorem dL_law_779 : decode cL_law 779 = .ok (.ireturn, 1) := by decide +kernel
theorem dL_law_780 : decode cL_law 780 = .ok (.aload_n 1, 1) := by decide +kernel
theorem dL_law_781 : decode cL_law 781 = .ok (.invokevirtual 113, 3) := by decide +kernel
theorem dL_law_784 : decode cL_law 784 = .ok (.aload_n 2, 1) := by decide +kernel
theorem dL_law_785 : decode cL_law 785 = .ok (.invokevirtual 116, 3) := by decide +kernel
theorem dL_law_788 : decode cL_law 788 = .ok (.if_icmp .eq 5, 3) := by decide +kernel
theorem dL_law_791 : decode cL_law 791 = .ok (.iconst 0, 1) := by decide +kernel
theorem dL_law_792 : decode cL_law 792 = .ok (.ireturn, 1) := by decide +kernel
theorem dL_law_793 : decode cL_law 793 = .ok (.iinc 3 4, 3) := by decide +kernel
theorem dL_law_796 : decode cL_law 796 = .ok (.goto (-778), 3) := by decide +kernel
theorem dL_law_799 : decode cL_law 799 = .ok (.iconst 1, 1) := by decide +kernel
theorem dL_law_800 : decode cL_law 800 = .ok (.ireturn, 1) := by decide +kernel
end
section
/-! ===== the words that a call may carry; nest words; the machine's side of a contract ===== -/
def tG : List Cond := lw_tbl.filter goodWord
theorem tG_of {w : Cond} (h : w ∈ lw_tbl) (g : goodWord w = true) : w ∈ tG := List.mem_filter.mpr ⟨h, g⟩
theorem tG_in {x : Cond} {ws : List Cond} (h : ∀ w ∈ ws, w ∈ tG) : GoodIn (x :: tG) ws := fun w hw => ⟨List.mem_cons_of_mem _ (h w hw), good_of_word (List.mem_filter.mp (h w hw)).2⟩
def isNest : Cond → Bool
  | .methodLinkNest _ _ _ _ => true
  | _ => false
def nestW : List Cond := lw_tbl.filter isNest
theorem nest_of {w : Cond} (h : w ∈ lw_tbl) (g : isNest w = true) : w ∈ nestW := List.mem_filter.mpr ⟨h, g⟩
def NW (U : State) : Prop := ∀ w ∈ nestW, va_Nw w U
theorem NW.warm {s U : State} (hW : s.WarmedH U.vm) (h : NW s) : NW U := by
  intro w hw
  have h1 := h w hw
  have h2 := (List.mem_filter.mp hw).2
  cases w <;> first | exact va_Nw.warmM hW h1 | (exact absurd h2 (by simp [isNest]))
theorem NW.same {u U : State} (hv : u.vm = U.vm) (h : NW u) : NW U := by
  intro w hw
  have h1 := h w hw
  have h2 := (List.mem_filter.mp hw).2
  cases w <;> first | exact va_Nw.same rfl hv h1 | (exact absurd h2 (by simp [isNest]))
abbrev Dt : Type := va_G × ClassId × ClassId × ClassId
def TY (d : Dt) : List (ClassId × FieldType) := [(d.2.1, .int), (d.2.2.1, .char), (d.2.2.2, .object "MastRobots$Library")]
def KX (d : Dt) (U : State) : Prop := va_K d.1 vwCl (TY d) U ∧ NW U
theorem KX.warm {d : Dt} {s U : State} (hW : s.WarmedH U.vm) (h : KX d s) : KX d U := ⟨va_K.moved hW.alike h.1, NW.warm hW h.2⟩
theorem KX.calling {d : Dt} {U : State} (g : JFrame) (mk : MethodId) (a : Array Value) (h : KX d U) : KX d (U.calling g mk a) :=
  ⟨va_K.moved (u := U) (U := U.calling g mk a) (Vm.Alike.refl U.vm) h.1, NW.same (u := U) (U := U.calling g mk a) rfl h.2⟩
/-! ===== locals as a list by place ===== -/
def LH (ls : Array Slot) (nL : Nat) (lv : List (Option Value)) : Prop := ls.size = nL ∧ lv_wf ls ∧ ∀ (i : Nat) (v : Value), lv[i]? = some (some v) → ls[i]? = some (.val v) ∧ v.category = 1
def lvA : Nat → List (Option Value) → List (Nat × Value)
  | _, [] => []
  | k, none :: t => lvA (k + 1) t
  | k, some v :: t => (k, v) :: lvA (k + 1) t
theorem lvA_mem : ∀ (lv : List (Option Value)) (k : Nat) (q : Nat × Value), q ∈ lvA k lv ↔ ∃ i, q.1 = k + i ∧ lv[i]? = some (some q.2)
  | [], k, q => by simp [lvA]
  | none :: t, k, q => by
    rw [lvA, lvA_mem t (k + 1) q]
    constructor
    · rintro ⟨i, h1, h2⟩
      exact ⟨i + 1, by omega, by simpa using h2⟩
    · rintro ⟨i, h1, h2⟩
      cases i with
      | zero => simp at h2
      | succ i => exact ⟨i, by omega, by simpa using h2⟩
  | some v :: t, k, q => by
    rw [lvA, List.mem_cons, lvA_mem t (k + 1) q]
    constructor
    · rintro (h | ⟨i, h1, h2⟩)
      · exact ⟨0, by rw [h]; rfl, by rw [h]; rfl⟩
      · exact ⟨i + 1, by omega, by simpa using h2⟩
    · rintro ⟨i, h1, h2⟩
      cases i with
      | zero =>
        left
        obtain ⟨q1, q2⟩ := q
        simp at h1 h2
        simp [h1, h2]
      | succ i => exact Or.inr ⟨i, by omega, by simpa using h2⟩
theorem LH.toHas {ls : Array Slot} {nL : Nat} {lv : List (Option Value)} (h : LH ls nL lv) : lv_has ls nL (lvA 0 lv) := by
  refine ⟨h.1, h.2.1, fun q hq => ?_⟩
  obtain ⟨i, h1, h2⟩ := (lvA_mem lv 0 q).mp hq
  rw [show q.1 = i by omega]
  exact (h.2.2 i q.2 h2).1
theorem LH.at {ls : Array Slot} {nL : Nat} {lv : List (Option Value)} (h : LH ls nL lv) {i : Nat} {v : Value} (hi : lv[i]? = some (some v)) : ls[i]? = some (.val v) := (h.2.2 i v hi).1
theorem LH.put {ls ls' : Array Slot} {nL i : Nat} {v : Value} {lv : List (Option Value)} (h : LH ls nL lv) (hc : v.category = 1)
    (h' : lv_has ls' nL ((i, v) :: (lvA 0 lv).filter (fun q => !(q.1 == i) && !(q.1 + 1 == i && q.2.category == 2)))) : LH ls' nL (lv.set i (some v)) := by
  refine ⟨h'.1, h'.2.1, fun j w hj => ?_⟩
  by_cases hji : i = j
  · subst hji
    rw [List.getElem?_set_self'] at hj
    have : v = w := by
      cases hx : lv[i]? with
      | none => rw [hx] at hj; simp at hj
      | some y => rw [hx] at hj; simpa using hj
    subst this
    exact ⟨h'.2.2 (i, v) List.mem_cons_self, hc⟩
  · rw [List.getElem?_set_ne hji] at hj
    have hc1 := (h.2.2 j w hj).2
    refine ⟨h'.2.2 (j, w) (List.mem_cons_of_mem _ (List.mem_filter.mpr ⟨(lvA_mem lv 0 (j, w)).mpr ⟨j, by simp, hj⟩, ?_⟩)), hc1⟩
    have : ¬ j = i := fun e => hji e.symm
    simp [this, hc1]
def lvM : List Bool → List (Option Value) → List (Option Value)
  | true :: bs, v :: t => v :: lvM bs t
  | false :: bs, _ :: t => none :: lvM bs t
  | _, _ => []
theorem lvM_at : ∀ (bs : List Bool) (lv : List (Option Value)) (i : Nat) (v : Value), (lvM bs lv)[i]? = some (some v) → lv[i]? = some (some v)
  | [], lv, i, v, h => by simp [lvM] at h
  | _ :: _, [], i, v, h => by simp [lvM] at h
  | true :: bs, w :: t, i, v, h => by
    cases i with
    | zero => simpa [lvM] using h
    | succ i => simpa using lvM_at bs t i v (by simpa [lvM] using h)
  | false :: bs, w :: t, i, v, h => by
    cases i with
    | zero => simp [lvM] at h
    | succ i => simpa using lvM_at bs t i v (by simpa [lvM] using h)
theorem lvArgs_mem : ∀ (vs : List Value) (k i : Nat) (v : Value), (∀ w ∈ vs, w.category = 1) → vs[i]? = some v → (k + i, v) ∈ lv_args k vs
  | [], k, i, v, _, h => by simp at h
  | w :: vs, k, i, v, hc, h => by
    have h1 : ¬ w.category = 2 := by rw [hc w List.mem_cons_self]; decide
    rw [lv_args, if_neg h1]
    cases i with
    | zero => simp at h; subst h; exact List.mem_cons_self
    | succ i =>
      refine List.mem_cons_of_mem _ ?_
      have := lvArgs_mem vs (k + 1) i v (fun w hw => hc w (List.mem_cons_of_mem _ hw)) (by simpa using h)
      rw [show k + (i + 1) = k + 1 + i by omega]
      exact this
theorem LH.entry {av : List Value} {nL : Nat} {lv : List (Option Value)} {ls : Array Slot} (h : lv_has ls nL (lv_args 0 av)) (hc : ∀ v ∈ av, v.category = 1) (hl : ∀ (i : Nat) (v : Value), lv[i]? = some (some v) → av[i]? = some v) : LH ls nL lv := by
  refine ⟨h.1, h.2.1, fun i v hi => ?_⟩
  have h1 := hl i v hi
  have := lvArgs_mem av 0 i v hc h1
  exact ⟨h.2.2 _ (by simpa using this), hc v (List.mem_of_getElem? h1)⟩
/-! ===== the judgement: at pc, with world ws, locals lv and stack stk ===== -/
abbrev Am : Type := Program × Launch × Env × State × MethodId × Array Value × List Frame × Method × Code
abbrev Am.s (x : Am) : State := x.2.2.2.1
abbrev Am.m (x : Am) : MethodId := x.2.2.2.2.1
abbrev Am.args (x : Am) : Array Value := x.2.2.2.2.2.1
abbrev Am.below (x : Am) : List Frame := x.2.2.2.2.2.2.1
abbrev Am.meth (x : Am) : Method := x.2.2.2.2.2.2.2.1
abbrev Am.c (x : Am) : Code := x.2.2.2.2.2.2.2.2
abbrev Iv : Type := va_W → Heap → List Loc → Prop
def Cx (x : Am) (cc : ByteArray) (nL : Nat) (own : String) (d : Dt) (I : Iv) : Prop :=
  x.1.tables.exec = Jvm.exec ∧ x.c.code = cc ∧ x.c.maxLocals = nL ∧ x.s.vm.findClass own = some x.m.cls ∧ (∀ w ∈ tG, w.before x.args x.s = true) ∧ KX d x.s ∧ ∀ ws H locs, I ws H locs → va_P d.1 vwCl ws H
def V (x : Am) (R : Room) (cells slots : Nat) (Q : State → Prop) (nL : Nat) (I : Iv) (hyp : Prop) (pc : Nat) (ws : va_W) (lv : List (Option Value)) (stk : List Value) : Prop :=
  hyp → ∀ (H : Heap) (locs : List Loc) (ls : Array Slot), I ws H locs → LH ls nL lv → W x.1 x.2.1 x.2.2.1 R x.s x.m x.args x.below x.meth x.c H locs cells slots Q (F0 x.m pc ls stk)
def inb (i : Int32) (n : Nat) : Bool := decide (¬ (i < 0 ∨ n ≤ i.toNatClampNeg))
theorem inb_in {i : Int32} {n : Nat} (h : inb i n = true) : vp_in i n := by
  unfold vp_in
  simpa [inb] using h
def jrem (x y : Int32) : Int32 := x - x / y * y
def jbool (x : Int32) : Bool := x == 0 || x == 1
theorem jbool_or {x : Int32} (h : jbool x = true) : x = 0 ∨ x = 1 := by simpa [jbool] using h
section VROWS
variable {x : Am} {R : Room} {cells slots : Nat} {Q : State → Prop} {nL : Nat} {I : Iv} {hyp : Prop} {pc : Nat} {ws : va_W} {lv lv' : List (Option Value)} {rest stk : List Value} {cc : ByteArray} {own : String} {d : Dt}
theorem V_eqv {h1 h2 : Prop} (e : h1 → h2) (k : V x R cells slots Q nL I h2 pc ws lv stk) : V x R cells slots Q nL I h1 pc ws lv stk := fun h => k (e h)
theorem V_none {Z : Type} {z : Z} : V x R cells slots Q nL I ((none : Option Z) = some z) pc ws lv stk := fun h => by cases h
theorem V_mask (bs : List Bool) (hl : lvM bs lv = lv') (k : V x R cells slots Q nL I hyp pc ws lv' stk) : V x R cells slots Q nL I hyp pc ws lv stk :=
  fun h H locs ls hI hl' => k h H locs ls hI ⟨hl'.1, hl'.2.1, fun i v hi => hl'.2.2 i v (lvM_at bs lv i v (by rw [hl]; exact hi))⟩
theorem V_iconst (C : Cx x cc nL own d I) {n : Int} {v : Int32} (hdg : decode cc pc = .ok (.iconst n, 1)) (hv : Int32.ofInt n = v) (k : V x R cells slots Q nL I hyp (pc + 1) ws lv (.int v :: rest)) : V x R cells slots Q nL I hyp pc ws lv rest :=
  fun h H locs ls hI hl => lv_iconst C.1 C.2.1 hdg hv (k h H locs ls hI hl)
theorem V_bipush (C : Cx x cc nL own d I) {n : Int} {v : Int32} (hdg : decode cc pc = .ok (.bipush n, 2)) (hv : (Int8.ofInt n).toInt32 = v) (k : V x R cells slots Q nL I hyp (pc + 2) ws lv (.int v :: rest)) : V x R cells slots Q nL I hyp pc ws lv rest :=
  fun h H locs ls hI hl => lv_bipush C.1 C.2.1 hdg hv (k h H locs ls hI hl)
theorem V_sipush (C : Cx x cc nL own d I) {n : Int} {v : Int32} (hdg : decode cc pc = .ok (.sipush n, 3)) (hv : (Int16.ofInt n).toInt32 = v) (k : V x R cells slots Q nL I hyp (pc + 3) ws lv (.int v :: rest)) : V x R cells slots Q nL I hyp pc ws lv rest :=
  fun h H locs ls hI hl => lv_sipush C.1 C.2.1 hdg hv (k h H locs ls hI hl)
theorem V_ldc (C : Cx x cc nL own d I) {idx : Nat} {v : Int32} (hc : Cond.constant own idx v ∈ tG) (hdg : decode cc pc = .ok (.ldc idx, 2)) (k : V x R cells slots Q nL I hyp (pc + 2) ws lv (.int v :: rest)) : V x R cells slots Q nL I hyp pc ws lv rest :=
  fun h H locs ls hI hl => lv_ldc C.1 C.2.1 C.2.2.2.1 (C.2.2.2.2.1 _ hc) hdg (k h H locs ls hI hl)
theorem V_iload_n (C : Cx x cc nL own d I) {k0 : Fin 4} {y : Int32} (i : Nat) (hdg : decode cc pc = .ok (.iload_n k0, 1)) (hi : (k0 : Nat) = i) (hy : lv[i]? = some (some (.int y))) (k : V x R cells slots Q nL I hyp (pc + 1) ws lv (.int y :: rest)) : V x R cells slots Q nL I hyp pc ws lv rest :=
  fun h H locs ls hI hl => lv_iload_n C.1 C.2.1 hdg hi (hl.at hy) (k h H locs ls hI hl)
theorem V_iload (C : Cx x cc nL own d I) {y : Int32} {i : Nat} (hdg : decode cc pc = .ok (.iload i, 2)) (hy : lv[i]? = some (some (.int y))) (k : V x R cells slots Q nL I hyp (pc + 2) ws lv (.int y :: rest)) : V x R cells slots Q nL I hyp pc ws lv rest :=
  fun h H locs ls hI hl => lv_iload C.1 C.2.1 hdg (hl.at hy) (k h H locs ls hI hl)
theorem V_aload_n (C : Cx x cc nL own d I) {k0 : Fin 4} {y : Nat} (i : Nat) (hdg : decode cc pc = .ok (.aload_n k0, 1)) (hi : (k0 : Nat) = i) (hy : lv[i]? = some (some (.ref y))) (k : V x R cells slots Q nL I hyp (pc + 1) ws lv (.ref y :: rest)) : V x R cells slots Q nL I hyp pc ws lv rest :=
  fun h H locs ls hI hl => lv_aload_n C.1 C.2.1 hdg hi (hl.at hy) (k h H locs ls hI hl)
theorem V_aload (C : Cx x cc nL own d I) {y : Nat} {i : Nat} (hdg : decode cc pc = .ok (.aload i, 2)) (hy : lv[i]? = some (some (.ref y))) (k : V x R cells slots Q nL I hyp (pc + 2) ws lv (.ref y :: rest)) : V x R cells slots Q nL I hyp pc ws lv rest :=
  fun h H locs ls hI hl => lv_aload C.1 C.2.1 hdg (hl.at hy) (k h H locs ls hI hl)
theorem V_istore_n (C : Cx x cc nL own d I) {k0 : Fin 4} {y : Int32} (i : Nat) (hdg : decode cc pc = .ok (.istore_n k0, 1)) (hi : (k0 : Nat) = i) (hn : i < nL) (hl' : lv.set i (some (.int y)) = lv') (k : V x R cells slots Q nL I hyp (pc + 1) ws lv' rest) : V x R cells slots Q nL I hyp pc ws lv (.int y :: rest) :=
  fun h H locs ls hI hl => lv_istore_n C.1 C.2.1 hdg hi hl.toHas hn rfl (fun ls' h' => k h H locs ls' hI (hl' ▸ hl.put rfl h'))
theorem V_istore (C : Cx x cc nL own d I) {y : Int32} {i : Nat} (hdg : decode cc pc = .ok (.istore i, 2)) (hn : i < nL) (hl' : lv.set i (some (.int y)) = lv') (k : V x R cells slots Q nL I hyp (pc + 2) ws lv' rest) : V x R cells slots Q nL I hyp pc ws lv (.int y :: rest) :=
  fun h H locs ls hI hl => lv_istore C.1 C.2.1 hdg hl.toHas hn rfl (fun ls' h' => k h H locs ls' hI (hl' ▸ hl.put rfl h'))
theorem V_astore_n (C : Cx x cc nL own d I) {k0 : Fin 4} {y : Nat} (i : Nat) (hdg : decode cc pc = .ok (.astore_n k0, 1)) (hi : (k0 : Nat) = i) (hn : i < nL) (hl' : lv.set i (some (.ref y)) = lv') (k : V x R cells slots Q nL I hyp (pc + 1) ws lv' rest) : V x R cells slots Q nL I hyp pc ws lv (.ref y :: rest) :=
  fun h H locs ls hI hl => lv_astore_n C.1 C.2.1 hdg hi hl.toHas hn rfl (fun ls' h' => k h H locs ls' hI (hl' ▸ hl.put rfl h'))
theorem V_astore (C : Cx x cc nL own d I) {y : Nat} {i : Nat} (hdg : decode cc pc = .ok (.astore i, 2)) (hn : i < nL) (hl' : lv.set i (some (.ref y)) = lv') (k : V x R cells slots Q nL I hyp (pc + 2) ws lv' rest) : V x R cells slots Q nL I hyp pc ws lv (.ref y :: rest) :=
  fun h H locs ls hI hl => lv_astore C.1 C.2.1 hdg hl.toHas hn rfl (fun ls' h' => k h H locs ls' hI (hl' ▸ hl.put rfl h'))
theorem V_iinc (C : Cx x cc nL own d I) {i : Nat} {n : Int} {y v : Int32} (hdg : decode cc pc = .ok (.iinc i n, 3)) (hy : lv[i]? = some (some (.int y))) (hv : y + Int32.ofInt n = v) (hn : i < nL) (hl' : lv.set i (some (.int v)) = lv') (k : V x R cells slots Q nL I hyp (pc + 3) ws lv' rest) : V x R cells slots Q nL I hyp pc ws lv rest := by
  intro h H locs ls hI hl
  obtain ⟨j, hj⟩ := List.getElem?_of_mem ((lvA_mem lv 0 (i, .int y)).mpr ⟨i, by simp, hy⟩)
  exact lv_iinc C.1 C.2.1 hdg hl.toHas hj hv hn rfl (fun ls' h' => k h H locs ls' hI (hl' ▸ hl.put rfl h'))
theorem V_iadd (C : Cx x cc nL own d I) {a b : Int32} (hdg : decode cc pc = .ok (.iadd, 1)) (k : V x R cells slots Q nL I hyp (pc + 1) ws lv (.int (a + b) :: rest)) : V x R cells slots Q nL I hyp pc ws lv (.int b :: .int a :: rest) :=
  fun h H locs ls hI hl => lv_iadd C.1 C.2.1 hdg (k h H locs ls hI hl)
theorem V_isub (C : Cx x cc nL own d I) {a b : Int32} (hdg : decode cc pc = .ok (.isub, 1)) (k : V x R cells slots Q nL I hyp (pc + 1) ws lv (.int (a - b) :: rest)) : V x R cells slots Q nL I hyp pc ws lv (.int b :: .int a :: rest) :=
  fun h H locs ls hI hl => lv_isub C.1 C.2.1 hdg (k h H locs ls hI hl)
theorem V_imul (C : Cx x cc nL own d I) {a b : Int32} (hdg : decode cc pc = .ok (.imul, 1)) (k : V x R cells slots Q nL I hyp (pc + 1) ws lv (.int (a * b) :: rest)) : V x R cells slots Q nL I hyp pc ws lv (.int b :: .int a :: rest) :=
  fun h H locs ls hI hl => lv_imul C.1 C.2.1 hdg (k h H locs ls hI hl)
theorem V_idiv (C : Cx x cc nL own d I) {a b : Int32} (hdg : decode cc pc = .ok (.idiv, 1)) (hne : ¬ b = 0) (k : V x R cells slots Q nL I hyp (pc + 1) ws lv (.int (a / b) :: rest)) : V x R cells slots Q nL I hyp pc ws lv (.int b :: .int a :: rest) :=
  fun h H locs ls hI hl => lv_idiv C.1 C.2.1 hdg hne (k h H locs ls hI hl)
theorem V_irem (C : Cx x cc nL own d I) {a b : Int32} (hdg : decode cc pc = .ok (.irem, 1)) (hne : ¬ b = 0) (k : V x R cells slots Q nL I hyp (pc + 1) ws lv (.int (jrem a b) :: rest)) : V x R cells slots Q nL I hyp pc ws lv (.int b :: .int a :: rest) :=
  fun h H locs ls hI hl => lv_irem C.1 C.2.1 hdg hne (k h H locs ls hI hl)
theorem V_ineg (C : Cx x cc nL own d I) {a : Int32} (hdg : decode cc pc = .ok (.ineg, 1)) (k : V x R cells slots Q nL I hyp (pc + 1) ws lv (.int (-a) :: rest)) : V x R cells slots Q nL I hyp pc ws lv (.int a :: rest) :=
  fun h H locs ls hI hl => lv_ineg C.1 C.2.1 hdg (k h H locs ls hI hl)
def jchar (a : Int32) : Int32 := (a.toUInt32 % 65536).toInt32
theorem V_i2c (C : Cx x cc nL own d I) {a : Int32} (hdg : decode cc pc = .ok (.i2c, 1)) (k : V x R cells slots Q nL I hyp (pc + 1) ws lv (.int (jchar a) :: rest)) : V x R cells slots Q nL I hyp pc ws lv (.int a :: rest) :=
  fun h H locs ls hI hl => lv_i2c C.1 C.2.1 hdg rfl (k h H locs ls hI hl)
theorem V_iand (C : Cx x cc nL own d I) {a b : Int32} (hdg : decode cc pc = .ok (.iand, 1)) (k : V x R cells slots Q nL I hyp (pc + 1) ws lv (.int (a &&& b) :: rest)) : V x R cells slots Q nL I hyp pc ws lv (.int b :: .int a :: rest) :=
  fun h H locs ls hI hl => lv_iand C.1 C.2.1 hdg (k h H locs ls hI hl)
theorem V_dup (C : Cx x cc nL own d I) {v : Value} (hdg : decode cc pc = .ok (.dup, 1)) (hv : v.category = 1) (k : V x R cells slots Q nL I hyp (pc + 1) ws lv (v :: v :: rest)) : V x R cells slots Q nL I hyp pc ws lv (v :: rest) :=
  fun h H locs ls hI hl => lv_dup C.1 C.2.1 hdg hv (k h H locs ls hI hl)
theorem V_dup2 (C : Cx x cc nL own d I) {v w : Value} (hdg : decode cc pc = .ok (.dup2, 1)) (hv : v.category = 1) (hw : w.category = 1) (k : V x R cells slots Q nL I hyp (pc + 1) ws lv (v :: w :: v :: w :: rest)) : V x R cells slots Q nL I hyp pc ws lv (v :: w :: rest) :=
  fun h H locs ls hI hl => lv_dup2_11 C.1 C.2.1 hdg hv hw (k h H locs ls hI hl)
theorem V_dup_x1 (C : Cx x cc nL own d I) {v w : Value} (hdg : decode cc pc = .ok (.dup_x1, 1)) (hv : v.category = 1) (hw : w.category = 1) (k : V x R cells slots Q nL I hyp (pc + 1) ws lv (v :: w :: v :: rest)) : V x R cells slots Q nL I hyp pc ws lv (v :: w :: rest) :=
  fun h H locs ls hI hl => lv_dup_x1 C.1 C.2.1 hdg hv hw (k h H locs ls hI hl)
theorem V_dup_x2 (C : Cx x cc nL own d I) {v w u : Value} (hdg : decode cc pc = .ok (.dup_x2, 1)) (hv : v.category = 1) (hw : w.category = 1) (hu : u.category = 1) (k : V x R cells slots Q nL I hyp (pc + 1) ws lv (v :: w :: u :: v :: rest)) : V x R cells slots Q nL I hyp pc ws lv (v :: w :: u :: rest) :=
  fun h H locs ls hI hl => lv_dup_x2 C.1 C.2.1 hdg hv hw hu (k h H locs ls hI hl)
theorem V_pop (C : Cx x cc nL own d I) {v : Value} (hdg : decode cc pc = .ok (.pop, 1)) (hv : v.category = 1) (k : V x R cells slots Q nL I hyp (pc + 1) ws lv rest) : V x R cells slots Q nL I hyp pc ws lv (v :: rest) :=
  fun h H locs ls hI hl => lv_pop C.1 C.2.1 hdg hv (k h H locs ls hI hl)
theorem V_goto (C : Cx x cc nL own d I) {off : Int} {tgt : Nat} (hdg : decode cc pc = .ok (.goto off, 3)) (ht : (pc : Int) + off = (tgt : Int)) (k : V x R cells slots Q nL I hyp tgt ws lv stk) : V x R cells slots Q nL I hyp pc ws lv stk :=
  fun h H locs ls hI hl => lv_goto C.1 C.2.1 hdg ht (k h H locs ls hI hl)
theorem ite_t {Z : Type} {z : Z} {A B : Option Z} {P : Prop} [Decidable P] (q : P) (h : (if P then A else B) = some z) : A = some z := by rw [if_pos q] at h; exact h
theorem ite_f {Z : Type} {z : Z} {A B : Option Z} {P : Prop} [Decidable P] (q : ¬ P) (h : (if P then A else B) = some z) : B = some z := by rw [if_neg q] at h; exact h
theorem V_if_eq (C : Cx x cc nL own d I) {Z : Type} {z : Z} {A B : Option Z} {a : Int32} {off : Int} {tgt : Nat} (hdg : decode cc pc = .ok (.ifCond .eq off, 3)) (ht : (pc : Int) + off = (tgt : Int)) (kt : V x R cells slots Q nL I (A = some z) tgt ws lv rest) (kf : V x R cells slots Q nL I (B = some z) (pc + 3) ws lv rest) : V x R cells slots Q nL I ((if a = 0 then A else B) = some z) pc ws lv (.int a :: rest) :=
  fun h H locs ls hI hl => lv_if_eq C.1 C.2.1 hdg ht (fun q => kt (ite_t q h) H locs ls hI hl) (fun q => kf (ite_f q h) H locs ls hI hl)
theorem V_if_ne (C : Cx x cc nL own d I) {Z : Type} {z : Z} {A B : Option Z} {a : Int32} {off : Int} {tgt : Nat} (hdg : decode cc pc = .ok (.ifCond .ne off, 3)) (ht : (pc : Int) + off = (tgt : Int)) (kt : V x R cells slots Q nL I (B = some z) tgt ws lv rest) (kf : V x R cells slots Q nL I (A = some z) (pc + 3) ws lv rest) : V x R cells slots Q nL I ((if a = 0 then A else B) = some z) pc ws lv (.int a :: rest) :=
  fun h H locs ls hI hl => lv_if_ne C.1 C.2.1 hdg ht (fun q => kt (ite_f q h) H locs ls hI hl) (fun q => kf (ite_t q h) H locs ls hI hl)
theorem V_if_lt (C : Cx x cc nL own d I) {Z : Type} {z : Z} {A B : Option Z} {a : Int32} {off : Int} {tgt : Nat} (hdg : decode cc pc = .ok (.ifCond .lt off, 3)) (ht : (pc : Int) + off = (tgt : Int)) (kt : V x R cells slots Q nL I (A = some z) tgt ws lv rest) (kf : V x R cells slots Q nL I (B = some z) (pc + 3) ws lv rest) : V x R cells slots Q nL I ((if a < 0 then A else B) = some z) pc ws lv (.int a :: rest) :=
  fun h H locs ls hI hl => lv_if_lt C.1 C.2.1 hdg ht (fun q => kt (ite_t q h) H locs ls hI hl) (fun q => kf (ite_f q h) H locs ls hI hl)
theorem V_if_ge (C : Cx x cc nL own d I) {Z : Type} {z : Z} {A B : Option Z} {a : Int32} {off : Int} {tgt : Nat} (hdg : decode cc pc = .ok (.ifCond .ge off, 3)) (ht : (pc : Int) + off = (tgt : Int)) (kt : V x R cells slots Q nL I (A = some z) tgt ws lv rest) (kf : V x R cells slots Q nL I (B = some z) (pc + 3) ws lv rest) : V x R cells slots Q nL I ((if 0 ≤ a then A else B) = some z) pc ws lv (.int a :: rest) :=
  fun h H locs ls hI hl => lv_if_ge C.1 C.2.1 hdg ht (fun q => kt (ite_t q h) H locs ls hI hl) (fun q => kf (ite_f q h) H locs ls hI hl)
theorem V_if_gt (C : Cx x cc nL own d I) {Z : Type} {z : Z} {A B : Option Z} {a : Int32} {off : Int} {tgt : Nat} (hdg : decode cc pc = .ok (.ifCond .gt off, 3)) (ht : (pc : Int) + off = (tgt : Int)) (kt : V x R cells slots Q nL I (A = some z) tgt ws lv rest) (kf : V x R cells slots Q nL I (B = some z) (pc + 3) ws lv rest) : V x R cells slots Q nL I ((if 0 < a then A else B) = some z) pc ws lv (.int a :: rest) :=
  fun h H locs ls hI hl => lv_if_gt C.1 C.2.1 hdg ht (fun q => kt (ite_t q h) H locs ls hI hl) (fun q => kf (ite_f q h) H locs ls hI hl)
theorem V_if_le (C : Cx x cc nL own d I) {Z : Type} {z : Z} {A B : Option Z} {a : Int32} {off : Int} {tgt : Nat} (hdg : decode cc pc = .ok (.ifCond .le off, 3)) (ht : (pc : Int) + off = (tgt : Int)) (kt : V x R cells slots Q nL I (A = some z) tgt ws lv rest) (kf : V x R cells slots Q nL I (B = some z) (pc + 3) ws lv rest) : V x R cells slots Q nL I ((if a ≤ 0 then A else B) = some z) pc ws lv (.int a :: rest) :=
  fun h H locs ls hI hl => lv_if_le C.1 C.2.1 hdg ht (fun q => kt (ite_t q h) H locs ls hI hl) (fun q => kf (ite_f q h) H locs ls hI hl)
theorem V_icmp_eq (C : Cx x cc nL own d I) {Z : Type} {z : Z} {A B : Option Z} {a b : Int32} {off : Int} {tgt : Nat} (hdg : decode cc pc = .ok (.if_icmp .eq off, 3)) (ht : (pc : Int) + off = (tgt : Int)) (kt : V x R cells slots Q nL I (A = some z) tgt ws lv rest) (kf : V x R cells slots Q nL I (B = some z) (pc + 3) ws lv rest) : V x R cells slots Q nL I ((if a = b then A else B) = some z) pc ws lv (.int b :: .int a :: rest) :=
  fun h H locs ls hI hl => lv_icmp_eq C.1 C.2.1 hdg ht (fun q => kt (ite_t q h) H locs ls hI hl) (fun q => kf (ite_f q h) H locs ls hI hl)
theorem V_icmp_ne (C : Cx x cc nL own d I) {Z : Type} {z : Z} {A B : Option Z} {a b : Int32} {off : Int} {tgt : Nat} (hdg : decode cc pc = .ok (.if_icmp .ne off, 3)) (ht : (pc : Int) + off = (tgt : Int)) (kt : V x R cells slots Q nL I (B = some z) tgt ws lv rest) (kf : V x R cells slots Q nL I (A = some z) (pc + 3) ws lv rest) : V x R cells slots Q nL I ((if a = b then A else B) = some z) pc ws lv (.int b :: .int a :: rest) :=
  fun h H locs ls hI hl => lv_icmp_ne C.1 C.2.1 hdg ht (fun q => kt (ite_f q h) H locs ls hI hl) (fun q => kf (ite_t q h) H locs ls hI hl)
theorem V_icmp_lt (C : Cx x cc nL own d I) {Z : Type} {z : Z} {A B : Option Z} {a b : Int32} {off : Int} {tgt : Nat} (hdg : decode cc pc = .ok (.if_icmp .lt off, 3)) (ht : (pc : Int) + off = (tgt : Int)) (kt : V x R cells slots Q nL I (A = some z) tgt ws lv rest) (kf : V x R cells slots Q nL I (B = some z) (pc + 3) ws lv rest) : V x R cells slots Q nL I ((if a < b then A else B) = some z) pc ws lv (.int b :: .int a :: rest) :=
  fun h H locs ls hI hl => lv_icmp_lt C.1 C.2.1 hdg ht (fun q => kt (ite_t q h) H locs ls hI hl) (fun q => kf (ite_f q h) H locs ls hI hl)
theorem V_icmp_ge (C : Cx x cc nL own d I) {Z : Type} {z : Z} {A B : Option Z} {a b : Int32} {off : Int} {tgt : Nat} (hdg : decode cc pc = .ok (.if_icmp .ge off, 3)) (ht : (pc : Int) + off = (tgt : Int)) (kt : V x R cells slots Q nL I (A = some z) tgt ws lv rest) (kf : V x R cells slots Q nL I (B = some z) (pc + 3) ws lv rest) : V x R cells slots Q nL I ((if b ≤ a then A else B) = some z) pc ws lv (.int b :: .int a :: rest) :=
  fun h H locs ls hI hl => lv_icmp_ge C.1 C.2.1 hdg ht (fun q => kt (ite_t q h) H locs ls hI hl) (fun q => kf (ite_f q h) H locs ls hI hl)
theorem V_icmp_gt (C : Cx x cc nL own d I) {Z : Type} {z : Z} {A B : Option Z} {a b : Int32} {off : Int} {tgt : Nat} (hdg : decode cc pc = .ok (.if_icmp .gt off, 3)) (ht : (pc : Int) + off = (tgt : Int)) (kt : V x R cells slots Q nL I (A = some z) tgt ws lv rest) (kf : V x R cells slots Q nL I (B = some z) (pc + 3) ws lv rest) : V x R cells slots Q nL I ((if b < a then A else B) = some z) pc ws lv (.int b :: .int a :: rest) :=
  fun h H locs ls hI hl => lv_icmp_gt C.1 C.2.1 hdg ht (fun q => kt (ite_t q h) H locs ls hI hl) (fun q => kf (ite_f q h) H locs ls hI hl)
theorem V_icmp_le (C : Cx x cc nL own d I) {Z : Type} {z : Z} {A B : Option Z} {a b : Int32} {off : Int} {tgt : Nat} (hdg : decode cc pc = .ok (.if_icmp .le off, 3)) (ht : (pc : Int) + off = (tgt : Int)) (kt : V x R cells slots Q nL I (A = some z) tgt ws lv rest) (kf : V x R cells slots Q nL I (B = some z) (pc + 3) ws lv rest) : V x R cells slots Q nL I ((if a ≤ b then A else B) = some z) pc ws lv (.int b :: .int a :: rest) :=
  fun h H locs ls hI hl => lv_icmp_le C.1 C.2.1 hdg ht (fun q => kt (ite_t q h) H locs ls hI hl) (fun q => kf (ite_f q h) H locs ls hI hl)
/-- a class of the worlds: its place, its fields' table, its words -/
def Fld (ci : Nat) (CC : String) (T : u_T) (N : Nat) (ty : Nat → FieldType) : Prop := vwCl[ci]? = some (CC, T, N) ∧ (∀ w ∈ u_ws CC T N, w ∈ tG) ∧ (∀ k, k < N → parseFieldDescriptor (T k).2.2.1 = some (ty k)) ∧ ∀ a, a < N → ∀ b, b < N → a ≠ b → (T a).2.1 ≠ (T b).2.1
theorem V_get (C : Cx x cc nL own d I) {ci : Nat} {CC : String} {T : u_T} {N : Nat} {ty : Nat → FieldType} (F : Fld ci CC T N ty) (q0 k : Nat) {idx a : Nat} {fs : List Value} {v : Value} (hlink : Cond.fieldLink own idx (T k).1 (T k).2.1 (T k).2.2.1 ∈ tG) (hk : k < N) (he : ws[q0]? = some (a, .inr (ci, fs))) (hv : fs[k]? = some v) (hdg : decode cc pc = .ok (.getfield idx, 3))
    (kk : V x R cells slots Q nL I hyp (pc + 3) ws lv (v :: rest)) : V x R cells slots Q nL I hyp pc ws lv (.ref a :: rest) :=
  fun h H locs ls hI hl => va_get (D := d.1) C.1 C.2.1 C.2.2.2.2.1 F.2.1 C.2.2.2.1 C.2.2.2.2.2.1.1 (C.2.2.2.2.2.2 ws H locs hI) q0 he F.1 k hk (C.2.2.2.2.1 _ hlink) (fun _ h9 => h9) hv hdg (kk h H locs ls hI hl)
theorem V_iald (C : Cx x cc nL own d I) (q0 : Nat) {Z : Type} {z : Z} {A : Option Z} {a n : Nat} {f : Nat → Int32} {i : Int32} (ha : ws[q0]? = some (a, .inl (d.2.1, n, .inl f))) (hdg : decode cc pc = .ok (.iaload, 1))
    (kk : V x R cells slots Q nL I (A = some z) (pc + 1) ws lv (.int (f i.toNatClampNeg) :: rest)) : V x R cells slots Q nL I ((if inb i n = true then A else none) = some z) pc ws lv (.int i :: .ref a :: rest) := by
  intro h H locs ls hI hl
  by_cases q : inb i n = true
  · exact va_iald (D := d.1) C.1 C.2.1 C.2.2.2.2.2.1.1 (C.2.2.2.2.2.2 ws H locs hI) q0 0 ha rfl (inb_in q) hdg (kk (ite_t q h) H locs ls hI hl)
  · rw [if_neg q] at h; cases h
theorem V_cald (C : Cx x cc nL own d I) (q0 : Nat) {Z : Type} {z : Z} {A : Option Z} {a n : Nat} {f : Nat → Int32} {i : Int32} (ha : ws[q0]? = some (a, .inl (d.2.2.1, n, .inl f))) (hdg : decode cc pc = .ok (.caload, 1))
    (kk : V x R cells slots Q nL I (A = some z) (pc + 1) ws lv (.int (f i.toNatClampNeg) :: rest)) : V x R cells slots Q nL I ((if inb i n = true then A else none) = some z) pc ws lv (.int i :: .ref a :: rest) := by
  intro h H locs ls hI hl
  by_cases q : inb i n = true
  · exact va_cald (D := d.1) C.1 C.2.1 C.2.2.2.2.2.1.1 (C.2.2.2.2.2.2 ws H locs hI) q0 1 ha rfl (inb_in q) hdg (kk (ite_t q h) H locs ls hI hl)
  · rw [if_neg q] at h; cases h
theorem V_alenI (C : Cx x cc nL own d I) (q0 : Nat) {a n : Nat} {g : (Nat → Int32) ⊕ (Nat → Int64) ⊕ (Nat → UInt32) ⊕ (Nat → UInt64) ⊕ (Nat → Option Nat)} {v : Int32} (ha : ws[q0]? = some (a, .inl (d.2.1, n, g))) (hv : Int32.ofNat n = v) (hdg : decode cc pc = .ok (.arraylength, 1))
    (kk : V x R cells slots Q nL I hyp (pc + 1) ws lv (.int v :: rest)) : V x R cells slots Q nL I hyp pc ws lv (.ref a :: rest) :=
  fun h H locs ls hI hl => va_alen (D := d.1) C.1 C.2.1 C.2.2.2.2.2.1.1 (C.2.2.2.2.2.2 ws H locs hI) q0 0 ha rfl hv hdg (kk h H locs ls hI hl)
theorem V_alenC (C : Cx x cc nL own d I) (q0 : Nat) {a n : Nat} {g : (Nat → Int32) ⊕ (Nat → Int64) ⊕ (Nat → UInt32) ⊕ (Nat → UInt64) ⊕ (Nat → Option Nat)} {v : Int32} (ha : ws[q0]? = some (a, .inl (d.2.2.1, n, g))) (hv : Int32.ofNat n = v) (hdg : decode cc pc = .ok (.arraylength, 1))
    (kk : V x R cells slots Q nL I hyp (pc + 1) ws lv (.int v :: rest)) : V x R cells slots Q nL I hyp pc ws lv (.ref a :: rest) :=
  fun h H locs ls hI hl => va_alen (D := d.1) C.1 C.2.1 C.2.2.2.2.2.1.1 (C.2.2.2.2.2.2 ws H locs hI) q0 1 ha rfl hv hdg (kk h H locs ls hI hl)
theorem V_alenL (C : Cx x cc nL own d I) (q0 : Nat) {a n : Nat} {g : (Nat → Int32) ⊕ (Nat → Int64) ⊕ (Nat → UInt32) ⊕ (Nat → UInt64) ⊕ (Nat → Option Nat)} {v : Int32} (ha : ws[q0]? = some (a, .inl (d.2.2.2, n, g))) (hv : Int32.ofNat n = v) (hdg : decode cc pc = .ok (.arraylength, 1))
    (kk : V x R cells slots Q nL I hyp (pc + 1) ws lv (.int v :: rest)) : V x R cells slots Q nL I hyp pc ws lv (.ref a :: rest) :=
  fun h H locs ls hI hl => va_alen (D := d.1) C.1 C.2.1 C.2.2.2.2.2.1.1 (C.2.2.2.2.2.2 ws H locs hI) q0 2 ha rfl hv hdg (kk h H locs ls hI hl)
end VROWS
end
section
/-! ===== contracts: a method that only reads; a method that writes; calls ===== -/
def Iro (d : Dt) (H0 : Heap) : Iv := fun ws H locs => H = H0 ∧ locs = [] ∧ va_P d.1 vwCl ws H
def Imu (d : Dt) (A : Nat → Prop) (H0 : Heap) : Iv := fun ws H locs => va_P d.1 vwCl ws H ∧ va_D A ws ∧ va_S A H0 H locs ∧ ∀ q, H0.size ≤ q → A q
def QR (r : Option Value) : Array Value → State → Outcome → State → Prop := fun _ st o t => o = .returned r ∧ t.heap = st.heap
def QW (d : Dt) (A : Nat → Prop) (ws' : va_W) (r : Option Value) : Array Value → State → Outcome → State → Prop := fun _ st o t => o = .returned r ∧ va_P d.1 vwCl ws' t.heap ∧ va_F A st t
def CtR (l : Launch) (d : Dt) (y : MethodName) (cc : ByteArray) (nL : Nat) (ret : Option FieldType) (rm : Room) (av : List Value) (ws : va_W) (r : Option Value) : Prop :=
  Met l y (Cond.code y cc nL ret :: tG) rm (va_Pc av (fun U => va_P d.1 vwCl ws U.heap ∧ KX d U)) (QR r) 0 0 (fun _ => False)
def CtW (l : Launch) (d : Dt) (y : MethodName) (cc : ByteArray) (nL : Nat) (ret : Option FieldType) (rm : Room) (av : List Value) (ws ws' : va_W) (r : Option Value) : Prop :=
  ∀ sz : Nat, Met l y (Cond.code y cc nL ret :: tG) rm (va_Pc av (fun U => U.heap.size = sz ∧ va_P d.1 vwCl ws U.heap ∧ KX d U ∧ va_D (fun _ => True) ws)) (QW d (va_A ws sz) ws' r) 0 0 (va_A ws sz)
abbrev rmF (f n : Nat) : Room := { frames := f, cells := 0, slots := 0, locals := n }
theorem lv0_at {av : List Value} {n : Nat} {i : Nat} {v : Value} (h : (av.map some ++ List.replicate n (none : Option Value))[i]? = some (some v)) : av[i]? = some v := by
  rcases Nat.lt_or_ge i av.length with q | q
  · rw [List.getElem?_append_left (by simpa using q), List.getElem?_map] at h
    cases hx : av[i]? with
    | none => rw [hx] at h; simp at h
    | some w => rw [hx] at h; simpa using h
  · rw [List.getElem?_append_right (by simpa using q), List.getElem?_replicate] at h
    split at h <;> simp at h
theorem CtR.start {l : Launch} {d : Dt} {y : MethodName} {cc : ByteArray} {nL : Nat} {ret : Option FieldType} {rm : Room} {av : List Value} {ws : va_W} {r : Option Value} (hy : plainName y.cls = true) (hlen : (lg_sl av).length ≤ nL) (hc : ∀ v ∈ av, v.category = 1)
    (lv0 : List (Option Value)) (hl0 : av.map some ++ List.replicate (nL - av.length) (none : Option Value) = lv0)
    (body : ∀ x : Am, Cx x cc nL y.cls d (Iro d x.s.heap) → x.meth.sig.returnType = ret → x.meth.locks = false → V x rm 0 0 (MQ x.below (QR r) x.args x.s 0 0 (fun _ => False)) nL (Iro d x.s.heap) True 0 ws lv0 []) : CtR l d y cc nL ret rm av ws r := by
  refine Met.ofW (cc := cc) (maxL := nL) (ret := ret) hy rfl ?_
  intro p e s m args below meth c s₁ B hml hv
  obtain ⟨rfl, hP, hK⟩ := hv
  have hts := atoms_spec (ws := Cond.code y cc nL ret :: tG) B.pre
  have C : Cx (p, l, e, s, m, av.toArray, below, meth, c) cc nL y.cls d (Iro d s.heap) :=
    ⟨B.exec, B.bytes, hml, findClass_of_methodNamed B.named, fun w hw => hts w (List.mem_cons_of_mem _ hw), hK, fun ws H locs h => h.2.2⟩
  have hl := lv_entry av (n := nL) hlen
  rw [lg_entry_eq]
  exact body (p, l, e, s, m, av.toArray, below, meth, c) C B.returns B.notSynchronized trivial s.heap [] _ ⟨rfl, rfl, hP⟩ (LH.entry hl hc (fun i v h => lv0_at (by rw [hl0]; exact h)))
theorem CtW.start {l : Launch} {d : Dt} {y : MethodName} {cc : ByteArray} {nL : Nat} {ret : Option FieldType} {rm : Room} {av : List Value} {ws ws' : va_W} {r : Option Value} (hy : plainName y.cls = true) (hlen : (lg_sl av).length ≤ nL) (hc : ∀ v ∈ av, v.category = 1)
    (lv0 : List (Option Value)) (hl0 : av.map some ++ List.replicate (nL - av.length) (none : Option Value) = lv0)
    (body : ∀ (x : Am) (A : Nat → Prop), Cx x cc nL y.cls d (Imu d A x.s.heap) → x.meth.sig.returnType = ret → x.meth.locks = false → V x rm 0 0 (MQ x.below (QW d A ws' r) x.args x.s 0 0 A) nL (Imu d A x.s.heap) True 0 ws lv0 []) : CtW l d y cc nL ret rm av ws ws' r := by
  intro sz
  refine Met.ofW (cc := cc) (maxL := nL) (ret := ret) hy rfl ?_
  intro p e s m args below meth c s₁ B hml hv
  obtain ⟨rfl, hsz, hP, hK, hD⟩ := hv
  have hts := atoms_spec (ws := Cond.code y cc nL ret :: tG) B.pre
  have C : Cx (p, l, e, s, m, av.toArray, below, meth, c) cc nL y.cls d (Imu d (va_A ws sz) s.heap) :=
    ⟨B.exec, B.bytes, hml, findClass_of_methodNamed B.named, fun w hw => hts w (List.mem_cons_of_mem _ hw), hK, fun ws H locs h => h.1⟩
  have hl := lv_entry av (n := nL) hlen
  rw [lg_entry_eq]
  exact body (p, l, e, s, m, av.toArray, below, meth, c) (va_A ws sz) C B.returns B.notSynchronized trivial s.heap [] _ ⟨hP, hD.self, va_S.rf, fun q hq => Or.inr (by rw [← hsz]; exact hq)⟩ (LH.entry hl hc (fun i v h => lv0_at (by rw [hl0]; exact h)))
/-! ===== a part of a world is replaced ===== -/
def putAt : va_W → List Nat → va_W → va_W
  | ws, i :: is, q :: qs => putAt (ws.set i q) is qs
  | ws, _, _ => ws
theorem putAt_get : ∀ (is : List Nat) (qs ws : va_W) (k : Nat) (q : Nat × va_E), is.length = qs.length → (putAt ws is qs)[k]? = some q → (∃ j : Nat, is[j]? = some k ∧ qs[j]? = some q) ∨ (ws[k]? = some q ∧ k ∉ is)
  | [], qs, ws, k, q, _, h => by
    right
    exact ⟨by simpa [putAt] using h, List.not_mem_nil⟩
  | i :: is, [], ws, k, q, hl, h => by simp at hl
  | i :: is, r :: qs, ws, k, q, hl, h => by
    rw [putAt] at h
    rcases putAt_get is qs (ws.set i r) k q (by simpa using hl) h with ⟨j, h1, h2⟩ | ⟨h1, h2⟩
    · exact Or.inl ⟨j + 1, by simpa using h1, by simpa using h2⟩
    · by_cases hk : i = k
      · subst hk
        left
        refine ⟨0, rfl, ?_⟩
        rw [List.getElem?_set_self'] at h1
        cases hx : ws[i]? with
        | none => rw [hx] at h1; simp at h1
        | some y => rw [hx] at h1; simpa using h1
      · right
        rw [List.getElem?_set_ne hk] at h1
        exact ⟨h1, by simp [h2, Ne.symm hk]⟩
theorem map_getE {ws wc : va_W} {isC : List Nat} (hC : isC.map (fun i => ws[i]?) = wc.map some) {j k : Nat} (hj : isC[j]? = some k) : ∃ q, wc[j]? = some q ∧ ws[k]? = some q := by
  have h := congrArg (fun l => l[j]?) hC
  simp only [List.getElem?_map, hj, Option.map_some] at h
  cases hx : wc[j]? with
  | none => rw [hx] at h; simp at h
  | some q => rw [hx] at h; exact ⟨q, rfl, by simpa using h⟩
theorem map_getE' {ws wc : va_W} {isC : List Nat} (hC : isC.map (fun i => ws[i]?) = wc.map some) {j : Nat} {q : Nat × va_E} (hj : wc[j]? = some q) : ∃ k, isC[j]? = some k ∧ ws[k]? = some q := by
  have h := congrArg (fun l => l[j]?) hC
  simp only [List.getElem?_map, hj, Option.map_some] at h
  cases hx : isC[j]? with
  | none => rw [hx] at h; simp at h
  | some k => rw [hx] at h; exact ⟨k, rfl, by simpa using h⟩
theorem putAt_P {A0 : Nat → Prop} {D : va_G} {ws wc wc' : va_W} {H H1 : Heap} {isC : List Nat} (hP : va_P D vwCl ws H) (hD : va_D A0 ws) (hC : isC.map (fun i => ws[i]?) = wc.map some) (hf : wc'.map (·.1) = wc.map (·.1))
    (hk : ∀ q : Nat, q < H.size → ¬ va_A wc H.size q → H1[q]? = H[q]?) (hP1 : va_P D vwCl wc' H1) : va_P D vwCl (putAt ws isC wc') H1 ∧ va_D A0 (putAt ws isC wc') := by
  have hlen : isC.length = wc'.length := by
    have h1 := congrArg List.length hC
    have h2 := congrArg List.length hf
    simp at h1 h2
    omega
  have hat : ∀ (k : Nat) (q : Nat × va_E), (putAt ws isC wc')[k]? = some q → ∃ q', ws[k]? = some q' ∧ q'.1 = q.1 := by
    intro k q h
    rcases putAt_get isC wc' ws k q hlen h with ⟨j, h1, h2⟩ | ⟨h1, -⟩
    · obtain ⟨q', h3, h4⟩ := map_getE hC h1
      refine ⟨q', h4, ?_⟩
      have h5 := congrArg (fun l => l[j]?) hf
      simpa [h2, h3] using h5.symm
    · exact ⟨q, h1, rfl⟩
  refine ⟨fun k q h => ?_, fun i j p q h1 h2 e => ?_, fun k q h => ?_⟩
  · rcases putAt_get isC wc' ws k q hlen h with ⟨j, h1, h2⟩ | ⟨h1, h2⟩
    · exact hP1 j q h2
    · refine (hP k q h1).kept (hk q.1 (hP k q h1).lt ?_)
      rintro (⟨j, e, hj⟩ | hge)
      · obtain ⟨k', h3, h4⟩ := map_getE' hC hj
        have : k = k' := hD.1 k k' q (q.1, e) h1 h4 rfl
        subst this
        exact h2 (List.mem_of_getElem? h3)
      · have := (hP k q h1).lt
        omega
  · obtain ⟨p', h3, h4⟩ := hat i p h1
    obtain ⟨q', h5, h6⟩ := hat j q h2
    exact hD.1 i j p' q' h3 h5 (by rw [h4, h6, e])
  · obtain ⟨q', h3, h4⟩ := hat k q h
    rw [← h4]
    exact hD.2 k q' h3
theorem subP {D : va_G} {ws wc : va_W} {H : Heap} {isC : List Nat} (hP : va_P D vwCl ws H) (hC : isC.map (fun i => ws[i]?) = wc.map some) : va_P D vwCl wc H := by
  intro j q hj
  obtain ⟨k, -, h2⟩ := map_getE' hC hj
  exact hP k q h2
/-! ===== what a callee gives ===== -/
/-- an instance method of the class CC, with n arguments -/
def CalV (y : MethodName) (cy : ByteArray) (nLy : Nat) (ret : Option FieldType) (CC : String) (n : Nat) : Prop :=
  Cond.instanceMethod y ∈ tG ∧ Cond.selects CC y y ∈ tG ∧ Cond.initialized CC ∈ tG ∧ Cond.code y cy nLy ret ∈ tG ∧ (y.cls = CC ∧ y.cls ≠ "java/lang/invoke/MethodHandle" ∧ y.cls ≠ "java/lang/invoke/VarHandle" ∧ (parseMethodDescriptor y.desc).map (fun d => d.parameters.length) = some n)
def CalS (y : MethodName) (cy : ByteArray) (nLy : Nat) (ret : Option FieldType) (n : Nat) : Prop :=
  Cond.static y ∈ tG ∧ Cond.initialized y.cls ∈ tG ∧ Cond.code y cy nLy ret ∈ tG ∧ (y.cls ≠ "java/lang/invoke/MethodHandle" ∧ y.cls ≠ "java/lang/invoke/VarHandle" ∧ (parseMethodDescriptor y.desc).map (fun d => d.parameters.length) = some n)
section CALLS
variable {p : Program} {l : Launch} {e : Env} {R : Room} {s : State} {m : MethodId} {args : Array Value} {below : List Frame} {meth : Method} {c : Code} {H : Heap} {locs : List Loc} {cells slots : Nat} {Q : State → Prop} {pc : Nat} {ls : Array Slot} {st0 rest : List Value} {a : Array Value}
theorem W_ro {r : Option Value} (hr : va_Run p l e R s m args below meth c H locs cells slots 0 0 (F0 m pc ls st0) rest (QR r a) (fun _ => False))
    (kk : W p l e R s m args below meth c H locs cells slots Q (F0 m (pc + 3) ls (r.toList ++ rest))) : W p l e R s m args below meth c H locs cells slots Q (F0 m pc ls st0) := by
  intro T hT X
  obtain ⟨v, st₀, t, T', L, h0, X', hL, e1, -, ⟨hv, hh⟩, st⟩ := hr T hT X
  cases hv
  obtain ⟨t2, a1, b1⟩ := kk T' (by rw [e1, hh, h0]) (Stand.forget X' (fun q h => (hL q h).elim))
  exact ⟨t2, st t2 a1, b1⟩
theorem W_mu {d : Dt} {A : Nat → Prop} {w' : va_W} {r : Option Value} (hr : va_Run p l e R s m args below meth c H locs cells slots 0 0 (F0 m pc ls st0) rest (QW d A w' r a) A)
    (kk : ∀ (H1 : Heap) (L : List Loc), va_P d.1 vwCl w' H1 → H.size ≤ H1.size → (∀ q : Nat, q < H.size → ¬ A q → H1[q]? = H[q]?) → (∀ q ∈ L, A q.base) → W p l e R s m args below meth c H1 (locs ++ L) cells slots Q (F0 m (pc + 3) ls (r.toList ++ rest))) : W p l e R s m args below meth c H locs cells slots Q (F0 m pc ls st0) := by
  intro T hT X
  obtain ⟨v, st₀, t, T', L, h0, X', hL, e1, -, ⟨hv, hp, hF⟩, st⟩ := hr T hT X
  cases hv
  subst h0
  obtain ⟨t2, a1, b1⟩ := kk t.heap L hp hF.1 hF.2 hL T' e1 X'
  exact ⟨t2, st t2 a1, b1⟩
end CALLS
theorem Pc_blindR {d : Dt} {av : List Value} {ws : va_W} : FrameBlind (va_Pc av (fun U => va_P d.1 vwCl ws U.heap ∧ KX d U)) := fun a U g mk q => ⟨q.1, q.2.1, q.2.2.calling g mk a⟩
theorem Pc_blindW {d : Dt} {av : List Value} {ws : va_W} {sz : Nat} : FrameBlind (va_Pc av (fun U => U.heap.size = sz ∧ va_P d.1 vwCl ws U.heap ∧ KX d U ∧ va_D (fun _ => True) ws)) := fun a U g mk q => ⟨q.1, q.2.1, q.2.2.1, q.2.2.2.1.calling g mk a, q.2.2.2.2⟩
section VCALLS
variable {x : Am} {R : Room} {cells slots : Nat} {Q : State → Prop} {nL : Nat} {I : Iv} {pc : Nat} {ws : va_W} {lv : List (Option Value)} {rest stk : List Value} {cc : ByteArray} {own : String} {d : Dt}
variable {Z : Type} {z : Z} {y : MethodName} {cy : ByteArray} {nLy n idx b ci : Nat} {ret : Option FieldType} {rm : Room} {CC : String} {T : u_T} {N : Nat} {fs As : List Value} {wc : va_W}
theorem goodY {w : Cond} (hY : Cond.code y cy nLy ret ∈ tG) (hw : w ∈ Cond.code y cy nLy ret :: tG) : w ∈ tG ∧ ((w.onTables && w.keeps) = true ∨ ∃ ty, w = .arrayClass ty) := by
  have h : w ∈ tG := by
    rcases List.mem_cons.mp hw with rfl | hw
    · exact hY
    · exact hw
  exact ⟨h, good_of_word (List.mem_filter.mp h).2⟩
theorem calW {args : Array Value} {s : State} (ht : ∀ w ∈ tG, w.before args s = true) (Y : CalV y cy nLy ret CC n) (hlink : Cond.methodLink own idx y ∈ tG) (hR : rm.frames + 1 ≤ R.frames ∧ 8 + (nLy + 11) + rm.locals ≤ R.locals) (hrc : rm.cells = 0) (hrs : rm.slots = 0) : CallW R s args own CC idx y cy nLy ret (Cond.code y cy nLy ret :: tG) rm 0 0 n :=
  ⟨callB_of n ht (fun w hw => goodY Y.2.2.2.1 hw) rfl hrc hrs (by rw [Y.2.2.2.2.1]; exact ht _ Y.2.2.1) (ht _ hlink) Y.2.2.2.2.2 hR, ht _ Y.1, ht _ Y.2.1⟩
/-- a call of an instance method that only reads, with an int as answer -/
theorem V_callRi (C : Cx x cc nL own d I) {g : Option Int32} {k : Int32 → Option Z} (hM : ∀ r, g = some r → CtR x.2.1 d y cy nLy ret rm (.ref b :: As) wc (some (.int r))) (Y : CalV y cy nLy ret CC n) (hlink : Cond.methodLink own idx y ∈ tG)
    (isC : List Nat) (hdg : decode cc pc = .ok (.invokevirtual idx, 3)) (hC : isC.map (fun i => ws[i]?) = wc.map some) (hrv : wc[0]? = some (b, .inr (ci, fs))) (hcl : vwCl[ci]? = some (CC, T, N)) (hn : As.length = n) (hcat : (rest.map fun v => v.category).sum ≤ 8)
    (hR : rm.frames + 1 ≤ R.frames ∧ 8 + (nLy + 11) + rm.locals ≤ R.locals) (hrc : rm.cells = 0) (hrs : rm.slots = 0) (hcs : cells ≤ R.cells ∧ slots ≤ R.slots) (hstk : As.reverse ++ .ref b :: rest = stk)
    (kk : ∀ r, g = some r → V x R cells slots Q nL I (k r = some z) (pc + 3) ws lv (.int r :: rest)) : V x R cells slots Q nL I (g.bind k = some z) pc ws lv stk := by
  intro h H locs ls hI hl
  cases hg : g with
  | none => rw [hg] at h; cases h
  | some r =>
    rw [hg] at h
    have hPc := subP (C.2.2.2.2.2.2 ws H locs hI) hC
    refine W_ro (r := some (.int r)) (va_runV (As := As) (rest := rest) ⟨C.1, C.2.1, C.2.2.1, C.2.2.2.1, C.2.2.2.2.1⟩ (hM r hg) (calW C.2.2.2.2.1 Y hlink hR hrc hrs) ⟨Pc_blindR, va_recv C.2.2.2.2.2.1.1 hPc hcl hrv, fun U hU hW => ⟨rfl, by rw [hU]; exact hPc, C.2.2.2.2.2.1.warm hW⟩⟩ rfl hn hl.1 hstk.symm (lv_room hcat) hdg hcs) (kk r hg h H locs ls hI hl)
/-- a call of an instance method that writes, with an int as answer -/
theorem V_callWi {A : Nat → Prop} (C : Cx x cc nL own d (Imu d A x.s.heap)) {U : Type} {g : Option (Int32 × U)} {k : Int32 × U → Option Z} {Wd : U → va_W} (hM : ∀ r, g = some r → CtW x.2.1 d y cy nLy ret rm (.ref b :: As) wc (Wd r.2) (some (.int r.1))) (Y : CalV y cy nLy ret CC n) (hlink : Cond.methodLink own idx y ∈ tG)
    (isC : List Nat) (ws2 : U → va_W) (hdg : decode cc pc = .ok (.invokevirtual idx, 3)) (hC : isC.map (fun i => ws[i]?) = wc.map some) (hnd : va_nd isC = true) (hf : ∀ u, (Wd u).map (·.1) = wc.map (·.1)) (hws : ∀ u, putAt ws isC (Wd u) = ws2 u) (hrv : wc[0]? = some (b, .inr (ci, fs))) (hcl : vwCl[ci]? = some (CC, T, N)) (hn : As.length = n) (hcat : (rest.map fun v => v.category).sum ≤ 8)
    (hR : rm.frames + 1 ≤ R.frames ∧ 8 + (nLy + 11) + rm.locals ≤ R.locals) (hrc : rm.cells = 0) (hrs : rm.slots = 0) (hcs : cells ≤ R.cells ∧ slots ≤ R.slots) (hstk : As.reverse ++ .ref b :: rest = stk)
    (kk : ∀ r, g = some r → V x R cells slots Q nL (Imu d A x.s.heap) (k r = some z) (pc + 3) (ws2 r.2) lv (.int r.1 :: rest)) : V x R cells slots Q nL (Imu d A x.s.heap) (g.bind k = some z) pc ws lv stk := by
  intro h H locs ls hI hl
  cases hg : g with
  | none => rw [hg] at h; cases h
  | some r =>
    rw [hg] at h
    have hPc := subP (C.2.2.2.2.2.2 ws H locs hI) hC
    have hDc := hI.2.1.sub isC hnd hC
    have hFc := va_free hI.2.1 hI.2.2.1 hI.2.2.2 isC hC
    refine W_mu (r := some (.int r.1)) (va_runV (As := As) (rest := rest) ⟨C.1, C.2.1, C.2.2.1, C.2.2.2.1, C.2.2.2.2.1⟩ (hM r hg H.size) (calW C.2.2.2.2.1 Y hlink hR hrc hrs) ⟨Pc_blindW, va_recv C.2.2.2.2.2.1.1 hPc hcl hrv, fun U hU hW => ⟨rfl, by rw [hU], by rw [hU]; exact hPc, C.2.2.2.2.2.1.warm hW, hDc.weaken (fun _ _ _ _ => trivial)⟩⟩ rfl hn hl.1 hstk.symm (lv_room hcat) hdg hcs) (fun H1 L hP1 hz hk hL => ?_)
    · have hj := putAt_P hI.1 hI.2.1 hC (hf r.2) hk hP1
      rw [hws] at hj
      refine kk r hg h H1 (locs ++ L) ls ⟨hj.1, hj.2, ⟨Nat.le_trans hI.2.2.1.1 hz, fun q h1 h2 => ?_, fun q hq => ?_⟩, hI.2.2.2⟩ hl
      · rw [hk q (Nat.lt_of_lt_of_le h1 hI.2.2.1.1) (fun h9 => h2 (hFc q h9))]
        exact hI.2.2.1.2.1 q h1 h2
      · rcases List.mem_append.mp hq with h9 | h9
        · exact hI.2.2.1.2.2 q h9
        · exact hFc _ (hL q h9)
/-- .. with a fixed answer (none, or a reference) -/
theorem V_callWv {A : Nat → Prop} (C : Cx x cc nL own d (Imu d A x.s.heap)) {U : Type} {rv : Option Value} {g : Option U} {k : U → Option Z} {Wd : U → va_W} (hM : ∀ r, g = some r → CtW x.2.1 d y cy nLy ret rm (.ref b :: As) wc (Wd r) rv) (Y : CalV y cy nLy ret CC n) (hlink : Cond.methodLink own idx y ∈ tG)
    (isC : List Nat) (ws2 : U → va_W) (hdg : decode cc pc = .ok (.invokevirtual idx, 3)) (hC : isC.map (fun i => ws[i]?) = wc.map some) (hnd : va_nd isC = true) (hf : ∀ u, (Wd u).map (·.1) = wc.map (·.1)) (hws : ∀ u, putAt ws isC (Wd u) = ws2 u) (hrv : wc[0]? = some (b, .inr (ci, fs))) (hcl : vwCl[ci]? = some (CC, T, N)) (hn : As.length = n) (hcat : (rest.map fun v => v.category).sum ≤ 8)
    (hR : rm.frames + 1 ≤ R.frames ∧ 8 + (nLy + 11) + rm.locals ≤ R.locals) (hrc : rm.cells = 0) (hrs : rm.slots = 0) (hcs : cells ≤ R.cells ∧ slots ≤ R.slots) (hstk : As.reverse ++ .ref b :: rest = stk)
    (kk : ∀ r, g = some r → V x R cells slots Q nL (Imu d A x.s.heap) (k r = some z) (pc + 3) (ws2 r) lv (rv.toList ++ rest)) : V x R cells slots Q nL (Imu d A x.s.heap) (g.bind k = some z) pc ws lv stk := by
  intro h H locs ls hI hl
  cases hg : g with
  | none => rw [hg] at h; cases h
  | some r =>
    rw [hg] at h
    have hPc := subP (C.2.2.2.2.2.2 ws H locs hI) hC
    have hDc := hI.2.1.sub isC hnd hC
    have hFc := va_free hI.2.1 hI.2.2.1 hI.2.2.2 isC hC
    refine W_mu (r := rv) (va_runV (As := As) (rest := rest) ⟨C.1, C.2.1, C.2.2.1, C.2.2.2.1, C.2.2.2.2.1⟩ (hM r hg H.size) (calW C.2.2.2.2.1 Y hlink hR hrc hrs) ⟨Pc_blindW, va_recv C.2.2.2.2.2.1.1 hPc hcl hrv, fun U hU hW => ⟨rfl, by rw [hU], by rw [hU]; exact hPc, C.2.2.2.2.2.1.warm hW, hDc.weaken (fun _ _ _ _ => trivial)⟩⟩ rfl hn hl.1 hstk.symm (lv_room hcat) hdg hcs) (fun H1 L hP1 hz hk hL => ?_)
    · have hj := putAt_P hI.1 hI.2.1 hC (hf r) hk hP1
      rw [hws] at hj
      refine kk r hg h H1 (locs ++ L) ls ⟨hj.1, hj.2, ⟨Nat.le_trans hI.2.2.1.1 hz, fun q h1 h2 => ?_, fun q hq => ?_⟩, hI.2.2.2⟩ hl
      · rw [hk q (Nat.lt_of_lt_of_le h1 hI.2.2.1.1) (fun h9 => h2 (hFc q h9))]
        exact hI.2.2.1.2.1 q h1 h2
      · rcases List.mem_append.mp hq with h9 | h9
        · exact hI.2.2.1.2.2 q h9
        · exact hFc _ (hL q h9)
/-- a static method that only reads, with an int as answer -/
theorem V_callSi (C : Cx x cc nL own d I) {g : Option Int32} {k : Int32 → Option Z} (hM : ∀ r, g = some r → CtR x.2.1 d y cy nLy ret rm As wc (some (.int r))) (Y : CalS y cy nLy ret n) (hlink : Cond.methodLink own idx y ∈ tG)
    (isC : List Nat) (hdg : decode cc pc = .ok (.invokestatic idx, 3)) (hC : isC.map (fun i => ws[i]?) = wc.map some) (hn : As.length = n) (hcat : (rest.map fun v => v.category).sum ≤ 8)
    (hR : rm.frames + 1 ≤ R.frames ∧ 8 + (nLy + 11) + rm.locals ≤ R.locals) (hrc : rm.cells = 0) (hrs : rm.slots = 0) (hcs : cells ≤ R.cells ∧ slots ≤ R.slots) (hstk : As.reverse ++ rest = stk)
    (kk : ∀ r, g = some r → V x R cells slots Q nL I (k r = some z) (pc + 3) ws lv (.int r :: rest)) : V x R cells slots Q nL I (g.bind k = some z) pc ws lv stk := by
  intro h H locs ls hI hl
  cases hg : g with
  | none => rw [hg] at h; cases h
  | some r =>
    rw [hg] at h
    have hPc := subP (C.2.2.2.2.2.2 ws H locs hI) hC
    exact W_ro (r := some (.int r)) (va_runS (As := As) (rest := rest) ⟨C.1, C.2.1, C.2.2.1, C.2.2.2.1, C.2.2.2.2.1⟩ (hM r hg)
      ⟨callB_of n C.2.2.2.2.1 (fun w hw => goodY Y.2.2.1 hw) rfl hrc hrs (C.2.2.2.2.1 _ Y.2.1) (C.2.2.2.2.1 _ hlink) Y.2.2.2 hR, C.2.2.2.2.1 _ Y.1⟩
      ⟨Pc_blindR, fun U hU hW => ⟨rfl, by rw [hU]; exact hPc, C.2.2.2.2.2.1.warm hW⟩⟩ rfl hn hl.1 hstk.symm (lv_room hcat) hdg hcs) (kk r hg h H locs ls hI hl)
/-- .. a nest mate's private one -/
theorem V_callNi (C : Cx x cc nL own d I) {host : String} {g : Option Int32} {k : Int32 → Option Z} (hM : ∀ r, g = some r → CtR x.2.1 d y cy nLy ret rm As wc (some (.int r))) (Y : CalS y cy nLy ret n) (hlink : Cond.methodLinkNest own idx y host ∈ nestW)
    (isC : List Nat) (hdg : decode cc pc = .ok (.invokestatic idx, 3)) (hC : isC.map (fun i => ws[i]?) = wc.map some) (hn : As.length = n) (hcat : (rest.map fun v => v.category).sum ≤ 8)
    (hR : rm.frames + 1 ≤ R.frames ∧ 8 + (nLy + 11) + rm.locals ≤ R.locals) (hrc : rm.cells = 0) (hrs : rm.slots = 0) (hcs : cells ≤ R.cells ∧ slots ≤ R.slots) (hstk : As.reverse ++ rest = stk)
    (kk : ∀ r, g = some r → V x R cells slots Q nL I (k r = some z) (pc + 3) ws lv (.int r :: rest)) : V x R cells slots Q nL I (g.bind k = some z) pc ws lv stk := by
  intro h H locs ls hI hl
  cases hg : g with
  | none => rw [hg] at h; cases h
  | some r =>
    rw [hg] at h
    have hPc := subP (C.2.2.2.2.2.2 ws H locs hI) hC
    exact W_ro (r := some (.int r)) (va_runSN (As := As) (rest := rest) ⟨C.1, C.2.1, C.2.2.1, C.2.2.2.1, C.2.2.2.2.1⟩ (hM r hg)
      ⟨va_cnB n C.2.2.2.2.1 (fun w hw => goodY Y.2.2.1 hw) rfl hrc hrs (C.2.2.2.2.2.1.2 _ hlink) (C.2.2.2.2.1 _ Y.2.1) Y.2.2.2 hR, C.2.2.2.2.1 _ Y.1, trivial⟩
      ⟨Pc_blindR, fun U hU hW => ⟨rfl, by rw [hU]; exact hPc, C.2.2.2.2.2.1.warm hW⟩⟩ rfl hn hl.1 hstk.symm (lv_room hcat) hdg hcs) (kk r hg h H locs ls hI hl)
/-- a static method that writes, without an answer -/
theorem V_callSv {A : Nat → Prop} (C : Cx x cc nL own d (Imu d A x.s.heap)) {U : Type} {g : Option U} {k : U → Option Z} {Wd : U → va_W} (hM : ∀ r, g = some r → CtW x.2.1 d y cy nLy ret rm As wc (Wd r) none) (Y : CalS y cy nLy ret n) (hlink : Cond.methodLink own idx y ∈ tG)
    (isC : List Nat) (ws2 : U → va_W) (hdg : decode cc pc = .ok (.invokestatic idx, 3)) (hC : isC.map (fun i => ws[i]?) = wc.map some) (hnd : va_nd isC = true) (hf : ∀ u, (Wd u).map (·.1) = wc.map (·.1)) (hws : ∀ u, putAt ws isC (Wd u) = ws2 u) (hn : As.length = n) (hcat : (rest.map fun v => v.category).sum ≤ 8)
    (hR : rm.frames + 1 ≤ R.frames ∧ 8 + (nLy + 11) + rm.locals ≤ R.locals) (hrc : rm.cells = 0) (hrs : rm.slots = 0) (hcs : cells ≤ R.cells ∧ slots ≤ R.slots) (hstk : As.reverse ++ rest = stk)
    (kk : ∀ r, g = some r → V x R cells slots Q nL (Imu d A x.s.heap) (k r = some z) (pc + 3) (ws2 r) lv rest) : V x R cells slots Q nL (Imu d A x.s.heap) (g.bind k = some z) pc ws lv stk := by
  intro h H locs ls hI hl
  cases hg : g with
  | none => rw [hg] at h; cases h
  | some r =>
    rw [hg] at h
    have hPc := subP (C.2.2.2.2.2.2 ws H locs hI) hC
    have hDc := hI.2.1.sub isC hnd hC
    have hFc := va_free hI.2.1 hI.2.2.1 hI.2.2.2 isC hC
    refine W_mu (r := none) (va_runS (As := As) (rest := rest) ⟨C.1, C.2.1, C.2.2.1, C.2.2.2.1, C.2.2.2.2.1⟩ (hM r hg H.size)
      ⟨callB_of n C.2.2.2.2.1 (fun w hw => goodY Y.2.2.1 hw) rfl hrc hrs (C.2.2.2.2.1 _ Y.2.1) (C.2.2.2.2.1 _ hlink) Y.2.2.2 hR, C.2.2.2.2.1 _ Y.1⟩
      ⟨Pc_blindW, fun U hU hW => ⟨rfl, by rw [hU], by rw [hU]; exact hPc, C.2.2.2.2.2.1.warm hW, hDc.weaken (fun _ _ _ _ => trivial)⟩⟩ rfl hn hl.1 hstk.symm (lv_room hcat) hdg hcs) (fun H1 L hP1 hz hk hL => ?_)
    have hj := putAt_P hI.1 hI.2.1 hC (hf r) hk hP1
    rw [hws] at hj
    refine kk r hg h H1 (locs ++ L) ls ⟨hj.1, hj.2, ⟨Nat.le_trans hI.2.2.1.1 hz, fun q h1 h2 => ?_, fun q hq => ?_⟩, hI.2.2.2⟩ hl
    · rw [hk q (Nat.lt_of_lt_of_le h1 hI.2.2.1.1) (fun h9 => h2 (hFc q h9))]
      exact hI.2.2.1.2.1 q h1 h2
    · rcases List.mem_append.mp hq with h9 | h9
      · exact hI.2.2.1.2.2 q h9
      · exact hFc _ (hL q h9)
end VCALLS
section VWRITES
variable {x : Am} {R : Room} {cells slots : Nat} {Q : State → Prop} {nL : Nat} {pc : Nat} {ws ws' : va_W} {lv : List (Option Value)} {rest stk : List Value} {cc : ByteArray} {own : String} {d : Dt} {A : Nat → Prop} {hyp : Prop}
theorem V_putI (C : Cx x cc nL own d (Imu d A x.s.heap)) {ci : Nat} {CC : String} {T : u_T} {N : Nat} {ty : Nat → FieldType} (F : Fld ci CC T N ty) (q0 k : Nat) {idx a : Nat} {fs : List Value} {v : Int32} (hlink : Cond.fieldLink own idx (T k).1 (T k).2.1 (T k).2.2.1 ∈ tG) (hk : k < N) (he : ws[q0]? = some (a, .inr (ci, fs))) (hfin : (T k).2.2.2 = false) (hty : ty k = .int) (hl : k < fs.length) (hws : ws.set q0 (a, .inr (ci, fs.set k (.int v))) = ws') (hdg : decode cc pc = .ok (.putfield idx, 3))
    (kk : V x R cells slots Q nL (Imu d A x.s.heap) hyp (pc + 3) ws' lv rest) : V x R cells slots Q nL (Imu d A x.s.heap) hyp pc ws lv (.int v :: .ref a :: rest) := by
  intro h H locs ls hI hl'
  subst hws
  exact va_put (D := d.1) (ty := .int) C.1 C.2.1 C.2.2.2.2.1 F.2.1 ty F.2.2.1 F.2.2.2 C.2.2.2.1 C.2.2.2.2.2.1.1 hI.1 hI.2.1 hI.2.2.1 q0 he F.1 k hk (C.2.2.2.2.1 _ hlink) (fun _ h9 => h9) hfin (by rw [F.2.2.1 k hk, hty]) rfl rfl hl hdg (fun H1 locs1 hP hD hS => kk h H1 locs1 ls ⟨hP, hD, hS, hI.2.2.2⟩ hl')
theorem V_putZ (C : Cx x cc nL own d (Imu d A x.s.heap)) {Z : Type} {z : Z} {B : Option Z} {ci : Nat} {CC : String} {T : u_T} {N : Nat} {ty : Nat → FieldType} (F : Fld ci CC T N ty) (q0 k : Nat) {idx a : Nat} {fs : List Value} {v : Int32} (hlink : Cond.fieldLink own idx (T k).1 (T k).2.1 (T k).2.2.1 ∈ tG) (hk : k < N) (he : ws[q0]? = some (a, .inr (ci, fs))) (hfin : (T k).2.2.2 = false) (hty : ty k = .boolean) (hl : k < fs.length) (hws : ws.set q0 (a, .inr (ci, fs.set k (.int v))) = ws') (hdg : decode cc pc = .ok (.putfield idx, 3))
    (kk : V x R cells slots Q nL (Imu d A x.s.heap) (B = some z) (pc + 3) ws' lv rest) : V x R cells slots Q nL (Imu d A x.s.heap) ((if jbool v = true then B else none) = some z) pc ws lv (.int v :: .ref a :: rest) := by
  intro h H locs ls hI hl'
  by_cases q : jbool v = true
  · subst hws
    have hv := jbool_or q
    exact va_put (D := d.1) (ty := .boolean) C.1 C.2.1 C.2.2.2.2.1 F.2.1 ty F.2.2.1 F.2.2.2 C.2.2.2.1 C.2.2.2.2.2.1.1 hI.1 hI.2.1 hI.2.2.1 q0 he F.1 k hk (C.2.2.2.2.1 _ hlink) (fun _ h9 => h9) hfin (by rw [F.2.2.1 k hk, hty]) (by rcases hv with rfl | rfl <;> rfl) (by rcases hv with rfl | rfl <;> rfl) hl hdg (fun H1 locs1 hP hD hS => kk (ite_t q h) H1 locs1 ls ⟨hP, hD, hS, hI.2.2.2⟩ hl')
  · rw [if_neg q] at h; cases h
theorem V_iast (C : Cx x cc nL own d (Imu d A x.s.heap)) (q0 : Nat) {Z : Type} {z : Z} {B : Option Z} {a n : Nat} {f : Nat → Int32} {i v : Int32} (ha : ws[q0]? = some (a, .inl (d.2.1, n, .inl f))) (hws : ws.set q0 (a, .inl (d.2.1, n, .inl (upd f i.toNatClampNeg v))) = ws') (hdg : decode cc pc = .ok (.iastore, 1))
    (kk : V x R cells slots Q nL (Imu d A x.s.heap) (B = some z) (pc + 1) ws' lv rest) : V x R cells slots Q nL (Imu d A x.s.heap) ((if inb i n = true then B else none) = some z) pc ws lv (.int v :: .int i :: .ref a :: rest) := by
  intro h H locs ls hI hl
  by_cases q : inb i n = true
  · subst hws
    exact va_iast (D := d.1) C.1 C.2.1 C.2.2.2.2.2.1.1 hI.1 hI.2.1 hI.2.2.1 q0 0 ha rfl (inb_in q) hdg (fun H1 locs1 hP hD hS => kk (ite_t q h) H1 locs1 ls ⟨hP, hD, hS, hI.2.2.2⟩ hl)
  · rw [if_neg q] at h; cases h
theorem V_cast (C : Cx x cc nL own d (Imu d A x.s.heap)) (q0 : Nat) {Z : Type} {z : Z} {B : Option Z} {a n : Nat} {f : Nat → Int32} {i v : Int32} (ha : ws[q0]? = some (a, .inl (d.2.2.1, n, .inl f))) (hws : ws.set q0 (a, .inl (d.2.2.1, n, .inl (upd f i.toNatClampNeg (vp_nar .char v)))) = ws') (hdg : decode cc pc = .ok (.castore, 1))
    (kk : V x R cells slots Q nL (Imu d A x.s.heap) (B = some z) (pc + 1) ws' lv rest) : V x R cells slots Q nL (Imu d A x.s.heap) ((if inb i n = true then B else none) = some z) pc ws lv (.int v :: .int i :: .ref a :: rest) := by
  intro h H locs ls hI hl
  by_cases q : inb i n = true
  · subst hws
    exact va_cast (D := d.1) C.1 C.2.1 C.2.2.2.2.2.1.1 hI.1 hI.2.1 hI.2.2.1 q0 1 ha rfl (inb_in q) hdg (fun H1 locs1 hP hD hS => kk (ite_t q h) H1 locs1 ls ⟨hP, hD, hS, hI.2.2.2⟩ hl)
  · rw [if_neg q] at h; cases h
end VWRITES
section VRETS
variable {x : Am} {R : Room} {nL : Nat} {pc : Nat} {ws : va_W} {lv : List (Option Value)} {cc : ByteArray} {own : String} {d : Dt} {A : Nat → Prop}
theorem V_iretR {z r : Int32} (C : Cx x cc nL own d (Iro d x.s.heap)) (hr : x.meth.sig.returnType = some .int) (hlk : x.meth.locks = false) (hdg : decode cc pc = .ok (.ireturn, 1)) : V x R 0 0 (MQ x.below (QR (some (.int z))) x.args x.s 0 0 (fun _ => False)) nL (Iro d x.s.heap) (some r = some z) pc ws lv [.int r] := by
  intro h H locs ls hI hl
  cases h
  exact W.iret C.1 C.2.1 hr (fun t ht _ => ⟨rfl, by rw [ht, hI.1]⟩) (fun q hq => by rw [hI.2.1] at hq; cases hq) hdg hlk
theorem V_zretR {z r : Int32} (C : Cx x cc nL own d (Iro d x.s.heap)) (hr : x.meth.sig.returnType = some .boolean) (hlk : x.meth.locks = false) (hdg : decode cc pc = .ok (.ireturn, 1)) : V x R 0 0 (MQ x.below (QR (some (.int z))) x.args x.s 0 0 (fun _ => False)) nL (Iro d x.s.heap) ((if jbool r = true then some r else none) = some z) pc ws lv [.int r] := by
  intro h H locs ls hI hl
  by_cases q : jbool r = true
  · have h2 := ite_t q h
    cases h2
    exact W.zret C.1 C.2.1 hr (by rcases jbool_or q with rfl | rfl <;> rfl) (fun t ht _ => ⟨rfl, by rw [ht, hI.1]⟩) (fun q hq => by rw [hI.2.1] at hq; cases hq) hdg hlk
  · rw [if_neg q] at h; cases h
theorem V_iretW {U : Type} {Wd : U → va_W} {r : Int32} {u : U} {z : Int32 × U} (C : Cx x cc nL own d (Imu d A x.s.heap)) (hr : x.meth.sig.returnType = some .int) (hlk : x.meth.locks = false) (hdg : decode cc pc = .ok (.ireturn, 1)) (hw : Wd u = ws) : V x R 0 0 (MQ x.below (QW d A (Wd z.2) (some (.int z.1))) x.args x.s 0 0 A) nL (Imu d A x.s.heap) (some (r, u) = some z) pc ws lv [.int r] := by
  intro h H locs ls hI hl
  cases h
  exact W.iret C.1 C.2.1 hr (fun t ht _ => ⟨rfl, by rw [ht, hw]; exact hI.1, hI.2.2.1.F ht⟩) hI.2.2.1.2.2 hdg hlk
theorem V_zretW {U : Type} {Wd : U → va_W} {r : Int32} {u : U} {z : Int32 × U} (C : Cx x cc nL own d (Imu d A x.s.heap)) (hr : x.meth.sig.returnType = some .boolean) (hlk : x.meth.locks = false) (hdg : decode cc pc = .ok (.ireturn, 1)) (hw : Wd u = ws) : V x R 0 0 (MQ x.below (QW d A (Wd z.2) (some (.int z.1))) x.args x.s 0 0 A) nL (Imu d A x.s.heap) ((if jbool r = true then some (r, u) else none) = some z) pc ws lv [.int r] := by
  intro h H locs ls hI hl
  by_cases q : jbool r = true
  · have h2 := ite_t q h
    cases h2
    exact W.zret C.1 C.2.1 hr (by rcases jbool_or q with rfl | rfl <;> rfl) (fun t ht _ => ⟨rfl, by rw [ht, hw]; exact hI.1, hI.2.2.1.F ht⟩) hI.2.2.1.2.2 hdg hlk
  · rw [if_neg q] at h; cases h
theorem V_aretW {U : Type} {Wd : U → va_W} {q : Nat} {u w : U} {rt : FieldType} (C : Cx x cc nL own d (Imu d A x.s.heap)) (hr : x.meth.sig.returnType = some rt) (hrt : (∃ n, rt = .object n) ∨ ∃ t, rt = .array t) (hlk : x.meth.locks = false) (hdg : decode cc pc = .ok (.areturn, 1)) (hw : Wd u = ws) : V x R 0 0 (MQ x.below (QW d A (Wd w) (some (.ref q))) x.args x.s 0 0 A) nL (Imu d A x.s.heap) (some u = some w) pc ws lv [.ref q] := by
  intro h H locs ls hI hl
  cases h
  exact W.aret C.1 C.2.1 hr hrt (Or.inr ⟨q, rfl⟩) (fun t ht _ => ⟨rfl, by rw [ht, hw]; exact hI.1, hI.2.2.1.F ht⟩) hI.2.2.1.2.2 hdg hlk
theorem V_vretW {U : Type} {Wd : U → va_W} {u w : U} (C : Cx x cc nL own d (Imu d A x.s.heap)) (hr : x.meth.sig.returnType = none) (hlk : x.meth.locks = false) (hdg : decode cc pc = .ok (.return_, 1)) (hw : Wd u = ws) : V x R 0 0 (MQ x.below (QW d A (Wd w) none) x.args x.s 0 0 A) nL (Imu d A x.s.heap) (some u = some w) pc ws lv [] := by
  intro h H locs ls hI hl
  cases h
  exact W.vret C.1 C.2.1 hr (fun t ht _ => ⟨rfl, by rw [ht, hw]; exact hI.1, hI.2.2.1.F ht⟩) hI.2.2.1.2.2 hdg hlk
end VRETS
end
section
/-! ===== switches, Math, arraycopy ===== -/
def jmin (x y : Int32) : Int32 := if y < x then y else x
def jabs (x : Int32) : Int32 := if 0 ≤ x then x else 0 - x
theorem neInt {y v : Int32} {k : Int} (h : ¬ y = v) (hv : v.toInt = k) : y.toInt ≠ k := fun e => h (Int32.toInt_inj.mp (e.trans hv.symm))
section MORE
variable {x : Am} {R : Room} {cells slots : Nat} {Q : State → Prop} {nL : Nat} {I : Iv} {hyp : Prop} {pc : Nat} {ws ws' : va_W} {lv lv' : List (Option Value)} {rest stk : List Value} {cc : ByteArray} {own : String} {d : Dt} {A0 : Nat → Prop}
theorem V_case {Z : Type} {z : Z} {A B : Option Z} {y v : Int32} (ke : y = v → V x R cells slots Q nL I (A = some z) pc ws lv stk) (kn : ¬ y = v → V x R cells slots Q nL I (B = some z) pc ws lv stk) : V x R cells slots Q nL I ((if y = v then A else B) = some z) pc ws lv stk := by
  intro h H locs ls hI hl
  by_cases q : y = v
  · exact ke q (ite_t q h) H locs ls hI hl
  · exact kn q (ite_f q h) H locs ls hI hl
theorem V_tsIn (C : Cx x cc nL own d I) {dflt lo hi : Int} {offs : Array Int} {len : Nat} {y v : Int32} {off : Int} {tgt : Nat} (e : y = v) (hdg : decode cc pc = .ok (.tableswitch dflt lo hi offs, len)) (h1 : ¬ v.toInt < lo) (h2 : ¬ hi < v.toInt) (ho : offs[(v.toInt - lo).toNat]? = some off) (ht : (pc : Int) + off = (tgt : Int)) (k : V x R cells slots Q nL I hyp tgt ws lv rest) : V x R cells slots Q nL I hyp pc ws lv (.int y :: rest) := by
  subst e
  exact fun h H locs ls hI hl => lv_tableIn C.1 C.2.1 hdg h1 h2 ho ht (k h H locs ls hI hl)
theorem V_tsOut (C : Cx x cc nL own d I) {dflt lo hi : Int} {offs : Array Int} {len : Nat} {y : Int32} {tgt : Nat} (hdg : decode cc pc = .ok (.tableswitch dflt lo hi offs, len)) (ho : y.toInt < lo ∨ hi < y.toInt) (ht : (pc : Int) + dflt = (tgt : Int)) (k : V x R cells slots Q nL I hyp tgt ws lv rest) : V x R cells slots Q nL I hyp pc ws lv (.int y :: rest) :=
  fun h H locs ls hI hl => lv_tableOut C.1 C.2.1 hdg ho ht (k h H locs ls hI hl)
theorem V_lkIn (C : Cx x cc nL own d I) {dflt : Int} {ps : Array (Int × Int)} {len : Nat} {y v : Int32} {off : Int} {tgt : Nat} (e : y = v) (hdg : decode cc pc = .ok (.lookupswitch dflt ps, len)) (hp : (ps.toList.zip (ps.toList.drop 1)).all (fun (a, next) => a.1 < next.1) = true) (ho : Op.lookupswitch.offset ps.toList dflt v.toInt = off) (ht : (pc : Int) + off = (tgt : Int)) (k : V x R cells slots Q nL I hyp tgt ws lv rest) : V x R cells slots Q nL I hyp pc ws lv (.int y :: rest) := by
  subst e
  exact fun h H locs ls hI hl => lv_lookup C.1 C.2.1 hdg hp ho ht (k h H locs ls hI hl)
theorem lk2 {y : Int32} {dflt a b oa ob : Int} (h1 : y.toInt ≠ a) (h2 : y.toInt ≠ b) : Op.lookupswitch.offset [(a, oa), (b, ob)] dflt y.toInt = dflt := by
  simp [Op.lookupswitch.offset, h1.symm, h2.symm]
theorem V_lkOut (C : Cx x cc nL own d I) {dflt : Int} {ps : Array (Int × Int)} {len : Nat} {y : Int32} {tgt : Nat} (hdg : decode cc pc = .ok (.lookupswitch dflt ps, len)) (hp : (ps.toList.zip (ps.toList.drop 1)).all (fun (a, next) => a.1 < next.1) = true) (ho : Op.lookupswitch.offset ps.toList dflt y.toInt = dflt) (ht : (pc : Int) + dflt = (tgt : Int)) (k : V x R cells slots Q nL I hyp tgt ws lv rest) : V x R cells slots Q nL I hyp pc ws lv (.int y :: rest) :=
  fun h H locs ls hI hl => lv_lookup C.1 C.2.1 hdg hp ho ht (k h H locs ls hI hl)
theorem V_mmin (C : Cx x cc nL own d I) {idx : Nat} {a b : Int32} (hlink : Cond.methodLink own idx Lib.Math.min.name ∈ tG) (hst : Cond.static Lib.Math.min.name ∈ tG) (hini : Cond.initialized "java/lang/Math" ∈ tG) (hcode : Cond.code Lib.Math.min.name Lib.Math.min.code 2 (some .int) ∈ tG) (hdg : decode cc pc = .ok (.invokestatic idx, 3)) (hR : 1 ≤ R.frames ∧ (rest.map fun v => v.category).sum + 13 ≤ R.locals ∧ cells ≤ R.cells ∧ slots ≤ R.slots)
    (kk : V x R cells slots Q nL I hyp (pc + 3) ws lv (.int (jmin a b) :: rest)) : V x R cells slots Q nL I hyp pc ws lv (.int b :: .int a :: rest) :=
  fun h H locs ls hI hl => va_mmin C.1 C.2.1 (C.2.2.1.trans hl.1.symm) C.2.2.2.1 (C.2.2.2.2.1 _ hlink) (C.2.2.2.2.1 _ hst) (C.2.2.2.2.1 _ hini) (C.2.2.2.2.1 _ hcode) hR.1 hR.2.1 hR.2.2.1 hR.2.2.2 hdg (kk h H locs ls hI hl)
theorem V_mabs (C : Cx x cc nL own d I) {idx : Nat} {a : Int32} (hlink : Cond.methodLink own idx Lib.Math.abs.name ∈ tG) (hst : Cond.static Lib.Math.abs.name ∈ tG) (hini : Cond.initialized "java/lang/Math" ∈ tG) (hcode : Cond.code Lib.Math.abs.name Lib.Math.abs.code 1 (some .int) ∈ tG) (hdg : decode cc pc = .ok (.invokestatic idx, 3)) (hR : 1 ≤ R.frames ∧ (rest.map fun v => v.category).sum + 13 ≤ R.locals ∧ cells ≤ R.cells ∧ slots ≤ R.slots)
    (kk : V x R cells slots Q nL I hyp (pc + 3) ws lv (.int (jabs a) :: rest)) : V x R cells slots Q nL I hyp pc ws lv (.int a :: rest) :=
  fun h H locs ls hI hl => va_mabs C.1 C.2.1 (C.2.2.1.trans hl.1.symm) C.2.2.2.1 (C.2.2.2.2.1 _ hlink) (C.2.2.2.2.1 _ hst) (C.2.2.2.2.1 _ hini) (C.2.2.2.2.1 _ hcode) hR.1 hR.2.1 hR.2.2.1 hR.2.2.2 hdg (kk h H locs ls hI hl)
end MORE
theorem inl_ext {D : va_G} {ws : va_W} {H : Heap} {q0 a : Nat} {cA : ClassId} {n : Nat} {f g : Nat → Int32} {ws1 : va_W} (h : va_P D vwCl ws H) (h1 : ws[q0]? = some (a, .inl (cA, n, .inl f))) (h2 : ws.set q0 (a, .inl (cA, n, .inl g)) = ws1) (hfg : ∀ j, j < n → f j = g j) : va_P D vwCl ws1 H := by
  subst h2
  intro k q hk
  by_cases e : q0 = k
  · subst e
    rw [List.getElem?_set_self'] at hk
    rw [h1] at hk
    have : (a, Sum.inl (cA, n, Sum.inl g)) = q := by simpa using hk
    subst this
    have h3 : H[a]? = some (vp_cell cA (n, .inl f)) := h q0 _ h1
    show H[a]? = some (vp_cell cA (n, .inl g))
    rw [h3, vp_cell_i, vp_cell_i]
    have e1 : arrV cA n (fun j => .int (f j)) = arrV cA n (fun j => .int (g j)) := by
      unfold arrV
      congr 1
      apply Array.ext
      · simp
      · intro i h4 h5
        simp at h4
        simp [hfg i h4]
    rw [e1]
  · rw [List.getElem?_set_ne e] at hk
    exact h k q hk
theorem V_callSc {x : Am} {R : Room} {cells slots : Nat} {Q : State → Prop} {nL : Nat} {hyp : Prop} {pc : Nat} {ws ws2 : va_W} {lv : List (Option Value)} {rest stk : List Value} {cc : ByteArray} {own : String} {d : Dt} {y : MethodName} {cy : ByteArray} {nLy n idx : Nat} {ret : Option FieldType} {rm : Room} {As : List Value} {wc w1 : va_W} {A : Nat → Prop} (C : Cx x cc nL own d (Imu d A x.s.heap)) (hM : CtW x.2.1 d y cy nLy ret rm As wc w1 none) (Y : CalS y cy nLy ret n) (hlink : Cond.methodLink own idx y ∈ tG)
    (isC : List Nat) (hdg : decode cc pc = .ok (.invokestatic idx, 3)) (hC : isC.map (fun i => ws[i]?) = wc.map some) (hnd : va_nd isC = true) (hf : w1.map (·.1) = wc.map (·.1)) (hws : putAt ws isC w1 = ws2) (hn : As.length = n) (hcat : (rest.map fun v => v.category).sum ≤ 8)
    (hR : rm.frames + 1 ≤ R.frames ∧ 8 + (nLy + 11) + rm.locals ≤ R.locals) (hrc : rm.cells = 0) (hrs : rm.slots = 0) (hcs : cells ≤ R.cells ∧ slots ≤ R.slots) (hstk : As.reverse ++ rest = stk)
    (kk : V x R cells slots Q nL (Imu d A x.s.heap) hyp (pc + 3) ws2 lv rest) : V x R cells slots Q nL (Imu d A x.s.heap) hyp pc ws lv stk := by
  intro h
  have K := V_callSv (Z := Unit) (z := ()) (Q := Q) (cells := cells) (slots := slots) (lv := lv) (rest := rest) (stk := stk) (g := some ()) (k := fun _ => some ()) (Wd := fun _ => w1) (wc := wc) (ws := ws) C (fun _ _ => hM) Y hlink isC (fun _ => ws2) hdg hC hnd (fun _ => hf) (fun _ => hws) hn hcat hR hrc hrs hcs hstk (fun _ _ _ => kk h)
  exact K rfl
/-- System.arraycopy of a whole int row onto one of the same length -/
theorem V_acopy {x : Am} {R : Room} {cells slots : Nat} {Q : State → Prop} {nL : Nat} {hyp : Prop} {pc : Nat} {ws ws2 : va_W} {lv : List (Option Value)} {rest : List Value} {cc : ByteArray} {own : String} {d : Dt} {A : Nat → Prop} {idx a0 a1 n : Nat} {f g : Nat → Int32} (C : Cx x cc nL own d (Imu d A x.s.heap)) (hlink : Cond.methodLink own idx arraycopyName ∈ tG) (hnat : Cond.native arraycopyName ∈ tG) (hst : Cond.static arraycopyName ∈ tG) (hini : Cond.initialized "java/lang/System" ∈ tG)
    (hdg : decode cc pc = .ok (.invokestatic idx, 3)) (q0 q1 : Nat) (h0 : ws[q0]? = some (a0, .inl (d.2.1, n, .inl f))) (h1 : ws[q1]? = some (a1, .inl (d.2.1, n, .inl g))) (h2 : ws.set q1 (a1, .inl (d.2.1, n, .inl f)) = ws2) (hn : n < 2 ^ 31) (hR : 1 ≤ R.frames ∧ (rest.map fun v => v.category).sum + (nativeFrameWords "java/lang/System" "arraycopy" 5 + 11) ≤ R.locals)
    (kk : V x R cells slots Q nL (Imu d A x.s.heap) hyp (pc + 3) ws2 lv rest) : V x R cells slots Q nL (Imu d A x.s.heap) hyp pc ws lv (.int (nI n) :: .int 0 :: .ref a1 :: .int 0 :: .ref a0 :: rest) := by
  intro h H locs ls hI hl
  have hc : (nI n).toNatClampNeg = n := nI_clamp hn
  have h00 : (0 : Int32).toNatClampNeg = 0 := by decide
  refine va_copyi (D := d.1) C.1 C.2.1 (C.2.2.1.trans hl.1.symm) C.2.2.2.1 (C.2.2.2.2.1 _ hlink) (C.2.2.2.2.1 _ hnat) (C.2.2.2.2.1 _ hst) (C.2.2.2.2.1 _ hini) C.2.2.2.2.2.1.1 hI.1 hI.2.1 hI.2.2.1 q0 q1 0 0 h0 h1 rfl rfl rfl (by decide) (by decide) (nI_pos hn) (by rw [h00, hc]; omega) (by rw [h00, hc]; omega) (fun _ _ => rfl) hR.1 hR.2 hdg (fun H1 locs1 hP hD hS => ?_)
  rw [h00, hc] at hP hD
  have hq : (ws.set q1 (a1, .inl (d.2.1, n, .inl (va_cpy f g 0 0 n))))[q1]? = some (a1, .inl (d.2.1, n, .inl (va_cpy f g 0 0 n))) := by
    have : q1 < ws.length := (List.getElem?_eq_some_iff.mp h1).1
    simp [this]
  have e2 : (ws.set q1 (a1, .inl (d.2.1, n, .inl (va_cpy f g 0 0 n)))).set q1 (a1, .inl (d.2.1, n, .inl f)) = ws2 := by rw [List.set_set]; exact h2
  have hP2 := inl_ext hP hq e2 (fun j hj => by simp [va_cpy, hj])
  have hD2 := hD.set (e := .inl (d.2.1, n, .inl f)) hq
  rw [e2] at hD2
  exact kk h H1 locs1 ls ⟨hP2, hD2, hS, hI.2.2.2⟩ hl
section LITS
variable {x : Am} {R : Room} {cells slots : Nat} {Q : State → Prop} {nL : Nat} {I : Iv} {hyp : Prop} {pc : Nat} {ws ws' : va_W} {lv lv' : List (Option Value)} {rest stk : List Value} {cc : ByteArray} {own : String} {d : Dt} {A : Nat → Prop}
theorem V_ialdc (C : Cx x cc nL own d I) (q0 k : Nat) {a n : Nat} {f : Nat → Int32} {i : Int32} (ha : ws[q0]? = some (a, .inl (d.2.1, n, .inl f))) (hi : inb i n = true) (hk : i.toNatClampNeg = k) (hdg : decode cc pc = .ok (.iaload, 1))
    (kk : V x R cells slots Q nL I hyp (pc + 1) ws lv (.int (f k) :: rest)) : V x R cells slots Q nL I hyp pc ws lv (.int i :: .ref a :: rest) := by
  subst hk
  exact fun h H locs ls hI hl => va_iald (D := d.1) C.1 C.2.1 C.2.2.2.2.2.1.1 (C.2.2.2.2.2.2 ws H locs hI) q0 0 ha rfl (inb_in hi) hdg (kk h H locs ls hI hl)
theorem V_caldc (C : Cx x cc nL own d I) (q0 k : Nat) {a n : Nat} {f : Nat → Int32} {i : Int32} (ha : ws[q0]? = some (a, .inl (d.2.2.1, n, .inl f))) (hi : inb i n = true) (hk : i.toNatClampNeg = k) (hdg : decode cc pc = .ok (.caload, 1))
    (kk : V x R cells slots Q nL I hyp (pc + 1) ws lv (.int (f k) :: rest)) : V x R cells slots Q nL I hyp pc ws lv (.int i :: .ref a :: rest) := by
  subst hk
  exact fun h H locs ls hI hl => va_cald (D := d.1) C.1 C.2.1 C.2.2.2.2.2.1.1 (C.2.2.2.2.2.2 ws H locs hI) q0 1 ha rfl (inb_in hi) hdg (kk h H locs ls hI hl)
theorem V_iastc (C : Cx x cc nL own d (Imu d A x.s.heap)) (q0 k : Nat) {a n : Nat} {f : Nat → Int32} {i v : Int32} (ha : ws[q0]? = some (a, .inl (d.2.1, n, .inl f))) (hi : inb i n = true) (hk : i.toNatClampNeg = k) (hws : ws.set q0 (a, .inl (d.2.1, n, .inl (upd f k v))) = ws') (hdg : decode cc pc = .ok (.iastore, 1))
    (kk : V x R cells slots Q nL (Imu d A x.s.heap) hyp (pc + 1) ws' lv rest) : V x R cells slots Q nL (Imu d A x.s.heap) hyp pc ws lv (.int v :: .int i :: .ref a :: rest) := by
  subst hk
  subst hws
  exact fun h H locs ls hI hl => va_iast (D := d.1) C.1 C.2.1 C.2.2.2.2.2.1.1 hI.1 hI.2.1 hI.2.2.1 q0 0 ha rfl (inb_in hi) hdg (fun H1 locs1 hP hD hS => kk h H1 locs1 ls ⟨hP, hD, hS, hI.2.2.2⟩ hl)
theorem V_zretRc {z r : Int32} (C : Cx x cc nL own d (Iro d x.s.heap)) (hr : x.meth.sig.returnType = some .boolean) (hlk : x.meth.locks = false) (hj : jbool r = true) (hdg : decode cc pc = .ok (.ireturn, 1)) : V x R 0 0 (MQ x.below (QR (some (.int z))) x.args x.s 0 0 (fun _ => False)) nL (Iro d x.s.heap) (some r = some z) pc ws lv [.int r] :=
  V_eqv (fun h => by rw [if_pos hj]; exact h) (V_zretR C hr hlk hdg)
theorem V_zretWc {U : Type} {Wd : U → va_W} {r : Int32} {u : U} {z : Int32 × U} (C : Cx x cc nL own d (Imu d A x.s.heap)) (hr : x.meth.sig.returnType = some .boolean) (hlk : x.meth.locks = false) (hj : jbool r = true) (hdg : decode cc pc = .ok (.ireturn, 1)) (hw : Wd u = ws) : V x R 0 0 (MQ x.below (QW d A (Wd z.2) (some (.int z.1))) x.args x.s 0 0 A) nL (Imu d A x.s.heap) (some (r, u) = some z) pc ws lv [.int r] :=
  V_eqv (h2 := (if jbool r = true then some (r, u) else none) = some z) (fun h => by rw [if_pos hj]; exact h) (V_zretW C hr hlk hdg hw)
theorem V_putZc (C : Cx x cc nL own d (Imu d A x.s.heap)) {ci : Nat} {CC : String} {T : u_T} {N : Nat} {ty : Nat → FieldType} (F : Fld ci CC T N ty) (q0 k : Nat) {idx a : Nat} {fs : List Value} {v : Int32} (hlink : Cond.fieldLink own idx (T k).1 (T k).2.1 (T k).2.2.1 ∈ tG) (hk : k < N) (he : ws[q0]? = some (a, .inr (ci, fs))) (hfin : (T k).2.2.2 = false) (hty : ty k = .boolean) (hl : k < fs.length) (hws : ws.set q0 (a, .inr (ci, fs.set k (.int v))) = ws') (hj : jbool v = true) (hdg : decode cc pc = .ok (.putfield idx, 3))
    (kk : V x R cells slots Q nL (Imu d A x.s.heap) hyp (pc + 3) ws' lv rest) : V x R cells slots Q nL (Imu d A x.s.heap) hyp pc ws lv (.int v :: .ref a :: rest) := fun h =>
  V_putZ (Z := Unit) (z := ()) (B := some ()) C F q0 k hlink hk he hfin hty hl hws hdg (fun _ => kk h) (if_pos hj)
end LITS
end
section
/-! ===== the states of the objects, and the worlds that hold them ===== -/
abbrev UA : Type := Nat → Int32
/-- weights, wears, requestsServed, slots, occupants, holders; size -/
abbrev UC : Type := UA × UA × UA × UA × UA × UA × Int32
/-- files, ranks, ticks; size -/
abbrev UR : Type := UA × UA × UA × Int32
/-- cartridges, requests; wall, weighed, pileSize, pileWeight, lastMounted, ticks, turns, served -/
abbrev UL : Type := UC × UR × Int32 × Int32 × Int32 × Int32 × Int32 × Int32 × Int32 × Int32
/-- signs; length, word, number, end, breaksOffAt, faultPosition, faultReason, faultCause -/
abbrev UO : Type := UA × Int32 × Int32 × Int32 × Int32 × Int32 × Int32 × Int32 × Int32
/-- the four states; next, size -/
abbrev UH : Type := UL × UL × UL × UL × Int32 × Int32
/-- now, trial, history, orders -/
abbrev UM : Type := UL × UL × UH × UO
/-- the model: s, was, begun, aside; states; text; typed, at, reason, cause, digit, order, drive, moved -/
abbrev UX : Type := UA × UA × UA × UA × Int32 × UA × Int32 × Int32 × Int32 × Int32 × Int32 × Int32 × Int32 × Int32
def WA (d : Dt) (a : Nat → Nat) (u : UA) : va_W := [(a 0, .inl (d.2.1, 60, .inl u))]
def WC (d : Dt) (a : Nat → Nat) (u : UC) : va_W := [(a 0, .inr (0, [.ref (a 1), .ref (a 2), .ref (a 3), .ref (a 4), .ref (a 5), .ref (a 6), .int u.2.2.2.2.2.2])), (a 1, .inl (d.2.1, 30, .inl u.1)), (a 2, .inl (d.2.1, 30, .inl u.2.1)), (a 3, .inl (d.2.1, 30, .inl u.2.2.1)), (a 4, .inl (d.2.1, 30, .inl u.2.2.2.1)), (a 5, .inl (d.2.1, 37, .inl u.2.2.2.2.1)), (a 6, .inl (d.2.1, 60, .inl u.2.2.2.2.2.1))]
def WR (d : Dt) (a : Nat → Nat) (u : UR) : va_W := [(a 0, .inr (4, [.ref (a 1), .ref (a 2), .ref (a 3), .int u.2.2.2])), (a 1, .inl (d.2.1, 12, .inl u.1)), (a 2, .inl (d.2.1, 12, .inl u.2.1)), (a 3, .inl (d.2.1, 12, .inl u.2.2.1))]
def WL (d : Dt) (a : Nat → Nat) (u : UL) : va_W := (a 0, .inr (2, [.ref (a 1), .ref (a 8), .int u.2.2.1, .int u.2.2.2.1, .int u.2.2.2.2.1, .int u.2.2.2.2.2.1, .int u.2.2.2.2.2.2.1, .int u.2.2.2.2.2.2.2.1, .int u.2.2.2.2.2.2.2.2.1, .int u.2.2.2.2.2.2.2.2.2])) :: (WC d (fun i => a (i + 1)) u.1 ++ WR d (fun i => a (i + 8)) u.2.1)
def WO (d : Dt) (a : Nat → Nat) (u : UO) : va_W := [(a 0, .inr (3, [.ref (a 1), .int u.2.1, .int u.2.2.1, .int u.2.2.2.1, .int u.2.2.2.2.1, .int u.2.2.2.2.2.1, .int u.2.2.2.2.2.2.1, .int u.2.2.2.2.2.2.2.1, .int u.2.2.2.2.2.2.2.2])), (a 1, .inl (d.2.2.1, 60, .inl u.1))]
def libRow (a : Nat → Nat) : Nat → Option Nat
  | 0 => some (a 2)
  | 1 => some (a 14)
  | 2 => some (a 26)
  | 3 => some (a 38)
  | _ => none
def WH (d : Dt) (a : Nat → Nat) (u : UH) : va_W := (a 0, .inr (1, [.ref (a 1), .int u.2.2.2.2.1, .int u.2.2.2.2.2])) :: (a 1, .inl (d.2.2.2, 4, .inr (.inr (.inr (.inr (libRow a)))))) :: (WL d (fun i => a (i + 2)) u.1 ++ (WL d (fun i => a (i + 14)) u.2.1 ++ (WL d (fun i => a (i + 26)) u.2.2.1 ++ WL d (fun i => a (i + 38)) u.2.2.2.1)))
def WM (d : Dt) (a : Nat → Nat) (u : UM) : va_W := (a 0, .inr (5, [.ref (a 1), .ref (a 13), .ref (a 25), .ref (a 75)])) :: (WL d (fun i => a (i + 1)) u.1 ++ (WL d (fun i => a (i + 13)) u.2.1 ++ (WH d (fun i => a (i + 25)) u.2.2.1 ++ WO d (fun i => a (i + 75)) u.2.2.2)))
def WX (d : Dt) (a : Nat → Nat) (u : UX) : va_W := [(a 0, .inr (6, [.ref (a 1), .ref (a 2), .ref (a 3), .ref (a 4), .int u.2.2.2.2.1, .ref (a 5), .int u.2.2.2.2.2.2.1, .int u.2.2.2.2.2.2.2.1, .int u.2.2.2.2.2.2.2.2.1, .int u.2.2.2.2.2.2.2.2.2.1, .int u.2.2.2.2.2.2.2.2.2.2.1, .int u.2.2.2.2.2.2.2.2.2.2.2.1, .int u.2.2.2.2.2.2.2.2.2.2.2.2.1, .int u.2.2.2.2.2.2.2.2.2.2.2.2.2])), (a 1, .inl (d.2.1, 264, .inl u.1)), (a 2, .inl (d.2.1, 1056, .inl u.2.1)), (a 3, .inl (d.2.1, 264, .inl u.2.2.1)), (a 4, .inl (d.2.1, 264, .inl u.2.2.2.1)), (a 5, .inl (d.2.2.1, 60, .inl u.2.2.2.2.2.1))]
def WCC (d : Dt) (a b : Nat → Nat) (u : UC × UC) : va_W := WC d a u.1 ++ WC d b u.2
def WRR (d : Dt) (a b : Nat → Nat) (u : UR × UR) : va_W := WR d a u.1 ++ WR d b u.2
def WLL (d : Dt) (a b : Nat → Nat) (u : UL × UL) : va_W := WL d a u.1 ++ WL d b u.2
def WRC (d : Dt) (a b : Nat → Nat) (u : UR × UC) : va_W := WR d a u.1 ++ WC d b u.2
def WOL (d : Dt) (a b : Nat → Nat) (u : UO × UL) : va_W := WO d a u.1 ++ WL d b u.2
def WHL (d : Dt) (a b : Nat → Nat) (u : UH × UL) : va_W := WH d a u.1 ++ WL d b u.2
def FUEL : Nat := 2000
theorem tbl_all {ws : List Cond} (h : ∀ w ∈ ws, w ∈ lw_tbl) (g : ws.all goodWord = true) : ∀ w ∈ ws, w ∈ tG := fun w hw => tG_of (h w hw) (List.all_eq_true.mp g w hw)
set_option maxRecDepth 20000 in
theorem fx0 : Fld 0 RX0 TX0 7 tyX0 := ⟨rfl, tbl_all (by decide +kernel) (by decide +kernel), tyX0_ok, nmX0⟩
set_option maxRecDepth 20000 in
theorem fx1 : Fld 1 RX1 TX1 3 tyX1 := ⟨rfl, tbl_all (by decide +kernel) (by decide +kernel), tyX1_ok, nmX1⟩
set_option maxRecDepth 20000 in
theorem fx2 : Fld 2 RX2 TX2 10 tyX2 := ⟨rfl, tbl_all (by decide +kernel) (by decide +kernel), tyX2_ok, nmX2⟩
set_option maxRecDepth 20000 in
theorem fx3 : Fld 3 RX3 TX3 9 tyX3 := ⟨rfl, tbl_all (by decide +kernel) (by decide +kernel), tyX3_ok, nmX3⟩
set_option maxRecDepth 20000 in
theorem fx4 : Fld 4 RX4 TX4 4 tyX4 := ⟨rfl, tbl_all (by decide +kernel) (by decide +kernel), tyX4_ok, nmX4⟩
set_option maxRecDepth 20000 in
theorem fx6 : Fld 5 RX6 TX6 4 tyX6 := ⟨rfl, tbl_all (by decide +kernel) (by decide +kernel), tyX6_ok, nmX6⟩
set_option maxRecDepth 20000 in
theorem fx7 : Fld 6 RX7 TX7 14 tyX7 := ⟨rfl, tbl_all (by decide +kernel) (by decide +kernel), tyX7_ok, nmX7⟩
end
section
/-! words of the tables -/
theorem ks_X6_isIn : CalS yX6_isIn cX6_isIn 3 (some .boolean) 3 := ⟨tG_of (List.mem_of_getElem? (i := 283) (by decide +kernel)) (by decide +kernel), tG_of (List.mem_of_getElem? (i := 56) (by decide +kernel)) (by decide +kernel), tG_of (List.mem_of_getElem? (i := 284) (by decide +kernel)) (by decide +kernel), by decide +kernel⟩
theorem kl_X6_122 : Cond.methodLink RX6 122 yX6_isIn ∈ tG := tG_of (List.mem_of_getElem? (i := 288) (by decide +kernel)) (by decide +kernel)
theorem kc_X6_139 : Cond.constant RX6 139 (-1000004) ∈ tG := tG_of (List.mem_of_getElem? (i := 589) (by decide +kernel)) (by decide +kernel)
theorem ks_X6_wallsToTheRight : CalS yX6_wallsToTheRight cX6_wallsToTheRight 2 (some .int) 2 := ⟨tG_of (List.mem_of_getElem? (i := 521) (by decide +kernel)) (by decide +kernel), tG_of (List.mem_of_getElem? (i := 56) (by decide +kernel)) (by decide +kernel), tG_of (List.mem_of_getElem? (i := 522) (by decide +kernel)) (by decide +kernel), by decide +kernel⟩
theorem kl_X6_231 : Cond.methodLink RX6 231 yX6_wallsToTheRight ∈ tG := tG_of (List.mem_of_getElem? (i := 520) (by decide +kernel)) (by decide +kernel)
theorem kf_X0_9 : Cond.fieldLink RX0 9 (TX0 0).1 (TX0 0).2.1 (TX0 0).2.2.1 ∈ tG := tG_of (List.mem_of_getElem? (i := 94) (by decide +kernel)) (by decide +kernel)
theorem kl_X0_36 : Cond.methodLink RX0 36 yX5_copy ∈ tG := tG_of (List.mem_of_getElem? (i := 264) (by decide +kernel)) (by decide +kernel)
theorem kf_X0_15 : Cond.fieldLink RX0 15 (TX0 1).1 (TX0 1).2.1 (TX0 1).2.2.1 ∈ tG := tG_of (List.mem_of_getElem? (i := 95) (by decide +kernel)) (by decide +kernel)
theorem kf_X0_18 : Cond.fieldLink RX0 18 (TX0 2).1 (TX0 2).2.1 (TX0 2).2.2.1 ∈ tG := tG_of (List.mem_of_getElem? (i := 96) (by decide +kernel)) (by decide +kernel)
theorem kf_X0_21 : Cond.fieldLink RX0 21 (TX0 3).1 (TX0 3).2.1 (TX0 3).2.2.1 ∈ tG := tG_of (List.mem_of_getElem? (i := 97) (by decide +kernel)) (by decide +kernel)
theorem kf_X0_24 : Cond.fieldLink RX0 24 (TX0 4).1 (TX0 4).2.1 (TX0 4).2.2.1 ∈ tG := tG_of (List.mem_of_getElem? (i := 98) (by decide +kernel)) (by decide +kernel)
theorem kf_X0_27 : Cond.fieldLink RX0 27 (TX0 5).1 (TX0 5).2.1 (TX0 5).2.2.1 ∈ tG := tG_of (List.mem_of_getElem? (i := 99) (by decide +kernel)) (by decide +kernel)
theorem kf_X0_42 : Cond.fieldLink RX0 42 (TX0 6).1 (TX0 6).2.1 (TX0 6).2.2.1 ∈ tG := tG_of (List.mem_of_getElem? (i := 100) (by decide +kernel)) (by decide +kernel)
theorem kn_X0_46 : Cond.methodLinkNest RX0 46 yX6_isIn RX6 ∈ nestW := nest_of (List.mem_of_getElem? (i := 333) (by decide +kernel)) (by decide +kernel)
theorem kc_X0_50 : Cond.constant RX0 50 (-1000003) ∈ tG := tG_of (List.mem_of_getElem? (i := 302) (by decide +kernel)) (by decide +kernel)
theorem kv_X0_moveTo : CalV yX0_moveTo cX0_moveTo 4 none RX0 2 := ⟨tG_of (List.mem_of_getElem? (i := 304) (by decide +kernel)) (by decide +kernel), tG_of (List.mem_of_getElem? (i := 305) (by decide +kernel)) (by decide +kernel), tG_of (List.mem_of_getElem? (i := 58) (by decide +kernel)) (by decide +kernel), tG_of (List.mem_of_getElem? (i := 306) (by decide +kernel)) (by decide +kernel), by decide +kernel⟩
theorem kl_X0_51 : Cond.methodLink RX0 51 yX0_moveTo ∈ tG := tG_of (List.mem_of_getElem? (i := 303) (by decide +kernel)) (by decide +kernel)
theorem kv_X0_wearOf : CalV yX0_wearOf cX0_wearOf 2 (some .int) RX0 1 := ⟨tG_of (List.mem_of_getElem? (i := 423) (by decide +kernel)) (by decide +kernel), tG_of (List.mem_of_getElem? (i := 424) (by decide +kernel)) (by decide +kernel), tG_of (List.mem_of_getElem? (i := 58) (by decide +kernel)) (by decide +kernel), tG_of (List.mem_of_getElem? (i := 425) (by decide +kernel)) (by decide +kernel), by decide +kernel⟩
theorem kl_X0_55 : Cond.methodLink RX0 55 yX0_wearOf ∈ tG := tG_of (List.mem_of_getElem? (i := 422) (by decide +kernel)) (by decide +kernel)
theorem kv_X0_slotOf : CalV yX0_slotOf cX0_slotOf 2 (some .int) RX0 1 := ⟨tG_of (List.mem_of_getElem? (i := 339) (by decide +kernel)) (by decide +kernel), tG_of (List.mem_of_getElem? (i := 340) (by decide +kernel)) (by decide +kernel), tG_of (List.mem_of_getElem? (i := 58) (by decide +kernel)) (by decide +kernel), tG_of (List.mem_of_getElem? (i := 341) (by decide +kernel)) (by decide +kernel), by decide +kernel⟩
theorem kl_X0_59 : Cond.methodLink RX0 59 yX0_slotOf ∈ tG := tG_of (List.mem_of_getElem? (i := 338) (by decide +kernel)) (by decide +kernel)
theorem kv_X0_kindOfPlaceOf : CalV yX0_kindOfPlaceOf cX0_kindOfPlaceOf 3 (some .int) RX0 1 := ⟨tG_of (List.mem_of_getElem? (i := 562) (by decide +kernel)) (by decide +kernel), tG_of (List.mem_of_getElem? (i := 563) (by decide +kernel)) (by decide +kernel), tG_of (List.mem_of_getElem? (i := 58) (by decide +kernel)) (by decide +kernel), tG_of (List.mem_of_getElem? (i := 564) (by decide +kernel)) (by decide +kernel), by decide +kernel⟩
theorem kl_X0_62 : Cond.methodLink RX0 62 yX0_kindOfPlaceOf ∈ tG := tG_of (List.mem_of_getElem? (i := 569) (by decide +kernel)) (by decide +kernel)
theorem kv_X0_wallOf : CalV yX0_wallOf cX0_wallOf 2 (some .int) RX0 1 := ⟨tG_of (List.mem_of_getElem? (i := 514) (by decide +kernel)) (by decide +kernel), tG_of (List.mem_of_getElem? (i := 515) (by decide +kernel)) (by decide +kernel), tG_of (List.mem_of_getElem? (i := 58) (by decide +kernel)) (by decide +kernel), tG_of (List.mem_of_getElem? (i := 516) (by decide +kernel)) (by decide +kernel), by decide +kernel⟩
theorem kl_X0_65 : Cond.methodLink RX0 65 yX0_wallOf ∈ tG := tG_of (List.mem_of_getElem? (i := 570) (by decide +kernel)) (by decide +kernel)
theorem kv_X0_shelfOfWall : CalV yX0_shelfOfWall cX0_shelfOfWall 2 (some .int) RX0 1 := ⟨tG_of (List.mem_of_getElem? (i := 548) (by decide +kernel)) (by decide +kernel), tG_of (List.mem_of_getElem? (i := 549) (by decide +kernel)) (by decide +kernel), tG_of (List.mem_of_getElem? (i := 58) (by decide +kernel)) (by decide +kernel), tG_of (List.mem_of_getElem? (i := 550) (by decide +kernel)) (by decide +kernel), by decide +kernel⟩
theorem kl_X0_68 : Cond.methodLink RX0 68 yX0_shelfOfWall ∈ tG := tG_of (List.mem_of_getElem? (i := 571) (by decide +kernel)) (by decide +kernel)
theorem kc_X0_71 : Cond.constant RX0 71 (-1000004) ∈ tG := tG_of (List.mem_of_getElem? (i := 572) (by decide +kernel)) (by decide +kernel)
theorem ks_X5_howOften : CalS yX5_howOften cX5_howOften 7 (some .int) 2 := ⟨tG_of (List.mem_of_getElem? (i := 477) (by decide +kernel)) (by decide +kernel), tG_of (List.mem_of_getElem? (i := 64) (by decide +kernel)) (by decide +kernel), tG_of (List.mem_of_getElem? (i := 478) (by decide +kernel)) (by decide +kernel), by decide +kernel⟩
theorem kl_X0_72 : Cond.methodLink RX0 72 yX5_howOften ∈ tG := tG_of (List.mem_of_getElem? (i := 476) (by decide +kernel)) (by decide +kernel)
theorem kv_X0_isWorn : CalV yX0_isWorn cX0_isWorn 2 (some .boolean) RX0 1 := ⟨tG_of (List.mem_of_getElem? (i := 419) (by decide +kernel)) (by decide +kernel), tG_of (List.mem_of_getElem? (i := 420) (by decide +kernel)) (by decide +kernel), tG_of (List.mem_of_getElem? (i := 58) (by decide +kernel)) (by decide +kernel), tG_of (List.mem_of_getElem? (i := 421) (by decide +kernel)) (by decide +kernel), by decide +kernel⟩
theorem kl_X0_76 : Cond.methodLink RX0 76 yX0_isWorn ∈ tG := tG_of (List.mem_of_getElem? (i := 638) (by decide +kernel)) (by decide +kernel)
theorem ks_X6_shelfSlot : CalS yX6_shelfSlot cX6_shelfSlot 2 (some .int) 2 := ⟨tG_of (List.mem_of_getElem? (i := 291) (by decide +kernel)) (by decide +kernel), tG_of (List.mem_of_getElem? (i := 56) (by decide +kernel)) (by decide +kernel), tG_of (List.mem_of_getElem? (i := 292) (by decide +kernel)) (by decide +kernel), by decide +kernel⟩
theorem kn_X0_80 : Cond.methodLinkNest RX0 80 yX6_shelfSlot RX6 ∈ nestW := nest_of (List.mem_of_getElem? (i := 535) (by decide +kernel)) (by decide +kernel)
theorem kv_X0_inSlot : CalV yX0_inSlot cX0_inSlot 2 (some .int) RX0 1 := ⟨tG_of (List.mem_of_getElem? (i := 294) (by decide +kernel)) (by decide +kernel), tG_of (List.mem_of_getElem? (i := 295) (by decide +kernel)) (by decide +kernel), tG_of (List.mem_of_getElem? (i := 58) (by decide +kernel)) (by decide +kernel), tG_of (List.mem_of_getElem? (i := 296) (by decide +kernel)) (by decide +kernel), by decide +kernel⟩
theorem kl_X0_84 : Cond.methodLink RX0 84 yX0_inSlot ∈ tG := tG_of (List.mem_of_getElem? (i := 536) (by decide +kernel)) (by decide +kernel)
theorem kf_X4_9 : Cond.fieldLink RX4 9 (TX4 0).1 (TX4 0).2.1 (TX4 0).2.2.1 ∈ tG := tG_of (List.mem_of_getElem? (i := 124) (by decide +kernel)) (by decide +kernel)
theorem kl_X4_21 : Cond.methodLink RX4 21 yX5_copy ∈ tG := tG_of (List.mem_of_getElem? (i := 277) (by decide +kernel)) (by decide +kernel)
theorem kf_X4_15 : Cond.fieldLink RX4 15 (TX4 1).1 (TX4 1).2.1 (TX4 1).2.2.1 ∈ tG := tG_of (List.mem_of_getElem? (i := 125) (by decide +kernel)) (by decide +kernel)
theorem kf_X4_18 : Cond.fieldLink RX4 18 (TX4 2).1 (TX4 2).2.1 (TX4 2).2.2.1 ∈ tG := tG_of (List.mem_of_getElem? (i := 126) (by decide +kernel)) (by decide +kernel)
theorem kf_X4_27 : Cond.fieldLink RX4 27 (TX4 3).1 (TX4 3).2.1 (TX4 3).2.2.1 ∈ tG := tG_of (List.mem_of_getElem? (i := 127) (by decide +kernel)) (by decide +kernel)
theorem kc_X4_31 : Cond.constant RX4 31 (-1000003) ∈ tG := tG_of (List.mem_of_getElem? (i := 450) (by decide +kernel)) (by decide +kernel)
theorem kv_X4_fileOf : CalV yX4_fileOf cX4_fileOf 2 (some .int) RX4 1 := ⟨tG_of (List.mem_of_getElem? (i := 431) (by decide +kernel)) (by decide +kernel), tG_of (List.mem_of_getElem? (i := 432) (by decide +kernel)) (by decide +kernel), tG_of (List.mem_of_getElem? (i := 60) (by decide +kernel)) (by decide +kernel), tG_of (List.mem_of_getElem? (i := 433) (by decide +kernel)) (by decide +kernel), by decide +kernel⟩
theorem kl_X4_32 : Cond.methodLink RX4 32 yX4_fileOf ∈ tG := tG_of (List.mem_of_getElem? (i := 430) (by decide +kernel)) (by decide +kernel)
theorem kv_X0_holderOf : CalV yX0_holderOf cX0_holderOf 2 (some .int) RX0 1 := ⟨tG_of (List.mem_of_getElem? (i := 435) (by decide +kernel)) (by decide +kernel), tG_of (List.mem_of_getElem? (i := 436) (by decide +kernel)) (by decide +kernel), tG_of (List.mem_of_getElem? (i := 58) (by decide +kernel)) (by decide +kernel), tG_of (List.mem_of_getElem? (i := 437) (by decide +kernel)) (by decide +kernel), by decide +kernel⟩
theorem kl_X4_36 : Cond.methodLink RX4 36 yX0_holderOf ∈ tG := tG_of (List.mem_of_getElem? (i := 434) (by decide +kernel)) (by decide +kernel)
theorem kv_X4_rankOf : CalV yX4_rankOf cX4_rankOf 2 (some .int) RX4 1 := ⟨tG_of (List.mem_of_getElem? (i := 439) (by decide +kernel)) (by decide +kernel), tG_of (List.mem_of_getElem? (i := 440) (by decide +kernel)) (by decide +kernel), tG_of (List.mem_of_getElem? (i := 60) (by decide +kernel)) (by decide +kernel), tG_of (List.mem_of_getElem? (i := 441) (by decide +kernel)) (by decide +kernel), by decide +kernel⟩
theorem kl_X4_41 : Cond.methodLink RX4 41 yX4_rankOf ∈ tG := tG_of (List.mem_of_getElem? (i := 438) (by decide +kernel)) (by decide +kernel)
theorem kv_X4_tickOf : CalV yX4_tickOf cX4_tickOf 2 (some .int) RX4 1 := ⟨tG_of (List.mem_of_getElem? (i := 443) (by decide +kernel)) (by decide +kernel), tG_of (List.mem_of_getElem? (i := 444) (by decide +kernel)) (by decide +kernel), tG_of (List.mem_of_getElem? (i := 60) (by decide +kernel)) (by decide +kernel), tG_of (List.mem_of_getElem? (i := 445) (by decide +kernel)) (by decide +kernel), by decide +kernel⟩
theorem kl_X4_44 : Cond.methodLink RX4 44 yX4_tickOf ∈ tG := tG_of (List.mem_of_getElem? (i := 442) (by decide +kernel)) (by decide +kernel)
theorem kv_X4_add : CalV yX4_add cX4_add 4 (some .int) RX4 3 := ⟨tG_of (List.mem_of_getElem? (i := 447) (by decide +kernel)) (by decide +kernel), tG_of (List.mem_of_getElem? (i := 448) (by decide +kernel)) (by decide +kernel), tG_of (List.mem_of_getElem? (i := 60) (by decide +kernel)) (by decide +kernel), tG_of (List.mem_of_getElem? (i := 449) (by decide +kernel)) (by decide +kernel), by decide +kernel⟩
theorem kl_X4_47 : Cond.methodLink RX4 47 yX4_add ∈ tG := tG_of (List.mem_of_getElem? (i := 446) (by decide +kernel)) (by decide +kernel)
theorem kf_X2_12 : Cond.fieldLink RX2 12 (TX2 0).1 (TX2 0).2.1 (TX2 0).2.2.1 ∈ tG := tG_of (List.mem_of_getElem? (i := 139) (by decide +kernel)) (by decide +kernel)
theorem kv_X0_copyFrom : CalV yX0_copyFrom cX0_copyFrom 2 none RX0 1 := ⟨tG_of (List.mem_of_getElem? (i := 261) (by decide +kernel)) (by decide +kernel), tG_of (List.mem_of_getElem? (i := 262) (by decide +kernel)) (by decide +kernel), tG_of (List.mem_of_getElem? (i := 58) (by decide +kernel)) (by decide +kernel), tG_of (List.mem_of_getElem? (i := 263) (by decide +kernel)) (by decide +kernel), by decide +kernel⟩
theorem kl_X2_25 : Cond.methodLink RX2 25 yX0_copyFrom ∈ tG := tG_of (List.mem_of_getElem? (i := 260) (by decide +kernel)) (by decide +kernel)
theorem kf_X2_21 : Cond.fieldLink RX2 21 (TX2 1).1 (TX2 1).2.1 (TX2 1).2.2.1 ∈ tG := tG_of (List.mem_of_getElem? (i := 141) (by decide +kernel)) (by decide +kernel)
theorem kv_X4_copyFrom : CalV yX4_copyFrom cX4_copyFrom 2 none RX4 1 := ⟨tG_of (List.mem_of_getElem? (i := 274) (by decide +kernel)) (by decide +kernel), tG_of (List.mem_of_getElem? (i := 275) (by decide +kernel)) (by decide +kernel), tG_of (List.mem_of_getElem? (i := 60) (by decide +kernel)) (by decide +kernel), tG_of (List.mem_of_getElem? (i := 276) (by decide +kernel)) (by decide +kernel), by decide +kernel⟩
theorem kl_X2_29 : Cond.methodLink RX2 29 yX4_copyFrom ∈ tG := tG_of (List.mem_of_getElem? (i := 273) (by decide +kernel)) (by decide +kernel)
theorem kf_X2_32 : Cond.fieldLink RX2 32 (TX2 2).1 (TX2 2).2.1 (TX2 2).2.2.1 ∈ tG := tG_of (List.mem_of_getElem? (i := 143) (by decide +kernel)) (by decide +kernel)
theorem kf_X2_36 : Cond.fieldLink RX2 36 (TX2 3).1 (TX2 3).2.1 (TX2 3).2.2.1 ∈ tG := tG_of (List.mem_of_getElem? (i := 145) (by decide +kernel)) (by decide +kernel)
theorem kf_X2_40 : Cond.fieldLink RX2 40 (TX2 4).1 (TX2 4).2.1 (TX2 4).2.2.1 ∈ tG := tG_of (List.mem_of_getElem? (i := 147) (by decide +kernel)) (by decide +kernel)
theorem kf_X2_43 : Cond.fieldLink RX2 43 (TX2 5).1 (TX2 5).2.1 (TX2 5).2.2.1 ∈ tG := tG_of (List.mem_of_getElem? (i := 149) (by decide +kernel)) (by decide +kernel)
theorem kf_X2_46 : Cond.fieldLink RX2 46 (TX2 6).1 (TX2 6).2.1 (TX2 6).2.2.1 ∈ tG := tG_of (List.mem_of_getElem? (i := 151) (by decide +kernel)) (by decide +kernel)
theorem kf_X2_49 : Cond.fieldLink RX2 49 (TX2 7).1 (TX2 7).2.1 (TX2 7).2.2.1 ∈ tG := tG_of (List.mem_of_getElem? (i := 152) (by decide +kernel)) (by decide +kernel)
theorem kf_X2_52 : Cond.fieldLink RX2 52 (TX2 8).1 (TX2 8).2.1 (TX2 8).2.2.1 ∈ tG := tG_of (List.mem_of_getElem? (i := 154) (by decide +kernel)) (by decide +kernel)
theorem kf_X2_55 : Cond.fieldLink RX2 55 (TX2 9).1 (TX2 9).2.1 (TX2 9).2.2.1 ∈ tG := tG_of (List.mem_of_getElem? (i := 156) (by decide +kernel)) (by decide +kernel)
theorem kn_X2_58 : Cond.methodLinkNest RX2 58 yX6_isIn RX6 ∈ nestW := nest_of (List.mem_of_getElem? (i := 282) (by decide +kernel)) (by decide +kernel)
theorem kc_X2_66 : Cond.constant RX2 66 (-1000001) ∈ tG := tG_of (List.mem_of_getElem? (i := 289) (by decide +kernel)) (by decide +kernel)
theorem ks_X6_isShelf : CalS yX6_isShelf cX6_isShelf 2 (some .boolean) 2 := ⟨tG_of (List.mem_of_getElem? (i := 286) (by decide +kernel)) (by decide +kernel), tG_of (List.mem_of_getElem? (i := 56) (by decide +kernel)) (by decide +kernel), tG_of (List.mem_of_getElem? (i := 287) (by decide +kernel)) (by decide +kernel), by decide +kernel⟩
theorem kn_X2_62 : Cond.methodLinkNest RX2 62 yX6_isShelf RX6 ∈ nestW := nest_of (List.mem_of_getElem? (i := 285) (by decide +kernel)) (by decide +kernel)
theorem kn_X2_67 : Cond.methodLinkNest RX2 67 yX6_shelfSlot RX6 ∈ nestW := nest_of (List.mem_of_getElem? (i := 290) (by decide +kernel)) (by decide +kernel)
theorem kl_X2_71 : Cond.methodLink RX2 71 yX0_inSlot ∈ tG := tG_of (List.mem_of_getElem? (i := 293) (by decide +kernel)) (by decide +kernel)
theorem kv_X0_add : CalV yX0_add cX0_add 4 (some .int) RX0 2 := ⟨tG_of (List.mem_of_getElem? (i := 299) (by decide +kernel)) (by decide +kernel), tG_of (List.mem_of_getElem? (i := 300) (by decide +kernel)) (by decide +kernel), tG_of (List.mem_of_getElem? (i := 58) (by decide +kernel)) (by decide +kernel), tG_of (List.mem_of_getElem? (i := 301) (by decide +kernel)) (by decide +kernel), by decide +kernel⟩
theorem kl_X2_76 : Cond.methodLink RX2 76 yX0_add ∈ tG := tG_of (List.mem_of_getElem? (i := 298) (by decide +kernel)) (by decide +kernel)
theorem kc_X2_75 : Cond.constant RX2 75 (-1000002) ∈ tG := tG_of (List.mem_of_getElem? (i := 297) (by decide +kernel)) (by decide +kernel)
theorem kv_X0_has : CalV yX0_has cX0_has 2 (some .boolean) RX0 1 := ⟨tG_of (List.mem_of_getElem? (i := 330) (by decide +kernel)) (by decide +kernel), tG_of (List.mem_of_getElem? (i := 331) (by decide +kernel)) (by decide +kernel), tG_of (List.mem_of_getElem? (i := 58) (by decide +kernel)) (by decide +kernel), tG_of (List.mem_of_getElem? (i := 332) (by decide +kernel)) (by decide +kernel), by decide +kernel⟩
theorem kl_X2_79 : Cond.methodLink RX2 79 yX0_has ∈ tG := tG_of (List.mem_of_getElem? (i := 329) (by decide +kernel)) (by decide +kernel)
theorem kl_X2_86 : Cond.methodLink RX2 86 yX0_slotOf ∈ tG := tG_of (List.mem_of_getElem? (i := 342) (by decide +kernel)) (by decide +kernel)
theorem kv_X0_isOnShelf : CalV yX0_isOnShelf cX0_isOnShelf 2 (some .boolean) RX0 1 := ⟨tG_of (List.mem_of_getElem? (i := 335) (by decide +kernel)) (by decide +kernel), tG_of (List.mem_of_getElem? (i := 336) (by decide +kernel)) (by decide +kernel), tG_of (List.mem_of_getElem? (i := 58) (by decide +kernel)) (by decide +kernel), tG_of (List.mem_of_getElem? (i := 337) (by decide +kernel)) (by decide +kernel), by decide +kernel⟩
theorem kl_X2_83 : Cond.methodLink RX2 83 yX0_isOnShelf ∈ tG := tG_of (List.mem_of_getElem? (i := 334) (by decide +kernel)) (by decide +kernel)
theorem kl_X2_89 : Cond.methodLink RX2 89 yX0_moveTo ∈ tG := tG_of (List.mem_of_getElem? (i := 343) (by decide +kernel)) (by decide +kernel)
theorem kv_X0_withNeighbors : CalV yX0_withNeighbors cX0_withNeighbors 3 (some .int) RX0 0 := ⟨tG_of (List.mem_of_getElem? (i := 345) (by decide +kernel)) (by decide +kernel), tG_of (List.mem_of_getElem? (i := 346) (by decide +kernel)) (by decide +kernel), tG_of (List.mem_of_getElem? (i := 58) (by decide +kernel)) (by decide +kernel), tG_of (List.mem_of_getElem? (i := 347) (by decide +kernel)) (by decide +kernel), by decide +kernel⟩
theorem kl_X2_93 : Cond.methodLink RX2 93 yX0_withNeighbors ∈ tG := tG_of (List.mem_of_getElem? (i := 344) (by decide +kernel)) (by decide +kernel)
theorem kv_X0_weightOf : CalV yX0_weightOf cX0_weightOf 2 (some .int) RX0 1 := ⟨tG_of (List.mem_of_getElem? (i := 362) (by decide +kernel)) (by decide +kernel), tG_of (List.mem_of_getElem? (i := 363) (by decide +kernel)) (by decide +kernel), tG_of (List.mem_of_getElem? (i := 58) (by decide +kernel)) (by decide +kernel), tG_of (List.mem_of_getElem? (i := 364) (by decide +kernel)) (by decide +kernel), by decide +kernel⟩
theorem kl_X2_211 : Cond.methodLink RX2 211 yX0_weightOf ∈ tG := tG_of (List.mem_of_getElem? (i := 361) (by decide +kernel)) (by decide +kernel)
theorem kc_X2_137 : Cond.constant RX2 137 (-1000003) ∈ tG := tG_of (List.mem_of_getElem? (i := 360) (by decide +kernel)) (by decide +kernel)
theorem kv_X2_ontoPile : CalV yX2_ontoPile cX2_ontoPile 3 (some .int) RX2 2 := ⟨tG_of (List.mem_of_getElem? (i := 358) (by decide +kernel)) (by decide +kernel), tG_of (List.mem_of_getElem? (i := 3) (by decide +kernel)) (by decide +kernel), tG_of (List.mem_of_getElem? (i := 57) (by decide +kernel)) (by decide +kernel), tG_of (List.mem_of_getElem? (i := 359) (by decide +kernel)) (by decide +kernel), by decide +kernel⟩
theorem kl_X2_97 : Cond.methodLink RX2 97 yX2_ontoPile ∈ tG := tG_of (List.mem_of_getElem? (i := 356) (by decide +kernel)) (by decide +kernel)
theorem kv_X2_topOfPile : CalV yX2_topOfPile cX2_topOfPile 1 (some .int) RX2 0 := ⟨tG_of (List.mem_of_getElem? (i := 375) (by decide +kernel)) (by decide +kernel), tG_of (List.mem_of_getElem? (i := 4) (by decide +kernel)) (by decide +kernel), tG_of (List.mem_of_getElem? (i := 57) (by decide +kernel)) (by decide +kernel), tG_of (List.mem_of_getElem? (i := 376) (by decide +kernel)) (by decide +kernel), by decide +kernel⟩
theorem kl_X2_100 : Cond.methodLink RX2 100 yX2_topOfPile ∈ tG := tG_of (List.mem_of_getElem? (i := 373) (by decide +kernel)) (by decide +kernel)
theorem kv_X2_offPile : CalV yX2_offPile cX2_offPile 4 none RX2 3 := ⟨tG_of (List.mem_of_getElem? (i := 379) (by decide +kernel)) (by decide +kernel), tG_of (List.mem_of_getElem? (i := 5) (by decide +kernel)) (by decide +kernel), tG_of (List.mem_of_getElem? (i := 57) (by decide +kernel)) (by decide +kernel), tG_of (List.mem_of_getElem? (i := 380) (by decide +kernel)) (by decide +kernel), by decide +kernel⟩
theorem kl_X2_103 : Cond.methodLink RX2 103 yX2_offPile ∈ tG := tG_of (List.mem_of_getElem? (i := 377) (by decide +kernel)) (by decide +kernel)
theorem kl_X2_107 : Cond.methodLink RX2 107 Lib.Math.abs.name ∈ tG := tG_of (List.mem_of_getElem? (i := 397) (by decide +kernel)) (by decide +kernel)
theorem ks_X6_mostWallsWith : CalS yX6_mostWallsWith cX6_mostWallsWith 1 (some .int) 1 := ⟨tG_of (List.mem_of_getElem? (i := 401) (by decide +kernel)) (by decide +kernel), tG_of (List.mem_of_getElem? (i := 56) (by decide +kernel)) (by decide +kernel), tG_of (List.mem_of_getElem? (i := 402) (by decide +kernel)) (by decide +kernel), by decide +kernel⟩
theorem kn_X2_112 : Cond.methodLinkNest RX2 112 yX6_mostWallsWith RX6 ∈ nestW := nest_of (List.mem_of_getElem? (i := 400) (by decide +kernel)) (by decide +kernel)
theorem ks_X6_wallOfDrive : CalS yX6_wallOfDrive cX6_wallOfDrive 1 (some .int) 1 := ⟨tG_of (List.mem_of_getElem? (i := 412) (by decide +kernel)) (by decide +kernel), tG_of (List.mem_of_getElem? (i := 56) (by decide +kernel)) (by decide +kernel), tG_of (List.mem_of_getElem? (i := 413) (by decide +kernel)) (by decide +kernel), by decide +kernel⟩
theorem kn_X2_115 : Cond.methodLinkNest RX2 115 yX6_wallOfDrive RX6 ∈ nestW := nest_of (List.mem_of_getElem? (i := 411) (by decide +kernel)) (by decide +kernel)
theorem kv_X2_inDrive : CalV yX2_inDrive cX2_inDrive 2 (some .int) RX2 1 := ⟨tG_of (List.mem_of_getElem? (i := 415) (by decide +kernel)) (by decide +kernel), tG_of (List.mem_of_getElem? (i := 416) (by decide +kernel)) (by decide +kernel), tG_of (List.mem_of_getElem? (i := 57) (by decide +kernel)) (by decide +kernel), tG_of (List.mem_of_getElem? (i := 417) (by decide +kernel)) (by decide +kernel), by decide +kernel⟩
theorem kl_X2_118 : Cond.methodLink RX2 118 yX2_inDrive ∈ tG := tG_of (List.mem_of_getElem? (i := 414) (by decide +kernel)) (by decide +kernel)
theorem kl_X2_121 : Cond.methodLink RX2 121 yX0_isWorn ∈ tG := tG_of (List.mem_of_getElem? (i := 418) (by decide +kernel)) (by decide +kernel)
theorem kv_X4_removeHeldBy : CalV yX4_removeHeldBy cX4_removeHeldBy 5 (some .int) RX4 2 := ⟨tG_of (List.mem_of_getElem? (i := 427) (by decide +kernel)) (by decide +kernel), tG_of (List.mem_of_getElem? (i := 428) (by decide +kernel)) (by decide +kernel), tG_of (List.mem_of_getElem? (i := 60) (by decide +kernel)) (by decide +kernel), tG_of (List.mem_of_getElem? (i := 429) (by decide +kernel)) (by decide +kernel), by decide +kernel⟩
theorem kl_X2_124 : Cond.methodLink RX2 124 yX4_removeHeldBy ∈ tG := tG_of (List.mem_of_getElem? (i := 426) (by decide +kernel)) (by decide +kernel)
theorem kv_X0_countMounting : CalV yX0_countMounting cX0_countMounting 3 none RX0 2 := ⟨tG_of (List.mem_of_getElem? (i := 452) (by decide +kernel)) (by decide +kernel), tG_of (List.mem_of_getElem? (i := 453) (by decide +kernel)) (by decide +kernel), tG_of (List.mem_of_getElem? (i := 58) (by decide +kernel)) (by decide +kernel), tG_of (List.mem_of_getElem? (i := 454) (by decide +kernel)) (by decide +kernel), by decide +kernel⟩
theorem kl_X2_128 : Cond.methodLink RX2 128 yX0_countMounting ∈ tG := tG_of (List.mem_of_getElem? (i := 451) (by decide +kernel)) (by decide +kernel)
theorem kl_X2_131 : Cond.methodLink RX2 131 yX0_holderOf ∈ tG := tG_of (List.mem_of_getElem? (i := 471) (by decide +kernel)) (by decide +kernel)
theorem kv_X0_filesHeldBy : CalV yX0_filesHeldBy cX0_filesHeldBy 2 (some .int) RX0 1 := ⟨tG_of (List.mem_of_getElem? (i := 473) (by decide +kernel)) (by decide +kernel), tG_of (List.mem_of_getElem? (i := 474) (by decide +kernel)) (by decide +kernel), tG_of (List.mem_of_getElem? (i := 58) (by decide +kernel)) (by decide +kernel), tG_of (List.mem_of_getElem? (i := 475) (by decide +kernel)) (by decide +kernel), by decide +kernel⟩
theorem kl_X2_134 : Cond.methodLink RX2 134 yX0_filesHeldBy ∈ tG := tG_of (List.mem_of_getElem? (i := 472) (by decide +kernel)) (by decide +kernel)
theorem kv_X0_putFile : CalV yX0_putFile cX0_putFile 3 none RX0 2 := ⟨tG_of (List.mem_of_getElem? (i := 480) (by decide +kernel)) (by decide +kernel), tG_of (List.mem_of_getElem? (i := 481) (by decide +kernel)) (by decide +kernel), tG_of (List.mem_of_getElem? (i := 58) (by decide +kernel)) (by decide +kernel), tG_of (List.mem_of_getElem? (i := 482) (by decide +kernel)) (by decide +kernel), by decide +kernel⟩
theorem kl_X2_138 : Cond.methodLink RX2 138 yX0_putFile ∈ tG := tG_of (List.mem_of_getElem? (i := 479) (by decide +kernel)) (by decide +kernel)
theorem kl_X2_141 : Cond.methodLink RX2 141 yX4_add ∈ tG := tG_of (List.mem_of_getElem? (i := 491) (by decide +kernel)) (by decide +kernel)
theorem kl_X2_196 : Cond.methodLink RX2 196 yX4_fileOf ∈ tG := tG_of (List.mem_of_getElem? (i := 511) (by decide +kernel)) (by decide +kernel)
theorem kf_X2_184 : Cond.fieldLink RX2 184 (TX4 3).1 (TX4 3).2.1 (TX4 3).2.2.1 ∈ tG := tG_of (List.mem_of_getElem? (i := 128) (by decide +kernel)) (by decide +kernel)
theorem kv_X2_holderFor : CalV yX2_holderFor cX2_holderFor 2 (some .int) RX2 1 := ⟨tG_of (List.mem_of_getElem? (i := 508) (by decide +kernel)) (by decide +kernel), tG_of (List.mem_of_getElem? (i := 509) (by decide +kernel)) (by decide +kernel), tG_of (List.mem_of_getElem? (i := 57) (by decide +kernel)) (by decide +kernel), tG_of (List.mem_of_getElem? (i := 510) (by decide +kernel)) (by decide +kernel), by decide +kernel⟩
theorem kl_X2_150 : Cond.methodLink RX2 150 yX2_holderFor ∈ tG := tG_of (List.mem_of_getElem? (i := 507) (by decide +kernel)) (by decide +kernel)
theorem kv_X2_waitingFor : CalV yX2_waitingFor cX2_waitingFor 4 (some .int) RX2 1 := ⟨tG_of (List.mem_of_getElem? (i := 524) (by decide +kernel)) (by decide +kernel), tG_of (List.mem_of_getElem? (i := 525) (by decide +kernel)) (by decide +kernel), tG_of (List.mem_of_getElem? (i := 57) (by decide +kernel)) (by decide +kernel), tG_of (List.mem_of_getElem? (i := 526) (by decide +kernel)) (by decide +kernel), by decide +kernel⟩
theorem kl_X2_193 : Cond.methodLink RX2 193 yX2_waitingFor ∈ tG := tG_of (List.mem_of_getElem? (i := 523) (by decide +kernel)) (by decide +kernel)
theorem kl_X2_169 : Cond.methodLink RX2 169 yX0_wallOf ∈ tG := tG_of (List.mem_of_getElem? (i := 513) (by decide +kernel)) (by decide +kernel)
theorem ks_X6_distance : CalS yX6_distance cX6_distance 3 (some .int) 2 := ⟨tG_of (List.mem_of_getElem? (i := 518) (by decide +kernel)) (by decide +kernel), tG_of (List.mem_of_getElem? (i := 56) (by decide +kernel)) (by decide +kernel), tG_of (List.mem_of_getElem? (i := 519) (by decide +kernel)) (by decide +kernel), by decide +kernel⟩
theorem kn_X2_190 : Cond.methodLinkNest RX2 190 yX6_distance RX6 ∈ nestW := nest_of (List.mem_of_getElem? (i := 517) (by decide +kernel)) (by decide +kernel)
theorem kl_X2_187 : Cond.methodLink RX2 187 yX4_rankOf ∈ tG := tG_of (List.mem_of_getElem? (i := 512) (by decide +kernel)) (by decide +kernel)
theorem kv_X2_weighPallet : CalV yX2_weighPallet cX2_weighPallet 1 (some .int) RX2 0 := ⟨tG_of (List.mem_of_getElem? (i := 386) (by decide +kernel)) (by decide +kernel), tG_of (List.mem_of_getElem? (i := 387) (by decide +kernel)) (by decide +kernel), tG_of (List.mem_of_getElem? (i := 57) (by decide +kernel)) (by decide +kernel), tG_of (List.mem_of_getElem? (i := 388) (by decide +kernel)) (by decide +kernel), by decide +kernel⟩
theorem kl_X2_199 : Cond.methodLink RX2 199 yX2_weighPallet ∈ tG := tG_of (List.mem_of_getElem? (i := 541) (by decide +kernel)) (by decide +kernel)
theorem kn_X2_202 : Cond.methodLinkNest RX2 202 yX6_wallsToTheRight RX6 ∈ nestW := nest_of (List.mem_of_getElem? (i := 542) (by decide +kernel)) (by decide +kernel)
theorem kl_X2_205 : Cond.methodLink RX2 205 Lib.Math.min.name ∈ tG := tG_of (List.mem_of_getElem? (i := 543) (by decide +kernel)) (by decide +kernel)
theorem kv_X2_turnBy : CalV yX2_turnBy cX2_turnBy 3 (some .int) RX2 1 := ⟨tG_of (List.mem_of_getElem? (i := 394) (by decide +kernel)) (by decide +kernel), tG_of (List.mem_of_getElem? (i := 395) (by decide +kernel)) (by decide +kernel), tG_of (List.mem_of_getElem? (i := 57) (by decide +kernel)) (by decide +kernel), tG_of (List.mem_of_getElem? (i := 396) (by decide +kernel)) (by decide +kernel), by decide +kernel⟩
theorem kl_X2_208 : Cond.methodLink RX2 208 yX2_turnBy ∈ tG := tG_of (List.mem_of_getElem? (i := 544) (by decide +kernel)) (by decide +kernel)
theorem ks_X6_isRule : CalS yX6_isRule cX6_isRule 1 (some .boolean) 1 := ⟨tG_of (List.mem_of_getElem? (i := 501) (by decide +kernel)) (by decide +kernel), tG_of (List.mem_of_getElem? (i := 56) (by decide +kernel)) (by decide +kernel), tG_of (List.mem_of_getElem? (i := 502) (by decide +kernel)) (by decide +kernel), by decide +kernel⟩
theorem kn_X2_144 : Cond.methodLinkNest RX2 144 yX6_isRule RX6 ∈ nestW := nest_of (List.mem_of_getElem? (i := 500) (by decide +kernel)) (by decide +kernel)
theorem kv_X2_nextRequest : CalV yX2_nextRequest cX2_nextRequest 7 (some .int) RX2 1 := ⟨tG_of (List.mem_of_getElem? (i := 504) (by decide +kernel)) (by decide +kernel), tG_of (List.mem_of_getElem? (i := 505) (by decide +kernel)) (by decide +kernel), tG_of (List.mem_of_getElem? (i := 57) (by decide +kernel)) (by decide +kernel), tG_of (List.mem_of_getElem? (i := 506) (by decide +kernel)) (by decide +kernel), by decide +kernel⟩
theorem kl_X2_147 : Cond.methodLink RX2 147 yX2_nextRequest ∈ tG := tG_of (List.mem_of_getElem? (i := 503) (by decide +kernel)) (by decide +kernel)
theorem kv_X2_driveFor : CalV yX2_driveFor cX2_driveFor 5 (some .int) RX2 1 := ⟨tG_of (List.mem_of_getElem? (i := 528) (by decide +kernel)) (by decide +kernel), tG_of (List.mem_of_getElem? (i := 529) (by decide +kernel)) (by decide +kernel), tG_of (List.mem_of_getElem? (i := 57) (by decide +kernel)) (by decide +kernel), tG_of (List.mem_of_getElem? (i := 530) (by decide +kernel)) (by decide +kernel), by decide +kernel⟩
theorem kl_X2_153 : Cond.methodLink RX2 153 yX2_driveFor ∈ tG := tG_of (List.mem_of_getElem? (i := 527) (by decide +kernel)) (by decide +kernel)
theorem kv_X0_emptyShelfNear : CalV yX0_emptyShelfNear cX0_emptyShelfNear 6 (some .int) RX0 1 := ⟨tG_of (List.mem_of_getElem? (i := 532) (by decide +kernel)) (by decide +kernel), tG_of (List.mem_of_getElem? (i := 533) (by decide +kernel)) (by decide +kernel), tG_of (List.mem_of_getElem? (i := 58) (by decide +kernel)) (by decide +kernel), tG_of (List.mem_of_getElem? (i := 534) (by decide +kernel)) (by decide +kernel), by decide +kernel⟩
theorem kl_X2_156 : Cond.methodLink RX2 156 yX0_emptyShelfNear ∈ tG := tG_of (List.mem_of_getElem? (i := 531) (by decide +kernel)) (by decide +kernel)
theorem kv_X2_goTo : CalV yX2_goTo cX2_goTo 6 none RX2 1 := ⟨tG_of (List.mem_of_getElem? (i := 538) (by decide +kernel)) (by decide +kernel), tG_of (List.mem_of_getElem? (i := 539) (by decide +kernel)) (by decide +kernel), tG_of (List.mem_of_getElem? (i := 57) (by decide +kernel)) (by decide +kernel), tG_of (List.mem_of_getElem? (i := 540) (by decide +kernel)) (by decide +kernel), by decide +kernel⟩
theorem kl_X2_159 : Cond.methodLink RX2 159 yX2_goTo ∈ tG := tG_of (List.mem_of_getElem? (i := 537) (by decide +kernel)) (by decide +kernel)
theorem kv_X2_takeFrom : CalV yX2_takeFrom cX2_takeFrom 2 (some .int) RX2 1 := ⟨tG_of (List.mem_of_getElem? (i := 460) (by decide +kernel)) (by decide +kernel), tG_of (List.mem_of_getElem? (i := 461) (by decide +kernel)) (by decide +kernel), tG_of (List.mem_of_getElem? (i := 57) (by decide +kernel)) (by decide +kernel), tG_of (List.mem_of_getElem? (i := 462) (by decide +kernel)) (by decide +kernel), by decide +kernel⟩
theorem kl_X2_163 : Cond.methodLink RX2 163 yX2_takeFrom ∈ tG := tG_of (List.mem_of_getElem? (i := 545) (by decide +kernel)) (by decide +kernel)
theorem kv_X2_layOn : CalV yX2_layOn cX2_layOn 4 (some .int) RX2 1 := ⟨tG_of (List.mem_of_getElem? (i := 370) (by decide +kernel)) (by decide +kernel), tG_of (List.mem_of_getElem? (i := 371) (by decide +kernel)) (by decide +kernel), tG_of (List.mem_of_getElem? (i := 57) (by decide +kernel)) (by decide +kernel), tG_of (List.mem_of_getElem? (i := 372) (by decide +kernel)) (by decide +kernel), by decide +kernel⟩
theorem kl_X2_166 : Cond.methodLink RX2 166 yX2_layOn ∈ tG := tG_of (List.mem_of_getElem? (i := 546) (by decide +kernel)) (by decide +kernel)
theorem kl_X2_172 : Cond.methodLink RX2 172 yX0_shelfOfWall ∈ tG := tG_of (List.mem_of_getElem? (i := 547) (by decide +kernel)) (by decide +kernel)
theorem kv_X2_liftFrom : CalV yX2_liftFrom cX2_liftFrom 2 (some .int) RX2 1 := ⟨tG_of (List.mem_of_getElem? (i := 353) (by decide +kernel)) (by decide +kernel), tG_of (List.mem_of_getElem? (i := 354) (by decide +kernel)) (by decide +kernel), tG_of (List.mem_of_getElem? (i := 57) (by decide +kernel)) (by decide +kernel), tG_of (List.mem_of_getElem? (i := 355) (by decide +kernel)) (by decide +kernel), by decide +kernel⟩
theorem kl_X2_175 : Cond.methodLink RX2 175 yX2_liftFrom ∈ tG := tG_of (List.mem_of_getElem? (i := 551) (by decide +kernel)) (by decide +kernel)
theorem kv_X2_mountIn : CalV yX2_mountIn cX2_mountIn 4 (some .int) RX2 1 := ⟨tG_of (List.mem_of_getElem? (i := 408) (by decide +kernel)) (by decide +kernel), tG_of (List.mem_of_getElem? (i := 409) (by decide +kernel)) (by decide +kernel), tG_of (List.mem_of_getElem? (i := 57) (by decide +kernel)) (by decide +kernel), tG_of (List.mem_of_getElem? (i := 410) (by decide +kernel)) (by decide +kernel), by decide +kernel⟩
theorem kl_X2_178 : Cond.methodLink RX2 178 yX2_mountIn ∈ tG := tG_of (List.mem_of_getElem? (i := 552) (by decide +kernel)) (by decide +kernel)
theorem kv_X2_serveBy : CalV yX2_serveBy cX2_serveBy 6 (some .int) RX2 1 := ⟨tG_of (List.mem_of_getElem? (i := 497) (by decide +kernel)) (by decide +kernel), tG_of (List.mem_of_getElem? (i := 498) (by decide +kernel)) (by decide +kernel), tG_of (List.mem_of_getElem? (i := 57) (by decide +kernel)) (by decide +kernel), tG_of (List.mem_of_getElem? (i := 499) (by decide +kernel)) (by decide +kernel), by decide +kernel⟩
theorem kl_X2_181 : Cond.methodLink RX2 181 yX2_serveBy ∈ tG := tG_of (List.mem_of_getElem? (i := 628) (by decide +kernel)) (by decide +kernel)
theorem kn_X3_15 : Cond.methodLinkNest RX3 15 yX6_isIn RX6 ∈ nestW := nest_of (List.mem_of_getElem? (i := 661) (by decide +kernel)) (by decide +kernel)
theorem kf_X3_20 : Cond.fieldLink RX3 20 (TX3 1).1 (TX3 1).2.1 (TX3 1).2.2.1 ∈ tG := tG_of (List.mem_of_getElem? (i := 206) (by decide +kernel)) (by decide +kernel)
theorem kc_X3_24 : Cond.constant RX3 24 (-1000003) ∈ tG := tG_of (List.mem_of_getElem? (i := 663) (by decide +kernel)) (by decide +kernel)
theorem kf_X3_9 : Cond.fieldLink RX3 9 (TX3 0).1 (TX3 0).2.1 (TX3 0).2.2.1 ∈ tG := tG_of (List.mem_of_getElem? (i := 205) (by decide +kernel)) (by decide +kernel)
theorem kc_X3_19 : Cond.constant RX3 19 (-1000001) ∈ tG := tG_of (List.mem_of_getElem? (i := 662) (by decide +kernel)) (by decide +kernel)
theorem kv_X3_signAt : CalV yX3_signAt cX3_signAt 2 (some .int) RX3 1 := ⟨tG_of (List.mem_of_getElem? (i := 690) (by decide +kernel)) (by decide +kernel), tG_of (List.mem_of_getElem? (i := 8) (by decide +kernel)) (by decide +kernel), tG_of (List.mem_of_getElem? (i := 62) (by decide +kernel)) (by decide +kernel), tG_of (List.mem_of_getElem? (i := 691) (by decide +kernel)) (by decide +kernel), by decide +kernel⟩
theorem kl_X3_105 : Cond.methodLink RX3 105 yX3_signAt ∈ tG := tG_of (List.mem_of_getElem? (i := 688) (by decide +kernel)) (by decide +kernel)
theorem kf_X3_50 : Cond.fieldLink RX3 50 (TX3 4).1 (TX3 4).2.1 (TX3 4).2.2.1 ∈ tG := tG_of (List.mem_of_getElem? (i := 210) (by decide +kernel)) (by decide +kernel)
theorem kf_X3_54 : Cond.fieldLink RX3 54 (TX3 3).1 (TX3 3).2.1 (TX3 3).2.2.1 ∈ tG := tG_of (List.mem_of_getElem? (i := 209) (by decide +kernel)) (by decide +kernel)
theorem kf_X3_63 : Cond.fieldLink RX3 63 (TX3 2).1 (TX3 2).2.1 (TX3 2).2.2.1 ∈ tG := tG_of (List.mem_of_getElem? (i := 208) (by decide +kernel)) (by decide +kernel)
theorem kf_X3_43 : Cond.fieldLink RX3 43 (TX3 5).1 (TX3 5).2.1 (TX3 5).2.2.1 ∈ tG := tG_of (List.mem_of_getElem? (i := 211) (by decide +kernel)) (by decide +kernel)
theorem kv_X3_lowestNumber : CalV yX3_lowestNumber cX3_lowestNumber 1 (some .int) RX3 0 := ⟨tG_of (List.mem_of_getElem? (i := 773) (by decide +kernel)) (by decide +kernel), tG_of (List.mem_of_getElem? (i := 14) (by decide +kernel)) (by decide +kernel), tG_of (List.mem_of_getElem? (i := 62) (by decide +kernel)) (by decide +kernel), tG_of (List.mem_of_getElem? (i := 774) (by decide +kernel)) (by decide +kernel), by decide +kernel⟩
theorem kl_X3_57 : Cond.methodLink RX3 57 yX3_lowestNumber ∈ tG := tG_of (List.mem_of_getElem? (i := 771) (by decide +kernel)) (by decide +kernel)
theorem kv_X3_greatestNumber : CalV yX3_greatestNumber cX3_greatestNumber 1 (some .int) RX3 0 := ⟨tG_of (List.mem_of_getElem? (i := 777) (by decide +kernel)) (by decide +kernel), tG_of (List.mem_of_getElem? (i := 15) (by decide +kernel)) (by decide +kernel), tG_of (List.mem_of_getElem? (i := 62) (by decide +kernel)) (by decide +kernel), tG_of (List.mem_of_getElem? (i := 778) (by decide +kernel)) (by decide +kernel), by decide +kernel⟩
theorem kl_X3_60 : Cond.methodLink RX3 60 yX3_greatestNumber ∈ tG := tG_of (List.mem_of_getElem? (i := 775) (by decide +kernel)) (by decide +kernel)
theorem kl_X3_66 : Cond.methodLink RX3 66 yX2_liftFrom ∈ tG := tG_of (List.mem_of_getElem? (i := 783) (by decide +kernel)) (by decide +kernel)
theorem kl_X3_72 : Cond.methodLink RX3 72 yX2_layOn ∈ tG := tG_of (List.mem_of_getElem? (i := 784) (by decide +kernel)) (by decide +kernel)
theorem kl_X3_75 : Cond.methodLink RX3 75 yX2_weighPallet ∈ tG := tG_of (List.mem_of_getElem? (i := 785) (by decide +kernel)) (by decide +kernel)
theorem kl_X3_78 : Cond.methodLink RX3 78 yX2_turnBy ∈ tG := tG_of (List.mem_of_getElem? (i := 786) (by decide +kernel)) (by decide +kernel)
theorem kl_X3_81 : Cond.methodLink RX3 81 yX2_mountIn ∈ tG := tG_of (List.mem_of_getElem? (i := 787) (by decide +kernel)) (by decide +kernel)
theorem kl_X3_84 : Cond.methodLink RX3 84 yX2_takeFrom ∈ tG := tG_of (List.mem_of_getElem? (i := 788) (by decide +kernel)) (by decide +kernel)
theorem kl_X3_87 : Cond.methodLink RX3 87 yX2_serveBy ∈ tG := tG_of (List.mem_of_getElem? (i := 789) (by decide +kernel)) (by decide +kernel)
theorem kf_X3_25 : Cond.fieldLink RX3 25 (TX3 7).1 (TX3 7).2.1 (TX3 7).2.2.1 ∈ tG := tG_of (List.mem_of_getElem? (i := 213) (by decide +kernel)) (by decide +kernel)
theorem kf_X3_40 : Cond.fieldLink RX3 40 (TX3 6).1 (TX3 6).2.1 (TX3 6).2.2.1 ∈ tG := tG_of (List.mem_of_getElem? (i := 212) (by decide +kernel)) (by decide +kernel)
theorem kc_X3_53 : Cond.constant RX3 53 (-1000004) ∈ tG := tG_of (List.mem_of_getElem? (i := 795) (by decide +kernel)) (by decide +kernel)
theorem kf_X3_46 : Cond.fieldLink RX3 46 (TX3 8).1 (TX3 8).2.1 (TX3 8).2.2.1 ∈ tG := tG_of (List.mem_of_getElem? (i := 214) (by decide +kernel)) (by decide +kernel)
theorem kf_X6_16 : Cond.fieldLink RX6 16 (TX6 1).1 (TX6 1).2.1 (TX6 1).2.2.1 ∈ tG := tG_of (List.mem_of_getElem? (i := 236) (by decide +kernel)) (by decide +kernel)
theorem kf_X6_12 : Cond.fieldLink RX6 12 (TX6 0).1 (TX6 0).2.1 (TX6 0).2.2.1 ∈ tG := tG_of (List.mem_of_getElem? (i := 235) (by decide +kernel)) (by decide +kernel)
theorem kv_X2_copyFrom : CalV yX2_copyFrom cX2_copyFrom 2 none RX2 1 := ⟨tG_of (List.mem_of_getElem? (i := 257) (by decide +kernel)) (by decide +kernel), tG_of (List.mem_of_getElem? (i := 258) (by decide +kernel)) (by decide +kernel), tG_of (List.mem_of_getElem? (i := 57) (by decide +kernel)) (by decide +kernel), tG_of (List.mem_of_getElem? (i := 259) (by decide +kernel)) (by decide +kernel), by decide +kernel⟩
theorem kl_X6_224 : Cond.methodLink RX6 224 yX2_copyFrom ∈ tG := tG_of (List.mem_of_getElem? (i := 256) (by decide +kernel)) (by decide +kernel)
theorem kf_X6_22 : Cond.fieldLink RX6 22 (TX6 2).1 (TX6 2).2.1 (TX6 2).2.2.1 ∈ tG := tG_of (List.mem_of_getElem? (i := 237) (by decide +kernel)) (by decide +kernel)
theorem kv_X1_record : CalV yX1_record cX1_record 3 none RX1 1 := ⟨tG_of (List.mem_of_getElem? (i := 312) (by decide +kernel)) (by decide +kernel), tG_of (List.mem_of_getElem? (i := 313) (by decide +kernel)) (by decide +kernel), tG_of (List.mem_of_getElem? (i := 61) (by decide +kernel)) (by decide +kernel), tG_of (List.mem_of_getElem? (i := 314) (by decide +kernel)) (by decide +kernel), by decide +kernel⟩
theorem kl_X6_228 : Cond.methodLink RX6 228 yX1_record ∈ tG := tG_of (List.mem_of_getElem? (i := 311) (by decide +kernel)) (by decide +kernel)
theorem kv_X6_freshTrial : CalV yX6_freshTrial cX6_freshTrial 1 (some (.object "MastRobots$Library")) RX6 0 := ⟨tG_of (List.mem_of_getElem? (i := 254) (by decide +kernel)) (by decide +kernel), tG_of (List.mem_of_getElem? (i := 0) (by decide +kernel)) (by decide +kernel), tG_of (List.mem_of_getElem? (i := 56) (by decide +kernel)) (by decide +kernel), tG_of (List.mem_of_getElem? (i := 255) (by decide +kernel)) (by decide +kernel), by decide +kernel⟩
theorem kl_X6_33 : Cond.methodLink RX6 33 yX6_freshTrial ∈ tG := tG_of (List.mem_of_getElem? (i := 252) (by decide +kernel)) (by decide +kernel)
theorem kv_X2_addCartridge : CalV yX2_addCartridge cX2_addCartridge 5 (some .int) RX2 3 := ⟨tG_of (List.mem_of_getElem? (i := 279) (by decide +kernel)) (by decide +kernel), tG_of (List.mem_of_getElem? (i := 280) (by decide +kernel)) (by decide +kernel), tG_of (List.mem_of_getElem? (i := 57) (by decide +kernel)) (by decide +kernel), tG_of (List.mem_of_getElem? (i := 281) (by decide +kernel)) (by decide +kernel), by decide +kernel⟩
theorem kl_X6_37 : Cond.methodLink RX6 37 yX2_addCartridge ∈ tG := tG_of (List.mem_of_getElem? (i := 278) (by decide +kernel)) (by decide +kernel)
theorem kv_X6_keep : CalV yX6_keep cX6_keep 2 (some .int) RX6 1 := ⟨tG_of (List.mem_of_getElem? (i := 309) (by decide +kernel)) (by decide +kernel), tG_of (List.mem_of_getElem? (i := 1) (by decide +kernel)) (by decide +kernel), tG_of (List.mem_of_getElem? (i := 56) (by decide +kernel)) (by decide +kernel), tG_of (List.mem_of_getElem? (i := 310) (by decide +kernel)) (by decide +kernel), by decide +kernel⟩
theorem kl_X6_41 : Cond.methodLink RX6 41 yX6_keep ∈ tG := tG_of (List.mem_of_getElem? (i := 307) (by decide +kernel)) (by decide +kernel)
theorem kv_X2_exchange : CalV yX2_exchange cX2_exchange 7 (some .int) RX2 3 := ⟨tG_of (List.mem_of_getElem? (i := 326) (by decide +kernel)) (by decide +kernel), tG_of (List.mem_of_getElem? (i := 327) (by decide +kernel)) (by decide +kernel), tG_of (List.mem_of_getElem? (i := 57) (by decide +kernel)) (by decide +kernel), tG_of (List.mem_of_getElem? (i := 328) (by decide +kernel)) (by decide +kernel), by decide +kernel⟩
theorem kl_X6_45 : Cond.methodLink RX6 45 yX2_exchange ∈ tG := tG_of (List.mem_of_getElem? (i := 325) (by decide +kernel)) (by decide +kernel)
theorem kl_X6_48 : Cond.methodLink RX6 48 yX2_liftFrom ∈ tG := tG_of (List.mem_of_getElem? (i := 352) (by decide +kernel)) (by decide +kernel)
theorem kl_X6_51 : Cond.methodLink RX6 51 yX2_layOn ∈ tG := tG_of (List.mem_of_getElem? (i := 369) (by decide +kernel)) (by decide +kernel)
theorem kl_X6_54 : Cond.methodLink RX6 54 yX2_weighPallet ∈ tG := tG_of (List.mem_of_getElem? (i := 385) (by decide +kernel)) (by decide +kernel)
theorem kl_X6_58 : Cond.methodLink RX6 58 yX2_turnBy ∈ tG := tG_of (List.mem_of_getElem? (i := 393) (by decide +kernel)) (by decide +kernel)
theorem kl_X6_61 : Cond.methodLink RX6 61 yX2_mountIn ∈ tG := tG_of (List.mem_of_getElem? (i := 407) (by decide +kernel)) (by decide +kernel)
theorem kl_X6_64 : Cond.methodLink RX6 64 yX2_takeFrom ∈ tG := tG_of (List.mem_of_getElem? (i := 459) (by decide +kernel)) (by decide +kernel)
theorem kv_X2_holdFile : CalV yX2_holdFile cX2_holdFile 4 (some .int) RX2 2 := ⟨tG_of (List.mem_of_getElem? (i := 468) (by decide +kernel)) (by decide +kernel), tG_of (List.mem_of_getElem? (i := 469) (by decide +kernel)) (by decide +kernel), tG_of (List.mem_of_getElem? (i := 57) (by decide +kernel)) (by decide +kernel), tG_of (List.mem_of_getElem? (i := 470) (by decide +kernel)) (by decide +kernel), by decide +kernel⟩
theorem kl_X6_67 : Cond.methodLink RX6 67 yX2_holdFile ∈ tG := tG_of (List.mem_of_getElem? (i := 467) (by decide +kernel)) (by decide +kernel)
theorem kv_X2_addRequest : CalV yX2_addRequest cX2_addRequest 3 (some .int) RX2 2 := ⟨tG_of (List.mem_of_getElem? (i := 488) (by decide +kernel)) (by decide +kernel), tG_of (List.mem_of_getElem? (i := 489) (by decide +kernel)) (by decide +kernel), tG_of (List.mem_of_getElem? (i := 57) (by decide +kernel)) (by decide +kernel), tG_of (List.mem_of_getElem? (i := 490) (by decide +kernel)) (by decide +kernel), by decide +kernel⟩
theorem kl_X6_71 : Cond.methodLink RX6 71 yX2_addRequest ∈ tG := tG_of (List.mem_of_getElem? (i := 487) (by decide +kernel)) (by decide +kernel)
theorem kl_X6_74 : Cond.methodLink RX6 74 yX2_serveBy ∈ tG := tG_of (List.mem_of_getElem? (i := 496) (by decide +kernel)) (by decide +kernel)
theorem kf_X6_77 : Cond.fieldLink RX6 77 (TX2 0).1 (TX2 0).2.1 (TX2 0).2.2.1 ∈ tG := tG_of (List.mem_of_getElem? (i := 140) (by decide +kernel)) (by decide +kernel)
theorem kl_X6_81 : Cond.methodLink RX6 81 yX0_has ∈ tG := tG_of (List.mem_of_getElem? (i := 557) (by decide +kernel)) (by decide +kernel)
theorem kl_X6_88 : Cond.methodLink RX6 88 yX0_weightOf ∈ tG := tG_of (List.mem_of_getElem? (i := 559) (by decide +kernel)) (by decide +kernel)
theorem kl_X6_91 : Cond.methodLink RX6 91 yX0_wearOf ∈ tG := tG_of (List.mem_of_getElem? (i := 560) (by decide +kernel)) (by decide +kernel)
theorem kl_X6_94 : Cond.methodLink RX6 94 yX0_kindOfPlaceOf ∈ tG := tG_of (List.mem_of_getElem? (i := 561) (by decide +kernel)) (by decide +kernel)
theorem kv_X0_placeOf : CalV yX0_placeOf cX0_placeOf 2 (some .int) RX0 1 := ⟨tG_of (List.mem_of_getElem? (i := 566) (by decide +kernel)) (by decide +kernel), tG_of (List.mem_of_getElem? (i := 567) (by decide +kernel)) (by decide +kernel), tG_of (List.mem_of_getElem? (i := 58) (by decide +kernel)) (by decide +kernel), tG_of (List.mem_of_getElem? (i := 568) (by decide +kernel)) (by decide +kernel), by decide +kernel⟩
theorem kl_X6_97 : Cond.methodLink RX6 97 yX0_placeOf ∈ tG := tG_of (List.mem_of_getElem? (i := 565) (by decide +kernel)) (by decide +kernel)
theorem kl_X6_100 : Cond.methodLink RX6 100 yX0_filesHeldBy ∈ tG := tG_of (List.mem_of_getElem? (i := 573) (by decide +kernel)) (by decide +kernel)
theorem kl_X6_103 : Cond.methodLink RX6 103 yX2_waitingFor ∈ tG := tG_of (List.mem_of_getElem? (i := 574) (by decide +kernel)) (by decide +kernel)
theorem kv_X0_servedBy : CalV yX0_servedBy cX0_servedBy 2 (some .int) RX0 1 := ⟨tG_of (List.mem_of_getElem? (i := 576) (by decide +kernel)) (by decide +kernel), tG_of (List.mem_of_getElem? (i := 577) (by decide +kernel)) (by decide +kernel), tG_of (List.mem_of_getElem? (i := 58) (by decide +kernel)) (by decide +kernel), tG_of (List.mem_of_getElem? (i := 578) (by decide +kernel)) (by decide +kernel), by decide +kernel⟩
theorem kl_X6_106 : Cond.methodLink RX6 106 yX0_servedBy ∈ tG := tG_of (List.mem_of_getElem? (i := 575) (by decide +kernel)) (by decide +kernel)
theorem kc_X6_87 : Cond.constant RX6 87 (-1000001) ∈ tG := tG_of (List.mem_of_getElem? (i := 558) (by decide +kernel)) (by decide +kernel)
theorem kl_X6_109 : Cond.methodLink RX6 109 yX6_isShelf ∈ tG := tG_of (List.mem_of_getElem? (i := 583) (by decide +kernel)) (by decide +kernel)
theorem kl_X6_113 : Cond.methodLink RX6 113 yX6_shelfSlot ∈ tG := tG_of (List.mem_of_getElem? (i := 584) (by decide +kernel)) (by decide +kernel)
theorem kl_X6_116 : Cond.methodLink RX6 116 yX0_inSlot ∈ tG := tG_of (List.mem_of_getElem? (i := 585) (by decide +kernel)) (by decide +kernel)
theorem ks_X6_found : CalS yX6_found cX6_found 1 (some .int) 1 := ⟨tG_of (List.mem_of_getElem? (i := 587) (by decide +kernel)) (by decide +kernel), tG_of (List.mem_of_getElem? (i := 56) (by decide +kernel)) (by decide +kernel), tG_of (List.mem_of_getElem? (i := 588) (by decide +kernel)) (by decide +kernel), by decide +kernel⟩
theorem kl_X6_119 : Cond.methodLink RX6 119 yX6_found ∈ tG := tG_of (List.mem_of_getElem? (i := 586) (by decide +kernel)) (by decide +kernel)
theorem kl_X6_126 : Cond.methodLink RX6 126 yX0_holderOf ∈ tG := tG_of (List.mem_of_getElem? (i := 594) (by decide +kernel)) (by decide +kernel)
theorem kf_X6_129 : Cond.fieldLink RX6 129 (TX2 1).1 (TX2 1).2.1 (TX2 1).2.2.1 ∈ tG := tG_of (List.mem_of_getElem? (i := 142) (by decide +kernel)) (by decide +kernel)
theorem kf_X6_133 : Cond.fieldLink RX6 133 (TX4 3).1 (TX4 3).2.1 (TX4 3).2.2.1 ∈ tG := tG_of (List.mem_of_getElem? (i := 129) (by decide +kernel)) (by decide +kernel)
theorem kl_X6_140 : Cond.methodLink RX6 140 yX4_fileOf ∈ tG := tG_of (List.mem_of_getElem? (i := 599) (by decide +kernel)) (by decide +kernel)
theorem kl_X6_143 : Cond.methodLink RX6 143 yX4_rankOf ∈ tG := tG_of (List.mem_of_getElem? (i := 600) (by decide +kernel)) (by decide +kernel)
theorem kl_X6_146 : Cond.methodLink RX6 146 yX4_tickOf ∈ tG := tG_of (List.mem_of_getElem? (i := 601) (by decide +kernel)) (by decide +kernel)
theorem kl_X6_149 : Cond.methodLink RX6 149 yX6_isRule ∈ tG := tG_of (List.mem_of_getElem? (i := 606) (by decide +kernel)) (by decide +kernel)
theorem kl_X6_152 : Cond.methodLink RX6 152 yX2_nextRequest ∈ tG := tG_of (List.mem_of_getElem? (i := 607) (by decide +kernel)) (by decide +kernel)
theorem kl_X6_156 : Cond.methodLink RX6 156 yX2_holderFor ∈ tG := tG_of (List.mem_of_getElem? (i := 613) (by decide +kernel)) (by decide +kernel)
theorem kf_X6_159 : Cond.fieldLink RX6 159 (TX2 7).1 (TX2 7).2.1 (TX2 7).2.2.1 ∈ tG := tG_of (List.mem_of_getElem? (i := 153) (by decide +kernel)) (by decide +kernel)
theorem kf_X6_162 : Cond.fieldLink RX6 162 (TX2 8).1 (TX2 8).2.1 (TX2 8).2.2.1 ∈ tG := tG_of (List.mem_of_getElem? (i := 155) (by decide +kernel)) (by decide +kernel)
theorem kl_X6_165 : Cond.methodLink RX6 165 yX2_driveFor ∈ tG := tG_of (List.mem_of_getElem? (i := 614) (by decide +kernel)) (by decide +kernel)
theorem kc_X6_155 : Cond.constant RX6 155 (-1000002) ∈ tG := tG_of (List.mem_of_getElem? (i := 612) (by decide +kernel)) (by decide +kernel)
theorem kl_X6_168 : Cond.methodLink RX6 168 yX2_goTo ∈ tG := tG_of (List.mem_of_getElem? (i := 619) (by decide +kernel)) (by decide +kernel)
theorem kv_X2_serveAllBy : CalV yX2_serveAllBy cX2_serveAllBy 3 (some .int) RX2 1 := ⟨tG_of (List.mem_of_getElem? (i := 625) (by decide +kernel)) (by decide +kernel), tG_of (List.mem_of_getElem? (i := 626) (by decide +kernel)) (by decide +kernel), tG_of (List.mem_of_getElem? (i := 57) (by decide +kernel)) (by decide +kernel), tG_of (List.mem_of_getElem? (i := 627) (by decide +kernel)) (by decide +kernel), by decide +kernel⟩
theorem kl_X6_172 : Cond.methodLink RX6 172 yX2_serveAllBy ∈ tG := tG_of (List.mem_of_getElem? (i := 624) (by decide +kernel)) (by decide +kernel)
theorem kf_X6_175 : Cond.fieldLink RX6 175 (TX2 2).1 (TX2 2).2.1 (TX2 2).2.2.1 ∈ tG := tG_of (List.mem_of_getElem? (i := 144) (by decide +kernel)) (by decide +kernel)
theorem kf_X6_178 : Cond.fieldLink RX6 178 (TX2 4).1 (TX2 4).2.1 (TX2 4).2.2.1 ∈ tG := tG_of (List.mem_of_getElem? (i := 148) (by decide +kernel)) (by decide +kernel)
theorem kf_X6_181 : Cond.fieldLink RX6 181 (TX2 5).1 (TX2 5).2.1 (TX2 5).2.2.1 ∈ tG := tG_of (List.mem_of_getElem? (i := 150) (by decide +kernel)) (by decide +kernel)
theorem kf_X6_184 : Cond.fieldLink RX6 184 (TX2 3).1 (TX2 3).2.1 (TX2 3).2.2.1 ∈ tG := tG_of (List.mem_of_getElem? (i := 146) (by decide +kernel)) (by decide +kernel)
theorem kf_X6_188 : Cond.fieldLink RX6 188 (TX0 6).1 (TX0 6).2.1 (TX0 6).2.2.1 ∈ tG := tG_of (List.mem_of_getElem? (i := 101) (by decide +kernel)) (by decide +kernel)
theorem kl_X6_189 : Cond.methodLink RX6 189 yX0_withNeighbors ∈ tG := tG_of (List.mem_of_getElem? (i := 633) (by decide +kernel)) (by decide +kernel)
theorem kv_X0_worn : CalV yX0_worn cX0_worn 3 (some .int) RX0 0 := ⟨tG_of (List.mem_of_getElem? (i := 635) (by decide +kernel)) (by decide +kernel), tG_of (List.mem_of_getElem? (i := 636) (by decide +kernel)) (by decide +kernel), tG_of (List.mem_of_getElem? (i := 58) (by decide +kernel)) (by decide +kernel), tG_of (List.mem_of_getElem? (i := 637) (by decide +kernel)) (by decide +kernel), by decide +kernel⟩
theorem kl_X6_192 : Cond.methodLink RX6 192 yX0_worn ∈ tG := tG_of (List.mem_of_getElem? (i := 634) (by decide +kernel)) (by decide +kernel)
theorem kf_X6_195 : Cond.fieldLink RX6 195 (TX2 9).1 (TX2 9).2.1 (TX2 9).2.2.1 ∈ tG := tG_of (List.mem_of_getElem? (i := 157) (by decide +kernel)) (by decide +kernel)
theorem kl_X6_198 : Cond.methodLink RX6 198 yX2_inDrive ∈ tG := tG_of (List.mem_of_getElem? (i := 639) (by decide +kernel)) (by decide +kernel)
theorem kv_X0_filesHeld : CalV yX0_filesHeld cX0_filesHeld 1 (some .int) RX0 0 := ⟨tG_of (List.mem_of_getElem? (i := 641) (by decide +kernel)) (by decide +kernel), tG_of (List.mem_of_getElem? (i := 642) (by decide +kernel)) (by decide +kernel), tG_of (List.mem_of_getElem? (i := 58) (by decide +kernel)) (by decide +kernel), tG_of (List.mem_of_getElem? (i := 643) (by decide +kernel)) (by decide +kernel), by decide +kernel⟩
theorem kl_X6_201 : Cond.methodLink RX6 201 yX0_filesHeld ∈ tG := tG_of (List.mem_of_getElem? (i := 640) (by decide +kernel)) (by decide +kernel)
theorem kf_X6_204 : Cond.fieldLink RX6 204 (TX1 2).1 (TX1 2).2.1 (TX1 2).2.2.1 ∈ tG := tG_of (List.mem_of_getElem? (i := 191) (by decide +kernel)) (by decide +kernel)
theorem kf_X6_29 : Cond.fieldLink RX6 29 (TX6 3).1 (TX6 3).2.1 (TX6 3).2.2.1 ∈ tG := tG_of (List.mem_of_getElem? (i := 238) (by decide +kernel)) (by decide +kernel)
theorem kf_X6_205 : Cond.fieldLink RX6 205 (TX3 1).1 (TX3 1).2.1 (TX3 1).2.2.1 ∈ tG := tG_of (List.mem_of_getElem? (i := 207) (by decide +kernel)) (by decide +kernel)
theorem kv_X1_restore : CalV yX1_restore cX1_restore 4 (some .int) RX1 1 := ⟨tG_of (List.mem_of_getElem? (i := 649) (by decide +kernel)) (by decide +kernel), tG_of (List.mem_of_getElem? (i := 650) (by decide +kernel)) (by decide +kernel), tG_of (List.mem_of_getElem? (i := 61) (by decide +kernel)) (by decide +kernel), tG_of (List.mem_of_getElem? (i := 651) (by decide +kernel)) (by decide +kernel), by decide +kernel⟩
theorem kl_X6_208 : Cond.methodLink RX6 208 yX1_restore ∈ tG := tG_of (List.mem_of_getElem? (i := 648) (by decide +kernel)) (by decide +kernel)
theorem kv_X3_append : CalV yX3_append cX3_append 2 (some .int) RX3 1 := ⟨tG_of (List.mem_of_getElem? (i := 658) (by decide +kernel)) (by decide +kernel), tG_of (List.mem_of_getElem? (i := 659) (by decide +kernel)) (by decide +kernel), tG_of (List.mem_of_getElem? (i := 62) (by decide +kernel)) (by decide +kernel), tG_of (List.mem_of_getElem? (i := 660) (by decide +kernel)) (by decide +kernel), by decide +kernel⟩
theorem kl_X6_212 : Cond.methodLink RX6 212 yX3_append ∈ tG := tG_of (List.mem_of_getElem? (i := 657) (by decide +kernel)) (by decide +kernel)
theorem kv_X3_empty : CalV yX3_empty cX3_empty 2 (some .int) RX3 0 := ⟨tG_of (List.mem_of_getElem? (i := 669) (by decide +kernel)) (by decide +kernel), tG_of (List.mem_of_getElem? (i := 670) (by decide +kernel)) (by decide +kernel), tG_of (List.mem_of_getElem? (i := 62) (by decide +kernel)) (by decide +kernel), tG_of (List.mem_of_getElem? (i := 671) (by decide +kernel)) (by decide +kernel), by decide +kernel⟩
theorem kl_X6_215 : Cond.methodLink RX6 215 yX3_empty ∈ tG := tG_of (List.mem_of_getElem? (i := 668) (by decide +kernel)) (by decide +kernel)
theorem kf_X7_7 : Cond.fieldLink RX7 7 (TX7 0).1 (TX7 0).2.1 (TX7 0).2.2.1 ∈ tG := tG_of (List.mem_of_getElem? (i := 807) (by decide +kernel)) (by decide +kernel)
theorem ks_X7_in : CalS yX7_in cX7_in 3 (some .boolean) 3 := ⟨tG_of (List.mem_of_getElem? (i := 855) (by decide +kernel)) (by decide +kernel), tG_of (List.mem_of_getElem? (i := 63) (by decide +kernel)) (by decide +kernel), tG_of (List.mem_of_getElem? (i := 856) (by decide +kernel)) (by decide +kernel), by decide +kernel⟩
theorem kl_X7_26 : Cond.methodLink RX7 26 yX7_in ∈ tG := tG_of (List.mem_of_getElem? (i := 854) (by decide +kernel)) (by decide +kernel)
theorem kf_X7_16 : Cond.fieldLink RX7 16 (TX7 2).1 (TX7 2).2.1 (TX7 2).2.2.1 ∈ tG := tG_of (List.mem_of_getElem? (i := 809) (by decide +kernel)) (by decide +kernel)
theorem kc_X7_30 : Cond.constant RX7 30 (-1000001) ∈ tG := tG_of (List.mem_of_getElem? (i := 857) (by decide +kernel)) (by decide +kernel)
theorem kf_X7_31 : Cond.fieldLink RX7 31 (TX7 4).1 (TX7 4).2.1 (TX7 4).2.2.1 ∈ tG := tG_of (List.mem_of_getElem? (i := 811) (by decide +kernel)) (by decide +kernel)
theorem kf_X7_13 : Cond.fieldLink RX7 13 (TX7 1).1 (TX7 1).2.1 (TX7 1).2.2.1 ∈ tG := tG_of (List.mem_of_getElem? (i := 808) (by decide +kernel)) (by decide +kernel)
theorem kf_X7_19 : Cond.fieldLink RX7 19 (TX7 3).1 (TX7 3).2.1 (TX7 3).2.2.1 ∈ tG := tG_of (List.mem_of_getElem? (i := 810) (by decide +kernel)) (by decide +kernel)
theorem kv_X7_keeps : CalV yX7_keeps cX7_keeps 2 none RX7 0 := ⟨tG_of (List.mem_of_getElem? (i := 862) (by decide +kernel)) (by decide +kernel), tG_of (List.mem_of_getElem? (i := 17) (by decide +kernel)) (by decide +kernel), tG_of (List.mem_of_getElem? (i := 63) (by decide +kernel)) (by decide +kernel), tG_of (List.mem_of_getElem? (i := 863) (by decide +kernel)) (by decide +kernel), by decide +kernel⟩
theorem kl_X7_37 : Cond.methodLink RX7 37 yX7_keeps ∈ tG := tG_of (List.mem_of_getElem? (i := 860) (by decide +kernel)) (by decide +kernel)
theorem kc_X7_36 : Cond.constant RX7 36 (-1000003) ∈ tG := tG_of (List.mem_of_getElem? (i := 859) (by decide +kernel)) (by decide +kernel)
theorem kc_X7_35 : Cond.constant RX7 35 (-1000002) ∈ tG := tG_of (List.mem_of_getElem? (i := 858) (by decide +kernel)) (by decide +kernel)
theorem kv_X7_acted : CalV yX7_acted cX7_acted 3 (some .int) RX7 1 := ⟨tG_of (List.mem_of_getElem? (i := 866) (by decide +kernel)) (by decide +kernel), tG_of (List.mem_of_getElem? (i := 18) (by decide +kernel)) (by decide +kernel), tG_of (List.mem_of_getElem? (i := 63) (by decide +kernel)) (by decide +kernel), tG_of (List.mem_of_getElem? (i := 867) (by decide +kernel)) (by decide +kernel), by decide +kernel⟩
theorem kl_X7_40 : Cond.methodLink RX7 40 yX7_acted ∈ tG := tG_of (List.mem_of_getElem? (i := 864) (by decide +kernel)) (by decide +kernel)
theorem kv_X7_ca : CalV yX7_ca cX7_ca 3 (some .int) RX7 2 := ⟨tG_of (List.mem_of_getElem? (i := 878) (by decide +kernel)) (by decide +kernel), tG_of (List.mem_of_getElem? (i := 20) (by decide +kernel)) (by decide +kernel), tG_of (List.mem_of_getElem? (i := 63) (by decide +kernel)) (by decide +kernel), tG_of (List.mem_of_getElem? (i := 879) (by decide +kernel)) (by decide +kernel), by decide +kernel⟩
theorem kl_X7_44 : Cond.methodLink RX7 44 yX7_ca ∈ tG := tG_of (List.mem_of_getElem? (i := 876) (by decide +kernel)) (by decide +kernel)
theorem kv_X7_isCartridge : CalV yX7_isCartridge cX7_isCartridge 2 (some .boolean) RX7 1 := ⟨tG_of (List.mem_of_getElem? (i := 874) (by decide +kernel)) (by decide +kernel), tG_of (List.mem_of_getElem? (i := 19) (by decide +kernel)) (by decide +kernel), tG_of (List.mem_of_getElem? (i := 63) (by decide +kernel)) (by decide +kernel), tG_of (List.mem_of_getElem? (i := 875) (by decide +kernel)) (by decide +kernel), by decide +kernel⟩
theorem kl_X7_48 : Cond.methodLink RX7 48 yX7_isCartridge ∈ tG := tG_of (List.mem_of_getElem? (i := 872) (by decide +kernel)) (by decide +kernel)
theorem kv_X7_standsAt : CalV yX7_standsAt cX7_standsAt 3 (some .int) RX7 1 := ⟨tG_of (List.mem_of_getElem? (i := 882) (by decide +kernel)) (by decide +kernel), tG_of (List.mem_of_getElem? (i := 21) (by decide +kernel)) (by decide +kernel), tG_of (List.mem_of_getElem? (i := 63) (by decide +kernel)) (by decide +kernel), tG_of (List.mem_of_getElem? (i := 883) (by decide +kernel)) (by decide +kernel), by decide +kernel⟩
theorem kl_X7_52 : Cond.methodLink RX7 52 yX7_standsAt ∈ tG := tG_of (List.mem_of_getElem? (i := 880) (by decide +kernel)) (by decide +kernel)
theorem kv_X7_isAt : CalV yX7_isAt cX7_isAt 3 none RX7 2 := ⟨tG_of (List.mem_of_getElem? (i := 886) (by decide +kernel)) (by decide +kernel), tG_of (List.mem_of_getElem? (i := 22) (by decide +kernel)) (by decide +kernel), tG_of (List.mem_of_getElem? (i := 63) (by decide +kernel)) (by decide +kernel), tG_of (List.mem_of_getElem? (i := 887) (by decide +kernel)) (by decide +kernel), by decide +kernel⟩
theorem kl_X7_55 : Cond.methodLink RX7 55 yX7_isAt ∈ tG := tG_of (List.mem_of_getElem? (i := 884) (by decide +kernel)) (by decide +kernel)
theorem kv_X7_withNeighbors : CalV yX7_withNeighbors cX7_withNeighbors 3 (some .int) RX7 0 := ⟨tG_of (List.mem_of_getElem? (i := 890) (by decide +kernel)) (by decide +kernel), tG_of (List.mem_of_getElem? (i := 23) (by decide +kernel)) (by decide +kernel), tG_of (List.mem_of_getElem? (i := 63) (by decide +kernel)) (by decide +kernel), tG_of (List.mem_of_getElem? (i := 891) (by decide +kernel)) (by decide +kernel), by decide +kernel⟩
theorem kl_X7_59 : Cond.methodLink RX7 59 yX7_withNeighbors ∈ tG := tG_of (List.mem_of_getElem? (i := 888) (by decide +kernel)) (by decide +kernel)
theorem kv_X7_weight : CalV yX7_weight cX7_weight 3 (some .int) RX7 0 := ⟨tG_of (List.mem_of_getElem? (i := 926) (by decide +kernel)) (by decide +kernel), tG_of (List.mem_of_getElem? (i := 29) (by decide +kernel)) (by decide +kernel), tG_of (List.mem_of_getElem? (i := 63) (by decide +kernel)) (by decide +kernel), tG_of (List.mem_of_getElem? (i := 927) (by decide +kernel)) (by decide +kernel), by decide +kernel⟩
theorem kl_X7_63 : Cond.methodLink RX7 63 yX7_weight ∈ tG := tG_of (List.mem_of_getElem? (i := 924) (by decide +kernel)) (by decide +kernel)
theorem kv_X7_comes : CalV yX7_comes cX7_comes 2 none RX7 1 := ⟨tG_of (List.mem_of_getElem? (i := 902) (by decide +kernel)) (by decide +kernel), tG_of (List.mem_of_getElem? (i := 25) (by decide +kernel)) (by decide +kernel), tG_of (List.mem_of_getElem? (i := 63) (by decide +kernel)) (by decide +kernel), tG_of (List.mem_of_getElem? (i := 903) (by decide +kernel)) (by decide +kernel), by decide +kernel⟩
theorem kl_X7_66 : Cond.methodLink RX7 66 yX7_comes ∈ tG := tG_of (List.mem_of_getElem? (i := 900) (by decide +kernel)) (by decide +kernel)
theorem kv_X7_lifts : CalV yX7_lifts cX7_lifts 4 (some .int) RX7 1 := ⟨tG_of (List.mem_of_getElem? (i := 898) (by decide +kernel)) (by decide +kernel), tG_of (List.mem_of_getElem? (i := 24) (by decide +kernel)) (by decide +kernel), tG_of (List.mem_of_getElem? (i := 63) (by decide +kernel)) (by decide +kernel), tG_of (List.mem_of_getElem? (i := 899) (by decide +kernel)) (by decide +kernel), by decide +kernel⟩
theorem kl_X7_70 : Cond.methodLink RX7 70 yX7_lifts ∈ tG := tG_of (List.mem_of_getElem? (i := 896) (by decide +kernel)) (by decide +kernel)
theorem kv_X7_leaves : CalV yX7_leaves cX7_leaves 1 (some .int) RX7 0 := ⟨tG_of (List.mem_of_getElem? (i := 914) (by decide +kernel)) (by decide +kernel), tG_of (List.mem_of_getElem? (i := 27) (by decide +kernel)) (by decide +kernel), tG_of (List.mem_of_getElem? (i := 63) (by decide +kernel)) (by decide +kernel), tG_of (List.mem_of_getElem? (i := 915) (by decide +kernel)) (by decide +kernel), by decide +kernel⟩
theorem kl_X7_73 : Cond.methodLink RX7 73 yX7_leaves ∈ tG := tG_of (List.mem_of_getElem? (i := 912) (by decide +kernel)) (by decide +kernel)
theorem kv_X7_lays : CalV yX7_lays cX7_lays 4 (some .int) RX7 1 := ⟨tG_of (List.mem_of_getElem? (i := 910) (by decide +kernel)) (by decide +kernel), tG_of (List.mem_of_getElem? (i := 26) (by decide +kernel)) (by decide +kernel), tG_of (List.mem_of_getElem? (i := 63) (by decide +kernel)) (by decide +kernel), tG_of (List.mem_of_getElem? (i := 911) (by decide +kernel)) (by decide +kernel), by decide +kernel⟩
theorem kl_X7_76 : Cond.methodLink RX7 76 yX7_lays ∈ tG := tG_of (List.mem_of_getElem? (i := 908) (by decide +kernel)) (by decide +kernel)
theorem kv_X7_weighs : CalV yX7_weighs cX7_weighs 1 (some .int) RX7 0 := ⟨tG_of (List.mem_of_getElem? (i := 922) (by decide +kernel)) (by decide +kernel), tG_of (List.mem_of_getElem? (i := 28) (by decide +kernel)) (by decide +kernel), tG_of (List.mem_of_getElem? (i := 63) (by decide +kernel)) (by decide +kernel), tG_of (List.mem_of_getElem? (i := 923) (by decide +kernel)) (by decide +kernel), by decide +kernel⟩
theorem kl_X7_79 : Cond.methodLink RX7 79 yX7_weighs ∈ tG := tG_of (List.mem_of_getElem? (i := 920) (by decide +kernel)) (by decide +kernel)
theorem kv_X7_most : CalV yX7_most cX7_most 1 (some .int) RX7 0 := ⟨tG_of (List.mem_of_getElem? (i := 938) (by decide +kernel)) (by decide +kernel), tG_of (List.mem_of_getElem? (i := 31) (by decide +kernel)) (by decide +kernel), tG_of (List.mem_of_getElem? (i := 63) (by decide +kernel)) (by decide +kernel), tG_of (List.mem_of_getElem? (i := 939) (by decide +kernel)) (by decide +kernel), by decide +kernel⟩
theorem kl_X7_82 : Cond.methodLink RX7 82 yX7_most ∈ tG := tG_of (List.mem_of_getElem? (i := 936) (by decide +kernel)) (by decide +kernel)
theorem kv_X7_turns : CalV yX7_turns cX7_turns 3 (some .int) RX7 1 := ⟨tG_of (List.mem_of_getElem? (i := 934) (by decide +kernel)) (by decide +kernel), tG_of (List.mem_of_getElem? (i := 30) (by decide +kernel)) (by decide +kernel), tG_of (List.mem_of_getElem? (i := 63) (by decide +kernel)) (by decide +kernel), tG_of (List.mem_of_getElem? (i := 935) (by decide +kernel)) (by decide +kernel), by decide +kernel⟩
theorem kl_X7_85 : Cond.methodLink RX7 85 yX7_turns ∈ tG := tG_of (List.mem_of_getElem? (i := 932) (by decide +kernel)) (by decide +kernel)
theorem ks_X7_wallOf : CalS yX7_wallOf cX7_wallOf 1 (some .int) 1 := ⟨tG_of (List.mem_of_getElem? (i := 949) (by decide +kernel)) (by decide +kernel), tG_of (List.mem_of_getElem? (i := 63) (by decide +kernel)) (by decide +kernel), tG_of (List.mem_of_getElem? (i := 950) (by decide +kernel)) (by decide +kernel), by decide +kernel⟩
theorem kl_X7_88 : Cond.methodLink RX7 88 yX7_wallOf ∈ tG := tG_of (List.mem_of_getElem? (i := 948) (by decide +kernel)) (by decide +kernel)
theorem kv_X7_serves : CalV yX7_serves cX7_serves 7 (some .int) RX7 1 := ⟨tG_of (List.mem_of_getElem? (i := 953) (by decide +kernel)) (by decide +kernel), tG_of (List.mem_of_getElem? (i := 33) (by decide +kernel)) (by decide +kernel), tG_of (List.mem_of_getElem? (i := 63) (by decide +kernel)) (by decide +kernel), tG_of (List.mem_of_getElem? (i := 954) (by decide +kernel)) (by decide +kernel), by decide +kernel⟩
theorem kl_X7_91 : Cond.methodLink RX7 91 yX7_serves ∈ tG := tG_of (List.mem_of_getElem? (i := 951) (by decide +kernel)) (by decide +kernel)
theorem kv_X7_mounts : CalV yX7_mounts cX7_mounts 3 (some .int) RX7 1 := ⟨tG_of (List.mem_of_getElem? (i := 946) (by decide +kernel)) (by decide +kernel), tG_of (List.mem_of_getElem? (i := 32) (by decide +kernel)) (by decide +kernel), tG_of (List.mem_of_getElem? (i := 63) (by decide +kernel)) (by decide +kernel), tG_of (List.mem_of_getElem? (i := 947) (by decide +kernel)) (by decide +kernel), by decide +kernel⟩
theorem kl_X7_94 : Cond.methodLink RX7 94 yX7_mounts ∈ tG := tG_of (List.mem_of_getElem? (i := 944) (by decide +kernel)) (by decide +kernel)
theorem kv_X7_takes : CalV yX7_takes cX7_takes 3 (some .int) RX7 1 := ⟨tG_of (List.mem_of_getElem? (i := 961) (by decide +kernel)) (by decide +kernel), tG_of (List.mem_of_getElem? (i := 34) (by decide +kernel)) (by decide +kernel), tG_of (List.mem_of_getElem? (i := 63) (by decide +kernel)) (by decide +kernel), tG_of (List.mem_of_getElem? (i := 962) (by decide +kernel)) (by decide +kernel), by decide +kernel⟩
theorem kl_X7_97 : Cond.methodLink RX7 97 yX7_takes ∈ tG := tG_of (List.mem_of_getElem? (i := 959) (by decide +kernel)) (by decide +kernel)
theorem kv_X7_files : CalV yX7_files cX7_files 4 (some .int) RX7 1 := ⟨tG_of (List.mem_of_getElem? (i := 969) (by decide +kernel)) (by decide +kernel), tG_of (List.mem_of_getElem? (i := 35) (by decide +kernel)) (by decide +kernel), tG_of (List.mem_of_getElem? (i := 63) (by decide +kernel)) (by decide +kernel), tG_of (List.mem_of_getElem? (i := 970) (by decide +kernel)) (by decide +kernel), by decide +kernel⟩
theorem kl_X7_100 : Cond.methodLink RX7 100 yX7_files ∈ tG := tG_of (List.mem_of_getElem? (i := 967) (by decide +kernel)) (by decide +kernel)
theorem ks_X7_apart : CalS yX7_apart cX7_apart 3 (some .int) 2 := ⟨tG_of (List.mem_of_getElem? (i := 992) (by decide +kernel)) (by decide +kernel), tG_of (List.mem_of_getElem? (i := 63) (by decide +kernel)) (by decide +kernel), tG_of (List.mem_of_getElem? (i := 993) (by decide +kernel)) (by decide +kernel), by decide +kernel⟩
theorem kl_X7_103 : Cond.methodLink RX7 103 yX7_apart ∈ tG := tG_of (List.mem_of_getElem? (i := 991) (by decide +kernel)) (by decide +kernel)
theorem kv_X7_wanted : CalV yX7_wanted cX7_wanted 4 (some .int) RX7 1 := ⟨tG_of (List.mem_of_getElem? (i := 996) (by decide +kernel)) (by decide +kernel), tG_of (List.mem_of_getElem? (i := 39) (by decide +kernel)) (by decide +kernel), tG_of (List.mem_of_getElem? (i := 63) (by decide +kernel)) (by decide +kernel), tG_of (List.mem_of_getElem? (i := 997) (by decide +kernel)) (by decide +kernel), by decide +kernel⟩
theorem kl_X7_106 : Cond.methodLink RX7 106 yX7_wanted ∈ tG := tG_of (List.mem_of_getElem? (i := 994) (by decide +kernel)) (by decide +kernel)
theorem kv_X7_worth : CalV yX7_worth cX7_worth 4 (some .int) RX7 2 := ⟨tG_of (List.mem_of_getElem? (i := 989) (by decide +kernel)) (by decide +kernel), tG_of (List.mem_of_getElem? (i := 38) (by decide +kernel)) (by decide +kernel), tG_of (List.mem_of_getElem? (i := 63) (by decide +kernel)) (by decide +kernel), tG_of (List.mem_of_getElem? (i := 990) (by decide +kernel)) (by decide +kernel), by decide +kernel⟩
theorem kl_X7_109 : Cond.methodLink RX7 109 yX7_worth ∈ tG := tG_of (List.mem_of_getElem? (i := 987) (by decide +kernel)) (by decide +kernel)
theorem kv_X7_empty : CalV yX7_empty cX7_empty 4 (some .int) RX7 1 := ⟨tG_of (List.mem_of_getElem? (i := 1008) (by decide +kernel)) (by decide +kernel), tG_of (List.mem_of_getElem? (i := 42) (by decide +kernel)) (by decide +kernel), tG_of (List.mem_of_getElem? (i := 63) (by decide +kernel)) (by decide +kernel), tG_of (List.mem_of_getElem? (i := 1009) (by decide +kernel)) (by decide +kernel), by decide +kernel⟩
theorem kl_X7_112 : Cond.methodLink RX7 112 yX7_empty ∈ tG := tG_of (List.mem_of_getElem? (i := 1006) (by decide +kernel)) (by decide +kernel)
theorem kv_X7_next : CalV yX7_next cX7_next 6 (some .int) RX7 1 := ⟨tG_of (List.mem_of_getElem? (i := 985) (by decide +kernel)) (by decide +kernel), tG_of (List.mem_of_getElem? (i := 37) (by decide +kernel)) (by decide +kernel), tG_of (List.mem_of_getElem? (i := 63) (by decide +kernel)) (by decide +kernel), tG_of (List.mem_of_getElem? (i := 986) (by decide +kernel)) (by decide +kernel), by decide +kernel⟩
theorem kl_X7_115 : Cond.methodLink RX7 115 yX7_next ∈ tG := tG_of (List.mem_of_getElem? (i := 983) (by decide +kernel)) (by decide +kernel)
theorem kv_X7_chooses : CalV yX7_chooses cX7_chooses 4 (some .int) RX7 1 := ⟨tG_of (List.mem_of_getElem? (i := 1000) (by decide +kernel)) (by decide +kernel), tG_of (List.mem_of_getElem? (i := 40) (by decide +kernel)) (by decide +kernel), tG_of (List.mem_of_getElem? (i := 63) (by decide +kernel)) (by decide +kernel), tG_of (List.mem_of_getElem? (i := 1001) (by decide +kernel)) (by decide +kernel), by decide +kernel⟩
theorem kl_X7_118 : Cond.methodLink RX7 118 yX7_chooses ∈ tG := tG_of (List.mem_of_getElem? (i := 998) (by decide +kernel)) (by decide +kernel)
theorem kv_X7_nearest : CalV yX7_nearest cX7_nearest 5 (some .int) RX7 1 := ⟨tG_of (List.mem_of_getElem? (i := 1004) (by decide +kernel)) (by decide +kernel), tG_of (List.mem_of_getElem? (i := 41) (by decide +kernel)) (by decide +kernel), tG_of (List.mem_of_getElem? (i := 63) (by decide +kernel)) (by decide +kernel), tG_of (List.mem_of_getElem? (i := 1005) (by decide +kernel)) (by decide +kernel), by decide +kernel⟩
theorem kl_X7_121 : Cond.methodLink RX7 121 yX7_nearest ∈ tG := tG_of (List.mem_of_getElem? (i := 1002) (by decide +kernel)) (by decide +kernel)
theorem kf_X7_124 : Cond.fieldLink RX7 124 (TX7 12).1 (TX7 12).2.1 (TX7 12).2.2.1 ∈ tG := tG_of (List.mem_of_getElem? (i := 819) (by decide +kernel)) (by decide +kernel)
theorem kf_X7_127 : Cond.fieldLink RX7 127 (TX7 13).1 (TX7 13).2.1 (TX7 13).2.2.1 ∈ tG := tG_of (List.mem_of_getElem? (i := 820) (by decide +kernel)) (by decide +kernel)
theorem kv_X7_goes : CalV yX7_goes cX7_goes 5 none RX7 1 := ⟨tG_of (List.mem_of_getElem? (i := 1012) (by decide +kernel)) (by decide +kernel), tG_of (List.mem_of_getElem? (i := 43) (by decide +kernel)) (by decide +kernel), tG_of (List.mem_of_getElem? (i := 63) (by decide +kernel)) (by decide +kernel), tG_of (List.mem_of_getElem? (i := 1013) (by decide +kernel)) (by decide +kernel), by decide +kernel⟩
theorem kl_X7_130 : Cond.methodLink RX7 130 yX7_goes ∈ tG := tG_of (List.mem_of_getElem? (i := 1010) (by decide +kernel)) (by decide +kernel)
theorem kv_X7_servesBy : CalV yX7_servesBy cX7_servesBy 7 (some .int) RX7 1 := ⟨tG_of (List.mem_of_getElem? (i := 981) (by decide +kernel)) (by decide +kernel), tG_of (List.mem_of_getElem? (i := 36) (by decide +kernel)) (by decide +kernel), tG_of (List.mem_of_getElem? (i := 63) (by decide +kernel)) (by decide +kernel), tG_of (List.mem_of_getElem? (i := 982) (by decide +kernel)) (by decide +kernel), by decide +kernel⟩
theorem kl_X7_133 : Cond.methodLink RX7 133 yX7_servesBy ∈ tG := tG_of (List.mem_of_getElem? (i := 979) (by decide +kernel)) (by decide +kernel)
theorem kc_X7_136 : Cond.constant RX7 136 (-1000004) ∈ tG := tG_of (List.mem_of_getElem? (i := 1022) (by decide +kernel)) (by decide +kernel)
theorem kv_X7_whereOf : CalV yX7_whereOf cX7_whereOf 5 (some .int) RX7 1 := ⟨tG_of (List.mem_of_getElem? (i := 1020) (by decide +kernel)) (by decide +kernel), tG_of (List.mem_of_getElem? (i := 44) (by decide +kernel)) (by decide +kernel), tG_of (List.mem_of_getElem? (i := 63) (by decide +kernel)) (by decide +kernel), tG_of (List.mem_of_getElem? (i := 1021) (by decide +kernel)) (by decide +kernel), by decide +kernel⟩
theorem kl_X7_137 : Cond.methodLink RX7 137 yX7_whereOf ∈ tG := tG_of (List.mem_of_getElem? (i := 1018) (by decide +kernel)) (by decide +kernel)
theorem kv_X7_puts : CalV yX7_puts cX7_puts 2 none RX7 0 := ⟨tG_of (List.mem_of_getElem? (i := 1045) (by decide +kernel)) (by decide +kernel), tG_of (List.mem_of_getElem? (i := 45) (by decide +kernel)) (by decide +kernel), tG_of (List.mem_of_getElem? (i := 63) (by decide +kernel)) (by decide +kernel), tG_of (List.mem_of_getElem? (i := 1046) (by decide +kernel)) (by decide +kernel), by decide +kernel⟩
theorem kl_X7_140 : Cond.methodLink RX7 140 yX7_puts ∈ tG := tG_of (List.mem_of_getElem? (i := 1043) (by decide +kernel)) (by decide +kernel)
theorem kv_X7_restores : CalV yX7_restores cX7_restores 2 none RX7 0 := ⟨tG_of (List.mem_of_getElem? (i := 1049) (by decide +kernel)) (by decide +kernel), tG_of (List.mem_of_getElem? (i := 46) (by decide +kernel)) (by decide +kernel), tG_of (List.mem_of_getElem? (i := 63) (by decide +kernel)) (by decide +kernel), tG_of (List.mem_of_getElem? (i := 1050) (by decide +kernel)) (by decide +kernel), by decide +kernel⟩
theorem kl_X7_143 : Cond.methodLink RX7 143 yX7_restores ∈ tG := tG_of (List.mem_of_getElem? (i := 1047) (by decide +kernel)) (by decide +kernel)
theorem kv_X7_worn : CalV yX7_worn cX7_worn 3 (some .int) RX7 0 := ⟨tG_of (List.mem_of_getElem? (i := 1065) (by decide +kernel)) (by decide +kernel), tG_of (List.mem_of_getElem? (i := 47) (by decide +kernel)) (by decide +kernel), tG_of (List.mem_of_getElem? (i := 63) (by decide +kernel)) (by decide +kernel), tG_of (List.mem_of_getElem? (i := 1066) (by decide +kernel)) (by decide +kernel), by decide +kernel⟩
theorem kl_X7_146 : Cond.methodLink RX7 146 yX7_worn ∈ tG := tG_of (List.mem_of_getElem? (i := 1063) (by decide +kernel)) (by decide +kernel)
theorem kf_X7_149 : Cond.fieldLink RX7 149 (TX7 6).1 (TX7 6).2.1 (TX7 6).2.2.1 ∈ tG := tG_of (List.mem_of_getElem? (i := 813) (by decide +kernel)) (by decide +kernel)
theorem kf_X7_22 : Cond.fieldLink RX7 22 (TX7 5).1 (TX7 5).2.1 (TX7 5).2.2.1 ∈ tG := tG_of (List.mem_of_getElem? (i := 812) (by decide +kernel)) (by decide +kernel)
theorem kf_X7_152 : Cond.fieldLink RX7 152 (TX7 7).1 (TX7 7).2.1 (TX7 7).2.2.1 ∈ tG := tG_of (List.mem_of_getElem? (i := 814) (by decide +kernel)) (by decide +kernel)
theorem kv_X7_isWord : CalV yX7_isWord cX7_isWord 9 (some .boolean) RX7 6 := ⟨tG_of (List.mem_of_getElem? (i := 1105) (by decide +kernel)) (by decide +kernel), tG_of (List.mem_of_getElem? (i := 53) (by decide +kernel)) (by decide +kernel), tG_of (List.mem_of_getElem? (i := 63) (by decide +kernel)) (by decide +kernel), tG_of (List.mem_of_getElem? (i := 1106) (by decide +kernel)) (by decide +kernel), by decide +kernel⟩
theorem kl_X7_155 : Cond.methodLink RX7 155 yX7_isWord ∈ tG := tG_of (List.mem_of_getElem? (i := 1103) (by decide +kernel)) (by decide +kernel)
theorem kv_X7_sign : CalV yX7_sign cX7_sign 1 (some .int) RX7 0 := ⟨tG_of (List.mem_of_getElem? (i := 1097) (by decide +kernel)) (by decide +kernel), tG_of (List.mem_of_getElem? (i := 51) (by decide +kernel)) (by decide +kernel), tG_of (List.mem_of_getElem? (i := 63) (by decide +kernel)) (by decide +kernel), tG_of (List.mem_of_getElem? (i := 1098) (by decide +kernel)) (by decide +kernel), by decide +kernel⟩
theorem kl_X7_159 : Cond.methodLink RX7 159 yX7_sign ∈ tG := tG_of (List.mem_of_getElem? (i := 1095) (by decide +kernel)) (by decide +kernel)
theorem kv_X7_wordFrom : CalV yX7_wordFrom cX7_wordFrom 2 (some .int) RX7 1 := ⟨tG_of (List.mem_of_getElem? (i := 1101) (by decide +kernel)) (by decide +kernel), tG_of (List.mem_of_getElem? (i := 52) (by decide +kernel)) (by decide +kernel), tG_of (List.mem_of_getElem? (i := 63) (by decide +kernel)) (by decide +kernel), tG_of (List.mem_of_getElem? (i := 1102) (by decide +kernel)) (by decide +kernel), by decide +kernel⟩
theorem kl_X7_162 : Cond.methodLink RX7 162 yX7_wordFrom ∈ tG := tG_of (List.mem_of_getElem? (i := 1099) (by decide +kernel)) (by decide +kernel)
theorem kf_X7_165 : Cond.fieldLink RX7 165 (TX7 11).1 (TX7 11).2.1 (TX7 11).2.2.1 ∈ tG := tG_of (List.mem_of_getElem? (i := 818) (by decide +kernel)) (by decide +kernel)
theorem kf_X7_168 : Cond.fieldLink RX7 168 (TX7 10).1 (TX7 10).2.1 (TX7 10).2.2.1 ∈ tG := tG_of (List.mem_of_getElem? (i := 817) (by decide +kernel)) (by decide +kernel)
theorem kv_X7_reads : CalV yX7_reads cX7_reads 2 (some .int) RX7 0 := ⟨tG_of (List.mem_of_getElem? (i := 1093) (by decide +kernel)) (by decide +kernel), tG_of (List.mem_of_getElem? (i := 50) (by decide +kernel)) (by decide +kernel), tG_of (List.mem_of_getElem? (i := 63) (by decide +kernel)) (by decide +kernel), tG_of (List.mem_of_getElem? (i := 1094) (by decide +kernel)) (by decide +kernel), by decide +kernel⟩
theorem kl_X7_171 : Cond.methodLink RX7 171 yX7_reads ∈ tG := tG_of (List.mem_of_getElem? (i := 1091) (by decide +kernel)) (by decide +kernel)
theorem kf_X7_174 : Cond.fieldLink RX7 174 (TX7 9).1 (TX7 9).2.1 (TX7 9).2.2.1 ∈ tG := tG_of (List.mem_of_getElem? (i := 816) (by decide +kernel)) (by decide +kernel)
theorem kv_X7_does : CalV yX7_does cX7_does 1 (some .int) RX7 0 := ⟨tG_of (List.mem_of_getElem? (i := 1109) (by decide +kernel)) (by decide +kernel), tG_of (List.mem_of_getElem? (i := 54) (by decide +kernel)) (by decide +kernel), tG_of (List.mem_of_getElem? (i := 63) (by decide +kernel)) (by decide +kernel), tG_of (List.mem_of_getElem? (i := 1110) (by decide +kernel)) (by decide +kernel), by decide +kernel⟩
theorem kl_X7_177 : Cond.methodLink RX7 177 yX7_does ∈ tG := tG_of (List.mem_of_getElem? (i := 1107) (by decide +kernel)) (by decide +kernel)
theorem kv_X7_doesNext : CalV yX7_doesNext cX7_doesNext 2 (some .int) RX7 0 := ⟨tG_of (List.mem_of_getElem? (i := 1089) (by decide +kernel)) (by decide +kernel), tG_of (List.mem_of_getElem? (i := 49) (by decide +kernel)) (by decide +kernel), tG_of (List.mem_of_getElem? (i := 63) (by decide +kernel)) (by decide +kernel), tG_of (List.mem_of_getElem? (i := 1090) (by decide +kernel)) (by decide +kernel), by decide +kernel⟩
theorem kl_X7_180 : Cond.methodLink RX7 180 yX7_doesNext ∈ tG := tG_of (List.mem_of_getElem? (i := 1087) (by decide +kernel)) (by decide +kernel)
theorem kf_X7_183 : Cond.fieldLink RX7 183 (TX7 8).1 (TX7 8).2.1 (TX7 8).2.2.1 ∈ tG := tG_of (List.mem_of_getElem? (i := 815) (by decide +kernel)) (by decide +kernel)
theorem kv_X7_faulty : CalV yX7_faulty cX7_faulty 3 (some .int) RX7 0 := ⟨tG_of (List.mem_of_getElem? (i := 1085) (by decide +kernel)) (by decide +kernel), tG_of (List.mem_of_getElem? (i := 48) (by decide +kernel)) (by decide +kernel), tG_of (List.mem_of_getElem? (i := 63) (by decide +kernel)) (by decide +kernel), tG_of (List.mem_of_getElem? (i := 1086) (by decide +kernel)) (by decide +kernel), by decide +kernel⟩
theorem kl_X7_186 : Cond.methodLink RX7 186 yX7_faulty ∈ tG := tG_of (List.mem_of_getElem? (i := 1083) (by decide +kernel)) (by decide +kernel)
end
section
theorem km_ini : Cond.initialized "java/lang/Math" ∈ tG := tG_of (List.mem_of_getElem? (i := 65) (by decide +kernel)) (by decide +kernel)
theorem km_min_st : Cond.static Lib.Math.min.name ∈ tG := tG_of (List.mem_of_getElem? (i := 268) (by decide +kernel)) (by decide +kernel)
theorem km_abs_st : Cond.static Lib.Math.abs.name ∈ tG := tG_of (List.mem_of_getElem? (i := 398) (by decide +kernel)) (by decide +kernel)
theorem km_min_code : Cond.code Lib.Math.min.name Lib.Math.min.code 2 (some .int) ∈ tG := tG_of (List.mem_of_getElem? (i := 269) (by decide +kernel)) (by decide +kernel)
theorem km_abs_code : Cond.code Lib.Math.abs.name Lib.Math.abs.code 1 (some .int) ∈ tG := tG_of (List.mem_of_getElem? (i := 399) (by decide +kernel)) (by decide +kernel)
theorem ka_nat : Cond.native arraycopyName ∈ tG := tG_of (List.mem_of_getElem? (i := 272) (by decide +kernel)) (by decide +kernel)
theorem ka_st : Cond.static arraycopyName ∈ tG := tG_of (List.mem_of_getElem? (i := 271) (by decide +kernel)) (by decide +kernel)
theorem ka_ini : Cond.initialized "java/lang/System" ∈ tG := tG_of (List.mem_of_getElem? (i := 66) (by decide +kernel)) (by decide +kernel)
theorem ks_X5_copy : CalS yX5_copy cX5_copy 2 none 2 := ⟨tG_of (List.mem_of_getElem? (i := 265) (by decide +kernel)) (by decide +kernel), tG_of (List.mem_of_getElem? (i := 64) (by decide +kernel)) (by decide +kernel), tG_of (List.mem_of_getElem? (i := 266) (by decide +kernel)) (by decide +kernel), by decide +kernel⟩
theorem kl_cp_min : Cond.methodLink RX5 7 Lib.Math.min.name ∈ tG := tG_of (List.mem_of_getElem? (i := 267) (by decide +kernel)) (by decide +kernel)
theorem kl_cp_ac : Cond.methodLink RX5 13 arraycopyName ∈ tG := tG_of (List.mem_of_getElem? (i := 270) (by decide +kernel)) (by decide +kernel)
theorem jmin_self (x : Int32) : jmin x x = x := by unfold jmin; split <;> rfl
set_option maxRecDepth 20000 in
/-- Rows.copy of a whole row onto one of the same length -/
theorem ct_X5_copy (l : Launch) (d : Dt) (p q : Nat) (n : Nat) (hn : n < 2 ^ 31) (f g : Nat → Int32) : CtW l d yX5_copy cX5_copy 2 none (rmF 1 72) [.ref p, .ref q] [(p, .inl (d.2.1, n, .inl f)), (q, .inl (d.2.1, n, .inl g))] [(p, .inl (d.2.1, n, .inl f)), (q, .inl (d.2.1, n, .inl f))] none := by
  refine CtW.start (by decide) (Nat.le_of_ble_eq_true rfl) (by simp [Value.category]) [some (.ref p), some (.ref q)] rfl (fun x A C hr hlk => ?_)
  refine V_aload_n C 0 dX5_copy_0 rfl rfl ?_
  refine V_iconst (v := 0) C dX5_copy_1 (by decide) ?_
  refine V_aload_n C 1 dX5_copy_2 rfl rfl ?_
  refine V_iconst (v := 0) C dX5_copy_3 (by decide) ?_
  refine V_aload_n C 0 dX5_copy_4 rfl rfl ?_
  refine V_alenI (v := nI n) C 0 rfl rfl dX5_copy_5 ?_
  refine V_aload_n C 1 dX5_copy_6 rfl rfl ?_
  refine V_alenI (v := nI n) C 1 rfl rfl dX5_copy_7 ?_
  refine V_mmin C kl_cp_min km_min_st km_ini km_min_code dX5_copy_8 ⟨Nat.le_of_ble_eq_true rfl, Nat.le_of_ble_eq_true rfl, Nat.zero_le _, Nat.zero_le _⟩ ?_
  rw [jmin_self]
  refine V_acopy (ws2 := [(p, .inl (d.2.1, n, .inl f)), (q, .inl (d.2.1, n, .inl f))]) C kl_cp_ac ka_nat ka_st ka_ini dX5_copy_11 0 1 rfl rfl rfl hn ⟨Nat.le_of_ble_eq_true rfl, by decide +kernel⟩ ?_
  exact V_eqv (h2 := some () = some ()) (fun _ => rfl) (V_vretW (Wd := fun _ : Unit => [(p, .inl (d.2.1, n, .inl f)), (q, .inl (d.2.1, n, .inl f))]) C hr hlk dX5_copy_14 rfl)
end
section
/-! MastRobots.isIn -/
def f_X6_isIn (p1 : Int32) (p2 : Int32) (p3 : Int32) : Option (Int32) :=
  (if p1 < p2 then some 0 else (if p3 < p1 then some 0 else some 1))
set_option maxRecDepth 20000 in
theorem v_X6_isIn {x : Am} {d : Dt} (C : Cx x cX6_isIn 3 yX6_isIn.cls d (Iro d x.s.heap)) (hr : x.meth.sig.returnType = (some .boolean)) (hlk : x.meth.locks = false) (z : Int32) (p1 : Int32) (p2 : Int32) (p3 : Int32) : V x (rmF 0 0) 0 0 (MQ x.below (QR (some (.int z))) x.args x.s 0 0 (fun _ => False)) 3 (Iro d x.s.heap) (f_X6_isIn p1 p2 p3 = some z) 0 ([]) [some (.int p1), some (.int p2), some (.int p3)] [] := by
  unfold f_X6_isIn
  refine V_iload_n C 0 dX6_isIn_0 rfl rfl ?_
  refine V_iload_n C 1 dX6_isIn_1 rfl rfl ?_
  refine V_icmp_lt (tgt := 14) C dX6_isIn_2 (by decide) ?_ ?_
  · refine V_iconst (v := 0) C dX6_isIn_14 (by decide) ?_
    exact V_zretRc C hr hlk (by decide) dX6_isIn_15
  · refine V_iload_n C 0 dX6_isIn_5 rfl rfl ?_
    refine V_iload_n C 2 dX6_isIn_6 rfl rfl ?_
    refine V_icmp_gt (tgt := 14) C dX6_isIn_7 (by decide) ?_ ?_
    · refine V_iconst (v := 0) C dX6_isIn_14 (by decide) ?_
      exact V_zretRc C hr hlk (by decide) dX6_isIn_15
    · refine V_iconst (v := 1) C dX6_isIn_10 (by decide) ?_
      refine V_goto (tgt := 15) C dX6_isIn_11 (by decide) ?_
      exact V_zretRc C hr hlk (by decide) dX6_isIn_15
set_option maxRecDepth 20000 in
theorem ct_X6_isIn (l : Launch) (d : Dt) (p1 : Int32) (p2 : Int32) (p3 : Int32) (z : Int32) (h : f_X6_isIn p1 p2 p3 = some z) : CtR l d yX6_isIn cX6_isIn 3 (some .boolean) (rmF 0 0) [.int p1, .int p2, .int p3] ([]) (some (.int z)) :=
  CtR.start (by decide) (Nat.le_of_ble_eq_true rfl) (by simp [Value.category]) [some (.int p1), some (.int p2), some (.int p3)] rfl (fun x C hr hlk => V_eqv (fun _ => h) (v_X6_isIn C hr hlk z p1 p2 p3))

/-! MastRobots.isRule -/
def f_X6_isRule (p1 : Int32) : Option (Int32) :=
  ((f_X6_isIn p1 0 3).bind fun r3 => (if jbool r3 = true then some r3 else none))
set_option maxRecDepth 20000 in
theorem v_X6_isRule {x : Am} {d : Dt} (C : Cx x cX6_isRule 1 yX6_isRule.cls d (Iro d x.s.heap)) (hr : x.meth.sig.returnType = (some .boolean)) (hlk : x.meth.locks = false) (z : Int32) (p1 : Int32) : V x (rmF 1 22) 0 0 (MQ x.below (QR (some (.int z))) x.args x.s 0 0 (fun _ => False)) 1 (Iro d x.s.heap) (f_X6_isRule p1 = some z) 0 ([]) [some (.int p1)] [] := by
  unfold f_X6_isRule
  refine V_iload_n C 0 dX6_isRule_0 rfl rfl ?_
  refine V_iconst (v := 0) C dX6_isRule_1 (by decide) ?_
  refine V_iconst (v := 3) C dX6_isRule_2 (by decide) ?_
  refine V_callSi (As := [.int p1, .int 0, .int 3]) (rest := []) (wc := []) C (fun r h => ct_X6_isIn _ d p1 0 3 r h) ks_X6_isIn kl_X6_122 [] dX6_isRule_3 rfl rfl (Nat.le_of_ble_eq_true rfl) ⟨(Nat.le_of_ble_eq_true rfl), (Nat.le_of_ble_eq_true rfl)⟩ rfl rfl ⟨Nat.le_refl _, Nat.le_refl _⟩ rfl (fun r3 hr3 => ?_)
  exact V_zretR C hr hlk dX6_isRule_6
set_option maxRecDepth 20000 in
theorem ct_X6_isRule (l : Launch) (d : Dt) (p1 : Int32) (z : Int32) (h : f_X6_isRule p1 = some z) : CtR l d yX6_isRule cX6_isRule 1 (some .boolean) (rmF 1 22) [.int p1] ([]) (some (.int z)) :=
  CtR.start (by decide) (Nat.le_of_ble_eq_true rfl) (by simp [Value.category]) [some (.int p1)] rfl (fun x C hr hlk => V_eqv (fun _ => h) (v_X6_isRule C hr hlk z p1))

/-! MastRobots.shelfSlot -/
def f_X6_shelfSlot (p1 : Int32) (p2 : Int32) : Option (Int32) :=
  some ((4 * p1) + p2)
set_option maxRecDepth 20000 in
theorem v_X6_shelfSlot {x : Am} {d : Dt} (C : Cx x cX6_shelfSlot 2 yX6_shelfSlot.cls d (Iro d x.s.heap)) (hr : x.meth.sig.returnType = (some .int)) (hlk : x.meth.locks = false) (z : Int32) (p1 : Int32) (p2 : Int32) : V x (rmF 0 0) 0 0 (MQ x.below (QR (some (.int z))) x.args x.s 0 0 (fun _ => False)) 2 (Iro d x.s.heap) (f_X6_shelfSlot p1 p2 = some z) 0 ([]) [some (.int p1), some (.int p2)] [] := by
  unfold f_X6_shelfSlot
  refine V_iconst (v := 4) C dX6_shelfSlot_0 (by decide) ?_
  refine V_iload_n C 0 dX6_shelfSlot_1 rfl rfl ?_
  refine V_imul C dX6_shelfSlot_2 ?_
  refine V_iload_n C 1 dX6_shelfSlot_3 rfl rfl ?_
  refine V_iadd C dX6_shelfSlot_4 ?_
  exact V_iretR C hr hlk dX6_shelfSlot_5
set_option maxRecDepth 20000 in
theorem ct_X6_shelfSlot (l : Launch) (d : Dt) (p1 : Int32) (p2 : Int32) (z : Int32) (h : f_X6_shelfSlot p1 p2 = some z) : CtR l d yX6_shelfSlot cX6_shelfSlot 2 (some .int) (rmF 0 0) [.int p1, .int p2] ([]) (some (.int z)) :=
  CtR.start (by decide) (Nat.le_of_ble_eq_true rfl) (by simp [Value.category]) [some (.int p1), some (.int p2)] rfl (fun x C hr hlk => V_eqv (fun _ => h) (v_X6_shelfSlot C hr hlk z p1 p2))

/-! MastRobots.isShelf -/
def f_X6_isShelf (p1 : Int32) (p2 : Int32) : Option (Int32) :=
  ((f_X6_isIn p1 0 7).bind fun r4 => (if r4 = 0 then some 0 else ((f_X6_isIn p2 0 3).bind fun r13 => (if r13 = 0 then some 0 else some 1))))
set_option maxRecDepth 20000 in
theorem v_X6_isShelf {x : Am} {d : Dt} (C : Cx x cX6_isShelf 2 yX6_isShelf.cls d (Iro d x.s.heap)) (hr : x.meth.sig.returnType = (some .boolean)) (hlk : x.meth.locks = false) (z : Int32) (p1 : Int32) (p2 : Int32) : V x (rmF 1 22) 0 0 (MQ x.below (QR (some (.int z))) x.args x.s 0 0 (fun _ => False)) 2 (Iro d x.s.heap) (f_X6_isShelf p1 p2 = some z) 0 ([]) [some (.int p1), some (.int p2)] [] := by
  unfold f_X6_isShelf
  refine V_iload_n C 0 dX6_isShelf_0 rfl rfl ?_
  refine V_iconst (v := 0) C dX6_isShelf_1 (by decide) ?_
  refine V_bipush (v := 7) C dX6_isShelf_2 (by decide) ?_
  refine V_callSi (As := [.int p1, .int 0, .int 7]) (rest := []) (wc := []) C (fun r h => ct_X6_isIn _ d p1 0 7 r h) ks_X6_isIn kl_X6_122 [] dX6_isShelf_4 rfl rfl (Nat.le_of_ble_eq_true rfl) ⟨(Nat.le_of_ble_eq_true rfl), (Nat.le_of_ble_eq_true rfl)⟩ rfl rfl ⟨Nat.le_refl _, Nat.le_refl _⟩ rfl (fun r4 hr4 => ?_)
  refine V_if_eq (tgt := 23) C dX6_isShelf_7 (by decide) ?_ ?_
  · refine V_iconst (v := 0) C dX6_isShelf_23 (by decide) ?_
    exact V_zretRc C hr hlk (by decide) dX6_isShelf_24
  · refine V_iload_n C 1 dX6_isShelf_10 rfl rfl ?_
    refine V_iconst (v := 0) C dX6_isShelf_11 (by decide) ?_
    refine V_iconst (v := 3) C dX6_isShelf_12 (by decide) ?_
    refine V_callSi (As := [.int p2, .int 0, .int 3]) (rest := []) (wc := []) C (fun r h => ct_X6_isIn _ d p2 0 3 r h) ks_X6_isIn kl_X6_122 [] dX6_isShelf_13 rfl rfl (Nat.le_of_ble_eq_true rfl) ⟨(Nat.le_of_ble_eq_true rfl), (Nat.le_of_ble_eq_true rfl)⟩ rfl rfl ⟨Nat.le_refl _, Nat.le_refl _⟩ rfl (fun r13 hr13 => ?_)
    refine V_if_eq (tgt := 23) C dX6_isShelf_16 (by decide) ?_ ?_
    · refine V_iconst (v := 0) C dX6_isShelf_23 (by decide) ?_
      exact V_zretRc C hr hlk (by decide) dX6_isShelf_24
    · refine V_iconst (v := 1) C dX6_isShelf_19 (by decide) ?_
      refine V_goto (tgt := 24) C dX6_isShelf_20 (by decide) ?_
      exact V_zretRc C hr hlk (by decide) dX6_isShelf_24
set_option maxRecDepth 20000 in
theorem ct_X6_isShelf (l : Launch) (d : Dt) (p1 : Int32) (p2 : Int32) (z : Int32) (h : f_X6_isShelf p1 p2 = some z) : CtR l d yX6_isShelf cX6_isShelf 2 (some .boolean) (rmF 1 22) [.int p1, .int p2] ([]) (some (.int z)) :=
  CtR.start (by decide) (Nat.le_of_ble_eq_true rfl) (by simp [Value.category]) [some (.int p1), some (.int p2)] rfl (fun x C hr hlk => V_eqv (fun _ => h) (v_X6_isShelf C hr hlk z p1 p2))

/-! MastRobots.found -/
def f_X6_found (p1 : Int32) : Option (Int32) :=
  (if p1 = (-1) then some (-1000004) else some p1)
set_option maxRecDepth 20000 in
theorem v_X6_found {x : Am} {d : Dt} (C : Cx x cX6_found 1 yX6_found.cls d (Iro d x.s.heap)) (hr : x.meth.sig.returnType = (some .int)) (hlk : x.meth.locks = false) (z : Int32) (p1 : Int32) : V x (rmF 0 0) 0 0 (MQ x.below (QR (some (.int z))) x.args x.s 0 0 (fun _ => False)) 1 (Iro d x.s.heap) (f_X6_found p1 = some z) 0 ([]) [some (.int p1)] [] := by
  unfold f_X6_found
  refine V_iload_n C 0 dX6_found_0 rfl rfl ?_
  refine V_iconst (v := (-1)) C dX6_found_1 (by decide) ?_
  refine V_icmp_ne (tgt := 10) C dX6_found_2 (by decide) ?_ ?_
  · refine V_iload_n C 0 dX6_found_10 rfl rfl ?_
    exact V_iretR C hr hlk dX6_found_11
  · refine V_ldc C kc_X6_139 dX6_found_5 ?_
    refine V_goto (tgt := 11) C dX6_found_7 (by decide) ?_
    exact V_iretR C hr hlk dX6_found_11
set_option maxRecDepth 20000 in
theorem ct_X6_found (l : Launch) (d : Dt) (p1 : Int32) (z : Int32) (h : f_X6_found p1 = some z) : CtR l d yX6_found cX6_found 1 (some .int) (rmF 0 0) [.int p1] ([]) (some (.int z)) :=
  CtR.start (by decide) (Nat.le_of_ble_eq_true rfl) (by simp [Value.category]) [some (.int p1)] rfl (fun x C hr hlk => V_eqv (fun _ => h) (v_X6_found C hr hlk z p1))

/-! MastRobots.wallOfDrive -/
def f_X6_wallOfDrive (p1 : Int32) : Option (Int32) :=
  (if p1 = 0 then some 2 else some 6)
set_option maxRecDepth 20000 in
theorem v_X6_wallOfDrive {x : Am} {d : Dt} (C : Cx x cX6_wallOfDrive 1 yX6_wallOfDrive.cls d (Iro d x.s.heap)) (hr : x.meth.sig.returnType = (some .int)) (hlk : x.meth.locks = false) (z : Int32) (p1 : Int32) : V x (rmF 0 0) 0 0 (MQ x.below (QR (some (.int z))) x.args x.s 0 0 (fun _ => False)) 1 (Iro d x.s.heap) (f_X6_wallOfDrive p1 = some z) 0 ([]) [some (.int p1)] [] := by
  unfold f_X6_wallOfDrive
  refine V_iload_n C 0 dX6_wallOfDrive_0 rfl rfl ?_
  refine V_if_ne (tgt := 8) C dX6_wallOfDrive_1 (by decide) ?_ ?_
  · refine V_bipush (v := 6) C dX6_wallOfDrive_8 (by decide) ?_
    exact V_iretR C hr hlk dX6_wallOfDrive_10
  · refine V_iconst (v := 2) C dX6_wallOfDrive_4 (by decide) ?_
    refine V_goto (tgt := 10) C dX6_wallOfDrive_5 (by decide) ?_
    exact V_iretR C hr hlk dX6_wallOfDrive_10
set_option maxRecDepth 20000 in
theorem ct_X6_wallOfDrive (l : Launch) (d : Dt) (p1 : Int32) (z : Int32) (h : f_X6_wallOfDrive p1 = some z) : CtR l d yX6_wallOfDrive cX6_wallOfDrive 1 (some .int) (rmF 0 0) [.int p1] ([]) (some (.int z)) :=
  CtR.start (by decide) (Nat.le_of_ble_eq_true rfl) (by simp [Value.category]) [some (.int p1)] rfl (fun x C hr hlk => V_eqv (fun _ => h) (v_X6_wallOfDrive C hr hlk z p1))

/-! MastRobots.wallsToTheRight -/
def f_X6_wallsToTheRight (p1 : Int32) (p2 : Int32) : Option (Int32) :=
  some (jrem ((p2 - p1) + 8) 8)
set_option maxRecDepth 20000 in
theorem v_X6_wallsToTheRight {x : Am} {d : Dt} (C : Cx x cX6_wallsToTheRight 2 yX6_wallsToTheRight.cls d (Iro d x.s.heap)) (hr : x.meth.sig.returnType = (some .int)) (hlk : x.meth.locks = false) (z : Int32) (p1 : Int32) (p2 : Int32) : V x (rmF 0 0) 0 0 (MQ x.below (QR (some (.int z))) x.args x.s 0 0 (fun _ => False)) 2 (Iro d x.s.heap) (f_X6_wallsToTheRight p1 p2 = some z) 0 ([]) [some (.int p1), some (.int p2)] [] := by
  unfold f_X6_wallsToTheRight
  refine V_iload_n C 1 dX6_wallsToTheRight_0 rfl rfl ?_
  refine V_iload_n C 0 dX6_wallsToTheRight_1 rfl rfl ?_
  refine V_isub C dX6_wallsToTheRight_2 ?_
  refine V_bipush (v := 8) C dX6_wallsToTheRight_3 (by decide) ?_
  refine V_iadd C dX6_wallsToTheRight_5 ?_
  refine V_bipush (v := 8) C dX6_wallsToTheRight_6 (by decide) ?_
  refine V_irem C dX6_wallsToTheRight_8 (by decide) ?_
  exact V_iretR C hr hlk dX6_wallsToTheRight_9
set_option maxRecDepth 20000 in
theorem ct_X6_wallsToTheRight (l : Launch) (d : Dt) (p1 : Int32) (p2 : Int32) (z : Int32) (h : f_X6_wallsToTheRight p1 p2 = some z) : CtR l d yX6_wallsToTheRight cX6_wallsToTheRight 2 (some .int) (rmF 0 0) [.int p1, .int p2] ([]) (some (.int z)) :=
  CtR.start (by decide) (Nat.le_of_ble_eq_true rfl) (by simp [Value.category]) [some (.int p1), some (.int p2)] rfl (fun x C hr hlk => V_eqv (fun _ => h) (v_X6_wallsToTheRight C hr hlk z p1 p2))

/-! MastRobots.distance -/
def f_X6_distance (p1 : Int32) (p2 : Int32) : Option (Int32) :=
  ((f_X6_wallsToTheRight p1 p2).bind fun r2 => (if 4 < r2 then some (8 - r2) else some r2))
set_option maxRecDepth 20000 in
theorem v_X6_distance {x : Am} {d : Dt} (C : Cx x cX6_distance 3 yX6_distance.cls d (Iro d x.s.heap)) (hr : x.meth.sig.returnType = (some .int)) (hlk : x.meth.locks = false) (z : Int32) (p1 : Int32) (p2 : Int32) : V x (rmF 1 21) 0 0 (MQ x.below (QR (some (.int z))) x.args x.s 0 0 (fun _ => False)) 3 (Iro d x.s.heap) (f_X6_distance p1 p2 = some z) 0 ([]) [some (.int p1), some (.int p2), none] [] := by
  unfold f_X6_distance
  refine V_iload_n C 0 dX6_distance_0 rfl rfl ?_
  refine V_iload_n C 1 dX6_distance_1 rfl rfl ?_
  refine V_callSi (As := [.int p1, .int p2]) (rest := []) (wc := []) C (fun r h => ct_X6_wallsToTheRight _ d p1 p2 r h) ks_X6_wallsToTheRight kl_X6_231 [] dX6_distance_2 rfl rfl (Nat.le_of_ble_eq_true rfl) ⟨(Nat.le_of_ble_eq_true rfl), (Nat.le_of_ble_eq_true rfl)⟩ rfl rfl ⟨Nat.le_refl _, Nat.le_refl _⟩ rfl (fun r2 hr2 => ?_)
  refine V_istore_n (lv' := [some (.int p1), some (.int p2), some (.int r2)]) C 2 dX6_distance_5 rfl (by decide) rfl ?_
  refine V_iload_n C 2 dX6_distance_6 rfl rfl ?_
  refine V_iconst (v := 4) C dX6_distance_7 (by decide) ?_
  refine V_icmp_gt (tgt := 15) C dX6_distance_8 (by decide) ?_ ?_
  · refine V_bipush (v := 8) C dX6_distance_15 (by decide) ?_
    refine V_iload_n C 2 dX6_distance_17 rfl rfl ?_
    refine V_isub C dX6_distance_18 ?_
    exact V_iretR C hr hlk dX6_distance_19
  · refine V_iload_n C 2 dX6_distance_11 rfl rfl ?_
    refine V_goto (tgt := 19) C dX6_distance_12 (by decide) ?_
    exact V_iretR C hr hlk dX6_distance_19
set_option maxRecDepth 20000 in
theorem ct_X6_distance (l : Launch) (d : Dt) (p1 : Int32) (p2 : Int32) (z : Int32) (h : f_X6_distance p1 p2 = some z) : CtR l d yX6_distance cX6_distance 3 (some .int) (rmF 1 21) [.int p1, .int p2] ([]) (some (.int z)) :=
  CtR.start (by decide) (Nat.le_of_ble_eq_true rfl) (by simp [Value.category]) [some (.int p1), some (.int p2), none] rfl (fun x C hr hlk => V_eqv (fun _ => h) (v_X6_distance C hr hlk z p1 p2))

/-! MastRobots.mostWallsWith -/
def f_X6_mostWallsWith (p1 : Int32) : Option (Int32) :=
  (if 10 < p1 then (if 20 < p1 then some 1 else some 2) else some 4)
set_option maxRecDepth 20000 in
theorem v_X6_mostWallsWith {x : Am} {d : Dt} (C : Cx x cX6_mostWallsWith 1 yX6_mostWallsWith.cls d (Iro d x.s.heap)) (hr : x.meth.sig.returnType = (some .int)) (hlk : x.meth.locks = false) (z : Int32) (p1 : Int32) : V x (rmF 0 0) 0 0 (MQ x.below (QR (some (.int z))) x.args x.s 0 0 (fun _ => False)) 1 (Iro d x.s.heap) (f_X6_mostWallsWith p1 = some z) 0 ([]) [some (.int p1)] [] := by
  unfold f_X6_mostWallsWith
  refine V_iload_n C 0 dX6_mostWallsWith_0 rfl rfl ?_
  refine V_bipush (v := 10) C dX6_mostWallsWith_1 (by decide) ?_
  refine V_icmp_gt (tgt := 8) C dX6_mostWallsWith_3 (by decide) ?_ ?_
  · refine V_iload_n C 0 dX6_mostWallsWith_8 rfl rfl ?_
    refine V_bipush (v := 20) C dX6_mostWallsWith_9 (by decide) ?_
    refine V_icmp_gt (tgt := 18) C dX6_mostWallsWith_11 (by decide) ?_ ?_
    · refine V_iconst (v := 1) C dX6_mostWallsWith_18 (by decide) ?_
      exact V_iretR C hr hlk dX6_mostWallsWith_19
    · refine V_iconst (v := 2) C dX6_mostWallsWith_14 (by decide) ?_
      refine V_goto (tgt := 19) C dX6_mostWallsWith_15 (by decide) ?_
      exact V_iretR C hr hlk dX6_mostWallsWith_19
  · refine V_iconst (v := 4) C dX6_mostWallsWith_6 (by decide) ?_
    exact V_iretR C hr hlk dX6_mostWallsWith_7
set_option maxRecDepth 20000 in
theorem ct_X6_mostWallsWith (l : Launch) (d : Dt) (p1 : Int32) (z : Int32) (h : f_X6_mostWallsWith p1 = some z) : CtR l d yX6_mostWallsWith cX6_mostWallsWith 1 (some .int) (rmF 0 0) [.int p1] ([]) (some (.int z)) :=
  CtR.start (by decide) (Nat.le_of_ble_eq_true rfl) (by simp [Value.category]) [some (.int p1)] rfl (fun x C hr hlk => V_eqv (fun _ => h) (v_X6_mostWallsWith C hr hlk z p1))

/-! MastRobots$Rows.howOften -/
def f_X5_howOften_b33 (k11 : (Nat → Int32) → Int32 → Int32 → Int32 → Int32 → Option (Int32)) (u : (Nat → Int32)) (v1 : Int32) (v2 : Int32) (v4 : Int32) (v5 : Int32) : Option (Int32) :=
  k11 u v1 v2 v4 (v5 + 1)
def f_X5_howOften_b11 : Nat → (Nat → Int32) → Int32 → Int32 → Int32 → Int32 → Option (Int32)
  | 0, _, _, _, _, _ => none
  | n + 1, u, v1, v2, v4, v5 => (if v4 ≤ v5 then some v2 else (if inb v5 60 = true then (if (u v5.toNatClampNeg) = v1 then f_X5_howOften_b33 (f_X5_howOften_b11 n) u v1 (v2 + 1) v4 v5 else f_X5_howOften_b33 (f_X5_howOften_b11 n) u v1 v2 v4 v5) else none))
def f_X5_howOften (u : (Nat → Int32)) (p1 : Int32) : Option (Int32) :=
  f_X5_howOften_b11 FUEL u p1 0 60 0
set_option maxRecDepth 20000 in
theorem v_X5_howOften_b33 {x : Am} {d : Dt} {a : Nat → Nat} (C : Cx x cX5_howOften 7 yX5_howOften.cls d (Iro d x.s.heap)) (hr : x.meth.sig.returnType = (some .int)) (hlk : x.meth.locks = false) (z : Int32) (k11 : (Nat → Int32) → Int32 → Int32 → Int32 → Int32 → Option (Int32)) (hk11 : ∀ (u : (Nat → Int32))(v1 : Int32)(v2 : Int32)(v4 : Int32)(v5 : Int32), V x (rmF 0 0) 0 0 (MQ x.below (QR (some (.int z))) x.args x.s 0 0 (fun _ => False)) 7 (Iro d x.s.heap) (k11 u v1 v2 v4 v5 = some z) 11 (WA d a u) [none, some (.int v1), some (.int v2), some (.ref (a 0)), some (.int v4), some (.int v5), none] []) (u : (Nat → Int32)) (v1 : Int32) (v2 : Int32) (v4 : Int32) (v5 : Int32) : V x (rmF 0 0) 0 0 (MQ x.below (QR (some (.int z))) x.args x.s 0 0 (fun _ => False)) 7 (Iro d x.s.heap) (f_X5_howOften_b33 k11 u v1 v2 v4 v5 = some z) 33 (WA d a u) [none, some (.int v1), some (.int v2), some (.ref (a 0)), some (.int v4), some (.int v5), none] [] := by
  unfold f_X5_howOften_b33
  refine V_iinc (v := (v5 + 1)) (lv' := [none, some (.int v1), some (.int v2), some (.ref (a 0)), some (.int v4), some (.int (v5 + 1)), none]) C dX5_howOften_33 rfl rfl (by decide) rfl ?_
  refine V_goto (tgt := 11) C dX5_howOften_36 (by decide) ?_
  exact hk11 u v1 v2 v4 (v5 + 1)
set_option maxRecDepth 20000 in
theorem v_X5_howOften_b11 {x : Am} {d : Dt} {a : Nat → Nat} (C : Cx x cX5_howOften 7 yX5_howOften.cls d (Iro d x.s.heap)) (hr : x.meth.sig.returnType = (some .int)) (hlk : x.meth.locks = false) (z : Int32) (n : Nat) (u : (Nat → Int32)) (v1 : Int32) (v2 : Int32) (v4 : Int32) (v5 : Int32) : V x (rmF 0 0) 0 0 (MQ x.below (QR (some (.int z))) x.args x.s 0 0 (fun _ => False)) 7 (Iro d x.s.heap) (f_X5_howOften_b11 n u v1 v2 v4 v5 = some z) 11 (WA d a u) [none, some (.int v1), some (.int v2), some (.ref (a 0)), some (.int v4), some (.int v5), none] [] := by
  induction n generalizing u v1 v2 v4 v5 with
  | zero => exact V_none
  | succ n ih =>
    rw [f_X5_howOften_b11]
    refine V_iload C dX5_howOften_11 rfl ?_
    refine V_iload C dX5_howOften_13 rfl ?_
    refine V_icmp_ge (tgt := 39) C dX5_howOften_15 (by decide) ?_ ?_
    · refine V_iload_n C 2 dX5_howOften_39 rfl rfl ?_
      exact V_iretR C hr hlk dX5_howOften_40
    · refine V_aload_n C 3 dX5_howOften_18 rfl rfl ?_
      refine V_iload C dX5_howOften_19 rfl ?_
      refine V_iald C 0 rfl dX5_howOften_21 ?_
      refine V_istore (lv' := [none, some (.int v1), some (.int v2), some (.ref (a 0)), some (.int v4), some (.int v5), some (.int (u v5.toNatClampNeg))]) C dX5_howOften_22 (by decide) rfl ?_
      refine V_iload C dX5_howOften_24 rfl ?_
      refine V_iload_n C 1 dX5_howOften_26 rfl rfl ?_
      refine V_icmp_ne (tgt := 33) C dX5_howOften_27 (by decide) ?_ ?_
      · refine V_mask (lv' := [none, some (.int v1), some (.int v2), some (.ref (a 0)), some (.int v4), some (.int v5), none]) [true, true, true, true, true, true, false] rfl ?_
        exact v_X5_howOften_b33 C hr hlk z (f_X5_howOften_b11  n) ih u v1 v2 v4 v5
      · refine V_iinc (v := (v2 + 1)) (lv' := [none, some (.int v1), some (.int (v2 + 1)), some (.ref (a 0)), some (.int v4), some (.int v5), some (.int (u v5.toNatClampNeg))]) C dX5_howOften_30 rfl rfl (by decide) rfl ?_
        refine V_mask (lv' := [none, some (.int v1), some (.int (v2 + 1)), some (.ref (a 0)), some (.int v4), some (.int v5), none]) [true, true, true, true, true, true, false] rfl ?_
        exact v_X5_howOften_b33 C hr hlk z (f_X5_howOften_b11  n) ih u v1 (v2 + 1) v4 v5
set_option maxRecDepth 20000 in
theorem v_X5_howOften {x : Am} {d : Dt} {a : Nat → Nat} (C : Cx x cX5_howOften 7 yX5_howOften.cls d (Iro d x.s.heap)) (hr : x.meth.sig.returnType = (some .int)) (hlk : x.meth.locks = false) (z : Int32) (u : (Nat → Int32)) (p1 : Int32) : V x (rmF 0 0) 0 0 (MQ x.below (QR (some (.int z))) x.args x.s 0 0 (fun _ => False)) 7 (Iro d x.s.heap) (f_X5_howOften u p1 = some z) 0 (WA d a u) [some (.ref (a 0)), some (.int p1), none, none, none, none, none] [] := by
  unfold f_X5_howOften
  refine V_iconst (v := 0) C dX5_howOften_0 (by decide) ?_
  refine V_istore_n (lv' := [some (.ref (a 0)), some (.int p1), some (.int 0), none, none, none, none]) C 2 dX5_howOften_1 rfl (by decide) rfl ?_
  refine V_aload_n C 0 dX5_howOften_2 rfl rfl ?_
  refine V_astore_n (lv' := [some (.ref (a 0)), some (.int p1), some (.int 0), some (.ref (a 0)), none, none, none]) C 3 dX5_howOften_3 rfl (by decide) rfl ?_
  refine V_aload_n C 3 dX5_howOften_4 rfl rfl ?_
  refine V_alenI (v := 60) C 0 rfl (by decide) dX5_howOften_5 ?_
  refine V_istore (lv' := [some (.ref (a 0)), some (.int p1), some (.int 0), some (.ref (a 0)), some (.int 60), none, none]) C dX5_howOften_6 (by decide) rfl ?_
  refine V_iconst (v := 0) C dX5_howOften_8 (by decide) ?_
  refine V_istore (lv' := [some (.ref (a 0)), some (.int p1), some (.int 0), some (.ref (a 0)), some (.int 60), some (.int 0), none]) C dX5_howOften_9 (by decide) rfl ?_
  refine V_mask (lv' := [none, some (.int p1), some (.int 0), some (.ref (a 0)), some (.int 60), some (.int 0), none]) [false, true, true, true, true, true, true] rfl ?_
  exact v_X5_howOften_b11 C hr hlk z FUEL u p1 0 60 0
set_option maxRecDepth 20000 in
theorem ct_X5_howOften (l : Launch) (d : Dt) (a : Nat → Nat) (u : (Nat → Int32)) (p1 : Int32) (z : Int32) (h : f_X5_howOften u p1 = some z) : CtR l d yX5_howOften cX5_howOften 7 (some .int) (rmF 0 0) [.ref (a 0), .int p1] (WA d a u) (some (.int z)) :=
  CtR.start (by decide) (Nat.le_of_ble_eq_true rfl) (by simp [Value.category]) [some (.ref (a 0)), some (.int p1), none, none, none, none, none] rfl (fun x C hr hlk => V_eqv (fun _ => h) (v_X5_howOften C hr hlk z u p1))
end
