-- ===== PART A: goes FIRST, ahead of the names: the tables' words, and 'selects' of the private methods out of them =====
/-- a private method of a class that the tables say can be made, by its rows of tables_1 -/
def lw_okq (q : MethodName × Nat) : Prop := (q.1.cls ≠ "java/lang/invoke/MethodHandle" ∧ q.1.cls ≠ "java/lang/invoke/VarHandle") ∧ Cond.instantiable q.1.cls q.2 ∈ tables_1 ∧ Cond.privateMethod q.1 ∈ tables_1 ∧ Cond.instanceMethod q.1 ∈ tables_1
theorem lw_p0 : lw_okq (⟨"CodeShrinker$Reach", "clearMarks", "()V"⟩, 2) := ⟨⟨by decide +kernel, by decide +kernel⟩, List.mem_of_getElem? (i := 92) (by decide +kernel), List.mem_of_getElem? (i := 167) (by decide +kernel), List.mem_of_getElem? (i := 168) (by decide +kernel)⟩
theorem lw_p1 : lw_okq (⟨"CodeShrinker$Reach", "markKept", "()V"⟩, 2) := ⟨⟨by decide +kernel, by decide +kernel⟩, List.mem_of_getElem? (i := 92) (by decide +kernel), List.mem_of_getElem? (i := 188) (by decide +kernel), List.mem_of_getElem? (i := 189) (by decide +kernel)⟩
theorem lw_p2 : lw_okq (⟨"CodeShrinker$Reach", "markLive", "(LCodeShrinker$ProgramMethod;)V"⟩, 2) := ⟨⟨by decide +kernel, by decide +kernel⟩, List.mem_of_getElem? (i := 92) (by decide +kernel), List.mem_of_getElem? (i := 192) (by decide +kernel), List.mem_of_getElem? (i := 193) (by decide +kernel)⟩
theorem lw_p3 : lw_okq (⟨"CodeShrinker$Reach", "markMade", "(LCodeShrinker$ProgramClass;)V"⟩, 2) := ⟨⟨by decide +kernel, by decide +kernel⟩, List.mem_of_getElem? (i := 92) (by decide +kernel), List.mem_of_getElem? (i := 196) (by decide +kernel), List.mem_of_getElem? (i := 197) (by decide +kernel)⟩
theorem lw_p4 : lw_okq (⟨"CodeShrinker$Reach", "spreadFromLive", "()V"⟩, 2) := ⟨⟨by decide +kernel, by decide +kernel⟩, List.mem_of_getElem? (i := 92) (by decide +kernel), List.mem_of_getElem? (i := 200) (by decide +kernel), List.mem_of_getElem? (i := 201) (by decide +kernel)⟩
theorem lw_p5 : lw_okq (⟨"CodeShrinker$Reach", "spread", "(LCodeShrinker$ProgramMethod;)V"⟩, 2) := ⟨⟨by decide +kernel, by decide +kernel⟩, List.mem_of_getElem? (i := 92) (by decide +kernel), List.mem_of_getElem? (i := 204) (by decide +kernel), List.mem_of_getElem? (i := 205) (by decide +kernel)⟩
theorem lw_p6 : lw_okq (⟨"CodeShrinker$Reach", "spreadSelf", "(LCodeShrinker$ProgramClass;LCodeShrinker$Item;)V"⟩, 2) := ⟨⟨by decide +kernel, by decide +kernel⟩, List.mem_of_getElem? (i := 92) (by decide +kernel), List.mem_of_getElem? (i := 220) (by decide +kernel), List.mem_of_getElem? (i := 221) (by decide +kernel)⟩
theorem lw_p7 : lw_okq (⟨"java/util/ArrayList", "fastRemove", "([Ljava/lang/Object;I)V"⟩, 3) := ⟨⟨by decide +kernel, by decide +kernel⟩, List.mem_of_getElem? (i := 40) (by decide +kernel), List.mem_of_getElem? (i := 242) (by decide +kernel), List.mem_of_getElem? (i := 243) (by decide +kernel)⟩
theorem lw_p8 : lw_okq (⟨"CodeShrinker$Program", "isMadeOrAboveMade", "(LCodeShrinker$ProgramClass;)Z"⟩, 2) := ⟨⟨by decide +kernel, by decide +kernel⟩, List.mem_of_getElem? (i := 34) (by decide +kernel), List.mem_of_getElem? (i := 250) (by decide +kernel), List.mem_of_getElem? (i := 251) (by decide +kernel)⟩
theorem lw_p9 : lw_okq (⟨"CodeShrinker$Families", "seeRelatives", "()V"⟩, 8) := ⟨⟨by decide +kernel, by decide +kernel⟩, List.mem_of_getElem? (i := 105) (by decide +kernel), List.mem_of_getElem? (i := 263) (by decide +kernel), List.mem_of_getElem? (i := 264) (by decide +kernel)⟩
theorem lw_p10 : lw_okq (⟨"CodeShrinker$Families", "familyOf", "(LCodeShrinker$ProgramClass;II)I"⟩, 8) := ⟨⟨by decide +kernel, by decide +kernel⟩, List.mem_of_getElem? (i := 105) (by decide +kernel), List.mem_of_getElem? (i := 279) (by decide +kernel), List.mem_of_getElem? (i := 280) (by decide +kernel)⟩
theorem lw_p11 : lw_okq (⟨"CodeShrinker$Families", "open", "(LCodeShrinker$ProgramMethod;)I"⟩, 8) := ⟨⟨by decide +kernel, by decide +kernel⟩, List.mem_of_getElem? (i := 105) (by decide +kernel), List.mem_of_getElem? (i := 286) (by decide +kernel), List.mem_of_getElem? (i := 287) (by decide +kernel)⟩
theorem lw_p12 : lw_okq (⟨"CodeShrinker$Families", "bearers", "(II)I"⟩, 8) := ⟨⟨by decide +kernel, by decide +kernel⟩, List.mem_of_getElem? (i := 105) (by decide +kernel), List.mem_of_getElem? (i := 290) (by decide +kernel), List.mem_of_getElem? (i := 291) (by decide +kernel)⟩
theorem lw_p13 : lw_okq (⟨"CodeShrinker$Families", "joinedTo", "(II)I"⟩, 8) := ⟨⟨by decide +kernel, by decide +kernel⟩, List.mem_of_getElem? (i := 105) (by decide +kernel), List.mem_of_getElem? (i := 298) (by decide +kernel), List.mem_of_getElem? (i := 299) (by decide +kernel)⟩
theorem lw_p14 : lw_okq (⟨"CodeShrinker$Families", "relatedTo", "(I)I"⟩, 8) := ⟨⟨by decide +kernel, by decide +kernel⟩, List.mem_of_getElem? (i := 105) (by decide +kernel), List.mem_of_getElem? (i := 302) (by decide +kernel), List.mem_of_getElem? (i := 303) (by decide +kernel)⟩
theorem lw_p15 : lw_okq (⟨"CodeShrinker$Families", "leastFreeName", "(I)I"⟩, 8) := ⟨⟨by decide +kernel, by decide +kernel⟩, List.mem_of_getElem? (i := 105) (by decide +kernel), List.mem_of_getElem? (i := 310) (by decide +kernel), List.mem_of_getElem? (i := 311) (by decide +kernel)⟩
def lw_privs_1 : List (MethodName × Nat) := [(⟨"CodeShrinker$Reach", "clearMarks", "()V"⟩, 2), (⟨"CodeShrinker$Reach", "markKept", "()V"⟩, 2), (⟨"CodeShrinker$Reach", "markLive", "(LCodeShrinker$ProgramMethod;)V"⟩, 2), (⟨"CodeShrinker$Reach", "markMade", "(LCodeShrinker$ProgramClass;)V"⟩, 2), (⟨"CodeShrinker$Reach", "spreadFromLive", "()V"⟩, 2), (⟨"CodeShrinker$Reach", "spread", "(LCodeShrinker$ProgramMethod;)V"⟩, 2), (⟨"CodeShrinker$Reach", "spreadSelf", "(LCodeShrinker$ProgramClass;LCodeShrinker$Item;)V"⟩, 2), (⟨"java/util/ArrayList", "fastRemove", "([Ljava/lang/Object;I)V"⟩, 3), (⟨"CodeShrinker$Program", "isMadeOrAboveMade", "(LCodeShrinker$ProgramClass;)Z"⟩, 2), (⟨"CodeShrinker$Families", "seeRelatives", "()V"⟩, 8), (⟨"CodeShrinker$Families", "familyOf", "(LCodeShrinker$ProgramClass;II)I"⟩, 8), (⟨"CodeShrinker$Families", "open", "(LCodeShrinker$ProgramMethod;)I"⟩, 8), (⟨"CodeShrinker$Families", "bearers", "(II)I"⟩, 8), (⟨"CodeShrinker$Families", "joinedTo", "(II)I"⟩, 8), (⟨"CodeShrinker$Families", "relatedTo", "(I)I"⟩, 8), (⟨"CodeShrinker$Families", "leastFreeName", "(I)I"⟩, 8)]
theorem lw_r1 : ∀ q ∈ lw_privs_1, lw_okq q := List.forall_mem_cons.mpr ⟨lw_p0, List.forall_mem_cons.mpr ⟨lw_p1, List.forall_mem_cons.mpr ⟨lw_p2, List.forall_mem_cons.mpr ⟨lw_p3, List.forall_mem_cons.mpr ⟨lw_p4, List.forall_mem_cons.mpr ⟨lw_p5, List.forall_mem_cons.mpr ⟨lw_p6, List.forall_mem_cons.mpr ⟨lw_p7, List.forall_mem_cons.mpr ⟨lw_p8, List.forall_mem_cons.mpr ⟨lw_p9, List.forall_mem_cons.mpr ⟨lw_p10, List.forall_mem_cons.mpr ⟨lw_p11, List.forall_mem_cons.mpr ⟨lw_p12, List.forall_mem_cons.mpr ⟨lw_p13, List.forall_mem_cons.mpr ⟨lw_p14, List.forall_mem_cons.mpr ⟨lw_p15, fun _ h => absurd h List.not_mem_nil⟩⟩⟩⟩⟩⟩⟩⟩⟩⟩⟩⟩⟩⟩⟩⟩
theorem lw_p16 : lw_okq (⟨"CodeShrinker$Families", "writeItems", "(LCodeShrinker$ProgramMethod;)V"⟩, 8) := ⟨⟨by decide +kernel, by decide +kernel⟩, List.mem_of_getElem? (i := 105) (by decide +kernel), List.mem_of_getElem? (i := 318) (by decide +kernel), List.mem_of_getElem? (i := 319) (by decide +kernel)⟩
theorem lw_p17 : lw_okq (⟨"CodeShrinker$Families", "newNameOf", "(LCodeShrinker$ProgramClass;II)I"⟩, 8) := ⟨⟨by decide +kernel, by decide +kernel⟩, List.mem_of_getElem? (i := 105) (by decide +kernel), List.mem_of_getElem? (i := 323) (by decide +kernel), List.mem_of_getElem? (i := 324) (by decide +kernel)⟩
theorem lw_p18 : lw_okq (⟨"CodeShrinker", "parentOf", "(I)I"⟩, 5) := ⟨⟨by decide +kernel, by decide +kernel⟩, List.mem_of_getElem? (i := 26) (by decide +kernel), List.mem_of_getElem? (i := 339) (by decide +kernel), List.mem_of_getElem? (i := 340) (by decide +kernel)⟩
theorem lw_p19 : lw_okq (⟨"CodeShrinker", "isClass", "(I)Z"⟩, 5) := ⟨⟨by decide +kernel, by decide +kernel⟩, List.mem_of_getElem? (i := 26) (by decide +kernel), List.mem_of_getElem? (i := 343) (by decide +kernel), List.mem_of_getElem? (i := 344) (by decide +kernel)⟩
theorem lw_p20 : lw_okq (⟨"java/lang/Throwable", "fillInStackTrace", "(I)Ljava/lang/Throwable;"⟩, 6) := ⟨⟨by decide +kernel, by decide +kernel⟩, List.mem_of_getElem? (i := 399) (by decide +kernel), List.mem_of_getElem? (i := 397) (by decide +kernel), List.mem_of_getElem? (i := 398) (by decide +kernel)⟩
theorem lw_p21 : lw_okq (⟨"java/util/ArrayList", "add", "(Ljava/lang/Object;[Ljava/lang/Object;I)V"⟩, 3) := ⟨⟨by decide +kernel, by decide +kernel⟩, List.mem_of_getElem? (i := 40) (by decide +kernel), List.mem_of_getElem? (i := 482) (by decide +kernel), List.mem_of_getElem? (i := 483) (by decide +kernel)⟩
theorem lw_p22 : lw_okq (⟨"java/util/ArrayList", "grow", "()[Ljava/lang/Object;"⟩, 3) := ⟨⟨by decide +kernel, by decide +kernel⟩, List.mem_of_getElem? (i := 40) (by decide +kernel), List.mem_of_getElem? (i := 486) (by decide +kernel), List.mem_of_getElem? (i := 487) (by decide +kernel)⟩
theorem lw_p23 : lw_okq (⟨"java/util/ArrayList", "grow", "(I)[Ljava/lang/Object;"⟩, 3) := ⟨⟨by decide +kernel, by decide +kernel⟩, List.mem_of_getElem? (i := 40) (by decide +kernel), List.mem_of_getElem? (i := 490) (by decide +kernel), List.mem_of_getElem? (i := 491) (by decide +kernel)⟩
theorem lw_p24 : lw_okq (⟨"CodeShrinker", "isMethod", "(I)Z"⟩, 5) := ⟨⟨by decide +kernel, by decide +kernel⟩, List.mem_of_getElem? (i := 26) (by decide +kernel), List.mem_of_getElem? (i := 609) (by decide +kernel), List.mem_of_getElem? (i := 610) (by decide +kernel)⟩
theorem lw_p25 : lw_okq (⟨"CodeShrinker", "isItem", "(IIII)Z"⟩, 5) := ⟨⟨by decide +kernel, by decide +kernel⟩, List.mem_of_getElem? (i := 26) (by decide +kernel), List.mem_of_getElem? (i := 613) (by decide +kernel), List.mem_of_getElem? (i := 614) (by decide +kernel)⟩
theorem lw_p26 : lw_okq (⟨"CodeShrinker", "newItem", "(IIII)LCodeShrinker$Item;"⟩, 5) := ⟨⟨by decide +kernel, by decide +kernel⟩, List.mem_of_getElem? (i := 26) (by decide +kernel), List.mem_of_getElem? (i := 618) (by decide +kernel), List.mem_of_getElem? (i := 619) (by decide +kernel)⟩
theorem lw_p27 : lw_okq (⟨"CodeShrinker$Runner", "perform", "(LCodeShrinker$ProgramClass;III)V"⟩, 2) := ⟨⟨by decide +kernel, by decide +kernel⟩, List.mem_of_getElem? (i := 79) (by decide +kernel), List.mem_of_getElem? (i := 676) (by decide +kernel), List.mem_of_getElem? (i := 677) (by decide +kernel)⟩
theorem lw_p28 : lw_okq (⟨"CodeShrinker$Runner", "performItem", "(LCodeShrinker$Item;LCodeShrinker$ProgramClass;I)V"⟩, 2) := ⟨⟨by decide +kernel, by decide +kernel⟩, List.mem_of_getElem? (i := 79) (by decide +kernel), List.mem_of_getElem? (i := 703) (by decide +kernel), List.mem_of_getElem? (i := 704) (by decide +kernel)⟩
theorem lw_p29 : lw_okq (⟨"CodeShrinkerModel", "isClass", "(I)Z"⟩, 31) := ⟨⟨by decide +kernel, by decide +kernel⟩, List.mem_of_getElem? (i := 737) (by decide +kernel), List.mem_of_getElem? (i := 845) (by decide +kernel), List.mem_of_getElem? (i := 846) (by decide +kernel)⟩
theorem lw_p30 : lw_okq (⟨"CodeShrinkerModel", "bad", "(Z)Z"⟩, 31) := ⟨⟨by decide +kernel, by decide +kernel⟩, List.mem_of_getElem? (i := 737) (by decide +kernel), List.mem_of_getElem? (i := 852) (by decide +kernel), List.mem_of_getElem? (i := 853) (by decide +kernel)⟩
theorem lw_p31 : lw_okq (⟨"CodeShrinkerModel", "fail", "(I)I"⟩, 31) := ⟨⟨by decide +kernel, by decide +kernel⟩, List.mem_of_getElem? (i := 737) (by decide +kernel), List.mem_of_getElem? (i := 856) (by decide +kernel), List.mem_of_getElem? (i := 857) (by decide +kernel)⟩
def lw_privs_2 : List (MethodName × Nat) := [(⟨"CodeShrinker$Families", "writeItems", "(LCodeShrinker$ProgramMethod;)V"⟩, 8), (⟨"CodeShrinker$Families", "newNameOf", "(LCodeShrinker$ProgramClass;II)I"⟩, 8), (⟨"CodeShrinker", "parentOf", "(I)I"⟩, 5), (⟨"CodeShrinker", "isClass", "(I)Z"⟩, 5), (⟨"java/lang/Throwable", "fillInStackTrace", "(I)Ljava/lang/Throwable;"⟩, 6), (⟨"java/util/ArrayList", "add", "(Ljava/lang/Object;[Ljava/lang/Object;I)V"⟩, 3), (⟨"java/util/ArrayList", "grow", "()[Ljava/lang/Object;"⟩, 3), (⟨"java/util/ArrayList", "grow", "(I)[Ljava/lang/Object;"⟩, 3), (⟨"CodeShrinker", "isMethod", "(I)Z"⟩, 5), (⟨"CodeShrinker", "isItem", "(IIII)Z"⟩, 5), (⟨"CodeShrinker", "newItem", "(IIII)LCodeShrinker$Item;"⟩, 5), (⟨"CodeShrinker$Runner", "perform", "(LCodeShrinker$ProgramClass;III)V"⟩, 2), (⟨"CodeShrinker$Runner", "performItem", "(LCodeShrinker$Item;LCodeShrinker$ProgramClass;I)V"⟩, 2), (⟨"CodeShrinkerModel", "isClass", "(I)Z"⟩, 31), (⟨"CodeShrinkerModel", "bad", "(Z)Z"⟩, 31), (⟨"CodeShrinkerModel", "fail", "(I)I"⟩, 31)]
theorem lw_r2 : ∀ q ∈ lw_privs_2, lw_okq q := List.forall_mem_cons.mpr ⟨lw_p16, List.forall_mem_cons.mpr ⟨lw_p17, List.forall_mem_cons.mpr ⟨lw_p18, List.forall_mem_cons.mpr ⟨lw_p19, List.forall_mem_cons.mpr ⟨lw_p20, List.forall_mem_cons.mpr ⟨lw_p21, List.forall_mem_cons.mpr ⟨lw_p22, List.forall_mem_cons.mpr ⟨lw_p23, List.forall_mem_cons.mpr ⟨lw_p24, List.forall_mem_cons.mpr ⟨lw_p25, List.forall_mem_cons.mpr ⟨lw_p26, List.forall_mem_cons.mpr ⟨lw_p27, List.forall_mem_cons.mpr ⟨lw_p28, List.forall_mem_cons.mpr ⟨lw_p29, List.forall_mem_cons.mpr ⟨lw_p30, List.forall_mem_cons.mpr ⟨lw_p31, fun _ h => absurd h List.not_mem_nil⟩⟩⟩⟩⟩⟩⟩⟩⟩⟩⟩⟩⟩⟩⟩⟩
theorem lw_p32 : lw_okq (⟨"CodeShrinkerModel", "own", "(III)I"⟩, 31) := ⟨⟨by decide +kernel, by decide +kernel⟩, List.mem_of_getElem? (i := 737) (by decide +kernel), List.mem_of_getElem? (i := 864) (by decide +kernel), List.mem_of_getElem? (i := 865) (by decide +kernel)⟩
theorem lw_p33 : lw_okq (⟨"CodeShrinkerModel", "isMethod", "(I)Z"⟩, 31) := ⟨⟨by decide +kernel, by decide +kernel⟩, List.mem_of_getElem? (i := 737) (by decide +kernel), List.mem_of_getElem? (i := 872) (by decide +kernel), List.mem_of_getElem? (i := 873) (by decide +kernel)⟩
theorem lw_p34 : lw_okq (⟨"CodeShrinkerModel", "find", "(III)I"⟩, 31) := ⟨⟨by decide +kernel, by decide +kernel⟩, List.mem_of_getElem? (i := 737) (by decide +kernel), List.mem_of_getElem? (i := 884) (by decide +kernel), List.mem_of_getElem? (i := 885) (by decide +kernel)⟩
theorem lw_p35 : lw_okq (⟨"CodeShrinkerModel", "findLive", "()V"⟩, 31) := ⟨⟨by decide +kernel, by decide +kernel⟩, List.mem_of_getElem? (i := 737) (by decide +kernel), List.mem_of_getElem? (i := 892) (by decide +kernel), List.mem_of_getElem? (i := 893) (by decide +kernel)⟩
theorem lw_p36 : lw_okq (⟨"CodeShrinkerModel", "need", "(II)Z"⟩, 31) := ⟨⟨by decide +kernel, by decide +kernel⟩, List.mem_of_getElem? (i := 737) (by decide +kernel), List.mem_of_getElem? (i := 896) (by decide +kernel), List.mem_of_getElem? (i := 897) (by decide +kernel)⟩
theorem lw_p37 : lw_okq (⟨"CodeShrinkerModel", "enliven", "(II)Z"⟩, 31) := ⟨⟨by decide +kernel, by decide +kernel⟩, List.mem_of_getElem? (i := 737) (by decide +kernel), List.mem_of_getElem? (i := 900) (by decide +kernel), List.mem_of_getElem? (i := 901) (by decide +kernel)⟩
theorem lw_p38 : lw_okq (⟨"CodeShrinkerModel", "above", "(II)Z"⟩, 31) := ⟨⟨by decide +kernel, by decide +kernel⟩, List.mem_of_getElem? (i := 737) (by decide +kernel), List.mem_of_getElem? (i := 904) (by decide +kernel), List.mem_of_getElem? (i := 905) (by decide +kernel)⟩
theorem lw_p39 : lw_okq (⟨"CodeShrinkerModel", "moveMethod", "(II)V"⟩, 31) := ⟨⟨by decide +kernel, by decide +kernel⟩, List.mem_of_getElem? (i := 737) (by decide +kernel), List.mem_of_getElem? (i := 908) (by decide +kernel), List.mem_of_getElem? (i := 909) (by decide +kernel)⟩
theorem lw_p40 : lw_okq (⟨"CodeShrinkerModel", "gather", "()I"⟩, 31) := ⟨⟨by decide +kernel, by decide +kernel⟩, List.mem_of_getElem? (i := 737) (by decide +kernel), List.mem_of_getElem? (i := 916) (by decide +kernel), List.mem_of_getElem? (i := 917) (by decide +kernel)⟩
theorem lw_p41 : lw_okq (⟨"CodeShrinkerModel", "member", "(IIII)V"⟩, 31) := ⟨⟨by decide +kernel, by decide +kernel⟩, List.mem_of_getElem? (i := 737) (by decide +kernel), List.mem_of_getElem? (i := 920) (by decide +kernel), List.mem_of_getElem? (i := 921) (by decide +kernel)⟩
theorem lw_p42 : lw_okq (⟨"CodeShrinkerModel", "alike", "(II)Z"⟩, 31) := ⟨⟨by decide +kernel, by decide +kernel⟩, List.mem_of_getElem? (i := 737) (by decide +kernel), List.mem_of_getElem? (i := 924) (by decide +kernel), List.mem_of_getElem? (i := 925) (by decide +kernel)⟩
theorem lw_p43 : lw_okq (⟨"CodeShrinkerModel", "related", "(II)Z"⟩, 31) := ⟨⟨by decide +kernel, by decide +kernel⟩, List.mem_of_getElem? (i := 737) (by decide +kernel), List.mem_of_getElem? (i := 928) (by decide +kernel), List.mem_of_getElem? (i := 929) (by decide +kernel)⟩
theorem lw_p44 : lw_okq (⟨"CodeShrinkerModel", "keptFamily", "(I)Z"⟩, 31) := ⟨⟨by decide +kernel, by decide +kernel⟩, List.mem_of_getElem? (i := 737) (by decide +kernel), List.mem_of_getElem? (i := 932) (by decide +kernel), List.mem_of_getElem? (i := 933) (by decide +kernel)⟩
theorem lw_p45 : lw_okq (⟨"CodeShrinkerModel", "freeName", "(II)I"⟩, 31) := ⟨⟨by decide +kernel, by decide +kernel⟩, List.mem_of_getElem? (i := 737) (by decide +kernel), List.mem_of_getElem? (i := 936) (by decide +kernel), List.mem_of_getElem? (i := 937) (by decide +kernel)⟩
theorem lw_p46 : lw_okq (⟨"CodeShrinkerModel", "clash", "(III)Z"⟩, 31) := ⟨⟨by decide +kernel, by decide +kernel⟩, List.mem_of_getElem? (i := 737) (by decide +kernel), List.mem_of_getElem? (i := 940) (by decide +kernel), List.mem_of_getElem? (i := 941) (by decide +kernel)⟩
def lw_privs_3 : List (MethodName × Nat) := [(⟨"CodeShrinkerModel", "own", "(III)I"⟩, 31), (⟨"CodeShrinkerModel", "isMethod", "(I)Z"⟩, 31), (⟨"CodeShrinkerModel", "find", "(III)I"⟩, 31), (⟨"CodeShrinkerModel", "findLive", "()V"⟩, 31), (⟨"CodeShrinkerModel", "need", "(II)Z"⟩, 31), (⟨"CodeShrinkerModel", "enliven", "(II)Z"⟩, 31), (⟨"CodeShrinkerModel", "above", "(II)Z"⟩, 31), (⟨"CodeShrinkerModel", "moveMethod", "(II)V"⟩, 31), (⟨"CodeShrinkerModel", "gather", "()I"⟩, 31), (⟨"CodeShrinkerModel", "member", "(IIII)V"⟩, 31), (⟨"CodeShrinkerModel", "alike", "(II)Z"⟩, 31), (⟨"CodeShrinkerModel", "related", "(II)Z"⟩, 31), (⟨"CodeShrinkerModel", "keptFamily", "(I)Z"⟩, 31), (⟨"CodeShrinkerModel", "freeName", "(II)I"⟩, 31), (⟨"CodeShrinkerModel", "clash", "(III)Z"⟩, 31)]
theorem lw_r3 : ∀ q ∈ lw_privs_3, lw_okq q := List.forall_mem_cons.mpr ⟨lw_p32, List.forall_mem_cons.mpr ⟨lw_p33, List.forall_mem_cons.mpr ⟨lw_p34, List.forall_mem_cons.mpr ⟨lw_p35, List.forall_mem_cons.mpr ⟨lw_p36, List.forall_mem_cons.mpr ⟨lw_p37, List.forall_mem_cons.mpr ⟨lw_p38, List.forall_mem_cons.mpr ⟨lw_p39, List.forall_mem_cons.mpr ⟨lw_p40, List.forall_mem_cons.mpr ⟨lw_p41, List.forall_mem_cons.mpr ⟨lw_p42, List.forall_mem_cons.mpr ⟨lw_p43, List.forall_mem_cons.mpr ⟨lw_p44, List.forall_mem_cons.mpr ⟨lw_p45, List.forall_mem_cons.mpr ⟨lw_p46, fun _ h => absurd h List.not_mem_nil⟩⟩⟩⟩⟩⟩⟩⟩⟩⟩⟩⟩⟩⟩⟩
def lw_privs : List (MethodName × Nat) := lw_privs_1 ++ (lw_privs_2 ++ (lw_privs_3))
def lw_tbl : List Cond := k2_sels lw_privs ++ tables_1
theorem lw_privs_ok : ∀ q ∈ lw_privs, lw_okq q := by
  show ∀ q ∈ lw_privs_1 ++ (lw_privs_2 ++ (lw_privs_3)), lw_okq q
  exact List.forall_mem_append.mpr ⟨lw_r1, List.forall_mem_append.mpr ⟨lw_r2, lw_r3⟩⟩

def R_Fa : String := "CodeShrinker$Families"
def F_Fa : u_T := fun k => match k with
  | 0 => ("CodeShrinker$Families", "program", "LCodeShrinker$Program;", true)
  | 1 => ("CodeShrinker$Families", "relatives", "[I", true)
  | 2 => ("CodeShrinker$Families", "names", "[I", true)
  | 3 => ("CodeShrinker$Families", "arities", "[I", true)
  | 4 => ("CodeShrinker$Families", "members", "[I", true)
  | 5 => ("CodeShrinker$Families", "newNames", "[I", true)
  | 6 => ("CodeShrinker$Families", "kept", "[Z", true)
  | _ => ("CodeShrinker$Families", "size", "I", false)
def tt_Fa : Nat → FieldType := fun k => match k with
  | 0 => .object "CodeShrinker$Program"
  | 1 => .array .int
  | 2 => .array .int
  | 3 => .array .int
  | 4 => .array .int
  | 5 => .array .int
  | 6 => .array .boolean
  | _ => .int
theorem n_Fa : ∀ a, a < 8 → ∀ b, b < 8 → a ≠ b → (F_Fa a).2.1 ≠ (F_Fa b).2.1 := by decide +kernel
theorem tt_Fa_ok : ∀ k, k < 8 → parseFieldDescriptor (F_Fa k).2.2.1 = some (tt_Fa k) := by decide +kernel
def R_It : String := "CodeShrinker$Item"
def F_It : u_T := fun k => match k with
  | 0 => ("CodeShrinker$Item", "kind", "I", true)
  | 1 => ("CodeShrinker$Item", "value", "I", true)
  | 2 => ("CodeShrinker$Item", "target", "LCodeShrinker$ProgramClass;", true)
  | 3 => ("CodeShrinker$Item", "arity", "I", true)
  | _ => ("CodeShrinker$Item", "name", "I", false)
def tt_It : Nat → FieldType := fun k => match k with
  | 0 => .int
  | 1 => .int
  | 2 => .object "CodeShrinker$ProgramClass"
  | 3 => .int
  | _ => .int
theorem n_It : ∀ a, a < 5 → ∀ b, b < 5 → a ≠ b → (F_It a).2.1 ≠ (F_It b).2.1 := by decide +kernel
theorem tt_It_ok : ∀ k, k < 5 → parseFieldDescriptor (F_It k).2.2.1 = some (tt_It k) := by decide +kernel
def R_Pr : String := "CodeShrinker$Program"
def F_Pr : u_T := fun k => match k with
  | 0 => ("CodeShrinker$Program", "classes", "Ljava/util/ArrayList;", true)
  | _ => ("CodeShrinker$Program", "methods", "Ljava/util/ArrayList;", true)
def tt_Pr : Nat → FieldType := fun k => match k with
  | 0 => .object "java/util/ArrayList"
  | _ => .object "java/util/ArrayList"
theorem n_Pr : ∀ a, a < 2 → ∀ b, b < 2 → a ≠ b → (F_Pr a).2.1 ≠ (F_Pr b).2.1 := by decide +kernel
theorem tt_Pr_ok : ∀ k, k < 2 → parseFieldDescriptor (F_Pr k).2.2.1 = some (tt_Pr k) := by decide +kernel
def R_Pc : String := "CodeShrinker$ProgramClass"
def F_Pc : u_T := fun k => match k with
  | 0 => ("CodeShrinker$ProgramClass", "parent", "LCodeShrinker$ProgramClass;", true)
  | 1 => ("CodeShrinker$ProgramClass", "firstNumber", "I", true)
  | 2 => ("CodeShrinker$ProgramClass", "methods", "Ljava/util/ArrayList;", true)
  | 3 => ("CodeShrinker$ProgramClass", "number", "I", false)
  | _ => ("CodeShrinker$ProgramClass", "made", "Z", false)
def tt_Pc : Nat → FieldType := fun k => match k with
  | 0 => .object "CodeShrinker$ProgramClass"
  | 1 => .int
  | 2 => .object "java/util/ArrayList"
  | 3 => .int
  | _ => .boolean
theorem n_Pc : ∀ a, a < 5 → ∀ b, b < 5 → a ≠ b → (F_Pc a).2.1 ≠ (F_Pc b).2.1 := by decide +kernel
theorem tt_Pc_ok : ∀ k, k < 5 → parseFieldDescriptor (F_Pc k).2.2.1 = some (tt_Pc k) := by decide +kernel
def R_Pm : String := "CodeShrinker$ProgramMethod"
def F_Pm : u_T := fun k => match k with
  | 0 => ("CodeShrinker$ProgramMethod", "owner", "LCodeShrinker$ProgramClass;", true)
  | 1 => ("CodeShrinker$ProgramMethod", "firstNumber", "I", true)
  | 2 => ("CodeShrinker$ProgramMethod", "firstName", "I", true)
  | 3 => ("CodeShrinker$ProgramMethod", "arity", "I", true)
  | 4 => ("CodeShrinker$ProgramMethod", "items", "Ljava/util/ArrayList;", true)
  | 5 => ("CodeShrinker$ProgramMethod", "name", "I", false)
  | 6 => ("CodeShrinker$ProgramMethod", "kept", "Z", false)
  | _ => ("CodeShrinker$ProgramMethod", "live", "Z", false)
def tt_Pm : Nat → FieldType := fun k => match k with
  | 0 => .object "CodeShrinker$ProgramClass"
  | 1 => .int
  | 2 => .int
  | 3 => .int
  | 4 => .object "java/util/ArrayList"
  | 5 => .int
  | 6 => .boolean
  | _ => .boolean
theorem n_Pm : ∀ a, a < 8 → ∀ b, b < 8 → a ≠ b → (F_Pm a).2.1 ≠ (F_Pm b).2.1 := by decide +kernel
theorem tt_Pm_ok : ∀ k, k < 8 → parseFieldDescriptor (F_Pm k).2.2.1 = some (tt_Pm k) := by decide +kernel
def R_Re : String := "CodeShrinker$Reach"
def F_Re : u_T := fun k => match k with
  | 0 => ("CodeShrinker$Reach", "program", "LCodeShrinker$Program;", true)
  | _ => ("CodeShrinker$Reach", "grew", "Z", false)
def tt_Re : Nat → FieldType := fun k => match k with
  | 0 => .object "CodeShrinker$Program"
  | _ => .boolean
theorem n_Re : ∀ a, a < 2 → ∀ b, b < 2 → a ≠ b → (F_Re a).2.1 ≠ (F_Re b).2.1 := by decide +kernel
theorem tt_Re_ok : ∀ k, k < 2 → parseFieldDescriptor (F_Re k).2.2.1 = some (tt_Re k) := by decide +kernel
def R_Ru : String := "CodeShrinker$Runner"
def F_Ru : u_T := fun k => match k with
  | 0 => ("CodeShrinker$Runner", "outcome", "I", false)
  | _ => ("CodeShrinker$Runner", "itemsDone", "I", false)
def tt_Ru : Nat → FieldType := fun k => match k with
  | 0 => .int
  | _ => .int
theorem n_Ru : ∀ a, a < 2 → ∀ b, b < 2 → a ≠ b → (F_Ru a).2.1 ≠ (F_Ru b).2.1 := by decide +kernel
theorem tt_Ru_ok : ∀ k, k < 2 → parseFieldDescriptor (F_Ru k).2.2.1 = some (tt_Ru k) := by decide +kernel
def R_Cs : String := "CodeShrinker"
def F_Cs : u_T := fun k => match k with
  | 0 => ("CodeShrinker", "program", "LCodeShrinker$Program;", true)
  | 1 => ("CodeShrinker", "runner", "LCodeShrinker$Runner;", true)
  | 2 => ("CodeShrinker", "reach", "LCodeShrinker$Reach;", true)
  | 3 => ("CodeShrinker", "families", "LCodeShrinker$Families;", true)
  | _ => ("CodeShrinker", "goneInAll", "I", false)
def tt_Cs : Nat → FieldType := fun k => match k with
  | 0 => .object "CodeShrinker$Program"
  | 1 => .object "CodeShrinker$Runner"
  | 2 => .object "CodeShrinker$Reach"
  | 3 => .object "CodeShrinker$Families"
  | _ => .int
theorem n_Cs : ∀ a, a < 5 → ∀ b, b < 5 → a ≠ b → (F_Cs a).2.1 ≠ (F_Cs b).2.1 := by decide +kernel
theorem tt_Cs_ok : ∀ k, k < 5 → parseFieldDescriptor (F_Cs k).2.2.1 = some (tt_Cs k) := by decide +kernel
def R_Mo : String := "CodeShrinkerModel"
def F_Mo : u_T := fun k => match k with
  | 0 => ("CodeShrinkerModel", "parent", "[I", true)
  | 1 => ("CodeShrinkerModel", "classBorn", "[I", true)
  | 2 => ("CodeShrinkerModel", "of", "[I", true)
  | 3 => ("CodeShrinkerModel", "name", "[I", true)
  | 4 => ("CodeShrinkerModel", "arity", "[I", true)
  | 5 => ("CodeShrinkerModel", "items", "[I", true)
  | 6 => ("CodeShrinkerModel", "born", "[I", true)
  | 7 => ("CodeShrinkerModel", "bornName", "[I", true)
  | 8 => ("CodeShrinkerModel", "bornClass", "[I", true)
  | 9 => ("CodeShrinkerModel", "kept", "[Z", true)
  | 10 => ("CodeShrinkerModel", "live", "[Z", true)
  | 11 => ("CodeShrinkerModel", "made", "[Z", true)
  | 12 => ("CodeShrinkerModel", "kind", "[I", true)
  | 13 => ("CodeShrinkerModel", "a", "[I", true)
  | 14 => ("CodeShrinkerModel", "b", "[I", true)
  | 15 => ("CodeShrinkerModel", "c", "[I", true)
  | 16 => ("CodeShrinkerModel", "classes", "I", false)
  | 17 => ("CodeShrinkerModel", "methods", "I", false)
  | 18 => ("CodeShrinkerModel", "gone", "I", false)
  | 19 => ("CodeShrinkerModel", "thrown", "I", false)
  | 20 => ("CodeShrinkerModel", "family", "[I", true)
  | 21 => ("CodeShrinkerModel", "memberClass", "[I", true)
  | 22 => ("CodeShrinkerModel", "memberName", "[I", true)
  | 23 => ("CodeShrinkerModel", "memberArity", "[I", true)
  | 24 => ("CodeShrinkerModel", "fresh", "[I", true)
  | 25 => ("CodeShrinkerModel", "newNames", "[I", true)
  | 26 => ("CodeShrinkerModel", "newNumber", "[I", true)
  | 27 => ("CodeShrinkerModel", "newClass", "[I", true)
  | 28 => ("CodeShrinkerModel", "running", "[I", true)
  | 29 => ("CodeShrinkerModel", "at", "[I", true)
  | _ => ("CodeShrinkerModel", "worker", "[I", true)
def tt_Mo : Nat → FieldType := fun k => match k with
  | 0 => .array .int
  | 1 => .array .int
  | 2 => .array .int
  | 3 => .array .int
  | 4 => .array .int
  | 5 => .array .int
  | 6 => .array .int
  | 7 => .array .int
  | 8 => .array .int
  | 9 => .array .boolean
  | 10 => .array .boolean
  | 11 => .array .boolean
  | 12 => .array .int
  | 13 => .array .int
  | 14 => .array .int
  | 15 => .array .int
  | 16 => .int
  | 17 => .int
  | 18 => .int
  | 19 => .int
  | 20 => .array .int
  | 21 => .array .int
  | 22 => .array .int
  | 23 => .array .int
  | 24 => .array .int
  | 25 => .array .int
  | 26 => .array .int
  | 27 => .array .int
  | 28 => .array .int
  | 29 => .array .int
  | _ => .array .int
theorem n_Mo : ∀ a, a < 31 → ∀ b, b < 31 → a ≠ b → (F_Mo a).2.1 ≠ (F_Mo b).2.1 := by decide +kernel
theorem tt_Mo_ok : ∀ k, k < 31 → parseFieldDescriptor (F_Mo k).2.2.1 = some (tt_Mo k) := by decide +kernel
def R_Al : String := "java/util/ArrayList"
def F_Al : u_T := fun k => match k with
  | 0 => ("java/util/ArrayList", "elementData", "[Ljava/lang/Object;", false)
  | 1 => ("java/util/ArrayList", "size", "I", false)
  | _ => ("java/util/AbstractList", "modCount", "I", false)
def tt_Al : Nat → FieldType := fun k => match k with
  | 0 => .array (.object "java/lang/Object")
  | 1 => .int
  | _ => .int
theorem n_Al : ∀ a, a < 3 → ∀ b, b < 3 → a ≠ b → (F_Al a).2.1 ≠ (F_Al b).2.1 := by decide +kernel
theorem tt_Al_ok : ∀ k, k < 3 → parseFieldDescriptor (F_Al k).2.2.1 = some (tt_Al k) := by decide +kernel
def vCl : List vw_C := [(R_Fa, F_Fa, 8), (R_It, F_It, 5), (R_Pr, F_Pr, 2), (R_Pc, F_Pc, 5), (R_Pm, F_Pm, 8), (R_Re, F_Re, 2), (R_Ru, F_Ru, 2), (R_Cs, F_Cs, 5), (R_Mo, F_Mo, 31), (R_Al, F_Al, 3)]
abbrev vM : Type := MethodName × ByteArray × Nat × Option FieldType × List (Nat × Nat × Nat × Nat)
def y_Cs_init : MethodName := ⟨"CodeShrinker", "<init>", "()V"⟩
abbrev b_Cs_init : ByteArray := prog_1_method_1_code
def M_Cs_init : vM := (y_Cs_init, b_Cs_init, 1, none, [])
def y_Ob_init : MethodName := ⟨"java/lang/Object", "<init>", "()V"⟩
abbrev b_Ob_init : ByteArray := object_method_1_code
def M_Ob_init : vM := (y_Ob_init, b_Ob_init, 1, none, [])
def y_Pr_init : MethodName := ⟨"CodeShrinker$Program", "<init>", "()V"⟩
abbrev b_Pr_init : ByteArray := prog_4_method_1_code
def M_Pr_init : vM := (y_Pr_init, b_Pr_init, 1, none, [])
def y_Al_init : MethodName := ⟨"java/util/ArrayList", "<init>", "()V"⟩
abbrev b_Al_init : ByteArray := prog_24_method_2_code
def M_Al_init : vM := (y_Al_init, b_Al_init, 1, none, [])
def y_Ab_init : MethodName := ⟨"java/util/AbstractList", "<init>", "()V"⟩
abbrev b_Ab_init : ByteArray := prog_23_method_1_code
def M_Ab_init : vM := (y_Ab_init, b_Ab_init, 1, none, [])
def y_Ac_init : MethodName := ⟨"java/util/AbstractCollection", "<init>", "()V"⟩
abbrev b_Ac_init : ByteArray := prog_22_method_1_code
def M_Ac_init : vM := (y_Ac_init, b_Ac_init, 1, none, [])
def y_Ru_init : MethodName := ⟨"CodeShrinker$Runner", "<init>", "()V"⟩
abbrev b_Ru_init : ByteArray := prog_8_method_1_code
def M_Ru_init : vM := (y_Ru_init, b_Ru_init, 1, none, [])
def y_Re_init : MethodName := ⟨"CodeShrinker$Reach", "<init>", "(LCodeShrinker$Program;)V"⟩
abbrev b_Re_init : ByteArray := prog_7_method_1_code
def M_Re_init : vM := (y_Re_init, b_Re_init, 2, none, [])
def y_Fa_init : MethodName := ⟨"CodeShrinker$Families", "<init>", "(LCodeShrinker$Program;)V"⟩
abbrev b_Fa_init : ByteArray := prog_2_method_1_code
def M_Fa_init : vM := (y_Fa_init, b_Fa_init, 2, none, [])
def y_Cs_shrink : MethodName := ⟨"CodeShrinker", "shrink", "()I"⟩
abbrev b_Cs_shrink : ByteArray := prog_1_method_7_code
def M_Cs_shrink : vM := (y_Cs_shrink, b_Cs_shrink, 3, (some .int), [])
def y_Al_size : MethodName := ⟨"java/util/ArrayList", "size", "()I"⟩
abbrev b_Al_size : ByteArray := prog_24_method_8_code
def M_Al_size : vM := (y_Al_size, b_Al_size, 1, (some .int), [])
def y_Re_mark : MethodName := ⟨"CodeShrinker$Reach", "mark", "()V"⟩
abbrev b_Re_mark : ByteArray := prog_7_method_2_code
def M_Re_mark : vM := (y_Re_mark, b_Re_mark, 2, none, [])
def y_Re_clearMarks : MethodName := ⟨"CodeShrinker$Reach", "clearMarks", "()V"⟩
abbrev b_Re_clearMarks : ByteArray := prog_7_method_3_code
def M_Re_clearMarks : vM := (y_Re_clearMarks, b_Re_clearMarks, 2, none, [])
def y_Al_get : MethodName := ⟨"java/util/ArrayList", "get", "(I)Ljava/lang/Object;"⟩
abbrev b_Al_get : ByteArray := prog_24_method_20_code
def M_Al_get : vM := (y_Al_get, b_Al_get, 2, (some (.object "java/lang/Object")), [])
def y_Os_checkIndex : MethodName := ⟨"java/util/Objects", "checkIndex", "(II)I"⟩
abbrev b_Os_checkIndex : ByteArray := prog_29_method_17_code
def M_Os_checkIndex : vM := (y_Os_checkIndex, b_Os_checkIndex, 2, (some .int), [])
def y_Pd_checkIndex : MethodName := ⟨"jdk/internal/util/Preconditions", "checkIndex", "(IILjava/util/function/BiFunction;)I"⟩
abbrev b_Pd_checkIndex : ByteArray := prog_33_method_11_code
def M_Pd_checkIndex : vM := (y_Pd_checkIndex, b_Pd_checkIndex, 3, (some .int), [])
def y_Al_elementData : MethodName := ⟨"java/util/ArrayList", "elementData", "(I)Ljava/lang/Object;"⟩
abbrev b_Al_elementData : ByteArray := prog_24_method_18_code
def M_Al_elementData : vM := (y_Al_elementData, b_Al_elementData, 2, (some (.object "java/lang/Object")), [])
def y_Re_markKept : MethodName := ⟨"CodeShrinker$Reach", "markKept", "()V"⟩
abbrev b_Re_markKept : ByteArray := prog_7_method_4_code
def M_Re_markKept : vM := (y_Re_markKept, b_Re_markKept, 3, none, [])
def y_Re_markLive : MethodName := ⟨"CodeShrinker$Reach", "markLive", "(LCodeShrinker$ProgramMethod;)V"⟩
abbrev b_Re_markLive : ByteArray := prog_7_method_8_code
def M_Re_markLive : vM := (y_Re_markLive, b_Re_markLive, 2, none, [])
def y_Re_markMade : MethodName := ⟨"CodeShrinker$Reach", "markMade", "(LCodeShrinker$ProgramClass;)V"⟩
abbrev b_Re_markMade : ByteArray := prog_7_method_9_code
def M_Re_markMade : vM := (y_Re_markMade, b_Re_markMade, 2, none, [])
def y_Re_spreadFromLive : MethodName := ⟨"CodeShrinker$Reach", "spreadFromLive", "()V"⟩
abbrev b_Re_spreadFromLive : ByteArray := prog_7_method_5_code
def M_Re_spreadFromLive : vM := (y_Re_spreadFromLive, b_Re_spreadFromLive, 3, none, [])
def y_Re_spread : MethodName := ⟨"CodeShrinker$Reach", "spread", "(LCodeShrinker$ProgramMethod;)V"⟩
abbrev b_Re_spread : ByteArray := prog_7_method_6_code
def M_Re_spread : vM := (y_Re_spread, b_Re_spread, 4, none, [])
def y_Pc_find : MethodName := ⟨"CodeShrinker$ProgramClass", "find", "(II)LCodeShrinker$ProgramMethod;"⟩
abbrev b_Pc_find : ByteArray := prog_5_method_3_code
def M_Pc_find : vM := (y_Pc_find, b_Pc_find, 5, (some (.object "CodeShrinker$ProgramMethod")), [])
def y_Pc_own : MethodName := ⟨"CodeShrinker$ProgramClass", "own", "(II)LCodeShrinker$ProgramMethod;"⟩
abbrev b_Pc_own : ByteArray := prog_5_method_2_code
def M_Pc_own : vM := (y_Pc_own, b_Pc_own, 5, (some (.object "CodeShrinker$ProgramMethod")), [])
def y_Re_spreadSelf : MethodName := ⟨"CodeShrinker$Reach", "spreadSelf", "(LCodeShrinker$ProgramClass;LCodeShrinker$Item;)V"⟩
abbrev b_Re_spreadSelf : ByteArray := prog_7_method_7_code
def M_Re_spreadSelf : vM := (y_Re_spreadSelf, b_Re_spreadSelf, 5, none, [])
def y_Pc_isOrIsBelow : MethodName := ⟨"CodeShrinker$ProgramClass", "isOrIsBelow", "(LCodeShrinker$ProgramClass;)Z"⟩
abbrev b_Pc_isOrIsBelow : ByteArray := prog_5_method_4_code
def M_Pc_isOrIsBelow : vM := (y_Pc_isOrIsBelow, b_Pc_isOrIsBelow, 3, (some .boolean), [])
def y_Pr_dropUnreached : MethodName := ⟨"CodeShrinker$Program", "dropUnreached", "()V"⟩
abbrev b_Pr_dropUnreached : ByteArray := prog_4_method_4_code
def M_Pr_dropUnreached : vM := (y_Pr_dropUnreached, b_Pr_dropUnreached, 3, none, [])
def y_Pr_dropDead : MethodName := ⟨"CodeShrinker$Program", "dropDead", "(Ljava/util/ArrayList;)V"⟩
abbrev b_Pr_dropDead : ByteArray := prog_4_method_6_code
def M_Pr_dropDead : vM := (y_Pr_dropDead, b_Pr_dropDead, 2, none, [])
def y_Al_remove : MethodName := ⟨"java/util/ArrayList", "remove", "(I)Ljava/lang/Object;"⟩
abbrev b_Al_remove : ByteArray := prog_24_method_29_code
def M_Al_remove : vM := (y_Al_remove, b_Al_remove, 4, (some (.object "java/lang/Object")), [])
def y_Al_fastRemove : MethodName := ⟨"java/util/ArrayList", "fastRemove", "([Ljava/lang/Object;I)V"⟩
abbrev b_Al_fastRemove : ByteArray := prog_24_method_39_code
def M_Al_fastRemove : vM := (y_Al_fastRemove, b_Al_fastRemove, 4, none, [])
def y_Pr_isMadeOrAboveMade : MethodName := ⟨"CodeShrinker$Program", "isMadeOrAboveMade", "(LCodeShrinker$ProgramClass;)Z"⟩
abbrev b_Pr_isMadeOrAboveMade : ByteArray := prog_4_method_5_code
def M_Pr_isMadeOrAboveMade : vM := (y_Pr_isMadeOrAboveMade, b_Pr_isMadeOrAboveMade, 4, (some .boolean), [])
def y_Cs_rename : MethodName := ⟨"CodeShrinker", "rename", "()I"⟩
abbrev b_Cs_rename : ByteArray := prog_1_method_8_code
def M_Cs_rename : vM := (y_Cs_rename, b_Cs_rename, 1, (some .int), [])
def y_Fa_form : MethodName := ⟨"CodeShrinker$Families", "form", "()V"⟩
abbrev b_Fa_form : ByteArray := prog_2_method_2_code
def M_Fa_form : vM := (y_Fa_form, b_Fa_form, 4, none, [])
def y_Fa_seeRelatives : MethodName := ⟨"CodeShrinker$Families", "seeRelatives", "()V"⟩
abbrev b_Fa_seeRelatives : ByteArray := prog_2_method_5_code
def M_Fa_seeRelatives : vM := (y_Fa_seeRelatives, b_Fa_seeRelatives, 5, none, [])
def y_Ma_min : MethodName := ⟨"java/lang/Math", "min", "(II)I"⟩
abbrev b_Ma_min : ByteArray := prog_17_method_69_code
def M_Ma_min : vM := (y_Ma_min, b_Ma_min, 2, (some .int), [])
def y_Pc_isRelatedTo : MethodName := ⟨"CodeShrinker$ProgramClass", "isRelatedTo", "(LCodeShrinker$ProgramClass;)Z"⟩
abbrev b_Pc_isRelatedTo : ByteArray := prog_5_method_5_code
def M_Pc_isRelatedTo : vM := (y_Pc_isRelatedTo, b_Pc_isRelatedTo, 2, (some .boolean), [])
def y_Fa_familyOf : MethodName := ⟨"CodeShrinker$Families", "familyOf", "(LCodeShrinker$ProgramClass;II)I"⟩
abbrev b_Fa_familyOf : ByteArray := prog_2_method_14_code
def M_Fa_familyOf : vM := (y_Fa_familyOf, b_Fa_familyOf, 5, (some .int), [])
def y_Fa_holds : MethodName := ⟨"CodeShrinker$Families", "holds", "(II)Z"⟩
abbrev b_Fa_holds : ByteArray := prog_2_method_15_code
def M_Fa_holds : vM := (y_Fa_holds, b_Fa_holds, 2, (some .boolean), [])
def y_Fa_open : MethodName := ⟨"CodeShrinker$Families", "open", "(LCodeShrinker$ProgramMethod;)I"⟩
abbrev b_Fa_open : ByteArray := prog_2_method_6_code
def M_Fa_open : vM := (y_Fa_open, b_Fa_open, 3, (some .int), [])
def y_Fa_bearers : MethodName := ⟨"CodeShrinker$Families", "bearers", "(II)I"⟩
abbrev b_Fa_bearers : ByteArray := prog_2_method_7_code
def M_Fa_bearers : vM := (y_Fa_bearers, b_Fa_bearers, 6, (some .int), [])
def y_Fa_standsIn : MethodName := ⟨"CodeShrinker$Families", "standsIn", "(LCodeShrinker$ProgramMethod;II)Z"⟩
abbrev b_Fa_standsIn : ByteArray := prog_2_method_8_code
def M_Fa_standsIn : vM := (y_Fa_standsIn, b_Fa_standsIn, 5, (some .boolean), [])
def y_Fa_joinedTo : MethodName := ⟨"CodeShrinker$Families", "joinedTo", "(II)I"⟩
abbrev b_Fa_joinedTo : ByteArray := prog_2_method_9_code
def M_Fa_joinedTo : vM := (y_Fa_joinedTo, b_Fa_joinedTo, 5, (some .int), [])
def y_Fa_relatedTo : MethodName := ⟨"CodeShrinker$Families", "relatedTo", "(I)I"⟩
abbrev b_Fa_relatedTo : ByteArray := prog_2_method_10_code
def M_Fa_relatedTo : vM := (y_Fa_relatedTo, b_Fa_relatedTo, 4, (some .int), [])
def y_Fa_giveNames : MethodName := ⟨"CodeShrinker$Families", "giveNames", "()V"⟩
abbrev b_Fa_giveNames : ByteArray := prog_2_method_3_code
def M_Fa_giveNames : vM := (y_Fa_giveNames, b_Fa_giveNames, 2, none, [])
def y_Fa_leastFreeName : MethodName := ⟨"CodeShrinker$Families", "leastFreeName", "(I)I"⟩
abbrev b_Fa_leastFreeName : ByteArray := prog_2_method_11_code
def M_Fa_leastFreeName : vM := (y_Fa_leastFreeName, b_Fa_leastFreeName, 6, (some .int), [])
def y_Fa_writeNames : MethodName := ⟨"CodeShrinker$Families", "writeNames", "()V"⟩
abbrev b_Fa_writeNames : ByteArray := prog_2_method_4_code
def M_Fa_writeNames : vM := (y_Fa_writeNames, b_Fa_writeNames, 3, none, [])
def y_Fa_writeItems : MethodName := ⟨"CodeShrinker$Families", "writeItems", "(LCodeShrinker$ProgramMethod;)V"⟩
abbrev b_Fa_writeItems : ByteArray := prog_2_method_12_code
def M_Fa_writeItems : vM := (y_Fa_writeItems, b_Fa_writeItems, 5, none, [])
def y_Fa_newNameOf : MethodName := ⟨"CodeShrinker$Families", "newNameOf", "(LCodeShrinker$ProgramClass;II)I"⟩
abbrev b_Fa_newNameOf : ByteArray := prog_2_method_13_code
def M_Fa_newNameOf : vM := (y_Fa_newNameOf, b_Fa_newNameOf, 5, (some .int), [])
def y_Cs_count : MethodName := ⟨"CodeShrinker", "count", "(I)I"⟩
abbrev b_Cs_count : ByteArray := prog_1_method_12_code
def M_Cs_count : vM := (y_Cs_count, b_Cs_count, 2, (some .int), [])
def y_Pr_liveMethods : MethodName := ⟨"CodeShrinker$Program", "liveMethods", "()I"⟩
abbrev b_Pr_liveMethods : ByteArray := prog_4_method_2_code
def M_Pr_liveMethods : vM := (y_Pr_liveMethods, b_Pr_liveMethods, 3, (some .int), [])
def y_Pr_madeClasses : MethodName := ⟨"CodeShrinker$Program", "madeClasses", "()I"⟩
abbrev b_Pr_madeClasses : ByteArray := prog_4_method_3_code
def M_Pr_madeClasses : vM := (y_Pr_madeClasses, b_Pr_madeClasses, 3, (some .int), [])
def y_Cs_parentOf : MethodName := ⟨"CodeShrinker", "parentOf", "(I)I"⟩
abbrev b_Cs_parentOf : ByteArray := prog_1_method_13_code
def M_Cs_parentOf : vM := (y_Cs_parentOf, b_Cs_parentOf, 3, (some .int), [])
def y_Cs_isClass : MethodName := ⟨"CodeShrinker", "isClass", "(I)Z"⟩
abbrev b_Cs_isClass : ByteArray := prog_1_method_15_code
def M_Cs_isClass : vM := (y_Cs_isClass, b_Cs_isClass, 2, (some .boolean), [])
def y_Lw_add : MethodName := ⟨"CodeShrinkerLaw", "add", "(LCodeShrinker;I[J)I"⟩
abbrev b_Lw_add : ByteArray := method_3_code
def M_Lw_add : vM := (y_Lw_add, b_Lw_add, 4, (some .int), [(0, 9, 12, 13), (0, 9, 15, 15)])
def y_Cs_add : MethodName := ⟨"CodeShrinker", "add", "(I)I"⟩
abbrev b_Cs_add : ByteArray := prog_1_method_2_code
def M_Cs_add : vM := (y_Cs_add, b_Cs_add, 4, (some .int), [])
def y_Cs_require : MethodName := ⟨"CodeShrinker", "require", "(Z)V"⟩
abbrev b_Cs_require : ByteArray := prog_1_method_20_code
def M_Cs_require : vM := (y_Cs_require, b_Cs_require, 1, none, [])
def y_Th_init : MethodName := ⟨"java/lang/Throwable", "<init>", "()V"⟩
abbrev b_Th_init : ByteArray := prog_21_method_1_code
def M_Th_init : vM := (y_Th_init, b_Th_init, 1, none, [])
def y_Ia_init : MethodName := ⟨"java/lang/IllegalArgumentException", "<init>", "(Ljava/lang/String;)V"⟩
abbrev b_Ia_init : ByteArray := prog_14_method_2_code
def M_Ia_init : vM := (y_Ia_init, b_Ia_init, 2, none, [])
def y_Rt_init : MethodName := ⟨"java/lang/RuntimeException", "<init>", "(Ljava/lang/String;)V"⟩
abbrev b_Rt_init : ByteArray := prog_18_method_2_code
def M_Rt_init : vM := (y_Rt_init, b_Rt_init, 2, none, [])
def y_Ex_init : MethodName := ⟨"java/lang/Exception", "<init>", "(Ljava/lang/String;)V"⟩
abbrev b_Ex_init : ByteArray := prog_13_method_2_code
def M_Ex_init : vM := (y_Ex_init, b_Ex_init, 2, none, [])
def y_Th_init2 : MethodName := ⟨"java/lang/Throwable", "<init>", "(Ljava/lang/String;)V"⟩
abbrev b_Th_init2 : ByteArray := prog_21_method_2_code
def M_Th_init2 : vM := (y_Th_init2, b_Th_init2, 2, none, [])
def y_Is_init : MethodName := ⟨"java/lang/IllegalStateException", "<init>", "(Ljava/lang/String;)V"⟩
abbrev b_Is_init : ByteArray := prog_15_method_2_code
def M_Is_init : vM := (y_Is_init, b_Is_init, 2, none, [])
def y_Pc_init : MethodName := ⟨"CodeShrinker$ProgramClass", "<init>", "(ILCodeShrinker$ProgramClass;)V"⟩
abbrev b_Pc_init : ByteArray := prog_5_method_1_code
def M_Pc_init : vM := (y_Pc_init, b_Pc_init, 3, none, [])
def y_Al_add : MethodName := ⟨"java/util/ArrayList", "add", "(Ljava/lang/Object;)Z"⟩
abbrev b_Al_add : ByteArray := prog_24_method_25_code
def M_Al_add : vM := (y_Al_add, b_Al_add, 2, (some .boolean), [])
def y_Al_add2 : MethodName := ⟨"java/util/ArrayList", "add", "(Ljava/lang/Object;[Ljava/lang/Object;I)V"⟩
abbrev b_Al_add2 : ByteArray := prog_24_method_24_code
def M_Al_add2 : vM := (y_Al_add2, b_Al_add2, 4, none, [])
def y_Al_grow : MethodName := ⟨"java/util/ArrayList", "grow", "()[Ljava/lang/Object;"⟩
abbrev b_Al_grow : ByteArray := prog_24_method_7_code
def M_Al_grow : vM := (y_Al_grow, b_Al_grow, 1, (some (.array (.object "java/lang/Object"))), [])
def y_Al_grow2 : MethodName := ⟨"java/util/ArrayList", "grow", "(I)[Ljava/lang/Object;"⟩
abbrev b_Al_grow2 : ByteArray := prog_24_method_6_code
def M_Al_grow2 : vM := (y_Al_grow2, b_Al_grow2, 4, (some (.array (.object "java/lang/Object"))), [])
def y_As_newLength : MethodName := ⟨"jdk/internal/util/ArraysSupport", "newLength", "(III)I"⟩
abbrev b_As_newLength : ByteArray := prog_32_method_27_code
def M_As_newLength : vM := (y_As_newLength, b_As_newLength, 4, (some .int), [])
def y_Ma_max : MethodName := ⟨"java/lang/Math", "max", "(II)I"⟩
abbrev b_Ma_max : ByteArray := prog_17_method_65_code
def M_Ma_max : vM := (y_Ma_max, b_Ma_max, 2, (some .int), [])
def y_As_hugeLength : MethodName := ⟨"jdk/internal/util/ArraysSupport", "hugeLength", "(II)I"⟩
abbrev b_As_hugeLength : ByteArray := prog_32_method_28_code
def M_As_hugeLength : vM := (y_As_hugeLength, b_As_hugeLength, 3, (some .int), [])
def y_Ar_copyOf : MethodName := ⟨"java/util/Arrays", "copyOf", "([Ljava/lang/Object;I)[Ljava/lang/Object;"⟩
abbrev b_Ar_copyOf : ByteArray := prog_25_method_119_code
def M_Ar_copyOf : vM := (y_Ar_copyOf, b_Ar_copyOf, 2, (some (.array (.object "java/lang/Object"))), [])
def y_Ar_copyOf2 : MethodName := ⟨"java/util/Arrays", "copyOf", "([Ljava/lang/Object;ILjava/lang/Class;)[Ljava/lang/Object;"⟩
abbrev b_Ar_copyOf2 : ByteArray := prog_25_method_120_code
def M_Ar_copyOf2 : vM := (y_Ar_copyOf2, b_Ar_copyOf2, 4, (some (.array (.object "java/lang/Object"))), [])
def y_Lw_method : MethodName := ⟨"CodeShrinkerLaw", "method", "(LCodeShrinker;III[J)I"⟩
abbrev b_Lw_method : ByteArray := method_4_code
def M_Lw_method : vM := (y_Lw_method, b_Lw_method, 6, (some .int), [(0, 12, 15, 13), (0, 12, 19, 15)])
def y_Cs_method : MethodName := ⟨"CodeShrinker", "method", "(III)I"⟩
abbrev b_Cs_method : ByteArray := prog_1_method_3_code
def M_Cs_method : vM := (y_Cs_method, b_Cs_method, 7, (some .int), [])
def y_Cs_isName : MethodName := ⟨"CodeShrinker", "isName", "(I)Z"⟩
abbrev b_Cs_isName : ByteArray := prog_1_method_18_code
def M_Cs_isName : vM := (y_Cs_isName, b_Cs_isName, 1, (some .boolean), [])
def y_Cs_isArity : MethodName := ⟨"CodeShrinker", "isArity", "(I)Z"⟩
abbrev b_Cs_isArity : ByteArray := prog_1_method_19_code
def M_Cs_isArity : vM := (y_Cs_isArity, b_Cs_isArity, 1, (some .boolean), [])
def y_Pm_init : MethodName := ⟨"CodeShrinker$ProgramMethod", "<init>", "(ILCodeShrinker$ProgramClass;II)V"⟩
abbrev b_Pm_init : ByteArray := prog_6_method_1_code
def M_Pm_init : vM := (y_Pm_init, b_Pm_init, 5, none, [])
def y_Lw_item : MethodName := ⟨"CodeShrinkerLaw", "item", "(LCodeShrinker;IIIII[J)I"⟩
abbrev b_Lw_item : ByteArray := method_5_code
def M_Lw_item : vM := (y_Lw_item, b_Lw_item, 8, (some .int), [(0, 16, 19, 13), (0, 16, 23, 15)])
def y_Cs_item : MethodName := ⟨"CodeShrinker", "item", "(IIIII)I"⟩
abbrev b_Cs_item : ByteArray := prog_1_method_4_code
def M_Cs_item : vM := (y_Cs_item, b_Cs_item, 7, (some .int), [])
def y_Cs_isMethod : MethodName := ⟨"CodeShrinker", "isMethod", "(I)Z"⟩
abbrev b_Cs_isMethod : ByteArray := prog_1_method_16_code
def M_Cs_isMethod : vM := (y_Cs_isMethod, b_Cs_isMethod, 2, (some .boolean), [])
def y_Cs_isItem : MethodName := ⟨"CodeShrinker", "isItem", "(IIII)Z"⟩
abbrev b_Cs_isItem : ByteArray := prog_1_method_17_code
def M_Cs_isItem : vM := (y_Cs_isItem, b_Cs_isItem, 5, (some .boolean), [])
def y_Cs_newItem : MethodName := ⟨"CodeShrinker", "newItem", "(IIII)LCodeShrinker$Item;"⟩
abbrev b_Cs_newItem : ByteArray := prog_1_method_14_code
def M_Cs_newItem : vM := (y_Cs_newItem, b_Cs_newItem, 6, (some (.object "CodeShrinker$Item")), [])
def y_It_init : MethodName := ⟨"CodeShrinker$Item", "<init>", "(IILCodeShrinker$ProgramClass;II)V"⟩
abbrev b_It_init : ByteArray := prog_3_method_1_code
def M_It_init : vM := (y_It_init, b_It_init, 6, none, [])
def y_Lw_keep : MethodName := ⟨"CodeShrinkerLaw", "keep", "(LCodeShrinker;IZ)I"⟩
abbrev b_Lw_keep : ByteArray := method_6_code
def M_Lw_keep : vM := (y_Lw_keep, b_Lw_keep, 4, (some .int), [(0, 6, 9, 13)])
def y_Cs_keep : MethodName := ⟨"CodeShrinker", "keep", "(IZ)V"⟩
abbrev b_Cs_keep : ByteArray := prog_1_method_5_code
def M_Cs_keep : vM := (y_Cs_keep, b_Cs_keep, 3, none, [])
def y_Lw_run : MethodName := ⟨"CodeShrinkerLaw", "run", "(LCodeShrinker;III[J)I"⟩
abbrev b_Lw_run : ByteArray := method_7_code
def M_Lw_run : vM := (y_Lw_run, b_Lw_run, 6, (some .int), [(0, 12, 15, 13), (0, 12, 19, 32), (0, 12, 23, 15)])
def y_Cs_run : MethodName := ⟨"CodeShrinker", "run", "(III)I"⟩
abbrev b_Cs_run : ByteArray := prog_1_method_6_code
def M_Cs_run : vM := (y_Cs_run, b_Cs_run, 4, (some .int), [])
def y_Ru_outcomeOf : MethodName := ⟨"CodeShrinker$Runner", "outcomeOf", "(LCodeShrinker$ProgramClass;II)I"⟩
abbrev b_Ru_outcomeOf : ByteArray := prog_8_method_2_code
def M_Ru_outcomeOf : vM := (y_Ru_outcomeOf, b_Ru_outcomeOf, 4, (some .int), [])
def y_Ru_perform : MethodName := ⟨"CodeShrinker$Runner", "perform", "(LCodeShrinker$ProgramClass;III)V"⟩
abbrev b_Ru_perform : ByteArray := prog_8_method_3_code
def M_Ru_perform : vM := (y_Ru_perform, b_Ru_perform, 7, none, [])
def y_Ns_init : MethodName := ⟨"java/util/NoSuchElementException", "<init>", "(Ljava/lang/String;)V"⟩
abbrev b_Ns_init : ByteArray := prog_28_method_4_code
def M_Ns_init : vM := (y_Ns_init, b_Ns_init, 2, none, [])
def y_Ru_performItem : MethodName := ⟨"CodeShrinker$Runner", "performItem", "(LCodeShrinker$Item;LCodeShrinker$ProgramClass;I)V"⟩
abbrev b_Ru_performItem : ByteArray := prog_8_method_4_code
def M_Ru_performItem : vM := (y_Ru_performItem, b_Ru_performItem, 5, none, [])
def y_Lw_told : MethodName := ⟨"CodeShrinkerLaw", "told", "(LCodeShrinker;II[J)I"⟩
abbrev b_Lw_told : ByteArray := method_8_code
def M_Lw_told : vM := (y_Lw_told, b_Lw_told, 5, (some .int), [(0, 10, 13, 13)])
def y_Cs_told : MethodName := ⟨"CodeShrinker", "told", "(II)I"⟩
abbrev b_Cs_told : ByteArray := prog_1_method_9_code
def M_Cs_told : vM := (y_Cs_told, b_Cs_told, 4, (some .int), [])
def y_Lw_inside : MethodName := ⟨"CodeShrinkerLaw", "inside", "(LCodeShrinker;III[J)I"⟩
abbrev b_Lw_inside : ByteArray := method_9_code
def M_Lw_inside : vM := (y_Lw_inside, b_Lw_inside, 6, (some .int), [(0, 12, 15, 13), (0, 12, 19, 32)])
def y_Cs_inside : MethodName := ⟨"CodeShrinker", "inside", "(III)I"⟩
abbrev b_Cs_inside : ByteArray := prog_1_method_10_code
def M_Cs_inside : vM := (y_Cs_inside, b_Cs_inside, 5, (some .int), [])
def y_It_part : MethodName := ⟨"CodeShrinker$Item", "part", "(I)I"⟩
abbrev b_It_part : ByteArray := prog_3_method_2_code
def M_It_part : vM := (y_It_part, b_It_part, 2, (some .int), [])
def y_Lw_trace : MethodName := ⟨"CodeShrinkerLaw", "trace", "(LCodeShrinker;III[J)I"⟩
abbrev b_Lw_trace : ByteArray := method_10_code
def M_Lw_trace : vM := (y_Lw_trace, b_Lw_trace, 6, (some .int), [(0, 12, 15, 13), (0, 12, 19, 32)])
def y_Cs_trace : MethodName := ⟨"CodeShrinker", "trace", "(III)I"⟩
abbrev b_Cs_trace : ByteArray := prog_1_method_11_code
def M_Cs_trace : vM := (y_Cs_trace, b_Cs_trace, 5, (some .int), [])
def y_Mo_init : MethodName := ⟨"CodeShrinkerModel", "<init>", "()V"⟩
abbrev b_Mo_init : ByteArray := prog_10_method_1_code
def M_Mo_init : vM := (y_Mo_init, b_Mo_init, 1, none, [])
def y_Mo_thrown : MethodName := ⟨"CodeShrinkerModel", "thrown", "()I"⟩
abbrev b_Mo_thrown : ByteArray := prog_10_method_2_code
def M_Mo_thrown : vM := (y_Mo_thrown, b_Mo_thrown, 1, (some .int), [])
def y_Mo_add : MethodName := ⟨"CodeShrinkerModel", "add", "(I)I"⟩
abbrev b_Mo_add : ByteArray := prog_10_method_8_code
def M_Mo_add : vM := (y_Mo_add, b_Mo_add, 2, (some .int), [])
def y_Mo_isClass : MethodName := ⟨"CodeShrinkerModel", "isClass", "(I)Z"⟩
abbrev b_Mo_isClass : ByteArray := prog_10_method_6_code
def M_Mo_isClass : vM := (y_Mo_isClass, b_Mo_isClass, 2, (some .boolean), [])
def y_Mo_in : MethodName := ⟨"CodeShrinkerModel", "in", "(III)Z"⟩
abbrev b_Mo_in : ByteArray := prog_10_method_3_code
def M_Mo_in : vM := (y_Mo_in, b_Mo_in, 3, (some .boolean), [])
def y_Mo_bad : MethodName := ⟨"CodeShrinkerModel", "bad", "(Z)Z"⟩
abbrev b_Mo_bad : ByteArray := prog_10_method_4_code
def M_Mo_bad : vM := (y_Mo_bad, b_Mo_bad, 2, (some .boolean), [])
def y_Mo_fail : MethodName := ⟨"CodeShrinkerModel", "fail", "(I)I"⟩
abbrev b_Mo_fail : ByteArray := prog_10_method_5_code
def M_Mo_fail : vM := (y_Mo_fail, b_Mo_fail, 2, (some .int), [])
def y_Mo_method : MethodName := ⟨"CodeShrinkerModel", "method", "(III)I"⟩
abbrev b_Mo_method : ByteArray := prog_10_method_11_code
def M_Mo_method : vM := (y_Mo_method, b_Mo_method, 4, (some .int), [])
def y_Mo_own : MethodName := ⟨"CodeShrinkerModel", "own", "(III)I"⟩
abbrev b_Mo_own : ByteArray := prog_10_method_9_code
def M_Mo_own : vM := (y_Mo_own, b_Mo_own, 5, (some .int), [])
def y_Mo_item : MethodName := ⟨"CodeShrinkerModel", "item", "(IIIII)I"⟩
abbrev b_Mo_item : ByteArray := prog_10_method_12_code
def M_Mo_item : vM := (y_Mo_item, b_Mo_item, 8, (some .int), [])
def y_Mo_isMethod : MethodName := ⟨"CodeShrinkerModel", "isMethod", "(I)Z"⟩
abbrev b_Mo_isMethod : ByteArray := prog_10_method_7_code
def M_Mo_isMethod : vM := (y_Mo_isMethod, b_Mo_isMethod, 2, (some .boolean), [])
def y_Mo_keep : MethodName := ⟨"CodeShrinkerModel", "keep", "(IZ)V"⟩
abbrev b_Mo_keep : ByteArray := prog_10_method_13_code
def M_Mo_keep : vM := (y_Mo_keep, b_Mo_keep, 3, none, [])
def y_Mo_run : MethodName := ⟨"CodeShrinkerModel", "run", "(III)I"⟩
abbrev b_Mo_run : ByteArray := prog_10_method_14_code
def M_Mo_run : vM := (y_Mo_run, b_Mo_run, 13, (some .int), [])
def y_Mo_find : MethodName := ⟨"CodeShrinkerModel", "find", "(III)I"⟩
abbrev b_Mo_find : ByteArray := prog_10_method_10_code
def M_Mo_find : vM := (y_Mo_find, b_Mo_find, 6, (some .int), [])
def y_Mo_shrink : MethodName := ⟨"CodeShrinkerModel", "shrink", "()I"⟩
abbrev b_Mo_shrink : ByteArray := prog_10_method_21_code
def M_Mo_shrink : vM := (y_Mo_shrink, b_Mo_shrink, 6, (some .int), [])
def y_Mo_findLive : MethodName := ⟨"CodeShrinkerModel", "findLive", "()V"⟩
abbrev b_Mo_findLive : ByteArray := prog_10_method_19_code
def M_Mo_findLive : vM := (y_Mo_findLive, b_Mo_findLive, 4, none, [])
def y_Mo_need : MethodName := ⟨"CodeShrinkerModel", "need", "(II)Z"⟩
abbrev b_Mo_need : ByteArray := prog_10_method_18_code
def M_Mo_need : vM := (y_Mo_need, b_Mo_need, 5, (some .boolean), [])
def y_Mo_enliven : MethodName := ⟨"CodeShrinkerModel", "enliven", "(II)Z"⟩
abbrev b_Mo_enliven : ByteArray := prog_10_method_17_code
def M_Mo_enliven : vM := (y_Mo_enliven, b_Mo_enliven, 4, (some .boolean), [])
def y_Mo_above : MethodName := ⟨"CodeShrinkerModel", "above", "(II)Z"⟩
abbrev b_Mo_above : ByteArray := prog_10_method_15_code
def M_Mo_above : vM := (y_Mo_above, b_Mo_above, 4, (some .boolean), [])
def y_Mo_moveMethod : MethodName := ⟨"CodeShrinkerModel", "moveMethod", "(II)V"⟩
abbrev b_Mo_moveMethod : ByteArray := prog_10_method_20_code
def M_Mo_moveMethod : vM := (y_Mo_moveMethod, b_Mo_moveMethod, 6, none, [])
def y_Mo_rename : MethodName := ⟨"CodeShrinkerModel", "rename", "()I"⟩
abbrev b_Mo_rename : ByteArray := prog_10_method_28_code
def M_Mo_rename : vM := (y_Mo_rename, b_Mo_rename, 7, (some .int), [])
def y_Mo_gather : MethodName := ⟨"CodeShrinkerModel", "gather", "()I"⟩
abbrev b_Mo_gather : ByteArray := prog_10_method_23_code
def M_Mo_gather : vM := (y_Mo_gather, b_Mo_gather, 5, (some .int), [])
def y_Mo_member : MethodName := ⟨"CodeShrinkerModel", "member", "(IIII)V"⟩
abbrev b_Mo_member : ByteArray := prog_10_method_22_code
def M_Mo_member : vM := (y_Mo_member, b_Mo_member, 5, none, [])
def y_Mo_alike : MethodName := ⟨"CodeShrinkerModel", "alike", "(II)Z"⟩
abbrev b_Mo_alike : ByteArray := prog_10_method_24_code
def M_Mo_alike : vM := (y_Mo_alike, b_Mo_alike, 3, (some .boolean), [])
def y_Mo_related : MethodName := ⟨"CodeShrinkerModel", "related", "(II)Z"⟩
abbrev b_Mo_related : ByteArray := prog_10_method_16_code
def M_Mo_related : vM := (y_Mo_related, b_Mo_related, 3, (some .boolean), [])
def y_Mo_keptFamily : MethodName := ⟨"CodeShrinkerModel", "keptFamily", "(I)Z"⟩
abbrev b_Mo_keptFamily : ByteArray := prog_10_method_25_code
def M_Mo_keptFamily : vM := (y_Mo_keptFamily, b_Mo_keptFamily, 3, (some .boolean), [])
def y_Mo_freeName : MethodName := ⟨"CodeShrinkerModel", "freeName", "(II)I"⟩
abbrev b_Mo_freeName : ByteArray := prog_10_method_27_code
def M_Mo_freeName : vM := (y_Mo_freeName, b_Mo_freeName, 6, (some .int), [])
def y_Mo_clash : MethodName := ⟨"CodeShrinkerModel", "clash", "(III)Z"⟩
abbrev b_Mo_clash : ByteArray := prog_10_method_26_code
def M_Mo_clash : vM := (y_Mo_clash, b_Mo_clash, 6, (some .boolean), [])
def y_Mo_told : MethodName := ⟨"CodeShrinkerModel", "told", "(II)I"⟩
abbrev b_Mo_told : ByteArray := prog_10_method_29_code
def M_Mo_told : vM := (y_Mo_told, b_Mo_told, 3, (some .int), [])
def y_Mo_inside : MethodName := ⟨"CodeShrinkerModel", "inside", "(III)I"⟩
abbrev b_Mo_inside : ByteArray := prog_10_method_30_code
def M_Mo_inside : vM := (y_Mo_inside, b_Mo_inside, 5, (some .int), [])
def y_Mo_trace : MethodName := ⟨"CodeShrinkerModel", "trace", "(III)I"⟩
abbrev b_Mo_trace : ByteArray := prog_10_method_31_code
def M_Mo_trace : vM := (y_Mo_trace, b_Mo_trace, 5, (some .int), [])
def y_Mo_count : MethodName := ⟨"CodeShrinkerModel", "count", "(I)I"⟩
abbrev b_Mo_count : ByteArray := prog_10_method_32_code
def M_Mo_count : vM := (y_Mo_count, b_Mo_count, 4, (some .int), [])
def y_Lw_law : MethodName := ⟨"CodeShrinkerLaw", "law", "([I)Z"⟩
abbrev b_Lw_law : ByteArray := code
def M_Lw_law : vM := (y_Lw_law, b_Lw_law, 7, (some .boolean), [])
def vGood (w : Cond) : Bool := goodWord w || (w.onTables && w.keepsFace)
def vT : List Cond := lw_tbl.filter vGood
theorem vT_of {w : Cond} (h : w ∈ tables_1) (g : vGood w = true) : w ∈ vT := List.mem_filter.mpr ⟨List.mem_append_right _ h, g⟩
theorem vT_1 {w : Cond} (i : Nat) (h : tables_1_1[i]? = some w) (g : vGood w = true) : w ∈ vT := vT_of (by have h := List.mem_of_getElem? h; exact List.mem_append_left _ h) g
theorem vT_2 {w : Cond} (i : Nat) (h : tables_1_2[i]? = some w) (g : vGood w = true) : w ∈ vT := vT_of (by have h := List.mem_of_getElem? h; exact List.mem_append_right _ (List.mem_append_left _ h)) g
theorem vT_3 {w : Cond} (i : Nat) (h : tables_1_3[i]? = some w) (g : vGood w = true) : w ∈ vT := vT_of (by have h := List.mem_of_getElem? h; exact List.mem_append_right _ (List.mem_append_right _ (List.mem_append_left _ h))) g
theorem vT_4 {w : Cond} (i : Nat) (h : tables_1_4[i]? = some w) (g : vGood w = true) : w ∈ vT := vT_of (by have h := List.mem_of_getElem? h; exact List.mem_append_right _ (List.mem_append_right _ (List.mem_append_right _ (List.mem_append_left _ h)))) g
theorem vT_5 {w : Cond} (i : Nat) (h : tables_1_5[i]? = some w) (g : vGood w = true) : w ∈ vT := vT_of (by have h := List.mem_of_getElem? h; exact List.mem_append_right _ (List.mem_append_right _ (List.mem_append_right _ (List.mem_append_right _ (h))))) g
theorem vT_sel {w : Cond} (i : Nat) (h : (k2_sels lw_privs)[i]? = some w) (g : vGood w = true) : w ∈ vT := List.mem_filter.mpr ⟨List.mem_append_left _ (List.mem_of_getElem? h), g⟩
