section
-- ===== PART A: goes FIRST, ahead of the names: the tables' words, and 'selects' of the private methods out of them =====
/-- a private method of a class that the tables say can be made, by its rows of tables_1 -/
def lw_okq (q : MethodName × Nat) : Prop := (q.1.cls ≠ "java/lang/invoke/MethodHandle" ∧ q.1.cls ≠ "java/lang/invoke/VarHandle") ∧ Cond.instantiable q.1.cls q.2 ∈ tables_1 ∧ Cond.privateMethod q.1 ∈ tables_1 ∧ Cond.instanceMethod q.1 ∈ tables_1
theorem lw_p0 : lw_okq (⟨"CodeShrinker$Reach", "clearMarks", "()V"⟩, 2) := ⟨⟨by decide +kernel, by decide +kernel⟩, List.mem_of_getElem? (i := 92) (by decide +kernel), List.mem_of_getElem? (i := 167) (by decide +kernel), List.mem_of_getElem? (i := 168) (by decide +kernel)⟩
theorem lw_p1 : lw_okq (⟨"CodeShrinker$Reach", "markKept", "()V"⟩, 2) := ⟨⟨by decide +kernel, by decide +kernel⟩, List.mem_of_getElem? (i := 92) (by decide +kernel), List.mem_of_getElem? (i := 188) (by decide +kernel), List.mem_of_getElem? (i := 189) (by decide +kernel)⟩
theorem lw_p2 : lw_okq (⟨"CodeShrinker$Reach", "markLive", "(LCodeShrinker$ProgramMethod;)V"⟩, 2) := ⟨⟨by decide +kernel, by decide +kernel⟩, List.mem_of_getElem? (i := 92) (by decide +kernel), List.mem_of_getElem? (i := 192) (by decide +kernel), List.mem_of_getElem? (i := 193) (by decide +kernel)⟩
theorem lw_p3 : lw_okq (⟨"CodeShrinker$Reach", "markMade", "(LCodeShrinker$ProgramClass;)V"⟩, 2) := ⟨⟨by decide +kernel, by decide +kernel⟩, List.mem_of_getElem? (i := 92) (by decide +kernel), List.mem_of_getElem? (i := 196) (by decide +kernel), List.mem_of_getElem? (i := 197) (by decide +kernel)⟩
theorem lw_p4 : lw_okq (⟨"CodeShrinker$Reach", "spreadFromLive", "()V"⟩, 2) := ⟨⟨by decide +kernel, by decide +kernel⟩, List.mem_of_getElem? (i := 92) (by decide +kernel), List.mem_of_getElem? (i := 200) (by decide +kernel), List.mem_of_getElem? (i := 201) (by decide +kernel)⟩
theorem lw_p5 : lw_okq (⟨"CodeShrinker$Reach", "spread", "(LCodeShrinker$ProgramMethod;)V"⟩, 2) := ⟨⟨by decide +kernel, by decide +kernel⟩, List.mem_of_getElem? (i := 92) (by decide +kernel), List.mem_of_getElem? (i := 204) (by decide +kernel), List.mem_of_getElem? (i := 205) (by decide +kernel)⟩
theorem lw_p6 : lw_okq (⟨"CodeShrinker$Reach", "spreadSelf", "(LCodeShrinker$ProgramClass;LCodeShrinker$Item;)V"⟩, 2) := ⟨⟨by decide +kernel, by decide +kernel⟩, List.mem_of_getElem? (i := 92) (by decide +kernel), List.mem_of_getElem? (i := 220) (by decide +kernel), List.mem_of_getElem? (i := 221) (by decide +kernel)⟩
theorem lw_p7 : lw_okq (⟨"java/util/ArrayList", "fastRemove", "([Ljava/lang/Object;I)V"⟩, 3) := ⟨⟨by decide +kernel, by decide +kernel⟩, List.mem_of_getElem? (i := 40) (by decide +kernel), List.mem_of_getElem? (i := 242) (by decide +kernel), List.mem_of_getElem? (i := 243) (by decide +kernel)⟩
theorem lw_p8 : lw_okq (⟨"CodeShrinker$Program", "isMadeOrAboveMade", "(LCodeShrinker$ProgramClass;)Z"⟩, 2) := ⟨⟨by decide +kernel, by decide +kernel⟩, List.mem_of_getElem? (i := 34) (by decide +kernel), List.mem_of_getElem? (i := 250) (by decide +kernel), List.mem_of_getElem? (i := 251) (by decide +kernel)⟩
theorem lw_p9 : lw_okq (⟨"CodeShrinker$Families", "seeRelatives", "()V"⟩, 8) := ⟨⟨by decide +kernel, by decide +kernel⟩, List.mem_of_getElem? (i := 105) (by decide +kernel), List.mem_of_getElem? (i := 263) (by decide +kernel), List.mem_of_getElem? (i := 264) (by decide +kernel)⟩
theorem lw_p10 : lw_okq (⟨"CodeShrinker$Families", "familyOf", "(LCodeShrinker$ProgramClass;II)I"⟩, 8) := ⟨⟨by decide +kernel, by decide +kernel⟩, List.mem_of_getElem? (i := 105) (by decide +kernel), List.mem_of_getElem? (i := 279) (by decide +kernel), List.mem_of_getElem? (i := 280) (by decide +kernel)⟩
theorem lw_p11 : lw_okq (⟨"CodeShrinker$Families", "open", "(LCodeShrinker$ProgramMethod;)I"⟩, 8) := ⟨⟨by decide +kernel, by decide +kernel⟩, List.mem_of_getElem? (i := 105) (by decide +kernel), List.mem_of_getElem? (i := 286) (by decide +kernel), List.mem_of_getElem? (i := 287) (by decide +kernel)⟩
theorem lw_p12 : lw_okq (⟨"CodeShrinker$Families", "bearers", "(II)I"⟩, 8) := ⟨⟨by decide +kernel, by decide +kernel⟩, List.mem_of_getElem? (i := 105) (by decide +kernel), List.mem_of_getElem? (i := 290) (by decide +kernel), List.mem_of_getElem? (i := 291) (by decide +kernel)⟩
theorem lw_p13 : lw_okq (⟨"CodeShrinker$Families", "joinedTo", "(II)I"⟩, 8) := ⟨⟨by decide +kernel, by decide +kernel⟩, List.mem_of_getElem? (i := 105) (by decide +kernel), List.mem_of_getElem? (i := 298) (by decide +kernel), List.mem_of_getElem? (i := 299) (by decide +kernel)⟩
theorem lw_p14 : lw_okq (⟨"CodeShrinker$Families", "relatedTo", "(I)I"⟩, 8) := ⟨⟨by decide +kernel, by decide +kernel⟩, List.mem_of_getElem? (i := 105) (by decide +kernel), List.mem_of_getElem? (i := 302) (by decide +kernel), List.mem_of_getElem? (i := 303) (by decide +kernel)⟩
theorem lw_p15 : lw_okq (⟨"CodeShrinker$Families", "leastFreeName", "(I)I"⟩, 8) := ⟨⟨by decide +kernel, by decide +kernel⟩, List.mem_of_getElem? (i := 105) (by decide +kernel), List.mem_of_getElem? (i := 310) (by decide +kernel), List.mem_of_getElem? (i := 311) (by decide +kernel)⟩
def lw_privs_1 : List (MethodName × Nat) := [(⟨"CodeShrinker$Reach", "clearMarks", "()V"⟩, 2), (⟨"CodeShrinker$Reach", "markKept", "()V"⟩, 2), (⟨"CodeShrinker$Reach", "markLive", "(LCodeShrinker$ProgramMethod;)V"⟩, 2), (⟨"CodeShrinker$Reach", "markMade", "(LCodeShrinker$ProgramClass;)V"⟩, 2), (⟨"CodeShrinker$Reach", "spreadFromLive", "()V"⟩, 2), (⟨"CodeShrinker$Reach", "spread", "(LCodeShrinker$ProgramMethod;)V"⟩, 2), (⟨"CodeShrinker$Reach", "spreadSelf", "(LCodeShrinker$ProgramClass;LCodeShrinker$Item;)V"⟩, 2), (⟨"java/util/ArrayList", "fastRemove", "([Ljava/lang/Object;I)V"⟩, 3), (⟨"CodeShrinker$Program", "isMadeOrAboveMade", "(LCodeShrinker$ProgramClass;)Z"⟩, 2), (⟨"CodeShrinker$Families", "seeRelatives", "()V"⟩, 8), (⟨"CodeShrinker$Families", "familyOf", "(LCodeShrinker$ProgramClass;II)I"⟩, 8), (⟨"CodeShrinker$Families", "open", "(LCodeShrinker$ProgramMethod;)I"⟩, 8), (⟨"CodeShrinker$Families", "bearers", "(II)I"⟩, 8), (⟨"CodeShrinker$Families", "joinedTo", "(II)I"⟩, 8), (⟨"CodeShrinker$Families", "relatedTo", "(I)I"⟩, 8), (⟨"CodeShrinker$Families", "leastFreeName", "(I)I"⟩, 8)]
theorem lw_r1 : ∀ q ∈ lw_privs_1, lw_okq q := List.forall_mem_cons.mpr ⟨lw_p0, List.forall_mem_cons.mpr ⟨lw_p1, List.forall_mem_cons.mpr ⟨lw_p2, List.forall_mem_cons.mpr ⟨lw_p3, List.forall_mem_cons.mpr ⟨lw_p4, List.forall_mem_cons.mpr ⟨lw_p5, List.forall_mem_cons.mpr ⟨lw_p6, List.forall_mem_cons.mpr ⟨lw_p7, List.forall_mem_cons.mpr ⟨lw_p8, List.forall_mem_cons.mpr ⟨lw_p9, List.forall_mem_cons.mpr ⟨lw_p10, List.forall_mem_cons.mpr ⟨lw_p11, List.forall_mem_cons.mpr ⟨lw_p12, List.forall_mem_cons.mpr ⟨lw_p13, List.forall_mem_cons.mpr ⟨lw_p14, List.forall_mem_cons.mpr ⟨lw_p15, fun _ h => absurd h List.not_mem_nil⟩⟩⟩⟩⟩⟩⟩⟩⟩⟩⟩⟩⟩⟩⟩⟩
theorem lw_p16 : lw_okq (⟨"CodeShrinker$Families", "writeItems", "(LCodeShrinker$ProgramMethod;)V"⟩, 8) := ⟨⟨by decide +kernel, by decide +kernel⟩, List.mem_of_getElem? (i := 105) (by decide +kernel), List.mem_of_getElem? (i := 318) (by decide +kernel), List.mem_of_getElem? (i := 319) (by decide +kernel)⟩
theorem lw_p17 : lw_okq (⟨"CodeShrinker$Families", "newNameOf", "(LCodeShrinker$ProgramClass;II)I"⟩, 8) := ⟨⟨by decide +kernel, by decide +kernel⟩, List.mem_of_getElem? (i := 105) (by decide +kernel), List.mem_of_getElem? (i := 323) (by decide +kernel), List.mem_of_getElem? (i := 324) (by decide +kernel)⟩
theorem lw_p18 : lw_okq (⟨"CodeShrinker", "parentOf", "(I)I"⟩, 5) := ⟨⟨by decide +kernel, by decide +kernel⟩, List.mem_of_getElem? (i := 26) (by decide +kernel), List.mem_of_getElem? (i := 339) (by decide +kernel), List.mem_of_getElem? (i := 340) (by decide +kernel)⟩
theorem lw_p19 : lw_okq (⟨"CodeShrinker", "isClass", "(I)Z"⟩, 5) := ⟨⟨by decide +kernel, by decide +kernel⟩, List.mem_of_getElem? (i := 26) (by decide +kernel), List.mem_of_getElem? (i := 343) (by decide +kernel), List.mem_of_getElem? (i := 344) (by decide +kernel)⟩
theorem lw_p20 : lw_okq (⟨"java/lang/Throwable", "fillInStackTrace", "(I)Ljava/lang/Throwable;"⟩, 6) := ⟨⟨by decide +kernel, by decide +kernel⟩, List.mem_of_getElem? (i := 399) (by decide +kernel), List.mem_of_getElem? (i := 397) (by decide +kernel), List.mem_of_getElem? (i := 398) (by decide +kernel)⟩
theorem lw_p21 : lw_okq (⟨"java/util/ArrayList", "add", "(Ljava/lang/Object;[Ljava/lang/Object;I)V"⟩, 3) := ⟨⟨by decide +kernel, by decide +kernel⟩, List.mem_of_getElem? (i := 40) (by decide +kernel), List.mem_of_getElem? (i := 482) (by decide +kernel), List.mem_of_getElem? (i := 483) (by decide +kernel)⟩
theorem lw_p22 : lw_okq (⟨"java/util/ArrayList", "grow", "()[Ljava/lang/Object;"⟩, 3) := ⟨⟨by decide +kernel, by decide +kernel⟩, List.mem_of_getElem? (i := 40) (by decide +kernel), List.mem_of_getElem? (i := 486) (by decide +kernel), List.mem_of_getElem? (i := 487) (by decide +kernel)⟩
theorem lw_p23 : lw_okq (⟨"java/util/ArrayList", "grow", "(I)[Ljava/lang/Object;"⟩, 3) := ⟨⟨by decide +kernel, by decide +kernel⟩, List.mem_of_getElem? (i := 40) (by decide +kernel), List.mem_of_getElem? (i := 490) (by decide +kernel), List.mem_of_getElem? (i := 491) (by decide +kernel)⟩
theorem lw_p24 : lw_okq (⟨"CodeShrinker", "isMethod", "(I)Z"⟩, 5) := ⟨⟨by decide +kernel, by decide +kernel⟩, List.mem_of_getElem? (i := 26) (by decide +kernel), List.mem_of_getElem? (i := 609) (by decide +kernel), List.mem_of_getElem? (i := 610) (by decide +kernel)⟩
theorem lw_p25 : lw_okq (⟨"CodeShrinker", "isItem", "(IIII)Z"⟩, 5) := ⟨⟨by decide +kernel, by decide +kernel⟩, List.mem_of_getElem? (i := 26) (by decide +kernel), List.mem_of_getElem? (i := 613) (by decide +kernel), List.mem_of_getElem? (i := 614) (by decide +kernel)⟩
theorem lw_p26 : lw_okq (⟨"CodeShrinker", "newItem", "(IIII)LCodeShrinker$Item;"⟩, 5) := ⟨⟨by decide +kernel, by decide +kernel⟩, List.mem_of_getElem? (i := 26) (by decide +kernel), List.mem_of_getElem? (i := 618) (by decide +kernel), List.mem_of_getElem? (i := 619) (by decide +kernel)⟩
theorem lw_p27 : lw_okq (⟨"CodeShrinker$Runner", "perform", "(LCodeShrinker$ProgramClass;III)V"⟩, 2) := ⟨⟨by decide +kernel, by decide +kernel⟩, List.mem_of_getElem? (i := 79) (by decide +kernel), List.mem_of_getElem? (i := 676) (by decide +kernel), List.mem_of_getElem? (i := 677) (by decide +kernel)⟩
theorem lw_p28 : lw_okq (⟨"CodeShrinker$Runner", "performItem", "(LCodeShrinker$Item;LCodeShrinker$ProgramClass;I)V"⟩, 2) := ⟨⟨by decide +kernel, by decide +kernel⟩, List.mem_of_getElem? (i := 79) (by decide +kernel), List.mem_of_getElem? (i := 703) (by decide +kernel), List.mem_of_getElem? (i := 704) (by decide +kernel)⟩
theorem lw_p29 : lw_okq (⟨"CodeShrinkerModel", "isClass", "(I)Z"⟩, 31) := ⟨⟨by decide +kernel, by decide +kernel⟩, List.mem_of_getElem? (i := 737) (by decide +kernel), List.mem_of_getElem? (i := 845) (by decide +kernel), List.mem_of_getElem? (i := 846) (by decide +kernel)⟩
theorem lw_p30 : lw_okq (⟨"CodeShrinkerModel", "bad", "(Z)Z"⟩, 31) := ⟨⟨by decide +kernel, by decide +kernel⟩, List.mem_of_getElem? (i := 737) (by decide +kernel), List.mem_of_getElem? (i := 852) (by decide +kernel), List.mem_of_getElem? (i := 853) (by decide +kernel)⟩
theorem lw_p31 : lw_okq (⟨"CodeShrinkerModel", "fail", "(I)I"⟩, 31) := ⟨⟨by decide +kernel, by decide +kernel⟩, List.mem_of_getElem? (i := 737) (by decide +kernel), List.mem_of_getElem? (i := 856) (by decide +kernel), List.mem_of_getElem? (i := 857) (by decide +kernel)⟩
def lw_privs_2 : List (MethodName × Nat) := [(⟨"CodeShrinker$Families", "writeItems", "(LCodeShrinker$ProgramMethod;)V"⟩, 8), (⟨"CodeShrinker$Families", "newNameOf", "(LCodeShrinker$ProgramClass;II)I"⟩, 8), (⟨"CodeShrinker", "parentOf", "(I)I"⟩, 5), (⟨"CodeShrinker", "isClass", "(I)Z"⟩, 5), (⟨"java/lang/Throwable", "fillInStackTrace", "(I)Ljava/lang/Throwable;"⟩, 6), (⟨"java/util/ArrayList", "add", "(Ljava/lang/Object;[Ljava/lang/Object;I)V"⟩, 3), (⟨"java/util/ArrayList", "grow", "()[Ljava/lang/Object;"⟩, 3), (⟨"java/util/ArrayList", "grow", "(I)[Ljava/lang/Object;"⟩, 3), (⟨"CodeShrinker", "isMethod", "(I)Z"⟩, 5), (⟨"CodeShrinker", "isItem", "(IIII)Z"⟩, 5), (⟨"CodeShrinker", "newItem", "(IIII)LCodeShrinker$Item;"⟩, 5), (⟨"CodeShrinker$Runner", "perform", "(LCodeShrinker$ProgramClass;III)V"⟩, 2), (⟨"CodeShrinker$Runner", "performItem", "(LCodeShrinker$Item;LCodeShrinker$ProgramClass;I)V"⟩, 2), (⟨"CodeShrinkerModel", "isClass", "(I)Z"⟩, 31), (⟨"CodeShrinkerModel", "bad", "(Z)Z"⟩, 31), (⟨"CodeShrinkerModel", "fail", "(I)I"⟩, 31)]
theorem lw_r2 : ∀ q ∈ lw_privs_2, lw_okq q := List.forall_mem_cons.mpr ⟨lw_p16, List.forall_mem_cons.mpr ⟨lw_p17, List.forall_mem_cons.mpr ⟨lw_p18, List.forall_mem_cons.mpr ⟨lw_p19, List.forall_mem_cons.mpr ⟨lw_p20, List.forall_mem_cons.mpr ⟨lw_p21, List.forall_mem_cons.mpr ⟨lw_p22, List.forall_mem_cons.mpr ⟨lw_p23, List.forall_mem_cons.mpr ⟨lw_p24, List.forall_mem_cons.mpr ⟨lw_p25, List.forall_mem_cons.mpr ⟨lw_p26, List.forall_mem_cons.mpr ⟨lw_p27, List.forall_mem_cons.mpr ⟨lw_p28, List.forall_mem_cons.mpr ⟨lw_p29, List.forall_mem_cons.mpr ⟨lw_p30, List.forall_mem_cons.mpr ⟨lw_p31, fun _ h => absurd h List.not_mem_nil⟩⟩⟩⟩⟩⟩⟩⟩⟩⟩⟩⟩⟩⟩⟩⟩
theorem lw_p32 : lw_okq (⟨"CodeShrinkerModel", "own", "(III)I"⟩, 31) := ⟨⟨by decide +kernel, by decide +kernel⟩, List.mem_of_getElem? (i := 737) (by decide +kernel), List.mem_of_getElem? (i := 864) (by decide +kernel), List.mem_of_getElem? (i := 865) (by decide +kernel)⟩
theorem lw_p33 : lw_okq (⟨"CodeShrinkerModel", "isMethod", "(I)Z"⟩, 31) := ⟨⟨by decide +kernel, by decide +kernel⟩, List.mem_of_getElem? (i := 737) (by decide +kernel), List.mem_of_getElem? (i := 872) (by decide +kernel), List.mem_of_getElem? (i := 873) (by decide +kernel)⟩
theorem lw_p34 : lw_okq (⟨"CodeShrinkerModel", "find", "(III)I"⟩, 31) := ⟨⟨by decide +kernel, by decide +kernel⟩, List.mem_of_getElem? (i := 737) (by decide +kernel), List.mem_of_getElem? (i := 884) (by decide +kernel), List.mem_of_getElem? (i := 885) (by decide +kernel)⟩
theorem lw_p35 : lw_okq (⟨"CodeShrinkerModel", "findLive", "()V"⟩, 31) := ⟨⟨by decide +kernel, by decide +kernel⟩, List.mem_of_getElem? (i := 737) (by decide +kernel), List.mem_of_getElem? (i := 892) (by decide +kernel), List.mem_of_getElem? (i := 893) (by decide +kernel)⟩
theorem lw_p36 : lw_okq (⟨"CodeShrinkerModel", "need", "(II)Z"⟩, 31) := ⟨⟨by decide +kernel, by decide +kernel⟩, List.mem_of_getElem? (i := 737) (by decide +kernel), List.mem_of_getElem? (i := 896) (by decide +kernel), List.mem_of_getElem? (i := 897) (by decide +kernel)⟩
theorem lw_p37 : lw_okq (⟨"CodeShrinkerModel", "enliven", "(II)Z"⟩, 31) := ⟨⟨by decide +kernel, by decide +kernel⟩, List.mem_of_getElem? (i := 737) (by decide +kernel), List.mem_of_getElem? (i := 900) (by decide +kernel), List.mem_of_getElem? (i := 901) (by decide +kernel)⟩
theorem lw_p38 : lw_okq (⟨"CodeShrinkerModel", "above", "(II)Z"⟩, 31) := ⟨⟨by decide +kernel, by decide +kernel⟩, List.mem_of_getElem? (i := 737) (by decide +kernel), List.mem_of_getElem? (i := 904) (by decide +kernel), List.mem_of_getElem? (i := 905) (by decide +kernel)⟩
theorem lw_p39 : lw_okq (⟨"CodeShrinkerModel", "moveMethod", "(II)V"⟩, 31) := ⟨⟨by decide +kernel, by decide +kernel⟩, List.mem_of_getElem? (i := 737) (by decide +kernel), List.mem_of_getElem? (i := 908) (by decide +kernel), List.mem_of_getElem? (i := 909) (by decide +kernel)⟩
theorem lw_p40 : lw_okq (⟨"CodeShrinkerModel", "gather", "()I"⟩, 31) := ⟨⟨by decide +kernel, by decide +kernel⟩, List.mem_of_getElem? (i := 737) (by decide +kernel), List.mem_of_getElem? (i := 916) (by decide +kernel), List.mem_of_getElem? (i := 917) (by decide +kernel)⟩
theorem lw_p41 : lw_okq (⟨"CodeShrinkerModel", "member", "(IIII)V"⟩, 31) := ⟨⟨by decide +kernel, by decide +kernel⟩, List.mem_of_getElem? (i := 737) (by decide +kernel), List.mem_of_getElem? (i := 920) (by decide +kernel), List.mem_of_getElem? (i := 921) (by decide +kernel)⟩
theorem lw_p42 : lw_okq (⟨"CodeShrinkerModel", "alike", "(II)Z"⟩, 31) := ⟨⟨by decide +kernel, by decide +kernel⟩, List.mem_of_getElem? (i := 737) (by decide +kernel), List.mem_of_getElem? (i := 924) (by decide +kernel), List.mem_of_getElem? (i := 925) (by decide +kernel)⟩
theorem lw_p43 : lw_okq (⟨"CodeShrinkerModel", "related", "(II)Z"⟩, 31) := ⟨⟨by decide +kernel, by decide +kernel⟩, List.mem_of_getElem? (i := 737) (by decide +kernel), List.mem_of_getElem? (i := 928) (by decide +kernel), List.mem_of_getElem? (i := 929) (by decide +kernel)⟩
theorem lw_p44 : lw_okq (⟨"CodeShrinkerModel", "keptFamily", "(I)Z"⟩, 31) := ⟨⟨by decide +kernel, by decide +kernel⟩, List.mem_of_getElem? (i := 737) (by decide +kernel), List.mem_of_getElem? (i := 932) (by decide +kernel), List.mem_of_getElem? (i := 933) (by decide +kernel)⟩
theorem lw_p45 : lw_okq (⟨"CodeShrinkerModel", "freeName", "(II)I"⟩, 31) := ⟨⟨by decide +kernel, by decide +kernel⟩, List.mem_of_getElem? (i := 737) (by decide +kernel), List.mem_of_getElem? (i := 936) (by decide +kernel), List.mem_of_getElem? (i := 937) (by decide +kernel)⟩
theorem lw_p46 : lw_okq (⟨"CodeShrinkerModel", "clash", "(III)Z"⟩, 31) := ⟨⟨by decide +kernel, by decide +kernel⟩, List.mem_of_getElem? (i := 737) (by decide +kernel), List.mem_of_getElem? (i := 940) (by decide +kernel), List.mem_of_getElem? (i := 941) (by decide +kernel)⟩
def lw_privs_3 : List (MethodName × Nat) := [(⟨"CodeShrinkerModel", "own", "(III)I"⟩, 31), (⟨"CodeShrinkerModel", "isMethod", "(I)Z"⟩, 31), (⟨"CodeShrinkerModel", "find", "(III)I"⟩, 31), (⟨"CodeShrinkerModel", "findLive", "()V"⟩, 31), (⟨"CodeShrinkerModel", "need", "(II)Z"⟩, 31), (⟨"CodeShrinkerModel", "enliven", "(II)Z"⟩, 31), (⟨"CodeShrinkerModel", "above", "(II)Z"⟩, 31), (⟨"CodeShrinkerModel", "moveMethod", "(II)V"⟩, 31), (⟨"CodeShrinkerModel", "gather", "()I"⟩, 31), (⟨"CodeShrinkerModel", "member", "(IIII)V"⟩, 31), (⟨"CodeShrinkerModel", "alike", "(II)Z"⟩, 31), (⟨"CodeShrinkerModel", "related", "(II)Z"⟩, 31), (⟨"CodeShrinkerModel", "keptFamily", "(I)Z"⟩, 31), (⟨"CodeShrinkerModel", "freeName", "(II)I"⟩, 31), (⟨"CodeShrinkerModel", "clash", "(III)Z"⟩, 31)]
theorem lw_r3 : ∀ q ∈ lw_privs_3, lw_okq q := List.forall_mem_cons.mpr ⟨lw_p32, List.forall_mem_cons.mpr ⟨lw_p33, List.forall_mem_cons.mpr ⟨lw_p34, List.forall_mem_cons.mpr ⟨lw_p35, List.forall_mem_cons.mpr ⟨lw_p36, List.forall_mem_cons.mpr ⟨lw_p37, List.forall_mem_cons.mpr ⟨lw_p38, List.forall_mem_cons.mpr ⟨lw_p39, List.forall_mem_cons.mpr ⟨lw_p40, List.forall_mem_cons.mpr ⟨lw_p41, List.forall_mem_cons.mpr ⟨lw_p42, List.forall_mem_cons.mpr ⟨lw_p43, List.forall_mem_cons.mpr ⟨lw_p44, List.forall_mem_cons.mpr ⟨lw_p45, List.forall_mem_cons.mpr ⟨lw_p46, fun _ h => absurd h List.not_mem_nil⟩⟩⟩⟩⟩⟩⟩⟩⟩⟩⟩⟩⟩⟩⟩
def lw_privs : List (MethodName × Nat) := lw_privs_1 ++ (lw_privs_2 ++ (lw_privs_3))
def lw_tbl : List Cond := k2_sels lw_privs ++ tables_1
theorem lw_privs_ok : ∀ q ∈ lw_privs, lw_okq q := by
  show ∀ q ∈ lw_privs_1 ++ (lw_privs_2 ++ (lw_privs_3)), lw_okq q
  exact List.forall_mem_append.mpr ⟨lw_r1, List.forall_mem_append.mpr ⟨lw_r2, lw_r3⟩⟩

def R_Fa : String := "CodeShrinker$Families"
def F_Fa : u_T := fun k => match k with
  | 0 => ("CodeShrinker$Families", "program", "LCodeShrinker$Program;", true)
  | 1 => ("CodeShrinker$Families", "relatives", "[I", true)
  | 2 => ("CodeShrinker$Families", "names", "[I", true)
  | 3 => ("CodeShrinker$Families", "arities", "[I", true)
  | 4 => ("CodeShrinker$Families", "members", "[I", true)
  | 5 => ("CodeShrinker$Families", "newNames", "[I", true)
  | 6 => ("CodeShrinker$Families", "kept", "[Z", true)
  | _ => ("CodeShrinker$Families", "size", "I", false)
def tt_Fa : Nat → FieldType := fun k => match k with
  | 0 => .object "CodeShrinker$Program"
  | 1 => .array .int
  | 2 => .array .int
  | 3 => .array .int
  | 4 => .array .int
  | 5 => .array .int
  | 6 => .array .boolean
  | _ => .int
theorem n_Fa : ∀ a, a < 8 → ∀ b, b < 8 → a ≠ b → (F_Fa a).2.1 ≠ (F_Fa b).2.1 := by decide +kernel
theorem tt_Fa_ok : ∀ k, k < 8 → parseFieldDescriptor (F_Fa k).2.2.1 = some (tt_Fa k) := by decide +kernel
def R_It : String := "CodeShrinker$Item"
def F_It : u_T := fun k => match k with
  | 0 => ("CodeShrinker$Item", "kind", "I", true)
  | 1 => ("CodeShrinker$Item", "value", "I", true)
  | 2 => ("CodeShrinker$Item", "target", "LCodeShrinker$ProgramClass;", true)
  | 3 => ("CodeShrinker$Item", "arity", "I", true)
  | _ => ("CodeShrinker$Item", "name", "I", false)
def tt_It : Nat → FieldType := fun k => match k with
  | 0 => .int
  | 1 => .int
  | 2 => .object "CodeShrinker$ProgramClass"
  | 3 => .int
  | _ => .int
theorem n_It : ∀ a, a < 5 → ∀ b, b < 5 → a ≠ b → (F_It a).2.1 ≠ (F_It b).2.1 := by decide +kernel
theorem tt_It_ok : ∀ k, k < 5 → parseFieldDescriptor (F_It k).2.2.1 = some (tt_It k) := by decide +kernel
def R_Pr : String := "CodeShrinker$Program"
def F_Pr : u_T := fun k => match k with
  | 0 => ("CodeShrinker$Program", "classes", "Ljava/util/ArrayList;", true)
  | _ => ("CodeShrinker$Program", "methods", "Ljava/util/ArrayList;", true)
def tt_Pr : Nat → FieldType := fun k => match k with
  | 0 => .object "java/util/ArrayList"
  | _ => .object "java/util/ArrayList"
theorem n_Pr : ∀ a, a < 2 → ∀ b, b < 2 → a ≠ b → (F_Pr a).2.1 ≠ (F_Pr b).2.1 := by decide +kernel
theorem tt_Pr_ok : ∀ k, k < 2 → parseFieldDescriptor (F_Pr k).2.2.1 = some (tt_Pr k) := by decide +kernel
def R_Pc : String := "CodeShrinker$ProgramClass"
def F_Pc : u_T := fun k => match k with
  | 0 => ("CodeShrinker$ProgramClass", "parent", "LCodeShrinker$ProgramClass;", true)
  | 1 => ("CodeShrinker$ProgramClass", "firstNumber", "I", true)
  | 2 => ("CodeShrinker$ProgramClass", "methods", "Ljava/util/ArrayList;", true)
  | 3 => ("CodeShrinker$ProgramClass", "number", "I", false)
  | _ => ("CodeShrinker$ProgramClass", "made", "Z", false)
def tt_Pc : Nat → FieldType := fun k => match k with
  | 0 => .object "CodeShrinker$ProgramClass"
  | 1 => .int
  | 2 => .object "java/util/ArrayList"
  | 3 => .int
  | _ => .boolean
theorem n_Pc : ∀ a, a < 5 → ∀ b, b < 5 → a ≠ b → (F_Pc a).2.1 ≠ (F_Pc b).2.1 := by decide +kernel
theorem tt_Pc_ok : ∀ k, k < 5 → parseFieldDescriptor (F_Pc k).2.2.1 = some (tt_Pc k) := by decide +kernel
def R_Pm : String := "CodeShrinker$ProgramMethod"
def F_Pm : u_T := fun k => match k with
  | 0 => ("CodeShrinker$ProgramMethod", "owner", "LCodeShrinker$ProgramClass;", true)
  | 1 => ("CodeShrinker$ProgramMethod", "firstNumber", "I", true)
  | 2 => ("CodeShrinker$ProgramMethod", "firstName", "I", true)
  | 3 => ("CodeShrinker$ProgramMethod", "arity", "I", true)
  | 4 => ("CodeShrinker$ProgramMethod", "items", "Ljava/util/ArrayList;", true)
  | 5 => ("CodeShrinker$ProgramMethod", "name", "I", false)
  | 6 => ("CodeShrinker$ProgramMethod", "kept", "Z", false)
  | _ => ("CodeShrinker$ProgramMethod", "live", "Z", false)
def tt_Pm : Nat → FieldType := fun k => match k with
  | 0 => .object "CodeShrinker$ProgramClass"
  | 1 => .int
  | 2 => .int
  | 3 => .int
  | 4 => .object "java/util/ArrayList"
  | 5 => .int
  | 6 => .boolean
  | _ => .boolean
theorem n_Pm : ∀ a, a < 8 → ∀ b, b < 8 → a ≠ b → (F_Pm a).2.1 ≠ (F_Pm b).2.1 := by decide +kernel
theorem tt_Pm_ok : ∀ k, k < 8 → parseFieldDescriptor (F_Pm k).2.2.1 = some (tt_Pm k) := by decide +kernel
def R_Re : String := "CodeShrinker$Reach"
def F_Re : u_T := fun k => match k with
  | 0 => ("CodeShrinker$Reach", "program", "LCodeShrinker$Program;", true)
  | _ => ("CodeShrinker$Reach", "grew", "Z", false)
def tt_Re : Nat → FieldType := fun k => match k with
  | 0 => .object "CodeShrinker$Program"
  | _ => .boolean
theorem n_Re : ∀ a, a < 2 → ∀ b, b < 2 → a ≠ b → (F_Re a).2.1 ≠ (F_Re b).2.1 := by decide +kernel
theorem tt_Re_ok : ∀ k, k < 2 → parseFieldDescriptor (F_Re k).2.2.1 = some (tt_Re k) := by decide +kernel
def R_Ru : String := "CodeShrinker$Runner"
def F_Ru : u_T := fun k => match k with
  | 0 => ("CodeShrinker$Runner", "outcome", "I", false)
  | _ => ("CodeShrinker$Runner", "itemsDone", "I", false)
def tt_Ru : Nat → FieldType := fun k => match k with
  | 0 => .int
  | _ => .int
theorem n_Ru : ∀ a, a < 2 → ∀ b, b < 2 → a ≠ b → (F_Ru a).2.1 ≠ (F_Ru b).2.1 := by decide +kernel
theorem tt_Ru_ok : ∀ k, k < 2 → parseFieldDescriptor (F_Ru k).2.2.1 = some (tt_Ru k) := by decide +kernel
def R_Cs : String := "CodeShrinker"
def F_Cs : u_T := fun k => match k with
  | 0 => ("CodeShrinker", "program", "LCodeShrinker$Program;", true)
  | 1 => ("CodeShrinker", "runner", "LCodeShrinker$Runner;", true)
  | 2 => ("CodeShrinker", "reach", "LCodeShrinker$Reach;", true)
  | 3 => ("CodeShrinker", "families", "LCodeShrinker$Families;", true)
  | _ => ("CodeShrinker", "goneInAll", "I", false)
def tt_Cs : Nat → FieldType := fun k => match k with
  | 0 => .object "CodeShrinker$Program"
  | 1 => .object "CodeShrinker$Runner"
  | 2 => .object "CodeShrinker$Reach"
  | 3 => .object "CodeShrinker$Families"
  | _ => .int
theorem n_Cs : ∀ a, a < 5 → ∀ b, b < 5 → a ≠ b → (F_Cs a).2.1 ≠ (F_Cs b).2.1 := by decide +kernel
theorem tt_Cs_ok : ∀ k, k < 5 → parseFieldDescriptor (F_Cs k).2.2.1 = some (tt_Cs k) := by decide +kernel
def R_Mo : String := "CodeShrinkerModel"
def F_Mo : u_T := fun k => match k with
  | 0 => ("CodeShrinkerModel", "parent", "[I", true)
  | 1 => ("CodeShrinkerModel", "classBorn", "[I", true)
  | 2 => ("CodeShrinkerModel", "of", "[I", true)
  | 3 => ("CodeShrinkerModel", "name", "[I", true)
  | 4 => ("CodeShrinkerModel", "arity", "[I", true)
  | 5 => ("CodeShrinkerModel", "items", "[I", true)
  | 6 => ("CodeShrinkerModel", "born", "[I", true)
  | 7 => ("CodeShrinkerModel", "bornName", "[I", true)
  | 8 => ("CodeShrinkerModel", "bornClass", "[I", true)
  | 9 => ("CodeShrinkerModel", "kept", "[Z", true)
  | 10 => ("CodeShrinkerModel", "live", "[Z", true)
  | 11 => ("CodeShrinkerModel", "made", "[Z", true)
  | 12 => ("CodeShrinkerModel", "kind", "[I", true)
  | 13 => ("CodeShrinkerModel", "a", "[I", true)
  | 14 => ("CodeShrinkerModel", "b", "[I", true)
  | 15 => ("CodeShrinkerModel", "c", "[I", true)
  | 16 => ("CodeShrinkerModel", "classes", "I", false)
  | 17 => ("CodeShrinkerModel", "methods", "I", false)
  | 18 => ("CodeShrinkerModel", "gone", "I", false)
  | 19 => ("CodeShrinkerModel", "thrown", "I", false)
  | 20 => ("CodeShrinkerModel", "family", "[I", true)
  | 21 => ("CodeShrinkerModel", "memberClass", "[I", true)
  | 22 => ("CodeShrinkerModel", "memberName", "[I", true)
  | 23 => ("CodeShrinkerModel", "memberArity", "[I", true)
  | 24 => ("CodeShrinkerModel", "fresh", "[I", true)
  | 25 => ("CodeShrinkerModel", "newNames", "[I", true)
  | 26 => ("CodeShrinkerModel", "newNumber", "[I", true)
  | 27 => ("CodeShrinkerModel", "newClass", "[I", true)
  | 28 => ("CodeShrinkerModel", "running", "[I", true)
  | 29 => ("CodeShrinkerModel", "at", "[I", true)
  | _ => ("CodeShrinkerModel", "worker", "[I", true)
def tt_Mo : Nat → FieldType := fun k => match k with
  | 0 => .array .int
  | 1 => .array .int
  | 2 => .array .int
  | 3 => .array .int
  | 4 => .array .int
  | 5 => .array .int
  | 6 => .array .int
  | 7 => .array .int
  | 8 => .array .int
  | 9 => .array .boolean
  | 10 => .array .boolean
  | 11 => .array .boolean
  | 12 => .array .int
  | 13 => .array .int
  | 14 => .array .int
  | 15 => .array .int
  | 16 => .int
  | 17 => .int
  | 18 => .int
  | 19 => .int
  | 20 => .array .int
  | 21 => .array .int
  | 22 => .array .int
  | 23 => .array .int
  | 24 => .array .int
  | 25 => .array .int
  | 26 => .array .int
  | 27 => .array .int
  | 28 => .array .int
  | 29 => .array .int
  | _ => .array .int
theorem n_Mo : ∀ a, a < 31 → ∀ b, b < 31 → a ≠ b → (F_Mo a).2.1 ≠ (F_Mo b).2.1 := by decide +kernel
theorem tt_Mo_ok : ∀ k, k < 31 → parseFieldDescriptor (F_Mo k).2.2.1 = some (tt_Mo k) := by decide +kernel
def R_Al : String := "java/util/ArrayList"
def F_Al : u_T := fun k => match k with
  | 0 => ("java/util/ArrayList", "elementData", "[Ljava/lang/Object;", false)
  | 1 => ("java/util/ArrayList", "size", "I", false)
  | _ => ("java/util/AbstractList", "modCount", "I", false)
def tt_Al : Nat → FieldType := fun k => match k with
  | 0 => .array (.object "java/lang/Object")
  | 1 => .int
  | _ => .int
theorem n_Al : ∀ a, a < 3 → ∀ b, b < 3 → a ≠ b → (F_Al a).2.1 ≠ (F_Al b).2.1 := by decide +kernel
theorem tt_Al_ok : ∀ k, k < 3 → parseFieldDescriptor (F_Al k).2.2.1 = some (tt_Al k) := by decide +kernel
def vCl : List vw_C := [(R_Fa, F_Fa, 8), (R_It, F_It, 5), (R_Pr, F_Pr, 2), (R_Pc, F_Pc, 5), (R_Pm, F_Pm, 8), (R_Re, F_Re, 2), (R_Ru, F_Ru, 2), (R_Cs, F_Cs, 5), (R_Mo, F_Mo, 31), (R_Al, F_Al, 3)]
abbrev vM : Type := MethodName × ByteArray × Nat × Option FieldType × List (Nat × Nat × Nat × Nat)
def y_Cs_init : MethodName := ⟨"CodeShrinker", "<init>", "()V"⟩
abbrev b_Cs_init : ByteArray := prog_1_method_1_code
def M_Cs_init : vM := (y_Cs_init, b_Cs_init, 1, none, [])
def y_Ob_init : MethodName := ⟨"java/lang/Object", "<init>", "()V"⟩
abbrev b_Ob_init : ByteArray := object_method_1_code
def M_Ob_init : vM := (y_Ob_init, b_Ob_init, 1, none, [])
def y_Pr_init : MethodName := ⟨"CodeShrinker$Program", "<init>", "()V"⟩
abbrev b_Pr_init : ByteArray := prog_4_method_1_code
def M_Pr_init : vM := (y_Pr_init, b_Pr_init, 1, none, [])
def y_Al_init : MethodName := ⟨"java/util/ArrayList", "<init>", "()V"⟩
abbrev b_Al_init : ByteArray := prog_24_method_2_code
def M_Al_init : vM := (y_Al_init, b_Al_init, 1, none, [])
def y_Ab_init : MethodName := ⟨"java/util/AbstractList", "<init>", "()V"⟩
abbrev b_Ab_init : ByteArray := prog_23_method_1_code
def M_Ab_init : vM := (y_Ab_init, b_Ab_init, 1, none, [])
def y_Ac_init : MethodName := ⟨"java/util/AbstractCollection", "<init>", "()V"⟩
abbrev b_Ac_init : ByteArray := prog_22_method_1_code
def M_Ac_init : vM := (y_Ac_init, b_Ac_init, 1, none, [])
def y_Ru_init : MethodName := ⟨"CodeShrinker$Runner", "<init>", "()V"⟩
abbrev b_Ru_init : ByteArray := prog_8_method_1_code
def M_Ru_init : vM := (y_Ru_init, b_Ru_init, 1, none, [])
def y_Re_init : MethodName := ⟨"CodeShrinker$Reach", "<init>", "(LCodeShrinker$Program;)V"⟩
abbrev b_Re_init : ByteArray := prog_7_method_1_code
def M_Re_init : vM := (y_Re_init, b_Re_init, 2, none, [])
def y_Fa_init : MethodName := ⟨"CodeShrinker$Families", "<init>", "(LCodeShrinker$Program;)V"⟩
abbrev b_Fa_init : ByteArray := prog_2_method_1_code
def M_Fa_init : vM := (y_Fa_init, b_Fa_init, 2, none, [])
def y_Cs_shrink : MethodName := ⟨"CodeShrinker", "shrink", "()I"⟩
abbrev b_Cs_shrink : ByteArray := prog_1_method_7_code
def M_Cs_shrink : vM := (y_Cs_shrink, b_Cs_shrink, 3, (some .int), [])
def y_Al_size : MethodName := ⟨"java/util/ArrayList", "size", "()I"⟩
abbrev b_Al_size : ByteArray := prog_24_method_8_code
def M_Al_size : vM := (y_Al_size, b_Al_size, 1, (some .int), [])
def y_Re_mark : MethodName := ⟨"CodeShrinker$Reach", "mark", "()V"⟩
abbrev b_Re_mark : ByteArray := prog_7_method_2_code
def M_Re_mark : vM := (y_Re_mark, b_Re_mark, 2, none, [])
def y_Re_clearMarks : MethodName := ⟨"CodeShrinker$Reach", "clearMarks", "()V"⟩
abbrev b_Re_clearMarks : ByteArray := prog_7_method_3_code
def M_Re_clearMarks : vM := (y_Re_clearMarks, b_Re_clearMarks, 2, none, [])
def y_Al_get : MethodName := ⟨"java/util/ArrayList", "get", "(I)Ljava/lang/Object;"⟩
abbrev b_Al_get : ByteArray := prog_24_method_20_code
def M_Al_get : vM := (y_Al_get, b_Al_get, 2, (some (.object "java/lang/Object")), [])
def y_Os_checkIndex : MethodName := ⟨"java/util/Objects", "checkIndex", "(II)I"⟩
abbrev b_Os_checkIndex : ByteArray := prog_29_method_17_code
def M_Os_checkIndex : vM := (y_Os_checkIndex, b_Os_checkIndex, 2, (some .int), [])
def y_Pd_checkIndex : MethodName := ⟨"jdk/internal/util/Preconditions", "checkIndex", "(IILjava/util/function/BiFunction;)I"⟩
abbrev b_Pd_checkIndex : ByteArray := prog_33_method_11_code
def M_Pd_checkIndex : vM := (y_Pd_checkIndex, b_Pd_checkIndex, 3, (some .int), [])
def y_Al_elementData : MethodName := ⟨"java/util/ArrayList", "elementData", "(I)Ljava/lang/Object;"⟩
abbrev b_Al_elementData : ByteArray := prog_24_method_18_code
def M_Al_elementData : vM := (y_Al_elementData, b_Al_elementData, 2, (some (.object "java/lang/Object")), [])
def y_Re_markKept : MethodName := ⟨"CodeShrinker$Reach", "markKept", "()V"⟩
abbrev b_Re_markKept : ByteArray := prog_7_method_4_code
def M_Re_markKept : vM := (y_Re_markKept, b_Re_markKept, 3, none, [])
def y_Re_markLive : MethodName := ⟨"CodeShrinker$Reach", "markLive", "(LCodeShrinker$ProgramMethod;)V"⟩
abbrev b_Re_markLive : ByteArray := prog_7_method_8_code
def M_Re_markLive : vM := (y_Re_markLive, b_Re_markLive, 2, none, [])
def y_Re_markMade : MethodName := ⟨"CodeShrinker$Reach", "markMade", "(LCodeShrinker$ProgramClass;)V"⟩
abbrev b_Re_markMade : ByteArray := prog_7_method_9_code
def M_Re_markMade : vM := (y_Re_markMade, b_Re_markMade, 2, none, [])
def y_Re_spreadFromLive : MethodName := ⟨"CodeShrinker$Reach", "spreadFromLive", "()V"⟩
abbrev b_Re_spreadFromLive : ByteArray := prog_7_method_5_code
def M_Re_spreadFromLive : vM := (y_Re_spreadFromLive, b_Re_spreadFromLive, 3, none, [])
def y_Re_spread : MethodName := ⟨"CodeShrinker$Reach", "spread", "(LCodeShrinker$ProgramMethod;)V"⟩
abbrev b_Re_spread : ByteArray := prog_7_method_6_code
def M_Re_spread : vM := (y_Re_spread, b_Re_spread, 4, none, [])
def y_Pc_find : MethodName := ⟨"CodeShrinker$ProgramClass", "find", "(II)LCodeShrinker$ProgramMethod;"⟩
abbrev b_Pc_find : ByteArray := prog_5_method_3_code
def M_Pc_find : vM := (y_Pc_find, b_Pc_find, 5, (some (.object "CodeShrinker$ProgramMethod")), [])
def y_Pc_own : MethodName := ⟨"CodeShrinker$ProgramClass", "own", "(II)LCodeShrinker$ProgramMethod;"⟩
abbrev b_Pc_own : ByteArray := prog_5_method_2_code
def M_Pc_own : vM := (y_Pc_own, b_Pc_own, 5, (some (.object "CodeShrinker$ProgramMethod")), [])
def y_Re_spreadSelf : MethodName := ⟨"CodeShrinker$Reach", "spreadSelf", "(LCodeShrinker$ProgramClass;LCodeShrinker$Item;)V"⟩
abbrev b_Re_spreadSelf : ByteArray := prog_7_method_7_code
def M_Re_spreadSelf : vM := (y_Re_spreadSelf, b_Re_spreadSelf, 5, none, [])
def y_Pc_isOrIsBelow : MethodName := ⟨"CodeShrinker$ProgramClass", "isOrIsBelow", "(LCodeShrinker$ProgramClass;)Z"⟩
abbrev b_Pc_isOrIsBelow : ByteArray := prog_5_method_4_code
def M_Pc_isOrIsBelow : vM := (y_Pc_isOrIsBelow, b_Pc_isOrIsBelow, 3, (some .boolean), [])
def y_Pr_dropUnreached : MethodName := ⟨"CodeShrinker$Program", "dropUnreached", "()V"⟩
abbrev b_Pr_dropUnreached : ByteArray := prog_4_method_4_code
def M_Pr_dropUnreached : vM := (y_Pr_dropUnreached, b_Pr_dropUnreached, 3, none, [])
def y_Pr_dropDead : MethodName := ⟨"CodeShrinker$Program", "dropDead", "(Ljava/util/ArrayList;)V"⟩
abbrev b_Pr_dropDead : ByteArray := prog_4_method_6_code
def M_Pr_dropDead : vM := (y_Pr_dropDead, b_Pr_dropDead, 2, none, [])
def y_Al_remove : MethodName := ⟨"java/util/ArrayList", "remove", "(I)Ljava/lang/Object;"⟩
abbrev b_Al_remove : ByteArray := prog_24_method_29_code
def M_Al_remove : vM := (y_Al_remove, b_Al_remove, 4, (some (.object "java/lang/Object")), [])
def y_Al_fastRemove : MethodName := ⟨"java/util/ArrayList", "fastRemove", "([Ljava/lang/Object;I)V"⟩
abbrev b_Al_fastRemove : ByteArray := prog_24_method_39_code
def M_Al_fastRemove : vM := (y_Al_fastRemove, b_Al_fastRemove, 4, none, [])
def y_Pr_isMadeOrAboveMade : MethodName := ⟨"CodeShrinker$Program", "isMadeOrAboveMade", "(LCodeShrinker$ProgramClass;)Z"⟩
abbrev b_Pr_isMadeOrAboveMade : ByteArray := prog_4_method_5_code
def M_Pr_isMadeOrAboveMade : vM := (y_Pr_isMadeOrAboveMade, b_Pr_isMadeOrAboveMade, 4, (some .boolean), [])
def y_Cs_rename : MethodName := ⟨"CodeShrinker", "rename", "()I"⟩
abbrev b_Cs_rename : ByteArray := prog_1_method_8_code
def M_Cs_rename : vM := (y_Cs_rename, b_Cs_rename, 1, (some .int), [])
def y_Fa_form : MethodName := ⟨"CodeShrinker$Families", "form", "()V"⟩
abbrev b_Fa_form : ByteArray := prog_2_method_2_code
def M_Fa_form : vM := (y_Fa_form, b_Fa_form, 4, none, [])
def y_Fa_seeRelatives : MethodName := ⟨"CodeShrinker$Families", "seeRelatives", "()V"⟩
abbrev b_Fa_seeRelatives : ByteArray := prog_2_method_5_code
def M_Fa_seeRelatives : vM := (y_Fa_seeRelatives, b_Fa_seeRelatives, 5, none, [])
def y_Ma_min : MethodName := ⟨"java/lang/Math", "min", "(II)I"⟩
abbrev b_Ma_min : ByteArray := prog_17_method_69_code
def M_Ma_min : vM := (y_Ma_min, b_Ma_min, 2, (some .int), [])
def y_Pc_isRelatedTo : MethodName := ⟨"CodeShrinker$ProgramClass", "isRelatedTo", "(LCodeShrinker$ProgramClass;)Z"⟩
abbrev b_Pc_isRelatedTo : ByteArray := prog_5_method_5_code
def M_Pc_isRelatedTo : vM := (y_Pc_isRelatedTo, b_Pc_isRelatedTo, 2, (some .boolean), [])
def y_Fa_familyOf : MethodName := ⟨"CodeShrinker$Families", "familyOf", "(LCodeShrinker$ProgramClass;II)I"⟩
abbrev b_Fa_familyOf : ByteArray := prog_2_method_14_code
def M_Fa_familyOf : vM := (y_Fa_familyOf, b_Fa_familyOf, 5, (some .int), [])
def y_Fa_holds : MethodName := ⟨"CodeShrinker$Families", "holds", "(II)Z"⟩
abbrev b_Fa_holds : ByteArray := prog_2_method_15_code
def M_Fa_holds : vM := (y_Fa_holds, b_Fa_holds, 2, (some .boolean), [])
def y_Fa_open : MethodName := ⟨"CodeShrinker$Families", "open", "(LCodeShrinker$ProgramMethod;)I"⟩
abbrev b_Fa_open : ByteArray := prog_2_method_6_code
def M_Fa_open : vM := (y_Fa_open, b_Fa_open, 3, (some .int), [])
def y_Fa_bearers : MethodName := ⟨"CodeShrinker$Families", "bearers", "(II)I"⟩
abbrev b_Fa_bearers : ByteArray := prog_2_method_7_code
def M_Fa_bearers : vM := (y_Fa_bearers, b_Fa_bearers, 6, (some .int), [])
def y_Fa_standsIn : MethodName := ⟨"CodeShrinker$Families", "standsIn", "(LCodeShrinker$ProgramMethod;II)Z"⟩
abbrev b_Fa_standsIn : ByteArray := prog_2_method_8_code
def M_Fa_standsIn : vM := (y_Fa_standsIn, b_Fa_standsIn, 5, (some .boolean), [])
def y_Fa_joinedTo : MethodName := ⟨"CodeShrinker$Families", "joinedTo", "(II)I"⟩
abbrev b_Fa_joinedTo : ByteArray := prog_2_method_9_code
def M_Fa_joinedTo : vM := (y_Fa_joinedTo, b_Fa_joinedTo, 5, (some .int), [])
def y_Fa_relatedTo : MethodName := ⟨"CodeShrinker$Families", "relatedTo", "(I)I"⟩
abbrev b_Fa_relatedTo : ByteArray := prog_2_method_10_code
def M_Fa_relatedTo : vM := (y_Fa_relatedTo, b_Fa_relatedTo, 4, (some .int), [])
def y_Fa_giveNames : MethodName := ⟨"CodeShrinker$Families", "giveNames", "()V"⟩
abbrev b_Fa_giveNames : ByteArray := prog_2_method_3_code
def M_Fa_giveNames : vM := (y_Fa_giveNames, b_Fa_giveNames, 2, none, [])
def y_Fa_leastFreeName : MethodName := ⟨"CodeShrinker$Families", "leastFreeName", "(I)I"⟩
abbrev b_Fa_leastFreeName : ByteArray := prog_2_method_11_code
def M_Fa_leastFreeName : vM := (y_Fa_leastFreeName, b_Fa_leastFreeName, 6, (some .int), [])
def y_Fa_writeNames : MethodName := ⟨"CodeShrinker$Families", "writeNames", "()V"⟩
abbrev b_Fa_writeNames : ByteArray := prog_2_method_4_code
def M_Fa_writeNames : vM := (y_Fa_writeNames, b_Fa_writeNames, 3, none, [])
def y_Fa_writeItems : MethodName := ⟨"CodeShrinker$Families", "writeItems", "(LCodeShrinker$ProgramMethod;)V"⟩
abbrev b_Fa_writeItems : ByteArray := prog_2_method_12_code
def M_Fa_writeItems : vM := (y_Fa_writeItems, b_Fa_writeItems, 5, none, [])
def y_Fa_newNameOf : MethodName := ⟨"CodeShrinker$Families", "newNameOf", "(LCodeShrinker$ProgramClass;II)I"⟩
abbrev b_Fa_newNameOf : ByteArray := prog_2_method_13_code
def M_Fa_newNameOf : vM := (y_Fa_newNameOf, b_Fa_newNameOf, 5, (some .int), [])
def y_Cs_count : MethodName := ⟨"CodeShrinker", "count", "(I)I"⟩
abbrev b_Cs_count : ByteArray := prog_1_method_12_code
def M_Cs_count : vM := (y_Cs_count, b_Cs_count, 2, (some .int), [])
def y_Pr_liveMethods : MethodName := ⟨"CodeShrinker$Program", "liveMethods", "()I"⟩
abbrev b_Pr_liveMethods : ByteArray := prog_4_method_2_code
def M_Pr_liveMethods : vM := (y_Pr_liveMethods, b_Pr_liveMethods, 3, (some .int), [])
def y_Pr_madeClasses : MethodName := ⟨"CodeShrinker$Program", "madeClasses", "()I"⟩
abbrev b_Pr_madeClasses : ByteArray := prog_4_method_3_code
def M_Pr_madeClasses : vM := (y_Pr_madeClasses, b_Pr_madeClasses, 3, (some .int), [])
def y_Cs_parentOf : MethodName := ⟨"CodeShrinker", "parentOf", "(I)I"⟩
abbrev b_Cs_parentOf : ByteArray := prog_1_method_13_code
def M_Cs_parentOf : vM := (y_Cs_parentOf, b_Cs_parentOf, 3, (some .int), [])
def y_Cs_isClass : MethodName := ⟨"CodeShrinker", "isClass", "(I)Z"⟩
abbrev b_Cs_isClass : ByteArray := prog_1_method_15_code
def M_Cs_isClass : vM := (y_Cs_isClass, b_Cs_isClass, 2, (some .boolean), [])
def y_Lw_add : MethodName := ⟨"CodeShrinkerLaw", "add", "(LCodeShrinker;I[J)I"⟩
abbrev b_Lw_add : ByteArray := method_3_code
def M_Lw_add : vM := (y_Lw_add, b_Lw_add, 4, (some .int), [(0, 9, 12, 13), (0, 9, 15, 15)])
def y_Cs_add : MethodName := ⟨"CodeShrinker", "add", "(I)I"⟩
abbrev b_Cs_add : ByteArray := prog_1_method_2_code
def M_Cs_add : vM := (y_Cs_add, b_Cs_add, 4, (some .int), [])
def y_Cs_require : MethodName := ⟨"CodeShrinker", "require", "(Z)V"⟩
abbrev b_Cs_require : ByteArray := prog_1_method_20_code
def M_Cs_require : vM := (y_Cs_require, b_Cs_require, 1, none, [])
def y_Th_init : MethodName := ⟨"java/lang/Throwable", "<init>", "()V"⟩
abbrev b_Th_init : ByteArray := prog_21_method_1_code
def M_Th_init : vM := (y_Th_init, b_Th_init, 1, none, [])
def y_Ia_init : MethodName := ⟨"java/lang/IllegalArgumentException", "<init>", "(Ljava/lang/String;)V"⟩
abbrev b_Ia_init : ByteArray := prog_14_method_2_code
def M_Ia_init : vM := (y_Ia_init, b_Ia_init, 2, none, [])
def y_Rt_init : MethodName := ⟨"java/lang/RuntimeException", "<init>", "(Ljava/lang/String;)V"⟩
abbrev b_Rt_init : ByteArray := prog_18_method_2_code
def M_Rt_init : vM := (y_Rt_init, b_Rt_init, 2, none, [])
def y_Ex_init : MethodName := ⟨"java/lang/Exception", "<init>", "(Ljava/lang/String;)V"⟩
abbrev b_Ex_init : ByteArray := prog_13_method_2_code
def M_Ex_init : vM := (y_Ex_init, b_Ex_init, 2, none, [])
def y_Th_init2 : MethodName := ⟨"java/lang/Throwable", "<init>", "(Ljava/lang/String;)V"⟩
abbrev b_Th_init2 : ByteArray := prog_21_method_2_code
def M_Th_init2 : vM := (y_Th_init2, b_Th_init2, 2, none, [])
def y_Is_init : MethodName := ⟨"java/lang/IllegalStateException", "<init>", "(Ljava/lang/String;)V"⟩
abbrev b_Is_init : ByteArray := prog_15_method_2_code
def M_Is_init : vM := (y_Is_init, b_Is_init, 2, none, [])
def y_Pc_init : MethodName := ⟨"CodeShrinker$ProgramClass", "<init>", "(ILCodeShrinker$ProgramClass;)V"⟩
abbrev b_Pc_init : ByteArray := prog_5_method_1_code
def M_Pc_init : vM := (y_Pc_init, b_Pc_init, 3, none, [])
def y_Al_add : MethodName := ⟨"java/util/ArrayList", "add", "(Ljava/lang/Object;)Z"⟩
abbrev b_Al_add : ByteArray := prog_24_method_25_code
def M_Al_add : vM := (y_Al_add, b_Al_add, 2, (some .boolean), [])
def y_Al_add2 : MethodName := ⟨"java/util/ArrayList", "add", "(Ljava/lang/Object;[Ljava/lang/Object;I)V"⟩
abbrev b_Al_add2 : ByteArray := prog_24_method_24_code
def M_Al_add2 : vM := (y_Al_add2, b_Al_add2, 4, none, [])
def y_Al_grow : MethodName := ⟨"java/util/ArrayList", "grow", "()[Ljava/lang/Object;"⟩
abbrev b_Al_grow : ByteArray := prog_24_method_7_code
def M_Al_grow : vM := (y_Al_grow, b_Al_grow, 1, (some (.array (.object "java/lang/Object"))), [])
def y_Al_grow2 : MethodName := ⟨"java/util/ArrayList", "grow", "(I)[Ljava/lang/Object;"⟩
abbrev b_Al_grow2 : ByteArray := prog_24_method_6_code
def M_Al_grow2 : vM := (y_Al_grow2, b_Al_grow2, 4, (some (.array (.object "java/lang/Object"))), [])
def y_As_newLength : MethodName := ⟨"jdk/internal/util/ArraysSupport", "newLength", "(III)I"⟩
abbrev b_As_newLength : ByteArray := prog_32_method_27_code
def M_As_newLength : vM := (y_As_newLength, b_As_newLength, 4, (some .int), [])
def y_Ma_max : MethodName := ⟨"java/lang/Math", "max", "(II)I"⟩
abbrev b_Ma_max : ByteArray := prog_17_method_65_code
def M_Ma_max : vM := (y_Ma_max, b_Ma_max, 2, (some .int), [])
def y_As_hugeLength : MethodName := ⟨"jdk/internal/util/ArraysSupport", "hugeLength", "(II)I"⟩
abbrev b_As_hugeLength : ByteArray := prog_32_method_28_code
def M_As_hugeLength : vM := (y_As_hugeLength, b_As_hugeLength, 3, (some .int), [])
def y_Ar_copyOf : MethodName := ⟨"java/util/Arrays", "copyOf", "([Ljava/lang/Object;I)[Ljava/lang/Object;"⟩
abbrev b_Ar_copyOf : ByteArray := prog_25_method_119_code
def M_Ar_copyOf : vM := (y_Ar_copyOf, b_Ar_copyOf, 2, (some (.array (.object "java/lang/Object"))), [])
def y_Ar_copyOf2 : MethodName := ⟨"java/util/Arrays", "copyOf", "([Ljava/lang/Object;ILjava/lang/Class;)[Ljava/lang/Object;"⟩
abbrev b_Ar_copyOf2 : ByteArray := prog_25_method_120_code
def M_Ar_copyOf2 : vM := (y_Ar_copyOf2, b_Ar_copyOf2, 4, (some (.array (.object "java/lang/Object"))), [])
def y_Lw_method : MethodName := ⟨"CodeShrinkerLaw", "method", "(LCodeShrinker;III[J)I"⟩
abbrev b_Lw_method : ByteArray := method_4_code
def M_Lw_method : vM := (y_Lw_method, b_Lw_method, 6, (some .int), [(0, 12, 15, 13), (0, 12, 19, 15)])
def y_Cs_method : MethodName := ⟨"CodeShrinker", "method", "(III)I"⟩
abbrev b_Cs_method : ByteArray := prog_1_method_3_code
def M_Cs_method : vM := (y_Cs_method, b_Cs_method, 7, (some .int), [])
def y_Cs_isName : MethodName := ⟨"CodeShrinker", "isName", "(I)Z"⟩
abbrev b_Cs_isName : ByteArray := prog_1_method_18_code
def M_Cs_isName : vM := (y_Cs_isName, b_Cs_isName, 1, (some .boolean), [])
def y_Cs_isArity : MethodName := ⟨"CodeShrinker", "isArity", "(I)Z"⟩
abbrev b_Cs_isArity : ByteArray := prog_1_method_19_code
def M_Cs_isArity : vM := (y_Cs_isArity, b_Cs_isArity, 1, (some .boolean), [])
def y_Pm_init : MethodName := ⟨"CodeShrinker$ProgramMethod", "<init>", "(ILCodeShrinker$ProgramClass;II)V"⟩
abbrev b_Pm_init : ByteArray := prog_6_method_1_code
def M_Pm_init : vM := (y_Pm_init, b_Pm_init, 5, none, [])
def y_Lw_item : MethodName := ⟨"CodeShrinkerLaw", "item", "(LCodeShrinker;IIIII[J)I"⟩
abbrev b_Lw_item : ByteArray := method_5_code
def M_Lw_item : vM := (y_Lw_item, b_Lw_item, 8, (some .int), [(0, 16, 19, 13), (0, 16, 23, 15)])
def y_Cs_item : MethodName := ⟨"CodeShrinker", "item", "(IIIII)I"⟩
abbrev b_Cs_item : ByteArray := prog_1_method_4_code
def M_Cs_item : vM := (y_Cs_item, b_Cs_item, 7, (some .int), [])
def y_Cs_isMethod : MethodName := ⟨"CodeShrinker", "isMethod", "(I)Z"⟩
abbrev b_Cs_isMethod : ByteArray := prog_1_method_16_code
def M_Cs_isMethod : vM := (y_Cs_isMethod, b_Cs_isMethod, 2, (some .boolean), [])
def y_Cs_isItem : MethodName := ⟨"CodeShrinker", "isItem", "(IIII)Z"⟩
abbrev b_Cs_isItem : ByteArray := prog_1_method_17_code
def M_Cs_isItem : vM := (y_Cs_isItem, b_Cs_isItem, 5, (some .boolean), [])
def y_Cs_newItem : MethodName := ⟨"CodeShrinker", "newItem", "(IIII)LCodeShrinker$Item;"⟩
abbrev b_Cs_newItem : ByteArray := prog_1_method_14_code
def M_Cs_newItem : vM := (y_Cs_newItem, b_Cs_newItem, 6, (some (.object "CodeShrinker$Item")), [])
def y_It_init : MethodName := ⟨"CodeShrinker$Item", "<init>", "(IILCodeShrinker$ProgramClass;II)V"⟩
abbrev b_It_init : ByteArray := prog_3_method_1_code
def M_It_init : vM := (y_It_init, b_It_init, 6, none, [])
def y_Lw_keep : MethodName := ⟨"CodeShrinkerLaw", "keep", "(LCodeShrinker;IZ)I"⟩
abbrev b_Lw_keep : ByteArray := method_6_code
def M_Lw_keep : vM := (y_Lw_keep, b_Lw_keep, 4, (some .int), [(0, 6, 9, 13)])
def y_Cs_keep : MethodName := ⟨"CodeShrinker", "keep", "(IZ)V"⟩
abbrev b_Cs_keep : ByteArray := prog_1_method_5_code
def M_Cs_keep : vM := (y_Cs_keep, b_Cs_keep, 3, none, [])
def y_Lw_run : MethodName := ⟨"CodeShrinkerLaw", "run", "(LCodeShrinker;III[J)I"⟩
abbrev b_Lw_run : ByteArray := method_7_code
def M_Lw_run : vM := (y_Lw_run, b_Lw_run, 6, (some .int), [(0, 12, 15, 13), (0, 12, 19, 32), (0, 12, 23, 15)])
def y_Cs_run : MethodName := ⟨"CodeShrinker", "run", "(III)I"⟩
abbrev b_Cs_run : ByteArray := prog_1_method_6_code
def M_Cs_run : vM := (y_Cs_run, b_Cs_run, 4, (some .int), [])
def y_Ru_outcomeOf : MethodName := ⟨"CodeShrinker$Runner", "outcomeOf", "(LCodeShrinker$ProgramClass;II)I"⟩
abbrev b_Ru_outcomeOf : ByteArray := prog_8_method_2_code
def M_Ru_outcomeOf : vM := (y_Ru_outcomeOf, b_Ru_outcomeOf, 4, (some .int), [])
def y_Ru_perform : MethodName := ⟨"CodeShrinker$Runner", "perform", "(LCodeShrinker$ProgramClass;III)V"⟩
abbrev b_Ru_perform : ByteArray := prog_8_method_3_code
def M_Ru_perform : vM := (y_Ru_perform, b_Ru_perform, 7, none, [])
def y_Ns_init : MethodName := ⟨"java/util/NoSuchElementException", "<init>", "(Ljava/lang/String;)V"⟩
abbrev b_Ns_init : ByteArray := prog_28_method_4_code
def M_Ns_init : vM := (y_Ns_init, b_Ns_init, 2, none, [])
def y_Ru_performItem : MethodName := ⟨"CodeShrinker$Runner", "performItem", "(LCodeShrinker$Item;LCodeShrinker$ProgramClass;I)V"⟩
abbrev b_Ru_performItem : ByteArray := prog_8_method_4_code
def M_Ru_performItem : vM := (y_Ru_performItem, b_Ru_performItem, 5, none, [])
def y_Lw_told : MethodName := ⟨"CodeShrinkerLaw", "told", "(LCodeShrinker;II[J)I"⟩
abbrev b_Lw_told : ByteArray := method_8_code
def M_Lw_told : vM := (y_Lw_told, b_Lw_told, 5, (some .int), [(0, 10, 13, 13)])
def y_Cs_told : MethodName := ⟨"CodeShrinker", "told", "(II)I"⟩
abbrev b_Cs_told : ByteArray := prog_1_method_9_code
def M_Cs_told : vM := (y_Cs_told, b_Cs_told, 4, (some .int), [])
def y_Lw_inside : MethodName := ⟨"CodeShrinkerLaw", "inside", "(LCodeShrinker;III[J)I"⟩
abbrev b_Lw_inside : ByteArray := method_9_code
def M_Lw_inside : vM := (y_Lw_inside, b_Lw_inside, 6, (some .int), [(0, 12, 15, 13), (0, 12, 19, 32)])
def y_Cs_inside : MethodName := ⟨"CodeShrinker", "inside", "(III)I"⟩
abbrev b_Cs_inside : ByteArray := prog_1_method_10_code
def M_Cs_inside : vM := (y_Cs_inside, b_Cs_inside, 5, (some .int), [])
def y_It_part : MethodName := ⟨"CodeShrinker$Item", "part", "(I)I"⟩
abbrev b_It_part : ByteArray := prog_3_method_2_code
def M_It_part : vM := (y_It_part, b_It_part, 2, (some .int), [])
def y_Lw_trace : MethodName := ⟨"CodeShrinkerLaw", "trace", "(LCodeShrinker;III[J)I"⟩
abbrev b_Lw_trace : ByteArray := method_10_code
def M_Lw_trace : vM := (y_Lw_trace, b_Lw_trace, 6, (some .int), [(0, 12, 15, 13), (0, 12, 19, 32)])
def y_Cs_trace : MethodName := ⟨"CodeShrinker", "trace", "(III)I"⟩
abbrev b_Cs_trace : ByteArray := prog_1_method_11_code
def M_Cs_trace : vM := (y_Cs_trace, b_Cs_trace, 5, (some .int), [])
def y_Mo_init : MethodName := ⟨"CodeShrinkerModel", "<init>", "()V"⟩
abbrev b_Mo_init : ByteArray := prog_10_method_1_code
def M_Mo_init : vM := (y_Mo_init, b_Mo_init, 1, none, [])
def y_Mo_thrown : MethodName := ⟨"CodeShrinkerModel", "thrown", "()I"⟩
abbrev b_Mo_thrown : ByteArray := prog_10_method_2_code
def M_Mo_thrown : vM := (y_Mo_thrown, b_Mo_thrown, 1, (some .int), [])
def y_Mo_add : MethodName := ⟨"CodeShrinkerModel", "add", "(I)I"⟩
abbrev b_Mo_add : ByteArray := prog_10_method_8_code
def M_Mo_add : vM := (y_Mo_add, b_Mo_add, 2, (some .int), [])
def y_Mo_isClass : MethodName := ⟨"CodeShrinkerModel", "isClass", "(I)Z"⟩
abbrev b_Mo_isClass : ByteArray := prog_10_method_6_code
def M_Mo_isClass : vM := (y_Mo_isClass, b_Mo_isClass, 2, (some .boolean), [])
def y_Mo_in : MethodName := ⟨"CodeShrinkerModel", "in", "(III)Z"⟩
abbrev b_Mo_in : ByteArray := prog_10_method_3_code
def M_Mo_in : vM := (y_Mo_in, b_Mo_in, 3, (some .boolean), [])
def y_Mo_bad : MethodName := ⟨"CodeShrinkerModel", "bad", "(Z)Z"⟩
abbrev b_Mo_bad : ByteArray := prog_10_method_4_code
def M_Mo_bad : vM := (y_Mo_bad, b_Mo_bad, 2, (some .boolean), [])
def y_Mo_fail : MethodName := ⟨"CodeShrinkerModel", "fail", "(I)I"⟩
abbrev b_Mo_fail : ByteArray := prog_10_method_5_code
def M_Mo_fail : vM := (y_Mo_fail, b_Mo_fail, 2, (some .int), [])
def y_Mo_method : MethodName := ⟨"CodeShrinkerModel", "method", "(III)I"⟩
abbrev b_Mo_method : ByteArray := prog_10_method_11_code
def M_Mo_method : vM := (y_Mo_method, b_Mo_method, 4, (some .int), [])
def y_Mo_own : MethodName := ⟨"CodeShrinkerModel", "own", "(III)I"⟩
abbrev b_Mo_own : ByteArray := prog_10_method_9_code
def M_Mo_own : vM := (y_Mo_own, b_Mo_own, 5, (some .int), [])
def y_Mo_item : MethodName := ⟨"CodeShrinkerModel", "item", "(IIIII)I"⟩
abbrev b_Mo_item : ByteArray := prog_10_method_12_code
def M_Mo_item : vM := (y_Mo_item, b_Mo_item, 8, (some .int), [])
def y_Mo_isMethod : MethodName := ⟨"CodeShrinkerModel", "isMethod", "(I)Z"⟩
abbrev b_Mo_isMethod : ByteArray := prog_10_method_7_code
def M_Mo_isMethod : vM := (y_Mo_isMethod, b_Mo_isMethod, 2, (some .boolean), [])
def y_Mo_keep : MethodName := ⟨"CodeShrinkerModel", "keep", "(IZ)V"⟩
abbrev b_Mo_keep : ByteArray := prog_10_method_13_code
def M_Mo_keep : vM := (y_Mo_keep, b_Mo_keep, 3, none, [])
def y_Mo_run : MethodName := ⟨"CodeShrinkerModel", "run", "(III)I"⟩
abbrev b_Mo_run : ByteArray := prog_10_method_14_code
def M_Mo_run : vM := (y_Mo_run, b_Mo_run, 13, (some .int), [])
def y_Mo_find : MethodName := ⟨"CodeShrinkerModel", "find", "(III)I"⟩
abbrev b_Mo_find : ByteArray := prog_10_method_10_code
def M_Mo_find : vM := (y_Mo_find, b_Mo_find, 6, (some .int), [])
def y_Mo_shrink : MethodName := ⟨"CodeShrinkerModel", "shrink", "()I"⟩
abbrev b_Mo_shrink : ByteArray := prog_10_method_21_code
def M_Mo_shrink : vM := (y_Mo_shrink, b_Mo_shrink, 6, (some .int), [])
def y_Mo_findLive : MethodName := ⟨"CodeShrinkerModel", "findLive", "()V"⟩
abbrev b_Mo_findLive : ByteArray := prog_10_method_19_code
def M_Mo_findLive : vM := (y_Mo_findLive, b_Mo_findLive, 4, none, [])
def y_Mo_need : MethodName := ⟨"CodeShrinkerModel", "need", "(II)Z"⟩
abbrev b_Mo_need : ByteArray := prog_10_method_18_code
def M_Mo_need : vM := (y_Mo_need, b_Mo_need, 5, (some .boolean), [])
def y_Mo_enliven : MethodName := ⟨"CodeShrinkerModel", "enliven", "(II)Z"⟩
abbrev b_Mo_enliven : ByteArray := prog_10_method_17_code
def M_Mo_enliven : vM := (y_Mo_enliven, b_Mo_enliven, 4, (some .boolean), [])
def y_Mo_above : MethodName := ⟨"CodeShrinkerModel", "above", "(II)Z"⟩
abbrev b_Mo_above : ByteArray := prog_10_method_15_code
def M_Mo_above : vM := (y_Mo_above, b_Mo_above, 4, (some .boolean), [])
def y_Mo_moveMethod : MethodName := ⟨"CodeShrinkerModel", "moveMethod", "(II)V"⟩
abbrev b_Mo_moveMethod : ByteArray := prog_10_method_20_code
def M_Mo_moveMethod : vM := (y_Mo_moveMethod, b_Mo_moveMethod, 6, none, [])
def y_Mo_rename : MethodName := ⟨"CodeShrinkerModel", "rename", "()I"⟩
abbrev b_Mo_rename : ByteArray := prog_10_method_28_code
def M_Mo_rename : vM := (y_Mo_rename, b_Mo_rename, 7, (some .int), [])
def y_Mo_gather : MethodName := ⟨"CodeShrinkerModel", "gather", "()I"⟩
abbrev b_Mo_gather : ByteArray := prog_10_method_23_code
def M_Mo_gather : vM := (y_Mo_gather, b_Mo_gather, 5, (some .int), [])
def y_Mo_member : MethodName := ⟨"CodeShrinkerModel", "member", "(IIII)V"⟩
abbrev b_Mo_member : ByteArray := prog_10_method_22_code
def M_Mo_member : vM := (y_Mo_member, b_Mo_member, 5, none, [])
def y_Mo_alike : MethodName := ⟨"CodeShrinkerModel", "alike", "(II)Z"⟩
abbrev b_Mo_alike : ByteArray := prog_10_method_24_code
def M_Mo_alike : vM := (y_Mo_alike, b_Mo_alike, 3, (some .boolean), [])
def y_Mo_related : MethodName := ⟨"CodeShrinkerModel", "related", "(II)Z"⟩
abbrev b_Mo_related : ByteArray := prog_10_method_16_code
def M_Mo_related : vM := (y_Mo_related, b_Mo_related, 3, (some .boolean), [])
def y_Mo_keptFamily : MethodName := ⟨"CodeShrinkerModel", "keptFamily", "(I)Z"⟩
abbrev b_Mo_keptFamily : ByteArray := prog_10_method_25_code
def M_Mo_keptFamily : vM := (y_Mo_keptFamily, b_Mo_keptFamily, 3, (some .boolean), [])
def y_Mo_freeName : MethodName := ⟨"CodeShrinkerModel", "freeName", "(II)I"⟩
abbrev b_Mo_freeName : ByteArray := prog_10_method_27_code
def M_Mo_freeName : vM := (y_Mo_freeName, b_Mo_freeName, 6, (some .int), [])
def y_Mo_clash : MethodName := ⟨"CodeShrinkerModel", "clash", "(III)Z"⟩
abbrev b_Mo_clash : ByteArray := prog_10_method_26_code
def M_Mo_clash : vM := (y_Mo_clash, b_Mo_clash, 6, (some .boolean), [])
def y_Mo_told : MethodName := ⟨"CodeShrinkerModel", "told", "(II)I"⟩
abbrev b_Mo_told : ByteArray := prog_10_method_29_code
def M_Mo_told : vM := (y_Mo_told, b_Mo_told, 3, (some .int), [])
def y_Mo_inside : MethodName := ⟨"CodeShrinkerModel", "inside", "(III)I"⟩
abbrev b_Mo_inside : ByteArray := prog_10_method_30_code
def M_Mo_inside : vM := (y_Mo_inside, b_Mo_inside, 5, (some .int), [])
def y_Mo_trace : MethodName := ⟨"CodeShrinkerModel", "trace", "(III)I"⟩
abbrev b_Mo_trace : ByteArray := prog_10_method_31_code
def M_Mo_trace : vM := (y_Mo_trace, b_Mo_trace, 5, (some .int), [])
def y_Mo_count : MethodName := ⟨"CodeShrinkerModel", "count", "(I)I"⟩
abbrev b_Mo_count : ByteArray := prog_10_method_32_code
def M_Mo_count : vM := (y_Mo_count, b_Mo_count, 4, (some .int), [])
def y_Lw_law : MethodName := ⟨"CodeShrinkerLaw", "law", "([I)Z"⟩
abbrev b_Lw_law : ByteArray := code
def M_Lw_law : vM := (y_Lw_law, b_Lw_law, 7, (some .boolean), [])
def vGood (w : Cond) : Bool := goodWord w || (w.onTables && w.keepsFace)
def vT : List Cond := lw_tbl.filter vGood
theorem vT_of {w : Cond} (h : w ∈ tables_1) (g : vGood w = true) : w ∈ vT := List.mem_filter.mpr ⟨List.mem_append_right _ h, g⟩
theorem vT_1 {w : Cond} (i : Nat) (h : tables_1_1[i]? = some w) (g : vGood w = true) : w ∈ vT := vT_of (by have h := List.mem_of_getElem? h; exact List.mem_append_left _ h) g
theorem vT_2 {w : Cond} (i : Nat) (h : tables_1_2[i]? = some w) (g : vGood w = true) : w ∈ vT := vT_of (by have h := List.mem_of_getElem? h; exact List.mem_append_right _ (List.mem_append_left _ h)) g
theorem vT_3 {w : Cond} (i : Nat) (h : tables_1_3[i]? = some w) (g : vGood w = true) : w ∈ vT := vT_of (by have h := List.mem_of_getElem? h; exact List.mem_append_right _ (List.mem_append_right _ (List.mem_append_left _ h))) g
theorem vT_4 {w : Cond} (i : Nat) (h : tables_1_4[i]? = some w) (g : vGood w = true) : w ∈ vT := vT_of (by have h := List.mem_of_getElem? h; exact List.mem_append_right _ (List.mem_append_right _ (List.mem_append_right _ (List.mem_append_left _ h)))) g
theorem vT_5 {w : Cond} (i : Nat) (h : tables_1_5[i]? = some w) (g : vGood w = true) : w ∈ vT := vT_of (by have h := List.mem_of_getElem? h; exact List.mem_append_right _ (List.mem_append_right _ (List.mem_append_right _ (List.mem_append_right _ (h))))) g
theorem vT_sel {w : Cond} (i : Nat) (h : (k2_sels lw_privs)[i]? = some w) (g : vGood w = true) : w ∈ vT := List.mem_filter.mpr ⟨List.mem_append_left _ (List.mem_of_getElem? h), g⟩
end
section
theorem ki_Lw : (Cond.initialized "CodeShrinkerLaw") ∈ vT := vT_1 0 rfl rfl
theorem ki_Cs : (Cond.initialized "CodeShrinker") ∈ vT := vT_1 1 rfl rfl
theorem ki_Pr : (Cond.initialized "CodeShrinker$Program") ∈ vT := vT_1 2 rfl rfl
theorem ki_Ac : (Cond.initialized "java/util/AbstractCollection") ∈ vT := vT_1 3 rfl rfl
theorem ki_Ab : (Cond.initialized "java/util/AbstractList") ∈ vT := vT_1 4 rfl rfl
theorem ki_Al : (Cond.initialized "java/util/ArrayList") ∈ vT := vT_1 5 rfl rfl
theorem ki_Ru : (Cond.initialized "CodeShrinker$Runner") ∈ vT := vT_1 6 rfl rfl
theorem ki_Re : (Cond.initialized "CodeShrinker$Reach") ∈ vT := vT_1 7 rfl rfl
theorem ki_Fa : (Cond.initialized "CodeShrinker$Families") ∈ vT := vT_1 8 rfl rfl
theorem ki_Mo : (Cond.initialized "CodeShrinkerModel") ∈ vT := vT_1 9 rfl rfl
theorem ki_Th : (Cond.initialized "java/lang/Throwable") ∈ vT := vT_1 10 rfl rfl
theorem ki_Ex : (Cond.initialized "java/lang/Exception") ∈ vT := vT_1 11 rfl rfl
theorem ki_Rt : (Cond.initialized "java/lang/RuntimeException") ∈ vT := vT_1 12 rfl rfl
theorem ki_Ia : (Cond.initialized "java/lang/IllegalArgumentException") ∈ vT := vT_1 13 rfl rfl
theorem ki_Is : (Cond.initialized "java/lang/IllegalStateException") ∈ vT := vT_1 14 rfl rfl
theorem ki_Os : (Cond.initialized "java/util/Objects") ∈ vT := vT_1 15 rfl rfl
theorem ki_Pd : (Cond.initialized "jdk/internal/util/Preconditions") ∈ vT := vT_1 16 rfl rfl
theorem ki_Pc : (Cond.initialized "CodeShrinker$ProgramClass") ∈ vT := vT_1 17 rfl rfl
theorem ki_As : (Cond.initialized "jdk/internal/util/ArraysSupport") ∈ vT := vT_1 18 rfl rfl
theorem ki_Ma : (Cond.initialized "java/lang/Math") ∈ vT := vT_1 19 rfl rfl
theorem ki_Ar : (Cond.initialized "java/util/Arrays") ∈ vT := vT_1 20 rfl rfl
theorem ki_java_lang_System : (Cond.initialized "java/lang/System") ∈ vT := vT_1 21 rfl rfl
theorem ki_Pm : (Cond.initialized "CodeShrinker$ProgramMethod") ∈ vT := vT_1 22 rfl rfl
theorem ki_It : (Cond.initialized "CodeShrinker$Item") ∈ vT := vT_1 23 rfl rfl
theorem ki_Ns : (Cond.initialized "java/util/NoSuchElementException") ∈ vT := vT_1 24 rfl rfl
theorem kc_Lw_8 : (Cond.classLink "CodeShrinkerLaw" 8 "CodeShrinker") ∈ vT := vT_1 25 rfl rfl
theorem kn_Cs : (Cond.instantiable "CodeShrinker" 5) ∈ vT := vT_1 26 rfl rfl
theorem km_Lw_44 : (Cond.methodLink "CodeShrinkerLaw" 44 ⟨"CodeShrinker", "<init>", "()V"⟩) ∈ vT := vT_1 27 rfl rfl
theorem kI_Cs_init : (Cond.instanceMethod ⟨"CodeShrinker", "<init>", "()V"⟩) ∈ vT := vT_1 28 rfl rfl
theorem kM_Cs_init : (Cond.code ⟨"CodeShrinker", "<init>", "()V"⟩ prog_1_method_1_code 1 (Option.none : Option Jvm.ClassFile.FieldType)) ∈ vT := vT_1 29 rfl rfl
theorem km_Cs_1 : (Cond.methodLink "CodeShrinker" 1 ⟨"java/lang/Object", "<init>", "()V"⟩) ∈ vT := vT_1 30 rfl rfl
theorem kI_Ob_init : (Cond.instanceMethod ⟨"java/lang/Object", "<init>", "()V"⟩) ∈ vT := vT_1 31 rfl rfl
theorem kM_Ob_init : (Cond.code ⟨"java/lang/Object", "<init>", "()V"⟩ object_method_1_code 1 (Option.none : Option Jvm.ClassFile.FieldType)) ∈ vT := vT_1 32 rfl rfl
theorem kc_Cs_7 : (Cond.classLink "CodeShrinker" 7 "CodeShrinker$Program") ∈ vT := vT_1 33 rfl rfl
theorem kn_Pr : (Cond.instantiable "CodeShrinker$Program" 2) ∈ vT := vT_1 34 rfl rfl
theorem km_Cs_9 : (Cond.methodLink "CodeShrinker" 9 ⟨"CodeShrinker$Program", "<init>", "()V"⟩) ∈ vT := vT_1 35 rfl rfl
theorem kI_Pr_init : (Cond.instanceMethod ⟨"CodeShrinker$Program", "<init>", "()V"⟩) ∈ vT := vT_1 36 rfl rfl
theorem kM_Pr_init : (Cond.code ⟨"CodeShrinker$Program", "<init>", "()V"⟩ prog_4_method_1_code 1 (Option.none : Option Jvm.ClassFile.FieldType)) ∈ vT := vT_1 37 rfl rfl
theorem km_Pr_1 : (Cond.methodLink "CodeShrinker$Program" 1 ⟨"java/lang/Object", "<init>", "()V"⟩) ∈ vT := vT_1 38 rfl rfl
theorem kc_Pr_7 : (Cond.classLink "CodeShrinker$Program" 7 "java/util/ArrayList") ∈ vT := vT_1 39 rfl rfl
theorem kn_Al : (Cond.instantiable "java/util/ArrayList" 3) ∈ vT := vT_1 40 rfl rfl
theorem km_Pr_9 : (Cond.methodLink "CodeShrinker$Program" 9 ⟨"java/util/ArrayList", "<init>", "()V"⟩) ∈ vT := vT_1 41 rfl rfl
theorem kI_Al_init : (Cond.instanceMethod ⟨"java/util/ArrayList", "<init>", "()V"⟩) ∈ vT := vT_1 42 rfl rfl
theorem kM_Al_init : (Cond.code ⟨"java/util/ArrayList", "<init>", "()V"⟩ prog_24_method_2_code 1 (Option.none : Option Jvm.ClassFile.FieldType)) ∈ vT := vT_1 43 rfl rfl
theorem km_Al_1 : (Cond.methodLink "java/util/ArrayList" 1 ⟨"java/util/AbstractList", "<init>", "()V"⟩) ∈ vT := vT_1 44 rfl rfl
theorem kI_Ab_init : (Cond.instanceMethod ⟨"java/util/AbstractList", "<init>", "()V"⟩) ∈ vT := vT_1 45 rfl rfl
theorem kM_Ab_init : (Cond.code ⟨"java/util/AbstractList", "<init>", "()V"⟩ prog_23_method_1_code 1 (Option.none : Option Jvm.ClassFile.FieldType)) ∈ vT := vT_1 46 rfl rfl
theorem km_Ab_1 : (Cond.methodLink "java/util/AbstractList" 1 ⟨"java/util/AbstractCollection", "<init>", "()V"⟩) ∈ vT := vT_1 47 rfl rfl
theorem kI_Ac_init : (Cond.instanceMethod ⟨"java/util/AbstractCollection", "<init>", "()V"⟩) ∈ vT := vT_1 48 rfl rfl
theorem kM_Ac_init : (Cond.code ⟨"java/util/AbstractCollection", "<init>", "()V"⟩ prog_22_method_1_code 1 (Option.none : Option Jvm.ClassFile.FieldType)) ∈ vT := vT_1 49 rfl rfl
theorem km_Ac_1 : (Cond.methodLink "java/util/AbstractCollection" 1 ⟨"java/lang/Object", "<init>", "()V"⟩) ∈ vT := vT_1 50 rfl rfl
theorem kf_Al_39 : (Cond.fieldLink "java/util/ArrayList" 39 "java/util/ArrayList" "DEFAULTCAPACITY_EMPTY_ELEMENTDATA" "[Ljava/lang/Object;") ∈ vT := vT_1 51 rfl rfl
theorem kf_Al_9 : (Cond.fieldLink "java/util/ArrayList" 9 "java/util/ArrayList" "elementData" "[Ljava/lang/Object;") ∈ vT := vT_1 53 rfl rfl
theorem kf_Al_48 : (Cond.fieldLink "java/util/ArrayList" 48 "java/util/ArrayList" "size" "I") ∈ vT := vT_1 54 rfl rfl
theorem kf_Ab_7 : (Cond.fieldLink "java/util/AbstractList" 7 "java/util/AbstractList" "modCount" "I") ∈ vT := vT_1 55 rfl rfl
theorem kf_Al_63 : (Cond.fieldLink "java/util/ArrayList" 63 "java/util/ArrayList" "modCount" "I") ∈ vT := vT_1 56 rfl rfl
theorem kz_57 : (Cond.sameField "java/util/ArrayList" "java/util/AbstractList" "modCount" "I") ∈ vT := vT_1 57 rfl rfl
theorem kz_58 : (Cond.lays "java/util/ArrayList" "java/util/ArrayList" "elementData" "[Ljava/lang/Object;") ∈ vT := vT_1 58 rfl rfl
theorem kz_59 : (Cond.soleField "java/util/ArrayList" "elementData") ∈ vT := vT_1 59 rfl rfl
theorem kz_60 : (Cond.lays "java/util/ArrayList" "java/util/ArrayList" "size" "I") ∈ vT := vT_1 60 rfl rfl
theorem kz_61 : (Cond.soleField "java/util/ArrayList" "size") ∈ vT := vT_1 61 rfl rfl
theorem kz_62 : (Cond.lays "java/util/ArrayList" "java/util/AbstractList" "modCount" "I") ∈ vT := vT_1 62 rfl rfl
theorem kz_63 : (Cond.soleField "java/util/AbstractList" "modCount") ∈ vT := vT_1 63 rfl rfl
theorem kz_64 : (Cond.superclass "java/util/ArrayList" "java/util/AbstractList") ∈ vT := vT_1 64 rfl rfl
theorem kf_Pr_10 : (Cond.fieldLink "CodeShrinker$Program" 10 "CodeShrinker$Program" "classes" "Ljava/util/ArrayList;") ∈ vT := vT_1 65 rfl rfl
theorem kf_Cs_51 : (Cond.fieldLink "CodeShrinker" 51 "CodeShrinker$Program" "classes" "Ljava/util/ArrayList;") ∈ vT := vT_1 66 rfl rfl
theorem kf_Re_28 : (Cond.fieldLink "CodeShrinker$Reach" 28 "CodeShrinker$Program" "classes" "Ljava/util/ArrayList;") ∈ vT := vT_1 67 rfl rfl
theorem kf_Fa_91 : (Cond.fieldLink "CodeShrinker$Families" 91 "CodeShrinker$Program" "classes" "Ljava/util/ArrayList;") ∈ vT := vT_1 68 rfl rfl
theorem kf_Pr_16 : (Cond.fieldLink "CodeShrinker$Program" 16 "CodeShrinker$Program" "methods" "Ljava/util/ArrayList;") ∈ vT := vT_1 69 rfl rfl
theorem kf_Fa_42 : (Cond.fieldLink "CodeShrinker$Families" 42 "CodeShrinker$Program" "methods" "Ljava/util/ArrayList;") ∈ vT := vT_1 70 rfl rfl
theorem kf_Cs_87 : (Cond.fieldLink "CodeShrinker" 87 "CodeShrinker$Program" "methods" "Ljava/util/ArrayList;") ∈ vT := vT_1 71 rfl rfl
theorem kf_Re_49 : (Cond.fieldLink "CodeShrinker$Reach" 49 "CodeShrinker$Program" "methods" "Ljava/util/ArrayList;") ∈ vT := vT_1 72 rfl rfl
theorem kz_73 : (Cond.laysFinal "CodeShrinker$Program" "CodeShrinker$Program" "classes" "Ljava/util/ArrayList;") ∈ vT := vT_1 73 rfl rfl
theorem kz_74 : (Cond.soleField "CodeShrinker$Program" "classes") ∈ vT := vT_1 74 rfl rfl
theorem kz_75 : (Cond.laysFinal "CodeShrinker$Program" "CodeShrinker$Program" "methods" "Ljava/util/ArrayList;") ∈ vT := vT_1 75 rfl rfl
theorem kz_76 : (Cond.soleField "CodeShrinker$Program" "methods") ∈ vT := vT_1 76 rfl rfl
theorem kz_77 : (Cond.superclass "CodeShrinker$Program" "java/lang/Object") ∈ vT := vT_1 77 rfl rfl
theorem kc_Cs_16 : (Cond.classLink "CodeShrinker" 16 "CodeShrinker$Runner") ∈ vT := vT_1 78 rfl rfl
theorem kn_Ru : (Cond.instantiable "CodeShrinker$Runner" 2) ∈ vT := vT_1 79 rfl rfl
theorem kI_Ru_init : (Cond.instanceMethod ⟨"CodeShrinker$Runner", "<init>", "()V"⟩) ∈ vT := vT_1 81 rfl rfl
theorem kM_Ru_init : (Cond.code ⟨"CodeShrinker$Runner", "<init>", "()V"⟩ prog_8_method_1_code 1 (Option.none : Option Jvm.ClassFile.FieldType)) ∈ vT := vT_1 82 rfl rfl
theorem km_Ru_3 : (Cond.methodLink "CodeShrinker$Runner" 3 ⟨"java/lang/Object", "<init>", "()V"⟩) ∈ vT := vT_1 83 rfl rfl
theorem kf_Ru_9 : (Cond.fieldLink "CodeShrinker$Runner" 9 "CodeShrinker$Runner" "outcome" "I") ∈ vT := vT_1 84 rfl rfl
theorem kf_Ru_15 : (Cond.fieldLink "CodeShrinker$Runner" 15 "CodeShrinker$Runner" "itemsDone" "I") ∈ vT := vT_1 85 rfl rfl
theorem kz_86 : (Cond.lays "CodeShrinker$Runner" "CodeShrinker$Runner" "outcome" "I") ∈ vT := vT_1 86 rfl rfl
theorem kz_87 : (Cond.soleField "CodeShrinker$Runner" "outcome") ∈ vT := vT_1 87 rfl rfl
theorem kz_88 : (Cond.lays "CodeShrinker$Runner" "CodeShrinker$Runner" "itemsDone" "I") ∈ vT := vT_1 88 rfl rfl
theorem kz_89 : (Cond.soleField "CodeShrinker$Runner" "itemsDone") ∈ vT := vT_1 89 rfl rfl
theorem kz_90 : (Cond.superclass "CodeShrinker$Runner" "java/lang/Object") ∈ vT := vT_1 90 rfl rfl
theorem kc_Cs_23 : (Cond.classLink "CodeShrinker" 23 "CodeShrinker$Reach") ∈ vT := vT_1 91 rfl rfl
theorem kn_Re : (Cond.instantiable "CodeShrinker$Reach" 2) ∈ vT := vT_1 92 rfl rfl
theorem km_Cs_25 : (Cond.methodLink "CodeShrinker" 25 ⟨"CodeShrinker$Reach", "<init>", "(LCodeShrinker$Program;)V"⟩) ∈ vT := vT_1 93 rfl rfl
theorem kI_Re_init : (Cond.instanceMethod ⟨"CodeShrinker$Reach", "<init>", "(LCodeShrinker$Program;)V"⟩) ∈ vT := vT_1 94 rfl rfl
theorem kM_Re_init : (Cond.code ⟨"CodeShrinker$Reach", "<init>", "(LCodeShrinker$Program;)V"⟩ prog_7_method_1_code 2 (Option.none : Option Jvm.ClassFile.FieldType)) ∈ vT := vT_1 95 rfl rfl
theorem km_Re_3 : (Cond.methodLink "CodeShrinker$Reach" 3 ⟨"java/lang/Object", "<init>", "()V"⟩) ∈ vT := vT_1 96 rfl rfl
theorem kf_Re_9 : (Cond.fieldLink "CodeShrinker$Reach" 9 "CodeShrinker$Reach" "program" "LCodeShrinker$Program;") ∈ vT := vT_1 97 rfl rfl
theorem kf_Re_15 : (Cond.fieldLink "CodeShrinker$Reach" 15 "CodeShrinker$Reach" "grew" "Z") ∈ vT := vT_1 98 rfl rfl
theorem kz_99 : (Cond.laysFinal "CodeShrinker$Reach" "CodeShrinker$Reach" "program" "LCodeShrinker$Program;") ∈ vT := vT_1 99 rfl rfl
theorem kz_100 : (Cond.soleField "CodeShrinker$Reach" "program") ∈ vT := vT_1 100 rfl rfl
theorem kz_101 : (Cond.lays "CodeShrinker$Reach" "CodeShrinker$Reach" "grew" "Z") ∈ vT := vT_1 101 rfl rfl
theorem kz_102 : (Cond.soleField "CodeShrinker$Reach" "grew") ∈ vT := vT_1 102 rfl rfl
theorem kz_103 : (Cond.superclass "CodeShrinker$Reach" "java/lang/Object") ∈ vT := vT_1 103 rfl rfl
theorem kc_Cs_32 : (Cond.classLink "CodeShrinker" 32 "CodeShrinker$Families") ∈ vT := vT_1 104 rfl rfl
theorem kn_Fa : (Cond.instantiable "CodeShrinker$Families" 8) ∈ vT := vT_1 105 rfl rfl
theorem km_Cs_34 : (Cond.methodLink "CodeShrinker" 34 ⟨"CodeShrinker$Families", "<init>", "(LCodeShrinker$Program;)V"⟩) ∈ vT := vT_1 106 rfl rfl
theorem kI_Fa_init : (Cond.instanceMethod ⟨"CodeShrinker$Families", "<init>", "(LCodeShrinker$Program;)V"⟩) ∈ vT := vT_1 107 rfl rfl
theorem kM_Fa_init : (Cond.code ⟨"CodeShrinker$Families", "<init>", "(LCodeShrinker$Program;)V"⟩ prog_2_method_1_code 2 (Option.none : Option Jvm.ClassFile.FieldType)) ∈ vT := vT_1 108 rfl rfl
theorem km_Fa_3 : (Cond.methodLink "CodeShrinker$Families" 3 ⟨"java/lang/Object", "<init>", "()V"⟩) ∈ vT := vT_1 109 rfl rfl
theorem kf_Fa_9 : (Cond.fieldLink "CodeShrinker$Families" 9 "CodeShrinker$Families" "program" "LCodeShrinker$Program;") ∈ vT := vT_1 110 rfl rfl
theorem kf_Fa_15 : (Cond.fieldLink "CodeShrinker$Families" 15 "CodeShrinker$Families" "relatives" "[I") ∈ vT := vT_1 111 rfl rfl
theorem kf_Fa_19 : (Cond.fieldLink "CodeShrinker$Families" 19 "CodeShrinker$Families" "names" "[I") ∈ vT := vT_1 112 rfl rfl
theorem kf_Fa_22 : (Cond.fieldLink "CodeShrinker$Families" 22 "CodeShrinker$Families" "arities" "[I") ∈ vT := vT_1 113 rfl rfl
theorem kf_Fa_25 : (Cond.fieldLink "CodeShrinker$Families" 25 "CodeShrinker$Families" "members" "[I") ∈ vT := vT_1 114 rfl rfl
theorem kf_Fa_28 : (Cond.fieldLink "CodeShrinker$Families" 28 "CodeShrinker$Families" "newNames" "[I") ∈ vT := vT_1 115 rfl rfl
theorem kf_Fa_31 : (Cond.fieldLink "CodeShrinker$Families" 31 "CodeShrinker$Families" "kept" "[Z") ∈ vT := vT_1 116 rfl rfl
theorem kf_Fa_35 : (Cond.fieldLink "CodeShrinker$Families" 35 "CodeShrinker$Families" "size" "I") ∈ vT := vT_1 117 rfl rfl
theorem kf_Cs_141 : (Cond.fieldLink "CodeShrinker" 141 "CodeShrinker$Families" "size" "I") ∈ vT := vT_1 118 rfl rfl
theorem kz_119 : (Cond.laysFinal "CodeShrinker$Families" "CodeShrinker$Families" "program" "LCodeShrinker$Program;") ∈ vT := vT_1 119 rfl rfl
theorem kz_120 : (Cond.soleField "CodeShrinker$Families" "program") ∈ vT := vT_1 120 rfl rfl
theorem kz_121 : (Cond.laysFinal "CodeShrinker$Families" "CodeShrinker$Families" "relatives" "[I") ∈ vT := vT_1 121 rfl rfl
theorem kz_122 : (Cond.soleField "CodeShrinker$Families" "relatives") ∈ vT := vT_1 122 rfl rfl
theorem kz_123 : (Cond.laysFinal "CodeShrinker$Families" "CodeShrinker$Families" "names" "[I") ∈ vT := vT_1 123 rfl rfl
theorem kz_124 : (Cond.soleField "CodeShrinker$Families" "names") ∈ vT := vT_1 124 rfl rfl
theorem kz_125 : (Cond.laysFinal "CodeShrinker$Families" "CodeShrinker$Families" "arities" "[I") ∈ vT := vT_1 125 rfl rfl
theorem kz_126 : (Cond.soleField "CodeShrinker$Families" "arities") ∈ vT := vT_1 126 rfl rfl
theorem kz_127 : (Cond.laysFinal "CodeShrinker$Families" "CodeShrinker$Families" "members" "[I") ∈ vT := vT_1 127 rfl rfl
theorem kz_128 : (Cond.soleField "CodeShrinker$Families" "members") ∈ vT := vT_1 128 rfl rfl
theorem kz_129 : (Cond.laysFinal "CodeShrinker$Families" "CodeShrinker$Families" "newNames" "[I") ∈ vT := vT_1 129 rfl rfl
theorem kz_130 : (Cond.soleField "CodeShrinker$Families" "newNames") ∈ vT := vT_1 130 rfl rfl
theorem kz_131 : (Cond.laysFinal "CodeShrinker$Families" "CodeShrinker$Families" "kept" "[Z") ∈ vT := vT_1 131 rfl rfl
theorem kz_132 : (Cond.soleField "CodeShrinker$Families" "kept") ∈ vT := vT_1 132 rfl rfl
theorem kz_133 : (Cond.lays "CodeShrinker$Families" "CodeShrinker$Families" "size" "I") ∈ vT := vT_1 133 rfl rfl
theorem kz_134 : (Cond.soleField "CodeShrinker$Families" "size") ∈ vT := vT_1 134 rfl rfl
theorem kz_135 : (Cond.superclass "CodeShrinker$Families" "java/lang/Object") ∈ vT := vT_1 135 rfl rfl
theorem kz_136 : (Cond.arrayClass .int) ∈ vT := vT_1 136 rfl rfl
theorem kz_137 : (Cond.arrayClass .boolean) ∈ vT := vT_1 137 rfl rfl
theorem kf_Cs_10 : (Cond.fieldLink "CodeShrinker" 10 "CodeShrinker" "program" "LCodeShrinker$Program;") ∈ vT := vT_1 138 rfl rfl
theorem kf_Cs_19 : (Cond.fieldLink "CodeShrinker" 19 "CodeShrinker" "runner" "LCodeShrinker$Runner;") ∈ vT := vT_1 139 rfl rfl
theorem kf_Cs_28 : (Cond.fieldLink "CodeShrinker" 28 "CodeShrinker" "reach" "LCodeShrinker$Reach;") ∈ vT := vT_1 140 rfl rfl
theorem kf_Cs_35 : (Cond.fieldLink "CodeShrinker" 35 "CodeShrinker" "families" "LCodeShrinker$Families;") ∈ vT := vT_1 141 rfl rfl
theorem kf_Cs_39 : (Cond.fieldLink "CodeShrinker" 39 "CodeShrinker" "goneInAll" "I") ∈ vT := vT_1 142 rfl rfl
theorem kz_143 : (Cond.laysFinal "CodeShrinker" "CodeShrinker" "program" "LCodeShrinker$Program;") ∈ vT := vT_1 143 rfl rfl
theorem kz_144 : (Cond.soleField "CodeShrinker" "program") ∈ vT := vT_1 144 rfl rfl
theorem kz_145 : (Cond.laysFinal "CodeShrinker" "CodeShrinker" "runner" "LCodeShrinker$Runner;") ∈ vT := vT_1 145 rfl rfl
theorem kz_146 : (Cond.soleField "CodeShrinker" "runner") ∈ vT := vT_1 146 rfl rfl
theorem kz_147 : (Cond.laysFinal "CodeShrinker" "CodeShrinker" "reach" "LCodeShrinker$Reach;") ∈ vT := vT_1 147 rfl rfl
theorem kz_148 : (Cond.soleField "CodeShrinker" "reach") ∈ vT := vT_1 148 rfl rfl
theorem kz_149 : (Cond.laysFinal "CodeShrinker" "CodeShrinker" "families" "LCodeShrinker$Families;") ∈ vT := vT_1 149 rfl rfl
theorem kz_150 : (Cond.soleField "CodeShrinker" "families") ∈ vT := vT_1 150 rfl rfl
theorem kz_151 : (Cond.lays "CodeShrinker" "CodeShrinker" "goneInAll" "I") ∈ vT := vT_1 151 rfl rfl
theorem kz_152 : (Cond.soleField "CodeShrinker" "goneInAll") ∈ vT := vT_1 152 rfl rfl
theorem kz_153 : (Cond.superclass "CodeShrinker" "java/lang/Object") ∈ vT := vT_1 153 rfl rfl
theorem km_Lw_73 : (Cond.methodLink "CodeShrinkerLaw" 73 ⟨"CodeShrinker", "shrink", "()I"⟩) ∈ vT := vT_1 154 rfl rfl
theorem kI_Cs_shrink : (Cond.instanceMethod ⟨"CodeShrinker", "shrink", "()I"⟩) ∈ vT := vT_1 155 rfl rfl
theorem ks_Cs_Cs_shrink : (Cond.selects "CodeShrinker" ⟨"CodeShrinker", "shrink", "()I"⟩ ⟨"CodeShrinker", "shrink", "()I"⟩) ∈ vT := vT_1 156 rfl rfl
theorem kM_Cs_shrink : (Cond.code ⟨"CodeShrinker", "shrink", "()I"⟩ prog_1_method_7_code 3 (Option.some .int)) ∈ vT := vT_1 157 rfl rfl
theorem km_Cs_55 : (Cond.methodLink "CodeShrinker" 55 ⟨"java/util/ArrayList", "size", "()I"⟩) ∈ vT := vT_1 158 rfl rfl
theorem kI_Al_size : (Cond.instanceMethod ⟨"java/util/ArrayList", "size", "()I"⟩) ∈ vT := vT_1 159 rfl rfl
theorem ks_Al_Al_size : (Cond.selects "java/util/ArrayList" ⟨"java/util/ArrayList", "size", "()I"⟩ ⟨"java/util/ArrayList", "size", "()I"⟩) ∈ vT := vT_1 160 rfl rfl
theorem kM_Al_size : (Cond.code ⟨"java/util/ArrayList", "size", "()I"⟩ prog_24_method_8_code 1 (Option.some .int)) ∈ vT := vT_1 161 rfl rfl
theorem km_Cs_126 : (Cond.methodLink "CodeShrinker" 126 ⟨"CodeShrinker$Reach", "mark", "()V"⟩) ∈ vT := vT_1 162 rfl rfl
theorem kI_Re_mark : (Cond.instanceMethod ⟨"CodeShrinker$Reach", "mark", "()V"⟩) ∈ vT := vT_1 163 rfl rfl
theorem ks_Re_Re_mark : (Cond.selects "CodeShrinker$Reach" ⟨"CodeShrinker$Reach", "mark", "()V"⟩ ⟨"CodeShrinker$Reach", "mark", "()V"⟩) ∈ vT := vT_1 164 rfl rfl
theorem kM_Re_mark : (Cond.code ⟨"CodeShrinker$Reach", "mark", "()V"⟩ prog_7_method_2_code 2 (Option.none : Option Jvm.ClassFile.FieldType)) ∈ vT := vT_1 165 rfl rfl
theorem km_Re_19 : (Cond.methodLink "CodeShrinker$Reach" 19 ⟨"CodeShrinker$Reach", "clearMarks", "()V"⟩) ∈ vT := vT_1 166 rfl rfl
theorem kz_167 : (Cond.privateMethod ⟨"CodeShrinker$Reach", "clearMarks", "()V"⟩) ∈ vT := vT_1 167 rfl rfl
theorem kI_Re_clearMarks : (Cond.instanceMethod ⟨"CodeShrinker$Reach", "clearMarks", "()V"⟩) ∈ vT := vT_1 168 rfl rfl
theorem kM_Re_clearMarks : (Cond.code ⟨"CodeShrinker$Reach", "clearMarks", "()V"⟩ prog_7_method_3_code 2 (Option.none : Option Jvm.ClassFile.FieldType)) ∈ vT := vT_1 169 rfl rfl
theorem km_Re_34 : (Cond.methodLink "CodeShrinker$Reach" 34 ⟨"java/util/ArrayList", "size", "()I"⟩) ∈ vT := vT_1 170 rfl rfl
theorem km_Re_40 : (Cond.methodLink "CodeShrinker$Reach" 40 ⟨"java/util/ArrayList", "get", "(I)Ljava/lang/Object;"⟩) ∈ vT := vT_1 171 rfl rfl
theorem kI_Al_get : (Cond.instanceMethod ⟨"java/util/ArrayList", "get", "(I)Ljava/lang/Object;"⟩) ∈ vT := vT_1 172 rfl rfl
theorem ks_Al_Al_get : (Cond.selects "java/util/ArrayList" ⟨"java/util/ArrayList", "get", "(I)Ljava/lang/Object;"⟩ ⟨"java/util/ArrayList", "get", "(I)Ljava/lang/Object;"⟩) ∈ vT := vT_1 173 rfl rfl
theorem kM_Al_get : (Cond.code ⟨"java/util/ArrayList", "get", "(I)Ljava/lang/Object;"⟩ prog_24_method_20_code 2 (Option.some (.object "java/lang/Object"))) ∈ vT := vT_1 174 rfl rfl
theorem km_Al_118 : (Cond.methodLink "java/util/ArrayList" 118 ⟨"java/util/Objects", "checkIndex", "(II)I"⟩) ∈ vT := vT_1 175 rfl rfl
theorem kS_Os_checkIndex : (Cond.static ⟨"java/util/Objects", "checkIndex", "(II)I"⟩) ∈ vT := vT_1 176 rfl rfl
theorem kM_Os_checkIndex : (Cond.code ⟨"java/util/Objects", "checkIndex", "(II)I"⟩ prog_29_method_17_code 2 (Option.some .int)) ∈ vT := vT_1 177 rfl rfl
theorem km_Os_105 : (Cond.methodLink "java/util/Objects" 105 ⟨"jdk/internal/util/Preconditions", "checkIndex", "(IILjava/util/function/BiFunction;)I"⟩) ∈ vT := vT_1 178 rfl rfl
theorem kS_Pd_checkIndex : (Cond.static ⟨"jdk/internal/util/Preconditions", "checkIndex", "(IILjava/util/function/BiFunction;)I"⟩) ∈ vT := vT_1 179 rfl rfl
theorem kM_Pd_checkIndex : (Cond.code ⟨"jdk/internal/util/Preconditions", "checkIndex", "(IILjava/util/function/BiFunction;)I"⟩ prog_33_method_11_code 3 (Option.some .int)) ∈ vT := vT_1 180 rfl rfl
theorem km_Al_123 : (Cond.methodLink "java/util/ArrayList" 123 ⟨"java/util/ArrayList", "elementData", "(I)Ljava/lang/Object;"⟩) ∈ vT := vT_1 181 rfl rfl
theorem kI_Al_elementData : (Cond.instanceMethod ⟨"java/util/ArrayList", "elementData", "(I)Ljava/lang/Object;"⟩) ∈ vT := vT_1 182 rfl rfl
theorem ks_Al_Al_elementData : (Cond.selects "java/util/ArrayList" ⟨"java/util/ArrayList", "elementData", "(I)Ljava/lang/Object;"⟩ ⟨"java/util/ArrayList", "elementData", "(I)Ljava/lang/Object;"⟩) ∈ vT := vT_1 183 rfl rfl
theorem kM_Al_elementData : (Cond.code ⟨"java/util/ArrayList", "elementData", "(I)Ljava/lang/Object;"⟩ prog_24_method_18_code 2 (Option.some (.object "java/lang/Object"))) ∈ vT := vT_1 184 rfl rfl
theorem kc_Re_44 : (Cond.classLink "CodeShrinker$Reach" 44 "CodeShrinker$ProgramClass") ∈ vT := vT_1 185 rfl rfl
theorem kc_Re_52 : (Cond.classLink "CodeShrinker$Reach" 52 "CodeShrinker$ProgramMethod") ∈ vT := vT_1 186 rfl rfl
theorem km_Re_22 : (Cond.methodLink "CodeShrinker$Reach" 22 ⟨"CodeShrinker$Reach", "markKept", "()V"⟩) ∈ vT := vT_1 187 rfl rfl
theorem kz_188 : (Cond.privateMethod ⟨"CodeShrinker$Reach", "markKept", "()V"⟩) ∈ vT := vT_1 188 rfl rfl
theorem kI_Re_markKept : (Cond.instanceMethod ⟨"CodeShrinker$Reach", "markKept", "()V"⟩) ∈ vT := vT_1 189 rfl rfl
theorem kM_Re_markKept : (Cond.code ⟨"CodeShrinker$Reach", "markKept", "()V"⟩ prog_7_method_4_code 3 (Option.none : Option Jvm.ClassFile.FieldType)) ∈ vT := vT_1 190 rfl rfl
theorem km_Re_60 : (Cond.methodLink "CodeShrinker$Reach" 60 ⟨"CodeShrinker$Reach", "markLive", "(LCodeShrinker$ProgramMethod;)V"⟩) ∈ vT := vT_1 191 rfl rfl
theorem kz_192 : (Cond.privateMethod ⟨"CodeShrinker$Reach", "markLive", "(LCodeShrinker$ProgramMethod;)V"⟩) ∈ vT := vT_1 192 rfl rfl
theorem kI_Re_markLive : (Cond.instanceMethod ⟨"CodeShrinker$Reach", "markLive", "(LCodeShrinker$ProgramMethod;)V"⟩) ∈ vT := vT_1 193 rfl rfl
theorem kM_Re_markLive : (Cond.code ⟨"CodeShrinker$Reach", "markLive", "(LCodeShrinker$ProgramMethod;)V"⟩ prog_7_method_8_code 2 (Option.none : Option Jvm.ClassFile.FieldType)) ∈ vT := vT_1 194 rfl rfl
theorem km_Re_68 : (Cond.methodLink "CodeShrinker$Reach" 68 ⟨"CodeShrinker$Reach", "markMade", "(LCodeShrinker$ProgramClass;)V"⟩) ∈ vT := vT_1 195 rfl rfl
theorem kz_196 : (Cond.privateMethod ⟨"CodeShrinker$Reach", "markMade", "(LCodeShrinker$ProgramClass;)V"⟩) ∈ vT := vT_1 196 rfl rfl
theorem kI_Re_markMade : (Cond.instanceMethod ⟨"CodeShrinker$Reach", "markMade", "(LCodeShrinker$ProgramClass;)V"⟩) ∈ vT := vT_1 197 rfl rfl
theorem kM_Re_markMade : (Cond.code ⟨"CodeShrinker$Reach", "markMade", "(LCodeShrinker$ProgramClass;)V"⟩ prog_7_method_9_code 2 (Option.none : Option Jvm.ClassFile.FieldType)) ∈ vT := vT_1 198 rfl rfl
theorem km_Re_25 : (Cond.methodLink "CodeShrinker$Reach" 25 ⟨"CodeShrinker$Reach", "spreadFromLive", "()V"⟩) ∈ vT := vT_1 199 rfl rfl
theorem kz_200 : (Cond.privateMethod ⟨"CodeShrinker$Reach", "spreadFromLive", "()V"⟩) ∈ vT := vT_1 200 rfl rfl
theorem kI_Re_spreadFromLive : (Cond.instanceMethod ⟨"CodeShrinker$Reach", "spreadFromLive", "()V"⟩) ∈ vT := vT_1 201 rfl rfl
theorem kM_Re_spreadFromLive : (Cond.code ⟨"CodeShrinker$Reach", "spreadFromLive", "()V"⟩ prog_7_method_5_code 3 (Option.none : Option Jvm.ClassFile.FieldType)) ∈ vT := vT_1 202 rfl rfl
theorem km_Re_72 : (Cond.methodLink "CodeShrinker$Reach" 72 ⟨"CodeShrinker$Reach", "spread", "(LCodeShrinker$ProgramMethod;)V"⟩) ∈ vT := vT_1 203 rfl rfl
theorem kz_204 : (Cond.privateMethod ⟨"CodeShrinker$Reach", "spread", "(LCodeShrinker$ProgramMethod;)V"⟩) ∈ vT := vT_1 204 rfl rfl
theorem kI_Re_spread : (Cond.instanceMethod ⟨"CodeShrinker$Reach", "spread", "(LCodeShrinker$ProgramMethod;)V"⟩) ∈ vT := vT_1 205 rfl rfl
theorem kM_Re_spread : (Cond.code ⟨"CodeShrinker$Reach", "spread", "(LCodeShrinker$ProgramMethod;)V"⟩ prog_7_method_6_code 4 (Option.none : Option Jvm.ClassFile.FieldType)) ∈ vT := vT_1 206 rfl rfl
theorem kc_Re_78 : (Cond.classLink "CodeShrinker$Reach" 78 "CodeShrinker$Item") ∈ vT := vT_1 207 rfl rfl
theorem km_Re_90 : (Cond.methodLink "CodeShrinker$Reach" 90 ⟨"CodeShrinker$ProgramClass", "find", "(II)LCodeShrinker$ProgramMethod;"⟩) ∈ vT := vT_1 208 rfl rfl
theorem kI_Pc_find : (Cond.instanceMethod ⟨"CodeShrinker$ProgramClass", "find", "(II)LCodeShrinker$ProgramMethod;"⟩) ∈ vT := vT_1 209 rfl rfl
theorem ks_Pc_Pc_find : (Cond.selects "CodeShrinker$ProgramClass" ⟨"CodeShrinker$ProgramClass", "find", "(II)LCodeShrinker$ProgramMethod;"⟩ ⟨"CodeShrinker$ProgramClass", "find", "(II)LCodeShrinker$ProgramMethod;"⟩) ∈ vT := vT_1 210 rfl rfl
theorem kM_Pc_find : (Cond.code ⟨"CodeShrinker$ProgramClass", "find", "(II)LCodeShrinker$ProgramMethod;"⟩ prog_5_method_3_code 5 (Option.some (.object "CodeShrinker$ProgramMethod"))) ∈ vT := vT_1 211 rfl rfl
theorem km_Pc_47 : (Cond.methodLink "CodeShrinker$ProgramClass" 47 ⟨"CodeShrinker$ProgramClass", "own", "(II)LCodeShrinker$ProgramMethod;"⟩) ∈ vT := vT_1 212 rfl rfl
theorem kI_Pc_own : (Cond.instanceMethod ⟨"CodeShrinker$ProgramClass", "own", "(II)LCodeShrinker$ProgramMethod;"⟩) ∈ vT := vT_1 213 rfl rfl
theorem ks_Pc_Pc_own : (Cond.selects "CodeShrinker$ProgramClass" ⟨"CodeShrinker$ProgramClass", "own", "(II)LCodeShrinker$ProgramMethod;"⟩ ⟨"CodeShrinker$ProgramClass", "own", "(II)LCodeShrinker$ProgramMethod;"⟩) ∈ vT := vT_1 214 rfl rfl
theorem kM_Pc_own : (Cond.code ⟨"CodeShrinker$ProgramClass", "own", "(II)LCodeShrinker$ProgramMethod;"⟩ prog_5_method_2_code 5 (Option.some (.object "CodeShrinker$ProgramMethod"))) ∈ vT := vT_1 215 rfl rfl
theorem km_Pc_31 : (Cond.methodLink "CodeShrinker$ProgramClass" 31 ⟨"java/util/ArrayList", "size", "()I"⟩) ∈ vT := vT_1 216 rfl rfl
theorem km_Pc_35 : (Cond.methodLink "CodeShrinker$ProgramClass" 35 ⟨"java/util/ArrayList", "get", "(I)Ljava/lang/Object;"⟩) ∈ vT := vT_1 217 rfl rfl
theorem kc_Pc_39 : (Cond.classLink "CodeShrinker$ProgramClass" 39 "CodeShrinker$ProgramMethod") ∈ vT := vT_1 218 rfl rfl
theorem km_Re_97 : (Cond.methodLink "CodeShrinker$Reach" 97 ⟨"CodeShrinker$Reach", "spreadSelf", "(LCodeShrinker$ProgramClass;LCodeShrinker$Item;)V"⟩) ∈ vT := vT_1 219 rfl rfl
theorem kz_220 : (Cond.privateMethod ⟨"CodeShrinker$Reach", "spreadSelf", "(LCodeShrinker$ProgramClass;LCodeShrinker$Item;)V"⟩) ∈ vT := vT_1 220 rfl rfl
theorem kI_Re_spreadSelf : (Cond.instanceMethod ⟨"CodeShrinker$Reach", "spreadSelf", "(LCodeShrinker$ProgramClass;LCodeShrinker$Item;)V"⟩) ∈ vT := vT_1 221 rfl rfl
theorem kM_Re_spreadSelf : (Cond.code ⟨"CodeShrinker$Reach", "spreadSelf", "(LCodeShrinker$ProgramClass;LCodeShrinker$Item;)V"⟩ prog_7_method_7_code 5 (Option.none : Option Jvm.ClassFile.FieldType)) ∈ vT := vT_1 222 rfl rfl
theorem km_Re_101 : (Cond.methodLink "CodeShrinker$Reach" 101 ⟨"CodeShrinker$ProgramClass", "isOrIsBelow", "(LCodeShrinker$ProgramClass;)Z"⟩) ∈ vT := vT_1 223 rfl rfl
theorem kI_Pc_isOrIsBelow : (Cond.instanceMethod ⟨"CodeShrinker$ProgramClass", "isOrIsBelow", "(LCodeShrinker$ProgramClass;)Z"⟩) ∈ vT := vT_1 224 rfl rfl
theorem ks_Pc_Pc_isOrIsBelow : (Cond.selects "CodeShrinker$ProgramClass" ⟨"CodeShrinker$ProgramClass", "isOrIsBelow", "(LCodeShrinker$ProgramClass;)Z"⟩ ⟨"CodeShrinker$ProgramClass", "isOrIsBelow", "(LCodeShrinker$ProgramClass;)Z"⟩) ∈ vT := vT_1 225 rfl rfl
theorem kM_Pc_isOrIsBelow : (Cond.code ⟨"CodeShrinker$ProgramClass", "isOrIsBelow", "(LCodeShrinker$ProgramClass;)Z"⟩ prog_5_method_4_code 3 (Option.some .boolean)) ∈ vT := vT_1 226 rfl rfl
theorem km_Cs_129 : (Cond.methodLink "CodeShrinker" 129 ⟨"CodeShrinker$Program", "dropUnreached", "()V"⟩) ∈ vT := vT_1 227 rfl rfl
theorem kI_Pr_dropUnreached : (Cond.instanceMethod ⟨"CodeShrinker$Program", "dropUnreached", "()V"⟩) ∈ vT := vT_1 228 rfl rfl
theorem ks_Pr_Pr_dropUnreached : (Cond.selects "CodeShrinker$Program" ⟨"CodeShrinker$Program", "dropUnreached", "()V"⟩ ⟨"CodeShrinker$Program", "dropUnreached", "()V"⟩) ∈ vT := vT_1 229 rfl rfl
theorem kM_Pr_dropUnreached : (Cond.code ⟨"CodeShrinker$Program", "dropUnreached", "()V"⟩ prog_4_method_4_code 3 (Option.none : Option Jvm.ClassFile.FieldType)) ∈ vT := vT_1 230 rfl rfl
theorem km_Pr_38 : (Cond.methodLink "CodeShrinker$Program" 38 ⟨"CodeShrinker$Program", "dropDead", "(Ljava/util/ArrayList;)V"⟩) ∈ vT := vT_1 231 rfl rfl
theorem kS_Pr_dropDead : (Cond.static ⟨"CodeShrinker$Program", "dropDead", "(Ljava/util/ArrayList;)V"⟩) ∈ vT := vT_1 232 rfl rfl
theorem kM_Pr_dropDead : (Cond.code ⟨"CodeShrinker$Program", "dropDead", "(Ljava/util/ArrayList;)V"⟩ prog_4_method_6_code 2 (Option.none : Option Jvm.ClassFile.FieldType)) ∈ vT := vT_1 233 rfl rfl
theorem km_Pr_19 : (Cond.methodLink "CodeShrinker$Program" 19 ⟨"java/util/ArrayList", "size", "()I"⟩) ∈ vT := vT_1 234 rfl rfl
theorem km_Pr_23 : (Cond.methodLink "CodeShrinker$Program" 23 ⟨"java/util/ArrayList", "get", "(I)Ljava/lang/Object;"⟩) ∈ vT := vT_1 235 rfl rfl
theorem kc_Pr_27 : (Cond.classLink "CodeShrinker$Program" 27 "CodeShrinker$ProgramMethod") ∈ vT := vT_1 236 rfl rfl
theorem km_Pr_47 : (Cond.methodLink "CodeShrinker$Program" 47 ⟨"java/util/ArrayList", "remove", "(I)Ljava/lang/Object;"⟩) ∈ vT := vT_1 237 rfl rfl
theorem kI_Al_remove : (Cond.instanceMethod ⟨"java/util/ArrayList", "remove", "(I)Ljava/lang/Object;"⟩) ∈ vT := vT_1 238 rfl rfl
theorem ks_Al_Al_remove : (Cond.selects "java/util/ArrayList" ⟨"java/util/ArrayList", "remove", "(I)Ljava/lang/Object;"⟩ ⟨"java/util/ArrayList", "remove", "(I)Ljava/lang/Object;"⟩) ∈ vT := vT_1 239 rfl rfl
theorem kM_Al_remove : (Cond.code ⟨"java/util/ArrayList", "remove", "(I)Ljava/lang/Object;"⟩ prog_24_method_29_code 4 (Option.some (.object "java/lang/Object"))) ∈ vT := vT_2 0 rfl rfl
theorem km_Al_144 : (Cond.methodLink "java/util/ArrayList" 144 ⟨"java/util/ArrayList", "fastRemove", "([Ljava/lang/Object;I)V"⟩) ∈ vT := vT_2 1 rfl rfl
theorem kz_242 : (Cond.privateMethod ⟨"java/util/ArrayList", "fastRemove", "([Ljava/lang/Object;I)V"⟩) ∈ vT := vT_2 2 rfl rfl
theorem kI_Al_fastRemove : (Cond.instanceMethod ⟨"java/util/ArrayList", "fastRemove", "([Ljava/lang/Object;I)V"⟩) ∈ vT := vT_2 3 rfl rfl
theorem kM_Al_fastRemove : (Cond.code ⟨"java/util/ArrayList", "fastRemove", "([Ljava/lang/Object;I)V"⟩ prog_24_method_39_code 4 (Option.none : Option Jvm.ClassFile.FieldType)) ∈ vT := vT_2 4 rfl rfl
theorem km_Al_112 : (Cond.methodLink "java/util/ArrayList" 112 ⟨"java/lang/System", "arraycopy", "(Ljava/lang/Object;ILjava/lang/Object;II)V"⟩) ∈ vT := vT_2 5 rfl rfl
theorem kS_java_lang_System_arraycopy_Ljava_lang_Object_ILjava_lang_Object_II_V : (Cond.static ⟨"java/lang/System", "arraycopy", "(Ljava/lang/Object;ILjava/lang/Object;II)V"⟩) ∈ vT := vT_2 6 rfl rfl
theorem kz_247 : (Cond.native ⟨"java/lang/System", "arraycopy", "(Ljava/lang/Object;ILjava/lang/Object;II)V"⟩) ∈ vT := vT_2 7 rfl rfl
theorem kc_Pr_33 : (Cond.classLink "CodeShrinker$Program" 33 "CodeShrinker$ProgramClass") ∈ vT := vT_2 8 rfl rfl
theorem km_Pr_43 : (Cond.methodLink "CodeShrinker$Program" 43 ⟨"CodeShrinker$Program", "isMadeOrAboveMade", "(LCodeShrinker$ProgramClass;)Z"⟩) ∈ vT := vT_2 9 rfl rfl
theorem kz_250 : (Cond.privateMethod ⟨"CodeShrinker$Program", "isMadeOrAboveMade", "(LCodeShrinker$ProgramClass;)Z"⟩) ∈ vT := vT_2 10 rfl rfl
theorem kI_Pr_isMadeOrAboveMade : (Cond.instanceMethod ⟨"CodeShrinker$Program", "isMadeOrAboveMade", "(LCodeShrinker$ProgramClass;)Z"⟩) ∈ vT := vT_2 11 rfl rfl
theorem kM_Pr_isMadeOrAboveMade : (Cond.code ⟨"CodeShrinker$Program", "isMadeOrAboveMade", "(LCodeShrinker$ProgramClass;)Z"⟩ prog_4_method_5_code 4 (Option.some .boolean)) ∈ vT := vT_2 12 rfl rfl
theorem km_Pr_54 : (Cond.methodLink "CodeShrinker$Program" 54 ⟨"CodeShrinker$ProgramClass", "isOrIsBelow", "(LCodeShrinker$ProgramClass;)Z"⟩) ∈ vT := vT_2 13 rfl rfl
theorem km_Lw_77 : (Cond.methodLink "CodeShrinkerLaw" 77 ⟨"CodeShrinker", "rename", "()I"⟩) ∈ vT := vT_2 14 rfl rfl
theorem kI_Cs_rename : (Cond.instanceMethod ⟨"CodeShrinker", "rename", "()I"⟩) ∈ vT := vT_2 15 rfl rfl
theorem ks_Cs_Cs_rename : (Cond.selects "CodeShrinker" ⟨"CodeShrinker", "rename", "()I"⟩ ⟨"CodeShrinker", "rename", "()I"⟩) ∈ vT := vT_2 16 rfl rfl
theorem kM_Cs_rename : (Cond.code ⟨"CodeShrinker", "rename", "()I"⟩ prog_1_method_8_code 1 (Option.some .int)) ∈ vT := vT_2 17 rfl rfl
theorem km_Cs_132 : (Cond.methodLink "CodeShrinker" 132 ⟨"CodeShrinker$Families", "form", "()V"⟩) ∈ vT := vT_2 18 rfl rfl
theorem kI_Fa_form : (Cond.instanceMethod ⟨"CodeShrinker$Families", "form", "()V"⟩) ∈ vT := vT_2 19 rfl rfl
theorem ks_Fa_Fa_form : (Cond.selects "CodeShrinker$Families" ⟨"CodeShrinker$Families", "form", "()V"⟩ ⟨"CodeShrinker$Families", "form", "()V"⟩) ∈ vT := vT_2 20 rfl rfl
theorem kM_Fa_form : (Cond.code ⟨"CodeShrinker$Families", "form", "()V"⟩ prog_2_method_2_code 4 (Option.none : Option Jvm.ClassFile.FieldType)) ∈ vT := vT_2 21 rfl rfl
theorem km_Fa_39 : (Cond.methodLink "CodeShrinker$Families" 39 ⟨"CodeShrinker$Families", "seeRelatives", "()V"⟩) ∈ vT := vT_2 22 rfl rfl
theorem kz_263 : (Cond.privateMethod ⟨"CodeShrinker$Families", "seeRelatives", "()V"⟩) ∈ vT := vT_2 23 rfl rfl
theorem kI_Fa_seeRelatives : (Cond.instanceMethod ⟨"CodeShrinker$Families", "seeRelatives", "()V"⟩) ∈ vT := vT_2 24 rfl rfl
theorem kM_Fa_seeRelatives : (Cond.code ⟨"CodeShrinker$Families", "seeRelatives", "()V"⟩ prog_2_method_5_code 5 (Option.none : Option Jvm.ClassFile.FieldType)) ∈ vT := vT_2 25 rfl rfl
theorem km_Fa_48 : (Cond.methodLink "CodeShrinker$Families" 48 ⟨"java/util/ArrayList", "size", "()I"⟩) ∈ vT := vT_2 26 rfl rfl
theorem km_Fa_94 : (Cond.methodLink "CodeShrinker$Families" 94 ⟨"java/lang/Math", "min", "(II)I"⟩) ∈ vT := vT_2 27 rfl rfl
theorem kS_Ma_min : (Cond.static ⟨"java/lang/Math", "min", "(II)I"⟩) ∈ vT := vT_2 28 rfl rfl
theorem kM_Ma_min : (Cond.code ⟨"java/lang/Math", "min", "(II)I"⟩ prog_17_method_69_code 2 (Option.some .int)) ∈ vT := vT_2 29 rfl rfl
theorem km_Fa_53 : (Cond.methodLink "CodeShrinker$Families" 53 ⟨"java/util/ArrayList", "get", "(I)Ljava/lang/Object;"⟩) ∈ vT := vT_2 30 rfl rfl
theorem kc_Fa_100 : (Cond.classLink "CodeShrinker$Families" 100 "CodeShrinker$ProgramClass") ∈ vT := vT_2 31 rfl rfl
theorem km_Fa_102 : (Cond.methodLink "CodeShrinker$Families" 102 ⟨"CodeShrinker$ProgramClass", "isRelatedTo", "(LCodeShrinker$ProgramClass;)Z"⟩) ∈ vT := vT_2 32 rfl rfl
theorem kI_Pc_isRelatedTo : (Cond.instanceMethod ⟨"CodeShrinker$ProgramClass", "isRelatedTo", "(LCodeShrinker$ProgramClass;)Z"⟩) ∈ vT := vT_2 33 rfl rfl
theorem ks_Pc_Pc_isRelatedTo : (Cond.selects "CodeShrinker$ProgramClass" ⟨"CodeShrinker$ProgramClass", "isRelatedTo", "(LCodeShrinker$ProgramClass;)Z"⟩ ⟨"CodeShrinker$ProgramClass", "isRelatedTo", "(LCodeShrinker$ProgramClass;)Z"⟩) ∈ vT := vT_2 34 rfl rfl
theorem kM_Pc_isRelatedTo : (Cond.code ⟨"CodeShrinker$ProgramClass", "isRelatedTo", "(LCodeShrinker$ProgramClass;)Z"⟩ prog_5_method_5_code 2 (Option.some .boolean)) ∈ vT := vT_2 35 rfl rfl
theorem km_Pc_51 : (Cond.methodLink "CodeShrinker$ProgramClass" 51 ⟨"CodeShrinker$ProgramClass", "isOrIsBelow", "(LCodeShrinker$ProgramClass;)Z"⟩) ∈ vT := vT_2 36 rfl rfl
theorem kc_Fa_57 : (Cond.classLink "CodeShrinker$Families" 57 "CodeShrinker$ProgramMethod") ∈ vT := vT_2 37 rfl rfl
theorem km_Fa_69 : (Cond.methodLink "CodeShrinker$Families" 69 ⟨"CodeShrinker$Families", "familyOf", "(LCodeShrinker$ProgramClass;II)I"⟩) ∈ vT := vT_2 38 rfl rfl
theorem kz_279 : (Cond.privateMethod ⟨"CodeShrinker$Families", "familyOf", "(LCodeShrinker$ProgramClass;II)I"⟩) ∈ vT := vT_2 39 rfl rfl
theorem kI_Fa_familyOf : (Cond.instanceMethod ⟨"CodeShrinker$Families", "familyOf", "(LCodeShrinker$ProgramClass;II)I"⟩) ∈ vT := vT_2 40 rfl rfl
theorem kM_Fa_familyOf : (Cond.code ⟨"CodeShrinker$Families", "familyOf", "(LCodeShrinker$ProgramClass;II)I"⟩ prog_2_method_14_code 5 (Option.some .int)) ∈ vT := vT_2 41 rfl rfl
theorem km_Fa_132 : (Cond.methodLink "CodeShrinker$Families" 132 ⟨"CodeShrinker$Families", "holds", "(II)Z"⟩) ∈ vT := vT_2 42 rfl rfl
theorem kS_Fa_holds : (Cond.static ⟨"CodeShrinker$Families", "holds", "(II)Z"⟩) ∈ vT := vT_2 43 rfl rfl
theorem kM_Fa_holds : (Cond.code ⟨"CodeShrinker$Families", "holds", "(II)Z"⟩ prog_2_method_15_code 2 (Option.some .boolean)) ∈ vT := vT_2 44 rfl rfl
theorem km_Fa_73 : (Cond.methodLink "CodeShrinker$Families" 73 ⟨"CodeShrinker$Families", "open", "(LCodeShrinker$ProgramMethod;)I"⟩) ∈ vT := vT_2 45 rfl rfl
theorem kz_286 : (Cond.privateMethod ⟨"CodeShrinker$Families", "open", "(LCodeShrinker$ProgramMethod;)I"⟩) ∈ vT := vT_2 46 rfl rfl
theorem kI_Fa_open : (Cond.instanceMethod ⟨"CodeShrinker$Families", "open", "(LCodeShrinker$ProgramMethod;)I"⟩) ∈ vT := vT_2 47 rfl rfl
theorem kM_Fa_open : (Cond.code ⟨"CodeShrinker$Families", "open", "(LCodeShrinker$ProgramMethod;)I"⟩ prog_2_method_6_code 3 (Option.some .int)) ∈ vT := vT_2 48 rfl rfl
theorem km_Fa_109 : (Cond.methodLink "CodeShrinker$Families" 109 ⟨"CodeShrinker$Families", "bearers", "(II)I"⟩) ∈ vT := vT_2 49 rfl rfl
theorem kz_290 : (Cond.privateMethod ⟨"CodeShrinker$Families", "bearers", "(II)I"⟩) ∈ vT := vT_2 50 rfl rfl
theorem kI_Fa_bearers : (Cond.instanceMethod ⟨"CodeShrinker$Families", "bearers", "(II)I"⟩) ∈ vT := vT_2 51 rfl rfl
theorem kM_Fa_bearers : (Cond.code ⟨"CodeShrinker$Families", "bearers", "(II)I"⟩ prog_2_method_7_code 6 (Option.some .int)) ∈ vT := vT_2 52 rfl rfl
theorem km_Fa_115 : (Cond.methodLink "CodeShrinker$Families" 115 ⟨"CodeShrinker$Families", "standsIn", "(LCodeShrinker$ProgramMethod;II)Z"⟩) ∈ vT := vT_2 53 rfl rfl
theorem kS_Fa_standsIn : (Cond.static ⟨"CodeShrinker$Families", "standsIn", "(LCodeShrinker$ProgramMethod;II)Z"⟩) ∈ vT := vT_2 54 rfl rfl
theorem kM_Fa_standsIn : (Cond.code ⟨"CodeShrinker$Families", "standsIn", "(LCodeShrinker$ProgramMethod;II)Z"⟩ prog_2_method_8_code 5 (Option.some .boolean)) ∈ vT := vT_2 55 rfl rfl
theorem kc_Fa_122 : (Cond.classLink "CodeShrinker$Families" 122 "CodeShrinker$Item") ∈ vT := vT_2 56 rfl rfl
theorem km_Fa_112 : (Cond.methodLink "CodeShrinker$Families" 112 ⟨"CodeShrinker$Families", "joinedTo", "(II)I"⟩) ∈ vT := vT_2 57 rfl rfl
theorem kz_298 : (Cond.privateMethod ⟨"CodeShrinker$Families", "joinedTo", "(II)I"⟩) ∈ vT := vT_2 58 rfl rfl
theorem kI_Fa_joinedTo : (Cond.instanceMethod ⟨"CodeShrinker$Families", "joinedTo", "(II)I"⟩) ∈ vT := vT_2 59 rfl rfl
theorem kM_Fa_joinedTo : (Cond.code ⟨"CodeShrinker$Families", "joinedTo", "(II)I"⟩ prog_2_method_9_code 5 (Option.some .int)) ∈ vT := vT_2 60 rfl rfl
theorem km_Fa_129 : (Cond.methodLink "CodeShrinker$Families" 129 ⟨"CodeShrinker$Families", "relatedTo", "(I)I"⟩) ∈ vT := vT_2 61 rfl rfl
theorem kz_302 : (Cond.privateMethod ⟨"CodeShrinker$Families", "relatedTo", "(I)I"⟩) ∈ vT := vT_2 62 rfl rfl
theorem kI_Fa_relatedTo : (Cond.instanceMethod ⟨"CodeShrinker$Families", "relatedTo", "(I)I"⟩) ∈ vT := vT_2 63 rfl rfl
theorem kM_Fa_relatedTo : (Cond.code ⟨"CodeShrinker$Families", "relatedTo", "(I)I"⟩ prog_2_method_10_code 4 (Option.some .int)) ∈ vT := vT_2 64 rfl rfl
theorem km_Cs_135 : (Cond.methodLink "CodeShrinker" 135 ⟨"CodeShrinker$Families", "giveNames", "()V"⟩) ∈ vT := vT_2 65 rfl rfl
theorem kI_Fa_giveNames : (Cond.instanceMethod ⟨"CodeShrinker$Families", "giveNames", "()V"⟩) ∈ vT := vT_2 66 rfl rfl
theorem ks_Fa_Fa_giveNames : (Cond.selects "CodeShrinker$Families" ⟨"CodeShrinker$Families", "giveNames", "()V"⟩ ⟨"CodeShrinker$Families", "giveNames", "()V"⟩) ∈ vT := vT_2 67 rfl rfl
theorem kM_Fa_giveNames : (Cond.code ⟨"CodeShrinker$Families", "giveNames", "()V"⟩ prog_2_method_3_code 2 (Option.none : Option Jvm.ClassFile.FieldType)) ∈ vT := vT_2 68 rfl rfl
theorem km_Fa_80 : (Cond.methodLink "CodeShrinker$Families" 80 ⟨"CodeShrinker$Families", "leastFreeName", "(I)I"⟩) ∈ vT := vT_2 69 rfl rfl
theorem kz_310 : (Cond.privateMethod ⟨"CodeShrinker$Families", "leastFreeName", "(I)I"⟩) ∈ vT := vT_2 70 rfl rfl
theorem kI_Fa_leastFreeName : (Cond.instanceMethod ⟨"CodeShrinker$Families", "leastFreeName", "(I)I"⟩) ∈ vT := vT_2 71 rfl rfl
theorem kM_Fa_leastFreeName : (Cond.code ⟨"CodeShrinker$Families", "leastFreeName", "(I)I"⟩ prog_2_method_11_code 6 (Option.some .int)) ∈ vT := vT_2 72 rfl rfl
theorem km_Cs_138 : (Cond.methodLink "CodeShrinker" 138 ⟨"CodeShrinker$Families", "writeNames", "()V"⟩) ∈ vT := vT_2 73 rfl rfl
theorem kI_Fa_writeNames : (Cond.instanceMethod ⟨"CodeShrinker$Families", "writeNames", "()V"⟩) ∈ vT := vT_2 74 rfl rfl
theorem ks_Fa_Fa_writeNames : (Cond.selects "CodeShrinker$Families" ⟨"CodeShrinker$Families", "writeNames", "()V"⟩ ⟨"CodeShrinker$Families", "writeNames", "()V"⟩) ∈ vT := vT_2 75 rfl rfl
theorem kM_Fa_writeNames : (Cond.code ⟨"CodeShrinker$Families", "writeNames", "()V"⟩ prog_2_method_4_code 3 (Option.none : Option Jvm.ClassFile.FieldType)) ∈ vT := vT_2 76 rfl rfl
theorem km_Fa_84 : (Cond.methodLink "CodeShrinker$Families" 84 ⟨"CodeShrinker$Families", "writeItems", "(LCodeShrinker$ProgramMethod;)V"⟩) ∈ vT := vT_2 77 rfl rfl
theorem kz_318 : (Cond.privateMethod ⟨"CodeShrinker$Families", "writeItems", "(LCodeShrinker$ProgramMethod;)V"⟩) ∈ vT := vT_2 78 rfl rfl
theorem kI_Fa_writeItems : (Cond.instanceMethod ⟨"CodeShrinker$Families", "writeItems", "(LCodeShrinker$ProgramMethod;)V"⟩) ∈ vT := vT_2 79 rfl rfl
theorem kM_Fa_writeItems : (Cond.code ⟨"CodeShrinker$Families", "writeItems", "(LCodeShrinker$ProgramMethod;)V"⟩ prog_2_method_12_code 5 (Option.none : Option Jvm.ClassFile.FieldType)) ∈ vT := vT_2 80 rfl rfl
theorem km_Fa_139 : (Cond.methodLink "CodeShrinker$Families" 139 ⟨"CodeShrinker$ProgramClass", "find", "(II)LCodeShrinker$ProgramMethod;"⟩) ∈ vT := vT_2 81 rfl rfl
theorem km_Fa_88 : (Cond.methodLink "CodeShrinker$Families" 88 ⟨"CodeShrinker$Families", "newNameOf", "(LCodeShrinker$ProgramClass;II)I"⟩) ∈ vT := vT_2 82 rfl rfl
theorem kz_323 : (Cond.privateMethod ⟨"CodeShrinker$Families", "newNameOf", "(LCodeShrinker$ProgramClass;II)I"⟩) ∈ vT := vT_2 83 rfl rfl
theorem kI_Fa_newNameOf : (Cond.instanceMethod ⟨"CodeShrinker$Families", "newNameOf", "(LCodeShrinker$ProgramClass;II)I"⟩) ∈ vT := vT_2 84 rfl rfl
theorem kM_Fa_newNameOf : (Cond.code ⟨"CodeShrinker$Families", "newNameOf", "(LCodeShrinker$ProgramClass;II)I"⟩ prog_2_method_13_code 5 (Option.some .int)) ∈ vT := vT_2 85 rfl rfl
theorem km_Lw_91 : (Cond.methodLink "CodeShrinkerLaw" 91 ⟨"CodeShrinker", "count", "(I)I"⟩) ∈ vT := vT_2 86 rfl rfl
theorem kI_Cs_count : (Cond.instanceMethod ⟨"CodeShrinker", "count", "(I)I"⟩) ∈ vT := vT_2 87 rfl rfl
theorem ks_Cs_Cs_count : (Cond.selects "CodeShrinker" ⟨"CodeShrinker", "count", "(I)I"⟩ ⟨"CodeShrinker", "count", "(I)I"⟩) ∈ vT := vT_2 88 rfl rfl
theorem kM_Cs_count : (Cond.code ⟨"CodeShrinker", "count", "(I)I"⟩ prog_1_method_12_code 2 (Option.some .int)) ∈ vT := vT_2 89 rfl rfl
theorem km_Cs_176 : (Cond.methodLink "CodeShrinker" 176 ⟨"CodeShrinker$Program", "liveMethods", "()I"⟩) ∈ vT := vT_2 90 rfl rfl
theorem kI_Pr_liveMethods : (Cond.instanceMethod ⟨"CodeShrinker$Program", "liveMethods", "()I"⟩) ∈ vT := vT_2 91 rfl rfl
theorem ks_Pr_Pr_liveMethods : (Cond.selects "CodeShrinker$Program" ⟨"CodeShrinker$Program", "liveMethods", "()I"⟩ ⟨"CodeShrinker$Program", "liveMethods", "()I"⟩) ∈ vT := vT_2 92 rfl rfl
theorem kM_Pr_liveMethods : (Cond.code ⟨"CodeShrinker$Program", "liveMethods", "()I"⟩ prog_4_method_2_code 3 (Option.some .int)) ∈ vT := vT_2 93 rfl rfl
theorem km_Cs_179 : (Cond.methodLink "CodeShrinker" 179 ⟨"CodeShrinker$Program", "madeClasses", "()I"⟩) ∈ vT := vT_2 94 rfl rfl
theorem kI_Pr_madeClasses : (Cond.instanceMethod ⟨"CodeShrinker$Program", "madeClasses", "()I"⟩) ∈ vT := vT_2 95 rfl rfl
theorem ks_Pr_Pr_madeClasses : (Cond.selects "CodeShrinker$Program" ⟨"CodeShrinker$Program", "madeClasses", "()I"⟩ ⟨"CodeShrinker$Program", "madeClasses", "()I"⟩) ∈ vT := vT_2 96 rfl rfl
theorem kM_Pr_madeClasses : (Cond.code ⟨"CodeShrinker$Program", "madeClasses", "()I"⟩ prog_4_method_3_code 3 (Option.some .int)) ∈ vT := vT_2 97 rfl rfl
theorem km_Cs_182 : (Cond.methodLink "CodeShrinker" 182 ⟨"CodeShrinker", "parentOf", "(I)I"⟩) ∈ vT := vT_2 98 rfl rfl
theorem kz_339 : (Cond.privateMethod ⟨"CodeShrinker", "parentOf", "(I)I"⟩) ∈ vT := vT_2 99 rfl rfl
theorem kI_Cs_parentOf : (Cond.instanceMethod ⟨"CodeShrinker", "parentOf", "(I)I"⟩) ∈ vT := vT_2 100 rfl rfl
theorem kM_Cs_parentOf : (Cond.code ⟨"CodeShrinker", "parentOf", "(I)I"⟩ prog_1_method_13_code 3 (Option.some .int)) ∈ vT := vT_2 101 rfl rfl
theorem km_Cs_43 : (Cond.methodLink "CodeShrinker" 43 ⟨"CodeShrinker", "isClass", "(I)Z"⟩) ∈ vT := vT_2 102 rfl rfl
theorem kz_343 : (Cond.privateMethod ⟨"CodeShrinker", "isClass", "(I)Z"⟩) ∈ vT := vT_2 103 rfl rfl
theorem kI_Cs_isClass : (Cond.instanceMethod ⟨"CodeShrinker", "isClass", "(I)Z"⟩) ∈ vT := vT_2 104 rfl rfl
theorem kM_Cs_isClass : (Cond.code ⟨"CodeShrinker", "isClass", "(I)Z"⟩ prog_1_method_15_code 2 (Option.some .boolean)) ∈ vT := vT_2 105 rfl rfl
theorem km_Cs_68 : (Cond.methodLink "CodeShrinker" 68 ⟨"java/util/ArrayList", "get", "(I)Ljava/lang/Object;"⟩) ∈ vT := vT_2 106 rfl rfl
theorem kc_Cs_72 : (Cond.classLink "CodeShrinker" 72 "CodeShrinker$ProgramClass") ∈ vT := vT_2 107 rfl rfl
theorem km_Lw_48 : (Cond.methodLink "CodeShrinkerLaw" 48 ⟨"CodeShrinkerLaw", "add", "(LCodeShrinker;I[J)I"⟩) ∈ vT := vT_2 108 rfl rfl
theorem kS_Lw_add : (Cond.static ⟨"CodeShrinkerLaw", "add", "(LCodeShrinker;I[J)I"⟩) ∈ vT := vT_2 109 rfl rfl
theorem kM_Lw_add : (Cond.codeWith ⟨"CodeShrinkerLaw", "add", "(LCodeShrinker;I[J)I"⟩ method_3_code 4 (Option.some .int) [(0, 9, 12, 13), (0, 9, 15, 15)]) ∈ vT := vT_2 110 rfl rfl
theorem kc_Lw_13 : (Cond.classLink "CodeShrinkerLaw" 13 "java/lang/IllegalArgumentException") ∈ vT := vT_2 111 rfl rfl
theorem kc_Lw_15 : (Cond.classLink "CodeShrinkerLaw" 15 "java/lang/IllegalStateException") ∈ vT := vT_2 112 rfl rfl
theorem km_Lw_7 : (Cond.methodLink "CodeShrinkerLaw" 7 ⟨"CodeShrinker", "add", "(I)I"⟩) ∈ vT := vT_2 113 rfl rfl
theorem kI_Cs_add : (Cond.instanceMethod ⟨"CodeShrinker", "add", "(I)I"⟩) ∈ vT := vT_2 114 rfl rfl
theorem ks_Cs_Cs_add : (Cond.selects "CodeShrinker" ⟨"CodeShrinker", "add", "(I)I"⟩ ⟨"CodeShrinker", "add", "(I)I"⟩) ∈ vT := vT_2 115 rfl rfl
theorem kM_Cs_add : (Cond.code ⟨"CodeShrinker", "add", "(I)I"⟩ prog_1_method_2_code 4 (Option.some .int)) ∈ vT := vT_2 116 rfl rfl
theorem km_Cs_47 : (Cond.methodLink "CodeShrinker" 47 ⟨"CodeShrinker", "require", "(Z)V"⟩) ∈ vT := vT_2 117 rfl rfl
theorem kS_Cs_require : (Cond.static ⟨"CodeShrinker", "require", "(Z)V"⟩) ∈ vT := vT_2 118 rfl rfl
theorem kM_Cs_require : (Cond.code ⟨"CodeShrinker", "require", "(Z)V"⟩ prog_1_method_20_code 1 (Option.none : Option Jvm.ClassFile.FieldType)) ∈ vT := vT_2 119 rfl rfl
theorem kc_Cs_191 : (Cond.classLink "CodeShrinker" 191 "java/lang/IllegalArgumentException") ∈ vT := vT_2 120 rfl rfl
theorem kn_Ia : (Cond.instantiable "java/lang/IllegalArgumentException" 6) ∈ vT := vT_2 121 rfl rfl
theorem kx_Ia_Ia : (Cond.castable "java/lang/IllegalArgumentException" "java/lang/IllegalArgumentException") ∈ vT := vT_2 122 rfl rfl
theorem kz_363 : (Cond.declares ⟨"java/lang/RuntimeException", "<init>", "()V"⟩) ∈ vT := vT_2 123 rfl rfl
theorem kz_364 : (Cond.declares ⟨"java/lang/RuntimeException", "<init>", "(Ljava/lang/String;)V"⟩) ∈ vT := vT_2 124 rfl rfl
theorem kz_365 : (Cond.declares ⟨"java/lang/Exception", "<init>", "()V"⟩) ∈ vT := vT_2 125 rfl rfl
theorem kz_366 : (Cond.declares ⟨"java/lang/Exception", "<init>", "(Ljava/lang/String;)V"⟩) ∈ vT := vT_2 126 rfl rfl
theorem kz_367 : (Cond.declares ⟨"java/lang/Throwable", "<init>", "()V"⟩) ∈ vT := vT_2 127 rfl rfl
theorem kz_368 : (Cond.declares ⟨"java/lang/Throwable", "<init>", "(Ljava/lang/String;)V"⟩) ∈ vT := vT_2 128 rfl rfl
theorem ks_Ia_Th_fillInStackTrace_I_Ljava_lang_Throwable_ : (Cond.selects "java/lang/IllegalArgumentException" ⟨"java/lang/Throwable", "fillInStackTrace", "(I)Ljava/lang/Throwable;"⟩ ⟨"java/lang/Throwable", "fillInStackTrace", "(I)Ljava/lang/Throwable;"⟩) ∈ vT := vT_2 129 rfl rfl
theorem ks_Ia_Th_fillInStackTrace__Ljava_lang_Throwable_ : (Cond.selects "java/lang/IllegalArgumentException" ⟨"java/lang/Throwable", "fillInStackTrace", "()Ljava/lang/Throwable;"⟩ ⟨"java/lang/Throwable", "fillInStackTrace", "()Ljava/lang/Throwable;"⟩) ∈ vT := vT_2 130 rfl rfl
theorem kz_371 : (Cond.lays "java/lang/IllegalArgumentException" "java/lang/Throwable" "cause" "Ljava/lang/Throwable;") ∈ vT := vT_2 131 rfl rfl
theorem kz_372 : (Cond.lays "java/lang/Throwable" "java/lang/Throwable" "cause" "Ljava/lang/Throwable;") ∈ vT := vT_2 132 rfl rfl
theorem kz_373 : (Cond.lays "java/lang/IllegalArgumentException" "java/lang/Throwable" "stackTrace" "[Ljava/lang/StackTraceElement;") ∈ vT := vT_2 133 rfl rfl
theorem kz_374 : (Cond.lays "java/lang/Throwable" "java/lang/Throwable" "stackTrace" "[Ljava/lang/StackTraceElement;") ∈ vT := vT_2 134 rfl rfl
theorem kz_375 : (Cond.lays "java/lang/IllegalArgumentException" "java/lang/Throwable" "suppressedExceptions" "Ljava/util/List;") ∈ vT := vT_2 135 rfl rfl
theorem kz_376 : (Cond.lays "java/lang/Throwable" "java/lang/Throwable" "suppressedExceptions" "Ljava/util/List;") ∈ vT := vT_2 136 rfl rfl
theorem kz_377 : (Cond.lays "java/lang/IllegalArgumentException" "java/lang/Throwable" "detailMessage" "Ljava/lang/String;") ∈ vT := vT_2 137 rfl rfl
theorem kz_378 : (Cond.lays "java/lang/Throwable" "java/lang/Throwable" "detailMessage" "Ljava/lang/String;") ∈ vT := vT_2 138 rfl rfl
theorem kz_379 : (Cond.lays "java/lang/IllegalArgumentException" "java/lang/Throwable" "backtrace" "Ljava/lang/Object;") ∈ vT := vT_2 139 rfl rfl
theorem kz_380 : (Cond.lays "java/lang/Throwable" "java/lang/Throwable" "backtrace" "Ljava/lang/Object;") ∈ vT := vT_2 140 rfl rfl
theorem kf_Th_198 : (Cond.fieldLink "java/lang/Throwable" 198 "java/lang/Throwable" "backtrace" "Ljava/lang/Object;") ∈ vT := vT_2 141 rfl rfl
theorem kz_382 : (Cond.superclass "java/lang/Throwable" "java/lang/Object") ∈ vT := vT_2 142 rfl rfl
theorem kI_Th_init : (Cond.instanceMethod ⟨"java/lang/Throwable", "<init>", "()V"⟩) ∈ vT := vT_2 143 rfl rfl
theorem kM_Th_init : (Cond.code ⟨"java/lang/Throwable", "<init>", "()V"⟩ prog_21_method_1_code 1 (Option.none : Option Jvm.ClassFile.FieldType)) ∈ vT := vT_2 144 rfl rfl
theorem km_Th_1 : (Cond.methodLink "java/lang/Throwable" 1 ⟨"java/lang/Object", "<init>", "()V"⟩) ∈ vT := vT_2 145 rfl rfl
theorem kf_Th_13 : (Cond.fieldLink "java/lang/Throwable" 13 "java/lang/Throwable" "UNASSIGNED_STACK" "[Ljava/lang/StackTraceElement;") ∈ vT := vT_2 146 rfl rfl
theorem kf_Th_20 : (Cond.fieldLink "java/lang/Throwable" 20 "java/lang/Throwable" "SUPPRESSED_SENTINEL" "Ljava/util/List;") ∈ vT := vT_2 148 rfl rfl
theorem km_Th_27 : (Cond.methodLink "java/lang/Throwable" 27 ⟨"java/lang/Throwable", "fillInStackTrace", "()Ljava/lang/Throwable;"⟩) ∈ vT := vT_2 150 rfl rfl
theorem kI_Th_fillInStackTrace__Ljava_lang_Throwable_ : (Cond.instanceMethod ⟨"java/lang/Throwable", "fillInStackTrace", "()Ljava/lang/Throwable;"⟩) ∈ vT := vT_2 151 rfl rfl
theorem kz_392 : (Cond.sameMethod "java/lang/Throwable" "java/lang/Throwable" "fillInStackTrace" "()Ljava/lang/Throwable;") ∈ vT := vT_2 152 rfl rfl
theorem ks_Is_Th_fillInStackTrace__Ljava_lang_Throwable_ : (Cond.selects "java/lang/IllegalStateException" ⟨"java/lang/Throwable", "fillInStackTrace", "()Ljava/lang/Throwable;"⟩ ⟨"java/lang/Throwable", "fillInStackTrace", "()Ljava/lang/Throwable;"⟩) ∈ vT := vT_2 153 rfl rfl
theorem ks_Ns_Th_fillInStackTrace__Ljava_lang_Throwable_ : (Cond.selects "java/util/NoSuchElementException" ⟨"java/lang/Throwable", "fillInStackTrace", "()Ljava/lang/Throwable;"⟩ ⟨"java/lang/Throwable", "fillInStackTrace", "()Ljava/lang/Throwable;"⟩) ∈ vT := vT_2 154 rfl rfl
theorem kz_395 : (Cond.codeSync ⟨"java/lang/Throwable", "fillInStackTrace", "()Ljava/lang/Throwable;"⟩ prog_21_method_18_code 1 (Option.some (.object "java/lang/Throwable"))) ∈ vT := vT_2 155 rfl rfl
theorem km_Th_202 : (Cond.methodLink "java/lang/Throwable" 202 ⟨"java/lang/Throwable", "fillInStackTrace", "(I)Ljava/lang/Throwable;"⟩) ∈ vT := vT_2 156 rfl rfl
theorem kz_397 : (Cond.privateMethod ⟨"java/lang/Throwable", "fillInStackTrace", "(I)Ljava/lang/Throwable;"⟩) ∈ vT := vT_2 157 rfl rfl
theorem kI_Th_fillInStackTrace_I_Ljava_lang_Throwable_ : (Cond.instanceMethod ⟨"java/lang/Throwable", "fillInStackTrace", "(I)Ljava/lang/Throwable;"⟩) ∈ vT := vT_2 158 rfl rfl
theorem kn_Th : (Cond.instantiable "java/lang/Throwable" 6) ∈ vT := vT_2 159 rfl rfl
theorem kz_400 : (Cond.native ⟨"java/lang/Throwable", "fillInStackTrace", "(I)Ljava/lang/Throwable;"⟩) ∈ vT := vT_2 160 rfl rfl
theorem km_Cs_195 : (Cond.methodLink "CodeShrinker" 195 ⟨"java/lang/IllegalArgumentException", "<init>", "(Ljava/lang/String;)V"⟩) ∈ vT := vT_2 162 rfl rfl
theorem kI_Ia_init : (Cond.instanceMethod ⟨"java/lang/IllegalArgumentException", "<init>", "(Ljava/lang/String;)V"⟩) ∈ vT := vT_2 163 rfl rfl
theorem kM_Ia_init : (Cond.code ⟨"java/lang/IllegalArgumentException", "<init>", "(Ljava/lang/String;)V"⟩ prog_14_method_2_code 2 (Option.none : Option Jvm.ClassFile.FieldType)) ∈ vT := vT_2 164 rfl rfl
theorem km_Ia_7 : (Cond.methodLink "java/lang/IllegalArgumentException" 7 ⟨"java/lang/RuntimeException", "<init>", "(Ljava/lang/String;)V"⟩) ∈ vT := vT_2 165 rfl rfl
theorem kI_Rt_init : (Cond.instanceMethod ⟨"java/lang/RuntimeException", "<init>", "(Ljava/lang/String;)V"⟩) ∈ vT := vT_2 166 rfl rfl
theorem kM_Rt_init : (Cond.code ⟨"java/lang/RuntimeException", "<init>", "(Ljava/lang/String;)V"⟩ prog_18_method_2_code 2 (Option.none : Option Jvm.ClassFile.FieldType)) ∈ vT := vT_2 167 rfl rfl
theorem km_Rt_7 : (Cond.methodLink "java/lang/RuntimeException" 7 ⟨"java/lang/Exception", "<init>", "(Ljava/lang/String;)V"⟩) ∈ vT := vT_2 168 rfl rfl
theorem kI_Ex_init : (Cond.instanceMethod ⟨"java/lang/Exception", "<init>", "(Ljava/lang/String;)V"⟩) ∈ vT := vT_2 169 rfl rfl
theorem kM_Ex_init : (Cond.code ⟨"java/lang/Exception", "<init>", "(Ljava/lang/String;)V"⟩ prog_13_method_2_code 2 (Option.none : Option Jvm.ClassFile.FieldType)) ∈ vT := vT_2 170 rfl rfl
theorem km_Ex_7 : (Cond.methodLink "java/lang/Exception" 7 ⟨"java/lang/Throwable", "<init>", "(Ljava/lang/String;)V"⟩) ∈ vT := vT_2 171 rfl rfl
theorem kI_Th_init2 : (Cond.instanceMethod ⟨"java/lang/Throwable", "<init>", "(Ljava/lang/String;)V"⟩) ∈ vT := vT_2 172 rfl rfl
theorem kM_Th_init2 : (Cond.code ⟨"java/lang/Throwable", "<init>", "(Ljava/lang/String;)V"⟩ prog_21_method_2_code 2 (Option.none : Option Jvm.ClassFile.FieldType)) ∈ vT := vT_2 173 rfl rfl
theorem kf_Th_198_414 : (Cond.fieldLink "java/lang/Throwable" 198 "java/lang/Throwable" "backtrace" "Ljava/lang/Object;") ∈ vT := vT_2 174 rfl rfl
theorem kf_Th_31 : (Cond.fieldLink "java/lang/Throwable" 31 "java/lang/Throwable" "detailMessage" "Ljava/lang/String;") ∈ vT := vT_2 175 rfl rfl
theorem kf_Th_7 : (Cond.fieldLink "java/lang/Throwable" 7 "java/lang/Throwable" "cause" "Ljava/lang/Throwable;") ∈ vT := vT_2 176 rfl rfl
theorem kf_Th_17 : (Cond.fieldLink "java/lang/Throwable" 17 "java/lang/Throwable" "stackTrace" "[Ljava/lang/StackTraceElement;") ∈ vT := vT_2 177 rfl rfl
theorem kf_Th_24 : (Cond.fieldLink "java/lang/Throwable" 24 "java/lang/Throwable" "suppressedExceptions" "Ljava/util/List;") ∈ vT := vT_2 178 rfl rfl
theorem kz_419 : (Cond.soleField "java/lang/Throwable" "backtrace") ∈ vT := vT_2 179 rfl rfl
theorem kz_420 : (Cond.soleField "java/lang/Throwable" "detailMessage") ∈ vT := vT_2 180 rfl rfl
theorem kz_421 : (Cond.soleField "java/lang/Throwable" "cause") ∈ vT := vT_2 181 rfl rfl
theorem kz_422 : (Cond.soleField "java/lang/Throwable" "stackTrace") ∈ vT := vT_2 182 rfl rfl
theorem kz_423 : (Cond.lays "java/lang/IllegalArgumentException" "java/lang/Throwable" "depth" "I") ∈ vT := vT_2 183 rfl rfl
theorem kz_424 : (Cond.soleField "java/lang/Throwable" "depth") ∈ vT := vT_2 184 rfl rfl
theorem kz_425 : (Cond.soleField "java/lang/Throwable" "suppressedExceptions") ∈ vT := vT_2 185 rfl rfl
theorem kz_426 : (Cond.superclass "java/lang/IllegalArgumentException" "java/lang/RuntimeException") ∈ vT := vT_2 186 rfl rfl
theorem kz_427 : (Cond.arrayClass .byte) ∈ vT := vT_2 187 rfl rfl
theorem kc_Cs_61 : (Cond.classLink "CodeShrinker" 61 "java/lang/IllegalStateException") ∈ vT := vT_2 188 rfl rfl
theorem kn_Is : (Cond.instantiable "java/lang/IllegalStateException" 6) ∈ vT := vT_2 189 rfl rfl
theorem kx_Is_Is : (Cond.castable "java/lang/IllegalStateException" "java/lang/IllegalStateException") ∈ vT := vT_2 190 rfl rfl
theorem ks_Is_Th_fillInStackTrace_I_Ljava_lang_Throwable_ : (Cond.selects "java/lang/IllegalStateException" ⟨"java/lang/Throwable", "fillInStackTrace", "(I)Ljava/lang/Throwable;"⟩ ⟨"java/lang/Throwable", "fillInStackTrace", "(I)Ljava/lang/Throwable;"⟩) ∈ vT := vT_2 191 rfl rfl
theorem kz_432 : (Cond.lays "java/lang/IllegalStateException" "java/lang/Throwable" "cause" "Ljava/lang/Throwable;") ∈ vT := vT_2 192 rfl rfl
theorem kz_433 : (Cond.lays "java/lang/IllegalStateException" "java/lang/Throwable" "stackTrace" "[Ljava/lang/StackTraceElement;") ∈ vT := vT_2 193 rfl rfl
theorem kz_434 : (Cond.lays "java/lang/IllegalStateException" "java/lang/Throwable" "suppressedExceptions" "Ljava/util/List;") ∈ vT := vT_2 194 rfl rfl
theorem kz_435 : (Cond.lays "java/lang/IllegalStateException" "java/lang/Throwable" "detailMessage" "Ljava/lang/String;") ∈ vT := vT_2 195 rfl rfl
theorem kz_436 : (Cond.lays "java/lang/IllegalStateException" "java/lang/Throwable" "backtrace" "Ljava/lang/Object;") ∈ vT := vT_2 196 rfl rfl
theorem km_Cs_65 : (Cond.methodLink "CodeShrinker" 65 ⟨"java/lang/IllegalStateException", "<init>", "(Ljava/lang/String;)V"⟩) ∈ vT := vT_2 198 rfl rfl
theorem kI_Is_init : (Cond.instanceMethod ⟨"java/lang/IllegalStateException", "<init>", "(Ljava/lang/String;)V"⟩) ∈ vT := vT_2 199 rfl rfl
theorem kM_Is_init : (Cond.code ⟨"java/lang/IllegalStateException", "<init>", "(Ljava/lang/String;)V"⟩ prog_15_method_2_code 2 (Option.none : Option Jvm.ClassFile.FieldType)) ∈ vT := vT_2 200 rfl rfl
theorem km_Is_7 : (Cond.methodLink "java/lang/IllegalStateException" 7 ⟨"java/lang/RuntimeException", "<init>", "(Ljava/lang/String;)V"⟩) ∈ vT := vT_2 201 rfl rfl
theorem kz_442 : (Cond.lays "java/lang/IllegalStateException" "java/lang/Throwable" "depth" "I") ∈ vT := vT_2 202 rfl rfl
theorem kz_443 : (Cond.superclass "java/lang/IllegalStateException" "java/lang/RuntimeException") ∈ vT := vT_2 203 rfl rfl
theorem kn_Pc : (Cond.instantiable "CodeShrinker$ProgramClass" 5) ∈ vT := vT_2 204 rfl rfl
theorem km_Cs_74 : (Cond.methodLink "CodeShrinker" 74 ⟨"CodeShrinker$ProgramClass", "<init>", "(ILCodeShrinker$ProgramClass;)V"⟩) ∈ vT := vT_2 205 rfl rfl
theorem kI_Pc_init : (Cond.instanceMethod ⟨"CodeShrinker$ProgramClass", "<init>", "(ILCodeShrinker$ProgramClass;)V"⟩) ∈ vT := vT_2 206 rfl rfl
theorem kM_Pc_init : (Cond.code ⟨"CodeShrinker$ProgramClass", "<init>", "(ILCodeShrinker$ProgramClass;)V"⟩ prog_5_method_1_code 3 (Option.none : Option Jvm.ClassFile.FieldType)) ∈ vT := vT_2 207 rfl rfl
theorem km_Pc_1 : (Cond.methodLink "CodeShrinker$ProgramClass" 1 ⟨"java/lang/Object", "<init>", "()V"⟩) ∈ vT := vT_2 208 rfl rfl
theorem kc_Pc_17 : (Cond.classLink "CodeShrinker$ProgramClass" 17 "java/util/ArrayList") ∈ vT := vT_2 209 rfl rfl
theorem km_Pc_19 : (Cond.methodLink "CodeShrinker$ProgramClass" 19 ⟨"java/util/ArrayList", "<init>", "()V"⟩) ∈ vT := vT_2 210 rfl rfl
theorem kf_Pc_7 : (Cond.fieldLink "CodeShrinker$ProgramClass" 7 "CodeShrinker$ProgramClass" "parent" "LCodeShrinker$ProgramClass;") ∈ vT := vT_2 211 rfl rfl
theorem kf_Cs_185 : (Cond.fieldLink "CodeShrinker" 185 "CodeShrinker$ProgramClass" "parent" "LCodeShrinker$ProgramClass;") ∈ vT := vT_2 212 rfl rfl
theorem kf_Pc_13 : (Cond.fieldLink "CodeShrinker$ProgramClass" 13 "CodeShrinker$ProgramClass" "firstNumber" "I") ∈ vT := vT_2 213 rfl rfl
theorem kf_Cs_156 : (Cond.fieldLink "CodeShrinker" 156 "CodeShrinker$ProgramClass" "firstNumber" "I") ∈ vT := vT_2 214 rfl rfl
theorem kf_Pc_20 : (Cond.fieldLink "CodeShrinker$ProgramClass" 20 "CodeShrinker$ProgramClass" "methods" "Ljava/util/ArrayList;") ∈ vT := vT_2 215 rfl rfl
theorem kf_Cs_101 : (Cond.fieldLink "CodeShrinker" 101 "CodeShrinker$ProgramClass" "methods" "Ljava/util/ArrayList;") ∈ vT := vT_2 216 rfl rfl
theorem kf_Pr_42 : (Cond.fieldLink "CodeShrinker$Program" 42 "CodeShrinker$ProgramClass" "methods" "Ljava/util/ArrayList;") ∈ vT := vT_2 217 rfl rfl
theorem kf_Pc_24 : (Cond.fieldLink "CodeShrinker$ProgramClass" 24 "CodeShrinker$ProgramClass" "number" "I") ∈ vT := vT_2 218 rfl rfl
theorem kf_It_26 : (Cond.fieldLink "CodeShrinker$Item" 26 "CodeShrinker$ProgramClass" "number" "I") ∈ vT := vT_2 219 rfl rfl
theorem kf_Pr_50 : (Cond.fieldLink "CodeShrinker$Program" 50 "CodeShrinker$ProgramClass" "number" "I") ∈ vT := vT_2 220 rfl rfl
theorem kf_Fa_106 : (Cond.fieldLink "CodeShrinker$Families" 106 "CodeShrinker$ProgramClass" "number" "I") ∈ vT := vT_2 221 rfl rfl
theorem kf_Cs_147 : (Cond.fieldLink "CodeShrinker" 147 "CodeShrinker$ProgramClass" "number" "I") ∈ vT := vT_2 222 rfl rfl
theorem kf_Pc_27 : (Cond.fieldLink "CodeShrinker$ProgramClass" 27 "CodeShrinker$ProgramClass" "made" "Z") ∈ vT := vT_2 223 rfl rfl
theorem kf_Pr_35 : (Cond.fieldLink "CodeShrinker$Program" 35 "CodeShrinker$ProgramClass" "made" "Z") ∈ vT := vT_2 224 rfl rfl
theorem kf_Re_46 : (Cond.fieldLink "CodeShrinker$Reach" 46 "CodeShrinker$ProgramClass" "made" "Z") ∈ vT := vT_2 225 rfl rfl
theorem kz_466 : (Cond.laysFinal "CodeShrinker$ProgramClass" "CodeShrinker$ProgramClass" "parent" "LCodeShrinker$ProgramClass;") ∈ vT := vT_2 226 rfl rfl
theorem kz_467 : (Cond.soleField "CodeShrinker$ProgramClass" "parent") ∈ vT := vT_2 227 rfl rfl
theorem kz_468 : (Cond.laysFinal "CodeShrinker$ProgramClass" "CodeShrinker$ProgramClass" "firstNumber" "I") ∈ vT := vT_2 228 rfl rfl
theorem kz_469 : (Cond.soleField "CodeShrinker$ProgramClass" "firstNumber") ∈ vT := vT_2 229 rfl rfl
theorem kz_470 : (Cond.laysFinal "CodeShrinker$ProgramClass" "CodeShrinker$ProgramClass" "methods" "Ljava/util/ArrayList;") ∈ vT := vT_2 230 rfl rfl
theorem kz_471 : (Cond.soleField "CodeShrinker$ProgramClass" "methods") ∈ vT := vT_2 231 rfl rfl
theorem kz_472 : (Cond.lays "CodeShrinker$ProgramClass" "CodeShrinker$ProgramClass" "number" "I") ∈ vT := vT_2 232 rfl rfl
theorem kz_473 : (Cond.soleField "CodeShrinker$ProgramClass" "number") ∈ vT := vT_2 233 rfl rfl
theorem kz_474 : (Cond.lays "CodeShrinker$ProgramClass" "CodeShrinker$ProgramClass" "made" "Z") ∈ vT := vT_2 234 rfl rfl
theorem kz_475 : (Cond.soleField "CodeShrinker$ProgramClass" "made") ∈ vT := vT_2 235 rfl rfl
theorem kz_476 : (Cond.superclass "CodeShrinker$ProgramClass" "java/lang/Object") ∈ vT := vT_2 236 rfl rfl
theorem km_Cs_77 : (Cond.methodLink "CodeShrinker" 77 ⟨"java/util/ArrayList", "add", "(Ljava/lang/Object;)Z"⟩) ∈ vT := vT_2 237 rfl rfl
theorem kI_Al_add : (Cond.instanceMethod ⟨"java/util/ArrayList", "add", "(Ljava/lang/Object;)Z"⟩) ∈ vT := vT_2 238 rfl rfl
theorem ks_Al_Al_add : (Cond.selects "java/util/ArrayList" ⟨"java/util/ArrayList", "add", "(Ljava/lang/Object;)Z"⟩ ⟨"java/util/ArrayList", "add", "(Ljava/lang/Object;)Z"⟩) ∈ vT := vT_2 239 rfl rfl
theorem kM_Al_add : (Cond.code ⟨"java/util/ArrayList", "add", "(Ljava/lang/Object;)Z"⟩ prog_24_method_25_code 2 (Option.some .boolean)) ∈ vT := vT_3 0 rfl rfl
theorem km_Al_131 : (Cond.methodLink "java/util/ArrayList" 131 ⟨"java/util/ArrayList", "add", "(Ljava/lang/Object;[Ljava/lang/Object;I)V"⟩) ∈ vT := vT_3 1 rfl rfl
theorem kz_482 : (Cond.privateMethod ⟨"java/util/ArrayList", "add", "(Ljava/lang/Object;[Ljava/lang/Object;I)V"⟩) ∈ vT := vT_3 2 rfl rfl
theorem kI_Al_add2 : (Cond.instanceMethod ⟨"java/util/ArrayList", "add", "(Ljava/lang/Object;[Ljava/lang/Object;I)V"⟩) ∈ vT := vT_3 3 rfl rfl
theorem kM_Al_add2 : (Cond.code ⟨"java/util/ArrayList", "add", "(Ljava/lang/Object;[Ljava/lang/Object;I)V"⟩ prog_24_method_24_code 4 (Option.none : Option Jvm.ClassFile.FieldType)) ∈ vT := vT_3 4 rfl rfl
theorem km_Al_129 : (Cond.methodLink "java/util/ArrayList" 129 ⟨"java/util/ArrayList", "grow", "()[Ljava/lang/Object;"⟩) ∈ vT := vT_3 5 rfl rfl
theorem kz_486 : (Cond.privateMethod ⟨"java/util/ArrayList", "grow", "()[Ljava/lang/Object;"⟩) ∈ vT := vT_3 6 rfl rfl
theorem kI_Al_grow : (Cond.instanceMethod ⟨"java/util/ArrayList", "grow", "()[Ljava/lang/Object;"⟩) ∈ vT := vT_3 7 rfl rfl
theorem kM_Al_grow : (Cond.code ⟨"java/util/ArrayList", "grow", "()[Ljava/lang/Object;"⟩ prog_24_method_7_code 1 (Option.some (.array (.object "java/lang/Object")))) ∈ vT := vT_3 8 rfl rfl
theorem km_Al_69 : (Cond.methodLink "java/util/ArrayList" 69 ⟨"java/util/ArrayList", "grow", "(I)[Ljava/lang/Object;"⟩) ∈ vT := vT_3 9 rfl rfl
theorem kz_490 : (Cond.privateMethod ⟨"java/util/ArrayList", "grow", "(I)[Ljava/lang/Object;"⟩) ∈ vT := vT_3 10 rfl rfl
theorem kI_Al_grow2 : (Cond.instanceMethod ⟨"java/util/ArrayList", "grow", "(I)[Ljava/lang/Object;"⟩) ∈ vT := vT_3 11 rfl rfl
theorem kM_Al_grow2 : (Cond.code ⟨"java/util/ArrayList", "grow", "(I)[Ljava/lang/Object;"⟩ prog_24_method_6_code 4 (Option.some (.array (.object "java/lang/Object")))) ∈ vT := vT_3 12 rfl rfl
theorem km_Al_73 : (Cond.methodLink "java/util/ArrayList" 73 ⟨"jdk/internal/util/ArraysSupport", "newLength", "(III)I"⟩) ∈ vT := vT_3 13 rfl rfl
theorem kS_As_newLength : (Cond.static ⟨"jdk/internal/util/ArraysSupport", "newLength", "(III)I"⟩) ∈ vT := vT_3 14 rfl rfl
theorem kM_As_newLength : (Cond.code ⟨"jdk/internal/util/ArraysSupport", "newLength", "(III)I"⟩ prog_32_method_27_code 4 (Option.some .int)) ∈ vT := vT_3 15 rfl rfl
theorem km_As_194 : (Cond.methodLink "jdk/internal/util/ArraysSupport" 194 ⟨"java/lang/Math", "max", "(II)I"⟩) ∈ vT := vT_3 16 rfl rfl
theorem kS_Ma_max : (Cond.static ⟨"java/lang/Math", "max", "(II)I"⟩) ∈ vT := vT_3 17 rfl rfl
theorem kM_Ma_max : (Cond.code ⟨"java/lang/Math", "max", "(II)I"⟩ prog_17_method_65_code 2 (Option.some .int)) ∈ vT := vT_3 18 rfl rfl
theorem kz_499 : (Cond.constant "jdk/internal/util/ArraysSupport" 200 (2147483639 : Int32)) ∈ vT := vT_3 19 rfl rfl
theorem km_As_201 : (Cond.methodLink "jdk/internal/util/ArraysSupport" 201 ⟨"jdk/internal/util/ArraysSupport", "hugeLength", "(II)I"⟩) ∈ vT := vT_3 20 rfl rfl
theorem kS_As_hugeLength : (Cond.static ⟨"jdk/internal/util/ArraysSupport", "hugeLength", "(II)I"⟩) ∈ vT := vT_3 21 rfl rfl
theorem kM_As_hugeLength : (Cond.code ⟨"jdk/internal/util/ArraysSupport", "hugeLength", "(II)I"⟩ prog_32_method_28_code 3 (Option.some .int)) ∈ vT := vT_3 22 rfl rfl
theorem km_Al_66 : (Cond.methodLink "java/util/ArrayList" 66 ⟨"java/util/Arrays", "copyOf", "([Ljava/lang/Object;I)[Ljava/lang/Object;"⟩) ∈ vT := vT_3 23 rfl rfl
theorem kS_Ar_copyOf : (Cond.static ⟨"java/util/Arrays", "copyOf", "([Ljava/lang/Object;I)[Ljava/lang/Object;"⟩) ∈ vT := vT_3 24 rfl rfl
theorem kM_Ar_copyOf : (Cond.code ⟨"java/util/Arrays", "copyOf", "([Ljava/lang/Object;I)[Ljava/lang/Object;"⟩ prog_25_method_119_code 2 (Option.some (.array (.object "java/lang/Object")))) ∈ vT := vT_3 25 rfl rfl
theorem km_Ar_86 : (Cond.methodLink "java/util/Arrays" 86 ⟨"java/lang/Object", "getClass", "()Ljava/lang/Class;"⟩) ∈ vT := vT_3 26 rfl rfl
theorem kI_Ob_getClass__Ljava_lang_Class_ : (Cond.instanceMethod ⟨"java/lang/Object", "getClass", "()Ljava/lang/Class;"⟩) ∈ vT := vT_3 27 rfl rfl
theorem kz_508 : (Cond.sameMethod "java/lang/Object" "java/lang/Object" "getClass" "()Ljava/lang/Class;") ∈ vT := vT_3 28 rfl rfl
theorem ks_Cs_Ob_getClass__Ljava_lang_Class_ : (Cond.selects "CodeShrinker" ⟨"java/lang/Object", "getClass", "()Ljava/lang/Class;"⟩ ⟨"java/lang/Object", "getClass", "()Ljava/lang/Class;"⟩) ∈ vT := vT_3 29 rfl rfl
theorem ks_Fa_Ob_getClass__Ljava_lang_Class_ : (Cond.selects "CodeShrinker$Families" ⟨"java/lang/Object", "getClass", "()Ljava/lang/Class;"⟩ ⟨"java/lang/Object", "getClass", "()Ljava/lang/Class;"⟩) ∈ vT := vT_3 30 rfl rfl
theorem ks_It_Ob_getClass__Ljava_lang_Class_ : (Cond.selects "CodeShrinker$Item" ⟨"java/lang/Object", "getClass", "()Ljava/lang/Class;"⟩ ⟨"java/lang/Object", "getClass", "()Ljava/lang/Class;"⟩) ∈ vT := vT_3 31 rfl rfl
theorem ks_Pr_Ob_getClass__Ljava_lang_Class_ : (Cond.selects "CodeShrinker$Program" ⟨"java/lang/Object", "getClass", "()Ljava/lang/Class;"⟩ ⟨"java/lang/Object", "getClass", "()Ljava/lang/Class;"⟩) ∈ vT := vT_3 32 rfl rfl
theorem ks_Pc_Ob_getClass__Ljava_lang_Class_ : (Cond.selects "CodeShrinker$ProgramClass" ⟨"java/lang/Object", "getClass", "()Ljava/lang/Class;"⟩ ⟨"java/lang/Object", "getClass", "()Ljava/lang/Class;"⟩) ∈ vT := vT_3 33 rfl rfl
theorem ks_Pm_Ob_getClass__Ljava_lang_Class_ : (Cond.selects "CodeShrinker$ProgramMethod" ⟨"java/lang/Object", "getClass", "()Ljava/lang/Class;"⟩ ⟨"java/lang/Object", "getClass", "()Ljava/lang/Class;"⟩) ∈ vT := vT_3 34 rfl rfl
theorem ks_Re_Ob_getClass__Ljava_lang_Class_ : (Cond.selects "CodeShrinker$Reach" ⟨"java/lang/Object", "getClass", "()Ljava/lang/Class;"⟩ ⟨"java/lang/Object", "getClass", "()Ljava/lang/Class;"⟩) ∈ vT := vT_3 35 rfl rfl
theorem ks_Ru_Ob_getClass__Ljava_lang_Class_ : (Cond.selects "CodeShrinker$Runner" ⟨"java/lang/Object", "getClass", "()Ljava/lang/Class;"⟩ ⟨"java/lang/Object", "getClass", "()Ljava/lang/Class;"⟩) ∈ vT := vT_3 36 rfl rfl
theorem ks_Mo_Ob_getClass__Ljava_lang_Class_ : (Cond.selects "CodeShrinkerModel" ⟨"java/lang/Object", "getClass", "()Ljava/lang/Class;"⟩ ⟨"java/lang/Object", "getClass", "()Ljava/lang/Class;"⟩) ∈ vT := vT_3 37 rfl rfl
theorem ks_Ia_Ob_getClass__Ljava_lang_Class_ : (Cond.selects "java/lang/IllegalArgumentException" ⟨"java/lang/Object", "getClass", "()Ljava/lang/Class;"⟩ ⟨"java/lang/Object", "getClass", "()Ljava/lang/Class;"⟩) ∈ vT := vT_3 38 rfl rfl
theorem ks_Is_Ob_getClass__Ljava_lang_Class_ : (Cond.selects "java/lang/IllegalStateException" ⟨"java/lang/Object", "getClass", "()Ljava/lang/Class;"⟩ ⟨"java/lang/Object", "getClass", "()Ljava/lang/Class;"⟩) ∈ vT := vT_3 39 rfl rfl
theorem ks_Al_Ob_getClass__Ljava_lang_Class_ : (Cond.selects "java/util/ArrayList" ⟨"java/lang/Object", "getClass", "()Ljava/lang/Class;"⟩ ⟨"java/lang/Object", "getClass", "()Ljava/lang/Class;"⟩) ∈ vT := vT_3 40 rfl rfl
theorem ks_Ns_Ob_getClass__Ljava_lang_Class_ : (Cond.selects "java/util/NoSuchElementException" ⟨"java/lang/Object", "getClass", "()Ljava/lang/Class;"⟩ ⟨"java/lang/Object", "getClass", "()Ljava/lang/Class;"⟩) ∈ vT := vT_3 41 rfl rfl
theorem kz_522 : (Cond.native ⟨"java/lang/Object", "getClass", "()Ljava/lang/Class;"⟩) ∈ vT := vT_3 42 rfl rfl
theorem km_Ar_300 : (Cond.methodLink "java/util/Arrays" 300 ⟨"java/util/Arrays", "copyOf", "([Ljava/lang/Object;ILjava/lang/Class;)[Ljava/lang/Object;"⟩) ∈ vT := vT_3 43 rfl rfl
theorem kS_Ar_copyOf2 : (Cond.static ⟨"java/util/Arrays", "copyOf", "([Ljava/lang/Object;ILjava/lang/Class;)[Ljava/lang/Object;"⟩) ∈ vT := vT_3 44 rfl rfl
theorem kM_Ar_copyOf2 : (Cond.code ⟨"java/util/Arrays", "copyOf", "([Ljava/lang/Object;ILjava/lang/Class;)[Ljava/lang/Object;"⟩ prog_25_method_120_code 4 (Option.some (.array (.object "java/lang/Object")))) ∈ vT := vT_3 45 rfl rfl
theorem kc_Ar_110 : (Cond.classLink "java/util/Arrays" 110 "[Ljava/lang/Object;") ∈ vT := vT_3 46 rfl rfl
theorem kc_Ar_2 : (Cond.classLink "java/util/Arrays" 2 "java/lang/Object") ∈ vT := vT_3 48 rfl rfl
theorem km_Ar_304 : (Cond.methodLink "java/util/Arrays" 304 ⟨"java/lang/Math", "min", "(II)I"⟩) ∈ vT := vT_3 49 rfl rfl
theorem km_Ar_150 : (Cond.methodLink "java/util/Arrays" 150 ⟨"java/lang/System", "arraycopy", "(Ljava/lang/Object;ILjava/lang/Object;II)V"⟩) ∈ vT := vT_3 50 rfl rfl
theorem km_Al_79 : (Cond.methodLink "java/util/ArrayList" 79 ⟨"java/lang/Math", "max", "(II)I"⟩) ∈ vT := vT_3 51 rfl rfl
theorem kc_Al_7 : (Cond.classLink "java/util/ArrayList" 7 "java/lang/Object") ∈ vT := vT_3 52 rfl rfl
theorem km_Lw_58 : (Cond.methodLink "CodeShrinkerLaw" 58 ⟨"CodeShrinkerLaw", "method", "(LCodeShrinker;III[J)I"⟩) ∈ vT := vT_3 53 rfl rfl
theorem kS_Lw_method : (Cond.static ⟨"CodeShrinkerLaw", "method", "(LCodeShrinker;III[J)I"⟩) ∈ vT := vT_3 54 rfl rfl
theorem kM_Lw_method : (Cond.codeWith ⟨"CodeShrinkerLaw", "method", "(LCodeShrinker;III[J)I"⟩ method_4_code 6 (Option.some .int) [(0, 12, 15, 13), (0, 12, 19, 15)]) ∈ vT := vT_3 55 rfl rfl
theorem km_Lw_17 : (Cond.methodLink "CodeShrinkerLaw" 17 ⟨"CodeShrinker", "method", "(III)I"⟩) ∈ vT := vT_3 56 rfl rfl
theorem kI_Cs_method : (Cond.instanceMethod ⟨"CodeShrinker", "method", "(III)I"⟩) ∈ vT := vT_3 57 rfl rfl
theorem ks_Cs_Cs_method : (Cond.selects "CodeShrinker" ⟨"CodeShrinker", "method", "(III)I"⟩ ⟨"CodeShrinker", "method", "(III)I"⟩) ∈ vT := vT_3 58 rfl rfl
theorem kM_Cs_method : (Cond.code ⟨"CodeShrinker", "method", "(III)I"⟩ prog_1_method_3_code 7 (Option.some .int)) ∈ vT := vT_3 59 rfl rfl
theorem km_Cs_81 : (Cond.methodLink "CodeShrinker" 81 ⟨"CodeShrinker", "isName", "(I)Z"⟩) ∈ vT := vT_3 60 rfl rfl
theorem kS_Cs_isName : (Cond.static ⟨"CodeShrinker", "isName", "(I)Z"⟩) ∈ vT := vT_3 61 rfl rfl
theorem kM_Cs_isName : (Cond.code ⟨"CodeShrinker", "isName", "(I)Z"⟩ prog_1_method_18_code 1 (Option.some .boolean)) ∈ vT := vT_3 62 rfl rfl
theorem km_Cs_84 : (Cond.methodLink "CodeShrinker" 84 ⟨"CodeShrinker", "isArity", "(I)Z"⟩) ∈ vT := vT_3 63 rfl rfl
theorem kS_Cs_isArity : (Cond.static ⟨"CodeShrinker", "isArity", "(I)Z"⟩) ∈ vT := vT_3 64 rfl rfl
theorem kM_Cs_isArity : (Cond.code ⟨"CodeShrinker", "isArity", "(I)Z"⟩ prog_1_method_19_code 1 (Option.some .boolean)) ∈ vT := vT_3 65 rfl rfl
theorem km_Cs_90 : (Cond.methodLink "CodeShrinker" 90 ⟨"CodeShrinker$ProgramClass", "own", "(II)LCodeShrinker$ProgramMethod;"⟩) ∈ vT := vT_3 66 rfl rfl
theorem kc_Cs_96 : (Cond.classLink "CodeShrinker" 96 "CodeShrinker$ProgramMethod") ∈ vT := vT_3 68 rfl rfl
theorem kn_Pm : (Cond.instantiable "CodeShrinker$ProgramMethod" 8) ∈ vT := vT_3 69 rfl rfl
theorem km_Cs_98 : (Cond.methodLink "CodeShrinker" 98 ⟨"CodeShrinker$ProgramMethod", "<init>", "(ILCodeShrinker$ProgramClass;II)V"⟩) ∈ vT := vT_3 70 rfl rfl
theorem kI_Pm_init : (Cond.instanceMethod ⟨"CodeShrinker$ProgramMethod", "<init>", "(ILCodeShrinker$ProgramClass;II)V"⟩) ∈ vT := vT_3 71 rfl rfl
theorem kM_Pm_init : (Cond.code ⟨"CodeShrinker$ProgramMethod", "<init>", "(ILCodeShrinker$ProgramClass;II)V"⟩ prog_6_method_1_code 5 (Option.none : Option Jvm.ClassFile.FieldType)) ∈ vT := vT_3 72 rfl rfl
theorem km_Pm_1 : (Cond.methodLink "CodeShrinker$ProgramMethod" 1 ⟨"java/lang/Object", "<init>", "()V"⟩) ∈ vT := vT_3 73 rfl rfl
theorem kc_Pm_23 : (Cond.classLink "CodeShrinker$ProgramMethod" 23 "java/util/ArrayList") ∈ vT := vT_3 74 rfl rfl
theorem km_Pm_25 : (Cond.methodLink "CodeShrinker$ProgramMethod" 25 ⟨"java/util/ArrayList", "<init>", "()V"⟩) ∈ vT := vT_3 75 rfl rfl
theorem kf_Pm_7 : (Cond.fieldLink "CodeShrinker$ProgramMethod" 7 "CodeShrinker$ProgramMethod" "owner" "LCodeShrinker$ProgramClass;") ∈ vT := vT_3 76 rfl rfl
theorem kf_Fa_59 : (Cond.fieldLink "CodeShrinker$Families" 59 "CodeShrinker$ProgramMethod" "owner" "LCodeShrinker$ProgramClass;") ∈ vT := vT_3 77 rfl rfl
theorem kf_Re_64 : (Cond.fieldLink "CodeShrinker$Reach" 64 "CodeShrinker$ProgramMethod" "owner" "LCodeShrinker$ProgramClass;") ∈ vT := vT_3 78 rfl rfl
theorem kf_Cs_143 : (Cond.fieldLink "CodeShrinker" 143 "CodeShrinker$ProgramMethod" "owner" "LCodeShrinker$ProgramClass;") ∈ vT := vT_3 79 rfl rfl
theorem kf_Pm_13 : (Cond.fieldLink "CodeShrinker$ProgramMethod" 13 "CodeShrinker$ProgramMethod" "firstNumber" "I") ∈ vT := vT_3 80 rfl rfl
theorem kf_Cs_162 : (Cond.fieldLink "CodeShrinker" 162 "CodeShrinker$ProgramMethod" "firstNumber" "I") ∈ vT := vT_3 81 rfl rfl
theorem kf_Pm_17 : (Cond.fieldLink "CodeShrinker$ProgramMethod" 17 "CodeShrinker$ProgramMethod" "firstName" "I") ∈ vT := vT_3 82 rfl rfl
theorem kf_Cs_159 : (Cond.fieldLink "CodeShrinker" 159 "CodeShrinker$ProgramMethod" "firstName" "I") ∈ vT := vT_3 83 rfl rfl
theorem kf_Pm_20 : (Cond.fieldLink "CodeShrinker$ProgramMethod" 20 "CodeShrinker$ProgramMethod" "arity" "I") ∈ vT := vT_3 84 rfl rfl
theorem kf_Pc_44 : (Cond.fieldLink "CodeShrinker$ProgramClass" 44 "CodeShrinker$ProgramMethod" "arity" "I") ∈ vT := vT_3 85 rfl rfl
theorem kf_Fa_66 : (Cond.fieldLink "CodeShrinker$Families" 66 "CodeShrinker$ProgramMethod" "arity" "I") ∈ vT := vT_3 86 rfl rfl
theorem kf_Cs_153 : (Cond.fieldLink "CodeShrinker" 153 "CodeShrinker$ProgramMethod" "arity" "I") ∈ vT := vT_3 87 rfl rfl
theorem kf_Pm_26 : (Cond.fieldLink "CodeShrinker$ProgramMethod" 26 "CodeShrinker$ProgramMethod" "items" "Ljava/util/ArrayList;") ∈ vT := vT_3 88 rfl rfl
theorem kf_Ru_40 : (Cond.fieldLink "CodeShrinker$Runner" 40 "CodeShrinker$ProgramMethod" "items" "Ljava/util/ArrayList;") ∈ vT := vT_3 89 rfl rfl
theorem kf_Cs_109 : (Cond.fieldLink "CodeShrinker" 109 "CodeShrinker$ProgramMethod" "items" "Ljava/util/ArrayList;") ∈ vT := vT_3 90 rfl rfl
theorem kf_Re_75 : (Cond.fieldLink "CodeShrinker$Reach" 75 "CodeShrinker$ProgramMethod" "items" "Ljava/util/ArrayList;") ∈ vT := vT_3 91 rfl rfl
theorem kf_Fa_119 : (Cond.fieldLink "CodeShrinker$Families" 119 "CodeShrinker$ProgramMethod" "items" "Ljava/util/ArrayList;") ∈ vT := vT_3 92 rfl rfl
theorem kf_Pm_30 : (Cond.fieldLink "CodeShrinker$ProgramMethod" 30 "CodeShrinker$ProgramMethod" "name" "I") ∈ vT := vT_3 93 rfl rfl
theorem kf_Pc_41 : (Cond.fieldLink "CodeShrinker$ProgramClass" 41 "CodeShrinker$ProgramMethod" "name" "I") ∈ vT := vT_3 94 rfl rfl
theorem kf_Fa_63 : (Cond.fieldLink "CodeShrinker$Families" 63 "CodeShrinker$ProgramMethod" "name" "I") ∈ vT := vT_3 95 rfl rfl
theorem kf_Cs_150 : (Cond.fieldLink "CodeShrinker" 150 "CodeShrinker$ProgramMethod" "name" "I") ∈ vT := vT_3 96 rfl rfl
theorem kf_Pm_33 : (Cond.fieldLink "CodeShrinker$ProgramMethod" 33 "CodeShrinker$ProgramMethod" "kept" "Z") ∈ vT := vT_3 97 rfl rfl
theorem kf_Fa_77 : (Cond.fieldLink "CodeShrinker$Families" 77 "CodeShrinker$ProgramMethod" "kept" "Z") ∈ vT := vT_3 98 rfl rfl
theorem kf_Re_57 : (Cond.fieldLink "CodeShrinker$Reach" 57 "CodeShrinker$ProgramMethod" "kept" "Z") ∈ vT := vT_3 99 rfl rfl
theorem kf_Cs_118 : (Cond.fieldLink "CodeShrinker" 118 "CodeShrinker$ProgramMethod" "kept" "Z") ∈ vT := vT_3 100 rfl rfl
theorem kf_Pm_37 : (Cond.fieldLink "CodeShrinker$ProgramMethod" 37 "CodeShrinker$ProgramMethod" "live" "Z") ∈ vT := vT_3 101 rfl rfl
theorem kf_Pr_29 : (Cond.fieldLink "CodeShrinker$Program" 29 "CodeShrinker$ProgramMethod" "live" "Z") ∈ vT := vT_3 102 rfl rfl
theorem kf_Re_54 : (Cond.fieldLink "CodeShrinker$Reach" 54 "CodeShrinker$ProgramMethod" "live" "Z") ∈ vT := vT_3 103 rfl rfl
theorem kz_584 : (Cond.laysFinal "CodeShrinker$ProgramMethod" "CodeShrinker$ProgramMethod" "owner" "LCodeShrinker$ProgramClass;") ∈ vT := vT_3 104 rfl rfl
theorem kz_585 : (Cond.soleField "CodeShrinker$ProgramMethod" "owner") ∈ vT := vT_3 105 rfl rfl
theorem kz_586 : (Cond.laysFinal "CodeShrinker$ProgramMethod" "CodeShrinker$ProgramMethod" "firstNumber" "I") ∈ vT := vT_3 106 rfl rfl
theorem kz_587 : (Cond.soleField "CodeShrinker$ProgramMethod" "firstNumber") ∈ vT := vT_3 107 rfl rfl
theorem kz_588 : (Cond.laysFinal "CodeShrinker$ProgramMethod" "CodeShrinker$ProgramMethod" "firstName" "I") ∈ vT := vT_3 108 rfl rfl
theorem kz_589 : (Cond.soleField "CodeShrinker$ProgramMethod" "firstName") ∈ vT := vT_3 109 rfl rfl
theorem kz_590 : (Cond.laysFinal "CodeShrinker$ProgramMethod" "CodeShrinker$ProgramMethod" "arity" "I") ∈ vT := vT_3 110 rfl rfl
theorem kz_591 : (Cond.soleField "CodeShrinker$ProgramMethod" "arity") ∈ vT := vT_3 111 rfl rfl
theorem kz_592 : (Cond.laysFinal "CodeShrinker$ProgramMethod" "CodeShrinker$ProgramMethod" "items" "Ljava/util/ArrayList;") ∈ vT := vT_3 112 rfl rfl
theorem kz_593 : (Cond.soleField "CodeShrinker$ProgramMethod" "items") ∈ vT := vT_3 113 rfl rfl
theorem kz_594 : (Cond.lays "CodeShrinker$ProgramMethod" "CodeShrinker$ProgramMethod" "name" "I") ∈ vT := vT_3 114 rfl rfl
theorem kz_595 : (Cond.soleField "CodeShrinker$ProgramMethod" "name") ∈ vT := vT_3 115 rfl rfl
theorem kz_596 : (Cond.lays "CodeShrinker$ProgramMethod" "CodeShrinker$ProgramMethod" "kept" "Z") ∈ vT := vT_3 116 rfl rfl
theorem kz_597 : (Cond.soleField "CodeShrinker$ProgramMethod" "kept") ∈ vT := vT_3 117 rfl rfl
theorem kz_598 : (Cond.lays "CodeShrinker$ProgramMethod" "CodeShrinker$ProgramMethod" "live" "Z") ∈ vT := vT_3 118 rfl rfl
theorem kz_599 : (Cond.soleField "CodeShrinker$ProgramMethod" "live") ∈ vT := vT_3 119 rfl rfl
theorem kz_600 : (Cond.superclass "CodeShrinker$ProgramMethod" "java/lang/Object") ∈ vT := vT_3 120 rfl rfl
theorem km_Lw_62 : (Cond.methodLink "CodeShrinkerLaw" 62 ⟨"CodeShrinkerLaw", "item", "(LCodeShrinker;IIIII[J)I"⟩) ∈ vT := vT_3 121 rfl rfl
theorem kS_Lw_item : (Cond.static ⟨"CodeShrinkerLaw", "item", "(LCodeShrinker;IIIII[J)I"⟩) ∈ vT := vT_3 122 rfl rfl
theorem kM_Lw_item : (Cond.codeWith ⟨"CodeShrinkerLaw", "item", "(LCodeShrinker;IIIII[J)I"⟩ method_5_code 8 (Option.some .int) [(0, 16, 19, 13), (0, 16, 23, 15)]) ∈ vT := vT_3 123 rfl rfl
theorem km_Lw_21 : (Cond.methodLink "CodeShrinkerLaw" 21 ⟨"CodeShrinker", "item", "(IIIII)I"⟩) ∈ vT := vT_3 124 rfl rfl
theorem kI_Cs_item : (Cond.instanceMethod ⟨"CodeShrinker", "item", "(IIIII)I"⟩) ∈ vT := vT_3 125 rfl rfl
theorem ks_Cs_Cs_item : (Cond.selects "CodeShrinker" ⟨"CodeShrinker", "item", "(IIIII)I"⟩ ⟨"CodeShrinker", "item", "(IIIII)I"⟩) ∈ vT := vT_3 126 rfl rfl
theorem kM_Cs_item : (Cond.code ⟨"CodeShrinker", "item", "(IIIII)I"⟩ prog_1_method_4_code 7 (Option.some .int)) ∈ vT := vT_3 127 rfl rfl
theorem km_Cs_102 : (Cond.methodLink "CodeShrinker" 102 ⟨"CodeShrinker", "isMethod", "(I)Z"⟩) ∈ vT := vT_3 128 rfl rfl
theorem kz_609 : (Cond.privateMethod ⟨"CodeShrinker", "isMethod", "(I)Z"⟩) ∈ vT := vT_3 129 rfl rfl
theorem kI_Cs_isMethod : (Cond.instanceMethod ⟨"CodeShrinker", "isMethod", "(I)Z"⟩) ∈ vT := vT_3 130 rfl rfl
theorem kM_Cs_isMethod : (Cond.code ⟨"CodeShrinker", "isMethod", "(I)Z"⟩ prog_1_method_16_code 2 (Option.some .boolean)) ∈ vT := vT_3 131 rfl rfl
theorem km_Cs_105 : (Cond.methodLink "CodeShrinker" 105 ⟨"CodeShrinker", "isItem", "(IIII)Z"⟩) ∈ vT := vT_3 132 rfl rfl
theorem kz_613 : (Cond.privateMethod ⟨"CodeShrinker", "isItem", "(IIII)Z"⟩) ∈ vT := vT_3 133 rfl rfl
theorem kI_Cs_isItem : (Cond.instanceMethod ⟨"CodeShrinker", "isItem", "(IIII)Z"⟩) ∈ vT := vT_3 134 rfl rfl
theorem kM_Cs_isItem : (Cond.code ⟨"CodeShrinker", "isItem", "(IIII)Z"⟩ prog_1_method_17_code 5 (Option.some .boolean)) ∈ vT := vT_3 135 rfl rfl
theorem km_Cs_114 : (Cond.methodLink "CodeShrinker" 114 ⟨"CodeShrinker", "newItem", "(IIII)LCodeShrinker$Item;"⟩) ∈ vT := vT_3 137 rfl rfl
theorem kz_618 : (Cond.privateMethod ⟨"CodeShrinker", "newItem", "(IIII)LCodeShrinker$Item;"⟩) ∈ vT := vT_3 138 rfl rfl
theorem kI_Cs_newItem : (Cond.instanceMethod ⟨"CodeShrinker", "newItem", "(IIII)LCodeShrinker$Item;"⟩) ∈ vT := vT_3 139 rfl rfl
theorem kM_Cs_newItem : (Cond.code ⟨"CodeShrinker", "newItem", "(IIII)LCodeShrinker$Item;"⟩ prog_1_method_14_code 6 (Option.some (.object "CodeShrinker$Item"))) ∈ vT := vT_3 140 rfl rfl
theorem kc_Cs_168 : (Cond.classLink "CodeShrinker" 168 "CodeShrinker$Item") ∈ vT := vT_3 141 rfl rfl
theorem kn_It : (Cond.instantiable "CodeShrinker$Item" 5) ∈ vT := vT_3 142 rfl rfl
theorem km_Cs_188 : (Cond.methodLink "CodeShrinker" 188 ⟨"CodeShrinker$Item", "<init>", "(IILCodeShrinker$ProgramClass;II)V"⟩) ∈ vT := vT_3 143 rfl rfl
theorem kI_It_init : (Cond.instanceMethod ⟨"CodeShrinker$Item", "<init>", "(IILCodeShrinker$ProgramClass;II)V"⟩) ∈ vT := vT_3 144 rfl rfl
theorem kM_It_init : (Cond.code ⟨"CodeShrinker$Item", "<init>", "(IILCodeShrinker$ProgramClass;II)V"⟩ prog_3_method_1_code 6 (Option.none : Option Jvm.ClassFile.FieldType)) ∈ vT := vT_3 145 rfl rfl
theorem km_It_1 : (Cond.methodLink "CodeShrinker$Item" 1 ⟨"java/lang/Object", "<init>", "()V"⟩) ∈ vT := vT_3 146 rfl rfl
theorem kf_It_7 : (Cond.fieldLink "CodeShrinker$Item" 7 "CodeShrinker$Item" "kind" "I") ∈ vT := vT_3 147 rfl rfl
theorem kf_Ru_64 : (Cond.fieldLink "CodeShrinker$Runner" 64 "CodeShrinker$Item" "kind" "I") ∈ vT := vT_3 148 rfl rfl
theorem kf_Re_94 : (Cond.fieldLink "CodeShrinker$Reach" 94 "CodeShrinker$Item" "kind" "I") ∈ vT := vT_3 149 rfl rfl
theorem kf_Fa_124 : (Cond.fieldLink "CodeShrinker$Families" 124 "CodeShrinker$Item" "kind" "I") ∈ vT := vT_3 150 rfl rfl
theorem kf_It_13 : (Cond.fieldLink "CodeShrinker$Item" 13 "CodeShrinker$Item" "value" "I") ∈ vT := vT_3 151 rfl rfl
theorem kf_Ru_67 : (Cond.fieldLink "CodeShrinker$Runner" 67 "CodeShrinker$Item" "value" "I") ∈ vT := vT_3 152 rfl rfl
theorem kf_It_16 : (Cond.fieldLink "CodeShrinker$Item" 16 "CodeShrinker$Item" "target" "LCodeShrinker$ProgramClass;") ∈ vT := vT_3 153 rfl rfl
theorem kf_Ru_70 : (Cond.fieldLink "CodeShrinker$Runner" 70 "CodeShrinker$Item" "target" "LCodeShrinker$ProgramClass;") ∈ vT := vT_3 154 rfl rfl
theorem kf_Re_80 : (Cond.fieldLink "CodeShrinker$Reach" 80 "CodeShrinker$Item" "target" "LCodeShrinker$ProgramClass;") ∈ vT := vT_3 155 rfl rfl
theorem kf_Fa_136 : (Cond.fieldLink "CodeShrinker$Families" 136 "CodeShrinker$Item" "target" "LCodeShrinker$ProgramClass;") ∈ vT := vT_3 156 rfl rfl
theorem kf_It_20 : (Cond.fieldLink "CodeShrinker$Item" 20 "CodeShrinker$Item" "arity" "I") ∈ vT := vT_3 157 rfl rfl
theorem kf_Ru_77 : (Cond.fieldLink "CodeShrinker$Runner" 77 "CodeShrinker$Item" "arity" "I") ∈ vT := vT_3 158 rfl rfl
theorem kf_Re_87 : (Cond.fieldLink "CodeShrinker$Reach" 87 "CodeShrinker$Item" "arity" "I") ∈ vT := vT_3 159 rfl rfl
theorem kf_Fa_128 : (Cond.fieldLink "CodeShrinker$Families" 128 "CodeShrinker$Item" "arity" "I") ∈ vT := vT_3 160 rfl rfl
theorem kf_It_23 : (Cond.fieldLink "CodeShrinker$Item" 23 "CodeShrinker$Item" "name" "I") ∈ vT := vT_3 161 rfl rfl
theorem kf_Ru_74 : (Cond.fieldLink "CodeShrinker$Runner" 74 "CodeShrinker$Item" "name" "I") ∈ vT := vT_3 162 rfl rfl
theorem kf_Re_83 : (Cond.fieldLink "CodeShrinker$Reach" 83 "CodeShrinker$Item" "name" "I") ∈ vT := vT_3 163 rfl rfl
theorem kf_Fa_127 : (Cond.fieldLink "CodeShrinker$Families" 127 "CodeShrinker$Item" "name" "I") ∈ vT := vT_3 164 rfl rfl
theorem kz_645 : (Cond.laysFinal "CodeShrinker$Item" "CodeShrinker$Item" "kind" "I") ∈ vT := vT_3 165 rfl rfl
theorem kz_646 : (Cond.soleField "CodeShrinker$Item" "kind") ∈ vT := vT_3 166 rfl rfl
theorem kz_647 : (Cond.laysFinal "CodeShrinker$Item" "CodeShrinker$Item" "value" "I") ∈ vT := vT_3 167 rfl rfl
theorem kz_648 : (Cond.soleField "CodeShrinker$Item" "value") ∈ vT := vT_3 168 rfl rfl
theorem kz_649 : (Cond.laysFinal "CodeShrinker$Item" "CodeShrinker$Item" "target" "LCodeShrinker$ProgramClass;") ∈ vT := vT_3 169 rfl rfl
theorem kz_650 : (Cond.soleField "CodeShrinker$Item" "target") ∈ vT := vT_3 170 rfl rfl
theorem kz_651 : (Cond.laysFinal "CodeShrinker$Item" "CodeShrinker$Item" "arity" "I") ∈ vT := vT_3 171 rfl rfl
theorem kz_652 : (Cond.soleField "CodeShrinker$Item" "arity") ∈ vT := vT_3 172 rfl rfl
theorem kz_653 : (Cond.lays "CodeShrinker$Item" "CodeShrinker$Item" "name" "I") ∈ vT := vT_3 173 rfl rfl
theorem kz_654 : (Cond.soleField "CodeShrinker$Item" "name") ∈ vT := vT_3 174 rfl rfl
theorem kz_655 : (Cond.superclass "CodeShrinker$Item" "java/lang/Object") ∈ vT := vT_3 175 rfl rfl
theorem km_Lw_66 : (Cond.methodLink "CodeShrinkerLaw" 66 ⟨"CodeShrinkerLaw", "keep", "(LCodeShrinker;IZ)I"⟩) ∈ vT := vT_3 176 rfl rfl
theorem kS_Lw_keep : (Cond.static ⟨"CodeShrinkerLaw", "keep", "(LCodeShrinker;IZ)I"⟩) ∈ vT := vT_3 177 rfl rfl
theorem kM_Lw_keep : (Cond.codeWith ⟨"CodeShrinkerLaw", "keep", "(LCodeShrinker;IZ)I"⟩ method_6_code 4 (Option.some .int) [(0, 6, 9, 13)]) ∈ vT := vT_3 178 rfl rfl
theorem km_Lw_25 : (Cond.methodLink "CodeShrinkerLaw" 25 ⟨"CodeShrinker", "keep", "(IZ)V"⟩) ∈ vT := vT_3 179 rfl rfl
theorem kI_Cs_keep : (Cond.instanceMethod ⟨"CodeShrinker", "keep", "(IZ)V"⟩) ∈ vT := vT_3 180 rfl rfl
theorem ks_Cs_Cs_keep : (Cond.selects "CodeShrinker" ⟨"CodeShrinker", "keep", "(IZ)V"⟩ ⟨"CodeShrinker", "keep", "(IZ)V"⟩) ∈ vT := vT_3 181 rfl rfl
theorem kM_Cs_keep : (Cond.code ⟨"CodeShrinker", "keep", "(IZ)V"⟩ prog_1_method_5_code 3 (Option.none : Option Jvm.ClassFile.FieldType)) ∈ vT := vT_3 182 rfl rfl
theorem km_Lw_70 : (Cond.methodLink "CodeShrinkerLaw" 70 ⟨"CodeShrinkerLaw", "run", "(LCodeShrinker;III[J)I"⟩) ∈ vT := vT_3 183 rfl rfl
theorem kS_Lw_run : (Cond.static ⟨"CodeShrinkerLaw", "run", "(LCodeShrinker;III[J)I"⟩) ∈ vT := vT_3 184 rfl rfl
theorem kM_Lw_run : (Cond.codeWith ⟨"CodeShrinkerLaw", "run", "(LCodeShrinker;III[J)I"⟩ method_7_code 6 (Option.some .int) [(0, 12, 15, 13), (0, 12, 19, 32), (0, 12, 23, 15)]) ∈ vT := vT_3 185 rfl rfl
theorem kc_Lw_32 : (Cond.classLink "CodeShrinkerLaw" 32 "java/util/NoSuchElementException") ∈ vT := vT_3 186 rfl rfl
theorem km_Lw_29 : (Cond.methodLink "CodeShrinkerLaw" 29 ⟨"CodeShrinker", "run", "(III)I"⟩) ∈ vT := vT_3 187 rfl rfl
theorem kI_Cs_run : (Cond.instanceMethod ⟨"CodeShrinker", "run", "(III)I"⟩) ∈ vT := vT_3 188 rfl rfl
theorem ks_Cs_Cs_run : (Cond.selects "CodeShrinker" ⟨"CodeShrinker", "run", "(III)I"⟩ ⟨"CodeShrinker", "run", "(III)I"⟩) ∈ vT := vT_3 189 rfl rfl
theorem kM_Cs_run : (Cond.code ⟨"CodeShrinker", "run", "(III)I"⟩ prog_1_method_6_code 4 (Option.some .int)) ∈ vT := vT_3 190 rfl rfl
theorem km_Cs_122 : (Cond.methodLink "CodeShrinker" 122 ⟨"CodeShrinker$Runner", "outcomeOf", "(LCodeShrinker$ProgramClass;II)I"⟩) ∈ vT := vT_3 191 rfl rfl
theorem kI_Ru_outcomeOf : (Cond.instanceMethod ⟨"CodeShrinker$Runner", "outcomeOf", "(LCodeShrinker$ProgramClass;II)I"⟩) ∈ vT := vT_3 192 rfl rfl
theorem ks_Ru_Ru_outcomeOf : (Cond.selects "CodeShrinker$Runner" ⟨"CodeShrinker$Runner", "outcomeOf", "(LCodeShrinker$ProgramClass;II)I"⟩ ⟨"CodeShrinker$Runner", "outcomeOf", "(LCodeShrinker$ProgramClass;II)I"⟩) ∈ vT := vT_3 193 rfl rfl
theorem kM_Ru_outcomeOf : (Cond.code ⟨"CodeShrinker$Runner", "outcomeOf", "(LCodeShrinker$ProgramClass;II)I"⟩ prog_8_method_2_code 4 (Option.some .int)) ∈ vT := vT_3 194 rfl rfl
theorem km_Ru_18 : (Cond.methodLink "CodeShrinker$Runner" 18 ⟨"CodeShrinker$Runner", "perform", "(LCodeShrinker$ProgramClass;III)V"⟩) ∈ vT := vT_3 195 rfl rfl
theorem kz_676 : (Cond.privateMethod ⟨"CodeShrinker$Runner", "perform", "(LCodeShrinker$ProgramClass;III)V"⟩) ∈ vT := vT_3 196 rfl rfl
theorem kI_Ru_perform : (Cond.instanceMethod ⟨"CodeShrinker$Runner", "perform", "(LCodeShrinker$ProgramClass;III)V"⟩) ∈ vT := vT_3 197 rfl rfl
theorem kM_Ru_perform : (Cond.code ⟨"CodeShrinker$Runner", "perform", "(LCodeShrinker$ProgramClass;III)V"⟩ prog_8_method_3_code 7 (Option.none : Option Jvm.ClassFile.FieldType)) ∈ vT := vT_3 198 rfl rfl
theorem kc_Ru_22 : (Cond.classLink "CodeShrinker$Runner" 22 "java/lang/IllegalStateException") ∈ vT := vT_3 199 rfl rfl
theorem km_Ru_26 : (Cond.methodLink "CodeShrinker$Runner" 26 ⟨"java/lang/IllegalStateException", "<init>", "(Ljava/lang/String;)V"⟩) ∈ vT := vT_3 201 rfl rfl
theorem km_Ru_29 : (Cond.methodLink "CodeShrinker$Runner" 29 ⟨"CodeShrinker$ProgramClass", "find", "(II)LCodeShrinker$ProgramMethod;"⟩) ∈ vT := vT_3 202 rfl rfl
theorem kc_Ru_35 : (Cond.classLink "CodeShrinker$Runner" 35 "java/util/NoSuchElementException") ∈ vT := vT_3 203 rfl rfl
theorem kn_Ns : (Cond.instantiable "java/util/NoSuchElementException" 6) ∈ vT := vT_3 204 rfl rfl
theorem kx_Ns_Ns : (Cond.castable "java/util/NoSuchElementException" "java/util/NoSuchElementException") ∈ vT := vT_3 205 rfl rfl
theorem ks_Ns_Th_fillInStackTrace_I_Ljava_lang_Throwable_ : (Cond.selects "java/util/NoSuchElementException" ⟨"java/lang/Throwable", "fillInStackTrace", "(I)Ljava/lang/Throwable;"⟩ ⟨"java/lang/Throwable", "fillInStackTrace", "(I)Ljava/lang/Throwable;"⟩) ∈ vT := vT_3 206 rfl rfl
theorem kz_687 : (Cond.lays "java/util/NoSuchElementException" "java/lang/Throwable" "cause" "Ljava/lang/Throwable;") ∈ vT := vT_3 207 rfl rfl
theorem kz_688 : (Cond.lays "java/util/NoSuchElementException" "java/lang/Throwable" "stackTrace" "[Ljava/lang/StackTraceElement;") ∈ vT := vT_3 208 rfl rfl
theorem kz_689 : (Cond.lays "java/util/NoSuchElementException" "java/lang/Throwable" "suppressedExceptions" "Ljava/util/List;") ∈ vT := vT_3 209 rfl rfl
theorem kz_690 : (Cond.lays "java/util/NoSuchElementException" "java/lang/Throwable" "detailMessage" "Ljava/lang/String;") ∈ vT := vT_3 210 rfl rfl
theorem kz_691 : (Cond.lays "java/util/NoSuchElementException" "java/lang/Throwable" "backtrace" "Ljava/lang/Object;") ∈ vT := vT_3 211 rfl rfl
theorem km_Ru_39 : (Cond.methodLink "CodeShrinker$Runner" 39 ⟨"java/util/NoSuchElementException", "<init>", "(Ljava/lang/String;)V"⟩) ∈ vT := vT_3 213 rfl rfl
theorem kI_Ns_init : (Cond.instanceMethod ⟨"java/util/NoSuchElementException", "<init>", "(Ljava/lang/String;)V"⟩) ∈ vT := vT_3 214 rfl rfl
theorem kM_Ns_init : (Cond.code ⟨"java/util/NoSuchElementException", "<init>", "(Ljava/lang/String;)V"⟩ prog_28_method_4_code 2 (Option.none : Option Jvm.ClassFile.FieldType)) ∈ vT := vT_3 215 rfl rfl
theorem km_Ns_13 : (Cond.methodLink "java/util/NoSuchElementException" 13 ⟨"java/lang/RuntimeException", "<init>", "(Ljava/lang/String;)V"⟩) ∈ vT := vT_3 216 rfl rfl
theorem kz_697 : (Cond.lays "java/util/NoSuchElementException" "java/lang/Throwable" "depth" "I") ∈ vT := vT_3 217 rfl rfl
theorem kz_698 : (Cond.superclass "java/util/NoSuchElementException" "java/lang/RuntimeException") ∈ vT := vT_3 218 rfl rfl
theorem km_Ru_46 : (Cond.methodLink "CodeShrinker$Runner" 46 ⟨"java/util/ArrayList", "size", "()I"⟩) ∈ vT := vT_3 219 rfl rfl
theorem km_Ru_52 : (Cond.methodLink "CodeShrinker$Runner" 52 ⟨"java/util/ArrayList", "get", "(I)Ljava/lang/Object;"⟩) ∈ vT := vT_3 220 rfl rfl
theorem kc_Ru_56 : (Cond.classLink "CodeShrinker$Runner" 56 "CodeShrinker$Item") ∈ vT := vT_3 221 rfl rfl
theorem km_Ru_58 : (Cond.methodLink "CodeShrinker$Runner" 58 ⟨"CodeShrinker$Runner", "performItem", "(LCodeShrinker$Item;LCodeShrinker$ProgramClass;I)V"⟩) ∈ vT := vT_3 222 rfl rfl
theorem kz_703 : (Cond.privateMethod ⟨"CodeShrinker$Runner", "performItem", "(LCodeShrinker$Item;LCodeShrinker$ProgramClass;I)V"⟩) ∈ vT := vT_3 223 rfl rfl
theorem kI_Ru_performItem : (Cond.instanceMethod ⟨"CodeShrinker$Runner", "performItem", "(LCodeShrinker$Item;LCodeShrinker$ProgramClass;I)V"⟩) ∈ vT := vT_3 224 rfl rfl
theorem kM_Ru_performItem : (Cond.code ⟨"CodeShrinker$Runner", "performItem", "(LCodeShrinker$Item;LCodeShrinker$ProgramClass;I)V"⟩ prog_8_method_4_code 5 (Option.none : Option Jvm.ClassFile.FieldType)) ∈ vT := vT_3 225 rfl rfl
theorem km_Lw_81 : (Cond.methodLink "CodeShrinkerLaw" 81 ⟨"CodeShrinkerLaw", "told", "(LCodeShrinker;II[J)I"⟩) ∈ vT := vT_3 227 rfl rfl
theorem kS_Lw_told : (Cond.static ⟨"CodeShrinkerLaw", "told", "(LCodeShrinker;II[J)I"⟩) ∈ vT := vT_3 228 rfl rfl
theorem kM_Lw_told : (Cond.codeWith ⟨"CodeShrinkerLaw", "told", "(LCodeShrinker;II[J)I"⟩ method_8_code 5 (Option.some .int) [(0, 10, 13, 13)]) ∈ vT := vT_3 229 rfl rfl
theorem km_Lw_34 : (Cond.methodLink "CodeShrinkerLaw" 34 ⟨"CodeShrinker", "told", "(II)I"⟩) ∈ vT := vT_3 230 rfl rfl
theorem kI_Cs_told : (Cond.instanceMethod ⟨"CodeShrinker", "told", "(II)I"⟩) ∈ vT := vT_3 231 rfl rfl
theorem ks_Cs_Cs_told : (Cond.selects "CodeShrinker" ⟨"CodeShrinker", "told", "(II)I"⟩ ⟨"CodeShrinker", "told", "(II)I"⟩) ∈ vT := vT_3 232 rfl rfl
theorem kM_Cs_told : (Cond.code ⟨"CodeShrinker", "told", "(II)I"⟩ prog_1_method_9_code 4 (Option.some .int)) ∈ vT := vT_3 233 rfl rfl
theorem km_Lw_85 : (Cond.methodLink "CodeShrinkerLaw" 85 ⟨"CodeShrinkerLaw", "inside", "(LCodeShrinker;III[J)I"⟩) ∈ vT := vT_3 234 rfl rfl
theorem kS_Lw_inside : (Cond.static ⟨"CodeShrinkerLaw", "inside", "(LCodeShrinker;III[J)I"⟩) ∈ vT := vT_3 235 rfl rfl
theorem kM_Lw_inside : (Cond.codeWith ⟨"CodeShrinkerLaw", "inside", "(LCodeShrinker;III[J)I"⟩ method_9_code 6 (Option.some .int) [(0, 12, 15, 13), (0, 12, 19, 32)]) ∈ vT := vT_3 236 rfl rfl
theorem km_Lw_38 : (Cond.methodLink "CodeShrinkerLaw" 38 ⟨"CodeShrinker", "inside", "(III)I"⟩) ∈ vT := vT_3 237 rfl rfl
theorem kI_Cs_inside : (Cond.instanceMethod ⟨"CodeShrinker", "inside", "(III)I"⟩) ∈ vT := vT_3 238 rfl rfl
theorem ks_Cs_Cs_inside : (Cond.selects "CodeShrinker" ⟨"CodeShrinker", "inside", "(III)I"⟩ ⟨"CodeShrinker", "inside", "(III)I"⟩) ∈ vT := vT_3 239 rfl rfl
theorem kM_Cs_inside : (Cond.code ⟨"CodeShrinker", "inside", "(III)I"⟩ prog_1_method_10_code 5 (Option.some .int)) ∈ vT := vT_4 0 rfl rfl
theorem kc_Cs_163 : (Cond.classLink "CodeShrinker" 163 "java/util/NoSuchElementException") ∈ vT := vT_4 1 rfl rfl
theorem km_Cs_167 : (Cond.methodLink "CodeShrinker" 167 ⟨"java/util/NoSuchElementException", "<init>", "(Ljava/lang/String;)V"⟩) ∈ vT := vT_4 3 rfl rfl
theorem km_Cs_170 : (Cond.methodLink "CodeShrinker" 170 ⟨"CodeShrinker$Item", "part", "(I)I"⟩) ∈ vT := vT_4 4 rfl rfl
theorem kI_It_part : (Cond.instanceMethod ⟨"CodeShrinker$Item", "part", "(I)I"⟩) ∈ vT := vT_4 5 rfl rfl
theorem ks_It_It_part : (Cond.selects "CodeShrinker$Item" ⟨"CodeShrinker$Item", "part", "(I)I"⟩ ⟨"CodeShrinker$Item", "part", "(I)I"⟩) ∈ vT := vT_4 6 rfl rfl
theorem kM_It_part : (Cond.code ⟨"CodeShrinker$Item", "part", "(I)I"⟩ prog_3_method_2_code 2 (Option.some .int)) ∈ vT := vT_4 7 rfl rfl
theorem km_Lw_88 : (Cond.methodLink "CodeShrinkerLaw" 88 ⟨"CodeShrinkerLaw", "trace", "(LCodeShrinker;III[J)I"⟩) ∈ vT := vT_4 8 rfl rfl
theorem kS_Lw_trace : (Cond.static ⟨"CodeShrinkerLaw", "trace", "(LCodeShrinker;III[J)I"⟩) ∈ vT := vT_4 9 rfl rfl
theorem kM_Lw_trace : (Cond.codeWith ⟨"CodeShrinkerLaw", "trace", "(LCodeShrinker;III[J)I"⟩ method_10_code 6 (Option.some .int) [(0, 12, 15, 13), (0, 12, 19, 32)]) ∈ vT := vT_4 10 rfl rfl
theorem km_Lw_41 : (Cond.methodLink "CodeShrinkerLaw" 41 ⟨"CodeShrinker", "trace", "(III)I"⟩) ∈ vT := vT_4 11 rfl rfl
theorem kI_Cs_trace : (Cond.instanceMethod ⟨"CodeShrinker", "trace", "(III)I"⟩) ∈ vT := vT_4 12 rfl rfl
theorem ks_Cs_Cs_trace : (Cond.selects "CodeShrinker" ⟨"CodeShrinker", "trace", "(III)I"⟩ ⟨"CodeShrinker", "trace", "(III)I"⟩) ∈ vT := vT_4 13 rfl rfl
theorem kM_Cs_trace : (Cond.code ⟨"CodeShrinker", "trace", "(III)I"⟩ prog_1_method_11_code 5 (Option.some .int)) ∈ vT := vT_4 14 rfl rfl
theorem kc_Lw_45 : (Cond.classLink "CodeShrinkerLaw" 45 "CodeShrinkerModel") ∈ vT := vT_4 16 rfl rfl
theorem kn_Mo : (Cond.instantiable "CodeShrinkerModel" 31) ∈ vT := vT_4 17 rfl rfl
theorem km_Lw_47 : (Cond.methodLink "CodeShrinkerLaw" 47 ⟨"CodeShrinkerModel", "<init>", "()V"⟩) ∈ vT := vT_4 18 rfl rfl
theorem kI_Mo_init : (Cond.instanceMethod ⟨"CodeShrinkerModel", "<init>", "()V"⟩) ∈ vT := vT_4 19 rfl rfl
theorem kM_Mo_init : (Cond.code ⟨"CodeShrinkerModel", "<init>", "()V"⟩ prog_10_method_1_code 1 (Option.none : Option Jvm.ClassFile.FieldType)) ∈ vT := vT_4 20 rfl rfl
theorem km_Mo_1 : (Cond.methodLink "CodeShrinkerModel" 1 ⟨"java/lang/Object", "<init>", "()V"⟩) ∈ vT := vT_4 21 rfl rfl
theorem kf_Mo_7 : (Cond.fieldLink "CodeShrinkerModel" 7 "CodeShrinkerModel" "parent" "[I") ∈ vT := vT_4 22 rfl rfl
theorem kf_Mo_13 : (Cond.fieldLink "CodeShrinkerModel" 13 "CodeShrinkerModel" "classBorn" "[I") ∈ vT := vT_4 23 rfl rfl
theorem kf_Mo_16 : (Cond.fieldLink "CodeShrinkerModel" 16 "CodeShrinkerModel" "of" "[I") ∈ vT := vT_4 24 rfl rfl
theorem kf_Mo_19 : (Cond.fieldLink "CodeShrinkerModel" 19 "CodeShrinkerModel" "name" "[I") ∈ vT := vT_4 25 rfl rfl
theorem kf_Mo_22 : (Cond.fieldLink "CodeShrinkerModel" 22 "CodeShrinkerModel" "arity" "[I") ∈ vT := vT_4 26 rfl rfl
theorem kf_Mo_25 : (Cond.fieldLink "CodeShrinkerModel" 25 "CodeShrinkerModel" "items" "[I") ∈ vT := vT_4 27 rfl rfl
theorem kf_Mo_28 : (Cond.fieldLink "CodeShrinkerModel" 28 "CodeShrinkerModel" "born" "[I") ∈ vT := vT_4 28 rfl rfl
theorem kf_Mo_31 : (Cond.fieldLink "CodeShrinkerModel" 31 "CodeShrinkerModel" "bornName" "[I") ∈ vT := vT_4 29 rfl rfl
theorem kf_Mo_34 : (Cond.fieldLink "CodeShrinkerModel" 34 "CodeShrinkerModel" "bornClass" "[I") ∈ vT := vT_4 30 rfl rfl
theorem kf_Mo_37 : (Cond.fieldLink "CodeShrinkerModel" 37 "CodeShrinkerModel" "kept" "[Z") ∈ vT := vT_4 31 rfl rfl
theorem kf_Mo_41 : (Cond.fieldLink "CodeShrinkerModel" 41 "CodeShrinkerModel" "live" "[Z") ∈ vT := vT_4 32 rfl rfl
theorem kf_Mo_44 : (Cond.fieldLink "CodeShrinkerModel" 44 "CodeShrinkerModel" "made" "[Z") ∈ vT := vT_4 33 rfl rfl
theorem kf_Mo_47 : (Cond.fieldLink "CodeShrinkerModel" 47 "CodeShrinkerModel" "kind" "[I") ∈ vT := vT_4 34 rfl rfl
theorem kf_Mo_50 : (Cond.fieldLink "CodeShrinkerModel" 50 "CodeShrinkerModel" "a" "[I") ∈ vT := vT_4 35 rfl rfl
theorem kf_Mo_53 : (Cond.fieldLink "CodeShrinkerModel" 53 "CodeShrinkerModel" "b" "[I") ∈ vT := vT_4 36 rfl rfl
theorem kf_Mo_56 : (Cond.fieldLink "CodeShrinkerModel" 56 "CodeShrinkerModel" "c" "[I") ∈ vT := vT_4 37 rfl rfl
theorem kf_Mo_96 : (Cond.fieldLink "CodeShrinkerModel" 96 "CodeShrinkerModel" "classes" "I") ∈ vT := vT_4 38 rfl rfl
theorem kf_Mo_103 : (Cond.fieldLink "CodeShrinkerModel" 103 "CodeShrinkerModel" "methods" "I") ∈ vT := vT_4 39 rfl rfl
theorem kf_Mo_145 : (Cond.fieldLink "CodeShrinkerModel" 145 "CodeShrinkerModel" "gone" "I") ∈ vT := vT_4 40 rfl rfl
theorem kf_Mo_92 : (Cond.fieldLink "CodeShrinkerModel" 92 "CodeShrinkerModel" "thrown" "I") ∈ vT := vT_4 41 rfl rfl
theorem kf_Mo_59 : (Cond.fieldLink "CodeShrinkerModel" 59 "CodeShrinkerModel" "family" "[I") ∈ vT := vT_4 42 rfl rfl
theorem kf_Mo_62 : (Cond.fieldLink "CodeShrinkerModel" 62 "CodeShrinkerModel" "memberClass" "[I") ∈ vT := vT_4 43 rfl rfl
theorem kf_Mo_65 : (Cond.fieldLink "CodeShrinkerModel" 65 "CodeShrinkerModel" "memberName" "[I") ∈ vT := vT_4 44 rfl rfl
theorem kf_Mo_68 : (Cond.fieldLink "CodeShrinkerModel" 68 "CodeShrinkerModel" "memberArity" "[I") ∈ vT := vT_4 45 rfl rfl
theorem kf_Mo_71 : (Cond.fieldLink "CodeShrinkerModel" 71 "CodeShrinkerModel" "fresh" "[I") ∈ vT := vT_4 46 rfl rfl
theorem kf_Mo_74 : (Cond.fieldLink "CodeShrinkerModel" 74 "CodeShrinkerModel" "newNames" "[I") ∈ vT := vT_4 47 rfl rfl
theorem kf_Mo_77 : (Cond.fieldLink "CodeShrinkerModel" 77 "CodeShrinkerModel" "newNumber" "[I") ∈ vT := vT_4 48 rfl rfl
theorem kf_Mo_80 : (Cond.fieldLink "CodeShrinkerModel" 80 "CodeShrinkerModel" "newClass" "[I") ∈ vT := vT_4 49 rfl rfl
theorem kf_Mo_83 : (Cond.fieldLink "CodeShrinkerModel" 83 "CodeShrinkerModel" "running" "[I") ∈ vT := vT_4 50 rfl rfl
theorem kf_Mo_86 : (Cond.fieldLink "CodeShrinkerModel" 86 "CodeShrinkerModel" "at" "[I") ∈ vT := vT_4 51 rfl rfl
theorem kf_Mo_89 : (Cond.fieldLink "CodeShrinkerModel" 89 "CodeShrinkerModel" "worker" "[I") ∈ vT := vT_4 52 rfl rfl
theorem kz_773 : (Cond.laysFinal "CodeShrinkerModel" "CodeShrinkerModel" "parent" "[I") ∈ vT := vT_4 53 rfl rfl
theorem kz_774 : (Cond.soleField "CodeShrinkerModel" "parent") ∈ vT := vT_4 54 rfl rfl
theorem kz_775 : (Cond.laysFinal "CodeShrinkerModel" "CodeShrinkerModel" "classBorn" "[I") ∈ vT := vT_4 55 rfl rfl
theorem kz_776 : (Cond.soleField "CodeShrinkerModel" "classBorn") ∈ vT := vT_4 56 rfl rfl
theorem kz_777 : (Cond.laysFinal "CodeShrinkerModel" "CodeShrinkerModel" "of" "[I") ∈ vT := vT_4 57 rfl rfl
theorem kz_778 : (Cond.soleField "CodeShrinkerModel" "of") ∈ vT := vT_4 58 rfl rfl
theorem kz_779 : (Cond.laysFinal "CodeShrinkerModel" "CodeShrinkerModel" "name" "[I") ∈ vT := vT_4 59 rfl rfl
theorem kz_780 : (Cond.soleField "CodeShrinkerModel" "name") ∈ vT := vT_4 60 rfl rfl
theorem kz_781 : (Cond.laysFinal "CodeShrinkerModel" "CodeShrinkerModel" "arity" "[I") ∈ vT := vT_4 61 rfl rfl
theorem kz_782 : (Cond.soleField "CodeShrinkerModel" "arity") ∈ vT := vT_4 62 rfl rfl
theorem kz_783 : (Cond.laysFinal "CodeShrinkerModel" "CodeShrinkerModel" "items" "[I") ∈ vT := vT_4 63 rfl rfl
theorem kz_784 : (Cond.soleField "CodeShrinkerModel" "items") ∈ vT := vT_4 64 rfl rfl
theorem kz_785 : (Cond.laysFinal "CodeShrinkerModel" "CodeShrinkerModel" "born" "[I") ∈ vT := vT_4 65 rfl rfl
theorem kz_786 : (Cond.soleField "CodeShrinkerModel" "born") ∈ vT := vT_4 66 rfl rfl
theorem kz_787 : (Cond.laysFinal "CodeShrinkerModel" "CodeShrinkerModel" "bornName" "[I") ∈ vT := vT_4 67 rfl rfl
theorem kz_788 : (Cond.soleField "CodeShrinkerModel" "bornName") ∈ vT := vT_4 68 rfl rfl
theorem kz_789 : (Cond.laysFinal "CodeShrinkerModel" "CodeShrinkerModel" "bornClass" "[I") ∈ vT := vT_4 69 rfl rfl
theorem kz_790 : (Cond.soleField "CodeShrinkerModel" "bornClass") ∈ vT := vT_4 70 rfl rfl
theorem kz_791 : (Cond.laysFinal "CodeShrinkerModel" "CodeShrinkerModel" "kept" "[Z") ∈ vT := vT_4 71 rfl rfl
theorem kz_792 : (Cond.soleField "CodeShrinkerModel" "kept") ∈ vT := vT_4 72 rfl rfl
theorem kz_793 : (Cond.laysFinal "CodeShrinkerModel" "CodeShrinkerModel" "live" "[Z") ∈ vT := vT_4 73 rfl rfl
theorem kz_794 : (Cond.soleField "CodeShrinkerModel" "live") ∈ vT := vT_4 74 rfl rfl
theorem kz_795 : (Cond.laysFinal "CodeShrinkerModel" "CodeShrinkerModel" "made" "[Z") ∈ vT := vT_4 75 rfl rfl
theorem kz_796 : (Cond.soleField "CodeShrinkerModel" "made") ∈ vT := vT_4 76 rfl rfl
theorem kz_797 : (Cond.laysFinal "CodeShrinkerModel" "CodeShrinkerModel" "kind" "[I") ∈ vT := vT_4 77 rfl rfl
theorem kz_798 : (Cond.soleField "CodeShrinkerModel" "kind") ∈ vT := vT_4 78 rfl rfl
theorem kz_799 : (Cond.laysFinal "CodeShrinkerModel" "CodeShrinkerModel" "a" "[I") ∈ vT := vT_4 79 rfl rfl
theorem kz_800 : (Cond.soleField "CodeShrinkerModel" "a") ∈ vT := vT_4 80 rfl rfl
theorem kz_801 : (Cond.laysFinal "CodeShrinkerModel" "CodeShrinkerModel" "b" "[I") ∈ vT := vT_4 81 rfl rfl
theorem kz_802 : (Cond.soleField "CodeShrinkerModel" "b") ∈ vT := vT_4 82 rfl rfl
theorem kz_803 : (Cond.laysFinal "CodeShrinkerModel" "CodeShrinkerModel" "c" "[I") ∈ vT := vT_4 83 rfl rfl
theorem kz_804 : (Cond.soleField "CodeShrinkerModel" "c") ∈ vT := vT_4 84 rfl rfl
theorem kz_805 : (Cond.lays "CodeShrinkerModel" "CodeShrinkerModel" "classes" "I") ∈ vT := vT_4 85 rfl rfl
theorem kz_806 : (Cond.soleField "CodeShrinkerModel" "classes") ∈ vT := vT_4 86 rfl rfl
theorem kz_807 : (Cond.lays "CodeShrinkerModel" "CodeShrinkerModel" "methods" "I") ∈ vT := vT_4 87 rfl rfl
theorem kz_808 : (Cond.soleField "CodeShrinkerModel" "methods") ∈ vT := vT_4 88 rfl rfl
theorem kz_809 : (Cond.lays "CodeShrinkerModel" "CodeShrinkerModel" "gone" "I") ∈ vT := vT_4 89 rfl rfl
theorem kz_810 : (Cond.soleField "CodeShrinkerModel" "gone") ∈ vT := vT_4 90 rfl rfl
theorem kz_811 : (Cond.lays "CodeShrinkerModel" "CodeShrinkerModel" "thrown" "I") ∈ vT := vT_4 91 rfl rfl
theorem kz_812 : (Cond.soleField "CodeShrinkerModel" "thrown") ∈ vT := vT_4 92 rfl rfl
theorem kz_813 : (Cond.laysFinal "CodeShrinkerModel" "CodeShrinkerModel" "family" "[I") ∈ vT := vT_4 93 rfl rfl
theorem kz_814 : (Cond.soleField "CodeShrinkerModel" "family") ∈ vT := vT_4 94 rfl rfl
theorem kz_815 : (Cond.laysFinal "CodeShrinkerModel" "CodeShrinkerModel" "memberClass" "[I") ∈ vT := vT_4 95 rfl rfl
theorem kz_816 : (Cond.soleField "CodeShrinkerModel" "memberClass") ∈ vT := vT_4 96 rfl rfl
theorem kz_817 : (Cond.laysFinal "CodeShrinkerModel" "CodeShrinkerModel" "memberName" "[I") ∈ vT := vT_4 97 rfl rfl
theorem kz_818 : (Cond.soleField "CodeShrinkerModel" "memberName") ∈ vT := vT_4 98 rfl rfl
theorem kz_819 : (Cond.laysFinal "CodeShrinkerModel" "CodeShrinkerModel" "memberArity" "[I") ∈ vT := vT_4 99 rfl rfl
theorem kz_820 : (Cond.soleField "CodeShrinkerModel" "memberArity") ∈ vT := vT_4 100 rfl rfl
theorem kz_821 : (Cond.laysFinal "CodeShrinkerModel" "CodeShrinkerModel" "fresh" "[I") ∈ vT := vT_4 101 rfl rfl
theorem kz_822 : (Cond.soleField "CodeShrinkerModel" "fresh") ∈ vT := vT_4 102 rfl rfl
theorem kz_823 : (Cond.laysFinal "CodeShrinkerModel" "CodeShrinkerModel" "newNames" "[I") ∈ vT := vT_4 103 rfl rfl
theorem kz_824 : (Cond.soleField "CodeShrinkerModel" "newNames") ∈ vT := vT_4 104 rfl rfl
theorem kz_825 : (Cond.laysFinal "CodeShrinkerModel" "CodeShrinkerModel" "newNumber" "[I") ∈ vT := vT_4 105 rfl rfl
theorem kz_826 : (Cond.soleField "CodeShrinkerModel" "newNumber") ∈ vT := vT_4 106 rfl rfl
theorem kz_827 : (Cond.laysFinal "CodeShrinkerModel" "CodeShrinkerModel" "newClass" "[I") ∈ vT := vT_4 107 rfl rfl
theorem kz_828 : (Cond.soleField "CodeShrinkerModel" "newClass") ∈ vT := vT_4 108 rfl rfl
theorem kz_829 : (Cond.laysFinal "CodeShrinkerModel" "CodeShrinkerModel" "running" "[I") ∈ vT := vT_4 109 rfl rfl
theorem kz_830 : (Cond.soleField "CodeShrinkerModel" "running") ∈ vT := vT_4 110 rfl rfl
theorem kz_831 : (Cond.laysFinal "CodeShrinkerModel" "CodeShrinkerModel" "at" "[I") ∈ vT := vT_4 111 rfl rfl
theorem kz_832 : (Cond.soleField "CodeShrinkerModel" "at") ∈ vT := vT_4 112 rfl rfl
theorem kz_833 : (Cond.laysFinal "CodeShrinkerModel" "CodeShrinkerModel" "worker" "[I") ∈ vT := vT_4 113 rfl rfl
theorem kz_834 : (Cond.soleField "CodeShrinkerModel" "worker") ∈ vT := vT_4 114 rfl rfl
theorem kz_835 : (Cond.superclass "CodeShrinkerModel" "java/lang/Object") ∈ vT := vT_4 115 rfl rfl
theorem km_Lw_54 : (Cond.methodLink "CodeShrinkerLaw" 54 ⟨"CodeShrinkerModel", "thrown", "()I"⟩) ∈ vT := vT_4 116 rfl rfl
theorem kI_Mo_thrown : (Cond.instanceMethod ⟨"CodeShrinkerModel", "thrown", "()I"⟩) ∈ vT := vT_4 117 rfl rfl
theorem ks_Mo_Mo_thrown : (Cond.selects "CodeShrinkerModel" ⟨"CodeShrinkerModel", "thrown", "()I"⟩ ⟨"CodeShrinkerModel", "thrown", "()I"⟩) ∈ vT := vT_4 118 rfl rfl
theorem kM_Mo_thrown : (Cond.code ⟨"CodeShrinkerModel", "thrown", "()I"⟩ prog_10_method_2_code 1 (Option.some .int)) ∈ vT := vT_4 119 rfl rfl
theorem km_Lw_53 : (Cond.methodLink "CodeShrinkerLaw" 53 ⟨"CodeShrinkerModel", "add", "(I)I"⟩) ∈ vT := vT_4 120 rfl rfl
theorem kI_Mo_add : (Cond.instanceMethod ⟨"CodeShrinkerModel", "add", "(I)I"⟩) ∈ vT := vT_4 121 rfl rfl
theorem ks_Mo_Mo_add : (Cond.selects "CodeShrinkerModel" ⟨"CodeShrinkerModel", "add", "(I)I"⟩ ⟨"CodeShrinkerModel", "add", "(I)I"⟩) ∈ vT := vT_4 122 rfl rfl
theorem kM_Mo_add : (Cond.code ⟨"CodeShrinkerModel", "add", "(I)I"⟩ prog_10_method_8_code 2 (Option.some .int)) ∈ vT := vT_4 123 rfl rfl
theorem km_Mo_106 : (Cond.methodLink "CodeShrinkerModel" 106 ⟨"CodeShrinkerModel", "isClass", "(I)Z"⟩) ∈ vT := vT_4 124 rfl rfl
theorem kz_845 : (Cond.privateMethod ⟨"CodeShrinkerModel", "isClass", "(I)Z"⟩) ∈ vT := vT_4 125 rfl rfl
theorem kI_Mo_isClass : (Cond.instanceMethod ⟨"CodeShrinkerModel", "isClass", "(I)Z"⟩) ∈ vT := vT_4 126 rfl rfl
theorem kM_Mo_isClass : (Cond.code ⟨"CodeShrinkerModel", "isClass", "(I)Z"⟩ prog_10_method_6_code 2 (Option.some .boolean)) ∈ vT := vT_4 127 rfl rfl
theorem km_Mo_99 : (Cond.methodLink "CodeShrinkerModel" 99 ⟨"CodeShrinkerModel", "in", "(III)Z"⟩) ∈ vT := vT_4 128 rfl rfl
theorem kS_Mo_in : (Cond.static ⟨"CodeShrinkerModel", "in", "(III)Z"⟩) ∈ vT := vT_4 129 rfl rfl
theorem kM_Mo_in : (Cond.code ⟨"CodeShrinkerModel", "in", "(III)Z"⟩ prog_10_method_3_code 3 (Option.some .boolean)) ∈ vT := vT_4 130 rfl rfl
theorem km_Mo_110 : (Cond.methodLink "CodeShrinkerModel" 110 ⟨"CodeShrinkerModel", "bad", "(Z)Z"⟩) ∈ vT := vT_4 131 rfl rfl
theorem kz_852 : (Cond.privateMethod ⟨"CodeShrinkerModel", "bad", "(Z)Z"⟩) ∈ vT := vT_4 132 rfl rfl
theorem kI_Mo_bad : (Cond.instanceMethod ⟨"CodeShrinkerModel", "bad", "(Z)Z"⟩) ∈ vT := vT_4 133 rfl rfl
theorem kM_Mo_bad : (Cond.code ⟨"CodeShrinkerModel", "bad", "(Z)Z"⟩ prog_10_method_4_code 2 (Option.some .boolean)) ∈ vT := vT_4 134 rfl rfl
theorem km_Mo_114 : (Cond.methodLink "CodeShrinkerModel" 114 ⟨"CodeShrinkerModel", "fail", "(I)I"⟩) ∈ vT := vT_4 135 rfl rfl
theorem kz_856 : (Cond.privateMethod ⟨"CodeShrinkerModel", "fail", "(I)I"⟩) ∈ vT := vT_4 136 rfl rfl
theorem kI_Mo_fail : (Cond.instanceMethod ⟨"CodeShrinkerModel", "fail", "(I)I"⟩) ∈ vT := vT_4 137 rfl rfl
theorem kM_Mo_fail : (Cond.code ⟨"CodeShrinkerModel", "fail", "(I)I"⟩ prog_10_method_5_code 2 (Option.some .int)) ∈ vT := vT_4 138 rfl rfl
theorem km_Lw_61 : (Cond.methodLink "CodeShrinkerLaw" 61 ⟨"CodeShrinkerModel", "method", "(III)I"⟩) ∈ vT := vT_4 139 rfl rfl
theorem kI_Mo_method : (Cond.instanceMethod ⟨"CodeShrinkerModel", "method", "(III)I"⟩) ∈ vT := vT_4 140 rfl rfl
theorem ks_Mo_Mo_method : (Cond.selects "CodeShrinkerModel" ⟨"CodeShrinkerModel", "method", "(III)I"⟩ ⟨"CodeShrinkerModel", "method", "(III)I"⟩) ∈ vT := vT_4 141 rfl rfl
theorem kM_Mo_method : (Cond.code ⟨"CodeShrinkerModel", "method", "(III)I"⟩ prog_10_method_11_code 4 (Option.some .int)) ∈ vT := vT_4 142 rfl rfl
theorem km_Mo_118 : (Cond.methodLink "CodeShrinkerModel" 118 ⟨"CodeShrinkerModel", "own", "(III)I"⟩) ∈ vT := vT_4 143 rfl rfl
theorem kz_864 : (Cond.privateMethod ⟨"CodeShrinkerModel", "own", "(III)I"⟩) ∈ vT := vT_4 144 rfl rfl
theorem kI_Mo_own : (Cond.instanceMethod ⟨"CodeShrinkerModel", "own", "(III)I"⟩) ∈ vT := vT_4 145 rfl rfl
theorem kM_Mo_own : (Cond.code ⟨"CodeShrinkerModel", "own", "(III)I"⟩ prog_10_method_9_code 5 (Option.some .int)) ∈ vT := vT_4 146 rfl rfl
theorem km_Lw_65 : (Cond.methodLink "CodeShrinkerLaw" 65 ⟨"CodeShrinkerModel", "item", "(IIIII)I"⟩) ∈ vT := vT_4 147 rfl rfl
theorem kI_Mo_item : (Cond.instanceMethod ⟨"CodeShrinkerModel", "item", "(IIIII)I"⟩) ∈ vT := vT_4 148 rfl rfl
theorem ks_Mo_Mo_item : (Cond.selects "CodeShrinkerModel" ⟨"CodeShrinkerModel", "item", "(IIIII)I"⟩ ⟨"CodeShrinkerModel", "item", "(IIIII)I"⟩) ∈ vT := vT_4 149 rfl rfl
theorem kM_Mo_item : (Cond.code ⟨"CodeShrinkerModel", "item", "(IIIII)I"⟩ prog_10_method_12_code 8 (Option.some .int)) ∈ vT := vT_4 150 rfl rfl
theorem km_Mo_122 : (Cond.methodLink "CodeShrinkerModel" 122 ⟨"CodeShrinkerModel", "isMethod", "(I)Z"⟩) ∈ vT := vT_4 151 rfl rfl
theorem kz_872 : (Cond.privateMethod ⟨"CodeShrinkerModel", "isMethod", "(I)Z"⟩) ∈ vT := vT_4 152 rfl rfl
theorem kI_Mo_isMethod : (Cond.instanceMethod ⟨"CodeShrinkerModel", "isMethod", "(I)Z"⟩) ∈ vT := vT_4 153 rfl rfl
theorem kM_Mo_isMethod : (Cond.code ⟨"CodeShrinkerModel", "isMethod", "(I)Z"⟩ prog_10_method_7_code 2 (Option.some .boolean)) ∈ vT := vT_4 154 rfl rfl
theorem km_Lw_69 : (Cond.methodLink "CodeShrinkerLaw" 69 ⟨"CodeShrinkerModel", "keep", "(IZ)V"⟩) ∈ vT := vT_4 155 rfl rfl
theorem kI_Mo_keep : (Cond.instanceMethod ⟨"CodeShrinkerModel", "keep", "(IZ)V"⟩) ∈ vT := vT_4 156 rfl rfl
theorem ks_Mo_Mo_keep : (Cond.selects "CodeShrinkerModel" ⟨"CodeShrinkerModel", "keep", "(IZ)V"⟩ ⟨"CodeShrinkerModel", "keep", "(IZ)V"⟩) ∈ vT := vT_4 157 rfl rfl
theorem kM_Mo_keep : (Cond.code ⟨"CodeShrinkerModel", "keep", "(IZ)V"⟩ prog_10_method_13_code 3 (Option.none : Option Jvm.ClassFile.FieldType)) ∈ vT := vT_4 158 rfl rfl
theorem km_Lw_72 : (Cond.methodLink "CodeShrinkerLaw" 72 ⟨"CodeShrinkerModel", "run", "(III)I"⟩) ∈ vT := vT_4 159 rfl rfl
theorem kI_Mo_run : (Cond.instanceMethod ⟨"CodeShrinkerModel", "run", "(III)I"⟩) ∈ vT := vT_4 160 rfl rfl
theorem ks_Mo_Mo_run : (Cond.selects "CodeShrinkerModel" ⟨"CodeShrinkerModel", "run", "(III)I"⟩ ⟨"CodeShrinkerModel", "run", "(III)I"⟩) ∈ vT := vT_4 161 rfl rfl
theorem kM_Mo_run : (Cond.code ⟨"CodeShrinkerModel", "run", "(III)I"⟩ prog_10_method_14_code 13 (Option.some .int)) ∈ vT := vT_4 162 rfl rfl
theorem km_Mo_125 : (Cond.methodLink "CodeShrinkerModel" 125 ⟨"CodeShrinkerModel", "find", "(III)I"⟩) ∈ vT := vT_4 163 rfl rfl
theorem kz_884 : (Cond.privateMethod ⟨"CodeShrinkerModel", "find", "(III)I"⟩) ∈ vT := vT_4 164 rfl rfl
theorem kI_Mo_find : (Cond.instanceMethod ⟨"CodeShrinkerModel", "find", "(III)I"⟩) ∈ vT := vT_4 165 rfl rfl
theorem kM_Mo_find : (Cond.code ⟨"CodeShrinkerModel", "find", "(III)I"⟩ prog_10_method_10_code 6 (Option.some .int)) ∈ vT := vT_4 166 rfl rfl
theorem km_Lw_76 : (Cond.methodLink "CodeShrinkerLaw" 76 ⟨"CodeShrinkerModel", "shrink", "()I"⟩) ∈ vT := vT_4 167 rfl rfl
theorem kI_Mo_shrink : (Cond.instanceMethod ⟨"CodeShrinkerModel", "shrink", "()I"⟩) ∈ vT := vT_4 168 rfl rfl
theorem ks_Mo_Mo_shrink : (Cond.selects "CodeShrinkerModel" ⟨"CodeShrinkerModel", "shrink", "()I"⟩ ⟨"CodeShrinkerModel", "shrink", "()I"⟩) ∈ vT := vT_4 169 rfl rfl
theorem kM_Mo_shrink : (Cond.code ⟨"CodeShrinkerModel", "shrink", "()I"⟩ prog_10_method_21_code 6 (Option.some .int)) ∈ vT := vT_4 170 rfl rfl
theorem km_Mo_138 : (Cond.methodLink "CodeShrinkerModel" 138 ⟨"CodeShrinkerModel", "findLive", "()V"⟩) ∈ vT := vT_4 171 rfl rfl
theorem kz_892 : (Cond.privateMethod ⟨"CodeShrinkerModel", "findLive", "()V"⟩) ∈ vT := vT_4 172 rfl rfl
theorem kI_Mo_findLive : (Cond.instanceMethod ⟨"CodeShrinkerModel", "findLive", "()V"⟩) ∈ vT := vT_4 173 rfl rfl
theorem kM_Mo_findLive : (Cond.code ⟨"CodeShrinkerModel", "findLive", "()V"⟩ prog_10_method_19_code 4 (Option.none : Option Jvm.ClassFile.FieldType)) ∈ vT := vT_4 174 rfl rfl
theorem km_Mo_135 : (Cond.methodLink "CodeShrinkerModel" 135 ⟨"CodeShrinkerModel", "need", "(II)Z"⟩) ∈ vT := vT_4 175 rfl rfl
theorem kz_896 : (Cond.privateMethod ⟨"CodeShrinkerModel", "need", "(II)Z"⟩) ∈ vT := vT_4 176 rfl rfl
theorem kI_Mo_need : (Cond.instanceMethod ⟨"CodeShrinkerModel", "need", "(II)Z"⟩) ∈ vT := vT_4 177 rfl rfl
theorem kM_Mo_need : (Cond.code ⟨"CodeShrinkerModel", "need", "(II)Z"⟩ prog_10_method_18_code 5 (Option.some .boolean)) ∈ vT := vT_4 178 rfl rfl
theorem km_Mo_132 : (Cond.methodLink "CodeShrinkerModel" 132 ⟨"CodeShrinkerModel", "enliven", "(II)Z"⟩) ∈ vT := vT_4 179 rfl rfl
theorem kz_900 : (Cond.privateMethod ⟨"CodeShrinkerModel", "enliven", "(II)Z"⟩) ∈ vT := vT_4 180 rfl rfl
theorem kI_Mo_enliven : (Cond.instanceMethod ⟨"CodeShrinkerModel", "enliven", "(II)Z"⟩) ∈ vT := vT_4 181 rfl rfl
theorem kM_Mo_enliven : (Cond.code ⟨"CodeShrinkerModel", "enliven", "(II)Z"⟩ prog_10_method_17_code 4 (Option.some .boolean)) ∈ vT := vT_4 182 rfl rfl
theorem km_Mo_128 : (Cond.methodLink "CodeShrinkerModel" 128 ⟨"CodeShrinkerModel", "above", "(II)Z"⟩) ∈ vT := vT_4 183 rfl rfl
theorem kz_904 : (Cond.privateMethod ⟨"CodeShrinkerModel", "above", "(II)Z"⟩) ∈ vT := vT_4 184 rfl rfl
theorem kI_Mo_above : (Cond.instanceMethod ⟨"CodeShrinkerModel", "above", "(II)Z"⟩) ∈ vT := vT_4 185 rfl rfl
theorem kM_Mo_above : (Cond.code ⟨"CodeShrinkerModel", "above", "(II)Z"⟩ prog_10_method_15_code 4 (Option.some .boolean)) ∈ vT := vT_4 186 rfl rfl
theorem km_Mo_141 : (Cond.methodLink "CodeShrinkerModel" 141 ⟨"CodeShrinkerModel", "moveMethod", "(II)V"⟩) ∈ vT := vT_4 187 rfl rfl
theorem kz_908 : (Cond.privateMethod ⟨"CodeShrinkerModel", "moveMethod", "(II)V"⟩) ∈ vT := vT_4 188 rfl rfl
theorem kI_Mo_moveMethod : (Cond.instanceMethod ⟨"CodeShrinkerModel", "moveMethod", "(II)V"⟩) ∈ vT := vT_4 189 rfl rfl
theorem kM_Mo_moveMethod : (Cond.code ⟨"CodeShrinkerModel", "moveMethod", "(II)V"⟩ prog_10_method_20_code 6 (Option.none : Option Jvm.ClassFile.FieldType)) ∈ vT := vT_4 190 rfl rfl
theorem km_Lw_80 : (Cond.methodLink "CodeShrinkerLaw" 80 ⟨"CodeShrinkerModel", "rename", "()I"⟩) ∈ vT := vT_4 191 rfl rfl
theorem kI_Mo_rename : (Cond.instanceMethod ⟨"CodeShrinkerModel", "rename", "()I"⟩) ∈ vT := vT_4 192 rfl rfl
theorem ks_Mo_Mo_rename : (Cond.selects "CodeShrinkerModel" ⟨"CodeShrinkerModel", "rename", "()I"⟩ ⟨"CodeShrinkerModel", "rename", "()I"⟩) ∈ vT := vT_4 193 rfl rfl
theorem kM_Mo_rename : (Cond.code ⟨"CodeShrinkerModel", "rename", "()I"⟩ prog_10_method_28_code 7 (Option.some .int)) ∈ vT := vT_4 194 rfl rfl
theorem km_Mo_161 : (Cond.methodLink "CodeShrinkerModel" 161 ⟨"CodeShrinkerModel", "gather", "()I"⟩) ∈ vT := vT_4 195 rfl rfl
theorem kz_916 : (Cond.privateMethod ⟨"CodeShrinkerModel", "gather", "()I"⟩) ∈ vT := vT_4 196 rfl rfl
theorem kI_Mo_gather : (Cond.instanceMethod ⟨"CodeShrinkerModel", "gather", "()I"⟩) ∈ vT := vT_4 197 rfl rfl
theorem kM_Mo_gather : (Cond.code ⟨"CodeShrinkerModel", "gather", "()I"⟩ prog_10_method_23_code 5 (Option.some .int)) ∈ vT := vT_4 198 rfl rfl
theorem km_Mo_148 : (Cond.methodLink "CodeShrinkerModel" 148 ⟨"CodeShrinkerModel", "member", "(IIII)V"⟩) ∈ vT := vT_4 199 rfl rfl
theorem kz_920 : (Cond.privateMethod ⟨"CodeShrinkerModel", "member", "(IIII)V"⟩) ∈ vT := vT_4 200 rfl rfl
theorem kI_Mo_member : (Cond.instanceMethod ⟨"CodeShrinkerModel", "member", "(IIII)V"⟩) ∈ vT := vT_4 201 rfl rfl
theorem kM_Mo_member : (Cond.code ⟨"CodeShrinkerModel", "member", "(IIII)V"⟩ prog_10_method_22_code 5 (Option.none : Option Jvm.ClassFile.FieldType)) ∈ vT := vT_4 202 rfl rfl
theorem km_Mo_152 : (Cond.methodLink "CodeShrinkerModel" 152 ⟨"CodeShrinkerModel", "alike", "(II)Z"⟩) ∈ vT := vT_4 203 rfl rfl
theorem kz_924 : (Cond.privateMethod ⟨"CodeShrinkerModel", "alike", "(II)Z"⟩) ∈ vT := vT_4 204 rfl rfl
theorem kI_Mo_alike : (Cond.instanceMethod ⟨"CodeShrinkerModel", "alike", "(II)Z"⟩) ∈ vT := vT_4 205 rfl rfl
theorem kM_Mo_alike : (Cond.code ⟨"CodeShrinkerModel", "alike", "(II)Z"⟩ prog_10_method_24_code 3 (Option.some .boolean)) ∈ vT := vT_4 206 rfl rfl
theorem km_Mo_155 : (Cond.methodLink "CodeShrinkerModel" 155 ⟨"CodeShrinkerModel", "related", "(II)Z"⟩) ∈ vT := vT_4 207 rfl rfl
theorem kz_928 : (Cond.privateMethod ⟨"CodeShrinkerModel", "related", "(II)Z"⟩) ∈ vT := vT_4 208 rfl rfl
theorem kI_Mo_related : (Cond.instanceMethod ⟨"CodeShrinkerModel", "related", "(II)Z"⟩) ∈ vT := vT_4 209 rfl rfl
theorem kM_Mo_related : (Cond.code ⟨"CodeShrinkerModel", "related", "(II)Z"⟩ prog_10_method_16_code 3 (Option.some .boolean)) ∈ vT := vT_4 210 rfl rfl
theorem km_Mo_165 : (Cond.methodLink "CodeShrinkerModel" 165 ⟨"CodeShrinkerModel", "keptFamily", "(I)Z"⟩) ∈ vT := vT_4 211 rfl rfl
theorem kz_932 : (Cond.privateMethod ⟨"CodeShrinkerModel", "keptFamily", "(I)Z"⟩) ∈ vT := vT_4 212 rfl rfl
theorem kI_Mo_keptFamily : (Cond.instanceMethod ⟨"CodeShrinkerModel", "keptFamily", "(I)Z"⟩) ∈ vT := vT_4 213 rfl rfl
theorem kM_Mo_keptFamily : (Cond.code ⟨"CodeShrinkerModel", "keptFamily", "(I)Z"⟩ prog_10_method_25_code 3 (Option.some .boolean)) ∈ vT := vT_4 214 rfl rfl
theorem km_Mo_168 : (Cond.methodLink "CodeShrinkerModel" 168 ⟨"CodeShrinkerModel", "freeName", "(II)I"⟩) ∈ vT := vT_4 215 rfl rfl
theorem kz_936 : (Cond.privateMethod ⟨"CodeShrinkerModel", "freeName", "(II)I"⟩) ∈ vT := vT_4 216 rfl rfl
theorem kI_Mo_freeName : (Cond.instanceMethod ⟨"CodeShrinkerModel", "freeName", "(II)I"⟩) ∈ vT := vT_4 217 rfl rfl
theorem kM_Mo_freeName : (Cond.code ⟨"CodeShrinkerModel", "freeName", "(II)I"⟩ prog_10_method_27_code 6 (Option.some .int)) ∈ vT := vT_4 218 rfl rfl
theorem km_Mo_158 : (Cond.methodLink "CodeShrinkerModel" 158 ⟨"CodeShrinkerModel", "clash", "(III)Z"⟩) ∈ vT := vT_4 219 rfl rfl
theorem kz_940 : (Cond.privateMethod ⟨"CodeShrinkerModel", "clash", "(III)Z"⟩) ∈ vT := vT_4 220 rfl rfl
theorem kI_Mo_clash : (Cond.instanceMethod ⟨"CodeShrinkerModel", "clash", "(III)Z"⟩) ∈ vT := vT_4 221 rfl rfl
theorem kM_Mo_clash : (Cond.code ⟨"CodeShrinkerModel", "clash", "(III)Z"⟩ prog_10_method_26_code 6 (Option.some .boolean)) ∈ vT := vT_4 222 rfl rfl
theorem km_Lw_84 : (Cond.methodLink "CodeShrinkerLaw" 84 ⟨"CodeShrinkerModel", "told", "(II)I"⟩) ∈ vT := vT_4 223 rfl rfl
theorem kI_Mo_told : (Cond.instanceMethod ⟨"CodeShrinkerModel", "told", "(II)I"⟩) ∈ vT := vT_4 224 rfl rfl
theorem ks_Mo_Mo_told : (Cond.selects "CodeShrinkerModel" ⟨"CodeShrinkerModel", "told", "(II)I"⟩ ⟨"CodeShrinkerModel", "told", "(II)I"⟩) ∈ vT := vT_4 225 rfl rfl
theorem kM_Mo_told : (Cond.code ⟨"CodeShrinkerModel", "told", "(II)I"⟩ prog_10_method_29_code 3 (Option.some .int)) ∈ vT := vT_4 226 rfl rfl
theorem km_Lw_87 : (Cond.methodLink "CodeShrinkerLaw" 87 ⟨"CodeShrinkerModel", "inside", "(III)I"⟩) ∈ vT := vT_4 227 rfl rfl
theorem kI_Mo_inside : (Cond.instanceMethod ⟨"CodeShrinkerModel", "inside", "(III)I"⟩) ∈ vT := vT_4 228 rfl rfl
theorem ks_Mo_Mo_inside : (Cond.selects "CodeShrinkerModel" ⟨"CodeShrinkerModel", "inside", "(III)I"⟩ ⟨"CodeShrinkerModel", "inside", "(III)I"⟩) ∈ vT := vT_4 229 rfl rfl
theorem kM_Mo_inside : (Cond.code ⟨"CodeShrinkerModel", "inside", "(III)I"⟩ prog_10_method_30_code 5 (Option.some .int)) ∈ vT := vT_4 230 rfl rfl
theorem km_Lw_90 : (Cond.methodLink "CodeShrinkerLaw" 90 ⟨"CodeShrinkerModel", "trace", "(III)I"⟩) ∈ vT := vT_4 231 rfl rfl
theorem kI_Mo_trace : (Cond.instanceMethod ⟨"CodeShrinkerModel", "trace", "(III)I"⟩) ∈ vT := vT_4 232 rfl rfl
theorem ks_Mo_Mo_trace : (Cond.selects "CodeShrinkerModel" ⟨"CodeShrinkerModel", "trace", "(III)I"⟩ ⟨"CodeShrinkerModel", "trace", "(III)I"⟩) ∈ vT := vT_4 233 rfl rfl
theorem kM_Mo_trace : (Cond.code ⟨"CodeShrinkerModel", "trace", "(III)I"⟩ prog_10_method_31_code 5 (Option.some .int)) ∈ vT := vT_4 234 rfl rfl
theorem km_Lw_94 : (Cond.methodLink "CodeShrinkerLaw" 94 ⟨"CodeShrinkerModel", "count", "(I)I"⟩) ∈ vT := vT_4 235 rfl rfl
theorem kI_Mo_count : (Cond.instanceMethod ⟨"CodeShrinkerModel", "count", "(I)I"⟩) ∈ vT := vT_4 236 rfl rfl
theorem ks_Mo_Mo_count : (Cond.selects "CodeShrinkerModel" ⟨"CodeShrinkerModel", "count", "(I)I"⟩ ⟨"CodeShrinkerModel", "count", "(I)I"⟩) ∈ vT := vT_4 237 rfl rfl
theorem kM_Mo_count : (Cond.code ⟨"CodeShrinkerModel", "count", "(I)I"⟩ prog_10_method_32_code 4 (Option.some .int)) ∈ vT := vT_4 238 rfl rfl
theorem kz_959 : (Cond.arrayClass .long) ∈ vT := vT_4 239 rfl rfl
theorem kz_960 : (Cond.sameMethod "java/lang/Throwable" "java/lang/Throwable" "fillInStackTrace" "(I)Ljava/lang/Throwable;") ∈ vT := vT_5 0 rfl rfl
theorem kx_Pc_Pc : (Cond.castable "CodeShrinker$ProgramClass" "CodeShrinker$ProgramClass") ∈ vT := vT_5 1 rfl rfl
theorem kx_Pm_Pm : (Cond.castable "CodeShrinker$ProgramMethod" "CodeShrinker$ProgramMethod") ∈ vT := vT_5 2 rfl rfl
theorem kx_It_It : (Cond.castable "CodeShrinker$Item" "CodeShrinker$Item") ∈ vT := vT_5 3 rfl rfl
theorem kz_964 : (Cond.sameMethod "[Ljava/lang/Object;" "java/lang/Object" "getClass" "()Ljava/lang/Class;") ∈ vT := vT_5 4 rfl rfl
theorem ks__Ljava_lang_Object__Ob_getClass__Ljava_lang_Class_ : (Cond.selects "[Ljava/lang/Object;" ⟨"java/lang/Object", "getClass", "()Ljava/lang/Class;"⟩ ⟨"java/lang/Object", "getClass", "()Ljava/lang/Class;"⟩) ∈ vT := vT_5 5 rfl rfl
theorem kz_966 : (Cond.declares ⟨"java/lang/Object", "getClass", "()Ljava/lang/Class;"⟩) ∈ vT := vT_5 6 rfl rfl
theorem kx_Cs_Ob : (Cond.castable "CodeShrinker" "java/lang/Object") ∈ vT := vT_5 7 rfl rfl
theorem kx_Pr_Ob : (Cond.castable "CodeShrinker$Program" "java/lang/Object") ∈ vT := vT_5 8 rfl rfl
theorem kx_Ru_Ob : (Cond.castable "CodeShrinker$Runner" "java/lang/Object") ∈ vT := vT_5 9 rfl rfl
theorem kx_Re_Ob : (Cond.castable "CodeShrinker$Reach" "java/lang/Object") ∈ vT := vT_5 10 rfl rfl
theorem kx_Fa_Ob : (Cond.castable "CodeShrinker$Families" "java/lang/Object") ∈ vT := vT_5 11 rfl rfl
theorem kx_Mo_Ob : (Cond.castable "CodeShrinkerModel" "java/lang/Object") ∈ vT := vT_5 12 rfl rfl
theorem kx_Pc_Ob : (Cond.castable "CodeShrinker$ProgramClass" "java/lang/Object") ∈ vT := vT_5 13 rfl rfl
theorem kx_Pm_Ob : (Cond.castable "CodeShrinker$ProgramMethod" "java/lang/Object") ∈ vT := vT_5 14 rfl rfl
theorem kx_It_Ob : (Cond.castable "CodeShrinker$Item" "java/lang/Object") ∈ vT := vT_5 15 rfl rfl
theorem kx_java_lang_String_Ob : (Cond.castable "java/lang/String" "java/lang/Object") ∈ vT := vT_5 16 rfl rfl
theorem ks_Re_Re_clearMarks : (Cond.selects "CodeShrinker$Reach" ⟨"CodeShrinker$Reach", "clearMarks", "()V"⟩ ⟨"CodeShrinker$Reach", "clearMarks", "()V"⟩) ∈ vT := vT_sel 0 rfl rfl
theorem ks_Re_Re_markKept : (Cond.selects "CodeShrinker$Reach" ⟨"CodeShrinker$Reach", "markKept", "()V"⟩ ⟨"CodeShrinker$Reach", "markKept", "()V"⟩) ∈ vT := vT_sel 1 rfl rfl
theorem ks_Re_Re_markLive : (Cond.selects "CodeShrinker$Reach" ⟨"CodeShrinker$Reach", "markLive", "(LCodeShrinker$ProgramMethod;)V"⟩ ⟨"CodeShrinker$Reach", "markLive", "(LCodeShrinker$ProgramMethod;)V"⟩) ∈ vT := vT_sel 2 rfl rfl
theorem ks_Re_Re_markMade : (Cond.selects "CodeShrinker$Reach" ⟨"CodeShrinker$Reach", "markMade", "(LCodeShrinker$ProgramClass;)V"⟩ ⟨"CodeShrinker$Reach", "markMade", "(LCodeShrinker$ProgramClass;)V"⟩) ∈ vT := vT_sel 3 rfl rfl
theorem ks_Re_Re_spreadFromLive : (Cond.selects "CodeShrinker$Reach" ⟨"CodeShrinker$Reach", "spreadFromLive", "()V"⟩ ⟨"CodeShrinker$Reach", "spreadFromLive", "()V"⟩) ∈ vT := vT_sel 4 rfl rfl
theorem ks_Re_Re_spread : (Cond.selects "CodeShrinker$Reach" ⟨"CodeShrinker$Reach", "spread", "(LCodeShrinker$ProgramMethod;)V"⟩ ⟨"CodeShrinker$Reach", "spread", "(LCodeShrinker$ProgramMethod;)V"⟩) ∈ vT := vT_sel 5 rfl rfl
theorem ks_Re_Re_spreadSelf : (Cond.selects "CodeShrinker$Reach" ⟨"CodeShrinker$Reach", "spreadSelf", "(LCodeShrinker$ProgramClass;LCodeShrinker$Item;)V"⟩ ⟨"CodeShrinker$Reach", "spreadSelf", "(LCodeShrinker$ProgramClass;LCodeShrinker$Item;)V"⟩) ∈ vT := vT_sel 6 rfl rfl
theorem ks_Al_Al_fastRemove : (Cond.selects "java/util/ArrayList" ⟨"java/util/ArrayList", "fastRemove", "([Ljava/lang/Object;I)V"⟩ ⟨"java/util/ArrayList", "fastRemove", "([Ljava/lang/Object;I)V"⟩) ∈ vT := vT_sel 7 rfl rfl
theorem ks_Pr_Pr_isMadeOrAboveMade : (Cond.selects "CodeShrinker$Program" ⟨"CodeShrinker$Program", "isMadeOrAboveMade", "(LCodeShrinker$ProgramClass;)Z"⟩ ⟨"CodeShrinker$Program", "isMadeOrAboveMade", "(LCodeShrinker$ProgramClass;)Z"⟩) ∈ vT := vT_sel 8 rfl rfl
theorem ks_Fa_Fa_seeRelatives : (Cond.selects "CodeShrinker$Families" ⟨"CodeShrinker$Families", "seeRelatives", "()V"⟩ ⟨"CodeShrinker$Families", "seeRelatives", "()V"⟩) ∈ vT := vT_sel 9 rfl rfl
theorem ks_Fa_Fa_familyOf : (Cond.selects "CodeShrinker$Families" ⟨"CodeShrinker$Families", "familyOf", "(LCodeShrinker$ProgramClass;II)I"⟩ ⟨"CodeShrinker$Families", "familyOf", "(LCodeShrinker$ProgramClass;II)I"⟩) ∈ vT := vT_sel 10 rfl rfl
theorem ks_Fa_Fa_open : (Cond.selects "CodeShrinker$Families" ⟨"CodeShrinker$Families", "open", "(LCodeShrinker$ProgramMethod;)I"⟩ ⟨"CodeShrinker$Families", "open", "(LCodeShrinker$ProgramMethod;)I"⟩) ∈ vT := vT_sel 11 rfl rfl
theorem ks_Fa_Fa_bearers : (Cond.selects "CodeShrinker$Families" ⟨"CodeShrinker$Families", "bearers", "(II)I"⟩ ⟨"CodeShrinker$Families", "bearers", "(II)I"⟩) ∈ vT := vT_sel 12 rfl rfl
theorem ks_Fa_Fa_joinedTo : (Cond.selects "CodeShrinker$Families" ⟨"CodeShrinker$Families", "joinedTo", "(II)I"⟩ ⟨"CodeShrinker$Families", "joinedTo", "(II)I"⟩) ∈ vT := vT_sel 13 rfl rfl
theorem ks_Fa_Fa_relatedTo : (Cond.selects "CodeShrinker$Families" ⟨"CodeShrinker$Families", "relatedTo", "(I)I"⟩ ⟨"CodeShrinker$Families", "relatedTo", "(I)I"⟩) ∈ vT := vT_sel 14 rfl rfl
theorem ks_Fa_Fa_leastFreeName : (Cond.selects "CodeShrinker$Families" ⟨"CodeShrinker$Families", "leastFreeName", "(I)I"⟩ ⟨"CodeShrinker$Families", "leastFreeName", "(I)I"⟩) ∈ vT := vT_sel 15 rfl rfl
theorem ks_Fa_Fa_writeItems : (Cond.selects "CodeShrinker$Families" ⟨"CodeShrinker$Families", "writeItems", "(LCodeShrinker$ProgramMethod;)V"⟩ ⟨"CodeShrinker$Families", "writeItems", "(LCodeShrinker$ProgramMethod;)V"⟩) ∈ vT := vT_sel 16 rfl rfl
theorem ks_Fa_Fa_newNameOf : (Cond.selects "CodeShrinker$Families" ⟨"CodeShrinker$Families", "newNameOf", "(LCodeShrinker$ProgramClass;II)I"⟩ ⟨"CodeShrinker$Families", "newNameOf", "(LCodeShrinker$ProgramClass;II)I"⟩) ∈ vT := vT_sel 17 rfl rfl
theorem ks_Cs_Cs_parentOf : (Cond.selects "CodeShrinker" ⟨"CodeShrinker", "parentOf", "(I)I"⟩ ⟨"CodeShrinker", "parentOf", "(I)I"⟩) ∈ vT := vT_sel 18 rfl rfl
theorem ks_Cs_Cs_isClass : (Cond.selects "CodeShrinker" ⟨"CodeShrinker", "isClass", "(I)Z"⟩ ⟨"CodeShrinker", "isClass", "(I)Z"⟩) ∈ vT := vT_sel 19 rfl rfl
theorem ks_Th_Th_fillInStackTrace_I_Ljava_lang_Throwable_ : (Cond.selects "java/lang/Throwable" ⟨"java/lang/Throwable", "fillInStackTrace", "(I)Ljava/lang/Throwable;"⟩ ⟨"java/lang/Throwable", "fillInStackTrace", "(I)Ljava/lang/Throwable;"⟩) ∈ vT := vT_sel 20 rfl rfl
theorem ks_Al_Al_add2 : (Cond.selects "java/util/ArrayList" ⟨"java/util/ArrayList", "add", "(Ljava/lang/Object;[Ljava/lang/Object;I)V"⟩ ⟨"java/util/ArrayList", "add", "(Ljava/lang/Object;[Ljava/lang/Object;I)V"⟩) ∈ vT := vT_sel 21 rfl rfl
theorem ks_Al_Al_grow : (Cond.selects "java/util/ArrayList" ⟨"java/util/ArrayList", "grow", "()[Ljava/lang/Object;"⟩ ⟨"java/util/ArrayList", "grow", "()[Ljava/lang/Object;"⟩) ∈ vT := vT_sel 22 rfl rfl
theorem ks_Al_Al_grow2 : (Cond.selects "java/util/ArrayList" ⟨"java/util/ArrayList", "grow", "(I)[Ljava/lang/Object;"⟩ ⟨"java/util/ArrayList", "grow", "(I)[Ljava/lang/Object;"⟩) ∈ vT := vT_sel 23 rfl rfl
theorem ks_Cs_Cs_isMethod : (Cond.selects "CodeShrinker" ⟨"CodeShrinker", "isMethod", "(I)Z"⟩ ⟨"CodeShrinker", "isMethod", "(I)Z"⟩) ∈ vT := vT_sel 24 rfl rfl
theorem ks_Cs_Cs_isItem : (Cond.selects "CodeShrinker" ⟨"CodeShrinker", "isItem", "(IIII)Z"⟩ ⟨"CodeShrinker", "isItem", "(IIII)Z"⟩) ∈ vT := vT_sel 25 rfl rfl
theorem ks_Cs_Cs_newItem : (Cond.selects "CodeShrinker" ⟨"CodeShrinker", "newItem", "(IIII)LCodeShrinker$Item;"⟩ ⟨"CodeShrinker", "newItem", "(IIII)LCodeShrinker$Item;"⟩) ∈ vT := vT_sel 26 rfl rfl
theorem ks_Ru_Ru_perform : (Cond.selects "CodeShrinker$Runner" ⟨"CodeShrinker$Runner", "perform", "(LCodeShrinker$ProgramClass;III)V"⟩ ⟨"CodeShrinker$Runner", "perform", "(LCodeShrinker$ProgramClass;III)V"⟩) ∈ vT := vT_sel 27 rfl rfl
theorem ks_Ru_Ru_performItem : (Cond.selects "CodeShrinker$Runner" ⟨"CodeShrinker$Runner", "performItem", "(LCodeShrinker$Item;LCodeShrinker$ProgramClass;I)V"⟩ ⟨"CodeShrinker$Runner", "performItem", "(LCodeShrinker$Item;LCodeShrinker$ProgramClass;I)V"⟩) ∈ vT := vT_sel 28 rfl rfl
theorem ks_Mo_Mo_isClass : (Cond.selects "CodeShrinkerModel" ⟨"CodeShrinkerModel", "isClass", "(I)Z"⟩ ⟨"CodeShrinkerModel", "isClass", "(I)Z"⟩) ∈ vT := vT_sel 29 rfl rfl
theorem ks_Mo_Mo_bad : (Cond.selects "CodeShrinkerModel" ⟨"CodeShrinkerModel", "bad", "(Z)Z"⟩ ⟨"CodeShrinkerModel", "bad", "(Z)Z"⟩) ∈ vT := vT_sel 30 rfl rfl
theorem ks_Mo_Mo_fail : (Cond.selects "CodeShrinkerModel" ⟨"CodeShrinkerModel", "fail", "(I)I"⟩ ⟨"CodeShrinkerModel", "fail", "(I)I"⟩) ∈ vT := vT_sel 31 rfl rfl
theorem ks_Mo_Mo_own : (Cond.selects "CodeShrinkerModel" ⟨"CodeShrinkerModel", "own", "(III)I"⟩ ⟨"CodeShrinkerModel", "own", "(III)I"⟩) ∈ vT := vT_sel 32 rfl rfl
theorem ks_Mo_Mo_isMethod : (Cond.selects "CodeShrinkerModel" ⟨"CodeShrinkerModel", "isMethod", "(I)Z"⟩ ⟨"CodeShrinkerModel", "isMethod", "(I)Z"⟩) ∈ vT := vT_sel 33 rfl rfl
theorem ks_Mo_Mo_find : (Cond.selects "CodeShrinkerModel" ⟨"CodeShrinkerModel", "find", "(III)I"⟩ ⟨"CodeShrinkerModel", "find", "(III)I"⟩) ∈ vT := vT_sel 34 rfl rfl
theorem ks_Mo_Mo_findLive : (Cond.selects "CodeShrinkerModel" ⟨"CodeShrinkerModel", "findLive", "()V"⟩ ⟨"CodeShrinkerModel", "findLive", "()V"⟩) ∈ vT := vT_sel 35 rfl rfl
theorem ks_Mo_Mo_need : (Cond.selects "CodeShrinkerModel" ⟨"CodeShrinkerModel", "need", "(II)Z"⟩ ⟨"CodeShrinkerModel", "need", "(II)Z"⟩) ∈ vT := vT_sel 36 rfl rfl
theorem ks_Mo_Mo_enliven : (Cond.selects "CodeShrinkerModel" ⟨"CodeShrinkerModel", "enliven", "(II)Z"⟩ ⟨"CodeShrinkerModel", "enliven", "(II)Z"⟩) ∈ vT := vT_sel 37 rfl rfl
theorem ks_Mo_Mo_above : (Cond.selects "CodeShrinkerModel" ⟨"CodeShrinkerModel", "above", "(II)Z"⟩ ⟨"CodeShrinkerModel", "above", "(II)Z"⟩) ∈ vT := vT_sel 38 rfl rfl
theorem ks_Mo_Mo_moveMethod : (Cond.selects "CodeShrinkerModel" ⟨"CodeShrinkerModel", "moveMethod", "(II)V"⟩ ⟨"CodeShrinkerModel", "moveMethod", "(II)V"⟩) ∈ vT := vT_sel 39 rfl rfl
theorem ks_Mo_Mo_gather : (Cond.selects "CodeShrinkerModel" ⟨"CodeShrinkerModel", "gather", "()I"⟩ ⟨"CodeShrinkerModel", "gather", "()I"⟩) ∈ vT := vT_sel 40 rfl rfl
theorem ks_Mo_Mo_member : (Cond.selects "CodeShrinkerModel" ⟨"CodeShrinkerModel", "member", "(IIII)V"⟩ ⟨"CodeShrinkerModel", "member", "(IIII)V"⟩) ∈ vT := vT_sel 41 rfl rfl
theorem ks_Mo_Mo_alike : (Cond.selects "CodeShrinkerModel" ⟨"CodeShrinkerModel", "alike", "(II)Z"⟩ ⟨"CodeShrinkerModel", "alike", "(II)Z"⟩) ∈ vT := vT_sel 42 rfl rfl
theorem ks_Mo_Mo_related : (Cond.selects "CodeShrinkerModel" ⟨"CodeShrinkerModel", "related", "(II)Z"⟩ ⟨"CodeShrinkerModel", "related", "(II)Z"⟩) ∈ vT := vT_sel 43 rfl rfl
theorem ks_Mo_Mo_keptFamily : (Cond.selects "CodeShrinkerModel" ⟨"CodeShrinkerModel", "keptFamily", "(I)Z"⟩ ⟨"CodeShrinkerModel", "keptFamily", "(I)Z"⟩) ∈ vT := vT_sel 44 rfl rfl
theorem ks_Mo_Mo_freeName : (Cond.selects "CodeShrinkerModel" ⟨"CodeShrinkerModel", "freeName", "(II)I"⟩ ⟨"CodeShrinkerModel", "freeName", "(II)I"⟩) ∈ vT := vT_sel 45 rfl rfl
theorem ks_Mo_Mo_clash : (Cond.selects "CodeShrinkerModel" ⟨"CodeShrinkerModel", "clash", "(III)Z"⟩ ⟨"CodeShrinkerModel", "clash", "(III)Z"⟩) ∈ vT := vT_sel 46 rfl rfl
theorem i_Fa : ∀ w ∈ u_ws R_Fa F_Fa 8, w ∈ vT := by decide +kernel
theorem i_It : ∀ w ∈ u_ws R_It F_It 5, w ∈ vT := by decide +kernel
theorem i_Pr : ∀ w ∈ u_ws R_Pr F_Pr 2, w ∈ vT := by decide +kernel
theorem i_Pc : ∀ w ∈ u_ws R_Pc F_Pc 5, w ∈ vT := by decide +kernel
theorem i_Pm : ∀ w ∈ u_ws R_Pm F_Pm 8, w ∈ vT := by decide +kernel
theorem i_Re : ∀ w ∈ u_ws R_Re F_Re 2, w ∈ vT := by decide +kernel
theorem i_Ru : ∀ w ∈ u_ws R_Ru F_Ru 2, w ∈ vT := by decide +kernel
theorem i_Cs : ∀ w ∈ u_ws R_Cs F_Cs 5, w ∈ vT := by decide +kernel
theorem i_Mo : ∀ w ∈ u_ws R_Mo F_Mo 31, w ∈ vT := by decide +kernel
theorem i_Al : ∀ w ∈ u_ws R_Al F_Al 3, w ∈ vT := by decide +kernel
end
section
theorem d_Ob_init_0 : decode b_Ob_init 0 = .ok (.return_, 1) := by decide +kernel
theorem d_Pr_init_0 : decode b_Pr_init 0 = .ok (.aload_n 0, 1) := by decide +kernel
theorem d_Pr_init_1 : decode b_Pr_init 1 = .ok (.invokespecial 1, 3) := by decide +kernel
theorem d_Pr_init_4 : decode b_Pr_init 4 = .ok (.aload_n 0, 1) := by decide +kernel
theorem d_Pr_init_5 : decode b_Pr_init 5 = .ok (.new 7, 3) := by decide +kernel
theorem d_Pr_init_8 : decode b_Pr_init 8 = .ok (.dup, 1) := by decide +kernel
theorem d_Pr_init_9 : decode b_Pr_init 9 = .ok (.invokespecial 9, 3) := by decide +kernel
theorem d_Pr_init_12 : decode b_Pr_init 12 = .ok (.putfield 10, 3) := by decide +kernel
theorem d_Pr_init_15 : decode b_Pr_init 15 = .ok (.aload_n 0, 1) := by decide +kernel
theorem d_Pr_init_16 : decode b_Pr_init 16 = .ok (.new 7, 3) := by decide +kernel
theorem d_Pr_init_19 : decode b_Pr_init 19 = .ok (.dup, 1) := by decide +kernel
theorem d_Pr_init_20 : decode b_Pr_init 20 = .ok (.invokespecial 9, 3) := by decide +kernel
theorem d_Pr_init_23 : decode b_Pr_init 23 = .ok (.putfield 16, 3) := by decide +kernel
theorem d_Pr_init_26 : decode b_Pr_init 26 = .ok (.return_, 1) := by decide +kernel
theorem d_Al_init_0 : decode b_Al_init 0 = .ok (.aload_n 0, 1) := by decide +kernel
theorem d_Al_init_1 : decode b_Al_init 1 = .ok (.invokespecial 1, 3) := by decide +kernel
theorem d_Al_init_4 : decode b_Al_init 4 = .ok (.aload_n 0, 1) := by decide +kernel
theorem d_Al_init_5 : decode b_Al_init 5 = .ok (.getstatic 39, 3) := by decide +kernel
theorem d_Al_init_8 : decode b_Al_init 8 = .ok (.putfield 9, 3) := by decide +kernel
theorem d_Al_init_11 : decode b_Al_init 11 = .ok (.return_, 1) := by decide +kernel
theorem d_Ab_init_0 : decode b_Ab_init 0 = .ok (.aload_n 0, 1) := by decide +kernel
theorem d_Ab_init_1 : decode b_Ab_init 1 = .ok (.invokespecial 1, 3) := by decide +kernel
theorem d_Ab_init_4 : decode b_Ab_init 4 = .ok (.aload_n 0, 1) := by decide +kernel
theorem d_Ab_init_5 : decode b_Ab_init 5 = .ok (.iconst 0, 1) := by decide +kernel
theorem d_Ab_init_6 : decode b_Ab_init 6 = .ok (.putfield 7, 3) := by decide +kernel
theorem d_Ab_init_9 : decode b_Ab_init 9 = .ok (.return_, 1) := by decide +kernel
theorem d_Ac_init_0 : decode b_Ac_init 0 = .ok (.aload_n 0, 1) := by decide +kernel
theorem d_Ac_init_1 : decode b_Ac_init 1 = .ok (.invokespecial 1, 3) := by decide +kernel
theorem d_Ac_init_4 : decode b_Ac_init 4 = .ok (.return_, 1) := by decide +kernel
theorem d_Ru_init_0 : decode b_Ru_init 0 = .ok (.aload_n 0, 1) := by decide +kernel
theorem d_Ru_init_1 : decode b_Ru_init 1 = .ok (.invokespecial 3, 3) := by decide +kernel
theorem d_Ru_init_4 : decode b_Ru_init 4 = .ok (.return_, 1) := by decide +kernel
theorem d_Re_init_0 : decode b_Re_init 0 = .ok (.aload_n 0, 1) := by decide +kernel
theorem d_Re_init_1 : decode b_Re_init 1 = .ok (.invokespecial 3, 3) := by decide +kernel
theorem d_Re_init_4 : decode b_Re_init 4 = .ok (.aload_n 0, 1) := by decide +kernel
theorem d_Re_init_5 : decode b_Re_init 5 = .ok (.aload_n 1, 1) := by decide +kernel
theorem d_Re_init_6 : decode b_Re_init 6 = .ok (.putfield 9, 3) := by decide +kernel
theorem d_Re_init_9 : decode b_Re_init 9 = .ok (.aload_n 0, 1) := by decide +kernel
theorem d_Re_init_10 : decode b_Re_init 10 = .ok (.iconst 0, 1) := by decide +kernel
theorem d_Re_init_11 : decode b_Re_init 11 = .ok (.putfield 15, 3) := by decide +kernel
theorem d_Re_init_14 : decode b_Re_init 14 = .ok (.return_, 1) := by decide +kernel
theorem d_Al_size_0 : decode b_Al_size 0 = .ok (.aload_n 0, 1) := by decide +kernel
theorem d_Al_size_1 : decode b_Al_size 1 = .ok (.getfield 48, 3) := by decide +kernel
theorem d_Al_size_4 : decode b_Al_size 4 = .ok (.ireturn, 1) := by decide +kernel
theorem d_Re_mark_0 : decode b_Re_mark 0 = .ok (.aload_n 0, 1) := by decide +kernel
theorem d_Re_mark_1 : decode b_Re_mark 1 = .ok (.invokevirtual 19, 3) := by decide +kernel
theorem d_Re_mark_4 : decode b_Re_mark 4 = .ok (.aload_n 0, 1) := by decide +kernel
theorem d_Re_mark_5 : decode b_Re_mark 5 = .ok (.invokevirtual 22, 3) := by decide +kernel
theorem d_Re_mark_8 : decode b_Re_mark 8 = .ok (.aload_n 0, 1) := by decide +kernel
theorem d_Re_mark_9 : decode b_Re_mark 9 = .ok (.iconst 1, 1) := by decide +kernel
theorem d_Re_mark_10 : decode b_Re_mark 10 = .ok (.putfield 15, 3) := by decide +kernel
theorem d_Re_mark_13 : decode b_Re_mark 13 = .ok (.iconst 0, 1) := by decide +kernel
theorem d_Re_mark_14 : decode b_Re_mark 14 = .ok (.istore_n 1, 1) := by decide +kernel
theorem d_Re_mark_15 : decode b_Re_mark 15 = .ok (.aload_n 0, 1) := by decide +kernel
theorem d_Re_mark_16 : decode b_Re_mark 16 = .ok (.getfield 15, 3) := by decide +kernel
theorem d_Re_mark_19 : decode b_Re_mark 19 = .ok (.ifCond .eq 24, 3) := by decide +kernel
theorem d_Re_mark_22 : decode b_Re_mark 22 = .ok (.iload_n 1, 1) := by decide +kernel
theorem d_Re_mark_23 : decode b_Re_mark 23 = .ok (.bipush 32, 2) := by decide +kernel
theorem d_Re_mark_25 : decode b_Re_mark 25 = .ok (.if_icmp .gt 18, 3) := by decide +kernel
theorem d_Re_mark_28 : decode b_Re_mark 28 = .ok (.aload_n 0, 1) := by decide +kernel
theorem d_Re_mark_29 : decode b_Re_mark 29 = .ok (.iconst 0, 1) := by decide +kernel
theorem d_Re_mark_30 : decode b_Re_mark 30 = .ok (.putfield 15, 3) := by decide +kernel
theorem d_Re_mark_33 : decode b_Re_mark 33 = .ok (.aload_n 0, 1) := by decide +kernel
theorem d_Re_mark_34 : decode b_Re_mark 34 = .ok (.invokevirtual 25, 3) := by decide +kernel
theorem d_Re_mark_37 : decode b_Re_mark 37 = .ok (.iinc 1 1, 3) := by decide +kernel
theorem d_Re_mark_40 : decode b_Re_mark 40 = .ok (.goto (-25), 3) := by decide +kernel
theorem d_Re_mark_43 : decode b_Re_mark 43 = .ok (.return_, 1) := by decide +kernel
theorem d_Re_clearMarks_0 : decode b_Re_clearMarks 0 = .ok (.iconst 0, 1) := by decide +kernel
theorem d_Re_clearMarks_1 : decode b_Re_clearMarks 1 = .ok (.istore_n 1, 1) := by decide +kernel
theorem d_Re_clearMarks_2 : decode b_Re_clearMarks 2 = .ok (.iload_n 1, 1) := by decide +kernel
theorem d_Re_clearMarks_3 : decode b_Re_clearMarks 3 = .ok (.aload_n 0, 1) := by decide +kernel
theorem d_Re_clearMarks_4 : decode b_Re_clearMarks 4 = .ok (.getfield 9, 3) := by decide +kernel
theorem d_Re_clearMarks_7 : decode b_Re_clearMarks 7 = .ok (.getfield 28, 3) := by decide +kernel
theorem d_Re_clearMarks_10 : decode b_Re_clearMarks 10 = .ok (.invokevirtual 34, 3) := by decide +kernel
theorem d_Re_clearMarks_13 : decode b_Re_clearMarks 13 = .ok (.if_icmp .ge 27, 3) := by decide +kernel
theorem d_Re_clearMarks_16 : decode b_Re_clearMarks 16 = .ok (.aload_n 0, 1) := by decide +kernel
theorem d_Re_clearMarks_17 : decode b_Re_clearMarks 17 = .ok (.getfield 9, 3) := by decide +kernel
theorem d_Re_clearMarks_20 : decode b_Re_clearMarks 20 = .ok (.getfield 28, 3) := by decide +kernel
theorem d_Re_clearMarks_23 : decode b_Re_clearMarks 23 = .ok (.iload_n 1, 1) := by decide +kernel
theorem d_Re_clearMarks_24 : decode b_Re_clearMarks 24 = .ok (.invokevirtual 40, 3) := by decide +kernel
theorem d_Re_clearMarks_27 : decode b_Re_clearMarks 27 = .ok (.checkcast 44, 3) := by decide +kernel
theorem d_Re_clearMarks_30 : decode b_Re_clearMarks 30 = .ok (.iconst 0, 1) := by decide +kernel
theorem d_Re_clearMarks_31 : decode b_Re_clearMarks 31 = .ok (.putfield 46, 3) := by decide +kernel
theorem d_Re_clearMarks_34 : decode b_Re_clearMarks 34 = .ok (.iinc 1 1, 3) := by decide +kernel
theorem d_Re_clearMarks_37 : decode b_Re_clearMarks 37 = .ok (.goto (-35), 3) := by decide +kernel
theorem d_Re_clearMarks_40 : decode b_Re_clearMarks 40 = .ok (.iconst 0, 1) := by decide +kernel
theorem d_Re_clearMarks_41 : decode b_Re_clearMarks 41 = .ok (.istore_n 1, 1) := by decide +kernel
theorem d_Re_clearMarks_42 : decode b_Re_clearMarks 42 = .ok (.iload_n 1, 1) := by decide +kernel
theorem d_Re_clearMarks_43 : decode b_Re_clearMarks 43 = .ok (.aload_n 0, 1) := by decide +kernel
theorem d_Re_clearMarks_44 : decode b_Re_clearMarks 44 = .ok (.getfield 9, 3) := by decide +kernel
theorem d_Re_clearMarks_47 : decode b_Re_clearMarks 47 = .ok (.getfield 49, 3) := by decide +kernel
theorem d_Re_clearMarks_50 : decode b_Re_clearMarks 50 = .ok (.invokevirtual 34, 3) := by decide +kernel
theorem d_Re_clearMarks_53 : decode b_Re_clearMarks 53 = .ok (.if_icmp .ge 27, 3) := by decide +kernel
theorem d_Re_clearMarks_56 : decode b_Re_clearMarks 56 = .ok (.aload_n 0, 1) := by decide +kernel
theorem d_Re_clearMarks_57 : decode b_Re_clearMarks 57 = .ok (.getfield 9, 3) := by decide +kernel
theorem d_Re_clearMarks_60 : decode b_Re_clearMarks 60 = .ok (.getfield 49, 3) := by decide +kernel
theorem d_Re_clearMarks_63 : decode b_Re_clearMarks 63 = .ok (.iload_n 1, 1) := by decide +kernel
theorem d_Re_clearMarks_64 : decode b_Re_clearMarks 64 = .ok (.invokevirtual 40, 3) := by decide +kernel
theorem d_Re_clearMarks_67 : decode b_Re_clearMarks 67 = .ok (.checkcast 52, 3) := by decide +kernel
theorem d_Re_clearMarks_70 : decode b_Re_clearMarks 70 = .ok (.iconst 0, 1) := by decide +kernel
theorem d_Re_clearMarks_71 : decode b_Re_clearMarks 71 = .ok (.putfield 54, 3) := by decide +kernel
theorem d_Re_clearMarks_74 : decode b_Re_clearMarks 74 = .ok (.iinc 1 1, 3) := by decide +kernel
theorem d_Re_clearMarks_77 : decode b_Re_clearMarks 77 = .ok (.goto (-35), 3) := by decide +kernel
theorem d_Re_clearMarks_80 : decode b_Re_clearMarks 80 = .ok (.return_, 1) := by decide +kernel
theorem d_Al_get_0 : decode b_Al_get 0 = .ok (.iload_n 1, 1) := by decide +kernel
theorem d_Al_get_1 : decode b_Al_get 1 = .ok (.aload_n 0, 1) := by decide +kernel
theorem d_Al_get_2 : decode b_Al_get 2 = .ok (.getfield 48, 3) := by decide +kernel
theorem d_Al_get_5 : decode b_Al_get 5 = .ok (.invokestatic 118, 3) := by decide +kernel
theorem d_Al_get_8 : decode b_Al_get 8 = .ok (.pop, 1) := by decide +kernel
theorem d_Al_get_9 : decode b_Al_get 9 = .ok (.aload_n 0, 1) := by decide +kernel
theorem d_Al_get_10 : decode b_Al_get 10 = .ok (.iload_n 1, 1) := by decide +kernel
theorem d_Al_get_11 : decode b_Al_get 11 = .ok (.invokevirtual 123, 3) := by decide +kernel
theorem d_Al_get_14 : decode b_Al_get 14 = .ok (.areturn, 1) := by decide +kernel
theorem d_Os_checkIndex_0 : decode b_Os_checkIndex 0 = .ok (.iload_n 0, 1) := by decide +kernel
theorem d_Os_checkIndex_1 : decode b_Os_checkIndex 1 = .ok (.iload_n 1, 1) := by decide +kernel
theorem d_Os_checkIndex_2 : decode b_Os_checkIndex 2 = .ok (.aconst_null, 1) := by decide +kernel
theorem d_Os_checkIndex_3 : decode b_Os_checkIndex 3 = .ok (.invokestatic 105, 3) := by decide +kernel
theorem d_Os_checkIndex_6 : decode b_Os_checkIndex 6 = .ok (.ireturn, 1) := by decide +kernel
theorem d_Pd_checkIndex_0 : decode b_Pd_checkIndex 0 = .ok (.iload_n 0, 1) := by decide +kernel
theorem d_Pd_checkIndex_1 : decode b_Pd_checkIndex 1 = .ok (.ifCond .lt 8, 3) := by decide +kernel
theorem d_Pd_checkIndex_4 : decode b_Pd_checkIndex 4 = .ok (.iload_n 0, 1) := by decide +kernel
theorem d_Pd_checkIndex_5 : decode b_Pd_checkIndex 5 = .ok (.iload_n 1, 1) := by decide +kernel
theorem d_Pd_checkIndex_6 : decode b_Pd_checkIndex 6 = .ok (.if_icmp .lt 10, 3) := by decide +kernel
theorem d_Pd_checkIndex_9 : decode b_Pd_checkIndex 9 = .ok (.aload_n 2, 1) := by decide +kernel
theorem d_Pd_checkIndex_10 : decode b_Pd_checkIndex 10 = .ok (.iload_n 0, 1) := by decide +kernel
theorem d_Pd_checkIndex_11 : decode b_Pd_checkIndex 11 = .ok (.iload_n 1, 1) := by decide +kernel
theorem d_Pd_checkIndex_12 : decode b_Pd_checkIndex 12 = .ok (.invokestatic 95, 3) := by decide +kernel
theorem d_Pd_checkIndex_15 : decode b_Pd_checkIndex 15 = .ok (.athrow, 1) := by decide +kernel
theorem d_Pd_checkIndex_16 : decode b_Pd_checkIndex 16 = .ok (.iload_n 0, 1) := by decide +kernel
theorem d_Pd_checkIndex_17 : decode b_Pd_checkIndex 17 = .ok (.ireturn, 1) := by decide +kernel
theorem d_Al_elementData_0 : decode b_Al_elementData 0 = .ok (.aload_n 0, 1) := by decide +kernel
theorem d_Al_elementData_1 : decode b_Al_elementData 1 = .ok (.getfield 9, 3) := by decide +kernel
theorem d_Al_elementData_4 : decode b_Al_elementData 4 = .ok (.iload_n 1, 1) := by decide +kernel
theorem d_Al_elementData_5 : decode b_Al_elementData 5 = .ok (.aaload, 1) := by decide +kernel
theorem d_Al_elementData_6 : decode b_Al_elementData 6 = .ok (.areturn, 1) := by decide +kernel
theorem d_Re_markKept_0 : decode b_Re_markKept 0 = .ok (.iconst 0, 1) := by decide +kernel
theorem d_Re_markKept_1 : decode b_Re_markKept 1 = .ok (.istore_n 1, 1) := by decide +kernel
theorem d_Re_markKept_2 : decode b_Re_markKept 2 = .ok (.iload_n 1, 1) := by decide +kernel
theorem d_Re_markKept_3 : decode b_Re_markKept 3 = .ok (.aload_n 0, 1) := by decide +kernel
theorem d_Re_markKept_4 : decode b_Re_markKept 4 = .ok (.getfield 9, 3) := by decide +kernel
theorem d_Re_markKept_7 : decode b_Re_markKept 7 = .ok (.getfield 49, 3) := by decide +kernel
theorem d_Re_markKept_10 : decode b_Re_markKept 10 = .ok (.invokevirtual 34, 3) := by decide +kernel
theorem d_Re_markKept_13 : decode b_Re_markKept 13 = .ok (.if_icmp .ge 44, 3) := by decide +kernel
theorem d_Re_markKept_16 : decode b_Re_markKept 16 = .ok (.aload_n 0, 1) := by decide +kernel
theorem d_Re_markKept_17 : decode b_Re_markKept 17 = .ok (.getfield 9, 3) := by decide +kernel
theorem d_Re_markKept_20 : decode b_Re_markKept 20 = .ok (.getfield 49, 3) := by decide +kernel
theorem d_Re_markKept_23 : decode b_Re_markKept 23 = .ok (.iload_n 1, 1) := by decide +kernel
theorem d_Re_markKept_24 : decode b_Re_markKept 24 = .ok (.invokevirtual 40, 3) := by decide +kernel
theorem d_Re_markKept_27 : decode b_Re_markKept 27 = .ok (.checkcast 52, 3) := by decide +kernel
theorem d_Re_markKept_30 : decode b_Re_markKept 30 = .ok (.astore_n 2, 1) := by decide +kernel
theorem d_Re_markKept_31 : decode b_Re_markKept 31 = .ok (.aload_n 2, 1) := by decide +kernel
theorem d_Re_markKept_32 : decode b_Re_markKept 32 = .ok (.getfield 57, 3) := by decide +kernel
theorem d_Re_markKept_35 : decode b_Re_markKept 35 = .ok (.ifCond .eq 16, 3) := by decide +kernel
theorem d_Re_markKept_38 : decode b_Re_markKept 38 = .ok (.aload_n 0, 1) := by decide +kernel
theorem d_Re_markKept_39 : decode b_Re_markKept 39 = .ok (.aload_n 2, 1) := by decide +kernel
theorem d_Re_markKept_40 : decode b_Re_markKept 40 = .ok (.invokevirtual 60, 3) := by decide +kernel
theorem d_Re_markKept_43 : decode b_Re_markKept 43 = .ok (.aload_n 0, 1) := by decide +kernel
theorem d_Re_markKept_44 : decode b_Re_markKept 44 = .ok (.aload_n 2, 1) := by decide +kernel
theorem d_Re_markKept_45 : decode b_Re_markKept 45 = .ok (.getfield 64, 3) := by decide +kernel
theorem d_Re_markKept_48 : decode b_Re_markKept 48 = .ok (.invokevirtual 68, 3) := by decide +kernel
theorem d_Re_markKept_51 : decode b_Re_markKept 51 = .ok (.iinc 1 1, 3) := by decide +kernel
theorem d_Re_markKept_54 : decode b_Re_markKept 54 = .ok (.goto (-52), 3) := by decide +kernel
theorem d_Re_markKept_57 : decode b_Re_markKept 57 = .ok (.return_, 1) := by decide +kernel
theorem d_Re_markLive_0 : decode b_Re_markLive 0 = .ok (.aload_n 1, 1) := by decide +kernel
theorem d_Re_markLive_1 : decode b_Re_markLive 1 = .ok (.ifnull 20, 3) := by decide +kernel
theorem d_Re_markLive_4 : decode b_Re_markLive 4 = .ok (.aload_n 1, 1) := by decide +kernel
theorem d_Re_markLive_5 : decode b_Re_markLive 5 = .ok (.getfield 54, 3) := by decide +kernel
theorem d_Re_markLive_8 : decode b_Re_markLive 8 = .ok (.ifCond .ne 13, 3) := by decide +kernel
theorem d_Re_markLive_11 : decode b_Re_markLive 11 = .ok (.aload_n 1, 1) := by decide +kernel
theorem d_Re_markLive_12 : decode b_Re_markLive 12 = .ok (.iconst 1, 1) := by decide +kernel
theorem d_Re_markLive_13 : decode b_Re_markLive 13 = .ok (.putfield 54, 3) := by decide +kernel
theorem d_Re_markLive_16 : decode b_Re_markLive 16 = .ok (.aload_n 0, 1) := by decide +kernel
theorem d_Re_markLive_17 : decode b_Re_markLive 17 = .ok (.iconst 1, 1) := by decide +kernel
theorem d_Re_markLive_18 : decode b_Re_markLive 18 = .ok (.putfield 15, 3) := by decide +kernel
theorem d_Re_markLive_21 : decode b_Re_markLive 21 = .ok (.return_, 1) := by decide +kernel
theorem d_Re_markMade_0 : decode b_Re_markMade 0 = .ok (.aload_n 1, 1) := by decide +kernel
theorem d_Re_markMade_1 : decode b_Re_markMade 1 = .ok (.getfield 46, 3) := by decide +kernel
theorem d_Re_markMade_4 : decode b_Re_markMade 4 = .ok (.ifCond .ne 13, 3) := by decide +kernel
theorem d_Re_markMade_7 : decode b_Re_markMade 7 = .ok (.aload_n 1, 1) := by decide +kernel
theorem d_Re_markMade_8 : decode b_Re_markMade 8 = .ok (.iconst 1, 1) := by decide +kernel
theorem d_Re_markMade_9 : decode b_Re_markMade 9 = .ok (.putfield 46, 3) := by decide +kernel
theorem d_Re_markMade_12 : decode b_Re_markMade 12 = .ok (.aload_n 0, 1) := by decide +kernel
theorem d_Re_markMade_13 : decode b_Re_markMade 13 = .ok (.iconst 1, 1) := by decide +kernel
theorem d_Re_markMade_14 : decode b_Re_markMade 14 = .ok (.putfield 15, 3) := by decide +kernel
theorem d_Re_markMade_17 : decode b_Re_markMade 17 = .ok (.return_, 1) := by decide +kernel
theorem d_Re_spreadFromLive_0 : decode b_Re_spreadFromLive 0 = .ok (.iconst 0, 1) := by decide +kernel
theorem d_Re_spreadFromLive_1 : decode b_Re_spreadFromLive 1 = .ok (.istore_n 1, 1) := by decide +kernel
theorem d_Re_spreadFromLive_2 : decode b_Re_spreadFromLive 2 = .ok (.iload_n 1, 1) := by decide +kernel
theorem d_Re_spreadFromLive_3 : decode b_Re_spreadFromLive 3 = .ok (.aload_n 0, 1) := by decide +kernel
theorem d_Re_spreadFromLive_4 : decode b_Re_spreadFromLive 4 = .ok (.getfield 9, 3) := by decide +kernel
theorem d_Re_spreadFromLive_7 : decode b_Re_spreadFromLive 7 = .ok (.getfield 49, 3) := by decide +kernel
theorem d_Re_spreadFromLive_10 : decode b_Re_spreadFromLive 10 = .ok (.invokevirtual 34, 3) := by decide +kernel
theorem d_Re_spreadFromLive_13 : decode b_Re_spreadFromLive 13 = .ok (.if_icmp .ge 36, 3) := by decide +kernel
theorem d_Re_spreadFromLive_16 : decode b_Re_spreadFromLive 16 = .ok (.aload_n 0, 1) := by decide +kernel
theorem d_Re_spreadFromLive_17 : decode b_Re_spreadFromLive 17 = .ok (.getfield 9, 3) := by decide +kernel
theorem d_Re_spreadFromLive_20 : decode b_Re_spreadFromLive 20 = .ok (.getfield 49, 3) := by decide +kernel
theorem d_Re_spreadFromLive_23 : decode b_Re_spreadFromLive 23 = .ok (.iload_n 1, 1) := by decide +kernel
theorem d_Re_spreadFromLive_24 : decode b_Re_spreadFromLive 24 = .ok (.invokevirtual 40, 3) := by decide +kernel
theorem d_Re_spreadFromLive_27 : decode b_Re_spreadFromLive 27 = .ok (.checkcast 52, 3) := by decide +kernel
theorem d_Re_spreadFromLive_30 : decode b_Re_spreadFromLive 30 = .ok (.astore_n 2, 1) := by decide +kernel
theorem d_Re_spreadFromLive_31 : decode b_Re_spreadFromLive 31 = .ok (.aload_n 2, 1) := by decide +kernel
theorem d_Re_spreadFromLive_32 : decode b_Re_spreadFromLive 32 = .ok (.getfield 54, 3) := by decide +kernel
theorem d_Re_spreadFromLive_35 : decode b_Re_spreadFromLive 35 = .ok (.ifCond .eq 8, 3) := by decide +kernel
theorem d_Re_spreadFromLive_38 : decode b_Re_spreadFromLive 38 = .ok (.aload_n 0, 1) := by decide +kernel
theorem d_Re_spreadFromLive_39 : decode b_Re_spreadFromLive 39 = .ok (.aload_n 2, 1) := by decide +kernel
theorem d_Re_spreadFromLive_40 : decode b_Re_spreadFromLive 40 = .ok (.invokevirtual 72, 3) := by decide +kernel
theorem d_Re_spreadFromLive_43 : decode b_Re_spreadFromLive 43 = .ok (.iinc 1 1, 3) := by decide +kernel
theorem d_Re_spreadFromLive_46 : decode b_Re_spreadFromLive 46 = .ok (.goto (-44), 3) := by decide +kernel
theorem d_Re_spreadFromLive_49 : decode b_Re_spreadFromLive 49 = .ok (.return_, 1) := by decide +kernel
theorem d_Re_spread_0 : decode b_Re_spread 0 = .ok (.iconst 0, 1) := by decide +kernel
theorem d_Re_spread_1 : decode b_Re_spread 1 = .ok (.istore_n 2, 1) := by decide +kernel
theorem d_Re_spread_2 : decode b_Re_spread 2 = .ok (.iload_n 2, 1) := by decide +kernel
theorem d_Re_spread_3 : decode b_Re_spread 3 = .ok (.aload_n 1, 1) := by decide +kernel
theorem d_Re_spread_4 : decode b_Re_spread 4 = .ok (.getfield 75, 3) := by decide +kernel
theorem d_Re_spread_7 : decode b_Re_spread 7 = .ok (.invokevirtual 34, 3) := by decide +kernel
theorem d_Re_spread_10 : decode b_Re_spread 10 = .ok (.if_icmp .ge 75, 3) := by decide +kernel
theorem d_Re_spread_13 : decode b_Re_spread 13 = .ok (.aload_n 1, 1) := by decide +kernel
theorem d_Re_spread_14 : decode b_Re_spread 14 = .ok (.getfield 75, 3) := by decide +kernel
theorem d_Re_spread_17 : decode b_Re_spread 17 = .ok (.iload_n 2, 1) := by decide +kernel
theorem d_Re_spread_18 : decode b_Re_spread 18 = .ok (.invokevirtual 40, 3) := by decide +kernel
theorem d_Re_spread_21 : decode b_Re_spread 21 = .ok (.checkcast 78, 3) := by decide +kernel
theorem d_Re_spread_24 : decode b_Re_spread 24 = .ok (.astore_n 3, 1) := by decide +kernel
theorem d_Re_spread_25 : decode b_Re_spread 25 = .ok (.aload_n 3, 1) := by decide +kernel
theorem d_Re_spread_26 : decode b_Re_spread 26 = .ok (.getfield 80, 3) := by decide +kernel
theorem d_Re_spread_29 : decode b_Re_spread 29 = .ok (.ifnull 33, 3) := by decide +kernel
theorem d_Re_spread_32 : decode b_Re_spread 32 = .ok (.aload_n 0, 1) := by decide +kernel
theorem d_Re_spread_33 : decode b_Re_spread 33 = .ok (.aload_n 3, 1) := by decide +kernel
theorem d_Re_spread_34 : decode b_Re_spread 34 = .ok (.getfield 80, 3) := by decide +kernel
theorem d_Re_spread_37 : decode b_Re_spread 37 = .ok (.invokevirtual 68, 3) := by decide +kernel
theorem d_Re_spread_40 : decode b_Re_spread 40 = .ok (.aload_n 0, 1) := by decide +kernel
theorem d_Re_spread_41 : decode b_Re_spread 41 = .ok (.aload_n 3, 1) := by decide +kernel
theorem d_Re_spread_42 : decode b_Re_spread 42 = .ok (.getfield 80, 3) := by decide +kernel
theorem d_Re_spread_45 : decode b_Re_spread 45 = .ok (.aload_n 3, 1) := by decide +kernel
theorem d_Re_spread_46 : decode b_Re_spread 46 = .ok (.getfield 83, 3) := by decide +kernel
theorem d_Re_spread_49 : decode b_Re_spread 49 = .ok (.aload_n 3, 1) := by decide +kernel
theorem d_Re_spread_50 : decode b_Re_spread 50 = .ok (.getfield 87, 3) := by decide +kernel
theorem d_Re_spread_53 : decode b_Re_spread 53 = .ok (.invokevirtual 90, 3) := by decide +kernel
theorem d_Re_spread_56 : decode b_Re_spread 56 = .ok (.invokevirtual 60, 3) := by decide +kernel
theorem d_Re_spread_59 : decode b_Re_spread 59 = .ok (.goto 20, 3) := by decide +kernel
theorem d_Re_spread_62 : decode b_Re_spread 62 = .ok (.aload_n 3, 1) := by decide +kernel
theorem d_Re_spread_63 : decode b_Re_spread 63 = .ok (.getfield 94, 3) := by decide +kernel
theorem d_Re_spread_66 : decode b_Re_spread 66 = .ok (.iconst 2, 1) := by decide +kernel
theorem d_Re_spread_67 : decode b_Re_spread 67 = .ok (.if_icmp .ne 12, 3) := by decide +kernel
theorem d_Re_spread_70 : decode b_Re_spread 70 = .ok (.aload_n 0, 1) := by decide +kernel
theorem d_Re_spread_71 : decode b_Re_spread 71 = .ok (.aload_n 1, 1) := by decide +kernel
theorem d_Re_spread_72 : decode b_Re_spread 72 = .ok (.getfield 64, 3) := by decide +kernel
theorem d_Re_spread_75 : decode b_Re_spread 75 = .ok (.aload_n 3, 1) := by decide +kernel
theorem d_Re_spread_76 : decode b_Re_spread 76 = .ok (.invokevirtual 97, 3) := by decide +kernel
theorem d_Re_spread_79 : decode b_Re_spread 79 = .ok (.iinc 2 1, 3) := by decide +kernel
theorem d_Re_spread_82 : decode b_Re_spread 82 = .ok (.goto (-80), 3) := by decide +kernel
theorem d_Re_spread_85 : decode b_Re_spread 85 = .ok (.return_, 1) := by decide +kernel
theorem d_Pc_find_0 : decode b_Pc_find 0 = .ok (.aload_n 0, 1) := by decide +kernel
theorem d_Pc_find_1 : decode b_Pc_find 1 = .ok (.astore_n 3, 1) := by decide +kernel
theorem d_Pc_find_2 : decode b_Pc_find 2 = .ok (.aload_n 3, 1) := by decide +kernel
theorem d_Pc_find_3 : decode b_Pc_find 3 = .ok (.ifnull 27, 3) := by decide +kernel
theorem d_Pc_find_6 : decode b_Pc_find 6 = .ok (.aload_n 3, 1) := by decide +kernel
theorem d_Pc_find_7 : decode b_Pc_find 7 = .ok (.iload_n 1, 1) := by decide +kernel
theorem d_Pc_find_8 : decode b_Pc_find 8 = .ok (.iload_n 2, 1) := by decide +kernel
theorem d_Pc_find_9 : decode b_Pc_find 9 = .ok (.invokevirtual 47, 3) := by decide +kernel
theorem d_Pc_find_12 : decode b_Pc_find 12 = .ok (.astore 4, 2) := by decide +kernel
theorem d_Pc_find_14 : decode b_Pc_find 14 = .ok (.aload 4, 2) := by decide +kernel
theorem d_Pc_find_16 : decode b_Pc_find 16 = .ok (.ifnull 6, 3) := by decide +kernel
theorem d_Pc_find_19 : decode b_Pc_find 19 = .ok (.aload 4, 2) := by decide +kernel
theorem d_Pc_find_21 : decode b_Pc_find 21 = .ok (.areturn, 1) := by decide +kernel
theorem d_Pc_find_22 : decode b_Pc_find 22 = .ok (.aload_n 3, 1) := by decide +kernel
theorem d_Pc_find_23 : decode b_Pc_find 23 = .ok (.getfield 7, 3) := by decide +kernel
theorem d_Pc_find_26 : decode b_Pc_find 26 = .ok (.astore_n 3, 1) := by decide +kernel
theorem d_Pc_find_27 : decode b_Pc_find 27 = .ok (.goto (-25), 3) := by decide +kernel
theorem d_Pc_find_30 : decode b_Pc_find 30 = .ok (.aconst_null, 1) := by decide +kernel
theorem d_Pc_find_31 : decode b_Pc_find 31 = .ok (.areturn, 1) := by decide +kernel
theorem d_Pc_own_0 : decode b_Pc_own 0 = .ok (.iconst 0, 1) := by decide +kernel
theorem d_Pc_own_1 : decode b_Pc_own 1 = .ok (.istore_n 3, 1) := by decide +kernel
theorem d_Pc_own_2 : decode b_Pc_own 2 = .ok (.iload_n 3, 1) := by decide +kernel
theorem d_Pc_own_3 : decode b_Pc_own 3 = .ok (.aload_n 0, 1) := by decide +kernel
theorem d_Pc_own_4 : decode b_Pc_own 4 = .ok (.getfield 20, 3) := by decide +kernel
theorem d_Pc_own_7 : decode b_Pc_own 7 = .ok (.invokevirtual 31, 3) := by decide +kernel
theorem d_Pc_own_10 : decode b_Pc_own 10 = .ok (.if_icmp .ge 43, 3) := by decide +kernel
theorem d_Pc_own_13 : decode b_Pc_own 13 = .ok (.aload_n 0, 1) := by decide +kernel
theorem d_Pc_own_14 : decode b_Pc_own 14 = .ok (.getfield 20, 3) := by decide +kernel
theorem d_Pc_own_17 : decode b_Pc_own 17 = .ok (.iload_n 3, 1) := by decide +kernel
theorem d_Pc_own_18 : decode b_Pc_own 18 = .ok (.invokevirtual 35, 3) := by decide +kernel
theorem d_Pc_own_21 : decode b_Pc_own 21 = .ok (.checkcast 39, 3) := by decide +kernel
theorem d_Pc_own_24 : decode b_Pc_own 24 = .ok (.astore 4, 2) := by decide +kernel
theorem d_Pc_own_26 : decode b_Pc_own 26 = .ok (.aload 4, 2) := by decide +kernel
theorem d_Pc_own_28 : decode b_Pc_own 28 = .ok (.getfield 41, 3) := by decide +kernel
theorem d_Pc_own_31 : decode b_Pc_own 31 = .ok (.iload_n 1, 1) := by decide +kernel
theorem d_Pc_own_32 : decode b_Pc_own 32 = .ok (.if_icmp .ne 15, 3) := by decide +kernel
theorem d_Pc_own_35 : decode b_Pc_own 35 = .ok (.aload 4, 2) := by decide +kernel
theorem d_Pc_own_37 : decode b_Pc_own 37 = .ok (.getfield 44, 3) := by decide +kernel
theorem d_Pc_own_40 : decode b_Pc_own 40 = .ok (.iload_n 2, 1) := by decide +kernel
theorem d_Pc_own_41 : decode b_Pc_own 41 = .ok (.if_icmp .ne 6, 3) := by decide +kernel
theorem d_Pc_own_44 : decode b_Pc_own 44 = .ok (.aload 4, 2) := by decide +kernel
theorem d_Pc_own_46 : decode b_Pc_own 46 = .ok (.areturn, 1) := by decide +kernel
theorem d_Pc_own_47 : decode b_Pc_own 47 = .ok (.iinc 3 1, 3) := by decide +kernel
theorem d_Pc_own_50 : decode b_Pc_own 50 = .ok (.goto (-48), 3) := by decide +kernel
theorem d_Pc_own_53 : decode b_Pc_own 53 = .ok (.aconst_null, 1) := by decide +kernel
theorem d_Pc_own_54 : decode b_Pc_own 54 = .ok (.areturn, 1) := by decide +kernel
theorem d_Re_spreadSelf_0 : decode b_Re_spreadSelf 0 = .ok (.iconst 0, 1) := by decide +kernel
theorem d_Re_spreadSelf_1 : decode b_Re_spreadSelf 1 = .ok (.istore_n 3, 1) := by decide +kernel
theorem d_Re_spreadSelf_2 : decode b_Re_spreadSelf 2 = .ok (.iload_n 3, 1) := by decide +kernel
theorem d_Re_spreadSelf_3 : decode b_Re_spreadSelf 3 = .ok (.aload_n 0, 1) := by decide +kernel
theorem d_Re_spreadSelf_4 : decode b_Re_spreadSelf 4 = .ok (.getfield 9, 3) := by decide +kernel
theorem d_Re_spreadSelf_7 : decode b_Re_spreadSelf 7 = .ok (.getfield 28, 3) := by decide +kernel
theorem d_Re_spreadSelf_10 : decode b_Re_spreadSelf 10 = .ok (.invokevirtual 34, 3) := by decide +kernel
theorem d_Re_spreadSelf_13 : decode b_Re_spreadSelf 13 = .ok (.if_icmp .ge 59, 3) := by decide +kernel
theorem d_Re_spreadSelf_16 : decode b_Re_spreadSelf 16 = .ok (.aload_n 0, 1) := by decide +kernel
theorem d_Re_spreadSelf_17 : decode b_Re_spreadSelf 17 = .ok (.getfield 9, 3) := by decide +kernel
theorem d_Re_spreadSelf_20 : decode b_Re_spreadSelf 20 = .ok (.getfield 28, 3) := by decide +kernel
theorem d_Re_spreadSelf_23 : decode b_Re_spreadSelf 23 = .ok (.iload_n 3, 1) := by decide +kernel
theorem d_Re_spreadSelf_24 : decode b_Re_spreadSelf 24 = .ok (.invokevirtual 40, 3) := by decide +kernel
theorem d_Re_spreadSelf_27 : decode b_Re_spreadSelf 27 = .ok (.checkcast 44, 3) := by decide +kernel
theorem d_Re_spreadSelf_30 : decode b_Re_spreadSelf 30 = .ok (.astore 4, 2) := by decide +kernel
theorem d_Re_spreadSelf_32 : decode b_Re_spreadSelf 32 = .ok (.aload 4, 2) := by decide +kernel
theorem d_Re_spreadSelf_34 : decode b_Re_spreadSelf 34 = .ok (.getfield 46, 3) := by decide +kernel
theorem d_Re_spreadSelf_37 : decode b_Re_spreadSelf 37 = .ok (.ifCond .eq 29, 3) := by decide +kernel
theorem d_Re_spreadSelf_40 : decode b_Re_spreadSelf 40 = .ok (.aload 4, 2) := by decide +kernel
theorem d_Re_spreadSelf_42 : decode b_Re_spreadSelf 42 = .ok (.aload_n 1, 1) := by decide +kernel
theorem d_Re_spreadSelf_43 : decode b_Re_spreadSelf 43 = .ok (.invokevirtual 101, 3) := by decide +kernel
theorem d_Re_spreadSelf_46 : decode b_Re_spreadSelf 46 = .ok (.ifCond .eq 20, 3) := by decide +kernel
theorem d_Re_spreadSelf_49 : decode b_Re_spreadSelf 49 = .ok (.aload_n 0, 1) := by decide +kernel
theorem d_Re_spreadSelf_50 : decode b_Re_spreadSelf 50 = .ok (.aload 4, 2) := by decide +kernel
theorem d_Re_spreadSelf_52 : decode b_Re_spreadSelf 52 = .ok (.aload_n 2, 1) := by decide +kernel
theorem d_Re_spreadSelf_53 : decode b_Re_spreadSelf 53 = .ok (.getfield 83, 3) := by decide +kernel
theorem d_Re_spreadSelf_56 : decode b_Re_spreadSelf 56 = .ok (.aload_n 2, 1) := by decide +kernel
theorem d_Re_spreadSelf_57 : decode b_Re_spreadSelf 57 = .ok (.getfield 87, 3) := by decide +kernel
theorem d_Re_spreadSelf_60 : decode b_Re_spreadSelf 60 = .ok (.invokevirtual 90, 3) := by decide +kernel
theorem d_Re_spreadSelf_63 : decode b_Re_spreadSelf 63 = .ok (.invokevirtual 60, 3) := by decide +kernel
theorem d_Re_spreadSelf_66 : decode b_Re_spreadSelf 66 = .ok (.iinc 3 1, 3) := by decide +kernel
theorem d_Re_spreadSelf_69 : decode b_Re_spreadSelf 69 = .ok (.goto (-67), 3) := by decide +kernel
theorem d_Re_spreadSelf_72 : decode b_Re_spreadSelf 72 = .ok (.return_, 1) := by decide +kernel
theorem d_Pc_isOrIsBelow_0 : decode b_Pc_isOrIsBelow 0 = .ok (.aload_n 0, 1) := by decide +kernel
theorem d_Pc_isOrIsBelow_1 : decode b_Pc_isOrIsBelow 1 = .ok (.astore_n 2, 1) := by decide +kernel
theorem d_Pc_isOrIsBelow_2 : decode b_Pc_isOrIsBelow 2 = .ok (.aload_n 2, 1) := by decide +kernel
theorem d_Pc_isOrIsBelow_3 : decode b_Pc_isOrIsBelow 3 = .ok (.ifnull 18, 3) := by decide +kernel
theorem d_Pc_isOrIsBelow_6 : decode b_Pc_isOrIsBelow 6 = .ok (.aload_n 2, 1) := by decide +kernel
theorem d_Pc_isOrIsBelow_7 : decode b_Pc_isOrIsBelow 7 = .ok (.aload_n 1, 1) := by decide +kernel
theorem d_Pc_isOrIsBelow_8 : decode b_Pc_isOrIsBelow 8 = .ok (.if_acmp .ne 5, 3) := by decide +kernel
theorem d_Pc_isOrIsBelow_11 : decode b_Pc_isOrIsBelow 11 = .ok (.iconst 1, 1) := by decide +kernel
theorem d_Pc_isOrIsBelow_12 : decode b_Pc_isOrIsBelow 12 = .ok (.ireturn, 1) := by decide +kernel
theorem d_Pc_isOrIsBelow_13 : decode b_Pc_isOrIsBelow 13 = .ok (.aload_n 2, 1) := by decide +kernel
theorem d_Pc_isOrIsBelow_14 : decode b_Pc_isOrIsBelow 14 = .ok (.getfield 7, 3) := by decide +kernel
theorem d_Pc_isOrIsBelow_17 : decode b_Pc_isOrIsBelow 17 = .ok (.astore_n 2, 1) := by decide +kernel
theorem d_Pc_isOrIsBelow_18 : decode b_Pc_isOrIsBelow 18 = .ok (.goto (-16), 3) := by decide +kernel
theorem d_Pc_isOrIsBelow_21 : decode b_Pc_isOrIsBelow 21 = .ok (.iconst 0, 1) := by decide +kernel
theorem d_Pc_isOrIsBelow_22 : decode b_Pc_isOrIsBelow 22 = .ok (.ireturn, 1) := by decide +kernel
theorem d_Pr_dropUnreached_0 : decode b_Pr_dropUnreached 0 = .ok (.aload_n 0, 1) := by decide +kernel
theorem d_Pr_dropUnreached_1 : decode b_Pr_dropUnreached 1 = .ok (.getfield 16, 3) := by decide +kernel
theorem d_Pr_dropUnreached_4 : decode b_Pr_dropUnreached 4 = .ok (.invokestatic 38, 3) := by decide +kernel
theorem d_Pr_dropUnreached_7 : decode b_Pr_dropUnreached 7 = .ok (.aload_n 0, 1) := by decide +kernel
theorem d_Pr_dropUnreached_8 : decode b_Pr_dropUnreached 8 = .ok (.getfield 10, 3) := by decide +kernel
theorem d_Pr_dropUnreached_11 : decode b_Pr_dropUnreached 11 = .ok (.invokevirtual 19, 3) := by decide +kernel
theorem d_Pr_dropUnreached_14 : decode b_Pr_dropUnreached 14 = .ok (.iconst 1, 1) := by decide +kernel
theorem d_Pr_dropUnreached_15 : decode b_Pr_dropUnreached 15 = .ok (.isub, 1) := by decide +kernel
theorem d_Pr_dropUnreached_16 : decode b_Pr_dropUnreached 16 = .ok (.istore_n 1, 1) := by decide +kernel
theorem d_Pr_dropUnreached_17 : decode b_Pr_dropUnreached 17 = .ok (.iload_n 1, 1) := by decide +kernel
theorem d_Pr_dropUnreached_18 : decode b_Pr_dropUnreached 18 = .ok (.ifCond .lt 45, 3) := by decide +kernel
theorem d_Pr_dropUnreached_21 : decode b_Pr_dropUnreached 21 = .ok (.aload_n 0, 1) := by decide +kernel
theorem d_Pr_dropUnreached_22 : decode b_Pr_dropUnreached 22 = .ok (.getfield 10, 3) := by decide +kernel
theorem d_Pr_dropUnreached_25 : decode b_Pr_dropUnreached 25 = .ok (.iload_n 1, 1) := by decide +kernel
theorem d_Pr_dropUnreached_26 : decode b_Pr_dropUnreached 26 = .ok (.invokevirtual 23, 3) := by decide +kernel
theorem d_Pr_dropUnreached_29 : decode b_Pr_dropUnreached 29 = .ok (.checkcast 33, 3) := by decide +kernel
theorem d_Pr_dropUnreached_32 : decode b_Pr_dropUnreached 32 = .ok (.astore_n 2, 1) := by decide +kernel
theorem d_Pr_dropUnreached_33 : decode b_Pr_dropUnreached 33 = .ok (.aload_n 2, 1) := by decide +kernel
theorem d_Pr_dropUnreached_34 : decode b_Pr_dropUnreached 34 = .ok (.getfield 42, 3) := by decide +kernel
theorem d_Pr_dropUnreached_37 : decode b_Pr_dropUnreached 37 = .ok (.invokestatic 38, 3) := by decide +kernel
theorem d_Pr_dropUnreached_40 : decode b_Pr_dropUnreached 40 = .ok (.aload_n 0, 1) := by decide +kernel
theorem d_Pr_dropUnreached_41 : decode b_Pr_dropUnreached 41 = .ok (.aload_n 2, 1) := by decide +kernel
theorem d_Pr_dropUnreached_42 : decode b_Pr_dropUnreached 42 = .ok (.invokevirtual 43, 3) := by decide +kernel
theorem d_Pr_dropUnreached_45 : decode b_Pr_dropUnreached 45 = .ok (.ifCond .ne 12, 3) := by decide +kernel
theorem d_Pr_dropUnreached_48 : decode b_Pr_dropUnreached 48 = .ok (.aload_n 0, 1) := by decide +kernel
theorem d_Pr_dropUnreached_49 : decode b_Pr_dropUnreached 49 = .ok (.getfield 10, 3) := by decide +kernel
theorem d_Pr_dropUnreached_52 : decode b_Pr_dropUnreached 52 = .ok (.iload_n 1, 1) := by decide +kernel
theorem d_Pr_dropUnreached_53 : decode b_Pr_dropUnreached 53 = .ok (.invokevirtual 47, 3) := by decide +kernel
theorem d_Pr_dropUnreached_56 : decode b_Pr_dropUnreached 56 = .ok (.pop, 1) := by decide +kernel
theorem d_Pr_dropUnreached_57 : decode b_Pr_dropUnreached 57 = .ok (.iinc 1 (-1), 3) := by decide +kernel
theorem d_Pr_dropUnreached_60 : decode b_Pr_dropUnreached 60 = .ok (.goto (-43), 3) := by decide +kernel
theorem d_Pr_dropUnreached_63 : decode b_Pr_dropUnreached 63 = .ok (.iconst 0, 1) := by decide +kernel
theorem d_Pr_dropUnreached_64 : decode b_Pr_dropUnreached 64 = .ok (.istore_n 1, 1) := by decide +kernel
theorem d_Pr_dropUnreached_65 : decode b_Pr_dropUnreached 65 = .ok (.iload_n 1, 1) := by decide +kernel
theorem d_Pr_dropUnreached_66 : decode b_Pr_dropUnreached 66 = .ok (.aload_n 0, 1) := by decide +kernel
theorem d_Pr_dropUnreached_67 : decode b_Pr_dropUnreached 67 = .ok (.getfield 10, 3) := by decide +kernel
theorem d_Pr_dropUnreached_70 : decode b_Pr_dropUnreached 70 = .ok (.invokevirtual 19, 3) := by decide +kernel
theorem d_Pr_dropUnreached_73 : decode b_Pr_dropUnreached 73 = .ok (.if_icmp .ge 24, 3) := by decide +kernel
theorem d_Pr_dropUnreached_76 : decode b_Pr_dropUnreached 76 = .ok (.aload_n 0, 1) := by decide +kernel
theorem d_Pr_dropUnreached_77 : decode b_Pr_dropUnreached 77 = .ok (.getfield 10, 3) := by decide +kernel
theorem d_Pr_dropUnreached_80 : decode b_Pr_dropUnreached 80 = .ok (.iload_n 1, 1) := by decide +kernel
theorem d_Pr_dropUnreached_81 : decode b_Pr_dropUnreached 81 = .ok (.invokevirtual 23, 3) := by decide +kernel
theorem d_Pr_dropUnreached_84 : decode b_Pr_dropUnreached 84 = .ok (.checkcast 33, 3) := by decide +kernel
theorem d_Pr_dropUnreached_87 : decode b_Pr_dropUnreached 87 = .ok (.iload_n 1, 1) := by decide +kernel
theorem d_Pr_dropUnreached_88 : decode b_Pr_dropUnreached 88 = .ok (.putfield 50, 3) := by decide +kernel
theorem d_Pr_dropUnreached_91 : decode b_Pr_dropUnreached 91 = .ok (.iinc 1 1, 3) := by decide +kernel
theorem d_Pr_dropUnreached_94 : decode b_Pr_dropUnreached 94 = .ok (.goto (-29), 3) := by decide +kernel
theorem d_Pr_dropUnreached_97 : decode b_Pr_dropUnreached 97 = .ok (.return_, 1) := by decide +kernel
theorem d_Pr_dropDead_0 : decode b_Pr_dropDead 0 = .ok (.aload_n 0, 1) := by decide +kernel
theorem d_Pr_dropDead_1 : decode b_Pr_dropDead 1 = .ok (.invokevirtual 19, 3) := by decide +kernel
theorem d_Pr_dropDead_4 : decode b_Pr_dropDead 4 = .ok (.iconst 1, 1) := by decide +kernel
theorem d_Pr_dropDead_5 : decode b_Pr_dropDead 5 = .ok (.isub, 1) := by decide +kernel
theorem d_Pr_dropDead_6 : decode b_Pr_dropDead 6 = .ok (.istore_n 1, 1) := by decide +kernel
theorem d_Pr_dropDead_7 : decode b_Pr_dropDead 7 = .ok (.iload_n 1, 1) := by decide +kernel
theorem d_Pr_dropDead_8 : decode b_Pr_dropDead 8 = .ok (.ifCond .lt 29, 3) := by decide +kernel
theorem d_Pr_dropDead_11 : decode b_Pr_dropDead 11 = .ok (.aload_n 0, 1) := by decide +kernel
theorem d_Pr_dropDead_12 : decode b_Pr_dropDead 12 = .ok (.iload_n 1, 1) := by decide +kernel
theorem d_Pr_dropDead_13 : decode b_Pr_dropDead 13 = .ok (.invokevirtual 23, 3) := by decide +kernel
theorem d_Pr_dropDead_16 : decode b_Pr_dropDead 16 = .ok (.checkcast 27, 3) := by decide +kernel
theorem d_Pr_dropDead_19 : decode b_Pr_dropDead 19 = .ok (.getfield 29, 3) := by decide +kernel
theorem d_Pr_dropDead_22 : decode b_Pr_dropDead 22 = .ok (.ifCond .ne 9, 3) := by decide +kernel
theorem d_Pr_dropDead_25 : decode b_Pr_dropDead 25 = .ok (.aload_n 0, 1) := by decide +kernel
theorem d_Pr_dropDead_26 : decode b_Pr_dropDead 26 = .ok (.iload_n 1, 1) := by decide +kernel
theorem d_Pr_dropDead_27 : decode b_Pr_dropDead 27 = .ok (.invokevirtual 47, 3) := by decide +kernel
theorem d_Pr_dropDead_30 : decode b_Pr_dropDead 30 = .ok (.pop, 1) := by decide +kernel
theorem d_Pr_dropDead_31 : decode b_Pr_dropDead 31 = .ok (.iinc 1 (-1), 3) := by decide +kernel
theorem d_Pr_dropDead_34 : decode b_Pr_dropDead 34 = .ok (.goto (-27), 3) := by decide +kernel
theorem d_Pr_dropDead_37 : decode b_Pr_dropDead 37 = .ok (.return_, 1) := by decide +kernel
theorem d_Al_remove_0 : decode b_Al_remove 0 = .ok (.iload_n 1, 1) := by decide +kernel
theorem d_Al_remove_1 : decode b_Al_remove 1 = .ok (.aload_n 0, 1) := by decide +kernel
theorem d_Al_remove_2 : decode b_Al_remove 2 = .ok (.getfield 48, 3) := by decide +kernel
theorem d_Al_remove_5 : decode b_Al_remove 5 = .ok (.invokestatic 118, 3) := by decide +kernel
theorem d_Al_remove_8 : decode b_Al_remove 8 = .ok (.pop, 1) := by decide +kernel
theorem d_Al_remove_9 : decode b_Al_remove 9 = .ok (.aload_n 0, 1) := by decide +kernel
theorem d_Al_remove_10 : decode b_Al_remove 10 = .ok (.getfield 9, 3) := by decide +kernel
theorem d_Al_remove_13 : decode b_Al_remove 13 = .ok (.astore_n 2, 1) := by decide +kernel
theorem d_Al_remove_14 : decode b_Al_remove 14 = .ok (.aload_n 2, 1) := by decide +kernel
theorem d_Al_remove_15 : decode b_Al_remove 15 = .ok (.iload_n 1, 1) := by decide +kernel
theorem d_Al_remove_16 : decode b_Al_remove 16 = .ok (.aaload, 1) := by decide +kernel
theorem d_Al_remove_17 : decode b_Al_remove 17 = .ok (.astore_n 3, 1) := by decide +kernel
theorem d_Al_remove_18 : decode b_Al_remove 18 = .ok (.aload_n 0, 1) := by decide +kernel
theorem d_Al_remove_19 : decode b_Al_remove 19 = .ok (.aload_n 2, 1) := by decide +kernel
theorem d_Al_remove_20 : decode b_Al_remove 20 = .ok (.iload_n 1, 1) := by decide +kernel
theorem d_Al_remove_21 : decode b_Al_remove 21 = .ok (.invokevirtual 144, 3) := by decide +kernel
theorem d_Al_remove_24 : decode b_Al_remove 24 = .ok (.aload_n 3, 1) := by decide +kernel
theorem d_Al_remove_25 : decode b_Al_remove 25 = .ok (.areturn, 1) := by decide +kernel
theorem d_Al_fastRemove_0 : decode b_Al_fastRemove 0 = .ok (.aload_n 0, 1) := by decide +kernel
theorem d_Al_fastRemove_1 : decode b_Al_fastRemove 1 = .ok (.dup, 1) := by decide +kernel
theorem d_Al_fastRemove_2 : decode b_Al_fastRemove 2 = .ok (.getfield 63, 3) := by decide +kernel
theorem d_Al_fastRemove_5 : decode b_Al_fastRemove 5 = .ok (.iconst 1, 1) := by decide +kernel
theorem d_Al_fastRemove_6 : decode b_Al_fastRemove 6 = .ok (.iadd, 1) := by decide +kernel
theorem d_Al_fastRemove_7 : decode b_Al_fastRemove 7 = .ok (.putfield 63, 3) := by decide +kernel
theorem d_Al_fastRemove_10 : decode b_Al_fastRemove 10 = .ok (.aload_n 0, 1) := by decide +kernel
theorem d_Al_fastRemove_11 : decode b_Al_fastRemove 11 = .ok (.getfield 48, 3) := by decide +kernel
theorem d_Al_fastRemove_14 : decode b_Al_fastRemove 14 = .ok (.iconst 1, 1) := by decide +kernel
theorem d_Al_fastRemove_15 : decode b_Al_fastRemove 15 = .ok (.isub, 1) := by decide +kernel
theorem d_Al_fastRemove_16 : decode b_Al_fastRemove 16 = .ok (.dup, 1) := by decide +kernel
theorem d_Al_fastRemove_17 : decode b_Al_fastRemove 17 = .ok (.istore_n 3, 1) := by decide +kernel
theorem d_Al_fastRemove_18 : decode b_Al_fastRemove 18 = .ok (.iload_n 2, 1) := by decide +kernel
theorem d_Al_fastRemove_19 : decode b_Al_fastRemove 19 = .ok (.if_icmp .le 15, 3) := by decide +kernel
theorem d_Al_fastRemove_22 : decode b_Al_fastRemove 22 = .ok (.aload_n 1, 1) := by decide +kernel
theorem d_Al_fastRemove_23 : decode b_Al_fastRemove 23 = .ok (.iload_n 2, 1) := by decide +kernel
theorem d_Al_fastRemove_24 : decode b_Al_fastRemove 24 = .ok (.iconst 1, 1) := by decide +kernel
theorem d_Al_fastRemove_25 : decode b_Al_fastRemove 25 = .ok (.iadd, 1) := by decide +kernel
theorem d_Al_fastRemove_26 : decode b_Al_fastRemove 26 = .ok (.aload_n 1, 1) := by decide +kernel
theorem d_Al_fastRemove_27 : decode b_Al_fastRemove 27 = .ok (.iload_n 2, 1) := by decide +kernel
theorem d_Al_fastRemove_28 : decode b_Al_fastRemove 28 = .ok (.iload_n 3, 1) := by decide +kernel
theorem d_Al_fastRemove_29 : decode b_Al_fastRemove 29 = .ok (.iload_n 2, 1) := by decide +kernel
theorem d_Al_fastRemove_30 : decode b_Al_fastRemove 30 = .ok (.isub, 1) := by decide +kernel
theorem d_Al_fastRemove_31 : decode b_Al_fastRemove 31 = .ok (.invokestatic 112, 3) := by decide +kernel
theorem d_Al_fastRemove_34 : decode b_Al_fastRemove 34 = .ok (.aload_n 1, 1) := by decide +kernel
theorem d_Al_fastRemove_35 : decode b_Al_fastRemove 35 = .ok (.aload_n 0, 1) := by decide +kernel
theorem d_Al_fastRemove_36 : decode b_Al_fastRemove 36 = .ok (.iload_n 3, 1) := by decide +kernel
theorem d_Al_fastRemove_37 : decode b_Al_fastRemove 37 = .ok (.dup_x1, 1) := by decide +kernel
theorem d_Al_fastRemove_38 : decode b_Al_fastRemove 38 = .ok (.putfield 48, 3) := by decide +kernel
theorem d_Al_fastRemove_41 : decode b_Al_fastRemove 41 = .ok (.aconst_null, 1) := by decide +kernel
theorem d_Al_fastRemove_42 : decode b_Al_fastRemove 42 = .ok (.aastore, 1) := by decide +kernel
theorem d_Al_fastRemove_43 : decode b_Al_fastRemove 43 = .ok (.return_, 1) := by decide +kernel
theorem d_Pr_isMadeOrAboveMade_0 : decode b_Pr_isMadeOrAboveMade 0 = .ok (.iconst 0, 1) := by decide +kernel
theorem d_Pr_isMadeOrAboveMade_1 : decode b_Pr_isMadeOrAboveMade 1 = .ok (.istore_n 2, 1) := by decide +kernel
theorem d_Pr_isMadeOrAboveMade_2 : decode b_Pr_isMadeOrAboveMade 2 = .ok (.iload_n 2, 1) := by decide +kernel
theorem d_Pr_isMadeOrAboveMade_3 : decode b_Pr_isMadeOrAboveMade 3 = .ok (.aload_n 0, 1) := by decide +kernel
theorem d_Pr_isMadeOrAboveMade_4 : decode b_Pr_isMadeOrAboveMade 4 = .ok (.getfield 10, 3) := by decide +kernel
theorem d_Pr_isMadeOrAboveMade_7 : decode b_Pr_isMadeOrAboveMade 7 = .ok (.invokevirtual 19, 3) := by decide +kernel
theorem d_Pr_isMadeOrAboveMade_10 : decode b_Pr_isMadeOrAboveMade 10 = .ok (.if_icmp .ge 38, 3) := by decide +kernel
theorem d_Pr_isMadeOrAboveMade_13 : decode b_Pr_isMadeOrAboveMade 13 = .ok (.aload_n 0, 1) := by decide +kernel
theorem d_Pr_isMadeOrAboveMade_14 : decode b_Pr_isMadeOrAboveMade 14 = .ok (.getfield 10, 3) := by decide +kernel
theorem d_Pr_isMadeOrAboveMade_17 : decode b_Pr_isMadeOrAboveMade 17 = .ok (.iload_n 2, 1) := by decide +kernel
theorem d_Pr_isMadeOrAboveMade_18 : decode b_Pr_isMadeOrAboveMade 18 = .ok (.invokevirtual 23, 3) := by decide +kernel
theorem d_Pr_isMadeOrAboveMade_21 : decode b_Pr_isMadeOrAboveMade 21 = .ok (.checkcast 33, 3) := by decide +kernel
theorem d_Pr_isMadeOrAboveMade_24 : decode b_Pr_isMadeOrAboveMade 24 = .ok (.astore_n 3, 1) := by decide +kernel
theorem d_Pr_isMadeOrAboveMade_25 : decode b_Pr_isMadeOrAboveMade 25 = .ok (.aload_n 3, 1) := by decide +kernel
theorem d_Pr_isMadeOrAboveMade_26 : decode b_Pr_isMadeOrAboveMade 26 = .ok (.getfield 35, 3) := by decide +kernel
theorem d_Pr_isMadeOrAboveMade_29 : decode b_Pr_isMadeOrAboveMade 29 = .ok (.ifCond .eq 13, 3) := by decide +kernel
theorem d_Pr_isMadeOrAboveMade_32 : decode b_Pr_isMadeOrAboveMade 32 = .ok (.aload_n 3, 1) := by decide +kernel
theorem d_Pr_isMadeOrAboveMade_33 : decode b_Pr_isMadeOrAboveMade 33 = .ok (.aload_n 1, 1) := by decide +kernel
theorem d_Pr_isMadeOrAboveMade_34 : decode b_Pr_isMadeOrAboveMade 34 = .ok (.invokevirtual 54, 3) := by decide +kernel
theorem d_Pr_isMadeOrAboveMade_37 : decode b_Pr_isMadeOrAboveMade 37 = .ok (.ifCond .eq 5, 3) := by decide +kernel
theorem d_Pr_isMadeOrAboveMade_40 : decode b_Pr_isMadeOrAboveMade 40 = .ok (.iconst 1, 1) := by decide +kernel
theorem d_Pr_isMadeOrAboveMade_41 : decode b_Pr_isMadeOrAboveMade 41 = .ok (.ireturn, 1) := by decide +kernel
theorem d_Pr_isMadeOrAboveMade_42 : decode b_Pr_isMadeOrAboveMade 42 = .ok (.iinc 2 1, 3) := by decide +kernel
theorem d_Pr_isMadeOrAboveMade_45 : decode b_Pr_isMadeOrAboveMade 45 = .ok (.goto (-43), 3) := by decide +kernel
theorem d_Pr_isMadeOrAboveMade_48 : decode b_Pr_isMadeOrAboveMade 48 = .ok (.iconst 0, 1) := by decide +kernel
theorem d_Pr_isMadeOrAboveMade_49 : decode b_Pr_isMadeOrAboveMade 49 = .ok (.ireturn, 1) := by decide +kernel
theorem d_Ma_min_0 : decode b_Ma_min 0 = .ok (.iload_n 0, 1) := by decide +kernel
theorem d_Ma_min_1 : decode b_Ma_min 1 = .ok (.iload_n 1, 1) := by decide +kernel
theorem d_Ma_min_2 : decode b_Ma_min 2 = .ok (.if_icmp .gt 7, 3) := by decide +kernel
theorem d_Ma_min_5 : decode b_Ma_min 5 = .ok (.iload_n 0, 1) := by decide +kernel
theorem d_Ma_min_6 : decode b_Ma_min 6 = .ok (.goto 4, 3) := by decide +kernel
theorem d_Ma_min_9 : decode b_Ma_min 9 = .ok (.iload_n 1, 1) := by decide +kernel
theorem d_Ma_min_10 : decode b_Ma_min 10 = .ok (.ireturn, 1) := by decide +kernel
theorem d_Pc_isRelatedTo_0 : decode b_Pc_isRelatedTo 0 = .ok (.aload_n 0, 1) := by decide +kernel
theorem d_Pc_isRelatedTo_1 : decode b_Pc_isRelatedTo 1 = .ok (.aload_n 1, 1) := by decide +kernel
theorem d_Pc_isRelatedTo_2 : decode b_Pc_isRelatedTo 2 = .ok (.invokevirtual 51, 3) := by decide +kernel
theorem d_Pc_isRelatedTo_5 : decode b_Pc_isRelatedTo 5 = .ok (.ifCond .ne 11, 3) := by decide +kernel
theorem d_Pc_isRelatedTo_8 : decode b_Pc_isRelatedTo 8 = .ok (.aload_n 1, 1) := by decide +kernel
theorem d_Pc_isRelatedTo_9 : decode b_Pc_isRelatedTo 9 = .ok (.aload_n 0, 1) := by decide +kernel
theorem d_Pc_isRelatedTo_10 : decode b_Pc_isRelatedTo 10 = .ok (.invokevirtual 51, 3) := by decide +kernel
theorem d_Pc_isRelatedTo_13 : decode b_Pc_isRelatedTo 13 = .ok (.ifCond .eq 7, 3) := by decide +kernel
theorem d_Pc_isRelatedTo_16 : decode b_Pc_isRelatedTo 16 = .ok (.iconst 1, 1) := by decide +kernel
theorem d_Pc_isRelatedTo_17 : decode b_Pc_isRelatedTo 17 = .ok (.goto 4, 3) := by decide +kernel
theorem d_Pc_isRelatedTo_20 : decode b_Pc_isRelatedTo 20 = .ok (.iconst 0, 1) := by decide +kernel
theorem d_Pc_isRelatedTo_21 : decode b_Pc_isRelatedTo 21 = .ok (.ireturn, 1) := by decide +kernel
theorem d_Pr_liveMethods_0 : decode b_Pr_liveMethods 0 = .ok (.iconst 0, 1) := by decide +kernel
theorem d_Pr_liveMethods_1 : decode b_Pr_liveMethods 1 = .ok (.istore_n 1, 1) := by decide +kernel
theorem d_Pr_liveMethods_2 : decode b_Pr_liveMethods 2 = .ok (.iconst 0, 1) := by decide +kernel
theorem d_Pr_liveMethods_3 : decode b_Pr_liveMethods 3 = .ok (.istore_n 2, 1) := by decide +kernel
theorem d_Pr_liveMethods_4 : decode b_Pr_liveMethods 4 = .ok (.iload_n 2, 1) := by decide +kernel
theorem d_Pr_liveMethods_5 : decode b_Pr_liveMethods 5 = .ok (.aload_n 0, 1) := by decide +kernel
theorem d_Pr_liveMethods_6 : decode b_Pr_liveMethods 6 = .ok (.getfield 16, 3) := by decide +kernel
theorem d_Pr_liveMethods_9 : decode b_Pr_liveMethods 9 = .ok (.invokevirtual 19, 3) := by decide +kernel
theorem d_Pr_liveMethods_12 : decode b_Pr_liveMethods 12 = .ok (.if_icmp .ge 29, 3) := by decide +kernel
theorem d_Pr_liveMethods_15 : decode b_Pr_liveMethods 15 = .ok (.aload_n 0, 1) := by decide +kernel
theorem d_Pr_liveMethods_16 : decode b_Pr_liveMethods 16 = .ok (.getfield 16, 3) := by decide +kernel
theorem d_Pr_liveMethods_19 : decode b_Pr_liveMethods 19 = .ok (.iload_n 2, 1) := by decide +kernel
theorem d_Pr_liveMethods_20 : decode b_Pr_liveMethods 20 = .ok (.invokevirtual 23, 3) := by decide +kernel
theorem d_Pr_liveMethods_23 : decode b_Pr_liveMethods 23 = .ok (.checkcast 27, 3) := by decide +kernel
theorem d_Pr_liveMethods_26 : decode b_Pr_liveMethods 26 = .ok (.getfield 29, 3) := by decide +kernel
theorem d_Pr_liveMethods_29 : decode b_Pr_liveMethods 29 = .ok (.ifCond .eq 6, 3) := by decide +kernel
theorem d_Pr_liveMethods_32 : decode b_Pr_liveMethods 32 = .ok (.iinc 1 1, 3) := by decide +kernel
theorem d_Pr_liveMethods_35 : decode b_Pr_liveMethods 35 = .ok (.iinc 2 1, 3) := by decide +kernel
theorem d_Pr_liveMethods_38 : decode b_Pr_liveMethods 38 = .ok (.goto (-34), 3) := by decide +kernel
theorem d_Pr_liveMethods_41 : decode b_Pr_liveMethods 41 = .ok (.iload_n 1, 1) := by decide +kernel
theorem d_Pr_liveMethods_42 : decode b_Pr_liveMethods 42 = .ok (.ireturn, 1) := by decide +kernel
theorem d_Pr_madeClasses_0 : decode b_Pr_madeClasses 0 = .ok (.iconst 0, 1) := by decide +kernel
theorem d_Pr_madeClasses_1 : decode b_Pr_madeClasses 1 = .ok (.istore_n 1, 1) := by decide +kernel
theorem d_Pr_madeClasses_2 : decode b_Pr_madeClasses 2 = .ok (.iconst 0, 1) := by decide +kernel
theorem d_Pr_madeClasses_3 : decode b_Pr_madeClasses 3 = .ok (.istore_n 2, 1) := by decide +kernel
theorem d_Pr_madeClasses_4 : decode b_Pr_madeClasses 4 = .ok (.iload_n 2, 1) := by decide +kernel
theorem d_Pr_madeClasses_5 : decode b_Pr_madeClasses 5 = .ok (.aload_n 0, 1) := by decide +kernel
theorem d_Pr_madeClasses_6 : decode b_Pr_madeClasses 6 = .ok (.getfield 10, 3) := by decide +kernel
theorem d_Pr_madeClasses_9 : decode b_Pr_madeClasses 9 = .ok (.invokevirtual 19, 3) := by decide +kernel
theorem d_Pr_madeClasses_12 : decode b_Pr_madeClasses 12 = .ok (.if_icmp .ge 29, 3) := by decide +kernel
theorem d_Pr_madeClasses_15 : decode b_Pr_madeClasses 15 = .ok (.aload_n 0, 1) := by decide +kernel
theorem d_Pr_madeClasses_16 : decode b_Pr_madeClasses 16 = .ok (.getfield 10, 3) := by decide +kernel
theorem d_Pr_madeClasses_19 : decode b_Pr_madeClasses 19 = .ok (.iload_n 2, 1) := by decide +kernel
theorem d_Pr_madeClasses_20 : decode b_Pr_madeClasses 20 = .ok (.invokevirtual 23, 3) := by decide +kernel
theorem d_Pr_madeClasses_23 : decode b_Pr_madeClasses 23 = .ok (.checkcast 33, 3) := by decide +kernel
theorem d_Pr_madeClasses_26 : decode b_Pr_madeClasses 26 = .ok (.getfield 35, 3) := by decide +kernel
theorem d_Pr_madeClasses_29 : decode b_Pr_madeClasses 29 = .ok (.ifCond .eq 6, 3) := by decide +kernel
theorem d_Pr_madeClasses_32 : decode b_Pr_madeClasses 32 = .ok (.iinc 1 1, 3) := by decide +kernel
theorem d_Pr_madeClasses_35 : decode b_Pr_madeClasses 35 = .ok (.iinc 2 1, 3) := by decide +kernel
theorem d_Pr_madeClasses_38 : decode b_Pr_madeClasses 38 = .ok (.goto (-34), 3) := by decide +kernel
theorem d_Pr_madeClasses_41 : decode b_Pr_madeClasses 41 = .ok (.iload_n 1, 1) := by decide +kernel
theorem d_Pr_madeClasses_42 : decode b_Pr_madeClasses 42 = .ok (.ireturn, 1) := by decide +kernel
theorem d_Pc_init_0 : decode b_Pc_init 0 = .ok (.aload_n 0, 1) := by decide +kernel
theorem d_Pc_init_1 : decode b_Pc_init 1 = .ok (.invokespecial 1, 3) := by decide +kernel
theorem d_Pc_init_4 : decode b_Pc_init 4 = .ok (.aload_n 0, 1) := by decide +kernel
theorem d_Pc_init_5 : decode b_Pc_init 5 = .ok (.aload_n 2, 1) := by decide +kernel
theorem d_Pc_init_6 : decode b_Pc_init 6 = .ok (.putfield 7, 3) := by decide +kernel
theorem d_Pc_init_9 : decode b_Pc_init 9 = .ok (.aload_n 0, 1) := by decide +kernel
theorem d_Pc_init_10 : decode b_Pc_init 10 = .ok (.iload_n 1, 1) := by decide +kernel
theorem d_Pc_init_11 : decode b_Pc_init 11 = .ok (.putfield 13, 3) := by decide +kernel
theorem d_Pc_init_14 : decode b_Pc_init 14 = .ok (.aload_n 0, 1) := by decide +kernel
theorem d_Pc_init_15 : decode b_Pc_init 15 = .ok (.new 17, 3) := by decide +kernel
theorem d_Pc_init_18 : decode b_Pc_init 18 = .ok (.dup, 1) := by decide +kernel
theorem d_Pc_init_19 : decode b_Pc_init 19 = .ok (.invokespecial 19, 3) := by decide +kernel
theorem d_Pc_init_22 : decode b_Pc_init 22 = .ok (.putfield 20, 3) := by decide +kernel
theorem d_Pc_init_25 : decode b_Pc_init 25 = .ok (.aload_n 0, 1) := by decide +kernel
theorem d_Pc_init_26 : decode b_Pc_init 26 = .ok (.iload_n 1, 1) := by decide +kernel
theorem d_Pc_init_27 : decode b_Pc_init 27 = .ok (.putfield 24, 3) := by decide +kernel
theorem d_Pc_init_30 : decode b_Pc_init 30 = .ok (.aload_n 0, 1) := by decide +kernel
theorem d_Pc_init_31 : decode b_Pc_init 31 = .ok (.iconst 0, 1) := by decide +kernel
theorem d_Pc_init_32 : decode b_Pc_init 32 = .ok (.putfield 27, 3) := by decide +kernel
theorem d_Pc_init_35 : decode b_Pc_init 35 = .ok (.return_, 1) := by decide +kernel
theorem d_Al_add_0 : decode b_Al_add 0 = .ok (.aload_n 0, 1) := by decide +kernel
theorem d_Al_add_1 : decode b_Al_add 1 = .ok (.dup, 1) := by decide +kernel
theorem d_Al_add_2 : decode b_Al_add 2 = .ok (.getfield 63, 3) := by decide +kernel
theorem d_Al_add_5 : decode b_Al_add 5 = .ok (.iconst 1, 1) := by decide +kernel
theorem d_Al_add_6 : decode b_Al_add 6 = .ok (.iadd, 1) := by decide +kernel
theorem d_Al_add_7 : decode b_Al_add 7 = .ok (.putfield 63, 3) := by decide +kernel
theorem d_Al_add_10 : decode b_Al_add 10 = .ok (.aload_n 0, 1) := by decide +kernel
theorem d_Al_add_11 : decode b_Al_add 11 = .ok (.aload_n 1, 1) := by decide +kernel
theorem d_Al_add_12 : decode b_Al_add 12 = .ok (.aload_n 0, 1) := by decide +kernel
theorem d_Al_add_13 : decode b_Al_add 13 = .ok (.getfield 9, 3) := by decide +kernel
theorem d_Al_add_16 : decode b_Al_add 16 = .ok (.aload_n 0, 1) := by decide +kernel
theorem d_Al_add_17 : decode b_Al_add 17 = .ok (.getfield 48, 3) := by decide +kernel
theorem d_Al_add_20 : decode b_Al_add 20 = .ok (.invokevirtual 131, 3) := by decide +kernel
theorem d_Al_add_23 : decode b_Al_add 23 = .ok (.iconst 1, 1) := by decide +kernel
theorem d_Al_add_24 : decode b_Al_add 24 = .ok (.ireturn, 1) := by decide +kernel
theorem d_Al_add2_0 : decode b_Al_add2 0 = .ok (.iload_n 3, 1) := by decide +kernel
theorem d_Al_add2_1 : decode b_Al_add2 1 = .ok (.aload_n 2, 1) := by decide +kernel
theorem d_Al_add2_2 : decode b_Al_add2 2 = .ok (.arraylength, 1) := by decide +kernel
theorem d_Al_add2_3 : decode b_Al_add2 3 = .ok (.if_icmp .ne 8, 3) := by decide +kernel
theorem d_Al_add2_6 : decode b_Al_add2 6 = .ok (.aload_n 0, 1) := by decide +kernel
theorem d_Al_add2_7 : decode b_Al_add2 7 = .ok (.invokevirtual 129, 3) := by decide +kernel
theorem d_Al_add2_10 : decode b_Al_add2 10 = .ok (.astore_n 2, 1) := by decide +kernel
theorem d_Al_add2_11 : decode b_Al_add2 11 = .ok (.aload_n 2, 1) := by decide +kernel
theorem d_Al_add2_12 : decode b_Al_add2 12 = .ok (.iload_n 3, 1) := by decide +kernel
theorem d_Al_add2_13 : decode b_Al_add2 13 = .ok (.aload_n 1, 1) := by decide +kernel
theorem d_Al_add2_14 : decode b_Al_add2 14 = .ok (.aastore, 1) := by decide +kernel
theorem d_Al_add2_15 : decode b_Al_add2 15 = .ok (.aload_n 0, 1) := by decide +kernel
theorem d_Al_add2_16 : decode b_Al_add2 16 = .ok (.iload_n 3, 1) := by decide +kernel
theorem d_Al_add2_17 : decode b_Al_add2 17 = .ok (.iconst 1, 1) := by decide +kernel
theorem d_Al_add2_18 : decode b_Al_add2 18 = .ok (.iadd, 1) := by decide +kernel
theorem d_Al_add2_19 : decode b_Al_add2 19 = .ok (.putfield 48, 3) := by decide +kernel
theorem d_Al_add2_22 : decode b_Al_add2 22 = .ok (.return_, 1) := by decide +kernel
theorem d_Al_grow_0 : decode b_Al_grow 0 = .ok (.aload_n 0, 1) := by decide +kernel
theorem d_Al_grow_1 : decode b_Al_grow 1 = .ok (.aload_n 0, 1) := by decide +kernel
theorem d_Al_grow_2 : decode b_Al_grow 2 = .ok (.getfield 48, 3) := by decide +kernel
theorem d_Al_grow_5 : decode b_Al_grow 5 = .ok (.iconst 1, 1) := by decide +kernel
theorem d_Al_grow_6 : decode b_Al_grow 6 = .ok (.iadd, 1) := by decide +kernel
theorem d_Al_grow_7 : decode b_Al_grow 7 = .ok (.invokevirtual 69, 3) := by decide +kernel
theorem d_Al_grow_10 : decode b_Al_grow 10 = .ok (.areturn, 1) := by decide +kernel
theorem d_Al_grow2_0 : decode b_Al_grow2 0 = .ok (.aload_n 0, 1) := by decide +kernel
theorem d_Al_grow2_1 : decode b_Al_grow2 1 = .ok (.getfield 9, 3) := by decide +kernel
theorem d_Al_grow2_4 : decode b_Al_grow2 4 = .ok (.arraylength, 1) := by decide +kernel
theorem d_Al_grow2_5 : decode b_Al_grow2 5 = .ok (.istore_n 2, 1) := by decide +kernel
theorem d_Al_grow2_6 : decode b_Al_grow2 6 = .ok (.iload_n 2, 1) := by decide +kernel
theorem d_Al_grow2_7 : decode b_Al_grow2 7 = .ok (.ifCond .gt 13, 3) := by decide +kernel
theorem d_Al_grow2_10 : decode b_Al_grow2 10 = .ok (.aload_n 0, 1) := by decide +kernel
theorem d_Al_grow2_11 : decode b_Al_grow2 11 = .ok (.getfield 9, 3) := by decide +kernel
theorem d_Al_grow2_14 : decode b_Al_grow2 14 = .ok (.getstatic 39, 3) := by decide +kernel
theorem d_Al_grow2_17 : decode b_Al_grow2 17 = .ok (.if_acmp .eq 28, 3) := by decide +kernel
theorem d_Al_grow2_20 : decode b_Al_grow2 20 = .ok (.iload_n 2, 1) := by decide +kernel
theorem d_Al_grow2_21 : decode b_Al_grow2 21 = .ok (.iload_n 1, 1) := by decide +kernel
theorem d_Al_grow2_22 : decode b_Al_grow2 22 = .ok (.iload_n 2, 1) := by decide +kernel
theorem d_Al_grow2_23 : decode b_Al_grow2 23 = .ok (.isub, 1) := by decide +kernel
theorem d_Al_grow2_24 : decode b_Al_grow2 24 = .ok (.iload_n 2, 1) := by decide +kernel
theorem d_Al_grow2_25 : decode b_Al_grow2 25 = .ok (.iconst 1, 1) := by decide +kernel
theorem d_Al_grow2_26 : decode b_Al_grow2 26 = .ok (.ishr, 1) := by decide +kernel
theorem d_Al_grow2_27 : decode b_Al_grow2 27 = .ok (.invokestatic 73, 3) := by decide +kernel
theorem d_Al_grow2_30 : decode b_Al_grow2 30 = .ok (.istore_n 3, 1) := by decide +kernel
theorem d_Al_grow2_31 : decode b_Al_grow2 31 = .ok (.aload_n 0, 1) := by decide +kernel
theorem d_Al_grow2_32 : decode b_Al_grow2 32 = .ok (.aload_n 0, 1) := by decide +kernel
theorem d_Al_grow2_33 : decode b_Al_grow2 33 = .ok (.getfield 9, 3) := by decide +kernel
theorem d_Al_grow2_36 : decode b_Al_grow2 36 = .ok (.iload_n 3, 1) := by decide +kernel
theorem d_Al_grow2_37 : decode b_Al_grow2 37 = .ok (.invokestatic 66, 3) := by decide +kernel
theorem d_Al_grow2_40 : decode b_Al_grow2 40 = .ok (.dup_x1, 1) := by decide +kernel
theorem d_Al_grow2_41 : decode b_Al_grow2 41 = .ok (.putfield 9, 3) := by decide +kernel
theorem d_Al_grow2_44 : decode b_Al_grow2 44 = .ok (.areturn, 1) := by decide +kernel
theorem d_Al_grow2_45 : decode b_Al_grow2 45 = .ok (.aload_n 0, 1) := by decide +kernel
theorem d_Al_grow2_46 : decode b_Al_grow2 46 = .ok (.bipush 10, 2) := by decide +kernel
theorem d_Al_grow2_48 : decode b_Al_grow2 48 = .ok (.iload_n 1, 1) := by decide +kernel
theorem d_Al_grow2_49 : decode b_Al_grow2 49 = .ok (.invokestatic 79, 3) := by decide +kernel
theorem d_Al_grow2_52 : decode b_Al_grow2 52 = .ok (.anewarray 7, 3) := by decide +kernel
theorem d_Al_grow2_55 : decode b_Al_grow2 55 = .ok (.dup_x1, 1) := by decide +kernel
theorem d_Al_grow2_56 : decode b_Al_grow2 56 = .ok (.putfield 9, 3) := by decide +kernel
theorem d_Al_grow2_59 : decode b_Al_grow2 59 = .ok (.areturn, 1) := by decide +kernel
theorem d_As_newLength_0 : decode b_As_newLength 0 = .ok (.iload_n 0, 1) := by decide +kernel
theorem d_As_newLength_1 : decode b_As_newLength 1 = .ok (.iload_n 1, 1) := by decide +kernel
theorem d_As_newLength_2 : decode b_As_newLength 2 = .ok (.iload_n 2, 1) := by decide +kernel
theorem d_As_newLength_3 : decode b_As_newLength 3 = .ok (.invokestatic 194, 3) := by decide +kernel
theorem d_As_newLength_6 : decode b_As_newLength 6 = .ok (.iadd, 1) := by decide +kernel
theorem d_As_newLength_7 : decode b_As_newLength 7 = .ok (.istore_n 3, 1) := by decide +kernel
theorem d_As_newLength_8 : decode b_As_newLength 8 = .ok (.iconst 0, 1) := by decide +kernel
theorem d_As_newLength_9 : decode b_As_newLength 9 = .ok (.iload_n 3, 1) := by decide +kernel
theorem d_As_newLength_10 : decode b_As_newLength 10 = .ok (.if_icmp .ge 11, 3) := by decide +kernel
theorem d_As_newLength_13 : decode b_As_newLength 13 = .ok (.iload_n 3, 1) := by decide +kernel
theorem d_As_newLength_14 : decode b_As_newLength 14 = .ok (.ldc 200, 2) := by decide +kernel
theorem d_As_newLength_16 : decode b_As_newLength 16 = .ok (.if_icmp .gt 5, 3) := by decide +kernel
theorem d_As_newLength_19 : decode b_As_newLength 19 = .ok (.iload_n 3, 1) := by decide +kernel
theorem d_As_newLength_20 : decode b_As_newLength 20 = .ok (.ireturn, 1) := by decide +kernel
theorem d_As_newLength_21 : decode b_As_newLength 21 = .ok (.iload_n 0, 1) := by decide +kernel
theorem d_As_newLength_22 : decode b_As_newLength 22 = .ok (.iload_n 1, 1) := by decide +kernel
theorem d_As_newLength_23 : decode b_As_newLength 23 = .ok (.invokestatic 201, 3) := by decide +kernel
theorem d_As_newLength_26 : decode b_As_newLength 26 = .ok (.ireturn, 1) := by decide +kernel
theorem d_Ma_max_0 : decode b_Ma_max 0 = .ok (.iload_n 0, 1) := by decide +kernel
theorem d_Ma_max_1 : decode b_Ma_max 1 = .ok (.iload_n 1, 1) := by decide +kernel
theorem d_Ma_max_2 : decode b_Ma_max 2 = .ok (.if_icmp .lt 7, 3) := by decide +kernel
theorem d_Ma_max_5 : decode b_Ma_max 5 = .ok (.iload_n 0, 1) := by decide +kernel
theorem d_Ma_max_6 : decode b_Ma_max 6 = .ok (.goto 4, 3) := by decide +kernel
theorem d_Ma_max_9 : decode b_Ma_max 9 = .ok (.iload_n 1, 1) := by decide +kernel
theorem d_Ma_max_10 : decode b_Ma_max 10 = .ok (.ireturn, 1) := by decide +kernel
theorem d_As_hugeLength_0 : decode b_As_hugeLength 0 = .ok (.iload_n 0, 1) := by decide +kernel
theorem d_As_hugeLength_1 : decode b_As_hugeLength 1 = .ok (.iload_n 1, 1) := by decide +kernel
theorem d_As_hugeLength_2 : decode b_As_hugeLength 2 = .ok (.iadd, 1) := by decide +kernel
theorem d_As_hugeLength_3 : decode b_As_hugeLength 3 = .ok (.istore_n 2, 1) := by decide +kernel
theorem d_As_hugeLength_4 : decode b_As_hugeLength 4 = .ok (.iload_n 2, 1) := by decide +kernel
theorem d_As_hugeLength_5 : decode b_As_hugeLength 5 = .ok (.ifCond .ge 44, 3) := by decide +kernel
theorem d_As_hugeLength_8 : decode b_As_hugeLength 8 = .ok (.new 204, 3) := by decide +kernel
theorem d_As_hugeLength_11 : decode b_As_hugeLength 11 = .ok (.dup, 1) := by decide +kernel
theorem d_As_hugeLength_12 : decode b_As_hugeLength 12 = .ok (.new 89, 3) := by decide +kernel
theorem d_As_hugeLength_15 : decode b_As_hugeLength 15 = .ok (.dup, 1) := by decide +kernel
theorem d_As_hugeLength_16 : decode b_As_hugeLength 16 = .ok (.invokespecial 91, 3) := by decide +kernel
theorem d_As_hugeLength_19 : decode b_As_hugeLength 19 = .ok (.ldc 206, 2) := by decide +kernel
theorem d_As_hugeLength_21 : decode b_As_hugeLength 21 = .ok (.invokevirtual 94, 3) := by decide +kernel
theorem d_As_hugeLength_24 : decode b_As_hugeLength 24 = .ok (.iload_n 0, 1) := by decide +kernel
theorem d_As_hugeLength_25 : decode b_As_hugeLength 25 = .ok (.invokevirtual 98, 3) := by decide +kernel
theorem d_As_hugeLength_28 : decode b_As_hugeLength 28 = .ok (.ldc 208, 2) := by decide +kernel
theorem d_As_hugeLength_30 : decode b_As_hugeLength 30 = .ok (.invokevirtual 94, 3) := by decide +kernel
theorem d_As_hugeLength_33 : decode b_As_hugeLength 33 = .ok (.iload_n 1, 1) := by decide +kernel
theorem d_As_hugeLength_34 : decode b_As_hugeLength 34 = .ok (.invokevirtual 98, 3) := by decide +kernel
theorem d_As_hugeLength_37 : decode b_As_hugeLength 37 = .ok (.ldc 210, 2) := by decide +kernel
theorem d_As_hugeLength_39 : decode b_As_hugeLength 39 = .ok (.invokevirtual 94, 3) := by decide +kernel
theorem d_As_hugeLength_42 : decode b_As_hugeLength 42 = .ok (.invokevirtual 101, 3) := by decide +kernel
theorem d_As_hugeLength_45 : decode b_As_hugeLength 45 = .ok (.invokespecial 212, 3) := by decide +kernel
theorem d_As_hugeLength_48 : decode b_As_hugeLength 48 = .ok (.athrow, 1) := by decide +kernel
theorem d_As_hugeLength_49 : decode b_As_hugeLength 49 = .ok (.iload_n 2, 1) := by decide +kernel
theorem d_As_hugeLength_50 : decode b_As_hugeLength 50 = .ok (.ldc 200, 2) := by decide +kernel
theorem d_As_hugeLength_52 : decode b_As_hugeLength 52 = .ok (.if_icmp .gt 6, 3) := by decide +kernel
theorem d_As_hugeLength_55 : decode b_As_hugeLength 55 = .ok (.ldc 200, 2) := by decide +kernel
theorem d_As_hugeLength_57 : decode b_As_hugeLength 57 = .ok (.ireturn, 1) := by decide +kernel
theorem d_As_hugeLength_58 : decode b_As_hugeLength 58 = .ok (.iload_n 2, 1) := by decide +kernel
theorem d_As_hugeLength_59 : decode b_As_hugeLength 59 = .ok (.ireturn, 1) := by decide +kernel
theorem d_Ar_copyOf_0 : decode b_Ar_copyOf 0 = .ok (.aload_n 0, 1) := by decide +kernel
theorem d_Ar_copyOf_1 : decode b_Ar_copyOf 1 = .ok (.iload_n 1, 1) := by decide +kernel
theorem d_Ar_copyOf_2 : decode b_Ar_copyOf 2 = .ok (.aload_n 0, 1) := by decide +kernel
theorem d_Ar_copyOf_3 : decode b_Ar_copyOf 3 = .ok (.invokevirtual 86, 3) := by decide +kernel
theorem d_Ar_copyOf_6 : decode b_Ar_copyOf 6 = .ok (.invokestatic 300, 3) := by decide +kernel
theorem d_Ar_copyOf_9 : decode b_Ar_copyOf 9 = .ok (.areturn, 1) := by decide +kernel
theorem d_Ar_copyOf2_0 : decode b_Ar_copyOf2 0 = .ok (.aload_n 2, 1) := by decide +kernel
theorem d_Ar_copyOf2_1 : decode b_Ar_copyOf2 1 = .ok (.ldc 110, 2) := by decide +kernel
theorem d_Ar_copyOf2_3 : decode b_Ar_copyOf2 3 = .ok (.if_acmp .ne 10, 3) := by decide +kernel
theorem d_Ar_copyOf2_6 : decode b_Ar_copyOf2 6 = .ok (.iload_n 1, 1) := by decide +kernel
theorem d_Ar_copyOf2_7 : decode b_Ar_copyOf2 7 = .ok (.anewarray 2, 3) := by decide +kernel
theorem d_Ar_copyOf2_10 : decode b_Ar_copyOf2 10 = .ok (.goto 14, 3) := by decide +kernel
theorem d_Ar_copyOf2_13 : decode b_Ar_copyOf2 13 = .ok (.aload_n 2, 1) := by decide +kernel
theorem d_Ar_copyOf2_14 : decode b_Ar_copyOf2 14 = .ok (.invokevirtual 90, 3) := by decide +kernel
theorem d_Ar_copyOf2_17 : decode b_Ar_copyOf2 17 = .ok (.iload_n 1, 1) := by decide +kernel
theorem d_Ar_copyOf2_18 : decode b_Ar_copyOf2 18 = .ok (.invokestatic 95, 3) := by decide +kernel
theorem d_Ar_copyOf2_21 : decode b_Ar_copyOf2 21 = .ok (.checkcast 110, 3) := by decide +kernel
theorem d_Ar_copyOf2_24 : decode b_Ar_copyOf2 24 = .ok (.astore_n 3, 1) := by decide +kernel
theorem d_Ar_copyOf2_25 : decode b_Ar_copyOf2 25 = .ok (.aload_n 0, 1) := by decide +kernel
theorem d_Ar_copyOf2_26 : decode b_Ar_copyOf2 26 = .ok (.iconst 0, 1) := by decide +kernel
theorem d_Ar_copyOf2_27 : decode b_Ar_copyOf2 27 = .ok (.aload_n 3, 1) := by decide +kernel
theorem d_Ar_copyOf2_28 : decode b_Ar_copyOf2 28 = .ok (.iconst 0, 1) := by decide +kernel
theorem d_Ar_copyOf2_29 : decode b_Ar_copyOf2 29 = .ok (.aload_n 0, 1) := by decide +kernel
theorem d_Ar_copyOf2_30 : decode b_Ar_copyOf2 30 = .ok (.arraylength, 1) := by decide +kernel
theorem d_Ar_copyOf2_31 : decode b_Ar_copyOf2 31 = .ok (.iload_n 1, 1) := by decide +kernel
theorem d_Ar_copyOf2_32 : decode b_Ar_copyOf2 32 = .ok (.invokestatic 304, 3) := by decide +kernel
theorem d_Ar_copyOf2_35 : decode b_Ar_copyOf2 35 = .ok (.invokestatic 150, 3) := by decide +kernel
theorem d_Ar_copyOf2_38 : decode b_Ar_copyOf2 38 = .ok (.aload_n 3, 1) := by decide +kernel
theorem d_Ar_copyOf2_39 : decode b_Ar_copyOf2 39 = .ok (.areturn, 1) := by decide +kernel
theorem d_Pm_init_0 : decode b_Pm_init 0 = .ok (.aload_n 0, 1) := by decide +kernel
theorem d_Pm_init_1 : decode b_Pm_init 1 = .ok (.invokespecial 1, 3) := by decide +kernel
theorem d_Pm_init_4 : decode b_Pm_init 4 = .ok (.aload_n 0, 1) := by decide +kernel
theorem d_Pm_init_5 : decode b_Pm_init 5 = .ok (.aload_n 2, 1) := by decide +kernel
theorem d_Pm_init_6 : decode b_Pm_init 6 = .ok (.putfield 7, 3) := by decide +kernel
theorem d_Pm_init_9 : decode b_Pm_init 9 = .ok (.aload_n 0, 1) := by decide +kernel
theorem d_Pm_init_10 : decode b_Pm_init 10 = .ok (.iload_n 1, 1) := by decide +kernel
theorem d_Pm_init_11 : decode b_Pm_init 11 = .ok (.putfield 13, 3) := by decide +kernel
theorem d_Pm_init_14 : decode b_Pm_init 14 = .ok (.aload_n 0, 1) := by decide +kernel
theorem d_Pm_init_15 : decode b_Pm_init 15 = .ok (.iload_n 3, 1) := by decide +kernel
theorem d_Pm_init_16 : decode b_Pm_init 16 = .ok (.putfield 17, 3) := by decide +kernel
theorem d_Pm_init_19 : decode b_Pm_init 19 = .ok (.aload_n 0, 1) := by decide +kernel
theorem d_Pm_init_20 : decode b_Pm_init 20 = .ok (.iload 4, 2) := by decide +kernel
theorem d_Pm_init_22 : decode b_Pm_init 22 = .ok (.putfield 20, 3) := by decide +kernel
theorem d_Pm_init_25 : decode b_Pm_init 25 = .ok (.aload_n 0, 1) := by decide +kernel
theorem d_Pm_init_26 : decode b_Pm_init 26 = .ok (.new 23, 3) := by decide +kernel
theorem d_Pm_init_29 : decode b_Pm_init 29 = .ok (.dup, 1) := by decide +kernel
theorem d_Pm_init_30 : decode b_Pm_init 30 = .ok (.invokespecial 25, 3) := by decide +kernel
theorem d_Pm_init_33 : decode b_Pm_init 33 = .ok (.putfield 26, 3) := by decide +kernel
theorem d_Pm_init_36 : decode b_Pm_init 36 = .ok (.aload_n 0, 1) := by decide +kernel
theorem d_Pm_init_37 : decode b_Pm_init 37 = .ok (.iload_n 3, 1) := by decide +kernel
theorem d_Pm_init_38 : decode b_Pm_init 38 = .ok (.putfield 30, 3) := by decide +kernel
theorem d_Pm_init_41 : decode b_Pm_init 41 = .ok (.aload_n 0, 1) := by decide +kernel
theorem d_Pm_init_42 : decode b_Pm_init 42 = .ok (.iconst 0, 1) := by decide +kernel
theorem d_Pm_init_43 : decode b_Pm_init 43 = .ok (.putfield 33, 3) := by decide +kernel
theorem d_Pm_init_46 : decode b_Pm_init 46 = .ok (.aload_n 0, 1) := by decide +kernel
theorem d_Pm_init_47 : decode b_Pm_init 47 = .ok (.iconst 0, 1) := by decide +kernel
theorem d_Pm_init_48 : decode b_Pm_init 48 = .ok (.putfield 37, 3) := by decide +kernel
theorem d_Pm_init_51 : decode b_Pm_init 51 = .ok (.return_, 1) := by decide +kernel
theorem d_It_init_0 : decode b_It_init 0 = .ok (.aload_n 0, 1) := by decide +kernel
theorem d_It_init_1 : decode b_It_init 1 = .ok (.invokespecial 1, 3) := by decide +kernel
theorem d_It_init_4 : decode b_It_init 4 = .ok (.aload_n 0, 1) := by decide +kernel
theorem d_It_init_5 : decode b_It_init 5 = .ok (.iload_n 1, 1) := by decide +kernel
theorem d_It_init_6 : decode b_It_init 6 = .ok (.putfield 7, 3) := by decide +kernel
theorem d_It_init_9 : decode b_It_init 9 = .ok (.aload_n 0, 1) := by decide +kernel
theorem d_It_init_10 : decode b_It_init 10 = .ok (.iload_n 2, 1) := by decide +kernel
theorem d_It_init_11 : decode b_It_init 11 = .ok (.putfield 13, 3) := by decide +kernel
theorem d_It_init_14 : decode b_It_init 14 = .ok (.aload_n 0, 1) := by decide +kernel
theorem d_It_init_15 : decode b_It_init 15 = .ok (.aload_n 3, 1) := by decide +kernel
theorem d_It_init_16 : decode b_It_init 16 = .ok (.putfield 16, 3) := by decide +kernel
theorem d_It_init_19 : decode b_It_init 19 = .ok (.aload_n 0, 1) := by decide +kernel
theorem d_It_init_20 : decode b_It_init 20 = .ok (.iload 5, 2) := by decide +kernel
theorem d_It_init_22 : decode b_It_init 22 = .ok (.putfield 20, 3) := by decide +kernel
theorem d_It_init_25 : decode b_It_init 25 = .ok (.aload_n 0, 1) := by decide +kernel
theorem d_It_init_26 : decode b_It_init 26 = .ok (.iload 4, 2) := by decide +kernel
theorem d_It_init_28 : decode b_It_init 28 = .ok (.putfield 23, 3) := by decide +kernel
theorem d_It_init_31 : decode b_It_init 31 = .ok (.return_, 1) := by decide +kernel
theorem d_Ru_outcomeOf_0 : decode b_Ru_outcomeOf 0 = .ok (.aload_n 0, 1) := by decide +kernel
theorem d_Ru_outcomeOf_1 : decode b_Ru_outcomeOf 1 = .ok (.iconst 0, 1) := by decide +kernel
theorem d_Ru_outcomeOf_2 : decode b_Ru_outcomeOf 2 = .ok (.putfield 9, 3) := by decide +kernel
theorem d_Ru_outcomeOf_5 : decode b_Ru_outcomeOf 5 = .ok (.aload_n 0, 1) := by decide +kernel
theorem d_Ru_outcomeOf_6 : decode b_Ru_outcomeOf 6 = .ok (.iconst 0, 1) := by decide +kernel
theorem d_Ru_outcomeOf_7 : decode b_Ru_outcomeOf 7 = .ok (.putfield 15, 3) := by decide +kernel
theorem d_Ru_outcomeOf_10 : decode b_Ru_outcomeOf 10 = .ok (.aload_n 0, 1) := by decide +kernel
theorem d_Ru_outcomeOf_11 : decode b_Ru_outcomeOf 11 = .ok (.aload_n 1, 1) := by decide +kernel
theorem d_Ru_outcomeOf_12 : decode b_Ru_outcomeOf 12 = .ok (.iload_n 2, 1) := by decide +kernel
theorem d_Ru_outcomeOf_13 : decode b_Ru_outcomeOf 13 = .ok (.iload_n 3, 1) := by decide +kernel
theorem d_Ru_outcomeOf_14 : decode b_Ru_outcomeOf 14 = .ok (.iconst 1, 1) := by decide +kernel
theorem d_Ru_outcomeOf_15 : decode b_Ru_outcomeOf 15 = .ok (.invokevirtual 18, 3) := by decide +kernel
theorem d_Ru_outcomeOf_18 : decode b_Ru_outcomeOf 18 = .ok (.aload_n 0, 1) := by decide +kernel
theorem d_Ru_outcomeOf_19 : decode b_Ru_outcomeOf 19 = .ok (.getfield 9, 3) := by decide +kernel
theorem d_Ru_outcomeOf_22 : decode b_Ru_outcomeOf 22 = .ok (.ireturn, 1) := by decide +kernel
theorem d_Ru_perform_0 : decode b_Ru_perform 0 = .ok (.iload 4, 2) := by decide +kernel
theorem d_Ru_perform_2 : decode b_Ru_perform 2 = .ok (.bipush 16, 2) := by decide +kernel
theorem d_Ru_perform_4 : decode b_Ru_perform 4 = .ok (.if_icmp .le 13, 3) := by decide +kernel
theorem d_Ru_perform_7 : decode b_Ru_perform 7 = .ok (.new 22, 3) := by decide +kernel
theorem d_Ru_perform_10 : decode b_Ru_perform 10 = .ok (.dup, 1) := by decide +kernel
theorem d_Ru_perform_11 : decode b_Ru_perform 11 = .ok (.ldc 24, 2) := by decide +kernel
theorem d_Ru_perform_13 : decode b_Ru_perform 13 = .ok (.invokespecial 26, 3) := by decide +kernel
theorem d_Ru_perform_16 : decode b_Ru_perform 16 = .ok (.athrow, 1) := by decide +kernel
theorem d_Ru_perform_17 : decode b_Ru_perform 17 = .ok (.aload_n 1, 1) := by decide +kernel
theorem d_Ru_perform_18 : decode b_Ru_perform 18 = .ok (.iload_n 2, 1) := by decide +kernel
theorem d_Ru_perform_19 : decode b_Ru_perform 19 = .ok (.iload_n 3, 1) := by decide +kernel
theorem d_Ru_perform_20 : decode b_Ru_perform 20 = .ok (.invokevirtual 29, 3) := by decide +kernel
theorem d_Ru_perform_23 : decode b_Ru_perform 23 = .ok (.astore 5, 2) := by decide +kernel
theorem d_Ru_perform_25 : decode b_Ru_perform 25 = .ok (.aload 5, 2) := by decide +kernel
theorem d_Ru_perform_27 : decode b_Ru_perform 27 = .ok (.ifnonnull 13, 3) := by decide +kernel
theorem d_Ru_perform_30 : decode b_Ru_perform 30 = .ok (.new 35, 3) := by decide +kernel
theorem d_Ru_perform_33 : decode b_Ru_perform 33 = .ok (.dup, 1) := by decide +kernel
theorem d_Ru_perform_34 : decode b_Ru_perform 34 = .ok (.ldc 37, 2) := by decide +kernel
theorem d_Ru_perform_36 : decode b_Ru_perform 36 = .ok (.invokespecial 39, 3) := by decide +kernel
theorem d_Ru_perform_39 : decode b_Ru_perform 39 = .ok (.athrow, 1) := by decide +kernel
theorem d_Ru_perform_40 : decode b_Ru_perform 40 = .ok (.iconst 0, 1) := by decide +kernel
theorem d_Ru_perform_41 : decode b_Ru_perform 41 = .ok (.istore 6, 2) := by decide +kernel
theorem d_Ru_perform_43 : decode b_Ru_perform 43 = .ok (.iload 6, 2) := by decide +kernel
theorem d_Ru_perform_45 : decode b_Ru_perform 45 = .ok (.aload 5, 2) := by decide +kernel
theorem d_Ru_perform_47 : decode b_Ru_perform 47 = .ok (.getfield 40, 3) := by decide +kernel
theorem d_Ru_perform_50 : decode b_Ru_perform 50 = .ok (.invokevirtual 46, 3) := by decide +kernel
theorem d_Ru_perform_53 : decode b_Ru_perform 53 = .ok (.if_icmp .ge 29, 3) := by decide +kernel
theorem d_Ru_perform_56 : decode b_Ru_perform 56 = .ok (.aload_n 0, 1) := by decide +kernel
theorem d_Ru_perform_57 : decode b_Ru_perform 57 = .ok (.aload 5, 2) := by decide +kernel
theorem d_Ru_perform_59 : decode b_Ru_perform 59 = .ok (.getfield 40, 3) := by decide +kernel
theorem d_Ru_perform_62 : decode b_Ru_perform 62 = .ok (.iload 6, 2) := by decide +kernel
theorem d_Ru_perform_64 : decode b_Ru_perform 64 = .ok (.invokevirtual 52, 3) := by decide +kernel
theorem d_Ru_perform_67 : decode b_Ru_perform 67 = .ok (.checkcast 56, 3) := by decide +kernel
theorem d_Ru_perform_70 : decode b_Ru_perform 70 = .ok (.aload_n 1, 1) := by decide +kernel
theorem d_Ru_perform_71 : decode b_Ru_perform 71 = .ok (.iload 4, 2) := by decide +kernel
theorem d_Ru_perform_73 : decode b_Ru_perform 73 = .ok (.invokevirtual 58, 3) := by decide +kernel
theorem d_Ru_perform_76 : decode b_Ru_perform 76 = .ok (.iinc 6 1, 3) := by decide +kernel
theorem d_Ru_perform_79 : decode b_Ru_perform 79 = .ok (.goto (-36), 3) := by decide +kernel
theorem d_Ru_perform_82 : decode b_Ru_perform 82 = .ok (.return_, 1) := by decide +kernel
theorem d_Ru_performItem_0 : decode b_Ru_performItem 0 = .ok (.aload_n 0, 1) := by decide +kernel
theorem d_Ru_performItem_1 : decode b_Ru_performItem 1 = .ok (.getfield 15, 3) := by decide +kernel
theorem d_Ru_performItem_4 : decode b_Ru_performItem 4 = .ok (.sipush 300, 3) := by decide +kernel
theorem d_Ru_performItem_7 : decode b_Ru_performItem 7 = .ok (.if_icmp .lt 13, 3) := by decide +kernel
theorem d_Ru_performItem_10 : decode b_Ru_performItem 10 = .ok (.new 22, 3) := by decide +kernel
theorem d_Ru_performItem_13 : decode b_Ru_performItem 13 = .ok (.dup, 1) := by decide +kernel
theorem d_Ru_performItem_14 : decode b_Ru_performItem 14 = .ok (.ldc 62, 2) := by decide +kernel
theorem d_Ru_performItem_16 : decode b_Ru_performItem 16 = .ok (.invokespecial 26, 3) := by decide +kernel
theorem d_Ru_performItem_19 : decode b_Ru_performItem 19 = .ok (.athrow, 1) := by decide +kernel
theorem d_Ru_performItem_20 : decode b_Ru_performItem 20 = .ok (.aload_n 0, 1) := by decide +kernel
theorem d_Ru_performItem_21 : decode b_Ru_performItem 21 = .ok (.dup, 1) := by decide +kernel
theorem d_Ru_performItem_22 : decode b_Ru_performItem 22 = .ok (.getfield 15, 3) := by decide +kernel
theorem d_Ru_performItem_25 : decode b_Ru_performItem 25 = .ok (.iconst 1, 1) := by decide +kernel
theorem d_Ru_performItem_26 : decode b_Ru_performItem 26 = .ok (.iadd, 1) := by decide +kernel
theorem d_Ru_performItem_27 : decode b_Ru_performItem 27 = .ok (.putfield 15, 3) := by decide +kernel
theorem d_Ru_performItem_30 : decode b_Ru_performItem 30 = .ok (.aload_n 1, 1) := by decide +kernel
theorem d_Ru_performItem_31 : decode b_Ru_performItem 31 = .ok (.getfield 64, 3) := by decide +kernel
theorem d_Ru_performItem_34 : decode b_Ru_performItem 34 = .ok (.ifCond .ne 22, 3) := by decide +kernel
theorem d_Ru_performItem_37 : decode b_Ru_performItem 37 = .ok (.aload_n 0, 1) := by decide +kernel
theorem d_Ru_performItem_38 : decode b_Ru_performItem 38 = .ok (.bipush 31, 2) := by decide +kernel
theorem d_Ru_performItem_40 : decode b_Ru_performItem 40 = .ok (.aload_n 0, 1) := by decide +kernel
theorem d_Ru_performItem_41 : decode b_Ru_performItem 41 = .ok (.getfield 9, 3) := by decide +kernel
theorem d_Ru_performItem_44 : decode b_Ru_performItem 44 = .ok (.imul, 1) := by decide +kernel
theorem d_Ru_performItem_45 : decode b_Ru_performItem 45 = .ok (.aload_n 1, 1) := by decide +kernel
theorem d_Ru_performItem_46 : decode b_Ru_performItem 46 = .ok (.getfield 67, 3) := by decide +kernel
theorem d_Ru_performItem_49 : decode b_Ru_performItem 49 = .ok (.iadd, 1) := by decide +kernel
theorem d_Ru_performItem_50 : decode b_Ru_performItem 50 = .ok (.putfield 9, 3) := by decide +kernel
theorem d_Ru_performItem_53 : decode b_Ru_performItem 53 = .ok (.goto 37, 3) := by decide +kernel
theorem d_Ru_performItem_56 : decode b_Ru_performItem 56 = .ok (.aload_n 1, 1) := by decide +kernel
theorem d_Ru_performItem_57 : decode b_Ru_performItem 57 = .ok (.getfield 70, 3) := by decide +kernel
theorem d_Ru_performItem_60 : decode b_Ru_performItem 60 = .ok (.ifnonnull 7, 3) := by decide +kernel
theorem d_Ru_performItem_63 : decode b_Ru_performItem 63 = .ok (.aload_n 2, 1) := by decide +kernel
theorem d_Ru_performItem_64 : decode b_Ru_performItem 64 = .ok (.goto 7, 3) := by decide +kernel
theorem d_Ru_performItem_67 : decode b_Ru_performItem 67 = .ok (.aload_n 1, 1) := by decide +kernel
theorem d_Ru_performItem_68 : decode b_Ru_performItem 68 = .ok (.getfield 70, 3) := by decide +kernel
theorem d_Ru_performItem_71 : decode b_Ru_performItem 71 = .ok (.astore 4, 2) := by decide +kernel
theorem d_Ru_performItem_73 : decode b_Ru_performItem 73 = .ok (.aload_n 0, 1) := by decide +kernel
theorem d_Ru_performItem_74 : decode b_Ru_performItem 74 = .ok (.aload 4, 2) := by decide +kernel
theorem d_Ru_performItem_76 : decode b_Ru_performItem 76 = .ok (.aload_n 1, 1) := by decide +kernel
theorem d_Ru_performItem_77 : decode b_Ru_performItem 77 = .ok (.getfield 74, 3) := by decide +kernel
theorem d_Ru_performItem_80 : decode b_Ru_performItem 80 = .ok (.aload_n 1, 1) := by decide +kernel
theorem d_Ru_performItem_81 : decode b_Ru_performItem 81 = .ok (.getfield 77, 3) := by decide +kernel
theorem d_Ru_performItem_84 : decode b_Ru_performItem 84 = .ok (.iload_n 3, 1) := by decide +kernel
theorem d_Ru_performItem_85 : decode b_Ru_performItem 85 = .ok (.iconst 1, 1) := by decide +kernel
theorem d_Ru_performItem_86 : decode b_Ru_performItem 86 = .ok (.iadd, 1) := by decide +kernel
theorem d_Ru_performItem_87 : decode b_Ru_performItem 87 = .ok (.invokevirtual 18, 3) := by decide +kernel
theorem d_Ru_performItem_90 : decode b_Ru_performItem 90 = .ok (.return_, 1) := by decide +kernel
theorem d_It_part_0 : decode b_It_part 0 = .ok (.iload_n 1, 1) := by decide +kernel
theorem d_It_part_1 : decode b_It_part 1 = .ok (.tableswitch 59 0 2 #[27, 32, 54], 27) := by decide +kernel
theorem d_It_part_28 : decode b_It_part 28 = .ok (.aload_n 0, 1) := by decide +kernel
theorem d_It_part_29 : decode b_It_part 29 = .ok (.getfield 7, 3) := by decide +kernel
theorem d_It_part_32 : decode b_It_part 32 = .ok (.ireturn, 1) := by decide +kernel
theorem d_It_part_33 : decode b_It_part 33 = .ok (.aload_n 0, 1) := by decide +kernel
theorem d_It_part_34 : decode b_It_part 34 = .ok (.getfield 16, 3) := by decide +kernel
theorem d_It_part_37 : decode b_It_part 37 = .ok (.ifnonnull 10, 3) := by decide +kernel
theorem d_It_part_40 : decode b_It_part 40 = .ok (.aload_n 0, 1) := by decide +kernel
theorem d_It_part_41 : decode b_It_part 41 = .ok (.getfield 13, 3) := by decide +kernel
theorem d_It_part_44 : decode b_It_part 44 = .ok (.goto 10, 3) := by decide +kernel
theorem d_It_part_47 : decode b_It_part 47 = .ok (.aload_n 0, 1) := by decide +kernel
theorem d_It_part_48 : decode b_It_part 48 = .ok (.getfield 16, 3) := by decide +kernel
theorem d_It_part_51 : decode b_It_part 51 = .ok (.getfield 26, 3) := by decide +kernel
theorem d_It_part_54 : decode b_It_part 54 = .ok (.ireturn, 1) := by decide +kernel
theorem d_It_part_55 : decode b_It_part 55 = .ok (.aload_n 0, 1) := by decide +kernel
theorem d_It_part_56 : decode b_It_part 56 = .ok (.getfield 23, 3) := by decide +kernel
theorem d_It_part_59 : decode b_It_part 59 = .ok (.ireturn, 1) := by decide +kernel
theorem d_It_part_60 : decode b_It_part 60 = .ok (.aload_n 0, 1) := by decide +kernel
theorem d_It_part_61 : decode b_It_part 61 = .ok (.getfield 20, 3) := by decide +kernel
theorem d_It_part_64 : decode b_It_part 64 = .ok (.ireturn, 1) := by decide +kernel
end
section
theorem d_Cs_init_0 : decode b_Cs_init 0 = .ok (.aload_n 0, 1) := by decide +kernel
theorem d_Cs_init_1 : decode b_Cs_init 1 = .ok (.invokespecial 1, 3) := by decide +kernel
theorem d_Cs_init_4 : decode b_Cs_init 4 = .ok (.aload_n 0, 1) := by decide +kernel
theorem d_Cs_init_5 : decode b_Cs_init 5 = .ok (.new 7, 3) := by decide +kernel
theorem d_Cs_init_8 : decode b_Cs_init 8 = .ok (.dup, 1) := by decide +kernel
theorem d_Cs_init_9 : decode b_Cs_init 9 = .ok (.invokespecial 9, 3) := by decide +kernel
theorem d_Cs_init_12 : decode b_Cs_init 12 = .ok (.putfield 10, 3) := by decide +kernel
theorem d_Cs_init_15 : decode b_Cs_init 15 = .ok (.aload_n 0, 1) := by decide +kernel
theorem d_Cs_init_16 : decode b_Cs_init 16 = .ok (.new 16, 3) := by decide +kernel
theorem d_Cs_init_19 : decode b_Cs_init 19 = .ok (.dup, 1) := by decide +kernel
theorem d_Cs_init_20 : decode b_Cs_init 20 = .ok (.invokespecial 18, 3) := by decide +kernel
theorem d_Cs_init_23 : decode b_Cs_init 23 = .ok (.putfield 19, 3) := by decide +kernel
theorem d_Cs_init_26 : decode b_Cs_init 26 = .ok (.aload_n 0, 1) := by decide +kernel
theorem d_Cs_init_27 : decode b_Cs_init 27 = .ok (.new 23, 3) := by decide +kernel
theorem d_Cs_init_30 : decode b_Cs_init 30 = .ok (.dup, 1) := by decide +kernel
theorem d_Cs_init_31 : decode b_Cs_init 31 = .ok (.aload_n 0, 1) := by decide +kernel
theorem d_Cs_init_32 : decode b_Cs_init 32 = .ok (.getfield 10, 3) := by decide +kernel
theorem d_Cs_init_35 : decode b_Cs_init 35 = .ok (.invokespecial 25, 3) := by decide +kernel
theorem d_Cs_init_38 : decode b_Cs_init 38 = .ok (.putfield 28, 3) := by decide +kernel
theorem d_Cs_init_41 : decode b_Cs_init 41 = .ok (.aload_n 0, 1) := by decide +kernel
theorem d_Cs_init_42 : decode b_Cs_init 42 = .ok (.new 32, 3) := by decide +kernel
theorem d_Cs_init_45 : decode b_Cs_init 45 = .ok (.dup, 1) := by decide +kernel
theorem d_Cs_init_46 : decode b_Cs_init 46 = .ok (.aload_n 0, 1) := by decide +kernel
theorem d_Cs_init_47 : decode b_Cs_init 47 = .ok (.getfield 10, 3) := by decide +kernel
theorem d_Cs_init_50 : decode b_Cs_init 50 = .ok (.invokespecial 34, 3) := by decide +kernel
theorem d_Cs_init_53 : decode b_Cs_init 53 = .ok (.putfield 35, 3) := by decide +kernel
theorem d_Cs_init_56 : decode b_Cs_init 56 = .ok (.aload_n 0, 1) := by decide +kernel
theorem d_Cs_init_57 : decode b_Cs_init 57 = .ok (.iconst 0, 1) := by decide +kernel
theorem d_Cs_init_58 : decode b_Cs_init 58 = .ok (.putfield 39, 3) := by decide +kernel
theorem d_Cs_init_61 : decode b_Cs_init 61 = .ok (.return_, 1) := by decide +kernel
theorem d_Fa_init_0 : decode b_Fa_init 0 = .ok (.aload_n 0, 1) := by decide +kernel
theorem d_Fa_init_1 : decode b_Fa_init 1 = .ok (.invokespecial 3, 3) := by decide +kernel
theorem d_Fa_init_4 : decode b_Fa_init 4 = .ok (.aload_n 0, 1) := by decide +kernel
theorem d_Fa_init_5 : decode b_Fa_init 5 = .ok (.aload_n 1, 1) := by decide +kernel
theorem d_Fa_init_6 : decode b_Fa_init 6 = .ok (.putfield 9, 3) := by decide +kernel
theorem d_Fa_init_9 : decode b_Fa_init 9 = .ok (.aload_n 0, 1) := by decide +kernel
theorem d_Fa_init_10 : decode b_Fa_init 10 = .ok (.bipush 8, 2) := by decide +kernel
theorem d_Fa_init_12 : decode b_Fa_init 12 = .ok (.newarray .int, 2) := by decide +kernel
theorem d_Fa_init_14 : decode b_Fa_init 14 = .ok (.putfield 15, 3) := by decide +kernel
theorem d_Fa_init_17 : decode b_Fa_init 17 = .ok (.aload_n 0, 1) := by decide +kernel
theorem d_Fa_init_18 : decode b_Fa_init 18 = .ok (.bipush 24, 2) := by decide +kernel
theorem d_Fa_init_20 : decode b_Fa_init 20 = .ok (.newarray .int, 2) := by decide +kernel
theorem d_Fa_init_22 : decode b_Fa_init 22 = .ok (.putfield 19, 3) := by decide +kernel
theorem d_Fa_init_25 : decode b_Fa_init 25 = .ok (.aload_n 0, 1) := by decide +kernel
theorem d_Fa_init_26 : decode b_Fa_init 26 = .ok (.bipush 24, 2) := by decide +kernel
theorem d_Fa_init_28 : decode b_Fa_init 28 = .ok (.newarray .int, 2) := by decide +kernel
theorem d_Fa_init_30 : decode b_Fa_init 30 = .ok (.putfield 22, 3) := by decide +kernel
theorem d_Fa_init_33 : decode b_Fa_init 33 = .ok (.aload_n 0, 1) := by decide +kernel
theorem d_Fa_init_34 : decode b_Fa_init 34 = .ok (.bipush 24, 2) := by decide +kernel
theorem d_Fa_init_36 : decode b_Fa_init 36 = .ok (.newarray .int, 2) := by decide +kernel
theorem d_Fa_init_38 : decode b_Fa_init 38 = .ok (.putfield 25, 3) := by decide +kernel
theorem d_Fa_init_41 : decode b_Fa_init 41 = .ok (.aload_n 0, 1) := by decide +kernel
theorem d_Fa_init_42 : decode b_Fa_init 42 = .ok (.bipush 24, 2) := by decide +kernel
theorem d_Fa_init_44 : decode b_Fa_init 44 = .ok (.newarray .int, 2) := by decide +kernel
theorem d_Fa_init_46 : decode b_Fa_init 46 = .ok (.putfield 28, 3) := by decide +kernel
theorem d_Fa_init_49 : decode b_Fa_init 49 = .ok (.aload_n 0, 1) := by decide +kernel
theorem d_Fa_init_50 : decode b_Fa_init 50 = .ok (.bipush 24, 2) := by decide +kernel
theorem d_Fa_init_52 : decode b_Fa_init 52 = .ok (.newarray .boolean, 2) := by decide +kernel
theorem d_Fa_init_54 : decode b_Fa_init 54 = .ok (.putfield 31, 3) := by decide +kernel
theorem d_Fa_init_57 : decode b_Fa_init 57 = .ok (.aload_n 0, 1) := by decide +kernel
theorem d_Fa_init_58 : decode b_Fa_init 58 = .ok (.iconst 0, 1) := by decide +kernel
theorem d_Fa_init_59 : decode b_Fa_init 59 = .ok (.putfield 35, 3) := by decide +kernel
theorem d_Fa_init_62 : decode b_Fa_init 62 = .ok (.return_, 1) := by decide +kernel
theorem d_Cs_shrink_0 : decode b_Cs_shrink 0 = .ok (.aload_n 0, 1) := by decide +kernel
theorem d_Cs_shrink_1 : decode b_Cs_shrink 1 = .ok (.getfield 10, 3) := by decide +kernel
theorem d_Cs_shrink_4 : decode b_Cs_shrink 4 = .ok (.getfield 87, 3) := by decide +kernel
theorem d_Cs_shrink_7 : decode b_Cs_shrink 7 = .ok (.invokevirtual 55, 3) := by decide +kernel
theorem d_Cs_shrink_10 : decode b_Cs_shrink 10 = .ok (.istore_n 1, 1) := by decide +kernel
theorem d_Cs_shrink_11 : decode b_Cs_shrink 11 = .ok (.aload_n 0, 1) := by decide +kernel
theorem d_Cs_shrink_12 : decode b_Cs_shrink 12 = .ok (.getfield 28, 3) := by decide +kernel
theorem d_Cs_shrink_15 : decode b_Cs_shrink 15 = .ok (.invokevirtual 126, 3) := by decide +kernel
theorem d_Cs_shrink_18 : decode b_Cs_shrink 18 = .ok (.aload_n 0, 1) := by decide +kernel
theorem d_Cs_shrink_19 : decode b_Cs_shrink 19 = .ok (.getfield 10, 3) := by decide +kernel
theorem d_Cs_shrink_22 : decode b_Cs_shrink 22 = .ok (.invokevirtual 129, 3) := by decide +kernel
theorem d_Cs_shrink_25 : decode b_Cs_shrink 25 = .ok (.iload_n 1, 1) := by decide +kernel
theorem d_Cs_shrink_26 : decode b_Cs_shrink 26 = .ok (.aload_n 0, 1) := by decide +kernel
theorem d_Cs_shrink_27 : decode b_Cs_shrink 27 = .ok (.getfield 10, 3) := by decide +kernel
theorem d_Cs_shrink_30 : decode b_Cs_shrink 30 = .ok (.getfield 87, 3) := by decide +kernel
theorem d_Cs_shrink_33 : decode b_Cs_shrink 33 = .ok (.invokevirtual 55, 3) := by decide +kernel
theorem d_Cs_shrink_36 : decode b_Cs_shrink 36 = .ok (.isub, 1) := by decide +kernel
theorem d_Cs_shrink_37 : decode b_Cs_shrink 37 = .ok (.istore_n 2, 1) := by decide +kernel
theorem d_Cs_shrink_38 : decode b_Cs_shrink 38 = .ok (.aload_n 0, 1) := by decide +kernel
theorem d_Cs_shrink_39 : decode b_Cs_shrink 39 = .ok (.dup, 1) := by decide +kernel
theorem d_Cs_shrink_40 : decode b_Cs_shrink 40 = .ok (.getfield 39, 3) := by decide +kernel
theorem d_Cs_shrink_43 : decode b_Cs_shrink 43 = .ok (.iload_n 2, 1) := by decide +kernel
theorem d_Cs_shrink_44 : decode b_Cs_shrink 44 = .ok (.iadd, 1) := by decide +kernel
theorem d_Cs_shrink_45 : decode b_Cs_shrink 45 = .ok (.putfield 39, 3) := by decide +kernel
theorem d_Cs_shrink_48 : decode b_Cs_shrink 48 = .ok (.iload_n 2, 1) := by decide +kernel
theorem d_Cs_shrink_49 : decode b_Cs_shrink 49 = .ok (.ireturn, 1) := by decide +kernel
theorem d_Cs_rename_0 : decode b_Cs_rename 0 = .ok (.aload_n 0, 1) := by decide +kernel
theorem d_Cs_rename_1 : decode b_Cs_rename 1 = .ok (.getfield 35, 3) := by decide +kernel
theorem d_Cs_rename_4 : decode b_Cs_rename 4 = .ok (.invokevirtual 132, 3) := by decide +kernel
theorem d_Cs_rename_7 : decode b_Cs_rename 7 = .ok (.aload_n 0, 1) := by decide +kernel
theorem d_Cs_rename_8 : decode b_Cs_rename 8 = .ok (.getfield 35, 3) := by decide +kernel
theorem d_Cs_rename_11 : decode b_Cs_rename 11 = .ok (.invokevirtual 135, 3) := by decide +kernel
theorem d_Cs_rename_14 : decode b_Cs_rename 14 = .ok (.aload_n 0, 1) := by decide +kernel
theorem d_Cs_rename_15 : decode b_Cs_rename 15 = .ok (.getfield 35, 3) := by decide +kernel
theorem d_Cs_rename_18 : decode b_Cs_rename 18 = .ok (.invokevirtual 138, 3) := by decide +kernel
theorem d_Cs_rename_21 : decode b_Cs_rename 21 = .ok (.aload_n 0, 1) := by decide +kernel
theorem d_Cs_rename_22 : decode b_Cs_rename 22 = .ok (.getfield 35, 3) := by decide +kernel
theorem d_Cs_rename_25 : decode b_Cs_rename 25 = .ok (.getfield 141, 3) := by decide +kernel
theorem d_Cs_rename_28 : decode b_Cs_rename 28 = .ok (.ireturn, 1) := by decide +kernel
theorem d_Fa_form_0 : decode b_Fa_form 0 = .ok (.aload_n 0, 1) := by decide +kernel
theorem d_Fa_form_1 : decode b_Fa_form 1 = .ok (.invokevirtual 39, 3) := by decide +kernel
theorem d_Fa_form_4 : decode b_Fa_form 4 = .ok (.aload_n 0, 1) := by decide +kernel
theorem d_Fa_form_5 : decode b_Fa_form 5 = .ok (.iconst 0, 1) := by decide +kernel
theorem d_Fa_form_6 : decode b_Fa_form 6 = .ok (.putfield 35, 3) := by decide +kernel
theorem d_Fa_form_9 : decode b_Fa_form 9 = .ok (.iconst 0, 1) := by decide +kernel
theorem d_Fa_form_10 : decode b_Fa_form 10 = .ok (.istore_n 1, 1) := by decide +kernel
theorem d_Fa_form_11 : decode b_Fa_form 11 = .ok (.iload_n 1, 1) := by decide +kernel
theorem d_Fa_form_12 : decode b_Fa_form 12 = .ok (.aload_n 0, 1) := by decide +kernel
theorem d_Fa_form_13 : decode b_Fa_form 13 = .ok (.getfield 9, 3) := by decide +kernel
theorem d_Fa_form_16 : decode b_Fa_form 16 = .ok (.getfield 42, 3) := by decide +kernel
theorem d_Fa_form_19 : decode b_Fa_form 19 = .ok (.invokevirtual 48, 3) := by decide +kernel
theorem d_Fa_form_22 : decode b_Fa_form 22 = .ok (.if_icmp .ge 74, 3) := by decide +kernel
theorem d_Fa_form_25 : decode b_Fa_form 25 = .ok (.aload_n 0, 1) := by decide +kernel
theorem d_Fa_form_26 : decode b_Fa_form 26 = .ok (.getfield 9, 3) := by decide +kernel
theorem d_Fa_form_29 : decode b_Fa_form 29 = .ok (.getfield 42, 3) := by decide +kernel
theorem d_Fa_form_32 : decode b_Fa_form 32 = .ok (.iload_n 1, 1) := by decide +kernel
theorem d_Fa_form_33 : decode b_Fa_form 33 = .ok (.invokevirtual 53, 3) := by decide +kernel
theorem d_Fa_form_36 : decode b_Fa_form 36 = .ok (.checkcast 57, 3) := by decide +kernel
theorem d_Fa_form_39 : decode b_Fa_form 39 = .ok (.astore_n 2, 1) := by decide +kernel
theorem d_Fa_form_40 : decode b_Fa_form 40 = .ok (.aload_n 0, 1) := by decide +kernel
theorem d_Fa_form_41 : decode b_Fa_form 41 = .ok (.aload_n 2, 1) := by decide +kernel
theorem d_Fa_form_42 : decode b_Fa_form 42 = .ok (.getfield 59, 3) := by decide +kernel
theorem d_Fa_form_45 : decode b_Fa_form 45 = .ok (.aload_n 2, 1) := by decide +kernel
theorem d_Fa_form_46 : decode b_Fa_form 46 = .ok (.getfield 63, 3) := by decide +kernel
theorem d_Fa_form_49 : decode b_Fa_form 49 = .ok (.aload_n 2, 1) := by decide +kernel
theorem d_Fa_form_50 : decode b_Fa_form 50 = .ok (.getfield 66, 3) := by decide +kernel
theorem d_Fa_form_53 : decode b_Fa_form 53 = .ok (.invokevirtual 69, 3) := by decide +kernel
theorem d_Fa_form_56 : decode b_Fa_form 56 = .ok (.istore_n 3, 1) := by decide +kernel
theorem d_Fa_form_57 : decode b_Fa_form 57 = .ok (.iload_n 3, 1) := by decide +kernel
theorem d_Fa_form_58 : decode b_Fa_form 58 = .ok (.iconst (-1), 1) := by decide +kernel
theorem d_Fa_form_59 : decode b_Fa_form 59 = .ok (.if_icmp .ne 9, 3) := by decide +kernel
theorem d_Fa_form_62 : decode b_Fa_form 62 = .ok (.aload_n 0, 1) := by decide +kernel
theorem d_Fa_form_63 : decode b_Fa_form 63 = .ok (.aload_n 2, 1) := by decide +kernel
theorem d_Fa_form_64 : decode b_Fa_form 64 = .ok (.invokevirtual 73, 3) := by decide +kernel
theorem d_Fa_form_67 : decode b_Fa_form 67 = .ok (.istore_n 3, 1) := by decide +kernel
theorem d_Fa_form_68 : decode b_Fa_form 68 = .ok (.aload_n 2, 1) := by decide +kernel
theorem d_Fa_form_69 : decode b_Fa_form 69 = .ok (.getfield 77, 3) := by decide +kernel
theorem d_Fa_form_72 : decode b_Fa_form 72 = .ok (.ifCond .eq 18, 3) := by decide +kernel
theorem d_Fa_form_75 : decode b_Fa_form 75 = .ok (.iload_n 3, 1) := by decide +kernel
theorem d_Fa_form_76 : decode b_Fa_form 76 = .ok (.aload_n 0, 1) := by decide +kernel
theorem d_Fa_form_77 : decode b_Fa_form 77 = .ok (.getfield 35, 3) := by decide +kernel
theorem d_Fa_form_80 : decode b_Fa_form 80 = .ok (.if_icmp .ge 10, 3) := by decide +kernel
theorem d_Fa_form_83 : decode b_Fa_form 83 = .ok (.aload_n 0, 1) := by decide +kernel
theorem d_Fa_form_84 : decode b_Fa_form 84 = .ok (.getfield 31, 3) := by decide +kernel
theorem d_Fa_form_87 : decode b_Fa_form 87 = .ok (.iload_n 3, 1) := by decide +kernel
theorem d_Fa_form_88 : decode b_Fa_form 88 = .ok (.iconst 1, 1) := by decide +kernel
theorem d_Fa_form_89 : decode b_Fa_form 89 = .ok (.bastore, 1) := by decide +kernel
theorem d_Fa_form_90 : decode b_Fa_form 90 = .ok (.iinc 1 1, 3) := by decide +kernel
theorem d_Fa_form_93 : decode b_Fa_form 93 = .ok (.goto (-82), 3) := by decide +kernel
theorem d_Fa_form_96 : decode b_Fa_form 96 = .ok (.return_, 1) := by decide +kernel
theorem d_Fa_seeRelatives_0 : decode b_Fa_seeRelatives 0 = .ok (.aload_n 0, 1) := by decide +kernel
theorem d_Fa_seeRelatives_1 : decode b_Fa_seeRelatives 1 = .ok (.getfield 9, 3) := by decide +kernel
theorem d_Fa_seeRelatives_4 : decode b_Fa_seeRelatives 4 = .ok (.getfield 91, 3) := by decide +kernel
theorem d_Fa_seeRelatives_7 : decode b_Fa_seeRelatives 7 = .ok (.invokevirtual 48, 3) := by decide +kernel
theorem d_Fa_seeRelatives_10 : decode b_Fa_seeRelatives 10 = .ok (.bipush 8, 2) := by decide +kernel
theorem d_Fa_seeRelatives_12 : decode b_Fa_seeRelatives 12 = .ok (.invokestatic 94, 3) := by decide +kernel
theorem d_Fa_seeRelatives_15 : decode b_Fa_seeRelatives 15 = .ok (.istore_n 1, 1) := by decide +kernel
theorem d_Fa_seeRelatives_16 : decode b_Fa_seeRelatives 16 = .ok (.iconst 0, 1) := by decide +kernel
theorem d_Fa_seeRelatives_17 : decode b_Fa_seeRelatives 17 = .ok (.istore_n 2, 1) := by decide +kernel
theorem d_Fa_seeRelatives_18 : decode b_Fa_seeRelatives 18 = .ok (.iload_n 2, 1) := by decide +kernel
theorem d_Fa_seeRelatives_19 : decode b_Fa_seeRelatives 19 = .ok (.iload_n 1, 1) := by decide +kernel
theorem d_Fa_seeRelatives_20 : decode b_Fa_seeRelatives 20 = .ok (.if_icmp .ge 75, 3) := by decide +kernel
theorem d_Fa_seeRelatives_23 : decode b_Fa_seeRelatives 23 = .ok (.iconst 0, 1) := by decide +kernel
theorem d_Fa_seeRelatives_24 : decode b_Fa_seeRelatives 24 = .ok (.istore_n 3, 1) := by decide +kernel
theorem d_Fa_seeRelatives_25 : decode b_Fa_seeRelatives 25 = .ok (.iconst 0, 1) := by decide +kernel
theorem d_Fa_seeRelatives_26 : decode b_Fa_seeRelatives 26 = .ok (.istore 4, 2) := by decide +kernel
theorem d_Fa_seeRelatives_28 : decode b_Fa_seeRelatives 28 = .ok (.iload 4, 2) := by decide +kernel
theorem d_Fa_seeRelatives_30 : decode b_Fa_seeRelatives 30 = .ok (.iload_n 1, 1) := by decide +kernel
theorem d_Fa_seeRelatives_31 : decode b_Fa_seeRelatives 31 = .ok (.if_icmp .ge 51, 3) := by decide +kernel
theorem d_Fa_seeRelatives_34 : decode b_Fa_seeRelatives 34 = .ok (.aload_n 0, 1) := by decide +kernel
theorem d_Fa_seeRelatives_35 : decode b_Fa_seeRelatives 35 = .ok (.getfield 9, 3) := by decide +kernel
theorem d_Fa_seeRelatives_38 : decode b_Fa_seeRelatives 38 = .ok (.getfield 91, 3) := by decide +kernel
theorem d_Fa_seeRelatives_41 : decode b_Fa_seeRelatives 41 = .ok (.iload_n 2, 1) := by decide +kernel
theorem d_Fa_seeRelatives_42 : decode b_Fa_seeRelatives 42 = .ok (.invokevirtual 53, 3) := by decide +kernel
theorem d_Fa_seeRelatives_45 : decode b_Fa_seeRelatives 45 = .ok (.checkcast 100, 3) := by decide +kernel
theorem d_Fa_seeRelatives_48 : decode b_Fa_seeRelatives 48 = .ok (.aload_n 0, 1) := by decide +kernel
theorem d_Fa_seeRelatives_49 : decode b_Fa_seeRelatives 49 = .ok (.getfield 9, 3) := by decide +kernel
theorem d_Fa_seeRelatives_52 : decode b_Fa_seeRelatives 52 = .ok (.getfield 91, 3) := by decide +kernel
theorem d_Fa_seeRelatives_55 : decode b_Fa_seeRelatives 55 = .ok (.iload 4, 2) := by decide +kernel
theorem d_Fa_seeRelatives_57 : decode b_Fa_seeRelatives 57 = .ok (.invokevirtual 53, 3) := by decide +kernel
theorem d_Fa_seeRelatives_60 : decode b_Fa_seeRelatives 60 = .ok (.checkcast 100, 3) := by decide +kernel
theorem d_Fa_seeRelatives_63 : decode b_Fa_seeRelatives 63 = .ok (.invokevirtual 102, 3) := by decide +kernel
theorem d_Fa_seeRelatives_66 : decode b_Fa_seeRelatives 66 = .ok (.ifCond .eq 10, 3) := by decide +kernel
theorem d_Fa_seeRelatives_69 : decode b_Fa_seeRelatives 69 = .ok (.iload_n 3, 1) := by decide +kernel
theorem d_Fa_seeRelatives_70 : decode b_Fa_seeRelatives 70 = .ok (.iconst 1, 1) := by decide +kernel
theorem d_Fa_seeRelatives_71 : decode b_Fa_seeRelatives 71 = .ok (.iload 4, 2) := by decide +kernel
theorem d_Fa_seeRelatives_73 : decode b_Fa_seeRelatives 73 = .ok (.ishl, 1) := by decide +kernel
theorem d_Fa_seeRelatives_74 : decode b_Fa_seeRelatives 74 = .ok (.ior, 1) := by decide +kernel
theorem d_Fa_seeRelatives_75 : decode b_Fa_seeRelatives 75 = .ok (.istore_n 3, 1) := by decide +kernel
theorem d_Fa_seeRelatives_76 : decode b_Fa_seeRelatives 76 = .ok (.iinc 4 1, 3) := by decide +kernel
theorem d_Fa_seeRelatives_79 : decode b_Fa_seeRelatives 79 = .ok (.goto (-51), 3) := by decide +kernel
theorem d_Fa_seeRelatives_82 : decode b_Fa_seeRelatives 82 = .ok (.aload_n 0, 1) := by decide +kernel
theorem d_Fa_seeRelatives_83 : decode b_Fa_seeRelatives 83 = .ok (.getfield 15, 3) := by decide +kernel
theorem d_Fa_seeRelatives_86 : decode b_Fa_seeRelatives 86 = .ok (.iload_n 2, 1) := by decide +kernel
theorem d_Fa_seeRelatives_87 : decode b_Fa_seeRelatives 87 = .ok (.iload_n 3, 1) := by decide +kernel
theorem d_Fa_seeRelatives_88 : decode b_Fa_seeRelatives 88 = .ok (.iastore, 1) := by decide +kernel
theorem d_Fa_seeRelatives_89 : decode b_Fa_seeRelatives 89 = .ok (.iinc 2 1, 3) := by decide +kernel
theorem d_Fa_seeRelatives_92 : decode b_Fa_seeRelatives 92 = .ok (.goto (-74), 3) := by decide +kernel
theorem d_Fa_seeRelatives_95 : decode b_Fa_seeRelatives 95 = .ok (.return_, 1) := by decide +kernel
theorem d_Fa_familyOf_0 : decode b_Fa_familyOf 0 = .ok (.iconst 0, 1) := by decide +kernel
theorem d_Fa_familyOf_1 : decode b_Fa_familyOf 1 = .ok (.istore 4, 2) := by decide +kernel
theorem d_Fa_familyOf_3 : decode b_Fa_familyOf 3 = .ok (.iload 4, 2) := by decide +kernel
theorem d_Fa_familyOf_5 : decode b_Fa_familyOf 5 = .ok (.aload_n 0, 1) := by decide +kernel
theorem d_Fa_familyOf_6 : decode b_Fa_familyOf 6 = .ok (.getfield 35, 3) := by decide +kernel
theorem d_Fa_familyOf_9 : decode b_Fa_familyOf 9 = .ok (.if_icmp .ge 51, 3) := by decide +kernel
theorem d_Fa_familyOf_12 : decode b_Fa_familyOf 12 = .ok (.aload_n 0, 1) := by decide +kernel
theorem d_Fa_familyOf_13 : decode b_Fa_familyOf 13 = .ok (.getfield 19, 3) := by decide +kernel
theorem d_Fa_familyOf_16 : decode b_Fa_familyOf 16 = .ok (.iload 4, 2) := by decide +kernel
theorem d_Fa_familyOf_18 : decode b_Fa_familyOf 18 = .ok (.iaload, 1) := by decide +kernel
theorem d_Fa_familyOf_19 : decode b_Fa_familyOf 19 = .ok (.iload_n 2, 1) := by decide +kernel
theorem d_Fa_familyOf_20 : decode b_Fa_familyOf 20 = .ok (.if_icmp .ne 34, 3) := by decide +kernel
theorem d_Fa_familyOf_23 : decode b_Fa_familyOf 23 = .ok (.aload_n 0, 1) := by decide +kernel
theorem d_Fa_familyOf_24 : decode b_Fa_familyOf 24 = .ok (.getfield 22, 3) := by decide +kernel
theorem d_Fa_familyOf_27 : decode b_Fa_familyOf 27 = .ok (.iload 4, 2) := by decide +kernel
theorem d_Fa_familyOf_29 : decode b_Fa_familyOf 29 = .ok (.iaload, 1) := by decide +kernel
theorem d_Fa_familyOf_30 : decode b_Fa_familyOf 30 = .ok (.iload_n 3, 1) := by decide +kernel
theorem d_Fa_familyOf_31 : decode b_Fa_familyOf 31 = .ok (.if_icmp .ne 23, 3) := by decide +kernel
theorem d_Fa_familyOf_34 : decode b_Fa_familyOf 34 = .ok (.aload_n 0, 1) := by decide +kernel
theorem d_Fa_familyOf_35 : decode b_Fa_familyOf 35 = .ok (.getfield 25, 3) := by decide +kernel
theorem d_Fa_familyOf_38 : decode b_Fa_familyOf 38 = .ok (.iload 4, 2) := by decide +kernel
theorem d_Fa_familyOf_40 : decode b_Fa_familyOf 40 = .ok (.iaload, 1) := by decide +kernel
theorem d_Fa_familyOf_41 : decode b_Fa_familyOf 41 = .ok (.aload_n 1, 1) := by decide +kernel
theorem d_Fa_familyOf_42 : decode b_Fa_familyOf 42 = .ok (.getfield 106, 3) := by decide +kernel
theorem d_Fa_familyOf_45 : decode b_Fa_familyOf 45 = .ok (.invokestatic 132, 3) := by decide +kernel
theorem d_Fa_familyOf_48 : decode b_Fa_familyOf 48 = .ok (.ifCond .eq 6, 3) := by decide +kernel
theorem d_Fa_familyOf_51 : decode b_Fa_familyOf 51 = .ok (.iload 4, 2) := by decide +kernel
theorem d_Fa_familyOf_53 : decode b_Fa_familyOf 53 = .ok (.ireturn, 1) := by decide +kernel
theorem d_Fa_familyOf_54 : decode b_Fa_familyOf 54 = .ok (.iinc 4 1, 3) := by decide +kernel
theorem d_Fa_familyOf_57 : decode b_Fa_familyOf 57 = .ok (.goto (-54), 3) := by decide +kernel
theorem d_Fa_familyOf_60 : decode b_Fa_familyOf 60 = .ok (.iconst (-1), 1) := by decide +kernel
theorem d_Fa_familyOf_61 : decode b_Fa_familyOf 61 = .ok (.ireturn, 1) := by decide +kernel
theorem d_Fa_holds_0 : decode b_Fa_holds 0 = .ok (.iload_n 0, 1) := by decide +kernel
theorem d_Fa_holds_1 : decode b_Fa_holds 1 = .ok (.iload_n 1, 1) := by decide +kernel
theorem d_Fa_holds_2 : decode b_Fa_holds 2 = .ok (.ishr, 1) := by decide +kernel
theorem d_Fa_holds_3 : decode b_Fa_holds 3 = .ok (.iconst 1, 1) := by decide +kernel
theorem d_Fa_holds_4 : decode b_Fa_holds 4 = .ok (.iand, 1) := by decide +kernel
theorem d_Fa_holds_5 : decode b_Fa_holds 5 = .ok (.ifCond .eq 7, 3) := by decide +kernel
theorem d_Fa_holds_8 : decode b_Fa_holds 8 = .ok (.iconst 1, 1) := by decide +kernel
theorem d_Fa_holds_9 : decode b_Fa_holds 9 = .ok (.goto 4, 3) := by decide +kernel
theorem d_Fa_holds_12 : decode b_Fa_holds 12 = .ok (.iconst 0, 1) := by decide +kernel
theorem d_Fa_holds_13 : decode b_Fa_holds 13 = .ok (.ireturn, 1) := by decide +kernel
theorem d_Fa_open_0 : decode b_Fa_open 0 = .ok (.aload_n 0, 1) := by decide +kernel
theorem d_Fa_open_1 : decode b_Fa_open 1 = .ok (.getfield 35, 3) := by decide +kernel
theorem d_Fa_open_4 : decode b_Fa_open 4 = .ok (.istore_n 2, 1) := by decide +kernel
theorem d_Fa_open_5 : decode b_Fa_open 5 = .ok (.iload_n 2, 1) := by decide +kernel
theorem d_Fa_open_6 : decode b_Fa_open 6 = .ok (.bipush 24, 2) := by decide +kernel
theorem d_Fa_open_8 : decode b_Fa_open 8 = .ok (.if_icmp .ge 71, 3) := by decide +kernel
theorem d_Fa_open_11 : decode b_Fa_open 11 = .ok (.aload_n 0, 1) := by decide +kernel
theorem d_Fa_open_12 : decode b_Fa_open 12 = .ok (.getfield 19, 3) := by decide +kernel
theorem d_Fa_open_15 : decode b_Fa_open 15 = .ok (.iload_n 2, 1) := by decide +kernel
theorem d_Fa_open_16 : decode b_Fa_open 16 = .ok (.aload_n 1, 1) := by decide +kernel
theorem d_Fa_open_17 : decode b_Fa_open 17 = .ok (.getfield 63, 3) := by decide +kernel
theorem d_Fa_open_20 : decode b_Fa_open 20 = .ok (.iastore, 1) := by decide +kernel
theorem d_Fa_open_21 : decode b_Fa_open 21 = .ok (.aload_n 0, 1) := by decide +kernel
theorem d_Fa_open_22 : decode b_Fa_open 22 = .ok (.getfield 22, 3) := by decide +kernel
theorem d_Fa_open_25 : decode b_Fa_open 25 = .ok (.iload_n 2, 1) := by decide +kernel
theorem d_Fa_open_26 : decode b_Fa_open 26 = .ok (.aload_n 1, 1) := by decide +kernel
theorem d_Fa_open_27 : decode b_Fa_open 27 = .ok (.getfield 66, 3) := by decide +kernel
theorem d_Fa_open_30 : decode b_Fa_open 30 = .ok (.iastore, 1) := by decide +kernel
theorem d_Fa_open_31 : decode b_Fa_open 31 = .ok (.aload_n 0, 1) := by decide +kernel
theorem d_Fa_open_32 : decode b_Fa_open 32 = .ok (.getfield 25, 3) := by decide +kernel
theorem d_Fa_open_35 : decode b_Fa_open 35 = .ok (.iload_n 2, 1) := by decide +kernel
theorem d_Fa_open_36 : decode b_Fa_open 36 = .ok (.aload_n 0, 1) := by decide +kernel
theorem d_Fa_open_37 : decode b_Fa_open 37 = .ok (.iconst 1, 1) := by decide +kernel
theorem d_Fa_open_38 : decode b_Fa_open 38 = .ok (.aload_n 1, 1) := by decide +kernel
theorem d_Fa_open_39 : decode b_Fa_open 39 = .ok (.getfield 59, 3) := by decide +kernel
theorem d_Fa_open_42 : decode b_Fa_open 42 = .ok (.getfield 106, 3) := by decide +kernel
theorem d_Fa_open_45 : decode b_Fa_open 45 = .ok (.ishl, 1) := by decide +kernel
theorem d_Fa_open_46 : decode b_Fa_open 46 = .ok (.aload_n 0, 1) := by decide +kernel
theorem d_Fa_open_47 : decode b_Fa_open 47 = .ok (.aload_n 1, 1) := by decide +kernel
theorem d_Fa_open_48 : decode b_Fa_open 48 = .ok (.getfield 63, 3) := by decide +kernel
theorem d_Fa_open_51 : decode b_Fa_open 51 = .ok (.aload_n 1, 1) := by decide +kernel
theorem d_Fa_open_52 : decode b_Fa_open 52 = .ok (.getfield 66, 3) := by decide +kernel
theorem d_Fa_open_55 : decode b_Fa_open 55 = .ok (.invokevirtual 109, 3) := by decide +kernel
theorem d_Fa_open_58 : decode b_Fa_open 58 = .ok (.invokevirtual 112, 3) := by decide +kernel
theorem d_Fa_open_61 : decode b_Fa_open 61 = .ok (.iastore, 1) := by decide +kernel
theorem d_Fa_open_62 : decode b_Fa_open 62 = .ok (.aload_n 0, 1) := by decide +kernel
theorem d_Fa_open_63 : decode b_Fa_open 63 = .ok (.getfield 31, 3) := by decide +kernel
theorem d_Fa_open_66 : decode b_Fa_open 66 = .ok (.iload_n 2, 1) := by decide +kernel
theorem d_Fa_open_67 : decode b_Fa_open 67 = .ok (.iconst 0, 1) := by decide +kernel
theorem d_Fa_open_68 : decode b_Fa_open 68 = .ok (.bastore, 1) := by decide +kernel
theorem d_Fa_open_69 : decode b_Fa_open 69 = .ok (.aload_n 0, 1) := by decide +kernel
theorem d_Fa_open_70 : decode b_Fa_open 70 = .ok (.dup, 1) := by decide +kernel
theorem d_Fa_open_71 : decode b_Fa_open 71 = .ok (.getfield 35, 3) := by decide +kernel
theorem d_Fa_open_74 : decode b_Fa_open 74 = .ok (.iconst 1, 1) := by decide +kernel
theorem d_Fa_open_75 : decode b_Fa_open 75 = .ok (.iadd, 1) := by decide +kernel
theorem d_Fa_open_76 : decode b_Fa_open 76 = .ok (.putfield 35, 3) := by decide +kernel
theorem d_Fa_open_79 : decode b_Fa_open 79 = .ok (.iload_n 2, 1) := by decide +kernel
theorem d_Fa_open_80 : decode b_Fa_open 80 = .ok (.ireturn, 1) := by decide +kernel
theorem d_Fa_bearers_0 : decode b_Fa_bearers 0 = .ok (.iconst 0, 1) := by decide +kernel
theorem d_Fa_bearers_1 : decode b_Fa_bearers 1 = .ok (.istore_n 3, 1) := by decide +kernel
theorem d_Fa_bearers_2 : decode b_Fa_bearers 2 = .ok (.iconst 0, 1) := by decide +kernel
theorem d_Fa_bearers_3 : decode b_Fa_bearers 3 = .ok (.istore 4, 2) := by decide +kernel
theorem d_Fa_bearers_5 : decode b_Fa_bearers 5 = .ok (.iload 4, 2) := by decide +kernel
theorem d_Fa_bearers_7 : decode b_Fa_bearers 7 = .ok (.aload_n 0, 1) := by decide +kernel
theorem d_Fa_bearers_8 : decode b_Fa_bearers 8 = .ok (.getfield 9, 3) := by decide +kernel
theorem d_Fa_bearers_11 : decode b_Fa_bearers 11 = .ok (.getfield 42, 3) := by decide +kernel
theorem d_Fa_bearers_14 : decode b_Fa_bearers 14 = .ok (.invokevirtual 48, 3) := by decide +kernel
theorem d_Fa_bearers_17 : decode b_Fa_bearers 17 = .ok (.if_icmp .ge 67, 3) := by decide +kernel
theorem d_Fa_bearers_20 : decode b_Fa_bearers 20 = .ok (.aload_n 0, 1) := by decide +kernel
theorem d_Fa_bearers_21 : decode b_Fa_bearers 21 = .ok (.getfield 9, 3) := by decide +kernel
theorem d_Fa_bearers_24 : decode b_Fa_bearers 24 = .ok (.getfield 42, 3) := by decide +kernel
theorem d_Fa_bearers_27 : decode b_Fa_bearers 27 = .ok (.iload 4, 2) := by decide +kernel
theorem d_Fa_bearers_29 : decode b_Fa_bearers 29 = .ok (.invokevirtual 53, 3) := by decide +kernel
theorem d_Fa_bearers_32 : decode b_Fa_bearers 32 = .ok (.checkcast 57, 3) := by decide +kernel
theorem d_Fa_bearers_35 : decode b_Fa_bearers 35 = .ok (.astore 5, 2) := by decide +kernel
theorem d_Fa_bearers_37 : decode b_Fa_bearers 37 = .ok (.aload 5, 2) := by decide +kernel
theorem d_Fa_bearers_39 : decode b_Fa_bearers 39 = .ok (.getfield 63, 3) := by decide +kernel
theorem d_Fa_bearers_42 : decode b_Fa_bearers 42 = .ok (.iload_n 1, 1) := by decide +kernel
theorem d_Fa_bearers_43 : decode b_Fa_bearers 43 = .ok (.if_icmp .ne 12, 3) := by decide +kernel
theorem d_Fa_bearers_46 : decode b_Fa_bearers 46 = .ok (.aload 5, 2) := by decide +kernel
theorem d_Fa_bearers_48 : decode b_Fa_bearers 48 = .ok (.getfield 66, 3) := by decide +kernel
theorem d_Fa_bearers_51 : decode b_Fa_bearers 51 = .ok (.iload_n 2, 1) := by decide +kernel
theorem d_Fa_bearers_52 : decode b_Fa_bearers 52 = .ok (.if_icmp .eq 13, 3) := by decide +kernel
theorem d_Fa_bearers_55 : decode b_Fa_bearers 55 = .ok (.aload 5, 2) := by decide +kernel
theorem d_Fa_bearers_57 : decode b_Fa_bearers 57 = .ok (.iload_n 1, 1) := by decide +kernel
theorem d_Fa_bearers_58 : decode b_Fa_bearers 58 = .ok (.iload_n 2, 1) := by decide +kernel
theorem d_Fa_bearers_59 : decode b_Fa_bearers 59 = .ok (.invokestatic 115, 3) := by decide +kernel
theorem d_Fa_bearers_62 : decode b_Fa_bearers 62 = .ok (.ifCond .eq 16, 3) := by decide +kernel
theorem d_Fa_bearers_65 : decode b_Fa_bearers 65 = .ok (.iload_n 3, 1) := by decide +kernel
theorem d_Fa_bearers_66 : decode b_Fa_bearers 66 = .ok (.iconst 1, 1) := by decide +kernel
theorem d_Fa_bearers_67 : decode b_Fa_bearers 67 = .ok (.aload 5, 2) := by decide +kernel
theorem d_Fa_bearers_69 : decode b_Fa_bearers 69 = .ok (.getfield 59, 3) := by decide +kernel
theorem d_Fa_bearers_72 : decode b_Fa_bearers 72 = .ok (.getfield 106, 3) := by decide +kernel
theorem d_Fa_bearers_75 : decode b_Fa_bearers 75 = .ok (.ishl, 1) := by decide +kernel
theorem d_Fa_bearers_76 : decode b_Fa_bearers 76 = .ok (.ior, 1) := by decide +kernel
theorem d_Fa_bearers_77 : decode b_Fa_bearers 77 = .ok (.istore_n 3, 1) := by decide +kernel
theorem d_Fa_bearers_78 : decode b_Fa_bearers 78 = .ok (.iinc 4 1, 3) := by decide +kernel
theorem d_Fa_bearers_81 : decode b_Fa_bearers 81 = .ok (.goto (-76), 3) := by decide +kernel
theorem d_Fa_bearers_84 : decode b_Fa_bearers 84 = .ok (.iload_n 3, 1) := by decide +kernel
theorem d_Fa_bearers_85 : decode b_Fa_bearers 85 = .ok (.ireturn, 1) := by decide +kernel
theorem d_Fa_standsIn_0 : decode b_Fa_standsIn 0 = .ok (.iconst 0, 1) := by decide +kernel
theorem d_Fa_standsIn_1 : decode b_Fa_standsIn 1 = .ok (.istore_n 3, 1) := by decide +kernel
theorem d_Fa_standsIn_2 : decode b_Fa_standsIn 2 = .ok (.iload_n 3, 1) := by decide +kernel
theorem d_Fa_standsIn_3 : decode b_Fa_standsIn 3 = .ok (.aload_n 0, 1) := by decide +kernel
theorem d_Fa_standsIn_4 : decode b_Fa_standsIn 4 = .ok (.getfield 119, 3) := by decide +kernel
theorem d_Fa_standsIn_7 : decode b_Fa_standsIn 7 = .ok (.invokevirtual 48, 3) := by decide +kernel
theorem d_Fa_standsIn_10 : decode b_Fa_standsIn 10 = .ok (.if_icmp .ge 51, 3) := by decide +kernel
theorem d_Fa_standsIn_13 : decode b_Fa_standsIn 13 = .ok (.aload_n 0, 1) := by decide +kernel
theorem d_Fa_standsIn_14 : decode b_Fa_standsIn 14 = .ok (.getfield 119, 3) := by decide +kernel
theorem d_Fa_standsIn_17 : decode b_Fa_standsIn 17 = .ok (.iload_n 3, 1) := by decide +kernel
theorem d_Fa_standsIn_18 : decode b_Fa_standsIn 18 = .ok (.invokevirtual 53, 3) := by decide +kernel
theorem d_Fa_standsIn_21 : decode b_Fa_standsIn 21 = .ok (.checkcast 122, 3) := by decide +kernel
theorem d_Fa_standsIn_24 : decode b_Fa_standsIn 24 = .ok (.astore 4, 2) := by decide +kernel
theorem d_Fa_standsIn_26 : decode b_Fa_standsIn 26 = .ok (.aload 4, 2) := by decide +kernel
theorem d_Fa_standsIn_28 : decode b_Fa_standsIn 28 = .ok (.getfield 124, 3) := by decide +kernel
theorem d_Fa_standsIn_31 : decode b_Fa_standsIn 31 = .ok (.iconst 2, 1) := by decide +kernel
theorem d_Fa_standsIn_32 : decode b_Fa_standsIn 32 = .ok (.if_icmp .ne 23, 3) := by decide +kernel
theorem d_Fa_standsIn_35 : decode b_Fa_standsIn 35 = .ok (.aload 4, 2) := by decide +kernel
theorem d_Fa_standsIn_37 : decode b_Fa_standsIn 37 = .ok (.getfield 127, 3) := by decide +kernel
theorem d_Fa_standsIn_40 : decode b_Fa_standsIn 40 = .ok (.iload_n 1, 1) := by decide +kernel
theorem d_Fa_standsIn_41 : decode b_Fa_standsIn 41 = .ok (.if_icmp .ne 14, 3) := by decide +kernel
theorem d_Fa_standsIn_44 : decode b_Fa_standsIn 44 = .ok (.aload 4, 2) := by decide +kernel
theorem d_Fa_standsIn_46 : decode b_Fa_standsIn 46 = .ok (.getfield 128, 3) := by decide +kernel
theorem d_Fa_standsIn_49 : decode b_Fa_standsIn 49 = .ok (.iload_n 2, 1) := by decide +kernel
theorem d_Fa_standsIn_50 : decode b_Fa_standsIn 50 = .ok (.if_icmp .ne 5, 3) := by decide +kernel
theorem d_Fa_standsIn_53 : decode b_Fa_standsIn 53 = .ok (.iconst 1, 1) := by decide +kernel
theorem d_Fa_standsIn_54 : decode b_Fa_standsIn 54 = .ok (.ireturn, 1) := by decide +kernel
theorem d_Fa_standsIn_55 : decode b_Fa_standsIn 55 = .ok (.iinc 3 1, 3) := by decide +kernel
theorem d_Fa_standsIn_58 : decode b_Fa_standsIn 58 = .ok (.goto (-56), 3) := by decide +kernel
theorem d_Fa_standsIn_61 : decode b_Fa_standsIn 61 = .ok (.iconst 0, 1) := by decide +kernel
theorem d_Fa_standsIn_62 : decode b_Fa_standsIn 62 = .ok (.ireturn, 1) := by decide +kernel
theorem d_Fa_joinedTo_0 : decode b_Fa_joinedTo 0 = .ok (.iload_n 1, 1) := by decide +kernel
theorem d_Fa_joinedTo_1 : decode b_Fa_joinedTo 1 = .ok (.istore_n 3, 1) := by decide +kernel
theorem d_Fa_joinedTo_2 : decode b_Fa_joinedTo 2 = .ok (.iconst 0, 1) := by decide +kernel
theorem d_Fa_joinedTo_3 : decode b_Fa_joinedTo 3 = .ok (.istore 4, 2) := by decide +kernel
theorem d_Fa_joinedTo_5 : decode b_Fa_joinedTo 5 = .ok (.iload 4, 2) := by decide +kernel
theorem d_Fa_joinedTo_7 : decode b_Fa_joinedTo 7 = .ok (.bipush 8, 2) := by decide +kernel
theorem d_Fa_joinedTo_9 : decode b_Fa_joinedTo 9 = .ok (.if_icmp .ge 19, 3) := by decide +kernel
theorem d_Fa_joinedTo_12 : decode b_Fa_joinedTo 12 = .ok (.iload_n 3, 1) := by decide +kernel
theorem d_Fa_joinedTo_13 : decode b_Fa_joinedTo 13 = .ok (.iload_n 2, 1) := by decide +kernel
theorem d_Fa_joinedTo_14 : decode b_Fa_joinedTo 14 = .ok (.aload_n 0, 1) := by decide +kernel
theorem d_Fa_joinedTo_15 : decode b_Fa_joinedTo 15 = .ok (.iload_n 3, 1) := by decide +kernel
theorem d_Fa_joinedTo_16 : decode b_Fa_joinedTo 16 = .ok (.invokevirtual 129, 3) := by decide +kernel
theorem d_Fa_joinedTo_19 : decode b_Fa_joinedTo 19 = .ok (.iand, 1) := by decide +kernel
theorem d_Fa_joinedTo_20 : decode b_Fa_joinedTo 20 = .ok (.ior, 1) := by decide +kernel
theorem d_Fa_joinedTo_21 : decode b_Fa_joinedTo 21 = .ok (.istore_n 3, 1) := by decide +kernel
theorem d_Fa_joinedTo_22 : decode b_Fa_joinedTo 22 = .ok (.iinc 4 1, 3) := by decide +kernel
theorem d_Fa_joinedTo_25 : decode b_Fa_joinedTo 25 = .ok (.goto (-20), 3) := by decide +kernel
theorem d_Fa_joinedTo_28 : decode b_Fa_joinedTo 28 = .ok (.iload_n 3, 1) := by decide +kernel
theorem d_Fa_joinedTo_29 : decode b_Fa_joinedTo 29 = .ok (.ireturn, 1) := by decide +kernel
theorem d_Fa_relatedTo_0 : decode b_Fa_relatedTo 0 = .ok (.iconst 0, 1) := by decide +kernel
theorem d_Fa_relatedTo_1 : decode b_Fa_relatedTo 1 = .ok (.istore_n 2, 1) := by decide +kernel
theorem d_Fa_relatedTo_2 : decode b_Fa_relatedTo 2 = .ok (.iconst 0, 1) := by decide +kernel
theorem d_Fa_relatedTo_3 : decode b_Fa_relatedTo 3 = .ok (.istore_n 3, 1) := by decide +kernel
theorem d_Fa_relatedTo_4 : decode b_Fa_relatedTo 4 = .ok (.iload_n 3, 1) := by decide +kernel
theorem d_Fa_relatedTo_5 : decode b_Fa_relatedTo 5 = .ok (.bipush 8, 2) := by decide +kernel
theorem d_Fa_relatedTo_7 : decode b_Fa_relatedTo 7 = .ok (.if_icmp .ge 40, 3) := by decide +kernel
theorem d_Fa_relatedTo_10 : decode b_Fa_relatedTo 10 = .ok (.iload_n 3, 1) := by decide +kernel
theorem d_Fa_relatedTo_11 : decode b_Fa_relatedTo 11 = .ok (.aload_n 0, 1) := by decide +kernel
theorem d_Fa_relatedTo_12 : decode b_Fa_relatedTo 12 = .ok (.getfield 9, 3) := by decide +kernel
theorem d_Fa_relatedTo_15 : decode b_Fa_relatedTo 15 = .ok (.getfield 91, 3) := by decide +kernel
theorem d_Fa_relatedTo_18 : decode b_Fa_relatedTo 18 = .ok (.invokevirtual 48, 3) := by decide +kernel
theorem d_Fa_relatedTo_21 : decode b_Fa_relatedTo 21 = .ok (.if_icmp .ge 26, 3) := by decide +kernel
theorem d_Fa_relatedTo_24 : decode b_Fa_relatedTo 24 = .ok (.iload_n 1, 1) := by decide +kernel
theorem d_Fa_relatedTo_25 : decode b_Fa_relatedTo 25 = .ok (.iload_n 3, 1) := by decide +kernel
theorem d_Fa_relatedTo_26 : decode b_Fa_relatedTo 26 = .ok (.invokestatic 132, 3) := by decide +kernel
theorem d_Fa_relatedTo_29 : decode b_Fa_relatedTo 29 = .ok (.ifCond .eq 12, 3) := by decide +kernel
theorem d_Fa_relatedTo_32 : decode b_Fa_relatedTo 32 = .ok (.iload_n 2, 1) := by decide +kernel
theorem d_Fa_relatedTo_33 : decode b_Fa_relatedTo 33 = .ok (.aload_n 0, 1) := by decide +kernel
theorem d_Fa_relatedTo_34 : decode b_Fa_relatedTo 34 = .ok (.getfield 15, 3) := by decide +kernel
theorem d_Fa_relatedTo_37 : decode b_Fa_relatedTo 37 = .ok (.iload_n 3, 1) := by decide +kernel
theorem d_Fa_relatedTo_38 : decode b_Fa_relatedTo 38 = .ok (.iaload, 1) := by decide +kernel
theorem d_Fa_relatedTo_39 : decode b_Fa_relatedTo 39 = .ok (.ior, 1) := by decide +kernel
theorem d_Fa_relatedTo_40 : decode b_Fa_relatedTo 40 = .ok (.istore_n 2, 1) := by decide +kernel
theorem d_Fa_relatedTo_41 : decode b_Fa_relatedTo 41 = .ok (.iinc 3 1, 3) := by decide +kernel
theorem d_Fa_relatedTo_44 : decode b_Fa_relatedTo 44 = .ok (.goto (-40), 3) := by decide +kernel
theorem d_Fa_relatedTo_47 : decode b_Fa_relatedTo 47 = .ok (.iload_n 2, 1) := by decide +kernel
theorem d_Fa_relatedTo_48 : decode b_Fa_relatedTo 48 = .ok (.ireturn, 1) := by decide +kernel
theorem d_Fa_giveNames_0 : decode b_Fa_giveNames 0 = .ok (.iconst 0, 1) := by decide +kernel
theorem d_Fa_giveNames_1 : decode b_Fa_giveNames 1 = .ok (.istore_n 1, 1) := by decide +kernel
theorem d_Fa_giveNames_2 : decode b_Fa_giveNames 2 = .ok (.iload_n 1, 1) := by decide +kernel
theorem d_Fa_giveNames_3 : decode b_Fa_giveNames 3 = .ok (.aload_n 0, 1) := by decide +kernel
theorem d_Fa_giveNames_4 : decode b_Fa_giveNames 4 = .ok (.getfield 35, 3) := by decide +kernel
theorem d_Fa_giveNames_7 : decode b_Fa_giveNames 7 = .ok (.if_icmp .ge 34, 3) := by decide +kernel
theorem d_Fa_giveNames_10 : decode b_Fa_giveNames 10 = .ok (.aload_n 0, 1) := by decide +kernel
theorem d_Fa_giveNames_11 : decode b_Fa_giveNames 11 = .ok (.getfield 28, 3) := by decide +kernel
theorem d_Fa_giveNames_14 : decode b_Fa_giveNames 14 = .ok (.iload_n 1, 1) := by decide +kernel
theorem d_Fa_giveNames_15 : decode b_Fa_giveNames 15 = .ok (.aload_n 0, 1) := by decide +kernel
theorem d_Fa_giveNames_16 : decode b_Fa_giveNames 16 = .ok (.getfield 31, 3) := by decide +kernel
theorem d_Fa_giveNames_19 : decode b_Fa_giveNames 19 = .ok (.iload_n 1, 1) := by decide +kernel
theorem d_Fa_giveNames_20 : decode b_Fa_giveNames 20 = .ok (.baload, 1) := by decide +kernel
theorem d_Fa_giveNames_21 : decode b_Fa_giveNames 21 = .ok (.ifCond .eq 12, 3) := by decide +kernel
theorem d_Fa_giveNames_24 : decode b_Fa_giveNames 24 = .ok (.aload_n 0, 1) := by decide +kernel
theorem d_Fa_giveNames_25 : decode b_Fa_giveNames 25 = .ok (.getfield 19, 3) := by decide +kernel
theorem d_Fa_giveNames_28 : decode b_Fa_giveNames 28 = .ok (.iload_n 1, 1) := by decide +kernel
theorem d_Fa_giveNames_29 : decode b_Fa_giveNames 29 = .ok (.iaload, 1) := by decide +kernel
theorem d_Fa_giveNames_30 : decode b_Fa_giveNames 30 = .ok (.goto 4, 3) := by decide +kernel
theorem d_Fa_giveNames_33 : decode b_Fa_giveNames 33 = .ok (.iconst (-1), 1) := by decide +kernel
theorem d_Fa_giveNames_34 : decode b_Fa_giveNames 34 = .ok (.iastore, 1) := by decide +kernel
theorem d_Fa_giveNames_35 : decode b_Fa_giveNames 35 = .ok (.iinc 1 1, 3) := by decide +kernel
theorem d_Fa_giveNames_38 : decode b_Fa_giveNames 38 = .ok (.goto (-36), 3) := by decide +kernel
theorem d_Fa_giveNames_41 : decode b_Fa_giveNames 41 = .ok (.iconst 0, 1) := by decide +kernel
theorem d_Fa_giveNames_42 : decode b_Fa_giveNames 42 = .ok (.istore_n 1, 1) := by decide +kernel
theorem d_Fa_giveNames_43 : decode b_Fa_giveNames 43 = .ok (.iload_n 1, 1) := by decide +kernel
theorem d_Fa_giveNames_44 : decode b_Fa_giveNames 44 = .ok (.aload_n 0, 1) := by decide +kernel
theorem d_Fa_giveNames_45 : decode b_Fa_giveNames 45 = .ok (.getfield 35, 3) := by decide +kernel
theorem d_Fa_giveNames_48 : decode b_Fa_giveNames 48 = .ok (.if_icmp .ge 29, 3) := by decide +kernel
theorem d_Fa_giveNames_51 : decode b_Fa_giveNames 51 = .ok (.aload_n 0, 1) := by decide +kernel
theorem d_Fa_giveNames_52 : decode b_Fa_giveNames 52 = .ok (.getfield 31, 3) := by decide +kernel
theorem d_Fa_giveNames_55 : decode b_Fa_giveNames 55 = .ok (.iload_n 1, 1) := by decide +kernel
theorem d_Fa_giveNames_56 : decode b_Fa_giveNames 56 = .ok (.baload, 1) := by decide +kernel
theorem d_Fa_giveNames_57 : decode b_Fa_giveNames 57 = .ok (.ifCond .ne 14, 3) := by decide +kernel
theorem d_Fa_giveNames_60 : decode b_Fa_giveNames 60 = .ok (.aload_n 0, 1) := by decide +kernel
theorem d_Fa_giveNames_61 : decode b_Fa_giveNames 61 = .ok (.getfield 28, 3) := by decide +kernel
theorem d_Fa_giveNames_64 : decode b_Fa_giveNames 64 = .ok (.iload_n 1, 1) := by decide +kernel
theorem d_Fa_giveNames_65 : decode b_Fa_giveNames 65 = .ok (.aload_n 0, 1) := by decide +kernel
theorem d_Fa_giveNames_66 : decode b_Fa_giveNames 66 = .ok (.iload_n 1, 1) := by decide +kernel
theorem d_Fa_giveNames_67 : decode b_Fa_giveNames 67 = .ok (.invokevirtual 80, 3) := by decide +kernel
theorem d_Fa_giveNames_70 : decode b_Fa_giveNames 70 = .ok (.iastore, 1) := by decide +kernel
theorem d_Fa_giveNames_71 : decode b_Fa_giveNames 71 = .ok (.iinc 1 1, 3) := by decide +kernel
theorem d_Fa_giveNames_74 : decode b_Fa_giveNames 74 = .ok (.goto (-31), 3) := by decide +kernel
theorem d_Fa_giveNames_77 : decode b_Fa_giveNames 77 = .ok (.return_, 1) := by decide +kernel
theorem d_Fa_leastFreeName_0 : decode b_Fa_leastFreeName 0 = .ok (.aload_n 0, 1) := by decide +kernel
theorem d_Fa_leastFreeName_1 : decode b_Fa_leastFreeName 1 = .ok (.aload_n 0, 1) := by decide +kernel
theorem d_Fa_leastFreeName_2 : decode b_Fa_leastFreeName 2 = .ok (.getfield 25, 3) := by decide +kernel
theorem d_Fa_leastFreeName_5 : decode b_Fa_leastFreeName 5 = .ok (.iload_n 1, 1) := by decide +kernel
theorem d_Fa_leastFreeName_6 : decode b_Fa_leastFreeName 6 = .ok (.iaload, 1) := by decide +kernel
theorem d_Fa_leastFreeName_7 : decode b_Fa_leastFreeName 7 = .ok (.invokevirtual 129, 3) := by decide +kernel
theorem d_Fa_leastFreeName_10 : decode b_Fa_leastFreeName 10 = .ok (.istore_n 2, 1) := by decide +kernel
theorem d_Fa_leastFreeName_11 : decode b_Fa_leastFreeName 11 = .ok (.iconst 0, 1) := by decide +kernel
theorem d_Fa_leastFreeName_12 : decode b_Fa_leastFreeName 12 = .ok (.istore_n 3, 1) := by decide +kernel
theorem d_Fa_leastFreeName_13 : decode b_Fa_leastFreeName 13 = .ok (.iconst 0, 1) := by decide +kernel
theorem d_Fa_leastFreeName_14 : decode b_Fa_leastFreeName 14 = .ok (.istore 4, 2) := by decide +kernel
theorem d_Fa_leastFreeName_16 : decode b_Fa_leastFreeName 16 = .ok (.iload 4, 2) := by decide +kernel
theorem d_Fa_leastFreeName_18 : decode b_Fa_leastFreeName 18 = .ok (.aload_n 0, 1) := by decide +kernel
theorem d_Fa_leastFreeName_19 : decode b_Fa_leastFreeName 19 = .ok (.getfield 35, 3) := by decide +kernel
theorem d_Fa_leastFreeName_22 : decode b_Fa_leastFreeName 22 = .ok (.if_icmp .ge 72, 3) := by decide +kernel
theorem d_Fa_leastFreeName_25 : decode b_Fa_leastFreeName 25 = .ok (.aload_n 0, 1) := by decide +kernel
theorem d_Fa_leastFreeName_26 : decode b_Fa_leastFreeName 26 = .ok (.getfield 22, 3) := by decide +kernel
theorem d_Fa_leastFreeName_29 : decode b_Fa_leastFreeName 29 = .ok (.iload 4, 2) := by decide +kernel
theorem d_Fa_leastFreeName_31 : decode b_Fa_leastFreeName 31 = .ok (.iaload, 1) := by decide +kernel
theorem d_Fa_leastFreeName_32 : decode b_Fa_leastFreeName 32 = .ok (.aload_n 0, 1) := by decide +kernel
theorem d_Fa_leastFreeName_33 : decode b_Fa_leastFreeName 33 = .ok (.getfield 22, 3) := by decide +kernel
theorem d_Fa_leastFreeName_36 : decode b_Fa_leastFreeName 36 = .ok (.iload_n 1, 1) := by decide +kernel
theorem d_Fa_leastFreeName_37 : decode b_Fa_leastFreeName 37 = .ok (.iaload, 1) := by decide +kernel
theorem d_Fa_leastFreeName_38 : decode b_Fa_leastFreeName 38 = .ok (.if_icmp .ne 19, 3) := by decide +kernel
theorem d_Fa_leastFreeName_41 : decode b_Fa_leastFreeName 41 = .ok (.aload_n 0, 1) := by decide +kernel
theorem d_Fa_leastFreeName_42 : decode b_Fa_leastFreeName 42 = .ok (.getfield 25, 3) := by decide +kernel
theorem d_Fa_leastFreeName_45 : decode b_Fa_leastFreeName 45 = .ok (.iload 4, 2) := by decide +kernel
theorem d_Fa_leastFreeName_47 : decode b_Fa_leastFreeName 47 = .ok (.iaload, 1) := by decide +kernel
theorem d_Fa_leastFreeName_48 : decode b_Fa_leastFreeName 48 = .ok (.iload_n 2, 1) := by decide +kernel
theorem d_Fa_leastFreeName_49 : decode b_Fa_leastFreeName 49 = .ok (.iand, 1) := by decide +kernel
theorem d_Fa_leastFreeName_50 : decode b_Fa_leastFreeName 50 = .ok (.ifCond .eq 7, 3) := by decide +kernel
theorem d_Fa_leastFreeName_53 : decode b_Fa_leastFreeName 53 = .ok (.iconst 1, 1) := by decide +kernel
theorem d_Fa_leastFreeName_54 : decode b_Fa_leastFreeName 54 = .ok (.goto 4, 3) := by decide +kernel
theorem d_Fa_leastFreeName_57 : decode b_Fa_leastFreeName 57 = .ok (.iconst 0, 1) := by decide +kernel
theorem d_Fa_leastFreeName_58 : decode b_Fa_leastFreeName 58 = .ok (.istore 5, 2) := by decide +kernel
theorem d_Fa_leastFreeName_60 : decode b_Fa_leastFreeName 60 = .ok (.iload 5, 2) := by decide +kernel
theorem d_Fa_leastFreeName_62 : decode b_Fa_leastFreeName 62 = .ok (.ifCond .eq 26, 3) := by decide +kernel
theorem d_Fa_leastFreeName_65 : decode b_Fa_leastFreeName 65 = .ok (.aload_n 0, 1) := by decide +kernel
theorem d_Fa_leastFreeName_66 : decode b_Fa_leastFreeName 66 = .ok (.getfield 28, 3) := by decide +kernel
theorem d_Fa_leastFreeName_69 : decode b_Fa_leastFreeName 69 = .ok (.iload 4, 2) := by decide +kernel
theorem d_Fa_leastFreeName_71 : decode b_Fa_leastFreeName 71 = .ok (.iaload, 1) := by decide +kernel
theorem d_Fa_leastFreeName_72 : decode b_Fa_leastFreeName 72 = .ok (.iconst (-1), 1) := by decide +kernel
theorem d_Fa_leastFreeName_73 : decode b_Fa_leastFreeName 73 = .ok (.if_icmp .eq 15, 3) := by decide +kernel
theorem d_Fa_leastFreeName_76 : decode b_Fa_leastFreeName 76 = .ok (.iload_n 3, 1) := by decide +kernel
theorem d_Fa_leastFreeName_77 : decode b_Fa_leastFreeName 77 = .ok (.iconst 1, 1) := by decide +kernel
theorem d_Fa_leastFreeName_78 : decode b_Fa_leastFreeName 78 = .ok (.aload_n 0, 1) := by decide +kernel
theorem d_Fa_leastFreeName_79 : decode b_Fa_leastFreeName 79 = .ok (.getfield 28, 3) := by decide +kernel
theorem d_Fa_leastFreeName_82 : decode b_Fa_leastFreeName 82 = .ok (.iload 4, 2) := by decide +kernel
theorem d_Fa_leastFreeName_84 : decode b_Fa_leastFreeName 84 = .ok (.iaload, 1) := by decide +kernel
theorem d_Fa_leastFreeName_85 : decode b_Fa_leastFreeName 85 = .ok (.ishl, 1) := by decide +kernel
theorem d_Fa_leastFreeName_86 : decode b_Fa_leastFreeName 86 = .ok (.ior, 1) := by decide +kernel
theorem d_Fa_leastFreeName_87 : decode b_Fa_leastFreeName 87 = .ok (.istore_n 3, 1) := by decide +kernel
theorem d_Fa_leastFreeName_88 : decode b_Fa_leastFreeName 88 = .ok (.iinc 4 1, 3) := by decide +kernel
theorem d_Fa_leastFreeName_91 : decode b_Fa_leastFreeName 91 = .ok (.goto (-75), 3) := by decide +kernel
theorem d_Fa_leastFreeName_94 : decode b_Fa_leastFreeName 94 = .ok (.iconst 0, 1) := by decide +kernel
theorem d_Fa_leastFreeName_95 : decode b_Fa_leastFreeName 95 = .ok (.istore 4, 2) := by decide +kernel
theorem d_Fa_leastFreeName_97 : decode b_Fa_leastFreeName 97 = .ok (.iload 4, 2) := by decide +kernel
theorem d_Fa_leastFreeName_99 : decode b_Fa_leastFreeName 99 = .ok (.bipush 26, 2) := by decide +kernel
theorem d_Fa_leastFreeName_101 : decode b_Fa_leastFreeName 101 = .ok (.if_icmp .ge 18, 3) := by decide +kernel
theorem d_Fa_leastFreeName_104 : decode b_Fa_leastFreeName 104 = .ok (.iload_n 3, 1) := by decide +kernel
theorem d_Fa_leastFreeName_105 : decode b_Fa_leastFreeName 105 = .ok (.iload 4, 2) := by decide +kernel
theorem d_Fa_leastFreeName_107 : decode b_Fa_leastFreeName 107 = .ok (.invokestatic 132, 3) := by decide +kernel
theorem d_Fa_leastFreeName_110 : decode b_Fa_leastFreeName 110 = .ok (.ifCond .eq 9, 3) := by decide +kernel
theorem d_Fa_leastFreeName_113 : decode b_Fa_leastFreeName 113 = .ok (.iinc 4 1, 3) := by decide +kernel
theorem d_Fa_leastFreeName_116 : decode b_Fa_leastFreeName 116 = .ok (.goto (-19), 3) := by decide +kernel
theorem d_Fa_leastFreeName_119 : decode b_Fa_leastFreeName 119 = .ok (.iload 4, 2) := by decide +kernel
theorem d_Fa_leastFreeName_121 : decode b_Fa_leastFreeName 121 = .ok (.ireturn, 1) := by decide +kernel
theorem d_Fa_writeNames_0 : decode b_Fa_writeNames 0 = .ok (.iconst 0, 1) := by decide +kernel
theorem d_Fa_writeNames_1 : decode b_Fa_writeNames 1 = .ok (.istore_n 1, 1) := by decide +kernel
theorem d_Fa_writeNames_2 : decode b_Fa_writeNames 2 = .ok (.iload_n 1, 1) := by decide +kernel
theorem d_Fa_writeNames_3 : decode b_Fa_writeNames 3 = .ok (.aload_n 0, 1) := by decide +kernel
theorem d_Fa_writeNames_4 : decode b_Fa_writeNames 4 = .ok (.getfield 9, 3) := by decide +kernel
theorem d_Fa_writeNames_7 : decode b_Fa_writeNames 7 = .ok (.getfield 42, 3) := by decide +kernel
theorem d_Fa_writeNames_10 : decode b_Fa_writeNames 10 = .ok (.invokevirtual 48, 3) := by decide +kernel
theorem d_Fa_writeNames_13 : decode b_Fa_writeNames 13 = .ok (.if_icmp .ge 27, 3) := by decide +kernel
theorem d_Fa_writeNames_16 : decode b_Fa_writeNames 16 = .ok (.aload_n 0, 1) := by decide +kernel
theorem d_Fa_writeNames_17 : decode b_Fa_writeNames 17 = .ok (.aload_n 0, 1) := by decide +kernel
theorem d_Fa_writeNames_18 : decode b_Fa_writeNames 18 = .ok (.getfield 9, 3) := by decide +kernel
theorem d_Fa_writeNames_21 : decode b_Fa_writeNames 21 = .ok (.getfield 42, 3) := by decide +kernel
theorem d_Fa_writeNames_24 : decode b_Fa_writeNames 24 = .ok (.iload_n 1, 1) := by decide +kernel
theorem d_Fa_writeNames_25 : decode b_Fa_writeNames 25 = .ok (.invokevirtual 53, 3) := by decide +kernel
theorem d_Fa_writeNames_28 : decode b_Fa_writeNames 28 = .ok (.checkcast 57, 3) := by decide +kernel
theorem d_Fa_writeNames_31 : decode b_Fa_writeNames 31 = .ok (.invokevirtual 84, 3) := by decide +kernel
theorem d_Fa_writeNames_34 : decode b_Fa_writeNames 34 = .ok (.iinc 1 1, 3) := by decide +kernel
theorem d_Fa_writeNames_37 : decode b_Fa_writeNames 37 = .ok (.goto (-35), 3) := by decide +kernel
theorem d_Fa_writeNames_40 : decode b_Fa_writeNames 40 = .ok (.iconst 0, 1) := by decide +kernel
theorem d_Fa_writeNames_41 : decode b_Fa_writeNames 41 = .ok (.istore_n 1, 1) := by decide +kernel
theorem d_Fa_writeNames_42 : decode b_Fa_writeNames 42 = .ok (.iload_n 1, 1) := by decide +kernel
theorem d_Fa_writeNames_43 : decode b_Fa_writeNames 43 = .ok (.aload_n 0, 1) := by decide +kernel
theorem d_Fa_writeNames_44 : decode b_Fa_writeNames 44 = .ok (.getfield 9, 3) := by decide +kernel
theorem d_Fa_writeNames_47 : decode b_Fa_writeNames 47 = .ok (.getfield 42, 3) := by decide +kernel
theorem d_Fa_writeNames_50 : decode b_Fa_writeNames 50 = .ok (.invokevirtual 48, 3) := by decide +kernel
theorem d_Fa_writeNames_53 : decode b_Fa_writeNames 53 = .ok (.if_icmp .ge 44, 3) := by decide +kernel
theorem d_Fa_writeNames_56 : decode b_Fa_writeNames 56 = .ok (.aload_n 0, 1) := by decide +kernel
theorem d_Fa_writeNames_57 : decode b_Fa_writeNames 57 = .ok (.getfield 9, 3) := by decide +kernel
theorem d_Fa_writeNames_60 : decode b_Fa_writeNames 60 = .ok (.getfield 42, 3) := by decide +kernel
theorem d_Fa_writeNames_63 : decode b_Fa_writeNames 63 = .ok (.iload_n 1, 1) := by decide +kernel
theorem d_Fa_writeNames_64 : decode b_Fa_writeNames 64 = .ok (.invokevirtual 53, 3) := by decide +kernel
theorem d_Fa_writeNames_67 : decode b_Fa_writeNames 67 = .ok (.checkcast 57, 3) := by decide +kernel
theorem d_Fa_writeNames_70 : decode b_Fa_writeNames 70 = .ok (.astore_n 2, 1) := by decide +kernel
theorem d_Fa_writeNames_71 : decode b_Fa_writeNames 71 = .ok (.aload_n 2, 1) := by decide +kernel
theorem d_Fa_writeNames_72 : decode b_Fa_writeNames 72 = .ok (.aload_n 0, 1) := by decide +kernel
theorem d_Fa_writeNames_73 : decode b_Fa_writeNames 73 = .ok (.aload_n 2, 1) := by decide +kernel
theorem d_Fa_writeNames_74 : decode b_Fa_writeNames 74 = .ok (.getfield 59, 3) := by decide +kernel
theorem d_Fa_writeNames_77 : decode b_Fa_writeNames 77 = .ok (.aload_n 2, 1) := by decide +kernel
theorem d_Fa_writeNames_78 : decode b_Fa_writeNames 78 = .ok (.getfield 63, 3) := by decide +kernel
theorem d_Fa_writeNames_81 : decode b_Fa_writeNames 81 = .ok (.aload_n 2, 1) := by decide +kernel
theorem d_Fa_writeNames_82 : decode b_Fa_writeNames 82 = .ok (.getfield 66, 3) := by decide +kernel
theorem d_Fa_writeNames_85 : decode b_Fa_writeNames 85 = .ok (.invokevirtual 88, 3) := by decide +kernel
theorem d_Fa_writeNames_88 : decode b_Fa_writeNames 88 = .ok (.putfield 63, 3) := by decide +kernel
theorem d_Fa_writeNames_91 : decode b_Fa_writeNames 91 = .ok (.iinc 1 1, 3) := by decide +kernel
theorem d_Fa_writeNames_94 : decode b_Fa_writeNames 94 = .ok (.goto (-52), 3) := by decide +kernel
theorem d_Fa_writeNames_97 : decode b_Fa_writeNames 97 = .ok (.return_, 1) := by decide +kernel
theorem d_Fa_writeItems_0 : decode b_Fa_writeItems 0 = .ok (.iconst 0, 1) := by decide +kernel
theorem d_Fa_writeItems_1 : decode b_Fa_writeItems 1 = .ok (.istore_n 2, 1) := by decide +kernel
theorem d_Fa_writeItems_2 : decode b_Fa_writeItems 2 = .ok (.iload_n 2, 1) := by decide +kernel
theorem d_Fa_writeItems_3 : decode b_Fa_writeItems 3 = .ok (.aload_n 1, 1) := by decide +kernel
theorem d_Fa_writeItems_4 : decode b_Fa_writeItems 4 = .ok (.getfield 119, 3) := by decide +kernel
theorem d_Fa_writeItems_7 : decode b_Fa_writeItems 7 = .ok (.invokevirtual 48, 3) := by decide +kernel
theorem d_Fa_writeItems_10 : decode b_Fa_writeItems 10 = .ok (.if_icmp .ge 109, 3) := by decide +kernel
theorem d_Fa_writeItems_13 : decode b_Fa_writeItems 13 = .ok (.aload_n 1, 1) := by decide +kernel
theorem d_Fa_writeItems_14 : decode b_Fa_writeItems 14 = .ok (.getfield 119, 3) := by decide +kernel
theorem d_Fa_writeItems_17 : decode b_Fa_writeItems 17 = .ok (.iload_n 2, 1) := by decide +kernel
theorem d_Fa_writeItems_18 : decode b_Fa_writeItems 18 = .ok (.invokevirtual 53, 3) := by decide +kernel
theorem d_Fa_writeItems_21 : decode b_Fa_writeItems 21 = .ok (.checkcast 122, 3) := by decide +kernel
theorem d_Fa_writeItems_24 : decode b_Fa_writeItems 24 = .ok (.astore_n 3, 1) := by decide +kernel
theorem d_Fa_writeItems_25 : decode b_Fa_writeItems 25 = .ok (.aload_n 3, 1) := by decide +kernel
theorem d_Fa_writeItems_26 : decode b_Fa_writeItems 26 = .ok (.getfield 136, 3) := by decide +kernel
theorem d_Fa_writeItems_29 : decode b_Fa_writeItems 29 = .ok (.ifnull 56, 3) := by decide +kernel
theorem d_Fa_writeItems_32 : decode b_Fa_writeItems 32 = .ok (.aload_n 3, 1) := by decide +kernel
theorem d_Fa_writeItems_33 : decode b_Fa_writeItems 33 = .ok (.getfield 136, 3) := by decide +kernel
theorem d_Fa_writeItems_36 : decode b_Fa_writeItems 36 = .ok (.aload_n 3, 1) := by decide +kernel
theorem d_Fa_writeItems_37 : decode b_Fa_writeItems 37 = .ok (.getfield 127, 3) := by decide +kernel
theorem d_Fa_writeItems_40 : decode b_Fa_writeItems 40 = .ok (.aload_n 3, 1) := by decide +kernel
theorem d_Fa_writeItems_41 : decode b_Fa_writeItems 41 = .ok (.getfield 128, 3) := by decide +kernel
theorem d_Fa_writeItems_44 : decode b_Fa_writeItems 44 = .ok (.invokevirtual 139, 3) := by decide +kernel
theorem d_Fa_writeItems_47 : decode b_Fa_writeItems 47 = .ok (.astore 4, 2) := by decide +kernel
theorem d_Fa_writeItems_49 : decode b_Fa_writeItems 49 = .ok (.aload_n 3, 1) := by decide +kernel
theorem d_Fa_writeItems_50 : decode b_Fa_writeItems 50 = .ok (.aload 4, 2) := by decide +kernel
theorem d_Fa_writeItems_52 : decode b_Fa_writeItems 52 = .ok (.ifnonnull 8, 3) := by decide +kernel
theorem d_Fa_writeItems_55 : decode b_Fa_writeItems 55 = .ok (.bipush 26, 2) := by decide +kernel
theorem d_Fa_writeItems_57 : decode b_Fa_writeItems 57 = .ok (.goto 22, 3) := by decide +kernel
theorem d_Fa_writeItems_60 : decode b_Fa_writeItems 60 = .ok (.aload_n 0, 1) := by decide +kernel
theorem d_Fa_writeItems_61 : decode b_Fa_writeItems 61 = .ok (.aload 4, 2) := by decide +kernel
theorem d_Fa_writeItems_63 : decode b_Fa_writeItems 63 = .ok (.getfield 59, 3) := by decide +kernel
theorem d_Fa_writeItems_66 : decode b_Fa_writeItems 66 = .ok (.aload 4, 2) := by decide +kernel
theorem d_Fa_writeItems_68 : decode b_Fa_writeItems 68 = .ok (.getfield 63, 3) := by decide +kernel
theorem d_Fa_writeItems_71 : decode b_Fa_writeItems 71 = .ok (.aload 4, 2) := by decide +kernel
theorem d_Fa_writeItems_73 : decode b_Fa_writeItems 73 = .ok (.getfield 66, 3) := by decide +kernel
theorem d_Fa_writeItems_76 : decode b_Fa_writeItems 76 = .ok (.invokevirtual 88, 3) := by decide +kernel
theorem d_Fa_writeItems_79 : decode b_Fa_writeItems 79 = .ok (.putfield 127, 3) := by decide +kernel
theorem d_Fa_writeItems_82 : decode b_Fa_writeItems 82 = .ok (.goto 31, 3) := by decide +kernel
theorem d_Fa_writeItems_85 : decode b_Fa_writeItems 85 = .ok (.aload_n 3, 1) := by decide +kernel
theorem d_Fa_writeItems_86 : decode b_Fa_writeItems 86 = .ok (.getfield 124, 3) := by decide +kernel
theorem d_Fa_writeItems_89 : decode b_Fa_writeItems 89 = .ok (.iconst 2, 1) := by decide +kernel
theorem d_Fa_writeItems_90 : decode b_Fa_writeItems 90 = .ok (.if_icmp .ne 23, 3) := by decide +kernel
theorem d_Fa_writeItems_93 : decode b_Fa_writeItems 93 = .ok (.aload_n 3, 1) := by decide +kernel
theorem d_Fa_writeItems_94 : decode b_Fa_writeItems 94 = .ok (.aload_n 0, 1) := by decide +kernel
theorem d_Fa_writeItems_95 : decode b_Fa_writeItems 95 = .ok (.aload_n 1, 1) := by decide +kernel
theorem d_Fa_writeItems_96 : decode b_Fa_writeItems 96 = .ok (.getfield 59, 3) := by decide +kernel
theorem d_Fa_writeItems_99 : decode b_Fa_writeItems 99 = .ok (.aload_n 3, 1) := by decide +kernel
theorem d_Fa_writeItems_100 : decode b_Fa_writeItems 100 = .ok (.getfield 127, 3) := by decide +kernel
theorem d_Fa_writeItems_103 : decode b_Fa_writeItems 103 = .ok (.aload_n 3, 1) := by decide +kernel
theorem d_Fa_writeItems_104 : decode b_Fa_writeItems 104 = .ok (.getfield 128, 3) := by decide +kernel
theorem d_Fa_writeItems_107 : decode b_Fa_writeItems 107 = .ok (.invokevirtual 88, 3) := by decide +kernel
theorem d_Fa_writeItems_110 : decode b_Fa_writeItems 110 = .ok (.putfield 127, 3) := by decide +kernel
theorem d_Fa_writeItems_113 : decode b_Fa_writeItems 113 = .ok (.iinc 2 1, 3) := by decide +kernel
theorem d_Fa_writeItems_116 : decode b_Fa_writeItems 116 = .ok (.goto (-114), 3) := by decide +kernel
theorem d_Fa_writeItems_119 : decode b_Fa_writeItems 119 = .ok (.return_, 1) := by decide +kernel
theorem d_Fa_newNameOf_0 : decode b_Fa_newNameOf 0 = .ok (.aload_n 0, 1) := by decide +kernel
theorem d_Fa_newNameOf_1 : decode b_Fa_newNameOf 1 = .ok (.aload_n 1, 1) := by decide +kernel
theorem d_Fa_newNameOf_2 : decode b_Fa_newNameOf 2 = .ok (.iload_n 2, 1) := by decide +kernel
theorem d_Fa_newNameOf_3 : decode b_Fa_newNameOf 3 = .ok (.iload_n 3, 1) := by decide +kernel
theorem d_Fa_newNameOf_4 : decode b_Fa_newNameOf 4 = .ok (.invokevirtual 69, 3) := by decide +kernel
theorem d_Fa_newNameOf_7 : decode b_Fa_newNameOf 7 = .ok (.istore 4, 2) := by decide +kernel
theorem d_Fa_newNameOf_9 : decode b_Fa_newNameOf 9 = .ok (.iload 4, 2) := by decide +kernel
theorem d_Fa_newNameOf_11 : decode b_Fa_newNameOf 11 = .ok (.iconst (-1), 1) := by decide +kernel
theorem d_Fa_newNameOf_12 : decode b_Fa_newNameOf 12 = .ok (.if_icmp .ne 8, 3) := by decide +kernel
theorem d_Fa_newNameOf_15 : decode b_Fa_newNameOf 15 = .ok (.bipush 26, 2) := by decide +kernel
theorem d_Fa_newNameOf_17 : decode b_Fa_newNameOf 17 = .ok (.goto 10, 3) := by decide +kernel
theorem d_Fa_newNameOf_20 : decode b_Fa_newNameOf 20 = .ok (.aload_n 0, 1) := by decide +kernel
theorem d_Fa_newNameOf_21 : decode b_Fa_newNameOf 21 = .ok (.getfield 28, 3) := by decide +kernel
theorem d_Fa_newNameOf_24 : decode b_Fa_newNameOf 24 = .ok (.iload 4, 2) := by decide +kernel
theorem d_Fa_newNameOf_26 : decode b_Fa_newNameOf 26 = .ok (.iaload, 1) := by decide +kernel
theorem d_Fa_newNameOf_27 : decode b_Fa_newNameOf 27 = .ok (.ireturn, 1) := by decide +kernel
theorem d_Cs_count_0 : decode b_Cs_count 0 = .ok (.iload_n 1, 1) := by decide +kernel
theorem d_Cs_count_1 : decode b_Cs_count 1 = .ok (.tableswitch 92 0 4 #[35, 46, 57, 72, 87], 35) := by decide +kernel
theorem d_Cs_count_36 : decode b_Cs_count 36 = .ok (.aload_n 0, 1) := by decide +kernel
theorem d_Cs_count_37 : decode b_Cs_count 37 = .ok (.getfield 10, 3) := by decide +kernel
theorem d_Cs_count_40 : decode b_Cs_count 40 = .ok (.getfield 51, 3) := by decide +kernel
theorem d_Cs_count_43 : decode b_Cs_count 43 = .ok (.invokevirtual 55, 3) := by decide +kernel
theorem d_Cs_count_46 : decode b_Cs_count 46 = .ok (.ireturn, 1) := by decide +kernel
theorem d_Cs_count_47 : decode b_Cs_count 47 = .ok (.aload_n 0, 1) := by decide +kernel
theorem d_Cs_count_48 : decode b_Cs_count 48 = .ok (.getfield 10, 3) := by decide +kernel
theorem d_Cs_count_51 : decode b_Cs_count 51 = .ok (.getfield 87, 3) := by decide +kernel
theorem d_Cs_count_54 : decode b_Cs_count 54 = .ok (.invokevirtual 55, 3) := by decide +kernel
theorem d_Cs_count_57 : decode b_Cs_count 57 = .ok (.ireturn, 1) := by decide +kernel
theorem d_Cs_count_58 : decode b_Cs_count 58 = .ok (.aload_n 0, 1) := by decide +kernel
theorem d_Cs_count_59 : decode b_Cs_count 59 = .ok (.getfield 28, 3) := by decide +kernel
theorem d_Cs_count_62 : decode b_Cs_count 62 = .ok (.invokevirtual 126, 3) := by decide +kernel
theorem d_Cs_count_65 : decode b_Cs_count 65 = .ok (.aload_n 0, 1) := by decide +kernel
theorem d_Cs_count_66 : decode b_Cs_count 66 = .ok (.getfield 10, 3) := by decide +kernel
theorem d_Cs_count_69 : decode b_Cs_count 69 = .ok (.invokevirtual 176, 3) := by decide +kernel
theorem d_Cs_count_72 : decode b_Cs_count 72 = .ok (.ireturn, 1) := by decide +kernel
theorem d_Cs_count_73 : decode b_Cs_count 73 = .ok (.aload_n 0, 1) := by decide +kernel
theorem d_Cs_count_74 : decode b_Cs_count 74 = .ok (.getfield 28, 3) := by decide +kernel
theorem d_Cs_count_77 : decode b_Cs_count 77 = .ok (.invokevirtual 126, 3) := by decide +kernel
theorem d_Cs_count_80 : decode b_Cs_count 80 = .ok (.aload_n 0, 1) := by decide +kernel
theorem d_Cs_count_81 : decode b_Cs_count 81 = .ok (.getfield 10, 3) := by decide +kernel
theorem d_Cs_count_84 : decode b_Cs_count 84 = .ok (.invokevirtual 179, 3) := by decide +kernel
theorem d_Cs_count_87 : decode b_Cs_count 87 = .ok (.ireturn, 1) := by decide +kernel
theorem d_Cs_count_88 : decode b_Cs_count 88 = .ok (.aload_n 0, 1) := by decide +kernel
theorem d_Cs_count_89 : decode b_Cs_count 89 = .ok (.getfield 39, 3) := by decide +kernel
theorem d_Cs_count_92 : decode b_Cs_count 92 = .ok (.ireturn, 1) := by decide +kernel
theorem d_Cs_count_93 : decode b_Cs_count 93 = .ok (.iload_n 1, 1) := by decide +kernel
theorem d_Cs_count_94 : decode b_Cs_count 94 = .ok (.bipush 10, 2) := by decide +kernel
theorem d_Cs_count_96 : decode b_Cs_count 96 = .ok (.if_icmp .lt 14, 3) := by decide +kernel
theorem d_Cs_count_99 : decode b_Cs_count 99 = .ok (.aload_n 0, 1) := by decide +kernel
theorem d_Cs_count_100 : decode b_Cs_count 100 = .ok (.iload_n 1, 1) := by decide +kernel
theorem d_Cs_count_101 : decode b_Cs_count 101 = .ok (.bipush 10, 2) := by decide +kernel
theorem d_Cs_count_103 : decode b_Cs_count 103 = .ok (.isub, 1) := by decide +kernel
theorem d_Cs_count_104 : decode b_Cs_count 104 = .ok (.invokevirtual 182, 3) := by decide +kernel
theorem d_Cs_count_107 : decode b_Cs_count 107 = .ok (.goto 5, 3) := by decide +kernel
theorem d_Cs_count_110 : decode b_Cs_count 110 = .ok (.bipush (-2), 2) := by decide +kernel
theorem d_Cs_count_112 : decode b_Cs_count 112 = .ok (.ireturn, 1) := by decide +kernel
theorem d_Cs_parentOf_0 : decode b_Cs_parentOf 0 = .ok (.aload_n 0, 1) := by decide +kernel
theorem d_Cs_parentOf_1 : decode b_Cs_parentOf 1 = .ok (.iload_n 1, 1) := by decide +kernel
theorem d_Cs_parentOf_2 : decode b_Cs_parentOf 2 = .ok (.invokevirtual 43, 3) := by decide +kernel
theorem d_Cs_parentOf_5 : decode b_Cs_parentOf 5 = .ok (.ifCond .ne 6, 3) := by decide +kernel
theorem d_Cs_parentOf_8 : decode b_Cs_parentOf 8 = .ok (.bipush (-2), 2) := by decide +kernel
theorem d_Cs_parentOf_10 : decode b_Cs_parentOf 10 = .ok (.ireturn, 1) := by decide +kernel
theorem d_Cs_parentOf_11 : decode b_Cs_parentOf 11 = .ok (.aload_n 0, 1) := by decide +kernel
theorem d_Cs_parentOf_12 : decode b_Cs_parentOf 12 = .ok (.getfield 10, 3) := by decide +kernel
theorem d_Cs_parentOf_15 : decode b_Cs_parentOf 15 = .ok (.getfield 51, 3) := by decide +kernel
theorem d_Cs_parentOf_18 : decode b_Cs_parentOf 18 = .ok (.iload_n 1, 1) := by decide +kernel
theorem d_Cs_parentOf_19 : decode b_Cs_parentOf 19 = .ok (.invokevirtual 68, 3) := by decide +kernel
theorem d_Cs_parentOf_22 : decode b_Cs_parentOf 22 = .ok (.checkcast 72, 3) := by decide +kernel
theorem d_Cs_parentOf_25 : decode b_Cs_parentOf 25 = .ok (.getfield 185, 3) := by decide +kernel
theorem d_Cs_parentOf_28 : decode b_Cs_parentOf 28 = .ok (.astore_n 2, 1) := by decide +kernel
theorem d_Cs_parentOf_29 : decode b_Cs_parentOf 29 = .ok (.aload_n 2, 1) := by decide +kernel
theorem d_Cs_parentOf_30 : decode b_Cs_parentOf 30 = .ok (.ifnonnull 7, 3) := by decide +kernel
theorem d_Cs_parentOf_33 : decode b_Cs_parentOf 33 = .ok (.iconst (-1), 1) := by decide +kernel
theorem d_Cs_parentOf_34 : decode b_Cs_parentOf 34 = .ok (.goto 7, 3) := by decide +kernel
theorem d_Cs_parentOf_37 : decode b_Cs_parentOf 37 = .ok (.aload_n 2, 1) := by decide +kernel
theorem d_Cs_parentOf_38 : decode b_Cs_parentOf 38 = .ok (.getfield 147, 3) := by decide +kernel
theorem d_Cs_parentOf_41 : decode b_Cs_parentOf 41 = .ok (.ireturn, 1) := by decide +kernel
theorem d_Cs_isClass_0 : decode b_Cs_isClass 0 = .ok (.iload_n 1, 1) := by decide +kernel
theorem d_Cs_isClass_1 : decode b_Cs_isClass 1 = .ok (.ifCond .lt 21, 3) := by decide +kernel
theorem d_Cs_isClass_4 : decode b_Cs_isClass 4 = .ok (.iload_n 1, 1) := by decide +kernel
theorem d_Cs_isClass_5 : decode b_Cs_isClass 5 = .ok (.aload_n 0, 1) := by decide +kernel
theorem d_Cs_isClass_6 : decode b_Cs_isClass 6 = .ok (.getfield 10, 3) := by decide +kernel
theorem d_Cs_isClass_9 : decode b_Cs_isClass 9 = .ok (.getfield 51, 3) := by decide +kernel
theorem d_Cs_isClass_12 : decode b_Cs_isClass 12 = .ok (.invokevirtual 55, 3) := by decide +kernel
theorem d_Cs_isClass_15 : decode b_Cs_isClass 15 = .ok (.if_icmp .ge 7, 3) := by decide +kernel
theorem d_Cs_isClass_18 : decode b_Cs_isClass 18 = .ok (.iconst 1, 1) := by decide +kernel
theorem d_Cs_isClass_19 : decode b_Cs_isClass 19 = .ok (.goto 4, 3) := by decide +kernel
theorem d_Cs_isClass_22 : decode b_Cs_isClass 22 = .ok (.iconst 0, 1) := by decide +kernel
theorem d_Cs_isClass_23 : decode b_Cs_isClass 23 = .ok (.ireturn, 1) := by decide +kernel
theorem d_Cs_add_0 : decode b_Cs_add 0 = .ok (.iload_n 1, 1) := by decide +kernel
theorem d_Cs_add_1 : decode b_Cs_add 1 = .ok (.iconst (-1), 1) := by decide +kernel
theorem d_Cs_add_2 : decode b_Cs_add 2 = .ok (.if_icmp .eq 11, 3) := by decide +kernel
theorem d_Cs_add_5 : decode b_Cs_add 5 = .ok (.aload_n 0, 1) := by decide +kernel
theorem d_Cs_add_6 : decode b_Cs_add 6 = .ok (.iload_n 1, 1) := by decide +kernel
theorem d_Cs_add_7 : decode b_Cs_add 7 = .ok (.invokevirtual 43, 3) := by decide +kernel
theorem d_Cs_add_10 : decode b_Cs_add 10 = .ok (.ifCond .eq 7, 3) := by decide +kernel
theorem d_Cs_add_13 : decode b_Cs_add 13 = .ok (.iconst 1, 1) := by decide +kernel
theorem d_Cs_add_14 : decode b_Cs_add 14 = .ok (.goto 4, 3) := by decide +kernel
theorem d_Cs_add_17 : decode b_Cs_add 17 = .ok (.iconst 0, 1) := by decide +kernel
theorem d_Cs_add_18 : decode b_Cs_add 18 = .ok (.invokestatic 47, 3) := by decide +kernel
theorem d_Cs_add_21 : decode b_Cs_add 21 = .ok (.aload_n 0, 1) := by decide +kernel
theorem d_Cs_add_22 : decode b_Cs_add 22 = .ok (.getfield 10, 3) := by decide +kernel
theorem d_Cs_add_25 : decode b_Cs_add 25 = .ok (.getfield 51, 3) := by decide +kernel
theorem d_Cs_add_28 : decode b_Cs_add 28 = .ok (.invokevirtual 55, 3) := by decide +kernel
theorem d_Cs_add_31 : decode b_Cs_add 31 = .ok (.istore_n 2, 1) := by decide +kernel
theorem d_Cs_add_32 : decode b_Cs_add 32 = .ok (.iload_n 2, 1) := by decide +kernel
theorem d_Cs_add_33 : decode b_Cs_add 33 = .ok (.bipush 8, 2) := by decide +kernel
theorem d_Cs_add_35 : decode b_Cs_add 35 = .ok (.if_icmp .lt 13, 3) := by decide +kernel
theorem d_Cs_add_38 : decode b_Cs_add 38 = .ok (.new 61, 3) := by decide +kernel
theorem d_Cs_add_41 : decode b_Cs_add 41 = .ok (.dup, 1) := by decide +kernel
theorem d_Cs_add_42 : decode b_Cs_add 42 = .ok (.ldc 63, 2) := by decide +kernel
theorem d_Cs_add_44 : decode b_Cs_add 44 = .ok (.invokespecial 65, 3) := by decide +kernel
theorem d_Cs_add_47 : decode b_Cs_add 47 = .ok (.athrow, 1) := by decide +kernel
theorem d_Cs_add_48 : decode b_Cs_add 48 = .ok (.iload_n 1, 1) := by decide +kernel
theorem d_Cs_add_49 : decode b_Cs_add 49 = .ok (.iconst (-1), 1) := by decide +kernel
theorem d_Cs_add_50 : decode b_Cs_add 50 = .ok (.if_icmp .ne 7, 3) := by decide +kernel
theorem d_Cs_add_53 : decode b_Cs_add 53 = .ok (.aconst_null, 1) := by decide +kernel
theorem d_Cs_add_54 : decode b_Cs_add 54 = .ok (.goto 17, 3) := by decide +kernel
theorem d_Cs_add_57 : decode b_Cs_add 57 = .ok (.aload_n 0, 1) := by decide +kernel
theorem d_Cs_add_58 : decode b_Cs_add 58 = .ok (.getfield 10, 3) := by decide +kernel
theorem d_Cs_add_61 : decode b_Cs_add 61 = .ok (.getfield 51, 3) := by decide +kernel
theorem d_Cs_add_64 : decode b_Cs_add 64 = .ok (.iload_n 1, 1) := by decide +kernel
theorem d_Cs_add_65 : decode b_Cs_add 65 = .ok (.invokevirtual 68, 3) := by decide +kernel
theorem d_Cs_add_68 : decode b_Cs_add 68 = .ok (.checkcast 72, 3) := by decide +kernel
theorem d_Cs_add_71 : decode b_Cs_add 71 = .ok (.astore_n 3, 1) := by decide +kernel
theorem d_Cs_add_72 : decode b_Cs_add 72 = .ok (.aload_n 0, 1) := by decide +kernel
theorem d_Cs_add_73 : decode b_Cs_add 73 = .ok (.getfield 10, 3) := by decide +kernel
theorem d_Cs_add_76 : decode b_Cs_add 76 = .ok (.getfield 51, 3) := by decide +kernel
theorem d_Cs_add_79 : decode b_Cs_add 79 = .ok (.new 72, 3) := by decide +kernel
theorem d_Cs_add_82 : decode b_Cs_add 82 = .ok (.dup, 1) := by decide +kernel
theorem d_Cs_add_83 : decode b_Cs_add 83 = .ok (.iload_n 2, 1) := by decide +kernel
theorem d_Cs_add_84 : decode b_Cs_add 84 = .ok (.aload_n 3, 1) := by decide +kernel
theorem d_Cs_add_85 : decode b_Cs_add 85 = .ok (.invokespecial 74, 3) := by decide +kernel
theorem d_Cs_add_88 : decode b_Cs_add 88 = .ok (.invokevirtual 77, 3) := by decide +kernel
theorem d_Cs_add_91 : decode b_Cs_add 91 = .ok (.pop, 1) := by decide +kernel
theorem d_Cs_add_92 : decode b_Cs_add 92 = .ok (.iload_n 2, 1) := by decide +kernel
theorem d_Cs_add_93 : decode b_Cs_add 93 = .ok (.ireturn, 1) := by decide +kernel
theorem d_Cs_require_0 : decode b_Cs_require 0 = .ok (.iload_n 0, 1) := by decide +kernel
theorem d_Cs_require_1 : decode b_Cs_require 1 = .ok (.ifCond .ne 13, 3) := by decide +kernel
theorem d_Cs_require_4 : decode b_Cs_require 4 = .ok (.new 191, 3) := by decide +kernel
theorem d_Cs_require_7 : decode b_Cs_require 7 = .ok (.dup, 1) := by decide +kernel
theorem d_Cs_require_8 : decode b_Cs_require 8 = .ok (.ldc 193, 2) := by decide +kernel
theorem d_Cs_require_10 : decode b_Cs_require 10 = .ok (.invokespecial 195, 3) := by decide +kernel
theorem d_Cs_require_13 : decode b_Cs_require 13 = .ok (.athrow, 1) := by decide +kernel
theorem d_Cs_require_14 : decode b_Cs_require 14 = .ok (.return_, 1) := by decide +kernel
theorem d_Cs_method_0 : decode b_Cs_method 0 = .ok (.aload_n 0, 1) := by decide +kernel
theorem d_Cs_method_1 : decode b_Cs_method 1 = .ok (.iload_n 1, 1) := by decide +kernel
theorem d_Cs_method_2 : decode b_Cs_method 2 = .ok (.invokevirtual 43, 3) := by decide +kernel
theorem d_Cs_method_5 : decode b_Cs_method 5 = .ok (.ifCond .eq 21, 3) := by decide +kernel
theorem d_Cs_method_8 : decode b_Cs_method 8 = .ok (.iload_n 2, 1) := by decide +kernel
theorem d_Cs_method_9 : decode b_Cs_method 9 = .ok (.invokestatic 81, 3) := by decide +kernel
theorem d_Cs_method_12 : decode b_Cs_method 12 = .ok (.ifCond .eq 14, 3) := by decide +kernel
theorem d_Cs_method_15 : decode b_Cs_method 15 = .ok (.iload_n 3, 1) := by decide +kernel
theorem d_Cs_method_16 : decode b_Cs_method 16 = .ok (.invokestatic 84, 3) := by decide +kernel
theorem d_Cs_method_19 : decode b_Cs_method 19 = .ok (.ifCond .eq 7, 3) := by decide +kernel
theorem d_Cs_method_22 : decode b_Cs_method 22 = .ok (.iconst 1, 1) := by decide +kernel
theorem d_Cs_method_23 : decode b_Cs_method 23 = .ok (.goto 4, 3) := by decide +kernel
theorem d_Cs_method_26 : decode b_Cs_method 26 = .ok (.iconst 0, 1) := by decide +kernel
theorem d_Cs_method_27 : decode b_Cs_method 27 = .ok (.invokestatic 47, 3) := by decide +kernel
theorem d_Cs_method_30 : decode b_Cs_method 30 = .ok (.aload_n 0, 1) := by decide +kernel
theorem d_Cs_method_31 : decode b_Cs_method 31 = .ok (.getfield 10, 3) := by decide +kernel
theorem d_Cs_method_34 : decode b_Cs_method 34 = .ok (.getfield 87, 3) := by decide +kernel
theorem d_Cs_method_37 : decode b_Cs_method 37 = .ok (.invokevirtual 55, 3) := by decide +kernel
theorem d_Cs_method_40 : decode b_Cs_method 40 = .ok (.istore 4, 2) := by decide +kernel
theorem d_Cs_method_42 : decode b_Cs_method 42 = .ok (.aload_n 0, 1) := by decide +kernel
theorem d_Cs_method_43 : decode b_Cs_method 43 = .ok (.getfield 10, 3) := by decide +kernel
theorem d_Cs_method_46 : decode b_Cs_method 46 = .ok (.getfield 51, 3) := by decide +kernel
theorem d_Cs_method_49 : decode b_Cs_method 49 = .ok (.iload_n 1, 1) := by decide +kernel
theorem d_Cs_method_50 : decode b_Cs_method 50 = .ok (.invokevirtual 68, 3) := by decide +kernel
theorem d_Cs_method_53 : decode b_Cs_method 53 = .ok (.checkcast 72, 3) := by decide +kernel
theorem d_Cs_method_56 : decode b_Cs_method 56 = .ok (.astore 5, 2) := by decide +kernel
theorem d_Cs_method_58 : decode b_Cs_method 58 = .ok (.iload 4, 2) := by decide +kernel
theorem d_Cs_method_60 : decode b_Cs_method 60 = .ok (.bipush 24, 2) := by decide +kernel
theorem d_Cs_method_62 : decode b_Cs_method 62 = .ok (.if_icmp .ge 13, 3) := by decide +kernel
theorem d_Cs_method_65 : decode b_Cs_method 65 = .ok (.aload 5, 2) := by decide +kernel
theorem d_Cs_method_67 : decode b_Cs_method 67 = .ok (.iload_n 2, 1) := by decide +kernel
theorem d_Cs_method_68 : decode b_Cs_method 68 = .ok (.iload_n 3, 1) := by decide +kernel
theorem d_Cs_method_69 : decode b_Cs_method 69 = .ok (.invokevirtual 90, 3) := by decide +kernel
theorem d_Cs_method_72 : decode b_Cs_method 72 = .ok (.ifnull 13, 3) := by decide +kernel
theorem d_Cs_method_75 : decode b_Cs_method 75 = .ok (.new 61, 3) := by decide +kernel
theorem d_Cs_method_78 : decode b_Cs_method 78 = .ok (.dup, 1) := by decide +kernel
theorem d_Cs_method_79 : decode b_Cs_method 79 = .ok (.ldc 94, 2) := by decide +kernel
theorem d_Cs_method_81 : decode b_Cs_method 81 = .ok (.invokespecial 65, 3) := by decide +kernel
theorem d_Cs_method_84 : decode b_Cs_method 84 = .ok (.athrow, 1) := by decide +kernel
theorem d_Cs_method_85 : decode b_Cs_method 85 = .ok (.new 96, 3) := by decide +kernel
theorem d_Cs_method_88 : decode b_Cs_method 88 = .ok (.dup, 1) := by decide +kernel
theorem d_Cs_method_89 : decode b_Cs_method 89 = .ok (.iload 4, 2) := by decide +kernel
theorem d_Cs_method_91 : decode b_Cs_method 91 = .ok (.aload 5, 2) := by decide +kernel
theorem d_Cs_method_93 : decode b_Cs_method 93 = .ok (.iload_n 2, 1) := by decide +kernel
theorem d_Cs_method_94 : decode b_Cs_method 94 = .ok (.iload_n 3, 1) := by decide +kernel
theorem d_Cs_method_95 : decode b_Cs_method 95 = .ok (.invokespecial 98, 3) := by decide +kernel
theorem d_Cs_method_98 : decode b_Cs_method 98 = .ok (.astore 6, 2) := by decide +kernel
theorem d_Cs_method_100 : decode b_Cs_method 100 = .ok (.aload_n 0, 1) := by decide +kernel
theorem d_Cs_method_101 : decode b_Cs_method 101 = .ok (.getfield 10, 3) := by decide +kernel
theorem d_Cs_method_104 : decode b_Cs_method 104 = .ok (.getfield 87, 3) := by decide +kernel
theorem d_Cs_method_107 : decode b_Cs_method 107 = .ok (.aload 6, 2) := by decide +kernel
theorem d_Cs_method_109 : decode b_Cs_method 109 = .ok (.invokevirtual 77, 3) := by decide +kernel
theorem d_Cs_method_112 : decode b_Cs_method 112 = .ok (.pop, 1) := by decide +kernel
theorem d_Cs_method_113 : decode b_Cs_method 113 = .ok (.aload 5, 2) := by decide +kernel
theorem d_Cs_method_115 : decode b_Cs_method 115 = .ok (.getfield 101, 3) := by decide +kernel
theorem d_Cs_method_118 : decode b_Cs_method 118 = .ok (.aload 6, 2) := by decide +kernel
theorem d_Cs_method_120 : decode b_Cs_method 120 = .ok (.invokevirtual 77, 3) := by decide +kernel
theorem d_Cs_method_123 : decode b_Cs_method 123 = .ok (.pop, 1) := by decide +kernel
theorem d_Cs_method_124 : decode b_Cs_method 124 = .ok (.iload 4, 2) := by decide +kernel
theorem d_Cs_method_126 : decode b_Cs_method 126 = .ok (.ireturn, 1) := by decide +kernel
theorem d_Cs_isName_0 : decode b_Cs_isName 0 = .ok (.iload_n 0, 1) := by decide +kernel
theorem d_Cs_isName_1 : decode b_Cs_isName 1 = .ok (.ifCond .lt 13, 3) := by decide +kernel
theorem d_Cs_isName_4 : decode b_Cs_isName 4 = .ok (.iload_n 0, 1) := by decide +kernel
theorem d_Cs_isName_5 : decode b_Cs_isName 5 = .ok (.bipush 26, 2) := by decide +kernel
theorem d_Cs_isName_7 : decode b_Cs_isName 7 = .ok (.if_icmp .ge 7, 3) := by decide +kernel
theorem d_Cs_isName_10 : decode b_Cs_isName 10 = .ok (.iconst 1, 1) := by decide +kernel
theorem d_Cs_isName_11 : decode b_Cs_isName 11 = .ok (.goto 4, 3) := by decide +kernel
theorem d_Cs_isName_14 : decode b_Cs_isName 14 = .ok (.iconst 0, 1) := by decide +kernel
theorem d_Cs_isName_15 : decode b_Cs_isName 15 = .ok (.ireturn, 1) := by decide +kernel
theorem d_Cs_isArity_0 : decode b_Cs_isArity 0 = .ok (.iload_n 0, 1) := by decide +kernel
theorem d_Cs_isArity_1 : decode b_Cs_isArity 1 = .ok (.ifCond .lt 12, 3) := by decide +kernel
theorem d_Cs_isArity_4 : decode b_Cs_isArity 4 = .ok (.iload_n 0, 1) := by decide +kernel
theorem d_Cs_isArity_5 : decode b_Cs_isArity 5 = .ok (.iconst 3, 1) := by decide +kernel
theorem d_Cs_isArity_6 : decode b_Cs_isArity 6 = .ok (.if_icmp .ge 7, 3) := by decide +kernel
theorem d_Cs_isArity_9 : decode b_Cs_isArity 9 = .ok (.iconst 1, 1) := by decide +kernel
theorem d_Cs_isArity_10 : decode b_Cs_isArity 10 = .ok (.goto 4, 3) := by decide +kernel
theorem d_Cs_isArity_13 : decode b_Cs_isArity 13 = .ok (.iconst 0, 1) := by decide +kernel
theorem d_Cs_isArity_14 : decode b_Cs_isArity 14 = .ok (.ireturn, 1) := by decide +kernel
theorem d_Cs_item_0 : decode b_Cs_item 0 = .ok (.aload_n 0, 1) := by decide +kernel
theorem d_Cs_item_1 : decode b_Cs_item 1 = .ok (.iload_n 1, 1) := by decide +kernel
theorem d_Cs_item_2 : decode b_Cs_item 2 = .ok (.invokevirtual 102, 3) := by decide +kernel
theorem d_Cs_item_5 : decode b_Cs_item 5 = .ok (.ifCond .eq 20, 3) := by decide +kernel
theorem d_Cs_item_8 : decode b_Cs_item 8 = .ok (.aload_n 0, 1) := by decide +kernel
theorem d_Cs_item_9 : decode b_Cs_item 9 = .ok (.iload_n 2, 1) := by decide +kernel
theorem d_Cs_item_10 : decode b_Cs_item 10 = .ok (.iload_n 3, 1) := by decide +kernel
theorem d_Cs_item_11 : decode b_Cs_item 11 = .ok (.iload 4, 2) := by decide +kernel
theorem d_Cs_item_13 : decode b_Cs_item 13 = .ok (.iload 5, 2) := by decide +kernel
theorem d_Cs_item_15 : decode b_Cs_item 15 = .ok (.invokevirtual 105, 3) := by decide +kernel
theorem d_Cs_item_18 : decode b_Cs_item 18 = .ok (.ifCond .eq 7, 3) := by decide +kernel
theorem d_Cs_item_21 : decode b_Cs_item 21 = .ok (.iconst 1, 1) := by decide +kernel
theorem d_Cs_item_22 : decode b_Cs_item 22 = .ok (.goto 4, 3) := by decide +kernel
theorem d_Cs_item_25 : decode b_Cs_item 25 = .ok (.iconst 0, 1) := by decide +kernel
theorem d_Cs_item_26 : decode b_Cs_item 26 = .ok (.invokestatic 47, 3) := by decide +kernel
theorem d_Cs_item_29 : decode b_Cs_item 29 = .ok (.aload_n 0, 1) := by decide +kernel
theorem d_Cs_item_30 : decode b_Cs_item 30 = .ok (.getfield 10, 3) := by decide +kernel
theorem d_Cs_item_33 : decode b_Cs_item 33 = .ok (.getfield 87, 3) := by decide +kernel
theorem d_Cs_item_36 : decode b_Cs_item 36 = .ok (.iload_n 1, 1) := by decide +kernel
theorem d_Cs_item_37 : decode b_Cs_item 37 = .ok (.invokevirtual 68, 3) := by decide +kernel
theorem d_Cs_item_40 : decode b_Cs_item 40 = .ok (.checkcast 96, 3) := by decide +kernel
theorem d_Cs_item_43 : decode b_Cs_item 43 = .ok (.astore 6, 2) := by decide +kernel
theorem d_Cs_item_45 : decode b_Cs_item 45 = .ok (.aload 6, 2) := by decide +kernel
theorem d_Cs_item_47 : decode b_Cs_item 47 = .ok (.getfield 109, 3) := by decide +kernel
theorem d_Cs_item_50 : decode b_Cs_item 50 = .ok (.invokevirtual 55, 3) := by decide +kernel
theorem d_Cs_item_53 : decode b_Cs_item 53 = .ok (.iconst 5, 1) := by decide +kernel
theorem d_Cs_item_54 : decode b_Cs_item 54 = .ok (.if_icmp .lt 13, 3) := by decide +kernel
theorem d_Cs_item_57 : decode b_Cs_item 57 = .ok (.new 61, 3) := by decide +kernel
theorem d_Cs_item_60 : decode b_Cs_item 60 = .ok (.dup, 1) := by decide +kernel
theorem d_Cs_item_61 : decode b_Cs_item 61 = .ok (.ldc 112, 2) := by decide +kernel
theorem d_Cs_item_63 : decode b_Cs_item 63 = .ok (.invokespecial 65, 3) := by decide +kernel
theorem d_Cs_item_66 : decode b_Cs_item 66 = .ok (.athrow, 1) := by decide +kernel
theorem d_Cs_item_67 : decode b_Cs_item 67 = .ok (.aload 6, 2) := by decide +kernel
theorem d_Cs_item_69 : decode b_Cs_item 69 = .ok (.getfield 109, 3) := by decide +kernel
theorem d_Cs_item_72 : decode b_Cs_item 72 = .ok (.aload_n 0, 1) := by decide +kernel
theorem d_Cs_item_73 : decode b_Cs_item 73 = .ok (.iload_n 2, 1) := by decide +kernel
theorem d_Cs_item_74 : decode b_Cs_item 74 = .ok (.iload_n 3, 1) := by decide +kernel
theorem d_Cs_item_75 : decode b_Cs_item 75 = .ok (.iload 4, 2) := by decide +kernel
theorem d_Cs_item_77 : decode b_Cs_item 77 = .ok (.iload 5, 2) := by decide +kernel
theorem d_Cs_item_79 : decode b_Cs_item 79 = .ok (.invokevirtual 114, 3) := by decide +kernel
theorem d_Cs_item_82 : decode b_Cs_item 82 = .ok (.invokevirtual 77, 3) := by decide +kernel
theorem d_Cs_item_85 : decode b_Cs_item 85 = .ok (.pop, 1) := by decide +kernel
theorem d_Cs_item_86 : decode b_Cs_item 86 = .ok (.aload 6, 2) := by decide +kernel
theorem d_Cs_item_88 : decode b_Cs_item 88 = .ok (.getfield 109, 3) := by decide +kernel
theorem d_Cs_item_91 : decode b_Cs_item 91 = .ok (.invokevirtual 55, 3) := by decide +kernel
theorem d_Cs_item_94 : decode b_Cs_item 94 = .ok (.ireturn, 1) := by decide +kernel
theorem d_Cs_isMethod_0 : decode b_Cs_isMethod 0 = .ok (.iload_n 1, 1) := by decide +kernel
theorem d_Cs_isMethod_1 : decode b_Cs_isMethod 1 = .ok (.ifCond .lt 21, 3) := by decide +kernel
theorem d_Cs_isMethod_4 : decode b_Cs_isMethod 4 = .ok (.iload_n 1, 1) := by decide +kernel
theorem d_Cs_isMethod_5 : decode b_Cs_isMethod 5 = .ok (.aload_n 0, 1) := by decide +kernel
theorem d_Cs_isMethod_6 : decode b_Cs_isMethod 6 = .ok (.getfield 10, 3) := by decide +kernel
theorem d_Cs_isMethod_9 : decode b_Cs_isMethod 9 = .ok (.getfield 87, 3) := by decide +kernel
theorem d_Cs_isMethod_12 : decode b_Cs_isMethod 12 = .ok (.invokevirtual 55, 3) := by decide +kernel
theorem d_Cs_isMethod_15 : decode b_Cs_isMethod 15 = .ok (.if_icmp .ge 7, 3) := by decide +kernel
theorem d_Cs_isMethod_18 : decode b_Cs_isMethod 18 = .ok (.iconst 1, 1) := by decide +kernel
theorem d_Cs_isMethod_19 : decode b_Cs_isMethod 19 = .ok (.goto 4, 3) := by decide +kernel
theorem d_Cs_isMethod_22 : decode b_Cs_isMethod 22 = .ok (.iconst 0, 1) := by decide +kernel
theorem d_Cs_isMethod_23 : decode b_Cs_isMethod 23 = .ok (.ireturn, 1) := by decide +kernel
theorem d_Cs_isItem_0 : decode b_Cs_isItem 0 = .ok (.iload_n 1, 1) := by decide +kernel
theorem d_Cs_isItem_1 : decode b_Cs_isItem 1 = .ok (.tableswitch 79 0 2 #[27, 29, 58], 27) := by decide +kernel
theorem d_Cs_isItem_28 : decode b_Cs_isItem 28 = .ok (.iconst 1, 1) := by decide +kernel
theorem d_Cs_isItem_29 : decode b_Cs_isItem 29 = .ok (.ireturn, 1) := by decide +kernel
theorem d_Cs_isItem_30 : decode b_Cs_isItem 30 = .ok (.aload_n 0, 1) := by decide +kernel
theorem d_Cs_isItem_31 : decode b_Cs_isItem 31 = .ok (.iload_n 2, 1) := by decide +kernel
theorem d_Cs_isItem_32 : decode b_Cs_isItem 32 = .ok (.invokevirtual 43, 3) := by decide +kernel
theorem d_Cs_isItem_35 : decode b_Cs_isItem 35 = .ok (.ifCond .eq 22, 3) := by decide +kernel
theorem d_Cs_isItem_38 : decode b_Cs_isItem 38 = .ok (.iload_n 3, 1) := by decide +kernel
theorem d_Cs_isItem_39 : decode b_Cs_isItem 39 = .ok (.invokestatic 81, 3) := by decide +kernel
theorem d_Cs_isItem_42 : decode b_Cs_isItem 42 = .ok (.ifCond .eq 15, 3) := by decide +kernel
theorem d_Cs_isItem_45 : decode b_Cs_isItem 45 = .ok (.iload 4, 2) := by decide +kernel
theorem d_Cs_isItem_47 : decode b_Cs_isItem 47 = .ok (.invokestatic 84, 3) := by decide +kernel
theorem d_Cs_isItem_50 : decode b_Cs_isItem 50 = .ok (.ifCond .eq 7, 3) := by decide +kernel
theorem d_Cs_isItem_53 : decode b_Cs_isItem 53 = .ok (.iconst 1, 1) := by decide +kernel
theorem d_Cs_isItem_54 : decode b_Cs_isItem 54 = .ok (.goto 4, 3) := by decide +kernel
theorem d_Cs_isItem_57 : decode b_Cs_isItem 57 = .ok (.iconst 0, 1) := by decide +kernel
theorem d_Cs_isItem_58 : decode b_Cs_isItem 58 = .ok (.ireturn, 1) := by decide +kernel
theorem d_Cs_isItem_59 : decode b_Cs_isItem 59 = .ok (.iload_n 3, 1) := by decide +kernel
theorem d_Cs_isItem_60 : decode b_Cs_isItem 60 = .ok (.invokestatic 81, 3) := by decide +kernel
theorem d_Cs_isItem_63 : decode b_Cs_isItem 63 = .ok (.ifCond .eq 15, 3) := by decide +kernel
theorem d_Cs_isItem_66 : decode b_Cs_isItem 66 = .ok (.iload 4, 2) := by decide +kernel
theorem d_Cs_isItem_68 : decode b_Cs_isItem 68 = .ok (.invokestatic 84, 3) := by decide +kernel
theorem d_Cs_isItem_71 : decode b_Cs_isItem 71 = .ok (.ifCond .eq 7, 3) := by decide +kernel
theorem d_Cs_isItem_74 : decode b_Cs_isItem 74 = .ok (.iconst 1, 1) := by decide +kernel
theorem d_Cs_isItem_75 : decode b_Cs_isItem 75 = .ok (.goto 4, 3) := by decide +kernel
theorem d_Cs_isItem_78 : decode b_Cs_isItem 78 = .ok (.iconst 0, 1) := by decide +kernel
theorem d_Cs_isItem_79 : decode b_Cs_isItem 79 = .ok (.ireturn, 1) := by decide +kernel
theorem d_Cs_isItem_80 : decode b_Cs_isItem 80 = .ok (.iconst 0, 1) := by decide +kernel
theorem d_Cs_isItem_81 : decode b_Cs_isItem 81 = .ok (.ireturn, 1) := by decide +kernel
theorem d_Cs_newItem_0 : decode b_Cs_newItem 0 = .ok (.iload_n 1, 1) := by decide +kernel
theorem d_Cs_newItem_1 : decode b_Cs_newItem 1 = .ok (.ifCond .ne 16, 3) := by decide +kernel
theorem d_Cs_newItem_4 : decode b_Cs_newItem 4 = .ok (.new 168, 3) := by decide +kernel
theorem d_Cs_newItem_7 : decode b_Cs_newItem 7 = .ok (.dup, 1) := by decide +kernel
theorem d_Cs_newItem_8 : decode b_Cs_newItem 8 = .ok (.iconst 0, 1) := by decide +kernel
theorem d_Cs_newItem_9 : decode b_Cs_newItem 9 = .ok (.iload_n 2, 1) := by decide +kernel
theorem d_Cs_newItem_10 : decode b_Cs_newItem 10 = .ok (.aconst_null, 1) := by decide +kernel
theorem d_Cs_newItem_11 : decode b_Cs_newItem 11 = .ok (.iconst (-1), 1) := by decide +kernel
theorem d_Cs_newItem_12 : decode b_Cs_newItem 12 = .ok (.iconst (-1), 1) := by decide +kernel
theorem d_Cs_newItem_13 : decode b_Cs_newItem 13 = .ok (.invokespecial 188, 3) := by decide +kernel
theorem d_Cs_newItem_16 : decode b_Cs_newItem 16 = .ok (.areturn, 1) := by decide +kernel
theorem d_Cs_newItem_17 : decode b_Cs_newItem 17 = .ok (.iload_n 1, 1) := by decide +kernel
theorem d_Cs_newItem_18 : decode b_Cs_newItem 18 = .ok (.iconst 1, 1) := by decide +kernel
theorem d_Cs_newItem_19 : decode b_Cs_newItem 19 = .ok (.if_icmp .ne 28, 3) := by decide +kernel
theorem d_Cs_newItem_22 : decode b_Cs_newItem 22 = .ok (.aload_n 0, 1) := by decide +kernel
theorem d_Cs_newItem_23 : decode b_Cs_newItem 23 = .ok (.iload_n 2, 1) := by decide +kernel
theorem d_Cs_newItem_24 : decode b_Cs_newItem 24 = .ok (.invokevirtual 43, 3) := by decide +kernel
theorem d_Cs_newItem_27 : decode b_Cs_newItem 27 = .ok (.ifCond .eq 20, 3) := by decide +kernel
theorem d_Cs_newItem_30 : decode b_Cs_newItem 30 = .ok (.aload_n 0, 1) := by decide +kernel
theorem d_Cs_newItem_31 : decode b_Cs_newItem 31 = .ok (.getfield 10, 3) := by decide +kernel
theorem d_Cs_newItem_34 : decode b_Cs_newItem 34 = .ok (.getfield 51, 3) := by decide +kernel
theorem d_Cs_newItem_37 : decode b_Cs_newItem 37 = .ok (.iload_n 2, 1) := by decide +kernel
theorem d_Cs_newItem_38 : decode b_Cs_newItem 38 = .ok (.invokevirtual 68, 3) := by decide +kernel
theorem d_Cs_newItem_41 : decode b_Cs_newItem 41 = .ok (.checkcast 72, 3) := by decide +kernel
theorem d_Cs_newItem_44 : decode b_Cs_newItem 44 = .ok (.goto 4, 3) := by decide +kernel
theorem d_Cs_newItem_47 : decode b_Cs_newItem 47 = .ok (.aconst_null, 1) := by decide +kernel
theorem d_Cs_newItem_48 : decode b_Cs_newItem 48 = .ok (.astore 5, 2) := by decide +kernel
theorem d_Cs_newItem_50 : decode b_Cs_newItem 50 = .ok (.new 168, 3) := by decide +kernel
theorem d_Cs_newItem_53 : decode b_Cs_newItem 53 = .ok (.dup, 1) := by decide +kernel
theorem d_Cs_newItem_54 : decode b_Cs_newItem 54 = .ok (.iload_n 1, 1) := by decide +kernel
theorem d_Cs_newItem_55 : decode b_Cs_newItem 55 = .ok (.iconst (-1), 1) := by decide +kernel
theorem d_Cs_newItem_56 : decode b_Cs_newItem 56 = .ok (.aload 5, 2) := by decide +kernel
theorem d_Cs_newItem_58 : decode b_Cs_newItem 58 = .ok (.iload_n 3, 1) := by decide +kernel
theorem d_Cs_newItem_59 : decode b_Cs_newItem 59 = .ok (.iload 4, 2) := by decide +kernel
theorem d_Cs_newItem_61 : decode b_Cs_newItem 61 = .ok (.invokespecial 188, 3) := by decide +kernel
theorem d_Cs_newItem_64 : decode b_Cs_newItem 64 = .ok (.areturn, 1) := by decide +kernel
theorem d_Cs_keep_0 : decode b_Cs_keep 0 = .ok (.aload_n 0, 1) := by decide +kernel
theorem d_Cs_keep_1 : decode b_Cs_keep 1 = .ok (.iload_n 1, 1) := by decide +kernel
theorem d_Cs_keep_2 : decode b_Cs_keep 2 = .ok (.invokevirtual 102, 3) := by decide +kernel
theorem d_Cs_keep_5 : decode b_Cs_keep 5 = .ok (.invokestatic 47, 3) := by decide +kernel
theorem d_Cs_keep_8 : decode b_Cs_keep 8 = .ok (.aload_n 0, 1) := by decide +kernel
theorem d_Cs_keep_9 : decode b_Cs_keep 9 = .ok (.getfield 10, 3) := by decide +kernel
theorem d_Cs_keep_12 : decode b_Cs_keep 12 = .ok (.getfield 87, 3) := by decide +kernel
theorem d_Cs_keep_15 : decode b_Cs_keep 15 = .ok (.iload_n 1, 1) := by decide +kernel
theorem d_Cs_keep_16 : decode b_Cs_keep 16 = .ok (.invokevirtual 68, 3) := by decide +kernel
theorem d_Cs_keep_19 : decode b_Cs_keep 19 = .ok (.checkcast 96, 3) := by decide +kernel
theorem d_Cs_keep_22 : decode b_Cs_keep 22 = .ok (.iload_n 2, 1) := by decide +kernel
theorem d_Cs_keep_23 : decode b_Cs_keep 23 = .ok (.putfield 118, 3) := by decide +kernel
theorem d_Cs_keep_26 : decode b_Cs_keep 26 = .ok (.return_, 1) := by decide +kernel
theorem d_Cs_run_0 : decode b_Cs_run 0 = .ok (.aload_n 0, 1) := by decide +kernel
theorem d_Cs_run_1 : decode b_Cs_run 1 = .ok (.iload_n 1, 1) := by decide +kernel
theorem d_Cs_run_2 : decode b_Cs_run 2 = .ok (.invokevirtual 43, 3) := by decide +kernel
theorem d_Cs_run_5 : decode b_Cs_run 5 = .ok (.ifCond .eq 21, 3) := by decide +kernel
theorem d_Cs_run_8 : decode b_Cs_run 8 = .ok (.iload_n 2, 1) := by decide +kernel
theorem d_Cs_run_9 : decode b_Cs_run 9 = .ok (.invokestatic 81, 3) := by decide +kernel
theorem d_Cs_run_12 : decode b_Cs_run 12 = .ok (.ifCond .eq 14, 3) := by decide +kernel
theorem d_Cs_run_15 : decode b_Cs_run 15 = .ok (.iload_n 3, 1) := by decide +kernel
theorem d_Cs_run_16 : decode b_Cs_run 16 = .ok (.invokestatic 84, 3) := by decide +kernel
theorem d_Cs_run_19 : decode b_Cs_run 19 = .ok (.ifCond .eq 7, 3) := by decide +kernel
theorem d_Cs_run_22 : decode b_Cs_run 22 = .ok (.iconst 1, 1) := by decide +kernel
theorem d_Cs_run_23 : decode b_Cs_run 23 = .ok (.goto 4, 3) := by decide +kernel
theorem d_Cs_run_26 : decode b_Cs_run 26 = .ok (.iconst 0, 1) := by decide +kernel
theorem d_Cs_run_27 : decode b_Cs_run 27 = .ok (.invokestatic 47, 3) := by decide +kernel
theorem d_Cs_run_30 : decode b_Cs_run 30 = .ok (.aload_n 0, 1) := by decide +kernel
theorem d_Cs_run_31 : decode b_Cs_run 31 = .ok (.getfield 19, 3) := by decide +kernel
theorem d_Cs_run_34 : decode b_Cs_run 34 = .ok (.aload_n 0, 1) := by decide +kernel
theorem d_Cs_run_35 : decode b_Cs_run 35 = .ok (.getfield 10, 3) := by decide +kernel
theorem d_Cs_run_38 : decode b_Cs_run 38 = .ok (.getfield 51, 3) := by decide +kernel
theorem d_Cs_run_41 : decode b_Cs_run 41 = .ok (.iload_n 1, 1) := by decide +kernel
theorem d_Cs_run_42 : decode b_Cs_run 42 = .ok (.invokevirtual 68, 3) := by decide +kernel
theorem d_Cs_run_45 : decode b_Cs_run 45 = .ok (.checkcast 72, 3) := by decide +kernel
theorem d_Cs_run_48 : decode b_Cs_run 48 = .ok (.iload_n 2, 1) := by decide +kernel
theorem d_Cs_run_49 : decode b_Cs_run 49 = .ok (.iload_n 3, 1) := by decide +kernel
theorem d_Cs_run_50 : decode b_Cs_run 50 = .ok (.invokevirtual 122, 3) := by decide +kernel
theorem d_Cs_run_53 : decode b_Cs_run 53 = .ok (.ireturn, 1) := by decide +kernel
theorem d_Cs_told_0 : decode b_Cs_told 0 = .ok (.aload_n 0, 1) := by decide +kernel
theorem d_Cs_told_1 : decode b_Cs_told 1 = .ok (.iload_n 1, 1) := by decide +kernel
theorem d_Cs_told_2 : decode b_Cs_told 2 = .ok (.invokevirtual 102, 3) := by decide +kernel
theorem d_Cs_told_5 : decode b_Cs_told 5 = .ok (.ifCond .eq 17, 3) := by decide +kernel
theorem d_Cs_told_8 : decode b_Cs_told 8 = .ok (.iload_n 2, 1) := by decide +kernel
theorem d_Cs_told_9 : decode b_Cs_told 9 = .ok (.ifCond .lt 13, 3) := by decide +kernel
theorem d_Cs_told_12 : decode b_Cs_told 12 = .ok (.iload_n 2, 1) := by decide +kernel
theorem d_Cs_told_13 : decode b_Cs_told 13 = .ok (.bipush 7, 2) := by decide +kernel
theorem d_Cs_told_15 : decode b_Cs_told 15 = .ok (.if_icmp .gt 7, 3) := by decide +kernel
theorem d_Cs_told_18 : decode b_Cs_told 18 = .ok (.iconst 1, 1) := by decide +kernel
theorem d_Cs_told_19 : decode b_Cs_told 19 = .ok (.goto 4, 3) := by decide +kernel
theorem d_Cs_told_22 : decode b_Cs_told 22 = .ok (.iconst 0, 1) := by decide +kernel
theorem d_Cs_told_23 : decode b_Cs_told 23 = .ok (.invokestatic 47, 3) := by decide +kernel
theorem d_Cs_told_26 : decode b_Cs_told 26 = .ok (.aload_n 0, 1) := by decide +kernel
theorem d_Cs_told_27 : decode b_Cs_told 27 = .ok (.getfield 10, 3) := by decide +kernel
theorem d_Cs_told_30 : decode b_Cs_told 30 = .ok (.getfield 87, 3) := by decide +kernel
theorem d_Cs_told_33 : decode b_Cs_told 33 = .ok (.iload_n 1, 1) := by decide +kernel
theorem d_Cs_told_34 : decode b_Cs_told 34 = .ok (.invokevirtual 68, 3) := by decide +kernel
theorem d_Cs_told_37 : decode b_Cs_told 37 = .ok (.checkcast 96, 3) := by decide +kernel
theorem d_Cs_told_40 : decode b_Cs_told 40 = .ok (.astore_n 3, 1) := by decide +kernel
theorem d_Cs_told_41 : decode b_Cs_told 41 = .ok (.iload_n 2, 1) := by decide +kernel
theorem d_Cs_told_42 : decode b_Cs_told 42 = .ok (.tableswitch 94 0 6 #[42, 50, 55, 60, 68, 81, 89], 42) := by decide +kernel
theorem d_Cs_told_84 : decode b_Cs_told 84 = .ok (.aload_n 3, 1) := by decide +kernel
theorem d_Cs_told_85 : decode b_Cs_told 85 = .ok (.getfield 143, 3) := by decide +kernel
theorem d_Cs_told_88 : decode b_Cs_told 88 = .ok (.getfield 147, 3) := by decide +kernel
theorem d_Cs_told_91 : decode b_Cs_told 91 = .ok (.ireturn, 1) := by decide +kernel
theorem d_Cs_told_92 : decode b_Cs_told 92 = .ok (.aload_n 3, 1) := by decide +kernel
theorem d_Cs_told_93 : decode b_Cs_told 93 = .ok (.getfield 150, 3) := by decide +kernel
theorem d_Cs_told_96 : decode b_Cs_told 96 = .ok (.ireturn, 1) := by decide +kernel
theorem d_Cs_told_97 : decode b_Cs_told 97 = .ok (.aload_n 3, 1) := by decide +kernel
theorem d_Cs_told_98 : decode b_Cs_told 98 = .ok (.getfield 153, 3) := by decide +kernel
theorem d_Cs_told_101 : decode b_Cs_told 101 = .ok (.ireturn, 1) := by decide +kernel
theorem d_Cs_told_102 : decode b_Cs_told 102 = .ok (.aload_n 3, 1) := by decide +kernel
theorem d_Cs_told_103 : decode b_Cs_told 103 = .ok (.getfield 109, 3) := by decide +kernel
theorem d_Cs_told_106 : decode b_Cs_told 106 = .ok (.invokevirtual 55, 3) := by decide +kernel
theorem d_Cs_told_109 : decode b_Cs_told 109 = .ok (.ireturn, 1) := by decide +kernel
theorem d_Cs_told_110 : decode b_Cs_told 110 = .ok (.aload_n 3, 1) := by decide +kernel
theorem d_Cs_told_111 : decode b_Cs_told 111 = .ok (.getfield 118, 3) := by decide +kernel
theorem d_Cs_told_114 : decode b_Cs_told 114 = .ok (.ifCond .eq 7, 3) := by decide +kernel
theorem d_Cs_told_117 : decode b_Cs_told 117 = .ok (.iconst 1, 1) := by decide +kernel
theorem d_Cs_told_118 : decode b_Cs_told 118 = .ok (.goto 4, 3) := by decide +kernel
theorem d_Cs_told_121 : decode b_Cs_told 121 = .ok (.iconst 0, 1) := by decide +kernel
theorem d_Cs_told_122 : decode b_Cs_told 122 = .ok (.ireturn, 1) := by decide +kernel
theorem d_Cs_told_123 : decode b_Cs_told 123 = .ok (.aload_n 3, 1) := by decide +kernel
theorem d_Cs_told_124 : decode b_Cs_told 124 = .ok (.getfield 143, 3) := by decide +kernel
theorem d_Cs_told_127 : decode b_Cs_told 127 = .ok (.getfield 156, 3) := by decide +kernel
theorem d_Cs_told_130 : decode b_Cs_told 130 = .ok (.ireturn, 1) := by decide +kernel
theorem d_Cs_told_131 : decode b_Cs_told 131 = .ok (.aload_n 3, 1) := by decide +kernel
theorem d_Cs_told_132 : decode b_Cs_told 132 = .ok (.getfield 159, 3) := by decide +kernel
theorem d_Cs_told_135 : decode b_Cs_told 135 = .ok (.ireturn, 1) := by decide +kernel
theorem d_Cs_told_136 : decode b_Cs_told 136 = .ok (.aload_n 3, 1) := by decide +kernel
theorem d_Cs_told_137 : decode b_Cs_told 137 = .ok (.getfield 162, 3) := by decide +kernel
theorem d_Cs_told_140 : decode b_Cs_told 140 = .ok (.ireturn, 1) := by decide +kernel
theorem d_Cs_inside_0 : decode b_Cs_inside 0 = .ok (.aload_n 0, 1) := by decide +kernel
theorem d_Cs_inside_1 : decode b_Cs_inside 1 = .ok (.iload_n 1, 1) := by decide +kernel
theorem d_Cs_inside_2 : decode b_Cs_inside 2 = .ok (.invokevirtual 102, 3) := by decide +kernel
theorem d_Cs_inside_5 : decode b_Cs_inside 5 = .ok (.ifCond .eq 16, 3) := by decide +kernel
theorem d_Cs_inside_8 : decode b_Cs_inside 8 = .ok (.iload_n 3, 1) := by decide +kernel
theorem d_Cs_inside_9 : decode b_Cs_inside 9 = .ok (.ifCond .lt 12, 3) := by decide +kernel
theorem d_Cs_inside_12 : decode b_Cs_inside 12 = .ok (.iload_n 3, 1) := by decide +kernel
theorem d_Cs_inside_13 : decode b_Cs_inside 13 = .ok (.iconst 3, 1) := by decide +kernel
theorem d_Cs_inside_14 : decode b_Cs_inside 14 = .ok (.if_icmp .gt 7, 3) := by decide +kernel
theorem d_Cs_inside_17 : decode b_Cs_inside 17 = .ok (.iconst 1, 1) := by decide +kernel
theorem d_Cs_inside_18 : decode b_Cs_inside 18 = .ok (.goto 4, 3) := by decide +kernel
theorem d_Cs_inside_21 : decode b_Cs_inside 21 = .ok (.iconst 0, 1) := by decide +kernel
theorem d_Cs_inside_22 : decode b_Cs_inside 22 = .ok (.invokestatic 47, 3) := by decide +kernel
theorem d_Cs_inside_25 : decode b_Cs_inside 25 = .ok (.aload_n 0, 1) := by decide +kernel
theorem d_Cs_inside_26 : decode b_Cs_inside 26 = .ok (.getfield 10, 3) := by decide +kernel
theorem d_Cs_inside_29 : decode b_Cs_inside 29 = .ok (.getfield 87, 3) := by decide +kernel
theorem d_Cs_inside_32 : decode b_Cs_inside 32 = .ok (.iload_n 1, 1) := by decide +kernel
theorem d_Cs_inside_33 : decode b_Cs_inside 33 = .ok (.invokevirtual 68, 3) := by decide +kernel
theorem d_Cs_inside_36 : decode b_Cs_inside 36 = .ok (.checkcast 96, 3) := by decide +kernel
theorem d_Cs_inside_39 : decode b_Cs_inside 39 = .ok (.astore 4, 2) := by decide +kernel
theorem d_Cs_inside_41 : decode b_Cs_inside 41 = .ok (.iload_n 2, 1) := by decide +kernel
theorem d_Cs_inside_42 : decode b_Cs_inside 42 = .ok (.ifCond .lt 15, 3) := by decide +kernel
theorem d_Cs_inside_45 : decode b_Cs_inside 45 = .ok (.iload_n 2, 1) := by decide +kernel
theorem d_Cs_inside_46 : decode b_Cs_inside 46 = .ok (.aload 4, 2) := by decide +kernel
theorem d_Cs_inside_48 : decode b_Cs_inside 48 = .ok (.getfield 109, 3) := by decide +kernel
theorem d_Cs_inside_51 : decode b_Cs_inside 51 = .ok (.invokevirtual 55, 3) := by decide +kernel
theorem d_Cs_inside_54 : decode b_Cs_inside 54 = .ok (.if_icmp .lt 13, 3) := by decide +kernel
theorem d_Cs_inside_57 : decode b_Cs_inside 57 = .ok (.new 163, 3) := by decide +kernel
theorem d_Cs_inside_60 : decode b_Cs_inside 60 = .ok (.dup, 1) := by decide +kernel
theorem d_Cs_inside_61 : decode b_Cs_inside 61 = .ok (.ldc 165, 2) := by decide +kernel
theorem d_Cs_inside_63 : decode b_Cs_inside 63 = .ok (.invokespecial 167, 3) := by decide +kernel
theorem d_Cs_inside_66 : decode b_Cs_inside 66 = .ok (.athrow, 1) := by decide +kernel
theorem d_Cs_inside_67 : decode b_Cs_inside 67 = .ok (.aload 4, 2) := by decide +kernel
theorem d_Cs_inside_69 : decode b_Cs_inside 69 = .ok (.getfield 109, 3) := by decide +kernel
theorem d_Cs_inside_72 : decode b_Cs_inside 72 = .ok (.iload_n 2, 1) := by decide +kernel
theorem d_Cs_inside_73 : decode b_Cs_inside 73 = .ok (.invokevirtual 68, 3) := by decide +kernel
theorem d_Cs_inside_76 : decode b_Cs_inside 76 = .ok (.checkcast 168, 3) := by decide +kernel
theorem d_Cs_inside_79 : decode b_Cs_inside 79 = .ok (.iload_n 3, 1) := by decide +kernel
theorem d_Cs_inside_80 : decode b_Cs_inside 80 = .ok (.invokevirtual 170, 3) := by decide +kernel
theorem d_Cs_inside_83 : decode b_Cs_inside 83 = .ok (.ireturn, 1) := by decide +kernel
theorem d_Cs_trace_0 : decode b_Cs_trace 0 = .ok (.aload_n 0, 1) := by decide +kernel
theorem d_Cs_trace_1 : decode b_Cs_trace 1 = .ok (.iload_n 1, 1) := by decide +kernel
theorem d_Cs_trace_2 : decode b_Cs_trace 2 = .ok (.invokevirtual 43, 3) := by decide +kernel
theorem d_Cs_trace_5 : decode b_Cs_trace 5 = .ok (.ifCond .eq 27, 3) := by decide +kernel
theorem d_Cs_trace_8 : decode b_Cs_trace 8 = .ok (.iload_n 2, 1) := by decide +kernel
theorem d_Cs_trace_9 : decode b_Cs_trace 9 = .ok (.invokestatic 81, 3) := by decide +kernel
theorem d_Cs_trace_12 : decode b_Cs_trace 12 = .ok (.ifCond .ne 9, 3) := by decide +kernel
theorem d_Cs_trace_15 : decode b_Cs_trace 15 = .ok (.iload_n 2, 1) := by decide +kernel
theorem d_Cs_trace_16 : decode b_Cs_trace 16 = .ok (.bipush 26, 2) := by decide +kernel
theorem d_Cs_trace_18 : decode b_Cs_trace 18 = .ok (.if_icmp .ne 14, 3) := by decide +kernel
theorem d_Cs_trace_21 : decode b_Cs_trace 21 = .ok (.iload_n 3, 1) := by decide +kernel
theorem d_Cs_trace_22 : decode b_Cs_trace 22 = .ok (.invokestatic 84, 3) := by decide +kernel
theorem d_Cs_trace_25 : decode b_Cs_trace 25 = .ok (.ifCond .eq 7, 3) := by decide +kernel
theorem d_Cs_trace_28 : decode b_Cs_trace 28 = .ok (.iconst 1, 1) := by decide +kernel
theorem d_Cs_trace_29 : decode b_Cs_trace 29 = .ok (.goto 4, 3) := by decide +kernel
theorem d_Cs_trace_32 : decode b_Cs_trace 32 = .ok (.iconst 0, 1) := by decide +kernel
theorem d_Cs_trace_33 : decode b_Cs_trace 33 = .ok (.invokestatic 47, 3) := by decide +kernel
theorem d_Cs_trace_36 : decode b_Cs_trace 36 = .ok (.aload_n 0, 1) := by decide +kernel
theorem d_Cs_trace_37 : decode b_Cs_trace 37 = .ok (.getfield 10, 3) := by decide +kernel
theorem d_Cs_trace_40 : decode b_Cs_trace 40 = .ok (.getfield 51, 3) := by decide +kernel
theorem d_Cs_trace_43 : decode b_Cs_trace 43 = .ok (.iload_n 1, 1) := by decide +kernel
theorem d_Cs_trace_44 : decode b_Cs_trace 44 = .ok (.invokevirtual 68, 3) := by decide +kernel
theorem d_Cs_trace_47 : decode b_Cs_trace 47 = .ok (.checkcast 72, 3) := by decide +kernel
theorem d_Cs_trace_50 : decode b_Cs_trace 50 = .ok (.iload_n 2, 1) := by decide +kernel
theorem d_Cs_trace_51 : decode b_Cs_trace 51 = .ok (.iload_n 3, 1) := by decide +kernel
theorem d_Cs_trace_52 : decode b_Cs_trace 52 = .ok (.invokevirtual 90, 3) := by decide +kernel
theorem d_Cs_trace_55 : decode b_Cs_trace 55 = .ok (.astore 4, 2) := by decide +kernel
theorem d_Cs_trace_57 : decode b_Cs_trace 57 = .ok (.aload 4, 2) := by decide +kernel
theorem d_Cs_trace_59 : decode b_Cs_trace 59 = .ok (.ifnonnull 13, 3) := by decide +kernel
theorem d_Cs_trace_62 : decode b_Cs_trace 62 = .ok (.new 163, 3) := by decide +kernel
theorem d_Cs_trace_65 : decode b_Cs_trace 65 = .ok (.dup, 1) := by decide +kernel
theorem d_Cs_trace_66 : decode b_Cs_trace 66 = .ok (.ldc 174, 2) := by decide +kernel
theorem d_Cs_trace_68 : decode b_Cs_trace 68 = .ok (.invokespecial 167, 3) := by decide +kernel
theorem d_Cs_trace_71 : decode b_Cs_trace 71 = .ok (.athrow, 1) := by decide +kernel
theorem d_Cs_trace_72 : decode b_Cs_trace 72 = .ok (.aload 4, 2) := by decide +kernel
theorem d_Cs_trace_74 : decode b_Cs_trace 74 = .ok (.getfield 162, 3) := by decide +kernel
theorem d_Cs_trace_77 : decode b_Cs_trace 77 = .ok (.ireturn, 1) := by decide +kernel
end
section
theorem d_Mo_init_0 : decode b_Mo_init 0 = .ok (.aload_n 0, 1) := by decide +kernel
theorem d_Mo_init_1 : decode b_Mo_init 1 = .ok (.invokespecial 1, 3) := by decide +kernel
theorem d_Mo_init_4 : decode b_Mo_init 4 = .ok (.aload_n 0, 1) := by decide +kernel
theorem d_Mo_init_5 : decode b_Mo_init 5 = .ok (.bipush 8, 2) := by decide +kernel
theorem d_Mo_init_7 : decode b_Mo_init 7 = .ok (.newarray .int, 2) := by decide +kernel
theorem d_Mo_init_9 : decode b_Mo_init 9 = .ok (.putfield 7, 3) := by decide +kernel
theorem d_Mo_init_12 : decode b_Mo_init 12 = .ok (.aload_n 0, 1) := by decide +kernel
theorem d_Mo_init_13 : decode b_Mo_init 13 = .ok (.bipush 8, 2) := by decide +kernel
theorem d_Mo_init_15 : decode b_Mo_init 15 = .ok (.newarray .int, 2) := by decide +kernel
theorem d_Mo_init_17 : decode b_Mo_init 17 = .ok (.putfield 13, 3) := by decide +kernel
theorem d_Mo_init_20 : decode b_Mo_init 20 = .ok (.aload_n 0, 1) := by decide +kernel
theorem d_Mo_init_21 : decode b_Mo_init 21 = .ok (.bipush 24, 2) := by decide +kernel
theorem d_Mo_init_23 : decode b_Mo_init 23 = .ok (.newarray .int, 2) := by decide +kernel
theorem d_Mo_init_25 : decode b_Mo_init 25 = .ok (.putfield 16, 3) := by decide +kernel
theorem d_Mo_init_28 : decode b_Mo_init 28 = .ok (.aload_n 0, 1) := by decide +kernel
theorem d_Mo_init_29 : decode b_Mo_init 29 = .ok (.bipush 24, 2) := by decide +kernel
theorem d_Mo_init_31 : decode b_Mo_init 31 = .ok (.newarray .int, 2) := by decide +kernel
theorem d_Mo_init_33 : decode b_Mo_init 33 = .ok (.putfield 19, 3) := by decide +kernel
theorem d_Mo_init_36 : decode b_Mo_init 36 = .ok (.aload_n 0, 1) := by decide +kernel
theorem d_Mo_init_37 : decode b_Mo_init 37 = .ok (.bipush 24, 2) := by decide +kernel
theorem d_Mo_init_39 : decode b_Mo_init 39 = .ok (.newarray .int, 2) := by decide +kernel
theorem d_Mo_init_41 : decode b_Mo_init 41 = .ok (.putfield 22, 3) := by decide +kernel
theorem d_Mo_init_44 : decode b_Mo_init 44 = .ok (.aload_n 0, 1) := by decide +kernel
theorem d_Mo_init_45 : decode b_Mo_init 45 = .ok (.bipush 24, 2) := by decide +kernel
theorem d_Mo_init_47 : decode b_Mo_init 47 = .ok (.newarray .int, 2) := by decide +kernel
theorem d_Mo_init_49 : decode b_Mo_init 49 = .ok (.putfield 25, 3) := by decide +kernel
theorem d_Mo_init_52 : decode b_Mo_init 52 = .ok (.aload_n 0, 1) := by decide +kernel
theorem d_Mo_init_53 : decode b_Mo_init 53 = .ok (.bipush 24, 2) := by decide +kernel
theorem d_Mo_init_55 : decode b_Mo_init 55 = .ok (.newarray .int, 2) := by decide +kernel
theorem d_Mo_init_57 : decode b_Mo_init 57 = .ok (.putfield 28, 3) := by decide +kernel
theorem d_Mo_init_60 : decode b_Mo_init 60 = .ok (.aload_n 0, 1) := by decide +kernel
theorem d_Mo_init_61 : decode b_Mo_init 61 = .ok (.bipush 24, 2) := by decide +kernel
theorem d_Mo_init_63 : decode b_Mo_init 63 = .ok (.newarray .int, 2) := by decide +kernel
theorem d_Mo_init_65 : decode b_Mo_init 65 = .ok (.putfield 31, 3) := by decide +kernel
theorem d_Mo_init_68 : decode b_Mo_init 68 = .ok (.aload_n 0, 1) := by decide +kernel
theorem d_Mo_init_69 : decode b_Mo_init 69 = .ok (.bipush 24, 2) := by decide +kernel
theorem d_Mo_init_71 : decode b_Mo_init 71 = .ok (.newarray .int, 2) := by decide +kernel
theorem d_Mo_init_73 : decode b_Mo_init 73 = .ok (.putfield 34, 3) := by decide +kernel
theorem d_Mo_init_76 : decode b_Mo_init 76 = .ok (.aload_n 0, 1) := by decide +kernel
theorem d_Mo_init_77 : decode b_Mo_init 77 = .ok (.bipush 24, 2) := by decide +kernel
theorem d_Mo_init_79 : decode b_Mo_init 79 = .ok (.newarray .boolean, 2) := by decide +kernel
theorem d_Mo_init_81 : decode b_Mo_init 81 = .ok (.putfield 37, 3) := by decide +kernel
theorem d_Mo_init_84 : decode b_Mo_init 84 = .ok (.aload_n 0, 1) := by decide +kernel
theorem d_Mo_init_85 : decode b_Mo_init 85 = .ok (.bipush 24, 2) := by decide +kernel
theorem d_Mo_init_87 : decode b_Mo_init 87 = .ok (.newarray .boolean, 2) := by decide +kernel
theorem d_Mo_init_89 : decode b_Mo_init 89 = .ok (.putfield 41, 3) := by decide +kernel
theorem d_Mo_init_92 : decode b_Mo_init 92 = .ok (.aload_n 0, 1) := by decide +kernel
theorem d_Mo_init_93 : decode b_Mo_init 93 = .ok (.bipush 8, 2) := by decide +kernel
theorem d_Mo_init_95 : decode b_Mo_init 95 = .ok (.newarray .boolean, 2) := by decide +kernel
theorem d_Mo_init_97 : decode b_Mo_init 97 = .ok (.putfield 44, 3) := by decide +kernel
theorem d_Mo_init_100 : decode b_Mo_init 100 = .ok (.aload_n 0, 1) := by decide +kernel
theorem d_Mo_init_101 : decode b_Mo_init 101 = .ok (.bipush 120, 2) := by decide +kernel
theorem d_Mo_init_103 : decode b_Mo_init 103 = .ok (.newarray .int, 2) := by decide +kernel
theorem d_Mo_init_105 : decode b_Mo_init 105 = .ok (.putfield 47, 3) := by decide +kernel
theorem d_Mo_init_108 : decode b_Mo_init 108 = .ok (.aload_n 0, 1) := by decide +kernel
theorem d_Mo_init_109 : decode b_Mo_init 109 = .ok (.bipush 120, 2) := by decide +kernel
theorem d_Mo_init_111 : decode b_Mo_init 111 = .ok (.newarray .int, 2) := by decide +kernel
theorem d_Mo_init_113 : decode b_Mo_init 113 = .ok (.putfield 50, 3) := by decide +kernel
theorem d_Mo_init_116 : decode b_Mo_init 116 = .ok (.aload_n 0, 1) := by decide +kernel
theorem d_Mo_init_117 : decode b_Mo_init 117 = .ok (.bipush 120, 2) := by decide +kernel
theorem d_Mo_init_119 : decode b_Mo_init 119 = .ok (.newarray .int, 2) := by decide +kernel
theorem d_Mo_init_121 : decode b_Mo_init 121 = .ok (.putfield 53, 3) := by decide +kernel
theorem d_Mo_init_124 : decode b_Mo_init 124 = .ok (.aload_n 0, 1) := by decide +kernel
theorem d_Mo_init_125 : decode b_Mo_init 125 = .ok (.bipush 120, 2) := by decide +kernel
theorem d_Mo_init_127 : decode b_Mo_init 127 = .ok (.newarray .int, 2) := by decide +kernel
theorem d_Mo_init_129 : decode b_Mo_init 129 = .ok (.putfield 56, 3) := by decide +kernel
theorem d_Mo_init_132 : decode b_Mo_init 132 = .ok (.aload_n 0, 1) := by decide +kernel
theorem d_Mo_init_133 : decode b_Mo_init 133 = .ok (.sipush 144, 3) := by decide +kernel
theorem d_Mo_init_136 : decode b_Mo_init 136 = .ok (.newarray .int, 2) := by decide +kernel
theorem d_Mo_init_138 : decode b_Mo_init 138 = .ok (.putfield 59, 3) := by decide +kernel
theorem d_Mo_init_141 : decode b_Mo_init 141 = .ok (.aload_n 0, 1) := by decide +kernel
theorem d_Mo_init_142 : decode b_Mo_init 142 = .ok (.sipush 144, 3) := by decide +kernel
theorem d_Mo_init_145 : decode b_Mo_init 145 = .ok (.newarray .int, 2) := by decide +kernel
theorem d_Mo_init_147 : decode b_Mo_init 147 = .ok (.putfield 62, 3) := by decide +kernel
theorem d_Mo_init_150 : decode b_Mo_init 150 = .ok (.aload_n 0, 1) := by decide +kernel
theorem d_Mo_init_151 : decode b_Mo_init 151 = .ok (.sipush 144, 3) := by decide +kernel
theorem d_Mo_init_154 : decode b_Mo_init 154 = .ok (.newarray .int, 2) := by decide +kernel
theorem d_Mo_init_156 : decode b_Mo_init 156 = .ok (.putfield 65, 3) := by decide +kernel
theorem d_Mo_init_159 : decode b_Mo_init 159 = .ok (.aload_n 0, 1) := by decide +kernel
theorem d_Mo_init_160 : decode b_Mo_init 160 = .ok (.sipush 144, 3) := by decide +kernel
theorem d_Mo_init_163 : decode b_Mo_init 163 = .ok (.newarray .int, 2) := by decide +kernel
theorem d_Mo_init_165 : decode b_Mo_init 165 = .ok (.putfield 68, 3) := by decide +kernel
theorem d_Mo_init_168 : decode b_Mo_init 168 = .ok (.aload_n 0, 1) := by decide +kernel
theorem d_Mo_init_169 : decode b_Mo_init 169 = .ok (.sipush 144, 3) := by decide +kernel
theorem d_Mo_init_172 : decode b_Mo_init 172 = .ok (.newarray .int, 2) := by decide +kernel
theorem d_Mo_init_174 : decode b_Mo_init 174 = .ok (.putfield 71, 3) := by decide +kernel
theorem d_Mo_init_177 : decode b_Mo_init 177 = .ok (.aload_n 0, 1) := by decide +kernel
theorem d_Mo_init_178 : decode b_Mo_init 178 = .ok (.bipush 120, 2) := by decide +kernel
theorem d_Mo_init_180 : decode b_Mo_init 180 = .ok (.newarray .int, 2) := by decide +kernel
theorem d_Mo_init_182 : decode b_Mo_init 182 = .ok (.putfield 74, 3) := by decide +kernel
theorem d_Mo_init_185 : decode b_Mo_init 185 = .ok (.aload_n 0, 1) := by decide +kernel
theorem d_Mo_init_186 : decode b_Mo_init 186 = .ok (.bipush 24, 2) := by decide +kernel
theorem d_Mo_init_188 : decode b_Mo_init 188 = .ok (.newarray .int, 2) := by decide +kernel
theorem d_Mo_init_190 : decode b_Mo_init 190 = .ok (.putfield 77, 3) := by decide +kernel
theorem d_Mo_init_193 : decode b_Mo_init 193 = .ok (.aload_n 0, 1) := by decide +kernel
theorem d_Mo_init_194 : decode b_Mo_init 194 = .ok (.bipush 8, 2) := by decide +kernel
theorem d_Mo_init_196 : decode b_Mo_init 196 = .ok (.newarray .int, 2) := by decide +kernel
theorem d_Mo_init_198 : decode b_Mo_init 198 = .ok (.putfield 80, 3) := by decide +kernel
theorem d_Mo_init_201 : decode b_Mo_init 201 = .ok (.aload_n 0, 1) := by decide +kernel
theorem d_Mo_init_202 : decode b_Mo_init 202 = .ok (.bipush 17, 2) := by decide +kernel
theorem d_Mo_init_204 : decode b_Mo_init 204 = .ok (.newarray .int, 2) := by decide +kernel
theorem d_Mo_init_206 : decode b_Mo_init 206 = .ok (.putfield 83, 3) := by decide +kernel
theorem d_Mo_init_209 : decode b_Mo_init 209 = .ok (.aload_n 0, 1) := by decide +kernel
theorem d_Mo_init_210 : decode b_Mo_init 210 = .ok (.bipush 17, 2) := by decide +kernel
theorem d_Mo_init_212 : decode b_Mo_init 212 = .ok (.newarray .int, 2) := by decide +kernel
theorem d_Mo_init_214 : decode b_Mo_init 214 = .ok (.putfield 86, 3) := by decide +kernel
theorem d_Mo_init_217 : decode b_Mo_init 217 = .ok (.aload_n 0, 1) := by decide +kernel
theorem d_Mo_init_218 : decode b_Mo_init 218 = .ok (.bipush 17, 2) := by decide +kernel
theorem d_Mo_init_220 : decode b_Mo_init 220 = .ok (.newarray .int, 2) := by decide +kernel
theorem d_Mo_init_222 : decode b_Mo_init 222 = .ok (.putfield 89, 3) := by decide +kernel
theorem d_Mo_init_225 : decode b_Mo_init 225 = .ok (.return_, 1) := by decide +kernel
theorem d_Mo_thrown_0 : decode b_Mo_thrown 0 = .ok (.aload_n 0, 1) := by decide +kernel
theorem d_Mo_thrown_1 : decode b_Mo_thrown 1 = .ok (.getfield 92, 3) := by decide +kernel
theorem d_Mo_thrown_4 : decode b_Mo_thrown 4 = .ok (.ireturn, 1) := by decide +kernel
theorem d_Mo_add_0 : decode b_Mo_add 0 = .ok (.aload_n 0, 1) := by decide +kernel
theorem d_Mo_add_1 : decode b_Mo_add 1 = .ok (.iload_n 1, 1) := by decide +kernel
theorem d_Mo_add_2 : decode b_Mo_add 2 = .ok (.iconst (-1), 1) := by decide +kernel
theorem d_Mo_add_3 : decode b_Mo_add 3 = .ok (.if_icmp .eq 11, 3) := by decide +kernel
theorem d_Mo_add_6 : decode b_Mo_add 6 = .ok (.aload_n 0, 1) := by decide +kernel
theorem d_Mo_add_7 : decode b_Mo_add 7 = .ok (.iload_n 1, 1) := by decide +kernel
theorem d_Mo_add_8 : decode b_Mo_add 8 = .ok (.invokevirtual 106, 3) := by decide +kernel
theorem d_Mo_add_11 : decode b_Mo_add 11 = .ok (.ifCond .eq 7, 3) := by decide +kernel
theorem d_Mo_add_14 : decode b_Mo_add 14 = .ok (.iconst 1, 1) := by decide +kernel
theorem d_Mo_add_15 : decode b_Mo_add 15 = .ok (.goto 4, 3) := by decide +kernel
theorem d_Mo_add_18 : decode b_Mo_add 18 = .ok (.iconst 0, 1) := by decide +kernel
theorem d_Mo_add_19 : decode b_Mo_add 19 = .ok (.invokevirtual 110, 3) := by decide +kernel
theorem d_Mo_add_22 : decode b_Mo_add 22 = .ok (.ifCond .eq 5, 3) := by decide +kernel
theorem d_Mo_add_25 : decode b_Mo_add 25 = .ok (.iconst 0, 1) := by decide +kernel
theorem d_Mo_add_26 : decode b_Mo_add 26 = .ok (.ireturn, 1) := by decide +kernel
theorem d_Mo_add_27 : decode b_Mo_add 27 = .ok (.aload_n 0, 1) := by decide +kernel
theorem d_Mo_add_28 : decode b_Mo_add 28 = .ok (.getfield 96, 3) := by decide +kernel
theorem d_Mo_add_31 : decode b_Mo_add 31 = .ok (.bipush 8, 2) := by decide +kernel
theorem d_Mo_add_33 : decode b_Mo_add 33 = .ok (.if_icmp .ne 9, 3) := by decide +kernel
theorem d_Mo_add_36 : decode b_Mo_add 36 = .ok (.aload_n 0, 1) := by decide +kernel
theorem d_Mo_add_37 : decode b_Mo_add 37 = .ok (.iconst 2, 1) := by decide +kernel
theorem d_Mo_add_38 : decode b_Mo_add 38 = .ok (.invokevirtual 114, 3) := by decide +kernel
theorem d_Mo_add_41 : decode b_Mo_add 41 = .ok (.ireturn, 1) := by decide +kernel
theorem d_Mo_add_42 : decode b_Mo_add 42 = .ok (.aload_n 0, 1) := by decide +kernel
theorem d_Mo_add_43 : decode b_Mo_add 43 = .ok (.getfield 7, 3) := by decide +kernel
theorem d_Mo_add_46 : decode b_Mo_add 46 = .ok (.aload_n 0, 1) := by decide +kernel
theorem d_Mo_add_47 : decode b_Mo_add 47 = .ok (.getfield 96, 3) := by decide +kernel
theorem d_Mo_add_50 : decode b_Mo_add 50 = .ok (.iload_n 1, 1) := by decide +kernel
theorem d_Mo_add_51 : decode b_Mo_add 51 = .ok (.iastore, 1) := by decide +kernel
theorem d_Mo_add_52 : decode b_Mo_add 52 = .ok (.aload_n 0, 1) := by decide +kernel
theorem d_Mo_add_53 : decode b_Mo_add 53 = .ok (.getfield 13, 3) := by decide +kernel
theorem d_Mo_add_56 : decode b_Mo_add 56 = .ok (.aload_n 0, 1) := by decide +kernel
theorem d_Mo_add_57 : decode b_Mo_add 57 = .ok (.getfield 96, 3) := by decide +kernel
theorem d_Mo_add_60 : decode b_Mo_add 60 = .ok (.aload_n 0, 1) := by decide +kernel
theorem d_Mo_add_61 : decode b_Mo_add 61 = .ok (.getfield 96, 3) := by decide +kernel
theorem d_Mo_add_64 : decode b_Mo_add 64 = .ok (.iastore, 1) := by decide +kernel
theorem d_Mo_add_65 : decode b_Mo_add 65 = .ok (.aload_n 0, 1) := by decide +kernel
theorem d_Mo_add_66 : decode b_Mo_add 66 = .ok (.dup, 1) := by decide +kernel
theorem d_Mo_add_67 : decode b_Mo_add 67 = .ok (.getfield 96, 3) := by decide +kernel
theorem d_Mo_add_70 : decode b_Mo_add 70 = .ok (.iconst 1, 1) := by decide +kernel
theorem d_Mo_add_71 : decode b_Mo_add 71 = .ok (.iadd, 1) := by decide +kernel
theorem d_Mo_add_72 : decode b_Mo_add 72 = .ok (.putfield 96, 3) := by decide +kernel
theorem d_Mo_add_75 : decode b_Mo_add 75 = .ok (.aload_n 0, 1) := by decide +kernel
theorem d_Mo_add_76 : decode b_Mo_add 76 = .ok (.getfield 96, 3) := by decide +kernel
theorem d_Mo_add_79 : decode b_Mo_add 79 = .ok (.iconst 1, 1) := by decide +kernel
theorem d_Mo_add_80 : decode b_Mo_add 80 = .ok (.isub, 1) := by decide +kernel
theorem d_Mo_add_81 : decode b_Mo_add 81 = .ok (.ireturn, 1) := by decide +kernel
theorem d_Mo_isClass_0 : decode b_Mo_isClass 0 = .ok (.iload_n 1, 1) := by decide +kernel
theorem d_Mo_isClass_1 : decode b_Mo_isClass 1 = .ok (.iconst 0, 1) := by decide +kernel
theorem d_Mo_isClass_2 : decode b_Mo_isClass 2 = .ok (.aload_n 0, 1) := by decide +kernel
theorem d_Mo_isClass_3 : decode b_Mo_isClass 3 = .ok (.getfield 96, 3) := by decide +kernel
theorem d_Mo_isClass_6 : decode b_Mo_isClass 6 = .ok (.iconst 1, 1) := by decide +kernel
theorem d_Mo_isClass_7 : decode b_Mo_isClass 7 = .ok (.isub, 1) := by decide +kernel
theorem d_Mo_isClass_8 : decode b_Mo_isClass 8 = .ok (.invokestatic 99, 3) := by decide +kernel
theorem d_Mo_isClass_11 : decode b_Mo_isClass 11 = .ok (.ireturn, 1) := by decide +kernel
theorem d_Mo_in_0 : decode b_Mo_in 0 = .ok (.iload_n 0, 1) := by decide +kernel
theorem d_Mo_in_1 : decode b_Mo_in 1 = .ok (.iload_n 1, 1) := by decide +kernel
theorem d_Mo_in_2 : decode b_Mo_in 2 = .ok (.if_icmp .lt 12, 3) := by decide +kernel
theorem d_Mo_in_5 : decode b_Mo_in 5 = .ok (.iload_n 0, 1) := by decide +kernel
theorem d_Mo_in_6 : decode b_Mo_in 6 = .ok (.iload_n 2, 1) := by decide +kernel
theorem d_Mo_in_7 : decode b_Mo_in 7 = .ok (.if_icmp .gt 7, 3) := by decide +kernel
theorem d_Mo_in_10 : decode b_Mo_in 10 = .ok (.iconst 1, 1) := by decide +kernel
theorem d_Mo_in_11 : decode b_Mo_in 11 = .ok (.goto 4, 3) := by decide +kernel
theorem d_Mo_in_14 : decode b_Mo_in 14 = .ok (.iconst 0, 1) := by decide +kernel
theorem d_Mo_in_15 : decode b_Mo_in 15 = .ok (.ireturn, 1) := by decide +kernel
theorem d_Mo_bad_0 : decode b_Mo_bad 0 = .ok (.aload_n 0, 1) := by decide +kernel
theorem d_Mo_bad_1 : decode b_Mo_bad 1 = .ok (.iload_n 1, 1) := by decide +kernel
theorem d_Mo_bad_2 : decode b_Mo_bad 2 = .ok (.ifCond .eq 7, 3) := by decide +kernel
theorem d_Mo_bad_5 : decode b_Mo_bad 5 = .ok (.iconst 0, 1) := by decide +kernel
theorem d_Mo_bad_6 : decode b_Mo_bad 6 = .ok (.goto 4, 3) := by decide +kernel
theorem d_Mo_bad_9 : decode b_Mo_bad 9 = .ok (.iconst 1, 1) := by decide +kernel
theorem d_Mo_bad_10 : decode b_Mo_bad 10 = .ok (.putfield 92, 3) := by decide +kernel
theorem d_Mo_bad_13 : decode b_Mo_bad 13 = .ok (.iload_n 1, 1) := by decide +kernel
theorem d_Mo_bad_14 : decode b_Mo_bad 14 = .ok (.ifCond .ne 7, 3) := by decide +kernel
theorem d_Mo_bad_17 : decode b_Mo_bad 17 = .ok (.iconst 1, 1) := by decide +kernel
theorem d_Mo_bad_18 : decode b_Mo_bad 18 = .ok (.goto 4, 3) := by decide +kernel
theorem d_Mo_bad_21 : decode b_Mo_bad 21 = .ok (.iconst 0, 1) := by decide +kernel
theorem d_Mo_bad_22 : decode b_Mo_bad 22 = .ok (.ireturn, 1) := by decide +kernel
theorem d_Mo_fail_0 : decode b_Mo_fail 0 = .ok (.aload_n 0, 1) := by decide +kernel
theorem d_Mo_fail_1 : decode b_Mo_fail 1 = .ok (.iload_n 1, 1) := by decide +kernel
theorem d_Mo_fail_2 : decode b_Mo_fail 2 = .ok (.putfield 92, 3) := by decide +kernel
theorem d_Mo_fail_5 : decode b_Mo_fail 5 = .ok (.iconst 0, 1) := by decide +kernel
theorem d_Mo_fail_6 : decode b_Mo_fail 6 = .ok (.ireturn, 1) := by decide +kernel
theorem d_Mo_method_0 : decode b_Mo_method 0 = .ok (.aload_n 0, 1) := by decide +kernel
theorem d_Mo_method_1 : decode b_Mo_method 1 = .ok (.aload_n 0, 1) := by decide +kernel
theorem d_Mo_method_2 : decode b_Mo_method 2 = .ok (.iload_n 1, 1) := by decide +kernel
theorem d_Mo_method_3 : decode b_Mo_method 3 = .ok (.invokevirtual 106, 3) := by decide +kernel
theorem d_Mo_method_6 : decode b_Mo_method 6 = .ok (.ifCond .eq 26, 3) := by decide +kernel
theorem d_Mo_method_9 : decode b_Mo_method 9 = .ok (.iload_n 2, 1) := by decide +kernel
theorem d_Mo_method_10 : decode b_Mo_method 10 = .ok (.iconst 0, 1) := by decide +kernel
theorem d_Mo_method_11 : decode b_Mo_method 11 = .ok (.bipush 25, 2) := by decide +kernel
theorem d_Mo_method_13 : decode b_Mo_method 13 = .ok (.invokestatic 99, 3) := by decide +kernel
theorem d_Mo_method_16 : decode b_Mo_method 16 = .ok (.ifCond .eq 16, 3) := by decide +kernel
theorem d_Mo_method_19 : decode b_Mo_method 19 = .ok (.iload_n 3, 1) := by decide +kernel
theorem d_Mo_method_20 : decode b_Mo_method 20 = .ok (.iconst 0, 1) := by decide +kernel
theorem d_Mo_method_21 : decode b_Mo_method 21 = .ok (.iconst 2, 1) := by decide +kernel
theorem d_Mo_method_22 : decode b_Mo_method 22 = .ok (.invokestatic 99, 3) := by decide +kernel
theorem d_Mo_method_25 : decode b_Mo_method 25 = .ok (.ifCond .eq 7, 3) := by decide +kernel
theorem d_Mo_method_28 : decode b_Mo_method 28 = .ok (.iconst 1, 1) := by decide +kernel
theorem d_Mo_method_29 : decode b_Mo_method 29 = .ok (.goto 4, 3) := by decide +kernel
theorem d_Mo_method_32 : decode b_Mo_method 32 = .ok (.iconst 0, 1) := by decide +kernel
theorem d_Mo_method_33 : decode b_Mo_method 33 = .ok (.invokevirtual 110, 3) := by decide +kernel
theorem d_Mo_method_36 : decode b_Mo_method 36 = .ok (.ifCond .eq 5, 3) := by decide +kernel
theorem d_Mo_method_39 : decode b_Mo_method 39 = .ok (.iconst 0, 1) := by decide +kernel
theorem d_Mo_method_40 : decode b_Mo_method 40 = .ok (.ireturn, 1) := by decide +kernel
theorem d_Mo_method_41 : decode b_Mo_method 41 = .ok (.aload_n 0, 1) := by decide +kernel
theorem d_Mo_method_42 : decode b_Mo_method 42 = .ok (.getfield 103, 3) := by decide +kernel
theorem d_Mo_method_45 : decode b_Mo_method 45 = .ok (.bipush 24, 2) := by decide +kernel
theorem d_Mo_method_47 : decode b_Mo_method 47 = .ok (.if_icmp .eq 13, 3) := by decide +kernel
theorem d_Mo_method_50 : decode b_Mo_method 50 = .ok (.aload_n 0, 1) := by decide +kernel
theorem d_Mo_method_51 : decode b_Mo_method 51 = .ok (.iload_n 1, 1) := by decide +kernel
theorem d_Mo_method_52 : decode b_Mo_method 52 = .ok (.iload_n 2, 1) := by decide +kernel
theorem d_Mo_method_53 : decode b_Mo_method 53 = .ok (.iload_n 3, 1) := by decide +kernel
theorem d_Mo_method_54 : decode b_Mo_method 54 = .ok (.invokevirtual 118, 3) := by decide +kernel
theorem d_Mo_method_57 : decode b_Mo_method 57 = .ok (.ifCond .lt 9, 3) := by decide +kernel
theorem d_Mo_method_60 : decode b_Mo_method 60 = .ok (.aload_n 0, 1) := by decide +kernel
theorem d_Mo_method_61 : decode b_Mo_method 61 = .ok (.iconst 2, 1) := by decide +kernel
theorem d_Mo_method_62 : decode b_Mo_method 62 = .ok (.invokevirtual 114, 3) := by decide +kernel
theorem d_Mo_method_65 : decode b_Mo_method 65 = .ok (.ireturn, 1) := by decide +kernel
theorem d_Mo_method_66 : decode b_Mo_method 66 = .ok (.aload_n 0, 1) := by decide +kernel
theorem d_Mo_method_67 : decode b_Mo_method 67 = .ok (.getfield 16, 3) := by decide +kernel
theorem d_Mo_method_70 : decode b_Mo_method 70 = .ok (.aload_n 0, 1) := by decide +kernel
theorem d_Mo_method_71 : decode b_Mo_method 71 = .ok (.getfield 103, 3) := by decide +kernel
theorem d_Mo_method_74 : decode b_Mo_method 74 = .ok (.iload_n 1, 1) := by decide +kernel
theorem d_Mo_method_75 : decode b_Mo_method 75 = .ok (.iastore, 1) := by decide +kernel
theorem d_Mo_method_76 : decode b_Mo_method 76 = .ok (.aload_n 0, 1) := by decide +kernel
theorem d_Mo_method_77 : decode b_Mo_method 77 = .ok (.getfield 19, 3) := by decide +kernel
theorem d_Mo_method_80 : decode b_Mo_method 80 = .ok (.aload_n 0, 1) := by decide +kernel
theorem d_Mo_method_81 : decode b_Mo_method 81 = .ok (.getfield 103, 3) := by decide +kernel
theorem d_Mo_method_84 : decode b_Mo_method 84 = .ok (.iload_n 2, 1) := by decide +kernel
theorem d_Mo_method_85 : decode b_Mo_method 85 = .ok (.iastore, 1) := by decide +kernel
theorem d_Mo_method_86 : decode b_Mo_method 86 = .ok (.aload_n 0, 1) := by decide +kernel
theorem d_Mo_method_87 : decode b_Mo_method 87 = .ok (.getfield 22, 3) := by decide +kernel
theorem d_Mo_method_90 : decode b_Mo_method 90 = .ok (.aload_n 0, 1) := by decide +kernel
theorem d_Mo_method_91 : decode b_Mo_method 91 = .ok (.getfield 103, 3) := by decide +kernel
theorem d_Mo_method_94 : decode b_Mo_method 94 = .ok (.iload_n 3, 1) := by decide +kernel
theorem d_Mo_method_95 : decode b_Mo_method 95 = .ok (.iastore, 1) := by decide +kernel
theorem d_Mo_method_96 : decode b_Mo_method 96 = .ok (.aload_n 0, 1) := by decide +kernel
theorem d_Mo_method_97 : decode b_Mo_method 97 = .ok (.getfield 25, 3) := by decide +kernel
theorem d_Mo_method_100 : decode b_Mo_method 100 = .ok (.aload_n 0, 1) := by decide +kernel
theorem d_Mo_method_101 : decode b_Mo_method 101 = .ok (.getfield 103, 3) := by decide +kernel
theorem d_Mo_method_104 : decode b_Mo_method 104 = .ok (.iconst 0, 1) := by decide +kernel
theorem d_Mo_method_105 : decode b_Mo_method 105 = .ok (.iastore, 1) := by decide +kernel
theorem d_Mo_method_106 : decode b_Mo_method 106 = .ok (.aload_n 0, 1) := by decide +kernel
theorem d_Mo_method_107 : decode b_Mo_method 107 = .ok (.getfield 37, 3) := by decide +kernel
theorem d_Mo_method_110 : decode b_Mo_method 110 = .ok (.aload_n 0, 1) := by decide +kernel
theorem d_Mo_method_111 : decode b_Mo_method 111 = .ok (.getfield 103, 3) := by decide +kernel
theorem d_Mo_method_114 : decode b_Mo_method 114 = .ok (.iconst 0, 1) := by decide +kernel
theorem d_Mo_method_115 : decode b_Mo_method 115 = .ok (.bastore, 1) := by decide +kernel
theorem d_Mo_method_116 : decode b_Mo_method 116 = .ok (.aload_n 0, 1) := by decide +kernel
theorem d_Mo_method_117 : decode b_Mo_method 117 = .ok (.getfield 28, 3) := by decide +kernel
theorem d_Mo_method_120 : decode b_Mo_method 120 = .ok (.aload_n 0, 1) := by decide +kernel
theorem d_Mo_method_121 : decode b_Mo_method 121 = .ok (.getfield 103, 3) := by decide +kernel
theorem d_Mo_method_124 : decode b_Mo_method 124 = .ok (.aload_n 0, 1) := by decide +kernel
theorem d_Mo_method_125 : decode b_Mo_method 125 = .ok (.getfield 103, 3) := by decide +kernel
theorem d_Mo_method_128 : decode b_Mo_method 128 = .ok (.iastore, 1) := by decide +kernel
theorem d_Mo_method_129 : decode b_Mo_method 129 = .ok (.aload_n 0, 1) := by decide +kernel
theorem d_Mo_method_130 : decode b_Mo_method 130 = .ok (.getfield 31, 3) := by decide +kernel
theorem d_Mo_method_133 : decode b_Mo_method 133 = .ok (.aload_n 0, 1) := by decide +kernel
theorem d_Mo_method_134 : decode b_Mo_method 134 = .ok (.getfield 103, 3) := by decide +kernel
theorem d_Mo_method_137 : decode b_Mo_method 137 = .ok (.iload_n 2, 1) := by decide +kernel
theorem d_Mo_method_138 : decode b_Mo_method 138 = .ok (.iastore, 1) := by decide +kernel
theorem d_Mo_method_139 : decode b_Mo_method 139 = .ok (.aload_n 0, 1) := by decide +kernel
theorem d_Mo_method_140 : decode b_Mo_method 140 = .ok (.getfield 34, 3) := by decide +kernel
theorem d_Mo_method_143 : decode b_Mo_method 143 = .ok (.aload_n 0, 1) := by decide +kernel
theorem d_Mo_method_144 : decode b_Mo_method 144 = .ok (.getfield 103, 3) := by decide +kernel
theorem d_Mo_method_147 : decode b_Mo_method 147 = .ok (.aload_n 0, 1) := by decide +kernel
theorem d_Mo_method_148 : decode b_Mo_method 148 = .ok (.getfield 13, 3) := by decide +kernel
theorem d_Mo_method_151 : decode b_Mo_method 151 = .ok (.iload_n 1, 1) := by decide +kernel
theorem d_Mo_method_152 : decode b_Mo_method 152 = .ok (.iaload, 1) := by decide +kernel
theorem d_Mo_method_153 : decode b_Mo_method 153 = .ok (.iastore, 1) := by decide +kernel
theorem d_Mo_method_154 : decode b_Mo_method 154 = .ok (.aload_n 0, 1) := by decide +kernel
theorem d_Mo_method_155 : decode b_Mo_method 155 = .ok (.dup, 1) := by decide +kernel
theorem d_Mo_method_156 : decode b_Mo_method 156 = .ok (.getfield 103, 3) := by decide +kernel
theorem d_Mo_method_159 : decode b_Mo_method 159 = .ok (.iconst 1, 1) := by decide +kernel
theorem d_Mo_method_160 : decode b_Mo_method 160 = .ok (.iadd, 1) := by decide +kernel
theorem d_Mo_method_161 : decode b_Mo_method 161 = .ok (.putfield 103, 3) := by decide +kernel
theorem d_Mo_method_164 : decode b_Mo_method 164 = .ok (.aload_n 0, 1) := by decide +kernel
theorem d_Mo_method_165 : decode b_Mo_method 165 = .ok (.getfield 103, 3) := by decide +kernel
theorem d_Mo_method_168 : decode b_Mo_method 168 = .ok (.iconst 1, 1) := by decide +kernel
theorem d_Mo_method_169 : decode b_Mo_method 169 = .ok (.isub, 1) := by decide +kernel
theorem d_Mo_method_170 : decode b_Mo_method 170 = .ok (.ireturn, 1) := by decide +kernel
theorem d_Mo_own_0 : decode b_Mo_own 0 = .ok (.iconst 0, 1) := by decide +kernel
theorem d_Mo_own_1 : decode b_Mo_own 1 = .ok (.istore 4, 2) := by decide +kernel
theorem d_Mo_own_3 : decode b_Mo_own 3 = .ok (.iload 4, 2) := by decide +kernel
theorem d_Mo_own_5 : decode b_Mo_own 5 = .ok (.aload_n 0, 1) := by decide +kernel
theorem d_Mo_own_6 : decode b_Mo_own 6 = .ok (.getfield 103, 3) := by decide +kernel
theorem d_Mo_own_9 : decode b_Mo_own 9 = .ok (.if_icmp .ge 45, 3) := by decide +kernel
theorem d_Mo_own_12 : decode b_Mo_own 12 = .ok (.aload_n 0, 1) := by decide +kernel
theorem d_Mo_own_13 : decode b_Mo_own 13 = .ok (.getfield 16, 3) := by decide +kernel
theorem d_Mo_own_16 : decode b_Mo_own 16 = .ok (.iload 4, 2) := by decide +kernel
theorem d_Mo_own_18 : decode b_Mo_own 18 = .ok (.iaload, 1) := by decide +kernel
theorem d_Mo_own_19 : decode b_Mo_own 19 = .ok (.iload_n 1, 1) := by decide +kernel
theorem d_Mo_own_20 : decode b_Mo_own 20 = .ok (.if_icmp .ne 28, 3) := by decide +kernel
theorem d_Mo_own_23 : decode b_Mo_own 23 = .ok (.aload_n 0, 1) := by decide +kernel
theorem d_Mo_own_24 : decode b_Mo_own 24 = .ok (.getfield 19, 3) := by decide +kernel
theorem d_Mo_own_27 : decode b_Mo_own 27 = .ok (.iload 4, 2) := by decide +kernel
theorem d_Mo_own_29 : decode b_Mo_own 29 = .ok (.iaload, 1) := by decide +kernel
theorem d_Mo_own_30 : decode b_Mo_own 30 = .ok (.iload_n 2, 1) := by decide +kernel
theorem d_Mo_own_31 : decode b_Mo_own 31 = .ok (.if_icmp .ne 17, 3) := by decide +kernel
theorem d_Mo_own_34 : decode b_Mo_own 34 = .ok (.aload_n 0, 1) := by decide +kernel
theorem d_Mo_own_35 : decode b_Mo_own 35 = .ok (.getfield 22, 3) := by decide +kernel
theorem d_Mo_own_38 : decode b_Mo_own 38 = .ok (.iload 4, 2) := by decide +kernel
theorem d_Mo_own_40 : decode b_Mo_own 40 = .ok (.iaload, 1) := by decide +kernel
theorem d_Mo_own_41 : decode b_Mo_own 41 = .ok (.iload_n 3, 1) := by decide +kernel
theorem d_Mo_own_42 : decode b_Mo_own 42 = .ok (.if_icmp .ne 6, 3) := by decide +kernel
theorem d_Mo_own_45 : decode b_Mo_own 45 = .ok (.iload 4, 2) := by decide +kernel
theorem d_Mo_own_47 : decode b_Mo_own 47 = .ok (.ireturn, 1) := by decide +kernel
theorem d_Mo_own_48 : decode b_Mo_own 48 = .ok (.iinc 4 1, 3) := by decide +kernel
theorem d_Mo_own_51 : decode b_Mo_own 51 = .ok (.goto (-48), 3) := by decide +kernel
theorem d_Mo_own_54 : decode b_Mo_own 54 = .ok (.iconst (-1), 1) := by decide +kernel
theorem d_Mo_own_55 : decode b_Mo_own 55 = .ok (.ireturn, 1) := by decide +kernel
theorem d_Mo_item_0 : decode b_Mo_item 0 = .ok (.aload_n 0, 1) := by decide +kernel
theorem d_Mo_item_1 : decode b_Mo_item 1 = .ok (.iload_n 1, 1) := by decide +kernel
theorem d_Mo_item_2 : decode b_Mo_item 2 = .ok (.invokevirtual 122, 3) := by decide +kernel
theorem d_Mo_item_5 : decode b_Mo_item 5 = .ok (.ifCond .eq 16, 3) := by decide +kernel
theorem d_Mo_item_8 : decode b_Mo_item 8 = .ok (.iload_n 2, 1) := by decide +kernel
theorem d_Mo_item_9 : decode b_Mo_item 9 = .ok (.iconst 0, 1) := by decide +kernel
theorem d_Mo_item_10 : decode b_Mo_item 10 = .ok (.iconst 2, 1) := by decide +kernel
theorem d_Mo_item_11 : decode b_Mo_item 11 = .ok (.invokestatic 99, 3) := by decide +kernel
theorem d_Mo_item_14 : decode b_Mo_item 14 = .ok (.ifCond .eq 7, 3) := by decide +kernel
theorem d_Mo_item_17 : decode b_Mo_item 17 = .ok (.iconst 1, 1) := by decide +kernel
theorem d_Mo_item_18 : decode b_Mo_item 18 = .ok (.goto 4, 3) := by decide +kernel
theorem d_Mo_item_21 : decode b_Mo_item 21 = .ok (.iconst 0, 1) := by decide +kernel
theorem d_Mo_item_22 : decode b_Mo_item 22 = .ok (.istore 6, 2) := by decide +kernel
theorem d_Mo_item_24 : decode b_Mo_item 24 = .ok (.iload_n 2, 1) := by decide +kernel
theorem d_Mo_item_25 : decode b_Mo_item 25 = .ok (.iconst 1, 1) := by decide +kernel
theorem d_Mo_item_26 : decode b_Mo_item 26 = .ok (.if_icmp .ne 11, 3) := by decide +kernel
theorem d_Mo_item_29 : decode b_Mo_item 29 = .ok (.aload_n 0, 1) := by decide +kernel
theorem d_Mo_item_30 : decode b_Mo_item 30 = .ok (.iload_n 3, 1) := by decide +kernel
theorem d_Mo_item_31 : decode b_Mo_item 31 = .ok (.invokevirtual 106, 3) := by decide +kernel
theorem d_Mo_item_34 : decode b_Mo_item 34 = .ok (.ifCond .eq 28, 3) := by decide +kernel
theorem d_Mo_item_37 : decode b_Mo_item 37 = .ok (.iload_n 2, 1) := by decide +kernel
theorem d_Mo_item_38 : decode b_Mo_item 38 = .ok (.ifCond .le 27, 3) := by decide +kernel
theorem d_Mo_item_41 : decode b_Mo_item 41 = .ok (.iload 4, 2) := by decide +kernel
theorem d_Mo_item_43 : decode b_Mo_item 43 = .ok (.iconst 0, 1) := by decide +kernel
theorem d_Mo_item_44 : decode b_Mo_item 44 = .ok (.bipush 25, 2) := by decide +kernel
theorem d_Mo_item_46 : decode b_Mo_item 46 = .ok (.invokestatic 99, 3) := by decide +kernel
theorem d_Mo_item_49 : decode b_Mo_item 49 = .ok (.ifCond .eq 13, 3) := by decide +kernel
theorem d_Mo_item_52 : decode b_Mo_item 52 = .ok (.iload 5, 2) := by decide +kernel
theorem d_Mo_item_54 : decode b_Mo_item 54 = .ok (.iconst 0, 1) := by decide +kernel
theorem d_Mo_item_55 : decode b_Mo_item 55 = .ok (.iconst 2, 1) := by decide +kernel
theorem d_Mo_item_56 : decode b_Mo_item 56 = .ok (.invokestatic 99, 3) := by decide +kernel
theorem d_Mo_item_59 : decode b_Mo_item 59 = .ok (.ifCond .ne 6, 3) := by decide +kernel
theorem d_Mo_item_62 : decode b_Mo_item 62 = .ok (.iconst 0, 1) := by decide +kernel
theorem d_Mo_item_63 : decode b_Mo_item 63 = .ok (.istore 6, 2) := by decide +kernel
theorem d_Mo_item_65 : decode b_Mo_item 65 = .ok (.aload_n 0, 1) := by decide +kernel
theorem d_Mo_item_66 : decode b_Mo_item 66 = .ok (.iload 6, 2) := by decide +kernel
theorem d_Mo_item_68 : decode b_Mo_item 68 = .ok (.invokevirtual 110, 3) := by decide +kernel
theorem d_Mo_item_71 : decode b_Mo_item 71 = .ok (.ifCond .eq 5, 3) := by decide +kernel
theorem d_Mo_item_74 : decode b_Mo_item 74 = .ok (.iconst 0, 1) := by decide +kernel
theorem d_Mo_item_75 : decode b_Mo_item 75 = .ok (.ireturn, 1) := by decide +kernel
theorem d_Mo_item_76 : decode b_Mo_item 76 = .ok (.aload_n 0, 1) := by decide +kernel
theorem d_Mo_item_77 : decode b_Mo_item 77 = .ok (.getfield 25, 3) := by decide +kernel
theorem d_Mo_item_80 : decode b_Mo_item 80 = .ok (.iload_n 1, 1) := by decide +kernel
theorem d_Mo_item_81 : decode b_Mo_item 81 = .ok (.iaload, 1) := by decide +kernel
theorem d_Mo_item_82 : decode b_Mo_item 82 = .ok (.iconst 5, 1) := by decide +kernel
theorem d_Mo_item_83 : decode b_Mo_item 83 = .ok (.if_icmp .ne 9, 3) := by decide +kernel
theorem d_Mo_item_86 : decode b_Mo_item 86 = .ok (.aload_n 0, 1) := by decide +kernel
theorem d_Mo_item_87 : decode b_Mo_item 87 = .ok (.iconst 2, 1) := by decide +kernel
theorem d_Mo_item_88 : decode b_Mo_item 88 = .ok (.invokevirtual 114, 3) := by decide +kernel
theorem d_Mo_item_91 : decode b_Mo_item 91 = .ok (.ireturn, 1) := by decide +kernel
theorem d_Mo_item_92 : decode b_Mo_item 92 = .ok (.iload_n 1, 1) := by decide +kernel
theorem d_Mo_item_93 : decode b_Mo_item 93 = .ok (.iconst 5, 1) := by decide +kernel
theorem d_Mo_item_94 : decode b_Mo_item 94 = .ok (.imul, 1) := by decide +kernel
theorem d_Mo_item_95 : decode b_Mo_item 95 = .ok (.aload_n 0, 1) := by decide +kernel
theorem d_Mo_item_96 : decode b_Mo_item 96 = .ok (.getfield 25, 3) := by decide +kernel
theorem d_Mo_item_99 : decode b_Mo_item 99 = .ok (.iload_n 1, 1) := by decide +kernel
theorem d_Mo_item_100 : decode b_Mo_item 100 = .ok (.iaload, 1) := by decide +kernel
theorem d_Mo_item_101 : decode b_Mo_item 101 = .ok (.iadd, 1) := by decide +kernel
theorem d_Mo_item_102 : decode b_Mo_item 102 = .ok (.istore 7, 2) := by decide +kernel
theorem d_Mo_item_104 : decode b_Mo_item 104 = .ok (.aload_n 0, 1) := by decide +kernel
theorem d_Mo_item_105 : decode b_Mo_item 105 = .ok (.getfield 47, 3) := by decide +kernel
theorem d_Mo_item_108 : decode b_Mo_item 108 = .ok (.iload 7, 2) := by decide +kernel
theorem d_Mo_item_110 : decode b_Mo_item 110 = .ok (.iload_n 2, 1) := by decide +kernel
theorem d_Mo_item_111 : decode b_Mo_item 111 = .ok (.iastore, 1) := by decide +kernel
theorem d_Mo_item_112 : decode b_Mo_item 112 = .ok (.aload_n 0, 1) := by decide +kernel
theorem d_Mo_item_113 : decode b_Mo_item 113 = .ok (.getfield 50, 3) := by decide +kernel
theorem d_Mo_item_116 : decode b_Mo_item 116 = .ok (.iload 7, 2) := by decide +kernel
theorem d_Mo_item_118 : decode b_Mo_item 118 = .ok (.iload_n 2, 1) := by decide +kernel
theorem d_Mo_item_119 : decode b_Mo_item 119 = .ok (.iconst 2, 1) := by decide +kernel
theorem d_Mo_item_120 : decode b_Mo_item 120 = .ok (.if_icmp .ne 7, 3) := by decide +kernel
theorem d_Mo_item_123 : decode b_Mo_item 123 = .ok (.iconst (-1), 1) := by decide +kernel
theorem d_Mo_item_124 : decode b_Mo_item 124 = .ok (.goto 4, 3) := by decide +kernel
theorem d_Mo_item_127 : decode b_Mo_item 127 = .ok (.iload_n 3, 1) := by decide +kernel
theorem d_Mo_item_128 : decode b_Mo_item 128 = .ok (.iastore, 1) := by decide +kernel
theorem d_Mo_item_129 : decode b_Mo_item 129 = .ok (.aload_n 0, 1) := by decide +kernel
theorem d_Mo_item_130 : decode b_Mo_item 130 = .ok (.getfield 53, 3) := by decide +kernel
theorem d_Mo_item_133 : decode b_Mo_item 133 = .ok (.iload 7, 2) := by decide +kernel
theorem d_Mo_item_135 : decode b_Mo_item 135 = .ok (.iload_n 2, 1) := by decide +kernel
theorem d_Mo_item_136 : decode b_Mo_item 136 = .ok (.ifCond .ne 7, 3) := by decide +kernel
theorem d_Mo_item_139 : decode b_Mo_item 139 = .ok (.iconst (-1), 1) := by decide +kernel
theorem d_Mo_item_140 : decode b_Mo_item 140 = .ok (.goto 5, 3) := by decide +kernel
theorem d_Mo_item_143 : decode b_Mo_item 143 = .ok (.iload 4, 2) := by decide +kernel
theorem d_Mo_item_145 : decode b_Mo_item 145 = .ok (.iastore, 1) := by decide +kernel
theorem d_Mo_item_146 : decode b_Mo_item 146 = .ok (.aload_n 0, 1) := by decide +kernel
theorem d_Mo_item_147 : decode b_Mo_item 147 = .ok (.getfield 56, 3) := by decide +kernel
theorem d_Mo_item_150 : decode b_Mo_item 150 = .ok (.iload 7, 2) := by decide +kernel
theorem d_Mo_item_152 : decode b_Mo_item 152 = .ok (.iload_n 2, 1) := by decide +kernel
theorem d_Mo_item_153 : decode b_Mo_item 153 = .ok (.ifCond .ne 7, 3) := by decide +kernel
theorem d_Mo_item_156 : decode b_Mo_item 156 = .ok (.iconst (-1), 1) := by decide +kernel
theorem d_Mo_item_157 : decode b_Mo_item 157 = .ok (.goto 5, 3) := by decide +kernel
theorem d_Mo_item_160 : decode b_Mo_item 160 = .ok (.iload 5, 2) := by decide +kernel
theorem d_Mo_item_162 : decode b_Mo_item 162 = .ok (.iastore, 1) := by decide +kernel
theorem d_Mo_item_163 : decode b_Mo_item 163 = .ok (.aload_n 0, 1) := by decide +kernel
theorem d_Mo_item_164 : decode b_Mo_item 164 = .ok (.getfield 25, 3) := by decide +kernel
theorem d_Mo_item_167 : decode b_Mo_item 167 = .ok (.iload_n 1, 1) := by decide +kernel
theorem d_Mo_item_168 : decode b_Mo_item 168 = .ok (.dup2, 1) := by decide +kernel
theorem d_Mo_item_169 : decode b_Mo_item 169 = .ok (.iaload, 1) := by decide +kernel
theorem d_Mo_item_170 : decode b_Mo_item 170 = .ok (.iconst 1, 1) := by decide +kernel
theorem d_Mo_item_171 : decode b_Mo_item 171 = .ok (.iadd, 1) := by decide +kernel
theorem d_Mo_item_172 : decode b_Mo_item 172 = .ok (.iastore, 1) := by decide +kernel
theorem d_Mo_item_173 : decode b_Mo_item 173 = .ok (.aload_n 0, 1) := by decide +kernel
theorem d_Mo_item_174 : decode b_Mo_item 174 = .ok (.getfield 25, 3) := by decide +kernel
theorem d_Mo_item_177 : decode b_Mo_item 177 = .ok (.iload_n 1, 1) := by decide +kernel
theorem d_Mo_item_178 : decode b_Mo_item 178 = .ok (.iaload, 1) := by decide +kernel
theorem d_Mo_item_179 : decode b_Mo_item 179 = .ok (.ireturn, 1) := by decide +kernel
theorem d_Mo_isMethod_0 : decode b_Mo_isMethod 0 = .ok (.iload_n 1, 1) := by decide +kernel
theorem d_Mo_isMethod_1 : decode b_Mo_isMethod 1 = .ok (.iconst 0, 1) := by decide +kernel
theorem d_Mo_isMethod_2 : decode b_Mo_isMethod 2 = .ok (.aload_n 0, 1) := by decide +kernel
theorem d_Mo_isMethod_3 : decode b_Mo_isMethod 3 = .ok (.getfield 103, 3) := by decide +kernel
theorem d_Mo_isMethod_6 : decode b_Mo_isMethod 6 = .ok (.iconst 1, 1) := by decide +kernel
theorem d_Mo_isMethod_7 : decode b_Mo_isMethod 7 = .ok (.isub, 1) := by decide +kernel
theorem d_Mo_isMethod_8 : decode b_Mo_isMethod 8 = .ok (.invokestatic 99, 3) := by decide +kernel
theorem d_Mo_isMethod_11 : decode b_Mo_isMethod 11 = .ok (.ireturn, 1) := by decide +kernel
theorem d_Mo_keep_0 : decode b_Mo_keep 0 = .ok (.aload_n 0, 1) := by decide +kernel
theorem d_Mo_keep_1 : decode b_Mo_keep 1 = .ok (.aload_n 0, 1) := by decide +kernel
theorem d_Mo_keep_2 : decode b_Mo_keep 2 = .ok (.iload_n 1, 1) := by decide +kernel
theorem d_Mo_keep_3 : decode b_Mo_keep 3 = .ok (.invokevirtual 122, 3) := by decide +kernel
theorem d_Mo_keep_6 : decode b_Mo_keep 6 = .ok (.invokevirtual 110, 3) := by decide +kernel
theorem d_Mo_keep_9 : decode b_Mo_keep 9 = .ok (.ifCond .eq 4, 3) := by decide +kernel
theorem d_Mo_keep_12 : decode b_Mo_keep 12 = .ok (.return_, 1) := by decide +kernel
theorem d_Mo_keep_13 : decode b_Mo_keep 13 = .ok (.aload_n 0, 1) := by decide +kernel
theorem d_Mo_keep_14 : decode b_Mo_keep 14 = .ok (.getfield 37, 3) := by decide +kernel
theorem d_Mo_keep_17 : decode b_Mo_keep 17 = .ok (.iload_n 1, 1) := by decide +kernel
theorem d_Mo_keep_18 : decode b_Mo_keep 18 = .ok (.iload_n 2, 1) := by decide +kernel
theorem d_Mo_keep_19 : decode b_Mo_keep 19 = .ok (.bastore, 1) := by decide +kernel
theorem d_Mo_keep_20 : decode b_Mo_keep 20 = .ok (.return_, 1) := by decide +kernel
theorem d_Mo_run_0 : decode b_Mo_run 0 = .ok (.aload_n 0, 1) := by decide +kernel
theorem d_Mo_run_1 : decode b_Mo_run 1 = .ok (.aload_n 0, 1) := by decide +kernel
theorem d_Mo_run_2 : decode b_Mo_run 2 = .ok (.iload_n 1, 1) := by decide +kernel
theorem d_Mo_run_3 : decode b_Mo_run 3 = .ok (.invokevirtual 106, 3) := by decide +kernel
theorem d_Mo_run_6 : decode b_Mo_run 6 = .ok (.ifCond .eq 26, 3) := by decide +kernel
theorem d_Mo_run_9 : decode b_Mo_run 9 = .ok (.iload_n 2, 1) := by decide +kernel
theorem d_Mo_run_10 : decode b_Mo_run 10 = .ok (.iconst 0, 1) := by decide +kernel
theorem d_Mo_run_11 : decode b_Mo_run 11 = .ok (.bipush 25, 2) := by decide +kernel
theorem d_Mo_run_13 : decode b_Mo_run 13 = .ok (.invokestatic 99, 3) := by decide +kernel
theorem d_Mo_run_16 : decode b_Mo_run 16 = .ok (.ifCond .eq 16, 3) := by decide +kernel
theorem d_Mo_run_19 : decode b_Mo_run 19 = .ok (.iload_n 3, 1) := by decide +kernel
theorem d_Mo_run_20 : decode b_Mo_run 20 = .ok (.iconst 0, 1) := by decide +kernel
theorem d_Mo_run_21 : decode b_Mo_run 21 = .ok (.iconst 2, 1) := by decide +kernel
theorem d_Mo_run_22 : decode b_Mo_run 22 = .ok (.invokestatic 99, 3) := by decide +kernel
theorem d_Mo_run_25 : decode b_Mo_run 25 = .ok (.ifCond .eq 7, 3) := by decide +kernel
theorem d_Mo_run_28 : decode b_Mo_run 28 = .ok (.iconst 1, 1) := by decide +kernel
theorem d_Mo_run_29 : decode b_Mo_run 29 = .ok (.goto 4, 3) := by decide +kernel
theorem d_Mo_run_32 : decode b_Mo_run 32 = .ok (.iconst 0, 1) := by decide +kernel
theorem d_Mo_run_33 : decode b_Mo_run 33 = .ok (.invokevirtual 110, 3) := by decide +kernel
theorem d_Mo_run_36 : decode b_Mo_run 36 = .ok (.ifCond .eq 5, 3) := by decide +kernel
theorem d_Mo_run_39 : decode b_Mo_run 39 = .ok (.iconst 0, 1) := by decide +kernel
theorem d_Mo_run_40 : decode b_Mo_run 40 = .ok (.ireturn, 1) := by decide +kernel
theorem d_Mo_run_41 : decode b_Mo_run 41 = .ok (.iconst 0, 1) := by decide +kernel
theorem d_Mo_run_42 : decode b_Mo_run 42 = .ok (.istore 4, 2) := by decide +kernel
theorem d_Mo_run_44 : decode b_Mo_run 44 = .ok (.iconst 0, 1) := by decide +kernel
theorem d_Mo_run_45 : decode b_Mo_run 45 = .ok (.istore 5, 2) := by decide +kernel
theorem d_Mo_run_47 : decode b_Mo_run 47 = .ok (.iconst 0, 1) := by decide +kernel
theorem d_Mo_run_48 : decode b_Mo_run 48 = .ok (.istore 6, 2) := by decide +kernel
theorem d_Mo_run_50 : decode b_Mo_run 50 = .ok (.iload_n 1, 1) := by decide +kernel
theorem d_Mo_run_51 : decode b_Mo_run 51 = .ok (.istore 7, 2) := by decide +kernel
theorem d_Mo_run_53 : decode b_Mo_run 53 = .ok (.iload_n 2, 1) := by decide +kernel
theorem d_Mo_run_54 : decode b_Mo_run 54 = .ok (.istore 8, 2) := by decide +kernel
theorem d_Mo_run_56 : decode b_Mo_run 56 = .ok (.iload_n 3, 1) := by decide +kernel
theorem d_Mo_run_57 : decode b_Mo_run 57 = .ok (.istore 9, 2) := by decide +kernel
theorem d_Mo_run_59 : decode b_Mo_run 59 = .ok (.iconst 1, 1) := by decide +kernel
theorem d_Mo_run_60 : decode b_Mo_run 60 = .ok (.istore 10, 2) := by decide +kernel
theorem d_Mo_run_62 : decode b_Mo_run 62 = .ok (.iload 10, 2) := by decide +kernel
theorem d_Mo_run_64 : decode b_Mo_run 64 = .ok (.ifCond .ne 8, 3) := by decide +kernel
theorem d_Mo_run_67 : decode b_Mo_run 67 = .ok (.iload 4, 2) := by decide +kernel
theorem d_Mo_run_69 : decode b_Mo_run 69 = .ok (.ifCond .le 232, 3) := by decide +kernel
theorem d_Mo_run_72 : decode b_Mo_run 72 = .ok (.iload 10, 2) := by decide +kernel
theorem d_Mo_run_74 : decode b_Mo_run 74 = .ok (.ifCond .eq 71, 3) := by decide +kernel
theorem d_Mo_run_77 : decode b_Mo_run 77 = .ok (.iload 4, 2) := by decide +kernel
theorem d_Mo_run_79 : decode b_Mo_run 79 = .ok (.bipush 16, 2) := by decide +kernel
theorem d_Mo_run_81 : decode b_Mo_run 81 = .ok (.if_icmp .ne 9, 3) := by decide +kernel
theorem d_Mo_run_84 : decode b_Mo_run 84 = .ok (.aload_n 0, 1) := by decide +kernel
theorem d_Mo_run_85 : decode b_Mo_run 85 = .ok (.iconst 3, 1) := by decide +kernel
theorem d_Mo_run_86 : decode b_Mo_run 86 = .ok (.invokevirtual 114, 3) := by decide +kernel
theorem d_Mo_run_89 : decode b_Mo_run 89 = .ok (.ireturn, 1) := by decide +kernel
theorem d_Mo_run_90 : decode b_Mo_run 90 = .ok (.aload_n 0, 1) := by decide +kernel
theorem d_Mo_run_91 : decode b_Mo_run 91 = .ok (.iload 7, 2) := by decide +kernel
theorem d_Mo_run_93 : decode b_Mo_run 93 = .ok (.iload 8, 2) := by decide +kernel
theorem d_Mo_run_95 : decode b_Mo_run 95 = .ok (.iload 9, 2) := by decide +kernel
theorem d_Mo_run_97 : decode b_Mo_run 97 = .ok (.invokevirtual 125, 3) := by decide +kernel
theorem d_Mo_run_100 : decode b_Mo_run 100 = .ok (.istore 11, 2) := by decide +kernel
theorem d_Mo_run_102 : decode b_Mo_run 102 = .ok (.iload 11, 2) := by decide +kernel
theorem d_Mo_run_104 : decode b_Mo_run 104 = .ok (.ifCond .ge 9, 3) := by decide +kernel
theorem d_Mo_run_107 : decode b_Mo_run 107 = .ok (.aload_n 0, 1) := by decide +kernel
theorem d_Mo_run_108 : decode b_Mo_run 108 = .ok (.iconst 2, 1) := by decide +kernel
theorem d_Mo_run_109 : decode b_Mo_run 109 = .ok (.invokevirtual 114, 3) := by decide +kernel
theorem d_Mo_run_112 : decode b_Mo_run 112 = .ok (.ireturn, 1) := by decide +kernel
theorem d_Mo_run_113 : decode b_Mo_run 113 = .ok (.iinc 4 1, 3) := by decide +kernel
theorem d_Mo_run_116 : decode b_Mo_run 116 = .ok (.aload_n 0, 1) := by decide +kernel
theorem d_Mo_run_117 : decode b_Mo_run 117 = .ok (.getfield 83, 3) := by decide +kernel
theorem d_Mo_run_120 : decode b_Mo_run 120 = .ok (.iload 4, 2) := by decide +kernel
theorem d_Mo_run_122 : decode b_Mo_run 122 = .ok (.iload 11, 2) := by decide +kernel
theorem d_Mo_run_124 : decode b_Mo_run 124 = .ok (.iastore, 1) := by decide +kernel
theorem d_Mo_run_125 : decode b_Mo_run 125 = .ok (.aload_n 0, 1) := by decide +kernel
theorem d_Mo_run_126 : decode b_Mo_run 126 = .ok (.getfield 86, 3) := by decide +kernel
theorem d_Mo_run_129 : decode b_Mo_run 129 = .ok (.iload 4, 2) := by decide +kernel
theorem d_Mo_run_131 : decode b_Mo_run 131 = .ok (.iconst 0, 1) := by decide +kernel
theorem d_Mo_run_132 : decode b_Mo_run 132 = .ok (.iastore, 1) := by decide +kernel
theorem d_Mo_run_133 : decode b_Mo_run 133 = .ok (.aload_n 0, 1) := by decide +kernel
theorem d_Mo_run_134 : decode b_Mo_run 134 = .ok (.getfield 89, 3) := by decide +kernel
theorem d_Mo_run_137 : decode b_Mo_run 137 = .ok (.iload 4, 2) := by decide +kernel
theorem d_Mo_run_139 : decode b_Mo_run 139 = .ok (.iload 7, 2) := by decide +kernel
theorem d_Mo_run_141 : decode b_Mo_run 141 = .ok (.iastore, 1) := by decide +kernel
theorem d_Mo_run_142 : decode b_Mo_run 142 = .ok (.iconst 0, 1) := by decide +kernel
theorem d_Mo_run_143 : decode b_Mo_run 143 = .ok (.istore 10, 2) := by decide +kernel
theorem d_Mo_run_145 : decode b_Mo_run 145 = .ok (.aload_n 0, 1) := by decide +kernel
theorem d_Mo_run_146 : decode b_Mo_run 146 = .ok (.getfield 83, 3) := by decide +kernel
theorem d_Mo_run_149 : decode b_Mo_run 149 = .ok (.iload 4, 2) := by decide +kernel
theorem d_Mo_run_151 : decode b_Mo_run 151 = .ok (.iaload, 1) := by decide +kernel
theorem d_Mo_run_152 : decode b_Mo_run 152 = .ok (.istore 11, 2) := by decide +kernel
theorem d_Mo_run_154 : decode b_Mo_run 154 = .ok (.iload 11, 2) := by decide +kernel
theorem d_Mo_run_156 : decode b_Mo_run 156 = .ok (.iconst 5, 1) := by decide +kernel
theorem d_Mo_run_157 : decode b_Mo_run 157 = .ok (.imul, 1) := by decide +kernel
theorem d_Mo_run_158 : decode b_Mo_run 158 = .ok (.aload_n 0, 1) := by decide +kernel
theorem d_Mo_run_159 : decode b_Mo_run 159 = .ok (.getfield 86, 3) := by decide +kernel
theorem d_Mo_run_162 : decode b_Mo_run 162 = .ok (.iload 4, 2) := by decide +kernel
theorem d_Mo_run_164 : decode b_Mo_run 164 = .ok (.iaload, 1) := by decide +kernel
theorem d_Mo_run_165 : decode b_Mo_run 165 = .ok (.iadd, 1) := by decide +kernel
theorem d_Mo_run_166 : decode b_Mo_run 166 = .ok (.istore 12, 2) := by decide +kernel
theorem d_Mo_run_168 : decode b_Mo_run 168 = .ok (.aload_n 0, 1) := by decide +kernel
theorem d_Mo_run_169 : decode b_Mo_run 169 = .ok (.getfield 86, 3) := by decide +kernel
theorem d_Mo_run_172 : decode b_Mo_run 172 = .ok (.iload 4, 2) := by decide +kernel
theorem d_Mo_run_174 : decode b_Mo_run 174 = .ok (.iaload, 1) := by decide +kernel
theorem d_Mo_run_175 : decode b_Mo_run 175 = .ok (.aload_n 0, 1) := by decide +kernel
theorem d_Mo_run_176 : decode b_Mo_run 176 = .ok (.getfield 25, 3) := by decide +kernel
theorem d_Mo_run_179 : decode b_Mo_run 179 = .ok (.iload 11, 2) := by decide +kernel
theorem d_Mo_run_181 : decode b_Mo_run 181 = .ok (.iaload, 1) := by decide +kernel
theorem d_Mo_run_182 : decode b_Mo_run 182 = .ok (.if_icmp .ne 9, 3) := by decide +kernel
theorem d_Mo_run_185 : decode b_Mo_run 185 = .ok (.iinc 4 (-1), 3) := by decide +kernel
theorem d_Mo_run_188 : decode b_Mo_run 188 = .ok (.goto (-126), 3) := by decide +kernel
theorem d_Mo_run_191 : decode b_Mo_run 191 = .ok (.iload 5, 2) := by decide +kernel
theorem d_Mo_run_193 : decode b_Mo_run 193 = .ok (.sipush 300, 3) := by decide +kernel
theorem d_Mo_run_196 : decode b_Mo_run 196 = .ok (.if_icmp .ne 9, 3) := by decide +kernel
theorem d_Mo_run_199 : decode b_Mo_run 199 = .ok (.aload_n 0, 1) := by decide +kernel
theorem d_Mo_run_200 : decode b_Mo_run 200 = .ok (.iconst 3, 1) := by decide +kernel
theorem d_Mo_run_201 : decode b_Mo_run 201 = .ok (.invokevirtual 114, 3) := by decide +kernel
theorem d_Mo_run_204 : decode b_Mo_run 204 = .ok (.ireturn, 1) := by decide +kernel
theorem d_Mo_run_205 : decode b_Mo_run 205 = .ok (.iinc 5 1, 3) := by decide +kernel
theorem d_Mo_run_208 : decode b_Mo_run 208 = .ok (.aload_n 0, 1) := by decide +kernel
theorem d_Mo_run_209 : decode b_Mo_run 209 = .ok (.getfield 86, 3) := by decide +kernel
theorem d_Mo_run_212 : decode b_Mo_run 212 = .ok (.iload 4, 2) := by decide +kernel
theorem d_Mo_run_214 : decode b_Mo_run 214 = .ok (.dup2, 1) := by decide +kernel
theorem d_Mo_run_215 : decode b_Mo_run 215 = .ok (.iaload, 1) := by decide +kernel
theorem d_Mo_run_216 : decode b_Mo_run 216 = .ok (.iconst 1, 1) := by decide +kernel
theorem d_Mo_run_217 : decode b_Mo_run 217 = .ok (.iadd, 1) := by decide +kernel
theorem d_Mo_run_218 : decode b_Mo_run 218 = .ok (.iastore, 1) := by decide +kernel
theorem d_Mo_run_219 : decode b_Mo_run 219 = .ok (.aload_n 0, 1) := by decide +kernel
theorem d_Mo_run_220 : decode b_Mo_run 220 = .ok (.getfield 47, 3) := by decide +kernel
theorem d_Mo_run_223 : decode b_Mo_run 223 = .ok (.iload 12, 2) := by decide +kernel
theorem d_Mo_run_225 : decode b_Mo_run 225 = .ok (.iaload, 1) := by decide +kernel
theorem d_Mo_run_226 : decode b_Mo_run 226 = .ok (.ifCond .ne 21, 3) := by decide +kernel
theorem d_Mo_run_229 : decode b_Mo_run 229 = .ok (.iload 6, 2) := by decide +kernel
theorem d_Mo_run_231 : decode b_Mo_run 231 = .ok (.bipush 31, 2) := by decide +kernel
theorem d_Mo_run_233 : decode b_Mo_run 233 = .ok (.imul, 1) := by decide +kernel
theorem d_Mo_run_234 : decode b_Mo_run 234 = .ok (.aload_n 0, 1) := by decide +kernel
theorem d_Mo_run_235 : decode b_Mo_run 235 = .ok (.getfield 50, 3) := by decide +kernel
theorem d_Mo_run_238 : decode b_Mo_run 238 = .ok (.iload 12, 2) := by decide +kernel
theorem d_Mo_run_240 : decode b_Mo_run 240 = .ok (.iaload, 1) := by decide +kernel
theorem d_Mo_run_241 : decode b_Mo_run 241 = .ok (.iadd, 1) := by decide +kernel
theorem d_Mo_run_242 : decode b_Mo_run 242 = .ok (.istore 6, 2) := by decide +kernel
theorem d_Mo_run_244 : decode b_Mo_run 244 = .ok (.goto 54, 3) := by decide +kernel
theorem d_Mo_run_247 : decode b_Mo_run 247 = .ok (.aload_n 0, 1) := by decide +kernel
theorem d_Mo_run_248 : decode b_Mo_run 248 = .ok (.getfield 47, 3) := by decide +kernel
theorem d_Mo_run_251 : decode b_Mo_run 251 = .ok (.iload 12, 2) := by decide +kernel
theorem d_Mo_run_253 : decode b_Mo_run 253 = .ok (.iaload, 1) := by decide +kernel
theorem d_Mo_run_254 : decode b_Mo_run 254 = .ok (.iconst 1, 1) := by decide +kernel
theorem d_Mo_run_255 : decode b_Mo_run 255 = .ok (.if_icmp .ne 13, 3) := by decide +kernel
theorem d_Mo_run_258 : decode b_Mo_run 258 = .ok (.aload_n 0, 1) := by decide +kernel
theorem d_Mo_run_259 : decode b_Mo_run 259 = .ok (.getfield 50, 3) := by decide +kernel
theorem d_Mo_run_262 : decode b_Mo_run 262 = .ok (.iload 12, 2) := by decide +kernel
theorem d_Mo_run_264 : decode b_Mo_run 264 = .ok (.iaload, 1) := by decide +kernel
theorem d_Mo_run_265 : decode b_Mo_run 265 = .ok (.goto 10, 3) := by decide +kernel
theorem d_Mo_run_268 : decode b_Mo_run 268 = .ok (.aload_n 0, 1) := by decide +kernel
theorem d_Mo_run_269 : decode b_Mo_run 269 = .ok (.getfield 89, 3) := by decide +kernel
theorem d_Mo_run_272 : decode b_Mo_run 272 = .ok (.iload 4, 2) := by decide +kernel
theorem d_Mo_run_274 : decode b_Mo_run 274 = .ok (.iaload, 1) := by decide +kernel
theorem d_Mo_run_275 : decode b_Mo_run 275 = .ok (.istore 7, 2) := by decide +kernel
theorem d_Mo_run_277 : decode b_Mo_run 277 = .ok (.aload_n 0, 1) := by decide +kernel
theorem d_Mo_run_278 : decode b_Mo_run 278 = .ok (.getfield 53, 3) := by decide +kernel
theorem d_Mo_run_281 : decode b_Mo_run 281 = .ok (.iload 12, 2) := by decide +kernel
theorem d_Mo_run_283 : decode b_Mo_run 283 = .ok (.iaload, 1) := by decide +kernel
theorem d_Mo_run_284 : decode b_Mo_run 284 = .ok (.istore 8, 2) := by decide +kernel
theorem d_Mo_run_286 : decode b_Mo_run 286 = .ok (.aload_n 0, 1) := by decide +kernel
theorem d_Mo_run_287 : decode b_Mo_run 287 = .ok (.getfield 56, 3) := by decide +kernel
theorem d_Mo_run_290 : decode b_Mo_run 290 = .ok (.iload 12, 2) := by decide +kernel
theorem d_Mo_run_292 : decode b_Mo_run 292 = .ok (.iaload, 1) := by decide +kernel
theorem d_Mo_run_293 : decode b_Mo_run 293 = .ok (.istore 9, 2) := by decide +kernel
theorem d_Mo_run_295 : decode b_Mo_run 295 = .ok (.iconst 1, 1) := by decide +kernel
theorem d_Mo_run_296 : decode b_Mo_run 296 = .ok (.istore 10, 2) := by decide +kernel
theorem d_Mo_run_298 : decode b_Mo_run 298 = .ok (.goto (-236), 3) := by decide +kernel
theorem d_Mo_run_301 : decode b_Mo_run 301 = .ok (.iload 6, 2) := by decide +kernel
theorem d_Mo_run_303 : decode b_Mo_run 303 = .ok (.ireturn, 1) := by decide +kernel
theorem d_Mo_find_0 : decode b_Mo_find 0 = .ok (.iload_n 1, 1) := by decide +kernel
theorem d_Mo_find_1 : decode b_Mo_find 1 = .ok (.istore 4, 2) := by decide +kernel
theorem d_Mo_find_3 : decode b_Mo_find 3 = .ok (.iload 4, 2) := by decide +kernel
theorem d_Mo_find_5 : decode b_Mo_find 5 = .ok (.ifCond .lt 33, 3) := by decide +kernel
theorem d_Mo_find_8 : decode b_Mo_find 8 = .ok (.aload_n 0, 1) := by decide +kernel
theorem d_Mo_find_9 : decode b_Mo_find 9 = .ok (.iload 4, 2) := by decide +kernel
theorem d_Mo_find_11 : decode b_Mo_find 11 = .ok (.iload_n 2, 1) := by decide +kernel
theorem d_Mo_find_12 : decode b_Mo_find 12 = .ok (.iload_n 3, 1) := by decide +kernel
theorem d_Mo_find_13 : decode b_Mo_find 13 = .ok (.invokevirtual 118, 3) := by decide +kernel
theorem d_Mo_find_16 : decode b_Mo_find 16 = .ok (.istore 5, 2) := by decide +kernel
theorem d_Mo_find_18 : decode b_Mo_find 18 = .ok (.iload 5, 2) := by decide +kernel
theorem d_Mo_find_20 : decode b_Mo_find 20 = .ok (.ifCond .lt 6, 3) := by decide +kernel
theorem d_Mo_find_23 : decode b_Mo_find 23 = .ok (.iload 5, 2) := by decide +kernel
theorem d_Mo_find_25 : decode b_Mo_find 25 = .ok (.ireturn, 1) := by decide +kernel
theorem d_Mo_find_26 : decode b_Mo_find 26 = .ok (.aload_n 0, 1) := by decide +kernel
theorem d_Mo_find_27 : decode b_Mo_find 27 = .ok (.getfield 7, 3) := by decide +kernel
theorem d_Mo_find_30 : decode b_Mo_find 30 = .ok (.iload 4, 2) := by decide +kernel
theorem d_Mo_find_32 : decode b_Mo_find 32 = .ok (.iaload, 1) := by decide +kernel
theorem d_Mo_find_33 : decode b_Mo_find 33 = .ok (.istore 4, 2) := by decide +kernel
theorem d_Mo_find_35 : decode b_Mo_find 35 = .ok (.goto (-32), 3) := by decide +kernel
theorem d_Mo_find_38 : decode b_Mo_find 38 = .ok (.iconst (-1), 1) := by decide +kernel
theorem d_Mo_find_39 : decode b_Mo_find 39 = .ok (.ireturn, 1) := by decide +kernel
theorem d_Mo_shrink_0 : decode b_Mo_shrink 0 = .ok (.aload_n 0, 1) := by decide +kernel
theorem d_Mo_shrink_1 : decode b_Mo_shrink 1 = .ok (.iconst 0, 1) := by decide +kernel
theorem d_Mo_shrink_2 : decode b_Mo_shrink 2 = .ok (.putfield 92, 3) := by decide +kernel
theorem d_Mo_shrink_5 : decode b_Mo_shrink 5 = .ok (.aload_n 0, 1) := by decide +kernel
theorem d_Mo_shrink_6 : decode b_Mo_shrink 6 = .ok (.invokevirtual 138, 3) := by decide +kernel
theorem d_Mo_shrink_9 : decode b_Mo_shrink 9 = .ok (.iconst 0, 1) := by decide +kernel
theorem d_Mo_shrink_10 : decode b_Mo_shrink 10 = .ok (.istore_n 1, 1) := by decide +kernel
theorem d_Mo_shrink_11 : decode b_Mo_shrink 11 = .ok (.iconst 0, 1) := by decide +kernel
theorem d_Mo_shrink_12 : decode b_Mo_shrink 12 = .ok (.istore_n 2, 1) := by decide +kernel
theorem d_Mo_shrink_13 : decode b_Mo_shrink 13 = .ok (.iconst 0, 1) := by decide +kernel
theorem d_Mo_shrink_14 : decode b_Mo_shrink 14 = .ok (.istore_n 3, 1) := by decide +kernel
theorem d_Mo_shrink_15 : decode b_Mo_shrink 15 = .ok (.iload_n 3, 1) := by decide +kernel
theorem d_Mo_shrink_16 : decode b_Mo_shrink 16 = .ok (.aload_n 0, 1) := by decide +kernel
theorem d_Mo_shrink_17 : decode b_Mo_shrink 17 = .ok (.getfield 96, 3) := by decide +kernel
theorem d_Mo_shrink_20 : decode b_Mo_shrink 20 = .ok (.if_icmp .ge 77, 3) := by decide +kernel
theorem d_Mo_shrink_23 : decode b_Mo_shrink 23 = .ok (.iconst 0, 1) := by decide +kernel
theorem d_Mo_shrink_24 : decode b_Mo_shrink 24 = .ok (.istore 4, 2) := by decide +kernel
theorem d_Mo_shrink_26 : decode b_Mo_shrink 26 = .ok (.iconst 0, 1) := by decide +kernel
theorem d_Mo_shrink_27 : decode b_Mo_shrink 27 = .ok (.istore 5, 2) := by decide +kernel
theorem d_Mo_shrink_29 : decode b_Mo_shrink 29 = .ok (.iload 5, 2) := by decide +kernel
theorem d_Mo_shrink_31 : decode b_Mo_shrink 31 = .ok (.aload_n 0, 1) := by decide +kernel
theorem d_Mo_shrink_32 : decode b_Mo_shrink 32 = .ok (.getfield 96, 3) := by decide +kernel
theorem d_Mo_shrink_35 : decode b_Mo_shrink 35 = .ok (.if_icmp .ge 32, 3) := by decide +kernel
theorem d_Mo_shrink_38 : decode b_Mo_shrink 38 = .ok (.aload_n 0, 1) := by decide +kernel
theorem d_Mo_shrink_39 : decode b_Mo_shrink 39 = .ok (.getfield 44, 3) := by decide +kernel
theorem d_Mo_shrink_42 : decode b_Mo_shrink 42 = .ok (.iload 5, 2) := by decide +kernel
theorem d_Mo_shrink_44 : decode b_Mo_shrink 44 = .ok (.baload, 1) := by decide +kernel
theorem d_Mo_shrink_45 : decode b_Mo_shrink 45 = .ok (.ifCond .eq 16, 3) := by decide +kernel
theorem d_Mo_shrink_48 : decode b_Mo_shrink 48 = .ok (.aload_n 0, 1) := by decide +kernel
theorem d_Mo_shrink_49 : decode b_Mo_shrink 49 = .ok (.iload_n 3, 1) := by decide +kernel
theorem d_Mo_shrink_50 : decode b_Mo_shrink 50 = .ok (.iload 5, 2) := by decide +kernel
theorem d_Mo_shrink_52 : decode b_Mo_shrink 52 = .ok (.invokevirtual 128, 3) := by decide +kernel
theorem d_Mo_shrink_55 : decode b_Mo_shrink 55 = .ok (.ifCond .eq 6, 3) := by decide +kernel
theorem d_Mo_shrink_58 : decode b_Mo_shrink 58 = .ok (.iconst 1, 1) := by decide +kernel
theorem d_Mo_shrink_59 : decode b_Mo_shrink 59 = .ok (.istore 4, 2) := by decide +kernel
theorem d_Mo_shrink_61 : decode b_Mo_shrink 61 = .ok (.iinc 5 1, 3) := by decide +kernel
theorem d_Mo_shrink_64 : decode b_Mo_shrink 64 = .ok (.goto (-35), 3) := by decide +kernel
theorem d_Mo_shrink_67 : decode b_Mo_shrink 67 = .ok (.aload_n 0, 1) := by decide +kernel
theorem d_Mo_shrink_68 : decode b_Mo_shrink 68 = .ok (.getfield 80, 3) := by decide +kernel
theorem d_Mo_shrink_71 : decode b_Mo_shrink 71 = .ok (.iload_n 3, 1) := by decide +kernel
theorem d_Mo_shrink_72 : decode b_Mo_shrink 72 = .ok (.iload 4, 2) := by decide +kernel
theorem d_Mo_shrink_74 : decode b_Mo_shrink 74 = .ok (.ifCond .eq 7, 3) := by decide +kernel
theorem d_Mo_shrink_77 : decode b_Mo_shrink 77 = .ok (.iload_n 1, 1) := by decide +kernel
theorem d_Mo_shrink_78 : decode b_Mo_shrink 78 = .ok (.goto 4, 3) := by decide +kernel
theorem d_Mo_shrink_81 : decode b_Mo_shrink 81 = .ok (.iconst (-1), 1) := by decide +kernel
theorem d_Mo_shrink_82 : decode b_Mo_shrink 82 = .ok (.iastore, 1) := by decide +kernel
theorem d_Mo_shrink_83 : decode b_Mo_shrink 83 = .ok (.iload 4, 2) := by decide +kernel
theorem d_Mo_shrink_85 : decode b_Mo_shrink 85 = .ok (.ifCond .eq 6, 3) := by decide +kernel
theorem d_Mo_shrink_88 : decode b_Mo_shrink 88 = .ok (.iinc 1 1, 3) := by decide +kernel
theorem d_Mo_shrink_91 : decode b_Mo_shrink 91 = .ok (.iinc 3 1, 3) := by decide +kernel
theorem d_Mo_shrink_94 : decode b_Mo_shrink 94 = .ok (.goto (-79), 3) := by decide +kernel
theorem d_Mo_shrink_97 : decode b_Mo_shrink 97 = .ok (.iconst 0, 1) := by decide +kernel
theorem d_Mo_shrink_98 : decode b_Mo_shrink 98 = .ok (.istore_n 3, 1) := by decide +kernel
theorem d_Mo_shrink_99 : decode b_Mo_shrink 99 = .ok (.iload_n 3, 1) := by decide +kernel
theorem d_Mo_shrink_100 : decode b_Mo_shrink 100 = .ok (.aload_n 0, 1) := by decide +kernel
theorem d_Mo_shrink_101 : decode b_Mo_shrink 101 = .ok (.getfield 103, 3) := by decide +kernel
theorem d_Mo_shrink_104 : decode b_Mo_shrink 104 = .ok (.if_icmp .ge 44, 3) := by decide +kernel
theorem d_Mo_shrink_107 : decode b_Mo_shrink 107 = .ok (.aload_n 0, 1) := by decide +kernel
theorem d_Mo_shrink_108 : decode b_Mo_shrink 108 = .ok (.getfield 41, 3) := by decide +kernel
theorem d_Mo_shrink_111 : decode b_Mo_shrink 111 = .ok (.iload_n 3, 1) := by decide +kernel
theorem d_Mo_shrink_112 : decode b_Mo_shrink 112 = .ok (.baload, 1) := by decide +kernel
theorem d_Mo_shrink_113 : decode b_Mo_shrink 113 = .ok (.ifCond .eq 29, 3) := by decide +kernel
theorem d_Mo_shrink_116 : decode b_Mo_shrink 116 = .ok (.aload_n 0, 1) := by decide +kernel
theorem d_Mo_shrink_117 : decode b_Mo_shrink 117 = .ok (.getfield 80, 3) := by decide +kernel
theorem d_Mo_shrink_120 : decode b_Mo_shrink 120 = .ok (.aload_n 0, 1) := by decide +kernel
theorem d_Mo_shrink_121 : decode b_Mo_shrink 121 = .ok (.getfield 16, 3) := by decide +kernel
theorem d_Mo_shrink_124 : decode b_Mo_shrink 124 = .ok (.iload_n 3, 1) := by decide +kernel
theorem d_Mo_shrink_125 : decode b_Mo_shrink 125 = .ok (.iaload, 1) := by decide +kernel
theorem d_Mo_shrink_126 : decode b_Mo_shrink 126 = .ok (.iaload, 1) := by decide +kernel
theorem d_Mo_shrink_127 : decode b_Mo_shrink 127 = .ok (.ifCond .ge 6, 3) := by decide +kernel
theorem d_Mo_shrink_130 : decode b_Mo_shrink 130 = .ok (.goto 12, 3) := by decide +kernel
theorem d_Mo_shrink_133 : decode b_Mo_shrink 133 = .ok (.aload_n 0, 1) := by decide +kernel
theorem d_Mo_shrink_134 : decode b_Mo_shrink 134 = .ok (.iload_n 3, 1) := by decide +kernel
theorem d_Mo_shrink_135 : decode b_Mo_shrink 135 = .ok (.iload_n 2, 1) := by decide +kernel
theorem d_Mo_shrink_136 : decode b_Mo_shrink 136 = .ok (.invokevirtual 141, 3) := by decide +kernel
theorem d_Mo_shrink_139 : decode b_Mo_shrink 139 = .ok (.iinc 2 1, 3) := by decide +kernel
theorem d_Mo_shrink_142 : decode b_Mo_shrink 142 = .ok (.iinc 3 1, 3) := by decide +kernel
theorem d_Mo_shrink_145 : decode b_Mo_shrink 145 = .ok (.goto (-46), 3) := by decide +kernel
theorem d_Mo_shrink_148 : decode b_Mo_shrink 148 = .ok (.iconst 0, 1) := by decide +kernel
theorem d_Mo_shrink_149 : decode b_Mo_shrink 149 = .ok (.istore_n 3, 1) := by decide +kernel
theorem d_Mo_shrink_150 : decode b_Mo_shrink 150 = .ok (.iload_n 3, 1) := by decide +kernel
theorem d_Mo_shrink_151 : decode b_Mo_shrink 151 = .ok (.aload_n 0, 1) := by decide +kernel
theorem d_Mo_shrink_152 : decode b_Mo_shrink 152 = .ok (.getfield 96, 3) := by decide +kernel
theorem d_Mo_shrink_155 : decode b_Mo_shrink 155 = .ok (.if_icmp .ge 69, 3) := by decide +kernel
theorem d_Mo_shrink_158 : decode b_Mo_shrink 158 = .ok (.aload_n 0, 1) := by decide +kernel
theorem d_Mo_shrink_159 : decode b_Mo_shrink 159 = .ok (.getfield 80, 3) := by decide +kernel
theorem d_Mo_shrink_162 : decode b_Mo_shrink 162 = .ok (.iload_n 3, 1) := by decide +kernel
theorem d_Mo_shrink_163 : decode b_Mo_shrink 163 = .ok (.iaload, 1) := by decide +kernel
theorem d_Mo_shrink_164 : decode b_Mo_shrink 164 = .ok (.istore 4, 2) := by decide +kernel
theorem d_Mo_shrink_166 : decode b_Mo_shrink 166 = .ok (.iload 4, 2) := by decide +kernel
theorem d_Mo_shrink_168 : decode b_Mo_shrink 168 = .ok (.ifCond .ge 6, 3) := by decide +kernel
theorem d_Mo_shrink_171 : decode b_Mo_shrink 171 = .ok (.goto 47, 3) := by decide +kernel
theorem d_Mo_shrink_174 : decode b_Mo_shrink 174 = .ok (.aload_n 0, 1) := by decide +kernel
theorem d_Mo_shrink_175 : decode b_Mo_shrink 175 = .ok (.getfield 7, 3) := by decide +kernel
theorem d_Mo_shrink_178 : decode b_Mo_shrink 178 = .ok (.iload 4, 2) := by decide +kernel
theorem d_Mo_shrink_180 : decode b_Mo_shrink 180 = .ok (.aload_n 0, 1) := by decide +kernel
theorem d_Mo_shrink_181 : decode b_Mo_shrink 181 = .ok (.getfield 7, 3) := by decide +kernel
theorem d_Mo_shrink_184 : decode b_Mo_shrink 184 = .ok (.iload_n 3, 1) := by decide +kernel
theorem d_Mo_shrink_185 : decode b_Mo_shrink 185 = .ok (.iaload, 1) := by decide +kernel
theorem d_Mo_shrink_186 : decode b_Mo_shrink 186 = .ok (.ifCond .ge 7, 3) := by decide +kernel
theorem d_Mo_shrink_189 : decode b_Mo_shrink 189 = .ok (.iconst (-1), 1) := by decide +kernel
theorem d_Mo_shrink_190 : decode b_Mo_shrink 190 = .ok (.goto 14, 3) := by decide +kernel
theorem d_Mo_shrink_193 : decode b_Mo_shrink 193 = .ok (.aload_n 0, 1) := by decide +kernel
theorem d_Mo_shrink_194 : decode b_Mo_shrink 194 = .ok (.getfield 80, 3) := by decide +kernel
theorem d_Mo_shrink_197 : decode b_Mo_shrink 197 = .ok (.aload_n 0, 1) := by decide +kernel
theorem d_Mo_shrink_198 : decode b_Mo_shrink 198 = .ok (.getfield 7, 3) := by decide +kernel
theorem d_Mo_shrink_201 : decode b_Mo_shrink 201 = .ok (.iload_n 3, 1) := by decide +kernel
theorem d_Mo_shrink_202 : decode b_Mo_shrink 202 = .ok (.iaload, 1) := by decide +kernel
theorem d_Mo_shrink_203 : decode b_Mo_shrink 203 = .ok (.iaload, 1) := by decide +kernel
theorem d_Mo_shrink_204 : decode b_Mo_shrink 204 = .ok (.iastore, 1) := by decide +kernel
theorem d_Mo_shrink_205 : decode b_Mo_shrink 205 = .ok (.aload_n 0, 1) := by decide +kernel
theorem d_Mo_shrink_206 : decode b_Mo_shrink 206 = .ok (.getfield 13, 3) := by decide +kernel
theorem d_Mo_shrink_209 : decode b_Mo_shrink 209 = .ok (.iload 4, 2) := by decide +kernel
theorem d_Mo_shrink_211 : decode b_Mo_shrink 211 = .ok (.aload_n 0, 1) := by decide +kernel
theorem d_Mo_shrink_212 : decode b_Mo_shrink 212 = .ok (.getfield 13, 3) := by decide +kernel
theorem d_Mo_shrink_215 : decode b_Mo_shrink 215 = .ok (.iload_n 3, 1) := by decide +kernel
theorem d_Mo_shrink_216 : decode b_Mo_shrink 216 = .ok (.iaload, 1) := by decide +kernel
theorem d_Mo_shrink_217 : decode b_Mo_shrink 217 = .ok (.iastore, 1) := by decide +kernel
theorem d_Mo_shrink_218 : decode b_Mo_shrink 218 = .ok (.iinc 3 1, 3) := by decide +kernel
theorem d_Mo_shrink_221 : decode b_Mo_shrink 221 = .ok (.goto (-71), 3) := by decide +kernel
theorem d_Mo_shrink_224 : decode b_Mo_shrink 224 = .ok (.aload_n 0, 1) := by decide +kernel
theorem d_Mo_shrink_225 : decode b_Mo_shrink 225 = .ok (.getfield 103, 3) := by decide +kernel
theorem d_Mo_shrink_228 : decode b_Mo_shrink 228 = .ok (.iload_n 2, 1) := by decide +kernel
theorem d_Mo_shrink_229 : decode b_Mo_shrink 229 = .ok (.isub, 1) := by decide +kernel
theorem d_Mo_shrink_230 : decode b_Mo_shrink 230 = .ok (.istore_n 3, 1) := by decide +kernel
theorem d_Mo_shrink_231 : decode b_Mo_shrink 231 = .ok (.aload_n 0, 1) := by decide +kernel
theorem d_Mo_shrink_232 : decode b_Mo_shrink 232 = .ok (.dup, 1) := by decide +kernel
theorem d_Mo_shrink_233 : decode b_Mo_shrink 233 = .ok (.getfield 145, 3) := by decide +kernel
theorem d_Mo_shrink_236 : decode b_Mo_shrink 236 = .ok (.iload_n 3, 1) := by decide +kernel
theorem d_Mo_shrink_237 : decode b_Mo_shrink 237 = .ok (.iadd, 1) := by decide +kernel
theorem d_Mo_shrink_238 : decode b_Mo_shrink 238 = .ok (.putfield 145, 3) := by decide +kernel
theorem d_Mo_shrink_241 : decode b_Mo_shrink 241 = .ok (.aload_n 0, 1) := by decide +kernel
theorem d_Mo_shrink_242 : decode b_Mo_shrink 242 = .ok (.iload_n 2, 1) := by decide +kernel
theorem d_Mo_shrink_243 : decode b_Mo_shrink 243 = .ok (.putfield 103, 3) := by decide +kernel
theorem d_Mo_shrink_246 : decode b_Mo_shrink 246 = .ok (.aload_n 0, 1) := by decide +kernel
theorem d_Mo_shrink_247 : decode b_Mo_shrink 247 = .ok (.iload_n 1, 1) := by decide +kernel
theorem d_Mo_shrink_248 : decode b_Mo_shrink 248 = .ok (.putfield 96, 3) := by decide +kernel
theorem d_Mo_shrink_251 : decode b_Mo_shrink 251 = .ok (.iload_n 3, 1) := by decide +kernel
theorem d_Mo_shrink_252 : decode b_Mo_shrink 252 = .ok (.ireturn, 1) := by decide +kernel
theorem d_Mo_findLive_0 : decode b_Mo_findLive 0 = .ok (.iconst 0, 1) := by decide +kernel
theorem d_Mo_findLive_1 : decode b_Mo_findLive 1 = .ok (.istore_n 1, 1) := by decide +kernel
theorem d_Mo_findLive_2 : decode b_Mo_findLive 2 = .ok (.iload_n 1, 1) := by decide +kernel
theorem d_Mo_findLive_3 : decode b_Mo_findLive 3 = .ok (.aload_n 0, 1) := by decide +kernel
theorem d_Mo_findLive_4 : decode b_Mo_findLive 4 = .ok (.getfield 96, 3) := by decide +kernel
theorem d_Mo_findLive_7 : decode b_Mo_findLive 7 = .ok (.if_icmp .ge 16, 3) := by decide +kernel
theorem d_Mo_findLive_10 : decode b_Mo_findLive 10 = .ok (.aload_n 0, 1) := by decide +kernel
theorem d_Mo_findLive_11 : decode b_Mo_findLive 11 = .ok (.getfield 44, 3) := by decide +kernel
theorem d_Mo_findLive_14 : decode b_Mo_findLive 14 = .ok (.iload_n 1, 1) := by decide +kernel
theorem d_Mo_findLive_15 : decode b_Mo_findLive 15 = .ok (.iconst 0, 1) := by decide +kernel
theorem d_Mo_findLive_16 : decode b_Mo_findLive 16 = .ok (.bastore, 1) := by decide +kernel
theorem d_Mo_findLive_17 : decode b_Mo_findLive 17 = .ok (.iinc 1 1, 3) := by decide +kernel
theorem d_Mo_findLive_20 : decode b_Mo_findLive 20 = .ok (.goto (-18), 3) := by decide +kernel
theorem d_Mo_findLive_23 : decode b_Mo_findLive 23 = .ok (.iconst 0, 1) := by decide +kernel
theorem d_Mo_findLive_24 : decode b_Mo_findLive 24 = .ok (.istore_n 1, 1) := by decide +kernel
theorem d_Mo_findLive_25 : decode b_Mo_findLive 25 = .ok (.iload_n 1, 1) := by decide +kernel
theorem d_Mo_findLive_26 : decode b_Mo_findLive 26 = .ok (.aload_n 0, 1) := by decide +kernel
theorem d_Mo_findLive_27 : decode b_Mo_findLive 27 = .ok (.getfield 103, 3) := by decide +kernel
theorem d_Mo_findLive_30 : decode b_Mo_findLive 30 = .ok (.if_icmp .ge 21, 3) := by decide +kernel
theorem d_Mo_findLive_33 : decode b_Mo_findLive 33 = .ok (.aload_n 0, 1) := by decide +kernel
theorem d_Mo_findLive_34 : decode b_Mo_findLive 34 = .ok (.getfield 41, 3) := by decide +kernel
theorem d_Mo_findLive_37 : decode b_Mo_findLive 37 = .ok (.iload_n 1, 1) := by decide +kernel
theorem d_Mo_findLive_38 : decode b_Mo_findLive 38 = .ok (.aload_n 0, 1) := by decide +kernel
theorem d_Mo_findLive_39 : decode b_Mo_findLive 39 = .ok (.getfield 37, 3) := by decide +kernel
theorem d_Mo_findLive_42 : decode b_Mo_findLive 42 = .ok (.iload_n 1, 1) := by decide +kernel
theorem d_Mo_findLive_43 : decode b_Mo_findLive 43 = .ok (.baload, 1) := by decide +kernel
theorem d_Mo_findLive_44 : decode b_Mo_findLive 44 = .ok (.bastore, 1) := by decide +kernel
theorem d_Mo_findLive_45 : decode b_Mo_findLive 45 = .ok (.iinc 1 1, 3) := by decide +kernel
theorem d_Mo_findLive_48 : decode b_Mo_findLive 48 = .ok (.goto (-23), 3) := by decide +kernel
theorem d_Mo_findLive_51 : decode b_Mo_findLive 51 = .ok (.iconst 0, 1) := by decide +kernel
theorem d_Mo_findLive_52 : decode b_Mo_findLive 52 = .ok (.istore_n 1, 1) := by decide +kernel
theorem d_Mo_findLive_53 : decode b_Mo_findLive 53 = .ok (.iload_n 1, 1) := by decide +kernel
theorem d_Mo_findLive_54 : decode b_Mo_findLive 54 = .ok (.aload_n 0, 1) := by decide +kernel
theorem d_Mo_findLive_55 : decode b_Mo_findLive 55 = .ok (.getfield 103, 3) := by decide +kernel
theorem d_Mo_findLive_58 : decode b_Mo_findLive 58 = .ok (.if_icmp .ge 30, 3) := by decide +kernel
theorem d_Mo_findLive_61 : decode b_Mo_findLive 61 = .ok (.aload_n 0, 1) := by decide +kernel
theorem d_Mo_findLive_62 : decode b_Mo_findLive 62 = .ok (.getfield 37, 3) := by decide +kernel
theorem d_Mo_findLive_65 : decode b_Mo_findLive 65 = .ok (.iload_n 1, 1) := by decide +kernel
theorem d_Mo_findLive_66 : decode b_Mo_findLive 66 = .ok (.baload, 1) := by decide +kernel
theorem d_Mo_findLive_67 : decode b_Mo_findLive 67 = .ok (.ifCond .eq 15, 3) := by decide +kernel
theorem d_Mo_findLive_70 : decode b_Mo_findLive 70 = .ok (.aload_n 0, 1) := by decide +kernel
theorem d_Mo_findLive_71 : decode b_Mo_findLive 71 = .ok (.getfield 44, 3) := by decide +kernel
theorem d_Mo_findLive_74 : decode b_Mo_findLive 74 = .ok (.aload_n 0, 1) := by decide +kernel
theorem d_Mo_findLive_75 : decode b_Mo_findLive 75 = .ok (.getfield 16, 3) := by decide +kernel
theorem d_Mo_findLive_78 : decode b_Mo_findLive 78 = .ok (.iload_n 1, 1) := by decide +kernel
theorem d_Mo_findLive_79 : decode b_Mo_findLive 79 = .ok (.iaload, 1) := by decide +kernel
theorem d_Mo_findLive_80 : decode b_Mo_findLive 80 = .ok (.iconst 1, 1) := by decide +kernel
theorem d_Mo_findLive_81 : decode b_Mo_findLive 81 = .ok (.bastore, 1) := by decide +kernel
theorem d_Mo_findLive_82 : decode b_Mo_findLive 82 = .ok (.iinc 1 1, 3) := by decide +kernel
theorem d_Mo_findLive_85 : decode b_Mo_findLive 85 = .ok (.goto (-32), 3) := by decide +kernel
theorem d_Mo_findLive_88 : decode b_Mo_findLive 88 = .ok (.iconst 1, 1) := by decide +kernel
theorem d_Mo_findLive_89 : decode b_Mo_findLive 89 = .ok (.istore_n 1, 1) := by decide +kernel
theorem d_Mo_findLive_90 : decode b_Mo_findLive 90 = .ok (.iload_n 1, 1) := by decide +kernel
theorem d_Mo_findLive_91 : decode b_Mo_findLive 91 = .ok (.ifCond .eq 66, 3) := by decide +kernel
theorem d_Mo_findLive_94 : decode b_Mo_findLive 94 = .ok (.iconst 0, 1) := by decide +kernel
theorem d_Mo_findLive_95 : decode b_Mo_findLive 95 = .ok (.istore_n 1, 1) := by decide +kernel
theorem d_Mo_findLive_96 : decode b_Mo_findLive 96 = .ok (.iconst 0, 1) := by decide +kernel
theorem d_Mo_findLive_97 : decode b_Mo_findLive 97 = .ok (.istore_n 2, 1) := by decide +kernel
theorem d_Mo_findLive_98 : decode b_Mo_findLive 98 = .ok (.iload_n 2, 1) := by decide +kernel
theorem d_Mo_findLive_99 : decode b_Mo_findLive 99 = .ok (.aload_n 0, 1) := by decide +kernel
theorem d_Mo_findLive_100 : decode b_Mo_findLive 100 = .ok (.getfield 103, 3) := by decide +kernel
theorem d_Mo_findLive_103 : decode b_Mo_findLive 103 = .ok (.if_icmp .ge 51, 3) := by decide +kernel
theorem d_Mo_findLive_106 : decode b_Mo_findLive 106 = .ok (.iconst 0, 1) := by decide +kernel
theorem d_Mo_findLive_107 : decode b_Mo_findLive 107 = .ok (.istore_n 3, 1) := by decide +kernel
theorem d_Mo_findLive_108 : decode b_Mo_findLive 108 = .ok (.iload_n 3, 1) := by decide +kernel
theorem d_Mo_findLive_109 : decode b_Mo_findLive 109 = .ok (.aload_n 0, 1) := by decide +kernel
theorem d_Mo_findLive_110 : decode b_Mo_findLive 110 = .ok (.getfield 25, 3) := by decide +kernel
theorem d_Mo_findLive_113 : decode b_Mo_findLive 113 = .ok (.iload_n 2, 1) := by decide +kernel
theorem d_Mo_findLive_114 : decode b_Mo_findLive 114 = .ok (.iaload, 1) := by decide +kernel
theorem d_Mo_findLive_115 : decode b_Mo_findLive 115 = .ok (.if_icmp .ge 33, 3) := by decide +kernel
theorem d_Mo_findLive_118 : decode b_Mo_findLive 118 = .ok (.aload_n 0, 1) := by decide +kernel
theorem d_Mo_findLive_119 : decode b_Mo_findLive 119 = .ok (.getfield 41, 3) := by decide +kernel
theorem d_Mo_findLive_122 : decode b_Mo_findLive 122 = .ok (.iload_n 2, 1) := by decide +kernel
theorem d_Mo_findLive_123 : decode b_Mo_findLive 123 = .ok (.baload, 1) := by decide +kernel
theorem d_Mo_findLive_124 : decode b_Mo_findLive 124 = .ok (.ifCond .eq 24, 3) := by decide +kernel
theorem d_Mo_findLive_127 : decode b_Mo_findLive 127 = .ok (.aload_n 0, 1) := by decide +kernel
theorem d_Mo_findLive_128 : decode b_Mo_findLive 128 = .ok (.iload_n 2, 1) := by decide +kernel
theorem d_Mo_findLive_129 : decode b_Mo_findLive 129 = .ok (.iload_n 2, 1) := by decide +kernel
theorem d_Mo_findLive_130 : decode b_Mo_findLive 130 = .ok (.iconst 5, 1) := by decide +kernel
theorem d_Mo_findLive_131 : decode b_Mo_findLive 131 = .ok (.imul, 1) := by decide +kernel
theorem d_Mo_findLive_132 : decode b_Mo_findLive 132 = .ok (.iload_n 3, 1) := by decide +kernel
theorem d_Mo_findLive_133 : decode b_Mo_findLive 133 = .ok (.iadd, 1) := by decide +kernel
theorem d_Mo_findLive_134 : decode b_Mo_findLive 134 = .ok (.invokevirtual 135, 3) := by decide +kernel
theorem d_Mo_findLive_137 : decode b_Mo_findLive 137 = .ok (.ifCond .eq 5, 3) := by decide +kernel
theorem d_Mo_findLive_140 : decode b_Mo_findLive 140 = .ok (.iconst 1, 1) := by decide +kernel
theorem d_Mo_findLive_141 : decode b_Mo_findLive 141 = .ok (.istore_n 1, 1) := by decide +kernel
theorem d_Mo_findLive_142 : decode b_Mo_findLive 142 = .ok (.iinc 3 1, 3) := by decide +kernel
theorem d_Mo_findLive_145 : decode b_Mo_findLive 145 = .ok (.goto (-37), 3) := by decide +kernel
theorem d_Mo_findLive_148 : decode b_Mo_findLive 148 = .ok (.iinc 2 1, 3) := by decide +kernel
theorem d_Mo_findLive_151 : decode b_Mo_findLive 151 = .ok (.goto (-53), 3) := by decide +kernel
theorem d_Mo_findLive_154 : decode b_Mo_findLive 154 = .ok (.goto (-64), 3) := by decide +kernel
theorem d_Mo_findLive_157 : decode b_Mo_findLive 157 = .ok (.return_, 1) := by decide +kernel
theorem d_Mo_need_0 : decode b_Mo_need 0 = .ok (.iconst 0, 1) := by decide +kernel
theorem d_Mo_need_1 : decode b_Mo_need 1 = .ok (.istore_n 3, 1) := by decide +kernel
theorem d_Mo_need_2 : decode b_Mo_need 2 = .ok (.aload_n 0, 1) := by decide +kernel
theorem d_Mo_need_3 : decode b_Mo_need 3 = .ok (.getfield 47, 3) := by decide +kernel
theorem d_Mo_need_6 : decode b_Mo_need 6 = .ok (.iload_n 2, 1) := by decide +kernel
theorem d_Mo_need_7 : decode b_Mo_need 7 = .ok (.iaload, 1) := by decide +kernel
theorem d_Mo_need_8 : decode b_Mo_need 8 = .ok (.iconst 1, 1) := by decide +kernel
theorem d_Mo_need_9 : decode b_Mo_need 9 = .ok (.if_icmp .ne 59, 3) := by decide +kernel
theorem d_Mo_need_12 : decode b_Mo_need 12 = .ok (.aload_n 0, 1) := by decide +kernel
theorem d_Mo_need_13 : decode b_Mo_need 13 = .ok (.getfield 44, 3) := by decide +kernel
theorem d_Mo_need_16 : decode b_Mo_need 16 = .ok (.aload_n 0, 1) := by decide +kernel
theorem d_Mo_need_17 : decode b_Mo_need 17 = .ok (.getfield 50, 3) := by decide +kernel
theorem d_Mo_need_20 : decode b_Mo_need 20 = .ok (.iload_n 2, 1) := by decide +kernel
theorem d_Mo_need_21 : decode b_Mo_need 21 = .ok (.iaload, 1) := by decide +kernel
theorem d_Mo_need_22 : decode b_Mo_need 22 = .ok (.baload, 1) := by decide +kernel
theorem d_Mo_need_23 : decode b_Mo_need 23 = .ok (.ifCond .ne 7, 3) := by decide +kernel
theorem d_Mo_need_26 : decode b_Mo_need 26 = .ok (.iconst 1, 1) := by decide +kernel
theorem d_Mo_need_27 : decode b_Mo_need 27 = .ok (.goto 4, 3) := by decide +kernel
theorem d_Mo_need_30 : decode b_Mo_need 30 = .ok (.iconst 0, 1) := by decide +kernel
theorem d_Mo_need_31 : decode b_Mo_need 31 = .ok (.istore_n 3, 1) := by decide +kernel
theorem d_Mo_need_32 : decode b_Mo_need 32 = .ok (.aload_n 0, 1) := by decide +kernel
theorem d_Mo_need_33 : decode b_Mo_need 33 = .ok (.getfield 44, 3) := by decide +kernel
theorem d_Mo_need_36 : decode b_Mo_need 36 = .ok (.aload_n 0, 1) := by decide +kernel
theorem d_Mo_need_37 : decode b_Mo_need 37 = .ok (.getfield 50, 3) := by decide +kernel
theorem d_Mo_need_40 : decode b_Mo_need 40 = .ok (.iload_n 2, 1) := by decide +kernel
theorem d_Mo_need_41 : decode b_Mo_need 41 = .ok (.iaload, 1) := by decide +kernel
theorem d_Mo_need_42 : decode b_Mo_need 42 = .ok (.iconst 1, 1) := by decide +kernel
theorem d_Mo_need_43 : decode b_Mo_need 43 = .ok (.bastore, 1) := by decide +kernel
theorem d_Mo_need_44 : decode b_Mo_need 44 = .ok (.aload_n 0, 1) := by decide +kernel
theorem d_Mo_need_45 : decode b_Mo_need 45 = .ok (.aload_n 0, 1) := by decide +kernel
theorem d_Mo_need_46 : decode b_Mo_need 46 = .ok (.getfield 50, 3) := by decide +kernel
theorem d_Mo_need_49 : decode b_Mo_need 49 = .ok (.iload_n 2, 1) := by decide +kernel
theorem d_Mo_need_50 : decode b_Mo_need 50 = .ok (.iaload, 1) := by decide +kernel
theorem d_Mo_need_51 : decode b_Mo_need 51 = .ok (.iload_n 2, 1) := by decide +kernel
theorem d_Mo_need_52 : decode b_Mo_need 52 = .ok (.invokevirtual 132, 3) := by decide +kernel
theorem d_Mo_need_55 : decode b_Mo_need 55 = .ok (.ifCond .ne 7, 3) := by decide +kernel
theorem d_Mo_need_58 : decode b_Mo_need 58 = .ok (.iload_n 3, 1) := by decide +kernel
theorem d_Mo_need_59 : decode b_Mo_need 59 = .ok (.ifCond .eq 7, 3) := by decide +kernel
theorem d_Mo_need_62 : decode b_Mo_need 62 = .ok (.iconst 1, 1) := by decide +kernel
theorem d_Mo_need_63 : decode b_Mo_need 63 = .ok (.goto 4, 3) := by decide +kernel
theorem d_Mo_need_66 : decode b_Mo_need 66 = .ok (.iconst 0, 1) := by decide +kernel
theorem d_Mo_need_67 : decode b_Mo_need 67 = .ok (.ireturn, 1) := by decide +kernel
theorem d_Mo_need_68 : decode b_Mo_need 68 = .ok (.iconst 0, 1) := by decide +kernel
theorem d_Mo_need_69 : decode b_Mo_need 69 = .ok (.istore 4, 2) := by decide +kernel
theorem d_Mo_need_71 : decode b_Mo_need 71 = .ok (.iload 4, 2) := by decide +kernel
theorem d_Mo_need_73 : decode b_Mo_need 73 = .ok (.aload_n 0, 1) := by decide +kernel
theorem d_Mo_need_74 : decode b_Mo_need 74 = .ok (.getfield 96, 3) := by decide +kernel
theorem d_Mo_need_77 : decode b_Mo_need 77 = .ok (.if_icmp .ge 56, 3) := by decide +kernel
theorem d_Mo_need_80 : decode b_Mo_need 80 = .ok (.aload_n 0, 1) := by decide +kernel
theorem d_Mo_need_81 : decode b_Mo_need 81 = .ok (.getfield 47, 3) := by decide +kernel
theorem d_Mo_need_84 : decode b_Mo_need 84 = .ok (.iload_n 2, 1) := by decide +kernel
theorem d_Mo_need_85 : decode b_Mo_need 85 = .ok (.iaload, 1) := by decide +kernel
theorem d_Mo_need_86 : decode b_Mo_need 86 = .ok (.iconst 2, 1) := by decide +kernel
theorem d_Mo_need_87 : decode b_Mo_need 87 = .ok (.if_icmp .ne 46, 3) := by decide +kernel
theorem d_Mo_need_90 : decode b_Mo_need 90 = .ok (.aload_n 0, 1) := by decide +kernel
theorem d_Mo_need_91 : decode b_Mo_need 91 = .ok (.getfield 44, 3) := by decide +kernel
theorem d_Mo_need_94 : decode b_Mo_need 94 = .ok (.iload 4, 2) := by decide +kernel
theorem d_Mo_need_96 : decode b_Mo_need 96 = .ok (.baload, 1) := by decide +kernel
theorem d_Mo_need_97 : decode b_Mo_need 97 = .ok (.ifCond .eq 30, 3) := by decide +kernel
theorem d_Mo_need_100 : decode b_Mo_need 100 = .ok (.aload_n 0, 1) := by decide +kernel
theorem d_Mo_need_101 : decode b_Mo_need 101 = .ok (.aload_n 0, 1) := by decide +kernel
theorem d_Mo_need_102 : decode b_Mo_need 102 = .ok (.getfield 16, 3) := by decide +kernel
theorem d_Mo_need_105 : decode b_Mo_need 105 = .ok (.iload_n 1, 1) := by decide +kernel
theorem d_Mo_need_106 : decode b_Mo_need 106 = .ok (.iaload, 1) := by decide +kernel
theorem d_Mo_need_107 : decode b_Mo_need 107 = .ok (.iload 4, 2) := by decide +kernel
theorem d_Mo_need_109 : decode b_Mo_need 109 = .ok (.invokevirtual 128, 3) := by decide +kernel
theorem d_Mo_need_112 : decode b_Mo_need 112 = .ok (.ifCond .eq 15, 3) := by decide +kernel
theorem d_Mo_need_115 : decode b_Mo_need 115 = .ok (.aload_n 0, 1) := by decide +kernel
theorem d_Mo_need_116 : decode b_Mo_need 116 = .ok (.iload 4, 2) := by decide +kernel
theorem d_Mo_need_118 : decode b_Mo_need 118 = .ok (.iload_n 2, 1) := by decide +kernel
theorem d_Mo_need_119 : decode b_Mo_need 119 = .ok (.invokevirtual 132, 3) := by decide +kernel
theorem d_Mo_need_122 : decode b_Mo_need 122 = .ok (.ifCond .eq 5, 3) := by decide +kernel
theorem d_Mo_need_125 : decode b_Mo_need 125 = .ok (.iconst 1, 1) := by decide +kernel
theorem d_Mo_need_126 : decode b_Mo_need 126 = .ok (.istore_n 3, 1) := by decide +kernel
theorem d_Mo_need_127 : decode b_Mo_need 127 = .ok (.iinc 4 1, 3) := by decide +kernel
theorem d_Mo_need_130 : decode b_Mo_need 130 = .ok (.goto (-59), 3) := by decide +kernel
theorem d_Mo_need_133 : decode b_Mo_need 133 = .ok (.iload_n 3, 1) := by decide +kernel
theorem d_Mo_need_134 : decode b_Mo_need 134 = .ok (.ireturn, 1) := by decide +kernel
theorem d_Mo_enliven_0 : decode b_Mo_enliven 0 = .ok (.aload_n 0, 1) := by decide +kernel
theorem d_Mo_enliven_1 : decode b_Mo_enliven 1 = .ok (.iload_n 1, 1) := by decide +kernel
theorem d_Mo_enliven_2 : decode b_Mo_enliven 2 = .ok (.aload_n 0, 1) := by decide +kernel
theorem d_Mo_enliven_3 : decode b_Mo_enliven 3 = .ok (.getfield 53, 3) := by decide +kernel
theorem d_Mo_enliven_6 : decode b_Mo_enliven 6 = .ok (.iload_n 2, 1) := by decide +kernel
theorem d_Mo_enliven_7 : decode b_Mo_enliven 7 = .ok (.iaload, 1) := by decide +kernel
theorem d_Mo_enliven_8 : decode b_Mo_enliven 8 = .ok (.aload_n 0, 1) := by decide +kernel
theorem d_Mo_enliven_9 : decode b_Mo_enliven 9 = .ok (.getfield 56, 3) := by decide +kernel
theorem d_Mo_enliven_12 : decode b_Mo_enliven 12 = .ok (.iload_n 2, 1) := by decide +kernel
theorem d_Mo_enliven_13 : decode b_Mo_enliven 13 = .ok (.iaload, 1) := by decide +kernel
theorem d_Mo_enliven_14 : decode b_Mo_enliven 14 = .ok (.invokevirtual 125, 3) := by decide +kernel
theorem d_Mo_enliven_17 : decode b_Mo_enliven 17 = .ok (.istore_n 3, 1) := by decide +kernel
theorem d_Mo_enliven_18 : decode b_Mo_enliven 18 = .ok (.iload_n 3, 1) := by decide +kernel
theorem d_Mo_enliven_19 : decode b_Mo_enliven 19 = .ok (.ifCond .lt 12, 3) := by decide +kernel
theorem d_Mo_enliven_22 : decode b_Mo_enliven 22 = .ok (.aload_n 0, 1) := by decide +kernel
theorem d_Mo_enliven_23 : decode b_Mo_enliven 23 = .ok (.getfield 41, 3) := by decide +kernel
theorem d_Mo_enliven_26 : decode b_Mo_enliven 26 = .ok (.iload_n 3, 1) := by decide +kernel
theorem d_Mo_enliven_27 : decode b_Mo_enliven 27 = .ok (.baload, 1) := by decide +kernel
theorem d_Mo_enliven_28 : decode b_Mo_enliven 28 = .ok (.ifCond .eq 5, 3) := by decide +kernel
theorem d_Mo_enliven_31 : decode b_Mo_enliven 31 = .ok (.iconst 0, 1) := by decide +kernel
theorem d_Mo_enliven_32 : decode b_Mo_enliven 32 = .ok (.ireturn, 1) := by decide +kernel
theorem d_Mo_enliven_33 : decode b_Mo_enliven 33 = .ok (.aload_n 0, 1) := by decide +kernel
theorem d_Mo_enliven_34 : decode b_Mo_enliven 34 = .ok (.getfield 41, 3) := by decide +kernel
theorem d_Mo_enliven_37 : decode b_Mo_enliven 37 = .ok (.iload_n 3, 1) := by decide +kernel
theorem d_Mo_enliven_38 : decode b_Mo_enliven 38 = .ok (.iconst 1, 1) := by decide +kernel
theorem d_Mo_enliven_39 : decode b_Mo_enliven 39 = .ok (.bastore, 1) := by decide +kernel
theorem d_Mo_enliven_40 : decode b_Mo_enliven 40 = .ok (.iconst 1, 1) := by decide +kernel
theorem d_Mo_enliven_41 : decode b_Mo_enliven 41 = .ok (.ireturn, 1) := by decide +kernel
theorem d_Mo_above_0 : decode b_Mo_above 0 = .ok (.iload_n 2, 1) := by decide +kernel
theorem d_Mo_above_1 : decode b_Mo_above 1 = .ok (.istore_n 3, 1) := by decide +kernel
theorem d_Mo_above_2 : decode b_Mo_above 2 = .ok (.iload_n 3, 1) := by decide +kernel
theorem d_Mo_above_3 : decode b_Mo_above 3 = .ok (.ifCond .lt 18, 3) := by decide +kernel
theorem d_Mo_above_6 : decode b_Mo_above 6 = .ok (.iload_n 3, 1) := by decide +kernel
theorem d_Mo_above_7 : decode b_Mo_above 7 = .ok (.iload_n 1, 1) := by decide +kernel
theorem d_Mo_above_8 : decode b_Mo_above 8 = .ok (.if_icmp .eq 13, 3) := by decide +kernel
theorem d_Mo_above_11 : decode b_Mo_above 11 = .ok (.aload_n 0, 1) := by decide +kernel
theorem d_Mo_above_12 : decode b_Mo_above 12 = .ok (.getfield 7, 3) := by decide +kernel
theorem d_Mo_above_15 : decode b_Mo_above 15 = .ok (.iload_n 3, 1) := by decide +kernel
theorem d_Mo_above_16 : decode b_Mo_above 16 = .ok (.iaload, 1) := by decide +kernel
theorem d_Mo_above_17 : decode b_Mo_above 17 = .ok (.istore_n 3, 1) := by decide +kernel
theorem d_Mo_above_18 : decode b_Mo_above 18 = .ok (.goto (-16), 3) := by decide +kernel
theorem d_Mo_above_21 : decode b_Mo_above 21 = .ok (.iload_n 3, 1) := by decide +kernel
theorem d_Mo_above_22 : decode b_Mo_above 22 = .ok (.iload_n 1, 1) := by decide +kernel
theorem d_Mo_above_23 : decode b_Mo_above 23 = .ok (.if_icmp .ne 7, 3) := by decide +kernel
theorem d_Mo_above_26 : decode b_Mo_above 26 = .ok (.iconst 1, 1) := by decide +kernel
theorem d_Mo_above_27 : decode b_Mo_above 27 = .ok (.goto 4, 3) := by decide +kernel
theorem d_Mo_above_30 : decode b_Mo_above 30 = .ok (.iconst 0, 1) := by decide +kernel
theorem d_Mo_above_31 : decode b_Mo_above 31 = .ok (.ireturn, 1) := by decide +kernel
theorem d_Mo_moveMethod_0 : decode b_Mo_moveMethod 0 = .ok (.aload_n 0, 1) := by decide +kernel
theorem d_Mo_moveMethod_1 : decode b_Mo_moveMethod 1 = .ok (.getfield 16, 3) := by decide +kernel
theorem d_Mo_moveMethod_4 : decode b_Mo_moveMethod 4 = .ok (.iload_n 2, 1) := by decide +kernel
theorem d_Mo_moveMethod_5 : decode b_Mo_moveMethod 5 = .ok (.aload_n 0, 1) := by decide +kernel
theorem d_Mo_moveMethod_6 : decode b_Mo_moveMethod 6 = .ok (.getfield 80, 3) := by decide +kernel
theorem d_Mo_moveMethod_9 : decode b_Mo_moveMethod 9 = .ok (.aload_n 0, 1) := by decide +kernel
theorem d_Mo_moveMethod_10 : decode b_Mo_moveMethod 10 = .ok (.getfield 16, 3) := by decide +kernel
theorem d_Mo_moveMethod_13 : decode b_Mo_moveMethod 13 = .ok (.iload_n 1, 1) := by decide +kernel
theorem d_Mo_moveMethod_14 : decode b_Mo_moveMethod 14 = .ok (.iaload, 1) := by decide +kernel
theorem d_Mo_moveMethod_15 : decode b_Mo_moveMethod 15 = .ok (.iaload, 1) := by decide +kernel
theorem d_Mo_moveMethod_16 : decode b_Mo_moveMethod 16 = .ok (.iastore, 1) := by decide +kernel
theorem d_Mo_moveMethod_17 : decode b_Mo_moveMethod 17 = .ok (.aload_n 0, 1) := by decide +kernel
theorem d_Mo_moveMethod_18 : decode b_Mo_moveMethod 18 = .ok (.getfield 19, 3) := by decide +kernel
theorem d_Mo_moveMethod_21 : decode b_Mo_moveMethod 21 = .ok (.iload_n 2, 1) := by decide +kernel
theorem d_Mo_moveMethod_22 : decode b_Mo_moveMethod 22 = .ok (.aload_n 0, 1) := by decide +kernel
theorem d_Mo_moveMethod_23 : decode b_Mo_moveMethod 23 = .ok (.getfield 19, 3) := by decide +kernel
theorem d_Mo_moveMethod_26 : decode b_Mo_moveMethod 26 = .ok (.iload_n 1, 1) := by decide +kernel
theorem d_Mo_moveMethod_27 : decode b_Mo_moveMethod 27 = .ok (.iaload, 1) := by decide +kernel
theorem d_Mo_moveMethod_28 : decode b_Mo_moveMethod 28 = .ok (.iastore, 1) := by decide +kernel
theorem d_Mo_moveMethod_29 : decode b_Mo_moveMethod 29 = .ok (.aload_n 0, 1) := by decide +kernel
theorem d_Mo_moveMethod_30 : decode b_Mo_moveMethod 30 = .ok (.getfield 22, 3) := by decide +kernel
theorem d_Mo_moveMethod_33 : decode b_Mo_moveMethod 33 = .ok (.iload_n 2, 1) := by decide +kernel
theorem d_Mo_moveMethod_34 : decode b_Mo_moveMethod 34 = .ok (.aload_n 0, 1) := by decide +kernel
theorem d_Mo_moveMethod_35 : decode b_Mo_moveMethod 35 = .ok (.getfield 22, 3) := by decide +kernel
theorem d_Mo_moveMethod_38 : decode b_Mo_moveMethod 38 = .ok (.iload_n 1, 1) := by decide +kernel
theorem d_Mo_moveMethod_39 : decode b_Mo_moveMethod 39 = .ok (.iaload, 1) := by decide +kernel
theorem d_Mo_moveMethod_40 : decode b_Mo_moveMethod 40 = .ok (.iastore, 1) := by decide +kernel
theorem d_Mo_moveMethod_41 : decode b_Mo_moveMethod 41 = .ok (.aload_n 0, 1) := by decide +kernel
theorem d_Mo_moveMethod_42 : decode b_Mo_moveMethod 42 = .ok (.getfield 25, 3) := by decide +kernel
theorem d_Mo_moveMethod_45 : decode b_Mo_moveMethod 45 = .ok (.iload_n 2, 1) := by decide +kernel
theorem d_Mo_moveMethod_46 : decode b_Mo_moveMethod 46 = .ok (.aload_n 0, 1) := by decide +kernel
theorem d_Mo_moveMethod_47 : decode b_Mo_moveMethod 47 = .ok (.getfield 25, 3) := by decide +kernel
theorem d_Mo_moveMethod_50 : decode b_Mo_moveMethod 50 = .ok (.iload_n 1, 1) := by decide +kernel
theorem d_Mo_moveMethod_51 : decode b_Mo_moveMethod 51 = .ok (.iaload, 1) := by decide +kernel
theorem d_Mo_moveMethod_52 : decode b_Mo_moveMethod 52 = .ok (.iastore, 1) := by decide +kernel
theorem d_Mo_moveMethod_53 : decode b_Mo_moveMethod 53 = .ok (.aload_n 0, 1) := by decide +kernel
theorem d_Mo_moveMethod_54 : decode b_Mo_moveMethod 54 = .ok (.getfield 37, 3) := by decide +kernel
theorem d_Mo_moveMethod_57 : decode b_Mo_moveMethod 57 = .ok (.iload_n 2, 1) := by decide +kernel
theorem d_Mo_moveMethod_58 : decode b_Mo_moveMethod 58 = .ok (.aload_n 0, 1) := by decide +kernel
theorem d_Mo_moveMethod_59 : decode b_Mo_moveMethod 59 = .ok (.getfield 37, 3) := by decide +kernel
theorem d_Mo_moveMethod_62 : decode b_Mo_moveMethod 62 = .ok (.iload_n 1, 1) := by decide +kernel
theorem d_Mo_moveMethod_63 : decode b_Mo_moveMethod 63 = .ok (.baload, 1) := by decide +kernel
theorem d_Mo_moveMethod_64 : decode b_Mo_moveMethod 64 = .ok (.bastore, 1) := by decide +kernel
theorem d_Mo_moveMethod_65 : decode b_Mo_moveMethod 65 = .ok (.aload_n 0, 1) := by decide +kernel
theorem d_Mo_moveMethod_66 : decode b_Mo_moveMethod 66 = .ok (.getfield 28, 3) := by decide +kernel
theorem d_Mo_moveMethod_69 : decode b_Mo_moveMethod 69 = .ok (.iload_n 2, 1) := by decide +kernel
theorem d_Mo_moveMethod_70 : decode b_Mo_moveMethod 70 = .ok (.aload_n 0, 1) := by decide +kernel
theorem d_Mo_moveMethod_71 : decode b_Mo_moveMethod 71 = .ok (.getfield 28, 3) := by decide +kernel
theorem d_Mo_moveMethod_74 : decode b_Mo_moveMethod 74 = .ok (.iload_n 1, 1) := by decide +kernel
theorem d_Mo_moveMethod_75 : decode b_Mo_moveMethod 75 = .ok (.iaload, 1) := by decide +kernel
theorem d_Mo_moveMethod_76 : decode b_Mo_moveMethod 76 = .ok (.iastore, 1) := by decide +kernel
theorem d_Mo_moveMethod_77 : decode b_Mo_moveMethod 77 = .ok (.aload_n 0, 1) := by decide +kernel
theorem d_Mo_moveMethod_78 : decode b_Mo_moveMethod 78 = .ok (.getfield 31, 3) := by decide +kernel
theorem d_Mo_moveMethod_81 : decode b_Mo_moveMethod 81 = .ok (.iload_n 2, 1) := by decide +kernel
theorem d_Mo_moveMethod_82 : decode b_Mo_moveMethod 82 = .ok (.aload_n 0, 1) := by decide +kernel
theorem d_Mo_moveMethod_83 : decode b_Mo_moveMethod 83 = .ok (.getfield 31, 3) := by decide +kernel
theorem d_Mo_moveMethod_86 : decode b_Mo_moveMethod 86 = .ok (.iload_n 1, 1) := by decide +kernel
theorem d_Mo_moveMethod_87 : decode b_Mo_moveMethod 87 = .ok (.iaload, 1) := by decide +kernel
theorem d_Mo_moveMethod_88 : decode b_Mo_moveMethod 88 = .ok (.iastore, 1) := by decide +kernel
theorem d_Mo_moveMethod_89 : decode b_Mo_moveMethod 89 = .ok (.aload_n 0, 1) := by decide +kernel
theorem d_Mo_moveMethod_90 : decode b_Mo_moveMethod 90 = .ok (.getfield 34, 3) := by decide +kernel
theorem d_Mo_moveMethod_93 : decode b_Mo_moveMethod 93 = .ok (.iload_n 2, 1) := by decide +kernel
theorem d_Mo_moveMethod_94 : decode b_Mo_moveMethod 94 = .ok (.aload_n 0, 1) := by decide +kernel
theorem d_Mo_moveMethod_95 : decode b_Mo_moveMethod 95 = .ok (.getfield 34, 3) := by decide +kernel
theorem d_Mo_moveMethod_98 : decode b_Mo_moveMethod 98 = .ok (.iload_n 1, 1) := by decide +kernel
theorem d_Mo_moveMethod_99 : decode b_Mo_moveMethod 99 = .ok (.iaload, 1) := by decide +kernel
theorem d_Mo_moveMethod_100 : decode b_Mo_moveMethod 100 = .ok (.iastore, 1) := by decide +kernel
theorem d_Mo_moveMethod_101 : decode b_Mo_moveMethod 101 = .ok (.iconst 0, 1) := by decide +kernel
theorem d_Mo_moveMethod_102 : decode b_Mo_moveMethod 102 = .ok (.istore_n 3, 1) := by decide +kernel
theorem d_Mo_moveMethod_103 : decode b_Mo_moveMethod 103 = .ok (.iload_n 3, 1) := by decide +kernel
theorem d_Mo_moveMethod_104 : decode b_Mo_moveMethod 104 = .ok (.aload_n 0, 1) := by decide +kernel
theorem d_Mo_moveMethod_105 : decode b_Mo_moveMethod 105 = .ok (.getfield 25, 3) := by decide +kernel
theorem d_Mo_moveMethod_108 : decode b_Mo_moveMethod 108 = .ok (.iload_n 1, 1) := by decide +kernel
theorem d_Mo_moveMethod_109 : decode b_Mo_moveMethod 109 = .ok (.iaload, 1) := by decide +kernel
theorem d_Mo_moveMethod_110 : decode b_Mo_moveMethod 110 = .ok (.if_icmp .ge 105, 3) := by decide +kernel
theorem d_Mo_moveMethod_113 : decode b_Mo_moveMethod 113 = .ok (.iload_n 1, 1) := by decide +kernel
theorem d_Mo_moveMethod_114 : decode b_Mo_moveMethod 114 = .ok (.iconst 5, 1) := by decide +kernel
theorem d_Mo_moveMethod_115 : decode b_Mo_moveMethod 115 = .ok (.imul, 1) := by decide +kernel
theorem d_Mo_moveMethod_116 : decode b_Mo_moveMethod 116 = .ok (.iload_n 3, 1) := by decide +kernel
theorem d_Mo_moveMethod_117 : decode b_Mo_moveMethod 117 = .ok (.iadd, 1) := by decide +kernel
theorem d_Mo_moveMethod_118 : decode b_Mo_moveMethod 118 = .ok (.istore 4, 2) := by decide +kernel
theorem d_Mo_moveMethod_120 : decode b_Mo_moveMethod 120 = .ok (.iload_n 2, 1) := by decide +kernel
theorem d_Mo_moveMethod_121 : decode b_Mo_moveMethod 121 = .ok (.iconst 5, 1) := by decide +kernel
theorem d_Mo_moveMethod_122 : decode b_Mo_moveMethod 122 = .ok (.imul, 1) := by decide +kernel
theorem d_Mo_moveMethod_123 : decode b_Mo_moveMethod 123 = .ok (.iload_n 3, 1) := by decide +kernel
theorem d_Mo_moveMethod_124 : decode b_Mo_moveMethod 124 = .ok (.iadd, 1) := by decide +kernel
theorem d_Mo_moveMethod_125 : decode b_Mo_moveMethod 125 = .ok (.istore 5, 2) := by decide +kernel
theorem d_Mo_moveMethod_127 : decode b_Mo_moveMethod 127 = .ok (.aload_n 0, 1) := by decide +kernel
theorem d_Mo_moveMethod_128 : decode b_Mo_moveMethod 128 = .ok (.getfield 47, 3) := by decide +kernel
theorem d_Mo_moveMethod_131 : decode b_Mo_moveMethod 131 = .ok (.iload 5, 2) := by decide +kernel
theorem d_Mo_moveMethod_133 : decode b_Mo_moveMethod 133 = .ok (.aload_n 0, 1) := by decide +kernel
theorem d_Mo_moveMethod_134 : decode b_Mo_moveMethod 134 = .ok (.getfield 47, 3) := by decide +kernel
theorem d_Mo_moveMethod_137 : decode b_Mo_moveMethod 137 = .ok (.iload 4, 2) := by decide +kernel
theorem d_Mo_moveMethod_139 : decode b_Mo_moveMethod 139 = .ok (.iaload, 1) := by decide +kernel
theorem d_Mo_moveMethod_140 : decode b_Mo_moveMethod 140 = .ok (.iastore, 1) := by decide +kernel
theorem d_Mo_moveMethod_141 : decode b_Mo_moveMethod 141 = .ok (.aload_n 0, 1) := by decide +kernel
theorem d_Mo_moveMethod_142 : decode b_Mo_moveMethod 142 = .ok (.getfield 50, 3) := by decide +kernel
theorem d_Mo_moveMethod_145 : decode b_Mo_moveMethod 145 = .ok (.iload 5, 2) := by decide +kernel
theorem d_Mo_moveMethod_147 : decode b_Mo_moveMethod 147 = .ok (.aload_n 0, 1) := by decide +kernel
theorem d_Mo_moveMethod_148 : decode b_Mo_moveMethod 148 = .ok (.getfield 47, 3) := by decide +kernel
theorem d_Mo_moveMethod_151 : decode b_Mo_moveMethod 151 = .ok (.iload 4, 2) := by decide +kernel
theorem d_Mo_moveMethod_153 : decode b_Mo_moveMethod 153 = .ok (.iaload, 1) := by decide +kernel
theorem d_Mo_moveMethod_154 : decode b_Mo_moveMethod 154 = .ok (.iconst 1, 1) := by decide +kernel
theorem d_Mo_moveMethod_155 : decode b_Mo_moveMethod 155 = .ok (.if_icmp .ne 18, 3) := by decide +kernel
theorem d_Mo_moveMethod_158 : decode b_Mo_moveMethod 158 = .ok (.aload_n 0, 1) := by decide +kernel
theorem d_Mo_moveMethod_159 : decode b_Mo_moveMethod 159 = .ok (.getfield 80, 3) := by decide +kernel
theorem d_Mo_moveMethod_162 : decode b_Mo_moveMethod 162 = .ok (.aload_n 0, 1) := by decide +kernel
theorem d_Mo_moveMethod_163 : decode b_Mo_moveMethod 163 = .ok (.getfield 50, 3) := by decide +kernel
theorem d_Mo_moveMethod_166 : decode b_Mo_moveMethod 166 = .ok (.iload 4, 2) := by decide +kernel
theorem d_Mo_moveMethod_168 : decode b_Mo_moveMethod 168 = .ok (.iaload, 1) := by decide +kernel
theorem d_Mo_moveMethod_169 : decode b_Mo_moveMethod 169 = .ok (.iaload, 1) := by decide +kernel
theorem d_Mo_moveMethod_170 : decode b_Mo_moveMethod 170 = .ok (.goto 10, 3) := by decide +kernel
theorem d_Mo_moveMethod_173 : decode b_Mo_moveMethod 173 = .ok (.aload_n 0, 1) := by decide +kernel
theorem d_Mo_moveMethod_174 : decode b_Mo_moveMethod 174 = .ok (.getfield 50, 3) := by decide +kernel
theorem d_Mo_moveMethod_177 : decode b_Mo_moveMethod 177 = .ok (.iload 4, 2) := by decide +kernel
theorem d_Mo_moveMethod_179 : decode b_Mo_moveMethod 179 = .ok (.iaload, 1) := by decide +kernel
theorem d_Mo_moveMethod_180 : decode b_Mo_moveMethod 180 = .ok (.iastore, 1) := by decide +kernel
theorem d_Mo_moveMethod_181 : decode b_Mo_moveMethod 181 = .ok (.aload_n 0, 1) := by decide +kernel
theorem d_Mo_moveMethod_182 : decode b_Mo_moveMethod 182 = .ok (.getfield 53, 3) := by decide +kernel
theorem d_Mo_moveMethod_185 : decode b_Mo_moveMethod 185 = .ok (.iload 5, 2) := by decide +kernel
theorem d_Mo_moveMethod_187 : decode b_Mo_moveMethod 187 = .ok (.aload_n 0, 1) := by decide +kernel
theorem d_Mo_moveMethod_188 : decode b_Mo_moveMethod 188 = .ok (.getfield 53, 3) := by decide +kernel
theorem d_Mo_moveMethod_191 : decode b_Mo_moveMethod 191 = .ok (.iload 4, 2) := by decide +kernel
theorem d_Mo_moveMethod_193 : decode b_Mo_moveMethod 193 = .ok (.iaload, 1) := by decide +kernel
theorem d_Mo_moveMethod_194 : decode b_Mo_moveMethod 194 = .ok (.iastore, 1) := by decide +kernel
theorem d_Mo_moveMethod_195 : decode b_Mo_moveMethod 195 = .ok (.aload_n 0, 1) := by decide +kernel
theorem d_Mo_moveMethod_196 : decode b_Mo_moveMethod 196 = .ok (.getfield 56, 3) := by decide +kernel
theorem d_Mo_moveMethod_199 : decode b_Mo_moveMethod 199 = .ok (.iload 5, 2) := by decide +kernel
theorem d_Mo_moveMethod_201 : decode b_Mo_moveMethod 201 = .ok (.aload_n 0, 1) := by decide +kernel
theorem d_Mo_moveMethod_202 : decode b_Mo_moveMethod 202 = .ok (.getfield 56, 3) := by decide +kernel
theorem d_Mo_moveMethod_205 : decode b_Mo_moveMethod 205 = .ok (.iload 4, 2) := by decide +kernel
theorem d_Mo_moveMethod_207 : decode b_Mo_moveMethod 207 = .ok (.iaload, 1) := by decide +kernel
theorem d_Mo_moveMethod_208 : decode b_Mo_moveMethod 208 = .ok (.iastore, 1) := by decide +kernel
theorem d_Mo_moveMethod_209 : decode b_Mo_moveMethod 209 = .ok (.iinc 3 1, 3) := by decide +kernel
theorem d_Mo_moveMethod_212 : decode b_Mo_moveMethod 212 = .ok (.goto (-109), 3) := by decide +kernel
theorem d_Mo_moveMethod_215 : decode b_Mo_moveMethod 215 = .ok (.return_, 1) := by decide +kernel
theorem d_Mo_rename_0 : decode b_Mo_rename 0 = .ok (.aload_n 0, 1) := by decide +kernel
theorem d_Mo_rename_1 : decode b_Mo_rename 1 = .ok (.iconst 0, 1) := by decide +kernel
theorem d_Mo_rename_2 : decode b_Mo_rename 2 = .ok (.putfield 92, 3) := by decide +kernel
theorem d_Mo_rename_5 : decode b_Mo_rename 5 = .ok (.aload_n 0, 1) := by decide +kernel
theorem d_Mo_rename_6 : decode b_Mo_rename 6 = .ok (.invokevirtual 161, 3) := by decide +kernel
theorem d_Mo_rename_9 : decode b_Mo_rename 9 = .ok (.istore_n 1, 1) := by decide +kernel
theorem d_Mo_rename_10 : decode b_Mo_rename 10 = .ok (.iconst 0, 1) := by decide +kernel
theorem d_Mo_rename_11 : decode b_Mo_rename 11 = .ok (.istore_n 2, 1) := by decide +kernel
theorem d_Mo_rename_12 : decode b_Mo_rename 12 = .ok (.aload_n 0, 1) := by decide +kernel
theorem d_Mo_rename_13 : decode b_Mo_rename 13 = .ok (.getfield 103, 3) := by decide +kernel
theorem d_Mo_rename_16 : decode b_Mo_rename 16 = .ok (.istore_n 3, 1) := by decide +kernel
theorem d_Mo_rename_17 : decode b_Mo_rename 17 = .ok (.iconst 0, 1) := by decide +kernel
theorem d_Mo_rename_18 : decode b_Mo_rename 18 = .ok (.istore 4, 2) := by decide +kernel
theorem d_Mo_rename_20 : decode b_Mo_rename 20 = .ok (.iload 4, 2) := by decide +kernel
theorem d_Mo_rename_22 : decode b_Mo_rename 22 = .ok (.aload_n 0, 1) := by decide +kernel
theorem d_Mo_rename_23 : decode b_Mo_rename 23 = .ok (.getfield 103, 3) := by decide +kernel
theorem d_Mo_rename_26 : decode b_Mo_rename 26 = .ok (.if_icmp .ge 48, 3) := by decide +kernel
theorem d_Mo_rename_29 : decode b_Mo_rename 29 = .ok (.aload_n 0, 1) := by decide +kernel
theorem d_Mo_rename_30 : decode b_Mo_rename 30 = .ok (.getfield 71, 3) := by decide +kernel
theorem d_Mo_rename_33 : decode b_Mo_rename 33 = .ok (.iload 4, 2) := by decide +kernel
theorem d_Mo_rename_35 : decode b_Mo_rename 35 = .ok (.aload_n 0, 1) := by decide +kernel
theorem d_Mo_rename_36 : decode b_Mo_rename 36 = .ok (.getfield 59, 3) := by decide +kernel
theorem d_Mo_rename_39 : decode b_Mo_rename 39 = .ok (.iload 4, 2) := by decide +kernel
theorem d_Mo_rename_41 : decode b_Mo_rename 41 = .ok (.iaload, 1) := by decide +kernel
theorem d_Mo_rename_42 : decode b_Mo_rename 42 = .ok (.iload 4, 2) := by decide +kernel
theorem d_Mo_rename_44 : decode b_Mo_rename 44 = .ok (.if_icmp .ne 22, 3) := by decide +kernel
theorem d_Mo_rename_47 : decode b_Mo_rename 47 = .ok (.aload_n 0, 1) := by decide +kernel
theorem d_Mo_rename_48 : decode b_Mo_rename 48 = .ok (.iload 4, 2) := by decide +kernel
theorem d_Mo_rename_50 : decode b_Mo_rename 50 = .ok (.invokevirtual 165, 3) := by decide +kernel
theorem d_Mo_rename_53 : decode b_Mo_rename 53 = .ok (.ifCond .eq 13, 3) := by decide +kernel
theorem d_Mo_rename_56 : decode b_Mo_rename 56 = .ok (.aload_n 0, 1) := by decide +kernel
theorem d_Mo_rename_57 : decode b_Mo_rename 57 = .ok (.getfield 19, 3) := by decide +kernel
theorem d_Mo_rename_60 : decode b_Mo_rename 60 = .ok (.iload 4, 2) := by decide +kernel
theorem d_Mo_rename_62 : decode b_Mo_rename 62 = .ok (.iaload, 1) := by decide +kernel
theorem d_Mo_rename_63 : decode b_Mo_rename 63 = .ok (.goto 4, 3) := by decide +kernel
theorem d_Mo_rename_66 : decode b_Mo_rename 66 = .ok (.iconst (-1), 1) := by decide +kernel
theorem d_Mo_rename_67 : decode b_Mo_rename 67 = .ok (.iastore, 1) := by decide +kernel
theorem d_Mo_rename_68 : decode b_Mo_rename 68 = .ok (.iinc 4 1, 3) := by decide +kernel
theorem d_Mo_rename_71 : decode b_Mo_rename 71 = .ok (.goto (-51), 3) := by decide +kernel
theorem d_Mo_rename_74 : decode b_Mo_rename 74 = .ok (.iconst 0, 1) := by decide +kernel
theorem d_Mo_rename_75 : decode b_Mo_rename 75 = .ok (.istore 4, 2) := by decide +kernel
theorem d_Mo_rename_77 : decode b_Mo_rename 77 = .ok (.iload 4, 2) := by decide +kernel
theorem d_Mo_rename_79 : decode b_Mo_rename 79 = .ok (.aload_n 0, 1) := by decide +kernel
theorem d_Mo_rename_80 : decode b_Mo_rename 80 = .ok (.getfield 103, 3) := by decide +kernel
theorem d_Mo_rename_83 : decode b_Mo_rename 83 = .ok (.if_icmp .ge 51, 3) := by decide +kernel
theorem d_Mo_rename_86 : decode b_Mo_rename 86 = .ok (.aload_n 0, 1) := by decide +kernel
theorem d_Mo_rename_87 : decode b_Mo_rename 87 = .ok (.getfield 59, 3) := by decide +kernel
theorem d_Mo_rename_90 : decode b_Mo_rename 90 = .ok (.iload 4, 2) := by decide +kernel
theorem d_Mo_rename_92 : decode b_Mo_rename 92 = .ok (.iaload, 1) := by decide +kernel
theorem d_Mo_rename_93 : decode b_Mo_rename 93 = .ok (.iload 4, 2) := by decide +kernel
theorem d_Mo_rename_95 : decode b_Mo_rename 95 = .ok (.if_icmp .eq 6, 3) := by decide +kernel
theorem d_Mo_rename_98 : decode b_Mo_rename 98 = .ok (.goto 30, 3) := by decide +kernel
theorem d_Mo_rename_101 : decode b_Mo_rename 101 = .ok (.iinc 2 1, 3) := by decide +kernel
theorem d_Mo_rename_104 : decode b_Mo_rename 104 = .ok (.aload_n 0, 1) := by decide +kernel
theorem d_Mo_rename_105 : decode b_Mo_rename 105 = .ok (.getfield 71, 3) := by decide +kernel
theorem d_Mo_rename_108 : decode b_Mo_rename 108 = .ok (.iload 4, 2) := by decide +kernel
theorem d_Mo_rename_110 : decode b_Mo_rename 110 = .ok (.iaload, 1) := by decide +kernel
theorem d_Mo_rename_111 : decode b_Mo_rename 111 = .ok (.ifCond .ge 17, 3) := by decide +kernel
theorem d_Mo_rename_114 : decode b_Mo_rename 114 = .ok (.aload_n 0, 1) := by decide +kernel
theorem d_Mo_rename_115 : decode b_Mo_rename 115 = .ok (.getfield 71, 3) := by decide +kernel
theorem d_Mo_rename_118 : decode b_Mo_rename 118 = .ok (.iload 4, 2) := by decide +kernel
theorem d_Mo_rename_120 : decode b_Mo_rename 120 = .ok (.aload_n 0, 1) := by decide +kernel
theorem d_Mo_rename_121 : decode b_Mo_rename 121 = .ok (.iload 4, 2) := by decide +kernel
theorem d_Mo_rename_123 : decode b_Mo_rename 123 = .ok (.iload_n 1, 1) := by decide +kernel
theorem d_Mo_rename_124 : decode b_Mo_rename 124 = .ok (.invokevirtual 168, 3) := by decide +kernel
theorem d_Mo_rename_127 : decode b_Mo_rename 127 = .ok (.iastore, 1) := by decide +kernel
theorem d_Mo_rename_128 : decode b_Mo_rename 128 = .ok (.iinc 4 1, 3) := by decide +kernel
theorem d_Mo_rename_131 : decode b_Mo_rename 131 = .ok (.goto (-54), 3) := by decide +kernel
theorem d_Mo_rename_134 : decode b_Mo_rename 134 = .ok (.iconst 0, 1) := by decide +kernel
theorem d_Mo_rename_135 : decode b_Mo_rename 135 = .ok (.istore 4, 2) := by decide +kernel
theorem d_Mo_rename_137 : decode b_Mo_rename 137 = .ok (.iload 4, 2) := by decide +kernel
theorem d_Mo_rename_139 : decode b_Mo_rename 139 = .ok (.aload_n 0, 1) := by decide +kernel
theorem d_Mo_rename_140 : decode b_Mo_rename 140 = .ok (.getfield 103, 3) := by decide +kernel
theorem d_Mo_rename_143 : decode b_Mo_rename 143 = .ok (.if_icmp .ge 162, 3) := by decide +kernel
theorem d_Mo_rename_146 : decode b_Mo_rename 146 = .ok (.iload 4, 2) := by decide +kernel
theorem d_Mo_rename_148 : decode b_Mo_rename 148 = .ok (.iconst 5, 1) := by decide +kernel
theorem d_Mo_rename_149 : decode b_Mo_rename 149 = .ok (.imul, 1) := by decide +kernel
theorem d_Mo_rename_150 : decode b_Mo_rename 150 = .ok (.istore 5, 2) := by decide +kernel
theorem d_Mo_rename_152 : decode b_Mo_rename 152 = .ok (.iload 5, 2) := by decide +kernel
theorem d_Mo_rename_154 : decode b_Mo_rename 154 = .ok (.iload 4, 2) := by decide +kernel
theorem d_Mo_rename_156 : decode b_Mo_rename 156 = .ok (.iconst 5, 1) := by decide +kernel
theorem d_Mo_rename_157 : decode b_Mo_rename 157 = .ok (.imul, 1) := by decide +kernel
theorem d_Mo_rename_158 : decode b_Mo_rename 158 = .ok (.aload_n 0, 1) := by decide +kernel
theorem d_Mo_rename_159 : decode b_Mo_rename 159 = .ok (.getfield 25, 3) := by decide +kernel
theorem d_Mo_rename_162 : decode b_Mo_rename 162 = .ok (.iload 4, 2) := by decide +kernel
theorem d_Mo_rename_164 : decode b_Mo_rename 164 = .ok (.iaload, 1) := by decide +kernel
theorem d_Mo_rename_165 : decode b_Mo_rename 165 = .ok (.iadd, 1) := by decide +kernel
theorem d_Mo_rename_166 : decode b_Mo_rename 166 = .ok (.if_icmp .ge 133, 3) := by decide +kernel
theorem d_Mo_rename_169 : decode b_Mo_rename 169 = .ok (.aload_n 0, 1) := by decide +kernel
theorem d_Mo_rename_170 : decode b_Mo_rename 170 = .ok (.getfield 47, 3) := by decide +kernel
theorem d_Mo_rename_173 : decode b_Mo_rename 173 = .ok (.iload 5, 2) := by decide +kernel
theorem d_Mo_rename_175 : decode b_Mo_rename 175 = .ok (.iaload, 1) := by decide +kernel
theorem d_Mo_rename_176 : decode b_Mo_rename 176 = .ok (.iconst 1, 1) := by decide +kernel
theorem d_Mo_rename_177 : decode b_Mo_rename 177 = .ok (.if_icmp .ne 31, 3) := by decide +kernel
theorem d_Mo_rename_180 : decode b_Mo_rename 180 = .ok (.aload_n 0, 1) := by decide +kernel
theorem d_Mo_rename_181 : decode b_Mo_rename 181 = .ok (.aload_n 0, 1) := by decide +kernel
theorem d_Mo_rename_182 : decode b_Mo_rename 182 = .ok (.getfield 50, 3) := by decide +kernel
theorem d_Mo_rename_185 : decode b_Mo_rename 185 = .ok (.iload 5, 2) := by decide +kernel
theorem d_Mo_rename_187 : decode b_Mo_rename 187 = .ok (.iaload, 1) := by decide +kernel
theorem d_Mo_rename_188 : decode b_Mo_rename 188 = .ok (.aload_n 0, 1) := by decide +kernel
theorem d_Mo_rename_189 : decode b_Mo_rename 189 = .ok (.getfield 53, 3) := by decide +kernel
theorem d_Mo_rename_192 : decode b_Mo_rename 192 = .ok (.iload 5, 2) := by decide +kernel
theorem d_Mo_rename_194 : decode b_Mo_rename 194 = .ok (.iaload, 1) := by decide +kernel
theorem d_Mo_rename_195 : decode b_Mo_rename 195 = .ok (.aload_n 0, 1) := by decide +kernel
theorem d_Mo_rename_196 : decode b_Mo_rename 196 = .ok (.getfield 56, 3) := by decide +kernel
theorem d_Mo_rename_199 : decode b_Mo_rename 199 = .ok (.iload 5, 2) := by decide +kernel
theorem d_Mo_rename_201 : decode b_Mo_rename 201 = .ok (.iaload, 1) := by decide +kernel
theorem d_Mo_rename_202 : decode b_Mo_rename 202 = .ok (.invokevirtual 125, 3) := by decide +kernel
theorem d_Mo_rename_205 : decode b_Mo_rename 205 = .ok (.goto 4, 3) := by decide +kernel
theorem d_Mo_rename_208 : decode b_Mo_rename 208 = .ok (.iconst (-1), 1) := by decide +kernel
theorem d_Mo_rename_209 : decode b_Mo_rename 209 = .ok (.istore 6, 2) := by decide +kernel
theorem d_Mo_rename_211 : decode b_Mo_rename 211 = .ok (.aload_n 0, 1) := by decide +kernel
theorem d_Mo_rename_212 : decode b_Mo_rename 212 = .ok (.getfield 74, 3) := by decide +kernel
theorem d_Mo_rename_215 : decode b_Mo_rename 215 = .ok (.iload 5, 2) := by decide +kernel
theorem d_Mo_rename_217 : decode b_Mo_rename 217 = .ok (.iload 6, 2) := by decide +kernel
theorem d_Mo_rename_219 : decode b_Mo_rename 219 = .ok (.ifCond .ge 8, 3) := by decide +kernel
theorem d_Mo_rename_222 : decode b_Mo_rename 222 = .ok (.bipush 26, 2) := by decide +kernel
theorem d_Mo_rename_224 : decode b_Mo_rename 224 = .ok (.goto 15, 3) := by decide +kernel
theorem d_Mo_rename_227 : decode b_Mo_rename 227 = .ok (.aload_n 0, 1) := by decide +kernel
theorem d_Mo_rename_228 : decode b_Mo_rename 228 = .ok (.getfield 71, 3) := by decide +kernel
theorem d_Mo_rename_231 : decode b_Mo_rename 231 = .ok (.aload_n 0, 1) := by decide +kernel
theorem d_Mo_rename_232 : decode b_Mo_rename 232 = .ok (.getfield 59, 3) := by decide +kernel
theorem d_Mo_rename_235 : decode b_Mo_rename 235 = .ok (.iload 6, 2) := by decide +kernel
theorem d_Mo_rename_237 : decode b_Mo_rename 237 = .ok (.iaload, 1) := by decide +kernel
theorem d_Mo_rename_238 : decode b_Mo_rename 238 = .ok (.iaload, 1) := by decide +kernel
theorem d_Mo_rename_239 : decode b_Mo_rename 239 = .ok (.iastore, 1) := by decide +kernel
theorem d_Mo_rename_240 : decode b_Mo_rename 240 = .ok (.aload_n 0, 1) := by decide +kernel
theorem d_Mo_rename_241 : decode b_Mo_rename 241 = .ok (.getfield 47, 3) := by decide +kernel
theorem d_Mo_rename_244 : decode b_Mo_rename 244 = .ok (.iload 5, 2) := by decide +kernel
theorem d_Mo_rename_246 : decode b_Mo_rename 246 = .ok (.iaload, 1) := by decide +kernel
theorem d_Mo_rename_247 : decode b_Mo_rename 247 = .ok (.iconst 2, 1) := by decide +kernel
theorem d_Mo_rename_248 : decode b_Mo_rename 248 = .ok (.if_icmp .eq 6, 3) := by decide +kernel
theorem d_Mo_rename_251 : decode b_Mo_rename 251 = .ok (.goto 42, 3) := by decide +kernel
theorem d_Mo_rename_254 : decode b_Mo_rename 254 = .ok (.aload_n 0, 1) := by decide +kernel
theorem d_Mo_rename_255 : decode b_Mo_rename 255 = .ok (.getfield 74, 3) := by decide +kernel
theorem d_Mo_rename_258 : decode b_Mo_rename 258 = .ok (.iload 5, 2) := by decide +kernel
theorem d_Mo_rename_260 : decode b_Mo_rename 260 = .ok (.aload_n 0, 1) := by decide +kernel
theorem d_Mo_rename_261 : decode b_Mo_rename 261 = .ok (.getfield 59, 3) := by decide +kernel
theorem d_Mo_rename_264 : decode b_Mo_rename 264 = .ok (.iload_n 3, 1) := by decide +kernel
theorem d_Mo_rename_265 : decode b_Mo_rename 265 = .ok (.iaload, 1) := by decide +kernel
theorem d_Mo_rename_266 : decode b_Mo_rename 266 = .ok (.aload_n 0, 1) := by decide +kernel
theorem d_Mo_rename_267 : decode b_Mo_rename 267 = .ok (.getfield 103, 3) := by decide +kernel
theorem d_Mo_rename_270 : decode b_Mo_rename 270 = .ok (.if_icmp .ge 17, 3) := by decide +kernel
theorem d_Mo_rename_273 : decode b_Mo_rename 273 = .ok (.aload_n 0, 1) := by decide +kernel
theorem d_Mo_rename_274 : decode b_Mo_rename 274 = .ok (.getfield 71, 3) := by decide +kernel
theorem d_Mo_rename_277 : decode b_Mo_rename 277 = .ok (.aload_n 0, 1) := by decide +kernel
theorem d_Mo_rename_278 : decode b_Mo_rename 278 = .ok (.getfield 59, 3) := by decide +kernel
theorem d_Mo_rename_281 : decode b_Mo_rename 281 = .ok (.iload_n 3, 1) := by decide +kernel
theorem d_Mo_rename_282 : decode b_Mo_rename 282 = .ok (.iaload, 1) := by decide +kernel
theorem d_Mo_rename_283 : decode b_Mo_rename 283 = .ok (.iaload, 1) := by decide +kernel
theorem d_Mo_rename_284 : decode b_Mo_rename 284 = .ok (.goto 5, 3) := by decide +kernel
theorem d_Mo_rename_287 : decode b_Mo_rename 287 = .ok (.bipush 26, 2) := by decide +kernel
theorem d_Mo_rename_289 : decode b_Mo_rename 289 = .ok (.iastore, 1) := by decide +kernel
theorem d_Mo_rename_290 : decode b_Mo_rename 290 = .ok (.iinc 3 1, 3) := by decide +kernel
theorem d_Mo_rename_293 : decode b_Mo_rename 293 = .ok (.iinc 5 1, 3) := by decide +kernel
theorem d_Mo_rename_296 : decode b_Mo_rename 296 = .ok (.goto (-144), 3) := by decide +kernel
theorem d_Mo_rename_299 : decode b_Mo_rename 299 = .ok (.iinc 4 1, 3) := by decide +kernel
theorem d_Mo_rename_302 : decode b_Mo_rename 302 = .ok (.goto (-165), 3) := by decide +kernel
theorem d_Mo_rename_305 : decode b_Mo_rename 305 = .ok (.iconst 0, 1) := by decide +kernel
theorem d_Mo_rename_306 : decode b_Mo_rename 306 = .ok (.istore 4, 2) := by decide +kernel
theorem d_Mo_rename_308 : decode b_Mo_rename 308 = .ok (.iload 4, 2) := by decide +kernel
theorem d_Mo_rename_310 : decode b_Mo_rename 310 = .ok (.aload_n 0, 1) := by decide +kernel
theorem d_Mo_rename_311 : decode b_Mo_rename 311 = .ok (.getfield 103, 3) := by decide +kernel
theorem d_Mo_rename_314 : decode b_Mo_rename 314 = .ok (.if_icmp .ge 81, 3) := by decide +kernel
theorem d_Mo_rename_317 : decode b_Mo_rename 317 = .ok (.iload 4, 2) := by decide +kernel
theorem d_Mo_rename_319 : decode b_Mo_rename 319 = .ok (.iconst 5, 1) := by decide +kernel
theorem d_Mo_rename_320 : decode b_Mo_rename 320 = .ok (.imul, 1) := by decide +kernel
theorem d_Mo_rename_321 : decode b_Mo_rename 321 = .ok (.istore 5, 2) := by decide +kernel
theorem d_Mo_rename_323 : decode b_Mo_rename 323 = .ok (.iload 5, 2) := by decide +kernel
theorem d_Mo_rename_325 : decode b_Mo_rename 325 = .ok (.iload 4, 2) := by decide +kernel
theorem d_Mo_rename_327 : decode b_Mo_rename 327 = .ok (.iconst 5, 1) := by decide +kernel
theorem d_Mo_rename_328 : decode b_Mo_rename 328 = .ok (.imul, 1) := by decide +kernel
theorem d_Mo_rename_329 : decode b_Mo_rename 329 = .ok (.aload_n 0, 1) := by decide +kernel
theorem d_Mo_rename_330 : decode b_Mo_rename 330 = .ok (.getfield 25, 3) := by decide +kernel
theorem d_Mo_rename_333 : decode b_Mo_rename 333 = .ok (.iload 4, 2) := by decide +kernel
theorem d_Mo_rename_335 : decode b_Mo_rename 335 = .ok (.iaload, 1) := by decide +kernel
theorem d_Mo_rename_336 : decode b_Mo_rename 336 = .ok (.iadd, 1) := by decide +kernel
theorem d_Mo_rename_337 : decode b_Mo_rename 337 = .ok (.if_icmp .ge 33, 3) := by decide +kernel
theorem d_Mo_rename_340 : decode b_Mo_rename 340 = .ok (.aload_n 0, 1) := by decide +kernel
theorem d_Mo_rename_341 : decode b_Mo_rename 341 = .ok (.getfield 47, 3) := by decide +kernel
theorem d_Mo_rename_344 : decode b_Mo_rename 344 = .ok (.iload 5, 2) := by decide +kernel
theorem d_Mo_rename_346 : decode b_Mo_rename 346 = .ok (.iaload, 1) := by decide +kernel
theorem d_Mo_rename_347 : decode b_Mo_rename 347 = .ok (.ifCond .le 17, 3) := by decide +kernel
theorem d_Mo_rename_350 : decode b_Mo_rename 350 = .ok (.aload_n 0, 1) := by decide +kernel
theorem d_Mo_rename_351 : decode b_Mo_rename 351 = .ok (.getfield 53, 3) := by decide +kernel
theorem d_Mo_rename_354 : decode b_Mo_rename 354 = .ok (.iload 5, 2) := by decide +kernel
theorem d_Mo_rename_356 : decode b_Mo_rename 356 = .ok (.aload_n 0, 1) := by decide +kernel
theorem d_Mo_rename_357 : decode b_Mo_rename 357 = .ok (.getfield 74, 3) := by decide +kernel
theorem d_Mo_rename_360 : decode b_Mo_rename 360 = .ok (.iload 5, 2) := by decide +kernel
theorem d_Mo_rename_362 : decode b_Mo_rename 362 = .ok (.iaload, 1) := by decide +kernel
theorem d_Mo_rename_363 : decode b_Mo_rename 363 = .ok (.iastore, 1) := by decide +kernel
theorem d_Mo_rename_364 : decode b_Mo_rename 364 = .ok (.iinc 5 1, 3) := by decide +kernel
theorem d_Mo_rename_367 : decode b_Mo_rename 367 = .ok (.goto (-44), 3) := by decide +kernel
theorem d_Mo_rename_370 : decode b_Mo_rename 370 = .ok (.aload_n 0, 1) := by decide +kernel
theorem d_Mo_rename_371 : decode b_Mo_rename 371 = .ok (.getfield 19, 3) := by decide +kernel
theorem d_Mo_rename_374 : decode b_Mo_rename 374 = .ok (.iload 4, 2) := by decide +kernel
theorem d_Mo_rename_376 : decode b_Mo_rename 376 = .ok (.aload_n 0, 1) := by decide +kernel
theorem d_Mo_rename_377 : decode b_Mo_rename 377 = .ok (.getfield 71, 3) := by decide +kernel
theorem d_Mo_rename_380 : decode b_Mo_rename 380 = .ok (.aload_n 0, 1) := by decide +kernel
theorem d_Mo_rename_381 : decode b_Mo_rename 381 = .ok (.getfield 59, 3) := by decide +kernel
theorem d_Mo_rename_384 : decode b_Mo_rename 384 = .ok (.iload 4, 2) := by decide +kernel
theorem d_Mo_rename_386 : decode b_Mo_rename 386 = .ok (.iaload, 1) := by decide +kernel
theorem d_Mo_rename_387 : decode b_Mo_rename 387 = .ok (.iaload, 1) := by decide +kernel
theorem d_Mo_rename_388 : decode b_Mo_rename 388 = .ok (.iastore, 1) := by decide +kernel
theorem d_Mo_rename_389 : decode b_Mo_rename 389 = .ok (.iinc 4 1, 3) := by decide +kernel
theorem d_Mo_rename_392 : decode b_Mo_rename 392 = .ok (.goto (-84), 3) := by decide +kernel
theorem d_Mo_rename_395 : decode b_Mo_rename 395 = .ok (.iload_n 2, 1) := by decide +kernel
theorem d_Mo_rename_396 : decode b_Mo_rename 396 = .ok (.ireturn, 1) := by decide +kernel
theorem d_Mo_gather_0 : decode b_Mo_gather 0 = .ok (.iconst 0, 1) := by decide +kernel
theorem d_Mo_gather_1 : decode b_Mo_gather 1 = .ok (.istore_n 1, 1) := by decide +kernel
theorem d_Mo_gather_2 : decode b_Mo_gather 2 = .ok (.iload_n 1, 1) := by decide +kernel
theorem d_Mo_gather_3 : decode b_Mo_gather 3 = .ok (.aload_n 0, 1) := by decide +kernel
theorem d_Mo_gather_4 : decode b_Mo_gather 4 = .ok (.getfield 103, 3) := by decide +kernel
theorem d_Mo_gather_7 : decode b_Mo_gather 7 = .ok (.if_icmp .ge 32, 3) := by decide +kernel
theorem d_Mo_gather_10 : decode b_Mo_gather 10 = .ok (.aload_n 0, 1) := by decide +kernel
theorem d_Mo_gather_11 : decode b_Mo_gather 11 = .ok (.iload_n 1, 1) := by decide +kernel
theorem d_Mo_gather_12 : decode b_Mo_gather 12 = .ok (.aload_n 0, 1) := by decide +kernel
theorem d_Mo_gather_13 : decode b_Mo_gather 13 = .ok (.getfield 16, 3) := by decide +kernel
theorem d_Mo_gather_16 : decode b_Mo_gather 16 = .ok (.iload_n 1, 1) := by decide +kernel
theorem d_Mo_gather_17 : decode b_Mo_gather 17 = .ok (.iaload, 1) := by decide +kernel
theorem d_Mo_gather_18 : decode b_Mo_gather 18 = .ok (.aload_n 0, 1) := by decide +kernel
theorem d_Mo_gather_19 : decode b_Mo_gather 19 = .ok (.getfield 19, 3) := by decide +kernel
theorem d_Mo_gather_22 : decode b_Mo_gather 22 = .ok (.iload_n 1, 1) := by decide +kernel
theorem d_Mo_gather_23 : decode b_Mo_gather 23 = .ok (.iaload, 1) := by decide +kernel
theorem d_Mo_gather_24 : decode b_Mo_gather 24 = .ok (.aload_n 0, 1) := by decide +kernel
theorem d_Mo_gather_25 : decode b_Mo_gather 25 = .ok (.getfield 22, 3) := by decide +kernel
theorem d_Mo_gather_28 : decode b_Mo_gather 28 = .ok (.iload_n 1, 1) := by decide +kernel
theorem d_Mo_gather_29 : decode b_Mo_gather 29 = .ok (.iaload, 1) := by decide +kernel
theorem d_Mo_gather_30 : decode b_Mo_gather 30 = .ok (.invokevirtual 148, 3) := by decide +kernel
theorem d_Mo_gather_33 : decode b_Mo_gather 33 = .ok (.iinc 1 1, 3) := by decide +kernel
theorem d_Mo_gather_36 : decode b_Mo_gather 36 = .ok (.goto (-34), 3) := by decide +kernel
theorem d_Mo_gather_39 : decode b_Mo_gather 39 = .ok (.aload_n 0, 1) := by decide +kernel
theorem d_Mo_gather_40 : decode b_Mo_gather 40 = .ok (.getfield 103, 3) := by decide +kernel
theorem d_Mo_gather_43 : decode b_Mo_gather 43 = .ok (.istore_n 1, 1) := by decide +kernel
theorem d_Mo_gather_44 : decode b_Mo_gather 44 = .ok (.iconst 0, 1) := by decide +kernel
theorem d_Mo_gather_45 : decode b_Mo_gather 45 = .ok (.istore_n 2, 1) := by decide +kernel
theorem d_Mo_gather_46 : decode b_Mo_gather 46 = .ok (.iload_n 2, 1) := by decide +kernel
theorem d_Mo_gather_47 : decode b_Mo_gather 47 = .ok (.aload_n 0, 1) := by decide +kernel
theorem d_Mo_gather_48 : decode b_Mo_gather 48 = .ok (.getfield 103, 3) := by decide +kernel
theorem d_Mo_gather_51 : decode b_Mo_gather 51 = .ok (.if_icmp .ge 72, 3) := by decide +kernel
theorem d_Mo_gather_54 : decode b_Mo_gather 54 = .ok (.iload_n 2, 1) := by decide +kernel
theorem d_Mo_gather_55 : decode b_Mo_gather 55 = .ok (.iconst 5, 1) := by decide +kernel
theorem d_Mo_gather_56 : decode b_Mo_gather 56 = .ok (.imul, 1) := by decide +kernel
theorem d_Mo_gather_57 : decode b_Mo_gather 57 = .ok (.istore_n 3, 1) := by decide +kernel
theorem d_Mo_gather_58 : decode b_Mo_gather 58 = .ok (.iload_n 3, 1) := by decide +kernel
theorem d_Mo_gather_59 : decode b_Mo_gather 59 = .ok (.iload_n 2, 1) := by decide +kernel
theorem d_Mo_gather_60 : decode b_Mo_gather 60 = .ok (.iconst 5, 1) := by decide +kernel
theorem d_Mo_gather_61 : decode b_Mo_gather 61 = .ok (.imul, 1) := by decide +kernel
theorem d_Mo_gather_62 : decode b_Mo_gather 62 = .ok (.aload_n 0, 1) := by decide +kernel
theorem d_Mo_gather_63 : decode b_Mo_gather 63 = .ok (.getfield 25, 3) := by decide +kernel
theorem d_Mo_gather_66 : decode b_Mo_gather 66 = .ok (.iload_n 2, 1) := by decide +kernel
theorem d_Mo_gather_67 : decode b_Mo_gather 67 = .ok (.iaload, 1) := by decide +kernel
theorem d_Mo_gather_68 : decode b_Mo_gather 68 = .ok (.iadd, 1) := by decide +kernel
theorem d_Mo_gather_69 : decode b_Mo_gather 69 = .ok (.if_icmp .ge 48, 3) := by decide +kernel
theorem d_Mo_gather_72 : decode b_Mo_gather 72 = .ok (.aload_n 0, 1) := by decide +kernel
theorem d_Mo_gather_73 : decode b_Mo_gather 73 = .ok (.getfield 47, 3) := by decide +kernel
theorem d_Mo_gather_76 : decode b_Mo_gather 76 = .ok (.iload_n 3, 1) := by decide +kernel
theorem d_Mo_gather_77 : decode b_Mo_gather 77 = .ok (.iaload, 1) := by decide +kernel
theorem d_Mo_gather_78 : decode b_Mo_gather 78 = .ok (.iconst 2, 1) := by decide +kernel
theorem d_Mo_gather_79 : decode b_Mo_gather 79 = .ok (.if_icmp .eq 6, 3) := by decide +kernel
theorem d_Mo_gather_82 : decode b_Mo_gather 82 = .ok (.goto 29, 3) := by decide +kernel
theorem d_Mo_gather_85 : decode b_Mo_gather 85 = .ok (.aload_n 0, 1) := by decide +kernel
theorem d_Mo_gather_86 : decode b_Mo_gather 86 = .ok (.iload_n 1, 1) := by decide +kernel
theorem d_Mo_gather_87 : decode b_Mo_gather 87 = .ok (.aload_n 0, 1) := by decide +kernel
theorem d_Mo_gather_88 : decode b_Mo_gather 88 = .ok (.getfield 16, 3) := by decide +kernel
theorem d_Mo_gather_91 : decode b_Mo_gather 91 = .ok (.iload_n 2, 1) := by decide +kernel
theorem d_Mo_gather_92 : decode b_Mo_gather 92 = .ok (.iaload, 1) := by decide +kernel
theorem d_Mo_gather_93 : decode b_Mo_gather 93 = .ok (.aload_n 0, 1) := by decide +kernel
theorem d_Mo_gather_94 : decode b_Mo_gather 94 = .ok (.getfield 53, 3) := by decide +kernel
theorem d_Mo_gather_97 : decode b_Mo_gather 97 = .ok (.iload_n 3, 1) := by decide +kernel
theorem d_Mo_gather_98 : decode b_Mo_gather 98 = .ok (.iaload, 1) := by decide +kernel
theorem d_Mo_gather_99 : decode b_Mo_gather 99 = .ok (.aload_n 0, 1) := by decide +kernel
theorem d_Mo_gather_100 : decode b_Mo_gather 100 = .ok (.getfield 56, 3) := by decide +kernel
theorem d_Mo_gather_103 : decode b_Mo_gather 103 = .ok (.iload_n 3, 1) := by decide +kernel
theorem d_Mo_gather_104 : decode b_Mo_gather 104 = .ok (.iaload, 1) := by decide +kernel
theorem d_Mo_gather_105 : decode b_Mo_gather 105 = .ok (.invokevirtual 148, 3) := by decide +kernel
theorem d_Mo_gather_108 : decode b_Mo_gather 108 = .ok (.iinc 1 1, 3) := by decide +kernel
theorem d_Mo_gather_111 : decode b_Mo_gather 111 = .ok (.iinc 3 1, 3) := by decide +kernel
theorem d_Mo_gather_114 : decode b_Mo_gather 114 = .ok (.goto (-56), 3) := by decide +kernel
theorem d_Mo_gather_117 : decode b_Mo_gather 117 = .ok (.iinc 2 1, 3) := by decide +kernel
theorem d_Mo_gather_120 : decode b_Mo_gather 120 = .ok (.goto (-74), 3) := by decide +kernel
theorem d_Mo_gather_123 : decode b_Mo_gather 123 = .ok (.iconst 1, 1) := by decide +kernel
theorem d_Mo_gather_124 : decode b_Mo_gather 124 = .ok (.istore_n 2, 1) := by decide +kernel
theorem d_Mo_gather_125 : decode b_Mo_gather 125 = .ok (.iload_n 2, 1) := by decide +kernel
theorem d_Mo_gather_126 : decode b_Mo_gather 126 = .ok (.ifCond .eq 77, 3) := by decide +kernel
theorem d_Mo_gather_129 : decode b_Mo_gather 129 = .ok (.iconst 0, 1) := by decide +kernel
theorem d_Mo_gather_130 : decode b_Mo_gather 130 = .ok (.istore_n 2, 1) := by decide +kernel
theorem d_Mo_gather_131 : decode b_Mo_gather 131 = .ok (.iconst 0, 1) := by decide +kernel
theorem d_Mo_gather_132 : decode b_Mo_gather 132 = .ok (.istore_n 3, 1) := by decide +kernel
theorem d_Mo_gather_133 : decode b_Mo_gather 133 = .ok (.iload_n 3, 1) := by decide +kernel
theorem d_Mo_gather_134 : decode b_Mo_gather 134 = .ok (.iload_n 1, 1) := by decide +kernel
theorem d_Mo_gather_135 : decode b_Mo_gather 135 = .ok (.if_icmp .ge 65, 3) := by decide +kernel
theorem d_Mo_gather_138 : decode b_Mo_gather 138 = .ok (.iconst 0, 1) := by decide +kernel
theorem d_Mo_gather_139 : decode b_Mo_gather 139 = .ok (.istore 4, 2) := by decide +kernel
theorem d_Mo_gather_141 : decode b_Mo_gather 141 = .ok (.iload 4, 2) := by decide +kernel
theorem d_Mo_gather_143 : decode b_Mo_gather 143 = .ok (.iload_n 1, 1) := by decide +kernel
theorem d_Mo_gather_144 : decode b_Mo_gather 144 = .ok (.if_icmp .ge 50, 3) := by decide +kernel
theorem d_Mo_gather_147 : decode b_Mo_gather 147 = .ok (.aload_n 0, 1) := by decide +kernel
theorem d_Mo_gather_148 : decode b_Mo_gather 148 = .ok (.getfield 59, 3) := by decide +kernel
theorem d_Mo_gather_151 : decode b_Mo_gather 151 = .ok (.iload_n 3, 1) := by decide +kernel
theorem d_Mo_gather_152 : decode b_Mo_gather 152 = .ok (.iaload, 1) := by decide +kernel
theorem d_Mo_gather_153 : decode b_Mo_gather 153 = .ok (.aload_n 0, 1) := by decide +kernel
theorem d_Mo_gather_154 : decode b_Mo_gather 154 = .ok (.getfield 59, 3) := by decide +kernel
theorem d_Mo_gather_157 : decode b_Mo_gather 157 = .ok (.iload 4, 2) := by decide +kernel
theorem d_Mo_gather_159 : decode b_Mo_gather 159 = .ok (.iaload, 1) := by decide +kernel
theorem d_Mo_gather_160 : decode b_Mo_gather 160 = .ok (.if_icmp .le 28, 3) := by decide +kernel
theorem d_Mo_gather_163 : decode b_Mo_gather 163 = .ok (.aload_n 0, 1) := by decide +kernel
theorem d_Mo_gather_164 : decode b_Mo_gather 164 = .ok (.iload_n 3, 1) := by decide +kernel
theorem d_Mo_gather_165 : decode b_Mo_gather 165 = .ok (.iload 4, 2) := by decide +kernel
theorem d_Mo_gather_167 : decode b_Mo_gather 167 = .ok (.invokevirtual 152, 3) := by decide +kernel
theorem d_Mo_gather_170 : decode b_Mo_gather 170 = .ok (.ifCond .eq 18, 3) := by decide +kernel
theorem d_Mo_gather_173 : decode b_Mo_gather 173 = .ok (.aload_n 0, 1) := by decide +kernel
theorem d_Mo_gather_174 : decode b_Mo_gather 174 = .ok (.getfield 59, 3) := by decide +kernel
theorem d_Mo_gather_177 : decode b_Mo_gather 177 = .ok (.iload_n 3, 1) := by decide +kernel
theorem d_Mo_gather_178 : decode b_Mo_gather 178 = .ok (.aload_n 0, 1) := by decide +kernel
theorem d_Mo_gather_179 : decode b_Mo_gather 179 = .ok (.getfield 59, 3) := by decide +kernel
theorem d_Mo_gather_182 : decode b_Mo_gather 182 = .ok (.iload 4, 2) := by decide +kernel
theorem d_Mo_gather_184 : decode b_Mo_gather 184 = .ok (.iaload, 1) := by decide +kernel
theorem d_Mo_gather_185 : decode b_Mo_gather 185 = .ok (.iastore, 1) := by decide +kernel
theorem d_Mo_gather_186 : decode b_Mo_gather 186 = .ok (.iconst 1, 1) := by decide +kernel
theorem d_Mo_gather_187 : decode b_Mo_gather 187 = .ok (.istore_n 2, 1) := by decide +kernel
theorem d_Mo_gather_188 : decode b_Mo_gather 188 = .ok (.iinc 4 1, 3) := by decide +kernel
theorem d_Mo_gather_191 : decode b_Mo_gather 191 = .ok (.goto (-50), 3) := by decide +kernel
theorem d_Mo_gather_194 : decode b_Mo_gather 194 = .ok (.iinc 3 1, 3) := by decide +kernel
theorem d_Mo_gather_197 : decode b_Mo_gather 197 = .ok (.goto (-64), 3) := by decide +kernel
theorem d_Mo_gather_200 : decode b_Mo_gather 200 = .ok (.goto (-75), 3) := by decide +kernel
theorem d_Mo_gather_203 : decode b_Mo_gather 203 = .ok (.iload_n 1, 1) := by decide +kernel
theorem d_Mo_gather_204 : decode b_Mo_gather 204 = .ok (.ireturn, 1) := by decide +kernel
theorem d_Mo_member_0 : decode b_Mo_member 0 = .ok (.aload_n 0, 1) := by decide +kernel
theorem d_Mo_member_1 : decode b_Mo_member 1 = .ok (.getfield 59, 3) := by decide +kernel
theorem d_Mo_member_4 : decode b_Mo_member 4 = .ok (.iload_n 1, 1) := by decide +kernel
theorem d_Mo_member_5 : decode b_Mo_member 5 = .ok (.iload_n 1, 1) := by decide +kernel
theorem d_Mo_member_6 : decode b_Mo_member 6 = .ok (.iastore, 1) := by decide +kernel
theorem d_Mo_member_7 : decode b_Mo_member 7 = .ok (.aload_n 0, 1) := by decide +kernel
theorem d_Mo_member_8 : decode b_Mo_member 8 = .ok (.getfield 62, 3) := by decide +kernel
theorem d_Mo_member_11 : decode b_Mo_member 11 = .ok (.iload_n 1, 1) := by decide +kernel
theorem d_Mo_member_12 : decode b_Mo_member 12 = .ok (.iload_n 2, 1) := by decide +kernel
theorem d_Mo_member_13 : decode b_Mo_member 13 = .ok (.iastore, 1) := by decide +kernel
theorem d_Mo_member_14 : decode b_Mo_member 14 = .ok (.aload_n 0, 1) := by decide +kernel
theorem d_Mo_member_15 : decode b_Mo_member 15 = .ok (.getfield 65, 3) := by decide +kernel
theorem d_Mo_member_18 : decode b_Mo_member 18 = .ok (.iload_n 1, 1) := by decide +kernel
theorem d_Mo_member_19 : decode b_Mo_member 19 = .ok (.iload_n 3, 1) := by decide +kernel
theorem d_Mo_member_20 : decode b_Mo_member 20 = .ok (.iastore, 1) := by decide +kernel
theorem d_Mo_member_21 : decode b_Mo_member 21 = .ok (.aload_n 0, 1) := by decide +kernel
theorem d_Mo_member_22 : decode b_Mo_member 22 = .ok (.getfield 68, 3) := by decide +kernel
theorem d_Mo_member_25 : decode b_Mo_member 25 = .ok (.iload_n 1, 1) := by decide +kernel
theorem d_Mo_member_26 : decode b_Mo_member 26 = .ok (.iload 4, 2) := by decide +kernel
theorem d_Mo_member_28 : decode b_Mo_member 28 = .ok (.iastore, 1) := by decide +kernel
theorem d_Mo_member_29 : decode b_Mo_member 29 = .ok (.return_, 1) := by decide +kernel
theorem d_Mo_alike_0 : decode b_Mo_alike 0 = .ok (.aload_n 0, 1) := by decide +kernel
theorem d_Mo_alike_1 : decode b_Mo_alike 1 = .ok (.getfield 65, 3) := by decide +kernel
theorem d_Mo_alike_4 : decode b_Mo_alike 4 = .ok (.iload_n 1, 1) := by decide +kernel
theorem d_Mo_alike_5 : decode b_Mo_alike 5 = .ok (.iaload, 1) := by decide +kernel
theorem d_Mo_alike_6 : decode b_Mo_alike 6 = .ok (.aload_n 0, 1) := by decide +kernel
theorem d_Mo_alike_7 : decode b_Mo_alike 7 = .ok (.getfield 65, 3) := by decide +kernel
theorem d_Mo_alike_10 : decode b_Mo_alike 10 = .ok (.iload_n 2, 1) := by decide +kernel
theorem d_Mo_alike_11 : decode b_Mo_alike 11 = .ok (.iaload, 1) := by decide +kernel
theorem d_Mo_alike_12 : decode b_Mo_alike 12 = .ok (.if_icmp .ne 41, 3) := by decide +kernel
theorem d_Mo_alike_15 : decode b_Mo_alike 15 = .ok (.aload_n 0, 1) := by decide +kernel
theorem d_Mo_alike_16 : decode b_Mo_alike 16 = .ok (.getfield 68, 3) := by decide +kernel
theorem d_Mo_alike_19 : decode b_Mo_alike 19 = .ok (.iload_n 1, 1) := by decide +kernel
theorem d_Mo_alike_20 : decode b_Mo_alike 20 = .ok (.iaload, 1) := by decide +kernel
theorem d_Mo_alike_21 : decode b_Mo_alike 21 = .ok (.aload_n 0, 1) := by decide +kernel
theorem d_Mo_alike_22 : decode b_Mo_alike 22 = .ok (.getfield 68, 3) := by decide +kernel
theorem d_Mo_alike_25 : decode b_Mo_alike 25 = .ok (.iload_n 2, 1) := by decide +kernel
theorem d_Mo_alike_26 : decode b_Mo_alike 26 = .ok (.iaload, 1) := by decide +kernel
theorem d_Mo_alike_27 : decode b_Mo_alike 27 = .ok (.if_icmp .ne 26, 3) := by decide +kernel
theorem d_Mo_alike_30 : decode b_Mo_alike 30 = .ok (.aload_n 0, 1) := by decide +kernel
theorem d_Mo_alike_31 : decode b_Mo_alike 31 = .ok (.aload_n 0, 1) := by decide +kernel
theorem d_Mo_alike_32 : decode b_Mo_alike 32 = .ok (.getfield 62, 3) := by decide +kernel
theorem d_Mo_alike_35 : decode b_Mo_alike 35 = .ok (.iload_n 1, 1) := by decide +kernel
theorem d_Mo_alike_36 : decode b_Mo_alike 36 = .ok (.iaload, 1) := by decide +kernel
theorem d_Mo_alike_37 : decode b_Mo_alike 37 = .ok (.aload_n 0, 1) := by decide +kernel
theorem d_Mo_alike_38 : decode b_Mo_alike 38 = .ok (.getfield 62, 3) := by decide +kernel
theorem d_Mo_alike_41 : decode b_Mo_alike 41 = .ok (.iload_n 2, 1) := by decide +kernel
theorem d_Mo_alike_42 : decode b_Mo_alike 42 = .ok (.iaload, 1) := by decide +kernel
theorem d_Mo_alike_43 : decode b_Mo_alike 43 = .ok (.invokevirtual 155, 3) := by decide +kernel
theorem d_Mo_alike_46 : decode b_Mo_alike 46 = .ok (.ifCond .eq 7, 3) := by decide +kernel
theorem d_Mo_alike_49 : decode b_Mo_alike 49 = .ok (.iconst 1, 1) := by decide +kernel
theorem d_Mo_alike_50 : decode b_Mo_alike 50 = .ok (.goto 4, 3) := by decide +kernel
theorem d_Mo_alike_53 : decode b_Mo_alike 53 = .ok (.iconst 0, 1) := by decide +kernel
theorem d_Mo_alike_54 : decode b_Mo_alike 54 = .ok (.ireturn, 1) := by decide +kernel
theorem d_Mo_related_0 : decode b_Mo_related 0 = .ok (.aload_n 0, 1) := by decide +kernel
theorem d_Mo_related_1 : decode b_Mo_related 1 = .ok (.iload_n 1, 1) := by decide +kernel
theorem d_Mo_related_2 : decode b_Mo_related 2 = .ok (.iload_n 2, 1) := by decide +kernel
theorem d_Mo_related_3 : decode b_Mo_related 3 = .ok (.invokevirtual 128, 3) := by decide +kernel
theorem d_Mo_related_6 : decode b_Mo_related 6 = .ok (.ifCond .ne 12, 3) := by decide +kernel
theorem d_Mo_related_9 : decode b_Mo_related 9 = .ok (.aload_n 0, 1) := by decide +kernel
theorem d_Mo_related_10 : decode b_Mo_related 10 = .ok (.iload_n 2, 1) := by decide +kernel
theorem d_Mo_related_11 : decode b_Mo_related 11 = .ok (.iload_n 1, 1) := by decide +kernel
theorem d_Mo_related_12 : decode b_Mo_related 12 = .ok (.invokevirtual 128, 3) := by decide +kernel
theorem d_Mo_related_15 : decode b_Mo_related 15 = .ok (.ifCond .eq 7, 3) := by decide +kernel
theorem d_Mo_related_18 : decode b_Mo_related 18 = .ok (.iconst 1, 1) := by decide +kernel
theorem d_Mo_related_19 : decode b_Mo_related 19 = .ok (.goto 4, 3) := by decide +kernel
theorem d_Mo_related_22 : decode b_Mo_related 22 = .ok (.iconst 0, 1) := by decide +kernel
theorem d_Mo_related_23 : decode b_Mo_related 23 = .ok (.ireturn, 1) := by decide +kernel
theorem d_Mo_keptFamily_0 : decode b_Mo_keptFamily 0 = .ok (.iconst 0, 1) := by decide +kernel
theorem d_Mo_keptFamily_1 : decode b_Mo_keptFamily 1 = .ok (.istore_n 2, 1) := by decide +kernel
theorem d_Mo_keptFamily_2 : decode b_Mo_keptFamily 2 = .ok (.iload_n 2, 1) := by decide +kernel
theorem d_Mo_keptFamily_3 : decode b_Mo_keptFamily 3 = .ok (.aload_n 0, 1) := by decide +kernel
theorem d_Mo_keptFamily_4 : decode b_Mo_keptFamily 4 = .ok (.getfield 103, 3) := by decide +kernel
theorem d_Mo_keptFamily_7 : decode b_Mo_keptFamily 7 = .ok (.if_icmp .ge 30, 3) := by decide +kernel
theorem d_Mo_keptFamily_10 : decode b_Mo_keptFamily 10 = .ok (.aload_n 0, 1) := by decide +kernel
theorem d_Mo_keptFamily_11 : decode b_Mo_keptFamily 11 = .ok (.getfield 59, 3) := by decide +kernel
theorem d_Mo_keptFamily_14 : decode b_Mo_keptFamily 14 = .ok (.iload_n 2, 1) := by decide +kernel
theorem d_Mo_keptFamily_15 : decode b_Mo_keptFamily 15 = .ok (.iaload, 1) := by decide +kernel
theorem d_Mo_keptFamily_16 : decode b_Mo_keptFamily 16 = .ok (.iload_n 1, 1) := by decide +kernel
theorem d_Mo_keptFamily_17 : decode b_Mo_keptFamily 17 = .ok (.if_icmp .ne 14, 3) := by decide +kernel
theorem d_Mo_keptFamily_20 : decode b_Mo_keptFamily 20 = .ok (.aload_n 0, 1) := by decide +kernel
theorem d_Mo_keptFamily_21 : decode b_Mo_keptFamily 21 = .ok (.getfield 37, 3) := by decide +kernel
theorem d_Mo_keptFamily_24 : decode b_Mo_keptFamily 24 = .ok (.iload_n 2, 1) := by decide +kernel
theorem d_Mo_keptFamily_25 : decode b_Mo_keptFamily 25 = .ok (.baload, 1) := by decide +kernel
theorem d_Mo_keptFamily_26 : decode b_Mo_keptFamily 26 = .ok (.ifCond .eq 5, 3) := by decide +kernel
theorem d_Mo_keptFamily_29 : decode b_Mo_keptFamily 29 = .ok (.iconst 1, 1) := by decide +kernel
theorem d_Mo_keptFamily_30 : decode b_Mo_keptFamily 30 = .ok (.ireturn, 1) := by decide +kernel
theorem d_Mo_keptFamily_31 : decode b_Mo_keptFamily 31 = .ok (.iinc 2 1, 3) := by decide +kernel
theorem d_Mo_keptFamily_34 : decode b_Mo_keptFamily 34 = .ok (.goto (-32), 3) := by decide +kernel
theorem d_Mo_keptFamily_37 : decode b_Mo_keptFamily 37 = .ok (.iconst 0, 1) := by decide +kernel
theorem d_Mo_keptFamily_38 : decode b_Mo_keptFamily 38 = .ok (.ireturn, 1) := by decide +kernel
theorem d_Mo_freeName_0 : decode b_Mo_freeName 0 = .ok (.iconst 0, 1) := by decide +kernel
theorem d_Mo_freeName_1 : decode b_Mo_freeName 1 = .ok (.istore_n 3, 1) := by decide +kernel
theorem d_Mo_freeName_2 : decode b_Mo_freeName 2 = .ok (.iconst 1, 1) := by decide +kernel
theorem d_Mo_freeName_3 : decode b_Mo_freeName 3 = .ok (.istore 4, 2) := by decide +kernel
theorem d_Mo_freeName_5 : decode b_Mo_freeName 5 = .ok (.iload 4, 2) := by decide +kernel
theorem d_Mo_freeName_7 : decode b_Mo_freeName 7 = .ok (.ifCond .eq 78, 3) := by decide +kernel
theorem d_Mo_freeName_10 : decode b_Mo_freeName 10 = .ok (.iconst 0, 1) := by decide +kernel
theorem d_Mo_freeName_11 : decode b_Mo_freeName 11 = .ok (.istore 4, 2) := by decide +kernel
theorem d_Mo_freeName_13 : decode b_Mo_freeName 13 = .ok (.iconst 0, 1) := by decide +kernel
theorem d_Mo_freeName_14 : decode b_Mo_freeName 14 = .ok (.istore 5, 2) := by decide +kernel
theorem d_Mo_freeName_16 : decode b_Mo_freeName 16 = .ok (.iload 5, 2) := by decide +kernel
theorem d_Mo_freeName_18 : decode b_Mo_freeName 18 = .ok (.aload_n 0, 1) := by decide +kernel
theorem d_Mo_freeName_19 : decode b_Mo_freeName 19 = .ok (.getfield 103, 3) := by decide +kernel
theorem d_Mo_freeName_22 : decode b_Mo_freeName 22 = .ok (.if_icmp .ge 52, 3) := by decide +kernel
theorem d_Mo_freeName_25 : decode b_Mo_freeName 25 = .ok (.iload 5, 2) := by decide +kernel
theorem d_Mo_freeName_27 : decode b_Mo_freeName 27 = .ok (.iload_n 1, 1) := by decide +kernel
theorem d_Mo_freeName_28 : decode b_Mo_freeName 28 = .ok (.if_icmp .eq 40, 3) := by decide +kernel
theorem d_Mo_freeName_31 : decode b_Mo_freeName 31 = .ok (.aload_n 0, 1) := by decide +kernel
theorem d_Mo_freeName_32 : decode b_Mo_freeName 32 = .ok (.getfield 59, 3) := by decide +kernel
theorem d_Mo_freeName_35 : decode b_Mo_freeName 35 = .ok (.iload 5, 2) := by decide +kernel
theorem d_Mo_freeName_37 : decode b_Mo_freeName 37 = .ok (.iaload, 1) := by decide +kernel
theorem d_Mo_freeName_38 : decode b_Mo_freeName 38 = .ok (.iload 5, 2) := by decide +kernel
theorem d_Mo_freeName_40 : decode b_Mo_freeName 40 = .ok (.if_icmp .ne 28, 3) := by decide +kernel
theorem d_Mo_freeName_43 : decode b_Mo_freeName 43 = .ok (.aload_n 0, 1) := by decide +kernel
theorem d_Mo_freeName_44 : decode b_Mo_freeName 44 = .ok (.getfield 71, 3) := by decide +kernel
theorem d_Mo_freeName_47 : decode b_Mo_freeName 47 = .ok (.iload 5, 2) := by decide +kernel
theorem d_Mo_freeName_49 : decode b_Mo_freeName 49 = .ok (.iaload, 1) := by decide +kernel
theorem d_Mo_freeName_50 : decode b_Mo_freeName 50 = .ok (.iload_n 3, 1) := by decide +kernel
theorem d_Mo_freeName_51 : decode b_Mo_freeName 51 = .ok (.if_icmp .ne 17, 3) := by decide +kernel
theorem d_Mo_freeName_54 : decode b_Mo_freeName 54 = .ok (.aload_n 0, 1) := by decide +kernel
theorem d_Mo_freeName_55 : decode b_Mo_freeName 55 = .ok (.iload_n 1, 1) := by decide +kernel
theorem d_Mo_freeName_56 : decode b_Mo_freeName 56 = .ok (.iload 5, 2) := by decide +kernel
theorem d_Mo_freeName_58 : decode b_Mo_freeName 58 = .ok (.iload_n 2, 1) := by decide +kernel
theorem d_Mo_freeName_59 : decode b_Mo_freeName 59 = .ok (.invokevirtual 158, 3) := by decide +kernel
theorem d_Mo_freeName_62 : decode b_Mo_freeName 62 = .ok (.ifCond .eq 6, 3) := by decide +kernel
theorem d_Mo_freeName_65 : decode b_Mo_freeName 65 = .ok (.iconst 1, 1) := by decide +kernel
theorem d_Mo_freeName_66 : decode b_Mo_freeName 66 = .ok (.istore 4, 2) := by decide +kernel
theorem d_Mo_freeName_68 : decode b_Mo_freeName 68 = .ok (.iinc 5 1, 3) := by decide +kernel
theorem d_Mo_freeName_71 : decode b_Mo_freeName 71 = .ok (.goto (-55), 3) := by decide +kernel
theorem d_Mo_freeName_74 : decode b_Mo_freeName 74 = .ok (.iload 4, 2) := by decide +kernel
theorem d_Mo_freeName_76 : decode b_Mo_freeName 76 = .ok (.ifCond .eq (-71), 3) := by decide +kernel
theorem d_Mo_freeName_79 : decode b_Mo_freeName 79 = .ok (.iinc 3 1, 3) := by decide +kernel
theorem d_Mo_freeName_82 : decode b_Mo_freeName 82 = .ok (.goto (-77), 3) := by decide +kernel
theorem d_Mo_freeName_85 : decode b_Mo_freeName 85 = .ok (.iload_n 3, 1) := by decide +kernel
theorem d_Mo_freeName_86 : decode b_Mo_freeName 86 = .ok (.ireturn, 1) := by decide +kernel
theorem d_Mo_clash_0 : decode b_Mo_clash 0 = .ok (.iconst 0, 1) := by decide +kernel
theorem d_Mo_clash_1 : decode b_Mo_clash 1 = .ok (.istore 4, 2) := by decide +kernel
theorem d_Mo_clash_3 : decode b_Mo_clash 3 = .ok (.iload 4, 2) := by decide +kernel
theorem d_Mo_clash_5 : decode b_Mo_clash 5 = .ok (.iload_n 3, 1) := by decide +kernel
theorem d_Mo_clash_6 : decode b_Mo_clash 6 = .ok (.if_icmp .ge 86, 3) := by decide +kernel
theorem d_Mo_clash_9 : decode b_Mo_clash 9 = .ok (.iconst 0, 1) := by decide +kernel
theorem d_Mo_clash_10 : decode b_Mo_clash 10 = .ok (.istore 5, 2) := by decide +kernel
theorem d_Mo_clash_12 : decode b_Mo_clash 12 = .ok (.iload 5, 2) := by decide +kernel
theorem d_Mo_clash_14 : decode b_Mo_clash 14 = .ok (.iload_n 3, 1) := by decide +kernel
theorem d_Mo_clash_15 : decode b_Mo_clash 15 = .ok (.if_icmp .ge 71, 3) := by decide +kernel
theorem d_Mo_clash_18 : decode b_Mo_clash 18 = .ok (.aload_n 0, 1) := by decide +kernel
theorem d_Mo_clash_19 : decode b_Mo_clash 19 = .ok (.getfield 59, 3) := by decide +kernel
theorem d_Mo_clash_22 : decode b_Mo_clash 22 = .ok (.iload 4, 2) := by decide +kernel
theorem d_Mo_clash_24 : decode b_Mo_clash 24 = .ok (.iaload, 1) := by decide +kernel
theorem d_Mo_clash_25 : decode b_Mo_clash 25 = .ok (.iload_n 1, 1) := by decide +kernel
theorem d_Mo_clash_26 : decode b_Mo_clash 26 = .ok (.if_icmp .ne 60, 3) := by decide +kernel
theorem d_Mo_clash_29 : decode b_Mo_clash 29 = .ok (.aload_n 0, 1) := by decide +kernel
theorem d_Mo_clash_30 : decode b_Mo_clash 30 = .ok (.getfield 59, 3) := by decide +kernel
theorem d_Mo_clash_33 : decode b_Mo_clash 33 = .ok (.iload 5, 2) := by decide +kernel
theorem d_Mo_clash_35 : decode b_Mo_clash 35 = .ok (.iaload, 1) := by decide +kernel
theorem d_Mo_clash_36 : decode b_Mo_clash 36 = .ok (.iload_n 2, 1) := by decide +kernel
theorem d_Mo_clash_37 : decode b_Mo_clash 37 = .ok (.if_icmp .ne 43, 3) := by decide +kernel
theorem d_Mo_clash_40 : decode b_Mo_clash 40 = .ok (.aload_n 0, 1) := by decide +kernel
theorem d_Mo_clash_41 : decode b_Mo_clash 41 = .ok (.getfield 68, 3) := by decide +kernel
theorem d_Mo_clash_44 : decode b_Mo_clash 44 = .ok (.iload 4, 2) := by decide +kernel
theorem d_Mo_clash_46 : decode b_Mo_clash 46 = .ok (.iaload, 1) := by decide +kernel
theorem d_Mo_clash_47 : decode b_Mo_clash 47 = .ok (.aload_n 0, 1) := by decide +kernel
theorem d_Mo_clash_48 : decode b_Mo_clash 48 = .ok (.getfield 68, 3) := by decide +kernel
theorem d_Mo_clash_51 : decode b_Mo_clash 51 = .ok (.iload 5, 2) := by decide +kernel
theorem d_Mo_clash_53 : decode b_Mo_clash 53 = .ok (.iaload, 1) := by decide +kernel
theorem d_Mo_clash_54 : decode b_Mo_clash 54 = .ok (.if_icmp .ne 26, 3) := by decide +kernel
theorem d_Mo_clash_57 : decode b_Mo_clash 57 = .ok (.aload_n 0, 1) := by decide +kernel
theorem d_Mo_clash_58 : decode b_Mo_clash 58 = .ok (.aload_n 0, 1) := by decide +kernel
theorem d_Mo_clash_59 : decode b_Mo_clash 59 = .ok (.getfield 62, 3) := by decide +kernel
theorem d_Mo_clash_62 : decode b_Mo_clash 62 = .ok (.iload 4, 2) := by decide +kernel
theorem d_Mo_clash_64 : decode b_Mo_clash 64 = .ok (.iaload, 1) := by decide +kernel
theorem d_Mo_clash_65 : decode b_Mo_clash 65 = .ok (.aload_n 0, 1) := by decide +kernel
theorem d_Mo_clash_66 : decode b_Mo_clash 66 = .ok (.getfield 62, 3) := by decide +kernel
theorem d_Mo_clash_69 : decode b_Mo_clash 69 = .ok (.iload 5, 2) := by decide +kernel
theorem d_Mo_clash_71 : decode b_Mo_clash 71 = .ok (.iaload, 1) := by decide +kernel
theorem d_Mo_clash_72 : decode b_Mo_clash 72 = .ok (.invokevirtual 155, 3) := by decide +kernel
theorem d_Mo_clash_75 : decode b_Mo_clash 75 = .ok (.ifCond .eq 5, 3) := by decide +kernel
theorem d_Mo_clash_78 : decode b_Mo_clash 78 = .ok (.iconst 1, 1) := by decide +kernel
theorem d_Mo_clash_79 : decode b_Mo_clash 79 = .ok (.ireturn, 1) := by decide +kernel
theorem d_Mo_clash_80 : decode b_Mo_clash 80 = .ok (.iinc 5 1, 3) := by decide +kernel
theorem d_Mo_clash_83 : decode b_Mo_clash 83 = .ok (.goto (-71), 3) := by decide +kernel
theorem d_Mo_clash_86 : decode b_Mo_clash 86 = .ok (.iinc 4 1, 3) := by decide +kernel
theorem d_Mo_clash_89 : decode b_Mo_clash 89 = .ok (.goto (-86), 3) := by decide +kernel
theorem d_Mo_clash_92 : decode b_Mo_clash 92 = .ok (.iconst 0, 1) := by decide +kernel
theorem d_Mo_clash_93 : decode b_Mo_clash 93 = .ok (.ireturn, 1) := by decide +kernel
theorem d_Mo_told_0 : decode b_Mo_told 0 = .ok (.aload_n 0, 1) := by decide +kernel
theorem d_Mo_told_1 : decode b_Mo_told 1 = .ok (.aload_n 0, 1) := by decide +kernel
theorem d_Mo_told_2 : decode b_Mo_told 2 = .ok (.iload_n 1, 1) := by decide +kernel
theorem d_Mo_told_3 : decode b_Mo_told 3 = .ok (.invokevirtual 122, 3) := by decide +kernel
theorem d_Mo_told_6 : decode b_Mo_told 6 = .ok (.ifCond .eq 17, 3) := by decide +kernel
theorem d_Mo_told_9 : decode b_Mo_told 9 = .ok (.iload_n 2, 1) := by decide +kernel
theorem d_Mo_told_10 : decode b_Mo_told 10 = .ok (.iconst 0, 1) := by decide +kernel
theorem d_Mo_told_11 : decode b_Mo_told 11 = .ok (.bipush 7, 2) := by decide +kernel
theorem d_Mo_told_13 : decode b_Mo_told 13 = .ok (.invokestatic 99, 3) := by decide +kernel
theorem d_Mo_told_16 : decode b_Mo_told 16 = .ok (.ifCond .eq 7, 3) := by decide +kernel
theorem d_Mo_told_19 : decode b_Mo_told 19 = .ok (.iconst 1, 1) := by decide +kernel
theorem d_Mo_told_20 : decode b_Mo_told 20 = .ok (.goto 4, 3) := by decide +kernel
theorem d_Mo_told_23 : decode b_Mo_told 23 = .ok (.iconst 0, 1) := by decide +kernel
theorem d_Mo_told_24 : decode b_Mo_told 24 = .ok (.invokevirtual 110, 3) := by decide +kernel
theorem d_Mo_told_27 : decode b_Mo_told 27 = .ok (.ifCond .eq 5, 3) := by decide +kernel
theorem d_Mo_told_30 : decode b_Mo_told 30 = .ok (.iconst 0, 1) := by decide +kernel
theorem d_Mo_told_31 : decode b_Mo_told 31 = .ok (.ireturn, 1) := by decide +kernel
theorem d_Mo_told_32 : decode b_Mo_told 32 = .ok (.iload_n 2, 1) := by decide +kernel
theorem d_Mo_told_33 : decode b_Mo_told 33 = .ok (.tableswitch 100 0 6 #[43, 50, 57, 64, 71, 86, 93], 43) := by decide +kernel
theorem d_Mo_told_76 : decode b_Mo_told 76 = .ok (.aload_n 0, 1) := by decide +kernel
theorem d_Mo_told_77 : decode b_Mo_told 77 = .ok (.getfield 16, 3) := by decide +kernel
theorem d_Mo_told_80 : decode b_Mo_told 80 = .ok (.iload_n 1, 1) := by decide +kernel
theorem d_Mo_told_81 : decode b_Mo_told 81 = .ok (.iaload, 1) := by decide +kernel
theorem d_Mo_told_82 : decode b_Mo_told 82 = .ok (.ireturn, 1) := by decide +kernel
theorem d_Mo_told_83 : decode b_Mo_told 83 = .ok (.aload_n 0, 1) := by decide +kernel
theorem d_Mo_told_84 : decode b_Mo_told 84 = .ok (.getfield 19, 3) := by decide +kernel
theorem d_Mo_told_87 : decode b_Mo_told 87 = .ok (.iload_n 1, 1) := by decide +kernel
theorem d_Mo_told_88 : decode b_Mo_told 88 = .ok (.iaload, 1) := by decide +kernel
theorem d_Mo_told_89 : decode b_Mo_told 89 = .ok (.ireturn, 1) := by decide +kernel
theorem d_Mo_told_90 : decode b_Mo_told 90 = .ok (.aload_n 0, 1) := by decide +kernel
theorem d_Mo_told_91 : decode b_Mo_told 91 = .ok (.getfield 22, 3) := by decide +kernel
theorem d_Mo_told_94 : decode b_Mo_told 94 = .ok (.iload_n 1, 1) := by decide +kernel
theorem d_Mo_told_95 : decode b_Mo_told 95 = .ok (.iaload, 1) := by decide +kernel
theorem d_Mo_told_96 : decode b_Mo_told 96 = .ok (.ireturn, 1) := by decide +kernel
theorem d_Mo_told_97 : decode b_Mo_told 97 = .ok (.aload_n 0, 1) := by decide +kernel
theorem d_Mo_told_98 : decode b_Mo_told 98 = .ok (.getfield 25, 3) := by decide +kernel
theorem d_Mo_told_101 : decode b_Mo_told 101 = .ok (.iload_n 1, 1) := by decide +kernel
theorem d_Mo_told_102 : decode b_Mo_told 102 = .ok (.iaload, 1) := by decide +kernel
theorem d_Mo_told_103 : decode b_Mo_told 103 = .ok (.ireturn, 1) := by decide +kernel
theorem d_Mo_told_104 : decode b_Mo_told 104 = .ok (.aload_n 0, 1) := by decide +kernel
theorem d_Mo_told_105 : decode b_Mo_told 105 = .ok (.getfield 37, 3) := by decide +kernel
theorem d_Mo_told_108 : decode b_Mo_told 108 = .ok (.iload_n 1, 1) := by decide +kernel
theorem d_Mo_told_109 : decode b_Mo_told 109 = .ok (.baload, 1) := by decide +kernel
theorem d_Mo_told_110 : decode b_Mo_told 110 = .ok (.ifCond .eq 7, 3) := by decide +kernel
theorem d_Mo_told_113 : decode b_Mo_told 113 = .ok (.iconst 1, 1) := by decide +kernel
theorem d_Mo_told_114 : decode b_Mo_told 114 = .ok (.goto 4, 3) := by decide +kernel
theorem d_Mo_told_117 : decode b_Mo_told 117 = .ok (.iconst 0, 1) := by decide +kernel
theorem d_Mo_told_118 : decode b_Mo_told 118 = .ok (.ireturn, 1) := by decide +kernel
theorem d_Mo_told_119 : decode b_Mo_told 119 = .ok (.aload_n 0, 1) := by decide +kernel
theorem d_Mo_told_120 : decode b_Mo_told 120 = .ok (.getfield 34, 3) := by decide +kernel
theorem d_Mo_told_123 : decode b_Mo_told 123 = .ok (.iload_n 1, 1) := by decide +kernel
theorem d_Mo_told_124 : decode b_Mo_told 124 = .ok (.iaload, 1) := by decide +kernel
theorem d_Mo_told_125 : decode b_Mo_told 125 = .ok (.ireturn, 1) := by decide +kernel
theorem d_Mo_told_126 : decode b_Mo_told 126 = .ok (.aload_n 0, 1) := by decide +kernel
theorem d_Mo_told_127 : decode b_Mo_told 127 = .ok (.getfield 31, 3) := by decide +kernel
theorem d_Mo_told_130 : decode b_Mo_told 130 = .ok (.iload_n 1, 1) := by decide +kernel
theorem d_Mo_told_131 : decode b_Mo_told 131 = .ok (.iaload, 1) := by decide +kernel
theorem d_Mo_told_132 : decode b_Mo_told 132 = .ok (.ireturn, 1) := by decide +kernel
theorem d_Mo_told_133 : decode b_Mo_told 133 = .ok (.aload_n 0, 1) := by decide +kernel
theorem d_Mo_told_134 : decode b_Mo_told 134 = .ok (.getfield 28, 3) := by decide +kernel
theorem d_Mo_told_137 : decode b_Mo_told 137 = .ok (.iload_n 1, 1) := by decide +kernel
theorem d_Mo_told_138 : decode b_Mo_told 138 = .ok (.iaload, 1) := by decide +kernel
theorem d_Mo_told_139 : decode b_Mo_told 139 = .ok (.ireturn, 1) := by decide +kernel
theorem d_Mo_inside_0 : decode b_Mo_inside 0 = .ok (.aload_n 0, 1) := by decide +kernel
theorem d_Mo_inside_1 : decode b_Mo_inside 1 = .ok (.aload_n 0, 1) := by decide +kernel
theorem d_Mo_inside_2 : decode b_Mo_inside 2 = .ok (.iload_n 1, 1) := by decide +kernel
theorem d_Mo_inside_3 : decode b_Mo_inside 3 = .ok (.invokevirtual 122, 3) := by decide +kernel
theorem d_Mo_inside_6 : decode b_Mo_inside 6 = .ok (.ifCond .eq 16, 3) := by decide +kernel
theorem d_Mo_inside_9 : decode b_Mo_inside 9 = .ok (.iload_n 3, 1) := by decide +kernel
theorem d_Mo_inside_10 : decode b_Mo_inside 10 = .ok (.iconst 0, 1) := by decide +kernel
theorem d_Mo_inside_11 : decode b_Mo_inside 11 = .ok (.iconst 3, 1) := by decide +kernel
theorem d_Mo_inside_12 : decode b_Mo_inside 12 = .ok (.invokestatic 99, 3) := by decide +kernel
theorem d_Mo_inside_15 : decode b_Mo_inside 15 = .ok (.ifCond .eq 7, 3) := by decide +kernel
theorem d_Mo_inside_18 : decode b_Mo_inside 18 = .ok (.iconst 1, 1) := by decide +kernel
theorem d_Mo_inside_19 : decode b_Mo_inside 19 = .ok (.goto 4, 3) := by decide +kernel
theorem d_Mo_inside_22 : decode b_Mo_inside 22 = .ok (.iconst 0, 1) := by decide +kernel
theorem d_Mo_inside_23 : decode b_Mo_inside 23 = .ok (.invokevirtual 110, 3) := by decide +kernel
theorem d_Mo_inside_26 : decode b_Mo_inside 26 = .ok (.ifCond .eq 5, 3) := by decide +kernel
theorem d_Mo_inside_29 : decode b_Mo_inside 29 = .ok (.iconst 0, 1) := by decide +kernel
theorem d_Mo_inside_30 : decode b_Mo_inside 30 = .ok (.ireturn, 1) := by decide +kernel
theorem d_Mo_inside_31 : decode b_Mo_inside 31 = .ok (.iload_n 2, 1) := by decide +kernel
theorem d_Mo_inside_32 : decode b_Mo_inside 32 = .ok (.iconst 0, 1) := by decide +kernel
theorem d_Mo_inside_33 : decode b_Mo_inside 33 = .ok (.aload_n 0, 1) := by decide +kernel
theorem d_Mo_inside_34 : decode b_Mo_inside 34 = .ok (.getfield 25, 3) := by decide +kernel
theorem d_Mo_inside_37 : decode b_Mo_inside 37 = .ok (.iload_n 1, 1) := by decide +kernel
theorem d_Mo_inside_38 : decode b_Mo_inside 38 = .ok (.iaload, 1) := by decide +kernel
theorem d_Mo_inside_39 : decode b_Mo_inside 39 = .ok (.iconst 1, 1) := by decide +kernel
theorem d_Mo_inside_40 : decode b_Mo_inside 40 = .ok (.isub, 1) := by decide +kernel
theorem d_Mo_inside_41 : decode b_Mo_inside 41 = .ok (.invokestatic 99, 3) := by decide +kernel
theorem d_Mo_inside_44 : decode b_Mo_inside 44 = .ok (.ifCond .ne 9, 3) := by decide +kernel
theorem d_Mo_inside_47 : decode b_Mo_inside 47 = .ok (.aload_n 0, 1) := by decide +kernel
theorem d_Mo_inside_48 : decode b_Mo_inside 48 = .ok (.iconst 2, 1) := by decide +kernel
theorem d_Mo_inside_49 : decode b_Mo_inside 49 = .ok (.invokevirtual 114, 3) := by decide +kernel
theorem d_Mo_inside_52 : decode b_Mo_inside 52 = .ok (.ireturn, 1) := by decide +kernel
theorem d_Mo_inside_53 : decode b_Mo_inside 53 = .ok (.iload_n 1, 1) := by decide +kernel
theorem d_Mo_inside_54 : decode b_Mo_inside 54 = .ok (.iconst 5, 1) := by decide +kernel
theorem d_Mo_inside_55 : decode b_Mo_inside 55 = .ok (.imul, 1) := by decide +kernel
theorem d_Mo_inside_56 : decode b_Mo_inside 56 = .ok (.iload_n 2, 1) := by decide +kernel
theorem d_Mo_inside_57 : decode b_Mo_inside 57 = .ok (.iadd, 1) := by decide +kernel
theorem d_Mo_inside_58 : decode b_Mo_inside 58 = .ok (.istore 4, 2) := by decide +kernel
theorem d_Mo_inside_60 : decode b_Mo_inside 60 = .ok (.iload_n 3, 1) := by decide +kernel
theorem d_Mo_inside_61 : decode b_Mo_inside 61 = .ok (.ifCond .ne 13, 3) := by decide +kernel
theorem d_Mo_inside_64 : decode b_Mo_inside 64 = .ok (.aload_n 0, 1) := by decide +kernel
theorem d_Mo_inside_65 : decode b_Mo_inside 65 = .ok (.getfield 47, 3) := by decide +kernel
theorem d_Mo_inside_68 : decode b_Mo_inside 68 = .ok (.iload 4, 2) := by decide +kernel
theorem d_Mo_inside_70 : decode b_Mo_inside 70 = .ok (.iaload, 1) := by decide +kernel
theorem d_Mo_inside_71 : decode b_Mo_inside 71 = .ok (.goto 40, 3) := by decide +kernel
theorem d_Mo_inside_74 : decode b_Mo_inside 74 = .ok (.iload_n 3, 1) := by decide +kernel
theorem d_Mo_inside_75 : decode b_Mo_inside 75 = .ok (.iconst 1, 1) := by decide +kernel
theorem d_Mo_inside_76 : decode b_Mo_inside 76 = .ok (.if_icmp .ne 13, 3) := by decide +kernel
theorem d_Mo_inside_79 : decode b_Mo_inside 79 = .ok (.aload_n 0, 1) := by decide +kernel
theorem d_Mo_inside_80 : decode b_Mo_inside 80 = .ok (.getfield 50, 3) := by decide +kernel
theorem d_Mo_inside_83 : decode b_Mo_inside 83 = .ok (.iload 4, 2) := by decide +kernel
theorem d_Mo_inside_85 : decode b_Mo_inside 85 = .ok (.iaload, 1) := by decide +kernel
theorem d_Mo_inside_86 : decode b_Mo_inside 86 = .ok (.goto 25, 3) := by decide +kernel
theorem d_Mo_inside_89 : decode b_Mo_inside 89 = .ok (.iload_n 3, 1) := by decide +kernel
theorem d_Mo_inside_90 : decode b_Mo_inside 90 = .ok (.iconst 2, 1) := by decide +kernel
theorem d_Mo_inside_91 : decode b_Mo_inside 91 = .ok (.if_icmp .ne 13, 3) := by decide +kernel
theorem d_Mo_inside_94 : decode b_Mo_inside 94 = .ok (.aload_n 0, 1) := by decide +kernel
theorem d_Mo_inside_95 : decode b_Mo_inside 95 = .ok (.getfield 53, 3) := by decide +kernel
theorem d_Mo_inside_98 : decode b_Mo_inside 98 = .ok (.iload 4, 2) := by decide +kernel
theorem d_Mo_inside_100 : decode b_Mo_inside 100 = .ok (.iaload, 1) := by decide +kernel
theorem d_Mo_inside_101 : decode b_Mo_inside 101 = .ok (.goto 10, 3) := by decide +kernel
theorem d_Mo_inside_104 : decode b_Mo_inside 104 = .ok (.aload_n 0, 1) := by decide +kernel
theorem d_Mo_inside_105 : decode b_Mo_inside 105 = .ok (.getfield 56, 3) := by decide +kernel
theorem d_Mo_inside_108 : decode b_Mo_inside 108 = .ok (.iload 4, 2) := by decide +kernel
theorem d_Mo_inside_110 : decode b_Mo_inside 110 = .ok (.iaload, 1) := by decide +kernel
theorem d_Mo_inside_111 : decode b_Mo_inside 111 = .ok (.ireturn, 1) := by decide +kernel
theorem d_Mo_trace_0 : decode b_Mo_trace 0 = .ok (.aload_n 0, 1) := by decide +kernel
theorem d_Mo_trace_1 : decode b_Mo_trace 1 = .ok (.aload_n 0, 1) := by decide +kernel
theorem d_Mo_trace_2 : decode b_Mo_trace 2 = .ok (.iload_n 1, 1) := by decide +kernel
theorem d_Mo_trace_3 : decode b_Mo_trace 3 = .ok (.invokevirtual 106, 3) := by decide +kernel
theorem d_Mo_trace_6 : decode b_Mo_trace 6 = .ok (.ifCond .eq 26, 3) := by decide +kernel
theorem d_Mo_trace_9 : decode b_Mo_trace 9 = .ok (.iload_n 2, 1) := by decide +kernel
theorem d_Mo_trace_10 : decode b_Mo_trace 10 = .ok (.iconst 0, 1) := by decide +kernel
theorem d_Mo_trace_11 : decode b_Mo_trace 11 = .ok (.bipush 26, 2) := by decide +kernel
theorem d_Mo_trace_13 : decode b_Mo_trace 13 = .ok (.invokestatic 99, 3) := by decide +kernel
theorem d_Mo_trace_16 : decode b_Mo_trace 16 = .ok (.ifCond .eq 16, 3) := by decide +kernel
theorem d_Mo_trace_19 : decode b_Mo_trace 19 = .ok (.iload_n 3, 1) := by decide +kernel
theorem d_Mo_trace_20 : decode b_Mo_trace 20 = .ok (.iconst 0, 1) := by decide +kernel
theorem d_Mo_trace_21 : decode b_Mo_trace 21 = .ok (.iconst 2, 1) := by decide +kernel
theorem d_Mo_trace_22 : decode b_Mo_trace 22 = .ok (.invokestatic 99, 3) := by decide +kernel
theorem d_Mo_trace_25 : decode b_Mo_trace 25 = .ok (.ifCond .eq 7, 3) := by decide +kernel
theorem d_Mo_trace_28 : decode b_Mo_trace 28 = .ok (.iconst 1, 1) := by decide +kernel
theorem d_Mo_trace_29 : decode b_Mo_trace 29 = .ok (.goto 4, 3) := by decide +kernel
theorem d_Mo_trace_32 : decode b_Mo_trace 32 = .ok (.iconst 0, 1) := by decide +kernel
theorem d_Mo_trace_33 : decode b_Mo_trace 33 = .ok (.invokevirtual 110, 3) := by decide +kernel
theorem d_Mo_trace_36 : decode b_Mo_trace 36 = .ok (.ifCond .eq 5, 3) := by decide +kernel
theorem d_Mo_trace_39 : decode b_Mo_trace 39 = .ok (.iconst 0, 1) := by decide +kernel
theorem d_Mo_trace_40 : decode b_Mo_trace 40 = .ok (.ireturn, 1) := by decide +kernel
theorem d_Mo_trace_41 : decode b_Mo_trace 41 = .ok (.aload_n 0, 1) := by decide +kernel
theorem d_Mo_trace_42 : decode b_Mo_trace 42 = .ok (.iload_n 1, 1) := by decide +kernel
theorem d_Mo_trace_43 : decode b_Mo_trace 43 = .ok (.iload_n 2, 1) := by decide +kernel
theorem d_Mo_trace_44 : decode b_Mo_trace 44 = .ok (.iload_n 3, 1) := by decide +kernel
theorem d_Mo_trace_45 : decode b_Mo_trace 45 = .ok (.invokevirtual 118, 3) := by decide +kernel
theorem d_Mo_trace_48 : decode b_Mo_trace 48 = .ok (.istore 4, 2) := by decide +kernel
theorem d_Mo_trace_50 : decode b_Mo_trace 50 = .ok (.iload 4, 2) := by decide +kernel
theorem d_Mo_trace_52 : decode b_Mo_trace 52 = .ok (.ifCond .ge 11, 3) := by decide +kernel
theorem d_Mo_trace_55 : decode b_Mo_trace 55 = .ok (.aload_n 0, 1) := by decide +kernel
theorem d_Mo_trace_56 : decode b_Mo_trace 56 = .ok (.iconst 2, 1) := by decide +kernel
theorem d_Mo_trace_57 : decode b_Mo_trace 57 = .ok (.invokevirtual 114, 3) := by decide +kernel
theorem d_Mo_trace_60 : decode b_Mo_trace 60 = .ok (.goto 10, 3) := by decide +kernel
theorem d_Mo_trace_63 : decode b_Mo_trace 63 = .ok (.aload_n 0, 1) := by decide +kernel
theorem d_Mo_trace_64 : decode b_Mo_trace 64 = .ok (.getfield 28, 3) := by decide +kernel
theorem d_Mo_trace_67 : decode b_Mo_trace 67 = .ok (.iload 4, 2) := by decide +kernel
theorem d_Mo_trace_69 : decode b_Mo_trace 69 = .ok (.iaload, 1) := by decide +kernel
theorem d_Mo_trace_70 : decode b_Mo_trace 70 = .ok (.ireturn, 1) := by decide +kernel
theorem d_Mo_count_0 : decode b_Mo_count 0 = .ok (.aload_n 0, 1) := by decide +kernel
theorem d_Mo_count_1 : decode b_Mo_count 1 = .ok (.iconst 0, 1) := by decide +kernel
theorem d_Mo_count_2 : decode b_Mo_count 2 = .ok (.putfield 92, 3) := by decide +kernel
theorem d_Mo_count_5 : decode b_Mo_count 5 = .ok (.iload_n 1, 1) := by decide +kernel
theorem d_Mo_count_6 : decode b_Mo_count 6 = .ok (.bipush 10, 2) := by decide +kernel
theorem d_Mo_count_8 : decode b_Mo_count 8 = .ok (.if_icmp .lt 24, 3) := by decide +kernel
theorem d_Mo_count_11 : decode b_Mo_count 11 = .ok (.aload_n 0, 1) := by decide +kernel
theorem d_Mo_count_12 : decode b_Mo_count 12 = .ok (.iload_n 1, 1) := by decide +kernel
theorem d_Mo_count_13 : decode b_Mo_count 13 = .ok (.bipush 10, 2) := by decide +kernel
theorem d_Mo_count_15 : decode b_Mo_count 15 = .ok (.isub, 1) := by decide +kernel
theorem d_Mo_count_16 : decode b_Mo_count 16 = .ok (.invokevirtual 106, 3) := by decide +kernel
theorem d_Mo_count_19 : decode b_Mo_count 19 = .ok (.ifCond .eq 13, 3) := by decide +kernel
theorem d_Mo_count_22 : decode b_Mo_count 22 = .ok (.aload_n 0, 1) := by decide +kernel
theorem d_Mo_count_23 : decode b_Mo_count 23 = .ok (.getfield 7, 3) := by decide +kernel
theorem d_Mo_count_26 : decode b_Mo_count 26 = .ok (.iload_n 1, 1) := by decide +kernel
theorem d_Mo_count_27 : decode b_Mo_count 27 = .ok (.bipush 10, 2) := by decide +kernel
theorem d_Mo_count_29 : decode b_Mo_count 29 = .ok (.isub, 1) := by decide +kernel
theorem d_Mo_count_30 : decode b_Mo_count 30 = .ok (.iaload, 1) := by decide +kernel
theorem d_Mo_count_31 : decode b_Mo_count 31 = .ok (.ireturn, 1) := by decide +kernel
theorem d_Mo_count_32 : decode b_Mo_count 32 = .ok (.iload_n 1, 1) := by decide +kernel
theorem d_Mo_count_33 : decode b_Mo_count 33 = .ok (.iconst 0, 1) := by decide +kernel
theorem d_Mo_count_34 : decode b_Mo_count 34 = .ok (.iconst 4, 1) := by decide +kernel
theorem d_Mo_count_35 : decode b_Mo_count 35 = .ok (.invokestatic 99, 3) := by decide +kernel
theorem d_Mo_count_38 : decode b_Mo_count 38 = .ok (.ifCond .ne 6, 3) := by decide +kernel
theorem d_Mo_count_41 : decode b_Mo_count 41 = .ok (.bipush (-2), 2) := by decide +kernel
theorem d_Mo_count_43 : decode b_Mo_count 43 = .ok (.ireturn, 1) := by decide +kernel
theorem d_Mo_count_44 : decode b_Mo_count 44 = .ok (.aload_n 0, 1) := by decide +kernel
theorem d_Mo_count_45 : decode b_Mo_count 45 = .ok (.invokevirtual 138, 3) := by decide +kernel
theorem d_Mo_count_48 : decode b_Mo_count 48 = .ok (.iconst 0, 1) := by decide +kernel
theorem d_Mo_count_49 : decode b_Mo_count 49 = .ok (.istore_n 2, 1) := by decide +kernel
theorem d_Mo_count_50 : decode b_Mo_count 50 = .ok (.iconst 0, 1) := by decide +kernel
theorem d_Mo_count_51 : decode b_Mo_count 51 = .ok (.istore_n 3, 1) := by decide +kernel
theorem d_Mo_count_52 : decode b_Mo_count 52 = .ok (.iload_n 3, 1) := by decide +kernel
theorem d_Mo_count_53 : decode b_Mo_count 53 = .ok (.aload_n 0, 1) := by decide +kernel
theorem d_Mo_count_54 : decode b_Mo_count 54 = .ok (.getfield 103, 3) := by decide +kernel
theorem d_Mo_count_57 : decode b_Mo_count 57 = .ok (.if_icmp .ge 26, 3) := by decide +kernel
theorem d_Mo_count_60 : decode b_Mo_count 60 = .ok (.iload_n 1, 1) := by decide +kernel
theorem d_Mo_count_61 : decode b_Mo_count 61 = .ok (.iconst 2, 1) := by decide +kernel
theorem d_Mo_count_62 : decode b_Mo_count 62 = .ok (.if_icmp .ne 21, 3) := by decide +kernel
theorem d_Mo_count_65 : decode b_Mo_count 65 = .ok (.aload_n 0, 1) := by decide +kernel
theorem d_Mo_count_66 : decode b_Mo_count 66 = .ok (.getfield 41, 3) := by decide +kernel
theorem d_Mo_count_69 : decode b_Mo_count 69 = .ok (.iload_n 3, 1) := by decide +kernel
theorem d_Mo_count_70 : decode b_Mo_count 70 = .ok (.baload, 1) := by decide +kernel
theorem d_Mo_count_71 : decode b_Mo_count 71 = .ok (.ifCond .eq 6, 3) := by decide +kernel
theorem d_Mo_count_74 : decode b_Mo_count 74 = .ok (.iinc 2 1, 3) := by decide +kernel
theorem d_Mo_count_77 : decode b_Mo_count 77 = .ok (.iinc 3 1, 3) := by decide +kernel
theorem d_Mo_count_80 : decode b_Mo_count 80 = .ok (.goto (-28), 3) := by decide +kernel
theorem d_Mo_count_83 : decode b_Mo_count 83 = .ok (.iconst 0, 1) := by decide +kernel
theorem d_Mo_count_84 : decode b_Mo_count 84 = .ok (.istore_n 3, 1) := by decide +kernel
theorem d_Mo_count_85 : decode b_Mo_count 85 = .ok (.iload_n 3, 1) := by decide +kernel
theorem d_Mo_count_86 : decode b_Mo_count 86 = .ok (.aload_n 0, 1) := by decide +kernel
theorem d_Mo_count_87 : decode b_Mo_count 87 = .ok (.getfield 96, 3) := by decide +kernel
theorem d_Mo_count_90 : decode b_Mo_count 90 = .ok (.if_icmp .ge 26, 3) := by decide +kernel
theorem d_Mo_count_93 : decode b_Mo_count 93 = .ok (.iload_n 1, 1) := by decide +kernel
theorem d_Mo_count_94 : decode b_Mo_count 94 = .ok (.iconst 3, 1) := by decide +kernel
theorem d_Mo_count_95 : decode b_Mo_count 95 = .ok (.if_icmp .ne 21, 3) := by decide +kernel
theorem d_Mo_count_98 : decode b_Mo_count 98 = .ok (.aload_n 0, 1) := by decide +kernel
theorem d_Mo_count_99 : decode b_Mo_count 99 = .ok (.getfield 44, 3) := by decide +kernel
theorem d_Mo_count_102 : decode b_Mo_count 102 = .ok (.iload_n 3, 1) := by decide +kernel
theorem d_Mo_count_103 : decode b_Mo_count 103 = .ok (.baload, 1) := by decide +kernel
theorem d_Mo_count_104 : decode b_Mo_count 104 = .ok (.ifCond .eq 6, 3) := by decide +kernel
theorem d_Mo_count_107 : decode b_Mo_count 107 = .ok (.iinc 2 1, 3) := by decide +kernel
theorem d_Mo_count_110 : decode b_Mo_count 110 = .ok (.iinc 3 1, 3) := by decide +kernel
theorem d_Mo_count_113 : decode b_Mo_count 113 = .ok (.goto (-28), 3) := by decide +kernel
theorem d_Mo_count_116 : decode b_Mo_count 116 = .ok (.iload_n 1, 1) := by decide +kernel
theorem d_Mo_count_117 : decode b_Mo_count 117 = .ok (.ifCond .ne 10, 3) := by decide +kernel
theorem d_Mo_count_120 : decode b_Mo_count 120 = .ok (.aload_n 0, 1) := by decide +kernel
theorem d_Mo_count_121 : decode b_Mo_count 121 = .ok (.getfield 96, 3) := by decide +kernel
theorem d_Mo_count_124 : decode b_Mo_count 124 = .ok (.goto 28, 3) := by decide +kernel
theorem d_Mo_count_127 : decode b_Mo_count 127 = .ok (.iload_n 1, 1) := by decide +kernel
theorem d_Mo_count_128 : decode b_Mo_count 128 = .ok (.iconst 1, 1) := by decide +kernel
theorem d_Mo_count_129 : decode b_Mo_count 129 = .ok (.if_icmp .ne 10, 3) := by decide +kernel
theorem d_Mo_count_132 : decode b_Mo_count 132 = .ok (.aload_n 0, 1) := by decide +kernel
theorem d_Mo_count_133 : decode b_Mo_count 133 = .ok (.getfield 103, 3) := by decide +kernel
theorem d_Mo_count_136 : decode b_Mo_count 136 = .ok (.goto 16, 3) := by decide +kernel
theorem d_Mo_count_139 : decode b_Mo_count 139 = .ok (.iload_n 1, 1) := by decide +kernel
theorem d_Mo_count_140 : decode b_Mo_count 140 = .ok (.iconst 4, 1) := by decide +kernel
theorem d_Mo_count_141 : decode b_Mo_count 141 = .ok (.if_icmp .ne 10, 3) := by decide +kernel
theorem d_Mo_count_144 : decode b_Mo_count 144 = .ok (.aload_n 0, 1) := by decide +kernel
theorem d_Mo_count_145 : decode b_Mo_count 145 = .ok (.getfield 145, 3) := by decide +kernel
theorem d_Mo_count_148 : decode b_Mo_count 148 = .ok (.goto 4, 3) := by decide +kernel
theorem d_Mo_count_151 : decode b_Mo_count 151 = .ok (.iload_n 2, 1) := by decide +kernel
theorem d_Mo_count_152 : decode b_Mo_count 152 = .ok (.ireturn, 1) := by decide +kernel
end
section
theorem d_Lw_add_0 : decode b_Lw_add 0 = .ok (.aload_n 2, 1) := by decide +kernel
theorem d_Lw_add_1 : decode b_Lw_add 1 = .ok (.iconst 0, 1) := by decide +kernel
theorem d_Lw_add_2 : decode b_Lw_add 2 = .ok (.aload_n 0, 1) := by decide +kernel
theorem d_Lw_add_3 : decode b_Lw_add 3 = .ok (.iload_n 1, 1) := by decide +kernel
theorem d_Lw_add_4 : decode b_Lw_add 4 = .ok (.invokevirtual 7, 3) := by decide +kernel
theorem d_Lw_add_7 : decode b_Lw_add 7 = .ok (.i2l, 1) := by decide +kernel
theorem d_Lw_add_8 : decode b_Lw_add 8 = .ok (.lastore, 1) := by decide +kernel
theorem d_Lw_add_9 : decode b_Lw_add 9 = .ok (.goto 9, 3) := by decide +kernel
theorem d_Lw_add_12 : decode b_Lw_add 12 = .ok (.astore_n 3, 1) := by decide +kernel
theorem d_Lw_add_13 : decode b_Lw_add 13 = .ok (.iconst 1, 1) := by decide +kernel
theorem d_Lw_add_14 : decode b_Lw_add 14 = .ok (.ireturn, 1) := by decide +kernel
theorem d_Lw_add_15 : decode b_Lw_add 15 = .ok (.astore_n 3, 1) := by decide +kernel
theorem d_Lw_add_16 : decode b_Lw_add 16 = .ok (.iconst 2, 1) := by decide +kernel
theorem d_Lw_add_17 : decode b_Lw_add 17 = .ok (.ireturn, 1) := by decide +kernel
theorem d_Lw_add_18 : decode b_Lw_add 18 = .ok (.iconst 0, 1) := by decide +kernel
theorem d_Lw_add_19 : decode b_Lw_add 19 = .ok (.ireturn, 1) := by decide +kernel
theorem d_Lw_method_0 : decode b_Lw_method 0 = .ok (.aload 4, 2) := by decide +kernel
theorem d_Lw_method_2 : decode b_Lw_method 2 = .ok (.iconst 0, 1) := by decide +kernel
theorem d_Lw_method_3 : decode b_Lw_method 3 = .ok (.aload_n 0, 1) := by decide +kernel
theorem d_Lw_method_4 : decode b_Lw_method 4 = .ok (.iload_n 1, 1) := by decide +kernel
theorem d_Lw_method_5 : decode b_Lw_method 5 = .ok (.iload_n 2, 1) := by decide +kernel
theorem d_Lw_method_6 : decode b_Lw_method 6 = .ok (.iload_n 3, 1) := by decide +kernel
theorem d_Lw_method_7 : decode b_Lw_method 7 = .ok (.invokevirtual 17, 3) := by decide +kernel
theorem d_Lw_method_10 : decode b_Lw_method 10 = .ok (.i2l, 1) := by decide +kernel
theorem d_Lw_method_11 : decode b_Lw_method 11 = .ok (.lastore, 1) := by decide +kernel
theorem d_Lw_method_12 : decode b_Lw_method 12 = .ok (.goto 11, 3) := by decide +kernel
theorem d_Lw_method_15 : decode b_Lw_method 15 = .ok (.astore 5, 2) := by decide +kernel
theorem d_Lw_method_17 : decode b_Lw_method 17 = .ok (.iconst 1, 1) := by decide +kernel
theorem d_Lw_method_18 : decode b_Lw_method 18 = .ok (.ireturn, 1) := by decide +kernel
theorem d_Lw_method_19 : decode b_Lw_method 19 = .ok (.astore 5, 2) := by decide +kernel
theorem d_Lw_method_21 : decode b_Lw_method 21 = .ok (.iconst 2, 1) := by decide +kernel
theorem d_Lw_method_22 : decode b_Lw_method 22 = .ok (.ireturn, 1) := by decide +kernel
theorem d_Lw_method_23 : decode b_Lw_method 23 = .ok (.iconst 0, 1) := by decide +kernel
theorem d_Lw_method_24 : decode b_Lw_method 24 = .ok (.ireturn, 1) := by decide +kernel
theorem d_Lw_item_0 : decode b_Lw_item 0 = .ok (.aload 6, 2) := by decide +kernel
theorem d_Lw_item_2 : decode b_Lw_item 2 = .ok (.iconst 0, 1) := by decide +kernel
theorem d_Lw_item_3 : decode b_Lw_item 3 = .ok (.aload_n 0, 1) := by decide +kernel
theorem d_Lw_item_4 : decode b_Lw_item 4 = .ok (.iload_n 1, 1) := by decide +kernel
theorem d_Lw_item_5 : decode b_Lw_item 5 = .ok (.iload_n 2, 1) := by decide +kernel
theorem d_Lw_item_6 : decode b_Lw_item 6 = .ok (.iload_n 3, 1) := by decide +kernel
theorem d_Lw_item_7 : decode b_Lw_item 7 = .ok (.iload 4, 2) := by decide +kernel
theorem d_Lw_item_9 : decode b_Lw_item 9 = .ok (.iload 5, 2) := by decide +kernel
theorem d_Lw_item_11 : decode b_Lw_item 11 = .ok (.invokevirtual 21, 3) := by decide +kernel
theorem d_Lw_item_14 : decode b_Lw_item 14 = .ok (.i2l, 1) := by decide +kernel
theorem d_Lw_item_15 : decode b_Lw_item 15 = .ok (.lastore, 1) := by decide +kernel
theorem d_Lw_item_16 : decode b_Lw_item 16 = .ok (.goto 11, 3) := by decide +kernel
theorem d_Lw_item_19 : decode b_Lw_item 19 = .ok (.astore 7, 2) := by decide +kernel
theorem d_Lw_item_21 : decode b_Lw_item 21 = .ok (.iconst 1, 1) := by decide +kernel
theorem d_Lw_item_22 : decode b_Lw_item 22 = .ok (.ireturn, 1) := by decide +kernel
theorem d_Lw_item_23 : decode b_Lw_item 23 = .ok (.astore 7, 2) := by decide +kernel
theorem d_Lw_item_25 : decode b_Lw_item 25 = .ok (.iconst 2, 1) := by decide +kernel
theorem d_Lw_item_26 : decode b_Lw_item 26 = .ok (.ireturn, 1) := by decide +kernel
theorem d_Lw_item_27 : decode b_Lw_item 27 = .ok (.iconst 0, 1) := by decide +kernel
theorem d_Lw_item_28 : decode b_Lw_item 28 = .ok (.ireturn, 1) := by decide +kernel
theorem d_Lw_keep_0 : decode b_Lw_keep 0 = .ok (.aload_n 0, 1) := by decide +kernel
theorem d_Lw_keep_1 : decode b_Lw_keep 1 = .ok (.iload_n 1, 1) := by decide +kernel
theorem d_Lw_keep_2 : decode b_Lw_keep 2 = .ok (.iload_n 2, 1) := by decide +kernel
theorem d_Lw_keep_3 : decode b_Lw_keep 3 = .ok (.invokevirtual 25, 3) := by decide +kernel
theorem d_Lw_keep_6 : decode b_Lw_keep 6 = .ok (.goto 6, 3) := by decide +kernel
theorem d_Lw_keep_9 : decode b_Lw_keep 9 = .ok (.astore_n 3, 1) := by decide +kernel
theorem d_Lw_keep_10 : decode b_Lw_keep 10 = .ok (.iconst 1, 1) := by decide +kernel
theorem d_Lw_keep_11 : decode b_Lw_keep 11 = .ok (.ireturn, 1) := by decide +kernel
theorem d_Lw_keep_12 : decode b_Lw_keep 12 = .ok (.iconst 0, 1) := by decide +kernel
theorem d_Lw_keep_13 : decode b_Lw_keep 13 = .ok (.ireturn, 1) := by decide +kernel
theorem d_Lw_run_0 : decode b_Lw_run 0 = .ok (.aload 4, 2) := by decide +kernel
theorem d_Lw_run_2 : decode b_Lw_run 2 = .ok (.iconst 0, 1) := by decide +kernel
theorem d_Lw_run_3 : decode b_Lw_run 3 = .ok (.aload_n 0, 1) := by decide +kernel
theorem d_Lw_run_4 : decode b_Lw_run 4 = .ok (.iload_n 1, 1) := by decide +kernel
theorem d_Lw_run_5 : decode b_Lw_run 5 = .ok (.iload_n 2, 1) := by decide +kernel
theorem d_Lw_run_6 : decode b_Lw_run 6 = .ok (.iload_n 3, 1) := by decide +kernel
theorem d_Lw_run_7 : decode b_Lw_run 7 = .ok (.invokevirtual 29, 3) := by decide +kernel
theorem d_Lw_run_10 : decode b_Lw_run 10 = .ok (.i2l, 1) := by decide +kernel
theorem d_Lw_run_11 : decode b_Lw_run 11 = .ok (.lastore, 1) := by decide +kernel
theorem d_Lw_run_12 : decode b_Lw_run 12 = .ok (.goto 15, 3) := by decide +kernel
theorem d_Lw_run_15 : decode b_Lw_run 15 = .ok (.astore 5, 2) := by decide +kernel
theorem d_Lw_run_17 : decode b_Lw_run 17 = .ok (.iconst 1, 1) := by decide +kernel
theorem d_Lw_run_18 : decode b_Lw_run 18 = .ok (.ireturn, 1) := by decide +kernel
theorem d_Lw_run_19 : decode b_Lw_run 19 = .ok (.astore 5, 2) := by decide +kernel
theorem d_Lw_run_21 : decode b_Lw_run 21 = .ok (.iconst 2, 1) := by decide +kernel
theorem d_Lw_run_22 : decode b_Lw_run 22 = .ok (.ireturn, 1) := by decide +kernel
theorem d_Lw_run_23 : decode b_Lw_run 23 = .ok (.astore 5, 2) := by decide +kernel
theorem d_Lw_run_25 : decode b_Lw_run 25 = .ok (.iconst 3, 1) := by decide +kernel
theorem d_Lw_run_26 : decode b_Lw_run 26 = .ok (.ireturn, 1) := by decide +kernel
theorem d_Lw_run_27 : decode b_Lw_run 27 = .ok (.iconst 0, 1) := by decide +kernel
theorem d_Lw_run_28 : decode b_Lw_run 28 = .ok (.ireturn, 1) := by decide +kernel
theorem d_Lw_told_0 : decode b_Lw_told 0 = .ok (.aload_n 3, 1) := by decide +kernel
theorem d_Lw_told_1 : decode b_Lw_told 1 = .ok (.iconst 0, 1) := by decide +kernel
theorem d_Lw_told_2 : decode b_Lw_told 2 = .ok (.aload_n 0, 1) := by decide +kernel
theorem d_Lw_told_3 : decode b_Lw_told 3 = .ok (.iload_n 1, 1) := by decide +kernel
theorem d_Lw_told_4 : decode b_Lw_told 4 = .ok (.iload_n 2, 1) := by decide +kernel
theorem d_Lw_told_5 : decode b_Lw_told 5 = .ok (.invokevirtual 34, 3) := by decide +kernel
theorem d_Lw_told_8 : decode b_Lw_told 8 = .ok (.i2l, 1) := by decide +kernel
theorem d_Lw_told_9 : decode b_Lw_told 9 = .ok (.lastore, 1) := by decide +kernel
theorem d_Lw_told_10 : decode b_Lw_told 10 = .ok (.goto 7, 3) := by decide +kernel
theorem d_Lw_told_13 : decode b_Lw_told 13 = .ok (.astore 4, 2) := by decide +kernel
theorem d_Lw_told_15 : decode b_Lw_told 15 = .ok (.iconst 1, 1) := by decide +kernel
theorem d_Lw_told_16 : decode b_Lw_told 16 = .ok (.ireturn, 1) := by decide +kernel
theorem d_Lw_told_17 : decode b_Lw_told 17 = .ok (.iconst 0, 1) := by decide +kernel
theorem d_Lw_told_18 : decode b_Lw_told 18 = .ok (.ireturn, 1) := by decide +kernel
theorem d_Lw_inside_0 : decode b_Lw_inside 0 = .ok (.aload 4, 2) := by decide +kernel
theorem d_Lw_inside_2 : decode b_Lw_inside 2 = .ok (.iconst 0, 1) := by decide +kernel
theorem d_Lw_inside_3 : decode b_Lw_inside 3 = .ok (.aload_n 0, 1) := by decide +kernel
theorem d_Lw_inside_4 : decode b_Lw_inside 4 = .ok (.iload_n 1, 1) := by decide +kernel
theorem d_Lw_inside_5 : decode b_Lw_inside 5 = .ok (.iload_n 2, 1) := by decide +kernel
theorem d_Lw_inside_6 : decode b_Lw_inside 6 = .ok (.iload_n 3, 1) := by decide +kernel
theorem d_Lw_inside_7 : decode b_Lw_inside 7 = .ok (.invokevirtual 38, 3) := by decide +kernel
theorem d_Lw_inside_10 : decode b_Lw_inside 10 = .ok (.i2l, 1) := by decide +kernel
theorem d_Lw_inside_11 : decode b_Lw_inside 11 = .ok (.lastore, 1) := by decide +kernel
theorem d_Lw_inside_12 : decode b_Lw_inside 12 = .ok (.goto 11, 3) := by decide +kernel
theorem d_Lw_inside_15 : decode b_Lw_inside 15 = .ok (.astore 5, 2) := by decide +kernel
theorem d_Lw_inside_17 : decode b_Lw_inside 17 = .ok (.iconst 1, 1) := by decide +kernel
theorem d_Lw_inside_18 : decode b_Lw_inside 18 = .ok (.ireturn, 1) := by decide +kernel
theorem d_Lw_inside_19 : decode b_Lw_inside 19 = .ok (.astore 5, 2) := by decide +kernel
theorem d_Lw_inside_21 : decode b_Lw_inside 21 = .ok (.iconst 2, 1) := by decide +kernel
theorem d_Lw_inside_22 : decode b_Lw_inside 22 = .ok (.ireturn, 1) := by decide +kernel
theorem d_Lw_inside_23 : decode b_Lw_inside 23 = .ok (.iconst 0, 1) := by decide +kernel
theorem d_Lw_inside_24 : decode b_Lw_inside 24 = .ok (.ireturn, 1) := by decide +kernel
theorem d_Lw_trace_0 : decode b_Lw_trace 0 = .ok (.aload 4, 2) := by decide +kernel
theorem d_Lw_trace_2 : decode b_Lw_trace 2 = .ok (.iconst 0, 1) := by decide +kernel
theorem d_Lw_trace_3 : decode b_Lw_trace 3 = .ok (.aload_n 0, 1) := by decide +kernel
theorem d_Lw_trace_4 : decode b_Lw_trace 4 = .ok (.iload_n 1, 1) := by decide +kernel
theorem d_Lw_trace_5 : decode b_Lw_trace 5 = .ok (.iload_n 2, 1) := by decide +kernel
theorem d_Lw_trace_6 : decode b_Lw_trace 6 = .ok (.iload_n 3, 1) := by decide +kernel
theorem d_Lw_trace_7 : decode b_Lw_trace 7 = .ok (.invokevirtual 41, 3) := by decide +kernel
theorem d_Lw_trace_10 : decode b_Lw_trace 10 = .ok (.i2l, 1) := by decide +kernel
theorem d_Lw_trace_11 : decode b_Lw_trace 11 = .ok (.lastore, 1) := by decide +kernel
theorem d_Lw_trace_12 : decode b_Lw_trace 12 = .ok (.goto 11, 3) := by decide +kernel
theorem d_Lw_trace_15 : decode b_Lw_trace 15 = .ok (.astore 5, 2) := by decide +kernel
theorem d_Lw_trace_17 : decode b_Lw_trace 17 = .ok (.iconst 1, 1) := by decide +kernel
theorem d_Lw_trace_18 : decode b_Lw_trace 18 = .ok (.ireturn, 1) := by decide +kernel
theorem d_Lw_trace_19 : decode b_Lw_trace 19 = .ok (.astore 5, 2) := by decide +kernel
theorem d_Lw_trace_21 : decode b_Lw_trace 21 = .ok (.iconst 2, 1) := by decide +kernel
theorem d_Lw_trace_22 : decode b_Lw_trace 22 = .ok (.ireturn, 1) := by decide +kernel
theorem d_Lw_trace_23 : decode b_Lw_trace 23 = .ok (.iconst 0, 1) := by decide +kernel
theorem d_Lw_trace_24 : decode b_Lw_trace 24 = .ok (.ireturn, 1) := by decide +kernel
theorem d_Lw_law_0 : decode b_Lw_law 0 = .ok (.new 8, 3) := by decide +kernel
theorem d_Lw_law_3 : decode b_Lw_law 3 = .ok (.dup, 1) := by decide +kernel
theorem d_Lw_law_4 : decode b_Lw_law 4 = .ok (.invokespecial 44, 3) := by decide +kernel
theorem d_Lw_law_7 : decode b_Lw_law 7 = .ok (.astore_n 1, 1) := by decide +kernel
theorem d_Lw_law_8 : decode b_Lw_law 8 = .ok (.new 45, 3) := by decide +kernel
theorem d_Lw_law_11 : decode b_Lw_law 11 = .ok (.dup, 1) := by decide +kernel
theorem d_Lw_law_12 : decode b_Lw_law 12 = .ok (.invokespecial 47, 3) := by decide +kernel
theorem d_Lw_law_15 : decode b_Lw_law 15 = .ok (.astore_n 2, 1) := by decide +kernel
theorem d_Lw_law_16 : decode b_Lw_law 16 = .ok (.iconst 1, 1) := by decide +kernel
theorem d_Lw_law_17 : decode b_Lw_law 17 = .ok (.newarray .long, 2) := by decide +kernel
theorem d_Lw_law_19 : decode b_Lw_law 19 = .ok (.astore_n 3, 1) := by decide +kernel
theorem d_Lw_law_20 : decode b_Lw_law 20 = .ok (.iconst 0, 1) := by decide +kernel
theorem d_Lw_law_21 : decode b_Lw_law 21 = .ok (.istore 4, 2) := by decide +kernel
theorem d_Lw_law_23 : decode b_Lw_law 23 = .ok (.iload 4, 2) := by decide +kernel
theorem d_Lw_law_25 : decode b_Lw_law 25 = .ok (.aload_n 0, 1) := by decide +kernel
theorem d_Lw_law_26 : decode b_Lw_law 26 = .ok (.arraylength, 1) := by decide +kernel
theorem d_Lw_law_27 : decode b_Lw_law 27 = .ok (.bipush 6, 2) := by decide +kernel
theorem d_Lw_law_29 : decode b_Lw_law 29 = .ok (.isub, 1) := by decide +kernel
theorem d_Lw_law_30 : decode b_Lw_law 30 = .ok (.if_icmp .gt 739, 3) := by decide +kernel
theorem d_Lw_law_33 : decode b_Lw_law 33 = .ok (.aload_n 0, 1) := by decide +kernel
theorem d_Lw_law_34 : decode b_Lw_law 34 = .ok (.iload 4, 2) := by decide +kernel
theorem d_Lw_law_36 : decode b_Lw_law 36 = .ok (.iaload, 1) := by decide +kernel
theorem d_Lw_law_37 : decode b_Lw_law 37 = .ok (.bipush 15, 2) := by decide +kernel
theorem d_Lw_law_39 : decode b_Lw_law 39 = .ok (.iand, 1) := by decide +kernel
theorem d_Lw_law_40 : decode b_Lw_law 40 = .ok (.tableswitch 723 0 10 #[60, 116, 196, 300, 364, 444, 457, 470, 538, 618, 698], 60) := by decide +kernel
theorem d_Lw_law_100 : decode b_Lw_law 100 = .ok (.aload_n 1, 1) := by decide +kernel
theorem d_Lw_law_101 : decode b_Lw_law 101 = .ok (.aload_n 0, 1) := by decide +kernel
theorem d_Lw_law_102 : decode b_Lw_law 102 = .ok (.iload 4, 2) := by decide +kernel
theorem d_Lw_law_104 : decode b_Lw_law 104 = .ok (.iconst 1, 1) := by decide +kernel
theorem d_Lw_law_105 : decode b_Lw_law 105 = .ok (.iadd, 1) := by decide +kernel
theorem d_Lw_law_106 : decode b_Lw_law 106 = .ok (.iaload, 1) := by decide +kernel
theorem d_Lw_law_107 : decode b_Lw_law 107 = .ok (.aload_n 3, 1) := by decide +kernel
theorem d_Lw_law_108 : decode b_Lw_law 108 = .ok (.invokestatic 48, 3) := by decide +kernel
theorem d_Lw_law_111 : decode b_Lw_law 111 = .ok (.istore 5, 2) := by decide +kernel
theorem d_Lw_law_113 : decode b_Lw_law 113 = .ok (.aload_n 2, 1) := by decide +kernel
theorem d_Lw_law_114 : decode b_Lw_law 114 = .ok (.aload_n 0, 1) := by decide +kernel
theorem d_Lw_law_115 : decode b_Lw_law 115 = .ok (.iload 4, 2) := by decide +kernel
theorem d_Lw_law_117 : decode b_Lw_law 117 = .ok (.iconst 1, 1) := by decide +kernel
theorem d_Lw_law_118 : decode b_Lw_law 118 = .ok (.iadd, 1) := by decide +kernel
theorem d_Lw_law_119 : decode b_Lw_law 119 = .ok (.iaload, 1) := by decide +kernel
theorem d_Lw_law_120 : decode b_Lw_law 120 = .ok (.invokevirtual 53, 3) := by decide +kernel
theorem d_Lw_law_123 : decode b_Lw_law 123 = .ok (.istore 6, 2) := by decide +kernel
theorem d_Lw_law_125 : decode b_Lw_law 125 = .ok (.aload_n 2, 1) := by decide +kernel
theorem d_Lw_law_126 : decode b_Lw_law 126 = .ok (.invokevirtual 54, 3) := by decide +kernel
theorem d_Lw_law_129 : decode b_Lw_law 129 = .ok (.iload 5, 2) := by decide +kernel
theorem d_Lw_law_131 : decode b_Lw_law 131 = .ok (.if_icmp .eq 5, 3) := by decide +kernel
theorem d_Lw_law_134 : decode b_Lw_law 134 = .ok (.iconst 0, 1) := by decide +kernel
theorem d_Lw_law_135 : decode b_Lw_law 135 = .ok (.ireturn, 1) := by decide +kernel
theorem d_Lw_law_136 : decode b_Lw_law 136 = .ok (.iload 5, 2) := by decide +kernel
theorem d_Lw_law_138 : decode b_Lw_law 138 = .ok (.ifCond .ne 15, 3) := by decide +kernel
theorem d_Lw_law_141 : decode b_Lw_law 141 = .ok (.aload_n 3, 1) := by decide +kernel
theorem d_Lw_law_142 : decode b_Lw_law 142 = .ok (.iconst 0, 1) := by decide +kernel
theorem d_Lw_law_143 : decode b_Lw_law 143 = .ok (.laload, 1) := by decide +kernel
theorem d_Lw_law_144 : decode b_Lw_law 144 = .ok (.iload 6, 2) := by decide +kernel
theorem d_Lw_law_146 : decode b_Lw_law 146 = .ok (.i2l, 1) := by decide +kernel
theorem d_Lw_law_147 : decode b_Lw_law 147 = .ok (.lcmp, 1) := by decide +kernel
theorem d_Lw_law_148 : decode b_Lw_law 148 = .ok (.ifCond .eq 5, 3) := by decide +kernel
theorem d_Lw_law_151 : decode b_Lw_law 151 = .ok (.iconst 0, 1) := by decide +kernel
theorem d_Lw_law_152 : decode b_Lw_law 152 = .ok (.ireturn, 1) := by decide +kernel
theorem d_Lw_law_153 : decode b_Lw_law 153 = .ok (.goto 610, 3) := by decide +kernel
theorem d_Lw_law_156 : decode b_Lw_law 156 = .ok (.aload_n 1, 1) := by decide +kernel
theorem d_Lw_law_157 : decode b_Lw_law 157 = .ok (.aload_n 0, 1) := by decide +kernel
theorem d_Lw_law_158 : decode b_Lw_law 158 = .ok (.iload 4, 2) := by decide +kernel
theorem d_Lw_law_160 : decode b_Lw_law 160 = .ok (.iconst 1, 1) := by decide +kernel
theorem d_Lw_law_161 : decode b_Lw_law 161 = .ok (.iadd, 1) := by decide +kernel
theorem d_Lw_law_162 : decode b_Lw_law 162 = .ok (.iaload, 1) := by decide +kernel
theorem d_Lw_law_163 : decode b_Lw_law 163 = .ok (.aload_n 0, 1) := by decide +kernel
theorem d_Lw_law_164 : decode b_Lw_law 164 = .ok (.iload 4, 2) := by decide +kernel
theorem d_Lw_law_166 : decode b_Lw_law 166 = .ok (.iconst 2, 1) := by decide +kernel
theorem d_Lw_law_167 : decode b_Lw_law 167 = .ok (.iadd, 1) := by decide +kernel
theorem d_Lw_law_168 : decode b_Lw_law 168 = .ok (.iaload, 1) := by decide +kernel
theorem d_Lw_law_169 : decode b_Lw_law 169 = .ok (.aload_n 0, 1) := by decide +kernel
theorem d_Lw_law_170 : decode b_Lw_law 170 = .ok (.iload 4, 2) := by decide +kernel
theorem d_Lw_law_172 : decode b_Lw_law 172 = .ok (.iconst 3, 1) := by decide +kernel
theorem d_Lw_law_173 : decode b_Lw_law 173 = .ok (.iadd, 1) := by decide +kernel
theorem d_Lw_law_174 : decode b_Lw_law 174 = .ok (.iaload, 1) := by decide +kernel
theorem d_Lw_law_175 : decode b_Lw_law 175 = .ok (.aload_n 3, 1) := by decide +kernel
theorem d_Lw_law_176 : decode b_Lw_law 176 = .ok (.invokestatic 58, 3) := by decide +kernel
theorem d_Lw_law_179 : decode b_Lw_law 179 = .ok (.istore 5, 2) := by decide +kernel
theorem d_Lw_law_181 : decode b_Lw_law 181 = .ok (.aload_n 2, 1) := by decide +kernel
theorem d_Lw_law_182 : decode b_Lw_law 182 = .ok (.aload_n 0, 1) := by decide +kernel
theorem d_Lw_law_183 : decode b_Lw_law 183 = .ok (.iload 4, 2) := by decide +kernel
theorem d_Lw_law_185 : decode b_Lw_law 185 = .ok (.iconst 1, 1) := by decide +kernel
theorem d_Lw_law_186 : decode b_Lw_law 186 = .ok (.iadd, 1) := by decide +kernel
theorem d_Lw_law_187 : decode b_Lw_law 187 = .ok (.iaload, 1) := by decide +kernel
theorem d_Lw_law_188 : decode b_Lw_law 188 = .ok (.aload_n 0, 1) := by decide +kernel
theorem d_Lw_law_189 : decode b_Lw_law 189 = .ok (.iload 4, 2) := by decide +kernel
theorem d_Lw_law_191 : decode b_Lw_law 191 = .ok (.iconst 2, 1) := by decide +kernel
theorem d_Lw_law_192 : decode b_Lw_law 192 = .ok (.iadd, 1) := by decide +kernel
theorem d_Lw_law_193 : decode b_Lw_law 193 = .ok (.iaload, 1) := by decide +kernel
theorem d_Lw_law_194 : decode b_Lw_law 194 = .ok (.aload_n 0, 1) := by decide +kernel
theorem d_Lw_law_195 : decode b_Lw_law 195 = .ok (.iload 4, 2) := by decide +kernel
theorem d_Lw_law_197 : decode b_Lw_law 197 = .ok (.iconst 3, 1) := by decide +kernel
theorem d_Lw_law_198 : decode b_Lw_law 198 = .ok (.iadd, 1) := by decide +kernel
theorem d_Lw_law_199 : decode b_Lw_law 199 = .ok (.iaload, 1) := by decide +kernel
theorem d_Lw_law_200 : decode b_Lw_law 200 = .ok (.invokevirtual 61, 3) := by decide +kernel
theorem d_Lw_law_203 : decode b_Lw_law 203 = .ok (.istore 6, 2) := by decide +kernel
theorem d_Lw_law_205 : decode b_Lw_law 205 = .ok (.aload_n 2, 1) := by decide +kernel
theorem d_Lw_law_206 : decode b_Lw_law 206 = .ok (.invokevirtual 54, 3) := by decide +kernel
theorem d_Lw_law_209 : decode b_Lw_law 209 = .ok (.iload 5, 2) := by decide +kernel
theorem d_Lw_law_211 : decode b_Lw_law 211 = .ok (.if_icmp .eq 5, 3) := by decide +kernel
theorem d_Lw_law_214 : decode b_Lw_law 214 = .ok (.iconst 0, 1) := by decide +kernel
theorem d_Lw_law_215 : decode b_Lw_law 215 = .ok (.ireturn, 1) := by decide +kernel
theorem d_Lw_law_216 : decode b_Lw_law 216 = .ok (.iload 5, 2) := by decide +kernel
theorem d_Lw_law_218 : decode b_Lw_law 218 = .ok (.ifCond .ne 15, 3) := by decide +kernel
theorem d_Lw_law_221 : decode b_Lw_law 221 = .ok (.aload_n 3, 1) := by decide +kernel
theorem d_Lw_law_222 : decode b_Lw_law 222 = .ok (.iconst 0, 1) := by decide +kernel
theorem d_Lw_law_223 : decode b_Lw_law 223 = .ok (.laload, 1) := by decide +kernel
theorem d_Lw_law_224 : decode b_Lw_law 224 = .ok (.iload 6, 2) := by decide +kernel
theorem d_Lw_law_226 : decode b_Lw_law 226 = .ok (.i2l, 1) := by decide +kernel
theorem d_Lw_law_227 : decode b_Lw_law 227 = .ok (.lcmp, 1) := by decide +kernel
theorem d_Lw_law_228 : decode b_Lw_law 228 = .ok (.ifCond .eq 5, 3) := by decide +kernel
theorem d_Lw_law_231 : decode b_Lw_law 231 = .ok (.iconst 0, 1) := by decide +kernel
theorem d_Lw_law_232 : decode b_Lw_law 232 = .ok (.ireturn, 1) := by decide +kernel
theorem d_Lw_law_233 : decode b_Lw_law 233 = .ok (.goto 530, 3) := by decide +kernel
theorem d_Lw_law_236 : decode b_Lw_law 236 = .ok (.aload_n 1, 1) := by decide +kernel
theorem d_Lw_law_237 : decode b_Lw_law 237 = .ok (.aload_n 0, 1) := by decide +kernel
theorem d_Lw_law_238 : decode b_Lw_law 238 = .ok (.iload 4, 2) := by decide +kernel
theorem d_Lw_law_240 : decode b_Lw_law 240 = .ok (.iconst 1, 1) := by decide +kernel
theorem d_Lw_law_241 : decode b_Lw_law 241 = .ok (.iadd, 1) := by decide +kernel
theorem d_Lw_law_242 : decode b_Lw_law 242 = .ok (.iaload, 1) := by decide +kernel
theorem d_Lw_law_243 : decode b_Lw_law 243 = .ok (.aload_n 0, 1) := by decide +kernel
theorem d_Lw_law_244 : decode b_Lw_law 244 = .ok (.iload 4, 2) := by decide +kernel
theorem d_Lw_law_246 : decode b_Lw_law 246 = .ok (.iconst 2, 1) := by decide +kernel
theorem d_Lw_law_247 : decode b_Lw_law 247 = .ok (.iadd, 1) := by decide +kernel
theorem d_Lw_law_248 : decode b_Lw_law 248 = .ok (.iaload, 1) := by decide +kernel
theorem d_Lw_law_249 : decode b_Lw_law 249 = .ok (.aload_n 0, 1) := by decide +kernel
theorem d_Lw_law_250 : decode b_Lw_law 250 = .ok (.iload 4, 2) := by decide +kernel
theorem d_Lw_law_252 : decode b_Lw_law 252 = .ok (.iconst 3, 1) := by decide +kernel
theorem d_Lw_law_253 : decode b_Lw_law 253 = .ok (.iadd, 1) := by decide +kernel
theorem d_Lw_law_254 : decode b_Lw_law 254 = .ok (.iaload, 1) := by decide +kernel
theorem d_Lw_law_255 : decode b_Lw_law 255 = .ok (.aload_n 0, 1) := by decide +kernel
theorem d_Lw_law_256 : decode b_Lw_law 256 = .ok (.iload 4, 2) := by decide +kernel
theorem d_Lw_law_258 : decode b_Lw_law 258 = .ok (.iconst 4, 1) := by decide +kernel
theorem d_Lw_law_259 : decode b_Lw_law 259 = .ok (.iadd, 1) := by decide +kernel
theorem d_Lw_law_260 : decode b_Lw_law 260 = .ok (.iaload, 1) := by decide +kernel
theorem d_Lw_law_261 : decode b_Lw_law 261 = .ok (.aload_n 0, 1) := by decide +kernel
theorem d_Lw_law_262 : decode b_Lw_law 262 = .ok (.iload 4, 2) := by decide +kernel
theorem d_Lw_law_264 : decode b_Lw_law 264 = .ok (.iconst 5, 1) := by decide +kernel
theorem d_Lw_law_265 : decode b_Lw_law 265 = .ok (.iadd, 1) := by decide +kernel
theorem d_Lw_law_266 : decode b_Lw_law 266 = .ok (.iaload, 1) := by decide +kernel
theorem d_Lw_law_267 : decode b_Lw_law 267 = .ok (.aload_n 3, 1) := by decide +kernel
theorem d_Lw_law_268 : decode b_Lw_law 268 = .ok (.invokestatic 62, 3) := by decide +kernel
theorem d_Lw_law_271 : decode b_Lw_law 271 = .ok (.istore 5, 2) := by decide +kernel
theorem d_Lw_law_273 : decode b_Lw_law 273 = .ok (.aload_n 2, 1) := by decide +kernel
theorem d_Lw_law_274 : decode b_Lw_law 274 = .ok (.aload_n 0, 1) := by decide +kernel
theorem d_Lw_law_275 : decode b_Lw_law 275 = .ok (.iload 4, 2) := by decide +kernel
theorem d_Lw_law_277 : decode b_Lw_law 277 = .ok (.iconst 1, 1) := by decide +kernel
theorem d_Lw_law_278 : decode b_Lw_law 278 = .ok (.iadd, 1) := by decide +kernel
theorem d_Lw_law_279 : decode b_Lw_law 279 = .ok (.iaload, 1) := by decide +kernel
theorem d_Lw_law_280 : decode b_Lw_law 280 = .ok (.aload_n 0, 1) := by decide +kernel
theorem d_Lw_law_281 : decode b_Lw_law 281 = .ok (.iload 4, 2) := by decide +kernel
theorem d_Lw_law_283 : decode b_Lw_law 283 = .ok (.iconst 2, 1) := by decide +kernel
theorem d_Lw_law_284 : decode b_Lw_law 284 = .ok (.iadd, 1) := by decide +kernel
theorem d_Lw_law_285 : decode b_Lw_law 285 = .ok (.iaload, 1) := by decide +kernel
theorem d_Lw_law_286 : decode b_Lw_law 286 = .ok (.aload_n 0, 1) := by decide +kernel
theorem d_Lw_law_287 : decode b_Lw_law 287 = .ok (.iload 4, 2) := by decide +kernel
theorem d_Lw_law_289 : decode b_Lw_law 289 = .ok (.iconst 3, 1) := by decide +kernel
theorem d_Lw_law_290 : decode b_Lw_law 290 = .ok (.iadd, 1) := by decide +kernel
theorem d_Lw_law_291 : decode b_Lw_law 291 = .ok (.iaload, 1) := by decide +kernel
theorem d_Lw_law_292 : decode b_Lw_law 292 = .ok (.aload_n 0, 1) := by decide +kernel
theorem d_Lw_law_293 : decode b_Lw_law 293 = .ok (.iload 4, 2) := by decide +kernel
theorem d_Lw_law_295 : decode b_Lw_law 295 = .ok (.iconst 4, 1) := by decide +kernel
theorem d_Lw_law_296 : decode b_Lw_law 296 = .ok (.iadd, 1) := by decide +kernel
theorem d_Lw_law_297 : decode b_Lw_law 297 = .ok (.iaload, 1) := by decide +kernel
theorem d_Lw_law_298 : decode b_Lw_law 298 = .ok (.aload_n 0, 1) := by decide +kernel
theorem d_Lw_law_299 : decode b_Lw_law 299 = .ok (.iload 4, 2) := by decide +kernel
theorem d_Lw_law_301 : decode b_Lw_law 301 = .ok (.iconst 5, 1) := by decide +kernel
theorem d_Lw_law_302 : decode b_Lw_law 302 = .ok (.iadd, 1) := by decide +kernel
theorem d_Lw_law_303 : decode b_Lw_law 303 = .ok (.iaload, 1) := by decide +kernel
theorem d_Lw_law_304 : decode b_Lw_law 304 = .ok (.invokevirtual 65, 3) := by decide +kernel
theorem d_Lw_law_307 : decode b_Lw_law 307 = .ok (.istore 6, 2) := by decide +kernel
theorem d_Lw_law_309 : decode b_Lw_law 309 = .ok (.aload_n 2, 1) := by decide +kernel
theorem d_Lw_law_310 : decode b_Lw_law 310 = .ok (.invokevirtual 54, 3) := by decide +kernel
theorem d_Lw_law_313 : decode b_Lw_law 313 = .ok (.iload 5, 2) := by decide +kernel
theorem d_Lw_law_315 : decode b_Lw_law 315 = .ok (.if_icmp .eq 5, 3) := by decide +kernel
theorem d_Lw_law_318 : decode b_Lw_law 318 = .ok (.iconst 0, 1) := by decide +kernel
theorem d_Lw_law_319 : decode b_Lw_law 319 = .ok (.ireturn, 1) := by decide +kernel
theorem d_Lw_law_320 : decode b_Lw_law 320 = .ok (.iload 5, 2) := by decide +kernel
theorem d_Lw_law_322 : decode b_Lw_law 322 = .ok (.ifCond .ne 15, 3) := by decide +kernel
theorem d_Lw_law_325 : decode b_Lw_law 325 = .ok (.aload_n 3, 1) := by decide +kernel
theorem d_Lw_law_326 : decode b_Lw_law 326 = .ok (.iconst 0, 1) := by decide +kernel
theorem d_Lw_law_327 : decode b_Lw_law 327 = .ok (.laload, 1) := by decide +kernel
theorem d_Lw_law_328 : decode b_Lw_law 328 = .ok (.iload 6, 2) := by decide +kernel
theorem d_Lw_law_330 : decode b_Lw_law 330 = .ok (.i2l, 1) := by decide +kernel
theorem d_Lw_law_331 : decode b_Lw_law 331 = .ok (.lcmp, 1) := by decide +kernel
theorem d_Lw_law_332 : decode b_Lw_law 332 = .ok (.ifCond .eq 5, 3) := by decide +kernel
theorem d_Lw_law_335 : decode b_Lw_law 335 = .ok (.iconst 0, 1) := by decide +kernel
theorem d_Lw_law_336 : decode b_Lw_law 336 = .ok (.ireturn, 1) := by decide +kernel
theorem d_Lw_law_337 : decode b_Lw_law 337 = .ok (.goto 426, 3) := by decide +kernel
theorem d_Lw_law_340 : decode b_Lw_law 340 = .ok (.aload_n 1, 1) := by decide +kernel
theorem d_Lw_law_341 : decode b_Lw_law 341 = .ok (.aload_n 0, 1) := by decide +kernel
theorem d_Lw_law_342 : decode b_Lw_law 342 = .ok (.iload 4, 2) := by decide +kernel
theorem d_Lw_law_344 : decode b_Lw_law 344 = .ok (.iconst 1, 1) := by decide +kernel
theorem d_Lw_law_345 : decode b_Lw_law 345 = .ok (.iadd, 1) := by decide +kernel
theorem d_Lw_law_346 : decode b_Lw_law 346 = .ok (.iaload, 1) := by decide +kernel
theorem d_Lw_law_347 : decode b_Lw_law 347 = .ok (.aload_n 0, 1) := by decide +kernel
theorem d_Lw_law_348 : decode b_Lw_law 348 = .ok (.iload 4, 2) := by decide +kernel
theorem d_Lw_law_350 : decode b_Lw_law 350 = .ok (.iconst 2, 1) := by decide +kernel
theorem d_Lw_law_351 : decode b_Lw_law 351 = .ok (.iadd, 1) := by decide +kernel
theorem d_Lw_law_352 : decode b_Lw_law 352 = .ok (.iaload, 1) := by decide +kernel
theorem d_Lw_law_353 : decode b_Lw_law 353 = .ok (.ifCond .eq 7, 3) := by decide +kernel
theorem d_Lw_law_356 : decode b_Lw_law 356 = .ok (.iconst 1, 1) := by decide +kernel
theorem d_Lw_law_357 : decode b_Lw_law 357 = .ok (.goto 4, 3) := by decide +kernel
theorem d_Lw_law_360 : decode b_Lw_law 360 = .ok (.iconst 0, 1) := by decide +kernel
theorem d_Lw_law_361 : decode b_Lw_law 361 = .ok (.invokestatic 66, 3) := by decide +kernel
theorem d_Lw_law_364 : decode b_Lw_law 364 = .ok (.istore 5, 2) := by decide +kernel
theorem d_Lw_law_366 : decode b_Lw_law 366 = .ok (.aload_n 2, 1) := by decide +kernel
theorem d_Lw_law_367 : decode b_Lw_law 367 = .ok (.aload_n 0, 1) := by decide +kernel
theorem d_Lw_law_368 : decode b_Lw_law 368 = .ok (.iload 4, 2) := by decide +kernel
theorem d_Lw_law_370 : decode b_Lw_law 370 = .ok (.iconst 1, 1) := by decide +kernel
theorem d_Lw_law_371 : decode b_Lw_law 371 = .ok (.iadd, 1) := by decide +kernel
theorem d_Lw_law_372 : decode b_Lw_law 372 = .ok (.iaload, 1) := by decide +kernel
theorem d_Lw_law_373 : decode b_Lw_law 373 = .ok (.aload_n 0, 1) := by decide +kernel
theorem d_Lw_law_374 : decode b_Lw_law 374 = .ok (.iload 4, 2) := by decide +kernel
theorem d_Lw_law_376 : decode b_Lw_law 376 = .ok (.iconst 2, 1) := by decide +kernel
theorem d_Lw_law_377 : decode b_Lw_law 377 = .ok (.iadd, 1) := by decide +kernel
theorem d_Lw_law_378 : decode b_Lw_law 378 = .ok (.iaload, 1) := by decide +kernel
theorem d_Lw_law_379 : decode b_Lw_law 379 = .ok (.ifCond .eq 7, 3) := by decide +kernel
theorem d_Lw_law_382 : decode b_Lw_law 382 = .ok (.iconst 1, 1) := by decide +kernel
theorem d_Lw_law_383 : decode b_Lw_law 383 = .ok (.goto 4, 3) := by decide +kernel
theorem d_Lw_law_386 : decode b_Lw_law 386 = .ok (.iconst 0, 1) := by decide +kernel
theorem d_Lw_law_387 : decode b_Lw_law 387 = .ok (.invokevirtual 69, 3) := by decide +kernel
theorem d_Lw_law_390 : decode b_Lw_law 390 = .ok (.aload_n 2, 1) := by decide +kernel
theorem d_Lw_law_391 : decode b_Lw_law 391 = .ok (.invokevirtual 54, 3) := by decide +kernel
theorem d_Lw_law_394 : decode b_Lw_law 394 = .ok (.iload 5, 2) := by decide +kernel
theorem d_Lw_law_396 : decode b_Lw_law 396 = .ok (.if_icmp .eq 5, 3) := by decide +kernel
theorem d_Lw_law_399 : decode b_Lw_law 399 = .ok (.iconst 0, 1) := by decide +kernel
theorem d_Lw_law_400 : decode b_Lw_law 400 = .ok (.ireturn, 1) := by decide +kernel
theorem d_Lw_law_401 : decode b_Lw_law 401 = .ok (.goto 362, 3) := by decide +kernel
theorem d_Lw_law_404 : decode b_Lw_law 404 = .ok (.aload_n 1, 1) := by decide +kernel
theorem d_Lw_law_405 : decode b_Lw_law 405 = .ok (.aload_n 0, 1) := by decide +kernel
theorem d_Lw_law_406 : decode b_Lw_law 406 = .ok (.iload 4, 2) := by decide +kernel
theorem d_Lw_law_408 : decode b_Lw_law 408 = .ok (.iconst 1, 1) := by decide +kernel
theorem d_Lw_law_409 : decode b_Lw_law 409 = .ok (.iadd, 1) := by decide +kernel
theorem d_Lw_law_410 : decode b_Lw_law 410 = .ok (.iaload, 1) := by decide +kernel
theorem d_Lw_law_411 : decode b_Lw_law 411 = .ok (.aload_n 0, 1) := by decide +kernel
theorem d_Lw_law_412 : decode b_Lw_law 412 = .ok (.iload 4, 2) := by decide +kernel
theorem d_Lw_law_414 : decode b_Lw_law 414 = .ok (.iconst 2, 1) := by decide +kernel
theorem d_Lw_law_415 : decode b_Lw_law 415 = .ok (.iadd, 1) := by decide +kernel
theorem d_Lw_law_416 : decode b_Lw_law 416 = .ok (.iaload, 1) := by decide +kernel
theorem d_Lw_law_417 : decode b_Lw_law 417 = .ok (.aload_n 0, 1) := by decide +kernel
theorem d_Lw_law_418 : decode b_Lw_law 418 = .ok (.iload 4, 2) := by decide +kernel
theorem d_Lw_law_420 : decode b_Lw_law 420 = .ok (.iconst 3, 1) := by decide +kernel
theorem d_Lw_law_421 : decode b_Lw_law 421 = .ok (.iadd, 1) := by decide +kernel
theorem d_Lw_law_422 : decode b_Lw_law 422 = .ok (.iaload, 1) := by decide +kernel
theorem d_Lw_law_423 : decode b_Lw_law 423 = .ok (.aload_n 3, 1) := by decide +kernel
theorem d_Lw_law_424 : decode b_Lw_law 424 = .ok (.invokestatic 70, 3) := by decide +kernel
theorem d_Lw_law_427 : decode b_Lw_law 427 = .ok (.istore 5, 2) := by decide +kernel
theorem d_Lw_law_429 : decode b_Lw_law 429 = .ok (.aload_n 2, 1) := by decide +kernel
theorem d_Lw_law_430 : decode b_Lw_law 430 = .ok (.aload_n 0, 1) := by decide +kernel
theorem d_Lw_law_431 : decode b_Lw_law 431 = .ok (.iload 4, 2) := by decide +kernel
theorem d_Lw_law_433 : decode b_Lw_law 433 = .ok (.iconst 1, 1) := by decide +kernel
theorem d_Lw_law_434 : decode b_Lw_law 434 = .ok (.iadd, 1) := by decide +kernel
theorem d_Lw_law_435 : decode b_Lw_law 435 = .ok (.iaload, 1) := by decide +kernel
theorem d_Lw_law_436 : decode b_Lw_law 436 = .ok (.aload_n 0, 1) := by decide +kernel
theorem d_Lw_law_437 : decode b_Lw_law 437 = .ok (.iload 4, 2) := by decide +kernel
theorem d_Lw_law_439 : decode b_Lw_law 439 = .ok (.iconst 2, 1) := by decide +kernel
theorem d_Lw_law_440 : decode b_Lw_law 440 = .ok (.iadd, 1) := by decide +kernel
theorem d_Lw_law_441 : decode b_Lw_law 441 = .ok (.iaload, 1) := by decide +kernel
theorem d_Lw_law_442 : decode b_Lw_law 442 = .ok (.aload_n 0, 1) := by decide +kernel
theorem d_Lw_law_443 : decode b_Lw_law 443 = .ok (.iload 4, 2) := by decide +kernel
theorem d_Lw_law_445 : decode b_Lw_law 445 = .ok (.iconst 3, 1) := by decide +kernel
theorem d_Lw_law_446 : decode b_Lw_law 446 = .ok (.iadd, 1) := by decide +kernel
theorem d_Lw_law_447 : decode b_Lw_law 447 = .ok (.iaload, 1) := by decide +kernel
theorem d_Lw_law_448 : decode b_Lw_law 448 = .ok (.invokevirtual 72, 3) := by decide +kernel
theorem d_Lw_law_451 : decode b_Lw_law 451 = .ok (.istore 6, 2) := by decide +kernel
theorem d_Lw_law_453 : decode b_Lw_law 453 = .ok (.aload_n 2, 1) := by decide +kernel
theorem d_Lw_law_454 : decode b_Lw_law 454 = .ok (.invokevirtual 54, 3) := by decide +kernel
theorem d_Lw_law_457 : decode b_Lw_law 457 = .ok (.iload 5, 2) := by decide +kernel
theorem d_Lw_law_459 : decode b_Lw_law 459 = .ok (.if_icmp .eq 5, 3) := by decide +kernel
theorem d_Lw_law_462 : decode b_Lw_law 462 = .ok (.iconst 0, 1) := by decide +kernel
theorem d_Lw_law_463 : decode b_Lw_law 463 = .ok (.ireturn, 1) := by decide +kernel
theorem d_Lw_law_464 : decode b_Lw_law 464 = .ok (.iload 5, 2) := by decide +kernel
theorem d_Lw_law_466 : decode b_Lw_law 466 = .ok (.ifCond .ne 15, 3) := by decide +kernel
theorem d_Lw_law_469 : decode b_Lw_law 469 = .ok (.aload_n 3, 1) := by decide +kernel
theorem d_Lw_law_470 : decode b_Lw_law 470 = .ok (.iconst 0, 1) := by decide +kernel
theorem d_Lw_law_471 : decode b_Lw_law 471 = .ok (.laload, 1) := by decide +kernel
theorem d_Lw_law_472 : decode b_Lw_law 472 = .ok (.iload 6, 2) := by decide +kernel
theorem d_Lw_law_474 : decode b_Lw_law 474 = .ok (.i2l, 1) := by decide +kernel
theorem d_Lw_law_475 : decode b_Lw_law 475 = .ok (.lcmp, 1) := by decide +kernel
theorem d_Lw_law_476 : decode b_Lw_law 476 = .ok (.ifCond .eq 5, 3) := by decide +kernel
theorem d_Lw_law_479 : decode b_Lw_law 479 = .ok (.iconst 0, 1) := by decide +kernel
theorem d_Lw_law_480 : decode b_Lw_law 480 = .ok (.ireturn, 1) := by decide +kernel
theorem d_Lw_law_481 : decode b_Lw_law 481 = .ok (.goto 282, 3) := by decide +kernel
theorem d_Lw_law_484 : decode b_Lw_law 484 = .ok (.aload_n 1, 1) := by decide +kernel
theorem d_Lw_law_485 : decode b_Lw_law 485 = .ok (.invokevirtual 73, 3) := by decide +kernel
theorem d_Lw_law_488 : decode b_Lw_law 488 = .ok (.aload_n 2, 1) := by decide +kernel
theorem d_Lw_law_489 : decode b_Lw_law 489 = .ok (.invokevirtual 76, 3) := by decide +kernel
theorem d_Lw_law_492 : decode b_Lw_law 492 = .ok (.if_icmp .eq 271, 3) := by decide +kernel
theorem d_Lw_law_495 : decode b_Lw_law 495 = .ok (.iconst 0, 1) := by decide +kernel
theorem d_Lw_law_496 : decode b_Lw_law 496 = .ok (.ireturn, 1) := by decide +kernel
theorem d_Lw_law_497 : decode b_Lw_law 497 = .ok (.aload_n 1, 1) := by decide +kernel
theorem d_Lw_law_498 : decode b_Lw_law 498 = .ok (.invokevirtual 77, 3) := by decide +kernel
theorem d_Lw_law_501 : decode b_Lw_law 501 = .ok (.aload_n 2, 1) := by decide +kernel
theorem d_Lw_law_502 : decode b_Lw_law 502 = .ok (.invokevirtual 80, 3) := by decide +kernel
theorem d_Lw_law_505 : decode b_Lw_law 505 = .ok (.if_icmp .eq 258, 3) := by decide +kernel
theorem d_Lw_law_508 : decode b_Lw_law 508 = .ok (.iconst 0, 1) := by decide +kernel
theorem d_Lw_law_509 : decode b_Lw_law 509 = .ok (.ireturn, 1) := by decide +kernel
theorem d_Lw_law_510 : decode b_Lw_law 510 = .ok (.aload_n 1, 1) := by decide +kernel
theorem d_Lw_law_511 : decode b_Lw_law 511 = .ok (.aload_n 0, 1) := by decide +kernel
theorem d_Lw_law_512 : decode b_Lw_law 512 = .ok (.iload 4, 2) := by decide +kernel
theorem d_Lw_law_514 : decode b_Lw_law 514 = .ok (.iconst 1, 1) := by decide +kernel
theorem d_Lw_law_515 : decode b_Lw_law 515 = .ok (.iadd, 1) := by decide +kernel
theorem d_Lw_law_516 : decode b_Lw_law 516 = .ok (.iaload, 1) := by decide +kernel
theorem d_Lw_law_517 : decode b_Lw_law 517 = .ok (.aload_n 0, 1) := by decide +kernel
theorem d_Lw_law_518 : decode b_Lw_law 518 = .ok (.iload 4, 2) := by decide +kernel
theorem d_Lw_law_520 : decode b_Lw_law 520 = .ok (.iconst 2, 1) := by decide +kernel
theorem d_Lw_law_521 : decode b_Lw_law 521 = .ok (.iadd, 1) := by decide +kernel
theorem d_Lw_law_522 : decode b_Lw_law 522 = .ok (.iaload, 1) := by decide +kernel
theorem d_Lw_law_523 : decode b_Lw_law 523 = .ok (.aload_n 3, 1) := by decide +kernel
theorem d_Lw_law_524 : decode b_Lw_law 524 = .ok (.invokestatic 81, 3) := by decide +kernel
theorem d_Lw_law_527 : decode b_Lw_law 527 = .ok (.istore 5, 2) := by decide +kernel
theorem d_Lw_law_529 : decode b_Lw_law 529 = .ok (.aload_n 2, 1) := by decide +kernel
theorem d_Lw_law_530 : decode b_Lw_law 530 = .ok (.aload_n 0, 1) := by decide +kernel
theorem d_Lw_law_531 : decode b_Lw_law 531 = .ok (.iload 4, 2) := by decide +kernel
theorem d_Lw_law_533 : decode b_Lw_law 533 = .ok (.iconst 1, 1) := by decide +kernel
theorem d_Lw_law_534 : decode b_Lw_law 534 = .ok (.iadd, 1) := by decide +kernel
theorem d_Lw_law_535 : decode b_Lw_law 535 = .ok (.iaload, 1) := by decide +kernel
theorem d_Lw_law_536 : decode b_Lw_law 536 = .ok (.aload_n 0, 1) := by decide +kernel
theorem d_Lw_law_537 : decode b_Lw_law 537 = .ok (.iload 4, 2) := by decide +kernel
theorem d_Lw_law_539 : decode b_Lw_law 539 = .ok (.iconst 2, 1) := by decide +kernel
theorem d_Lw_law_540 : decode b_Lw_law 540 = .ok (.iadd, 1) := by decide +kernel
theorem d_Lw_law_541 : decode b_Lw_law 541 = .ok (.iaload, 1) := by decide +kernel
theorem d_Lw_law_542 : decode b_Lw_law 542 = .ok (.invokevirtual 84, 3) := by decide +kernel
theorem d_Lw_law_545 : decode b_Lw_law 545 = .ok (.istore 6, 2) := by decide +kernel
theorem d_Lw_law_547 : decode b_Lw_law 547 = .ok (.aload_n 2, 1) := by decide +kernel
theorem d_Lw_law_548 : decode b_Lw_law 548 = .ok (.invokevirtual 54, 3) := by decide +kernel
theorem d_Lw_law_551 : decode b_Lw_law 551 = .ok (.iload 5, 2) := by decide +kernel
theorem d_Lw_law_553 : decode b_Lw_law 553 = .ok (.if_icmp .eq 5, 3) := by decide +kernel
theorem d_Lw_law_556 : decode b_Lw_law 556 = .ok (.iconst 0, 1) := by decide +kernel
theorem d_Lw_law_557 : decode b_Lw_law 557 = .ok (.ireturn, 1) := by decide +kernel
theorem d_Lw_law_558 : decode b_Lw_law 558 = .ok (.iload 5, 2) := by decide +kernel
theorem d_Lw_law_560 : decode b_Lw_law 560 = .ok (.ifCond .ne 15, 3) := by decide +kernel
theorem d_Lw_law_563 : decode b_Lw_law 563 = .ok (.aload_n 3, 1) := by decide +kernel
theorem d_Lw_law_564 : decode b_Lw_law 564 = .ok (.iconst 0, 1) := by decide +kernel
theorem d_Lw_law_565 : decode b_Lw_law 565 = .ok (.laload, 1) := by decide +kernel
theorem d_Lw_law_566 : decode b_Lw_law 566 = .ok (.iload 6, 2) := by decide +kernel
theorem d_Lw_law_568 : decode b_Lw_law 568 = .ok (.i2l, 1) := by decide +kernel
theorem d_Lw_law_569 : decode b_Lw_law 569 = .ok (.lcmp, 1) := by decide +kernel
theorem d_Lw_law_570 : decode b_Lw_law 570 = .ok (.ifCond .eq 5, 3) := by decide +kernel
theorem d_Lw_law_573 : decode b_Lw_law 573 = .ok (.iconst 0, 1) := by decide +kernel
theorem d_Lw_law_574 : decode b_Lw_law 574 = .ok (.ireturn, 1) := by decide +kernel
theorem d_Lw_law_575 : decode b_Lw_law 575 = .ok (.goto 188, 3) := by decide +kernel
theorem d_Lw_law_578 : decode b_Lw_law 578 = .ok (.aload_n 1, 1) := by decide +kernel
theorem d_Lw_law_579 : decode b_Lw_law 579 = .ok (.aload_n 0, 1) := by decide +kernel
theorem d_Lw_law_580 : decode b_Lw_law 580 = .ok (.iload 4, 2) := by decide +kernel
theorem d_Lw_law_582 : decode b_Lw_law 582 = .ok (.iconst 1, 1) := by decide +kernel
theorem d_Lw_law_583 : decode b_Lw_law 583 = .ok (.iadd, 1) := by decide +kernel
theorem d_Lw_law_584 : decode b_Lw_law 584 = .ok (.iaload, 1) := by decide +kernel
theorem d_Lw_law_585 : decode b_Lw_law 585 = .ok (.aload_n 0, 1) := by decide +kernel
theorem d_Lw_law_586 : decode b_Lw_law 586 = .ok (.iload 4, 2) := by decide +kernel
theorem d_Lw_law_588 : decode b_Lw_law 588 = .ok (.iconst 2, 1) := by decide +kernel
theorem d_Lw_law_589 : decode b_Lw_law 589 = .ok (.iadd, 1) := by decide +kernel
theorem d_Lw_law_590 : decode b_Lw_law 590 = .ok (.iaload, 1) := by decide +kernel
theorem d_Lw_law_591 : decode b_Lw_law 591 = .ok (.aload_n 0, 1) := by decide +kernel
theorem d_Lw_law_592 : decode b_Lw_law 592 = .ok (.iload 4, 2) := by decide +kernel
theorem d_Lw_law_594 : decode b_Lw_law 594 = .ok (.iconst 3, 1) := by decide +kernel
theorem d_Lw_law_595 : decode b_Lw_law 595 = .ok (.iadd, 1) := by decide +kernel
theorem d_Lw_law_596 : decode b_Lw_law 596 = .ok (.iaload, 1) := by decide +kernel
theorem d_Lw_law_597 : decode b_Lw_law 597 = .ok (.aload_n 3, 1) := by decide +kernel
theorem d_Lw_law_598 : decode b_Lw_law 598 = .ok (.invokestatic 85, 3) := by decide +kernel
theorem d_Lw_law_601 : decode b_Lw_law 601 = .ok (.istore 5, 2) := by decide +kernel
theorem d_Lw_law_603 : decode b_Lw_law 603 = .ok (.aload_n 2, 1) := by decide +kernel
theorem d_Lw_law_604 : decode b_Lw_law 604 = .ok (.aload_n 0, 1) := by decide +kernel
theorem d_Lw_law_605 : decode b_Lw_law 605 = .ok (.iload 4, 2) := by decide +kernel
theorem d_Lw_law_607 : decode b_Lw_law 607 = .ok (.iconst 1, 1) := by decide +kernel
theorem d_Lw_law_608 : decode b_Lw_law 608 = .ok (.iadd, 1) := by decide +kernel
theorem d_Lw_law_609 : decode b_Lw_law 609 = .ok (.iaload, 1) := by decide +kernel
theorem d_Lw_law_610 : decode b_Lw_law 610 = .ok (.aload_n 0, 1) := by decide +kernel
theorem d_Lw_law_611 : decode b_Lw_law 611 = .ok (.iload 4, 2) := by decide +kernel
theorem d_Lw_law_613 : decode b_Lw_law 613 = .ok (.iconst 2, 1) := by decide +kernel
theorem d_Lw_law_614 : decode b_Lw_law 614 = .ok (.iadd, 1) := by decide +kernel
theorem d_Lw_law_615 : decode b_Lw_law 615 = .ok (.iaload, 1) := by decide +kernel
theorem d_Lw_law_616 : decode b_Lw_law 616 = .ok (.aload_n 0, 1) := by decide +kernel
theorem d_Lw_law_617 : decode b_Lw_law 617 = .ok (.iload 4, 2) := by decide +kernel
theorem d_Lw_law_619 : decode b_Lw_law 619 = .ok (.iconst 3, 1) := by decide +kernel
theorem d_Lw_law_620 : decode b_Lw_law 620 = .ok (.iadd, 1) := by decide +kernel
theorem d_Lw_law_621 : decode b_Lw_law 621 = .ok (.iaload, 1) := by decide +kernel
theorem d_Lw_law_622 : decode b_Lw_law 622 = .ok (.invokevirtual 87, 3) := by decide +kernel
theorem d_Lw_law_625 : decode b_Lw_law 625 = .ok (.istore 6, 2) := by decide +kernel
theorem d_Lw_law_627 : decode b_Lw_law 627 = .ok (.aload_n 2, 1) := by decide +kernel
theorem d_Lw_law_628 : decode b_Lw_law 628 = .ok (.invokevirtual 54, 3) := by decide +kernel
theorem d_Lw_law_631 : decode b_Lw_law 631 = .ok (.iload 5, 2) := by decide +kernel
theorem d_Lw_law_633 : decode b_Lw_law 633 = .ok (.if_icmp .eq 5, 3) := by decide +kernel
theorem d_Lw_law_636 : decode b_Lw_law 636 = .ok (.iconst 0, 1) := by decide +kernel
theorem d_Lw_law_637 : decode b_Lw_law 637 = .ok (.ireturn, 1) := by decide +kernel
theorem d_Lw_law_638 : decode b_Lw_law 638 = .ok (.iload 5, 2) := by decide +kernel
theorem d_Lw_law_640 : decode b_Lw_law 640 = .ok (.ifCond .ne 15, 3) := by decide +kernel
theorem d_Lw_law_643 : decode b_Lw_law 643 = .ok (.aload_n 3, 1) := by decide +kernel
theorem d_Lw_law_644 : decode b_Lw_law 644 = .ok (.iconst 0, 1) := by decide +kernel
theorem d_Lw_law_645 : decode b_Lw_law 645 = .ok (.laload, 1) := by decide +kernel
theorem d_Lw_law_646 : decode b_Lw_law 646 = .ok (.iload 6, 2) := by decide +kernel
theorem d_Lw_law_648 : decode b_Lw_law 648 = .ok (.i2l, 1) := by decide +kernel
theorem d_Lw_law_649 : decode b_Lw_law 649 = .ok (.lcmp, 1) := by decide +kernel
theorem d_Lw_law_650 : decode b_Lw_law 650 = .ok (.ifCond .eq 5, 3) := by decide +kernel
theorem d_Lw_law_653 : decode b_Lw_law 653 = .ok (.iconst 0, 1) := by decide +kernel
theorem d_Lw_law_654 : decode b_Lw_law 654 = .ok (.ireturn, 1) := by decide +kernel
theorem d_Lw_law_655 : decode b_Lw_law 655 = .ok (.goto 108, 3) := by decide +kernel
theorem d_Lw_law_658 : decode b_Lw_law 658 = .ok (.aload_n 1, 1) := by decide +kernel
theorem d_Lw_law_659 : decode b_Lw_law 659 = .ok (.aload_n 0, 1) := by decide +kernel
theorem d_Lw_law_660 : decode b_Lw_law 660 = .ok (.iload 4, 2) := by decide +kernel
theorem d_Lw_law_662 : decode b_Lw_law 662 = .ok (.iconst 1, 1) := by decide +kernel
theorem d_Lw_law_663 : decode b_Lw_law 663 = .ok (.iadd, 1) := by decide +kernel
theorem d_Lw_law_664 : decode b_Lw_law 664 = .ok (.iaload, 1) := by decide +kernel
theorem d_Lw_law_665 : decode b_Lw_law 665 = .ok (.aload_n 0, 1) := by decide +kernel
theorem d_Lw_law_666 : decode b_Lw_law 666 = .ok (.iload 4, 2) := by decide +kernel
theorem d_Lw_law_668 : decode b_Lw_law 668 = .ok (.iconst 2, 1) := by decide +kernel
theorem d_Lw_law_669 : decode b_Lw_law 669 = .ok (.iadd, 1) := by decide +kernel
theorem d_Lw_law_670 : decode b_Lw_law 670 = .ok (.iaload, 1) := by decide +kernel
theorem d_Lw_law_671 : decode b_Lw_law 671 = .ok (.aload_n 0, 1) := by decide +kernel
theorem d_Lw_law_672 : decode b_Lw_law 672 = .ok (.iload 4, 2) := by decide +kernel
theorem d_Lw_law_674 : decode b_Lw_law 674 = .ok (.iconst 3, 1) := by decide +kernel
theorem d_Lw_law_675 : decode b_Lw_law 675 = .ok (.iadd, 1) := by decide +kernel
theorem d_Lw_law_676 : decode b_Lw_law 676 = .ok (.iaload, 1) := by decide +kernel
theorem d_Lw_law_677 : decode b_Lw_law 677 = .ok (.aload_n 3, 1) := by decide +kernel
theorem d_Lw_law_678 : decode b_Lw_law 678 = .ok (.invokestatic 88, 3) := by decide +kernel
theorem d_Lw_law_681 : decode b_Lw_law 681 = .ok (.istore 5, 2) := by decide +kernel
theorem d_Lw_law_683 : decode b_Lw_law 683 = .ok (.aload_n 2, 1) := by decide +kernel
theorem d_Lw_law_684 : decode b_Lw_law 684 = .ok (.aload_n 0, 1) := by decide +kernel
theorem d_Lw_law_685 : decode b_Lw_law 685 = .ok (.iload 4, 2) := by decide +kernel
theorem d_Lw_law_687 : decode b_Lw_law 687 = .ok (.iconst 1, 1) := by decide +kernel
theorem d_Lw_law_688 : decode b_Lw_law 688 = .ok (.iadd, 1) := by decide +kernel
theorem d_Lw_law_689 : decode b_Lw_law 689 = .ok (.iaload, 1) := by decide +kernel
theorem d_Lw_law_690 : decode b_Lw_law 690 = .ok (.aload_n 0, 1) := by decide +kernel
theorem d_Lw_law_691 : decode b_Lw_law 691 = .ok (.iload 4, 2) := by decide +kernel
theorem d_Lw_law_693 : decode b_Lw_law 693 = .ok (.iconst 2, 1) := by decide +kernel
theorem d_Lw_law_694 : decode b_Lw_law 694 = .ok (.iadd, 1) := by decide +kernel
theorem d_Lw_law_695 : decode b_Lw_law 695 = .ok (.iaload, 1) := by decide +kernel
theorem d_Lw_law_696 : decode b_Lw_law 696 = .ok (.aload_n 0, 1) := by decide +kernel
theorem d_Lw_law_697 : decode b_Lw_law 697 = .ok (.iload 4, 2) := by decide +kernel
theorem d_Lw_law_699 : decode b_Lw_law 699 = .ok (.iconst 3, 1) := by decide +kernel
theorem d_Lw_law_700 : decode b_Lw_law 700 = .ok (.iadd, 1) := by decide +kernel
theorem d_Lw_law_701 : decode b_Lw_law 701 = .ok (.iaload, 1) := by decide +kernel
theorem d_Lw_law_702 : decode b_Lw_law 702 = .ok (.invokevirtual 90, 3) := by decide +kernel
theorem d_Lw_law_705 : decode b_Lw_law 705 = .ok (.istore 6, 2) := by decide +kernel
theorem d_Lw_law_707 : decode b_Lw_law 707 = .ok (.aload_n 2, 1) := by decide +kernel
theorem d_Lw_law_708 : decode b_Lw_law 708 = .ok (.invokevirtual 54, 3) := by decide +kernel
theorem d_Lw_law_711 : decode b_Lw_law 711 = .ok (.iload 5, 2) := by decide +kernel
theorem d_Lw_law_713 : decode b_Lw_law 713 = .ok (.if_icmp .eq 5, 3) := by decide +kernel
theorem d_Lw_law_716 : decode b_Lw_law 716 = .ok (.iconst 0, 1) := by decide +kernel
theorem d_Lw_law_717 : decode b_Lw_law 717 = .ok (.ireturn, 1) := by decide +kernel
theorem d_Lw_law_718 : decode b_Lw_law 718 = .ok (.iload 5, 2) := by decide +kernel
theorem d_Lw_law_720 : decode b_Lw_law 720 = .ok (.ifCond .ne 15, 3) := by decide +kernel
theorem d_Lw_law_723 : decode b_Lw_law 723 = .ok (.aload_n 3, 1) := by decide +kernel
theorem d_Lw_law_724 : decode b_Lw_law 724 = .ok (.iconst 0, 1) := by decide +kernel
theorem d_Lw_law_725 : decode b_Lw_law 725 = .ok (.laload, 1) := by decide +kernel
theorem d_Lw_law_726 : decode b_Lw_law 726 = .ok (.iload 6, 2) := by decide +kernel
theorem d_Lw_law_728 : decode b_Lw_law 728 = .ok (.i2l, 1) := by decide +kernel
theorem d_Lw_law_729 : decode b_Lw_law 729 = .ok (.lcmp, 1) := by decide +kernel
theorem d_Lw_law_730 : decode b_Lw_law 730 = .ok (.ifCond .eq 5, 3) := by decide +kernel
theorem d_Lw_law_733 : decode b_Lw_law 733 = .ok (.iconst 0, 1) := by decide +kernel
theorem d_Lw_law_734 : decode b_Lw_law 734 = .ok (.ireturn, 1) := by decide +kernel
theorem d_Lw_law_735 : decode b_Lw_law 735 = .ok (.goto 28, 3) := by decide +kernel
theorem d_Lw_law_738 : decode b_Lw_law 738 = .ok (.aload_n 1, 1) := by decide +kernel
theorem d_Lw_law_739 : decode b_Lw_law 739 = .ok (.aload_n 0, 1) := by decide +kernel
theorem d_Lw_law_740 : decode b_Lw_law 740 = .ok (.iload 4, 2) := by decide +kernel
theorem d_Lw_law_742 : decode b_Lw_law 742 = .ok (.iconst 1, 1) := by decide +kernel
theorem d_Lw_law_743 : decode b_Lw_law 743 = .ok (.iadd, 1) := by decide +kernel
theorem d_Lw_law_744 : decode b_Lw_law 744 = .ok (.iaload, 1) := by decide +kernel
theorem d_Lw_law_745 : decode b_Lw_law 745 = .ok (.invokevirtual 91, 3) := by decide +kernel
theorem d_Lw_law_748 : decode b_Lw_law 748 = .ok (.aload_n 2, 1) := by decide +kernel
theorem d_Lw_law_749 : decode b_Lw_law 749 = .ok (.aload_n 0, 1) := by decide +kernel
theorem d_Lw_law_750 : decode b_Lw_law 750 = .ok (.iload 4, 2) := by decide +kernel
theorem d_Lw_law_752 : decode b_Lw_law 752 = .ok (.iconst 1, 1) := by decide +kernel
theorem d_Lw_law_753 : decode b_Lw_law 753 = .ok (.iadd, 1) := by decide +kernel
theorem d_Lw_law_754 : decode b_Lw_law 754 = .ok (.iaload, 1) := by decide +kernel
theorem d_Lw_law_755 : decode b_Lw_law 755 = .ok (.invokevirtual 94, 3) := by decide +kernel
theorem d_Lw_law_758 : decode b_Lw_law 758 = .ok (.if_icmp .eq 5, 3) := by decide +kernel
theorem d_Lw_law_761 : decode b_Lw_law 761 = .ok (.iconst 0, 1) := by decide +kernel
theorem d_Lw_law_762 : decode b_Lw_law 762 = .ok (.ireturn, 1) := by decide +kernel
theorem d_Lw_law_763 : decode b_Lw_law 763 = .ok (.iinc 4 6, 3) := by decide +kernel
theorem d_Lw_law_766 : decode b_Lw_law 766 = .ok (.goto (-743), 3) := by decide +kernel
theorem d_Lw_law_769 : decode b_Lw_law 769 = .ok (.iconst 1, 1) := by decide +kernel
theorem d_Lw_law_770 : decode b_Lw_law 770 = .ok (.ireturn, 1) := by decide +kernel
end
section
/-! The logic of this proof: a judgement V over a pool of cells (addresses and what they hold), all of the machine's own context inside it. -/
abbrev vH : Type := List Nat × (Nat → va_E)
abbrev vR : Type := Option Value ⊕ String
abbrev vQ : Type := vR → vH → Prop
/-- what is fixed for a run: class ids and slots; classes of arrays; the empty array; the mirror of Object[]; the script -/
abbrev vG : Type := va_G × (Nat → ClassId) × Nat × Nat × Nat × Nat × (Nat → Int32)
def vTy (G : vG) : List (ClassId × FieldType) := [(G.2.1 0, .int), (G.2.1 1, .boolean), (G.2.1 2, .long), (G.2.1 3, .object "java/lang/Object")]
def vLs (C n d : String) (A : Nat → Prop) (U : State) (H : Heap) : Prop := ∃ (c : ClassId) (k : Class) (i : Nat) (f : Field) (a : Nat) (cell : Cell), U.vm.findClass C = some c ∧ U.fieldFound? C n d = some (c, k, i, f) ∧ f.isStatic = true ∧ k.statics = some a ∧ H[a]? = some cell ∧ cell.vm.isStatics = true ∧ cell.cls = c ∧ f.slot < cell.slots.size ∧ k.staticTypes[f.slot]? = some f.type ∧ ¬ A a
theorem vLs_moved {C n d : String} {A : Nat → Prop} {u U : State} {H : Heap} (hvm : u.vm.Alike U.vm) (h : vLs C n d A u H) : vLs C n d A U H := by
  obtain ⟨c, k, i, f, a, cell, h1, h2, h3, h4, h5, h6, h7, h8, h9, h10⟩ := h
  obtain ⟨k', hi', he⟩ := State.fieldFound?_setVm hvm h2
  exact ⟨c, k', i, f, a, cell, by rw [hvm.findClass]; exact h1, hi', h3, by rw [he]; exact h4, h5, h6, h7, h8, by rw [he]; exact h9, h10⟩
theorem vLs_kept {C n d : String} {A : Nat → Prop} {U : State} {H H1 : Heap} (h : vLs C n d A U H) (hq : ∀ a : Nat, a < H.size → ¬ A a → H1[a]? = H[a]?) : vLs C n d A U H1 := by
  obtain ⟨c, k, i, f, a, cell, h1, h2, h3, h4, h5, h6, h7, h8, h9, h10⟩ := h
  exact ⟨c, k, i, f, a, cell, h1, h2, h3, h4, by rw [hq a (Array.getElem?_eq_some_iff.mp h5).1 h10]; exact h5, h6, h7, h8, h9, h10⟩
theorem vLs_narrow {C n d : String} {A B : Nat → Prop} {U : State} {H : Heap} (h : vLs C n d A U H) (hAB : ∀ q, B q → A q) : vLs C n d B U H := by
  obtain ⟨c, k, i, f, a, cell, h1, h2, h3, h4, h5, h6, h7, h8, h9, h10⟩ := h
  exact ⟨c, k, i, f, a, cell, h1, h2, h3, h4, h5, h6, h7, h8, h9, fun z => h10 (hAB _ z)⟩
def vStr : List (String × Nat × String) := [("CodeShrinker", 193, "a number out of range, or a CLASS or METHOD that is not there"), ("CodeShrinker", 63, "no room for one more CLASS"), ("CodeShrinker", 94, "no room for one more METHOD, or there is one like it"), ("CodeShrinker", 112, "no room for one more ITEM"), ("CodeShrinker$Runner", 24, "too many RUNNING within one another"), ("CodeShrinker$Runner", 37, "FINDING gives none"), ("CodeShrinker$Runner", 62, "too many ITEMS in all"), ("CodeShrinker", 165, "no such ITEM"), ("CodeShrinker", 174, "the CLASS has no such METHOD")]
def vNo : List (String × String) := [("java/lang/IllegalStateException", "java/lang/IllegalArgumentException"), ("java/util/NoSuchElementException", "java/lang/IllegalArgumentException"), ("java/lang/IllegalArgumentException", "java/lang/IllegalStateException"), ("java/util/NoSuchElementException", "java/lang/IllegalStateException"), ("java/lang/IllegalArgumentException", "java/util/NoSuchElementException"), ("java/lang/IllegalStateException", "java/util/NoSuchElementException")]
abbrev vNest : Cond := .methodLinkNest "CodeShrinker" 18 ⟨"CodeShrinker$Runner", "<init>", "()V"⟩ "CodeShrinker"
def vEnv (G : vG) (A : Nat → Prop) (U : State) (H : Heap) : Prop :=
  (∀ w ∈ vT, ∀ a' : Array Value, w.before a' U = true) ∧
  va_K G.1 vCl (vTy G) U ∧
  va_Nw vNest U ∧
  (va_Z "java/util/ArrayList" "DEFAULTCAPACITY_EMPTY_ELEMENTDATA" "[Ljava/lang/Object;" (.ref G.2.2.1) A U H ∧ va_T (.object "java/lang/Object") G.2.2.1 0 (fun _ => .null) A U H) ∧
  (va_Zq Bundle.tN "UNASSIGNED_STACK" Bundle.steD A U H ∧ vLs Bundle.tN "UNASSIGNED_STACK" Bundle.steD A U H) ∧
  (va_Zq Bundle.tN "SUPPRESSED_SENTINEL" Bundle.listD A U H ∧ vLs Bundle.tN "SUPPRESSED_SENTINEL" Bundle.listD A U H) ∧
  (∀ t ∈ vStr, ∃ sa : Nat, vk_R t.1 t.2.1 t.2.2 sa U) ∧
  va_Mi "[Ljava/lang/Object;" G.2.2.2.1 U ∧ va_AO "java/lang/Object" U ∧ (∀ t ∈ vNo, va_Nc t.1 t.2 U) ∧
  (va_X G.2.2.2.2.1 G.2.2.2.2.2.1 G.2.2.2.2.2.2 U H ∧ G.2.2.2.2.1 < H.size ∧ ¬ A G.2.2.2.2.1)
theorem vT_good {w : Cond} (h : w ∈ vT) : vGood w = true := (List.mem_filter.mp h).2
theorem vWord {s U : State} (hW : s.WarmedH U.vm) {w : Cond} (hw : vGood w = true) {a a' : Array Value} (h : w.before a s = true) : w.before a' U = true := by
  simp only [vGood, Bool.or_eq_true, Bool.and_eq_true] at hw
  rcases hw with g | ⟨g1, g2⟩
  · exact word_at hW (good_of_word g) h
  · exact va_tabs g1 (rfl : (s.setVm U.vm).vm = U.vm) (Cond.before_shiftedFace (State.Shifted.of_warmed hW) w g2 h)
theorem vEnv.moved {G : vG} {A : Nat → Prop} {s U : State} {H : Heap} (hW : s.WarmedH U.vm) (h : vEnv G A s H) : vEnv G A U H := by
  obtain ⟨h1, h2, h3, ⟨h4, h4'⟩, ⟨h5, h5'⟩, ⟨h6, h6'⟩, h7, h8, h9, h10, h11, h12⟩ := h
  have hv := hW.alike
  refine ⟨fun w hw a' => vWord hW (vT_good hw) (h1 w hw #[]), va_K.moved hv h2, va_Nw.warmM hW h3, ⟨va_Z.moved hv h4, va_T.moved hv h4'⟩, ⟨va_Zq.moved hv h5, vLs_moved hv h5'⟩, ⟨va_Zq.moved hv h6, vLs_moved hv h6'⟩, ?_, va_Mi.moved hv h8, va_AO.moved hv h9, fun t ht => va_Nc.moved hv (h10 t ht), va_X.moved hv h11, h12⟩
  intro t ht
  obtain ⟨sa, q⟩ := h7 t ht
  exact ⟨sa, vk_R.warm hW q⟩
theorem vEnv.kept {G : vG} {A : Nat → Prop} {U : State} {H H1 : Heap} (h : vEnv G A U H) (hz : H.size ≤ H1.size) (hq : ∀ a : Nat, a < H.size → ¬ A a → H1[a]? = H[a]?) : vEnv G A U H1 := by
  obtain ⟨h1, h2, h3, ⟨h4, h4'⟩, ⟨h5, h5'⟩, ⟨h6, h6'⟩, h7, h8, h9, h10, h11, h12, h13⟩ := h
  exact ⟨h1, h2, h3, ⟨va_Z.kept h4 hq, va_T.kept h4' hq⟩, ⟨va_Zq.kept h5 hq, vLs_kept h5' hq⟩, ⟨va_Zq.kept h6 hq, vLs_kept h6' hq⟩, h7, h8, h9, h10, h11.kept (hq _ h12 h13), Nat.lt_of_lt_of_le h12 hz, h13⟩
theorem vEnv.narrow {G : vG} {A B : Nat → Prop} {U : State} {H : Heap} (h : vEnv G A U H) (hq : ∀ q, B q → A q) : vEnv G B U H := by
  obtain ⟨h1, h2, h3, ⟨h4, h4'⟩, ⟨h5, h5'⟩, ⟨h6, h6'⟩, h7, h8, h9, h10, h11, h12, h13⟩ := h
  exact ⟨h1, h2, h3, ⟨va_Z.narrow h4 hq, va_T.narrow h4' hq⟩, ⟨va_Zq.narrow h5 hq, vLs_narrow h5' hq⟩, ⟨va_Zq.narrow h6 hq, vLs_narrow h6' hq⟩, h7, h8, h9, h10, h11, h12, fun z => h13 (hq _ z)⟩
/-- the method's own: code, table, class; the launch without traces; the environment at its start -/
def vCx (G : vG) (M : vM) (p : Program) (l : Launch) (s : State) (m : MethodId) (meth : Method) (c : Code) (A : Nat → Prop) : Prop :=
  p.tables.exec = Jvm.exec ∧ c.code = M.2.1 ∧ c.maxLocals = M.2.2.1 ∧ meth.sig.returnType = M.2.2.2.1 ∧ c.exceptionTable.toList.map (fun h => (h.startPc, h.endPc, h.handlerPc, h.catchType)) = M.2.2.2.2 ∧ meth.locks = false ∧ meth.name = M.1.name ∧ s.vm.findClass M.1.cls = some m.cls ∧ l.stackTraces = false ∧ (∀ q, s.heap.size ≤ q → A q) ∧ vEnv G A s s.heap
/-- what has come of a call: an answer or an exception, and the pool behind it -/
def vOut (G : vG) (s : State) (A : Nat → Prop) (MC MS : Nat) (Q : vQ) (o : Outcome) (t : State) : Prop :=
  s.WarmedH t.vm ∧ (∃ Lc : List Loc, s.sameButNew ({ t with vm := s.vm } : State) Lc MC MS ∧ ∀ q ∈ Lc, A q.base) ∧ va_F A s t ∧
  ((∃ (v : Option Value) (h' : vH), o = .returned v ∧ Q (.inl v) h' ∧ va_P G.1 vCl (va_pl h'.1 h'.2) t.heap ∧ va_D A (va_pl h'.1 h'.2)) ∨
   (∃ (q : Addr) (E : String) (ce : Cell) (h' : vH), o = .threw q ∧ Q (.inr E) h' ∧ va_P G.1 vCl (va_pl h'.1 h'.2) t.heap ∧ va_D A (va_pl h'.1 h'.2) ∧ t.heap[q]? = some ce ∧ ce.vm = .none ∧ s.vm.findClass E = some ce.cls))
def vFin (G : vG) (below : List Frame) (s : State) (A : Nat → Prop) (MC MS : Nat) (Q : vQ) : State → Prop := fun t => ∃ o, t.status = .running ∧ Ended t below o ∧ vOut G s A MC MS Q o t
def vIn (G : vG) (M : vM) (fr lo : Nat) (lv : List (Nat × Value)) (h : vH) (mc ms : Nat) (p : Program) (l : Launch) (R : Room) (s : State) (m : MethodId) (meth : Method) (c : Code) (A : Nat → Prop) (H : Heap) (locs : List Loc) (cells slots MC MS : Nat) (ls : Array Slot) : Prop :=
  vCx G M p l s m meth c A ∧ (fr ≤ R.frames ∧ lo ≤ R.locals ∧ cells + mc ≤ MC ∧ slots + ms ≤ MS ∧ MC ≤ R.cells ∧ MS ≤ R.slots) ∧ va_P G.1 vCl (va_pl h.1 h.2) H ∧ va_D A (va_pl h.1 h.2) ∧ va_S A s.heap H locs ∧ lv_has ls M.2.2.1 lv ∧ (∀ q ∈ lv, q.2.category = 1)
/-- the method M at pc, with these locals, this stack and this pool, comes to an end with Q; room for fr frames, lo words, mc cells of ms slots -/
def V (G : vG) (M : vM) (fr lo : Nat) (pc : Nat) (lv : List (Nat × Value)) (st : List Value) (h : vH) (mc ms : Nat) (Q : vQ) : Prop :=
  ∀ (p : Program) (l : Launch) (e : Env) (R : Room) (s : State) (m : MethodId) (args : Array Value) (below : List Frame) (meth : Method) (c : Code) (A : Nat → Prop) (H : Heap) (locs : List Loc) (cells slots MC MS : Nat) (ls : Array Slot),
    vIn G M fr lo lv h mc ms p l R s m meth c A H locs cells slots MC MS ls → W p l e R s m args below meth c H locs cells slots (vFin G below s A MC MS Q) (F0 m pc ls st)
def vGet : List (Nat × Value) → Nat → Option Value
  | [], _ => none
  | (j, w) :: r, i => cond (Nat.beq j i) (some w) (vGet r i)
theorem vGet_mem : ∀ {lv : List (Nat × Value)} {i : Nat} {v : Value}, vGet lv i = some v → (i, v) ∈ lv
  | [], _, _, h => by cases h
  | (j, w) :: r, i, v, h => by
    unfold vGet at h
    cases hb : Nat.beq j i with
    | true =>
      rw [hb] at h
      have e1 : j = i := Nat.eq_of_beq_eq_true hb
      have e2 : w = v := Option.some.inj h
      rw [← e1, ← e2]
      exact List.mem_cons_self
    | false =>
      rw [hb] at h
      exact List.mem_cons_of_mem _ (vGet_mem h)
def vRep : List (Nat × Value) → Nat → Value → Bool → Option (List (Nat × Value))
  | [], i, v, b => cond b (some []) (some [(i, v)])
  | (j, w) :: r, i, v, b => cond (Nat.beq j i) (match vRep r i v true with | some t => some ((i, v) :: t) | none => none) (match vRep r i v b with | some t => some ((j, w) :: t) | none => none)
theorem vRep_mem : ∀ {lv : List (Nat × Value)} {i : Nat} {v : Value} {b : Bool} {lv' : List (Nat × Value)}, vRep lv i v b = some lv' → ∀ q ∈ lv', q = (i, v) ∨ (q ∈ lv ∧ q.1 ≠ i)
  | [], i, v, b, lv', h, q, hq => by
    unfold vRep at h
    cases b with
    | true => cases h; cases hq
    | false => cases h; exact Or.inl (List.mem_singleton.mp hq)
  | (j, w) :: r, i, v, b, lv', h, q, hq => by
    unfold vRep at h
    cases hb : Nat.beq j i with
    | true =>
      rw [hb] at h
      cases hr : vRep r i v true with
      | none => rw [hr] at h; cases h
      | some t =>
        rw [hr] at h
        cases h
        rcases List.mem_cons.mp hq with h1 | h1
        · exact Or.inl h1
        · rcases vRep_mem hr q h1 with h2 | ⟨h2, h3⟩
          · exact Or.inl h2
          · exact Or.inr ⟨List.mem_cons_of_mem _ h2, h3⟩
    | false =>
      rw [hb] at h
      cases hr : vRep r i v b with
      | none => rw [hr] at h; cases h
      | some t =>
        rw [hr] at h
        cases h
        rcases List.mem_cons.mp hq with h1 | h1
        · refine Or.inr ⟨by rw [h1]; exact List.mem_cons_self, fun z => ?_⟩
          rw [h1] at z
          have z2 : j = i := z
          rw [z2, Nat.beq_refl] at hb
          cases hb
        · rcases vRep_mem hr q h1 with h2 | ⟨h2, h3⟩
          · exact Or.inl h2
          · exact Or.inr ⟨List.mem_cons_of_mem _ h2, h3⟩
theorem vRep_has {ls : Array Slot} {nL i : Nat} {v : Value} {lv lv' : List (Nat × Value)} (hc : ∀ q ∈ lv, q.2.category = 1) (h : lv_has ls nL ((i, v) :: lv.filter (fun q => !(q.1 == i) && !(q.1 + 1 == i && q.2.category == 2)))) (e : vRep lv i v false = some lv') : lv_has ls nL lv' := by
  refine ⟨h.1, h.2.1, fun q hq => h.2.2 q ?_⟩
  rcases vRep_mem e q hq with h1 | ⟨h1, h2⟩
  · rw [h1]; exact List.mem_cons_self
  · refine List.mem_cons_of_mem _ (List.mem_filter.mpr ⟨h1, ?_⟩)
    have h3 := hc q h1
    simp [h2, h3]
theorem vRep_cat {i : Nat} {v : Value} {lv lv' : List (Nat × Value)} (hc : ∀ q ∈ lv, q.2.category = 1) (hv : v.category = 1) (e : vRep lv i v false = some lv') : ∀ q ∈ lv', q.2.category = 1 := by
  intro q hq
  rcases vRep_mem e q hq with h1 | ⟨h1, h2⟩
  · rw [h1]; exact hv
  · exact hc q h1
def vIsR : Value → Bool
  | .ref _ => true
  | .null => true
  | _ => false
theorem vIsR_rf (r : Option Nat) : vIsR (va_rf r) = true := by cases r <;> rfl
theorem vIsR_or {v : Value} (h : vIsR v = true) : v = .null ∨ ∃ a, v = .ref a := by
  cases v <;> first | exact Or.inl rfl | exact Or.inr ⟨_, rfl⟩ | cases h
theorem vRf_cat (r : Option Nat) : (va_rf r).category = 1 := by cases r <;> rfl
theorem vR_cat {v : Value} (h : vIsR v = true) : v.category = 1 := by
  rcases vIsR_or h with rfl | ⟨a, rfl⟩ <;> rfl
section VR
variable {G : vG} {M : vM} {fr lo pc : Nat} {lv lv' : List (Nat × Value)} {st : List Value} {h : vH} {mc ms : Nat} {Q Q' : vQ}
theorem v_iconst {n : Int} {v : Int32} (d : decode M.2.1 pc = .ok (.iconst n, 1)) (hv : Int32.ofInt n = v) (k : V G M fr lo (pc + 1) lv (.int v :: st) h mc ms Q) : V G M fr lo pc lv st h mc ms Q := fun p l e R s m args below meth c A H locs cells slots MC MS ls I => lv_iconst I.1.1 I.1.2.1 d hv (k p l e R s m args below meth c A H locs cells slots MC MS ls I)
theorem v_bipush {n : Int} {v : Int32} (d : decode M.2.1 pc = .ok (.bipush n, 2)) (hv : (Int8.ofInt n).toInt32 = v) (k : V G M fr lo (pc + 2) lv (.int v :: st) h mc ms Q) : V G M fr lo pc lv st h mc ms Q := fun p l e R s m args below meth c A H locs cells slots MC MS ls I => lv_bipush I.1.1 I.1.2.1 d hv (k p l e R s m args below meth c A H locs cells slots MC MS ls I)
theorem v_sipush {n : Int} {v : Int32} (d : decode M.2.1 pc = .ok (.sipush n, 3)) (hv : (Int16.ofInt n).toInt32 = v) (k : V G M fr lo (pc + 3) lv (.int v :: st) h mc ms Q) : V G M fr lo pc lv st h mc ms Q := fun p l e R s m args below meth c A H locs cells slots MC MS ls I => lv_sipush I.1.1 I.1.2.1 d hv (k p l e R s m args below meth c A H locs cells slots MC MS ls I)
theorem v_null  (d : decode M.2.1 pc = .ok (.aconst_null, 1)) (k : V G M fr lo (pc + 1) lv (.null :: st) h mc ms Q) : V G M fr lo pc lv st h mc ms Q := fun p l e R s m args below meth c A H locs cells slots MC MS ls I => lv_null I.1.1 I.1.2.1 d (k p l e R s m args below meth c A H locs cells slots MC MS ls I)
theorem v_iload_n {i : Fin 4} {x : Int32} (d : decode M.2.1 pc = .ok (.iload_n i, 1)) (hl : vGet lv i.val = some (.int x)) (k : V G M fr lo (pc + 1) lv (.int x :: st) h mc ms Q) : V G M fr lo pc lv st h mc ms Q := fun p l e R s m args below meth c A H locs cells slots MC MS ls I => lv_iload_n I.1.1 I.1.2.1 d rfl (I.2.2.2.2.2.1.2.2 _ (vGet_mem hl)) (k p l e R s m args below meth c A H locs cells slots MC MS ls I)
theorem v_iload {i : Nat} {x : Int32} (d : decode M.2.1 pc = .ok (.iload i, 2)) (hl : vGet lv i = some (.int x)) (k : V G M fr lo (pc + 2) lv (.int x :: st) h mc ms Q) : V G M fr lo pc lv st h mc ms Q := fun p l e R s m args below meth c A H locs cells slots MC MS ls I => lv_iload I.1.1 I.1.2.1 d (I.2.2.2.2.2.1.2.2 _ (vGet_mem hl)) (k p l e R s m args below meth c A H locs cells slots MC MS ls I)
theorem v_aload_n {i : Fin 4} {v : Value} (d : decode M.2.1 pc = .ok (.aload_n i, 1)) (hl : vGet lv i.val = some v) (hv : vIsR v = true) (k : V G M fr lo (pc + 1) lv (v :: st) h mc ms Q) : V G M fr lo pc lv st h mc ms Q := by
  intro p l e R s m args below meth c A H locs cells slots MC MS ls I
  rcases vIsR_or hv with rfl | ⟨a, rfl⟩
  · exact lv_aload_nN I.1.1 I.1.2.1 d rfl (I.2.2.2.2.2.1.2.2 _ (vGet_mem hl)) (k p l e R s m args below meth c A H locs cells slots MC MS ls I)
  · exact lv_aload_n I.1.1 I.1.2.1 d rfl (I.2.2.2.2.2.1.2.2 _ (vGet_mem hl)) (k p l e R s m args below meth c A H locs cells slots MC MS ls I)
theorem v_aload {i : Nat} {v : Value} (d : decode M.2.1 pc = .ok (.aload i, 2)) (hl : vGet lv i = some v) (hv : vIsR v = true) (k : V G M fr lo (pc + 2) lv (v :: st) h mc ms Q) : V G M fr lo pc lv st h mc ms Q := by
  intro p l e R s m args below meth c A H locs cells slots MC MS ls I
  rcases vIsR_or hv with rfl | ⟨a, rfl⟩
  · exact lv_aloadN I.1.1 I.1.2.1 d (I.2.2.2.2.2.1.2.2 _ (vGet_mem hl)) (k p l e R s m args below meth c A H locs cells slots MC MS ls I)
  · exact lv_aload I.1.1 I.1.2.1 d (I.2.2.2.2.2.1.2.2 _ (vGet_mem hl)) (k p l e R s m args below meth c A H locs cells slots MC MS ls I)
theorem v_istore_n {i : Fin 4} {x : Int32} (d : decode M.2.1 pc = .ok (.istore_n i, 1)) (hn : i.val < M.2.2.1) (hl : vRep lv i.val (.int x) false = some lv') (k : V G M fr lo (pc + 1) lv' st h mc ms Q) : V G M fr lo pc lv (.int x :: st) h mc ms Q := by
  intro p l e R s m args below meth c A H locs cells slots MC MS ls I
  obtain ⟨I1, I2, I3, I4, I5, I6, I7⟩ := I
  exact lv_istore_n I1.1 I1.2.1 d rfl I6 hn rfl (fun ls' h' => k p l e R s m args below meth c A H locs cells slots MC MS ls' ⟨I1, I2, I3, I4, I5, vRep_has I7 h' hl, vRep_cat I7 rfl hl⟩)
theorem v_istore {i : Nat} {x : Int32} (d : decode M.2.1 pc = .ok (.istore i, 2)) (hn : i < M.2.2.1) (hl : vRep lv i (.int x) false = some lv') (k : V G M fr lo (pc + 2) lv' st h mc ms Q) : V G M fr lo pc lv (.int x :: st) h mc ms Q := by
  intro p l e R s m args below meth c A H locs cells slots MC MS ls I
  obtain ⟨I1, I2, I3, I4, I5, I6, I7⟩ := I
  exact lv_istore I1.1 I1.2.1 d I6 hn rfl (fun ls' h' => k p l e R s m args below meth c A H locs cells slots MC MS ls' ⟨I1, I2, I3, I4, I5, vRep_has I7 h' hl, vRep_cat I7 rfl hl⟩)
theorem v_astore_n {i : Fin 4} {v : Value} (d : decode M.2.1 pc = .ok (.astore_n i, 1)) (hv : vIsR v = true) (hn : i.val < M.2.2.1) (hl : vRep lv i.val v false = some lv') (k : V G M fr lo (pc + 1) lv' st h mc ms Q) : V G M fr lo pc lv (v :: st) h mc ms Q := by
  intro p l e R s m args below meth c A H locs cells slots MC MS ls I
  obtain ⟨I1, I2, I3, I4, I5, I6, I7⟩ := I
  rcases vIsR_or hv with rfl | ⟨a, rfl⟩
  · exact lv_astore_nN I1.1 I1.2.1 d rfl I6 hn rfl (fun ls' h' => k p l e R s m args below meth c A H locs cells slots MC MS ls' ⟨I1, I2, I3, I4, I5, vRep_has I7 h' hl, vRep_cat I7 rfl hl⟩)
  · exact lv_astore_n I1.1 I1.2.1 d rfl I6 hn rfl (fun ls' h' => k p l e R s m args below meth c A H locs cells slots MC MS ls' ⟨I1, I2, I3, I4, I5, vRep_has I7 h' hl, vRep_cat I7 rfl hl⟩)
theorem v_astore {i : Nat} {v : Value} (d : decode M.2.1 pc = .ok (.astore i, 2)) (hv : vIsR v = true) (hn : i < M.2.2.1) (hl : vRep lv i v false = some lv') (k : V G M fr lo (pc + 2) lv' st h mc ms Q) : V G M fr lo pc lv (v :: st) h mc ms Q := by
  intro p l e R s m args below meth c A H locs cells slots MC MS ls I
  obtain ⟨I1, I2, I3, I4, I5, I6, I7⟩ := I
  rcases vIsR_or hv with rfl | ⟨a, rfl⟩
  · exact lv_astoreN I1.1 I1.2.1 d I6 hn rfl (fun ls' h' => k p l e R s m args below meth c A H locs cells slots MC MS ls' ⟨I1, I2, I3, I4, I5, vRep_has I7 h' hl, vRep_cat I7 rfl hl⟩)
  · exact lv_astore I1.1 I1.2.1 d I6 hn rfl (fun ls' h' => k p l e R s m args below meth c A H locs cells slots MC MS ls' ⟨I1, I2, I3, I4, I5, vRep_has I7 h' hl, vRep_cat I7 rfl hl⟩)
theorem v_iinc {i : Nat} {n : Int} {x v : Int32} (d : decode M.2.1 pc = .ok (.iinc i n, 3)) (hx : vGet lv i = some (.int x)) (hv : x + Int32.ofInt n = v) (hn : i < M.2.2.1) (hl : vRep lv i (.int v) false = some lv') (k : V G M fr lo (pc + 3) lv' st h mc ms Q) : V G M fr lo pc lv st h mc ms Q := by
  intro p l e R s m args below meth c A H locs cells slots MC MS ls I
  obtain ⟨I1, I2, I3, I4, I5, I6, I7⟩ := I
  obtain ⟨j, hj⟩ := List.getElem?_of_mem (vGet_mem hx)
  exact lv_iinc I1.1 I1.2.1 d I6 hj hv hn rfl (fun ls' h' => k p l e R s m args below meth c A H locs cells slots MC MS ls' ⟨I1, I2, I3, I4, I5, vRep_has I7 h' hl, vRep_cat I7 rfl hl⟩)
theorem v_iadd {x y : Int32} (d : decode M.2.1 pc = .ok (.iadd, 1)) (k : V G M fr lo (pc + 1) lv (.int (x + y) :: st) h mc ms Q) : V G M fr lo pc lv (.int y :: .int x :: st) h mc ms Q := fun p l e R s m args below meth c A H locs cells slots MC MS ls I => lv_iadd I.1.1 I.1.2.1 d (k p l e R s m args below meth c A H locs cells slots MC MS ls I)
theorem v_isub {x y : Int32} (d : decode M.2.1 pc = .ok (.isub, 1)) (k : V G M fr lo (pc + 1) lv (.int (x - y) :: st) h mc ms Q) : V G M fr lo pc lv (.int y :: .int x :: st) h mc ms Q := fun p l e R s m args below meth c A H locs cells slots MC MS ls I => lv_isub I.1.1 I.1.2.1 d (k p l e R s m args below meth c A H locs cells slots MC MS ls I)
theorem v_imul {x y : Int32} (d : decode M.2.1 pc = .ok (.imul, 1)) (k : V G M fr lo (pc + 1) lv (.int (x * y) :: st) h mc ms Q) : V G M fr lo pc lv (.int y :: .int x :: st) h mc ms Q := fun p l e R s m args below meth c A H locs cells slots MC MS ls I => lv_imul I.1.1 I.1.2.1 d (k p l e R s m args below meth c A H locs cells slots MC MS ls I)
theorem v_iand {x y : Int32} (d : decode M.2.1 pc = .ok (.iand, 1)) (k : V G M fr lo (pc + 1) lv (.int (x &&& y) :: st) h mc ms Q) : V G M fr lo pc lv (.int y :: .int x :: st) h mc ms Q := fun p l e R s m args below meth c A H locs cells slots MC MS ls I => lv_iand I.1.1 I.1.2.1 d (k p l e R s m args below meth c A H locs cells slots MC MS ls I)
theorem v_ior {x y : Int32} (d : decode M.2.1 pc = .ok (.ior, 1)) (k : V G M fr lo (pc + 1) lv (.int (x ||| y) :: st) h mc ms Q) : V G M fr lo pc lv (.int y :: .int x :: st) h mc ms Q := fun p l e R s m args below meth c A H locs cells slots MC MS ls I => lv_ior I.1.1 I.1.2.1 d (k p l e R s m args below meth c A H locs cells slots MC MS ls I)
theorem v_ishl {x y : Int32} (d : decode M.2.1 pc = .ok (.ishl, 1)) (k : V G M fr lo (pc + 1) lv (.int (x <<< (y &&& 31)) :: st) h mc ms Q) : V G M fr lo pc lv (.int y :: .int x :: st) h mc ms Q := fun p l e R s m args below meth c A H locs cells slots MC MS ls I => lv_ishl I.1.1 I.1.2.1 d (k p l e R s m args below meth c A H locs cells slots MC MS ls I)
theorem v_ishr {x y : Int32} (d : decode M.2.1 pc = .ok (.ishr, 1)) (k : V G M fr lo (pc + 1) lv (.int (x >>> (y &&& 31)) :: st) h mc ms Q) : V G M fr lo pc lv (.int y :: .int x :: st) h mc ms Q := fun p l e R s m args below meth c A H locs cells slots MC MS ls I => lv_ishr I.1.1 I.1.2.1 d (k p l e R s m args below meth c A H locs cells slots MC MS ls I)
theorem v_i2l {x : Int32} (d : decode M.2.1 pc = .ok (.i2l, 1)) (k : V G M fr lo (pc + 1) lv (.long x.toInt64 :: st) h mc ms Q) : V G M fr lo pc lv (.int x :: st) h mc ms Q := fun p l e R s m args below meth c A H locs cells slots MC MS ls I => lv_i2l I.1.1 I.1.2.1 d rfl (k p l e R s m args below meth c A H locs cells slots MC MS ls I)
theorem v_lcmp {x y : Int64} (d : decode M.2.1 pc = .ok (.lcmp, 1)) (k : V G M fr lo (pc + 1) lv (.int (lg_cmp x y) :: st) h mc ms Q) : V G M fr lo pc lv (.long y :: .long x :: st) h mc ms Q := fun p l e R s m args below meth c A H locs cells slots MC MS ls I => W.lcmp I.1.1 I.1.2.1 d (k p l e R s m args below meth c A H locs cells slots MC MS ls I)
theorem v_dup {v : Value} (d : decode M.2.1 pc = .ok (.dup, 1)) (hv : v.category = 1) (k : V G M fr lo (pc + 1) lv (v :: v :: st) h mc ms Q) : V G M fr lo pc lv (v :: st) h mc ms Q := fun p l e R s m args below meth c A H locs cells slots MC MS ls I => lv_dup I.1.1 I.1.2.1 d hv (k p l e R s m args below meth c A H locs cells slots MC MS ls I)
theorem v_pop {v : Value} (d : decode M.2.1 pc = .ok (.pop, 1)) (hv : v.category = 1) (k : V G M fr lo (pc + 1) lv st h mc ms Q) : V G M fr lo pc lv (v :: st) h mc ms Q := fun p l e R s m args below meth c A H locs cells slots MC MS ls I => lv_pop I.1.1 I.1.2.1 d hv (k p l e R s m args below meth c A H locs cells slots MC MS ls I)
theorem v_dup_x1 {v w : Value} (d : decode M.2.1 pc = .ok (.dup_x1, 1)) (hv : v.category = 1) (hw : w.category = 1) (k : V G M fr lo (pc + 1) lv (v :: w :: v :: st) h mc ms Q) : V G M fr lo pc lv (v :: w :: st) h mc ms Q := fun p l e R s m args below meth c A H locs cells slots MC MS ls I => lv_dup_x1 I.1.1 I.1.2.1 d hv hw (k p l e R s m args below meth c A H locs cells slots MC MS ls I)
theorem v_dup2 {v w : Value} (d : decode M.2.1 pc = .ok (.dup2, 1)) (hv : v.category = 1) (hw : w.category = 1) (k : V G M fr lo (pc + 1) lv (v :: w :: v :: w :: st) h mc ms Q) : V G M fr lo pc lv (v :: w :: st) h mc ms Q := fun p l e R s m args below meth c A H locs cells slots MC MS ls I => lv_dup2_11 I.1.1 I.1.2.1 d hv hw (k p l e R s m args below meth c A H locs cells slots MC MS ls I)
theorem v_if_eq {x : Int32} {off : Int} {tgt : Nat} (d : decode M.2.1 pc = .ok (.ifCond .eq off, 3)) (ht : (pc : Int) + off = (tgt : Int)) (kt : x = 0 → V G M fr lo tgt lv st h mc ms Q) (kf : ¬ x = 0 → V G M fr lo (pc + 3) lv st h mc ms Q) : V G M fr lo pc lv (.int x :: st) h mc ms Q := fun p l e R s m args below meth c A H locs cells slots MC MS ls I => lv_if_eq I.1.1 I.1.2.1 d ht (fun z => kt z p l e R s m args below meth c A H locs cells slots MC MS ls I) (fun z => kf z p l e R s m args below meth c A H locs cells slots MC MS ls I)
theorem v_icmp_eq {x y : Int32} {off : Int} {tgt : Nat} (d : decode M.2.1 pc = .ok (.if_icmp .eq off, 3)) (ht : (pc : Int) + off = (tgt : Int)) (kt : x = y → V G M fr lo tgt lv st h mc ms Q) (kf : ¬ x = y → V G M fr lo (pc + 3) lv st h mc ms Q) : V G M fr lo pc lv (.int y :: .int x :: st) h mc ms Q := fun p l e R s m args below meth c A H locs cells slots MC MS ls I => lv_icmp_eq I.1.1 I.1.2.1 d ht (fun z => kt z p l e R s m args below meth c A H locs cells slots MC MS ls I) (fun z => kf z p l e R s m args below meth c A H locs cells slots MC MS ls I)
theorem v_if_ne {x : Int32} {off : Int} {tgt : Nat} (d : decode M.2.1 pc = .ok (.ifCond .ne off, 3)) (ht : (pc : Int) + off = (tgt : Int)) (kt : ¬ x = 0 → V G M fr lo tgt lv st h mc ms Q) (kf : x = 0 → V G M fr lo (pc + 3) lv st h mc ms Q) : V G M fr lo pc lv (.int x :: st) h mc ms Q := fun p l e R s m args below meth c A H locs cells slots MC MS ls I => lv_if_ne I.1.1 I.1.2.1 d ht (fun z => kt z p l e R s m args below meth c A H locs cells slots MC MS ls I) (fun z => kf z p l e R s m args below meth c A H locs cells slots MC MS ls I)
theorem v_icmp_ne {x y : Int32} {off : Int} {tgt : Nat} (d : decode M.2.1 pc = .ok (.if_icmp .ne off, 3)) (ht : (pc : Int) + off = (tgt : Int)) (kt : ¬ x = y → V G M fr lo tgt lv st h mc ms Q) (kf : x = y → V G M fr lo (pc + 3) lv st h mc ms Q) : V G M fr lo pc lv (.int y :: .int x :: st) h mc ms Q := fun p l e R s m args below meth c A H locs cells slots MC MS ls I => lv_icmp_ne I.1.1 I.1.2.1 d ht (fun z => kt z p l e R s m args below meth c A H locs cells slots MC MS ls I) (fun z => kf z p l e R s m args below meth c A H locs cells slots MC MS ls I)
theorem v_if_lt {x : Int32} {off : Int} {tgt : Nat} (d : decode M.2.1 pc = .ok (.ifCond .lt off, 3)) (ht : (pc : Int) + off = (tgt : Int)) (kt : x < 0 → V G M fr lo tgt lv st h mc ms Q) (kf : ¬ x < 0 → V G M fr lo (pc + 3) lv st h mc ms Q) : V G M fr lo pc lv (.int x :: st) h mc ms Q := fun p l e R s m args below meth c A H locs cells slots MC MS ls I => lv_if_lt I.1.1 I.1.2.1 d ht (fun z => kt z p l e R s m args below meth c A H locs cells slots MC MS ls I) (fun z => kf z p l e R s m args below meth c A H locs cells slots MC MS ls I)
theorem v_icmp_lt {x y : Int32} {off : Int} {tgt : Nat} (d : decode M.2.1 pc = .ok (.if_icmp .lt off, 3)) (ht : (pc : Int) + off = (tgt : Int)) (kt : x < y → V G M fr lo tgt lv st h mc ms Q) (kf : ¬ x < y → V G M fr lo (pc + 3) lv st h mc ms Q) : V G M fr lo pc lv (.int y :: .int x :: st) h mc ms Q := fun p l e R s m args below meth c A H locs cells slots MC MS ls I => lv_icmp_lt I.1.1 I.1.2.1 d ht (fun z => kt z p l e R s m args below meth c A H locs cells slots MC MS ls I) (fun z => kf z p l e R s m args below meth c A H locs cells slots MC MS ls I)
theorem v_if_ge {x : Int32} {off : Int} {tgt : Nat} (d : decode M.2.1 pc = .ok (.ifCond .ge off, 3)) (ht : (pc : Int) + off = (tgt : Int)) (kt : 0 ≤ x → V G M fr lo tgt lv st h mc ms Q) (kf : ¬ 0 ≤ x → V G M fr lo (pc + 3) lv st h mc ms Q) : V G M fr lo pc lv (.int x :: st) h mc ms Q := fun p l e R s m args below meth c A H locs cells slots MC MS ls I => lv_if_ge I.1.1 I.1.2.1 d ht (fun z => kt z p l e R s m args below meth c A H locs cells slots MC MS ls I) (fun z => kf z p l e R s m args below meth c A H locs cells slots MC MS ls I)
theorem v_icmp_ge {x y : Int32} {off : Int} {tgt : Nat} (d : decode M.2.1 pc = .ok (.if_icmp .ge off, 3)) (ht : (pc : Int) + off = (tgt : Int)) (kt : y ≤ x → V G M fr lo tgt lv st h mc ms Q) (kf : ¬ y ≤ x → V G M fr lo (pc + 3) lv st h mc ms Q) : V G M fr lo pc lv (.int y :: .int x :: st) h mc ms Q := fun p l e R s m args below meth c A H locs cells slots MC MS ls I => lv_icmp_ge I.1.1 I.1.2.1 d ht (fun z => kt z p l e R s m args below meth c A H locs cells slots MC MS ls I) (fun z => kf z p l e R s m args below meth c A H locs cells slots MC MS ls I)
theorem v_if_gt {x : Int32} {off : Int} {tgt : Nat} (d : decode M.2.1 pc = .ok (.ifCond .gt off, 3)) (ht : (pc : Int) + off = (tgt : Int)) (kt : 0 < x → V G M fr lo tgt lv st h mc ms Q) (kf : ¬ 0 < x → V G M fr lo (pc + 3) lv st h mc ms Q) : V G M fr lo pc lv (.int x :: st) h mc ms Q := fun p l e R s m args below meth c A H locs cells slots MC MS ls I => lv_if_gt I.1.1 I.1.2.1 d ht (fun z => kt z p l e R s m args below meth c A H locs cells slots MC MS ls I) (fun z => kf z p l e R s m args below meth c A H locs cells slots MC MS ls I)
theorem v_icmp_gt {x y : Int32} {off : Int} {tgt : Nat} (d : decode M.2.1 pc = .ok (.if_icmp .gt off, 3)) (ht : (pc : Int) + off = (tgt : Int)) (kt : y < x → V G M fr lo tgt lv st h mc ms Q) (kf : ¬ y < x → V G M fr lo (pc + 3) lv st h mc ms Q) : V G M fr lo pc lv (.int y :: .int x :: st) h mc ms Q := fun p l e R s m args below meth c A H locs cells slots MC MS ls I => lv_icmp_gt I.1.1 I.1.2.1 d ht (fun z => kt z p l e R s m args below meth c A H locs cells slots MC MS ls I) (fun z => kf z p l e R s m args below meth c A H locs cells slots MC MS ls I)
theorem v_if_le {x : Int32} {off : Int} {tgt : Nat} (d : decode M.2.1 pc = .ok (.ifCond .le off, 3)) (ht : (pc : Int) + off = (tgt : Int)) (kt : x ≤ 0 → V G M fr lo tgt lv st h mc ms Q) (kf : ¬ x ≤ 0 → V G M fr lo (pc + 3) lv st h mc ms Q) : V G M fr lo pc lv (.int x :: st) h mc ms Q := fun p l e R s m args below meth c A H locs cells slots MC MS ls I => lv_if_le I.1.1 I.1.2.1 d ht (fun z => kt z p l e R s m args below meth c A H locs cells slots MC MS ls I) (fun z => kf z p l e R s m args below meth c A H locs cells slots MC MS ls I)
theorem v_icmp_le {x y : Int32} {off : Int} {tgt : Nat} (d : decode M.2.1 pc = .ok (.if_icmp .le off, 3)) (ht : (pc : Int) + off = (tgt : Int)) (kt : x ≤ y → V G M fr lo tgt lv st h mc ms Q) (kf : ¬ x ≤ y → V G M fr lo (pc + 3) lv st h mc ms Q) : V G M fr lo pc lv (.int y :: .int x :: st) h mc ms Q := fun p l e R s m args below meth c A H locs cells slots MC MS ls I => lv_icmp_le I.1.1 I.1.2.1 d ht (fun z => kt z p l e R s m args below meth c A H locs cells slots MC MS ls I) (fun z => kf z p l e R s m args below meth c A H locs cells slots MC MS ls I)
theorem v_acmp_eq {rx ry : Option Nat} {off : Int} {tgt : Nat} (d : decode M.2.1 pc = .ok (.if_acmp .eq off, 3)) (ht : (pc : Int) + off = (tgt : Int)) (kt : rx = ry → V G M fr lo tgt lv st h mc ms Q) (kf : ¬ rx = ry → V G M fr lo (pc + 3) lv st h mc ms Q) : V G M fr lo pc lv (va_rf ry :: va_rf rx :: st) h mc ms Q := fun p l e R s m args below meth c A H locs cells slots MC MS ls I => lv_acmp_eq I.1.1 I.1.2.1 d ht (fun z => kt z p l e R s m args below meth c A H locs cells slots MC MS ls I) (fun z => kf z p l e R s m args below meth c A H locs cells slots MC MS ls I)
theorem v_acmp_ne {rx ry : Option Nat} {off : Int} {tgt : Nat} (d : decode M.2.1 pc = .ok (.if_acmp .ne off, 3)) (ht : (pc : Int) + off = (tgt : Int)) (kt : ¬ rx = ry → V G M fr lo tgt lv st h mc ms Q) (kf : rx = ry → V G M fr lo (pc + 3) lv st h mc ms Q) : V G M fr lo pc lv (va_rf ry :: va_rf rx :: st) h mc ms Q := fun p l e R s m args below meth c A H locs cells slots MC MS ls I => lv_acmp_ne I.1.1 I.1.2.1 d ht (fun z => kt z p l e R s m args below meth c A H locs cells slots MC MS ls I) (fun z => kf z p l e R s m args below meth c A H locs cells slots MC MS ls I)
theorem v_goto {off : Int} {tgt : Nat} (d : decode M.2.1 pc = .ok (.goto off, 3)) (ht : (pc : Int) + off = (tgt : Int)) (k : V G M fr lo tgt lv st h mc ms Q) : V G M fr lo pc lv st h mc ms Q := fun p l e R s m args below meth c A H locs cells slots MC MS ls I => lv_goto I.1.1 I.1.2.1 d ht (k p l e R s m args below meth c A H locs cells slots MC MS ls I)
theorem v_ifnull {r : Option Nat} {off : Int} {tgt : Nat} (d : decode M.2.1 pc = .ok (.ifnull off, 3)) (ht : (pc : Int) + off = (tgt : Int)) (kn : r = none → V G M fr lo tgt lv st h mc ms Q) (ks : ∀ a, r = some a → V G M fr lo (pc + 3) lv st h mc ms Q) : V G M fr lo pc lv (va_rf r :: st) h mc ms Q := by
  intro p l e R s m args below meth c A H locs cells slots MC MS ls I
  cases r with
  | none => exact lv_ifnullN I.1.1 I.1.2.1 d ht (kn rfl p l e R s m args below meth c A H locs cells slots MC MS ls I)
  | some a => exact lv_ifnull I.1.1 I.1.2.1 d (ks a rfl p l e R s m args below meth c A H locs cells slots MC MS ls I)
theorem v_ifnonnull {r : Option Nat} {off : Int} {tgt : Nat} (d : decode M.2.1 pc = .ok (.ifnonnull off, 3)) (ht : (pc : Int) + off = (tgt : Int)) (kn : r = none → V G M fr lo (pc + 3) lv st h mc ms Q) (ks : ∀ a, r = some a → V G M fr lo tgt lv st h mc ms Q) : V G M fr lo pc lv (va_rf r :: st) h mc ms Q := by
  intro p l e R s m args below meth c A H locs cells slots MC MS ls I
  cases r with
  | none => exact lv_ifnonnullN I.1.1 I.1.2.1 d (kn rfl p l e R s m args below meth c A H locs cells slots MC MS ls I)
  | some a => exact lv_ifnonnull I.1.1 I.1.2.1 d ht (ks a rfl p l e R s m args below meth c A H locs cells slots MC MS ls I)
end VR
end
section
/-! The rows of V that read, write and make cells. -/
section VHp
variable {G : vG} {M : vM} {fr lo pc : Nat} {lv lv' : List (Nat × Value)} {st : List Value} {h : vH} {mc ms : Nat} {Q Q' : vQ}
theorem vts {p : Program} {l : Launch} {s : State} {m : MethodId} {meth : Method} {c : Code} {A : Nat → Prop} (C1 : vCx G M p l s m meth c A) (args : Array Value) : ∀ w ∈ vT, w.before args s = true := fun w hw => C1.2.2.2.2.2.2.2.2.2.2.1 w hw args
theorem vown {p : Program} {l : Launch} {s : State} {m : MethodId} {meth : Method} {c : Code} {A : Nat → Prop} (C1 : vCx G M p l s m meth c A) : s.vm.findClass M.1.cls = some m.cls := C1.2.2.2.2.2.2.2.1
theorem venv {p : Program} {l : Launch} {s : State} {m : MethodId} {meth : Method} {c : Code} {A : Nat → Prop} (C1 : vCx G M p l s m meth c A) : vEnv G A s s.heap := C1.2.2.2.2.2.2.2.2.2.2
theorem vK {p : Program} {l : Launch} {s : State} {m : MethodId} {meth : Method} {c : Code} {A : Nat → Prop} (C1 : vCx G M p l s m meth c A) : va_K G.1 vCl (vTy G) s := (venv C1).2.1
theorem vhA {p : Program} {l : Launch} {s : State} {m : MethodId} {meth : Method} {c : Code} {A : Nat → Prop} (C1 : vCx G M p l s m meth c A) : ∀ q, s.heap.size ≤ q → A q := C1.2.2.2.2.2.2.2.2.2.1
theorem vplS {A : Nat → Prop} {L : List Nat} {f : Nat → va_E} {a k : Nat} {e : va_E} (hD : va_D A (va_pl L f)) (ha : a ∈ L) (hk : (va_pl L f)[k]? = some (a, f a)) : (va_pl L f).set k (a, e) = va_pl L (va_up f a e) := va_pl_set (X := []) hD ha hk
theorem vplG {L : List Nat} {f : Nat → va_E} {a : Nat} {e : va_E} (ha : a ∈ L) (he : f a = e) : ∃ k : Nat, (va_pl L f)[k]? = some (a, e) := by
  obtain ⟨k, hk⟩ := va_pl_get (X := []) (f := f) ha
  rw [he] at hk
  exact ⟨k, hk⟩
theorem vplN {A : Nat → Prop} {L : List Nat} {f : Nat → va_E} {q : Nat} {e : va_E} (hD : va_D A (va_pl L f ++ [(q, e)])) : q ∉ L ∧ va_pl L f ++ [(q, e)] = va_pl (L ++ [q]) (va_up f q e) := by
  have h1 : q ∉ L := va_pl_fresh2 (X := []) hD
  exact ⟨h1, va_pl_push h1⟩
theorem v_get {a ci N idx : Nat} {fs : List Value} {v : Value} {ref C : String} {T : u_T} (d : decode M.2.1 pc = .ok (.getfield idx, 3)) (hf : h.2 a = .inr (ci, fs)) (ha : a ∈ h.1) (hc : vCl[ci]? = some (C, T, N)) (hin : ∀ w ∈ u_ws C T N, w ∈ vT) (k : Nat) (hk : k < N) (hw : Cond.fieldLink M.1.cls idx ref (T k).2.1 (T k).2.2.1 ∈ vT) (hs : (T k).1 = ref ∨ Cond.sameField ref (T k).1 (T k).2.1 (T k).2.2.1 ∈ vT) (hv : fs[k]? = some v)
    (kk : V G M fr lo (pc + 3) lv (v :: st) h mc ms Q) : V G M fr lo pc lv (.ref a :: st) h mc ms Q := by
  intro p l e R s m args below meth c A H locs cells slots MC MS ls I
  obtain ⟨j, hj⟩ := vplG ha hf
  exact va_get I.1.1 I.1.2.1 (vts I.1 args) hin (vown I.1) (vK I.1) I.2.2.1 j hj hc k hk (vts I.1 args _ hw) (fun x hx => by
    rcases hs with e1 | e1
    · rw [← e1]; exact hx
    · exact u_same (vts I.1 args _ e1) x hx) hv d (kk p l e R s m args below meth c A H locs cells slots MC MS ls I)
def vSetF : List Value → Nat → Value → Option (List Value)
  | [], _, _ => none
  | _ :: r, 0, v => some (v :: r)
  | x :: r, k + 1, v => match vSetF r k v with | some t => some (x :: t) | none => none
theorem vSetF_eq : ∀ {fs : List Value} {k : Nat} {v : Value} {fs' : List Value}, vSetF fs k v = some fs' → fs.set k v = fs' ∧ k < fs.length
  | [], _, _, _, h => by cases h
  | _ :: r, 0, v, fs', h => by cases h; exact ⟨rfl, Nat.zero_lt_succ _⟩
  | x :: r, k + 1, v, fs', h => by
    unfold vSetF at h
    cases hr : vSetF r k v with
    | none => rw [hr] at h; cases h
    | some t =>
      rw [hr] at h
      cases h
      obtain ⟨e1, e2⟩ := vSetF_eq hr
      exact ⟨by rw [List.set_cons_succ, e1], Nat.succ_lt_succ e2⟩
theorem v_put {a ci N idx : Nat} {fs fs' : List Value} {v : Value} {ref C : String} {T : u_T} {ty0 : Nat → FieldType} (d : decode M.2.1 pc = .ok (.putfield idx, 3)) (hf : h.2 a = .inr (ci, fs)) (ha : a ∈ h.1) (hc : vCl[ci]? = some (C, T, N)) (hin : ∀ w ∈ u_ws C T N, w ∈ vT) (hty : ∀ k, k < N → parseFieldDescriptor (T k).2.2.1 = some (ty0 k)) (hnm : ∀ a, a < N → ∀ b, b < N → a ≠ b → (T a).2.1 ≠ (T b).2.1) (k : Nat) (hk : k < N) (hw : Cond.fieldLink M.1.cls idx ref (T k).2.1 (T k).2.2.1 ∈ vT) (hs : (T k).1 = ref ∨ Cond.sameField ref (T k).1 (T k).2.1 (T k).2.2.1 ∈ vT) (hfin : (T k).2.2.2 = false ∨ ((T k).2.2.2 = true ∧ M.1.name = "<init>" ∧ (T k).1 = M.1.cls)) (hn : narrow (ty0 k) v = v) (hfit : fits (ty0 k) v = true) (he : vSetF fs k v = some fs')
    (kk : V G M fr lo (pc + 3) lv st (h.1, va_up h.2 a (.inr (ci, fs'))) mc ms Q) : V G M fr lo pc lv (v :: .ref a :: st) h mc ms Q := by
  obtain ⟨he, hl⟩ := vSetF_eq he
  subst he
  intro p l e R s m args below meth c A H locs cells slots MC MS ls I
  obtain ⟨j, hj⟩ := vplG ha hf
  have hj0 : (va_pl h.1 h.2)[j]? = some (a, h.2 a) := by rw [hf]; exact hj
  have hsame : ∀ x, s.fieldFound? (T k).1 (T k).2.1 (T k).2.2.1 = some x → s.fieldFound? ref (T k).2.1 (T k).2.2.1 = some x := fun x hx => by
    rcases hs with e1 | e1
    · rw [← e1]; exact hx
    · exact u_same (vts I.1 args _ e1) x hx
  rcases hfin with h0 | ⟨h0, h1, h2⟩
  · refine va_put I.1.1 I.1.2.1 (vts I.1 args) hin ty0 hty hnm (vown I.1) (vK I.1) I.2.2.1 I.2.2.2.1 I.2.2.2.2.1 j hj hc k hk (vts I.1 args _ hw) hsame h0 (hty k hk) hn hfit hl d (fun H1 locs1 hP hD hS => ?_)
    rw [vplS I.2.2.2.1 ha hj0] at hP hD
    exact kk p l e R s m args below meth c A H1 locs1 cells slots MC MS ls ⟨I.1, I.2.1, hP, hD, hS, I.2.2.2.2.2⟩
  · refine va_putF I.1.1 I.1.2.1 (vts I.1 args) hin ty0 hty hnm (vown I.1) (vK I.1) I.2.2.1 I.2.2.2.1 I.2.2.2.2.1 j hj hc k hk (vts I.1 args _ hw) hsame h0 (I.1.2.2.2.2.2.2.1.trans h1) h2 (hty k hk) hn hfit hl d (fun H1 locs1 hP hD hS => ?_)
    rw [vplS I.2.2.2.1 ha hj0] at hP hD
    exact kk p l e R s m args below meth c A H1 locs1 cells slots MC MS ls ⟨I.1, I.2.1, hP, hD, hS, I.2.2.2.2.2⟩
theorem v_iald {a n : Nat} {f : Nat → Int32} {i : Int32} (d : decode M.2.1 pc = .ok (.iaload, 1)) (hf : h.2 a = .inl (G.2.1 0, n, .inl f)) (ha : a ∈ h.1) (hi : vp_in i n) (kk : V G M fr lo (pc + 1) lv (.int (f i.toNatClampNeg) :: st) h mc ms Q) : V G M fr lo pc lv (.int i :: .ref a :: st) h mc ms Q := by
  intro p l e R s m args below meth c A H locs cells slots MC MS ls I
  obtain ⟨j, hj⟩ := vplG ha hf
  exact va_iald I.1.1 I.1.2.1 (vK I.1) I.2.2.1 j 0 hj rfl hi d (kk p l e R s m args below meth c A H locs cells slots MC MS ls I)
theorem v_zald {a n : Nat} {f : Nat → Int32} {i : Int32} (d : decode M.2.1 pc = .ok (.baload, 1)) (hf : h.2 a = .inl (G.2.1 1, n, .inl f)) (ha : a ∈ h.1) (hi : vp_in i n) (kk : V G M fr lo (pc + 1) lv (.int (f i.toNatClampNeg) :: st) h mc ms Q) : V G M fr lo pc lv (.int i :: .ref a :: st) h mc ms Q := by
  intro p l e R s m args below meth c A H locs cells slots MC MS ls I
  obtain ⟨j, hj⟩ := vplG ha hf
  exact va_zald I.1.1 I.1.2.1 (vK I.1) I.2.2.1 j 1 hj rfl hi d (kk p l e R s m args below meth c A H locs cells slots MC MS ls I)
theorem v_lald {a n : Nat} {f : Nat → Int64} {i : Int32} (d : decode M.2.1 pc = .ok (.laload, 1)) (hf : h.2 a = .inl (G.2.1 2, n, .inr (.inl f))) (ha : a ∈ h.1) (hi : vp_in i n) (kk : V G M fr lo (pc + 1) lv (.long (f i.toNatClampNeg) :: st) h mc ms Q) : V G M fr lo pc lv (.int i :: .ref a :: st) h mc ms Q := by
  intro p l e R s m args below meth c A H locs cells slots MC MS ls I
  obtain ⟨j, hj⟩ := vplG ha hf
  exact va_lald I.1.1 I.1.2.1 (vK I.1) I.2.2.1 j 2 hj rfl hi d (kk p l e R s m args below meth c A H locs cells slots MC MS ls I)
theorem v_aald {a n : Nat} {f : Nat → Option Nat} {i : Int32} (d : decode M.2.1 pc = .ok (.aaload, 1)) (hf : h.2 a = .inl (G.2.1 3, n, .inr (.inr (.inr (.inr f))))) (ha : a ∈ h.1) (hi : vp_in i n) (kk : V G M fr lo (pc + 1) lv (va_rf (f i.toNatClampNeg) :: st) h mc ms Q) : V G M fr lo pc lv (.int i :: .ref a :: st) h mc ms Q := by
  intro p l e R s m args below meth c A H locs cells slots MC MS ls I
  obtain ⟨j, hj⟩ := vplG ha hf
  exact va_aldq (C := "java/lang/Object") I.1.1 I.1.2.1 (vK I.1) I.2.2.1 j 3 hj rfl hi d (kk p l e R s m args below meth c A H locs cells slots MC MS ls I)
theorem v_iast {a n : Nat} {f : Nat → Int32} {i x : Int32} (d : decode M.2.1 pc = .ok (.iastore, 1)) (hf : h.2 a = .inl (G.2.1 0, n, .inl f)) (ha : a ∈ h.1) (hi : vp_in i n) (kk : V G M fr lo (pc + 1) lv st (h.1, va_up h.2 a (.inl (G.2.1 0, n, .inl (upd f i.toNatClampNeg x)))) mc ms Q) : V G M fr lo pc lv (.int x :: .int i :: .ref a :: st) h mc ms Q := by
  intro p l e R s m args below meth c A H locs cells slots MC MS ls I
  obtain ⟨j, hj⟩ := vplG ha hf
  have hj0 : (va_pl h.1 h.2)[j]? = some (a, h.2 a) := by rw [hf]; exact hj
  refine va_iast I.1.1 I.1.2.1 (vK I.1) I.2.2.1 I.2.2.2.1 I.2.2.2.2.1 j 0 hj rfl hi d (fun H1 locs1 hP hD hS => ?_)
  rw [vplS I.2.2.2.1 ha hj0] at hP hD
  exact kk p l e R s m args below meth c A H1 locs1 cells slots MC MS ls ⟨I.1, I.2.1, hP, hD, hS, I.2.2.2.2.2⟩
theorem v_zast {a n : Nat} {f : Nat → Int32} {i x : Int32} (d : decode M.2.1 pc = .ok (.bastore, 1)) (hf : h.2 a = .inl (G.2.1 1, n, .inl f)) (ha : a ∈ h.1) (hi : vp_in i n) (hx : vp_nar .boolean x = x) (kk : V G M fr lo (pc + 1) lv st (h.1, va_up h.2 a (.inl (G.2.1 1, n, .inl (upd f i.toNatClampNeg x)))) mc ms Q) : V G M fr lo pc lv (.int x :: .int i :: .ref a :: st) h mc ms Q := by
  intro p l e R s m args below meth c A H locs cells slots MC MS ls I
  obtain ⟨j, hj⟩ := vplG ha hf
  have hj0 : (va_pl h.1 h.2)[j]? = some (a, h.2 a) := by rw [hf]; exact hj
  refine va_zast I.1.1 I.1.2.1 (vK I.1) I.2.2.1 I.2.2.2.1 I.2.2.2.2.1 j 1 hj rfl hi d (fun H1 locs1 hP hD hS => ?_)
  rw [hx, vplS I.2.2.2.1 ha hj0] at hP hD
  exact kk p l e R s m args below meth c A H1 locs1 cells slots MC MS ls ⟨I.1, I.2.1, hP, hD, hS, I.2.2.2.2.2⟩
theorem v_last {a n : Nat} {f : Nat → Int64} {i : Int32} {x : Int64} (d : decode M.2.1 pc = .ok (.lastore, 1)) (hf : h.2 a = .inl (G.2.1 2, n, .inr (.inl f))) (ha : a ∈ h.1) (hi : vp_in i n) (kk : V G M fr lo (pc + 1) lv st (h.1, va_up h.2 a (.inl (G.2.1 2, n, .inr (.inl (vp_updL f i.toNatClampNeg x))))) mc ms Q) : V G M fr lo pc lv (.long x :: .int i :: .ref a :: st) h mc ms Q := by
  intro p l e R s m args below meth c A H locs cells slots MC MS ls I
  obtain ⟨j, hj⟩ := vplG ha hf
  have hj0 : (va_pl h.1 h.2)[j]? = some (a, h.2 a) := by rw [hf]; exact hj
  refine va_last I.1.1 I.1.2.1 (vK I.1) I.2.2.1 I.2.2.2.1 I.2.2.2.2.1 j 2 hj rfl hi d (fun H1 locs1 hP hD hS => ?_)
  rw [vplS I.2.2.2.1 ha hj0] at hP hD
  exact kk p l e R s m args below meth c A H1 locs1 cells slots MC MS ls ⟨I.1, I.2.1, hP, hD, hS, I.2.2.2.2.2⟩
theorem v_aastN {a n : Nat} {f : Nat → Option Nat} {i : Int32} (d : decode M.2.1 pc = .ok (.aastore, 1)) (hf : h.2 a = .inl (G.2.1 3, n, .inr (.inr (.inr (.inr f))))) (ha : a ∈ h.1) (hi : vp_in i n) (kk : V G M fr lo (pc + 1) lv st (h.1, va_up h.2 a (.inl (G.2.1 3, n, .inr (.inr (.inr (.inr (va_up f i.toNatClampNeg none))))))) mc ms Q) : V G M fr lo pc lv (.null :: .int i :: .ref a :: st) h mc ms Q := by
  intro p l e R s m args below meth c A H locs cells slots MC MS ls I
  obtain ⟨j, hj⟩ := vplG ha hf
  have hj0 : (va_pl h.1 h.2)[j]? = some (a, h.2 a) := by rw [hf]; exact hj
  refine va_astqN (C := "java/lang/Object") I.1.1 I.1.2.1 (vK I.1) I.2.2.1 I.2.2.2.1 I.2.2.2.2.1 j 3 hj rfl hi d (fun H1 locs1 hP hD hS => ?_)
  rw [vplS I.2.2.2.1 ha hj0] at hP hD
  exact kk p l e R s m args below meth c A H1 locs1 cells slots MC MS ls ⟨I.1, I.2.1, hP, hD, hS, I.2.2.2.2.2⟩
theorem v_aast {a n b ci : Nat} {vs : List Value} {r : vw_C} {f : Nat → Option Nat} {i : Int32} (d : decode M.2.1 pc = .ok (.aastore, 1)) (hf : h.2 a = .inl (G.2.1 3, n, .inr (.inr (.inr (.inr f))))) (ha : a ∈ h.1) (hg : h.2 b = .inr (ci, vs)) (hb : b ∈ h.1) (hc : vCl[ci]? = some r) (hx : Cond.castable r.1 "java/lang/Object" ∈ vT) (hi : vp_in i n) (kk : V G M fr lo (pc + 1) lv st (h.1, va_up h.2 a (.inl (G.2.1 3, n, .inr (.inr (.inr (.inr (va_up f i.toNatClampNeg (some b)))))))) mc ms Q) : V G M fr lo pc lv (.ref b :: .int i :: .ref a :: st) h mc ms Q := by
  intro p l e R s m args below meth c A H locs cells slots MC MS ls I
  obtain ⟨j, hj⟩ := vplG ha hf
  obtain ⟨jb, hjb⟩ := vplG hb hg
  have hj0 : (va_pl h.1 h.2)[j]? = some (a, h.2 a) := by rw [hf]; exact hj
  refine va_astqO (E := "java/lang/Object") I.1.1 I.1.2.1 (vK I.1) I.2.2.1 I.2.2.2.1 I.2.2.2.2.1 j 3 jb ci hj rfl (va_Nw.of rfl (vts I.1 args _ hx)) hjb hc hi d (fun H1 locs1 hP hD hS => ?_)
  rw [vplS I.2.2.2.1 ha hj0] at hP hD
  exact kk p l e R s m args below meth c A H1 locs1 cells slots MC MS ls ⟨I.1, I.2.1, hP, hD, hS, I.2.2.2.2.2⟩
theorem v_alen {a k : Nat} {x : vp_A} (d : decode M.2.1 pc = .ok (.arraylength, 1)) (hk : k < 4) (hf : h.2 a = .inl (G.2.1 k, x)) (ha : a ∈ h.1) (kk : V G M fr lo (pc + 1) lv (.int (Int32.ofNat x.1) :: st) h mc ms Q) : V G M fr lo pc lv (.ref a :: st) h mc ms Q := by
  intro p l e R s m args below meth c A H locs cells slots MC MS ls I
  obtain ⟨j, hj⟩ := vplG ha hf
  have ht : ∃ ty, (vTy G)[k]? = some (G.2.1 k, ty) := by
    rcases (show k = 0 ∨ k = 1 ∨ k = 2 ∨ k = 3 by omega) with rfl | rfl | rfl | rfl <;> exact ⟨_, rfl⟩
  obtain ⟨ty, ht⟩ := ht
  exact va_alen I.1.1 I.1.2.1 (vK I.1) I.2.2.1 j k hj ht rfl d (kk p l e R s m args below meth c A H locs cells slots MC MS ls I)
/-- the empty array that every new list begins with -/
theorem v_elen (d : decode M.2.1 pc = .ok (.arraylength, 1)) (kk : V G M fr lo (pc + 1) lv (.int 0 :: st) h mc ms Q) : V G M fr lo pc lv (.ref G.2.2.1 :: st) h mc ms Q := by
  intro p l e R s m args below meth c A H locs cells slots MC MS ls I
  exact va_tlen I.1.1 I.1.2.1 (venv I.1).2.2.2.1.2 I.2.2.2.2.1 (v := 0) rfl d (kk p l e R s m args below meth c A H locs cells slots MC MS ls I)
theorem v_gets {idx : Nat} (d : decode M.2.1 pc = .ok (.getstatic idx, 3)) (hw : Cond.fieldLink M.1.cls idx "java/util/ArrayList" "DEFAULTCAPACITY_EMPTY_ELEMENTDATA" "[Ljava/lang/Object;" ∈ vT) (kk : V G M fr lo (pc + 3) lv (.ref G.2.2.1 :: st) h mc ms Q) : V G M fr lo pc lv st h mc ms Q := by
  intro p l e R s m args below meth c A H locs cells slots MC MS ls I
  exact va_gets I.1.1 I.1.2.1 (venv I.1).2.2.2.1.1 I.2.2.2.2.1 (vown I.1) (vts I.1 args _ hw) (fun x hx => hx) d (kk p l e R s m args below meth c A H locs cells slots MC MS ls I)
/-- the empty array is none of the pool -/
theorem v_eo (k : (∀ a ∈ h.1, a ≠ G.2.2.1) → V G M fr lo pc lv st h mc ms Q) : V G M fr lo pc lv st h mc ms Q := by
  intro p l e R s m args below meth c A H locs cells slots MC MS ls I
  refine k (fun a ha he => ?_) p l e R s m args below meth c A H locs cells slots MC MS ls I
  obtain ⟨cell, -, -, -, -, -, -, hn⟩ := (venv I.1).2.2.2.1.2
  obtain ⟨j, hj⟩ := vplG (f := h.2) ha rfl
  exact hn (he ▸ I.2.2.2.1.2 j _ hj)
theorem v_slen (d : decode M.2.1 pc = .ok (.arraylength, 1)) (kk : V G M fr lo (pc + 1) lv (.int (Int32.ofNat G.2.2.2.2.2.1) :: st) h mc ms Q) : V G M fr lo pc lv (.ref G.2.2.2.2.1 :: st) h mc ms Q := by
  intro p l e R s m args below meth c A H locs cells slots MC MS ls I
  obtain ⟨hX, hb, hA⟩ := (venv I.1).2.2.2.2.2.2.2.2.2.2
  exact va_slen I.1.1 I.1.2.1 hX hb hA I.2.2.2.2.1 d (kk p l e R s m args below meth c A H locs cells slots MC MS ls I)
theorem v_sld {i : Int32} (d : decode M.2.1 pc = .ok (.iaload, 1)) (hi : vp_in i G.2.2.2.2.2.1) (kk : V G M fr lo (pc + 1) lv (.int (G.2.2.2.2.2.2 i.toNatClampNeg) :: st) h mc ms Q) : V G M fr lo pc lv (.int i :: .ref G.2.2.2.2.1 :: st) h mc ms Q := by
  intro p l e R s m args below meth c A H locs cells slots MC MS ls I
  obtain ⟨hX, hb, hA⟩ := (venv I.1).2.2.2.2.2.2.2.2.2.2
  exact va_sld I.1.1 I.1.2.1 hX hb hA I.2.2.2.2.1 hi d (kk p l e R s m args below meth c A H locs cells slots MC MS ls I)
theorem v_new {ci N idx : Nat} {fs : List Value} {C : String} {T : u_T} {ty : Nat → FieldType} (d : decode M.2.1 pc = .ok (.new idx, 3)) (hc : vCl[ci]? = some (C, T, N)) (hin : ∀ w ∈ u_ws C T N, w ∈ vT) (hty : ∀ k, k < N → parseFieldDescriptor (T k).2.2.1 = some (ty k)) (hw : Cond.classLink M.1.cls idx C ∈ vT) (hn : Cond.instantiable C N ∈ vT) (hi : Cond.initialized C ∈ vT) (hfs : ∀ j, j < N → defaultValue (ty j) = vp_V fs j)
    (kk : ∀ q : Nat, q ∉ h.1 → V G M fr lo (pc + 3) lv (.ref q :: st) (h.1 ++ [q], va_up h.2 q (.inr (ci, fs))) (mc - 1) (ms - N) Q) (b1 : 1 ≤ mc := by decide) (b2 : N ≤ ms := by decide) : V G M fr lo pc lv st h mc ms Q := by
  intro p l e R s m args below meth c A H locs cells slots MC MS ls I
  obtain ⟨I1, ⟨r1, r2, r3, r4, r5, r6⟩, I3, I4, I5, I6⟩ := I
  refine va_new I1.1 I1.2.1 (vts I1 args) hin ty hty (vown I1) (vts I1 args _ hw) (vts I1 args _ hn) (vts I1 args _ hi) (vK I1) I3 I4 I5 (vhA I1) hc hfs (by omega) (by omega) d (fun q H1 hP hD hS => ?_)
  obtain ⟨h1, h2⟩ := vplN hD
  rw [h2] at hP hD
  exact kk q h1 p l e R s m args below meth c A H1 locs (cells + 1) (slots + N) MC MS ls ⟨I1, ⟨r1, r2, by omega, by omega, r5, r6⟩, hP, hD, hS, I6⟩
theorem v_newi {n : Nat} {x : Int32} (d : decode M.2.1 pc = .ok (.newarray .int, 2)) (hx : x = nI n) (hn : n < 1000) (kk : ∀ q : Nat, q ∉ h.1 → V G M fr lo (pc + 2) lv (.ref q :: st) (h.1 ++ [q], va_up h.2 q (.inl (G.2.1 0, n, .inl (fun _ => 0)))) (mc - 1) (ms - n) Q) (b1 : 1 ≤ mc := by decide) (b2 : n ≤ ms := by decide) : V G M fr lo pc lv (.int x :: st) h mc ms Q := by
  subst hx
  intro p l e R s m args below meth c A H locs cells slots MC MS ls I
  obtain ⟨I1, ⟨r1, r2, r3, r4, r5, r6⟩, I3, I4, I5, I6⟩ := I
  refine va_newa (atype := .int) (ty := .int) (N' := n) (a0 := (n, .inl (fun _ => 0))) I1.1 I1.2.1 (vts I1 args _ kz_136) rfl (vK I1) I3 I4 I5 (vhA I1) (fun cA => rfl) (nI_pos (by omega)) (nI_clamp (by omega)) (by simp [componentBytes]; omega) (by omega) (by omega) d (fun q cA H1 hK hP hD hS => ?_)
  have e1 : cA = G.2.1 0 := Option.some.inj ((va_nm_int (hK.2 4 _ rfl).2).symm.trans (va_nm_int ((vK I1).2 0 _ rfl).2))
  rw [e1] at hP hD
  obtain ⟨h1, h2⟩ := vplN hD
  rw [h2] at hP hD
  exact kk q h1 p l e R s m args below meth c A H1 locs (cells + 1) (slots + n) MC MS ls ⟨I1, ⟨r1, r2, by omega, by omega, r5, r6⟩, hP, hD, hS, I6⟩
theorem v_newz {n : Nat} {x : Int32} (d : decode M.2.1 pc = .ok (.newarray .boolean, 2)) (hx : x = nI n) (hn : n < 1000) (kk : ∀ q : Nat, q ∉ h.1 → V G M fr lo (pc + 2) lv (.ref q :: st) (h.1 ++ [q], va_up h.2 q (.inl (G.2.1 1, n, .inl (fun _ => 0)))) (mc - 1) (ms - n) Q) (b1 : 1 ≤ mc := by decide) (b2 : n ≤ ms := by decide) : V G M fr lo pc lv (.int x :: st) h mc ms Q := by
  subst hx
  intro p l e R s m args below meth c A H locs cells slots MC MS ls I
  obtain ⟨I1, ⟨r1, r2, r3, r4, r5, r6⟩, I3, I4, I5, I6⟩ := I
  refine va_newa (atype := .boolean) (ty := .boolean) (N' := n) (a0 := (n, .inl (fun _ => 0))) I1.1 I1.2.1 (vts I1 args _ kz_137) rfl (vK I1) I3 I4 I5 (vhA I1) (fun cA => rfl) (nI_pos (by omega)) (nI_clamp (by omega)) (by simp [componentBytes]; omega) (by omega) (by omega) d (fun q cA H1 hK hP hD hS => ?_)
  have e1 : cA = G.2.1 1 := Option.some.inj ((va_nm_boolean (hK.2 4 _ rfl).2).symm.trans (va_nm_boolean ((vK I1).2 1 _ rfl).2))
  rw [e1] at hP hD
  obtain ⟨h1, h2⟩ := vplN hD
  rw [h2] at hP hD
  exact kk q h1 p l e R s m args below meth c A H1 locs (cells + 1) (slots + n) MC MS ls ⟨I1, ⟨r1, r2, by omega, by omega, r5, r6⟩, hP, hD, hS, I6⟩
theorem v_newl {n : Nat} {x : Int32} (d : decode M.2.1 pc = .ok (.newarray .long, 2)) (hx : x = nI n) (hn : n < 1000) (kk : ∀ q : Nat, q ∉ h.1 → V G M fr lo (pc + 2) lv (.ref q :: st) (h.1 ++ [q], va_up h.2 q (.inl (G.2.1 2, n, .inr (.inl (fun _ => 0))))) (mc - 1) (ms - n) Q) (b1 : 1 ≤ mc := by decide) (b2 : n ≤ ms := by decide) : V G M fr lo pc lv (.int x :: st) h mc ms Q := by
  subst hx
  intro p l e R s m args below meth c A H locs cells slots MC MS ls I
  obtain ⟨I1, ⟨r1, r2, r3, r4, r5, r6⟩, I3, I4, I5, I6⟩ := I
  refine va_newa (atype := .long) (ty := .long) (N' := n) (a0 := (n, .inr (.inl (fun _ => 0)))) I1.1 I1.2.1 (vts I1 args _ kz_959) rfl (vK I1) I3 I4 I5 (vhA I1) (fun cA => rfl) (nI_pos (by omega)) (nI_clamp (by omega)) (by simp [componentBytes]; omega) (by omega) (by omega) d (fun q cA H1 hK hP hD hS => ?_)
  have e1 : cA = G.2.1 2 := Option.some.inj ((va_nm_long (hK.2 4 _ rfl).2).symm.trans (va_nm_long ((vK I1).2 2 _ rfl).2))
  rw [e1] at hP hD
  obtain ⟨h1, h2⟩ := vplN hD
  rw [h2] at hP hD
  exact kk q h1 p l e R s m args below meth c A H1 locs (cells + 1) (slots + n) MC MS ls ⟨I1, ⟨r1, r2, by omega, by omega, r5, r6⟩, hP, hD, hS, I6⟩
theorem v_newq {n idx : Nat} {x : Int32} (d : decode M.2.1 pc = .ok (.anewarray idx, 3)) (hw : Cond.classLink M.1.cls idx "java/lang/Object" ∈ vT) (hx : x = nI n) (hn : n < 1000) (kk : ∀ q : Nat, q ∉ h.1 → V G M fr lo (pc + 3) lv (.ref q :: st) (h.1 ++ [q], va_up h.2 q (.inl (G.2.1 3, n, .inr (.inr (.inr (.inr (fun _ => none))))))) (mc - 1) (ms - n) Q) (b1 : 1 ≤ mc := by decide) (b2 : n ≤ ms := by decide) : V G M fr lo pc lv (.int x :: st) h mc ms Q := by
  subst hx
  intro p l e R s m args below meth c A H locs cells slots MC MS ls I
  obtain ⟨I1, ⟨r1, r2, r3, r4, r5, r6⟩, I3, I4, I5, I6⟩ := I
  refine va_newq (C := "java/lang/Object") (N' := n) I1.1 I1.2.1 (vown I1) (vts I1 args _ hw) (venv I1).2.2.2.2.2.2.2.2.1 (vK I1) I3 I4 I5 (vhA I1) (nI_pos (by omega)) (nI_clamp (by omega)) (by omega) (by omega) (by omega) d (fun q cA H1 hK hP hD hS => ?_)
  have e1 : cA = G.2.1 3 := Option.some.inj ((va_nmO (hK.2 4 _ rfl).2 rfl).symm.trans (va_nmO ((vK I1).2 3 _ rfl).2 rfl))
  rw [e1] at hP hD
  obtain ⟨h1, h2⟩ := vplN hD
  rw [h2] at hP hD
  exact kk q h1 p l e R s m args below meth c A H1 locs (cells + 1) (slots + n) MC MS ls ⟨I1, ⟨r1, r2, by omega, by omega, r5, r6⟩, hP, hD, hS, I6⟩
theorem v_cast {a ci idx : Nat} {fs : List Value} {q : vw_C} {nm : String} (d : decode M.2.1 pc = .ok (.checkcast idx, 3)) (hf : h.2 a = .inr (ci, fs)) (ha : a ∈ h.1) (hc : vCl[ci]? = some q) (hw : Cond.classLink M.1.cls idx nm ∈ vT) (hx : Cond.castable q.1 nm ∈ vT) (kk : V G M fr lo (pc + 3) lv (.ref a :: st) h mc ms Q) : V G M fr lo pc lv (.ref a :: st) h mc ms Q := by
  intro p l e R s m args below meth c A H locs cells slots MC MS ls I
  obtain ⟨j, hj⟩ := vplG ha hf
  exact va_castY I.1.1 I.1.2.1 (vown I.1) (vts I.1 args _ hw) (va_Nw.of rfl (vts I.1 args _ hx)) (va_recv (vK I.1) I.2.2.1 hc hj) d (kk p l e R s m args below meth c A H locs cells slots MC MS ls I)
theorem v_castN {idx : Nat} (d : decode M.2.1 pc = .ok (.checkcast idx, 3)) (kk : V G M fr lo (pc + 3) lv (.null :: st) h mc ms Q) : V G M fr lo pc lv (.null :: st) h mc ms Q := fun p l e R s m args below meth c A H locs cells slots MC MS ls I => lv_castN I.1.1 I.1.2.1 d (kk p l e R s m args below meth c A H locs cells slots MC MS ls I)
theorem v_ldcI {idx : Nat} {v : Int32} (d : decode M.2.1 pc = .ok (.ldc idx, 2)) (hw : Cond.constant M.1.cls idx v ∈ vT) (kk : V G M fr lo (pc + 2) lv (.int v :: st) h mc ms Q) : V G M fr lo pc lv st h mc ms Q := fun p l e R s m args below meth c A H locs cells slots MC MS ls I => lv_ldc I.1.1 I.1.2.1 (vown I.1) (vts I.1 args _ hw) d (kk p l e R s m args below meth c A H locs cells slots MC MS ls I)
theorem v_ldcM {idx : Nat} (d : decode M.2.1 pc = .ok (.ldc idx, 2)) (hw : Cond.classLink M.1.cls idx "[Ljava/lang/Object;" ∈ vT) (kk : V G M fr lo (pc + 2) lv (.ref G.2.2.2.1 :: st) h mc ms Q) : V G M fr lo pc lv st h mc ms Q := fun p l e R s m args below meth c A H locs cells slots MC MS ls I => va_ldcM I.1.1 I.1.2.1 (vown I.1) (vts I.1 args _ hw) (venv I.1).2.2.2.2.2.2.2.1 d (kk p l e R s m args below meth c A H locs cells slots MC MS ls I)
theorem v_tableIn {x : Int32} {dflt lo0 hi off : Int} {offs : Array Int} {len tgt : Nat} (d : decode M.2.1 pc = .ok (.tableswitch dflt lo0 hi offs, len)) (h1 : ¬ x.toInt < lo0) (h2 : ¬ hi < x.toInt) (ho : offs[(x.toInt - lo0).toNat]? = some off) (ht : (pc : Int) + off = (tgt : Int)) (kk : V G M fr lo tgt lv st h mc ms Q) : V G M fr lo pc lv (.int x :: st) h mc ms Q := fun p l e R s m args below meth c A H locs cells slots MC MS ls I => lv_tableIn I.1.1 I.1.2.1 d h1 h2 ho ht (kk p l e R s m args below meth c A H locs cells slots MC MS ls I)
theorem v_tableOut {x : Int32} {dflt lo0 hi : Int} {offs : Array Int} {len tgt : Nat} (d : decode M.2.1 pc = .ok (.tableswitch dflt lo0 hi offs, len)) (h1 : x.toInt < lo0 ∨ hi < x.toInt) (ht : (pc : Int) + dflt = (tgt : Int)) (kk : V G M fr lo tgt lv st h mc ms Q) : V G M fr lo pc lv (.int x :: st) h mc ms Q := fun p l e R s m args below meth c A H locs cells slots MC MS ls I => lv_tableOut I.1.1 I.1.2.1 d h1 ht (kk p l e R s m args below meth c A H locs cells slots MC MS ls I)
end VHp
end
section
/-! The rows of V that end a method and that call one. -/
section VCl0
variable {G : vG} {M M1 : vM} {fr lo pc : Nat} {lv lv' : List (Nat × Value)} {st : List Value} {h : vH} {mc ms : Nat} {Q Q' : vQ}
theorem vW_mono {p : Program} {l : Launch} {e : Env} {R : Room} {s : State} {m : MethodId} {args : Array Value} {below : List Frame} {meth : Method} {c : Code} {H : Heap} {locs : List Loc} {cells slots : Nat} {Q1 Q2 : State → Prop} {g : JFrame} (hq : ∀ t, Q1 t → Q2 t) (k : W p l e R s m args below meth c H locs cells slots Q1 g) : W p l e R s m args below meth c H locs cells slots Q2 g := by
  intro T hT X
  obtain ⟨t, a, b⟩ := k T hT X
  exact ⟨t, a, hq t b⟩
theorem vFin_of {s : State} {below : List Frame} {args : Array Value} {A : Nat → Prop} {H : Heap} {locs : List Loc} {cells slots MC MS : Nat} {v : Option Value} (hS : va_S A s.heap H locs) (h1 : cells ≤ MC) (h2 : slots ≤ MS) (hP : va_P G.1 vCl (va_pl h.1 h.2) H) (hD : va_D A (va_pl h.1 h.2)) (hq : Q (.inl v) h) (t : State) (b : MQ below (fun _ _ o t => o = .returned v ∧ t.heap = H) args s cells slots A t) : vFin G below s A MC MS Q t := by
  obtain ⟨o, b1, b2, ⟨rfl, b4⟩, Lc, ⟨-, b6, b7⟩, b8⟩ := b
  refine ⟨_, b1, b2, b6, ⟨Lc, b7.mono h1 h2, b8⟩, hS.F b4, Or.inl ⟨v, h, rfl, hq, ?_, hD⟩⟩
  rw [b4]
  exact hP
theorem v_iret {v : Int32} {ty : FieldType} (d : decode M.2.1 pc = .ok (.ireturn, 1)) (hr : M.2.2.2.1 = some ty) (hn : narrow ty (.int v) = .int v) (hq : Q (.inl (some (.int v))) h) : V G M fr lo pc lv [.int v] h mc ms Q := by
  intro p l e R s m args below meth c A H locs cells slots MC MS ls I
  obtain ⟨I1, ⟨r1, r2, r3, r4, r5, r6⟩, I3, I4, I5, I6⟩ := I
  exact vW_mono (vFin_of I5 (by omega) (by omega) I3 I4 hq) (W.zret (Qc := fun _ _ o t => o = .returned (some (.int v)) ∧ t.heap = H) (free := A) I1.1 I1.2.1 (I1.2.2.2.1.trans hr) hn (fun t ht _ => ⟨rfl, ht⟩) I5.2.2 d (hlocks := I1.2.2.2.2.2.1))
theorem v_vret (d : decode M.2.1 pc = .ok (.return_, 1)) (hr : M.2.2.2.1 = none) (hq : Q (.inl none) h) : V G M fr lo pc lv [] h mc ms Q := by
  intro p l e R s m args below meth c A H locs cells slots MC MS ls I
  obtain ⟨I1, ⟨r1, r2, r3, r4, r5, r6⟩, I3, I4, I5, I6⟩ := I
  exact vW_mono (vFin_of I5 (by omega) (by omega) I3 I4 hq) (W.vret (Qc := fun _ _ o t => o = .returned none ∧ t.heap = H) (free := A) I1.1 I1.2.1 (I1.2.2.2.1.trans hr) (fun t ht _ => ⟨rfl, ht⟩) I5.2.2 d (hlocks := I1.2.2.2.2.2.1))
theorem v_aret {v : Value} {rt : FieldType} (d : decode M.2.1 pc = .ok (.areturn, 1)) (hr : M.2.2.2.1 = some rt) (hrt : (∃ n, rt = .object n) ∨ ∃ t, rt = .array t) (hv : vIsR v = true) (hq : Q (.inl (some v)) h) : V G M fr lo pc lv [v] h mc ms Q := by
  intro p l e R s m args below meth c A H locs cells slots MC MS ls I
  obtain ⟨I1, ⟨r1, r2, r3, r4, r5, r6⟩, I3, I4, I5, I6⟩ := I
  exact vW_mono (vFin_of I5 (by omega) (by omega) I3 I4 hq) (W.aret (Qc := fun _ _ o t => o = .returned (some v) ∧ t.heap = H) (free := A) I1.1 I1.2.1 (I1.2.2.2.1.trans hr) hrt (vIsR_or hv) (fun t ht _ => ⟨rfl, ht⟩) I5.2.2 d (hlocks := I1.2.2.2.2.2.1))
theorem v_objInit {a idx : Nat} (d : decode M.2.1 pc = .ok (.invokespecial idx, 3)) (hw : Cond.methodLink M.1.cls idx objectInit ∈ vT) (hfr : 1 ≤ fr) (hlo : (st.map fun v => v.category).sum + 12 ≤ lo) (k : V G M fr lo (pc + 3) lv st h mc ms Q) : V G M fr lo pc lv (.ref a :: st) h mc ms Q := by
  intro p l e R s m args below meth c A H locs cells slots MC MS ls I
  have I6 := I.2.2.2.2.2.1
  obtain ⟨r1, r2, r3, r4, r5, r6⟩ := I.2.1
  exact W.objInit I.1.1 I.1.2.1 (vown I.1) (vts I.1 args _ hw) (vts I.1 args _ kI_Ob_init) (vts I.1 args _ kM_Ob_init) rfl (I6.1.trans I.1.2.2.1.symm) rfl d (by omega) (by show 2 * 0 + _ + 12 ≤ R.locals; omega) (k p l e R s m args below meth c A H locs cells slots MC MS ls I)
/-- the word that says what a method's code is -/
def vCw (M : vM) : Cond := match M.2.2.2.2 with
  | [] => .code M.1 M.2.1 M.2.2.1 M.2.2.2.1
  | x :: r => .codeWith M.1 M.2.1 M.2.2.1 M.2.2.2.1 (x :: r)
theorem vCw_spec {M : vM} {s : State} {args : Array Value} {m : MethodId} (hn : s.methodNamed? M.1 = some m) (hh : (vCw M).before args s = true) : ∃ (meth : Method) (c : Code), s.vm.method? m = some meth ∧ meth.code = some c ∧ c.code = M.2.1 ∧ c.maxLocals = M.2.2.1 ∧ meth.sig.returnType = M.2.2.2.1 ∧ meth.locks = false ∧ c.exceptionTable.toList.map (fun h => (h.startPc, h.endPc, h.handlerPc, h.catchType)) = M.2.2.2.2 ∧ parseMethodDescriptor M.1.desc = some meth.sig := by
  obtain ⟨y, cc, nl, rt, hd⟩ := M
  cases hd with
  | nil =>
    obtain ⟨meth, c, h1, h2, h3, h4, h5, h6, h7, h8⟩ := Cond.code_spec hn (show (Cond.code y cc nl rt).before args s = true from hh)
    refine ⟨meth, c, h1, h2, h3, h4, h5, h6, ?_, h8⟩
    have : c.exceptionTable = #[] := by simpa using h7
    rw [this]
    rfl
  | cons x r =>
    obtain ⟨m', meth, c, h0, h1, h2, h3, h4, h5, h6, h7, h8⟩ := Cond.codeWith_spec (show (Cond.codeWith y cc nl rt (x :: r)).before args s = true from hh)
    cases hn.symm.trans h0
    exact ⟨meth, c, h1, h2, h3, h4, h6, h7, h5, h8⟩
def vRm (fr lo mc ms : Nat) : Room := { frames := fr, cells := mc, slots := ms, locals := lo }
def vArgs : Nat → List Value → List (Nat × Value)
  | _, [] => []
  | k, v :: r => (k, v) :: vArgs (k + 1) r
theorem vArgs_eq : ∀ (As : List Value) (k : Nat), (∀ v ∈ As, v.category = 1) → lv_args k As = vArgs k As
  | [], _, _ => rfl
  | v :: r, k, hc => by
    have h1 := hc v List.mem_cons_self
    unfold lv_args vArgs
    rw [if_neg (by omega), vArgs_eq r (k + 1) (fun w hw => hc w (List.mem_cons_of_mem _ hw))]
theorem vArgs_cat : ∀ (As : List Value) (k : Nat), (∀ v ∈ As, v.category = 1) → ∀ q ∈ vArgs k As, q.2.category = 1
  | [], _, _, q, hq => by cases hq
  | v :: r, k, hc, q, hq => by
    rcases List.mem_cons.mp hq with h1 | h1
    · rw [h1]; exact hc v List.mem_cons_self
    · exact vArgs_cat r (k + 1) (fun w hw => hc w (List.mem_cons_of_mem _ hw)) q h1
theorem vSl_len : ∀ (As : List Value), (∀ v ∈ As, v.category = 1) → (lg_sl As).length = As.length
  | [], _ => rfl
  | v :: r, hc => by
    have h1 := hc v List.mem_cons_self
    have h2 := vSl_len r (fun w hw => hc w (List.mem_cons_of_mem _ hw))
    simp only [lg_sl, List.flatMap_cons] at h2 ⊢
    rw [if_neg (by omega)]
    simp [h2]
/-- a method's V at its entry is a contract -/
theorem vMet {l : Launch} (hl0 : l.stackTraces = false) (hy : plainName M.1.cls = true) {As : List Value} (hcat : ∀ v ∈ As, v.category = 1) (hlen : As.length ≤ M.2.2.1) {A : Nat → Prop} {H : Heap} (hA : ∀ q, H.size ≤ q → A q) (hP : va_P G.1 vCl (va_pl h.1 h.2) H) (hD : va_D A (va_pl h.1 h.2)) (hV : V G M fr lo 0 (vArgs 0 As) [] h mc ms Q) :
    MetFree l M.1 (headSpec [vCw M] (vRm fr lo mc ms)) (fun a U => a = As.toArray ∧ U.heap = H ∧ vEnv G A U H) (fun _ _ _ _ _ => True) (fun _ st o t => vOut G st A mc ms Q o t) := by
  refine MetFree.of_bodyS (code := M.2.1) (maxLocals := M.2.2.1) (ret := M.2.2.2.1) hy ?_ ?_
  · intro args s m h1 hn
    obtain ⟨meth, c, q1, q2, q3, q4, q5, q6, -, -⟩ := vCw_spec hn (atoms_spec (ws := [vCw M]) h1 _ List.mem_cons_self)
    exact ⟨meth, c, q1, q2, q3, q4, q5, q6⟩
  · intro p e s m args below meth c s₁ B hml hp _
    obtain ⟨rfl, hH, hE⟩ := hp
    have X₀ := Stand.of_body B
    obtain ⟨meth', c', q1, q2, q3, q4, q5, q6, q7, -⟩ := vCw_spec B.named (atoms_spec (ws := [vCw M]) B.pre _ List.mem_cons_self)
    cases B.method.symm.trans q1
    cases X₀.code.symm.trans q2
    have hh0 : s₁.heap = s.heap := by rw [B.state]; rfl
    have hl := lv_entry As (n := M.2.2.1) (by rw [vSl_len As hcat]; exact hlen)
    rw [vArgs_eq As 0 hcat] at hl
    subst hH
    have K := hV p l e (headSpec [vCw M] (vRm fr lo mc ms)).room s m As.toArray below meth c A s.heap [] 0 0 mc ms _ ⟨⟨B.exec, B.bytes, hml, B.returns, q7, B.notSynchronized, (name_of_methodNamed B.named B.method).1, findClass_of_methodNamed B.named, hl0, hA, hE⟩, ⟨Nat.le_refl _, Nat.le_refl _, Nat.le_of_eq (Nat.zero_add _), Nat.le_of_eq (Nat.zero_add _), Nat.le_refl _, Nat.le_refl _⟩, hP, hD, va_S.rf, hl, vArgs_cat As 0 hcat⟩
    rw [← lg_entry_eq] at K
    obtain ⟨t, a1, o, b1, b2, b3⟩ := K s₁ hh0 X₀
    exact ⟨t, o, a1, b1, b2, b3⟩
/-- what a call comes back with, seen by its caller -/
theorem vBack {p : Program} {l : Launch} {e : Env} {R : Room} {s : State} {m : MethodId} {sargs : Array Value} {below : List Frame} {meth : Method} {c : Code} {U : State} {locs : List Loc} {cells slots : Nat} (X : Stand p l e R s m sargs below meth c U locs cells slots)
    {g : JFrame} {ig : Instr} {mk : MethodId} (hg : g.method = m) (hsize : g.locals.size = c.maxLocals) (hdg : decode c.code g.pc = .ok (ig, 3)) (hW : 2 * g.monitorRoom + (g.stack.map fun v => v.category).sum ≤ 8) (hn : U.methodNamed? M.1 = some mk)
    (hl0 : l.stackTraces = false) (hy : plainName M.1.cls = true) {As : List Value} (hcat : ∀ v ∈ As, v.category = 1) (hlen : As.length ≤ M.2.2.1) {A : Nat → Prop} {H : Heap} (hA : ∀ q, H.size ≤ q → A q) (hP : va_P G.1 vCl (va_pl h.1 h.2) H) (hD : va_D A (va_pl h.1 h.2)) (hV : V G M fr lo 0 (vArgs 0 As) [] h mc ms Q)
    (hH : U.heap = H) (hE : vEnv G A U H) (hcw : vCw M ∈ vT) (hini : Cond.initialized M.1.cls ∈ vT) (hfr : fr + 1 ≤ R.frames) (hlo : 8 + (M.2.2.1 + 11) + lo ≤ R.locals) (hc : cells + mc ≤ R.cells) (hs : slots + ms ≤ R.slots) :
    ∃ (T' : State) (L : List Loc) (h' : vH), Stand p l e R s m sargs below meth c T' (locs ++ L) (cells + mc) (slots + ms) ∧ (∀ q ∈ L, A q.base) ∧ H.size ≤ T'.heap.size ∧ (∀ q : Nat, q < H.size → ¬ A q → T'.heap[q]? = H[q]?) ∧ va_P G.1 vCl (va_pl h'.1 h'.2) T'.heap ∧ va_D A (va_pl h'.1 h'.2) ∧
      ((∃ v, Q (.inl v) h' ∧ Steps p.tables e below (doInvoke e (U.setTop g) [] mk As.toArray).1 (T'.setTop { g with pc := g.pc + 3, stack := v.toList ++ g.stack })) ∨
       (∃ (q : Addr) (E : String) (ce : Cell), Q (.inr E) h' ∧ T'.heap[q]? = some ce ∧ ce.vm = .none ∧ U.vm.findClass E = some ce.cls ∧ Steps p.tables e below (doInvoke e (U.setTop g) [] mk As.toArray).1 ((T'.setTop g).pushFrame (.throwing q)))) := by
  have hM := vMet (l := l) hl0 hy hcat hlen hA hP hD hV
  obtain ⟨methY, cY, hmY, hcY, -, hlY, -, -, -, -⟩ := vCw_spec hn (hE.1 _ hcw #[])
  obtain ⟨kY, hkY, -⟩ := className_of_methodNamed hn
  have hinitY : kY.init = .initialized := Cond.initialized_spec (findClass_of_methodNamed hn) hkY (hE.1 _ hini #[])
  have hAt : At U g.method c below := by rw [hg]; exact X.here
  have hpre : (headSpec [vCw M] (vRm fr lo mc ms)).pre.before As.toArray U = true := atoms_intro (fun w hw => by
    rw [List.mem_singleton.mp hw]
    exact hE.1 _ hcw _)
  have happ : (headSpec [vCw M] (vRm fr lo mc ms)).appliesLoose M.1 e.platform (U.calling g mk As.toArray) = true :=
    Spec.appliesLoose_calling (g := g) hAt hdg hn hkY hinitY
      (X.room_calling (g := g) (R' := (headSpec [vCw M] (vRm fr lo mc ms)).room) hsize hmY hcY hfr (by rw [hlY]; show 2 * g.monitorRoom + (g.stack.map fun v => v.category).sum + (M.2.2.1 + 11) + lo ≤ R.locals; omega) hc hs) hpre
  obtain ⟨mid, hmid⟩ := hAt.above
  have hfr0 : (U.setTop g).frames = (.java g :: mid) ++ below := by rw [State.frames_setTop' g hAt.top, hmid]; rfl
  obtain ⟨o, s₂, hsteps, -, hend, hq⟩ := Steps.callFree hM p X.admits X.cas X.clock (acts := []) hfr0 happ ⟨rfl, hH, vEnv.moved (s := U) (State.WarmedH.refl U) hE⟩ trivial
  have hq' : vOut G (U.calling g mk As.toArray) A mc ms Q o s₂ := hq
  rw [State.frames_setTop' g hAt.top] at hend
  obtain ⟨hW₂, ⟨L, ⟨e2, q2, q3, q4, q5, q6⟩, hL⟩, ⟨f1, f2⟩, hres⟩ := hq'
  have e3 : s₂ = ({ (U.calling g mk As.toArray).setFrames s₂.frames with heap := s₂.heap, slotsUsed := s₂.slotsUsed } : State).setVm s₂.vm := by
    have : s₂ = ({ s₂ with vm := (U.calling g mk As.toArray).vm } : State).setVm s₂.vm := rfl
    rw [e2] at this
    exact this
  have hW' : U.WarmedH s₂.vm := hW₂
  obtain ⟨g₀, hg0⟩ := Option.isSome_iff_exists.mp hAt.top
  obtain ⟨r, hr⟩ := State.topJava?_eq_some.mp hg0
  have hr' : (({ U with heap := s₂.heap, slotsUsed := s₂.slotsUsed } : State).setVm s₂.vm).frames = .java g₀ :: r := hr
  have hsame : U.sameButNew ({ U with heap := s₂.heap, slotsUsed := s₂.slotsUsed } : State) L mc ms := by
    refine ⟨?_, q2, q3, q4, q5, q6⟩
    obtain ⟨t, ht, -⟩ := State.frames_cons hr
    show ({ U with heap := s₂.heap, slotsUsed := s₂.slotsUsed } : State) = { U.setFrames U.frames with heap := s₂.heap, slotsUsed := s₂.slotsUsed }
    rw [State.setFrames_self ht]
  have hX' : Stand p l e R s m sargs below meth c (({ U with heap := s₂.heap, slotsUsed := s₂.slotsUsed } : State).setVm s₂.vm) (locs ++ L) (cells + mc) (slots + ms) :=
    ⟨X.admits, X.cas, X.clock, X.frames, X.room, X.hears, X.method, X.code, (X.here.setHeapUsed s₂.heap s₂.slotsUsed).setVm hW'.alike, X.tail, State.WarmedH.trans X.warmed hW', X.limits, X.bytes, X.same.trans (hsame.setVm s.vm)⟩
  have f1' : H.size ≤ s₂.heap.size := by rw [← hH]; exact f1
  have f2' : ∀ q : Nat, q < H.size → ¬ A q → s₂.heap[q]? = H[q]? := fun q z1 z2 => by rw [← hH] at z1 ⊢; exact f2 q z1 z2
  rcases hres with ⟨v, h', rfl, hqv, hP', hD'⟩ | ⟨q, E, ce, h', rfl, hqv, hP', hD', hce, hcv, hcl⟩
  · refine ⟨_, L, h', hX', hL, f1', f2', hP', hD', Or.inl ⟨v, hqv, ?_⟩⟩
    obtain ⟨c₂, i₂, len₂, hc₂, hd₂, hf₂⟩ := hend
    have hcc : c₂ = c := by
      have h1 : s₂.code? g.method = U.code? g.method := by
        rw [State.code?_eq, State.code?_eq, hW'.alike.method?]
      exact Option.some.inj (hc₂.symm.trans (h1.trans hAt.code))
    subst hcc
    have hlen3 : len₂ = 3 := by rw [hdg] at hd₂; cases hd₂; rfl
    subst hlen3
    have hs₂ : s₂ = (({ U with heap := s₂.heap, slotsUsed := s₂.slotsUsed } : State).setVm s₂.vm).setTop { g with pc := g.pc + 3, stack := v.toList ++ g.stack } := by
      refine e3.trans ?_
      rw [hf₂, State.calling_eq hAt.top, State.setFrames_setFrames, State.setTop_of_frames _ hr', hr]
      rfl
    rw [← hs₂]
    exact hsteps
  · refine ⟨_, L, h', hX', hL, f1', f2', hP', hD', Or.inr ⟨q, E, ce, hqv, hce, hcv, hcl, ?_⟩⟩
    have hf₂ : s₂.frames = .throwing q :: .java g :: U.frames.tail := hend
    have hs₂ : s₂ = ((({ U with heap := s₂.heap, slotsUsed := s₂.slotsUsed } : State).setVm s₂.vm).setTop g).pushFrame (.throwing q) := by
      refine e3.trans ?_
      rw [hf₂, State.calling_eq hAt.top, State.setFrames_setFrames, State.pushFrame, State.frames_setTop _ hr', State.setTop_of_frames _ hr', State.setFrames_setFrames, hr]
      rfl
    rw [← hs₂]
    exact hsteps
end VCl0
end
section
/-! Calls: what comes back goes on, what is thrown is caught or goes out. -/
section VInv
variable {G : vG} {M M1 : vM} {fr lo pc fr1 lo1 mc1 ms1 : Nat} {lv lv' : List (Nat × Value)} {st : List Value} {h : vH} {mc ms : Nat} {Q Q1 : vQ}
def vCov (x : Nat × Nat × Nat × Nat) (pc : Nat) : Bool := decide (x.1 ≤ pc) && decide (pc < x.2.1)
/-- E is thrown at pc: it leaves the method, or a row of its table takes it -/
def vXh (G : vG) (M : vM) (fr lo pc : Nat) (lv : List (Nat × Value)) (h : vH) (mc ms : Nat) (Q : vQ) (E : String) : Prop :=
  ((∀ x ∈ M.2.2.2.2, vCov x pc = false) ∧ Q (.inr E) h) ∨
  ∃ (pre : List (Nat × Nat × Nat × Nat)) (x : Nat × Nat × Nat × Nat) (suf : List (Nat × Nat × Nat × Nat)), M.2.2.2.2 = pre ++ x :: suf ∧ (∀ z ∈ pre, vCov z pc = false ∨ (z.2.2.2 ≠ 0 ∧ ∃ nm : String, Cond.classLink M.1.cls z.2.2.2 nm ∈ vT ∧ (E, nm) ∈ vNo)) ∧ vCov x pc = true ∧ x.2.2.2 ≠ 0 ∧ (∃ nm : String, Cond.classLink M.1.cls x.2.2.2 nm ∈ vT ∧ Cond.castable E nm ∈ vT) ∧ ∀ q : Nat, V G M fr lo x.2.2.1 lv [.ref q] h mc ms Q
theorem vX_run {p : Program} {l : Launch} {e : Env} {R : Room} {s : State} {m : MethodId} {args : Array Value} {below : List Frame} {meth : Method} {c : Code} {A : Nat → Prop} {T : State} {locs : List Loc} {cells slots MC MS : Nat} {ls : Array Slot} (X : Stand p l e R s m args below meth c T locs cells slots) (I : vIn G M fr lo lv h mc ms p l R s m meth c A T.heap locs cells slots MC MS ls) {q : Addr} {E : String} {ce : Cell} {rest : List Value} (hce : T.heap[q]? = some ce) (hcv : ce.vm = .none) (hcl : s.vm.findClass E = some ce.cls) (hx : vXh G M fr lo pc lv h mc ms Q E) :
    ∃ t, Steps p.tables e below ((T.setTop (F0 m pc ls rest)).pushFrame (.throwing q)) t ∧ vFin G below s A MC MS Q t := by
  obtain ⟨I1, ⟨r1, r2, r3, r4, r5, r6⟩, I3, I4, I5, I6⟩ := id I
  rcases hx with ⟨hout, hq⟩ | ⟨pre, x, suf, hsp, hpass, hcov, hx0, ⟨nm, hnm, hca⟩, hv⟩
  · have hout' : ∀ y ∈ c.exceptionTable.toList, covers y pc = false := by
      intro y hy
      have h1 : (y.startPc, y.endPc, y.handlerPc, y.catchType) ∈ M.2.2.2.2 := by
        rw [← I1.2.2.2.2.1]
        exact List.mem_map.mpr ⟨y, hy, rfl⟩
      exact hout _ h1
    obtain ⟨st1, hrun, hend, hW, hsm⟩ := X.leaveThrown q (g := F0 m pc ls rest) rfl rfl rfl hout' I1.2.2.2.2.2.1
    exact ⟨_, st1, .threw q, hrun, hend, hW, ⟨locs, hsm.mono (by omega) (by omega), I5.2.2⟩, I5.F rfl, Or.inr ⟨q, E, ce, h, rfl, hq, I3, I4, hce, hcv, hcl⟩⟩
  · have hpl : e.platform.magicAccessors = ({} : Platform).magicAccessors := by rw [X.admits.platform]
    have hmap := I1.2.2.2.2.1
    rw [hsp] at hmap
    obtain ⟨l1, l2, hl12, hl1, hl2⟩ := List.map_eq_append_iff.mp hmap
    obtain ⟨x', suf', hx', hxx, -⟩ := List.map_eq_cons_iff.mp hl2
    rw [hx'] at hl12
    obtain ⟨c3, c4, hc3, hc4, hasg⟩ := Cond.castable_spec (vts I1 args _ hca)
    cases Option.some.inj (hc3.symm.trans hcl)
    subst hxx
    obtain ⟨c5, hc5, hcl5⟩ := Cond.classLink_spec (vown I1) (vts I1 args _ hnm) e.platform hpl
    cases Option.some.inj (hc4.symm.trans hc5)
    obtain ⟨vm', X', st1⟩ := X.thenCaughtThrough q (g := F0 m pc ls rest) rfl (Steps.refl _) hce (by rw [hcv]; rfl) (by obtain ⟨k9, h9, -⟩ := Vm.findClass_spec hcl; exact ⟨k9, h9⟩) l1 x' suf' hl12
      (fun z hz => by
        have hz1 : (z.startPc, z.endPc, z.handlerPc, z.catchType) ∈ pre := by
          rw [← hl1]
          exact List.mem_map.mpr ⟨z, hz, rfl⟩
        rcases hpass _ hz1 with h1 | ⟨hz0, nm2, hn2, hno⟩
        · exact Or.inl h1
        · obtain ⟨c6, hc6, hcl6⟩ := Cond.classLink_spec (vown I1) (vts I1 args _ hn2) e.platform hpl
          obtain ⟨a8, b8, k1, k2, k3⟩ := (venv I1).2.2.2.2.2.2.2.2.2.1 _ hno
          cases Option.some.inj (k1.symm.trans hcl)
          cases Option.some.inj (k2.symm.trans hc6)
          exact Or.inr ⟨hz0, _, hcl6, k3⟩) hcov (Or.inr ⟨hx0, c4, hcl5, hasg⟩)
    obtain ⟨t, a1, b1⟩ := hv q p l e R s m args below meth c A T.heap locs cells slots MC MS ls I (T.setVm vm') rfl X'
    exact ⟨t, st1.trans a1, b1⟩
/-- a callee's contract with all that a call of it needs -/
abbrev vOk (M M1 : vM) (fr lo fr1 lo1 : Nat) (As st : List Value) : Prop := plainName M1.1.cls = true ∧ (∀ v ∈ As, v.category = 1) ∧ As.length ≤ M1.2.2.1 ∧ vCw M1 ∈ vT ∧ Cond.initialized M1.1.cls ∈ vT ∧ fr1 + 1 ≤ fr ∧ 8 + (M1.2.2.1 + 11) + lo1 ≤ lo ∧ (st.map fun v => v.category).sum ≤ 8 ∧ M1.1.cls ≠ "java/lang/invoke/MethodHandle" ∧ M1.1.cls ≠ "java/lang/invoke/VarHandle"
theorem vGo {p : Program} {l : Launch} {e : Env} {R : Room} {s : State} {m : MethodId} {args : Array Value} {below : List Frame} {meth : Method} {c : Code} {A : Nat → Prop} {H : Heap} {locs : List Loc} {cells slots MC MS : Nat} {ls : Array Slot} {T : State} {As : List Value} {ig : Instr} {mk : MethodId} {vm₁ : Vm} {st0 : List Value} (b1 : mc1 ≤ mc) (b2 : ms1 ≤ ms) (I : vIn G M fr lo lv h mc ms p l R s m meth c A H locs cells slots MC MS ls) (hT : T.heap = H) (X₁ : Stand p l e R s m args below meth c (T.setVm vm₁) locs cells slots) (hd : decode M.2.1 pc = .ok (ig, 3)) (hn : s.methodNamed? M1.1 = some mk)
    (hok : vOk M M1 fr lo fr1 lo1 As st) (hV : V G M1 fr1 lo1 0 (vArgs 0 As) [] h mc1 ms1 Q1)
    (kk : ∀ v h', Q1 (.inl v) h' → V G M fr lo (pc + 3) lv (v.toList ++ st) h' (mc - mc1) (ms - ms1) Q) (kx : ∀ E h', Q1 (.inr E) h' → vXh G M fr lo pc lv h' (mc - mc1) (ms - ms1) Q E)
    (hstep : ∀ target, (∀ acts, Steps p.tables e below (doInvoke e ((T.setVm vm₁).setTop (F0 m pc ls st)) acts mk As.toArray).1 target) → Steps p.tables e below (T.setTop (F0 m pc ls st0)) target) :
    ∃ t, Steps p.tables e below (T.setTop (F0 m pc ls st0)) t ∧ vFin G below s A MC MS Q t := by
  obtain ⟨I1, ⟨r1, r2, r3, r4, r5, r6⟩, I3, I4, I5, I6, I7⟩ := I
  obtain ⟨o1, o2, o3, o4, o5, o6, o7, o8, -, -⟩ := hok
  have hsub : ∀ q, va_A (va_pl h.1 h.2) H.size q → A q := by
    intro q hq
    rcases hq with ⟨k, e0, hk⟩ | hq
    · exact I4.2 k _ hk
    · exact vhA I1 q (Nat.le_trans I5.1 hq)
  have hE : vEnv G (va_A (va_pl h.1 h.2) H.size) (T.setVm vm₁) H := vEnv.moved X₁.warmed (((venv I1).kept I5.1 I5.2.1).narrow hsub)
  obtain ⟨T', L, h', X', hL, f1, f2, hP', hD', hres⟩ := vBack (M := M1) X₁ (g := F0 m pc ls st) (ig := ig) rfl (I6.1.trans I1.2.2.1.symm) (by rw [I1.2.1]; exact hd) (lv_room o8) (X₁.named hn) I1.2.2.2.2.2.2.2.2.1 o1 o2 o3 (A := va_A (va_pl h.1 h.2) H.size) (H := H) (fun q hq => Or.inr hq) I3 I4.self hV hT hE o4 o5 (by omega) (by omega) (by omega) (by omega)
  have hS' : va_S A s.heap T'.heap (locs ++ L) := ⟨Nat.le_trans I5.1 f1, fun q h1 h2 => (f2 q (Nat.lt_of_lt_of_le h1 I5.1) (fun z => h2 (hsub q z))).trans (I5.2.1 q h1 h2), fun q hq => by
    rcases List.mem_append.mp hq with h1 | h1
    · exact I5.2.2 q h1
    · exact hsub _ (hL q h1)⟩
  have I' : vIn G M fr lo lv h' (mc - mc1) (ms - ms1) p l R s m meth c A T'.heap (locs ++ L) (cells + mc1) (slots + ms1) MC MS ls := ⟨I1, ⟨r1, r2, by omega, by omega, r5, r6⟩, hP', hD'.weaken (fun _ q _ z => hsub q.1 z), hS', I6, I7⟩
  rcases hres with ⟨v, hqv, st1⟩ | ⟨q, E, ce, hqv, hce, hcv, hcl, st1⟩
  · obtain ⟨t, a1, b1⟩ := kk v h' hqv p l e R s m args below meth c A T'.heap (locs ++ L) (cells + mc1) (slots + ms1) MC MS ls I' T' rfl X'
    exact ⟨t, hstep _ (fun acts => by rw [doInvoke_state]; exact st1.trans a1), b1⟩
  · have hcl' : s.vm.findClass E = some ce.cls := by
      have h1 : (T.setVm vm₁).vm.findClass E = some ce.cls := hcl
      rw [X₁.warmed.alike.findClass] at h1
      exact h1
    obtain ⟨t, a1, b1⟩ := vX_run (pc := pc) (rest := st) X' I' hce hcv hcl' (kx E h' hqv)
    exact ⟨t, hstep _ (fun acts => by rw [doInvoke_state]; exact st1.trans a1), b1⟩
theorem v_callS {idx : Nat} {As : List Value} {st0 : List Value} (d : decode M.2.1 pc = .ok (.invokestatic idx, 3)) (hw : Cond.methodLink M.1.cls idx M1.1 ∈ vT) (hst : Cond.static M1.1 ∈ vT) (hok : vOk M M1 fr lo fr1 lo1 As st) (hp : (parseMethodDescriptor M1.1.desc).map (fun d => d.parameters.length) = some As.length) (hs0 : As.reverse ++ st = st0) (hV : V G M1 fr1 lo1 0 (vArgs 0 As) [] h mc1 ms1 Q1)
    (kk : ∀ v h', Q1 (.inl v) h' → V G M fr lo (pc + 3) lv (v.toList ++ st) h' (mc - mc1) (ms - ms1) Q) (kx : ∀ E h', Q1 (.inr E) h' → vXh G M fr lo pc lv h' (mc - mc1) (ms - ms1) Q E) (b1 : mc1 ≤ mc := by decide) (b2 : ms1 ≤ ms := by decide) : V G M fr lo pc lv st0 h mc ms Q := by
  intro p l e R s m args below meth c A H locs cells slots MC MS ls I T hT X
  have hcw := vts I.1 args _ hok.2.2.2.1
  obtain ⟨mk, hnamed⟩ : ∃ mk, s.methodNamed? M1.1 = some mk := by
    obtain ⟨y, cc, nl, rt, hd⟩ := M1
    cases hd with
    | nil => exact Cond.code_named (show (Cond.code y cc nl rt).holds args s none s [] = true from hcw)
    | cons x r =>
      obtain ⟨m', _, _, h0, -⟩ := Cond.codeWith_spec (show (Cond.codeWith y cc nl rt (x :: r)).holds args s none s [] = true from hcw)
      exact ⟨m', h0⟩
  obtain ⟨methM, cM, hmethM, -, -, -, -, -, -, hsigM⟩ := vCw_spec hnamed hcw
  have hstatic : methM.isStatic = true := Cond.static_spec hnamed hmethM (vts I.1 args _ hst)
  obtain ⟨kP, hkP, -⟩ := className_of_methodNamed hnamed
  have hinitP : kP.init = .initialized := Cond.initialized_spec (findClass_of_methodNamed hnamed) hkP (vts I.1 args _ hok.2.2.2.2.1)
  have hlen : As.length = methM.sig.parameters.length := by rw [hsigM] at hp; exact (Option.some.inj hp).symm
  obtain ⟨vm₁, X₁, hstep₁⟩ := X.invokestatic I.1.1 (vown I.1) (vts I.1 args _ hw) hnamed hmethM hstatic hkP hinitP hok.2.2.2.2.2.2.2.2 (g := F0 m pc ls st0) rfl (argsL := As) (rest := st) hlen hs0.symm (by rw [I.1.2.1]; exact d)
  exact vGo b1 b2 I hT X₁ d hnamed hok hV kk kx hstep₁
theorem v_callV {idx b ci : Nat} {fs : List Value} {As : List Value} {st0 : List Value} {q : vw_C} (d : decode M.2.1 pc = .ok (.invokevirtual idx, 3)) (hf : h.2 b = .inr (ci, fs)) (hb : b ∈ h.1) (hc : vCl[ci]? = some q) (hw : Cond.methodLink M.1.cls idx M1.1 ∈ vT) (hin : Cond.instanceMethod M1.1 ∈ vT) (hse : Cond.selects q.1 M1.1 M1.1 ∈ vT) (hok : vOk M M1 fr lo fr1 lo1 (.ref b :: As) st) (hp : (parseMethodDescriptor M1.1.desc).map (fun d => d.parameters.length) = some As.length) (hs0 : As.reverse ++ .ref b :: st = st0) (hV : V G M1 fr1 lo1 0 (vArgs 0 (.ref b :: As)) [] h mc1 ms1 Q1)
    (kk : ∀ v h', Q1 (.inl v) h' → V G M fr lo (pc + 3) lv (v.toList ++ st) h' (mc - mc1) (ms - ms1) Q) (kx : ∀ E h', Q1 (.inr E) h' → vXh G M fr lo pc lv h' (mc - mc1) (ms - ms1) Q E) (b1 : mc1 ≤ mc := by decide) (b2 : ms1 ≤ ms := by decide) : V G M fr lo pc lv st0 h mc ms Q := by
  intro p l e R s m args below meth c A H locs cells slots MC MS ls I T hT X
  have hcw := vts I.1 args _ hok.2.2.2.1
  have hy := hok.2.2.2.2.2.2.2.2
  obtain ⟨j, hj⟩ := vplG hb hf
  obtain ⟨cellB, hcB, hoB, hclB⟩ := va_recv (vK I.1) I.2.2.1 hc hj
  obtain ⟨mk, methM, hnamed, hmethM, hstM, habM⟩ := Cond.instanceMethod_spec (vts I.1 args _ hin)
  obtain ⟨methM', cM, hmethM', -, -, -, -, -, -, hsigM⟩ := vCw_spec hnamed hcw
  cases hmethM.symm.trans hmethM'
  obtain ⟨c2, r2, m2, q1, q2, q3, q4, kP, hkP, hkPi⟩ := Cond.selects_spec (vts I.1 args _ hse)
  cases hclB.symm.trans q1
  cases (State.methodFound?_of_named hnamed hy).symm.trans q2
  cases hnamed.symm.trans q3
  have hselP : selectMethod e.platform s.vm cellB.cls mk = .method mk := by rw [Launch.admits_selectMethod X.admits]; exact q4
  have hlen : As.length = methM.sig.parameters.length := by rw [hsigM] at hp; exact (Option.some.inj hp).symm
  obtain ⟨vm₁, X₁, hstep₁⟩ := X.invokevirtual I.1.1 (vown I.1) (vts I.1 args _ hw) hnamed hmethM hstM hkP hkPi hy (a := b) (cell := cellB) (by rw [hT]; exact hcB)
    (fun z h => by rw [h] at hoB; cases hoB) hselP hmethM habM hkP hkPi (g := F0 m pc ls st0) rfl (argsL := As) (rest := st) hlen hs0.symm (by rw [I.1.2.1]; exact d)
  exact vGo b1 b2 I hT X₁ d hnamed hok hV kk kx hstep₁
theorem v_callI {idx b : Nat} {As : List Value} {st0 : List Value} (d : decode M.2.1 pc = .ok (.invokespecial idx, 3)) (h1 : M1.1.name = "<init>") (hh : M1.2.2.2.2 = []) (hr : M1.2.2.2.1 = none) (hw : Cond.methodLink M.1.cls idx M1.1 ∈ vT ∨ (Cond.methodLinkNest M.1.cls idx M1.1 "CodeShrinker" = vNest)) (hin : Cond.instanceMethod M1.1 ∈ vT) (hok : vOk M M1 fr lo fr1 lo1 (.ref b :: As) st) (hp : (parseMethodDescriptor M1.1.desc).map (fun d => d.parameters.length) = some As.length) (hs0 : As.reverse ++ .ref b :: st = st0) (hV : V G M1 fr1 lo1 0 (vArgs 0 (.ref b :: As)) [] h mc1 ms1 Q1)
    (kk : ∀ v h', Q1 (.inl v) h' → V G M fr lo (pc + 3) lv (v.toList ++ st) h' (mc - mc1) (ms - ms1) Q) (kx : ∀ E h', Q1 (.inr E) h' → vXh G M fr lo pc lv h' (mc - mc1) (ms - ms1) Q E) (b1 : mc1 ≤ mc := by decide) (b2 : ms1 ≤ ms := by decide) : V G M fr lo pc lv st0 h mc ms Q := by
  intro p l e R s m args below meth c A H locs cells slots MC MS ls I T hT X
  have hcw := vts I.1 args _ hok.2.2.2.1
  have hy := hok.2.2.2.2.2.2.2.2
  have hcode : (Cond.code M1.1 M1.2.1 M1.2.2.1 none).before args s = true := by
    have h2 : vCw M1 = Cond.code M1.1 M1.2.1 M1.2.2.1 none := by
      unfold vCw
      rw [hh, hr]
    rw [← h2]
    exact hcw
  have hpl : e.platform.magicAccessors = ({} : Platform).magicAccessors := by rw [X.admits.platform]
  have hlen : ∀ sig, parseMethodDescriptor M1.1.desc = some sig → As.length = sig.parameters.length := fun sig hs => by rw [hs] at hp; exact (Option.some.inj hp).symm
  rcases hw with hw | hw
  · obtain ⟨mk, methM, cM, kP, vm₁, hnamed, hmethM, hcodeM, -, hlocalsM, -, hkP, -, hW₁, hstep₁⟩ := Steps.initColdArgs (e := e) X.here I.1.1 X.warmed hpl (vown I.1) h1 hy (vts I.1 args _ hw) (vts I.1 args _ hin) hcode (f := F0 m pc ls st0) rfl hlen hs0.symm (by rw [I.1.2.1]; exact d)
    exact vGo b1 b2 I hT (X.noted hW₁) d hnamed hok hV kk kx hstep₁
  · have hlk : (Cond.methodLinkNest M.1.cls idx M1.1 "CodeShrinker").before args s = true := by
      rw [hw]
      exact va_Nw.use rfl (venv I.1).2.2.1
    obtain ⟨mk, methM, cM, kP, vm₁, hnamed, hmethM, hcodeM, -, hlocalsM, -, hkP, -, hW₁, hstep₁⟩ := Steps.initColdArgsNest (e := e) X.here I.1.1 X.warmed hpl (vown I.1) h1 hy hlk (vts I.1 args _ hin) hcode (f := F0 m pc ls st0) rfl hlen hs0.symm (by rw [I.1.2.1]; exact d)
    exact vGo b1 b2 I hT (X.noted hW₁) d hnamed hok hV kk kx hstep₁
theorem V.mono (hq : ∀ r h, Q1 r h → Q r h) (k : V G M fr lo pc lv st h mc ms Q1) : V G M fr lo pc lv st h mc ms Q := by
  intro p l e R s m args below meth c A H locs cells slots MC MS ls I
  refine vW_mono (fun t b => ?_) (k p l e R s m args below meth c A H locs cells slots MC MS ls I)
  obtain ⟨o, b1, b2, b3, b4, b5, b6⟩ := b
  refine ⟨o, b1, b2, b3, b4, b5, ?_⟩
  rcases b6 with ⟨v, h', e1, e2, e3⟩ | ⟨q, E, ce, h', e1, e2, e3⟩
  · exact Or.inl ⟨v, h', e1, hq _ _ e2, e3⟩
  · exact Or.inr ⟨q, E, ce, h', e1, hq _ _ e2, e3⟩
theorem V.wide {fr' lo' mc' ms' : Nat} (h1 : fr ≤ fr') (h2 : lo ≤ lo') (h3 : mc ≤ mc') (h4 : ms ≤ ms') (k : V G M fr lo pc lv st h mc ms Q) : V G M fr' lo' pc lv st h mc' ms' Q := by
  intro p l e R s m args below meth c A H locs cells slots MC MS ls I
  obtain ⟨I1, ⟨r1, r2, r3, r4, r5, r6⟩, I3⟩ := I
  exact k p l e R s m args below meth c A H locs cells slots MC MS ls ⟨I1, ⟨by omega, by omega, by omega, by omega, r5, r6⟩, I3⟩
end VInv
end
section
/-! throw new E("text"): the exception is made, filled and leaves the method; two natives. -/
section VThr
variable {G : vG} {M M1 : vM} {fr lo pc fr1 lo1 mc1 ms1 : Nat} {lv lv' : List (Nat × Value)} {st : List Value} {h : vH} {mc ms : Nat} {Q Q1 : vQ}
theorem vLs_word {C n d : String} {A : Nat → Prop} {s : State} {args : Array Value} (hh : vLs C n d A s s.heap) : (Cond.laysStatic C n d).before args s = true := by
  obtain ⟨c, k, i, f, a, cell, h1, h2, h3, h4, h5, h6, h7, h8, h9, -⟩ := hh
  exact Cond.laysStatic_of (o := none) (idx := []) h1 h2 h3 h4 h5 h6 h7 h8 h9
theorem vZq_word {C n d : String} {A : Nat → Prop} {s : State} {args : Array Value} (hh : va_Zq C n d A s s.heap) : (Cond.isRef (.static C n d)).before args s = true := by
  have key : ∀ v : Value, vIsR v = true → va_Z C n d v A s s.heap → (Cond.isRef (.static C n d)).before args s = true := by
    intro v hv hz
    obtain ⟨cf, kf, fi, f, a, cell, h1, h2, h3, h4, h5, h6, h7, -⟩ := hz
    have he : (Term.static C n d).eval args s none [] s = some v := by
      simp [Term.eval, State.fieldNamed?, h1, h2, h4, h5, h6, h7]
    simp only [Cond.before, Cond.holds, Cond.value, he]
    rcases vIsR_or hv with rfl | ⟨a, rfl⟩ <;> simp [Value.isRef]
  rcases hh with h1 | ⟨t, h1⟩
  · exact key _ rfl h1
  · exact key _ rfl h1
/-- the words that a throw of cls needs: all but the four on Throwable's statics are of vT -/
def vThw (own : String) (ic : Nat) (cls : String) : List Cond := Bundle.ownAtoms own ic cls ["java/lang/RuntimeException", "java/lang/Exception"]
def vFour : List Cond := [.isRef (.static Bundle.tN "UNASSIGNED_STACK" Bundle.steD), .isRef (.static Bundle.tN "SUPPRESSED_SENTINEL" Bundle.listD), .laysStatic Bundle.tN "UNASSIGNED_STACK" Bundle.steD, .laysStatic Bundle.tN "SUPPRESSED_SENTINEL" Bundle.listD]
theorem v_throw {ik is ic : Nat} {cls text : String} (d0 : decode M.2.1 pc = .ok (.new ik, 3)) (d3 : decode M.2.1 (pc + 3) = .ok (.dup, 1)) (d4 : decode M.2.1 (pc + 4) = .ok (.ldc is, 2)) (d6 : decode M.2.1 (pc + 6) = .ok (.invokespecial ic, 3)) (d9 : decode M.2.1 (pc + 9) = .ok (.athrow, 1))
    (hcls : Bundle.fit cls = true) (hk : Cond.classLink M.1.cls ik cls ∈ vT) (hi : Cond.initialized cls ∈ vT) (hstr : (M.1.cls, is, text) ∈ vStr) (hw : ∀ w ∈ vThw M.1.cls ic cls, w ∈ vFour ∨ w ∈ vT) (hh : M.2.2.2.2 = []) (hfr : 6 ≤ fr) (hlo : (st.map fun v => v.category).sum + 90 ≤ lo)
    (hq : Q (.inr cls) h) (b1 : 1 ≤ mc := by decide) (b2 : 6 ≤ ms := by decide) : V G M fr lo pc lv st h mc ms Q := by
  intro p l e R s m args below meth c A H locs cells slots MC MS ls I T hT X
  obtain ⟨I1, ⟨r1, r2, r3, r4, r5, r6⟩, I3, I4, I5, I6, I7⟩ := I
  have hexec := I1.1
  have hb := I1.2.1
  have htr : e.platform.stackTraces = false := (show e.platform.stackTraces = l.stackTraces by rw [X.admits.platform]).trans I1.2.2.2.2.2.2.2.2.1
  have htop : (T.setVm s.vm).topJava?.isSome := X.here.top
  have hF : ((T.setVm s.vm).setFrames (.invoking m args :: below)).frames = .invoking m args :: below := State.frames_setFrames _ (State.cur_lt_of_top htop)
  obtain ⟨g₀, hg0⟩ := Option.isSome_iff_exists.mp htop
  obtain ⟨r, hr⟩ := State.topJava?_eq_some.mp hg0
  have hl9 : e.platform.stackLimits (T.setVm s.vm).me = e.platform.stackLimits s.me := X.limits
  have hb9 : (T.setVm s.vm).me.stackBytes = s.me.stackBytes := X.bytes
  -- the same frame, seen as one that begins at this heap
  have Y : Stand p l e (vRm R.frames R.locals 1 6) ((T.setVm s.vm).setFrames (.invoking m args :: below)) m args below meth c T [] 0 0 := by
    refine ⟨X.admits, X.cas, X.clock, hF, ?_, X.hears, X.method, X.code, X.here, X.tail, X.warmed, ?_, ?_, ?_⟩
    · have h0 := X.room
      have hU : ((T.setVm s.vm).setFrames (.invoking m args :: below)).localsInUse = s.localsInUse := by
        rw [State.localsInUse_invoking hF (meth := meth) (c := c) X.method X.code, State.localsInUse_invoking X.frames X.method X.code]
      simp only [State.hasRoom, Bool.and_eq_true, decide_eq_true_eq] at h0 ⊢
      obtain ⟨⟨⟨⟨h1, h2, h3, h4, h5, h6⟩, h7⟩, h8⟩, h9⟩ := h0
      rw [X.frames, List.length_cons] at h2 h3
      have q1 := X.heapSize
      have q2 := X.used
      simp only [hF, hU, List.length_cons, State.stackLimits_setFrames, State.stackBytes_setFrames, hl9, hb9, vRm]
      refine ⟨⟨⟨⟨by omega, by omega, by omega, by omega, by omega, h6⟩, ?_⟩, ?_⟩, X.book⟩
      · show T.heap.size + 1 ≤ e.platform.maxCells
        omega
      · show T.slotsUsed + 6 ≤ e.platform.maxSlots
        omega
    · rw [State.stackLimits_setFrames]; rfl
    · rw [State.stackBytes_setFrames]; rfl
    · refine ⟨?_, Nat.le_refl _, Nat.le_refl _, ?_, ?_, fun a c9 h9 => ⟨c9, h9, rfl, rfl, fun _ _ => rfl⟩⟩
      · obtain ⟨t, ht, -⟩ := State.frames_cons hr
        show T.setVm s.vm = { ((T.setVm s.vm).setFrames (.invoking m args :: below)).setFrames (T.setVm s.vm).frames with heap := T.heap, slotsUsed := T.slotsUsed }
        rw [State.setFrames_setFrames, State.setFrames_self ht]
        rfl
      · show T.slotsUsed = T.slotsUsed + ((T.heap.toList.drop T.heap.size).map (·.slots.size)).sum
        rw [List.drop_eq_nil_of_le (Nat.le_of_eq Array.length_toList)]
        rfl
      · show ((T.heap.toList.drop T.heap.size).map (·.slots.size)).sum ≤ 0
        rw [List.drop_eq_nil_of_le (Nat.le_of_eq Array.length_toList)]
        exact Nat.le_refl _
  obtain ⟨s', hs'⟩ : ∃ z, z = (T.setVm s.vm).setFrames (.invoking m args :: below) := ⟨_, rfl⟩
  rw [← hs'] at Y
  have hvm : s'.vm = s.vm := by rw [hs']; rfl
  have hhp : s'.heap = H := by rw [hs']; exact hT
  have hW0 : s.WarmedH s'.vm := by rw [hvm]; exact State.WarmedH.refl s
  have hE : vEnv G A s' s'.heap := by rw [hhp]; exact vEnv.moved hW0 ((venv I1).kept I5.1 I5.2.1)
  have hat : ∀ w ∈ vThw M.1.cls ic cls, w.before args s' = true := by
    intro w hw1
    rcases hw w hw1 with h4 | h4
    · simp only [vFour, List.mem_cons, List.not_mem_nil, or_false] at h4
      rcases h4 with rfl | rfl | rfl | rfl
      · exact vZq_word hE.2.2.2.2.1.1
      · exact vZq_word hE.2.2.2.2.2.1.1
      · exact vLs_word hE.2.2.2.2.1.2
      · exact vLs_word hE.2.2.2.2.2.1.2
    · exact hE.1 w h4 args
  have hown' : s'.vm.findClass M.1.cls = some m.cls := by rw [hvm]; exact vown I1
  obtain ⟨sa, hsa⟩ := hE.2.2.2.2.2.2.1 _ hstr
  have hins : (Cond.instantiable cls 6).before args s' = true := hat _ (by simp [vThw, Bundle.ownAtoms])
  obtain ⟨vm₁, cX, kX, hfX, hkX, -, -, X₁, st1⟩ := Y.newCold hexec (own := M.1.cls) (C := cls) (index := ik) (n := 6) hown' (hE.1 _ hk args) hins (hE.1 _ hi args)
    (g := F0 m pc ls st) rfl (by rw [hb]; exact d0) (Nat.le_refl _) (Nat.le_refl _)
  generalize hT1 : (T.setVm vm₁).pushCell { cls := cX, slots := kX.instanceTypes.map defaultValue, vm := .none } = T1 at X₁ st1
  have hcat : (Value.ref T.heap.size).category = 1 := rfl
  have hcellA : T1.heap[T.heap.size]? = some (freshCell cX kX) := by rw [← hT1]; exact State.heap_pushCell_size _ _
  have d3' : decode c.code (pc + 3) = .ok (.dup, 1) := by rw [hb]; exact d3
  have d4' : decode c.code (pc + 4) = .ok (.ldc is, 2) := by rw [hb]; exact d4
  have hout : ∀ x ∈ c.exceptionTable.toList, covers x (pc + 6 + 3) = false := by
    intro y hy
    have h1 : (y.startPc, y.endPc, y.handlerPc, y.catchType) ∈ M.2.2.2.2 := by
      rw [← I1.2.2.2.2.1]
      exact List.mem_map.mpr ⟨y, hy, rfl⟩
    rw [hh] at h1
    cases h1
  obtain ⟨U, hsteps, hrun, hend, hW, hsame, ce, hce, hO⟩ := X₁.ctorThrowS hexec htr (own := M.1.cls) (cls := cls) (names := ["java/lang/RuntimeException", "java/lang/Exception"]) (ic := ic) hown' hcls (by decide) hat (fun x hx => nomatch hx) hfX hkX hcellA (by rw [hhp, hT]; exact Nat.le_refl _) (msg := .ref sa) rfl
    (g := { method := m, pc := pc + 6, locals := ls, stack := .ref sa :: .ref T.heap.size :: .ref T.heap.size :: st, locked := none }) rfl (I6.1.trans I1.2.2.1.symm) rfl rfl (rest := st) rfl
    (by rw [hb]; exact d6) (by rw [hb]; exact d9) hout (by show 5 < R.frames; omega) (by simp only [List.map_cons, List.sum_cons, hcat]; show 2 * 0 + _ + (13 * 3 + 42) ≤ R.locals; omega) I1.2.2.2.2.2.1
  have hsm : s.sameButNew ({ U with vm := s.vm } : State) locs MC MS := by
    subst hs'
    obtain ⟨e1, e2⟩ := hsame
    rw [State.setFrames_setFrames] at e1
    have h2 : (T.setVm s.vm).sameButNew ({ U with vm := s.vm } : State) [] (0 + 1) (0 + 6) := ⟨e1, e2⟩
    have h3 := X.same.trans h2
    rw [List.append_nil] at h3
    exact h3.mono (by omega) (by omega)
  have hfrm : H.size ≤ U.heap.size ∧ ∀ q : Nat, q < H.size → U.heap[q]? = H[q]? := by
    obtain ⟨-, h2, -, -, -, h6⟩ := hsame
    have h2' : s'.heap.size ≤ U.heap.size := h2
    rw [hhp] at h2'
    refine ⟨h2', fun q hq => ?_⟩
    obtain ⟨c9, e1, e2, e3, e4⟩ := h6 q (H[q]) (by rw [hhp]; exact Array.getElem?_eq_getElem hq)
    have hs9 : c9.slots = (H[q]).slots := Array.ext_getElem? fun i => e4 i (fun hm => nomatch hm)
    have h9 : c9 = H[q] := by
      rw [hs9] at e2
      exact e2
    have e5 : U.heap[q]? = some c9 := e1
    rw [e5, h9, Array.getElem?_eq_getElem hq]
  have hcl : s.vm.findClass cls = some ce.cls := by
    have h9 := hO.cls
    rw [hvm] at h9
    exact h9
  refine ⟨U, ?_, .threw T.heap.size, hrun, hend, State.WarmedH.trans hW0 hW, ⟨locs, hsm, I5.2.2⟩, ⟨Nat.le_trans I5.1 hfrm.1, fun q h1 h2 => (hfrm.2 q (Nat.lt_of_lt_of_le h1 I5.1)).trans (I5.2.1 q h1 h2)⟩, Or.inr ⟨T.heap.size, cls, ce, h, rfl, hq, I3.kept (fun k q hq => hfrm.2 q.1 (I3 k q hq).lt), I4, hce, hO.vm, hcl⟩⟩
  refine st1 _ ?_
  show Steps p.tables e below (T1.setTop { method := m, pc := pc + 3, locals := ls, stack := .ref T.heap.size :: st, locked := none }) _
  jvm_step X₁.here [X₁.here.top, hexec, d3', Value.category]
  exact X₁.ldcString hexec (own := M.1.cls) (text := text) (index := is) (a := sa) hown' hsa.1 hsa.2
    (g := { method := m, pc := pc + 4, locals := ls, stack := .ref T.heap.size :: .ref T.heap.size :: st, locked := none }) rfl d4' _ hsteps
theorem v_getC {a n idx : Nat} {x : vp_A} (d : decode M.2.1 pc = .ok (.invokevirtual idx, 3)) (hf : h.2 a = .inl (G.2.1 3, x)) (ha : a ∈ h.1) (hw : Cond.methodLink M.1.cls idx ⟨"java/lang/Object", "getClass", "()Ljava/lang/Class;"⟩ ∈ vT) (hse : Cond.selects "[Ljava/lang/Object;" ⟨"java/lang/Object", "getClass", "()Ljava/lang/Class;"⟩ ⟨"java/lang/Object", "getClass", "()Ljava/lang/Class;"⟩ ∈ vT) (hin : Cond.instanceMethod ⟨"java/lang/Object", "getClass", "()Ljava/lang/Class;"⟩ ∈ vT) (hfr : 1 ≤ fr) (hlo : (st.map fun v => v.category).sum + 14 ≤ lo) (kk : V G M fr lo (pc + 3) lv (.ref G.2.2.2.1 :: st) h mc ms Q) : V G M fr lo pc lv (.ref a :: st) h mc ms Q := by
  intro p l e R s m args below meth c A H locs cells slots MC MS ls I
  obtain ⟨r1, r2, r3, r4, r5, r6⟩ := I.2.1
  obtain ⟨j, hj⟩ := vplG ha hf
  have hcell : H[a]? = some (vp_cell (G.2.1 3) x) := I.2.2.1 j _ hj
  have hst : (vp_cell (G.2.1 3) x).vm.isStatics = false ∧ (vp_cell (G.2.1 3) x).cls = G.2.1 3 := by
    obtain ⟨n0, x0⟩ := x
    rcases x0 with x0 | x0 | x0 | x0 | x0 <;> exact ⟨rfl, rfl⟩
  exact va_getC (C := "[Ljava/lang/Object;") I.1.1 I.1.2.1 (I.1.2.2.1.trans I.2.2.2.2.2.1.1.symm) (vown I.1) (vts I.1 args _ hw) (vts I.1 args _ kz_966) (vts I.1 args _ hse) (vts I.1 args _ hin) (vts I.1 args _ kz_522) (venv I.1).2.2.2.2.2.2.2.1 ⟨_, hcell, hst.1, by rw [hst.2]; exact va_nmO ((vK I.1).2 3 _ rfl).2 rfl⟩ (by omega) (by omega) d (kk p l e R s m args below meth c A H locs cells slots MC MS ls I)
theorem v_copy {a0 a n0 n1 idx ci : Nat} {q : vw_C} {f g : Nat → Option Nat} {sp dp n : Int32} (d : decode M.2.1 pc = .ok (.invokestatic idx, 3)) (hf : h.2 a0 = .inl (G.2.1 3, n0, .inr (.inr (.inr (.inr f))))) (ha0 : a0 ∈ h.1) (hg : h.2 a = .inl (G.2.1 3, n1, .inr (.inr (.inr (.inr g))))) (ha : a ∈ h.1) (hw : Cond.methodLink M.1.cls idx arraycopyName ∈ vT) (h1 : ¬ sp < 0) (h2 : ¬ dp < 0) (h3 : ¬ n < 0) (h4 : sp.toNatClampNeg + n.toNatClampNeg ≤ n0) (h5 : dp.toNatClampNeg + n.toNatClampNeg ≤ n1) (hc : vCl[ci]? = some q) (hx : Cond.castable q.1 "java/lang/Object" ∈ vT) (hel : ∀ i : Nat, i < n.toNatClampNeg → ∀ y : Nat, f (sp.toNatClampNeg + i) = some y → y ∈ h.1 ∧ ∃ fs, h.2 y = .inr (ci, fs)) (hfr : 1 ≤ fr) (hlo : (st.map fun v => v.category).sum + 40 ≤ lo)
    (kk : V G M fr lo (pc + 3) lv st (h.1, va_up h.2 a (.inl (G.2.1 3, n1, .inr (.inr (.inr (.inr (va_cpy f g sp.toNatClampNeg dp.toNatClampNeg n.toNatClampNeg))))))) mc ms Q) : V G M fr lo pc lv (.int n :: .int dp :: .ref a :: .int sp :: .ref a0 :: st) h mc ms Q := by
  intro p l e R s m args below meth c A H locs cells slots MC MS ls I
  obtain ⟨r1, r2, r3, r4, r5, r6⟩ := I.2.1
  obtain ⟨j0, hj0⟩ := vplG ha0 hf
  obtain ⟨j, hj⟩ := vplG ha hg
  have hj1 : (va_pl h.1 h.2)[j]? = some (a, h.2 a) := by rw [hg]; exact hj
  have hnw : nativeFrameWords "java/lang/System" "arraycopy" 5 ≤ 20 := by decide
  refine va_copyq (C := q.1) I.1.1 I.1.2.1 (I.1.2.2.1.trans I.2.2.2.2.2.1.1.symm) (vown I.1) (vts I.1 args _ hw) (vts I.1 args _ kz_247) (vts I.1 args _ kS_java_lang_System_arraycopy_Ljava_lang_Object_ILjava_lang_Object_II_V) (vts I.1 args _ ki_java_lang_System) (vK I.1) I.2.2.1 I.2.2.2.1 I.2.2.2.2.1 j0 j 3 3 hj0 hj rfl rfl h1 h2 h3 h4 h5 (fun i hi y hy => ?_) (fun comp c0 e1 e2 => vb_asgC (va_Nw.of rfl (vts I.1 args _ hx)) comp c0 e1 e2) (by omega) (by omega) d (fun H1 locs1 hP hD hS => ?_)
  · obtain ⟨k1, fs, k2⟩ := hel i hi y hy
    obtain ⟨jy, hjy⟩ := vplG k1 k2
    exact va_recv (vK I.1) I.2.2.1 hc hjy
  · rw [vplS I.2.2.2.1 ha hj1] at hP hD
    exact kk p l e R s m args below meth c A H1 locs1 cells slots MC MS ls ⟨I.1, I.2.1, hP, hD, hS, I.2.2.2.2.2⟩
end VThr
end
section
/-! Small rows on top of the logic; the lists' own methods. -/
section VSm
variable {G : vG} {M M1 : vM} {fr lo pc fr1 lo1 mc1 ms1 : Nat} {lv lv' : List (Nat × Value)} {st : List Value} {h h1 : vH} {mc ms : Nat} {Q Q1 : vQ}
def vRet (v : Option Value) (h' : vH) : vQ := fun r h => r = .inl v ∧ h = h'
theorem v_iincw {i : Nat} {n : Int} {x w : Int32} (d : decode M.2.1 pc = .ok (.iinc i n, 3)) (hx : vGet lv i = some (.int x)) (hw : Int32.ofInt n = w) (hn : i < M.2.2.1) (hl : vRep lv i (.int (x + w)) false = some lv') (k : V G M fr lo (pc + 3) lv' st h mc ms Q) : V G M fr lo pc lv st h mc ms Q := v_iinc d hx (by rw [hw]) hn hl k
theorem v_callS0 {idx : Nat} (d : decode M.2.1 pc = .ok (.invokestatic idx, 3)) (hw : Cond.methodLink M.1.cls idx M1.1 ∈ vT) (hst : Cond.static M1.1 ∈ vT) (o1 : plainName M1.1.cls = true)  (o3 : 0 ≤ M1.2.2.1) (o4 : vCw M1 ∈ vT) (o5 : Cond.initialized M1.1.cls ∈ vT) (o9 : M1.1.cls ≠ "java/lang/invoke/MethodHandle" ∧ M1.1.cls ≠ "java/lang/invoke/VarHandle") (hp : (parseMethodDescriptor M1.1.desc).map (fun d => d.parameters.length) = some 0) (hV : V G M1 fr1 lo1 0 (vArgs 0 []) [] h mc1 ms1 Q1) (kk : ∀ v h', Q1 (.inl v) h' → V G M fr lo (pc + 3) lv (v.toList ++ st) h' (mc - mc1) (ms - ms1) Q) (kx : ∀ E h', Q1 (.inr E) h' → vXh G M fr lo pc lv h' (mc - mc1) (ms - ms1) Q E) (b1 : mc1 ≤ mc := by first | exact Nat.le_of_ble_eq_true rfl | omega) (b2 : ms1 ≤ ms := by first | exact Nat.le_of_ble_eq_true rfl | omega) (b3 : fr1 + 1 ≤ fr := by first | exact Nat.le_of_ble_eq_true rfl | omega) (b4 : 8 + (M1.2.2.1 + 11) + lo1 ≤ lo := by first | exact Nat.le_of_ble_eq_true rfl | omega) (b5 : (st.map fun v => v.category).sum ≤ 8 := by first | exact Nat.le_of_ble_eq_true rfl | simp [Value.category, vRf_cat]) : V G M fr lo pc lv (st) h mc ms Q := v_callS (As := []) (st := st) d hw hst ⟨o1, (fun v hv => nomatch hv), o3, o4, o5, b3, b4, b5, o9.1, o9.2⟩ hp rfl hV kk kx b1 b2
theorem v_callS0r {idx : Nat} {x : Value} (d : decode M.2.1 pc = .ok (.invokestatic idx, 3)) (hw : Cond.methodLink M.1.cls idx M1.1 ∈ vT) (hst : Cond.static M1.1 ∈ vT) (o1 : plainName M1.1.cls = true)  (o3 : 0 ≤ M1.2.2.1) (o4 : vCw M1 ∈ vT) (o5 : Cond.initialized M1.1.cls ∈ vT) (o9 : M1.1.cls ≠ "java/lang/invoke/MethodHandle" ∧ M1.1.cls ≠ "java/lang/invoke/VarHandle") (hp : (parseMethodDescriptor M1.1.desc).map (fun d => d.parameters.length) = some 0) (hV : V G M1 fr1 lo1 0 (vArgs 0 []) [] h mc1 ms1 (vRet (some x) h1)) (k : V G M fr lo (pc + 3) lv (x :: st) h1 (mc - mc1) (ms - ms1) Q) (b1 : mc1 ≤ mc := by first | exact Nat.le_of_ble_eq_true rfl | omega) (b2 : ms1 ≤ ms := by first | exact Nat.le_of_ble_eq_true rfl | omega) (b3 : fr1 + 1 ≤ fr := by first | exact Nat.le_of_ble_eq_true rfl | omega) (b4 : 8 + (M1.2.2.1 + 11) + lo1 ≤ lo := by first | exact Nat.le_of_ble_eq_true rfl | omega) (b5 : (st.map fun v => v.category).sum ≤ 8 := by first | exact Nat.le_of_ble_eq_true rfl | simp [Value.category, vRf_cat]) : V G M fr lo pc lv (st) h mc ms Q := v_callS (As := []) (st := st) d hw hst ⟨o1, (fun v hv => nomatch hv), o3, o4, o5, b3, b4, b5, o9.1, o9.2⟩ hp rfl hV (fun v h' z => by obtain ⟨z1, rfl⟩ := z; cases z1; exact k) (fun E h' z => nomatch z.1) b1 b2
theorem v_callS0u {idx : Nat} (d : decode M.2.1 pc = .ok (.invokestatic idx, 3)) (hw : Cond.methodLink M.1.cls idx M1.1 ∈ vT) (hst : Cond.static M1.1 ∈ vT) (o1 : plainName M1.1.cls = true)  (o3 : 0 ≤ M1.2.2.1) (o4 : vCw M1 ∈ vT) (o5 : Cond.initialized M1.1.cls ∈ vT) (o9 : M1.1.cls ≠ "java/lang/invoke/MethodHandle" ∧ M1.1.cls ≠ "java/lang/invoke/VarHandle") (hp : (parseMethodDescriptor M1.1.desc).map (fun d => d.parameters.length) = some 0) (hV : V G M1 fr1 lo1 0 (vArgs 0 []) [] h mc1 ms1 (vRet none h1)) (k : V G M fr lo (pc + 3) lv st h1 (mc - mc1) (ms - ms1) Q) (b1 : mc1 ≤ mc := by first | exact Nat.le_of_ble_eq_true rfl | omega) (b2 : ms1 ≤ ms := by first | exact Nat.le_of_ble_eq_true rfl | omega) (b3 : fr1 + 1 ≤ fr := by first | exact Nat.le_of_ble_eq_true rfl | omega) (b4 : 8 + (M1.2.2.1 + 11) + lo1 ≤ lo := by first | exact Nat.le_of_ble_eq_true rfl | omega) (b5 : (st.map fun v => v.category).sum ≤ 8 := by first | exact Nat.le_of_ble_eq_true rfl | simp [Value.category, vRf_cat]) : V G M fr lo pc lv (st) h mc ms Q := v_callS (As := []) (st := st) d hw hst ⟨o1, (fun v hv => nomatch hv), o3, o4, o5, b3, b4, b5, o9.1, o9.2⟩ hp rfl hV (fun v h' z => by obtain ⟨z1, rfl⟩ := z; cases z1; exact k) (fun E h' z => nomatch z.1) b1 b2
theorem v_callS1 {idx : Nat} {x1 : Value} (d : decode M.2.1 pc = .ok (.invokestatic idx, 3)) (hw : Cond.methodLink M.1.cls idx M1.1 ∈ vT) (hst : Cond.static M1.1 ∈ vT) (o1 : plainName M1.1.cls = true) (c1 : x1.category = 1) (o3 : 1 ≤ M1.2.2.1) (o4 : vCw M1 ∈ vT) (o5 : Cond.initialized M1.1.cls ∈ vT) (o9 : M1.1.cls ≠ "java/lang/invoke/MethodHandle" ∧ M1.1.cls ≠ "java/lang/invoke/VarHandle") (hp : (parseMethodDescriptor M1.1.desc).map (fun d => d.parameters.length) = some 1) (hV : V G M1 fr1 lo1 0 (vArgs 0 [x1]) [] h mc1 ms1 Q1) (kk : ∀ v h', Q1 (.inl v) h' → V G M fr lo (pc + 3) lv (v.toList ++ st) h' (mc - mc1) (ms - ms1) Q) (kx : ∀ E h', Q1 (.inr E) h' → vXh G M fr lo pc lv h' (mc - mc1) (ms - ms1) Q E) (b1 : mc1 ≤ mc := by first | exact Nat.le_of_ble_eq_true rfl | omega) (b2 : ms1 ≤ ms := by first | exact Nat.le_of_ble_eq_true rfl | omega) (b3 : fr1 + 1 ≤ fr := by first | exact Nat.le_of_ble_eq_true rfl | omega) (b4 : 8 + (M1.2.2.1 + 11) + lo1 ≤ lo := by first | exact Nat.le_of_ble_eq_true rfl | omega) (b5 : (st.map fun v => v.category).sum ≤ 8 := by first | exact Nat.le_of_ble_eq_true rfl | simp [Value.category, vRf_cat]) : V G M fr lo pc lv (x1 :: st) h mc ms Q := v_callS (As := [x1]) (st := st) d hw hst ⟨o1, (by intro v hv; simp only [List.mem_cons, List.not_mem_nil, or_false] at hv; rcases hv with rfl <;> first | rfl | assumption), o3, o4, o5, b3, b4, b5, o9.1, o9.2⟩ hp rfl hV kk kx b1 b2
theorem v_callS1r {idx : Nat} {x1 : Value} {x : Value} (d : decode M.2.1 pc = .ok (.invokestatic idx, 3)) (hw : Cond.methodLink M.1.cls idx M1.1 ∈ vT) (hst : Cond.static M1.1 ∈ vT) (o1 : plainName M1.1.cls = true) (c1 : x1.category = 1) (o3 : 1 ≤ M1.2.2.1) (o4 : vCw M1 ∈ vT) (o5 : Cond.initialized M1.1.cls ∈ vT) (o9 : M1.1.cls ≠ "java/lang/invoke/MethodHandle" ∧ M1.1.cls ≠ "java/lang/invoke/VarHandle") (hp : (parseMethodDescriptor M1.1.desc).map (fun d => d.parameters.length) = some 1) (hV : V G M1 fr1 lo1 0 (vArgs 0 [x1]) [] h mc1 ms1 (vRet (some x) h1)) (k : V G M fr lo (pc + 3) lv (x :: st) h1 (mc - mc1) (ms - ms1) Q) (b1 : mc1 ≤ mc := by first | exact Nat.le_of_ble_eq_true rfl | omega) (b2 : ms1 ≤ ms := by first | exact Nat.le_of_ble_eq_true rfl | omega) (b3 : fr1 + 1 ≤ fr := by first | exact Nat.le_of_ble_eq_true rfl | omega) (b4 : 8 + (M1.2.2.1 + 11) + lo1 ≤ lo := by first | exact Nat.le_of_ble_eq_true rfl | omega) (b5 : (st.map fun v => v.category).sum ≤ 8 := by first | exact Nat.le_of_ble_eq_true rfl | simp [Value.category, vRf_cat]) : V G M fr lo pc lv (x1 :: st) h mc ms Q := v_callS (As := [x1]) (st := st) d hw hst ⟨o1, (by intro v hv; simp only [List.mem_cons, List.not_mem_nil, or_false] at hv; rcases hv with rfl <;> first | rfl | assumption), o3, o4, o5, b3, b4, b5, o9.1, o9.2⟩ hp rfl hV (fun v h' z => by obtain ⟨z1, rfl⟩ := z; cases z1; exact k) (fun E h' z => nomatch z.1) b1 b2
theorem v_callS1u {idx : Nat} {x1 : Value} (d : decode M.2.1 pc = .ok (.invokestatic idx, 3)) (hw : Cond.methodLink M.1.cls idx M1.1 ∈ vT) (hst : Cond.static M1.1 ∈ vT) (o1 : plainName M1.1.cls = true) (c1 : x1.category = 1) (o3 : 1 ≤ M1.2.2.1) (o4 : vCw M1 ∈ vT) (o5 : Cond.initialized M1.1.cls ∈ vT) (o9 : M1.1.cls ≠ "java/lang/invoke/MethodHandle" ∧ M1.1.cls ≠ "java/lang/invoke/VarHandle") (hp : (parseMethodDescriptor M1.1.desc).map (fun d => d.parameters.length) = some 1) (hV : V G M1 fr1 lo1 0 (vArgs 0 [x1]) [] h mc1 ms1 (vRet none h1)) (k : V G M fr lo (pc + 3) lv st h1 (mc - mc1) (ms - ms1) Q) (b1 : mc1 ≤ mc := by first | exact Nat.le_of_ble_eq_true rfl | omega) (b2 : ms1 ≤ ms := by first | exact Nat.le_of_ble_eq_true rfl | omega) (b3 : fr1 + 1 ≤ fr := by first | exact Nat.le_of_ble_eq_true rfl | omega) (b4 : 8 + (M1.2.2.1 + 11) + lo1 ≤ lo := by first | exact Nat.le_of_ble_eq_true rfl | omega) (b5 : (st.map fun v => v.category).sum ≤ 8 := by first | exact Nat.le_of_ble_eq_true rfl | simp [Value.category, vRf_cat]) : V G M fr lo pc lv (x1 :: st) h mc ms Q := v_callS (As := [x1]) (st := st) d hw hst ⟨o1, (by intro v hv; simp only [List.mem_cons, List.not_mem_nil, or_false] at hv; rcases hv with rfl <;> first | rfl | assumption), o3, o4, o5, b3, b4, b5, o9.1, o9.2⟩ hp rfl hV (fun v h' z => by obtain ⟨z1, rfl⟩ := z; cases z1; exact k) (fun E h' z => nomatch z.1) b1 b2
theorem v_callS2 {idx : Nat} {x1 x2 : Value} (d : decode M.2.1 pc = .ok (.invokestatic idx, 3)) (hw : Cond.methodLink M.1.cls idx M1.1 ∈ vT) (hst : Cond.static M1.1 ∈ vT) (o1 : plainName M1.1.cls = true) (c1 : x1.category = 1) (c2 : x2.category = 1) (o3 : 2 ≤ M1.2.2.1) (o4 : vCw M1 ∈ vT) (o5 : Cond.initialized M1.1.cls ∈ vT) (o9 : M1.1.cls ≠ "java/lang/invoke/MethodHandle" ∧ M1.1.cls ≠ "java/lang/invoke/VarHandle") (hp : (parseMethodDescriptor M1.1.desc).map (fun d => d.parameters.length) = some 2) (hV : V G M1 fr1 lo1 0 (vArgs 0 [x1, x2]) [] h mc1 ms1 Q1) (kk : ∀ v h', Q1 (.inl v) h' → V G M fr lo (pc + 3) lv (v.toList ++ st) h' (mc - mc1) (ms - ms1) Q) (kx : ∀ E h', Q1 (.inr E) h' → vXh G M fr lo pc lv h' (mc - mc1) (ms - ms1) Q E) (b1 : mc1 ≤ mc := by first | exact Nat.le_of_ble_eq_true rfl | omega) (b2 : ms1 ≤ ms := by first | exact Nat.le_of_ble_eq_true rfl | omega) (b3 : fr1 + 1 ≤ fr := by first | exact Nat.le_of_ble_eq_true rfl | omega) (b4 : 8 + (M1.2.2.1 + 11) + lo1 ≤ lo := by first | exact Nat.le_of_ble_eq_true rfl | omega) (b5 : (st.map fun v => v.category).sum ≤ 8 := by first | exact Nat.le_of_ble_eq_true rfl | simp [Value.category, vRf_cat]) : V G M fr lo pc lv (x2 :: x1 :: st) h mc ms Q := v_callS (As := [x1, x2]) (st := st) d hw hst ⟨o1, (by intro v hv; simp only [List.mem_cons, List.not_mem_nil, or_false] at hv; rcases hv with rfl | rfl <;> first | rfl | assumption), o3, o4, o5, b3, b4, b5, o9.1, o9.2⟩ hp rfl hV kk kx b1 b2
theorem v_callS2r {idx : Nat} {x1 x2 : Value} {x : Value} (d : decode M.2.1 pc = .ok (.invokestatic idx, 3)) (hw : Cond.methodLink M.1.cls idx M1.1 ∈ vT) (hst : Cond.static M1.1 ∈ vT) (o1 : plainName M1.1.cls = true) (c1 : x1.category = 1) (c2 : x2.category = 1) (o3 : 2 ≤ M1.2.2.1) (o4 : vCw M1 ∈ vT) (o5 : Cond.initialized M1.1.cls ∈ vT) (o9 : M1.1.cls ≠ "java/lang/invoke/MethodHandle" ∧ M1.1.cls ≠ "java/lang/invoke/VarHandle") (hp : (parseMethodDescriptor M1.1.desc).map (fun d => d.parameters.length) = some 2) (hV : V G M1 fr1 lo1 0 (vArgs 0 [x1, x2]) [] h mc1 ms1 (vRet (some x) h1)) (k : V G M fr lo (pc + 3) lv (x :: st) h1 (mc - mc1) (ms - ms1) Q) (b1 : mc1 ≤ mc := by first | exact Nat.le_of_ble_eq_true rfl | omega) (b2 : ms1 ≤ ms := by first | exact Nat.le_of_ble_eq_true rfl | omega) (b3 : fr1 + 1 ≤ fr := by first | exact Nat.le_of_ble_eq_true rfl | omega) (b4 : 8 + (M1.2.2.1 + 11) + lo1 ≤ lo := by first | exact Nat.le_of_ble_eq_true rfl | omega) (b5 : (st.map fun v => v.category).sum ≤ 8 := by first | exact Nat.le_of_ble_eq_true rfl | simp [Value.category, vRf_cat]) : V G M fr lo pc lv (x2 :: x1 :: st) h mc ms Q := v_callS (As := [x1, x2]) (st := st) d hw hst ⟨o1, (by intro v hv; simp only [List.mem_cons, List.not_mem_nil, or_false] at hv; rcases hv with rfl | rfl <;> first | rfl | assumption), o3, o4, o5, b3, b4, b5, o9.1, o9.2⟩ hp rfl hV (fun v h' z => by obtain ⟨z1, rfl⟩ := z; cases z1; exact k) (fun E h' z => nomatch z.1) b1 b2
theorem v_callS2u {idx : Nat} {x1 x2 : Value} (d : decode M.2.1 pc = .ok (.invokestatic idx, 3)) (hw : Cond.methodLink M.1.cls idx M1.1 ∈ vT) (hst : Cond.static M1.1 ∈ vT) (o1 : plainName M1.1.cls = true) (c1 : x1.category = 1) (c2 : x2.category = 1) (o3 : 2 ≤ M1.2.2.1) (o4 : vCw M1 ∈ vT) (o5 : Cond.initialized M1.1.cls ∈ vT) (o9 : M1.1.cls ≠ "java/lang/invoke/MethodHandle" ∧ M1.1.cls ≠ "java/lang/invoke/VarHandle") (hp : (parseMethodDescriptor M1.1.desc).map (fun d => d.parameters.length) = some 2) (hV : V G M1 fr1 lo1 0 (vArgs 0 [x1, x2]) [] h mc1 ms1 (vRet none h1)) (k : V G M fr lo (pc + 3) lv st h1 (mc - mc1) (ms - ms1) Q) (b1 : mc1 ≤ mc := by first | exact Nat.le_of_ble_eq_true rfl | omega) (b2 : ms1 ≤ ms := by first | exact Nat.le_of_ble_eq_true rfl | omega) (b3 : fr1 + 1 ≤ fr := by first | exact Nat.le_of_ble_eq_true rfl | omega) (b4 : 8 + (M1.2.2.1 + 11) + lo1 ≤ lo := by first | exact Nat.le_of_ble_eq_true rfl | omega) (b5 : (st.map fun v => v.category).sum ≤ 8 := by first | exact Nat.le_of_ble_eq_true rfl | simp [Value.category, vRf_cat]) : V G M fr lo pc lv (x2 :: x1 :: st) h mc ms Q := v_callS (As := [x1, x2]) (st := st) d hw hst ⟨o1, (by intro v hv; simp only [List.mem_cons, List.not_mem_nil, or_false] at hv; rcases hv with rfl | rfl <;> first | rfl | assumption), o3, o4, o5, b3, b4, b5, o9.1, o9.2⟩ hp rfl hV (fun v h' z => by obtain ⟨z1, rfl⟩ := z; cases z1; exact k) (fun E h' z => nomatch z.1) b1 b2
theorem v_callS3 {idx : Nat} {x1 x2 x3 : Value} (d : decode M.2.1 pc = .ok (.invokestatic idx, 3)) (hw : Cond.methodLink M.1.cls idx M1.1 ∈ vT) (hst : Cond.static M1.1 ∈ vT) (o1 : plainName M1.1.cls = true) (c1 : x1.category = 1) (c2 : x2.category = 1) (c3 : x3.category = 1) (o3 : 3 ≤ M1.2.2.1) (o4 : vCw M1 ∈ vT) (o5 : Cond.initialized M1.1.cls ∈ vT) (o9 : M1.1.cls ≠ "java/lang/invoke/MethodHandle" ∧ M1.1.cls ≠ "java/lang/invoke/VarHandle") (hp : (parseMethodDescriptor M1.1.desc).map (fun d => d.parameters.length) = some 3) (hV : V G M1 fr1 lo1 0 (vArgs 0 [x1, x2, x3]) [] h mc1 ms1 Q1) (kk : ∀ v h', Q1 (.inl v) h' → V G M fr lo (pc + 3) lv (v.toList ++ st) h' (mc - mc1) (ms - ms1) Q) (kx : ∀ E h', Q1 (.inr E) h' → vXh G M fr lo pc lv h' (mc - mc1) (ms - ms1) Q E) (b1 : mc1 ≤ mc := by first | exact Nat.le_of_ble_eq_true rfl | omega) (b2 : ms1 ≤ ms := by first | exact Nat.le_of_ble_eq_true rfl | omega) (b3 : fr1 + 1 ≤ fr := by first | exact Nat.le_of_ble_eq_true rfl | omega) (b4 : 8 + (M1.2.2.1 + 11) + lo1 ≤ lo := by first | exact Nat.le_of_ble_eq_true rfl | omega) (b5 : (st.map fun v => v.category).sum ≤ 8 := by first | exact Nat.le_of_ble_eq_true rfl | simp [Value.category, vRf_cat]) : V G M fr lo pc lv (x3 :: x2 :: x1 :: st) h mc ms Q := v_callS (As := [x1, x2, x3]) (st := st) d hw hst ⟨o1, (by intro v hv; simp only [List.mem_cons, List.not_mem_nil, or_false] at hv; rcases hv with rfl | rfl | rfl <;> first | rfl | assumption), o3, o4, o5, b3, b4, b5, o9.1, o9.2⟩ hp rfl hV kk kx b1 b2
theorem v_callS3r {idx : Nat} {x1 x2 x3 : Value} {x : Value} (d : decode M.2.1 pc = .ok (.invokestatic idx, 3)) (hw : Cond.methodLink M.1.cls idx M1.1 ∈ vT) (hst : Cond.static M1.1 ∈ vT) (o1 : plainName M1.1.cls = true) (c1 : x1.category = 1) (c2 : x2.category = 1) (c3 : x3.category = 1) (o3 : 3 ≤ M1.2.2.1) (o4 : vCw M1 ∈ vT) (o5 : Cond.initialized M1.1.cls ∈ vT) (o9 : M1.1.cls ≠ "java/lang/invoke/MethodHandle" ∧ M1.1.cls ≠ "java/lang/invoke/VarHandle") (hp : (parseMethodDescriptor M1.1.desc).map (fun d => d.parameters.length) = some 3) (hV : V G M1 fr1 lo1 0 (vArgs 0 [x1, x2, x3]) [] h mc1 ms1 (vRet (some x) h1)) (k : V G M fr lo (pc + 3) lv (x :: st) h1 (mc - mc1) (ms - ms1) Q) (b1 : mc1 ≤ mc := by first | exact Nat.le_of_ble_eq_true rfl | omega) (b2 : ms1 ≤ ms := by first | exact Nat.le_of_ble_eq_true rfl | omega) (b3 : fr1 + 1 ≤ fr := by first | exact Nat.le_of_ble_eq_true rfl | omega) (b4 : 8 + (M1.2.2.1 + 11) + lo1 ≤ lo := by first | exact Nat.le_of_ble_eq_true rfl | omega) (b5 : (st.map fun v => v.category).sum ≤ 8 := by first | exact Nat.le_of_ble_eq_true rfl | simp [Value.category, vRf_cat]) : V G M fr lo pc lv (x3 :: x2 :: x1 :: st) h mc ms Q := v_callS (As := [x1, x2, x3]) (st := st) d hw hst ⟨o1, (by intro v hv; simp only [List.mem_cons, List.not_mem_nil, or_false] at hv; rcases hv with rfl | rfl | rfl <;> first | rfl | assumption), o3, o4, o5, b3, b4, b5, o9.1, o9.2⟩ hp rfl hV (fun v h' z => by obtain ⟨z1, rfl⟩ := z; cases z1; exact k) (fun E h' z => nomatch z.1) b1 b2
theorem v_callS3u {idx : Nat} {x1 x2 x3 : Value} (d : decode M.2.1 pc = .ok (.invokestatic idx, 3)) (hw : Cond.methodLink M.1.cls idx M1.1 ∈ vT) (hst : Cond.static M1.1 ∈ vT) (o1 : plainName M1.1.cls = true) (c1 : x1.category = 1) (c2 : x2.category = 1) (c3 : x3.category = 1) (o3 : 3 ≤ M1.2.2.1) (o4 : vCw M1 ∈ vT) (o5 : Cond.initialized M1.1.cls ∈ vT) (o9 : M1.1.cls ≠ "java/lang/invoke/MethodHandle" ∧ M1.1.cls ≠ "java/lang/invoke/VarHandle") (hp : (parseMethodDescriptor M1.1.desc).map (fun d => d.parameters.length) = some 3) (hV : V G M1 fr1 lo1 0 (vArgs 0 [x1, x2, x3]) [] h mc1 ms1 (vRet none h1)) (k : V G M fr lo (pc + 3) lv st h1 (mc - mc1) (ms - ms1) Q) (b1 : mc1 ≤ mc := by first | exact Nat.le_of_ble_eq_true rfl | omega) (b2 : ms1 ≤ ms := by first | exact Nat.le_of_ble_eq_true rfl | omega) (b3 : fr1 + 1 ≤ fr := by first | exact Nat.le_of_ble_eq_true rfl | omega) (b4 : 8 + (M1.2.2.1 + 11) + lo1 ≤ lo := by first | exact Nat.le_of_ble_eq_true rfl | omega) (b5 : (st.map fun v => v.category).sum ≤ 8 := by first | exact Nat.le_of_ble_eq_true rfl | simp [Value.category, vRf_cat]) : V G M fr lo pc lv (x3 :: x2 :: x1 :: st) h mc ms Q := v_callS (As := [x1, x2, x3]) (st := st) d hw hst ⟨o1, (by intro v hv; simp only [List.mem_cons, List.not_mem_nil, or_false] at hv; rcases hv with rfl | rfl | rfl <;> first | rfl | assumption), o3, o4, o5, b3, b4, b5, o9.1, o9.2⟩ hp rfl hV (fun v h' z => by obtain ⟨z1, rfl⟩ := z; cases z1; exact k) (fun E h' z => nomatch z.1) b1 b2
theorem v_callS4 {idx : Nat} {x1 x2 x3 x4 : Value} (d : decode M.2.1 pc = .ok (.invokestatic idx, 3)) (hw : Cond.methodLink M.1.cls idx M1.1 ∈ vT) (hst : Cond.static M1.1 ∈ vT) (o1 : plainName M1.1.cls = true) (c1 : x1.category = 1) (c2 : x2.category = 1) (c3 : x3.category = 1) (c4 : x4.category = 1) (o3 : 4 ≤ M1.2.2.1) (o4 : vCw M1 ∈ vT) (o5 : Cond.initialized M1.1.cls ∈ vT) (o9 : M1.1.cls ≠ "java/lang/invoke/MethodHandle" ∧ M1.1.cls ≠ "java/lang/invoke/VarHandle") (hp : (parseMethodDescriptor M1.1.desc).map (fun d => d.parameters.length) = some 4) (hV : V G M1 fr1 lo1 0 (vArgs 0 [x1, x2, x3, x4]) [] h mc1 ms1 Q1) (kk : ∀ v h', Q1 (.inl v) h' → V G M fr lo (pc + 3) lv (v.toList ++ st) h' (mc - mc1) (ms - ms1) Q) (kx : ∀ E h', Q1 (.inr E) h' → vXh G M fr lo pc lv h' (mc - mc1) (ms - ms1) Q E) (b1 : mc1 ≤ mc := by first | exact Nat.le_of_ble_eq_true rfl | omega) (b2 : ms1 ≤ ms := by first | exact Nat.le_of_ble_eq_true rfl | omega) (b3 : fr1 + 1 ≤ fr := by first | exact Nat.le_of_ble_eq_true rfl | omega) (b4 : 8 + (M1.2.2.1 + 11) + lo1 ≤ lo := by first | exact Nat.le_of_ble_eq_true rfl | omega) (b5 : (st.map fun v => v.category).sum ≤ 8 := by first | exact Nat.le_of_ble_eq_true rfl | simp [Value.category, vRf_cat]) : V G M fr lo pc lv (x4 :: x3 :: x2 :: x1 :: st) h mc ms Q := v_callS (As := [x1, x2, x3, x4]) (st := st) d hw hst ⟨o1, (by intro v hv; simp only [List.mem_cons, List.not_mem_nil, or_false] at hv; rcases hv with rfl | rfl | rfl | rfl <;> first | rfl | assumption), o3, o4, o5, b3, b4, b5, o9.1, o9.2⟩ hp rfl hV kk kx b1 b2
theorem v_callS4r {idx : Nat} {x1 x2 x3 x4 : Value} {x : Value} (d : decode M.2.1 pc = .ok (.invokestatic idx, 3)) (hw : Cond.methodLink M.1.cls idx M1.1 ∈ vT) (hst : Cond.static M1.1 ∈ vT) (o1 : plainName M1.1.cls = true) (c1 : x1.category = 1) (c2 : x2.category = 1) (c3 : x3.category = 1) (c4 : x4.category = 1) (o3 : 4 ≤ M1.2.2.1) (o4 : vCw M1 ∈ vT) (o5 : Cond.initialized M1.1.cls ∈ vT) (o9 : M1.1.cls ≠ "java/lang/invoke/MethodHandle" ∧ M1.1.cls ≠ "java/lang/invoke/VarHandle") (hp : (parseMethodDescriptor M1.1.desc).map (fun d => d.parameters.length) = some 4) (hV : V G M1 fr1 lo1 0 (vArgs 0 [x1, x2, x3, x4]) [] h mc1 ms1 (vRet (some x) h1)) (k : V G M fr lo (pc + 3) lv (x :: st) h1 (mc - mc1) (ms - ms1) Q) (b1 : mc1 ≤ mc := by first | exact Nat.le_of_ble_eq_true rfl | omega) (b2 : ms1 ≤ ms := by first | exact Nat.le_of_ble_eq_true rfl | omega) (b3 : fr1 + 1 ≤ fr := by first | exact Nat.le_of_ble_eq_true rfl | omega) (b4 : 8 + (M1.2.2.1 + 11) + lo1 ≤ lo := by first | exact Nat.le_of_ble_eq_true rfl | omega) (b5 : (st.map fun v => v.category).sum ≤ 8 := by first | exact Nat.le_of_ble_eq_true rfl | simp [Value.category, vRf_cat]) : V G M fr lo pc lv (x4 :: x3 :: x2 :: x1 :: st) h mc ms Q := v_callS (As := [x1, x2, x3, x4]) (st := st) d hw hst ⟨o1, (by intro v hv; simp only [List.mem_cons, List.not_mem_nil, or_false] at hv; rcases hv with rfl | rfl | rfl | rfl <;> first | rfl | assumption), o3, o4, o5, b3, b4, b5, o9.1, o9.2⟩ hp rfl hV (fun v h' z => by obtain ⟨z1, rfl⟩ := z; cases z1; exact k) (fun E h' z => nomatch z.1) b1 b2
theorem v_callS4u {idx : Nat} {x1 x2 x3 x4 : Value} (d : decode M.2.1 pc = .ok (.invokestatic idx, 3)) (hw : Cond.methodLink M.1.cls idx M1.1 ∈ vT) (hst : Cond.static M1.1 ∈ vT) (o1 : plainName M1.1.cls = true) (c1 : x1.category = 1) (c2 : x2.category = 1) (c3 : x3.category = 1) (c4 : x4.category = 1) (o3 : 4 ≤ M1.2.2.1) (o4 : vCw M1 ∈ vT) (o5 : Cond.initialized M1.1.cls ∈ vT) (o9 : M1.1.cls ≠ "java/lang/invoke/MethodHandle" ∧ M1.1.cls ≠ "java/lang/invoke/VarHandle") (hp : (parseMethodDescriptor M1.1.desc).map (fun d => d.parameters.length) = some 4) (hV : V G M1 fr1 lo1 0 (vArgs 0 [x1, x2, x3, x4]) [] h mc1 ms1 (vRet none h1)) (k : V G M fr lo (pc + 3) lv st h1 (mc - mc1) (ms - ms1) Q) (b1 : mc1 ≤ mc := by first | exact Nat.le_of_ble_eq_true rfl | omega) (b2 : ms1 ≤ ms := by first | exact Nat.le_of_ble_eq_true rfl | omega) (b3 : fr1 + 1 ≤ fr := by first | exact Nat.le_of_ble_eq_true rfl | omega) (b4 : 8 + (M1.2.2.1 + 11) + lo1 ≤ lo := by first | exact Nat.le_of_ble_eq_true rfl | omega) (b5 : (st.map fun v => v.category).sum ≤ 8 := by first | exact Nat.le_of_ble_eq_true rfl | simp [Value.category, vRf_cat]) : V G M fr lo pc lv (x4 :: x3 :: x2 :: x1 :: st) h mc ms Q := v_callS (As := [x1, x2, x3, x4]) (st := st) d hw hst ⟨o1, (by intro v hv; simp only [List.mem_cons, List.not_mem_nil, or_false] at hv; rcases hv with rfl | rfl | rfl | rfl <;> first | rfl | assumption), o3, o4, o5, b3, b4, b5, o9.1, o9.2⟩ hp rfl hV (fun v h' z => by obtain ⟨z1, rfl⟩ := z; cases z1; exact k) (fun E h' z => nomatch z.1) b1 b2
theorem v_callS5 {idx : Nat} {x1 x2 x3 x4 x5 : Value} (d : decode M.2.1 pc = .ok (.invokestatic idx, 3)) (hw : Cond.methodLink M.1.cls idx M1.1 ∈ vT) (hst : Cond.static M1.1 ∈ vT) (o1 : plainName M1.1.cls = true) (c1 : x1.category = 1) (c2 : x2.category = 1) (c3 : x3.category = 1) (c4 : x4.category = 1) (c5 : x5.category = 1) (o3 : 5 ≤ M1.2.2.1) (o4 : vCw M1 ∈ vT) (o5 : Cond.initialized M1.1.cls ∈ vT) (o9 : M1.1.cls ≠ "java/lang/invoke/MethodHandle" ∧ M1.1.cls ≠ "java/lang/invoke/VarHandle") (hp : (parseMethodDescriptor M1.1.desc).map (fun d => d.parameters.length) = some 5) (hV : V G M1 fr1 lo1 0 (vArgs 0 [x1, x2, x3, x4, x5]) [] h mc1 ms1 Q1) (kk : ∀ v h', Q1 (.inl v) h' → V G M fr lo (pc + 3) lv (v.toList ++ st) h' (mc - mc1) (ms - ms1) Q) (kx : ∀ E h', Q1 (.inr E) h' → vXh G M fr lo pc lv h' (mc - mc1) (ms - ms1) Q E) (b1 : mc1 ≤ mc := by first | exact Nat.le_of_ble_eq_true rfl | omega) (b2 : ms1 ≤ ms := by first | exact Nat.le_of_ble_eq_true rfl | omega) (b3 : fr1 + 1 ≤ fr := by first | exact Nat.le_of_ble_eq_true rfl | omega) (b4 : 8 + (M1.2.2.1 + 11) + lo1 ≤ lo := by first | exact Nat.le_of_ble_eq_true rfl | omega) (b5 : (st.map fun v => v.category).sum ≤ 8 := by first | exact Nat.le_of_ble_eq_true rfl | simp [Value.category, vRf_cat]) : V G M fr lo pc lv (x5 :: x4 :: x3 :: x2 :: x1 :: st) h mc ms Q := v_callS (As := [x1, x2, x3, x4, x5]) (st := st) d hw hst ⟨o1, (by intro v hv; simp only [List.mem_cons, List.not_mem_nil, or_false] at hv; rcases hv with rfl | rfl | rfl | rfl | rfl <;> first | rfl | assumption), o3, o4, o5, b3, b4, b5, o9.1, o9.2⟩ hp rfl hV kk kx b1 b2
theorem v_callS5r {idx : Nat} {x1 x2 x3 x4 x5 : Value} {x : Value} (d : decode M.2.1 pc = .ok (.invokestatic idx, 3)) (hw : Cond.methodLink M.1.cls idx M1.1 ∈ vT) (hst : Cond.static M1.1 ∈ vT) (o1 : plainName M1.1.cls = true) (c1 : x1.category = 1) (c2 : x2.category = 1) (c3 : x3.category = 1) (c4 : x4.category = 1) (c5 : x5.category = 1) (o3 : 5 ≤ M1.2.2.1) (o4 : vCw M1 ∈ vT) (o5 : Cond.initialized M1.1.cls ∈ vT) (o9 : M1.1.cls ≠ "java/lang/invoke/MethodHandle" ∧ M1.1.cls ≠ "java/lang/invoke/VarHandle") (hp : (parseMethodDescriptor M1.1.desc).map (fun d => d.parameters.length) = some 5) (hV : V G M1 fr1 lo1 0 (vArgs 0 [x1, x2, x3, x4, x5]) [] h mc1 ms1 (vRet (some x) h1)) (k : V G M fr lo (pc + 3) lv (x :: st) h1 (mc - mc1) (ms - ms1) Q) (b1 : mc1 ≤ mc := by first | exact Nat.le_of_ble_eq_true rfl | omega) (b2 : ms1 ≤ ms := by first | exact Nat.le_of_ble_eq_true rfl | omega) (b3 : fr1 + 1 ≤ fr := by first | exact Nat.le_of_ble_eq_true rfl | omega) (b4 : 8 + (M1.2.2.1 + 11) + lo1 ≤ lo := by first | exact Nat.le_of_ble_eq_true rfl | omega) (b5 : (st.map fun v => v.category).sum ≤ 8 := by first | exact Nat.le_of_ble_eq_true rfl | simp [Value.category, vRf_cat]) : V G M fr lo pc lv (x5 :: x4 :: x3 :: x2 :: x1 :: st) h mc ms Q := v_callS (As := [x1, x2, x3, x4, x5]) (st := st) d hw hst ⟨o1, (by intro v hv; simp only [List.mem_cons, List.not_mem_nil, or_false] at hv; rcases hv with rfl | rfl | rfl | rfl | rfl <;> first | rfl | assumption), o3, o4, o5, b3, b4, b5, o9.1, o9.2⟩ hp rfl hV (fun v h' z => by obtain ⟨z1, rfl⟩ := z; cases z1; exact k) (fun E h' z => nomatch z.1) b1 b2
theorem v_callS5u {idx : Nat} {x1 x2 x3 x4 x5 : Value} (d : decode M.2.1 pc = .ok (.invokestatic idx, 3)) (hw : Cond.methodLink M.1.cls idx M1.1 ∈ vT) (hst : Cond.static M1.1 ∈ vT) (o1 : plainName M1.1.cls = true) (c1 : x1.category = 1) (c2 : x2.category = 1) (c3 : x3.category = 1) (c4 : x4.category = 1) (c5 : x5.category = 1) (o3 : 5 ≤ M1.2.2.1) (o4 : vCw M1 ∈ vT) (o5 : Cond.initialized M1.1.cls ∈ vT) (o9 : M1.1.cls ≠ "java/lang/invoke/MethodHandle" ∧ M1.1.cls ≠ "java/lang/invoke/VarHandle") (hp : (parseMethodDescriptor M1.1.desc).map (fun d => d.parameters.length) = some 5) (hV : V G M1 fr1 lo1 0 (vArgs 0 [x1, x2, x3, x4, x5]) [] h mc1 ms1 (vRet none h1)) (k : V G M fr lo (pc + 3) lv st h1 (mc - mc1) (ms - ms1) Q) (b1 : mc1 ≤ mc := by first | exact Nat.le_of_ble_eq_true rfl | omega) (b2 : ms1 ≤ ms := by first | exact Nat.le_of_ble_eq_true rfl | omega) (b3 : fr1 + 1 ≤ fr := by first | exact Nat.le_of_ble_eq_true rfl | omega) (b4 : 8 + (M1.2.2.1 + 11) + lo1 ≤ lo := by first | exact Nat.le_of_ble_eq_true rfl | omega) (b5 : (st.map fun v => v.category).sum ≤ 8 := by first | exact Nat.le_of_ble_eq_true rfl | simp [Value.category, vRf_cat]) : V G M fr lo pc lv (x5 :: x4 :: x3 :: x2 :: x1 :: st) h mc ms Q := v_callS (As := [x1, x2, x3, x4, x5]) (st := st) d hw hst ⟨o1, (by intro v hv; simp only [List.mem_cons, List.not_mem_nil, or_false] at hv; rcases hv with rfl | rfl | rfl | rfl | rfl <;> first | rfl | assumption), o3, o4, o5, b3, b4, b5, o9.1, o9.2⟩ hp rfl hV (fun v h' z => by obtain ⟨z1, rfl⟩ := z; cases z1; exact k) (fun E h' z => nomatch z.1) b1 b2
theorem v_callS6 {idx : Nat} {x1 x2 x3 x4 x5 x6 : Value} (d : decode M.2.1 pc = .ok (.invokestatic idx, 3)) (hw : Cond.methodLink M.1.cls idx M1.1 ∈ vT) (hst : Cond.static M1.1 ∈ vT) (o1 : plainName M1.1.cls = true) (c1 : x1.category = 1) (c2 : x2.category = 1) (c3 : x3.category = 1) (c4 : x4.category = 1) (c5 : x5.category = 1) (c6 : x6.category = 1) (o3 : 6 ≤ M1.2.2.1) (o4 : vCw M1 ∈ vT) (o5 : Cond.initialized M1.1.cls ∈ vT) (o9 : M1.1.cls ≠ "java/lang/invoke/MethodHandle" ∧ M1.1.cls ≠ "java/lang/invoke/VarHandle") (hp : (parseMethodDescriptor M1.1.desc).map (fun d => d.parameters.length) = some 6) (hV : V G M1 fr1 lo1 0 (vArgs 0 [x1, x2, x3, x4, x5, x6]) [] h mc1 ms1 Q1) (kk : ∀ v h', Q1 (.inl v) h' → V G M fr lo (pc + 3) lv (v.toList ++ st) h' (mc - mc1) (ms - ms1) Q) (kx : ∀ E h', Q1 (.inr E) h' → vXh G M fr lo pc lv h' (mc - mc1) (ms - ms1) Q E) (b1 : mc1 ≤ mc := by first | exact Nat.le_of_ble_eq_true rfl | omega) (b2 : ms1 ≤ ms := by first | exact Nat.le_of_ble_eq_true rfl | omega) (b3 : fr1 + 1 ≤ fr := by first | exact Nat.le_of_ble_eq_true rfl | omega) (b4 : 8 + (M1.2.2.1 + 11) + lo1 ≤ lo := by first | exact Nat.le_of_ble_eq_true rfl | omega) (b5 : (st.map fun v => v.category).sum ≤ 8 := by first | exact Nat.le_of_ble_eq_true rfl | simp [Value.category, vRf_cat]) : V G M fr lo pc lv (x6 :: x5 :: x4 :: x3 :: x2 :: x1 :: st) h mc ms Q := v_callS (As := [x1, x2, x3, x4, x5, x6]) (st := st) d hw hst ⟨o1, (by intro v hv; simp only [List.mem_cons, List.not_mem_nil, or_false] at hv; rcases hv with rfl | rfl | rfl | rfl | rfl | rfl <;> first | rfl | assumption), o3, o4, o5, b3, b4, b5, o9.1, o9.2⟩ hp rfl hV kk kx b1 b2
theorem v_callS6r {idx : Nat} {x1 x2 x3 x4 x5 x6 : Value} {x : Value} (d : decode M.2.1 pc = .ok (.invokestatic idx, 3)) (hw : Cond.methodLink M.1.cls idx M1.1 ∈ vT) (hst : Cond.static M1.1 ∈ vT) (o1 : plainName M1.1.cls = true) (c1 : x1.category = 1) (c2 : x2.category = 1) (c3 : x3.category = 1) (c4 : x4.category = 1) (c5 : x5.category = 1) (c6 : x6.category = 1) (o3 : 6 ≤ M1.2.2.1) (o4 : vCw M1 ∈ vT) (o5 : Cond.initialized M1.1.cls ∈ vT) (o9 : M1.1.cls ≠ "java/lang/invoke/MethodHandle" ∧ M1.1.cls ≠ "java/lang/invoke/VarHandle") (hp : (parseMethodDescriptor M1.1.desc).map (fun d => d.parameters.length) = some 6) (hV : V G M1 fr1 lo1 0 (vArgs 0 [x1, x2, x3, x4, x5, x6]) [] h mc1 ms1 (vRet (some x) h1)) (k : V G M fr lo (pc + 3) lv (x :: st) h1 (mc - mc1) (ms - ms1) Q) (b1 : mc1 ≤ mc := by first | exact Nat.le_of_ble_eq_true rfl | omega) (b2 : ms1 ≤ ms := by first | exact Nat.le_of_ble_eq_true rfl | omega) (b3 : fr1 + 1 ≤ fr := by first | exact Nat.le_of_ble_eq_true rfl | omega) (b4 : 8 + (M1.2.2.1 + 11) + lo1 ≤ lo := by first | exact Nat.le_of_ble_eq_true rfl | omega) (b5 : (st.map fun v => v.category).sum ≤ 8 := by first | exact Nat.le_of_ble_eq_true rfl | simp [Value.category, vRf_cat]) : V G M fr lo pc lv (x6 :: x5 :: x4 :: x3 :: x2 :: x1 :: st) h mc ms Q := v_callS (As := [x1, x2, x3, x4, x5, x6]) (st := st) d hw hst ⟨o1, (by intro v hv; simp only [List.mem_cons, List.not_mem_nil, or_false] at hv; rcases hv with rfl | rfl | rfl | rfl | rfl | rfl <;> first | rfl | assumption), o3, o4, o5, b3, b4, b5, o9.1, o9.2⟩ hp rfl hV (fun v h' z => by obtain ⟨z1, rfl⟩ := z; cases z1; exact k) (fun E h' z => nomatch z.1) b1 b2
theorem v_callS6u {idx : Nat} {x1 x2 x3 x4 x5 x6 : Value} (d : decode M.2.1 pc = .ok (.invokestatic idx, 3)) (hw : Cond.methodLink M.1.cls idx M1.1 ∈ vT) (hst : Cond.static M1.1 ∈ vT) (o1 : plainName M1.1.cls = true) (c1 : x1.category = 1) (c2 : x2.category = 1) (c3 : x3.category = 1) (c4 : x4.category = 1) (c5 : x5.category = 1) (c6 : x6.category = 1) (o3 : 6 ≤ M1.2.2.1) (o4 : vCw M1 ∈ vT) (o5 : Cond.initialized M1.1.cls ∈ vT) (o9 : M1.1.cls ≠ "java/lang/invoke/MethodHandle" ∧ M1.1.cls ≠ "java/lang/invoke/VarHandle") (hp : (parseMethodDescriptor M1.1.desc).map (fun d => d.parameters.length) = some 6) (hV : V G M1 fr1 lo1 0 (vArgs 0 [x1, x2, x3, x4, x5, x6]) [] h mc1 ms1 (vRet none h1)) (k : V G M fr lo (pc + 3) lv st h1 (mc - mc1) (ms - ms1) Q) (b1 : mc1 ≤ mc := by first | exact Nat.le_of_ble_eq_true rfl | omega) (b2 : ms1 ≤ ms := by first | exact Nat.le_of_ble_eq_true rfl | omega) (b3 : fr1 + 1 ≤ fr := by first | exact Nat.le_of_ble_eq_true rfl | omega) (b4 : 8 + (M1.2.2.1 + 11) + lo1 ≤ lo := by first | exact Nat.le_of_ble_eq_true rfl | omega) (b5 : (st.map fun v => v.category).sum ≤ 8 := by first | exact Nat.le_of_ble_eq_true rfl | simp [Value.category, vRf_cat]) : V G M fr lo pc lv (x6 :: x5 :: x4 :: x3 :: x2 :: x1 :: st) h mc ms Q := v_callS (As := [x1, x2, x3, x4, x5, x6]) (st := st) d hw hst ⟨o1, (by intro v hv; simp only [List.mem_cons, List.not_mem_nil, or_false] at hv; rcases hv with rfl | rfl | rfl | rfl | rfl | rfl <;> first | rfl | assumption), o3, o4, o5, b3, b4, b5, o9.1, o9.2⟩ hp rfl hV (fun v h' z => by obtain ⟨z1, rfl⟩ := z; cases z1; exact k) (fun E h' z => nomatch z.1) b1 b2
theorem v_callS7 {idx : Nat} {x1 x2 x3 x4 x5 x6 x7 : Value} (d : decode M.2.1 pc = .ok (.invokestatic idx, 3)) (hw : Cond.methodLink M.1.cls idx M1.1 ∈ vT) (hst : Cond.static M1.1 ∈ vT) (o1 : plainName M1.1.cls = true) (c1 : x1.category = 1) (c2 : x2.category = 1) (c3 : x3.category = 1) (c4 : x4.category = 1) (c5 : x5.category = 1) (c6 : x6.category = 1) (c7 : x7.category = 1) (o3 : 7 ≤ M1.2.2.1) (o4 : vCw M1 ∈ vT) (o5 : Cond.initialized M1.1.cls ∈ vT) (o9 : M1.1.cls ≠ "java/lang/invoke/MethodHandle" ∧ M1.1.cls ≠ "java/lang/invoke/VarHandle") (hp : (parseMethodDescriptor M1.1.desc).map (fun d => d.parameters.length) = some 7) (hV : V G M1 fr1 lo1 0 (vArgs 0 [x1, x2, x3, x4, x5, x6, x7]) [] h mc1 ms1 Q1) (kk : ∀ v h', Q1 (.inl v) h' → V G M fr lo (pc + 3) lv (v.toList ++ st) h' (mc - mc1) (ms - ms1) Q) (kx : ∀ E h', Q1 (.inr E) h' → vXh G M fr lo pc lv h' (mc - mc1) (ms - ms1) Q E) (b1 : mc1 ≤ mc := by first | exact Nat.le_of_ble_eq_true rfl | omega) (b2 : ms1 ≤ ms := by first | exact Nat.le_of_ble_eq_true rfl | omega) (b3 : fr1 + 1 ≤ fr := by first | exact Nat.le_of_ble_eq_true rfl | omega) (b4 : 8 + (M1.2.2.1 + 11) + lo1 ≤ lo := by first | exact Nat.le_of_ble_eq_true rfl | omega) (b5 : (st.map fun v => v.category).sum ≤ 8 := by first | exact Nat.le_of_ble_eq_true rfl | simp [Value.category, vRf_cat]) : V G M fr lo pc lv (x7 :: x6 :: x5 :: x4 :: x3 :: x2 :: x1 :: st) h mc ms Q := v_callS (As := [x1, x2, x3, x4, x5, x6, x7]) (st := st) d hw hst ⟨o1, (by intro v hv; simp only [List.mem_cons, List.not_mem_nil, or_false] at hv; rcases hv with rfl | rfl | rfl | rfl | rfl | rfl | rfl <;> first | rfl | assumption), o3, o4, o5, b3, b4, b5, o9.1, o9.2⟩ hp rfl hV kk kx b1 b2
theorem v_callS7r {idx : Nat} {x1 x2 x3 x4 x5 x6 x7 : Value} {x : Value} (d : decode M.2.1 pc = .ok (.invokestatic idx, 3)) (hw : Cond.methodLink M.1.cls idx M1.1 ∈ vT) (hst : Cond.static M1.1 ∈ vT) (o1 : plainName M1.1.cls = true) (c1 : x1.category = 1) (c2 : x2.category = 1) (c3 : x3.category = 1) (c4 : x4.category = 1) (c5 : x5.category = 1) (c6 : x6.category = 1) (c7 : x7.category = 1) (o3 : 7 ≤ M1.2.2.1) (o4 : vCw M1 ∈ vT) (o5 : Cond.initialized M1.1.cls ∈ vT) (o9 : M1.1.cls ≠ "java/lang/invoke/MethodHandle" ∧ M1.1.cls ≠ "java/lang/invoke/VarHandle") (hp : (parseMethodDescriptor M1.1.desc).map (fun d => d.parameters.length) = some 7) (hV : V G M1 fr1 lo1 0 (vArgs 0 [x1, x2, x3, x4, x5, x6, x7]) [] h mc1 ms1 (vRet (some x) h1)) (k : V G M fr lo (pc + 3) lv (x :: st) h1 (mc - mc1) (ms - ms1) Q) (b1 : mc1 ≤ mc := by first | exact Nat.le_of_ble_eq_true rfl | omega) (b2 : ms1 ≤ ms := by first | exact Nat.le_of_ble_eq_true rfl | omega) (b3 : fr1 + 1 ≤ fr := by first | exact Nat.le_of_ble_eq_true rfl | omega) (b4 : 8 + (M1.2.2.1 + 11) + lo1 ≤ lo := by first | exact Nat.le_of_ble_eq_true rfl | omega) (b5 : (st.map fun v => v.category).sum ≤ 8 := by first | exact Nat.le_of_ble_eq_true rfl | simp [Value.category, vRf_cat]) : V G M fr lo pc lv (x7 :: x6 :: x5 :: x4 :: x3 :: x2 :: x1 :: st) h mc ms Q := v_callS (As := [x1, x2, x3, x4, x5, x6, x7]) (st := st) d hw hst ⟨o1, (by intro v hv; simp only [List.mem_cons, List.not_mem_nil, or_false] at hv; rcases hv with rfl | rfl | rfl | rfl | rfl | rfl | rfl <;> first | rfl | assumption), o3, o4, o5, b3, b4, b5, o9.1, o9.2⟩ hp rfl hV (fun v h' z => by obtain ⟨z1, rfl⟩ := z; cases z1; exact k) (fun E h' z => nomatch z.1) b1 b2
theorem v_callS7u {idx : Nat} {x1 x2 x3 x4 x5 x6 x7 : Value} (d : decode M.2.1 pc = .ok (.invokestatic idx, 3)) (hw : Cond.methodLink M.1.cls idx M1.1 ∈ vT) (hst : Cond.static M1.1 ∈ vT) (o1 : plainName M1.1.cls = true) (c1 : x1.category = 1) (c2 : x2.category = 1) (c3 : x3.category = 1) (c4 : x4.category = 1) (c5 : x5.category = 1) (c6 : x6.category = 1) (c7 : x7.category = 1) (o3 : 7 ≤ M1.2.2.1) (o4 : vCw M1 ∈ vT) (o5 : Cond.initialized M1.1.cls ∈ vT) (o9 : M1.1.cls ≠ "java/lang/invoke/MethodHandle" ∧ M1.1.cls ≠ "java/lang/invoke/VarHandle") (hp : (parseMethodDescriptor M1.1.desc).map (fun d => d.parameters.length) = some 7) (hV : V G M1 fr1 lo1 0 (vArgs 0 [x1, x2, x3, x4, x5, x6, x7]) [] h mc1 ms1 (vRet none h1)) (k : V G M fr lo (pc + 3) lv st h1 (mc - mc1) (ms - ms1) Q) (b1 : mc1 ≤ mc := by first | exact Nat.le_of_ble_eq_true rfl | omega) (b2 : ms1 ≤ ms := by first | exact Nat.le_of_ble_eq_true rfl | omega) (b3 : fr1 + 1 ≤ fr := by first | exact Nat.le_of_ble_eq_true rfl | omega) (b4 : 8 + (M1.2.2.1 + 11) + lo1 ≤ lo := by first | exact Nat.le_of_ble_eq_true rfl | omega) (b5 : (st.map fun v => v.category).sum ≤ 8 := by first | exact Nat.le_of_ble_eq_true rfl | simp [Value.category, vRf_cat]) : V G M fr lo pc lv (x7 :: x6 :: x5 :: x4 :: x3 :: x2 :: x1 :: st) h mc ms Q := v_callS (As := [x1, x2, x3, x4, x5, x6, x7]) (st := st) d hw hst ⟨o1, (by intro v hv; simp only [List.mem_cons, List.not_mem_nil, or_false] at hv; rcases hv with rfl | rfl | rfl | rfl | rfl | rfl | rfl <;> first | rfl | assumption), o3, o4, o5, b3, b4, b5, o9.1, o9.2⟩ hp rfl hV (fun v h' z => by obtain ⟨z1, rfl⟩ := z; cases z1; exact k) (fun E h' z => nomatch z.1) b1 b2
theorem v_callV0 {idx b ci : Nat} {fs : List Value} {q : vw_C} (d : decode M.2.1 pc = .ok (.invokevirtual idx, 3)) (hf : h.2 b = .inr (ci, fs)) (hb : b ∈ h.1) (hc : vCl[ci]? = some q) (hw : Cond.methodLink M.1.cls idx M1.1 ∈ vT) (hin : Cond.instanceMethod M1.1 ∈ vT) (hse : Cond.selects q.1 M1.1 M1.1 ∈ vT) (o1 : plainName M1.1.cls = true)  (o3 : 1 ≤ M1.2.2.1) (o4 : vCw M1 ∈ vT) (o5 : Cond.initialized M1.1.cls ∈ vT) (o9 : M1.1.cls ≠ "java/lang/invoke/MethodHandle" ∧ M1.1.cls ≠ "java/lang/invoke/VarHandle") (hp : (parseMethodDescriptor M1.1.desc).map (fun d => d.parameters.length) = some 0) (hV : V G M1 fr1 lo1 0 (vArgs 0 (.ref b :: [])) [] h mc1 ms1 Q1) (kk : ∀ v h', Q1 (.inl v) h' → V G M fr lo (pc + 3) lv (v.toList ++ st) h' (mc - mc1) (ms - ms1) Q) (kx : ∀ E h', Q1 (.inr E) h' → vXh G M fr lo pc lv h' (mc - mc1) (ms - ms1) Q E) (b1 : mc1 ≤ mc := by first | exact Nat.le_of_ble_eq_true rfl | omega) (b2 : ms1 ≤ ms := by first | exact Nat.le_of_ble_eq_true rfl | omega) (b3 : fr1 + 1 ≤ fr := by first | exact Nat.le_of_ble_eq_true rfl | omega) (b4 : 8 + (M1.2.2.1 + 11) + lo1 ≤ lo := by first | exact Nat.le_of_ble_eq_true rfl | omega) (b5 : (st.map fun v => v.category).sum ≤ 8 := by first | exact Nat.le_of_ble_eq_true rfl | simp [Value.category, vRf_cat]) : V G M fr lo pc lv (.ref b :: st) h mc ms Q := v_callV (As := []) (st := st) d hf hb hc hw hin hse ⟨o1, (by intro v hv; simp only [List.mem_cons, List.not_mem_nil, or_false] at hv; rcases hv with rfl <;> first | rfl | assumption), o3, o4, o5, b3, b4, b5, o9.1, o9.2⟩ hp rfl hV kk kx b1 b2
theorem v_callV0r {idx b ci : Nat} {fs : List Value} {q : vw_C} {x : Value} (d : decode M.2.1 pc = .ok (.invokevirtual idx, 3)) (hf : h.2 b = .inr (ci, fs)) (hb : b ∈ h.1) (hc : vCl[ci]? = some q) (hw : Cond.methodLink M.1.cls idx M1.1 ∈ vT) (hin : Cond.instanceMethod M1.1 ∈ vT) (hse : Cond.selects q.1 M1.1 M1.1 ∈ vT) (o1 : plainName M1.1.cls = true)  (o3 : 1 ≤ M1.2.2.1) (o4 : vCw M1 ∈ vT) (o5 : Cond.initialized M1.1.cls ∈ vT) (o9 : M1.1.cls ≠ "java/lang/invoke/MethodHandle" ∧ M1.1.cls ≠ "java/lang/invoke/VarHandle") (hp : (parseMethodDescriptor M1.1.desc).map (fun d => d.parameters.length) = some 0) (hV : V G M1 fr1 lo1 0 (vArgs 0 (.ref b :: [])) [] h mc1 ms1 (vRet (some x) h1)) (k : V G M fr lo (pc + 3) lv (x :: st) h1 (mc - mc1) (ms - ms1) Q) (b1 : mc1 ≤ mc := by first | exact Nat.le_of_ble_eq_true rfl | omega) (b2 : ms1 ≤ ms := by first | exact Nat.le_of_ble_eq_true rfl | omega) (b3 : fr1 + 1 ≤ fr := by first | exact Nat.le_of_ble_eq_true rfl | omega) (b4 : 8 + (M1.2.2.1 + 11) + lo1 ≤ lo := by first | exact Nat.le_of_ble_eq_true rfl | omega) (b5 : (st.map fun v => v.category).sum ≤ 8 := by first | exact Nat.le_of_ble_eq_true rfl | simp [Value.category, vRf_cat]) : V G M fr lo pc lv (.ref b :: st) h mc ms Q := v_callV (As := []) (st := st) d hf hb hc hw hin hse ⟨o1, (by intro v hv; simp only [List.mem_cons, List.not_mem_nil, or_false] at hv; rcases hv with rfl <;> first | rfl | assumption), o3, o4, o5, b3, b4, b5, o9.1, o9.2⟩ hp rfl hV (fun v h' z => by obtain ⟨z1, rfl⟩ := z; cases z1; exact k) (fun E h' z => nomatch z.1) b1 b2
theorem v_callV0u {idx b ci : Nat} {fs : List Value} {q : vw_C} (d : decode M.2.1 pc = .ok (.invokevirtual idx, 3)) (hf : h.2 b = .inr (ci, fs)) (hb : b ∈ h.1) (hc : vCl[ci]? = some q) (hw : Cond.methodLink M.1.cls idx M1.1 ∈ vT) (hin : Cond.instanceMethod M1.1 ∈ vT) (hse : Cond.selects q.1 M1.1 M1.1 ∈ vT) (o1 : plainName M1.1.cls = true)  (o3 : 1 ≤ M1.2.2.1) (o4 : vCw M1 ∈ vT) (o5 : Cond.initialized M1.1.cls ∈ vT) (o9 : M1.1.cls ≠ "java/lang/invoke/MethodHandle" ∧ M1.1.cls ≠ "java/lang/invoke/VarHandle") (hp : (parseMethodDescriptor M1.1.desc).map (fun d => d.parameters.length) = some 0) (hV : V G M1 fr1 lo1 0 (vArgs 0 (.ref b :: [])) [] h mc1 ms1 (vRet none h1)) (k : V G M fr lo (pc + 3) lv st h1 (mc - mc1) (ms - ms1) Q) (b1 : mc1 ≤ mc := by first | exact Nat.le_of_ble_eq_true rfl | omega) (b2 : ms1 ≤ ms := by first | exact Nat.le_of_ble_eq_true rfl | omega) (b3 : fr1 + 1 ≤ fr := by first | exact Nat.le_of_ble_eq_true rfl | omega) (b4 : 8 + (M1.2.2.1 + 11) + lo1 ≤ lo := by first | exact Nat.le_of_ble_eq_true rfl | omega) (b5 : (st.map fun v => v.category).sum ≤ 8 := by first | exact Nat.le_of_ble_eq_true rfl | simp [Value.category, vRf_cat]) : V G M fr lo pc lv (.ref b :: st) h mc ms Q := v_callV (As := []) (st := st) d hf hb hc hw hin hse ⟨o1, (by intro v hv; simp only [List.mem_cons, List.not_mem_nil, or_false] at hv; rcases hv with rfl <;> first | rfl | assumption), o3, o4, o5, b3, b4, b5, o9.1, o9.2⟩ hp rfl hV (fun v h' z => by obtain ⟨z1, rfl⟩ := z; cases z1; exact k) (fun E h' z => nomatch z.1) b1 b2
theorem v_callV1 {idx b ci : Nat} {fs : List Value} {q : vw_C} {x1 : Value} (d : decode M.2.1 pc = .ok (.invokevirtual idx, 3)) (hf : h.2 b = .inr (ci, fs)) (hb : b ∈ h.1) (hc : vCl[ci]? = some q) (hw : Cond.methodLink M.1.cls idx M1.1 ∈ vT) (hin : Cond.instanceMethod M1.1 ∈ vT) (hse : Cond.selects q.1 M1.1 M1.1 ∈ vT) (o1 : plainName M1.1.cls = true) (c1 : x1.category = 1) (o3 : 2 ≤ M1.2.2.1) (o4 : vCw M1 ∈ vT) (o5 : Cond.initialized M1.1.cls ∈ vT) (o9 : M1.1.cls ≠ "java/lang/invoke/MethodHandle" ∧ M1.1.cls ≠ "java/lang/invoke/VarHandle") (hp : (parseMethodDescriptor M1.1.desc).map (fun d => d.parameters.length) = some 1) (hV : V G M1 fr1 lo1 0 (vArgs 0 (.ref b :: [x1])) [] h mc1 ms1 Q1) (kk : ∀ v h', Q1 (.inl v) h' → V G M fr lo (pc + 3) lv (v.toList ++ st) h' (mc - mc1) (ms - ms1) Q) (kx : ∀ E h', Q1 (.inr E) h' → vXh G M fr lo pc lv h' (mc - mc1) (ms - ms1) Q E) (b1 : mc1 ≤ mc := by first | exact Nat.le_of_ble_eq_true rfl | omega) (b2 : ms1 ≤ ms := by first | exact Nat.le_of_ble_eq_true rfl | omega) (b3 : fr1 + 1 ≤ fr := by first | exact Nat.le_of_ble_eq_true rfl | omega) (b4 : 8 + (M1.2.2.1 + 11) + lo1 ≤ lo := by first | exact Nat.le_of_ble_eq_true rfl | omega) (b5 : (st.map fun v => v.category).sum ≤ 8 := by first | exact Nat.le_of_ble_eq_true rfl | simp [Value.category, vRf_cat]) : V G M fr lo pc lv (x1 :: .ref b :: st) h mc ms Q := v_callV (As := [x1]) (st := st) d hf hb hc hw hin hse ⟨o1, (by intro v hv; simp only [List.mem_cons, List.not_mem_nil, or_false] at hv; rcases hv with rfl | rfl <;> first | rfl | assumption), o3, o4, o5, b3, b4, b5, o9.1, o9.2⟩ hp rfl hV kk kx b1 b2
theorem v_callV1r {idx b ci : Nat} {fs : List Value} {q : vw_C} {x1 : Value} {x : Value} (d : decode M.2.1 pc = .ok (.invokevirtual idx, 3)) (hf : h.2 b = .inr (ci, fs)) (hb : b ∈ h.1) (hc : vCl[ci]? = some q) (hw : Cond.methodLink M.1.cls idx M1.1 ∈ vT) (hin : Cond.instanceMethod M1.1 ∈ vT) (hse : Cond.selects q.1 M1.1 M1.1 ∈ vT) (o1 : plainName M1.1.cls = true) (c1 : x1.category = 1) (o3 : 2 ≤ M1.2.2.1) (o4 : vCw M1 ∈ vT) (o5 : Cond.initialized M1.1.cls ∈ vT) (o9 : M1.1.cls ≠ "java/lang/invoke/MethodHandle" ∧ M1.1.cls ≠ "java/lang/invoke/VarHandle") (hp : (parseMethodDescriptor M1.1.desc).map (fun d => d.parameters.length) = some 1) (hV : V G M1 fr1 lo1 0 (vArgs 0 (.ref b :: [x1])) [] h mc1 ms1 (vRet (some x) h1)) (k : V G M fr lo (pc + 3) lv (x :: st) h1 (mc - mc1) (ms - ms1) Q) (b1 : mc1 ≤ mc := by first | exact Nat.le_of_ble_eq_true rfl | omega) (b2 : ms1 ≤ ms := by first | exact Nat.le_of_ble_eq_true rfl | omega) (b3 : fr1 + 1 ≤ fr := by first | exact Nat.le_of_ble_eq_true rfl | omega) (b4 : 8 + (M1.2.2.1 + 11) + lo1 ≤ lo := by first | exact Nat.le_of_ble_eq_true rfl | omega) (b5 : (st.map fun v => v.category).sum ≤ 8 := by first | exact Nat.le_of_ble_eq_true rfl | simp [Value.category, vRf_cat]) : V G M fr lo pc lv (x1 :: .ref b :: st) h mc ms Q := v_callV (As := [x1]) (st := st) d hf hb hc hw hin hse ⟨o1, (by intro v hv; simp only [List.mem_cons, List.not_mem_nil, or_false] at hv; rcases hv with rfl | rfl <;> first | rfl | assumption), o3, o4, o5, b3, b4, b5, o9.1, o9.2⟩ hp rfl hV (fun v h' z => by obtain ⟨z1, rfl⟩ := z; cases z1; exact k) (fun E h' z => nomatch z.1) b1 b2
theorem v_callV1u {idx b ci : Nat} {fs : List Value} {q : vw_C} {x1 : Value} (d : decode M.2.1 pc = .ok (.invokevirtual idx, 3)) (hf : h.2 b = .inr (ci, fs)) (hb : b ∈ h.1) (hc : vCl[ci]? = some q) (hw : Cond.methodLink M.1.cls idx M1.1 ∈ vT) (hin : Cond.instanceMethod M1.1 ∈ vT) (hse : Cond.selects q.1 M1.1 M1.1 ∈ vT) (o1 : plainName M1.1.cls = true) (c1 : x1.category = 1) (o3 : 2 ≤ M1.2.2.1) (o4 : vCw M1 ∈ vT) (o5 : Cond.initialized M1.1.cls ∈ vT) (o9 : M1.1.cls ≠ "java/lang/invoke/MethodHandle" ∧ M1.1.cls ≠ "java/lang/invoke/VarHandle") (hp : (parseMethodDescriptor M1.1.desc).map (fun d => d.parameters.length) = some 1) (hV : V G M1 fr1 lo1 0 (vArgs 0 (.ref b :: [x1])) [] h mc1 ms1 (vRet none h1)) (k : V G M fr lo (pc + 3) lv st h1 (mc - mc1) (ms - ms1) Q) (b1 : mc1 ≤ mc := by first | exact Nat.le_of_ble_eq_true rfl | omega) (b2 : ms1 ≤ ms := by first | exact Nat.le_of_ble_eq_true rfl | omega) (b3 : fr1 + 1 ≤ fr := by first | exact Nat.le_of_ble_eq_true rfl | omega) (b4 : 8 + (M1.2.2.1 + 11) + lo1 ≤ lo := by first | exact Nat.le_of_ble_eq_true rfl | omega) (b5 : (st.map fun v => v.category).sum ≤ 8 := by first | exact Nat.le_of_ble_eq_true rfl | simp [Value.category, vRf_cat]) : V G M fr lo pc lv (x1 :: .ref b :: st) h mc ms Q := v_callV (As := [x1]) (st := st) d hf hb hc hw hin hse ⟨o1, (by intro v hv; simp only [List.mem_cons, List.not_mem_nil, or_false] at hv; rcases hv with rfl | rfl <;> first | rfl | assumption), o3, o4, o5, b3, b4, b5, o9.1, o9.2⟩ hp rfl hV (fun v h' z => by obtain ⟨z1, rfl⟩ := z; cases z1; exact k) (fun E h' z => nomatch z.1) b1 b2
theorem v_callV2 {idx b ci : Nat} {fs : List Value} {q : vw_C} {x1 x2 : Value} (d : decode M.2.1 pc = .ok (.invokevirtual idx, 3)) (hf : h.2 b = .inr (ci, fs)) (hb : b ∈ h.1) (hc : vCl[ci]? = some q) (hw : Cond.methodLink M.1.cls idx M1.1 ∈ vT) (hin : Cond.instanceMethod M1.1 ∈ vT) (hse : Cond.selects q.1 M1.1 M1.1 ∈ vT) (o1 : plainName M1.1.cls = true) (c1 : x1.category = 1) (c2 : x2.category = 1) (o3 : 3 ≤ M1.2.2.1) (o4 : vCw M1 ∈ vT) (o5 : Cond.initialized M1.1.cls ∈ vT) (o9 : M1.1.cls ≠ "java/lang/invoke/MethodHandle" ∧ M1.1.cls ≠ "java/lang/invoke/VarHandle") (hp : (parseMethodDescriptor M1.1.desc).map (fun d => d.parameters.length) = some 2) (hV : V G M1 fr1 lo1 0 (vArgs 0 (.ref b :: [x1, x2])) [] h mc1 ms1 Q1) (kk : ∀ v h', Q1 (.inl v) h' → V G M fr lo (pc + 3) lv (v.toList ++ st) h' (mc - mc1) (ms - ms1) Q) (kx : ∀ E h', Q1 (.inr E) h' → vXh G M fr lo pc lv h' (mc - mc1) (ms - ms1) Q E) (b1 : mc1 ≤ mc := by first | exact Nat.le_of_ble_eq_true rfl | omega) (b2 : ms1 ≤ ms := by first | exact Nat.le_of_ble_eq_true rfl | omega) (b3 : fr1 + 1 ≤ fr := by first | exact Nat.le_of_ble_eq_true rfl | omega) (b4 : 8 + (M1.2.2.1 + 11) + lo1 ≤ lo := by first | exact Nat.le_of_ble_eq_true rfl | omega) (b5 : (st.map fun v => v.category).sum ≤ 8 := by first | exact Nat.le_of_ble_eq_true rfl | simp [Value.category, vRf_cat]) : V G M fr lo pc lv (x2 :: x1 :: .ref b :: st) h mc ms Q := v_callV (As := [x1, x2]) (st := st) d hf hb hc hw hin hse ⟨o1, (by intro v hv; simp only [List.mem_cons, List.not_mem_nil, or_false] at hv; rcases hv with rfl | rfl | rfl <;> first | rfl | assumption), o3, o4, o5, b3, b4, b5, o9.1, o9.2⟩ hp rfl hV kk kx b1 b2
theorem v_callV2r {idx b ci : Nat} {fs : List Value} {q : vw_C} {x1 x2 : Value} {x : Value} (d : decode M.2.1 pc = .ok (.invokevirtual idx, 3)) (hf : h.2 b = .inr (ci, fs)) (hb : b ∈ h.1) (hc : vCl[ci]? = some q) (hw : Cond.methodLink M.1.cls idx M1.1 ∈ vT) (hin : Cond.instanceMethod M1.1 ∈ vT) (hse : Cond.selects q.1 M1.1 M1.1 ∈ vT) (o1 : plainName M1.1.cls = true) (c1 : x1.category = 1) (c2 : x2.category = 1) (o3 : 3 ≤ M1.2.2.1) (o4 : vCw M1 ∈ vT) (o5 : Cond.initialized M1.1.cls ∈ vT) (o9 : M1.1.cls ≠ "java/lang/invoke/MethodHandle" ∧ M1.1.cls ≠ "java/lang/invoke/VarHandle") (hp : (parseMethodDescriptor M1.1.desc).map (fun d => d.parameters.length) = some 2) (hV : V G M1 fr1 lo1 0 (vArgs 0 (.ref b :: [x1, x2])) [] h mc1 ms1 (vRet (some x) h1)) (k : V G M fr lo (pc + 3) lv (x :: st) h1 (mc - mc1) (ms - ms1) Q) (b1 : mc1 ≤ mc := by first | exact Nat.le_of_ble_eq_true rfl | omega) (b2 : ms1 ≤ ms := by first | exact Nat.le_of_ble_eq_true rfl | omega) (b3 : fr1 + 1 ≤ fr := by first | exact Nat.le_of_ble_eq_true rfl | omega) (b4 : 8 + (M1.2.2.1 + 11) + lo1 ≤ lo := by first | exact Nat.le_of_ble_eq_true rfl | omega) (b5 : (st.map fun v => v.category).sum ≤ 8 := by first | exact Nat.le_of_ble_eq_true rfl | simp [Value.category, vRf_cat]) : V G M fr lo pc lv (x2 :: x1 :: .ref b :: st) h mc ms Q := v_callV (As := [x1, x2]) (st := st) d hf hb hc hw hin hse ⟨o1, (by intro v hv; simp only [List.mem_cons, List.not_mem_nil, or_false] at hv; rcases hv with rfl | rfl | rfl <;> first | rfl | assumption), o3, o4, o5, b3, b4, b5, o9.1, o9.2⟩ hp rfl hV (fun v h' z => by obtain ⟨z1, rfl⟩ := z; cases z1; exact k) (fun E h' z => nomatch z.1) b1 b2
theorem v_callV2u {idx b ci : Nat} {fs : List Value} {q : vw_C} {x1 x2 : Value} (d : decode M.2.1 pc = .ok (.invokevirtual idx, 3)) (hf : h.2 b = .inr (ci, fs)) (hb : b ∈ h.1) (hc : vCl[ci]? = some q) (hw : Cond.methodLink M.1.cls idx M1.1 ∈ vT) (hin : Cond.instanceMethod M1.1 ∈ vT) (hse : Cond.selects q.1 M1.1 M1.1 ∈ vT) (o1 : plainName M1.1.cls = true) (c1 : x1.category = 1) (c2 : x2.category = 1) (o3 : 3 ≤ M1.2.2.1) (o4 : vCw M1 ∈ vT) (o5 : Cond.initialized M1.1.cls ∈ vT) (o9 : M1.1.cls ≠ "java/lang/invoke/MethodHandle" ∧ M1.1.cls ≠ "java/lang/invoke/VarHandle") (hp : (parseMethodDescriptor M1.1.desc).map (fun d => d.parameters.length) = some 2) (hV : V G M1 fr1 lo1 0 (vArgs 0 (.ref b :: [x1, x2])) [] h mc1 ms1 (vRet none h1)) (k : V G M fr lo (pc + 3) lv st h1 (mc - mc1) (ms - ms1) Q) (b1 : mc1 ≤ mc := by first | exact Nat.le_of_ble_eq_true rfl | omega) (b2 : ms1 ≤ ms := by first | exact Nat.le_of_ble_eq_true rfl | omega) (b3 : fr1 + 1 ≤ fr := by first | exact Nat.le_of_ble_eq_true rfl | omega) (b4 : 8 + (M1.2.2.1 + 11) + lo1 ≤ lo := by first | exact Nat.le_of_ble_eq_true rfl | omega) (b5 : (st.map fun v => v.category).sum ≤ 8 := by first | exact Nat.le_of_ble_eq_true rfl | simp [Value.category, vRf_cat]) : V G M fr lo pc lv (x2 :: x1 :: .ref b :: st) h mc ms Q := v_callV (As := [x1, x2]) (st := st) d hf hb hc hw hin hse ⟨o1, (by intro v hv; simp only [List.mem_cons, List.not_mem_nil, or_false] at hv; rcases hv with rfl | rfl | rfl <;> first | rfl | assumption), o3, o4, o5, b3, b4, b5, o9.1, o9.2⟩ hp rfl hV (fun v h' z => by obtain ⟨z1, rfl⟩ := z; cases z1; exact k) (fun E h' z => nomatch z.1) b1 b2
theorem v_callV3 {idx b ci : Nat} {fs : List Value} {q : vw_C} {x1 x2 x3 : Value} (d : decode M.2.1 pc = .ok (.invokevirtual idx, 3)) (hf : h.2 b = .inr (ci, fs)) (hb : b ∈ h.1) (hc : vCl[ci]? = some q) (hw : Cond.methodLink M.1.cls idx M1.1 ∈ vT) (hin : Cond.instanceMethod M1.1 ∈ vT) (hse : Cond.selects q.1 M1.1 M1.1 ∈ vT) (o1 : plainName M1.1.cls = true) (c1 : x1.category = 1) (c2 : x2.category = 1) (c3 : x3.category = 1) (o3 : 4 ≤ M1.2.2.1) (o4 : vCw M1 ∈ vT) (o5 : Cond.initialized M1.1.cls ∈ vT) (o9 : M1.1.cls ≠ "java/lang/invoke/MethodHandle" ∧ M1.1.cls ≠ "java/lang/invoke/VarHandle") (hp : (parseMethodDescriptor M1.1.desc).map (fun d => d.parameters.length) = some 3) (hV : V G M1 fr1 lo1 0 (vArgs 0 (.ref b :: [x1, x2, x3])) [] h mc1 ms1 Q1) (kk : ∀ v h', Q1 (.inl v) h' → V G M fr lo (pc + 3) lv (v.toList ++ st) h' (mc - mc1) (ms - ms1) Q) (kx : ∀ E h', Q1 (.inr E) h' → vXh G M fr lo pc lv h' (mc - mc1) (ms - ms1) Q E) (b1 : mc1 ≤ mc := by first | exact Nat.le_of_ble_eq_true rfl | omega) (b2 : ms1 ≤ ms := by first | exact Nat.le_of_ble_eq_true rfl | omega) (b3 : fr1 + 1 ≤ fr := by first | exact Nat.le_of_ble_eq_true rfl | omega) (b4 : 8 + (M1.2.2.1 + 11) + lo1 ≤ lo := by first | exact Nat.le_of_ble_eq_true rfl | omega) (b5 : (st.map fun v => v.category).sum ≤ 8 := by first | exact Nat.le_of_ble_eq_true rfl | simp [Value.category, vRf_cat]) : V G M fr lo pc lv (x3 :: x2 :: x1 :: .ref b :: st) h mc ms Q := v_callV (As := [x1, x2, x3]) (st := st) d hf hb hc hw hin hse ⟨o1, (by intro v hv; simp only [List.mem_cons, List.not_mem_nil, or_false] at hv; rcases hv with rfl | rfl | rfl | rfl <;> first | rfl | assumption), o3, o4, o5, b3, b4, b5, o9.1, o9.2⟩ hp rfl hV kk kx b1 b2
theorem v_callV3r {idx b ci : Nat} {fs : List Value} {q : vw_C} {x1 x2 x3 : Value} {x : Value} (d : decode M.2.1 pc = .ok (.invokevirtual idx, 3)) (hf : h.2 b = .inr (ci, fs)) (hb : b ∈ h.1) (hc : vCl[ci]? = some q) (hw : Cond.methodLink M.1.cls idx M1.1 ∈ vT) (hin : Cond.instanceMethod M1.1 ∈ vT) (hse : Cond.selects q.1 M1.1 M1.1 ∈ vT) (o1 : plainName M1.1.cls = true) (c1 : x1.category = 1) (c2 : x2.category = 1) (c3 : x3.category = 1) (o3 : 4 ≤ M1.2.2.1) (o4 : vCw M1 ∈ vT) (o5 : Cond.initialized M1.1.cls ∈ vT) (o9 : M1.1.cls ≠ "java/lang/invoke/MethodHandle" ∧ M1.1.cls ≠ "java/lang/invoke/VarHandle") (hp : (parseMethodDescriptor M1.1.desc).map (fun d => d.parameters.length) = some 3) (hV : V G M1 fr1 lo1 0 (vArgs 0 (.ref b :: [x1, x2, x3])) [] h mc1 ms1 (vRet (some x) h1)) (k : V G M fr lo (pc + 3) lv (x :: st) h1 (mc - mc1) (ms - ms1) Q) (b1 : mc1 ≤ mc := by first | exact Nat.le_of_ble_eq_true rfl | omega) (b2 : ms1 ≤ ms := by first | exact Nat.le_of_ble_eq_true rfl | omega) (b3 : fr1 + 1 ≤ fr := by first | exact Nat.le_of_ble_eq_true rfl | omega) (b4 : 8 + (M1.2.2.1 + 11) + lo1 ≤ lo := by first | exact Nat.le_of_ble_eq_true rfl | omega) (b5 : (st.map fun v => v.category).sum ≤ 8 := by first | exact Nat.le_of_ble_eq_true rfl | simp [Value.category, vRf_cat]) : V G M fr lo pc lv (x3 :: x2 :: x1 :: .ref b :: st) h mc ms Q := v_callV (As := [x1, x2, x3]) (st := st) d hf hb hc hw hin hse ⟨o1, (by intro v hv; simp only [List.mem_cons, List.not_mem_nil, or_false] at hv; rcases hv with rfl | rfl | rfl | rfl <;> first | rfl | assumption), o3, o4, o5, b3, b4, b5, o9.1, o9.2⟩ hp rfl hV (fun v h' z => by obtain ⟨z1, rfl⟩ := z; cases z1; exact k) (fun E h' z => nomatch z.1) b1 b2
theorem v_callV3u {idx b ci : Nat} {fs : List Value} {q : vw_C} {x1 x2 x3 : Value} (d : decode M.2.1 pc = .ok (.invokevirtual idx, 3)) (hf : h.2 b = .inr (ci, fs)) (hb : b ∈ h.1) (hc : vCl[ci]? = some q) (hw : Cond.methodLink M.1.cls idx M1.1 ∈ vT) (hin : Cond.instanceMethod M1.1 ∈ vT) (hse : Cond.selects q.1 M1.1 M1.1 ∈ vT) (o1 : plainName M1.1.cls = true) (c1 : x1.category = 1) (c2 : x2.category = 1) (c3 : x3.category = 1) (o3 : 4 ≤ M1.2.2.1) (o4 : vCw M1 ∈ vT) (o5 : Cond.initialized M1.1.cls ∈ vT) (o9 : M1.1.cls ≠ "java/lang/invoke/MethodHandle" ∧ M1.1.cls ≠ "java/lang/invoke/VarHandle") (hp : (parseMethodDescriptor M1.1.desc).map (fun d => d.parameters.length) = some 3) (hV : V G M1 fr1 lo1 0 (vArgs 0 (.ref b :: [x1, x2, x3])) [] h mc1 ms1 (vRet none h1)) (k : V G M fr lo (pc + 3) lv st h1 (mc - mc1) (ms - ms1) Q) (b1 : mc1 ≤ mc := by first | exact Nat.le_of_ble_eq_true rfl | omega) (b2 : ms1 ≤ ms := by first | exact Nat.le_of_ble_eq_true rfl | omega) (b3 : fr1 + 1 ≤ fr := by first | exact Nat.le_of_ble_eq_true rfl | omega) (b4 : 8 + (M1.2.2.1 + 11) + lo1 ≤ lo := by first | exact Nat.le_of_ble_eq_true rfl | omega) (b5 : (st.map fun v => v.category).sum ≤ 8 := by first | exact Nat.le_of_ble_eq_true rfl | simp [Value.category, vRf_cat]) : V G M fr lo pc lv (x3 :: x2 :: x1 :: .ref b :: st) h mc ms Q := v_callV (As := [x1, x2, x3]) (st := st) d hf hb hc hw hin hse ⟨o1, (by intro v hv; simp only [List.mem_cons, List.not_mem_nil, or_false] at hv; rcases hv with rfl | rfl | rfl | rfl <;> first | rfl | assumption), o3, o4, o5, b3, b4, b5, o9.1, o9.2⟩ hp rfl hV (fun v h' z => by obtain ⟨z1, rfl⟩ := z; cases z1; exact k) (fun E h' z => nomatch z.1) b1 b2
theorem v_callV4 {idx b ci : Nat} {fs : List Value} {q : vw_C} {x1 x2 x3 x4 : Value} (d : decode M.2.1 pc = .ok (.invokevirtual idx, 3)) (hf : h.2 b = .inr (ci, fs)) (hb : b ∈ h.1) (hc : vCl[ci]? = some q) (hw : Cond.methodLink M.1.cls idx M1.1 ∈ vT) (hin : Cond.instanceMethod M1.1 ∈ vT) (hse : Cond.selects q.1 M1.1 M1.1 ∈ vT) (o1 : plainName M1.1.cls = true) (c1 : x1.category = 1) (c2 : x2.category = 1) (c3 : x3.category = 1) (c4 : x4.category = 1) (o3 : 5 ≤ M1.2.2.1) (o4 : vCw M1 ∈ vT) (o5 : Cond.initialized M1.1.cls ∈ vT) (o9 : M1.1.cls ≠ "java/lang/invoke/MethodHandle" ∧ M1.1.cls ≠ "java/lang/invoke/VarHandle") (hp : (parseMethodDescriptor M1.1.desc).map (fun d => d.parameters.length) = some 4) (hV : V G M1 fr1 lo1 0 (vArgs 0 (.ref b :: [x1, x2, x3, x4])) [] h mc1 ms1 Q1) (kk : ∀ v h', Q1 (.inl v) h' → V G M fr lo (pc + 3) lv (v.toList ++ st) h' (mc - mc1) (ms - ms1) Q) (kx : ∀ E h', Q1 (.inr E) h' → vXh G M fr lo pc lv h' (mc - mc1) (ms - ms1) Q E) (b1 : mc1 ≤ mc := by first | exact Nat.le_of_ble_eq_true rfl | omega) (b2 : ms1 ≤ ms := by first | exact Nat.le_of_ble_eq_true rfl | omega) (b3 : fr1 + 1 ≤ fr := by first | exact Nat.le_of_ble_eq_true rfl | omega) (b4 : 8 + (M1.2.2.1 + 11) + lo1 ≤ lo := by first | exact Nat.le_of_ble_eq_true rfl | omega) (b5 : (st.map fun v => v.category).sum ≤ 8 := by first | exact Nat.le_of_ble_eq_true rfl | simp [Value.category, vRf_cat]) : V G M fr lo pc lv (x4 :: x3 :: x2 :: x1 :: .ref b :: st) h mc ms Q := v_callV (As := [x1, x2, x3, x4]) (st := st) d hf hb hc hw hin hse ⟨o1, (by intro v hv; simp only [List.mem_cons, List.not_mem_nil, or_false] at hv; rcases hv with rfl | rfl | rfl | rfl | rfl <;> first | rfl | assumption), o3, o4, o5, b3, b4, b5, o9.1, o9.2⟩ hp rfl hV kk kx b1 b2
theorem v_callV4r {idx b ci : Nat} {fs : List Value} {q : vw_C} {x1 x2 x3 x4 : Value} {x : Value} (d : decode M.2.1 pc = .ok (.invokevirtual idx, 3)) (hf : h.2 b = .inr (ci, fs)) (hb : b ∈ h.1) (hc : vCl[ci]? = some q) (hw : Cond.methodLink M.1.cls idx M1.1 ∈ vT) (hin : Cond.instanceMethod M1.1 ∈ vT) (hse : Cond.selects q.1 M1.1 M1.1 ∈ vT) (o1 : plainName M1.1.cls = true) (c1 : x1.category = 1) (c2 : x2.category = 1) (c3 : x3.category = 1) (c4 : x4.category = 1) (o3 : 5 ≤ M1.2.2.1) (o4 : vCw M1 ∈ vT) (o5 : Cond.initialized M1.1.cls ∈ vT) (o9 : M1.1.cls ≠ "java/lang/invoke/MethodHandle" ∧ M1.1.cls ≠ "java/lang/invoke/VarHandle") (hp : (parseMethodDescriptor M1.1.desc).map (fun d => d.parameters.length) = some 4) (hV : V G M1 fr1 lo1 0 (vArgs 0 (.ref b :: [x1, x2, x3, x4])) [] h mc1 ms1 (vRet (some x) h1)) (k : V G M fr lo (pc + 3) lv (x :: st) h1 (mc - mc1) (ms - ms1) Q) (b1 : mc1 ≤ mc := by first | exact Nat.le_of_ble_eq_true rfl | omega) (b2 : ms1 ≤ ms := by first | exact Nat.le_of_ble_eq_true rfl | omega) (b3 : fr1 + 1 ≤ fr := by first | exact Nat.le_of_ble_eq_true rfl | omega) (b4 : 8 + (M1.2.2.1 + 11) + lo1 ≤ lo := by first | exact Nat.le_of_ble_eq_true rfl | omega) (b5 : (st.map fun v => v.category).sum ≤ 8 := by first | exact Nat.le_of_ble_eq_true rfl | simp [Value.category, vRf_cat]) : V G M fr lo pc lv (x4 :: x3 :: x2 :: x1 :: .ref b :: st) h mc ms Q := v_callV (As := [x1, x2, x3, x4]) (st := st) d hf hb hc hw hin hse ⟨o1, (by intro v hv; simp only [List.mem_cons, List.not_mem_nil, or_false] at hv; rcases hv with rfl | rfl | rfl | rfl | rfl <;> first | rfl | assumption), o3, o4, o5, b3, b4, b5, o9.1, o9.2⟩ hp rfl hV (fun v h' z => by obtain ⟨z1, rfl⟩ := z; cases z1; exact k) (fun E h' z => nomatch z.1) b1 b2
theorem v_callV4u {idx b ci : Nat} {fs : List Value} {q : vw_C} {x1 x2 x3 x4 : Value} (d : decode M.2.1 pc = .ok (.invokevirtual idx, 3)) (hf : h.2 b = .inr (ci, fs)) (hb : b ∈ h.1) (hc : vCl[ci]? = some q) (hw : Cond.methodLink M.1.cls idx M1.1 ∈ vT) (hin : Cond.instanceMethod M1.1 ∈ vT) (hse : Cond.selects q.1 M1.1 M1.1 ∈ vT) (o1 : plainName M1.1.cls = true) (c1 : x1.category = 1) (c2 : x2.category = 1) (c3 : x3.category = 1) (c4 : x4.category = 1) (o3 : 5 ≤ M1.2.2.1) (o4 : vCw M1 ∈ vT) (o5 : Cond.initialized M1.1.cls ∈ vT) (o9 : M1.1.cls ≠ "java/lang/invoke/MethodHandle" ∧ M1.1.cls ≠ "java/lang/invoke/VarHandle") (hp : (parseMethodDescriptor M1.1.desc).map (fun d => d.parameters.length) = some 4) (hV : V G M1 fr1 lo1 0 (vArgs 0 (.ref b :: [x1, x2, x3, x4])) [] h mc1 ms1 (vRet none h1)) (k : V G M fr lo (pc + 3) lv st h1 (mc - mc1) (ms - ms1) Q) (b1 : mc1 ≤ mc := by first | exact Nat.le_of_ble_eq_true rfl | omega) (b2 : ms1 ≤ ms := by first | exact Nat.le_of_ble_eq_true rfl | omega) (b3 : fr1 + 1 ≤ fr := by first | exact Nat.le_of_ble_eq_true rfl | omega) (b4 : 8 + (M1.2.2.1 + 11) + lo1 ≤ lo := by first | exact Nat.le_of_ble_eq_true rfl | omega) (b5 : (st.map fun v => v.category).sum ≤ 8 := by first | exact Nat.le_of_ble_eq_true rfl | simp [Value.category, vRf_cat]) : V G M fr lo pc lv (x4 :: x3 :: x2 :: x1 :: .ref b :: st) h mc ms Q := v_callV (As := [x1, x2, x3, x4]) (st := st) d hf hb hc hw hin hse ⟨o1, (by intro v hv; simp only [List.mem_cons, List.not_mem_nil, or_false] at hv; rcases hv with rfl | rfl | rfl | rfl | rfl <;> first | rfl | assumption), o3, o4, o5, b3, b4, b5, o9.1, o9.2⟩ hp rfl hV (fun v h' z => by obtain ⟨z1, rfl⟩ := z; cases z1; exact k) (fun E h' z => nomatch z.1) b1 b2
theorem v_callV5 {idx b ci : Nat} {fs : List Value} {q : vw_C} {x1 x2 x3 x4 x5 : Value} (d : decode M.2.1 pc = .ok (.invokevirtual idx, 3)) (hf : h.2 b = .inr (ci, fs)) (hb : b ∈ h.1) (hc : vCl[ci]? = some q) (hw : Cond.methodLink M.1.cls idx M1.1 ∈ vT) (hin : Cond.instanceMethod M1.1 ∈ vT) (hse : Cond.selects q.1 M1.1 M1.1 ∈ vT) (o1 : plainName M1.1.cls = true) (c1 : x1.category = 1) (c2 : x2.category = 1) (c3 : x3.category = 1) (c4 : x4.category = 1) (c5 : x5.category = 1) (o3 : 6 ≤ M1.2.2.1) (o4 : vCw M1 ∈ vT) (o5 : Cond.initialized M1.1.cls ∈ vT) (o9 : M1.1.cls ≠ "java/lang/invoke/MethodHandle" ∧ M1.1.cls ≠ "java/lang/invoke/VarHandle") (hp : (parseMethodDescriptor M1.1.desc).map (fun d => d.parameters.length) = some 5) (hV : V G M1 fr1 lo1 0 (vArgs 0 (.ref b :: [x1, x2, x3, x4, x5])) [] h mc1 ms1 Q1) (kk : ∀ v h', Q1 (.inl v) h' → V G M fr lo (pc + 3) lv (v.toList ++ st) h' (mc - mc1) (ms - ms1) Q) (kx : ∀ E h', Q1 (.inr E) h' → vXh G M fr lo pc lv h' (mc - mc1) (ms - ms1) Q E) (b1 : mc1 ≤ mc := by first | exact Nat.le_of_ble_eq_true rfl | omega) (b2 : ms1 ≤ ms := by first | exact Nat.le_of_ble_eq_true rfl | omega) (b3 : fr1 + 1 ≤ fr := by first | exact Nat.le_of_ble_eq_true rfl | omega) (b4 : 8 + (M1.2.2.1 + 11) + lo1 ≤ lo := by first | exact Nat.le_of_ble_eq_true rfl | omega) (b5 : (st.map fun v => v.category).sum ≤ 8 := by first | exact Nat.le_of_ble_eq_true rfl | simp [Value.category, vRf_cat]) : V G M fr lo pc lv (x5 :: x4 :: x3 :: x2 :: x1 :: .ref b :: st) h mc ms Q := v_callV (As := [x1, x2, x3, x4, x5]) (st := st) d hf hb hc hw hin hse ⟨o1, (by intro v hv; simp only [List.mem_cons, List.not_mem_nil, or_false] at hv; rcases hv with rfl | rfl | rfl | rfl | rfl | rfl <;> first | rfl | assumption), o3, o4, o5, b3, b4, b5, o9.1, o9.2⟩ hp rfl hV kk kx b1 b2
theorem v_callV5r {idx b ci : Nat} {fs : List Value} {q : vw_C} {x1 x2 x3 x4 x5 : Value} {x : Value} (d : decode M.2.1 pc = .ok (.invokevirtual idx, 3)) (hf : h.2 b = .inr (ci, fs)) (hb : b ∈ h.1) (hc : vCl[ci]? = some q) (hw : Cond.methodLink M.1.cls idx M1.1 ∈ vT) (hin : Cond.instanceMethod M1.1 ∈ vT) (hse : Cond.selects q.1 M1.1 M1.1 ∈ vT) (o1 : plainName M1.1.cls = true) (c1 : x1.category = 1) (c2 : x2.category = 1) (c3 : x3.category = 1) (c4 : x4.category = 1) (c5 : x5.category = 1) (o3 : 6 ≤ M1.2.2.1) (o4 : vCw M1 ∈ vT) (o5 : Cond.initialized M1.1.cls ∈ vT) (o9 : M1.1.cls ≠ "java/lang/invoke/MethodHandle" ∧ M1.1.cls ≠ "java/lang/invoke/VarHandle") (hp : (parseMethodDescriptor M1.1.desc).map (fun d => d.parameters.length) = some 5) (hV : V G M1 fr1 lo1 0 (vArgs 0 (.ref b :: [x1, x2, x3, x4, x5])) [] h mc1 ms1 (vRet (some x) h1)) (k : V G M fr lo (pc + 3) lv (x :: st) h1 (mc - mc1) (ms - ms1) Q) (b1 : mc1 ≤ mc := by first | exact Nat.le_of_ble_eq_true rfl | omega) (b2 : ms1 ≤ ms := by first | exact Nat.le_of_ble_eq_true rfl | omega) (b3 : fr1 + 1 ≤ fr := by first | exact Nat.le_of_ble_eq_true rfl | omega) (b4 : 8 + (M1.2.2.1 + 11) + lo1 ≤ lo := by first | exact Nat.le_of_ble_eq_true rfl | omega) (b5 : (st.map fun v => v.category).sum ≤ 8 := by first | exact Nat.le_of_ble_eq_true rfl | simp [Value.category, vRf_cat]) : V G M fr lo pc lv (x5 :: x4 :: x3 :: x2 :: x1 :: .ref b :: st) h mc ms Q := v_callV (As := [x1, x2, x3, x4, x5]) (st := st) d hf hb hc hw hin hse ⟨o1, (by intro v hv; simp only [List.mem_cons, List.not_mem_nil, or_false] at hv; rcases hv with rfl | rfl | rfl | rfl | rfl | rfl <;> first | rfl | assumption), o3, o4, o5, b3, b4, b5, o9.1, o9.2⟩ hp rfl hV (fun v h' z => by obtain ⟨z1, rfl⟩ := z; cases z1; exact k) (fun E h' z => nomatch z.1) b1 b2
theorem v_callV5u {idx b ci : Nat} {fs : List Value} {q : vw_C} {x1 x2 x3 x4 x5 : Value} (d : decode M.2.1 pc = .ok (.invokevirtual idx, 3)) (hf : h.2 b = .inr (ci, fs)) (hb : b ∈ h.1) (hc : vCl[ci]? = some q) (hw : Cond.methodLink M.1.cls idx M1.1 ∈ vT) (hin : Cond.instanceMethod M1.1 ∈ vT) (hse : Cond.selects q.1 M1.1 M1.1 ∈ vT) (o1 : plainName M1.1.cls = true) (c1 : x1.category = 1) (c2 : x2.category = 1) (c3 : x3.category = 1) (c4 : x4.category = 1) (c5 : x5.category = 1) (o3 : 6 ≤ M1.2.2.1) (o4 : vCw M1 ∈ vT) (o5 : Cond.initialized M1.1.cls ∈ vT) (o9 : M1.1.cls ≠ "java/lang/invoke/MethodHandle" ∧ M1.1.cls ≠ "java/lang/invoke/VarHandle") (hp : (parseMethodDescriptor M1.1.desc).map (fun d => d.parameters.length) = some 5) (hV : V G M1 fr1 lo1 0 (vArgs 0 (.ref b :: [x1, x2, x3, x4, x5])) [] h mc1 ms1 (vRet none h1)) (k : V G M fr lo (pc + 3) lv st h1 (mc - mc1) (ms - ms1) Q) (b1 : mc1 ≤ mc := by first | exact Nat.le_of_ble_eq_true rfl | omega) (b2 : ms1 ≤ ms := by first | exact Nat.le_of_ble_eq_true rfl | omega) (b3 : fr1 + 1 ≤ fr := by first | exact Nat.le_of_ble_eq_true rfl | omega) (b4 : 8 + (M1.2.2.1 + 11) + lo1 ≤ lo := by first | exact Nat.le_of_ble_eq_true rfl | omega) (b5 : (st.map fun v => v.category).sum ≤ 8 := by first | exact Nat.le_of_ble_eq_true rfl | simp [Value.category, vRf_cat]) : V G M fr lo pc lv (x5 :: x4 :: x3 :: x2 :: x1 :: .ref b :: st) h mc ms Q := v_callV (As := [x1, x2, x3, x4, x5]) (st := st) d hf hb hc hw hin hse ⟨o1, (by intro v hv; simp only [List.mem_cons, List.not_mem_nil, or_false] at hv; rcases hv with rfl | rfl | rfl | rfl | rfl | rfl <;> first | rfl | assumption), o3, o4, o5, b3, b4, b5, o9.1, o9.2⟩ hp rfl hV (fun v h' z => by obtain ⟨z1, rfl⟩ := z; cases z1; exact k) (fun E h' z => nomatch z.1) b1 b2
theorem v_callI0 {idx b : Nat} (d : decode M.2.1 pc = .ok (.invokespecial idx, 3)) (n1 : M1.1.name = "<init>") (n2 : M1.2.2.2.2 = []) (n3 : M1.2.2.2.1 = none) (hw : Cond.methodLink M.1.cls idx M1.1 ∈ vT ∨ (Cond.methodLinkNest M.1.cls idx M1.1 "CodeShrinker" = vNest)) (hin : Cond.instanceMethod M1.1 ∈ vT) (o1 : plainName M1.1.cls = true)  (o3 : 1 ≤ M1.2.2.1) (o4 : vCw M1 ∈ vT) (o5 : Cond.initialized M1.1.cls ∈ vT) (o9 : M1.1.cls ≠ "java/lang/invoke/MethodHandle" ∧ M1.1.cls ≠ "java/lang/invoke/VarHandle") (hp : (parseMethodDescriptor M1.1.desc).map (fun d => d.parameters.length) = some 0) (hV : V G M1 fr1 lo1 0 (vArgs 0 (.ref b :: [])) [] h mc1 ms1 Q1) (kk : ∀ v h', Q1 (.inl v) h' → V G M fr lo (pc + 3) lv (v.toList ++ st) h' (mc - mc1) (ms - ms1) Q) (kx : ∀ E h', Q1 (.inr E) h' → vXh G M fr lo pc lv h' (mc - mc1) (ms - ms1) Q E) (b1 : mc1 ≤ mc := by first | exact Nat.le_of_ble_eq_true rfl | omega) (b2 : ms1 ≤ ms := by first | exact Nat.le_of_ble_eq_true rfl | omega) (b3 : fr1 + 1 ≤ fr := by first | exact Nat.le_of_ble_eq_true rfl | omega) (b4 : 8 + (M1.2.2.1 + 11) + lo1 ≤ lo := by first | exact Nat.le_of_ble_eq_true rfl | omega) (b5 : (st.map fun v => v.category).sum ≤ 8 := by first | exact Nat.le_of_ble_eq_true rfl | simp [Value.category, vRf_cat]) : V G M fr lo pc lv (.ref b :: st) h mc ms Q := v_callI (As := []) (st := st) d n1 n2 n3 hw hin ⟨o1, (by intro v hv; simp only [List.mem_cons, List.not_mem_nil, or_false] at hv; rcases hv with rfl <;> first | rfl | assumption), o3, o4, o5, b3, b4, b5, o9.1, o9.2⟩ hp rfl hV kk kx b1 b2
theorem v_callI0u {idx b : Nat} (d : decode M.2.1 pc = .ok (.invokespecial idx, 3)) (n1 : M1.1.name = "<init>") (n2 : M1.2.2.2.2 = []) (n3 : M1.2.2.2.1 = none) (hw : Cond.methodLink M.1.cls idx M1.1 ∈ vT ∨ (Cond.methodLinkNest M.1.cls idx M1.1 "CodeShrinker" = vNest)) (hin : Cond.instanceMethod M1.1 ∈ vT) (o1 : plainName M1.1.cls = true)  (o3 : 1 ≤ M1.2.2.1) (o4 : vCw M1 ∈ vT) (o5 : Cond.initialized M1.1.cls ∈ vT) (o9 : M1.1.cls ≠ "java/lang/invoke/MethodHandle" ∧ M1.1.cls ≠ "java/lang/invoke/VarHandle") (hp : (parseMethodDescriptor M1.1.desc).map (fun d => d.parameters.length) = some 0) (hV : V G M1 fr1 lo1 0 (vArgs 0 (.ref b :: [])) [] h mc1 ms1 (vRet none h1)) (k : V G M fr lo (pc + 3) lv st h1 (mc - mc1) (ms - ms1) Q) (b1 : mc1 ≤ mc := by first | exact Nat.le_of_ble_eq_true rfl | omega) (b2 : ms1 ≤ ms := by first | exact Nat.le_of_ble_eq_true rfl | omega) (b3 : fr1 + 1 ≤ fr := by first | exact Nat.le_of_ble_eq_true rfl | omega) (b4 : 8 + (M1.2.2.1 + 11) + lo1 ≤ lo := by first | exact Nat.le_of_ble_eq_true rfl | omega) (b5 : (st.map fun v => v.category).sum ≤ 8 := by first | exact Nat.le_of_ble_eq_true rfl | simp [Value.category, vRf_cat]) : V G M fr lo pc lv (.ref b :: st) h mc ms Q := v_callI (As := []) (st := st) d n1 n2 n3 hw hin ⟨o1, (by intro v hv; simp only [List.mem_cons, List.not_mem_nil, or_false] at hv; rcases hv with rfl <;> first | rfl | assumption), o3, o4, o5, b3, b4, b5, o9.1, o9.2⟩ hp rfl hV (fun v h' z => by obtain ⟨z1, rfl⟩ := z; cases z1; exact k) (fun E h' z => nomatch z.1) b1 b2
theorem v_callI1 {idx b : Nat} {x1 : Value} (d : decode M.2.1 pc = .ok (.invokespecial idx, 3)) (n1 : M1.1.name = "<init>") (n2 : M1.2.2.2.2 = []) (n3 : M1.2.2.2.1 = none) (hw : Cond.methodLink M.1.cls idx M1.1 ∈ vT ∨ (Cond.methodLinkNest M.1.cls idx M1.1 "CodeShrinker" = vNest)) (hin : Cond.instanceMethod M1.1 ∈ vT) (o1 : plainName M1.1.cls = true) (c1 : x1.category = 1) (o3 : 2 ≤ M1.2.2.1) (o4 : vCw M1 ∈ vT) (o5 : Cond.initialized M1.1.cls ∈ vT) (o9 : M1.1.cls ≠ "java/lang/invoke/MethodHandle" ∧ M1.1.cls ≠ "java/lang/invoke/VarHandle") (hp : (parseMethodDescriptor M1.1.desc).map (fun d => d.parameters.length) = some 1) (hV : V G M1 fr1 lo1 0 (vArgs 0 (.ref b :: [x1])) [] h mc1 ms1 Q1) (kk : ∀ v h', Q1 (.inl v) h' → V G M fr lo (pc + 3) lv (v.toList ++ st) h' (mc - mc1) (ms - ms1) Q) (kx : ∀ E h', Q1 (.inr E) h' → vXh G M fr lo pc lv h' (mc - mc1) (ms - ms1) Q E) (b1 : mc1 ≤ mc := by first | exact Nat.le_of_ble_eq_true rfl | omega) (b2 : ms1 ≤ ms := by first | exact Nat.le_of_ble_eq_true rfl | omega) (b3 : fr1 + 1 ≤ fr := by first | exact Nat.le_of_ble_eq_true rfl | omega) (b4 : 8 + (M1.2.2.1 + 11) + lo1 ≤ lo := by first | exact Nat.le_of_ble_eq_true rfl | omega) (b5 : (st.map fun v => v.category).sum ≤ 8 := by first | exact Nat.le_of_ble_eq_true rfl | simp [Value.category, vRf_cat]) : V G M fr lo pc lv (x1 :: .ref b :: st) h mc ms Q := v_callI (As := [x1]) (st := st) d n1 n2 n3 hw hin ⟨o1, (by intro v hv; simp only [List.mem_cons, List.not_mem_nil, or_false] at hv; rcases hv with rfl | rfl <;> first | rfl | assumption), o3, o4, o5, b3, b4, b5, o9.1, o9.2⟩ hp rfl hV kk kx b1 b2
theorem v_callI1u {idx b : Nat} {x1 : Value} (d : decode M.2.1 pc = .ok (.invokespecial idx, 3)) (n1 : M1.1.name = "<init>") (n2 : M1.2.2.2.2 = []) (n3 : M1.2.2.2.1 = none) (hw : Cond.methodLink M.1.cls idx M1.1 ∈ vT ∨ (Cond.methodLinkNest M.1.cls idx M1.1 "CodeShrinker" = vNest)) (hin : Cond.instanceMethod M1.1 ∈ vT) (o1 : plainName M1.1.cls = true) (c1 : x1.category = 1) (o3 : 2 ≤ M1.2.2.1) (o4 : vCw M1 ∈ vT) (o5 : Cond.initialized M1.1.cls ∈ vT) (o9 : M1.1.cls ≠ "java/lang/invoke/MethodHandle" ∧ M1.1.cls ≠ "java/lang/invoke/VarHandle") (hp : (parseMethodDescriptor M1.1.desc).map (fun d => d.parameters.length) = some 1) (hV : V G M1 fr1 lo1 0 (vArgs 0 (.ref b :: [x1])) [] h mc1 ms1 (vRet none h1)) (k : V G M fr lo (pc + 3) lv st h1 (mc - mc1) (ms - ms1) Q) (b1 : mc1 ≤ mc := by first | exact Nat.le_of_ble_eq_true rfl | omega) (b2 : ms1 ≤ ms := by first | exact Nat.le_of_ble_eq_true rfl | omega) (b3 : fr1 + 1 ≤ fr := by first | exact Nat.le_of_ble_eq_true rfl | omega) (b4 : 8 + (M1.2.2.1 + 11) + lo1 ≤ lo := by first | exact Nat.le_of_ble_eq_true rfl | omega) (b5 : (st.map fun v => v.category).sum ≤ 8 := by first | exact Nat.le_of_ble_eq_true rfl | simp [Value.category, vRf_cat]) : V G M fr lo pc lv (x1 :: .ref b :: st) h mc ms Q := v_callI (As := [x1]) (st := st) d n1 n2 n3 hw hin ⟨o1, (by intro v hv; simp only [List.mem_cons, List.not_mem_nil, or_false] at hv; rcases hv with rfl | rfl <;> first | rfl | assumption), o3, o4, o5, b3, b4, b5, o9.1, o9.2⟩ hp rfl hV (fun v h' z => by obtain ⟨z1, rfl⟩ := z; cases z1; exact k) (fun E h' z => nomatch z.1) b1 b2
theorem v_callI2 {idx b : Nat} {x1 x2 : Value} (d : decode M.2.1 pc = .ok (.invokespecial idx, 3)) (n1 : M1.1.name = "<init>") (n2 : M1.2.2.2.2 = []) (n3 : M1.2.2.2.1 = none) (hw : Cond.methodLink M.1.cls idx M1.1 ∈ vT ∨ (Cond.methodLinkNest M.1.cls idx M1.1 "CodeShrinker" = vNest)) (hin : Cond.instanceMethod M1.1 ∈ vT) (o1 : plainName M1.1.cls = true) (c1 : x1.category = 1) (c2 : x2.category = 1) (o3 : 3 ≤ M1.2.2.1) (o4 : vCw M1 ∈ vT) (o5 : Cond.initialized M1.1.cls ∈ vT) (o9 : M1.1.cls ≠ "java/lang/invoke/MethodHandle" ∧ M1.1.cls ≠ "java/lang/invoke/VarHandle") (hp : (parseMethodDescriptor M1.1.desc).map (fun d => d.parameters.length) = some 2) (hV : V G M1 fr1 lo1 0 (vArgs 0 (.ref b :: [x1, x2])) [] h mc1 ms1 Q1) (kk : ∀ v h', Q1 (.inl v) h' → V G M fr lo (pc + 3) lv (v.toList ++ st) h' (mc - mc1) (ms - ms1) Q) (kx : ∀ E h', Q1 (.inr E) h' → vXh G M fr lo pc lv h' (mc - mc1) (ms - ms1) Q E) (b1 : mc1 ≤ mc := by first | exact Nat.le_of_ble_eq_true rfl | omega) (b2 : ms1 ≤ ms := by first | exact Nat.le_of_ble_eq_true rfl | omega) (b3 : fr1 + 1 ≤ fr := by first | exact Nat.le_of_ble_eq_true rfl | omega) (b4 : 8 + (M1.2.2.1 + 11) + lo1 ≤ lo := by first | exact Nat.le_of_ble_eq_true rfl | omega) (b5 : (st.map fun v => v.category).sum ≤ 8 := by first | exact Nat.le_of_ble_eq_true rfl | simp [Value.category, vRf_cat]) : V G M fr lo pc lv (x2 :: x1 :: .ref b :: st) h mc ms Q := v_callI (As := [x1, x2]) (st := st) d n1 n2 n3 hw hin ⟨o1, (by intro v hv; simp only [List.mem_cons, List.not_mem_nil, or_false] at hv; rcases hv with rfl | rfl | rfl <;> first | rfl | assumption), o3, o4, o5, b3, b4, b5, o9.1, o9.2⟩ hp rfl hV kk kx b1 b2
theorem v_callI2u {idx b : Nat} {x1 x2 : Value} (d : decode M.2.1 pc = .ok (.invokespecial idx, 3)) (n1 : M1.1.name = "<init>") (n2 : M1.2.2.2.2 = []) (n3 : M1.2.2.2.1 = none) (hw : Cond.methodLink M.1.cls idx M1.1 ∈ vT ∨ (Cond.methodLinkNest M.1.cls idx M1.1 "CodeShrinker" = vNest)) (hin : Cond.instanceMethod M1.1 ∈ vT) (o1 : plainName M1.1.cls = true) (c1 : x1.category = 1) (c2 : x2.category = 1) (o3 : 3 ≤ M1.2.2.1) (o4 : vCw M1 ∈ vT) (o5 : Cond.initialized M1.1.cls ∈ vT) (o9 : M1.1.cls ≠ "java/lang/invoke/MethodHandle" ∧ M1.1.cls ≠ "java/lang/invoke/VarHandle") (hp : (parseMethodDescriptor M1.1.desc).map (fun d => d.parameters.length) = some 2) (hV : V G M1 fr1 lo1 0 (vArgs 0 (.ref b :: [x1, x2])) [] h mc1 ms1 (vRet none h1)) (k : V G M fr lo (pc + 3) lv st h1 (mc - mc1) (ms - ms1) Q) (b1 : mc1 ≤ mc := by first | exact Nat.le_of_ble_eq_true rfl | omega) (b2 : ms1 ≤ ms := by first | exact Nat.le_of_ble_eq_true rfl | omega) (b3 : fr1 + 1 ≤ fr := by first | exact Nat.le_of_ble_eq_true rfl | omega) (b4 : 8 + (M1.2.2.1 + 11) + lo1 ≤ lo := by first | exact Nat.le_of_ble_eq_true rfl | omega) (b5 : (st.map fun v => v.category).sum ≤ 8 := by first | exact Nat.le_of_ble_eq_true rfl | simp [Value.category, vRf_cat]) : V G M fr lo pc lv (x2 :: x1 :: .ref b :: st) h mc ms Q := v_callI (As := [x1, x2]) (st := st) d n1 n2 n3 hw hin ⟨o1, (by intro v hv; simp only [List.mem_cons, List.not_mem_nil, or_false] at hv; rcases hv with rfl | rfl | rfl <;> first | rfl | assumption), o3, o4, o5, b3, b4, b5, o9.1, o9.2⟩ hp rfl hV (fun v h' z => by obtain ⟨z1, rfl⟩ := z; cases z1; exact k) (fun E h' z => nomatch z.1) b1 b2
theorem v_callI3 {idx b : Nat} {x1 x2 x3 : Value} (d : decode M.2.1 pc = .ok (.invokespecial idx, 3)) (n1 : M1.1.name = "<init>") (n2 : M1.2.2.2.2 = []) (n3 : M1.2.2.2.1 = none) (hw : Cond.methodLink M.1.cls idx M1.1 ∈ vT ∨ (Cond.methodLinkNest M.1.cls idx M1.1 "CodeShrinker" = vNest)) (hin : Cond.instanceMethod M1.1 ∈ vT) (o1 : plainName M1.1.cls = true) (c1 : x1.category = 1) (c2 : x2.category = 1) (c3 : x3.category = 1) (o3 : 4 ≤ M1.2.2.1) (o4 : vCw M1 ∈ vT) (o5 : Cond.initialized M1.1.cls ∈ vT) (o9 : M1.1.cls ≠ "java/lang/invoke/MethodHandle" ∧ M1.1.cls ≠ "java/lang/invoke/VarHandle") (hp : (parseMethodDescriptor M1.1.desc).map (fun d => d.parameters.length) = some 3) (hV : V G M1 fr1 lo1 0 (vArgs 0 (.ref b :: [x1, x2, x3])) [] h mc1 ms1 Q1) (kk : ∀ v h', Q1 (.inl v) h' → V G M fr lo (pc + 3) lv (v.toList ++ st) h' (mc - mc1) (ms - ms1) Q) (kx : ∀ E h', Q1 (.inr E) h' → vXh G M fr lo pc lv h' (mc - mc1) (ms - ms1) Q E) (b1 : mc1 ≤ mc := by first | exact Nat.le_of_ble_eq_true rfl | omega) (b2 : ms1 ≤ ms := by first | exact Nat.le_of_ble_eq_true rfl | omega) (b3 : fr1 + 1 ≤ fr := by first | exact Nat.le_of_ble_eq_true rfl | omega) (b4 : 8 + (M1.2.2.1 + 11) + lo1 ≤ lo := by first | exact Nat.le_of_ble_eq_true rfl | omega) (b5 : (st.map fun v => v.category).sum ≤ 8 := by first | exact Nat.le_of_ble_eq_true rfl | simp [Value.category, vRf_cat]) : V G M fr lo pc lv (x3 :: x2 :: x1 :: .ref b :: st) h mc ms Q := v_callI (As := [x1, x2, x3]) (st := st) d n1 n2 n3 hw hin ⟨o1, (by intro v hv; simp only [List.mem_cons, List.not_mem_nil, or_false] at hv; rcases hv with rfl | rfl | rfl | rfl <;> first | rfl | assumption), o3, o4, o5, b3, b4, b5, o9.1, o9.2⟩ hp rfl hV kk kx b1 b2
theorem v_callI3u {idx b : Nat} {x1 x2 x3 : Value} (d : decode M.2.1 pc = .ok (.invokespecial idx, 3)) (n1 : M1.1.name = "<init>") (n2 : M1.2.2.2.2 = []) (n3 : M1.2.2.2.1 = none) (hw : Cond.methodLink M.1.cls idx M1.1 ∈ vT ∨ (Cond.methodLinkNest M.1.cls idx M1.1 "CodeShrinker" = vNest)) (hin : Cond.instanceMethod M1.1 ∈ vT) (o1 : plainName M1.1.cls = true) (c1 : x1.category = 1) (c2 : x2.category = 1) (c3 : x3.category = 1) (o3 : 4 ≤ M1.2.2.1) (o4 : vCw M1 ∈ vT) (o5 : Cond.initialized M1.1.cls ∈ vT) (o9 : M1.1.cls ≠ "java/lang/invoke/MethodHandle" ∧ M1.1.cls ≠ "java/lang/invoke/VarHandle") (hp : (parseMethodDescriptor M1.1.desc).map (fun d => d.parameters.length) = some 3) (hV : V G M1 fr1 lo1 0 (vArgs 0 (.ref b :: [x1, x2, x3])) [] h mc1 ms1 (vRet none h1)) (k : V G M fr lo (pc + 3) lv st h1 (mc - mc1) (ms - ms1) Q) (b1 : mc1 ≤ mc := by first | exact Nat.le_of_ble_eq_true rfl | omega) (b2 : ms1 ≤ ms := by first | exact Nat.le_of_ble_eq_true rfl | omega) (b3 : fr1 + 1 ≤ fr := by first | exact Nat.le_of_ble_eq_true rfl | omega) (b4 : 8 + (M1.2.2.1 + 11) + lo1 ≤ lo := by first | exact Nat.le_of_ble_eq_true rfl | omega) (b5 : (st.map fun v => v.category).sum ≤ 8 := by first | exact Nat.le_of_ble_eq_true rfl | simp [Value.category, vRf_cat]) : V G M fr lo pc lv (x3 :: x2 :: x1 :: .ref b :: st) h mc ms Q := v_callI (As := [x1, x2, x3]) (st := st) d n1 n2 n3 hw hin ⟨o1, (by intro v hv; simp only [List.mem_cons, List.not_mem_nil, or_false] at hv; rcases hv with rfl | rfl | rfl | rfl <;> first | rfl | assumption), o3, o4, o5, b3, b4, b5, o9.1, o9.2⟩ hp rfl hV (fun v h' z => by obtain ⟨z1, rfl⟩ := z; cases z1; exact k) (fun E h' z => nomatch z.1) b1 b2
theorem v_callI4 {idx b : Nat} {x1 x2 x3 x4 : Value} (d : decode M.2.1 pc = .ok (.invokespecial idx, 3)) (n1 : M1.1.name = "<init>") (n2 : M1.2.2.2.2 = []) (n3 : M1.2.2.2.1 = none) (hw : Cond.methodLink M.1.cls idx M1.1 ∈ vT ∨ (Cond.methodLinkNest M.1.cls idx M1.1 "CodeShrinker" = vNest)) (hin : Cond.instanceMethod M1.1 ∈ vT) (o1 : plainName M1.1.cls = true) (c1 : x1.category = 1) (c2 : x2.category = 1) (c3 : x3.category = 1) (c4 : x4.category = 1) (o3 : 5 ≤ M1.2.2.1) (o4 : vCw M1 ∈ vT) (o5 : Cond.initialized M1.1.cls ∈ vT) (o9 : M1.1.cls ≠ "java/lang/invoke/MethodHandle" ∧ M1.1.cls ≠ "java/lang/invoke/VarHandle") (hp : (parseMethodDescriptor M1.1.desc).map (fun d => d.parameters.length) = some 4) (hV : V G M1 fr1 lo1 0 (vArgs 0 (.ref b :: [x1, x2, x3, x4])) [] h mc1 ms1 Q1) (kk : ∀ v h', Q1 (.inl v) h' → V G M fr lo (pc + 3) lv (v.toList ++ st) h' (mc - mc1) (ms - ms1) Q) (kx : ∀ E h', Q1 (.inr E) h' → vXh G M fr lo pc lv h' (mc - mc1) (ms - ms1) Q E) (b1 : mc1 ≤ mc := by first | exact Nat.le_of_ble_eq_true rfl | omega) (b2 : ms1 ≤ ms := by first | exact Nat.le_of_ble_eq_true rfl | omega) (b3 : fr1 + 1 ≤ fr := by first | exact Nat.le_of_ble_eq_true rfl | omega) (b4 : 8 + (M1.2.2.1 + 11) + lo1 ≤ lo := by first | exact Nat.le_of_ble_eq_true rfl | omega) (b5 : (st.map fun v => v.category).sum ≤ 8 := by first | exact Nat.le_of_ble_eq_true rfl | simp [Value.category, vRf_cat]) : V G M fr lo pc lv (x4 :: x3 :: x2 :: x1 :: .ref b :: st) h mc ms Q := v_callI (As := [x1, x2, x3, x4]) (st := st) d n1 n2 n3 hw hin ⟨o1, (by intro v hv; simp only [List.mem_cons, List.not_mem_nil, or_false] at hv; rcases hv with rfl | rfl | rfl | rfl | rfl <;> first | rfl | assumption), o3, o4, o5, b3, b4, b5, o9.1, o9.2⟩ hp rfl hV kk kx b1 b2
theorem v_callI4u {idx b : Nat} {x1 x2 x3 x4 : Value} (d : decode M.2.1 pc = .ok (.invokespecial idx, 3)) (n1 : M1.1.name = "<init>") (n2 : M1.2.2.2.2 = []) (n3 : M1.2.2.2.1 = none) (hw : Cond.methodLink M.1.cls idx M1.1 ∈ vT ∨ (Cond.methodLinkNest M.1.cls idx M1.1 "CodeShrinker" = vNest)) (hin : Cond.instanceMethod M1.1 ∈ vT) (o1 : plainName M1.1.cls = true) (c1 : x1.category = 1) (c2 : x2.category = 1) (c3 : x3.category = 1) (c4 : x4.category = 1) (o3 : 5 ≤ M1.2.2.1) (o4 : vCw M1 ∈ vT) (o5 : Cond.initialized M1.1.cls ∈ vT) (o9 : M1.1.cls ≠ "java/lang/invoke/MethodHandle" ∧ M1.1.cls ≠ "java/lang/invoke/VarHandle") (hp : (parseMethodDescriptor M1.1.desc).map (fun d => d.parameters.length) = some 4) (hV : V G M1 fr1 lo1 0 (vArgs 0 (.ref b :: [x1, x2, x3, x4])) [] h mc1 ms1 (vRet none h1)) (k : V G M fr lo (pc + 3) lv st h1 (mc - mc1) (ms - ms1) Q) (b1 : mc1 ≤ mc := by first | exact Nat.le_of_ble_eq_true rfl | omega) (b2 : ms1 ≤ ms := by first | exact Nat.le_of_ble_eq_true rfl | omega) (b3 : fr1 + 1 ≤ fr := by first | exact Nat.le_of_ble_eq_true rfl | omega) (b4 : 8 + (M1.2.2.1 + 11) + lo1 ≤ lo := by first | exact Nat.le_of_ble_eq_true rfl | omega) (b5 : (st.map fun v => v.category).sum ≤ 8 := by first | exact Nat.le_of_ble_eq_true rfl | simp [Value.category, vRf_cat]) : V G M fr lo pc lv (x4 :: x3 :: x2 :: x1 :: .ref b :: st) h mc ms Q := v_callI (As := [x1, x2, x3, x4]) (st := st) d n1 n2 n3 hw hin ⟨o1, (by intro v hv; simp only [List.mem_cons, List.not_mem_nil, or_false] at hv; rcases hv with rfl | rfl | rfl | rfl | rfl <;> first | rfl | assumption), o3, o4, o5, b3, b4, b5, o9.1, o9.2⟩ hp rfl hV (fun v h' z => by obtain ⟨z1, rfl⟩ := z; cases z1; exact k) (fun E h' z => nomatch z.1) b1 b2
theorem v_callI5 {idx b : Nat} {x1 x2 x3 x4 x5 : Value} (d : decode M.2.1 pc = .ok (.invokespecial idx, 3)) (n1 : M1.1.name = "<init>") (n2 : M1.2.2.2.2 = []) (n3 : M1.2.2.2.1 = none) (hw : Cond.methodLink M.1.cls idx M1.1 ∈ vT ∨ (Cond.methodLinkNest M.1.cls idx M1.1 "CodeShrinker" = vNest)) (hin : Cond.instanceMethod M1.1 ∈ vT) (o1 : plainName M1.1.cls = true) (c1 : x1.category = 1) (c2 : x2.category = 1) (c3 : x3.category = 1) (c4 : x4.category = 1) (c5 : x5.category = 1) (o3 : 6 ≤ M1.2.2.1) (o4 : vCw M1 ∈ vT) (o5 : Cond.initialized M1.1.cls ∈ vT) (o9 : M1.1.cls ≠ "java/lang/invoke/MethodHandle" ∧ M1.1.cls ≠ "java/lang/invoke/VarHandle") (hp : (parseMethodDescriptor M1.1.desc).map (fun d => d.parameters.length) = some 5) (hV : V G M1 fr1 lo1 0 (vArgs 0 (.ref b :: [x1, x2, x3, x4, x5])) [] h mc1 ms1 Q1) (kk : ∀ v h', Q1 (.inl v) h' → V G M fr lo (pc + 3) lv (v.toList ++ st) h' (mc - mc1) (ms - ms1) Q) (kx : ∀ E h', Q1 (.inr E) h' → vXh G M fr lo pc lv h' (mc - mc1) (ms - ms1) Q E) (b1 : mc1 ≤ mc := by first | exact Nat.le_of_ble_eq_true rfl | omega) (b2 : ms1 ≤ ms := by first | exact Nat.le_of_ble_eq_true rfl | omega) (b3 : fr1 + 1 ≤ fr := by first | exact Nat.le_of_ble_eq_true rfl | omega) (b4 : 8 + (M1.2.2.1 + 11) + lo1 ≤ lo := by first | exact Nat.le_of_ble_eq_true rfl | omega) (b5 : (st.map fun v => v.category).sum ≤ 8 := by first | exact Nat.le_of_ble_eq_true rfl | simp [Value.category, vRf_cat]) : V G M fr lo pc lv (x5 :: x4 :: x3 :: x2 :: x1 :: .ref b :: st) h mc ms Q := v_callI (As := [x1, x2, x3, x4, x5]) (st := st) d n1 n2 n3 hw hin ⟨o1, (by intro v hv; simp only [List.mem_cons, List.not_mem_nil, or_false] at hv; rcases hv with rfl | rfl | rfl | rfl | rfl | rfl <;> first | rfl | assumption), o3, o4, o5, b3, b4, b5, o9.1, o9.2⟩ hp rfl hV kk kx b1 b2
theorem v_callI5u {idx b : Nat} {x1 x2 x3 x4 x5 : Value} (d : decode M.2.1 pc = .ok (.invokespecial idx, 3)) (n1 : M1.1.name = "<init>") (n2 : M1.2.2.2.2 = []) (n3 : M1.2.2.2.1 = none) (hw : Cond.methodLink M.1.cls idx M1.1 ∈ vT ∨ (Cond.methodLinkNest M.1.cls idx M1.1 "CodeShrinker" = vNest)) (hin : Cond.instanceMethod M1.1 ∈ vT) (o1 : plainName M1.1.cls = true) (c1 : x1.category = 1) (c2 : x2.category = 1) (c3 : x3.category = 1) (c4 : x4.category = 1) (c5 : x5.category = 1) (o3 : 6 ≤ M1.2.2.1) (o4 : vCw M1 ∈ vT) (o5 : Cond.initialized M1.1.cls ∈ vT) (o9 : M1.1.cls ≠ "java/lang/invoke/MethodHandle" ∧ M1.1.cls ≠ "java/lang/invoke/VarHandle") (hp : (parseMethodDescriptor M1.1.desc).map (fun d => d.parameters.length) = some 5) (hV : V G M1 fr1 lo1 0 (vArgs 0 (.ref b :: [x1, x2, x3, x4, x5])) [] h mc1 ms1 (vRet none h1)) (k : V G M fr lo (pc + 3) lv st h1 (mc - mc1) (ms - ms1) Q) (b1 : mc1 ≤ mc := by first | exact Nat.le_of_ble_eq_true rfl | omega) (b2 : ms1 ≤ ms := by first | exact Nat.le_of_ble_eq_true rfl | omega) (b3 : fr1 + 1 ≤ fr := by first | exact Nat.le_of_ble_eq_true rfl | omega) (b4 : 8 + (M1.2.2.1 + 11) + lo1 ≤ lo := by first | exact Nat.le_of_ble_eq_true rfl | omega) (b5 : (st.map fun v => v.category).sum ≤ 8 := by first | exact Nat.le_of_ble_eq_true rfl | simp [Value.category, vRf_cat]) : V G M fr lo pc lv (x5 :: x4 :: x3 :: x2 :: x1 :: .ref b :: st) h mc ms Q := v_callI (As := [x1, x2, x3, x4, x5]) (st := st) d n1 n2 n3 hw hin ⟨o1, (by intro v hv; simp only [List.mem_cons, List.not_mem_nil, or_false] at hv; rcases hv with rfl | rfl | rfl | rfl | rfl | rfl <;> first | rfl | assumption), o3, o4, o5, b3, b4, b5, o9.1, o9.2⟩ hp rfl hV (fun v h' z => by obtain ⟨z1, rfl⟩ := z; cases z1; exact k) (fun E h' z => nomatch z.1) b1 b2
theorem v_mmax {idx : Nat} {x y : Int32} (d : decode M.2.1 pc = .ok (.invokestatic idx, 3)) (hw : Cond.methodLink M.1.cls idx ⟨"java/lang/Math", "max", "(II)I"⟩ ∈ vT) (k : V G M fr lo (pc + 3) lv (.int (if x < y then y else x) :: st) h mc ms Q) (b1 : 1 ≤ fr := by first | exact Nat.le_of_ble_eq_true rfl | omega) (b5 : (st.map fun v => v.category).sum + 13 ≤ lo := by first | exact Nat.le_of_ble_eq_true rfl | simp [Value.category, vRf_cat]) : V G M fr lo pc lv (.int y :: .int x :: st) h mc ms Q := by
  intro p l e R s m args below meth c A H locs cells slots MC MS ls I
  obtain ⟨r1, r2, r3, r4, r5, r6⟩ := I.2.1
  exact va_mmax I.1.1 I.1.2.1 (I.1.2.2.1.trans I.2.2.2.2.2.1.1.symm) (vown I.1) (vts I.1 args _ hw) (vts I.1 args _ kS_Ma_max) (vts I.1 args _ ki_Ma) (vts I.1 args _ kM_Ma_max) (by omega) (by omega) (by omega) (by omega) d (k p l e R s m args below meth c A H locs cells slots MC MS ls I)
theorem v_mmin {idx : Nat} {x y : Int32} (d : decode M.2.1 pc = .ok (.invokestatic idx, 3)) (hw : Cond.methodLink M.1.cls idx ⟨"java/lang/Math", "min", "(II)I"⟩ ∈ vT) (k : V G M fr lo (pc + 3) lv (.int (if y < x then y else x) :: st) h mc ms Q) (b1 : 1 ≤ fr := by first | exact Nat.le_of_ble_eq_true rfl | omega) (b5 : (st.map fun v => v.category).sum + 13 ≤ lo := by first | exact Nat.le_of_ble_eq_true rfl | simp [Value.category, vRf_cat]) : V G M fr lo pc lv (.int y :: .int x :: st) h mc ms Q := by
  intro p l e R s m args below meth c A H locs cells slots MC MS ls I
  obtain ⟨r1, r2, r3, r4, r5, r6⟩ := I.2.1
  exact va_mmin I.1.1 I.1.2.1 (I.1.2.2.1.trans I.2.2.2.2.2.1.1.symm) (vown I.1) (vts I.1 args _ hw) (vts I.1 args _ kS_Ma_min) (vts I.1 args _ ki_Ma) (vts I.1 args _ kM_Ma_min) (by omega) (by omega) (by omega) (by omega) d (k p l e R s m args below meth c A H locs cells slots MC MS ls I)
theorem v_at (pc' : Nat) (e : pc = pc') (k : V G M fr lo pc' lv st h mc ms Q) : V G M fr lo pc lv st h mc ms Q := e ▸ k
end VSm
end
section
/-! The lists' own methods. -/
section VAl
variable {G : vG} {h : vH}
theorem c_Al_size {a : Nat} {ed mcv : Value} {n : Int32} (hf : h.2 a = .inr (9, [ed, .int n, mcv])) (ha : a ∈ h.1) : V G M_Al_size 0 0 0 [(0, .ref a)] [] h 0 0 (vRet (some (.int n)) h) := by
  refine v_aload_n d_Al_size_0 rfl (by first | rfl | exact vIsR_rf _) ?_
  refine v_get d_Al_size_1 hf ha rfl i_Al 1 (by decide) kf_Al_48 (Or.inl rfl) rfl ?_
  exact v_iret d_Al_size_4 rfl rfl ⟨rfl, rfl⟩
theorem c_Pd_checkIndex {i n : Int32} (h1 : ¬ i < 0) (h2 : i < n) : V G M_Pd_checkIndex 0 0 0 [(0, .int i), (1, .int n), (2, .null)] [] h 0 0 (vRet (some (.int i)) h) := by
  refine v_iload_n d_Pd_checkIndex_0 rfl ?_
  refine v_if_lt (tgt := 9) d_Pd_checkIndex_1 (by decide) (fun c => absurd c (h1)) (fun _ => ?_)
  refine v_iload_n d_Pd_checkIndex_4 rfl ?_
  refine v_iload_n d_Pd_checkIndex_5 rfl ?_
  refine v_icmp_lt (tgt := 16) d_Pd_checkIndex_6 (by decide) (fun _ => ?_) (fun c => absurd (h2) c)
  refine v_iload_n d_Pd_checkIndex_16 rfl ?_
  exact v_iret d_Pd_checkIndex_17 rfl rfl ⟨rfl, rfl⟩
theorem c_Os_checkIndex {i n : Int32} (h1 : ¬ i < 0) (h2 : i < n) : V G M_Os_checkIndex 1 22 0 [(0, .int i), (1, .int n)] [] h 0 0 (vRet (some (.int i)) h) := by
  refine v_iload_n d_Os_checkIndex_0 rfl ?_
  refine v_iload_n d_Os_checkIndex_1 rfl ?_
  refine v_null d_Os_checkIndex_2 ?_
  refine v_callS3r (M1 := M_Pd_checkIndex) d_Os_checkIndex_3 km_Os_105 kS_Pd_checkIndex (by decide) (by first | rfl | exact vRf_cat _) (by first | rfl | exact vRf_cat _) (by first | rfl | exact vRf_cat _) (by decide) kM_Pd_checkIndex ki_Pd (by decide) (by decide +kernel) (c_Pd_checkIndex h1 h2) ?_
  exact v_iret d_Os_checkIndex_6 rfl rfl ⟨rfl, rfl⟩
theorem c_Al_elementData {a b cap : Nat} {i : Int32} {nv mcv : Value} {g : Nat → Option Nat} (hf : h.2 a = .inr (9, [.ref b, nv, mcv])) (ha : a ∈ h.1) (hg : h.2 b = .inl (G.2.1 3, cap, .inr (.inr (.inr (.inr g))))) (hb : b ∈ h.1) (hi : vp_in i cap) : V G M_Al_elementData 0 0 0 [(0, .ref a), (1, .int i)] [] h 0 0 (vRet (some (va_rf (g i.toNatClampNeg))) h) := by
  refine v_aload_n d_Al_elementData_0 rfl (by first | rfl | exact vIsR_rf _) ?_
  refine v_get d_Al_elementData_1 hf ha rfl i_Al 0 (by decide) kf_Al_9 (Or.inl rfl) rfl ?_
  refine v_iload_n d_Al_elementData_4 rfl ?_
  refine v_aald d_Al_elementData_5 hg hb hi ?_
  exact v_aret d_Al_elementData_6 rfl (Or.inl ⟨_, rfl⟩) (by first | rfl | exact vIsR_rf _) ⟨rfl, rfl⟩
theorem c_Al_get {a b cap n i : Nat} {mcv : Value} {g : Nat → Option Nat} (hf : h.2 a = .inr (9, [.ref b, .int (nI n), mcv])) (ha : a ∈ h.1) (hg : h.2 b = .inl (G.2.1 3, cap, .inr (.inr (.inr (.inr g))))) (hb : b ∈ h.1) (hi : i < n) (hn : n ≤ cap) (hc : cap < 500) : V G M_Al_get 2 43 0 [(0, .ref a), (1, .int (nI i))] [] h 0 0 (vRet (some (va_rf (g i))) h) := by
  have e1 : (nI i).toNatClampNeg = i := nI_clamp (by omega)
  refine v_iload_n d_Al_get_0 rfl ?_
  refine v_aload_n d_Al_get_1 rfl (by first | rfl | exact vIsR_rf _) ?_
  refine v_get d_Al_get_2 hf ha rfl i_Al 1 (by decide) kf_Al_48 (Or.inl rfl) rfl ?_
  refine v_callS2r (M1 := M_Os_checkIndex) d_Al_get_5 km_Al_118 kS_Os_checkIndex (by decide) (by first | rfl | exact vRf_cat _) (by first | rfl | exact vRf_cat _) (by decide) kM_Os_checkIndex ki_Os (by decide) (by decide +kernel) (c_Os_checkIndex (nI_pos (by omega)) (nI_lt hi (by omega))) ?_
  refine v_pop d_Al_get_8 (by first | rfl | exact vRf_cat _) ?_
  refine v_aload_n d_Al_get_9 rfl (by first | rfl | exact vIsR_rf _) ?_
  refine v_iload_n d_Al_get_10 rfl ?_
  refine v_callV1r (M1 := M_Al_elementData) d_Al_get_11 hf ha rfl km_Al_123 kI_Al_elementData ks_Al_Al_elementData (by decide) (by first | rfl | exact vRf_cat _) (by decide) kM_Al_elementData ki_Al (by decide) (by decide +kernel) (c_Al_elementData hf ha hg hb (vp_in_nI (by omega) (by omega))) ?_
  rw [e1]
  exact v_aret d_Al_get_14 rfl (Or.inl ⟨_, rfl⟩) (by first | rfl | exact vIsR_rf _) ⟨rfl, rfl⟩
theorem c_Ac_init {a : Nat} : V G M_Ac_init 1 20 0 [(0, .ref a)] [] h 0 0 (vRet none h) := by
  refine v_aload_n d_Ac_init_0 rfl (by first | rfl | exact vIsR_rf _) ?_
  refine v_objInit d_Ac_init_1 km_Ac_1 (by decide) (by decide) ?_
  exact v_vret d_Ac_init_4 rfl ⟨rfl, rfl⟩
theorem c_Ab_init {a : Nat} {v0 v1 v2 : Value} (hf : h.2 a = .inr (9, [v0, v1, v2])) (ha : a ∈ h.1) : V G M_Ab_init 2 40 0 [(0, .ref a)] [] h 0 0 (vRet none (h.1, va_up h.2 a (.inr (9, [v0, v1, .int 0])))) := by
  refine v_aload_n d_Ab_init_0 rfl (by first | rfl | exact vIsR_rf _) ?_
  refine v_callI0u (M1 := M_Ac_init) d_Ab_init_1 rfl rfl rfl (Or.inl km_Ab_1) kI_Ac_init (by decide) (by decide) kM_Ac_init ki_Ac (by decide) (by decide +kernel) c_Ac_init ?_
  refine v_aload_n d_Ab_init_4 rfl (by first | rfl | exact vIsR_rf _) ?_
  refine v_iconst (v := 0) d_Ab_init_5 (by decide) ?_
  refine v_put d_Ab_init_6 hf ha rfl i_Al tt_Al_ok n_Al 2 (by decide) kf_Ab_7 (Or.inl rfl) (Or.inl rfl) rfl rfl rfl ?_
  exact v_vret d_Ab_init_9 rfl ⟨rfl, rfl⟩
theorem c_Al_init {a : Nat} {v0 v1 v2 : Value} (hf : h.2 a = .inr (9, [v0, v1, v2])) (ha : a ∈ h.1) : V G M_Al_init 3 60 0 [(0, .ref a)] [] h 0 0 (vRet none (h.1, va_up (va_up h.2 a (.inr (9, [v0, v1, .int 0]))) a (.inr (9, [.ref G.2.2.1, v1, .int 0])))) := by
  refine v_aload_n d_Al_init_0 rfl (by first | rfl | exact vIsR_rf _) ?_
  refine v_callI0u (M1 := M_Ab_init) d_Al_init_1 rfl rfl rfl (Or.inl km_Al_1) kI_Ab_init (by decide) (by decide) kM_Ab_init ki_Ab (by decide) (by decide +kernel) (c_Ab_init hf ha) ?_
  refine v_aload_n d_Al_init_4 rfl (by first | rfl | exact vIsR_rf _) ?_
  refine v_gets d_Al_init_5 kf_Al_39 ?_
  refine v_put d_Al_init_8 (va_up_self _ _ _) ha rfl i_Al tt_Al_ok n_Al 0 (by decide) kf_Al_9 (Or.inl rfl) (Or.inl rfl) rfl rfl rfl ?_
  exact v_vret d_Al_init_11 rfl ⟨rfl, rfl⟩
theorem c_As_newLength {x y z r : Int32} (hr : x + (if y < z then z else y) = r) (h1 : ¬ r ≤ 0) (h2 : ¬ (2147483639 : Int32) < r) : V G M_As_newLength 1 21 0 [(0, .int x), (1, .int y), (2, .int z)] [] h 0 0 (vRet (some (.int r)) h) := by
  refine v_iload_n d_As_newLength_0 rfl ?_
  refine v_iload_n d_As_newLength_1 rfl ?_
  refine v_iload_n d_As_newLength_2 rfl ?_
  refine v_mmax d_As_newLength_3 km_As_194 ?_
  refine v_iadd d_As_newLength_6 ?_
  rw [hr]
  refine v_istore_n d_As_newLength_7 (by decide) rfl ?_
  refine v_iconst (v := 0) d_As_newLength_8 (by decide) ?_
  refine v_iload_n d_As_newLength_9 rfl ?_
  refine v_icmp_ge (tgt := 21) d_As_newLength_10 (by decide) (fun c => absurd c (h1)) (fun _ => ?_)
  refine v_iload_n d_As_newLength_13 rfl ?_
  refine v_ldcI d_As_newLength_14 kz_499 ?_
  refine v_icmp_gt (tgt := 21) d_As_newLength_16 (by decide) (fun c => absurd c (h2)) (fun _ => ?_)
  refine v_iload_n d_As_newLength_19 rfl ?_
  exact v_iret d_As_newLength_20 rfl rfl ⟨rfl, rfl⟩
/-- a new array of n places that begins with what the old one held -/
def cpQ (G : vG) (h : vH) (n cap : Nat) (g : Nat → Option Nat) : vQ := fun r h' => ∃ q : Nat, q ∉ h.1 ∧ r = .inl (some (.ref q)) ∧ h' = (h.1 ++ [q], va_up (va_up h.2 q (.inl (G.2.1 3, n, .inr (.inr (.inr (.inr (fun _ => none))))))) q (.inl (G.2.1 3, n, .inr (.inr (.inr (.inr (va_cpy g (fun _ => none) 0 0 cap)))))))
theorem c_Ar_copyOf2 {b cap n ci : Nat} {qc : vw_C} {g : Nat → Option Nat} (hg : h.2 b = .inl (G.2.1 3, cap, .inr (.inr (.inr (.inr g))))) (hb : b ∈ h.1) (hn : cap ≤ n) (hn2 : n < 1000) (hc : vCl[ci]? = some qc) (hx : Cond.castable qc.1 "java/lang/Object" ∈ vT) (hel : ∀ i : Nat, i < cap → ∀ y : Nat, g i = some y → y ∈ h.1 ∧ ∃ fs, h.2 y = .inr (ci, fs)) : V G M_Ar_copyOf2 1 60 0 [(0, .ref b), (1, .int (nI n)), (2, .ref G.2.2.2.1)] [] h 1 n (cpQ G h n cap g) := by
  refine v_aload_n d_Ar_copyOf2_0 rfl (by first | rfl | exact vIsR_rf _) ?_
  refine v_ldcM d_Ar_copyOf2_1 kc_Ar_110 ?_
  refine v_acmp_ne (rx := some G.2.2.2.1) (ry := some G.2.2.2.1) (tgt := 13) d_Ar_copyOf2_3 (by decide) (fun c => absurd rfl c) (fun _ => ?_)
  refine v_iload_n d_Ar_copyOf2_6 rfl ?_
  refine v_newq (n := n) d_Ar_copyOf2_7 kc_Ar_2 rfl hn2 (fun q hq => ?_) (by decide) (Nat.le_refl _)
  have hqb : b ≠ q := fun z => hq (z ▸ hb)
  have hg2 : va_up h.2 q (.inl (G.2.1 3, n, .inr (.inr (.inr (.inr (fun _ => none)))))) b = .inl (G.2.1 3, cap, .inr (.inr (.inr (.inr g)))) := (va_up_ne _ _ hqb).trans hg
  refine v_goto (tgt := 24) d_Ar_copyOf2_10 (by decide) ?_
  refine v_astore_n d_Ar_copyOf2_24 (by first | rfl | exact vIsR_rf _) (by decide) rfl ?_
  refine v_aload_n d_Ar_copyOf2_25 rfl (by first | rfl | exact vIsR_rf _) ?_
  refine v_iconst (v := 0) d_Ar_copyOf2_26 (by decide) ?_
  refine v_aload_n d_Ar_copyOf2_27 rfl (by first | rfl | exact vIsR_rf _) ?_
  refine v_iconst (v := 0) d_Ar_copyOf2_28 (by decide) ?_
  refine v_aload_n d_Ar_copyOf2_29 rfl (by first | rfl | exact vIsR_rf _) ?_
  refine v_alen (k := 3) d_Ar_copyOf2_30 (by decide) hg2 (List.mem_append_left _ hb) ?_
  refine v_iload_n d_Ar_copyOf2_31 rfl ?_
  refine v_mmin d_Ar_copyOf2_32 km_Ar_304 ?_
  have e1 : (if nI n < Int32.ofNat cap then nI n else Int32.ofNat cap) = nI cap := if_neg (nI_nlt hn (by omega))
  rw [e1]
  have ec : (nI cap).toNatClampNeg = cap := nI_clamp (by omega)
  have e0 : (0 : Int32).toNatClampNeg = 0 := by decide
  refine v_copy (ci := ci) (q := qc) d_Ar_copyOf2_35 hg2 (List.mem_append_left _ hb) (va_up_self _ _ _) (List.mem_append_right _ List.mem_cons_self) km_Ar_150 (by decide) (by decide) (nI_pos (by omega)) (by rw [ec, e0]; omega) (by rw [ec, e0]; omega) hc hx (fun i hi y hy => ?_) (by decide) (by decide) ?_
  · rw [ec] at hi
    rw [e0, Nat.zero_add] at hy
    obtain ⟨k1, fs, k2⟩ := hel i hi y hy
    exact ⟨List.mem_append_left _ k1, fs, (va_up_ne _ _ (fun z : y = q => hq (z ▸ k1))).trans k2⟩
  · rw [ec, e0]
    refine v_aload_n d_Ar_copyOf2_38 rfl (by first | rfl | exact vIsR_rf _) ?_
    exact v_aret d_Ar_copyOf2_39 rfl (Or.inr ⟨_, rfl⟩) (by first | rfl | exact vIsR_rf _) ⟨q, hq, rfl, rfl⟩
theorem c_Ar_copyOf {b cap n ci : Nat} {qc : vw_C} {g : Nat → Option Nat} (hg : h.2 b = .inl (G.2.1 3, cap, .inr (.inr (.inr (.inr g))))) (hb : b ∈ h.1) (hn : cap ≤ n) (hn2 : n < 1000) (hc : vCl[ci]? = some qc) (hx : Cond.castable qc.1 "java/lang/Object" ∈ vT) (hel : ∀ i : Nat, i < cap → ∀ y : Nat, g i = some y → y ∈ h.1 ∧ ∃ fs, h.2 y = .inr (ci, fs)) : V G M_Ar_copyOf 2 90 0 [(0, .ref b), (1, .int (nI n))] [] h 1 n (cpQ G h n cap g) := by
  refine v_aload_n d_Ar_copyOf_0 rfl (by first | rfl | exact vIsR_rf _) ?_
  refine v_iload_n d_Ar_copyOf_1 rfl ?_
  refine v_aload_n d_Ar_copyOf_2 rfl (by first | rfl | exact vIsR_rf _) ?_
  refine v_getC (n := n) d_Ar_copyOf_3 hg hb km_Ar_86 ks__Ljava_lang_Object__Ob_getClass__Ljava_lang_Class_ kI_Ob_getClass__Ljava_lang_Class_ (by decide) (Nat.le_of_ble_eq_true rfl) ?_
  refine v_callS3 (M1 := M_Ar_copyOf2) d_Ar_copyOf_6 km_Ar_300 kS_Ar_copyOf2 (by decide) rfl rfl rfl (by decide) kM_Ar_copyOf2 ki_Ar (by decide) (by decide +kernel) (c_Ar_copyOf2 hg hb hn hn2 hc hx hel) (fun v h2 z => ?_) (fun E h2 z => (by obtain ⟨q, hq, z1, -⟩ := z; cases z1)) (Nat.le_refl _) (Nat.le_refl _)
  obtain ⟨q, hq, z1, rfl⟩ := z
  cases z1
  exact v_aret d_Ar_copyOf_9 rfl (Or.inr ⟨_, rfl⟩) (by first | rfl | exact vIsR_rf _) ⟨q, hq, rfl, rfl⟩
end VAl
end
section
/-! Lists: what a list is in the pool; adding and taking out. -/
section VAd
variable {G : vG} {h : vH}
abbrev vOA (G : vG) (cap : Nat) (g : Nat → Option Nat) : va_E := .inl (G.2.1 3, cap, .inr (.inr (.inr (.inr g))))
/-- a list object at a: its places bk (none: the empty array that all new lists share), its elements xs -/
def lsAt (G : vG) (h : vH) (a : Nat) (bk : Option Nat) (xs : List Nat) : Prop := a ∈ h.1 ∧ ∃ mcv : Int32, match bk with
  | none => h.2 a = .inr (9, [.ref G.2.2.1, .int 0, .int mcv]) ∧ xs = []
  | some b => ∃ (cap : Nat) (g : Nat → Option Nat), h.2 a = .inr (9, [.ref b, .int (nI xs.length), .int mcv]) ∧ b ∈ h.1 ∧ h.2 b = vOA G cap g ∧ xs.length ≤ cap ∧ 0 < cap ∧ cap < 100 ∧ ∀ i, i < xs.length → g i = some (xs.getD i 0)
def grQ (G : vG) (h : vH) (a : Nat) (sv mcv : Value) (xs : List Nat) : vQ := fun r h' => ∃ (q cap : Nat) (g : Nat → Option Nat), q ∉ h.1 ∧ r = .inl (some (.ref q)) ∧ h'.1 = h.1 ++ [q] ∧ h'.2 a = .inr (9, [.ref q, sv, mcv]) ∧ h'.2 q = vOA G cap g ∧ (∀ c, c ≠ a → c ≠ q → h'.2 c = h.2 c) ∧ xs.length < cap ∧ cap < 100 ∧ ∀ i, i < xs.length → g i = some (xs.getD i 0)
theorem c_Al_grow2_new {a : Nat} {sv mcv : Value} {x : Int32} (hf : h.2 a = .inr (9, [.ref G.2.2.1, sv, mcv])) (ha : a ∈ h.1) (hx : ¬ (10 : Int32) < x) : V G M_Al_grow2 3 120 0 [(0, .ref a), (1, .int x)] [] h 1 60 (grQ G h a sv mcv []) := by
  refine v_aload_n d_Al_grow2_0 rfl (by first | rfl | exact vIsR_rf _) ?_
  refine v_get d_Al_grow2_1 hf ha rfl i_Al 0 (by decide) kf_Al_9 (Or.inl rfl) rfl ?_
  refine v_elen d_Al_grow2_4 ?_
  refine v_istore_n d_Al_grow2_5 (by decide) rfl ?_
  refine v_iload_n d_Al_grow2_6 rfl ?_
  refine v_if_gt (tgt := 20) d_Al_grow2_7 (by decide) (fun c => absurd c (by decide)) (fun _ => ?_)
  refine v_aload_n d_Al_grow2_10 rfl (by first | rfl | exact vIsR_rf _) ?_
  refine v_get d_Al_grow2_11 hf ha rfl i_Al 0 (by decide) kf_Al_9 (Or.inl rfl) rfl ?_
  refine v_gets d_Al_grow2_14 kf_Al_39 ?_
  refine v_acmp_eq (rx := some G.2.2.1) (ry := some G.2.2.1) (tgt := 45) d_Al_grow2_17 (by decide) (fun _ => ?_) (fun c => absurd rfl c)
  refine v_aload_n d_Al_grow2_45 rfl (by first | rfl | exact vIsR_rf _) ?_
  refine v_bipush (v := 10) d_Al_grow2_46 (by decide) ?_
  refine v_iload_n d_Al_grow2_48 rfl ?_
  refine v_mmax d_Al_grow2_49 km_Al_79 ?_
  rw [if_neg hx]
  refine v_newq (n := 10) d_Al_grow2_52 kc_Al_7 (by decide) (by decide) (fun q hq => ?_) (Nat.le_of_ble_eq_true rfl) (Nat.le_of_ble_eq_true rfl)
  have hqa : a ≠ q := fun z => hq (z ▸ ha)
  refine v_dup_x1 d_Al_grow2_55 (by first | rfl | exact vRf_cat _) (by first | rfl | exact vRf_cat _) ?_
  refine v_put d_Al_grow2_56 ((va_up_ne _ _ hqa).trans hf) (List.mem_append_left _ ha) rfl i_Al tt_Al_ok n_Al 0 (by decide) kf_Al_9 (Or.inl rfl) (Or.inl rfl) rfl rfl rfl ?_
  refine v_aret d_Al_grow2_59 rfl (Or.inr ⟨_, rfl⟩) rfl ⟨q, 10, fun _ => none, hq, rfl, rfl, va_up_self _ _ _, (va_up_ne _ _ hqa.symm).trans (va_up_self _ _ _), fun c h1 h2 => (va_up_ne _ _ h1).trans (va_up_ne _ _ h2), by decide, by decide, fun i hi => by cases hi⟩
theorem c_Al_grow2_full {a b ci : Nat} {mcv : Value} {xs : List Nat} {g : Nat → Option Nat} {qc : vw_C} (hf : h.2 a = .inr (9, [.ref b, .int (nI xs.length), mcv])) (ha : a ∈ h.1) (hg : h.2 b = vOA G xs.length g) (hb : b ∈ h.1) (h0 : 0 < xs.length) (h9 : xs.length < 40) (hxs : ∀ i, i < xs.length → g i = some (xs.getD i 0)) (hc : vCl[ci]? = some qc) (hx : Cond.castable qc.1 "java/lang/Object" ∈ vT) (hel : ∀ y ∈ xs, y ∈ h.1 ∧ ∃ fs, h.2 y = .inr (ci, fs)) : V G M_Al_grow2 3 120 0 [(0, .ref a), (1, .int (nI xs.length + 1))] [] h 1 60 (grQ G h a (.int (nI xs.length)) mcv xs) := by
  have hab : a ≠ b := fun z => by rw [z, hg] at hf; cases hf
  refine v_aload_n d_Al_grow2_0 rfl (by first | rfl | exact vIsR_rf _) ?_
  refine v_get d_Al_grow2_1 hf ha rfl i_Al 0 (by decide) kf_Al_9 (Or.inl rfl) rfl ?_
  refine v_alen (k := 3) d_Al_grow2_4 (by decide) hg hb ?_
  refine v_istore_n d_Al_grow2_5 (by decide) rfl ?_
  refine v_iload_n d_Al_grow2_6 rfl ?_
  refine v_if_gt (tgt := 20) d_Al_grow2_7 (by decide) (fun _ => ?_) (fun c => absurd ((nI_lt (a := 0) h0 (by omega))) c)
  have e1 : nI xs.length + 1 - Int32.ofNat xs.length = nI 1 := by
    rw [nI_1]
    have k := pk_sub (a := xs.length + 1) (b := xs.length) (by omega)
    rw [Nat.add_sub_cancel_left] at k
    exact k
  have e2 : Int32.ofNat xs.length >>> ((1 : Int32) &&& 31) = nI (xs.length / 2) := by
    have k := pk_shrN (n := xs.length) (by omega) ((1 : Int32) &&& 31) 1 (by decide)
    rw [Nat.pow_one] at k
    exact k
  obtain ⟨n, hn, hn1, hn2⟩ : ∃ n : Nat, Int32.ofNat xs.length + (if nI 1 < nI (xs.length / 2) then nI (xs.length / 2) else nI 1) = nI n ∧ xs.length < n ∧ n ≤ 60 := by
    by_cases c : 1 < xs.length / 2
    · refine ⟨xs.length + xs.length / 2, ?_, by omega, by omega⟩
      rw [if_pos (nI_lt c (by omega))]
      exact nI_add _ _
    · refine ⟨xs.length + 1, ?_, by omega, by omega⟩
      rw [if_neg (nI_nlt (by omega) (by decide))]
      exact nI_add _ _
  refine v_iload_n d_Al_grow2_20 rfl ?_
  refine v_iload_n d_Al_grow2_21 rfl ?_
  refine v_iload_n d_Al_grow2_22 rfl ?_
  refine v_isub d_Al_grow2_23 ?_
  refine v_iload_n d_Al_grow2_24 rfl ?_
  refine v_iconst (v := 1) d_Al_grow2_25 (by decide) ?_
  refine v_ishr d_Al_grow2_26 ?_
  rw [e1, e2]
  refine v_callS3r (M1 := M_As_newLength) d_Al_grow2_27 km_Al_73 kS_As_newLength (by decide) rfl rfl rfl (by decide) kM_As_newLength ki_As (by decide) (by decide +kernel) (c_As_newLength hn (nI_nle (by omega) (by omega)) (show ¬ nI 2147483639 < nI n from nI_nlt (by omega) (by decide))) ?_
  refine v_istore_n d_Al_grow2_30 (by decide) rfl ?_
  refine v_aload_n d_Al_grow2_31 rfl (by first | rfl | exact vIsR_rf _) ?_
  refine v_aload_n d_Al_grow2_32 rfl (by first | rfl | exact vIsR_rf _) ?_
  refine v_get d_Al_grow2_33 hf ha rfl i_Al 0 (by decide) kf_Al_9 (Or.inl rfl) rfl ?_
  refine v_iload_n d_Al_grow2_36 rfl ?_
  refine v_callS2 (M1 := M_Ar_copyOf) d_Al_grow2_37 km_Al_66 kS_Ar_copyOf (by decide) rfl rfl (by decide) kM_Ar_copyOf ki_Ar (by decide) (by decide +kernel) (c_Ar_copyOf hg hb (Nat.le_of_lt hn1) (by omega) hc hx (fun i hi y hy => hel y (by
    have e9 := (hxs i hi).symm.trans hy
    rw [← Option.some.inj e9, List.getD_eq_getElem?_getD, List.getElem?_eq_getElem hi]
    exact List.getElem_mem hi))) (fun v h2 z => ?_) (fun E h2 z => (by obtain ⟨q, hq, z1, -⟩ := z; cases z1))
  obtain ⟨q, hq, z1, rfl⟩ := z
  cases z1
  have hqa : a ≠ q := fun z => hq (z ▸ ha)
  refine v_dup_x1 d_Al_grow2_40 (by first | rfl | exact vRf_cat _) (by first | rfl | exact vRf_cat _) ?_
  refine v_put d_Al_grow2_41 (((va_up_ne _ _ hqa).trans (va_up_ne _ _ hqa)).trans hf) (List.mem_append_left _ ha) rfl i_Al tt_Al_ok n_Al 0 (by decide) kf_Al_9 (Or.inl rfl) (Or.inl rfl) rfl rfl rfl ?_
  refine v_aret d_Al_grow2_44 rfl (Or.inr ⟨_, rfl⟩) rfl ⟨q, n, _, hq, rfl, rfl, va_up_self _ _ _, (va_up_ne _ _ hqa.symm).trans (va_up_self _ _ _), fun c k1 k2 => ((va_up_ne _ _ k1).trans (va_up_ne _ _ k2)).trans (va_up_ne _ _ k2), hn1, by omega, fun i hi => ?_⟩
  rw [pk_cpy_in (Nat.zero_le _) (by omega), Nat.zero_add, Nat.sub_zero]
  exact hxs i hi
theorem c_Al_grow {a : Nat} {ed : Value} {n : Nat} {mcv : Value} {Q : vQ} (hf : h.2 a = .inr (9, [ed, .int (nI n), mcv])) (ha : a ∈ h.1) (hV : V G M_Al_grow2 3 120 0 [(0, .ref a), (1, .int (nI n + 1))] [] h 1 60 Q) (hq : ∀ r h', Q r h' → ∃ q, r = .inl (some (.ref q))) : V G M_Al_grow 4 150 0 [(0, .ref a)] [] h 1 60 Q := by
  refine v_aload_n d_Al_grow_0 rfl (by first | rfl | exact vIsR_rf _) ?_
  refine v_aload_n d_Al_grow_1 rfl (by first | rfl | exact vIsR_rf _) ?_
  refine v_get d_Al_grow_2 hf ha rfl i_Al 1 (by decide) kf_Al_48 (Or.inl rfl) rfl ?_
  refine v_iconst (v := 1) d_Al_grow_5 (by decide) ?_
  refine v_iadd d_Al_grow_6 ?_
  refine v_callV1 (M1 := M_Al_grow2) d_Al_grow_7 hf ha rfl km_Al_69 kI_Al_grow2 ks_Al_Al_grow2 (by decide) rfl (by decide) kM_Al_grow2 ki_Al (by decide) (by decide +kernel) hV (fun v h2 z => ?_) (fun E h2 z => (by obtain ⟨q, z1⟩ := hq _ _ z; cases z1))
  obtain ⟨q, z1⟩ := hq _ _ z
  cases z1
  exact v_aret d_Al_grow_10 rfl (Or.inr ⟨_, rfl⟩) rfl z
/-- what adding e to the list at a does -/
def adQ (G : vG) (h : vH) (a : Nat) (bk : Option Nat) (xs : List Nat) (v : Option Value) : vQ := fun r h' => r = .inl v ∧ ∃ bk' : Option Nat, lsAt G h' a bk' xs ∧ (∀ c ∈ h.1, c ∈ h'.1) ∧ (∀ c, c ≠ a → bk ≠ some c → c ∈ h.1 → h'.2 c = h.2 c) ∧ (bk' = bk ∨ ∃ q, bk' = some q ∧ q ∉ h.1) ∧ ∀ c ∈ h'.1, c ∈ h.1 ∨ bk' = some c
theorem vGetD_app {xs : List Nat} {e i : Nat} (hi : i < xs.length) : (xs ++ [e]).getD i 0 = xs.getD i 0 := by
  rw [List.getD_eq_getElem?_getD, List.getD_eq_getElem?_getD, List.getElem?_append_left hi]
theorem vGetD_last {xs : List Nat} {e : Nat} : (xs ++ [e]).getD xs.length 0 = e := by
  rw [List.getD_eq_getElem?_getD, List.getElem?_append_right (Nat.le_refl _), Nat.sub_self]
  rfl
def enQ (G : vG) (h : vH) (a b : Nat) (xs : List Nat) : vQ := fun r h' => r = .inl none ∧ lsAt G h' a (some b) xs ∧ h'.1 = h.1 ∧ ∀ c, c ≠ a → c ≠ b → h'.2 c = h.2 c
/-- the end of add: the element is put, the size grows -/
theorem c_Al_add2_end {a b e ci cap fr lo mc ms : Nat} {vs : List Value} {mcv : Int32} {xs : List Nat} {g : Nat → Option Nat} {qc : vw_C} (hf : h.2 a = .inr (9, [.ref b, .int (nI xs.length), .int mcv])) (ha : a ∈ h.1) (hg : h.2 b = vOA G cap g) (hb : b ∈ h.1) (hl : xs.length < cap) (hcap : cap < 100) (hxs : ∀ i, i < xs.length → g i = some (xs.getD i 0)) (he : h.2 e = .inr (ci, vs)) (hem : e ∈ h.1) (hc : vCl[ci]? = some qc) (hx : Cond.castable qc.1 "java/lang/Object" ∈ vT) : V G M_Al_add2 fr lo 11 [(0, .ref a), (1, .ref e), (2, .ref b), (3, .int (nI xs.length))] [] h mc ms (enQ G h a b (xs ++ [e])) := by
  have hab : a ≠ b := fun z => by rw [z, hg] at hf; cases hf
  refine v_aload_n d_Al_add2_11 rfl (by first | rfl | exact vIsR_rf _) ?_
  refine v_iload_n d_Al_add2_12 rfl ?_
  refine v_aload_n d_Al_add2_13 rfl (by first | rfl | exact vIsR_rf _) ?_
  refine v_aast d_Al_add2_14 hg hb he hem hc hx (vp_in_nI hl (by omega)) ?_
  rw [nI_clamp (show xs.length < 2 ^ 31 by omega)]
  refine v_aload_n d_Al_add2_15 rfl (by first | rfl | exact vIsR_rf _) ?_
  refine v_iload_n d_Al_add2_16 rfl ?_
  refine v_iconst (v := 1) d_Al_add2_17 (by decide) ?_
  refine v_iadd d_Al_add2_18 ?_
  refine v_put d_Al_add2_19 ((va_up_ne _ _ hab).trans hf) ha rfl i_Al tt_Al_ok n_Al 1 (by decide) kf_Al_48 (Or.inl rfl) (Or.inl rfl) rfl rfl rfl ?_
  refine v_vret d_Al_add2_22 rfl ⟨rfl, ⟨ha, mcv, cap, va_up g xs.length (some e), ?_, hb, (va_up_ne _ _ hab.symm).trans (va_up_self _ _ _), ?_, by omega, hcap, fun i hi => ?_⟩, rfl, fun c k1 k2 => (va_up_ne _ _ k1).trans (va_up_ne _ _ k2)⟩
  · show va_up _ a _ a = _
    rw [va_up_self, List.length_append, List.length_singleton, nI_1]
  · rw [List.length_append, List.length_singleton]; omega
  · rw [List.length_append, List.length_singleton] at hi
    by_cases hix : i = xs.length
    · rw [hix, va_up_self, vGetD_last]
    · rw [va_up_ne _ _ hix, hxs i (by omega), vGetD_app (by omega)]
theorem c_Al_add2 {a e ci : Nat} {bk : Option Nat} {vs : List Value} {mcv : Int32} {ed : Value} {xs : List Nat} {qc : vw_C} (hls : lsAt G h a bk xs) (hf : h.2 a = .inr (9, [ed, .int (nI xs.length), .int mcv])) (h9 : xs.length < 40) (hel : ∀ y ∈ xs, y ∈ h.1 ∧ ∃ fs, h.2 y = .inr (ci, fs)) (he : h.2 e = .inr (ci, vs)) (hem : e ∈ h.1) (hc : vCl[ci]? = some qc) (hx : Cond.castable qc.1 "java/lang/Object" ∈ vT) : V G M_Al_add2 5 180 0 [(0, .ref a), (1, .ref e), (2, ed), (3, .int (nI xs.length))] [] h 1 60 (adQ G h a bk (xs ++ [e]) none) := by
  obtain ⟨ha, mcv', hls⟩ := hls
  -- what growing leaves, and the end
  have tail : ∀ h2 : vH, ∀ r, grQ G h a (.int (nI xs.length)) (.int mcv) xs r h2 → ∃ q, r = .inl (some (.ref q)) ∧ V G M_Al_add2 5 180 11 [(0, .ref a), (1, .ref e), (2, .ref q), (3, .int (nI xs.length))] [] h2 0 0 (adQ G h a bk (xs ++ [e]) none) := by
    intro h2 r z
    obtain ⟨q, cap, g, k1, k2, k3, k4, k5, k6, k7, k8, k9⟩ := z
    refine ⟨q, k2, ?_⟩
    have m : ∀ c ∈ h.1, c ∈ h2.1 := fun c hc => by rw [k3]; exact List.mem_append_left _ hc
    have nq : ∀ c ∈ h.1, c ≠ q := fun c hc z => k1 (z ▸ hc)
    have hea : e ≠ a := fun z => by
      rw [z, hf] at he
      cases he
      cases hc
      exact absurd hx (by decide +kernel)
    refine V.mono ?_ (c_Al_add2_end k4 (m a ha) k5 (by rw [k3]; exact List.mem_append_right _ List.mem_cons_self) k7 k8 k9 ((k6 e hea (nq e hem)).trans he) (m e hem) hc hx)
    intro r' h3 w
    obtain ⟨w1, w2, w3, w4⟩ := w
    refine ⟨w1, some q, w2, fun c hc => by rw [w3]; exact m c hc, fun c u1 u2 u3 => (w4 c u1 (nq c u3)).trans (k6 c u1 (nq c u3)), Or.inr ⟨q, rfl, k1⟩, fun c hc => ?_⟩
    rw [w3, k3] at hc
    rcases List.mem_append.mp hc with w7 | w7
    · exact Or.inl w7
    · exact Or.inr (by rw [List.mem_singleton.mp w7])
  cases bk with
  | none =>
    obtain ⟨hf2, rfl⟩ := hls
    have e1 := hf.symm.trans hf2
    cases e1
    refine v_iload_n d_Al_add2_0 rfl ?_
    refine v_aload_n d_Al_add2_1 rfl (by first | rfl | exact vIsR_rf _) ?_
    refine v_elen d_Al_add2_2 ?_
    refine v_icmp_ne (tgt := 11) d_Al_add2_3 (by decide) (fun c => absurd (rfl) c) (fun _ => ?_)
    refine v_aload_n d_Al_add2_6 rfl (by first | rfl | exact vIsR_rf _) ?_
    refine v_callV0 (M1 := M_Al_grow) d_Al_add2_7 hf ha rfl km_Al_129 kI_Al_grow ks_Al_Al_grow (by decide) (by decide) kM_Al_grow ki_Al (by decide) (by decide +kernel) (c_Al_grow hf ha (c_Al_grow2_new hf ha (by decide)) (fun r h' z => by obtain ⟨q, _, _, _, z, _⟩ := z; exact ⟨q, z⟩)) (fun v h2 z => ?_) (fun E h2 z => (by obtain ⟨q, _, _, _, z1, _⟩ := z; cases z1))
    obtain ⟨q, z1, z2⟩ := tail h2 _ z
    cases z1
    refine v_astore_n d_Al_add2_10 (by first | rfl | exact vIsR_rf _) (by decide) rfl ?_
    exact z2
  | some b =>
    obtain ⟨cap, g, hf2, hb, hg, hl, h0, hcap, hxs⟩ := hls
    have e1 := hf.symm.trans hf2
    cases e1
    refine v_iload_n d_Al_add2_0 rfl ?_
    refine v_aload_n d_Al_add2_1 rfl (by first | rfl | exact vIsR_rf _) ?_
    refine v_alen (k := 3) d_Al_add2_2 (by decide) hg hb ?_
    refine v_icmp_ne (tgt := 11) d_Al_add2_3 (by decide) (fun c => ?_) (fun c => ?_)
    · have hlt : xs.length < cap := Nat.lt_of_le_of_ne hl (fun z => c (by rw [z]; rfl))
      refine V.mono ?_ (c_Al_add2_end hf ha hg hb hlt hcap hxs he hem hc hx)
      intro r' h3 w
      obtain ⟨w1, w2, w3, w4⟩ := w
      exact ⟨w1, some b, w2, fun c hc => by rw [w3]; exact hc, fun c u1 u2 u3 => w4 c u1 (fun z => u2 (by rw [z])), Or.inl rfl, fun c hc => Or.inl (by rw [← w3]; exact hc)⟩
    · have hle : xs.length = cap := (nI_eq (by omega) (by omega)).mp c
      subst hle
      refine v_aload_n d_Al_add2_6 rfl (by first | rfl | exact vIsR_rf _) ?_
      refine v_callV0 (M1 := M_Al_grow) d_Al_add2_7 hf ha rfl km_Al_129 kI_Al_grow ks_Al_Al_grow (by decide) (by decide) kM_Al_grow ki_Al (by decide) (by decide +kernel) (c_Al_grow hf ha (c_Al_grow2_full hf ha hg hb h0 h9 hxs hc hx hel) (fun r h' z => by obtain ⟨q, _, _, _, z, _⟩ := z; exact ⟨q, z⟩)) (fun v h2 z => ?_) (fun E h2 z => (by obtain ⟨q, _, _, _, z1, _⟩ := z; cases z1))
      obtain ⟨q, z1, z2⟩ := tail h2 _ z
      cases z1
      refine v_astore_n d_Al_add2_10 (by first | rfl | exact vIsR_rf _) (by decide) rfl ?_
      exact z2
theorem lsAt_fields {a : Nat} {bk : Option Nat} {xs : List Nat} (hls : lsAt G h a bk xs) : ∃ (ed : Value) (mcv : Int32), h.2 a = .inr (9, [ed, .int (nI xs.length), .int mcv]) ∧ vIsR ed = true := by
  obtain ⟨ha, mcv, hls⟩ := hls
  cases bk with
  | none => obtain ⟨h1, rfl⟩ := hls; exact ⟨_, mcv, h1, rfl⟩
  | some b => obtain ⟨cap, g, h1, -⟩ := hls; exact ⟨_, mcv, h1, rfl⟩
/-- a list whose own cell has another count of changes is the same list -/
theorem lsAt_mod {a : Nat} {bk : Option Nat} {xs : List Nat} {ed : Value} {m1 m2 : Int32} (hls : lsAt G h a bk xs) (hf : h.2 a = .inr (9, [ed, .int (nI xs.length), .int m1])) : lsAt G (h.1, va_up h.2 a (.inr (9, [ed, .int (nI xs.length), .int m2]))) a bk xs := by
  obtain ⟨ha, mcv, hls⟩ := hls
  refine ⟨ha, m2, ?_⟩
  cases bk with
  | none =>
    obtain ⟨h1, rfl⟩ := hls
    have e1 := hf.symm.trans h1
    cases e1
    exact ⟨va_up_self _ _ _, rfl⟩
  | some b =>
    obtain ⟨cap, g, h1, h2, h3, h4⟩ := hls
    have e1 := hf.symm.trans h1
    cases e1
    have hab : b ≠ a := fun z => by rw [z, hf] at h3; cases h3
    exact ⟨cap, g, va_up_self _ _ _, h2, (va_up_ne _ _ hab).trans h3, h4⟩
theorem c_Al_add {a e ci : Nat} {bk : Option Nat} {vs : List Value} {xs : List Nat} {qc : vw_C} (hls : lsAt G h a bk xs) (h9 : xs.length < 40) (hel : ∀ y ∈ xs, y ∈ h.1 ∧ ∃ fs, h.2 y = .inr (ci, fs)) (he : h.2 e = .inr (ci, vs)) (hem : e ∈ h.1) (hc : vCl[ci]? = some qc) (hx : Cond.castable qc.1 "java/lang/Object" ∈ vT) (h9c : ci ≠ 9) : V G M_Al_add 6 210 0 [(0, .ref a), (1, .ref e)] [] h 1 60 (adQ G h a bk (xs ++ [e]) (some (.int 1))) := by
  obtain ⟨ed, mcv, hf, hr⟩ := lsAt_fields hls
  have ha := hls.1
  have ne : ∀ y fs, h.2 y = .inr (ci, fs) → y ≠ a := fun y fs hy z => by
    rw [z, hf] at hy
    cases hy
    exact h9c rfl
  refine v_aload_n d_Al_add_0 rfl (by first | rfl | exact vIsR_rf _) ?_
  refine v_dup d_Al_add_1 (by first | rfl | exact vRf_cat _) ?_
  refine v_get d_Al_add_2 hf ha rfl i_Al 2 (by decide) kf_Al_63 (Or.inr kz_57) rfl ?_
  refine v_iconst (v := 1) d_Al_add_5 (by decide) ?_
  refine v_iadd d_Al_add_6 ?_
  refine v_put d_Al_add_7 hf ha rfl i_Al tt_Al_ok n_Al 2 (by decide) kf_Al_63 (Or.inr kz_57) (Or.inl rfl) rfl rfl rfl ?_
  have hls2 := lsAt_mod (m2 := mcv + 1) hls hf
  have hf2 : va_up h.2 a (.inr (9, [ed, .int (nI xs.length), .int (mcv + 1)])) a = .inr (9, [ed, .int (nI xs.length), .int (mcv + 1)]) := va_up_self _ _ _
  refine v_aload_n d_Al_add_10 rfl (by first | rfl | exact vIsR_rf _) ?_
  refine v_aload_n d_Al_add_11 rfl (by first | rfl | exact vIsR_rf _) ?_
  refine v_aload_n d_Al_add_12 rfl (by first | rfl | exact vIsR_rf _) ?_
  refine v_get d_Al_add_13 hf2 ha rfl i_Al 0 (by decide) kf_Al_9 (Or.inl rfl) rfl ?_
  refine v_aload_n d_Al_add_16 rfl (by first | rfl | exact vIsR_rf _) ?_
  refine v_get d_Al_add_17 hf2 ha rfl i_Al 1 (by decide) kf_Al_48 (Or.inl rfl) rfl ?_
  refine v_callV3 (M1 := M_Al_add2) d_Al_add_20 hf2 ha rfl km_Al_131 kI_Al_add2 ks_Al_Al_add2 (by decide) rfl (vR_cat hr) rfl (by decide) kM_Al_add2 ki_Al (by decide) (by decide +kernel) (c_Al_add2 hls2 hf2 h9 (fun y hy => ?_) ((va_up_ne _ _ (ne e vs he)).trans he) hem hc hx) (fun v h2 z => ?_) (fun E h2 z => nomatch z.1)
  · obtain ⟨k1, fs, k2⟩ := hel y hy
    exact ⟨k1, fs, (va_up_ne _ _ (ne y fs k2)).trans k2⟩
  · obtain ⟨z1, bk', z2, z3, z4, z5⟩ := z
    cases z1
    refine v_iconst (v := 1) d_Al_add_23 (by decide) ?_
    exact v_iret d_Al_add_24 rfl rfl ⟨rfl, bk', z2, z3, fun c k1 k2 k3 => (z4 c k1 k2 k3).trans (va_up_ne _ _ k1), z5⟩
end VAd
end
section
/-! Lists: get and size of what a list is; taking an element out. -/
section VRm
variable {G : vG} {h : vH}
theorem l_size {a : Nat} {bk : Option Nat} {xs : List Nat} (hls : lsAt G h a bk xs) : V G M_Al_size 0 0 0 [(0, .ref a)] [] h 0 0 (vRet (some (.int (nI xs.length))) h) := by
  obtain ⟨ed, mcv, hf, hr⟩ := lsAt_fields hls
  exact c_Al_size hf hls.1
theorem l_get {a i : Nat} {bk : Option Nat} {xs : List Nat} (hls : lsAt G h a bk xs) (hi : i < xs.length) : V G M_Al_get 2 43 0 [(0, .ref a), (1, .int (nI i))] [] h 0 0 (vRet (some (.ref (xs.getD i 0))) h) := by
  obtain ⟨ha, mcv, hls⟩ := hls
  cases bk with
  | none => obtain ⟨h1, rfl⟩ := hls; cases hi
  | some b =>
    obtain ⟨cap, g, h1, h2, h3, h4, h5, h6, h7⟩ := hls
    have k := c_Al_get h1 ha h3 h2 hi h4 (by omega)
    rw [h7 i hi] at k
    exact k
theorem vErase {xs : List Nat} {i j : Nat} : (xs.eraseIdx i).getD j 0 = if j < i then xs.getD j 0 else xs.getD (j + 1) 0 := by
  rw [List.getD_eq_getElem?_getD, List.getElem?_eraseIdx]
  split <;> rw [List.getD_eq_getElem?_getD]
theorem vIn_getD {xs : List Nat} {i : Nat} (hi : i < xs.length) : xs.getD i 0 ∈ xs := by
  rw [List.getD_eq_getElem?_getD, List.getElem?_eq_getElem hi]
  exact List.getElem_mem hi
def rmQ (G : vG) (h : vH) (a b : Nat) (xs : List Nat) (v : Option Value) : vQ := fun r h' => r = .inl v ∧ lsAt G h' a (some b) xs ∧ h'.1 = h.1 ∧ ∀ c, c ≠ a → c ≠ b → h'.2 c = h.2 c
/-- the end of remove: the last place is emptied, the size is one less -/
theorem c_Al_fastRemove_end {a b n cap fr lo mc ms : Nat} {iv mcv : Int32} {ys : List Nat} {g : Nat → Option Nat} (hf : h.2 a = .inr (9, [.ref b, .int (nI (n + 1)), .int mcv])) (ha : a ∈ h.1) (hg : h.2 b = vOA G cap g) (hb : b ∈ h.1) (hn : ys.length = n) (hcap : cap < 100) (hl : n < cap) (hxs : ∀ i, i < n → g i = some (ys.getD i 0)) : V G M_Al_fastRemove fr lo 34 [(0, .ref a), (1, .ref b), (2, .int iv), (3, .int (nI n))] [] h mc ms (rmQ G h a b ys none) := by
  have hab : a ≠ b := fun z => by rw [z, hg] at hf; cases hf
  refine v_aload_n d_Al_fastRemove_34 rfl (by first | rfl | exact vIsR_rf _) ?_
  refine v_aload_n d_Al_fastRemove_35 rfl (by first | rfl | exact vIsR_rf _) ?_
  refine v_iload_n d_Al_fastRemove_36 rfl ?_
  refine v_dup_x1 d_Al_fastRemove_37 (by first | rfl | exact vRf_cat _) (by first | rfl | exact vRf_cat _) ?_
  refine v_put d_Al_fastRemove_38 hf ha rfl i_Al tt_Al_ok n_Al 1 (by decide) kf_Al_48 (Or.inl rfl) (Or.inl rfl) rfl rfl rfl ?_
  refine v_null d_Al_fastRemove_41 ?_
  refine v_aastN d_Al_fastRemove_42 ((va_up_ne _ _ hab.symm).trans hg) hb (vp_in_nI hl (by omega)) ?_
  rw [nI_clamp (show n < 2 ^ 31 by omega)]
  refine v_vret d_Al_fastRemove_43 rfl ⟨rfl, ⟨ha, mcv, cap, va_up g n none, ?_, hb, va_up_self _ _ _, by omega, by omega, hcap, fun i hi => ?_⟩, rfl, fun c k1 k2 => (va_up_ne _ _ k2).trans (va_up_ne _ _ k1)⟩
  · rw [hn]
    exact (va_up_ne _ _ hab).trans (va_up_self _ _ _)
  · rw [va_up_ne _ _ (by omega), hxs i (by omega)]
theorem c_Al_fastRemove {a b i ci : Nat} {mcv : Int32} {xs : List Nat} {cap : Nat} {g : Nat → Option Nat} {qc : vw_C} (hf : h.2 a = .inr (9, [.ref b, .int (nI xs.length), .int mcv])) (ha : a ∈ h.1) (hg : h.2 b = vOA G cap g) (hb : b ∈ h.1) (hl : xs.length ≤ cap) (hcap : cap < 100) (hxs : ∀ i, i < xs.length → g i = some (xs.getD i 0)) (hi : i < xs.length) (hel : ∀ y ∈ xs, y ∈ h.1 ∧ ∃ fs, h.2 y = .inr (ci, fs)) (hc : vCl[ci]? = some qc) (hx : Cond.castable qc.1 "java/lang/Object" ∈ vT) (h9c : ci ≠ 9) : V G M_Al_fastRemove 1 70 0 [(0, .ref a), (1, .ref b), (2, .int (nI i))] [] h 0 0 (rmQ G h a b (xs.eraseIdx i) none) := by
  have hab : a ≠ b := fun z => by rw [z, hg] at hf; cases hf
  obtain ⟨n, hn⟩ : ∃ n, xs.length = n + 1 := ⟨xs.length - 1, by omega⟩
  have hlen : (xs.eraseIdx i).length = n := by rw [List.length_eraseIdx]; simp [hi]; omega
  rw [hn] at hf
  refine v_aload_n d_Al_fastRemove_0 rfl (by first | rfl | exact vIsR_rf _) ?_
  refine v_dup d_Al_fastRemove_1 (by first | rfl | exact vRf_cat _) ?_
  refine v_get d_Al_fastRemove_2 hf ha rfl i_Al 2 (by decide) kf_Al_63 (Or.inr kz_57) rfl ?_
  refine v_iconst (v := 1) d_Al_fastRemove_5 (by decide) ?_
  refine v_iadd d_Al_fastRemove_6 ?_
  refine v_put d_Al_fastRemove_7 hf ha rfl i_Al tt_Al_ok n_Al 2 (by decide) kf_Al_63 (Or.inr kz_57) (Or.inl rfl) rfl rfl rfl ?_
  have hf2 : va_up h.2 a (.inr (9, [.ref b, .int (nI (n + 1)), .int (mcv + 1)])) a = .inr (9, [.ref b, .int (nI (n + 1)), .int (mcv + 1)]) := va_up_self _ _ _
  have hg2 : va_up h.2 a (.inr (9, [.ref b, .int (nI (n + 1)), .int (mcv + 1)])) b = vOA G cap g := (va_up_ne _ _ hab.symm).trans hg
  refine v_aload_n d_Al_fastRemove_10 rfl (by first | rfl | exact vIsR_rf _) ?_
  refine v_get d_Al_fastRemove_11 hf2 ha rfl i_Al 1 (by decide) kf_Al_48 (Or.inl rfl) rfl ?_
  refine v_iconst (v := 1) d_Al_fastRemove_14 (by decide) ?_
  refine v_isub d_Al_fastRemove_15 ?_
  rw [nI_pred n]
  refine v_dup d_Al_fastRemove_16 (by first | rfl | exact vRf_cat _) ?_
  refine v_istore_n d_Al_fastRemove_17 (by decide) rfl ?_
  refine v_iload_n d_Al_fastRemove_18 rfl ?_
  refine v_icmp_le (tgt := 34) d_Al_fastRemove_19 (by decide) (fun c => ?_) (fun c => ?_)
  · have hin : i = n := by
      have := (nI_leI (by omega) (by omega)).mp c
      omega
    refine V.mono ?_ (c_Al_fastRemove_end hf2 ha hg2 hb hlen hcap (by omega) (fun j hj => ?_))
    · intro r h3 w
      obtain ⟨w1, w2, w3, w4⟩ := w
      exact ⟨w1, w2, w3, fun c k1 k2 => (w4 c k1 k2).trans (va_up_ne _ _ k1)⟩
    · rw [hxs j (by omega), vErase, if_pos (by omega)]
  · have hin : i < n := by
      rcases Nat.lt_or_ge i n with q | q
      · exact q
      · exact absurd (nI_le q (by omega)) c
    refine v_aload_n d_Al_fastRemove_22 rfl (by first | rfl | exact vIsR_rf _) ?_
    refine v_iload_n d_Al_fastRemove_23 rfl ?_
    refine v_iconst (v := 1) d_Al_fastRemove_24 (by decide) ?_
    refine v_iadd d_Al_fastRemove_25 ?_
    refine v_aload_n d_Al_fastRemove_26 rfl (by first | rfl | exact vIsR_rf _) ?_
    refine v_iload_n d_Al_fastRemove_27 rfl ?_
    refine v_iload_n d_Al_fastRemove_28 rfl ?_
    refine v_iload_n d_Al_fastRemove_29 rfl ?_
    refine v_at 30 rfl ?_
    refine v_isub d_Al_fastRemove_30 ?_
    have e1 : nI n - nI i = nI (n - i) := pk_sub (by omega)
    rw [nI_1, e1]
    have k1 : (nI (i + 1)).toNatClampNeg = i + 1 := nI_clamp (by omega)
    have k2 : (nI i).toNatClampNeg = i := nI_clamp (by omega)
    have k3 : (nI (n - i)).toNatClampNeg = n - i := nI_clamp (by omega)
    refine v_copy (ci := ci) (q := qc) d_Al_fastRemove_31 hg2 hb hg2 hb km_Al_112 (nI_pos (by omega)) (nI_pos (by omega)) (nI_pos (by omega)) (by rw [k1, k3]; omega) (by rw [k2, k3]; omega) hc hx (fun j hj y hy => ?_) (by decide) (Nat.le_of_ble_eq_true rfl) ?_
    · rw [k3] at hj
      rw [k1, hxs _ (by omega)] at hy
      obtain ⟨m1, fs, m2⟩ := hel y (by rw [← Option.some.inj hy]; exact vIn_getD (by omega))
      refine ⟨m1, fs, (va_up_ne _ _ (fun z => ?_)).trans m2⟩
      rw [z, hf] at m2
      cases m2
      exact h9c rfl
    · rw [k1, k2, k3]
      refine V.mono ?_ (c_Al_fastRemove_end ((va_up_ne _ _ hab).trans hf2) ha (va_up_self _ _ _) hb hlen hcap (by omega) (fun j hj => ?_))
      · intro r h3 w
        obtain ⟨w1, w2, w3, w4⟩ := w
        exact ⟨w1, w2, w3, fun c k1 k2 => ((w4 c k1 k2).trans (va_up_ne _ _ k2)).trans (va_up_ne _ _ k1)⟩
      · rw [vErase]
        by_cases hji : j < i
        · rw [if_pos hji, pk_cpy_out (Or.inl hji), hxs j (by omega)]
        · rw [if_neg hji, pk_cpy_in (by omega) (by omega), show i + 1 + (j - i) = j + 1 by omega, hxs (j + 1) (by omega)]
theorem l_remove {a i ci : Nat} {bk : Option Nat} {xs : List Nat} {qc : vw_C} (hls : lsAt G h a bk xs) (hi : i < xs.length) (hel : ∀ y ∈ xs, y ∈ h.1 ∧ ∃ fs, h.2 y = .inr (ci, fs)) (hc : vCl[ci]? = some qc) (hx : Cond.castable qc.1 "java/lang/Object" ∈ vT) (h9c : ci ≠ 9) : ∃ b, bk = some b ∧ V G M_Al_remove 2 110 0 [(0, .ref a), (1, .int (nI i))] [] h 0 0 (rmQ G h a b (xs.eraseIdx i) (some (.ref (xs.getD i 0)))) := by
  obtain ⟨ha, mcv, hls⟩ := hls
  cases bk with
  | none => obtain ⟨h1, rfl⟩ := hls; cases hi
  | some b =>
    obtain ⟨cap, g, h1, h2, h3, h4, h5, h6, h7⟩ := hls
    refine ⟨b, rfl, ?_⟩
    have e1 : (nI i).toNatClampNeg = i := nI_clamp (by omega)
    refine v_iload_n d_Al_remove_0 rfl ?_
    refine v_aload_n d_Al_remove_1 rfl (by first | rfl | exact vIsR_rf _) ?_
    refine v_get d_Al_remove_2 h1 ha rfl i_Al 1 (by decide) kf_Al_48 (Or.inl rfl) rfl ?_
    refine v_callS2r (M1 := M_Os_checkIndex) d_Al_remove_5 km_Al_118 kS_Os_checkIndex (by decide) (by first | rfl | exact vRf_cat _) (by first | rfl | exact vRf_cat _) (by decide) kM_Os_checkIndex ki_Os (by decide) (by decide +kernel) (c_Os_checkIndex (nI_pos (by omega)) (nI_lt hi (by omega))) ?_
    refine v_pop d_Al_remove_8 (by first | rfl | exact vRf_cat _) ?_
    refine v_aload_n d_Al_remove_9 rfl (by first | rfl | exact vIsR_rf _) ?_
    refine v_get d_Al_remove_10 h1 ha rfl i_Al 0 (by decide) kf_Al_9 (Or.inl rfl) rfl ?_
    refine v_astore_n d_Al_remove_13 (by first | rfl | exact vIsR_rf _) (by decide) rfl ?_
    refine v_at 14 rfl ?_
    refine v_aload_n d_Al_remove_14 rfl (by first | rfl | exact vIsR_rf _) ?_
    refine v_iload_n d_Al_remove_15 rfl ?_
    refine v_aald d_Al_remove_16 h3 h2 (vp_in_nI (by omega) (by omega)) ?_
    rw [e1, h7 i hi]
    refine v_astore_n d_Al_remove_17 (by first | rfl | exact vIsR_rf _) (by decide) rfl ?_
    refine v_aload_n d_Al_remove_18 rfl (by first | rfl | exact vIsR_rf _) ?_
    refine v_aload_n d_Al_remove_19 rfl (by first | rfl | exact vIsR_rf _) ?_
    refine v_iload_n d_Al_remove_20 rfl ?_
    refine v_callV2 (M1 := M_Al_fastRemove) d_Al_remove_21 h1 ha rfl km_Al_144 kI_Al_fastRemove ks_Al_Al_fastRemove (by decide) rfl rfl (by decide) kM_Al_fastRemove ki_Al (by decide) (by decide +kernel) (c_Al_fastRemove h1 ha h3 h2 h4 h6 h7 hi hel hc hx h9c) (fun v h2 z => ?_) (fun E h2 z => nomatch z.1)
    obtain ⟨z1, z2⟩ := z
    cases z1
    refine v_aload_n d_Al_remove_24 rfl (by first | rfl | exact vIsR_rf _) ?_
    exact v_aret d_Al_remove_25 rfl (Or.inl ⟨_, rfl⟩) (by first | rfl | exact vIsR_rf _) ⟨rfl, z2⟩
end VRm
end
section
/-! The pool seen from above: plain cells and lists; the lists' own arrays are hidden. -/
section VAb
variable {G : vG} {h h' : vH}
abbrev aE : Type := va_E ⊕ (Nat × List Nat)
abbrev aH : Type := Nat → Option aE
def aB (G : vG) (F : aH) (bk : Nat → Option Nat) (h : vH) : Prop :=
  (∀ a e, F a = some (.inl e) → a ∈ h.1 ∧ h.2 a = e) ∧
  (∀ a ci xs, F a = some (.inr (ci, xs)) → lsAt G h a (bk a) xs ∧ ci < 9 ∧ ∀ y ∈ xs, ∃ fs, F y = some (.inl (.inr (ci, fs)))) ∧
  (∀ a z b, F a = some (.inr z) → bk a = some b → F b = none) ∧
  (∀ a a' z z' b, F a = some (.inr z) → F a' = some (.inr z') → bk a = some b → bk a' = some b → a = a')
def aR (G : vG) (F : aH) (h : vH) : Prop := ∃ bk, aB G F bk h
def aQ (G : vG) (Q : vR → aH → Prop) : vQ := fun r h' => ∃ F', aR G F' h' ∧ Q r F'
theorem aR.o {F : aH} (hR : aR G F h) {a : Nat} {e : va_E} (hF : F a = some (.inl e)) : h.2 a = e := by
  obtain ⟨bk, h1, -⟩ := hR
  exact (h1 a e hF).2
theorem aR.m {F : aH} (hR : aR G F h) {a : Nat} {z : aE} (hF : F a = some z) : a ∈ h.1 := by
  obtain ⟨bk, h1, h2, -⟩ := hR
  cases z with
  | inl e => exact (h1 a e hF).1
  | inr z => exact (h2 a z.1 z.2 hF).1.1
theorem aR.l {F : aH} (hR : aR G F h) {a ci : Nat} {xs : List Nat} (hF : F a = some (.inr (ci, xs))) : ∃ bk, lsAt G h a bk xs := by
  obtain ⟨bk, h1, h2, -⟩ := hR
  exact ⟨_, (h2 a ci xs hF).1⟩
/-- the cell of a list object itself, as a call's receiver wants it -/
theorem aR.lr {F : aH} (hR : aR G F h) {a ci : Nat} {xs : List Nat} (hF : F a = some (.inr (ci, xs))) : ∃ fs, h.2 a = .inr (9, fs) := by
  obtain ⟨bk, hl⟩ := hR.l hF
  obtain ⟨ed, mcv, hf, -⟩ := lsAt_fields hl
  exact ⟨_, hf⟩
theorem aR.fresh {F : aH} (hR : aR G F h) {q : Nat} (hq : q ∉ h.1) : F q = none := by
  cases hF : F q with
  | none => rfl
  | some z => exact absurd (hR.m hF) hq
theorem lsAt_keep {a : Nat} {bk : Option Nat} {xs : List Nat} (hls : lsAt G h a bk xs) (hm : ∀ c ∈ h.1, c ∈ h'.1) (h1 : h'.2 a = h.2 a) (h2 : ∀ b, bk = some b → h'.2 b = h.2 b) : lsAt G h' a bk xs := by
  obtain ⟨ha, mcv, hls⟩ := hls
  refine ⟨hm a ha, mcv, ?_⟩
  cases bk with
  | none => obtain ⟨k1, k2⟩ := hls; exact ⟨h1.trans k1, k2⟩
  | some b =>
    obtain ⟨cap, g, k1, k2, k3, k4⟩ := hls
    exact ⟨cap, g, h1.trans k1, hm b k2, (h2 b rfl).trans k3, k4⟩
theorem lsAt_bk {a b : Nat} {xs : List Nat} (hls : lsAt G h a (some b) xs) : b ∈ h.1 ∧ ∃ cap g, h.2 b = vOA G cap g := by
  obtain ⟨ha, mcv, cap, g, k1, k2, k3, k4⟩ := hls
  exact ⟨k2, cap, g, k3⟩
/-- a plain cell changes (an object keeps its class) -/
theorem aR.set {F : aH} (hR : aR G F h) {a : Nat} {e e' : va_E} (hF : F a = some (.inl e)) (he : ∀ ci fs, e = .inr (ci, fs) → ∃ fs', e' = .inr (ci, fs')) : aR G (va_up F a (some (.inl e'))) (h.1, va_up h.2 a e') := by
  obtain ⟨bk, h1, h2, h3, h4⟩ := hR
  have ha : a ∈ h.1 := (h1 a e hF).1
  have nl : ∀ c z, va_up F a (some (.inl e')) c = some (.inr z) → c ≠ a ∧ F c = some (.inr z) := by
    intro c z hc
    by_cases hca : c = a
    · rw [hca, va_up_self] at hc; cases hc
    · rw [va_up_ne _ _ hca] at hc; exact ⟨hca, hc⟩
  refine ⟨bk, fun c x hc => ?_, fun c ci xs hc => ?_, fun c z b hc hb => ?_, fun c c' z z' b hc hc' => h4 c c' z z' b (nl c z hc).2 (nl c' z' hc').2⟩
  · by_cases hca : c = a
    · rw [hca, va_up_self] at hc
      cases hc
      exact ⟨hca ▸ ha, by rw [hca]; exact va_up_self _ _ _⟩
    · rw [va_up_ne _ _ hca] at hc
      exact ⟨(h1 c x hc).1, (va_up_ne _ _ hca).trans (h1 c x hc).2⟩
  · obtain ⟨hca, hc⟩ := nl c _ hc
    obtain ⟨k1, k2, k3⟩ := h2 c ci xs hc
    refine ⟨lsAt_keep (h' := (h.1, va_up h.2 a e')) k1 (fun _ z => z) (va_up_ne _ _ hca) (fun b hb => va_up_ne _ _ (fun z => ?_)), k2, fun y hy => ?_⟩
    · have := h3 c _ b hc hb
      rw [z, hF] at this
      cases this
    · obtain ⟨fs, hy2⟩ := k3 y hy
      by_cases hya : y = a
      · rw [hya] at hy2
        rw [hF] at hy2
        obtain ⟨fs', he'⟩ := he ci fs (by cases hy2; rfl)
        exact ⟨fs', by rw [hya, va_up_self, he']⟩
      · exact ⟨fs, by rw [va_up_ne _ _ hya]; exact hy2⟩
  · obtain ⟨hca, hc⟩ := nl c z hc
    have := h3 c z b hc hb
    by_cases hba : b = a
    · rw [hba, hF] at this; cases this
    · rw [va_up_ne _ _ hba]; exact this
/-- a new plain cell -/
theorem aR.new {F : aH} (hR : aR G F h) {q : Nat} (hq : q ∉ h.1) (e : va_E) : aR G (va_up F q (some (.inl e))) (h.1 ++ [q], va_up h.2 q e) := by
  have hFq := hR.fresh hq
  obtain ⟨bk, h1, h2, h3, h4⟩ := hR
  have nl : ∀ c z, va_up F q (some (.inl e)) c = some (.inr z) → c ≠ q ∧ F c = some (.inr z) := by
    intro c z hc
    by_cases hca : c = q
    · rw [hca, va_up_self] at hc; cases hc
    · rw [va_up_ne _ _ hca] at hc; exact ⟨hca, hc⟩
  have nq : ∀ c ∈ h.1, c ≠ q := fun c hc z => hq (z ▸ hc)
  refine ⟨bk, fun c x hc => ?_, fun c ci xs hc => ?_, fun c z b hc hb => ?_, fun c c' z z' b hc hc' => h4 c c' z z' b (nl c z hc).2 (nl c' z' hc').2⟩
  · by_cases hca : c = q
    · rw [hca, va_up_self] at hc
      cases hc
      exact ⟨by rw [hca]; exact List.mem_append_right _ List.mem_cons_self, by rw [hca]; exact va_up_self _ _ _⟩
    · rw [va_up_ne _ _ hca] at hc
      exact ⟨List.mem_append_left _ (h1 c x hc).1, (va_up_ne _ _ hca).trans (h1 c x hc).2⟩
  · obtain ⟨hca, hc⟩ := nl c _ hc
    obtain ⟨k1, k2, k3⟩ := h2 c ci xs hc
    refine ⟨lsAt_keep (h' := (h.1 ++ [q], va_up h.2 q e)) k1 (fun _ z => List.mem_append_left _ z) (va_up_ne _ _ hca) (fun b hb => va_up_ne _ _ (nq b ?_)), k2, fun y hy => ?_⟩
    · rw [hb] at k1
      exact (lsAt_bk k1).1
    · obtain ⟨fs, hy2⟩ := k3 y hy
      refine ⟨fs, ?_⟩
      rw [va_up_ne _ _ (fun z => by rw [z, hFq] at hy2; cases hy2)]
      exact hy2
  · obtain ⟨hca, hc⟩ := nl c z hc
    have k0 := (h2 c z.1 z.2 hc).1
    rw [hb] at k0
    rw [va_up_ne _ _ (nq b (lsAt_bk k0).1)]
    exact h3 c z b hc hb
/-- a new list object, made and begun -/
theorem aR.newL {F : aH} (hR : aR G F h) {q : Nat} (hq : q ∉ h.1) {f' : Nat → va_E} (hf : f' q = .inr (9, [.ref G.2.2.1, .int 0, .int 0])) (hk : ∀ c, c ≠ q → f' c = h.2 c) (ci : Nat) (hci : ci < 9) : aR G (va_up F q (some (.inr (ci, [])))) (h.1 ++ [q], f') := by
  have hFq := hR.fresh hq
  obtain ⟨bk, h1, h2, h3, h4⟩ := hR
  have nq : ∀ c ∈ h.1, c ≠ q := fun c hc z => hq (z ▸ hc)
  have nl : ∀ c z, c ≠ q → va_up F q (some (.inr (ci, []))) c = some (.inr z) → F c = some (.inr z) := fun c z hca hc => by rw [va_up_ne _ _ hca] at hc; exact hc
  refine ⟨va_up bk q none, fun c x hc => ?_, fun c cj xs hc => ?_, fun c z b hc hb => ?_, fun c c' z z' b hc hc' hb hb' => ?_⟩
  · by_cases hca : c = q
    · rw [hca, va_up_self] at hc; cases hc
    · rw [va_up_ne _ _ hca] at hc
      exact ⟨List.mem_append_left _ (h1 c x hc).1, (hk c hca).trans (h1 c x hc).2⟩
  · by_cases hca : c = q
    · rw [hca, va_up_self] at hc
      cases hc
      rw [hca, va_up_self]
      exact ⟨⟨List.mem_append_right _ List.mem_cons_self, 0, hf, rfl⟩, hci, fun y hy => by cases hy⟩
    · have hc := nl c _ hca hc
      obtain ⟨k1, k2, k3⟩ := h2 c cj xs hc
      rw [va_up_ne _ _ hca]
      refine ⟨lsAt_keep (h' := (h.1 ++ [q], f')) k1 (fun _ z => List.mem_append_left _ z) (hk c hca) (fun b hb => hk b (nq b ?_)), k2, fun y hy => ?_⟩
      · rw [hb] at k1
        exact (lsAt_bk k1).1
      · obtain ⟨fs, hy2⟩ := k3 y hy
        refine ⟨fs, ?_⟩
        rw [va_up_ne _ _ (fun z => by rw [z, hFq] at hy2; cases hy2)]
        exact hy2
  · by_cases hca : c = q
    · rw [hca, va_up_self] at hb; cases hb
    · rw [va_up_ne _ _ hca] at hb
      have hc := nl c _ hca hc
      have k0 := (h2 c z.1 z.2 hc).1
      rw [hb] at k0
      rw [va_up_ne _ _ (nq b (lsAt_bk k0).1)]
      exact h3 c z b hc hb
  · by_cases hca : c = q
    · rw [hca, va_up_self] at hb; cases hb
    · by_cases hca' : c' = q
      · rw [hca', va_up_self] at hb'; cases hb'
      · rw [va_up_ne _ _ hca] at hb
        rw [va_up_ne _ _ hca'] at hb'
        exact h4 c c' z z' b (nl c z hca hc) (nl c' z' hca' hc') hb hb'
/-- a list has other elements behind a call of its own methods -/
theorem aR.upL {F : aH} {bk : Nat → Option Nat} (hB : aB G F bk h) {a ci : Nat} {xs xs' : List Nat} {b' : Option Nat} (hF : F a = some (.inr (ci, xs))) (hls : lsAt G h' a b' xs') (hm : ∀ c ∈ h.1, c ∈ h'.1) (hk : ∀ c, c ≠ a → bk a ≠ some c → c ∈ h.1 → h'.2 c = h.2 c) (hb' : b' = bk a ∨ ∃ q, b' = some q ∧ q ∉ h.1) (hel : ∀ y ∈ xs', ∃ fs, F y = some (.inl (.inr (ci, fs)))) : aR G (va_up F a (some (.inr (ci, xs')))) h' := by
  have hfr : ∀ q, q ∉ h.1 → F q = none := fun q hq => aR.fresh ⟨bk, hB⟩ hq
  have hmm : ∀ c z, F c = some z → c ∈ h.1 := fun c z hc => aR.m ⟨bk, hB⟩ hc
  obtain ⟨h1, h2, h3, h4⟩ := hB
  have up : ∀ y fs, F y = some (.inl fs) → va_up F a (some (.inr (ci, xs'))) y = some (.inl fs) := fun y fs hy => by
    rw [va_up_ne _ _ (fun z => by rw [z, hF] at hy; cases hy)]
    exact hy
  refine ⟨va_up bk a b', fun c x hc => ?_, fun c cj ys hc => ?_, fun c z b hc hb => ?_, fun c c' z z' b hc hc' hb hbb => ?_⟩
  · by_cases hca : c = a
    · rw [hca, va_up_self] at hc; cases hc
    · rw [va_up_ne _ _ hca] at hc
      refine ⟨hm c (h1 c x hc).1, (hk c hca (fun z => ?_) (h1 c x hc).1).trans (h1 c x hc).2⟩
      have := h3 a _ c hF z
      rw [hc] at this
      cases this
  · by_cases hca : c = a
    · rw [hca, va_up_self] at hc
      cases hc
      rw [hca, va_up_self]
      refine ⟨hls, (h2 a ci xs hF).2.1, fun y hy => ?_⟩
      obtain ⟨fs, hy2⟩ := hel y hy
      exact ⟨fs, up y _ hy2⟩
    · rw [va_up_ne _ _ hca] at hc
      obtain ⟨k1, k2, k3⟩ := h2 c cj ys hc
      rw [va_up_ne _ _ hca]
      refine ⟨lsAt_keep k1 hm (hk c hca (fun z => ?_) k1.1) (fun b hb => ?_), k2, fun y hy => ?_⟩
      · have := h3 a _ c hF z
        rw [hc] at this
        cases this
      · rw [hb] at k1
        refine hk b (fun z => ?_) (fun z => ?_) (lsAt_bk k1).1
        · have := h3 c _ b hc hb
          rw [z, hF] at this
          cases this
        · exact hca (h4 c a _ _ b hc hF hb z)
      · obtain ⟨fs, hy2⟩ := k3 y hy
        exact ⟨fs, up y _ hy2⟩
  · have key : F b = none → va_up F a (some (.inr (ci, xs'))) b = none := fun hn => by
      rw [va_up_ne _ _ (fun z => by rw [z, hF] at hn; cases hn)]
      exact hn
    by_cases hca : c = a
    · rw [hca, va_up_self] at hb
      rcases hb' with e1 | ⟨q, e1, e2⟩
      · exact key (h3 a _ b hF (e1 ▸ hb))
      · rw [e1] at hb
        cases hb
        exact key (hfr _ e2)
    · rw [va_up_ne _ _ hca] at hb hc
      exact key (h3 c z b hc hb)
  · have other : ∀ c z, c ≠ a → F c = some (.inr z) → bk c = some b → b' = some b → False := by
      intro c z hca hc hb e0
      rcases hb' with e1 | ⟨q, e1, e2⟩
      · exact hca (h4 c a z _ b hc hF hb (e1 ▸ e0))
      · rw [e1] at e0
        cases e0
        have k0 := (h2 c z.1 z.2 hc).1
        rw [hb] at k0
        exact e2 (lsAt_bk k0).1
    by_cases hca : c = a
    · by_cases hca' : c' = a
      · rw [hca, hca']
      · rw [hca, va_up_self] at hb
        rw [va_up_ne _ _ hca'] at hbb hc'
        exact (other c' z' hca' hc' hbb hb).elim
    · by_cases hca' : c' = a
      · rw [hca', va_up_self] at hbb
        rw [va_up_ne _ _ hca] at hb hc
        exact (other c z hca hc hb hbb).elim
      · rw [va_up_ne _ _ hca] at hb hc
        rw [va_up_ne _ _ hca'] at hbb hc'
        exact h4 c c' z z' b hc hc' hb hbb
/-- the lists' methods, seen from above -/
theorem a_size {F : aH} (hR : aR G F h) {a ci : Nat} {xs : List Nat} (hF : F a = some (.inr (ci, xs))) : V G M_Al_size 0 0 0 [(0, .ref a)] [] h 0 0 (vRet (some (.int (nI xs.length))) h) := by
  obtain ⟨bk, hl⟩ := hR.l hF
  exact l_size hl
theorem a_get {F : aH} (hR : aR G F h) {a ci i : Nat} {xs : List Nat} (hF : F a = some (.inr (ci, xs))) (hi : i < xs.length) : V G M_Al_get 2 43 0 [(0, .ref a), (1, .int (nI i))] [] h 0 0 (vRet (some (.ref (xs.getD i 0))) h) := by
  obtain ⟨bk, hl⟩ := hR.l hF
  exact l_get hl hi
theorem a_add {F : aH} (hR : aR G F h) {a ci e : Nat} {vs : List Value} {xs : List Nat} {qc : vw_C} (hF : F a = some (.inr (ci, xs))) (h9 : xs.length < 40) (he : F e = some (.inl (.inr (ci, vs)))) (hc : vCl[ci]? = some qc) (hx : Cond.castable qc.1 "java/lang/Object" ∈ vT) : V G M_Al_add 6 210 0 [(0, .ref a), (1, .ref e)] [] h 1 60 (aQ G (fun r F' => r = .inl (some (.int 1)) ∧ F' = va_up F a (some (.inr (ci, xs ++ [e]))))) := by
  obtain ⟨bk, hB⟩ := hR
  obtain ⟨h1, h2, h3, h4⟩ := id hB
  obtain ⟨k1, k2, k3⟩ := h2 a ci xs hF
  refine V.mono ?_ (c_Al_add k1 h9 (fun y hy => ?_) (h1 e _ he).2 (h1 e _ he).1 hc hx (by omega))
  · intro r h2 z
    obtain ⟨z1, b', z2, z3, z4, z5, z6⟩ := z
    refine ⟨_, aR.upL hB hF z2 z3 z4 z5 (fun y hy => ?_), z1, rfl⟩
    rcases List.mem_append.mp hy with hy | hy
    · exact k3 y hy
    · rw [List.mem_singleton.mp hy]; exact ⟨vs, he⟩
  · obtain ⟨fs, hy2⟩ := k3 y hy
    exact ⟨(h1 y _ hy2).1, fs, (h1 y _ hy2).2⟩
theorem a_remove {F : aH} (hR : aR G F h) {a ci i : Nat} {xs : List Nat} {qc : vw_C} (hF : F a = some (.inr (ci, xs))) (hi : i < xs.length) (hc : vCl[ci]? = some qc) (hx : Cond.castable qc.1 "java/lang/Object" ∈ vT) : V G M_Al_remove 2 110 0 [(0, .ref a), (1, .int (nI i))] [] h 0 0 (aQ G (fun r F' => r = .inl (some (.ref (xs.getD i 0))) ∧ F' = va_up F a (some (.inr (ci, xs.eraseIdx i))))) := by
  obtain ⟨bk, hB⟩ := hR
  obtain ⟨h1, h2, h3, h4⟩ := id hB
  obtain ⟨k1, k2, k3⟩ := h2 a ci xs hF
  obtain ⟨b, hb, hV⟩ := l_remove k1 hi (fun y hy => by
    obtain ⟨fs, hy2⟩ := k3 y hy
    exact ⟨(h1 y _ hy2).1, fs, (h1 y _ hy2).2⟩) hc hx (by omega)
  refine V.mono ?_ hV
  intro r h2 z
  obtain ⟨z1, z2, z3, z4⟩ := z
  refine ⟨_, aR.upL hB hF z2 (fun c hc => by rw [z3]; exact hc) (fun c u1 u2 u3 => z4 c u1 (fun w => u2 (by rw [hb, w]))) (Or.inl hb.symm) (fun y hy => k3 y (List.mem_of_mem_eraseIdx hy)), z1, rfl⟩
end VAb
end
section
/-! The reference: one object, its arrays and its numbers. -/
section VMo
def mFl (ad : Nat → Nat) (Y : Nat → Int32) : List Value := [.ref (ad 0), .ref (ad 1), .ref (ad 2), .ref (ad 3), .ref (ad 4), .ref (ad 5), .ref (ad 6), .ref (ad 7), .ref (ad 8), .ref (ad 9), .ref (ad 10), .ref (ad 11), .ref (ad 12), .ref (ad 13), .ref (ad 14), .ref (ad 15), .int (Y 16), .int (Y 17), .int (Y 18), .int (Y 19), .ref (ad 20), .ref (ad 21), .ref (ad 22), .ref (ad 23), .ref (ad 24), .ref (ad 25), .ref (ad 26), .ref (ad 27), .ref (ad 28), .ref (ad 29), .ref (ad 30)]
def mLen : Nat → Nat := fun k => [8, 8, 24, 24, 24, 24, 24, 24, 24, 24, 24, 8, 120, 120, 120, 120, 0, 0, 0, 0, 144, 144, 144, 144, 144, 120, 24, 8, 17, 17, 17].getD k 0
def mCls : Nat → Nat := fun k => if k = 9 ∨ k = 10 ∨ k = 11 then 1 else 0
def mArr (k : Nat) : Bool := decide (k < 31) && !(decide (16 ≤ k) && decide (k < 20))
def mW (X : Nat → Nat → Int32) (k i : Nat) (x : Int32) : Nat → Nat → Int32 := fun k' i' => if k' = k ∧ i' = i then x else X k' i'
theorem mW_at {X : Nat → Nat → Int32} {k i : Nat} {x : Int32} : mW X k i x k i = x := by simp [mW]
theorem mW_k {X : Nat → Nat → Int32} {k i k' i' : Nat} {x : Int32} (h : k' ≠ k) : mW X k i x k' i' = X k' i' := by simp [mW, h]
theorem mW_i {X : Nat → Nat → Int32} {k i k' i' : Nat} {x : Int32} (h : i' ≠ i) : mW X k i x k' i' = X k' i' := by simp [mW, h]
def mP (G : vG) (am : Nat) (ad : Nat → Nat) (X : Nat → Nat → Int32) (Y : Nat → Int32) (h : vH) : Prop := am ∈ h.1 ∧ h.2 am = .inr (8, mFl ad Y) ∧ (∀ k, mArr k = true → ad k ∈ h.1 ∧ h.2 (ad k) = .inl (G.2.1 (mCls k), mLen k, .inl (X k))) ∧ (∀ j k, mArr j = true → mArr k = true → ad j = ad k → j = k)
def mQ (G : vG) (am : Nat) (ad : Nat → Nat) (L : List Nat) (Q : vR → (Nat → Nat → Int32) → (Nat → Int32) → Prop) : vQ := fun r h' => h'.1 = L ∧ ∃ X' Y', mP G am ad X' Y' h' ∧ Q r X' Y'
def VM (G : vG) (M : vM) (fr lo pc : Nat) (lv : List (Nat × Value)) (st : List Value) (am : Nat) (ad : Nat → Nat) (X : Nat → Nat → Int32) (Y : Nat → Int32) (Q : vR → (Nat → Nat → Int32) → (Nat → Int32) → Prop) : Prop :=
  ∀ h : vH, mP G am ad X Y h → V G M fr lo pc lv st h 0 0 (mQ G am ad h.1 Q)
variable {G : vG} {M M1 : vM} {fr lo pc fr1 lo1 : Nat} {lv lv' : List (Nat × Value)} {st : List Value} {am : Nat} {ad : Nat → Nat} {X X1 : Nat → Nat → Int32} {Y Y1 : Nat → Int32} {Q Q1 : vR → (Nat → Nat → Int32) → (Nat → Int32) → Prop}
theorem m_iconst {n : Int} {v : Int32} (d : decode M.2.1 pc = .ok (.iconst n, 1)) (hv : Int32.ofInt n = v) (k : VM G M fr lo (pc + 1) lv (.int v :: st) am ad X Y Q) : VM G M fr lo pc lv st am ad X Y Q := fun h hP => v_iconst d hv (k h hP)
theorem m_bipush {n : Int} {v : Int32} (d : decode M.2.1 pc = .ok (.bipush n, 2)) (hv : (Int8.ofInt n).toInt32 = v) (k : VM G M fr lo (pc + 2) lv (.int v :: st) am ad X Y Q) : VM G M fr lo pc lv st am ad X Y Q := fun h hP => v_bipush d hv (k h hP)
theorem m_sipush {n : Int} {v : Int32} (d : decode M.2.1 pc = .ok (.sipush n, 3)) (hv : (Int16.ofInt n).toInt32 = v) (k : VM G M fr lo (pc + 3) lv (.int v :: st) am ad X Y Q) : VM G M fr lo pc lv st am ad X Y Q := fun h hP => v_sipush d hv (k h hP)
theorem m_null  (d : decode M.2.1 pc = .ok (.aconst_null, 1)) (k : VM G M fr lo (pc + 1) lv (.null :: st) am ad X Y Q) : VM G M fr lo pc lv st am ad X Y Q := fun h hP => v_null d (k h hP)
theorem m_iload_n {i : Fin 4} {x : Int32} (d : decode M.2.1 pc = .ok (.iload_n i, 1)) (hl : vGet lv i.val = some (.int x)) (k : VM G M fr lo (pc + 1) lv (.int x :: st) am ad X Y Q) : VM G M fr lo pc lv st am ad X Y Q := fun h hP => v_iload_n d hl (k h hP)
theorem m_iload {i : Nat} {x : Int32} (d : decode M.2.1 pc = .ok (.iload i, 2)) (hl : vGet lv i = some (.int x)) (k : VM G M fr lo (pc + 2) lv (.int x :: st) am ad X Y Q) : VM G M fr lo pc lv st am ad X Y Q := fun h hP => v_iload d hl (k h hP)
theorem m_aload_n {i : Fin 4} {v : Value} (d : decode M.2.1 pc = .ok (.aload_n i, 1)) (hl : vGet lv i.val = some v) (hv : vIsR v = true) (k : VM G M fr lo (pc + 1) lv (v :: st) am ad X Y Q) : VM G M fr lo pc lv st am ad X Y Q := fun h hP => v_aload_n d hl hv (k h hP)
theorem m_aload {i : Nat} {v : Value} (d : decode M.2.1 pc = .ok (.aload i, 2)) (hl : vGet lv i = some v) (hv : vIsR v = true) (k : VM G M fr lo (pc + 2) lv (v :: st) am ad X Y Q) : VM G M fr lo pc lv st am ad X Y Q := fun h hP => v_aload d hl hv (k h hP)
theorem m_istore_n {i : Fin 4} {x : Int32} (d : decode M.2.1 pc = .ok (.istore_n i, 1)) (hn : i.val < M.2.2.1) (hl : vRep lv i.val (.int x) false = some lv') (k : VM G M fr lo (pc + 1) lv' st am ad X Y Q) : VM G M fr lo pc lv (.int x :: st) am ad X Y Q := fun h hP => v_istore_n d hn hl (k h hP)
theorem m_istore {i : Nat} {x : Int32} (d : decode M.2.1 pc = .ok (.istore i, 2)) (hn : i < M.2.2.1) (hl : vRep lv i (.int x) false = some lv') (k : VM G M fr lo (pc + 2) lv' st am ad X Y Q) : VM G M fr lo pc lv (.int x :: st) am ad X Y Q := fun h hP => v_istore d hn hl (k h hP)
theorem m_astore_n {i : Fin 4} {v : Value} (d : decode M.2.1 pc = .ok (.astore_n i, 1)) (hv : vIsR v = true) (hn : i.val < M.2.2.1) (hl : vRep lv i.val v false = some lv') (k : VM G M fr lo (pc + 1) lv' st am ad X Y Q) : VM G M fr lo pc lv (v :: st) am ad X Y Q := fun h hP => v_astore_n d hv hn hl (k h hP)
theorem m_astore {i : Nat} {v : Value} (d : decode M.2.1 pc = .ok (.astore i, 2)) (hv : vIsR v = true) (hn : i < M.2.2.1) (hl : vRep lv i v false = some lv') (k : VM G M fr lo (pc + 2) lv' st am ad X Y Q) : VM G M fr lo pc lv (v :: st) am ad X Y Q := fun h hP => v_astore d hv hn hl (k h hP)
theorem m_iinc {i : Nat} {n : Int} {x v : Int32} (d : decode M.2.1 pc = .ok (.iinc i n, 3)) (hx : vGet lv i = some (.int x)) (hv : x + Int32.ofInt n = v) (hn : i < M.2.2.1) (hl : vRep lv i (.int v) false = some lv') (k : VM G M fr lo (pc + 3) lv' st am ad X Y Q) : VM G M fr lo pc lv st am ad X Y Q := fun h hP => v_iinc d hx hv hn hl (k h hP)
theorem m_iadd {x y : Int32} (d : decode M.2.1 pc = .ok (.iadd, 1)) (k : VM G M fr lo (pc + 1) lv (.int (x + y) :: st) am ad X Y Q) : VM G M fr lo pc lv (.int y :: .int x :: st) am ad X Y Q := fun h hP => v_iadd d (k h hP)
theorem m_isub {x y : Int32} (d : decode M.2.1 pc = .ok (.isub, 1)) (k : VM G M fr lo (pc + 1) lv (.int (x - y) :: st) am ad X Y Q) : VM G M fr lo pc lv (.int y :: .int x :: st) am ad X Y Q := fun h hP => v_isub d (k h hP)
theorem m_imul {x y : Int32} (d : decode M.2.1 pc = .ok (.imul, 1)) (k : VM G M fr lo (pc + 1) lv (.int (x * y) :: st) am ad X Y Q) : VM G M fr lo pc lv (.int y :: .int x :: st) am ad X Y Q := fun h hP => v_imul d (k h hP)
theorem m_iand {x y : Int32} (d : decode M.2.1 pc = .ok (.iand, 1)) (k : VM G M fr lo (pc + 1) lv (.int (x &&& y) :: st) am ad X Y Q) : VM G M fr lo pc lv (.int y :: .int x :: st) am ad X Y Q := fun h hP => v_iand d (k h hP)
theorem m_ior {x y : Int32} (d : decode M.2.1 pc = .ok (.ior, 1)) (k : VM G M fr lo (pc + 1) lv (.int (x ||| y) :: st) am ad X Y Q) : VM G M fr lo pc lv (.int y :: .int x :: st) am ad X Y Q := fun h hP => v_ior d (k h hP)
theorem m_ishl {x y : Int32} (d : decode M.2.1 pc = .ok (.ishl, 1)) (k : VM G M fr lo (pc + 1) lv (.int (x <<< (y &&& 31)) :: st) am ad X Y Q) : VM G M fr lo pc lv (.int y :: .int x :: st) am ad X Y Q := fun h hP => v_ishl d (k h hP)
theorem m_ishr {x y : Int32} (d : decode M.2.1 pc = .ok (.ishr, 1)) (k : VM G M fr lo (pc + 1) lv (.int (x >>> (y &&& 31)) :: st) am ad X Y Q) : VM G M fr lo pc lv (.int y :: .int x :: st) am ad X Y Q := fun h hP => v_ishr d (k h hP)
theorem m_i2l {x : Int32} (d : decode M.2.1 pc = .ok (.i2l, 1)) (k : VM G M fr lo (pc + 1) lv (.long x.toInt64 :: st) am ad X Y Q) : VM G M fr lo pc lv (.int x :: st) am ad X Y Q := fun h hP => v_i2l d (k h hP)
theorem m_lcmp {x y : Int64} (d : decode M.2.1 pc = .ok (.lcmp, 1)) (k : VM G M fr lo (pc + 1) lv (.int (lg_cmp x y) :: st) am ad X Y Q) : VM G M fr lo pc lv (.long y :: .long x :: st) am ad X Y Q := fun h hP => v_lcmp d (k h hP)
theorem m_dup {v : Value} (d : decode M.2.1 pc = .ok (.dup, 1)) (hv : v.category = 1) (k : VM G M fr lo (pc + 1) lv (v :: v :: st) am ad X Y Q) : VM G M fr lo pc lv (v :: st) am ad X Y Q := fun h hP => v_dup d hv (k h hP)
theorem m_pop {v : Value} (d : decode M.2.1 pc = .ok (.pop, 1)) (hv : v.category = 1) (k : VM G M fr lo (pc + 1) lv st am ad X Y Q) : VM G M fr lo pc lv (v :: st) am ad X Y Q := fun h hP => v_pop d hv (k h hP)
theorem m_dup_x1 {v w : Value} (d : decode M.2.1 pc = .ok (.dup_x1, 1)) (hv : v.category = 1) (hw : w.category = 1) (k : VM G M fr lo (pc + 1) lv (v :: w :: v :: st) am ad X Y Q) : VM G M fr lo pc lv (v :: w :: st) am ad X Y Q := fun h hP => v_dup_x1 d hv hw (k h hP)
theorem m_dup2 {v w : Value} (d : decode M.2.1 pc = .ok (.dup2, 1)) (hv : v.category = 1) (hw : w.category = 1) (k : VM G M fr lo (pc + 1) lv (v :: w :: v :: w :: st) am ad X Y Q) : VM G M fr lo pc lv (v :: w :: st) am ad X Y Q := fun h hP => v_dup2 d hv hw (k h hP)
theorem m_if_eq {x : Int32} {off : Int} {tgt : Nat} (d : decode M.2.1 pc = .ok (.ifCond .eq off, 3)) (ht : (pc : Int) + off = (tgt : Int)) (kt : x = 0 → VM G M fr lo tgt lv st am ad X Y Q) (kf : ¬ x = 0 → VM G M fr lo (pc + 3) lv st am ad X Y Q) : VM G M fr lo pc lv (.int x :: st) am ad X Y Q := fun h hP => v_if_eq d ht (fun z => kt z h hP) (fun z => kf z h hP)
theorem m_icmp_eq {x y : Int32} {off : Int} {tgt : Nat} (d : decode M.2.1 pc = .ok (.if_icmp .eq off, 3)) (ht : (pc : Int) + off = (tgt : Int)) (kt : x = y → VM G M fr lo tgt lv st am ad X Y Q) (kf : ¬ x = y → VM G M fr lo (pc + 3) lv st am ad X Y Q) : VM G M fr lo pc lv (.int y :: .int x :: st) am ad X Y Q := fun h hP => v_icmp_eq d ht (fun z => kt z h hP) (fun z => kf z h hP)
theorem m_if_ne {x : Int32} {off : Int} {tgt : Nat} (d : decode M.2.1 pc = .ok (.ifCond .ne off, 3)) (ht : (pc : Int) + off = (tgt : Int)) (kt : ¬ x = 0 → VM G M fr lo tgt lv st am ad X Y Q) (kf : x = 0 → VM G M fr lo (pc + 3) lv st am ad X Y Q) : VM G M fr lo pc lv (.int x :: st) am ad X Y Q := fun h hP => v_if_ne d ht (fun z => kt z h hP) (fun z => kf z h hP)
theorem m_icmp_ne {x y : Int32} {off : Int} {tgt : Nat} (d : decode M.2.1 pc = .ok (.if_icmp .ne off, 3)) (ht : (pc : Int) + off = (tgt : Int)) (kt : ¬ x = y → VM G M fr lo tgt lv st am ad X Y Q) (kf : x = y → VM G M fr lo (pc + 3) lv st am ad X Y Q) : VM G M fr lo pc lv (.int y :: .int x :: st) am ad X Y Q := fun h hP => v_icmp_ne d ht (fun z => kt z h hP) (fun z => kf z h hP)
theorem m_if_lt {x : Int32} {off : Int} {tgt : Nat} (d : decode M.2.1 pc = .ok (.ifCond .lt off, 3)) (ht : (pc : Int) + off = (tgt : Int)) (kt : x < 0 → VM G M fr lo tgt lv st am ad X Y Q) (kf : ¬ x < 0 → VM G M fr lo (pc + 3) lv st am ad X Y Q) : VM G M fr lo pc lv (.int x :: st) am ad X Y Q := fun h hP => v_if_lt d ht (fun z => kt z h hP) (fun z => kf z h hP)
theorem m_icmp_lt {x y : Int32} {off : Int} {tgt : Nat} (d : decode M.2.1 pc = .ok (.if_icmp .lt off, 3)) (ht : (pc : Int) + off = (tgt : Int)) (kt : x < y → VM G M fr lo tgt lv st am ad X Y Q) (kf : ¬ x < y → VM G M fr lo (pc + 3) lv st am ad X Y Q) : VM G M fr lo pc lv (.int y :: .int x :: st) am ad X Y Q := fun h hP => v_icmp_lt d ht (fun z => kt z h hP) (fun z => kf z h hP)
theorem m_if_ge {x : Int32} {off : Int} {tgt : Nat} (d : decode M.2.1 pc = .ok (.ifCond .ge off, 3)) (ht : (pc : Int) + off = (tgt : Int)) (kt : 0 ≤ x → VM G M fr lo tgt lv st am ad X Y Q) (kf : ¬ 0 ≤ x → VM G M fr lo (pc + 3) lv st am ad X Y Q) : VM G M fr lo pc lv (.int x :: st) am ad X Y Q := fun h hP => v_if_ge d ht (fun z => kt z h hP) (fun z => kf z h hP)
theorem m_icmp_ge {x y : Int32} {off : Int} {tgt : Nat} (d : decode M.2.1 pc = .ok (.if_icmp .ge off, 3)) (ht : (pc : Int) + off = (tgt : Int)) (kt : y ≤ x → VM G M fr lo tgt lv st am ad X Y Q) (kf : ¬ y ≤ x → VM G M fr lo (pc + 3) lv st am ad X Y Q) : VM G M fr lo pc lv (.int y :: .int x :: st) am ad X Y Q := fun h hP => v_icmp_ge d ht (fun z => kt z h hP) (fun z => kf z h hP)
theorem m_if_gt {x : Int32} {off : Int} {tgt : Nat} (d : decode M.2.1 pc = .ok (.ifCond .gt off, 3)) (ht : (pc : Int) + off = (tgt : Int)) (kt : 0 < x → VM G M fr lo tgt lv st am ad X Y Q) (kf : ¬ 0 < x → VM G M fr lo (pc + 3) lv st am ad X Y Q) : VM G M fr lo pc lv (.int x :: st) am ad X Y Q := fun h hP => v_if_gt d ht (fun z => kt z h hP) (fun z => kf z h hP)
theorem m_icmp_gt {x y : Int32} {off : Int} {tgt : Nat} (d : decode M.2.1 pc = .ok (.if_icmp .gt off, 3)) (ht : (pc : Int) + off = (tgt : Int)) (kt : y < x → VM G M fr lo tgt lv st am ad X Y Q) (kf : ¬ y < x → VM G M fr lo (pc + 3) lv st am ad X Y Q) : VM G M fr lo pc lv (.int y :: .int x :: st) am ad X Y Q := fun h hP => v_icmp_gt d ht (fun z => kt z h hP) (fun z => kf z h hP)
theorem m_if_le {x : Int32} {off : Int} {tgt : Nat} (d : decode M.2.1 pc = .ok (.ifCond .le off, 3)) (ht : (pc : Int) + off = (tgt : Int)) (kt : x ≤ 0 → VM G M fr lo tgt lv st am ad X Y Q) (kf : ¬ x ≤ 0 → VM G M fr lo (pc + 3) lv st am ad X Y Q) : VM G M fr lo pc lv (.int x :: st) am ad X Y Q := fun h hP => v_if_le d ht (fun z => kt z h hP) (fun z => kf z h hP)
theorem m_icmp_le {x y : Int32} {off : Int} {tgt : Nat} (d : decode M.2.1 pc = .ok (.if_icmp .le off, 3)) (ht : (pc : Int) + off = (tgt : Int)) (kt : x ≤ y → VM G M fr lo tgt lv st am ad X Y Q) (kf : ¬ x ≤ y → VM G M fr lo (pc + 3) lv st am ad X Y Q) : VM G M fr lo pc lv (.int y :: .int x :: st) am ad X Y Q := fun h hP => v_icmp_le d ht (fun z => kt z h hP) (fun z => kf z h hP)
theorem m_acmp_eq {rx ry : Option Nat} {off : Int} {tgt : Nat} (d : decode M.2.1 pc = .ok (.if_acmp .eq off, 3)) (ht : (pc : Int) + off = (tgt : Int)) (kt : rx = ry → VM G M fr lo tgt lv st am ad X Y Q) (kf : ¬ rx = ry → VM G M fr lo (pc + 3) lv st am ad X Y Q) : VM G M fr lo pc lv (va_rf ry :: va_rf rx :: st) am ad X Y Q := fun h hP => v_acmp_eq d ht (fun z => kt z h hP) (fun z => kf z h hP)
theorem m_acmp_ne {rx ry : Option Nat} {off : Int} {tgt : Nat} (d : decode M.2.1 pc = .ok (.if_acmp .ne off, 3)) (ht : (pc : Int) + off = (tgt : Int)) (kt : ¬ rx = ry → VM G M fr lo tgt lv st am ad X Y Q) (kf : rx = ry → VM G M fr lo (pc + 3) lv st am ad X Y Q) : VM G M fr lo pc lv (va_rf ry :: va_rf rx :: st) am ad X Y Q := fun h hP => v_acmp_ne d ht (fun z => kt z h hP) (fun z => kf z h hP)
theorem m_goto {off : Int} {tgt : Nat} (d : decode M.2.1 pc = .ok (.goto off, 3)) (ht : (pc : Int) + off = (tgt : Int)) (k : VM G M fr lo tgt lv st am ad X Y Q) : VM G M fr lo pc lv st am ad X Y Q := fun h hP => v_goto d ht (k h hP)
theorem m_ifnull {r : Option Nat} {off : Int} {tgt : Nat} (d : decode M.2.1 pc = .ok (.ifnull off, 3)) (ht : (pc : Int) + off = (tgt : Int)) (kn : r = none → VM G M fr lo tgt lv st am ad X Y Q) (ks : ∀ a, r = some a → VM G M fr lo (pc + 3) lv st am ad X Y Q) : VM G M fr lo pc lv (va_rf r :: st) am ad X Y Q := fun h hP => v_ifnull d ht (fun z => kn z h hP) (fun a z => ks a z h hP)
theorem m_ifnonnull {r : Option Nat} {off : Int} {tgt : Nat} (d : decode M.2.1 pc = .ok (.ifnonnull off, 3)) (ht : (pc : Int) + off = (tgt : Int)) (kn : r = none → VM G M fr lo (pc + 3) lv st am ad X Y Q) (ks : ∀ a, r = some a → VM G M fr lo tgt lv st am ad X Y Q) : VM G M fr lo pc lv (va_rf r :: st) am ad X Y Q := fun h hP => v_ifnonnull d ht (fun z => kn z h hP) (fun a z => ks a z h hP)
theorem m_iincw {i : Nat} {n : Int} {x w : Int32} (d : decode M.2.1 pc = .ok (.iinc i n, 3)) (hx : vGet lv i = some (.int x)) (hw : Int32.ofInt n = w) (hn : i < M.2.2.1) (hl : vRep lv i (.int (x + w)) false = some lv') (k : VM G M fr lo (pc + 3) lv' st am ad X Y Q) : VM G M fr lo pc lv st am ad X Y Q := fun h hP => v_iincw d hx hw hn hl (k h hP)
theorem m_get {idx : Nat} {v : Value} (d : decode M.2.1 pc = .ok (.getfield idx, 3)) (k : Nat) (hk : k < 31) (hw : Cond.fieldLink M.1.cls idx (F_Mo k).1 (F_Mo k).2.1 (F_Mo k).2.2.1 ∈ vT) (hv : (mFl ad Y)[k]? = some v) (kk : VM G M fr lo (pc + 3) lv (v :: st) am ad X Y Q) : VM G M fr lo pc lv (.ref am :: st) am ad X Y Q := fun h hP => v_get d hP.2.1 hP.1 rfl i_Mo k hk hw (Or.inl rfl) hv (kk h hP)
theorem mP_Y {h : vH} (hP : mP G am ad X Y h) {k : Nat} {x : Int32} (hk : 16 ≤ k) (hk2 : k < 20) : mP G am ad X (va_up Y k x) (h.1, va_up h.2 am (.inr (8, mFl ad (va_up Y k x)))) := by
  obtain ⟨h1, h2, h3, h4⟩ := hP
  refine ⟨h1, va_up_self _ _ _, fun j hj => ⟨(h3 j hj).1, (va_up_ne _ _ (fun z => ?_)).trans (h3 j hj).2⟩, h4⟩
  have := (h3 j hj).2
  rw [z, h2] at this
  cases this
theorem m_putI {idx : Nat} {x : Int32} (d : decode M.2.1 pc = .ok (.putfield idx, 3)) (k : Nat) (hk : 16 ≤ k ∧ k < 20) (hw : Cond.fieldLink M.1.cls idx (F_Mo k).1 (F_Mo k).2.1 (F_Mo k).2.2.1 ∈ vT) (kk : VM G M fr lo (pc + 3) lv st am ad X (va_up Y k x) Q) : VM G M fr lo pc lv (.int x :: .ref am :: st) am ad X Y Q := by
  intro h hP
  rcases (show k = 16 ∨ k = 17 ∨ k = 18 ∨ k = 19 by omega) with rfl | rfl | rfl | rfl <;> exact v_put d hP.2.1 hP.1 rfl i_Mo tt_Mo_ok n_Mo _ (by decide) hw (Or.inl rfl) (Or.inl rfl) rfl rfl rfl (kk _ (mP_Y hP (by decide) (by decide)))
theorem mP_X {h : vH} (hP : mP G am ad X Y h) {k i : Nat} {x : Int32} (hk : mArr k = true) : mP G am ad (mW X k i x) Y (h.1, va_up h.2 (ad k) (.inl (G.2.1 (mCls k), mLen k, .inl (upd (X k) i x)))) := by
  obtain ⟨h1, h2, h3, h4⟩ := hP
  refine ⟨h1, (va_up_ne _ _ (fun z => ?_)).trans h2, fun j hj => ⟨(h3 j hj).1, ?_⟩, h4⟩
  · have := (h3 k hk).2
    rw [← z, h2] at this
    cases this
  · by_cases hjk : j = k
    · subst hjk
      show va_up h.2 (ad j) _ (ad j) = _
      rw [va_up_self]
      congr 3
      congr 1
      funext q
      simp only [upd, mW]
      by_cases hq : q = i <;> simp [hq]
    · show va_up h.2 (ad k) _ (ad j) = _
      rw [va_up_ne _ _ (fun z => hjk (h4 j k hj hk z)), (h3 j hj).2]
      congr 3
      congr 1
      funext q
      simp [mW, hjk]
theorem m_ald {x : Int32} {k : Nat} (d : decode M.2.1 pc = .ok (.iaload, 1)) (n : Nat) (hk : mArr k = true ∧ mCls k = 0) (hx : x = nI n) (hn : n < mLen k) (kk : VM G M fr lo (pc + 1) lv (.int (X k n) :: st) am ad X Y Q) : VM G M fr lo pc lv (.int x :: .ref (ad k) :: st) am ad X Y Q := by
  intro h hP
  have hl : mLen k < 200 := by
    have : k < 31 := by
      have := hk.1
      simp only [mArr, Bool.and_eq_true, decide_eq_true_eq] at this
      exact this.1
    have h0 : ∀ j : Fin 31, mLen j.val < 200 := by decide
    exact h0 ⟨k, this⟩
  have k1 := hP.2.2.1 k hk.1
  rw [hk.2] at k1
  have e1 : x.toNatClampNeg = n := by rw [hx]; exact nI_clamp (by omega)
  refine v_iald d k1.2 k1.1 (by rw [hx]; exact vp_in_nI hn (by omega)) ?_
  rw [e1]
  exact kk h hP
theorem m_zald {x : Int32} {k : Nat} (d : decode M.2.1 pc = .ok (.baload, 1)) (n : Nat) (hk : mArr k = true ∧ mCls k = 1) (hx : x = nI n) (hn : n < mLen k) (kk : VM G M fr lo (pc + 1) lv (.int (X k n) :: st) am ad X Y Q) : VM G M fr lo pc lv (.int x :: .ref (ad k) :: st) am ad X Y Q := by
  intro h hP
  have hl : mLen k < 200 := by
    have : k < 31 := by
      have := hk.1
      simp only [mArr, Bool.and_eq_true, decide_eq_true_eq] at this
      exact this.1
    have h0 : ∀ j : Fin 31, mLen j.val < 200 := by decide
    exact h0 ⟨k, this⟩
  have k1 := hP.2.2.1 k hk.1
  rw [hk.2] at k1
  have e1 : x.toNatClampNeg = n := by rw [hx]; exact nI_clamp (by omega)
  refine v_zald d k1.2 k1.1 (by rw [hx]; exact vp_in_nI hn (by omega)) ?_
  rw [e1]
  exact kk h hP
theorem m_ast {x y : Int32} {k : Nat} (d : decode M.2.1 pc = .ok (.iastore, 1)) (n : Nat) (hk : mArr k = true ∧ mCls k = 0) (hx : x = nI n) (hn : n < mLen k) (kk : VM G M fr lo (pc + 1) lv st am ad (mW X k n y) Y Q) : VM G M fr lo pc lv (.int y :: .int x :: .ref (ad k) :: st) am ad X Y Q := by
  intro h hP
  have hl : mLen k < 200 := by
    have : k < 31 := by
      have := hk.1
      simp only [mArr, Bool.and_eq_true, decide_eq_true_eq] at this
      exact this.1
    have h0 : ∀ j : Fin 31, mLen j.val < 200 := by decide
    exact h0 ⟨k, this⟩
  have k1 := hP.2.2.1 k hk.1
  have k2 := kk _ (mP_X hP (i := n) (x := y) hk.1)
  rw [hk.2] at k1 k2
  have e1 : x.toNatClampNeg = n := by rw [hx]; exact nI_clamp (by omega)
  refine v_iast d k1.2 k1.1 (by rw [hx]; exact vp_in_nI hn (by omega)) ?_
  rw [e1]
  exact k2
theorem m_zast {x y : Int32} {k : Nat} (d : decode M.2.1 pc = .ok (.bastore, 1)) (n : Nat) (hk : mArr k = true ∧ mCls k = 1) (hx : x = nI n) (hn : n < mLen k) (hy : vp_nar .boolean y = y) (kk : VM G M fr lo (pc + 1) lv st am ad (mW X k n y) Y Q) : VM G M fr lo pc lv (.int y :: .int x :: .ref (ad k) :: st) am ad X Y Q := by
  intro h hP
  have hl : mLen k < 200 := by
    have : k < 31 := by
      have := hk.1
      simp only [mArr, Bool.and_eq_true, decide_eq_true_eq] at this
      exact this.1
    have h0 : ∀ j : Fin 31, mLen j.val < 200 := by decide
    exact h0 ⟨k, this⟩
  have k1 := hP.2.2.1 k hk.1
  have k2 := kk _ (mP_X hP (i := n) (x := y) hk.1)
  rw [hk.2] at k1 k2
  have e1 : x.toNatClampNeg = n := by rw [hx]; exact nI_clamp (by omega)
  refine v_zast d k1.2 k1.1 (by rw [hx]; exact vp_in_nI hn (by omega)) hy ?_
  rw [e1]
  exact k2
theorem m_iret {v : Int32} {ty : FieldType} (d : decode M.2.1 pc = .ok (.ireturn, 1)) (hr : M.2.2.2.1 = some ty) (hn : narrow ty (.int v) = .int v) (hq : Q (.inl (some (.int v))) X Y) : VM G M fr lo pc lv [.int v] am ad X Y Q := fun h hP => v_iret d hr hn ⟨rfl, X, Y, hP, hq⟩
theorem m_vret (d : decode M.2.1 pc = .ok (.return_, 1)) (hr : M.2.2.2.1 = none) (hq : Q (.inl none) X Y) : VM G M fr lo pc lv [] am ad X Y Q := fun h hP => v_vret d hr ⟨rfl, X, Y, hP, hq⟩
theorem VM.mono (hq : ∀ r X Y, Q1 r X Y → Q r X Y) (k : VM G M fr lo pc lv st am ad X Y Q1) : VM G M fr lo pc lv st am ad X Y Q := fun h hP => V.mono (fun r h' z => by obtain ⟨z1, X', Y', z2, z3⟩ := z; exact ⟨z1, X', Y', z2, hq _ _ _ z3⟩) (k h hP)
theorem VM.wide {fr' lo' : Nat} (h1 : fr ≤ fr') (h2 : lo ≤ lo') (k : VM G M fr lo pc lv st am ad X Y Q) : VM G M fr' lo' pc lv st am ad X Y Q := fun h hP => V.wide h1 h2 (Nat.le_refl _) (Nat.le_refl _) (k h hP)
/-- an answer and the state behind it -/
def mRet (v : Option Value) (X' : Nat → Nat → Int32) (Y' : Nat → Int32) : vR → (Nat → Nat → Int32) → (Nat → Int32) → Prop := fun r X Y => r = .inl v ∧ X = X' ∧ Y = Y'
theorem m_at (pc' : Nat) (e : pc = pc') (k : VM G M fr lo pc' lv st am ad X Y Q) : VM G M fr lo pc lv st am ad X Y Q := e ▸ k
theorem m_tableIn {x : Int32} {dflt lo0 hi off : Int} {offs : Array Int} {len tgt : Nat} (d : decode M.2.1 pc = .ok (.tableswitch dflt lo0 hi offs, len)) (h1 : ¬ x.toInt < lo0) (h2 : ¬ hi < x.toInt) (ho : offs[(x.toInt - lo0).toNat]? = some off) (ht : (pc : Int) + off = (tgt : Int)) (kk : VM G M fr lo tgt lv st am ad X Y Q) : VM G M fr lo pc lv (.int x :: st) am ad X Y Q := fun h hP => v_tableIn d h1 h2 ho ht (kk h hP)
theorem m_tableOut {x : Int32} {dflt lo0 hi : Int} {offs : Array Int} {len tgt : Nat} (d : decode M.2.1 pc = .ok (.tableswitch dflt lo0 hi offs, len)) (h1 : x.toInt < lo0 ∨ hi < x.toInt) (ht : (pc : Int) + dflt = (tgt : Int)) (kk : VM G M fr lo tgt lv st am ad X Y Q) : VM G M fr lo pc lv (.int x :: st) am ad X Y Q := fun h hP => v_tableOut d h1 ht (kk h hP)
theorem m_callV0 {idx : Nat} (d : decode M.2.1 pc = .ok (.invokevirtual idx, 3)) (hw : Cond.methodLink M.1.cls idx M1.1 ∈ vT) (hin : Cond.instanceMethod M1.1 ∈ vT) (hse : Cond.selects "CodeShrinkerModel" M1.1 M1.1 ∈ vT) (o1 : plainName M1.1.cls = true)  (o3 : 1 ≤ M1.2.2.1) (o4 : vCw M1 ∈ vT) (o5 : Cond.initialized M1.1.cls ∈ vT) (o9 : M1.1.cls ≠ "java/lang/invoke/MethodHandle" ∧ M1.1.cls ≠ "java/lang/invoke/VarHandle") (hp : (parseMethodDescriptor M1.1.desc).map (fun d => d.parameters.length) = some 0) (hV : VM G M1 fr1 lo1 0 (vArgs 0 (.ref am :: [])) [] am ad X Y Q1) (kk : ∀ v X' Y', Q1 (.inl v) X' Y' → VM G M fr lo (pc + 3) lv (v.toList ++ st) am ad X' Y' Q) (kx : ∀ E X' Y', ¬ Q1 (.inr E) X' Y') (b3 : fr1 + 1 ≤ fr := by first | exact Nat.le_of_ble_eq_true rfl | omega) (b4 : 8 + (M1.2.2.1 + 11) + lo1 ≤ lo := by first | exact Nat.le_of_ble_eq_true rfl | omega) (b5 : (st.map fun v => v.category).sum ≤ 8 := by first | exact Nat.le_of_ble_eq_true rfl | simp [Value.category, vRf_cat]) : VM G M fr lo pc lv (.ref am :: st) am ad X Y Q := fun h hP => v_callV0 d hP.2.1 hP.1 rfl hw hin hse o1 o3 o4 o5 o9 hp (hV h hP) (fun v h' z => by obtain ⟨z1, X', Y', z2, z3⟩ := z; rw [← z1]; exact kk v X' Y' z3 h' z2) (fun E h' z => by obtain ⟨z1, X', Y', z2, z3⟩ := z; exact (kx E X' Y' z3).elim) (Nat.le_refl _) (Nat.le_refl _) b3 b4 b5
theorem m_callV0r {idx : Nat} {x : Value} (d : decode M.2.1 pc = .ok (.invokevirtual idx, 3)) (hw : Cond.methodLink M.1.cls idx M1.1 ∈ vT) (hin : Cond.instanceMethod M1.1 ∈ vT) (hse : Cond.selects "CodeShrinkerModel" M1.1 M1.1 ∈ vT) (o1 : plainName M1.1.cls = true)  (o3 : 1 ≤ M1.2.2.1) (o4 : vCw M1 ∈ vT) (o5 : Cond.initialized M1.1.cls ∈ vT) (o9 : M1.1.cls ≠ "java/lang/invoke/MethodHandle" ∧ M1.1.cls ≠ "java/lang/invoke/VarHandle") (hp : (parseMethodDescriptor M1.1.desc).map (fun d => d.parameters.length) = some 0) (hV : VM G M1 fr1 lo1 0 (vArgs 0 (.ref am :: [])) [] am ad X Y (mRet (some x) X1 Y1)) (k : VM G M fr lo (pc + 3) lv (x :: st) am ad X1 Y1 Q) (b3 : fr1 + 1 ≤ fr := by first | exact Nat.le_of_ble_eq_true rfl | omega) (b4 : 8 + (M1.2.2.1 + 11) + lo1 ≤ lo := by first | exact Nat.le_of_ble_eq_true rfl | omega) (b5 : (st.map fun v => v.category).sum ≤ 8 := by first | exact Nat.le_of_ble_eq_true rfl | simp [Value.category, vRf_cat]) : VM G M fr lo pc lv (.ref am :: st) am ad X Y Q := fun h hP => v_callV0 d hP.2.1 hP.1 rfl hw hin hse o1 o3 o4 o5 o9 hp (hV h hP) (fun v h' z => by obtain ⟨z1, X', Y', z2, z3, rfl, rfl⟩ := z; cases z3; rw [← z1]; exact k h' z2) (fun E h' z => by obtain ⟨z1, X', Y', z2, z3, -⟩ := z; cases z3) (Nat.le_refl _) (Nat.le_refl _) b3 b4 b5
theorem m_callV0u {idx : Nat} (d : decode M.2.1 pc = .ok (.invokevirtual idx, 3)) (hw : Cond.methodLink M.1.cls idx M1.1 ∈ vT) (hin : Cond.instanceMethod M1.1 ∈ vT) (hse : Cond.selects "CodeShrinkerModel" M1.1 M1.1 ∈ vT) (o1 : plainName M1.1.cls = true)  (o3 : 1 ≤ M1.2.2.1) (o4 : vCw M1 ∈ vT) (o5 : Cond.initialized M1.1.cls ∈ vT) (o9 : M1.1.cls ≠ "java/lang/invoke/MethodHandle" ∧ M1.1.cls ≠ "java/lang/invoke/VarHandle") (hp : (parseMethodDescriptor M1.1.desc).map (fun d => d.parameters.length) = some 0) (hV : VM G M1 fr1 lo1 0 (vArgs 0 (.ref am :: [])) [] am ad X Y (mRet none X1 Y1)) (k : VM G M fr lo (pc + 3) lv st am ad X1 Y1 Q) (b3 : fr1 + 1 ≤ fr := by first | exact Nat.le_of_ble_eq_true rfl | omega) (b4 : 8 + (M1.2.2.1 + 11) + lo1 ≤ lo := by first | exact Nat.le_of_ble_eq_true rfl | omega) (b5 : (st.map fun v => v.category).sum ≤ 8 := by first | exact Nat.le_of_ble_eq_true rfl | simp [Value.category, vRf_cat]) : VM G M fr lo pc lv (.ref am :: st) am ad X Y Q := fun h hP => v_callV0 d hP.2.1 hP.1 rfl hw hin hse o1 o3 o4 o5 o9 hp (hV h hP) (fun v h' z => by obtain ⟨z1, X', Y', z2, z3, rfl, rfl⟩ := z; cases z3; rw [← z1]; exact k h' z2) (fun E h' z => by obtain ⟨z1, X', Y', z2, z3, -⟩ := z; cases z3) (Nat.le_refl _) (Nat.le_refl _) b3 b4 b5
theorem m_callV1 {idx : Nat} {x1 : Value} (d : decode M.2.1 pc = .ok (.invokevirtual idx, 3)) (hw : Cond.methodLink M.1.cls idx M1.1 ∈ vT) (hin : Cond.instanceMethod M1.1 ∈ vT) (hse : Cond.selects "CodeShrinkerModel" M1.1 M1.1 ∈ vT) (o1 : plainName M1.1.cls = true) (c1 : x1.category = 1) (o3 : 2 ≤ M1.2.2.1) (o4 : vCw M1 ∈ vT) (o5 : Cond.initialized M1.1.cls ∈ vT) (o9 : M1.1.cls ≠ "java/lang/invoke/MethodHandle" ∧ M1.1.cls ≠ "java/lang/invoke/VarHandle") (hp : (parseMethodDescriptor M1.1.desc).map (fun d => d.parameters.length) = some 1) (hV : VM G M1 fr1 lo1 0 (vArgs 0 (.ref am :: [x1])) [] am ad X Y Q1) (kk : ∀ v X' Y', Q1 (.inl v) X' Y' → VM G M fr lo (pc + 3) lv (v.toList ++ st) am ad X' Y' Q) (kx : ∀ E X' Y', ¬ Q1 (.inr E) X' Y') (b3 : fr1 + 1 ≤ fr := by first | exact Nat.le_of_ble_eq_true rfl | omega) (b4 : 8 + (M1.2.2.1 + 11) + lo1 ≤ lo := by first | exact Nat.le_of_ble_eq_true rfl | omega) (b5 : (st.map fun v => v.category).sum ≤ 8 := by first | exact Nat.le_of_ble_eq_true rfl | simp [Value.category, vRf_cat]) : VM G M fr lo pc lv (x1 :: .ref am :: st) am ad X Y Q := fun h hP => v_callV1 d hP.2.1 hP.1 rfl hw hin hse o1 c1 o3 o4 o5 o9 hp (hV h hP) (fun v h' z => by obtain ⟨z1, X', Y', z2, z3⟩ := z; rw [← z1]; exact kk v X' Y' z3 h' z2) (fun E h' z => by obtain ⟨z1, X', Y', z2, z3⟩ := z; exact (kx E X' Y' z3).elim) (Nat.le_refl _) (Nat.le_refl _) b3 b4 b5
theorem m_callV1r {idx : Nat} {x1 : Value} {x : Value} (d : decode M.2.1 pc = .ok (.invokevirtual idx, 3)) (hw : Cond.methodLink M.1.cls idx M1.1 ∈ vT) (hin : Cond.instanceMethod M1.1 ∈ vT) (hse : Cond.selects "CodeShrinkerModel" M1.1 M1.1 ∈ vT) (o1 : plainName M1.1.cls = true) (c1 : x1.category = 1) (o3 : 2 ≤ M1.2.2.1) (o4 : vCw M1 ∈ vT) (o5 : Cond.initialized M1.1.cls ∈ vT) (o9 : M1.1.cls ≠ "java/lang/invoke/MethodHandle" ∧ M1.1.cls ≠ "java/lang/invoke/VarHandle") (hp : (parseMethodDescriptor M1.1.desc).map (fun d => d.parameters.length) = some 1) (hV : VM G M1 fr1 lo1 0 (vArgs 0 (.ref am :: [x1])) [] am ad X Y (mRet (some x) X1 Y1)) (k : VM G M fr lo (pc + 3) lv (x :: st) am ad X1 Y1 Q) (b3 : fr1 + 1 ≤ fr := by first | exact Nat.le_of_ble_eq_true rfl | omega) (b4 : 8 + (M1.2.2.1 + 11) + lo1 ≤ lo := by first | exact Nat.le_of_ble_eq_true rfl | omega) (b5 : (st.map fun v => v.category).sum ≤ 8 := by first | exact Nat.le_of_ble_eq_true rfl | simp [Value.category, vRf_cat]) : VM G M fr lo pc lv (x1 :: .ref am :: st) am ad X Y Q := fun h hP => v_callV1 d hP.2.1 hP.1 rfl hw hin hse o1 c1 o3 o4 o5 o9 hp (hV h hP) (fun v h' z => by obtain ⟨z1, X', Y', z2, z3, rfl, rfl⟩ := z; cases z3; rw [← z1]; exact k h' z2) (fun E h' z => by obtain ⟨z1, X', Y', z2, z3, -⟩ := z; cases z3) (Nat.le_refl _) (Nat.le_refl _) b3 b4 b5
theorem m_callV1u {idx : Nat} {x1 : Value} (d : decode M.2.1 pc = .ok (.invokevirtual idx, 3)) (hw : Cond.methodLink M.1.cls idx M1.1 ∈ vT) (hin : Cond.instanceMethod M1.1 ∈ vT) (hse : Cond.selects "CodeShrinkerModel" M1.1 M1.1 ∈ vT) (o1 : plainName M1.1.cls = true) (c1 : x1.category = 1) (o3 : 2 ≤ M1.2.2.1) (o4 : vCw M1 ∈ vT) (o5 : Cond.initialized M1.1.cls ∈ vT) (o9 : M1.1.cls ≠ "java/lang/invoke/MethodHandle" ∧ M1.1.cls ≠ "java/lang/invoke/VarHandle") (hp : (parseMethodDescriptor M1.1.desc).map (fun d => d.parameters.length) = some 1) (hV : VM G M1 fr1 lo1 0 (vArgs 0 (.ref am :: [x1])) [] am ad X Y (mRet none X1 Y1)) (k : VM G M fr lo (pc + 3) lv st am ad X1 Y1 Q) (b3 : fr1 + 1 ≤ fr := by first | exact Nat.le_of_ble_eq_true rfl | omega) (b4 : 8 + (M1.2.2.1 + 11) + lo1 ≤ lo := by first | exact Nat.le_of_ble_eq_true rfl | omega) (b5 : (st.map fun v => v.category).sum ≤ 8 := by first | exact Nat.le_of_ble_eq_true rfl | simp [Value.category, vRf_cat]) : VM G M fr lo pc lv (x1 :: .ref am :: st) am ad X Y Q := fun h hP => v_callV1 d hP.2.1 hP.1 rfl hw hin hse o1 c1 o3 o4 o5 o9 hp (hV h hP) (fun v h' z => by obtain ⟨z1, X', Y', z2, z3, rfl, rfl⟩ := z; cases z3; rw [← z1]; exact k h' z2) (fun E h' z => by obtain ⟨z1, X', Y', z2, z3, -⟩ := z; cases z3) (Nat.le_refl _) (Nat.le_refl _) b3 b4 b5
theorem m_callV2 {idx : Nat} {x1 x2 : Value} (d : decode M.2.1 pc = .ok (.invokevirtual idx, 3)) (hw : Cond.methodLink M.1.cls idx M1.1 ∈ vT) (hin : Cond.instanceMethod M1.1 ∈ vT) (hse : Cond.selects "CodeShrinkerModel" M1.1 M1.1 ∈ vT) (o1 : plainName M1.1.cls = true) (c1 : x1.category = 1) (c2 : x2.category = 1) (o3 : 3 ≤ M1.2.2.1) (o4 : vCw M1 ∈ vT) (o5 : Cond.initialized M1.1.cls ∈ vT) (o9 : M1.1.cls ≠ "java/lang/invoke/MethodHandle" ∧ M1.1.cls ≠ "java/lang/invoke/VarHandle") (hp : (parseMethodDescriptor M1.1.desc).map (fun d => d.parameters.length) = some 2) (hV : VM G M1 fr1 lo1 0 (vArgs 0 (.ref am :: [x1, x2])) [] am ad X Y Q1) (kk : ∀ v X' Y', Q1 (.inl v) X' Y' → VM G M fr lo (pc + 3) lv (v.toList ++ st) am ad X' Y' Q) (kx : ∀ E X' Y', ¬ Q1 (.inr E) X' Y') (b3 : fr1 + 1 ≤ fr := by first | exact Nat.le_of_ble_eq_true rfl | omega) (b4 : 8 + (M1.2.2.1 + 11) + lo1 ≤ lo := by first | exact Nat.le_of_ble_eq_true rfl | omega) (b5 : (st.map fun v => v.category).sum ≤ 8 := by first | exact Nat.le_of_ble_eq_true rfl | simp [Value.category, vRf_cat]) : VM G M fr lo pc lv (x2 :: x1 :: .ref am :: st) am ad X Y Q := fun h hP => v_callV2 d hP.2.1 hP.1 rfl hw hin hse o1 c1 c2 o3 o4 o5 o9 hp (hV h hP) (fun v h' z => by obtain ⟨z1, X', Y', z2, z3⟩ := z; rw [← z1]; exact kk v X' Y' z3 h' z2) (fun E h' z => by obtain ⟨z1, X', Y', z2, z3⟩ := z; exact (kx E X' Y' z3).elim) (Nat.le_refl _) (Nat.le_refl _) b3 b4 b5
theorem m_callV2r {idx : Nat} {x1 x2 : Value} {x : Value} (d : decode M.2.1 pc = .ok (.invokevirtual idx, 3)) (hw : Cond.methodLink M.1.cls idx M1.1 ∈ vT) (hin : Cond.instanceMethod M1.1 ∈ vT) (hse : Cond.selects "CodeShrinkerModel" M1.1 M1.1 ∈ vT) (o1 : plainName M1.1.cls = true) (c1 : x1.category = 1) (c2 : x2.category = 1) (o3 : 3 ≤ M1.2.2.1) (o4 : vCw M1 ∈ vT) (o5 : Cond.initialized M1.1.cls ∈ vT) (o9 : M1.1.cls ≠ "java/lang/invoke/MethodHandle" ∧ M1.1.cls ≠ "java/lang/invoke/VarHandle") (hp : (parseMethodDescriptor M1.1.desc).map (fun d => d.parameters.length) = some 2) (hV : VM G M1 fr1 lo1 0 (vArgs 0 (.ref am :: [x1, x2])) [] am ad X Y (mRet (some x) X1 Y1)) (k : VM G M fr lo (pc + 3) lv (x :: st) am ad X1 Y1 Q) (b3 : fr1 + 1 ≤ fr := by first | exact Nat.le_of_ble_eq_true rfl | omega) (b4 : 8 + (M1.2.2.1 + 11) + lo1 ≤ lo := by first | exact Nat.le_of_ble_eq_true rfl | omega) (b5 : (st.map fun v => v.category).sum ≤ 8 := by first | exact Nat.le_of_ble_eq_true rfl | simp [Value.category, vRf_cat]) : VM G M fr lo pc lv (x2 :: x1 :: .ref am :: st) am ad X Y Q := fun h hP => v_callV2 d hP.2.1 hP.1 rfl hw hin hse o1 c1 c2 o3 o4 o5 o9 hp (hV h hP) (fun v h' z => by obtain ⟨z1, X', Y', z2, z3, rfl, rfl⟩ := z; cases z3; rw [← z1]; exact k h' z2) (fun E h' z => by obtain ⟨z1, X', Y', z2, z3, -⟩ := z; cases z3) (Nat.le_refl _) (Nat.le_refl _) b3 b4 b5
theorem m_callV2u {idx : Nat} {x1 x2 : Value} (d : decode M.2.1 pc = .ok (.invokevirtual idx, 3)) (hw : Cond.methodLink M.1.cls idx M1.1 ∈ vT) (hin : Cond.instanceMethod M1.1 ∈ vT) (hse : Cond.selects "CodeShrinkerModel" M1.1 M1.1 ∈ vT) (o1 : plainName M1.1.cls = true) (c1 : x1.category = 1) (c2 : x2.category = 1) (o3 : 3 ≤ M1.2.2.1) (o4 : vCw M1 ∈ vT) (o5 : Cond.initialized M1.1.cls ∈ vT) (o9 : M1.1.cls ≠ "java/lang/invoke/MethodHandle" ∧ M1.1.cls ≠ "java/lang/invoke/VarHandle") (hp : (parseMethodDescriptor M1.1.desc).map (fun d => d.parameters.length) = some 2) (hV : VM G M1 fr1 lo1 0 (vArgs 0 (.ref am :: [x1, x2])) [] am ad X Y (mRet none X1 Y1)) (k : VM G M fr lo (pc + 3) lv st am ad X1 Y1 Q) (b3 : fr1 + 1 ≤ fr := by first | exact Nat.le_of_ble_eq_true rfl | omega) (b4 : 8 + (M1.2.2.1 + 11) + lo1 ≤ lo := by first | exact Nat.le_of_ble_eq_true rfl | omega) (b5 : (st.map fun v => v.category).sum ≤ 8 := by first | exact Nat.le_of_ble_eq_true rfl | simp [Value.category, vRf_cat]) : VM G M fr lo pc lv (x2 :: x1 :: .ref am :: st) am ad X Y Q := fun h hP => v_callV2 d hP.2.1 hP.1 rfl hw hin hse o1 c1 c2 o3 o4 o5 o9 hp (hV h hP) (fun v h' z => by obtain ⟨z1, X', Y', z2, z3, rfl, rfl⟩ := z; cases z3; rw [← z1]; exact k h' z2) (fun E h' z => by obtain ⟨z1, X', Y', z2, z3, -⟩ := z; cases z3) (Nat.le_refl _) (Nat.le_refl _) b3 b4 b5
theorem m_callV3 {idx : Nat} {x1 x2 x3 : Value} (d : decode M.2.1 pc = .ok (.invokevirtual idx, 3)) (hw : Cond.methodLink M.1.cls idx M1.1 ∈ vT) (hin : Cond.instanceMethod M1.1 ∈ vT) (hse : Cond.selects "CodeShrinkerModel" M1.1 M1.1 ∈ vT) (o1 : plainName M1.1.cls = true) (c1 : x1.category = 1) (c2 : x2.category = 1) (c3 : x3.category = 1) (o3 : 4 ≤ M1.2.2.1) (o4 : vCw M1 ∈ vT) (o5 : Cond.initialized M1.1.cls ∈ vT) (o9 : M1.1.cls ≠ "java/lang/invoke/MethodHandle" ∧ M1.1.cls ≠ "java/lang/invoke/VarHandle") (hp : (parseMethodDescriptor M1.1.desc).map (fun d => d.parameters.length) = some 3) (hV : VM G M1 fr1 lo1 0 (vArgs 0 (.ref am :: [x1, x2, x3])) [] am ad X Y Q1) (kk : ∀ v X' Y', Q1 (.inl v) X' Y' → VM G M fr lo (pc + 3) lv (v.toList ++ st) am ad X' Y' Q) (kx : ∀ E X' Y', ¬ Q1 (.inr E) X' Y') (b3 : fr1 + 1 ≤ fr := by first | exact Nat.le_of_ble_eq_true rfl | omega) (b4 : 8 + (M1.2.2.1 + 11) + lo1 ≤ lo := by first | exact Nat.le_of_ble_eq_true rfl | omega) (b5 : (st.map fun v => v.category).sum ≤ 8 := by first | exact Nat.le_of_ble_eq_true rfl | simp [Value.category, vRf_cat]) : VM G M fr lo pc lv (x3 :: x2 :: x1 :: .ref am :: st) am ad X Y Q := fun h hP => v_callV3 d hP.2.1 hP.1 rfl hw hin hse o1 c1 c2 c3 o3 o4 o5 o9 hp (hV h hP) (fun v h' z => by obtain ⟨z1, X', Y', z2, z3⟩ := z; rw [← z1]; exact kk v X' Y' z3 h' z2) (fun E h' z => by obtain ⟨z1, X', Y', z2, z3⟩ := z; exact (kx E X' Y' z3).elim) (Nat.le_refl _) (Nat.le_refl _) b3 b4 b5
theorem m_callV3r {idx : Nat} {x1 x2 x3 : Value} {x : Value} (d : decode M.2.1 pc = .ok (.invokevirtual idx, 3)) (hw : Cond.methodLink M.1.cls idx M1.1 ∈ vT) (hin : Cond.instanceMethod M1.1 ∈ vT) (hse : Cond.selects "CodeShrinkerModel" M1.1 M1.1 ∈ vT) (o1 : plainName M1.1.cls = true) (c1 : x1.category = 1) (c2 : x2.category = 1) (c3 : x3.category = 1) (o3 : 4 ≤ M1.2.2.1) (o4 : vCw M1 ∈ vT) (o5 : Cond.initialized M1.1.cls ∈ vT) (o9 : M1.1.cls ≠ "java/lang/invoke/MethodHandle" ∧ M1.1.cls ≠ "java/lang/invoke/VarHandle") (hp : (parseMethodDescriptor M1.1.desc).map (fun d => d.parameters.length) = some 3) (hV : VM G M1 fr1 lo1 0 (vArgs 0 (.ref am :: [x1, x2, x3])) [] am ad X Y (mRet (some x) X1 Y1)) (k : VM G M fr lo (pc + 3) lv (x :: st) am ad X1 Y1 Q) (b3 : fr1 + 1 ≤ fr := by first | exact Nat.le_of_ble_eq_true rfl | omega) (b4 : 8 + (M1.2.2.1 + 11) + lo1 ≤ lo := by first | exact Nat.le_of_ble_eq_true rfl | omega) (b5 : (st.map fun v => v.category).sum ≤ 8 := by first | exact Nat.le_of_ble_eq_true rfl | simp [Value.category, vRf_cat]) : VM G M fr lo pc lv (x3 :: x2 :: x1 :: .ref am :: st) am ad X Y Q := fun h hP => v_callV3 d hP.2.1 hP.1 rfl hw hin hse o1 c1 c2 c3 o3 o4 o5 o9 hp (hV h hP) (fun v h' z => by obtain ⟨z1, X', Y', z2, z3, rfl, rfl⟩ := z; cases z3; rw [← z1]; exact k h' z2) (fun E h' z => by obtain ⟨z1, X', Y', z2, z3, -⟩ := z; cases z3) (Nat.le_refl _) (Nat.le_refl _) b3 b4 b5
theorem m_callV3u {idx : Nat} {x1 x2 x3 : Value} (d : decode M.2.1 pc = .ok (.invokevirtual idx, 3)) (hw : Cond.methodLink M.1.cls idx M1.1 ∈ vT) (hin : Cond.instanceMethod M1.1 ∈ vT) (hse : Cond.selects "CodeShrinkerModel" M1.1 M1.1 ∈ vT) (o1 : plainName M1.1.cls = true) (c1 : x1.category = 1) (c2 : x2.category = 1) (c3 : x3.category = 1) (o3 : 4 ≤ M1.2.2.1) (o4 : vCw M1 ∈ vT) (o5 : Cond.initialized M1.1.cls ∈ vT) (o9 : M1.1.cls ≠ "java/lang/invoke/MethodHandle" ∧ M1.1.cls ≠ "java/lang/invoke/VarHandle") (hp : (parseMethodDescriptor M1.1.desc).map (fun d => d.parameters.length) = some 3) (hV : VM G M1 fr1 lo1 0 (vArgs 0 (.ref am :: [x1, x2, x3])) [] am ad X Y (mRet none X1 Y1)) (k : VM G M fr lo (pc + 3) lv st am ad X1 Y1 Q) (b3 : fr1 + 1 ≤ fr := by first | exact Nat.le_of_ble_eq_true rfl | omega) (b4 : 8 + (M1.2.2.1 + 11) + lo1 ≤ lo := by first | exact Nat.le_of_ble_eq_true rfl | omega) (b5 : (st.map fun v => v.category).sum ≤ 8 := by first | exact Nat.le_of_ble_eq_true rfl | simp [Value.category, vRf_cat]) : VM G M fr lo pc lv (x3 :: x2 :: x1 :: .ref am :: st) am ad X Y Q := fun h hP => v_callV3 d hP.2.1 hP.1 rfl hw hin hse o1 c1 c2 c3 o3 o4 o5 o9 hp (hV h hP) (fun v h' z => by obtain ⟨z1, X', Y', z2, z3, rfl, rfl⟩ := z; cases z3; rw [← z1]; exact k h' z2) (fun E h' z => by obtain ⟨z1, X', Y', z2, z3, -⟩ := z; cases z3) (Nat.le_refl _) (Nat.le_refl _) b3 b4 b5
theorem m_callV4 {idx : Nat} {x1 x2 x3 x4 : Value} (d : decode M.2.1 pc = .ok (.invokevirtual idx, 3)) (hw : Cond.methodLink M.1.cls idx M1.1 ∈ vT) (hin : Cond.instanceMethod M1.1 ∈ vT) (hse : Cond.selects "CodeShrinkerModel" M1.1 M1.1 ∈ vT) (o1 : plainName M1.1.cls = true) (c1 : x1.category = 1) (c2 : x2.category = 1) (c3 : x3.category = 1) (c4 : x4.category = 1) (o3 : 5 ≤ M1.2.2.1) (o4 : vCw M1 ∈ vT) (o5 : Cond.initialized M1.1.cls ∈ vT) (o9 : M1.1.cls ≠ "java/lang/invoke/MethodHandle" ∧ M1.1.cls ≠ "java/lang/invoke/VarHandle") (hp : (parseMethodDescriptor M1.1.desc).map (fun d => d.parameters.length) = some 4) (hV : VM G M1 fr1 lo1 0 (vArgs 0 (.ref am :: [x1, x2, x3, x4])) [] am ad X Y Q1) (kk : ∀ v X' Y', Q1 (.inl v) X' Y' → VM G M fr lo (pc + 3) lv (v.toList ++ st) am ad X' Y' Q) (kx : ∀ E X' Y', ¬ Q1 (.inr E) X' Y') (b3 : fr1 + 1 ≤ fr := by first | exact Nat.le_of_ble_eq_true rfl | omega) (b4 : 8 + (M1.2.2.1 + 11) + lo1 ≤ lo := by first | exact Nat.le_of_ble_eq_true rfl | omega) (b5 : (st.map fun v => v.category).sum ≤ 8 := by first | exact Nat.le_of_ble_eq_true rfl | simp [Value.category, vRf_cat]) : VM G M fr lo pc lv (x4 :: x3 :: x2 :: x1 :: .ref am :: st) am ad X Y Q := fun h hP => v_callV4 d hP.2.1 hP.1 rfl hw hin hse o1 c1 c2 c3 c4 o3 o4 o5 o9 hp (hV h hP) (fun v h' z => by obtain ⟨z1, X', Y', z2, z3⟩ := z; rw [← z1]; exact kk v X' Y' z3 h' z2) (fun E h' z => by obtain ⟨z1, X', Y', z2, z3⟩ := z; exact (kx E X' Y' z3).elim) (Nat.le_refl _) (Nat.le_refl _) b3 b4 b5
theorem m_callV4r {idx : Nat} {x1 x2 x3 x4 : Value} {x : Value} (d : decode M.2.1 pc = .ok (.invokevirtual idx, 3)) (hw : Cond.methodLink M.1.cls idx M1.1 ∈ vT) (hin : Cond.instanceMethod M1.1 ∈ vT) (hse : Cond.selects "CodeShrinkerModel" M1.1 M1.1 ∈ vT) (o1 : plainName M1.1.cls = true) (c1 : x1.category = 1) (c2 : x2.category = 1) (c3 : x3.category = 1) (c4 : x4.category = 1) (o3 : 5 ≤ M1.2.2.1) (o4 : vCw M1 ∈ vT) (o5 : Cond.initialized M1.1.cls ∈ vT) (o9 : M1.1.cls ≠ "java/lang/invoke/MethodHandle" ∧ M1.1.cls ≠ "java/lang/invoke/VarHandle") (hp : (parseMethodDescriptor M1.1.desc).map (fun d => d.parameters.length) = some 4) (hV : VM G M1 fr1 lo1 0 (vArgs 0 (.ref am :: [x1, x2, x3, x4])) [] am ad X Y (mRet (some x) X1 Y1)) (k : VM G M fr lo (pc + 3) lv (x :: st) am ad X1 Y1 Q) (b3 : fr1 + 1 ≤ fr := by first | exact Nat.le_of_ble_eq_true rfl | omega) (b4 : 8 + (M1.2.2.1 + 11) + lo1 ≤ lo := by first | exact Nat.le_of_ble_eq_true rfl | omega) (b5 : (st.map fun v => v.category).sum ≤ 8 := by first | exact Nat.le_of_ble_eq_true rfl | simp [Value.category, vRf_cat]) : VM G M fr lo pc lv (x4 :: x3 :: x2 :: x1 :: .ref am :: st) am ad X Y Q := fun h hP => v_callV4 d hP.2.1 hP.1 rfl hw hin hse o1 c1 c2 c3 c4 o3 o4 o5 o9 hp (hV h hP) (fun v h' z => by obtain ⟨z1, X', Y', z2, z3, rfl, rfl⟩ := z; cases z3; rw [← z1]; exact k h' z2) (fun E h' z => by obtain ⟨z1, X', Y', z2, z3, -⟩ := z; cases z3) (Nat.le_refl _) (Nat.le_refl _) b3 b4 b5
theorem m_callV4u {idx : Nat} {x1 x2 x3 x4 : Value} (d : decode M.2.1 pc = .ok (.invokevirtual idx, 3)) (hw : Cond.methodLink M.1.cls idx M1.1 ∈ vT) (hin : Cond.instanceMethod M1.1 ∈ vT) (hse : Cond.selects "CodeShrinkerModel" M1.1 M1.1 ∈ vT) (o1 : plainName M1.1.cls = true) (c1 : x1.category = 1) (c2 : x2.category = 1) (c3 : x3.category = 1) (c4 : x4.category = 1) (o3 : 5 ≤ M1.2.2.1) (o4 : vCw M1 ∈ vT) (o5 : Cond.initialized M1.1.cls ∈ vT) (o9 : M1.1.cls ≠ "java/lang/invoke/MethodHandle" ∧ M1.1.cls ≠ "java/lang/invoke/VarHandle") (hp : (parseMethodDescriptor M1.1.desc).map (fun d => d.parameters.length) = some 4) (hV : VM G M1 fr1 lo1 0 (vArgs 0 (.ref am :: [x1, x2, x3, x4])) [] am ad X Y (mRet none X1 Y1)) (k : VM G M fr lo (pc + 3) lv st am ad X1 Y1 Q) (b3 : fr1 + 1 ≤ fr := by first | exact Nat.le_of_ble_eq_true rfl | omega) (b4 : 8 + (M1.2.2.1 + 11) + lo1 ≤ lo := by first | exact Nat.le_of_ble_eq_true rfl | omega) (b5 : (st.map fun v => v.category).sum ≤ 8 := by first | exact Nat.le_of_ble_eq_true rfl | simp [Value.category, vRf_cat]) : VM G M fr lo pc lv (x4 :: x3 :: x2 :: x1 :: .ref am :: st) am ad X Y Q := fun h hP => v_callV4 d hP.2.1 hP.1 rfl hw hin hse o1 c1 c2 c3 c4 o3 o4 o5 o9 hp (hV h hP) (fun v h' z => by obtain ⟨z1, X', Y', z2, z3, rfl, rfl⟩ := z; cases z3; rw [← z1]; exact k h' z2) (fun E h' z => by obtain ⟨z1, X', Y', z2, z3, -⟩ := z; cases z3) (Nat.le_refl _) (Nat.le_refl _) b3 b4 b5
theorem m_callV5 {idx : Nat} {x1 x2 x3 x4 x5 : Value} (d : decode M.2.1 pc = .ok (.invokevirtual idx, 3)) (hw : Cond.methodLink M.1.cls idx M1.1 ∈ vT) (hin : Cond.instanceMethod M1.1 ∈ vT) (hse : Cond.selects "CodeShrinkerModel" M1.1 M1.1 ∈ vT) (o1 : plainName M1.1.cls = true) (c1 : x1.category = 1) (c2 : x2.category = 1) (c3 : x3.category = 1) (c4 : x4.category = 1) (c5 : x5.category = 1) (o3 : 6 ≤ M1.2.2.1) (o4 : vCw M1 ∈ vT) (o5 : Cond.initialized M1.1.cls ∈ vT) (o9 : M1.1.cls ≠ "java/lang/invoke/MethodHandle" ∧ M1.1.cls ≠ "java/lang/invoke/VarHandle") (hp : (parseMethodDescriptor M1.1.desc).map (fun d => d.parameters.length) = some 5) (hV : VM G M1 fr1 lo1 0 (vArgs 0 (.ref am :: [x1, x2, x3, x4, x5])) [] am ad X Y Q1) (kk : ∀ v X' Y', Q1 (.inl v) X' Y' → VM G M fr lo (pc + 3) lv (v.toList ++ st) am ad X' Y' Q) (kx : ∀ E X' Y', ¬ Q1 (.inr E) X' Y') (b3 : fr1 + 1 ≤ fr := by first | exact Nat.le_of_ble_eq_true rfl | omega) (b4 : 8 + (M1.2.2.1 + 11) + lo1 ≤ lo := by first | exact Nat.le_of_ble_eq_true rfl | omega) (b5 : (st.map fun v => v.category).sum ≤ 8 := by first | exact Nat.le_of_ble_eq_true rfl | simp [Value.category, vRf_cat]) : VM G M fr lo pc lv (x5 :: x4 :: x3 :: x2 :: x1 :: .ref am :: st) am ad X Y Q := fun h hP => v_callV5 d hP.2.1 hP.1 rfl hw hin hse o1 c1 c2 c3 c4 c5 o3 o4 o5 o9 hp (hV h hP) (fun v h' z => by obtain ⟨z1, X', Y', z2, z3⟩ := z; rw [← z1]; exact kk v X' Y' z3 h' z2) (fun E h' z => by obtain ⟨z1, X', Y', z2, z3⟩ := z; exact (kx E X' Y' z3).elim) (Nat.le_refl _) (Nat.le_refl _) b3 b4 b5
theorem m_callV5r {idx : Nat} {x1 x2 x3 x4 x5 : Value} {x : Value} (d : decode M.2.1 pc = .ok (.invokevirtual idx, 3)) (hw : Cond.methodLink M.1.cls idx M1.1 ∈ vT) (hin : Cond.instanceMethod M1.1 ∈ vT) (hse : Cond.selects "CodeShrinkerModel" M1.1 M1.1 ∈ vT) (o1 : plainName M1.1.cls = true) (c1 : x1.category = 1) (c2 : x2.category = 1) (c3 : x3.category = 1) (c4 : x4.category = 1) (c5 : x5.category = 1) (o3 : 6 ≤ M1.2.2.1) (o4 : vCw M1 ∈ vT) (o5 : Cond.initialized M1.1.cls ∈ vT) (o9 : M1.1.cls ≠ "java/lang/invoke/MethodHandle" ∧ M1.1.cls ≠ "java/lang/invoke/VarHandle") (hp : (parseMethodDescriptor M1.1.desc).map (fun d => d.parameters.length) = some 5) (hV : VM G M1 fr1 lo1 0 (vArgs 0 (.ref am :: [x1, x2, x3, x4, x5])) [] am ad X Y (mRet (some x) X1 Y1)) (k : VM G M fr lo (pc + 3) lv (x :: st) am ad X1 Y1 Q) (b3 : fr1 + 1 ≤ fr := by first | exact Nat.le_of_ble_eq_true rfl | omega) (b4 : 8 + (M1.2.2.1 + 11) + lo1 ≤ lo := by first | exact Nat.le_of_ble_eq_true rfl | omega) (b5 : (st.map fun v => v.category).sum ≤ 8 := by first | exact Nat.le_of_ble_eq_true rfl | simp [Value.category, vRf_cat]) : VM G M fr lo pc lv (x5 :: x4 :: x3 :: x2 :: x1 :: .ref am :: st) am ad X Y Q := fun h hP => v_callV5 d hP.2.1 hP.1 rfl hw hin hse o1 c1 c2 c3 c4 c5 o3 o4 o5 o9 hp (hV h hP) (fun v h' z => by obtain ⟨z1, X', Y', z2, z3, rfl, rfl⟩ := z; cases z3; rw [← z1]; exact k h' z2) (fun E h' z => by obtain ⟨z1, X', Y', z2, z3, -⟩ := z; cases z3) (Nat.le_refl _) (Nat.le_refl _) b3 b4 b5
theorem m_callV5u {idx : Nat} {x1 x2 x3 x4 x5 : Value} (d : decode M.2.1 pc = .ok (.invokevirtual idx, 3)) (hw : Cond.methodLink M.1.cls idx M1.1 ∈ vT) (hin : Cond.instanceMethod M1.1 ∈ vT) (hse : Cond.selects "CodeShrinkerModel" M1.1 M1.1 ∈ vT) (o1 : plainName M1.1.cls = true) (c1 : x1.category = 1) (c2 : x2.category = 1) (c3 : x3.category = 1) (c4 : x4.category = 1) (c5 : x5.category = 1) (o3 : 6 ≤ M1.2.2.1) (o4 : vCw M1 ∈ vT) (o5 : Cond.initialized M1.1.cls ∈ vT) (o9 : M1.1.cls ≠ "java/lang/invoke/MethodHandle" ∧ M1.1.cls ≠ "java/lang/invoke/VarHandle") (hp : (parseMethodDescriptor M1.1.desc).map (fun d => d.parameters.length) = some 5) (hV : VM G M1 fr1 lo1 0 (vArgs 0 (.ref am :: [x1, x2, x3, x4, x5])) [] am ad X Y (mRet none X1 Y1)) (k : VM G M fr lo (pc + 3) lv st am ad X1 Y1 Q) (b3 : fr1 + 1 ≤ fr := by first | exact Nat.le_of_ble_eq_true rfl | omega) (b4 : 8 + (M1.2.2.1 + 11) + lo1 ≤ lo := by first | exact Nat.le_of_ble_eq_true rfl | omega) (b5 : (st.map fun v => v.category).sum ≤ 8 := by first | exact Nat.le_of_ble_eq_true rfl | simp [Value.category, vRf_cat]) : VM G M fr lo pc lv (x5 :: x4 :: x3 :: x2 :: x1 :: .ref am :: st) am ad X Y Q := fun h hP => v_callV5 d hP.2.1 hP.1 rfl hw hin hse o1 c1 c2 c3 c4 c5 o3 o4 o5 o9 hp (hV h hP) (fun v h' z => by obtain ⟨z1, X', Y', z2, z3, rfl, rfl⟩ := z; cases z3; rw [← z1]; exact k h' z2) (fun E h' z => by obtain ⟨z1, X', Y', z2, z3, -⟩ := z; cases z3) (Nat.le_refl _) (Nat.le_refl _) b3 b4 b5
theorem m_callS2r {idx : Nat} {x1 x2 : Value} {x : Value} (d : decode M.2.1 pc = .ok (.invokestatic idx, 3)) (hw : Cond.methodLink M.1.cls idx M1.1 ∈ vT) (hst : Cond.static M1.1 ∈ vT) (o1 : plainName M1.1.cls = true) (c1 : x1.category = 1) (c2 : x2.category = 1) (o3 : 2 ≤ M1.2.2.1) (o4 : vCw M1 ∈ vT) (o5 : Cond.initialized M1.1.cls ∈ vT) (o9 : M1.1.cls ≠ "java/lang/invoke/MethodHandle" ∧ M1.1.cls ≠ "java/lang/invoke/VarHandle") (hp : (parseMethodDescriptor M1.1.desc).map (fun d => d.parameters.length) = some 2) (hV : VM G M1 fr1 lo1 0 (vArgs 0 [x1, x2]) [] am ad X Y (mRet (some x) X1 Y1)) (k : VM G M fr lo (pc + 3) lv (x :: st) am ad X1 Y1 Q) (b3 : fr1 + 1 ≤ fr := by first | exact Nat.le_of_ble_eq_true rfl | omega) (b4 : 8 + (M1.2.2.1 + 11) + lo1 ≤ lo := by first | exact Nat.le_of_ble_eq_true rfl | omega) (b5 : (st.map fun v => v.category).sum ≤ 8 := by first | exact Nat.le_of_ble_eq_true rfl | simp [Value.category, vRf_cat]) : VM G M fr lo pc lv (x2 :: x1 :: st) am ad X Y Q := fun h hP => v_callS2 d hw hst o1 c1 c2 o3 o4 o5 o9 hp (hV h hP) (fun v h' z => by obtain ⟨z1, X', Y', z2, z3, rfl, rfl⟩ := z; cases z3; rw [← z1]; exact k h' z2) (fun E h' z => by obtain ⟨z1, X', Y', z2, z3, -⟩ := z; cases z3) (Nat.le_refl _) (Nat.le_refl _) b3 b4 b5
theorem m_callS3r {idx : Nat} {x1 x2 x3 : Value} {x : Value} (d : decode M.2.1 pc = .ok (.invokestatic idx, 3)) (hw : Cond.methodLink M.1.cls idx M1.1 ∈ vT) (hst : Cond.static M1.1 ∈ vT) (o1 : plainName M1.1.cls = true) (c1 : x1.category = 1) (c2 : x2.category = 1) (c3 : x3.category = 1) (o3 : 3 ≤ M1.2.2.1) (o4 : vCw M1 ∈ vT) (o5 : Cond.initialized M1.1.cls ∈ vT) (o9 : M1.1.cls ≠ "java/lang/invoke/MethodHandle" ∧ M1.1.cls ≠ "java/lang/invoke/VarHandle") (hp : (parseMethodDescriptor M1.1.desc).map (fun d => d.parameters.length) = some 3) (hV : VM G M1 fr1 lo1 0 (vArgs 0 [x1, x2, x3]) [] am ad X Y (mRet (some x) X1 Y1)) (k : VM G M fr lo (pc + 3) lv (x :: st) am ad X1 Y1 Q) (b3 : fr1 + 1 ≤ fr := by first | exact Nat.le_of_ble_eq_true rfl | omega) (b4 : 8 + (M1.2.2.1 + 11) + lo1 ≤ lo := by first | exact Nat.le_of_ble_eq_true rfl | omega) (b5 : (st.map fun v => v.category).sum ≤ 8 := by first | exact Nat.le_of_ble_eq_true rfl | simp [Value.category, vRf_cat]) : VM G M fr lo pc lv (x3 :: x2 :: x1 :: st) am ad X Y Q := fun h hP => v_callS3 d hw hst o1 c1 c2 c3 o3 o4 o5 o9 hp (hV h hP) (fun v h' z => by obtain ⟨z1, X', Y', z2, z3, rfl, rfl⟩ := z; cases z3; rw [← z1]; exact k h' z2) (fun E h' z => by obtain ⟨z1, X', Y', z2, z3, -⟩ := z; cases z3) (Nat.le_refl _) (Nat.le_refl _) b3 b4 b5
theorem m_callS4r {idx : Nat} {x1 x2 x3 x4 : Value} {x : Value} (d : decode M.2.1 pc = .ok (.invokestatic idx, 3)) (hw : Cond.methodLink M.1.cls idx M1.1 ∈ vT) (hst : Cond.static M1.1 ∈ vT) (o1 : plainName M1.1.cls = true) (c1 : x1.category = 1) (c2 : x2.category = 1) (c3 : x3.category = 1) (c4 : x4.category = 1) (o3 : 4 ≤ M1.2.2.1) (o4 : vCw M1 ∈ vT) (o5 : Cond.initialized M1.1.cls ∈ vT) (o9 : M1.1.cls ≠ "java/lang/invoke/MethodHandle" ∧ M1.1.cls ≠ "java/lang/invoke/VarHandle") (hp : (parseMethodDescriptor M1.1.desc).map (fun d => d.parameters.length) = some 4) (hV : VM G M1 fr1 lo1 0 (vArgs 0 [x1, x2, x3, x4]) [] am ad X Y (mRet (some x) X1 Y1)) (k : VM G M fr lo (pc + 3) lv (x :: st) am ad X1 Y1 Q) (b3 : fr1 + 1 ≤ fr := by first | exact Nat.le_of_ble_eq_true rfl | omega) (b4 : 8 + (M1.2.2.1 + 11) + lo1 ≤ lo := by first | exact Nat.le_of_ble_eq_true rfl | omega) (b5 : (st.map fun v => v.category).sum ≤ 8 := by first | exact Nat.le_of_ble_eq_true rfl | simp [Value.category, vRf_cat]) : VM G M fr lo pc lv (x4 :: x3 :: x2 :: x1 :: st) am ad X Y Q := fun h hP => v_callS4 d hw hst o1 c1 c2 c3 c4 o3 o4 o5 o9 hp (hV h hP) (fun v h' z => by obtain ⟨z1, X', Y', z2, z3, rfl, rfl⟩ := z; cases z3; rw [← z1]; exact k h' z2) (fun E h' z => by obtain ⟨z1, X', Y', z2, z3, -⟩ := z; cases z3) (Nat.le_refl _) (Nat.le_refl _) b3 b4 b5
end VMo
end
section
/-! The reference's small methods, and what they compute. -/
section VM1
variable {G : vG} {am : Nat} {ad : Nat → Nat} {X : Nat → Nat → Int32} {Y : Nat → Int32}
def bI (b : Bool) : Int32 := if b then 1 else 0
theorem bI_nar (b : Bool) : narrow .boolean (.int (bI b)) = .int (bI b) := by cases b <;> rfl
theorem bI_np (b : Bool) : vp_nar .boolean (bI b) = bI b := by cases b <;> rfl
theorem bI_0 (b : Bool) : bI b = 0 ↔ b = false := by cases b <;> simp [bI]
def oI (o : Option Nat) : Int32 := match o with
  | none => -1
  | some m => nI m
/-- the first i from where on with p -/
def fst (p : Nat → Bool) : Nat → Nat → Option Nat
  | 0, _ => none
  | f + 1, i => if p i then some i else fst p f (i + 1)
theorem fst_some {p : Nat → Bool} : ∀ {f i m : Nat}, fst p f i = some m → i ≤ m ∧ m < i + f ∧ p m = true
  | 0, _, _, h => by cases h
  | f + 1, i, m, h => by
    unfold fst at h
    by_cases hp : p i = true
    · rw [if_pos hp] at h; cases h; exact ⟨Nat.le_refl _, by omega, hp⟩
    · rw [if_neg hp] at h
      obtain ⟨h1, h2, h3⟩ := fst_some h
      exact ⟨by omega, by omega, h3⟩
def ownB (X : Nat → Nat → Int32) (k n r : Int32) (m : Nat) : Bool := decide (X 2 m = k) && decide (X 3 m = n) && decide (X 4 m = r)
def ownS (X : Nat → Nat → Int32) (nm : Nat) (k n r : Int32) : Option Nat := fst (ownB X k n r) nm 0
def pS (X : Nat → Nat → Int32) (c : Nat) : Option Nat := if X 0 c < 0 then none else some (X 0 c).toNatClampNeg
def findS (X : Nat → Nat → Int32) (nm : Nat) (n r : Int32) : Nat → Nat → Option Nat
  | 0, _ => none
  | f + 1, c => match ownS X nm (nI c) n r with
    | some m => some m
    | none => match pS X c with
      | none => none
      | some d => findS X nm n r f d
def aboveS (X : Nat → Nat → Int32) (k : Nat) : Nat → Nat → Bool
  | 0, _ => false
  | f + 1, d => if d = k then true else match pS X d with
    | none => false
    | some e => aboveS X k f e
/-- parents come before their classes -/
def wP (X : Nat → Nat → Int32) (nc : Nat) : Prop := nc ≤ 8 ∧ ∀ c, c < nc → X 0 c = -1 ∨ ∃ d, d < c ∧ X 0 c = nI d
theorem wP_cases {nc c : Nat} (hw : wP X nc) (hc : c < nc) : (X 0 c = -1 ∧ pS X c = none) ∨ ∃ d, d < c ∧ X 0 c = nI d ∧ pS X c = some d := by
  rcases hw.2 c hc with h1 | ⟨d, h1, h2⟩
  · exact Or.inl ⟨h1, by rw [pS, h1]; rfl⟩
  · have := hw.1
    exact Or.inr ⟨d, h1, h2, by rw [pS, h2, if_neg (nI_pos (by omega)), nI_clamp (by omega)]⟩
theorem c_Mo_thrown : VM G M_Mo_thrown 0 0 0 [(0, .ref am)] [] am ad X Y (mRet (some (.int (Y 19))) X Y) := by
  refine m_aload_n d_Mo_thrown_0 rfl (by first | rfl | exact vIsR_rf _) ?_
  refine m_get d_Mo_thrown_1 19 (by decide) kf_Mo_92 rfl ?_
  exact m_iret d_Mo_thrown_4 rfl rfl ⟨rfl, rfl, rfl⟩
theorem c_Mo_in {v a b : Int32} : VM G M_Mo_in 0 0 0 [(0, .int v), (1, .int a), (2, .int b)] [] am ad X Y (mRet (some (.int (bI (decide (a ≤ v) && decide (v ≤ b))))) X Y) := by
  refine m_iload_n d_Mo_in_0 rfl ?_
  refine m_iload_n d_Mo_in_1 rfl ?_
  refine m_icmp_lt (tgt := 14) d_Mo_in_2 (by decide) (fun c_2 => ?_) (fun c_2 => ?_)
  · rw [show (decide (a ≤ v) && decide (v ≤ b)) = false by simp [Int32.not_le.mpr c_2]]
    refine m_iconst (v := 0) d_Mo_in_14 (by decide) ?_
    exact m_iret d_Mo_in_15 rfl rfl ⟨rfl, rfl, rfl⟩
  · refine m_iload_n d_Mo_in_5 rfl ?_
    refine m_iload_n d_Mo_in_6 rfl ?_
    refine m_icmp_gt (tgt := 14) d_Mo_in_7 (by decide) (fun c_7 => ?_) (fun c_7 => ?_)
    · rw [show (decide (a ≤ v) && decide (v ≤ b)) = false by simp [Int32.not_le.mpr c_7]]
      refine m_iconst (v := 0) d_Mo_in_14 (by decide) ?_
      exact m_iret d_Mo_in_15 rfl rfl ⟨rfl, rfl, rfl⟩
    · rw [show (decide (a ≤ v) && decide (v ≤ b)) = true by simp [Int32.not_lt.mp c_2, Int32.not_lt.mp c_7]]
      refine m_iconst (v := 1) d_Mo_in_10 (by decide) ?_
      refine m_goto (tgt := 15) d_Mo_in_11 (by decide) ?_
      exact m_iret d_Mo_in_15 rfl rfl ⟨rfl, rfl, rfl⟩
theorem c_Mo_bad {b : Bool} : VM G M_Mo_bad 0 0 0 [(0, .ref am), (1, .int (bI b))] [] am ad X Y (mRet (some (.int (bI (!b)))) X (va_up Y 19 (bI (!b)))) := by
  refine m_aload_n d_Mo_bad_0 rfl (by first | rfl | exact vIsR_rf _) ?_
  refine m_iload_n d_Mo_bad_1 rfl ?_
  cases b with
  | false =>
    refine m_if_eq (tgt := 9) d_Mo_bad_2 (by decide) (fun _ => ?_) (fun c => absurd (rfl) c)
    refine m_iconst (v := 1) d_Mo_bad_9 (by decide) ?_
    refine m_putI d_Mo_bad_10 19 (by decide) kf_Mo_92 ?_
    refine m_iload_n d_Mo_bad_13 rfl ?_
    refine m_if_ne (tgt := 21) d_Mo_bad_14 (by decide) (fun c => absurd (rfl) c) (fun _ => ?_)
    refine m_iconst (v := 1) d_Mo_bad_17 (by decide) ?_
    refine m_goto (tgt := 22) d_Mo_bad_18 (by decide) ?_
    exact m_iret d_Mo_bad_22 rfl rfl ⟨rfl, rfl, rfl⟩
  | true =>
    refine m_if_eq (tgt := 9) d_Mo_bad_2 (by decide) (fun c => absurd c (by decide)) (fun _ => ?_)
    refine m_iconst (v := 0) d_Mo_bad_5 (by decide) ?_
    refine m_goto (tgt := 10) d_Mo_bad_6 (by decide) ?_
    refine m_putI d_Mo_bad_10 19 (by decide) kf_Mo_92 ?_
    refine m_iload_n d_Mo_bad_13 rfl ?_
    refine m_if_ne (tgt := 21) d_Mo_bad_14 (by decide) (fun _ => ?_) (fun c => absurd c (by decide))
    refine m_iconst (v := 0) d_Mo_bad_21 (by decide) ?_
    exact m_iret d_Mo_bad_22 rfl rfl ⟨rfl, rfl, rfl⟩
theorem c_Mo_fail {v : Int32} : VM G M_Mo_fail 0 0 0 [(0, .ref am), (1, .int v)] [] am ad X Y (mRet (some (.int 0)) X (va_up Y 19 v)) := by
  refine m_aload_n d_Mo_fail_0 rfl (by first | rfl | exact vIsR_rf _) ?_
  refine m_iload_n d_Mo_fail_1 rfl ?_
  refine m_putI d_Mo_fail_2 19 (by decide) kf_Mo_92 ?_
  refine m_iconst (v := 0) d_Mo_fail_5 (by decide) ?_
  exact m_iret d_Mo_fail_6 rfl rfl ⟨rfl, rfl, rfl⟩
def inB (v a b : Int32) : Bool := decide (a ≤ v) && decide (v ≤ b)
theorem c_Mo_isClass {v : Int32} : VM G M_Mo_isClass 1 30 0 [(0, .ref am), (1, .int v)] [] am ad X Y (mRet (some (.int (bI (inB v 0 (Y 16 - 1))))) X Y) := by
  refine m_iload_n d_Mo_isClass_0 rfl ?_
  refine m_iconst (v := 0) d_Mo_isClass_1 (by decide) ?_
  refine m_aload_n d_Mo_isClass_2 rfl (by first | rfl | exact vIsR_rf _) ?_
  refine m_get d_Mo_isClass_3 16 (by decide) kf_Mo_96 rfl ?_
  refine m_iconst (v := 1) d_Mo_isClass_6 (by decide) ?_
  refine m_isub d_Mo_isClass_7 ?_
  refine m_callS3r (M1 := M_Mo_in) d_Mo_isClass_8 km_Mo_99 kS_Mo_in (by decide) (by first | rfl | exact vRf_cat _) (by first | rfl | exact vRf_cat _) (by first | rfl | exact vRf_cat _) (by decide) kM_Mo_in ki_Mo (by decide) (by decide +kernel) c_Mo_in ?_
  exact m_iret d_Mo_isClass_11 rfl (bI_nar _) ⟨rfl, rfl, rfl⟩
theorem c_Mo_isMethod {v : Int32} : VM G M_Mo_isMethod 1 30 0 [(0, .ref am), (1, .int v)] [] am ad X Y (mRet (some (.int (bI (inB v 0 (Y 17 - 1))))) X Y) := by
  refine m_iload_n d_Mo_isMethod_0 rfl ?_
  refine m_iconst (v := 0) d_Mo_isMethod_1 (by decide) ?_
  refine m_aload_n d_Mo_isMethod_2 rfl (by first | rfl | exact vIsR_rf _) ?_
  refine m_get d_Mo_isMethod_3 17 (by decide) kf_Mo_103 rfl ?_
  refine m_iconst (v := 1) d_Mo_isMethod_6 (by decide) ?_
  refine m_isub d_Mo_isMethod_7 ?_
  refine m_callS3r (M1 := M_Mo_in) d_Mo_isMethod_8 km_Mo_99 kS_Mo_in (by decide) (by first | rfl | exact vRf_cat _) (by first | rfl | exact vRf_cat _) (by first | rfl | exact vRf_cat _) (by decide) kM_Mo_in ki_Mo (by decide) (by decide +kernel) c_Mo_in ?_
  exact m_iret d_Mo_isMethod_11 rfl (bI_nar _) ⟨rfl, rfl, rfl⟩
theorem c_Mo_above {nc k d : Nat} (hw : wP X nc) (hk : k < nc) (hd : d < nc) : VM G M_Mo_above 0 0 0 [(0, .ref am), (1, .int (nI k)), (2, .int (nI d))] [] am ad X Y (mRet (some (.int (bI (aboveS X k 9 d)))) X Y) := by
  have h8 := hw.1
  refine m_iload_n d_Mo_above_0 rfl ?_
  refine m_istore_n d_Mo_above_1 (by decide) rfl ?_
  have loop : ∀ f c, c < nc → c < f → VM G M_Mo_above 0 0 2 [(0, .ref am), (1, .int (nI k)), (2, .int (nI d)), (3, .int (nI c))] [] am ad X Y (mRet (some (.int (bI (aboveS X k f c)))) X Y) := by
    intro f
    induction f with
    | zero => intro c _ h0; omega
    | succ f ih =>
      intro c hc hcf
      refine m_iload_n d_Mo_above_2 rfl ?_
      refine m_if_lt (tgt := 21) d_Mo_above_3 (by decide) (fun c => absurd c (nI_pos (by omega))) (fun _ => ?_)
      refine m_iload_n d_Mo_above_6 rfl ?_
      refine m_iload_n d_Mo_above_7 rfl ?_
      refine m_icmp_eq (tgt := 21) d_Mo_above_8 (by decide) (fun c_8 => ?_) (fun c_8 => ?_)
      · have e1 : c = k := (nI_eq (by omega) (by omega)).mp c_8
        subst e1
        refine m_iload_n d_Mo_above_21 rfl ?_
        refine m_iload_n d_Mo_above_22 rfl ?_
        refine m_icmp_ne (tgt := 30) d_Mo_above_23 (by decide) (fun c => absurd (rfl) c) (fun _ => ?_)
        refine m_iconst (v := 1) d_Mo_above_26 (by decide) ?_
        refine m_goto (tgt := 31) d_Mo_above_27 (by decide) ?_
        rw [show aboveS X c (f + 1) c = true by simp [aboveS]]
        exact m_iret d_Mo_above_31 rfl rfl ⟨rfl, rfl, rfl⟩
      · have e1 : ¬ c = k := fun z => c_8 (by rw [z])
        refine m_aload_n d_Mo_above_11 rfl (by first | rfl | exact vIsR_rf _) ?_
        refine m_get d_Mo_above_12 0 (by decide) kf_Mo_7 rfl ?_
        refine m_iload_n d_Mo_above_15 rfl ?_
        refine m_ald d_Mo_above_16 c (by decide) (by exact rfl) (by exact (show c < 8 by omega)) ?_
        rcases wP_cases hw hc with ⟨h1, h2⟩ | ⟨e, h1, h2, h3⟩
        · rw [h1, show aboveS X k (f + 1) c = false by simp [aboveS, e1, h2]]
          refine m_istore_n d_Mo_above_17 (by decide) rfl ?_
          refine m_goto (tgt := 2) d_Mo_above_18 (by decide) ?_
          refine m_iload_n d_Mo_above_2 rfl ?_
          refine m_if_lt (tgt := 21) d_Mo_above_3 (by decide) (fun _ => ?_) (fun c => absurd (by decide) c)
          refine m_iload_n d_Mo_above_21 rfl ?_
          refine m_iload_n d_Mo_above_22 rfl ?_
          refine m_icmp_ne (tgt := 30) d_Mo_above_23 (by decide) (fun _ => ?_) (fun c => absurd c ((fun z => absurd (show (-1 : Int32) < 0 by decide) (by rw [z]; exact nI_pos (by omega)))))
          refine m_iconst (v := 0) d_Mo_above_30 (by decide) ?_
          exact m_iret d_Mo_above_31 rfl rfl ⟨rfl, rfl, rfl⟩
        · rw [h2, show aboveS X k (f + 1) c = aboveS X k f e by simp [aboveS, e1, h3]]
          refine m_istore_n d_Mo_above_17 (by decide) rfl ?_
          refine m_goto (tgt := 2) d_Mo_above_18 (by decide) ?_
          exact ih e (by omega) (by omega)
  exact loop 9 d hd (by omega)
theorem c_Mo_related {nc k d : Nat} (hw : wP X nc) (hk : k < nc) (hd : d < nc) : VM G M_Mo_related 1 30 0 [(0, .ref am), (1, .int (nI k)), (2, .int (nI d))] [] am ad X Y (mRet (some (.int (bI (aboveS X k 9 d || aboveS X d 9 k)))) X Y) := by
  refine m_aload_n d_Mo_related_0 rfl (by first | rfl | exact vIsR_rf _) ?_
  refine m_iload_n d_Mo_related_1 rfl ?_
  refine m_iload_n d_Mo_related_2 rfl ?_
  refine m_callV2r (M1 := M_Mo_above) d_Mo_related_3 km_Mo_128 kI_Mo_above ks_Mo_Mo_above (by decide) (by first | rfl | exact vRf_cat _) (by first | rfl | exact vRf_cat _) (by decide) kM_Mo_above ki_Mo (by decide) (by decide +kernel) (c_Mo_above hw hk hd) ?_
  refine m_if_ne (tgt := 18) d_Mo_related_6 (by decide) (fun c_6 => ?_) (fun c_6 => ?_)
  · have e1 : aboveS X k 9 d = true := by cases h : aboveS X k 9 d <;> simp_all [bI]
    rw [e1]
    refine m_iconst (v := 1) d_Mo_related_18 (by decide) ?_
    refine m_goto (tgt := 23) d_Mo_related_19 (by decide) ?_
    exact m_iret d_Mo_related_23 rfl rfl ⟨rfl, rfl, rfl⟩
  · have e1 : aboveS X k 9 d = false := (bI_0 _).mp c_6
    rw [e1]
    refine m_aload_n d_Mo_related_9 rfl (by first | rfl | exact vIsR_rf _) ?_
    refine m_iload_n d_Mo_related_10 rfl ?_
    refine m_iload_n d_Mo_related_11 rfl ?_
    refine m_callV2r (M1 := M_Mo_above) d_Mo_related_12 km_Mo_128 kI_Mo_above ks_Mo_Mo_above (by decide) (by first | rfl | exact vRf_cat _) (by first | rfl | exact vRf_cat _) (by decide) kM_Mo_above ki_Mo (by decide) (by decide +kernel) (c_Mo_above hw hd hk) ?_
    refine m_if_eq (tgt := 22) d_Mo_related_15 (by decide) (fun c_15 => ?_) (fun c_15 => ?_)
    · have e2 : aboveS X d 9 k = false := (bI_0 _).mp c_15
      rw [e2]
      refine m_iconst (v := 0) d_Mo_related_22 (by decide) ?_
      exact m_iret d_Mo_related_23 rfl rfl ⟨rfl, rfl, rfl⟩
    · have e2 : aboveS X d 9 k = true := by cases h : aboveS X d 9 k <;> simp_all [bI]
      rw [e2]
      refine m_iconst (v := 1) d_Mo_related_18 (by decide) ?_
      refine m_goto (tgt := 23) d_Mo_related_19 (by decide) ?_
      exact m_iret d_Mo_related_23 rfl rfl ⟨rfl, rfl, rfl⟩
theorem c_Mo_own {nm : Nat} {k n r : Int32} (hy : Y 17 = nI nm) (hm : nm ≤ 24) : VM G M_Mo_own 0 0 0 [(0, .ref am), (1, .int k), (2, .int n), (3, .int r)] [] am ad X Y (mRet (some (.int (oI (ownS X nm k n r)))) X Y) := by
  refine m_iconst (v := 0) d_Mo_own_0 (by decide) ?_
  refine m_istore d_Mo_own_1 (by decide) rfl ?_
  have loop : ∀ f i, i + f = nm → VM G M_Mo_own 0 0 3 [(0, .ref am), (1, .int k), (2, .int n), (3, .int r), (4, .int (nI i))] [] am ad X Y (mRet (some (.int (oI (fst (ownB X k n r) f i)))) X Y) := by
    intro f
    induction f with
    | zero =>
      intro i hi
      refine m_iload d_Mo_own_3 rfl ?_
      refine m_aload_n d_Mo_own_5 rfl (by first | rfl | exact vIsR_rf _) ?_
      refine m_get d_Mo_own_6 17 (by decide) kf_Mo_103 rfl ?_
      refine m_icmp_ge (tgt := 54) d_Mo_own_9 (by decide) (fun _ => ?_) (fun c => absurd ((by rw [hy]; exact nI_le (by omega) (by omega))) c)
      refine m_iconst (v := (-1)) d_Mo_own_54 (by decide) ?_
      exact m_iret d_Mo_own_55 rfl rfl ⟨rfl, rfl, rfl⟩
    | succ f ih =>
      intro i hi
      refine m_iload d_Mo_own_3 rfl ?_
      refine m_aload_n d_Mo_own_5 rfl (by first | rfl | exact vIsR_rf _) ?_
      refine m_get d_Mo_own_6 17 (by decide) kf_Mo_103 rfl ?_
      refine m_icmp_ge (tgt := 54) d_Mo_own_9 (by decide) (fun c => absurd c ((by rw [hy]; exact nI_ge (by omega) (by omega)))) (fun _ => ?_)
      have next : ownB X k n r i = false → VM G M_Mo_own 0 0 48 [(0, .ref am), (1, .int k), (2, .int n), (3, .int r), (4, .int (nI i))] [] am ad X Y (mRet (some (.int (oI (fst (ownB X k n r) (f + 1) i)))) X Y) := by
        intro hf
        rw [show fst (ownB X k n r) (f + 1) i = fst (ownB X k n r) f (i + 1) by simp [fst, hf]]
        refine m_iincw (w := 1) d_Mo_own_48 rfl (by decide) (by decide) rfl ?_
        refine m_goto (tgt := 3) d_Mo_own_51 (by decide) ?_
        rw [nI_1]
        exact ih (i + 1) (by omega)
      refine m_aload_n d_Mo_own_12 rfl (by first | rfl | exact vIsR_rf _) ?_
      refine m_get d_Mo_own_13 2 (by decide) kf_Mo_16 rfl ?_
      refine m_iload d_Mo_own_16 rfl ?_
      refine m_ald d_Mo_own_18 i (by decide) (by exact rfl) (by exact (show i < 24 by omega)) ?_
      refine m_iload_n d_Mo_own_19 rfl ?_
      refine m_icmp_ne (tgt := 48) d_Mo_own_20 (by decide) (fun c_20 => ?_) (fun c_20 => ?_)
      · exact next (by simp [ownB, c_20])
      · refine m_aload_n d_Mo_own_23 rfl (by first | rfl | exact vIsR_rf _) ?_
        refine m_get d_Mo_own_24 3 (by decide) kf_Mo_19 rfl ?_
        refine m_iload d_Mo_own_27 rfl ?_
        refine m_ald d_Mo_own_29 i (by decide) (by exact rfl) (by exact (show i < 24 by omega)) ?_
        refine m_iload_n d_Mo_own_30 rfl ?_
        refine m_icmp_ne (tgt := 48) d_Mo_own_31 (by decide) (fun c_31 => ?_) (fun c_31 => ?_)
        · exact next (by simp [ownB, c_31])
        · refine m_aload_n d_Mo_own_34 rfl (by first | rfl | exact vIsR_rf _) ?_
          refine m_get d_Mo_own_35 4 (by decide) kf_Mo_22 rfl ?_
          refine m_iload d_Mo_own_38 rfl ?_
          refine m_ald d_Mo_own_40 i (by decide) (by exact rfl) (by exact (show i < 24 by omega)) ?_
          refine m_iload_n d_Mo_own_41 rfl ?_
          refine m_icmp_ne (tgt := 48) d_Mo_own_42 (by decide) (fun c_42 => ?_) (fun c_42 => ?_)
          · exact next (by simp [ownB, c_42])
          · rw [show fst (ownB X k n r) (f + 1) i = some i by simp [fst, ownB, c_20, c_31, c_42]]
            refine m_iload d_Mo_own_45 rfl ?_
            exact m_iret d_Mo_own_47 rfl rfl ⟨rfl, rfl, rfl⟩
  exact loop nm 0 (by omega)
theorem c_Mo_find {nc nm c : Nat} {n r : Int32} (hw : wP X nc) (hc : c < nc) (hy : Y 17 = nI nm) (hm : nm ≤ 24) : VM G M_Mo_find 1 30 0 [(0, .ref am), (1, .int (nI c)), (2, .int n), (3, .int r)] [] am ad X Y (mRet (some (.int (oI (findS X nm n r 9 c)))) X Y) := by
  have h8 := hw.1
  refine m_iload_n d_Mo_find_0 rfl ?_
  refine m_istore d_Mo_find_1 (by decide) rfl ?_
  have loop : ∀ f e (lv5 : List (Nat × Value)), (lv5 = [] ∨ lv5 = [(5, .int (-1))]) → e < nc → e < f → VM G M_Mo_find 1 30 3 ([(0, .ref am), (1, .int (nI c)), (2, .int n), (3, .int r), (4, .int (nI e))] ++ lv5) [] am ad X Y (mRet (some (.int (oI (findS X nm n r f e)))) X Y) := by
    intro f
    induction f with
    | zero => intro e _ _ _ h0; omega
    | succ f ih =>
      intro e lv5 h5 he hef
      have go : ∀ w : Int32, w = oI (ownS X nm (nI e) n r) → VM G M_Mo_find 1 30 18 [(0, .ref am), (1, .int (nI c)), (2, .int n), (3, .int r), (4, .int (nI e)), (5, .int w)] [] am ad X Y (mRet (some (.int (oI (findS X nm n r (f + 1) e)))) X Y) := by
        intro w hw5
        cases ho : ownS X nm (nI e) n r with
        | some m =>
          have hml := fst_some ho
          rw [ho] at hw5
          subst hw5
          rw [show findS X nm n r (f + 1) e = some m by simp [findS, ho]]
          refine m_iload d_Mo_find_18 rfl ?_
          refine m_if_lt (tgt := 26) d_Mo_find_20 (by decide) (fun c => absurd c (nI_pos (by omega))) (fun _ => ?_)
          refine m_iload d_Mo_find_23 rfl ?_
          exact m_iret d_Mo_find_25 rfl rfl ⟨rfl, rfl, rfl⟩
        | none =>
          rw [ho] at hw5
          subst hw5
          refine m_iload d_Mo_find_18 rfl ?_
          refine m_if_lt (tgt := 26) d_Mo_find_20 (by decide) (fun _ => ?_) (fun c => absurd (by decide) c)
          refine m_aload_n d_Mo_find_26 rfl (by first | rfl | exact vIsR_rf _) ?_
          refine m_get d_Mo_find_27 0 (by decide) kf_Mo_7 rfl ?_
          refine m_iload d_Mo_find_30 rfl ?_
          refine m_ald d_Mo_find_32 e (by decide) (by exact rfl) (by exact (show e < 8 by omega)) ?_
          rcases wP_cases hw he with ⟨h1, h2⟩ | ⟨g, h1, h2, h3⟩
          · rw [h1, show findS X nm n r (f + 1) e = none by simp [findS, ho, h2]]
            refine m_istore d_Mo_find_33 (by decide) rfl ?_
            refine m_goto (tgt := 3) d_Mo_find_35 (by decide) ?_
            refine m_iload d_Mo_find_3 rfl ?_
            refine m_if_lt (tgt := 38) d_Mo_find_5 (by decide) (fun _ => ?_) (fun c => absurd (by decide) c)
            refine m_iconst (v := (-1)) d_Mo_find_38 (by decide) ?_
            exact m_iret d_Mo_find_39 rfl rfl ⟨rfl, rfl, rfl⟩
          · rw [h2, show findS X nm n r (f + 1) e = findS X nm n r f g by simp [findS, ho, h3]]
            refine m_istore d_Mo_find_33 (by decide) rfl ?_
            refine m_goto (tgt := 3) d_Mo_find_35 (by decide) ?_
            exact ih g [(5, .int (-1))] (Or.inr rfl) (by omega) (by omega)
      rcases h5 with rfl | rfl
      · refine m_iload d_Mo_find_3 rfl ?_
        refine m_if_lt (tgt := 38) d_Mo_find_5 (by decide) (fun c => absurd c (nI_pos (by omega))) (fun _ => ?_)
        refine m_aload_n d_Mo_find_8 rfl (by first | rfl | exact vIsR_rf _) ?_
        refine m_iload d_Mo_find_9 rfl ?_
        refine m_iload_n d_Mo_find_11 rfl ?_
        refine m_iload_n d_Mo_find_12 rfl ?_
        refine m_callV3r (M1 := M_Mo_own) d_Mo_find_13 km_Mo_118 kI_Mo_own ks_Mo_Mo_own (by decide) (by first | rfl | exact vRf_cat _) (by first | rfl | exact vRf_cat _) (by first | rfl | exact vRf_cat _) (by decide) kM_Mo_own ki_Mo (by decide) (by decide +kernel) (c_Mo_own hy hm) ?_
        refine m_istore d_Mo_find_16 (by decide) rfl ?_
        exact go _ rfl
      · refine m_iload d_Mo_find_3 rfl ?_
        refine m_if_lt (tgt := 38) d_Mo_find_5 (by decide) (fun c => absurd c (nI_pos (by omega))) (fun _ => ?_)
        refine m_aload_n d_Mo_find_8 rfl (by first | rfl | exact vIsR_rf _) ?_
        refine m_iload d_Mo_find_9 rfl ?_
        refine m_iload_n d_Mo_find_11 rfl ?_
        refine m_iload_n d_Mo_find_12 rfl ?_
        refine m_callV3r (M1 := M_Mo_own) d_Mo_find_13 km_Mo_118 kI_Mo_own ks_Mo_Mo_own (by decide) (by first | rfl | exact vRf_cat _) (by first | rfl | exact vRf_cat _) (by first | rfl | exact vRf_cat _) (by decide) kM_Mo_own ki_Mo (by decide) (by decide +kernel) (c_Mo_own hy hm) ?_
        refine m_istore d_Mo_find_16 (by decide) rfl ?_
        exact go _ rfl
  exact loop 9 c [] (Or.inl rfl) hc (by omega)
end VM1
end
section
/-! The reference: add, method, item, keep, told, inside, trace. -/
section VM2
variable {G : vG} {am : Nat} {ad : Nat → Nat} {X : Nat → Nat → Int32} {Y : Nat → Int32}
theorem inB_iff {v : Int32} {n : Nat} (hn : n < 1000) : inB v 0 (nI n - 1) = true ↔ ∃ c, c < n ∧ v = nI c := by
  have e1 : (nI n - 1 : Int32).toInt = (n : Int) - 1 := by
    have := pk_sub_toInt (a := n) (b := 1) (by omega) (by omega)
    simpa [nI] using this
  constructor
  · intro h
    simp only [inB, Bool.and_eq_true, decide_eq_true_eq, Int32.le_iff_toInt_le, e1] at h
    obtain ⟨h1, h2⟩ := h
    have h0 : ¬ v < 0 := by rw [Int32.lt_iff_toInt_lt]; omega
    obtain ⟨j, hj, rfl⟩ := nI_of h0
    rw [nI_toInt hj] at h2
    exact ⟨j, by omega, rfl⟩
  · rintro ⟨c, hc, rfl⟩
    simp only [inB, Bool.and_eq_true, decide_eq_true_eq, Int32.le_iff_toInt_le, e1]
    rw [nI_toInt (by omega)]
    exact ⟨by simp, by omega⟩
theorem inB_of {v : Int32} {n : Nat} (b : Int32) (hb : b = nI n) (hn : n < 900) : inB v 0 b = true ↔ ∃ c, c ≤ n ∧ v = nI c := by
  subst hb
  have h := inB_iff (v := v) (n := n + 1) (show n + 1 < 1000 by omega)
  rw [nI_pred] at h
  rw [h]
  constructor
  · rintro ⟨c, h1, h2⟩; exact ⟨c, by omega, h2⟩
  · rintro ⟨c, h1, h2⟩; exact ⟨c, by omega, h2⟩
theorem bI_t : bI true = 1 := rfl
theorem bI_f : bI false = 0 := rfl
/-- what add asks of its parent -/
def addB (Y : Nat → Int32) (v : Int32) : Bool := decide (v = -1) || inB v 0 (Y 16 - 1)
theorem m_add_go {v : Int32} {Q : vR → (Nat → Nat → Int32) → (Nat → Int32) → Prop} (k : VM G M_Mo_add 2 60 22 [(0, .ref am), (1, .int v)] [.int (bI (!addB Y v))] am ad X (va_up Y 19 (bI (!addB Y v))) Q) : VM G M_Mo_add 2 60 0 [(0, .ref am), (1, .int v)] [] am ad X Y Q := by
  have t : VM G M_Mo_add 2 60 19 [(0, .ref am), (1, .int v)] [.int (bI (addB Y v)), .ref am] am ad X Y Q := by
    refine m_callV1r (M1 := M_Mo_bad) d_Mo_add_19 km_Mo_110 kI_Mo_bad ks_Mo_Mo_bad (by decide) (by first | rfl | exact vRf_cat _) (by decide) kM_Mo_bad ki_Mo (by decide) (by decide +kernel) c_Mo_bad ?_
    exact k
  refine m_aload_n d_Mo_add_0 rfl (by first | rfl | exact vIsR_rf _) ?_
  refine m_iload_n d_Mo_add_1 rfl ?_
  refine m_iconst (v := (-1)) d_Mo_add_2 (by decide) ?_
  refine m_icmp_eq (tgt := 14) d_Mo_add_3 (by decide) (fun c_3 => ?_) (fun c_3 => ?_)
  · rw [show addB Y v = true by simp [addB, c_3]] at t
    refine m_iconst (v := 1) d_Mo_add_14 (by decide) ?_
    refine m_goto (tgt := 19) d_Mo_add_15 (by decide) ?_
    exact t
  · refine m_aload_n d_Mo_add_6 rfl (by first | rfl | exact vIsR_rf _) ?_
    refine m_iload_n d_Mo_add_7 rfl ?_
    refine m_callV1r (M1 := M_Mo_isClass) d_Mo_add_8 km_Mo_106 kI_Mo_isClass ks_Mo_Mo_isClass (by decide) (by first | rfl | exact vRf_cat _) (by decide) kM_Mo_isClass ki_Mo (by decide) (by decide +kernel) c_Mo_isClass ?_
    refine m_if_eq (tgt := 18) d_Mo_add_11 (by decide) (fun c_11 => ?_) (fun c_11 => ?_)
    · rw [show addB Y v = false by simp [addB, c_3, (bI_0 _).mp c_11]] at t
      refine m_iconst (v := 0) d_Mo_add_18 (by decide) ?_
      exact t
    · rw [show addB Y v = true by simp [addB, (Bool.not_eq_false _).mp (fun z => c_11 ((bI_0 _).mpr z))]] at t
      refine m_iconst (v := 1) d_Mo_add_14 (by decide) ?_
      refine m_goto (tgt := 19) d_Mo_add_15 (by decide) ?_
      exact t
theorem c_Mo_add_bad {v : Int32} (hb : addB Y v = false) : VM G M_Mo_add 2 60 0 [(0, .ref am), (1, .int v)] [] am ad X Y (mRet (some (.int 0)) X (va_up Y 19 1)) := by
  refine m_add_go ?_
  rw [hb]
  refine m_if_eq (tgt := 27) d_Mo_add_22 (by decide) (fun c => absurd c (by decide)) (fun _ => ?_)
  refine m_iconst (v := 0) d_Mo_add_25 (by decide) ?_
  exact m_iret d_Mo_add_26 rfl rfl ⟨rfl, rfl, rfl⟩
theorem c_Mo_add_full {v : Int32} (hb : addB Y v = true) (hy : Y 16 = nI 8) : VM G M_Mo_add 2 60 0 [(0, .ref am), (1, .int v)] [] am ad X Y (mRet (some (.int 0)) X (va_up (va_up Y 19 0) 19 2)) := by
  refine m_add_go ?_
  rw [hb]
  refine m_if_eq (tgt := 27) d_Mo_add_22 (by decide) (fun _ => ?_) (fun c => absurd (rfl) c)
  refine m_aload_n d_Mo_add_27 rfl (by first | rfl | exact vIsR_rf _) ?_
  refine m_get d_Mo_add_28 16 (by decide) kf_Mo_96 rfl ?_
  refine m_bipush (v := 8) d_Mo_add_31 (by decide) ?_
  refine m_icmp_ne (tgt := 42) d_Mo_add_33 (by decide) (fun c => absurd ((by show Y 16 = 8; rw [hy]; rfl)) c) (fun _ => ?_)
  refine m_aload_n d_Mo_add_36 rfl (by first | rfl | exact vIsR_rf _) ?_
  refine m_iconst (v := 2) d_Mo_add_37 (by decide) ?_
  refine m_callV1r (M1 := M_Mo_fail) d_Mo_add_38 km_Mo_114 kI_Mo_fail ks_Mo_Mo_fail (by decide) (by first | rfl | exact vRf_cat _) (by decide) kM_Mo_fail ki_Mo (by decide) (by decide +kernel) c_Mo_fail ?_
  exact m_iret d_Mo_add_41 rfl rfl ⟨rfl, rfl, rfl⟩
theorem c_Mo_add_ok {v : Int32} {nc : Nat} (hb : addB Y v = true) (hy : Y 16 = nI nc) (hn : nc < 8) : VM G M_Mo_add 2 60 0 [(0, .ref am), (1, .int v)] [] am ad X Y (mRet (some (.int (nI nc))) (mW (mW X 0 nc v) 1 nc (nI nc)) (va_up (va_up Y 19 0) 16 (nI (nc + 1)))) := by
  have h16 : va_up Y 19 0 16 = nI nc := hy
  refine m_add_go ?_
  rw [hb]
  refine m_if_eq (tgt := 27) d_Mo_add_22 (by decide) (fun _ => ?_) (fun c => absurd (rfl) c)
  refine m_aload_n d_Mo_add_27 rfl (by first | rfl | exact vIsR_rf _) ?_
  refine m_get d_Mo_add_28 16 (by decide) kf_Mo_96 rfl ?_
  refine m_bipush (v := 8) d_Mo_add_31 (by decide) ?_
  refine m_icmp_ne (tgt := 42) d_Mo_add_33 (by decide) (fun _ => ?_) (fun c => absurd c ((fun z => by have z : Y 16 = nI 8 := z; rw [hy] at z; have := (nI_eq (by omega) (by omega)).mp z; omega)))
  refine m_aload_n d_Mo_add_42 rfl (by first | rfl | exact vIsR_rf _) ?_
  refine m_get d_Mo_add_43 0 (by decide) kf_Mo_7 rfl ?_
  refine m_aload_n d_Mo_add_46 rfl (by first | rfl | exact vIsR_rf _) ?_
  refine m_get d_Mo_add_47 16 (by decide) kf_Mo_96 rfl ?_
  refine m_iload_n d_Mo_add_50 rfl ?_
  refine m_ast d_Mo_add_51 nc (by decide) (by exact h16) (by exact (show nc < 8 from hn)) ?_
  refine m_aload_n d_Mo_add_52 rfl (by first | rfl | exact vIsR_rf _) ?_
  refine m_get d_Mo_add_53 1 (by decide) kf_Mo_13 rfl ?_
  refine m_at 56 rfl ?_
  refine m_aload_n d_Mo_add_56 rfl (by first | rfl | exact vIsR_rf _) ?_
  refine m_get d_Mo_add_57 16 (by decide) kf_Mo_96 rfl ?_
  refine m_aload_n d_Mo_add_60 rfl (by first | rfl | exact vIsR_rf _) ?_
  refine m_get d_Mo_add_61 16 (by decide) kf_Mo_96 rfl ?_
  refine m_ast d_Mo_add_64 nc (by decide) (by exact h16) (by exact (show nc < 8 from hn)) ?_
  refine m_aload_n d_Mo_add_65 rfl (by first | rfl | exact vIsR_rf _) ?_
  refine m_dup d_Mo_add_66 (by first | rfl | exact vRf_cat _) ?_
  refine m_get d_Mo_add_67 16 (by decide) kf_Mo_96 rfl ?_
  refine m_iconst (v := 1) d_Mo_add_70 (by decide) ?_
  refine m_iadd d_Mo_add_71 ?_
  refine m_putI d_Mo_add_72 16 (by decide) kf_Mo_96 ?_
  refine m_aload_n d_Mo_add_75 rfl (by first | rfl | exact vIsR_rf _) ?_
  refine m_get d_Mo_add_76 16 (by decide) kf_Mo_96 rfl ?_
  refine m_iconst (v := 1) d_Mo_add_79 (by decide) ?_
  refine m_isub d_Mo_add_80 ?_
  rw [show va_up Y 19 (bI (!true)) 16 = nI nc from h16]
  rw [show (va_up (va_up Y 19 (bI (!true))) 16 (nI nc + 1) 16) - 1 = nI nc by rw [va_up_self, nI_1, nI_pred], nI_1]
  exact m_iret d_Mo_add_81 rfl rfl ⟨rfl, rfl, rfl⟩
/-- what method asks -/
def metB (Y : Nat → Int32) (o n r : Int32) : Bool := inB o 0 (Y 16 - 1) && inB n 0 25 && inB r 0 2
theorem m_met_go {o n r : Int32} {Q : vR → (Nat → Nat → Int32) → (Nat → Int32) → Prop} (k : VM G M_Mo_method 2 60 36 [(0, .ref am), (1, .int o), (2, .int n), (3, .int r)] [.int (bI (!metB Y o n r))] am ad X (va_up Y 19 (bI (!metB Y o n r))) Q) : VM G M_Mo_method 2 60 0 [(0, .ref am), (1, .int o), (2, .int n), (3, .int r)] [] am ad X Y Q := by
  have t : VM G M_Mo_method 2 60 33 [(0, .ref am), (1, .int o), (2, .int n), (3, .int r)] [.int (bI (metB Y o n r)), .ref am] am ad X Y Q := by
    refine m_callV1r (M1 := M_Mo_bad) d_Mo_method_33 km_Mo_110 kI_Mo_bad ks_Mo_Mo_bad (by decide) (by first | rfl | exact vRf_cat _) (by decide) kM_Mo_bad ki_Mo (by decide) (by decide +kernel) c_Mo_bad ?_
    exact k
  have tf : metB Y o n r = false → VM G M_Mo_method 2 60 32 [(0, .ref am), (1, .int o), (2, .int n), (3, .int r)] [.ref am] am ad X Y Q := by
    intro hf
    rw [hf] at t
    refine m_iconst (v := 0) d_Mo_method_32 (by decide) ?_
    exact t
  refine m_aload_n d_Mo_method_0 rfl (by first | rfl | exact vIsR_rf _) ?_
  refine m_aload_n d_Mo_method_1 rfl (by first | rfl | exact vIsR_rf _) ?_
  refine m_iload_n d_Mo_method_2 rfl ?_
  refine m_callV1r (M1 := M_Mo_isClass) d_Mo_method_3 km_Mo_106 kI_Mo_isClass ks_Mo_Mo_isClass (by decide) (by first | rfl | exact vRf_cat _) (by decide) kM_Mo_isClass ki_Mo (by decide) (by decide +kernel) c_Mo_isClass ?_
  refine m_if_eq (tgt := 32) d_Mo_method_6 (by decide) (fun c_6 => ?_) (fun c_6 => ?_)
  · exact tf (by simp [metB, (bI_0 _).mp c_6])
  · refine m_iload_n d_Mo_method_9 rfl ?_
    refine m_iconst (v := 0) d_Mo_method_10 (by decide) ?_
    refine m_bipush (v := 25) d_Mo_method_11 (by decide) ?_
    refine m_callS3r (M1 := M_Mo_in) d_Mo_method_13 km_Mo_99 kS_Mo_in (by decide) (by first | rfl | exact vRf_cat _) (by first | rfl | exact vRf_cat _) (by first | rfl | exact vRf_cat _) (by decide) kM_Mo_in ki_Mo (by decide) (by decide +kernel) c_Mo_in ?_
    refine m_if_eq (tgt := 32) d_Mo_method_16 (by decide) (fun c_16 => ?_) (fun c_16 => ?_)
    · exact tf (by simp [metB, show inB n 0 25 = false from (bI_0 _).mp c_16])
    · refine m_iload_n d_Mo_method_19 rfl ?_
      refine m_iconst (v := 0) d_Mo_method_20 (by decide) ?_
      refine m_iconst (v := 2) d_Mo_method_21 (by decide) ?_
      refine m_callS3r (M1 := M_Mo_in) d_Mo_method_22 km_Mo_99 kS_Mo_in (by decide) (by first | rfl | exact vRf_cat _) (by first | rfl | exact vRf_cat _) (by first | rfl | exact vRf_cat _) (by decide) kM_Mo_in ki_Mo (by decide) (by decide +kernel) c_Mo_in ?_
      refine m_if_eq (tgt := 32) d_Mo_method_25 (by decide) (fun c_25 => ?_) (fun c_25 => ?_)
      · exact tf (by simp [metB, show inB r 0 2 = false from (bI_0 _).mp c_25])
      · rw [show metB Y o n r = true by
          have a1 : inB o 0 (Y 16 - 1) = true := (Bool.not_eq_false _).mp (fun z => c_6 ((bI_0 _).mpr z))
          have a2 : inB n 0 25 = true := (Bool.not_eq_false _).mp (fun z => c_16 ((bI_0 _).mpr z))
          have a3 : inB r 0 2 = true := (Bool.not_eq_false _).mp (fun z => c_25 ((bI_0 _).mpr z))
          simp [metB, a1, a2, a3]] at t
        refine m_iconst (v := 1) d_Mo_method_28 (by decide) ?_
        refine m_goto (tgt := 33) d_Mo_method_29 (by decide) ?_
        exact t
theorem c_Mo_method_bad {o n r : Int32} (hb : metB Y o n r = false) : VM G M_Mo_method 2 60 0 [(0, .ref am), (1, .int o), (2, .int n), (3, .int r)] [] am ad X Y (mRet (some (.int 0)) X (va_up Y 19 1)) := by
  refine m_met_go ?_
  rw [hb]
  refine m_if_eq (tgt := 41) d_Mo_method_36 (by decide) (fun c => absurd c (by decide)) (fun _ => ?_)
  refine m_iconst (v := 0) d_Mo_method_39 (by decide) ?_
  exact m_iret d_Mo_method_40 rfl rfl ⟨rfl, rfl, rfl⟩
theorem c_Mo_method_full {o n r : Int32} {nm : Nat} (hb : metB Y o n r = true) (hy : Y 17 = nI nm) (hm : nm ≤ 24) (hf : nm = 24 ∨ ∃ m, ownS X nm o n r = some m) : VM G M_Mo_method 2 60 0 [(0, .ref am), (1, .int o), (2, .int n), (3, .int r)] [] am ad X Y (mRet (some (.int 0)) X (va_up (va_up Y 19 0) 19 2)) := by
  have h17 : va_up Y 19 (bI (!true)) 17 = nI nm := hy
  refine m_met_go ?_
  rw [hb]
  refine m_if_eq (tgt := 41) d_Mo_method_36 (by decide) (fun _ => ?_) (fun c => absurd (rfl) c)
  refine m_aload_n d_Mo_method_41 rfl (by first | rfl | exact vIsR_rf _) ?_
  refine m_get d_Mo_method_42 17 (by decide) kf_Mo_103 rfl ?_
  refine m_bipush (v := 24) d_Mo_method_45 (by decide) ?_
  refine m_icmp_eq (tgt := 60) d_Mo_method_47 (by decide) (fun c_47 => ?_) (fun c_47 => ?_)
  · refine m_aload_n d_Mo_method_60 rfl (by first | rfl | exact vIsR_rf _) ?_
    refine m_iconst (v := 2) d_Mo_method_61 (by decide) ?_
    refine m_callV1r (M1 := M_Mo_fail) d_Mo_method_62 km_Mo_114 kI_Mo_fail ks_Mo_Mo_fail (by decide) (by first | rfl | exact vRf_cat _) (by decide) kM_Mo_fail ki_Mo (by decide) (by decide +kernel) c_Mo_fail ?_
    exact m_iret d_Mo_method_65 rfl rfl ⟨rfl, rfl, rfl⟩
  · obtain ⟨m, ho⟩ : ∃ m, ownS X nm o n r = some m := by
      rcases hf with rfl | hf
      · exact absurd h17 c_47
      · exact hf
    have hml := fst_some ho
    refine m_aload_n d_Mo_method_50 rfl (by first | rfl | exact vIsR_rf _) ?_
    refine m_iload_n d_Mo_method_51 rfl ?_
    refine m_iload_n d_Mo_method_52 rfl ?_
    refine m_iload_n d_Mo_method_53 rfl ?_
    refine m_callV3r (M1 := M_Mo_own) d_Mo_method_54 km_Mo_118 kI_Mo_own ks_Mo_Mo_own (by decide) (by first | rfl | exact vRf_cat _) (by first | rfl | exact vRf_cat _) (by first | rfl | exact vRf_cat _) (by decide) kM_Mo_own ki_Mo (by decide) (by decide +kernel) (c_Mo_own h17 hm) ?_
    rw [ho]
    refine m_if_lt (tgt := 66) d_Mo_method_57 (by decide) (fun c => absurd c (nI_pos (by omega))) (fun _ => ?_)
    refine m_aload_n d_Mo_method_60 rfl (by first | rfl | exact vIsR_rf _) ?_
    refine m_iconst (v := 2) d_Mo_method_61 (by decide) ?_
    refine m_callV1r (M1 := M_Mo_fail) d_Mo_method_62 km_Mo_114 kI_Mo_fail ks_Mo_Mo_fail (by decide) (by first | rfl | exact vRf_cat _) (by decide) kM_Mo_fail ki_Mo (by decide) (by decide +kernel) c_Mo_fail ?_
    exact m_iret d_Mo_method_65 rfl rfl ⟨rfl, rfl, rfl⟩
def metX (X : Nat → Nat → Int32) (nm c : Nat) (n r : Int32) : Nat → Nat → Int32 := mW (mW (mW (mW (mW (mW (mW (mW X 2 nm (nI c)) 3 nm n) 4 nm r) 5 nm 0) 9 nm 0) 6 nm (nI nm)) 7 nm n) 8 nm (X 1 c)

theorem c_Mo_method_ok {n r : Int32} {nm c : Nat} (hb : metB Y (nI c) n r = true) (hy : Y 17 = nI nm) (hm : nm < 24) (hc : c < 8) (hf : ownS X nm (nI c) n r = none) : VM G M_Mo_method 2 60 0 [(0, .ref am), (1, .int (nI c)), (2, .int n), (3, .int r)] [] am ad X Y (mRet (some (.int (nI nm))) (metX X nm c n r) (va_up (va_up Y 19 0) 17 (nI (nm + 1)))) := by
  have h17 : va_up Y 19 (bI (!true)) 17 = nI nm := hy
  refine m_met_go ?_
  rw [hb]
  refine m_if_eq (tgt := 41) d_Mo_method_36 (by decide) (fun _ => ?_) (fun c => absurd (rfl) c)
  refine m_aload_n d_Mo_method_41 rfl (by first | rfl | exact vIsR_rf _) ?_
  refine m_get d_Mo_method_42 17 (by decide) kf_Mo_103 rfl ?_
  refine m_bipush (v := 24) d_Mo_method_45 (by decide) ?_
  refine m_icmp_eq (tgt := 60) d_Mo_method_47 (by decide) (fun c => absurd c ((fun z => by have z : Y 17 = nI 24 := z; rw [hy] at z; have := (nI_eq (by omega) (by omega)).mp z; omega))) (fun _ => ?_)
  refine m_aload_n d_Mo_method_50 rfl (by first | rfl | exact vIsR_rf _) ?_
  refine m_iload_n d_Mo_method_51 rfl ?_
  refine m_iload_n d_Mo_method_52 rfl ?_
  refine m_iload_n d_Mo_method_53 rfl ?_
  refine m_callV3r (M1 := M_Mo_own) d_Mo_method_54 km_Mo_118 kI_Mo_own ks_Mo_Mo_own (by decide) (by first | rfl | exact vRf_cat _) (by first | rfl | exact vRf_cat _) (by first | rfl | exact vRf_cat _) (by decide) kM_Mo_own ki_Mo (by decide) (by decide +kernel) (c_Mo_own h17 (by omega)) ?_
  rw [hf]
  refine m_if_lt (tgt := 66) d_Mo_method_57 (by decide) (fun _ => ?_) (fun c => absurd (by decide) c)
  refine m_aload_n d_Mo_method_66 rfl (by first | rfl | exact vIsR_rf _) ?_
  refine m_get d_Mo_method_67 2 (by decide) kf_Mo_16 rfl ?_
  refine m_aload_n d_Mo_method_70 rfl (by first | rfl | exact vIsR_rf _) ?_
  refine m_get d_Mo_method_71 17 (by decide) kf_Mo_103 rfl ?_
  refine m_iload_n d_Mo_method_74 rfl ?_
  refine m_ast d_Mo_method_75 nm (by decide) (by exact h17) (by exact hm) ?_
  refine m_aload_n d_Mo_method_76 rfl (by first | rfl | exact vIsR_rf _) ?_
  refine m_get d_Mo_method_77 3 (by decide) kf_Mo_19 rfl ?_
  refine m_at 80 rfl ?_
  refine m_aload_n d_Mo_method_80 rfl (by first | rfl | exact vIsR_rf _) ?_
  refine m_get d_Mo_method_81 17 (by decide) kf_Mo_103 rfl ?_
  refine m_iload_n d_Mo_method_84 rfl ?_
  refine m_ast d_Mo_method_85 nm (by decide) (by exact h17) (by exact hm) ?_
  refine m_aload_n d_Mo_method_86 rfl (by first | rfl | exact vIsR_rf _) ?_
  refine m_get d_Mo_method_87 4 (by decide) kf_Mo_22 rfl ?_
  refine m_aload_n d_Mo_method_90 rfl (by first | rfl | exact vIsR_rf _) ?_
  refine m_get d_Mo_method_91 17 (by decide) kf_Mo_103 rfl ?_
  refine m_at 94 rfl ?_
  refine m_iload_n d_Mo_method_94 rfl ?_
  refine m_ast d_Mo_method_95 nm (by decide) (by exact h17) (by exact hm) ?_
  refine m_aload_n d_Mo_method_96 rfl (by first | rfl | exact vIsR_rf _) ?_
  refine m_get d_Mo_method_97 5 (by decide) kf_Mo_25 rfl ?_
  refine m_aload_n d_Mo_method_100 rfl (by first | rfl | exact vIsR_rf _) ?_
  refine m_get d_Mo_method_101 17 (by decide) kf_Mo_103 rfl ?_
  refine m_iconst (v := 0) d_Mo_method_104 (by decide) ?_
  refine m_ast d_Mo_method_105 nm (by decide) (by exact h17) (by exact hm) ?_
  refine m_at 106 rfl ?_
  refine m_aload_n d_Mo_method_106 rfl (by first | rfl | exact vIsR_rf _) ?_
  refine m_get d_Mo_method_107 9 (by decide) kf_Mo_37 rfl ?_
  refine m_aload_n d_Mo_method_110 rfl (by first | rfl | exact vIsR_rf _) ?_
  refine m_get d_Mo_method_111 17 (by decide) kf_Mo_103 rfl ?_
  refine m_iconst (v := 0) d_Mo_method_114 (by decide) ?_
  refine m_zast d_Mo_method_115 nm (by decide) (by exact h17) (by exact hm) (by exact rfl) ?_
  refine m_aload_n d_Mo_method_116 rfl (by first | rfl | exact vIsR_rf _) ?_
  refine m_get d_Mo_method_117 6 (by decide) kf_Mo_28 rfl ?_
  refine m_at 120 rfl ?_
  refine m_aload_n d_Mo_method_120 rfl (by first | rfl | exact vIsR_rf _) ?_
  refine m_get d_Mo_method_121 17 (by decide) kf_Mo_103 rfl ?_
  refine m_aload_n d_Mo_method_124 rfl (by first | rfl | exact vIsR_rf _) ?_
  refine m_get d_Mo_method_125 17 (by decide) kf_Mo_103 rfl ?_
  refine m_ast d_Mo_method_128 nm (by decide) (by exact h17) (by exact hm) ?_
  refine m_aload_n d_Mo_method_129 rfl (by first | rfl | exact vIsR_rf _) ?_
  refine m_get d_Mo_method_130 7 (by decide) kf_Mo_31 rfl ?_
  refine m_aload_n d_Mo_method_133 rfl (by first | rfl | exact vIsR_rf _) ?_
  refine m_at 134 rfl ?_
  refine m_get d_Mo_method_134 17 (by decide) kf_Mo_103 rfl ?_
  refine m_iload_n d_Mo_method_137 rfl ?_
  refine m_ast d_Mo_method_138 nm (by decide) (by exact h17) (by exact hm) ?_
  refine m_aload_n d_Mo_method_139 rfl (by first | rfl | exact vIsR_rf _) ?_
  refine m_get d_Mo_method_140 8 (by decide) kf_Mo_34 rfl ?_
  refine m_aload_n d_Mo_method_143 rfl (by first | rfl | exact vIsR_rf _) ?_
  refine m_get d_Mo_method_144 17 (by decide) kf_Mo_103 rfl ?_
  refine m_aload_n d_Mo_method_147 rfl (by first | rfl | exact vIsR_rf _) ?_
  refine m_at 148 rfl ?_
  refine m_get d_Mo_method_148 1 (by decide) kf_Mo_13 rfl ?_
  refine m_iload_n d_Mo_method_151 rfl ?_
  refine m_ald d_Mo_method_152 c (by decide) (by exact rfl) (by exact hc) ?_
  refine m_ast d_Mo_method_153 nm (by decide) (by exact h17) (by exact hm) ?_
  refine m_aload_n d_Mo_method_154 rfl (by first | rfl | exact vIsR_rf _) ?_
  refine m_dup d_Mo_method_155 (by first | rfl | exact vRf_cat _) ?_
  refine m_get d_Mo_method_156 17 (by decide) kf_Mo_103 rfl ?_
  refine m_iconst (v := 1) d_Mo_method_159 (by decide) ?_
  refine m_iadd d_Mo_method_160 ?_
  refine m_putI d_Mo_method_161 17 (by decide) kf_Mo_103 ?_
  refine m_aload_n d_Mo_method_164 rfl (by first | rfl | exact vIsR_rf _) ?_
  refine m_get d_Mo_method_165 17 (by decide) kf_Mo_103 rfl ?_
  refine m_at 168 rfl ?_
  refine m_iconst (v := 1) d_Mo_method_168 (by decide) ?_
  refine m_isub d_Mo_method_169 ?_
  rw [show va_up Y 19 (bI (!true)) 17 = nI nm from h17]
  rw [show (va_up (va_up Y 19 (bI (!true))) 17 (nI nm + 1) 17) - 1 = nI nm by rw [va_up_self, nI_1, nI_pred], nI_1]
  exact m_iret d_Mo_method_170 rfl rfl ⟨rfl, rfl, rfl⟩
theorem c_Mo_keep_bad {v b : Int32} (hb : inB v 0 (Y 17 - 1) = false) : VM G M_Mo_keep 2 60 0 [(0, .ref am), (1, .int v), (2, .int b)] [] am ad X Y (mRet none X (va_up Y 19 1)) := by
  refine m_aload_n d_Mo_keep_0 rfl (by first | rfl | exact vIsR_rf _) ?_
  refine m_aload_n d_Mo_keep_1 rfl (by first | rfl | exact vIsR_rf _) ?_
  refine m_iload_n d_Mo_keep_2 rfl ?_
  refine m_callV1r (M1 := M_Mo_isMethod) d_Mo_keep_3 km_Mo_122 kI_Mo_isMethod ks_Mo_Mo_isMethod (by decide) (by first | rfl | exact vRf_cat _) (by decide) kM_Mo_isMethod ki_Mo (by decide) (by decide +kernel) c_Mo_isMethod ?_
  refine m_callV1r (M1 := M_Mo_bad) d_Mo_keep_6 km_Mo_110 kI_Mo_bad ks_Mo_Mo_bad (by decide) (by first | rfl | exact vRf_cat _) (by decide) kM_Mo_bad ki_Mo (by decide) (by decide +kernel) c_Mo_bad ?_
  rw [hb]
  refine m_if_eq (tgt := 13) d_Mo_keep_9 (by decide) (fun c => absurd c (by decide)) (fun _ => ?_)
  exact m_vret d_Mo_keep_12 rfl ⟨rfl, rfl, rfl⟩
theorem c_Mo_keep_ok {m nm : Nat} {b : Bool} (hy : Y 17 = nI nm) (hm : m < nm) (hn : nm ≤ 24) : VM G M_Mo_keep 2 60 0 [(0, .ref am), (1, .int (nI m)), (2, .int (bI b))] [] am ad X Y (mRet none (mW X 9 m (bI b)) (va_up Y 19 0)) := by
  have hb : inB (nI m) 0 (Y 17 - 1) = true := by rw [hy]; exact (inB_iff (by omega)).mpr ⟨m, hm, rfl⟩
  refine m_aload_n d_Mo_keep_0 rfl (by first | rfl | exact vIsR_rf _) ?_
  refine m_aload_n d_Mo_keep_1 rfl (by first | rfl | exact vIsR_rf _) ?_
  refine m_iload_n d_Mo_keep_2 rfl ?_
  refine m_callV1r (M1 := M_Mo_isMethod) d_Mo_keep_3 km_Mo_122 kI_Mo_isMethod ks_Mo_Mo_isMethod (by decide) (by first | rfl | exact vRf_cat _) (by decide) kM_Mo_isMethod ki_Mo (by decide) (by decide +kernel) c_Mo_isMethod ?_
  refine m_callV1r (M1 := M_Mo_bad) d_Mo_keep_6 km_Mo_110 kI_Mo_bad ks_Mo_Mo_bad (by decide) (by first | rfl | exact vRf_cat _) (by decide) kM_Mo_bad ki_Mo (by decide) (by decide +kernel) c_Mo_bad ?_
  rw [hb]
  refine m_if_eq (tgt := 13) d_Mo_keep_9 (by decide) (fun _ => ?_) (fun c => absurd (rfl) c)
  refine m_aload_n d_Mo_keep_13 rfl (by first | rfl | exact vIsR_rf _) ?_
  refine m_get d_Mo_keep_14 9 (by decide) kf_Mo_37 rfl ?_
  refine m_iload_n d_Mo_keep_17 rfl ?_
  refine m_iload_n d_Mo_keep_18 rfl ?_
  refine m_zast d_Mo_keep_19 m (by decide) (by exact rfl) (by exact (show m < 24 by omega)) (by exact (bI_np _)) ?_
  exact m_vret d_Mo_keep_20 rfl ⟨rfl, rfl, rfl⟩
end VM2
end
section
/-! The reference: item, told, inside, trace. -/
section VM3
variable {G : vG} {am : Nat} {ad : Nat → Nat} {X : Nat → Nat → Int32} {Y : Nat → Int32}
theorem nbI {b : Bool} (h : ¬ bI b = 0) : b = true := by cases b <;> simp_all [bI]
def itB (Y : Nat → Int32) (m k a b c : Int32) : Bool := (inB m 0 (Y 17 - 1) && inB k 0 2) && !((decide (k = 1) && !inB a 0 (Y 16 - 1)) || (decide (0 < k) && (!inB b 0 25 || !inB c 0 2)))
abbrev itL (am : Nat) (m k a b c : Int32) : List (Nat × Value) := [(0, .ref am), (1, .int m), (2, .int k), (3, .int a), (4, .int b), (5, .int c)]
theorem m_item_go {m k a b c : Int32} {Q : vR → (Nat → Nat → Int32) → (Nat → Int32) → Prop} (kk : VM G M_Mo_item 2 60 71 (itL am m k a b c ++ [(6, .int (bI (itB Y m k a b c)))]) [.int (bI (!itB Y m k a b c))] am ad X (va_up Y 19 (bI (!itB Y m k a b c))) Q) : VM G M_Mo_item 2 60 0 (itL am m k a b c) [] am ad X Y Q := by
  have t65 : VM G M_Mo_item 2 60 65 (itL am m k a b c ++ [(6, .int (bI (itB Y m k a b c)))]) [] am ad X Y Q := by
    refine m_aload_n d_Mo_item_65 rfl (by first | rfl | exact vIsR_rf _) ?_
    refine m_iload d_Mo_item_66 rfl ?_
    refine m_callV1r (M1 := M_Mo_bad) d_Mo_item_68 km_Mo_110 kI_Mo_bad ks_Mo_Mo_bad (by decide) (by first | rfl | exact vRf_cat _) (by decide) kM_Mo_bad ki_Mo (by decide) (by decide +kernel) c_Mo_bad ?_
    exact kk
  have t62 : itB Y m k a b c = false → ∀ w : Int32, VM G M_Mo_item 2 60 62 (itL am m k a b c ++ [(6, .int w)]) [] am ad X Y Q := by
    intro hf w
    rw [hf] at t65
    refine m_iconst (v := 0) d_Mo_item_62 (by decide) ?_
    refine m_istore d_Mo_item_63 (by decide) rfl ?_
    exact t65
  have t24 : ∀ f0 : Bool, f0 = (inB m 0 (Y 17 - 1) && inB k 0 2) → VM G M_Mo_item 2 60 24 (itL am m k a b c ++ [(6, .int (bI f0))]) [] am ad X Y Q := by
    intro f0 hf0
    have t37 : ¬ (k = 1 ∧ inB a 0 (Y 16 - 1) = false) → VM G M_Mo_item 2 60 37 (itL am m k a b c ++ [(6, .int (bI f0))]) [] am ad X Y Q := by
      intro hk
      have hk2 : (decide (k = 1) && !inB a 0 (Y 16 - 1)) = false := by
        by_cases h1 : k = 1
        · have : inB a 0 (Y 16 - 1) = true := (Bool.not_eq_false _).mp (fun z => hk ⟨h1, z⟩)
          simp [this]
        · simp [h1]
      refine m_iload_n d_Mo_item_37 rfl ?_
      refine m_if_le (tgt := 65) d_Mo_item_38 (by decide) (fun c_38 => ?_) (fun c_38 => ?_)
      · have e1 : itB Y m k a b c = f0 := by simp [itB, hk2, Int32.not_lt.mpr c_38, hf0]
        rw [e1] at t65
        exact t65
      · have hk0 : 0 < k := Int32.not_le.mp c_38
        refine m_iload d_Mo_item_41 rfl ?_
        refine m_iconst (v := 0) d_Mo_item_43 (by decide) ?_
        refine m_bipush (v := 25) d_Mo_item_44 (by decide) ?_
        refine m_callS3r (M1 := M_Mo_in) d_Mo_item_46 km_Mo_99 kS_Mo_in (by decide) (by first | rfl | exact vRf_cat _) (by first | rfl | exact vRf_cat _) (by first | rfl | exact vRf_cat _) (by decide) kM_Mo_in ki_Mo (by decide) (by decide +kernel) c_Mo_in ?_
        refine m_if_eq (tgt := 62) d_Mo_item_49 (by decide) (fun c_49 => ?_) (fun c_49 => ?_)
        · exact t62 (by simp [itB, hk0, show inB b 0 25 = false from (bI_0 _).mp c_49]) _
        · refine m_iload d_Mo_item_52 rfl ?_
          refine m_iconst (v := 0) d_Mo_item_54 (by decide) ?_
          refine m_iconst (v := 2) d_Mo_item_55 (by decide) ?_
          refine m_callS3r (M1 := M_Mo_in) d_Mo_item_56 km_Mo_99 kS_Mo_in (by decide) (by first | rfl | exact vRf_cat _) (by first | rfl | exact vRf_cat _) (by first | rfl | exact vRf_cat _) (by decide) kM_Mo_in ki_Mo (by decide) (by decide +kernel) c_Mo_in ?_
          refine m_if_ne (tgt := 65) d_Mo_item_59 (by decide) (fun c_59 => ?_) (fun c_59 => ?_)
          · have e1 : itB Y m k a b c = f0 := by simp [itB, hk2, hf0, show inB b 0 25 = true from nbI c_49, show inB c 0 2 = true from nbI c_59]
            rw [e1] at t65
            exact t65
          · exact t62 (by simp [itB, hk0, show inB c 0 2 = false from (bI_0 _).mp c_59]) _
    refine m_iload_n d_Mo_item_24 rfl ?_
    refine m_iconst (v := 1) d_Mo_item_25 (by decide) ?_
    refine m_icmp_ne (tgt := 37) d_Mo_item_26 (by decide) (fun c_26 => ?_) (fun c_26 => ?_)
    · exact t37 (fun z => c_26 z.1)
    · refine m_aload_n d_Mo_item_29 rfl (by first | rfl | exact vIsR_rf _) ?_
      refine m_iload_n d_Mo_item_30 rfl ?_
      refine m_callV1r (M1 := M_Mo_isClass) d_Mo_item_31 km_Mo_106 kI_Mo_isClass ks_Mo_Mo_isClass (by decide) (by first | rfl | exact vRf_cat _) (by decide) kM_Mo_isClass ki_Mo (by decide) (by decide +kernel) c_Mo_isClass ?_
      refine m_if_eq (tgt := 62) d_Mo_item_34 (by decide) (fun c_34 => ?_) (fun c_34 => ?_)
      · exact t62 (by simp [itB, c_26, (bI_0 _).mp c_34]) _
      · exact t37 (fun z => by rw [nbI c_34] at z; cases z.2)
  refine m_aload_n d_Mo_item_0 rfl (by first | rfl | exact vIsR_rf _) ?_
  refine m_iload_n d_Mo_item_1 rfl ?_
  refine m_callV1r (M1 := M_Mo_isMethod) d_Mo_item_2 km_Mo_122 kI_Mo_isMethod ks_Mo_Mo_isMethod (by decide) (by first | rfl | exact vRf_cat _) (by decide) kM_Mo_isMethod ki_Mo (by decide) (by decide +kernel) c_Mo_isMethod ?_
  refine m_if_eq (tgt := 21) d_Mo_item_5 (by decide) (fun c_5 => ?_) (fun c_5 => ?_)
  · refine m_iconst (v := 0) d_Mo_item_21 (by decide) ?_
    refine m_istore d_Mo_item_22 (by decide) rfl ?_
    exact t24 false (by simp [(bI_0 _).mp c_5])
  · refine m_iload_n d_Mo_item_8 rfl ?_
    refine m_iconst (v := 0) d_Mo_item_9 (by decide) ?_
    refine m_iconst (v := 2) d_Mo_item_10 (by decide) ?_
    refine m_callS3r (M1 := M_Mo_in) d_Mo_item_11 km_Mo_99 kS_Mo_in (by decide) (by first | rfl | exact vRf_cat _) (by first | rfl | exact vRf_cat _) (by first | rfl | exact vRf_cat _) (by decide) kM_Mo_in ki_Mo (by decide) (by decide +kernel) c_Mo_in ?_
    refine m_if_eq (tgt := 21) d_Mo_item_14 (by decide) (fun c_14 => ?_) (fun c_14 => ?_)
    · refine m_iconst (v := 0) d_Mo_item_21 (by decide) ?_
      refine m_istore d_Mo_item_22 (by decide) rfl ?_
      exact t24 false (by simp [show inB k 0 2 = false from (bI_0 _).mp c_14])
    · refine m_iconst (v := 1) d_Mo_item_17 (by decide) ?_
      refine m_goto (tgt := 22) d_Mo_item_18 (by decide) ?_
      refine m_istore d_Mo_item_22 (by decide) rfl ?_
      exact t24 true (by simp [nbI c_5, show inB k 0 2 = true from nbI c_14])
theorem c_Mo_item_bad {m k a b c : Int32} (hb : itB Y m k a b c = false) : VM G M_Mo_item 2 60 0 (itL am m k a b c) [] am ad X Y (mRet (some (.int 0)) X (va_up Y 19 1)) := by
  refine m_item_go ?_
  rw [hb]
  refine m_if_eq (tgt := 76) d_Mo_item_71 (by decide) (fun c => absurd c (by decide)) (fun _ => ?_)
  refine m_iconst (v := 0) d_Mo_item_74 (by decide) ?_
  exact m_iret d_Mo_item_75 rfl rfl ⟨rfl, rfl, rfl⟩
theorem c_Mo_item_full {k a b c : Int32} {m : Nat} (hb : itB Y (nI m) k a b c = true) (hm : m < 24) (hi : X 5 m = nI 5) : VM G M_Mo_item 2 60 0 (itL am (nI m) k a b c) [] am ad X Y (mRet (some (.int 0)) X (va_up (va_up Y 19 0) 19 2)) := by
  refine m_item_go ?_
  rw [hb]
  refine m_if_eq (tgt := 76) d_Mo_item_71 (by decide) (fun _ => ?_) (fun c => absurd (rfl) c)
  refine m_aload_n d_Mo_item_76 rfl (by first | rfl | exact vIsR_rf _) ?_
  refine m_get d_Mo_item_77 5 (by decide) kf_Mo_25 rfl ?_
  refine m_iload_n d_Mo_item_80 rfl ?_
  refine m_ald d_Mo_item_81 m (by decide) (by exact rfl) (by exact hm) ?_
  refine m_iconst (v := 5) d_Mo_item_82 (by decide) ?_
  refine m_icmp_ne (tgt := 92) d_Mo_item_83 (by decide) (fun c => absurd (hi) c) (fun _ => ?_)
  refine m_aload_n d_Mo_item_86 rfl (by first | rfl | exact vIsR_rf _) ?_
  refine m_iconst (v := 2) d_Mo_item_87 (by decide) ?_
  refine m_callV1r (M1 := M_Mo_fail) d_Mo_item_88 km_Mo_114 kI_Mo_fail ks_Mo_Mo_fail (by decide) (by first | rfl | exact vRf_cat _) (by decide) kM_Mo_fail ki_Mo (by decide) (by decide +kernel) c_Mo_fail ?_
  exact m_iret d_Mo_item_91 rfl rfl ⟨rfl, rfl, rfl⟩
def itX (X : Nat → Nat → Int32) (m j : Nat) (k a b c : Int32) : Nat → Nat → Int32 := mW (mW (mW (mW (mW X 12 (m * 5 + j) k) 13 (m * 5 + j) (if k = 2 then -1 else a)) 14 (m * 5 + j) (if k = 0 then -1 else b)) 15 (m * 5 + j) (if k = 0 then -1 else c)) 5 m (nI (j + 1))
theorem c_Mo_item_ok {k a b c : Int32} {m j : Nat} (hb : itB Y (nI m) k a b c = true) (hm : m < 24) (hi : X 5 m = nI j) (hj : j < 5) : VM G M_Mo_item 2 60 0 (itL am (nI m) k a b c) [] am ad X Y (mRet (some (.int (nI (j + 1)))) (itX X m j k a b c) (va_up Y 19 0)) := by
  have hix : m * 5 + j < 120 := by omega
  refine m_item_go ?_
  rw [hb]
  refine m_if_eq (tgt := 76) d_Mo_item_71 (by decide) (fun _ => ?_) (fun c => absurd (rfl) c)
  refine m_aload_n d_Mo_item_76 rfl (by first | rfl | exact vIsR_rf _) ?_
  refine m_get d_Mo_item_77 5 (by decide) kf_Mo_25 rfl ?_
  refine m_iload_n d_Mo_item_80 rfl ?_
  refine m_ald d_Mo_item_81 m (by decide) (by exact rfl) (by exact hm) ?_
  refine m_iconst (v := 5) d_Mo_item_82 (by decide) ?_
  refine m_icmp_ne (tgt := 92) d_Mo_item_83 (by decide) (fun _ => ?_) (fun c => absurd c ((fun z => by rw [hi] at z; have := (nI_eq (a := j) (b := 5) (by omega) (by omega)).mp z; omega)))
  refine m_iload_n d_Mo_item_92 rfl ?_
  refine m_iconst (v := 5) d_Mo_item_93 (by decide) ?_
  refine m_imul d_Mo_item_94 ?_
  refine m_aload_n d_Mo_item_95 rfl (by first | rfl | exact vIsR_rf _) ?_
  refine m_get d_Mo_item_96 5 (by decide) kf_Mo_25 rfl ?_
  refine m_iload_n d_Mo_item_99 rfl ?_
  refine m_ald d_Mo_item_100 m (by decide) (by exact rfl) (by exact hm) ?_
  refine m_iadd d_Mo_item_101 ?_
  rw [hi, show nI m * 5 + nI j = nI (m * 5 + j) by rw [show (5 : Int32) = nI 5 from rfl, pk_mul, nI_add]]
  refine m_istore d_Mo_item_102 (by decide) rfl ?_
  refine m_aload_n d_Mo_item_104 rfl (by first | rfl | exact vIsR_rf _) ?_
  refine m_get d_Mo_item_105 12 (by decide) kf_Mo_47 rfl ?_
  refine m_iload d_Mo_item_108 rfl ?_
  refine m_iload_n d_Mo_item_110 rfl ?_
  refine m_ast d_Mo_item_111 (m * 5 + j) (by decide) (by exact rfl) (by exact hix) ?_
  refine m_aload_n d_Mo_item_112 rfl (by first | rfl | exact vIsR_rf _) ?_
  refine m_get d_Mo_item_113 13 (by decide) kf_Mo_50 rfl ?_
  refine m_at 116 rfl ?_
  refine m_iload d_Mo_item_116 rfl ?_
  refine m_iload_n d_Mo_item_118 rfl ?_
  refine m_iconst (v := 2) d_Mo_item_119 (by decide) ?_
  have s1 : VM G M_Mo_item 2 60 128 (itL am (nI m) k a b c ++ [(6, .int (bI true)), (7, .int (nI (m * 5 + j)))]) [.int (if k = 2 then -1 else a), .int (nI (m * 5 + j)), .ref (ad 13)] am ad (mW X 12 (m * 5 + j) k) (va_up Y 19 (bI (!true))) (mRet (some (.int (nI (j + 1)))) (itX X m j k a b c) (va_up Y 19 0)) := by
    refine m_ast d_Mo_item_128 (m * 5 + j) (by decide) (by exact rfl) (by exact hix) ?_
    refine m_aload_n d_Mo_item_129 rfl (by first | rfl | exact vIsR_rf _) ?_
    refine m_get d_Mo_item_130 14 (by decide) kf_Mo_53 rfl ?_
    refine m_iload d_Mo_item_133 rfl ?_
    refine m_iload_n d_Mo_item_135 rfl ?_
    have s2 : VM G M_Mo_item 2 60 145 (itL am (nI m) k a b c ++ [(6, .int (bI true)), (7, .int (nI (m * 5 + j)))]) [.int (if k = 0 then -1 else b), .int (nI (m * 5 + j)), .ref (ad 14)] am ad (mW (mW X 12 (m * 5 + j) k) 13 (m * 5 + j) (if k = 2 then -1 else a)) (va_up Y 19 (bI (!true))) (mRet (some (.int (nI (j + 1)))) (itX X m j k a b c) (va_up Y 19 0)) := by
      refine m_ast d_Mo_item_145 (m * 5 + j) (by decide) (by exact rfl) (by exact hix) ?_
      refine m_aload_n d_Mo_item_146 rfl (by first | rfl | exact vIsR_rf _) ?_
      refine m_get d_Mo_item_147 15 (by decide) kf_Mo_56 rfl ?_
      refine m_iload d_Mo_item_150 rfl ?_
      refine m_iload_n d_Mo_item_152 rfl ?_
      have s3 : VM G M_Mo_item 2 60 162 (itL am (nI m) k a b c ++ [(6, .int (bI true)), (7, .int (nI (m * 5 + j)))]) [.int (if k = 0 then -1 else c), .int (nI (m * 5 + j)), .ref (ad 15)] am ad (mW (mW (mW X 12 (m * 5 + j) k) 13 (m * 5 + j) (if k = 2 then -1 else a)) 14 (m * 5 + j) (if k = 0 then -1 else b)) (va_up Y 19 (bI (!true))) (mRet (some (.int (nI (j + 1)))) (itX X m j k a b c) (va_up Y 19 0)) := by
        refine m_ast d_Mo_item_162 (m * 5 + j) (by decide) (by exact rfl) (by exact hix) ?_
        refine m_aload_n d_Mo_item_163 rfl (by first | rfl | exact vIsR_rf _) ?_
        refine m_get d_Mo_item_164 5 (by decide) kf_Mo_25 rfl ?_
        refine m_iload_n d_Mo_item_167 rfl ?_
        refine m_dup2 d_Mo_item_168 (by first | rfl | exact vRf_cat _) (by first | rfl | exact vRf_cat _) ?_
        refine m_ald d_Mo_item_169 m (by decide) (by exact rfl) (by exact hm) ?_
        refine m_iconst (v := 1) d_Mo_item_170 (by decide) ?_
        refine m_iadd d_Mo_item_171 ?_
        rw [show (mW (mW (mW (mW X 12 (m * 5 + j) k) 13 (m * 5 + j) (if k = 2 then -1 else a)) 14 (m * 5 + j) (if k = 0 then -1 else b)) 15 (m * 5 + j) (if k = 0 then -1 else c)) 5 m + 1 = nI (j + 1) by rw [mW_k (by decide), mW_k (by decide), mW_k (by decide), mW_k (by decide), hi, nI_1]]
        refine m_ast d_Mo_item_172 m (by decide) (by exact rfl) (by exact hm) ?_
        refine m_aload_n d_Mo_item_173 rfl (by first | rfl | exact vIsR_rf _) ?_
        refine m_get d_Mo_item_174 5 (by decide) kf_Mo_25 rfl ?_
        refine m_iload_n d_Mo_item_177 rfl ?_
        refine m_ald d_Mo_item_178 m (by decide) (by exact rfl) (by exact hm) ?_
        rw [mW_at]
        exact m_iret d_Mo_item_179 rfl rfl ⟨rfl, rfl, rfl⟩
      refine m_if_ne (tgt := 160) d_Mo_item_153 (by decide) (fun c_153 => ?_) (fun c_153 => ?_)
      · rw [if_neg c_153] at s3
        refine m_iload d_Mo_item_160 rfl ?_
        exact s3
      · rw [if_pos c_153] at s3
        refine m_iconst (v := (-1)) d_Mo_item_156 (by decide) ?_
        refine m_goto (tgt := 162) d_Mo_item_157 (by decide) ?_
        exact s3
    refine m_if_ne (tgt := 143) d_Mo_item_136 (by decide) (fun c_136 => ?_) (fun c_136 => ?_)
    · rw [if_neg c_136] at s2
      refine m_iload d_Mo_item_143 rfl ?_
      exact s2
    · rw [if_pos c_136] at s2
      refine m_iconst (v := (-1)) d_Mo_item_139 (by decide) ?_
      refine m_goto (tgt := 145) d_Mo_item_140 (by decide) ?_
      exact s2
  refine m_icmp_ne (tgt := 127) d_Mo_item_120 (by decide) (fun c_120 => ?_) (fun c_120 => ?_)
  · rw [if_neg c_120] at s1
    refine m_iload_n d_Mo_item_127 rfl ?_
    exact s1
  · rw [if_pos c_120] at s1
    refine m_iconst (v := (-1)) d_Mo_item_123 (by decide) ?_
    refine m_goto (tgt := 128) d_Mo_item_124 (by decide) ?_
    exact s1
end VM3
end
section
/-! The reference: told, inside, trace. -/
section VM4
variable {G : vG} {am : Nat} {ad : Nat → Nat} {X : Nat → Nat → Int32} {Y : Nat → Int32}
def tdB (Y : Nat → Int32) (m w : Int32) : Bool := inB m 0 (Y 17 - 1) && inB w 0 7
theorem m_told_go {m w : Int32} {Q : vR → (Nat → Nat → Int32) → (Nat → Int32) → Prop} (k : VM G M_Mo_told 2 60 27 [(0, .ref am), (1, .int m), (2, .int w)] [.int (bI (!tdB Y m w))] am ad X (va_up Y 19 (bI (!tdB Y m w))) Q) : VM G M_Mo_told 2 60 0 [(0, .ref am), (1, .int m), (2, .int w)] [] am ad X Y Q := by
  have t : VM G M_Mo_told 2 60 24 [(0, .ref am), (1, .int m), (2, .int w)] [.int (bI (tdB Y m w)), .ref am] am ad X Y Q := by
    refine m_callV1r (M1 := M_Mo_bad) d_Mo_told_24 km_Mo_110 kI_Mo_bad ks_Mo_Mo_bad (by decide) (by first | rfl | exact vRf_cat _) (by decide) kM_Mo_bad ki_Mo (by decide) (by decide +kernel) c_Mo_bad ?_
    exact k
  have tf : tdB Y m w = false → VM G M_Mo_told 2 60 23 [(0, .ref am), (1, .int m), (2, .int w)] [.ref am] am ad X Y Q := by
    intro hf
    rw [hf] at t
    refine m_iconst (v := 0) d_Mo_told_23 (by decide) ?_
    exact t
  refine m_aload_n d_Mo_told_0 rfl (by first | rfl | exact vIsR_rf _) ?_
  refine m_aload_n d_Mo_told_1 rfl (by first | rfl | exact vIsR_rf _) ?_
  refine m_iload_n d_Mo_told_2 rfl ?_
  refine m_callV1r (M1 := M_Mo_isMethod) d_Mo_told_3 km_Mo_122 kI_Mo_isMethod ks_Mo_Mo_isMethod (by decide) (by first | rfl | exact vRf_cat _) (by decide) kM_Mo_isMethod ki_Mo (by decide) (by decide +kernel) c_Mo_isMethod ?_
  refine m_if_eq (tgt := 23) d_Mo_told_6 (by decide) (fun c_6 => ?_) (fun c_6 => ?_)
  · exact tf (by simp [tdB, (bI_0 _).mp c_6])
  · refine m_iload_n d_Mo_told_9 rfl ?_
    refine m_iconst (v := 0) d_Mo_told_10 (by decide) ?_
    refine m_bipush (v := 7) d_Mo_told_11 (by decide) ?_
    refine m_callS3r (M1 := M_Mo_in) d_Mo_told_13 km_Mo_99 kS_Mo_in (by decide) (by first | rfl | exact vRf_cat _) (by first | rfl | exact vRf_cat _) (by first | rfl | exact vRf_cat _) (by decide) kM_Mo_in ki_Mo (by decide) (by decide +kernel) c_Mo_in ?_
    refine m_if_eq (tgt := 23) d_Mo_told_16 (by decide) (fun c_16 => ?_) (fun c_16 => ?_)
    · exact tf (by simp [tdB, show inB w 0 7 = false from (bI_0 _).mp c_16])
    · rw [show tdB Y m w = true by simp [tdB, nbI c_6, show inB w 0 7 = true from nbI c_16]] at t
      refine m_iconst (v := 1) d_Mo_told_19 (by decide) ?_
      refine m_goto (tgt := 24) d_Mo_told_20 (by decide) ?_
      exact t
theorem c_Mo_told_bad {m w : Int32} (hb : tdB Y m w = false) : VM G M_Mo_told 2 60 0 [(0, .ref am), (1, .int m), (2, .int w)] [] am ad X Y (mRet (some (.int 0)) X (va_up Y 19 1)) := by
  refine m_told_go ?_
  rw [hb]
  refine m_if_eq (tgt := 32) d_Mo_told_27 (by decide) (fun c => absurd c (by decide)) (fun _ => ?_)
  refine m_iconst (v := 0) d_Mo_told_30 (by decide) ?_
  exact m_iret d_Mo_told_31 rfl rfl ⟨rfl, rfl, rfl⟩
theorem c_Mo_told_0 {m nm : Nat} (hy : Y 17 = nI nm) (hn : nm ≤ 24) (hm : m < nm) : VM G M_Mo_told 2 60 0 [(0, .ref am), (1, .int (nI m)), (2, .int 0)] [] am ad X Y (mRet (some (.int (X 2 m))) X (va_up Y 19 0)) := by
  refine m_told_go ?_
  rw [show tdB Y (nI m) 0 = true by simp [tdB, hy, (inB_iff (n := nm) (by omega)).mpr ⟨m, hm, rfl⟩]; decide]
  refine m_if_eq (tgt := 32) d_Mo_told_27 (by decide) (fun _ => ?_) (fun c => absurd (rfl) c)
  refine m_iload_n d_Mo_told_32 rfl ?_
  refine m_tableIn (tgt := 76) (off := 43) d_Mo_told_33 (by decide) (by decide) (by decide) (by decide) ?_
  refine m_aload_n d_Mo_told_76 rfl (by first | rfl | exact vIsR_rf _) ?_
  refine m_get d_Mo_told_77 2 (by decide) kf_Mo_16 rfl ?_
  refine m_iload_n d_Mo_told_80 rfl ?_
  refine m_ald d_Mo_told_81 m (by decide) (by exact rfl) (by exact (show m < 24 by omega)) ?_
  exact m_iret d_Mo_told_82 rfl rfl ⟨rfl, rfl, rfl⟩
theorem c_Mo_told_1 {m nm : Nat} (hy : Y 17 = nI nm) (hn : nm ≤ 24) (hm : m < nm) : VM G M_Mo_told 2 60 0 [(0, .ref am), (1, .int (nI m)), (2, .int 1)] [] am ad X Y (mRet (some (.int (X 3 m))) X (va_up Y 19 0)) := by
  refine m_told_go ?_
  rw [show tdB Y (nI m) 1 = true by simp [tdB, hy, (inB_iff (n := nm) (by omega)).mpr ⟨m, hm, rfl⟩]; decide]
  refine m_if_eq (tgt := 32) d_Mo_told_27 (by decide) (fun _ => ?_) (fun c => absurd (rfl) c)
  refine m_iload_n d_Mo_told_32 rfl ?_
  refine m_tableIn (tgt := 83) (off := 50) d_Mo_told_33 (by decide) (by decide) (by decide) (by decide) ?_
  refine m_aload_n d_Mo_told_83 rfl (by first | rfl | exact vIsR_rf _) ?_
  refine m_get d_Mo_told_84 3 (by decide) kf_Mo_19 rfl ?_
  refine m_iload_n d_Mo_told_87 rfl ?_
  refine m_ald d_Mo_told_88 m (by decide) (by exact rfl) (by exact (show m < 24 by omega)) ?_
  exact m_iret d_Mo_told_89 rfl rfl ⟨rfl, rfl, rfl⟩
theorem c_Mo_told_2 {m nm : Nat} (hy : Y 17 = nI nm) (hn : nm ≤ 24) (hm : m < nm) : VM G M_Mo_told 2 60 0 [(0, .ref am), (1, .int (nI m)), (2, .int 2)] [] am ad X Y (mRet (some (.int (X 4 m))) X (va_up Y 19 0)) := by
  refine m_told_go ?_
  rw [show tdB Y (nI m) 2 = true by simp [tdB, hy, (inB_iff (n := nm) (by omega)).mpr ⟨m, hm, rfl⟩]; decide]
  refine m_if_eq (tgt := 32) d_Mo_told_27 (by decide) (fun _ => ?_) (fun c => absurd (rfl) c)
  refine m_iload_n d_Mo_told_32 rfl ?_
  refine m_tableIn (tgt := 90) (off := 57) d_Mo_told_33 (by decide) (by decide) (by decide) (by decide) ?_
  refine m_aload_n d_Mo_told_90 rfl (by first | rfl | exact vIsR_rf _) ?_
  refine m_get d_Mo_told_91 4 (by decide) kf_Mo_22 rfl ?_
  refine m_iload_n d_Mo_told_94 rfl ?_
  refine m_ald d_Mo_told_95 m (by decide) (by exact rfl) (by exact (show m < 24 by omega)) ?_
  exact m_iret d_Mo_told_96 rfl rfl ⟨rfl, rfl, rfl⟩
theorem c_Mo_told_3 {m nm : Nat} (hy : Y 17 = nI nm) (hn : nm ≤ 24) (hm : m < nm) : VM G M_Mo_told 2 60 0 [(0, .ref am), (1, .int (nI m)), (2, .int 3)] [] am ad X Y (mRet (some (.int (X 5 m))) X (va_up Y 19 0)) := by
  refine m_told_go ?_
  rw [show tdB Y (nI m) 3 = true by simp [tdB, hy, (inB_iff (n := nm) (by omega)).mpr ⟨m, hm, rfl⟩]; decide]
  refine m_if_eq (tgt := 32) d_Mo_told_27 (by decide) (fun _ => ?_) (fun c => absurd (rfl) c)
  refine m_iload_n d_Mo_told_32 rfl ?_
  refine m_tableIn (tgt := 97) (off := 64) d_Mo_told_33 (by decide) (by decide) (by decide) (by decide) ?_
  refine m_aload_n d_Mo_told_97 rfl (by first | rfl | exact vIsR_rf _) ?_
  refine m_get d_Mo_told_98 5 (by decide) kf_Mo_25 rfl ?_
  refine m_iload_n d_Mo_told_101 rfl ?_
  refine m_ald d_Mo_told_102 m (by decide) (by exact rfl) (by exact (show m < 24 by omega)) ?_
  exact m_iret d_Mo_told_103 rfl rfl ⟨rfl, rfl, rfl⟩
theorem c_Mo_told_5 {m nm : Nat} (hy : Y 17 = nI nm) (hn : nm ≤ 24) (hm : m < nm) : VM G M_Mo_told 2 60 0 [(0, .ref am), (1, .int (nI m)), (2, .int 5)] [] am ad X Y (mRet (some (.int (X 8 m))) X (va_up Y 19 0)) := by
  refine m_told_go ?_
  rw [show tdB Y (nI m) 5 = true by simp [tdB, hy, (inB_iff (n := nm) (by omega)).mpr ⟨m, hm, rfl⟩]; decide]
  refine m_if_eq (tgt := 32) d_Mo_told_27 (by decide) (fun _ => ?_) (fun c => absurd (rfl) c)
  refine m_iload_n d_Mo_told_32 rfl ?_
  refine m_tableIn (tgt := 119) (off := 86) d_Mo_told_33 (by decide) (by decide) (by decide) (by decide) ?_
  refine m_aload_n d_Mo_told_119 rfl (by first | rfl | exact vIsR_rf _) ?_
  refine m_get d_Mo_told_120 8 (by decide) kf_Mo_34 rfl ?_
  refine m_iload_n d_Mo_told_123 rfl ?_
  refine m_ald d_Mo_told_124 m (by decide) (by exact rfl) (by exact (show m < 24 by omega)) ?_
  exact m_iret d_Mo_told_125 rfl rfl ⟨rfl, rfl, rfl⟩
theorem c_Mo_told_6 {m nm : Nat} (hy : Y 17 = nI nm) (hn : nm ≤ 24) (hm : m < nm) : VM G M_Mo_told 2 60 0 [(0, .ref am), (1, .int (nI m)), (2, .int 6)] [] am ad X Y (mRet (some (.int (X 7 m))) X (va_up Y 19 0)) := by
  refine m_told_go ?_
  rw [show tdB Y (nI m) 6 = true by simp [tdB, hy, (inB_iff (n := nm) (by omega)).mpr ⟨m, hm, rfl⟩]; decide]
  refine m_if_eq (tgt := 32) d_Mo_told_27 (by decide) (fun _ => ?_) (fun c => absurd (rfl) c)
  refine m_iload_n d_Mo_told_32 rfl ?_
  refine m_tableIn (tgt := 126) (off := 93) d_Mo_told_33 (by decide) (by decide) (by decide) (by decide) ?_
  refine m_aload_n d_Mo_told_126 rfl (by first | rfl | exact vIsR_rf _) ?_
  refine m_get d_Mo_told_127 7 (by decide) kf_Mo_31 rfl ?_
  refine m_iload_n d_Mo_told_130 rfl ?_
  refine m_ald d_Mo_told_131 m (by decide) (by exact rfl) (by exact (show m < 24 by omega)) ?_
  exact m_iret d_Mo_told_132 rfl rfl ⟨rfl, rfl, rfl⟩
theorem c_Mo_told_7 {m nm : Nat} (hy : Y 17 = nI nm) (hn : nm ≤ 24) (hm : m < nm) : VM G M_Mo_told 2 60 0 [(0, .ref am), (1, .int (nI m)), (2, .int 7)] [] am ad X Y (mRet (some (.int (X 6 m))) X (va_up Y 19 0)) := by
  refine m_told_go ?_
  rw [show tdB Y (nI m) 7 = true by simp [tdB, hy, (inB_iff (n := nm) (by omega)).mpr ⟨m, hm, rfl⟩]; decide]
  refine m_if_eq (tgt := 32) d_Mo_told_27 (by decide) (fun _ => ?_) (fun c => absurd (rfl) c)
  refine m_iload_n d_Mo_told_32 rfl ?_
  refine m_tableOut (tgt := 133) d_Mo_told_33 (Or.inr (by decide)) (by decide) ?_
  refine m_aload_n d_Mo_told_133 rfl (by first | rfl | exact vIsR_rf _) ?_
  refine m_get d_Mo_told_134 6 (by decide) kf_Mo_28 rfl ?_
  refine m_iload_n d_Mo_told_137 rfl ?_
  refine m_ald d_Mo_told_138 m (by decide) (by exact rfl) (by exact (show m < 24 by omega)) ?_
  exact m_iret d_Mo_told_139 rfl rfl ⟨rfl, rfl, rfl⟩
theorem c_Mo_told_4 {m nm : Nat} {b : Bool} (hy : Y 17 = nI nm) (hn : nm ≤ 24) (hm : m < nm) (hk : X 9 m = bI b) : VM G M_Mo_told 2 60 0 [(0, .ref am), (1, .int (nI m)), (2, .int 4)] [] am ad X Y (mRet (some (.int (X 9 m))) X (va_up Y 19 0)) := by
  refine m_told_go ?_
  rw [show tdB Y (nI m) 4 = true by simp [tdB, hy, (inB_iff (n := nm) (by omega)).mpr ⟨m, hm, rfl⟩]; decide]
  refine m_if_eq (tgt := 32) d_Mo_told_27 (by decide) (fun _ => ?_) (fun c => absurd (rfl) c)
  refine m_iload_n d_Mo_told_32 rfl ?_
  refine m_tableIn (tgt := 104) (off := 71) d_Mo_told_33 (by decide) (by decide) (by decide) (by decide) ?_
  refine m_aload_n d_Mo_told_104 rfl (by first | rfl | exact vIsR_rf _) ?_
  refine m_get d_Mo_told_105 9 (by decide) kf_Mo_37 rfl ?_
  refine m_iload_n d_Mo_told_108 rfl ?_
  refine m_zald d_Mo_told_109 m (by decide) (by exact rfl) (by exact (show m < 24 by omega)) ?_
  rw [hk]
  cases b with
  | false =>
    refine m_if_eq (tgt := 117) d_Mo_told_110 (by decide) (fun _ => ?_) (fun c => absurd (rfl) c)
    refine m_iconst (v := 0) d_Mo_told_117 (by decide) ?_
    exact m_iret d_Mo_told_118 rfl rfl ⟨rfl, rfl, rfl⟩
  | true =>
    refine m_if_eq (tgt := 117) d_Mo_told_110 (by decide) (fun c => absurd c (by decide)) (fun _ => ?_)
    refine m_iconst (v := 1) d_Mo_told_113 (by decide) ?_
    refine m_goto (tgt := 118) d_Mo_told_114 (by decide) ?_
    exact m_iret d_Mo_told_118 rfl rfl ⟨rfl, rfl, rfl⟩
def inS (Y : Nat → Int32) (m w : Int32) : Bool := inB m 0 (Y 17 - 1) && inB w 0 3
abbrev inL (am : Nat) (m i w : Int32) : List (Nat × Value) := [(0, .ref am), (1, .int m), (2, .int i), (3, .int w)]
theorem m_inside_go {m i w : Int32} {Q : vR → (Nat → Nat → Int32) → (Nat → Int32) → Prop} (k : VM G M_Mo_inside 2 60 26 (inL am m i w) [.int (bI (!inS Y m w))] am ad X (va_up Y 19 (bI (!inS Y m w))) Q) : VM G M_Mo_inside 2 60 0 (inL am m i w) [] am ad X Y Q := by
  have t : VM G M_Mo_inside 2 60 23 (inL am m i w) [.int (bI (inS Y m w)), .ref am] am ad X Y Q := by
    refine m_callV1r (M1 := M_Mo_bad) d_Mo_inside_23 km_Mo_110 kI_Mo_bad ks_Mo_Mo_bad (by decide) (by first | rfl | exact vRf_cat _) (by decide) kM_Mo_bad ki_Mo (by decide) (by decide +kernel) c_Mo_bad ?_
    exact k
  have tf : inS Y m w = false → VM G M_Mo_inside 2 60 22 (inL am m i w) [.ref am] am ad X Y Q := by
    intro hf
    rw [hf] at t
    refine m_iconst (v := 0) d_Mo_inside_22 (by decide) ?_
    exact t
  refine m_aload_n d_Mo_inside_0 rfl (by first | rfl | exact vIsR_rf _) ?_
  refine m_aload_n d_Mo_inside_1 rfl (by first | rfl | exact vIsR_rf _) ?_
  refine m_iload_n d_Mo_inside_2 rfl ?_
  refine m_callV1r (M1 := M_Mo_isMethod) d_Mo_inside_3 km_Mo_122 kI_Mo_isMethod ks_Mo_Mo_isMethod (by decide) (by first | rfl | exact vRf_cat _) (by decide) kM_Mo_isMethod ki_Mo (by decide) (by decide +kernel) c_Mo_isMethod ?_
  refine m_if_eq (tgt := 22) d_Mo_inside_6 (by decide) (fun c_6 => ?_) (fun c_6 => ?_)
  · exact tf (by simp [inS, (bI_0 _).mp c_6])
  · refine m_iload_n d_Mo_inside_9 rfl ?_
    refine m_iconst (v := 0) d_Mo_inside_10 (by decide) ?_
    refine m_iconst (v := 3) d_Mo_inside_11 (by decide) ?_
    refine m_callS3r (M1 := M_Mo_in) d_Mo_inside_12 km_Mo_99 kS_Mo_in (by decide) (by first | rfl | exact vRf_cat _) (by first | rfl | exact vRf_cat _) (by first | rfl | exact vRf_cat _) (by decide) kM_Mo_in ki_Mo (by decide) (by decide +kernel) c_Mo_in ?_
    refine m_if_eq (tgt := 22) d_Mo_inside_15 (by decide) (fun c_15 => ?_) (fun c_15 => ?_)
    · exact tf (by simp [inS, show inB w 0 3 = false from (bI_0 _).mp c_15])
    · rw [show inS Y m w = true by simp [inS, nbI c_6, show inB w 0 3 = true from nbI c_15]] at t
      refine m_iconst (v := 1) d_Mo_inside_18 (by decide) ?_
      refine m_goto (tgt := 23) d_Mo_inside_19 (by decide) ?_
      exact t
theorem c_Mo_inside_bad {m i w : Int32} (hb : inS Y m w = false) : VM G M_Mo_inside 2 60 0 (inL am m i w) [] am ad X Y (mRet (some (.int 0)) X (va_up Y 19 1)) := by
  refine m_inside_go ?_
  rw [hb]
  refine m_if_eq (tgt := 31) d_Mo_inside_26 (by decide) (fun c => absurd c (by decide)) (fun _ => ?_)
  refine m_iconst (v := 0) d_Mo_inside_29 (by decide) ?_
  exact m_iret d_Mo_inside_30 rfl rfl ⟨rfl, rfl, rfl⟩
theorem c_Mo_inside_none {i w : Int32} {m : Nat} (hb : inS Y (nI m) w = true) (hm : m < 24) (hi : inB i 0 (X 5 m - 1) = false) : VM G M_Mo_inside 2 60 0 (inL am (nI m) i w) [] am ad X Y (mRet (some (.int 0)) X (va_up (va_up Y 19 0) 19 2)) := by
  refine m_inside_go ?_
  rw [hb]
  refine m_if_eq (tgt := 31) d_Mo_inside_26 (by decide) (fun _ => ?_) (fun c => absurd (rfl) c)
  refine m_iload_n d_Mo_inside_31 rfl ?_
  refine m_iconst (v := 0) d_Mo_inside_32 (by decide) ?_
  refine m_aload_n d_Mo_inside_33 rfl (by first | rfl | exact vIsR_rf _) ?_
  refine m_get d_Mo_inside_34 5 (by decide) kf_Mo_25 rfl ?_
  refine m_iload_n d_Mo_inside_37 rfl ?_
  refine m_ald d_Mo_inside_38 m (by decide) (by exact rfl) (by exact hm) ?_
  refine m_iconst (v := 1) d_Mo_inside_39 (by decide) ?_
  refine m_isub d_Mo_inside_40 ?_
  refine m_at 41 rfl ?_
  refine m_callS3r (M1 := M_Mo_in) d_Mo_inside_41 km_Mo_99 kS_Mo_in (by decide) (by first | rfl | exact vRf_cat _) (by first | rfl | exact vRf_cat _) (by first | rfl | exact vRf_cat _) (by decide) kM_Mo_in ki_Mo (by decide) (by decide +kernel) c_Mo_in ?_
  rw [show (decide (0 ≤ i) && decide (i ≤ X 5 m - 1)) = false from hi]
  refine m_if_ne (tgt := 53) d_Mo_inside_44 (by decide) (fun c => absurd (rfl) c) (fun _ => ?_)
  refine m_aload_n d_Mo_inside_47 rfl (by first | rfl | exact vIsR_rf _) ?_
  refine m_iconst (v := 2) d_Mo_inside_48 (by decide) ?_
  refine m_callV1r (M1 := M_Mo_fail) d_Mo_inside_49 km_Mo_114 kI_Mo_fail ks_Mo_Mo_fail (by decide) (by first | rfl | exact vRf_cat _) (by decide) kM_Mo_fail ki_Mo (by decide) (by decide +kernel) c_Mo_fail ?_
  exact m_iret d_Mo_inside_52 rfl rfl ⟨rfl, rfl, rfl⟩
theorem c_Mo_inside_ok {m j it w : Nat} (hb : inS Y (nI m) (nI w) = true) (hm : m < 24) (hi : X 5 m = nI it) (hit : it ≤ 5) (hj : j < it) (hw : w < 4) : VM G M_Mo_inside 2 60 0 (inL am (nI m) (nI j) (nI w)) [] am ad X Y (mRet (some (.int (X (12 + w) (m * 5 + j)))) X (va_up Y 19 0)) := by
  have hix : m * 5 + j < 120 := by omega
  refine m_inside_go ?_
  rw [hb]
  refine m_if_eq (tgt := 31) d_Mo_inside_26 (by decide) (fun _ => ?_) (fun c => absurd (rfl) c)
  refine m_iload_n d_Mo_inside_31 rfl ?_
  refine m_iconst (v := 0) d_Mo_inside_32 (by decide) ?_
  refine m_aload_n d_Mo_inside_33 rfl (by first | rfl | exact vIsR_rf _) ?_
  refine m_get d_Mo_inside_34 5 (by decide) kf_Mo_25 rfl ?_
  refine m_iload_n d_Mo_inside_37 rfl ?_
  refine m_ald d_Mo_inside_38 m (by decide) (by exact rfl) (by exact hm) ?_
  refine m_iconst (v := 1) d_Mo_inside_39 (by decide) ?_
  refine m_isub d_Mo_inside_40 ?_
  refine m_at 41 rfl ?_
  refine m_callS3r (M1 := M_Mo_in) d_Mo_inside_41 km_Mo_99 kS_Mo_in (by decide) (by first | rfl | exact vRf_cat _) (by first | rfl | exact vRf_cat _) (by first | rfl | exact vRf_cat _) (by decide) kM_Mo_in ki_Mo (by decide) (by decide +kernel) c_Mo_in ?_
  rw [show (decide (0 ≤ nI j) && decide (nI j ≤ X 5 m - 1)) = true from (by rw [hi]; exact (inB_iff (by omega)).mpr ⟨j, hj, rfl⟩)]
  refine m_if_ne (tgt := 53) d_Mo_inside_44 (by decide) (fun _ => ?_) (fun c => absurd c (by decide))
  refine m_iload_n d_Mo_inside_53 rfl ?_
  refine m_iconst (v := 5) d_Mo_inside_54 (by decide) ?_
  refine m_imul d_Mo_inside_55 ?_
  refine m_iload_n d_Mo_inside_56 rfl ?_
  refine m_iadd d_Mo_inside_57 ?_
  rw [show nI m * 5 + nI j = nI (m * 5 + j) by rw [show (5 : Int32) = nI 5 from rfl, pk_mul, nI_add]]
  refine m_istore d_Mo_inside_58 (by decide) rfl ?_
  refine m_iload_n d_Mo_inside_60 rfl ?_
  rcases (show w = 0 ∨ w = 1 ∨ w = 2 ∨ w = 3 by omega) with rfl | rfl | rfl | rfl
  · refine m_if_ne (tgt := 74) d_Mo_inside_61 (by decide) (fun c => absurd (rfl) c) (fun _ => ?_)
    refine m_aload_n d_Mo_inside_64 rfl (by first | rfl | exact vIsR_rf _) ?_
    refine m_get d_Mo_inside_65 12 (by decide) kf_Mo_47 rfl ?_
    refine m_iload d_Mo_inside_68 rfl ?_
    refine m_ald d_Mo_inside_70 (m * 5 + j) (by decide) (by exact rfl) (by exact hix) ?_
    refine m_goto (tgt := 111) d_Mo_inside_71 (by decide) ?_
    exact m_iret d_Mo_inside_111 rfl rfl ⟨rfl, rfl, rfl⟩
  · refine m_if_ne (tgt := 74) d_Mo_inside_61 (by decide) (fun _ => ?_) (fun c => absurd c (by decide))
    refine m_iload_n d_Mo_inside_74 rfl ?_
    refine m_iconst (v := 1) d_Mo_inside_75 (by decide) ?_
    refine m_icmp_ne (tgt := 89) d_Mo_inside_76 (by decide) (fun c => absurd (rfl) c) (fun _ => ?_)
    refine m_aload_n d_Mo_inside_79 rfl (by first | rfl | exact vIsR_rf _) ?_
    refine m_get d_Mo_inside_80 13 (by decide) kf_Mo_50 rfl ?_
    refine m_iload d_Mo_inside_83 rfl ?_
    refine m_ald d_Mo_inside_85 (m * 5 + j) (by decide) (by exact rfl) (by exact hix) ?_
    refine m_goto (tgt := 111) d_Mo_inside_86 (by decide) ?_
    exact m_iret d_Mo_inside_111 rfl rfl ⟨rfl, rfl, rfl⟩
  · refine m_if_ne (tgt := 74) d_Mo_inside_61 (by decide) (fun _ => ?_) (fun c => absurd c (by decide))
    refine m_iload_n d_Mo_inside_74 rfl ?_
    refine m_iconst (v := 1) d_Mo_inside_75 (by decide) ?_
    refine m_icmp_ne (tgt := 89) d_Mo_inside_76 (by decide) (fun _ => ?_) (fun c => absurd c (by decide))
    refine m_iload_n d_Mo_inside_89 rfl ?_
    refine m_iconst (v := 2) d_Mo_inside_90 (by decide) ?_
    refine m_icmp_ne (tgt := 104) d_Mo_inside_91 (by decide) (fun c => absurd (rfl) c) (fun _ => ?_)
    refine m_aload_n d_Mo_inside_94 rfl (by first | rfl | exact vIsR_rf _) ?_
    refine m_get d_Mo_inside_95 14 (by decide) kf_Mo_53 rfl ?_
    refine m_iload d_Mo_inside_98 rfl ?_
    refine m_ald d_Mo_inside_100 (m * 5 + j) (by decide) (by exact rfl) (by exact hix) ?_
    refine m_goto (tgt := 111) d_Mo_inside_101 (by decide) ?_
    exact m_iret d_Mo_inside_111 rfl rfl ⟨rfl, rfl, rfl⟩
  · refine m_if_ne (tgt := 74) d_Mo_inside_61 (by decide) (fun _ => ?_) (fun c => absurd c (by decide))
    refine m_iload_n d_Mo_inside_74 rfl ?_
    refine m_iconst (v := 1) d_Mo_inside_75 (by decide) ?_
    refine m_icmp_ne (tgt := 89) d_Mo_inside_76 (by decide) (fun _ => ?_) (fun c => absurd c (by decide))
    refine m_iload_n d_Mo_inside_89 rfl ?_
    refine m_iconst (v := 2) d_Mo_inside_90 (by decide) ?_
    refine m_icmp_ne (tgt := 104) d_Mo_inside_91 (by decide) (fun _ => ?_) (fun c => absurd c (by decide))
    refine m_aload_n d_Mo_inside_104 rfl (by first | rfl | exact vIsR_rf _) ?_
    refine m_get d_Mo_inside_105 15 (by decide) kf_Mo_56 rfl ?_
    refine m_iload d_Mo_inside_108 rfl ?_
    refine m_ald d_Mo_inside_110 (m * 5 + j) (by decide) (by exact rfl) (by exact hix) ?_
    exact m_iret d_Mo_inside_111 rfl rfl ⟨rfl, rfl, rfl⟩
def trB (Y : Nat → Int32) (o n r : Int32) : Bool := inB o 0 (Y 16 - 1) && inB n 0 26 && inB r 0 2
theorem m_trace_go {o n r : Int32} {Q : vR → (Nat → Nat → Int32) → (Nat → Int32) → Prop} (k : VM G M_Mo_trace 2 60 36 [(0, .ref am), (1, .int o), (2, .int n), (3, .int r)] [.int (bI (!trB Y o n r))] am ad X (va_up Y 19 (bI (!trB Y o n r))) Q) : VM G M_Mo_trace 2 60 0 [(0, .ref am), (1, .int o), (2, .int n), (3, .int r)] [] am ad X Y Q := by
  have t : VM G M_Mo_trace 2 60 33 [(0, .ref am), (1, .int o), (2, .int n), (3, .int r)] [.int (bI (trB Y o n r)), .ref am] am ad X Y Q := by
    refine m_callV1r (M1 := M_Mo_bad) d_Mo_trace_33 km_Mo_110 kI_Mo_bad ks_Mo_Mo_bad (by decide) (by first | rfl | exact vRf_cat _) (by decide) kM_Mo_bad ki_Mo (by decide) (by decide +kernel) c_Mo_bad ?_
    exact k
  have tf : trB Y o n r = false → VM G M_Mo_trace 2 60 32 [(0, .ref am), (1, .int o), (2, .int n), (3, .int r)] [.ref am] am ad X Y Q := by
    intro hf
    rw [hf] at t
    refine m_iconst (v := 0) d_Mo_trace_32 (by decide) ?_
    exact t
  refine m_aload_n d_Mo_trace_0 rfl (by first | rfl | exact vIsR_rf _) ?_
  refine m_aload_n d_Mo_trace_1 rfl (by first | rfl | exact vIsR_rf _) ?_
  refine m_iload_n d_Mo_trace_2 rfl ?_
  refine m_callV1r (M1 := M_Mo_isClass) d_Mo_trace_3 km_Mo_106 kI_Mo_isClass ks_Mo_Mo_isClass (by decide) (by first | rfl | exact vRf_cat _) (by decide) kM_Mo_isClass ki_Mo (by decide) (by decide +kernel) c_Mo_isClass ?_
  refine m_if_eq (tgt := 32) d_Mo_trace_6 (by decide) (fun c_6 => ?_) (fun c_6 => ?_)
  · exact tf (by simp [trB, (bI_0 _).mp c_6])
  · refine m_iload_n d_Mo_trace_9 rfl ?_
    refine m_iconst (v := 0) d_Mo_trace_10 (by decide) ?_
    refine m_bipush (v := 26) d_Mo_trace_11 (by decide) ?_
    refine m_callS3r (M1 := M_Mo_in) d_Mo_trace_13 km_Mo_99 kS_Mo_in (by decide) (by first | rfl | exact vRf_cat _) (by first | rfl | exact vRf_cat _) (by first | rfl | exact vRf_cat _) (by decide) kM_Mo_in ki_Mo (by decide) (by decide +kernel) c_Mo_in ?_
    refine m_if_eq (tgt := 32) d_Mo_trace_16 (by decide) (fun c_16 => ?_) (fun c_16 => ?_)
    · exact tf (by simp [trB, show inB n 0 26 = false from (bI_0 _).mp c_16])
    · refine m_iload_n d_Mo_trace_19 rfl ?_
      refine m_iconst (v := 0) d_Mo_trace_20 (by decide) ?_
      refine m_iconst (v := 2) d_Mo_trace_21 (by decide) ?_
      refine m_callS3r (M1 := M_Mo_in) d_Mo_trace_22 km_Mo_99 kS_Mo_in (by decide) (by first | rfl | exact vRf_cat _) (by first | rfl | exact vRf_cat _) (by first | rfl | exact vRf_cat _) (by decide) kM_Mo_in ki_Mo (by decide) (by decide +kernel) c_Mo_in ?_
      refine m_if_eq (tgt := 32) d_Mo_trace_25 (by decide) (fun c_25 => ?_) (fun c_25 => ?_)
      · exact tf (by simp [trB, show inB r 0 2 = false from (bI_0 _).mp c_25])
      · rw [show trB Y o n r = true by simp [trB, nbI c_6, show inB n 0 26 = true from nbI c_16, show inB r 0 2 = true from nbI c_25]] at t
        refine m_iconst (v := 1) d_Mo_trace_28 (by decide) ?_
        refine m_goto (tgt := 33) d_Mo_trace_29 (by decide) ?_
        exact t
theorem c_Mo_trace_bad {o n r : Int32} (hb : trB Y o n r = false) : VM G M_Mo_trace 2 60 0 [(0, .ref am), (1, .int o), (2, .int n), (3, .int r)] [] am ad X Y (mRet (some (.int 0)) X (va_up Y 19 1)) := by
  refine m_trace_go ?_
  rw [hb]
  refine m_if_eq (tgt := 41) d_Mo_trace_36 (by decide) (fun c => absurd c (by decide)) (fun _ => ?_)
  refine m_iconst (v := 0) d_Mo_trace_39 (by decide) ?_
  exact m_iret d_Mo_trace_40 rfl rfl ⟨rfl, rfl, rfl⟩
theorem c_Mo_trace_none {o n r : Int32} {nm : Nat} (hb : trB Y o n r = true) (hy : Y 17 = nI nm) (hm : nm ≤ 24) (hf : ownS X nm o n r = none) : VM G M_Mo_trace 2 60 0 [(0, .ref am), (1, .int o), (2, .int n), (3, .int r)] [] am ad X Y (mRet (some (.int 0)) X (va_up (va_up Y 19 0) 19 2)) := by
  have h17 : va_up Y 19 (bI (!true)) 17 = nI nm := hy
  refine m_trace_go ?_
  rw [hb]
  refine m_if_eq (tgt := 41) d_Mo_trace_36 (by decide) (fun _ => ?_) (fun c => absurd (rfl) c)
  refine m_aload_n d_Mo_trace_41 rfl (by first | rfl | exact vIsR_rf _) ?_
  refine m_iload_n d_Mo_trace_42 rfl ?_
  refine m_iload_n d_Mo_trace_43 rfl ?_
  refine m_iload_n d_Mo_trace_44 rfl ?_
  refine m_callV3r (M1 := M_Mo_own) d_Mo_trace_45 km_Mo_118 kI_Mo_own ks_Mo_Mo_own (by decide) (by first | rfl | exact vRf_cat _) (by first | rfl | exact vRf_cat _) (by first | rfl | exact vRf_cat _) (by decide) kM_Mo_own ki_Mo (by decide) (by decide +kernel) (c_Mo_own h17 hm) ?_
  rw [hf]
  refine m_istore d_Mo_trace_48 (by decide) rfl ?_
  refine m_iload d_Mo_trace_50 rfl ?_
  refine m_if_ge (tgt := 63) d_Mo_trace_52 (by decide) (fun c => absurd c (by decide)) (fun _ => ?_)
  refine m_aload_n d_Mo_trace_55 rfl (by first | rfl | exact vIsR_rf _) ?_
  refine m_iconst (v := 2) d_Mo_trace_56 (by decide) ?_
  refine m_callV1r (M1 := M_Mo_fail) d_Mo_trace_57 km_Mo_114 kI_Mo_fail ks_Mo_Mo_fail (by decide) (by first | rfl | exact vRf_cat _) (by decide) kM_Mo_fail ki_Mo (by decide) (by decide +kernel) c_Mo_fail ?_
  refine m_goto (tgt := 70) d_Mo_trace_60 (by decide) ?_
  exact m_iret d_Mo_trace_70 rfl rfl ⟨rfl, rfl, rfl⟩
theorem c_Mo_trace_ok {o n r : Int32} {nm m : Nat} (hb : trB Y o n r = true) (hy : Y 17 = nI nm) (hm : nm ≤ 24) (hf : ownS X nm o n r = some m) : VM G M_Mo_trace 2 60 0 [(0, .ref am), (1, .int o), (2, .int n), (3, .int r)] [] am ad X Y (mRet (some (.int (X 6 m))) X (va_up Y 19 0)) := by
  have h17 : va_up Y 19 (bI (!true)) 17 = nI nm := hy
  have hml := fst_some hf
  refine m_trace_go ?_
  rw [hb]
  refine m_if_eq (tgt := 41) d_Mo_trace_36 (by decide) (fun _ => ?_) (fun c => absurd (rfl) c)
  refine m_aload_n d_Mo_trace_41 rfl (by first | rfl | exact vIsR_rf _) ?_
  refine m_iload_n d_Mo_trace_42 rfl ?_
  refine m_iload_n d_Mo_trace_43 rfl ?_
  refine m_iload_n d_Mo_trace_44 rfl ?_
  refine m_callV3r (M1 := M_Mo_own) d_Mo_trace_45 km_Mo_118 kI_Mo_own ks_Mo_Mo_own (by decide) (by first | rfl | exact vRf_cat _) (by first | rfl | exact vRf_cat _) (by first | rfl | exact vRf_cat _) (by decide) kM_Mo_own ki_Mo (by decide) (by decide +kernel) (c_Mo_own h17 hm) ?_
  rw [hf]
  refine m_istore d_Mo_trace_48 (by decide) rfl ?_
  refine m_iload d_Mo_trace_50 rfl ?_
  refine m_if_ge (tgt := 63) d_Mo_trace_52 (by decide) (fun _ => ?_) (fun c => absurd (nI_pos' (by omega)) c)
  refine m_aload_n d_Mo_trace_63 rfl (by first | rfl | exact vIsR_rf _) ?_
  refine m_get d_Mo_trace_64 6 (by decide) kf_Mo_28 rfl ?_
  refine m_iload d_Mo_trace_67 rfl ?_
  refine m_ald d_Mo_trace_69 m (by decide) (by exact rfl) (by exact (show m < 24 by omega)) ?_
  exact m_iret d_Mo_trace_70 rfl rfl ⟨rfl, rfl, rfl⟩
end VM4
end
section
/-! What is live and made: the passes as pure functions, and the reference's methods that make them. -/
section VLv
abbrev tT : Type := (Nat → Bool) × (Nat → Bool) × Bool
def lvF (o : Option Nat) (t : tT) : tT := match o with
  | none => t
  | some m => (t.1, va_up t.2.1 m true, t.2.2 || !t.2.1 m)
def mkF (c : Nat) (t : tT) : tT := (va_up t.1 c true, t.2.1, t.2.2 || !t.1 c)
def selfF (fd : Nat → Option Nat) (ab : Nat → Bool) : Nat → Nat → tT → tT
  | 0, _, t => t
  | n + 1, k, t => selfF fd ab n (k + 1) (if t.1 k && ab k then lvF (fd k) t else t)
/-- numbers of the state as numbers -/
def oN (X : Nat → Nat → Int32) (m : Nat) : Nat := (X 2 m).toNatClampNeg
def iN (X : Nat → Nat → Int32) (m : Nat) : Nat := (X 5 m).toNatClampNeg
def cN (X : Nat → Nat → Int32) (i : Nat) : Nat := (X 13 i).toNatClampNeg
def kN (X : Nat → Nat → Int32) (m : Nat) : Bool := decide (X 9 m ≠ 0)
/-- what finding gives for an item, from a class -/
def fdS (X : Nat → Nat → Int32) (nm i k : Nat) : Option Nat := findS X nm (X 14 i) (X 15 i) 9 k
def itemF (X : Nat → Nat → Int32) (nc nm m i : Nat) (t : tT) : tT :=
  if X 12 i = 1 then lvF (fdS X nm i (cN X i)) (mkF (cN X i) t)
  else if X 12 i = 2 then selfF (fdS X nm i) (fun k => aboveS X (oN X m) 9 k) nc 0 t else t
def itemsF (X : Nat → Nat → Int32) (nc nm m : Nat) : Nat → Nat → tT → tT
  | 0, _, t => t
  | n + 1, j, t => itemsF X nc nm m n (j + 1) (itemF X nc nm m (m * 5 + j) t)
def passF (X : Nat → Nat → Int32) (nc nm : Nat) : Nat → Nat → tT → tT
  | 0, _, t => t
  | n + 1, m, t => passF X nc nm n (m + 1) (if t.2.1 m then itemsF X nc nm m (iN X m) 0 t else t)
def fixF (X : Nat → Nat → Int32) (nc nm : Nat) : Nat → tT → tT
  | 0, t => t
  | f + 1, t => if (passF X nc nm nm 0 (t.1, t.2.1, false)).2.2 then fixF X nc nm f (passF X nc nm nm 0 (t.1, t.2.1, false)) else passF X nc nm nm 0 (t.1, t.2.1, false)
def mkI (X : Nat → Nat → Int32) : Nat → Nat → (Nat → Bool) → (Nat → Bool)
  | 0, _, w => w
  | n + 1, m, w => mkI X n (m + 1) (if kN X m then va_up w (oN X m) true else w)
/-- where the passes begin: what is kept, and its classes -/
def iniF (X : Nat → Nat → Int32) (nm : Nat) : tT := (mkI X nm 0 (fun _ => false), kN X, true)
def liveF (X : Nat → Nat → Int32) (nc nm : Nat) : tT := fixF X nc nm 33 (iniF X nm)
/-- the state is well made -/
def wW (X : Nat → Nat → Int32) (nc nm : Nat) : Prop := wP X nc ∧ nm ≤ 24 ∧ (∀ m, m < nm → oN X m < nc ∧ X 2 m = nI (oN X m)) ∧ (∀ m, m < nm → iN X m ≤ 5 ∧ X 5 m = nI (iN X m)) ∧ (∀ m, m < nm → X 9 m = bI (kN X m)) ∧ ∀ m, m < nm → ∀ j, j < iN X m → X 12 (m * 5 + j) = 1 → cN X (m * 5 + j) < nc ∧ X 13 (m * 5 + j) = nI (cN X (m * 5 + j))
theorem ownS_lt {X : Nat → Nat → Int32} {nm m : Nat} {k n r : Int32} (h : ownS X nm k n r = some m) : m < nm := by
  have := fst_some h
  omega
theorem findS_lt {X : Nat → Nat → Int32} {nm : Nat} {n r : Int32} : ∀ {f c m : Nat}, findS X nm n r f c = some m → m < nm
  | 0, _, _, h => by cases h
  | f + 1, c, m, h => by
    unfold findS at h
    cases ho : ownS X nm (nI c) n r with
    | some m' => rw [ho] at h; cases h; exact ownS_lt ho
    | none =>
      rw [ho] at h
      cases hp : pS X c with
      | none => rw [hp] at h; cases h
      | some d => rw [hp] at h; exact findS_lt h
/-- one triple grows out of another: nothing is lost, and a flag that came tells of something new -/
def tLe (nc nm : Nat) (t t' : tT) : Prop := (∀ c, t.1 c = true → t'.1 c = true) ∧ (∀ m, t.2.1 m = true → t'.2.1 m = true) ∧ (t.2.2 = true → t'.2.2 = true) ∧ (t'.2.2 = true → t.2.2 = true ∨ (∃ c, c < nc ∧ t.1 c = false ∧ t'.1 c = true) ∨ ∃ m, m < nm ∧ t.2.1 m = false ∧ t'.2.1 m = true)
theorem tLe.rf {nc nm : Nat} {t : tT} : tLe nc nm t t := ⟨fun _ h => h, fun _ h => h, fun h => h, fun h => Or.inl h⟩
theorem tLe.tr {nc nm : Nat} {t u v : tT} (h1 : tLe nc nm t u) (h2 : tLe nc nm u v) : tLe nc nm t v := by
  refine ⟨fun c h => h2.1 c (h1.1 c h), fun m h => h2.2.1 m (h1.2.1 m h), fun h => h2.2.2.1 (h1.2.2.1 h), fun h => ?_⟩
  rcases h2.2.2.2 h with a | ⟨c, a1, a2, a3⟩ | ⟨m, a1, a2, a3⟩
  · rcases h1.2.2.2 a with b | ⟨c, b1, b2, b3⟩ | ⟨m, b1, b2, b3⟩
    · exact Or.inl b
    · exact Or.inr (Or.inl ⟨c, b1, b2, h2.1 c b3⟩)
    · exact Or.inr (Or.inr ⟨m, b1, b2, h2.2.1 m b3⟩)
  · refine Or.inr (Or.inl ⟨c, a1, ?_, a3⟩)
    cases hc : t.1 c with
    | false => rfl
    | true => rw [h1.1 c hc] at a2; cases a2
  · refine Or.inr (Or.inr ⟨m, a1, ?_, a3⟩)
    cases hc : t.2.1 m with
    | false => rfl
    | true => rw [h1.2.1 m hc] at a2; cases a2
theorem va_up_true {f : Nat → Bool} {k j : Nat} (h : f j = true) : va_up f k true j = true := by
  by_cases hj : j = k
  · rw [hj, va_up_self]
  · rw [va_up_ne _ _ hj]; exact h
theorem lvF_le {nc nm : Nat} {o : Option Nat} {t : tT} (h : ∀ m, o = some m → m < nm) : tLe nc nm t (lvF o t) := by
  cases o with
  | none => exact tLe.rf
  | some m =>
    refine ⟨fun c h => h, fun j h => va_up_true h, fun h => by simp [lvF, h], fun hf => ?_⟩
    simp only [lvF, Bool.or_eq_true, Bool.not_eq_true'] at hf
    rcases hf with hf | hf
    · exact Or.inl hf
    · exact Or.inr (Or.inr ⟨m, h m rfl, hf, va_up_self _ _ _⟩)
theorem mkF_le {nc nm c : Nat} {t : tT} (h : c < nc) : tLe nc nm t (mkF c t) := by
  refine ⟨fun j h => va_up_true h, fun j h => h, fun h => by simp [mkF, h], fun hf => ?_⟩
  simp only [mkF, Bool.or_eq_true, Bool.not_eq_true'] at hf
  rcases hf with hf | hf
  · exact Or.inl hf
  · exact Or.inr (Or.inl ⟨c, h, hf, va_up_self _ _ _⟩)
theorem selfF_le {nc nm : Nat} {fd : Nat → Option Nat} {ab : Nat → Bool} (h : ∀ k m, fd k = some m → m < nm) : ∀ (n k : Nat) (t : tT), tLe nc nm t (selfF fd ab n k t)
  | 0, _, _ => tLe.rf
  | n + 1, k, t => by
    unfold selfF
    refine tLe.tr ?_ (selfF_le h n (k + 1) _)
    by_cases hc : (t.1 k && ab k) = true
    · rw [if_pos hc]; exact lvF_le (h k)
    · rw [if_neg hc]; exact tLe.rf
theorem itemF_le {X : Nat → Nat → Int32} {nc nm m i : Nat} {t : tT} (h : X 12 i = 1 → cN X i < nc) : tLe nc nm t (itemF X nc nm m i t) := by
  unfold itemF
  by_cases h1 : X 12 i = 1
  · rw [if_pos h1]; exact tLe.tr (mkF_le (h h1)) (lvF_le (fun m hm => findS_lt hm))
  · rw [if_neg h1]
    by_cases h2 : X 12 i = 2
    · rw [if_pos h2]; exact selfF_le (fun k m hm => findS_lt hm) _ _ _
    · rw [if_neg h2]; exact tLe.rf
theorem itemsF_le {X : Nat → Nat → Int32} {nc nm m : Nat} : ∀ (n j : Nat) (t : tT), (∀ i, j ≤ i → i < j + n → X 12 (m * 5 + i) = 1 → cN X (m * 5 + i) < nc) → tLe nc nm t (itemsF X nc nm m n j t)
  | 0, _, _, _ => tLe.rf
  | n + 1, j, t, h => by
    unfold itemsF
    exact tLe.tr (itemF_le (h j (Nat.le_refl _) (by omega))) (itemsF_le n (j + 1) _ (fun i h1 h2 => h i (by omega) (by omega)))
theorem passF_le {X : Nat → Nat → Int32} {nc nm : Nat} (hw : wW X nc nm) : ∀ (n m : Nat) (t : tT), m + n ≤ nm → tLe nc nm t (passF X nc nm n m t)
  | 0, _, _, _ => tLe.rf
  | n + 1, m, t, hm => by
    unfold passF
    refine tLe.tr ?_ (passF_le hw n (m + 1) _ (by omega))
    by_cases hc : t.2.1 m = true
    · rw [if_pos hc]; exact itemsF_le _ _ _ (fun i _ h2 h3 => (hw.2.2.2.2.2 m (by omega) i (by omega) h3).1)
    · rw [if_neg hc]; exact tLe.rf
/-- how many are made and live -/
def cntB (f : Nat → Bool) : Nat → Nat
  | 0 => 0
  | n + 1 => cntB f n + (if f n then 1 else 0)
theorem cntB_le (f : Nat → Bool) : ∀ n, cntB f n ≤ n
  | 0 => Nat.le_refl _
  | n + 1 => by
    have := cntB_le f n
    unfold cntB
    split <;> omega
theorem cntB_mono {f g : Nat → Bool} (h : ∀ i, f i = true → g i = true) : ∀ n, cntB f n ≤ cntB g n
  | 0 => Nat.le_refl _
  | n + 1 => by
    have := cntB_mono h n
    unfold cntB
    by_cases hf : f n = true
    · rw [if_pos hf, if_pos (h n hf)]; omega
    · rw [if_neg hf]; split <;> omega
theorem cntB_lt {f g : Nat → Bool} (h : ∀ i, f i = true → g i = true) : ∀ {n i : Nat}, i < n → f i = false → g i = true → cntB f n < cntB g n
  | 0, _, hi, _, _ => by omega
  | n + 1, i, hi, h1, h2 => by
    unfold cntB
    by_cases hin : i = n
    · subst hin
      have := cntB_mono h i
      rw [if_neg (by rw [h1]; decide), if_pos h2]; omega
    · have := cntB_lt h (show i < n by omega) h1 h2
      by_cases hf : f n = true
      · rw [if_pos hf, if_pos (h n hf)]; omega
      · rw [if_neg hf]; split <;> omega
def cntT (nc nm : Nat) (t : tT) : Nat := cntB t.1 nc + cntB t.2.1 nm
theorem cntT_le {nc nm : Nat} {t : tT} : cntT nc nm t ≤ nc + nm := by
  have h1 := cntB_le t.1 nc
  have h2 := cntB_le t.2.1 nm
  unfold cntT
  omega
theorem pass_cnt {X : Nat → Nat → Int32} {nc nm : Nat} (hw : wW X nc nm) {t : tT} (h : (passF X nc nm nm 0 (t.1, t.2.1, false)).2.2 = true) : cntT nc nm t < cntT nc nm (passF X nc nm nm 0 (t.1, t.2.1, false)) := by
  have hl := passF_le hw nm 0 (t.1, t.2.1, false) (by omega)
  have m1 := cntB_mono hl.1 nc
  have m2 := cntB_mono hl.2.1 nm
  unfold cntT
  rcases hl.2.2.2 h with a | ⟨c, a1, a2, a3⟩ | ⟨m, a1, a2, a3⟩
  · cases a
  · have := cntB_lt hl.1 a1 a2 a3
    show cntB t.1 nc + _ < _
    have m2' : cntB t.2.1 nm ≤ cntB (passF X nc nm nm 0 (t.1, t.2.1, false)).2.1 nm := m2
    have : cntB t.1 nc < cntB (passF X nc nm nm 0 (t.1, t.2.1, false)).1 nc := this
    omega
  · have := cntB_lt hl.2.1 a1 a2 a3
    have m1' : cntB t.1 nc ≤ cntB (passF X nc nm nm 0 (t.1, t.2.1, false)).1 nc := m1
    have : cntB t.2.1 nm < cntB (passF X nc nm nm 0 (t.1, t.2.1, false)).2.1 nm := this
    omega
/-- the flag is only gathered: what comes of a triple does not hang on it -/
theorem lvF_fl {o : Option Nat} {t : tT} : lvF o t = ((lvF o (t.1, t.2.1, false)).1, (lvF o (t.1, t.2.1, false)).2.1, t.2.2 || (lvF o (t.1, t.2.1, false)).2.2) := by
  cases o <;> simp [lvF]
theorem selfF_fl {fd : Nat → Option Nat} {ab : Nat → Bool} : ∀ (n k : Nat) (t : tT), selfF fd ab n k t = ((selfF fd ab n k (t.1, t.2.1, false)).1, (selfF fd ab n k (t.1, t.2.1, false)).2.1, t.2.2 || (selfF fd ab n k (t.1, t.2.1, false)).2.2)
  | 0, _, t => by simp [selfF]
  | n + 1, k, t => by
    unfold selfF
    by_cases hc : (t.1 k && ab k) = true
    · rw [if_pos hc, if_pos (show (((t.1, t.2.1, false) : tT).1 k && ab k) = true from hc)]
      rw [lvF_fl (t := t)]
      rw [selfF_fl n (k + 1) ((lvF (fd k) (t.1, t.2.1, false)).1, (lvF (fd k) (t.1, t.2.1, false)).2.1, t.2.2 || (lvF (fd k) (t.1, t.2.1, false)).2.2)]
      rw [selfF_fl n (k + 1) (lvF (fd k) (t.1, t.2.1, false))]
      simp [Bool.or_assoc]
    · rw [if_neg hc, if_neg (show ¬ (((t.1, t.2.1, false) : tT).1 k && ab k) = true from hc)]
      exact selfF_fl n (k + 1) t
theorem itemF_fl {X : Nat → Nat → Int32} {nc nm m i : Nat} {t : tT} : itemF X nc nm m i t = ((itemF X nc nm m i (t.1, t.2.1, false)).1, (itemF X nc nm m i (t.1, t.2.1, false)).2.1, t.2.2 || (itemF X nc nm m i (t.1, t.2.1, false)).2.2) := by
  unfold itemF
  by_cases h1 : X 12 i = 1
  · rw [if_pos h1, if_pos h1, lvF_fl, lvF_fl (t := mkF (cN X i) (t.1, t.2.1, false))]
    simp [mkF, Bool.or_assoc]
  · rw [if_neg h1, if_neg h1]
    by_cases h2 : X 12 i = 2
    · rw [if_pos h2, if_pos h2]; exact selfF_fl _ _ _
    · rw [if_neg h2, if_neg h2]; simp
end VLv
end
