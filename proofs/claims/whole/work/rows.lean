section
-- ===== PART A: goes FIRST, ahead of the names: the tables' words, and 'selects' of the private methods out of them =====
/-- a private method of a class that the tables say can be made, by its rows of tables_1 -/
def lw_okq (q : MethodName × Nat) : Prop := (q.1.cls ≠ "java/lang/invoke/MethodHandle" ∧ q.1.cls ≠ "java/lang/invoke/VarHandle") ∧ Cond.instantiable q.1.cls q.2 ∈ tables_1 ∧ Cond.privateMethod q.1 ∈ tables_1 ∧ Cond.instanceMethod q.1 ∈ tables_1
theorem lw_p0 : lw_okq (⟨"CodeShrinker$Reach", "clearMarks", "()V"⟩, 2) := ⟨⟨by decide +kernel, by decide +kernel⟩, List.mem_of_getElem? (i := 92) (by decide +kernel), List.mem_of_getElem? (i := 167) (by decide +kernel), List.mem_of_getElem? (i := 168) (by decide +kernel)⟩
theorem lw_p1 : lw_okq (⟨"CodeShrinker$Reach", "markKept", "()V"⟩, 2) := ⟨⟨by decide +kernel, by decide +kernel⟩, List.mem_of_getElem? (i := 92) (by decide +kernel), List.mem_of_getElem? (i := 188) (by decide +kernel), List.mem_of_getElem? (i := 189) (by decide +kernel)⟩
theorem lw_p2 : lw_okq (⟨"CodeShrinker$Reach", "markLive", "(LCodeShrinker$ProgramMethod;)V"⟩, 2) := ⟨⟨by decide +kernel, by decide +kernel⟩, List.mem_of_getElem? (i := 92) (by decide +kernel), List.mem_of_getElem? (i := 192) (by decide +kernel), List.mem_of_getElem? (i := 193) (by decide +kernel)⟩
theorem lw_p3 : lw_okq (⟨"CodeShrinker$Reach", "markMade", "(LCodeShrinker$ProgramClass;)V"⟩, 2) := ⟨⟨by decide +kernel, by decide +kernel⟩, List.mem_of_getElem? (i := 92) (by decide +kernel), List.mem_of_getElem? (i := 196) (by decide +kernel), List.mem_of_getElem? (i := 197) (by decide +kernel)⟩
theorem lw_p4 : lw_okq (⟨"CodeShrinker$Reach", "spreadFromLive", "()V"⟩, 2) := ⟨⟨by decide +kernel, by decide +kernel⟩, List.mem_of_getElem? (i := 92) (by decide +kernel), List.mem_of_getElem? (i := 200) (by decide +kernel), List.mem_of_getElem? (i := 201) (by decide +kernel)⟩
theorem lw_p5 : lw_okq (⟨"CodeShrinker$Reach", "spread", "(LCodeShrinker$ProgramMethod;)V"⟩, 2) := ⟨⟨by decide +kernel, by decide +kernel⟩, List.mem_of_getElem? (i := 92) (by decide +kernel), List.mem_of_getElem? (i := 204) (by decide +kernel), List.mem_of_getElem? (i := 205) (by decide +kernel)⟩
theorem lw_p6 : lw_okq (⟨"CodeShrinker$Reach", "spreadSelf", "(LCodeShrinker$ProgramClass;LCodeShrinker$Item;)V"⟩, 2) := ⟨⟨by decide +kernel, by decide +kernel⟩, List.mem_of_getElem? (i := 92) (by decide +kernel), List.mem_of_getElem? (i := 220) (by decide +kernel), List.mem_of_getElem? (i := 221) (by decide +kernel)⟩
theorem lw_p7 : lw_okq (⟨"java/util/ArrayList", "fastRemove", "([Ljava/lang/Object;I)V"⟩, 3) := ⟨⟨by decide +kernel, by decide +kernel⟩, List.mem_of_getElem? (i := 40) (by decide +kernel), List.mem_of_getElem? (i := 242) (by decide +kernel), List.mem_of_getElem? (i := 243) (by decide +kernel)⟩
theorem lw_p8 : lw_okq (⟨"CodeShrinker$Program", "isMadeOrAboveMade", "(LCodeShrinker$ProgramClass;)Z"⟩, 2) := ⟨⟨by decide +kernel, by decide +kernel⟩, List.mem_of_getElem? (i := 34) (by decide +kernel), List.mem_of_getElem? (i := 250) (by decide +kernel), List.mem_of_getElem? (i := 251) (by decide +kernel)⟩
theorem lw_p9 : lw_okq (⟨"CodeShrinker$Families", "seeRelatives", "()V"⟩, 8) := ⟨⟨by decide +kernel, by decide +kernel⟩, List.mem_of_getElem? (i := 105) (by decide +kernel), List.mem_of_getElem? (i := 263) (by decide +kernel), List.mem_of_getElem? (i := 264) (by decide +kernel)⟩
theorem lw_p10 : lw_okq (⟨"CodeShrinker$Families", "familyOf", "(LCodeShrinker$ProgramClass;II)I"⟩, 8) := ⟨⟨by decide +kernel, by decide +kernel⟩, List.mem_of_getElem? (i := 105) (by decide +kernel), List.mem_of_getElem? (i := 279) (by decide +kernel), List.mem_of_getElem? (i := 280) (by decide +kernel)⟩
theorem lw_p11 : lw_okq (⟨"CodeShrinker$Families", "open", "(LCodeShrinker$ProgramMethod;)I"⟩, 8) := ⟨⟨by decide +kernel, by decide +kernel⟩, List.mem_of_getElem? (i := 105) (by decide +kernel), List.mem_of_getElem? (i := 286) (by decide +kernel), List.mem_of_getElem? (i := 287) (by decide +kernel)⟩
theorem lw_p12 : lw_okq (⟨"CodeShrinker$Families", "bearers", "(II)I"⟩, 8) := ⟨⟨by decide +kernel, by decide +kernel⟩, List.mem_of_getElem? (i := 105) (by decide +kernel), List.mem_of_getElem? (i := 290) (by decide +kernel), List.mem_of_getElem? (i := 291) (by decide +kernel)⟩
theorem lw_p13 : lw_okq (⟨"CodeShrinker$Families", "joinedTo", "(II)I"⟩, 8) := ⟨⟨by decide +kernel, by decide +kernel⟩, List.mem_of_getElem? (i := 105) (by decide +kernel), List.mem_of_getElem? (i := 298) (by decide +kernel), List.mem_of_getElem? (i := 299) (by decide +kernel)⟩
theorem lw_p14 : lw_okq (⟨"CodeShrinker$Families", "relatedTo", "(I)I"⟩, 8) := ⟨⟨by decide +kernel, by decide +kernel⟩, List.mem_of_getElem? (i := 105) (by decide +kernel), List.mem_of_getElem? (i := 302) (by decide +kernel), List.mem_of_getElem? (i := 303) (by decide +kernel)⟩
theorem lw_p15 : lw_okq (⟨"CodeShrinker$Families", "leastFreeName", "(I)I"⟩, 8) := ⟨⟨by decide +kernel, by decide +kernel⟩, List.mem_of_getElem? (i := 105) (by decide +kernel), List.mem_of_getElem? (i := 310) (by decide +kernel), List.mem_of_getElem? (i := 311) (by decide +kernel)⟩
def lw_privs_1 : List (MethodName × Nat) := [(⟨"CodeShrinker$Reach", "clearMarks", "()V"⟩, 2), (⟨"CodeShrinker$Reach", "markKept", "()V"⟩, 2), (⟨"CodeShrinker$Reach", "markLive", "(LCodeShrinker$ProgramMethod;)V"⟩, 2), (⟨"CodeShrinker$Reach", "markMade", "(LCodeShrinker$ProgramClass;)V"⟩, 2), (⟨"CodeShrinker$Reach", "spreadFromLive", "()V"⟩, 2), (⟨"CodeShrinker$Reach", "spread", "(LCodeShrinker$ProgramMethod;)V"⟩, 2), (⟨"CodeShrinker$Reach", "spreadSelf", "(LCodeShrinker$ProgramClass;LCodeShrinker$Item;)V"⟩, 2), (⟨"java/util/ArrayList", "fastRemove", "([Ljava/lang/Object;I)V"⟩, 3), (⟨"CodeShrinker$Program", "isMadeOrAboveMade", "(LCodeShrinker$ProgramClass;)Z"⟩, 2), (⟨"CodeShrinker$Families", "seeRelatives", "()V"⟩, 8), (⟨"CodeShrinker$Families", "familyOf", "(LCodeShrinker$ProgramClass;II)I"⟩, 8), (⟨"CodeShrinker$Families", "open", "(LCodeShrinker$ProgramMethod;)I"⟩, 8), (⟨"CodeShrinker$Families", "bearers", "(II)I"⟩, 8), (⟨"CodeShrinker$Families", "joinedTo", "(II)I"⟩, 8), (⟨"CodeShrinker$Families", "relatedTo", "(I)I"⟩, 8), (⟨"CodeShrinker$Families", "leastFreeName", "(I)I"⟩, 8)]
theorem lw_r1 : ∀ q ∈ lw_privs_1, lw_okq q := List.forall_mem_cons.mpr ⟨lw_p0, List.forall_mem_cons.mpr ⟨lw_p1, List.forall_mem_cons.mpr ⟨lw_p2, List.forall_mem_cons.mpr ⟨lw_p3, List.forall_mem_cons.mpr ⟨lw_p4, List.forall_mem_cons.mpr ⟨lw_p5, List.forall_mem_cons.mpr ⟨lw_p6, List.forall_mem_cons.mpr ⟨lw_p7, List.forall_mem_cons.mpr ⟨lw_p8, List.forall_mem_cons.mpr ⟨lw_p9, List.forall_mem_cons.mpr ⟨lw_p10, List.forall_mem_cons.mpr ⟨lw_p11, List.forall_mem_cons.mpr ⟨lw_p12, List.forall_mem_cons.mpr ⟨lw_p13, List.forall_mem_cons.mpr ⟨lw_p14, List.forall_mem_cons.mpr ⟨lw_p15, fun _ h => absurd h List.not_mem_nil⟩⟩⟩⟩⟩⟩⟩⟩⟩⟩⟩⟩⟩⟩⟩⟩
theorem lw_p16 : lw_okq (⟨"CodeShrinker$Families", "writeItems", "(LCodeShrinker$ProgramMethod;)V"⟩, 8) := ⟨⟨by decide +kernel, by decide +kernel⟩, List.mem_of_getElem? (i := 105) (by decide +kernel), List.mem_of_getElem? (i := 318) (by decide +kernel), List.mem_of_getElem? (i := 319) (by decide +kernel)⟩
theorem lw_p17 : lw_okq (⟨"CodeShrinker$Families", "newNameOf", "(LCodeShrinker$ProgramClass;II)I"⟩, 8) := ⟨⟨by decide +kernel, by decide +kernel⟩, List.mem_of_getElem? (i := 105) (by decide +kernel), List.mem_of_getElem? (i := 323) (by decide +kernel), List.mem_of_getElem? (i := 324) (by decide +kernel)⟩
theorem lw_p18 : lw_okq (⟨"CodeShrinker", "parentOf", "(I)I"⟩, 5) := ⟨⟨by decide +kernel, by decide +kernel⟩, List.mem_of_getElem? (i := 26) (by decide +kernel), List.mem_of_getElem? (i := 339) (by decide +kernel), List.mem_of_getElem? (i := 340) (by decide +kernel)⟩
theorem lw_p19 : lw_okq (⟨"CodeShrinker", "isClass", "(I)Z"⟩, 5) := ⟨⟨by decide +kernel, by decide +kernel⟩, List.mem_of_getElem? (i := 26) (by decide +kernel), List.mem_of_getElem? (i := 343) (by decide +kernel), List.mem_of_getElem? (i := 344) (by decide +kernel)⟩
theorem lw_p20 : lw_okq (⟨"java/lang/Throwable", "fillInStackTrace", "(I)Ljava/lang/Throwable;"⟩, 6) := ⟨⟨by decide +kernel, by decide +kernel⟩, List.mem_of_getElem? (i := 399) (by decide +kernel), List.mem_of_getElem? (i := 397) (by decide +kernel), List.mem_of_getElem? (i := 398) (by decide +kernel)⟩
theorem lw_p21 : lw_okq (⟨"java/util/ArrayList", "add", "(Ljava/lang/Object;[Ljava/lang/Object;I)V"⟩, 3) := ⟨⟨by decide +kernel, by decide +kernel⟩, List.mem_of_getElem? (i := 40) (by decide +kernel), List.mem_of_getElem? (i := 482) (by decide +kernel), List.mem_of_getElem? (i := 483) (by decide +kernel)⟩
theorem lw_p22 : lw_okq (⟨"java/util/ArrayList", "grow", "()[Ljava/lang/Object;"⟩, 3) := ⟨⟨by decide +kernel, by decide +kernel⟩, List.mem_of_getElem? (i := 40) (by decide +kernel), List.mem_of_getElem? (i := 486) (by decide +kernel), List.mem_of_getElem? (i := 487) (by decide +kernel)⟩
theorem lw_p23 : lw_okq (⟨"java/util/ArrayList", "grow", "(I)[Ljava/lang/Object;"⟩, 3) := ⟨⟨by decide +kernel, by decide +kernel⟩, List.mem_of_getElem? (i := 40) (by decide +kernel), List.mem_of_getElem? (i := 490) (by decide +kernel), List.mem_of_getElem? (i := 491) (by decide +kernel)⟩
theorem lw_p24 : lw_okq (⟨"CodeShrinker", "isMethod", "(I)Z"⟩, 5) := ⟨⟨by decide +kernel, by decide +kernel⟩, List.mem_of_getElem? (i := 26) (by decide +kernel), List.mem_of_getElem? (i := 609) (by decide +kernel), List.mem_of_getElem? (i := 610) (by decide +kernel)⟩
theorem lw_p25 : lw_okq (⟨"CodeShrinker", "isItem", "(IIII)Z"⟩, 5) := ⟨⟨by decide +kernel, by decide +kernel⟩, List.mem_of_getElem? (i := 26) (by decide +kernel), List.mem_of_getElem? (i := 613) (by decide +kernel), List.mem_of_getElem? (i := 614) (by decide +kernel)⟩
theorem lw_p26 : lw_okq (⟨"CodeShrinker", "newItem", "(IIII)LCodeShrinker$Item;"⟩, 5) := ⟨⟨by decide +kernel, by decide +kernel⟩, List.mem_of_getElem? (i := 26) (by decide +kernel), List.mem_of_getElem? (i := 618) (by decide +kernel), List.mem_of_getElem? (i := 619) (by decide +kernel)⟩
theorem lw_p27 : lw_okq (⟨"CodeShrinker$Runner", "perform", "(LCodeShrinker$ProgramClass;III)V"⟩, 2) := ⟨⟨by decide +kernel, by decide +kernel⟩, List.mem_of_getElem? (i := 79) (by decide +kernel), List.mem_of_getElem? (i := 676) (by decide +kernel), List.mem_of_getElem? (i := 677) (by decide +kernel)⟩
theorem lw_p28 : lw_okq (⟨"CodeShrinker$Runner", "performItem", "(LCodeShrinker$Item;LCodeShrinker$ProgramClass;I)V"⟩, 2) := ⟨⟨by decide +kernel, by decide +kernel⟩, List.mem_of_getElem? (i := 79) (by decide +kernel), List.mem_of_getElem? (i := 703) (by decide +kernel), List.mem_of_getElem? (i := 704) (by decide +kernel)⟩
theorem lw_p29 : lw_okq (⟨"CodeShrinkerModel", "isClass", "(I)Z"⟩, 31) := ⟨⟨by decide +kernel, by decide +kernel⟩, List.mem_of_getElem? (i := 737) (by decide +kernel), List.mem_of_getElem? (i := 845) (by decide +kernel), List.mem_of_getElem? (i := 846) (by decide +kernel)⟩
theorem lw_p30 : lw_okq (⟨"CodeShrinkerModel", "bad", "(Z)Z"⟩, 31) := ⟨⟨by decide +kernel, by decide +kernel⟩, List.mem_of_getElem? (i := 737) (by decide +kernel), List.mem_of_getElem? (i := 852) (by decide +kernel), List.mem_of_getElem? (i := 853) (by decide +kernel)⟩
theorem lw_p31 : lw_okq (⟨"CodeShrinkerModel", "fail", "(I)I"⟩, 31) := ⟨⟨by decide +kernel, by decide +kernel⟩, List.mem_of_getElem? (i := 737) (by decide +kernel), List.mem_of_getElem? (i := 856) (by decide +kernel), List.mem_of_getElem? (i := 857) (by decide +kernel)⟩
def lw_privs_2 : List (MethodName × Nat) := [(⟨"CodeShrinker$Families", "writeItems", "(LCodeShrinker$ProgramMethod;)V"⟩, 8), (⟨"CodeShrinker$Families", "newNameOf", "(LCodeShrinker$ProgramClass;II)I"⟩, 8), (⟨"CodeShrinker", "parentOf", "(I)I"⟩, 5), (⟨"CodeShrinker", "isClass", "(I)Z"⟩, 5), (⟨"java/lang/Throwable", "fillInStackTrace", "(I)Ljava/lang/Throwable;"⟩, 6), (⟨"java/util/ArrayList", "add", "(Ljava/lang/Object;[Ljava/lang/Object;I)V"⟩, 3), (⟨"java/util/ArrayList", "grow", "()[Ljava/lang/Object;"⟩, 3), (⟨"java/util/ArrayList", "grow", "(I)[Ljava/lang/Object;"⟩, 3), (⟨"CodeShrinker", "isMethod", "(I)Z"⟩, 5), (⟨"CodeShrinker", "isItem", "(IIII)Z"⟩, 5), (⟨"CodeShrinker", "newItem", "(IIII)LCodeShrinker$Item;"⟩, 5), (⟨"CodeShrinker$Runner", "perform", "(LCodeShrinker$ProgramClass;III)V"⟩, 2), (⟨"CodeShrinker$Runner", "performItem", "(LCodeShrinker$Item;LCodeShrinker$ProgramClass;I)V"⟩, 2), (⟨"CodeShrinkerModel", "isClass", "(I)Z"⟩, 31), (⟨"CodeShrinkerModel", "bad", "(Z)Z"⟩, 31), (⟨"CodeShrinkerModel", "fail", "(I)I"⟩, 31)]
theorem lw_r2 : ∀ q ∈ lw_privs_2, lw_okq q := List.forall_mem_cons.mpr ⟨lw_p16, List.forall_mem_cons.mpr ⟨lw_p17, List.forall_mem_cons.mpr ⟨lw_p18, List.forall_mem_cons.mpr ⟨lw_p19, List.forall_mem_cons.mpr ⟨lw_p20, List.forall_mem_cons.mpr ⟨lw_p21, List.forall_mem_cons.mpr ⟨lw_p22, List.forall_mem_cons.mpr ⟨lw_p23, List.forall_mem_cons.mpr ⟨lw_p24, List.forall_mem_cons.mpr ⟨lw_p25, List.forall_mem_cons.mpr ⟨lw_p26, List.forall_mem_cons.mpr ⟨lw_p27, List.forall_mem_cons.mpr ⟨lw_p28, List.forall_mem_cons.mpr ⟨lw_p29, List.forall_mem_cons.mpr ⟨lw_p30, List.forall_mem_cons.mpr ⟨lw_p31, fun _ h => absurd h List.not_mem_nil⟩⟩⟩⟩⟩⟩⟩⟩⟩⟩⟩⟩⟩⟩⟩⟩
theorem lw_p32 : lw_okq (⟨"CodeShrinkerModel", "own", "(III)I"⟩, 31) := ⟨⟨by decide +kernel, by decide +kernel⟩, List.mem_of_getElem? (i := 737) (by decide +kernel), List.mem_of_getElem? (i := 864) (by decide +kernel), List.mem_of_getElem? (i := 865) (by decide +kernel)⟩
theorem lw_p33 : lw_okq (⟨"CodeShrinkerModel", "isMethod", "(I)Z"⟩, 31) := ⟨⟨by decide +kernel, by decide +kernel⟩, List.mem_of_getElem? (i := 737) (by decide +kernel), List.mem_of_getElem? (i := 872) (by decide +kernel), List.mem_of_getElem? (i := 873) (by decide +kernel)⟩
theorem lw_p34 : lw_okq (⟨"CodeShrinkerModel", "find", "(III)I"⟩, 31) := ⟨⟨by decide +kernel, by decide +kernel⟩, List.mem_of_getElem? (i := 737) (by decide +kernel), List.mem_of_getElem? (i := 884) (by decide +kernel), List.mem_of_getElem? (i := 885) (by decide +kernel)⟩
theorem lw_p35 : lw_okq (⟨"CodeShrinkerModel", "findLive", "()V"⟩, 31) := ⟨⟨by decide +kernel, by decide +kernel⟩, List.mem_of_getElem? (i := 737) (by decide +kernel), List.mem_of_getElem? (i := 892) (by decide +kernel), List.mem_of_getElem? (i := 893) (by decide +kernel)⟩
theorem lw_p36 : lw_okq (⟨"CodeShrinkerModel", "need", "(II)Z"⟩, 31) := ⟨⟨by decide +kernel, by decide +kernel⟩, List.mem_of_getElem? (i := 737) (by decide +kernel), List.mem_of_getElem? (i := 896) (by decide +kernel), List.mem_of_getElem? (i := 897) (by decide +kernel)⟩
theorem lw_p37 : lw_okq (⟨"CodeShrinkerModel", "enliven", "(II)Z"⟩, 31) := ⟨⟨by decide +kernel, by decide +kernel⟩, List.mem_of_getElem? (i := 737) (by decide +kernel), List.mem_of_getElem? (i := 900) (by decide +kernel), List.mem_of_getElem? (i := 901) (by decide +kernel)⟩
theorem lw_p38 : lw_okq (⟨"CodeShrinkerModel", "above", "(II)Z"⟩, 31) := ⟨⟨by decide +kernel, by decide +kernel⟩, List.mem_of_getElem? (i := 737) (by decide +kernel), List.mem_of_getElem? (i := 904) (by decide +kernel), List.mem_of_getElem? (i := 905) (by decide +kernel)⟩
theorem lw_p39 : lw_okq (⟨"CodeShrinkerModel", "moveMethod", "(II)V"⟩, 31) := ⟨⟨by decide +kernel, by decide +kernel⟩, List.mem_of_getElem? (i := 737) (by decide +kernel), List.mem_of_getElem? (i := 908) (by decide +kernel), List.mem_of_getElem? (i := 909) (by decide +kernel)⟩
theorem lw_p40 : lw_okq (⟨"CodeShrinkerModel", "gather", "()I"⟩, 31) := ⟨⟨by decide +kernel, by decide +kernel⟩, List.mem_of_getElem? (i := 737) (by decide +kernel), List.mem_of_getElem? (i := 916) (by decide +kernel), List.mem_of_getElem? (i := 917) (by decide +kernel)⟩
theorem lw_p41 : lw_okq (⟨"CodeShrinkerModel", "member", "(IIII)V"⟩, 31) := ⟨⟨by decide +kernel, by decide +kernel⟩, List.mem_of_getElem? (i := 737) (by decide +kernel), List.mem_of_getElem? (i := 920) (by decide +kernel), List.mem_of_getElem? (i := 921) (by decide +kernel)⟩
theorem lw_p42 : lw_okq (⟨"CodeShrinkerModel", "alike", "(II)Z"⟩, 31) := ⟨⟨by decide +kernel, by decide +kernel⟩, List.mem_of_getElem? (i := 737) (by decide +kernel), List.mem_of_getElem? (i := 924) (by decide +kernel), List.mem_of_getElem? (i := 925) (by decide +kernel)⟩
theorem lw_p43 : lw_okq (⟨"CodeShrinkerModel", "related", "(II)Z"⟩, 31) := ⟨⟨by decide +kernel, by decide +kernel⟩, List.mem_of_getElem? (i := 737) (by decide +kernel), List.mem_of_getElem? (i := 928) (by decide +kernel), List.mem_of_getElem? (i := 929) (by decide +kernel)⟩
theorem lw_p44 : lw_okq (⟨"CodeShrinkerModel", "keptFamily", "(I)Z"⟩, 31) := ⟨⟨by decide +kernel, by decide +kernel⟩, List.mem_of_getElem? (i := 737) (by decide +kernel), List.mem_of_getElem? (i := 932) (by decide +kernel), List.mem_of_getElem? (i := 933) (by decide +kernel)⟩
theorem lw_p45 : lw_okq (⟨"CodeShrinkerModel", "freeName", "(II)I"⟩, 31) := ⟨⟨by decide +kernel, by decide +kernel⟩, List.mem_of_getElem? (i := 737) (by decide +kernel), List.mem_of_getElem? (i := 936) (by decide +kernel), List.mem_of_getElem? (i := 937) (by decide +kernel)⟩
theorem lw_p46 : lw_okq (⟨"CodeShrinkerModel", "clash", "(III)Z"⟩, 31) := ⟨⟨by decide +kernel, by decide +kernel⟩, List.mem_of_getElem? (i := 737) (by decide +kernel), List.mem_of_getElem? (i := 940) (by decide +kernel), List.mem_of_getElem? (i := 941) (by decide +kernel)⟩
def lw_privs_3 : List (MethodName × Nat) := [(⟨"CodeShrinkerModel", "own", "(III)I"⟩, 31), (⟨"CodeShrinkerModel", "isMethod", "(I)Z"⟩, 31), (⟨"CodeShrinkerModel", "find", "(III)I"⟩, 31), (⟨"CodeShrinkerModel", "findLive", "()V"⟩, 31), (⟨"CodeShrinkerModel", "need", "(II)Z"⟩, 31), (⟨"CodeShrinkerModel", "enliven", "(II)Z"⟩, 31), (⟨"CodeShrinkerModel", "above", "(II)Z"⟩, 31), (⟨"CodeShrinkerModel", "moveMethod", "(II)V"⟩, 31), (⟨"CodeShrinkerModel", "gather", "()I"⟩, 31), (⟨"CodeShrinkerModel", "member", "(IIII)V"⟩, 31), (⟨"CodeShrinkerModel", "alike", "(II)Z"⟩, 31), (⟨"CodeShrinkerModel", "related", "(II)Z"⟩, 31), (⟨"CodeShrinkerModel", "keptFamily", "(I)Z"⟩, 31), (⟨"CodeShrinkerModel", "freeName", "(II)I"⟩, 31), (⟨"CodeShrinkerModel", "clash", "(III)Z"⟩, 31)]
theorem lw_r3 : ∀ q ∈ lw_privs_3, lw_okq q := List.forall_mem_cons.mpr ⟨lw_p32, List.forall_mem_cons.mpr ⟨lw_p33, List.forall_mem_cons.mpr ⟨lw_p34, List.forall_mem_cons.mpr ⟨lw_p35, List.forall_mem_cons.mpr ⟨lw_p36, List.forall_mem_cons.mpr ⟨lw_p37, List.forall_mem_cons.mpr ⟨lw_p38, List.forall_mem_cons.mpr ⟨lw_p39, List.forall_mem_cons.mpr ⟨lw_p40, List.forall_mem_cons.mpr ⟨lw_p41, List.forall_mem_cons.mpr ⟨lw_p42, List.forall_mem_cons.mpr ⟨lw_p43, List.forall_mem_cons.mpr ⟨lw_p44, List.forall_mem_cons.mpr ⟨lw_p45, List.forall_mem_cons.mpr ⟨lw_p46, fun _ h => absurd h List.not_mem_nil⟩⟩⟩⟩⟩⟩⟩⟩⟩⟩⟩⟩⟩⟩⟩
def lw_privs : List (MethodName × Nat) := lw_privs_1 ++ (lw_privs_2 ++ (lw_privs_3))
def lw_tbl : List Cond := k2_sels lw_privs ++ tables_1
theorem lw_privs_ok : ∀ q ∈ lw_privs, lw_okq q := by
  show ∀ q ∈ lw_privs_1 ++ (lw_privs_2 ++ (lw_privs_3)), lw_okq q
  exact List.forall_mem_append.mpr ⟨lw_r1, List.forall_mem_append.mpr ⟨lw_r2, lw_r3⟩⟩

def R_Fa : String := "CodeShrinker$Families"
def F_Fa : u_T := fun k => match k with
  | 0 => ("CodeShrinker$Families", "program", "LCodeShrinker$Program;", true)
  | 1 => ("CodeShrinker$Families", "relatives", "[I", true)
  | 2 => ("CodeShrinker$Families", "names", "[I", true)
  | 3 => ("CodeShrinker$Families", "arities", "[I", true)
  | 4 => ("CodeShrinker$Families", "members", "[I", true)
  | 5 => ("CodeShrinker$Families", "newNames", "[I", true)
  | 6 => ("CodeShrinker$Families", "kept", "[Z", true)
  | _ => ("CodeShrinker$Families", "size", "I", false)
def tt_Fa : Nat → FieldType := fun k => match k with
  | 0 => .object "CodeShrinker$Program"
  | 1 => .array .int
  | 2 => .array .int
  | 3 => .array .int
  | 4 => .array .int
  | 5 => .array .int
  | 6 => .array .boolean
  | _ => .int
theorem n_Fa : ∀ a, a < 8 → ∀ b, b < 8 → a ≠ b → (F_Fa a).2.1 ≠ (F_Fa b).2.1 := by decide +kernel
theorem tt_Fa_ok : ∀ k, k < 8 → parseFieldDescriptor (F_Fa k).2.2.1 = some (tt_Fa k) := by decide +kernel
def R_It : String := "CodeShrinker$Item"
def F_It : u_T := fun k => match k with
  | 0 => ("CodeShrinker$Item", "kind", "I", true)
  | 1 => ("CodeShrinker$Item", "value", "I", true)
  | 2 => ("CodeShrinker$Item", "target", "LCodeShrinker$ProgramClass;", true)
  | 3 => ("CodeShrinker$Item", "arity", "I", true)
  | _ => ("CodeShrinker$Item", "name", "I", false)
def tt_It : Nat → FieldType := fun k => match k with
  | 0 => .int
  | 1 => .int
  | 2 => .object "CodeShrinker$ProgramClass"
  | 3 => .int
  | _ => .int
theorem n_It : ∀ a, a < 5 → ∀ b, b < 5 → a ≠ b → (F_It a).2.1 ≠ (F_It b).2.1 := by decide +kernel
theorem tt_It_ok : ∀ k, k < 5 → parseFieldDescriptor (F_It k).2.2.1 = some (tt_It k) := by decide +kernel
def R_Pr : String := "CodeShrinker$Program"
def F_Pr : u_T := fun k => match k with
  | 0 => ("CodeShrinker$Program", "classes", "Ljava/util/ArrayList;", true)
  | _ => ("CodeShrinker$Program", "methods", "Ljava/util/ArrayList;", true)
def tt_Pr : Nat → FieldType := fun k => match k with
  | 0 => .object "java/util/ArrayList"
  | _ => .object "java/util/ArrayList"
theorem n_Pr : ∀ a, a < 2 → ∀ b, b < 2 → a ≠ b → (F_Pr a).2.1 ≠ (F_Pr b).2.1 := by decide +kernel
theorem tt_Pr_ok : ∀ k, k < 2 → parseFieldDescriptor (F_Pr k).2.2.1 = some (tt_Pr k) := by decide +kernel
def R_Pc : String := "CodeShrinker$ProgramClass"
def F_Pc : u_T := fun k => match k with
  | 0 => ("CodeShrinker$ProgramClass", "parent", "LCodeShrinker$ProgramClass;", true)
  | 1 => ("CodeShrinker$ProgramClass", "firstNumber", "I", true)
  | 2 => ("CodeShrinker$ProgramClass", "methods", "Ljava/util/ArrayList;", true)
  | 3 => ("CodeShrinker$ProgramClass", "number", "I", false)
  | _ => ("CodeShrinker$ProgramClass", "made", "Z", false)
def tt_Pc : Nat → FieldType := fun k => match k with
  | 0 => .object "CodeShrinker$ProgramClass"
  | 1 => .int
  | 2 => .object "java/util/ArrayList"
  | 3 => .int
  | _ => .boolean
theorem n_Pc : ∀ a, a < 5 → ∀ b, b < 5 → a ≠ b → (F_Pc a).2.1 ≠ (F_Pc b).2.1 := by decide +kernel
theorem tt_Pc_ok : ∀ k, k < 5 → parseFieldDescriptor (F_Pc k).2.2.1 = some (tt_Pc k) := by decide +kernel
def R_Pm : String := "CodeShrinker$ProgramMethod"
def F_Pm : u_T := fun k => match k with
  | 0 => ("CodeShrinker$ProgramMethod", "owner", "LCodeShrinker$ProgramClass;", true)
  | 1 => ("CodeShrinker$ProgramMethod", "firstNumber", "I", true)
  | 2 => ("CodeShrinker$ProgramMethod", "firstName", "I", true)
  | 3 => ("CodeShrinker$ProgramMethod", "arity", "I", true)
  | 4 => ("CodeShrinker$ProgramMethod", "items", "Ljava/util/ArrayList;", true)
  | 5 => ("CodeShrinker$ProgramMethod", "name", "I", false)
  | 6 => ("CodeShrinker$ProgramMethod", "kept", "Z", false)
  | _ => ("CodeShrinker$ProgramMethod", "live", "Z", false)
def tt_Pm : Nat → FieldType := fun k => match k with
  | 0 => .object "CodeShrinker$ProgramClass"
  | 1 => .int
  | 2 => .int
  | 3 => .int
  | 4 => .object "java/util/ArrayList"
  | 5 => .int
  | 6 => .boolean
  | _ => .boolean
theorem n_Pm : ∀ a, a < 8 → ∀ b, b < 8 → a ≠ b → (F_Pm a).2.1 ≠ (F_Pm b).2.1 := by decide +kernel
theorem tt_Pm_ok : ∀ k, k < 8 → parseFieldDescriptor (F_Pm k).2.2.1 = some (tt_Pm k) := by decide +kernel
def R_Re : String := "CodeShrinker$Reach"
def F_Re : u_T := fun k => match k with
  | 0 => ("CodeShrinker$Reach", "program", "LCodeShrinker$Program;", true)
  | _ => ("CodeShrinker$Reach", "grew", "Z", false)
def tt_Re : Nat → FieldType := fun k => match k with
  | 0 => .object "CodeShrinker$Program"
  | _ => .boolean
theorem n_Re : ∀ a, a < 2 → ∀ b, b < 2 → a ≠ b → (F_Re a).2.1 ≠ (F_Re b).2.1 := by decide +kernel
theorem tt_Re_ok : ∀ k, k < 2 → parseFieldDescriptor (F_Re k).2.2.1 = some (tt_Re k) := by decide +kernel
def R_Ru : String := "CodeShrinker$Runner"
def F_Ru : u_T := fun k => match k with
  | 0 => ("CodeShrinker$Runner", "outcome", "I", false)
  | _ => ("CodeShrinker$Runner", "itemsDone", "I", false)
def tt_Ru : Nat → FieldType := fun k => match k with
  | 0 => .int
  | _ => .int
theorem n_Ru : ∀ a, a < 2 → ∀ b, b < 2 → a ≠ b → (F_Ru a).2.1 ≠ (F_Ru b).2.1 := by decide +kernel
theorem tt_Ru_ok : ∀ k, k < 2 → parseFieldDescriptor (F_Ru k).2.2.1 = some (tt_Ru k) := by decide +kernel
def R_Cs : String := "CodeShrinker"
def F_Cs : u_T := fun k => match k with
  | 0 => ("CodeShrinker", "program", "LCodeShrinker$Program;", true)
  | 1 => ("CodeShrinker", "runner", "LCodeShrinker$Runner;", true)
  | 2 => ("CodeShrinker", "reach", "LCodeShrinker$Reach;", true)
  | 3 => ("CodeShrinker", "families", "LCodeShrinker$Families;", true)
  | _ => ("CodeShrinker", "goneInAll", "I", false)
def tt_Cs : Nat → FieldType := fun k => match k with
  | 0 => .object "CodeShrinker$Program"
  | 1 => .object "CodeShrinker$Runner"
  | 2 => .object "CodeShrinker$Reach"
  | 3 => .object "CodeShrinker$Families"
  | _ => .int
theorem n_Cs : ∀ a, a < 5 → ∀ b, b < 5 → a ≠ b → (F_Cs a).2.1 ≠ (F_Cs b).2.1 := by decide +kernel
theorem tt_Cs_ok : ∀ k, k < 5 → parseFieldDescriptor (F_Cs k).2.2.1 = some (tt_Cs k) := by decide +kernel
def R_Mo : String := "CodeShrinkerModel"
def F_Mo : u_T := fun k => match k with
  | 0 => ("CodeShrinkerModel", "parent", "[I", true)
  | 1 => ("CodeShrinkerModel", "classBorn", "[I", true)
  | 2 => ("CodeShrinkerModel", "of", "[I", true)
  | 3 => ("CodeShrinkerModel", "name", "[I", true)
  | 4 => ("CodeShrinkerModel", "arity", "[I", true)
  | 5 => ("CodeShrinkerModel", "items", "[I", true)
  | 6 => ("CodeShrinkerModel", "born", "[I", true)
  | 7 => ("CodeShrinkerModel", "bornName", "[I", true)
  | 8 => ("CodeShrinkerModel", "bornClass", "[I", true)
  | 9 => ("CodeShrinkerModel", "kept", "[Z", true)
  | 10 => ("CodeShrinkerModel", "live", "[Z", true)
  | 11 => ("CodeShrinkerModel", "made", "[Z", true)
  | 12 => ("CodeShrinkerModel", "kind", "[I", true)
  | 13 => ("CodeShrinkerModel", "a", "[I", true)
  | 14 => ("CodeShrinkerModel", "b", "[I", true)
  | 15 => ("CodeShrinkerModel", "c", "[I", true)
  | 16 => ("CodeShrinkerModel", "classes", "I", false)
  | 17 => ("CodeShrinkerModel", "methods", "I", false)
  | 18 => ("CodeShrinkerModel", "gone", "I", false)
  | 19 => ("CodeShrinkerModel", "thrown", "I", false)
  | 20 => ("CodeShrinkerModel", "family", "[I", true)
  | 21 => ("CodeShrinkerModel", "memberClass", "[I", true)
  | 22 => ("CodeShrinkerModel", "memberName", "[I", true)
  | 23 => ("CodeShrinkerModel", "memberArity", "[I", true)
  | 24 => ("CodeShrinkerModel", "fresh", "[I", true)
  | 25 => ("CodeShrinkerModel", "newNames", "[I", true)
  | 26 => ("CodeShrinkerModel", "newNumber", "[I", true)
  | 27 => ("CodeShrinkerModel", "newClass", "[I", true)
  | 28 => ("CodeShrinkerModel", "running", "[I", true)
  | 29 => ("CodeShrinkerModel", "at", "[I", true)
  | _ => ("CodeShrinkerModel", "worker", "[I", true)
def tt_Mo : Nat → FieldType := fun k => match k with
  | 0 => .array .int
  | 1 => .array .int
  | 2 => .array .int
  | 3 => .array .int
  | 4 => .array .int
  | 5 => .array .int
  | 6 => .array .int
  | 7 => .array .int
  | 8 => .array .int
  | 9 => .array .boolean
  | 10 => .array .boolean
  | 11 => .array .boolean
  | 12 => .array .int
  | 13 => .array .int
  | 14 => .array .int
  | 15 => .array .int
  | 16 => .int
  | 17 => .int
  | 18 => .int
  | 19 => .int
  | 20 => .array .int
  | 21 => .array .int
  | 22 => .array .int
  | 23 => .array .int
  | 24 => .array .int
  | 25 => .array .int
  | 26 => .array .int
  | 27 => .array .int
  | 28 => .array .int
  | 29 => .array .int
  | _ => .array .int
theorem n_Mo : ∀ a, a < 31 → ∀ b, b < 31 → a ≠ b → (F_Mo a).2.1 ≠ (F_Mo b).2.1 := by decide +kernel
theorem tt_Mo_ok : ∀ k, k < 31 → parseFieldDescriptor (F_Mo k).2.2.1 = some (tt_Mo k) := by decide +kernel
def R_Al : String := "java/util/ArrayList"
def F_Al : u_T := fun k => match k with
  | 0 => ("java/util/ArrayList", "elementData", "[Ljava/lang/Object;", false)
  | 1 => ("java/util/ArrayList", "size", "I", false)
  | _ => ("java/util/AbstractList", "modCount", "I", false)
def tt_Al : Nat → FieldType := fun k => match k with
  | 0 => .array (.object "java/lang/Object")
  | 1 => .int
  | _ => .int
theorem n_Al : ∀ a, a < 3 → ∀ b, b < 3 → a ≠ b → (F_Al a).2.1 ≠ (F_Al b).2.1 := by decide +kernel
theorem tt_Al_ok : ∀ k, k < 3 → parseFieldDescriptor (F_Al k).2.2.1 = some (tt_Al k) := by decide +kernel
def vCl : List vw_C := [(R_Fa, F_Fa, 8), (R_It, F_It, 5), (R_Pr, F_Pr, 2), (R_Pc, F_Pc, 5), (R_Pm, F_Pm, 8), (R_Re, F_Re, 2), (R_Ru, F_Ru, 2), (R_Cs, F_Cs, 5), (R_Mo, F_Mo, 31), (R_Al, F_Al, 3)]
abbrev vM : Type := MethodName × ByteArray × Nat × Option FieldType × List (Nat × Nat × Nat × Nat)
def y_Cs_init : MethodName := ⟨"CodeShrinker", "<init>", "()V"⟩
abbrev b_Cs_init : ByteArray := prog_1_method_1_code
def M_Cs_init : vM := (y_Cs_init, b_Cs_init, 1, none, [])
def y_Ob_init : MethodName := ⟨"java/lang/Object", "<init>", "()V"⟩
abbrev b_Ob_init : ByteArray := object_method_1_code
def M_Ob_init : vM := (y_Ob_init, b_Ob_init, 1, none, [])
def y_Pr_init : MethodName := ⟨"CodeShrinker$Program", "<init>", "()V"⟩
abbrev b_Pr_init : ByteArray := prog_4_method_1_code
def M_Pr_init : vM := (y_Pr_init, b_Pr_init, 1, none, [])
def y_Al_init : MethodName := ⟨"java/util/ArrayList", "<init>", "()V"⟩
abbrev b_Al_init : ByteArray := prog_24_method_2_code
def M_Al_init : vM := (y_Al_init, b_Al_init, 1, none, [])
def y_Ab_init : MethodName := ⟨"java/util/AbstractList", "<init>", "()V"⟩
abbrev b_Ab_init : ByteArray := prog_23_method_1_code
def M_Ab_init : vM := (y_Ab_init, b_Ab_init, 1, none, [])
def y_Ac_init : MethodName := ⟨"java/util/AbstractCollection", "<init>", "()V"⟩
abbrev b_Ac_init : ByteArray := prog_22_method_1_code
def M_Ac_init : vM := (y_Ac_init, b_Ac_init, 1, none, [])
def y_Ru_init : MethodName := ⟨"CodeShrinker$Runner", "<init>", "()V"⟩
abbrev b_Ru_init : ByteArray := prog_8_method_1_code
def M_Ru_init : vM := (y_Ru_init, b_Ru_init, 1, none, [])
def y_Re_init : MethodName := ⟨"CodeShrinker$Reach", "<init>", "(LCodeShrinker$Program;)V"⟩
abbrev b_Re_init : ByteArray := prog_7_method_1_code
def M_Re_init : vM := (y_Re_init, b_Re_init, 2, none, [])
def y_Fa_init : MethodName := ⟨"CodeShrinker$Families", "<init>", "(LCodeShrinker$Program;)V"⟩
abbrev b_Fa_init : ByteArray := prog_2_method_1_code
def M_Fa_init : vM := (y_Fa_init, b_Fa_init, 2, none, [])
def y_Cs_shrink : MethodName := ⟨"CodeShrinker", "shrink", "()I"⟩
abbrev b_Cs_shrink : ByteArray := prog_1_method_7_code
def M_Cs_shrink : vM := (y_Cs_shrink, b_Cs_shrink, 3, (some .int), [])
def y_Al_size : MethodName := ⟨"java/util/ArrayList", "size", "()I"⟩
abbrev b_Al_size : ByteArray := prog_24_method_8_code
def M_Al_size : vM := (y_Al_size, b_Al_size, 1, (some .int), [])
def y_Re_mark : MethodName := ⟨"CodeShrinker$Reach", "mark", "()V"⟩
abbrev b_Re_mark : ByteArray := prog_7_method_2_code
def M_Re_mark : vM := (y_Re_mark, b_Re_mark, 2, none, [])
def y_Re_clearMarks : MethodName := ⟨"CodeShrinker$Reach", "clearMarks", "()V"⟩
abbrev b_Re_clearMarks : ByteArray := prog_7_method_3_code
def M_Re_clearMarks : vM := (y_Re_clearMarks, b_Re_clearMarks, 2, none, [])
def y_Al_get : MethodName := ⟨"java/util/ArrayList", "get", "(I)Ljava/lang/Object;"⟩
abbrev b_Al_get : ByteArray := prog_24_method_20_code
def M_Al_get : vM := (y_Al_get, b_Al_get, 2, (some (.object "java/lang/Object")), [])
def y_Os_checkIndex : MethodName := ⟨"java/util/Objects", "checkIndex", "(II)I"⟩
abbrev b_Os_checkIndex : ByteArray := prog_29_method_17_code
def M_Os_checkIndex : vM := (y_Os_checkIndex, b_Os_checkIndex, 2, (some .int), [])
def y_Pd_checkIndex : MethodName := ⟨"jdk/internal/util/Preconditions", "checkIndex", "(IILjava/util/function/BiFunction;)I"⟩
abbrev b_Pd_checkIndex : ByteArray := prog_33_method_11_code
def M_Pd_checkIndex : vM := (y_Pd_checkIndex, b_Pd_checkIndex, 3, (some .int), [])
def y_Al_elementData : MethodName := ⟨"java/util/ArrayList", "elementData", "(I)Ljava/lang/Object;"⟩
abbrev b_Al_elementData : ByteArray := prog_24_method_18_code
def M_Al_elementData : vM := (y_Al_elementData, b_Al_elementData, 2, (some (.object "java/lang/Object")), [])
def y_Re_markKept : MethodName := ⟨"CodeShrinker$Reach", "markKept", "()V"⟩
abbrev b_Re_markKept : ByteArray := prog_7_method_4_code
def M_Re_markKept : vM := (y_Re_markKept, b_Re_markKept, 3, none, [])
def y_Re_markLive : MethodName := ⟨"CodeShrinker$Reach", "markLive", "(LCodeShrinker$ProgramMethod;)V"⟩
abbrev b_Re_markLive : ByteArray := prog_7_method_8_code
def M_Re_markLive : vM := (y_Re_markLive, b_Re_markLive, 2, none, [])
def y_Re_markMade : MethodName := ⟨"CodeShrinker$Reach", "markMade", "(LCodeShrinker$ProgramClass;)V"⟩
abbrev b_Re_markMade : ByteArray := prog_7_method_9_code
def M_Re_markMade : vM := (y_Re_markMade, b_Re_markMade, 2, none, [])
def y_Re_spreadFromLive : MethodName := ⟨"CodeShrinker$Reach", "spreadFromLive", "()V"⟩
abbrev b_Re_spreadFromLive : ByteArray := prog_7_method_5_code
def M_Re_spreadFromLive : vM := (y_Re_spreadFromLive, b_Re_spreadFromLive, 3, none, [])
def y_Re_spread : MethodName := ⟨"CodeShrinker$Reach", "spread", "(LCodeShrinker$ProgramMethod;)V"⟩
abbrev b_Re_spread : ByteArray := prog_7_method_6_code
def M_Re_spread : vM := (y_Re_spread, b_Re_spread, 4, none, [])
def y_Pc_find : MethodName := ⟨"CodeShrinker$ProgramClass", "find", "(II)LCodeShrinker$ProgramMethod;"⟩
abbrev b_Pc_find : ByteArray := prog_5_method_3_code
def M_Pc_find : vM := (y_Pc_find, b_Pc_find, 5, (some (.object "CodeShrinker$ProgramMethod")), [])
def y_Pc_own : MethodName := ⟨"CodeShrinker$ProgramClass", "own", "(II)LCodeShrinker$ProgramMethod;"⟩
abbrev b_Pc_own : ByteArray := prog_5_method_2_code
def M_Pc_own : vM := (y_Pc_own, b_Pc_own, 5, (some (.object "CodeShrinker$ProgramMethod")), [])
def y_Re_spreadSelf : MethodName := ⟨"CodeShrinker$Reach", "spreadSelf", "(LCodeShrinker$ProgramClass;LCodeShrinker$Item;)V"⟩
abbrev b_Re_spreadSelf : ByteArray := prog_7_method_7_code
def M_Re_spreadSelf : vM := (y_Re_spreadSelf, b_Re_spreadSelf, 5, none, [])
def y_Pc_isOrIsBelow : MethodName := ⟨"CodeShrinker$ProgramClass", "isOrIsBelow", "(LCodeShrinker$ProgramClass;)Z"⟩
abbrev b_Pc_isOrIsBelow : ByteArray := prog_5_method_4_code
def M_Pc_isOrIsBelow : vM := (y_Pc_isOrIsBelow, b_Pc_isOrIsBelow, 3, (some .boolean), [])
def y_Pr_dropUnreached : MethodName := ⟨"CodeShrinker$Program", "dropUnreached", "()V"⟩
abbrev b_Pr_dropUnreached : ByteArray := prog_4_method_4_code
def M_Pr_dropUnreached : vM := (y_Pr_dropUnreached, b_Pr_dropUnreached, 3, none, [])
def y_Pr_dropDead : MethodName := ⟨"CodeShrinker$Program", "dropDead", "(Ljava/util/ArrayList;)V"⟩
abbrev b_Pr_dropDead : ByteArray := prog_4_method_6_code
def M_Pr_dropDead : vM := (y_Pr_dropDead, b_Pr_dropDead, 2, none, [])
def y_Al_remove : MethodName := ⟨"java/util/ArrayList", "remove", "(I)Ljava/lang/Object;"⟩
abbrev b_Al_remove : ByteArray := prog_24_method_29_code
def M_Al_remove : vM := (y_Al_remove, b_Al_remove, 4, (some (.object "java/lang/Object")), [])
def y_Al_fastRemove : MethodName := ⟨"java/util/ArrayList", "fastRemove", "([Ljava/lang/Object;I)V"⟩
abbrev b_Al_fastRemove : ByteArray := prog_24_method_39_code
def M_Al_fastRemove : vM := (y_Al_fastRemove, b_Al_fastRemove, 4, none, [])
def y_Pr_isMadeOrAboveMade : MethodName := ⟨"CodeShrinker$Program", "isMadeOrAboveMade", "(LCodeShrinker$ProgramClass;)Z"⟩
abbrev b_Pr_isMadeOrAboveMade : ByteArray := prog_4_method_5_code
def M_Pr_isMadeOrAboveMade : vM := (y_Pr_isMadeOrAboveMade, b_Pr_isMadeOrAboveMade, 4, (some .boolean), [])
def y_Cs_rename : MethodName := ⟨"CodeShrinker", "rename", "()I"⟩
abbrev b_Cs_rename : ByteArray := prog_1_method_8_code
def M_Cs_rename : vM := (y_Cs_rename, b_Cs_rename, 1, (some .int), [])
def y_Fa_form : MethodName := ⟨"CodeShrinker$Families", "form", "()V"⟩
abbrev b_Fa_form : ByteArray := prog_2_method_2_code
def M_Fa_form : vM := (y_Fa_form, b_Fa_form, 4, none, [])
def y_Fa_seeRelatives : MethodName := ⟨"CodeShrinker$Families", "seeRelatives", "()V"⟩
abbrev b_Fa_seeRelatives : ByteArray := prog_2_method_5_code
def M_Fa_seeRelatives : vM := (y_Fa_seeRelatives, b_Fa_seeRelatives, 5, none, [])
def y_Ma_min : MethodName := ⟨"java/lang/Math", "min", "(II)I"⟩
abbrev b_Ma_min : ByteArray := prog_17_method_69_code
def M_Ma_min : vM := (y_Ma_min, b_Ma_min, 2, (some .int), [])
def y_Pc_isRelatedTo : MethodName := ⟨"CodeShrinker$ProgramClass", "isRelatedTo", "(LCodeShrinker$ProgramClass;)Z"⟩
abbrev b_Pc_isRelatedTo : ByteArray := prog_5_method_5_code
def M_Pc_isRelatedTo : vM := (y_Pc_isRelatedTo, b_Pc_isRelatedTo, 2, (some .boolean), [])
def y_Fa_familyOf : MethodName := ⟨"CodeShrinker$Families", "familyOf", "(LCodeShrinker$ProgramClass;II)I"⟩
abbrev b_Fa_familyOf : ByteArray := prog_2_method_14_code
def M_Fa_familyOf : vM := (y_Fa_familyOf, b_Fa_familyOf, 5, (some .int), [])
def y_Fa_holds : MethodName := ⟨"CodeShrinker$Families", "holds", "(II)Z"⟩
abbrev b_Fa_holds : ByteArray := prog_2_method_15_code
def M_Fa_holds : vM := (y_Fa_holds, b_Fa_holds, 2, (some .boolean), [])
def y_Fa_open : MethodName := ⟨"CodeShrinker$Families", "open", "(LCodeShrinker$ProgramMethod;)I"⟩
abbrev b_Fa_open : ByteArray := prog_2_method_6_code
def M_Fa_open : vM := (y_Fa_open, b_Fa_open, 3, (some .int), [])
def y_Fa_bearers : MethodName := ⟨"CodeShrinker$Families", "bearers", "(II)I"⟩
abbrev b_Fa_bearers : ByteArray := prog_2_method_7_code
def M_Fa_bearers : vM := (y_Fa_bearers, b_Fa_bearers, 6, (some .int), [])
def y_Fa_standsIn : MethodName := ⟨"CodeShrinker$Families", "standsIn", "(LCodeShrinker$ProgramMethod;II)Z"⟩
abbrev b_Fa_standsIn : ByteArray := prog_2_method_8_code
def M_Fa_standsIn : vM := (y_Fa_standsIn, b_Fa_standsIn, 5, (some .boolean), [])
def y_Fa_joinedTo : MethodName := ⟨"CodeShrinker$Families", "joinedTo", "(II)I"⟩
abbrev b_Fa_joinedTo : ByteArray := prog_2_method_9_code
def M_Fa_joinedTo : vM := (y_Fa_joinedTo, b_Fa_joinedTo, 5, (some .int), [])
def y_Fa_relatedTo : MethodName := ⟨"CodeShrinker$Families", "relatedTo", "(I)I"⟩
abbrev b_Fa_relatedTo : ByteArray := prog_2_method_10_code
def M_Fa_relatedTo : vM := (y_Fa_relatedTo, b_Fa_relatedTo, 4, (some .int), [])
def y_Fa_giveNames : MethodName := ⟨"CodeShrinker$Families", "giveNames", "()V"⟩
abbrev b_Fa_giveNames : ByteArray := prog_2_method_3_code
def M_Fa_giveNames : vM := (y_Fa_giveNames, b_Fa_giveNames, 2, none, [])
def y_Fa_leastFreeName : MethodName := ⟨"CodeShrinker$Families", "leastFreeName", "(I)I"⟩
abbrev b_Fa_leastFreeName : ByteArray := prog_2_method_11_code
def M_Fa_leastFreeName : vM := (y_Fa_leastFreeName, b_Fa_leastFreeName, 6, (some .int), [])
def y_Fa_writeNames : MethodName := ⟨"CodeShrinker$Families", "writeNames", "()V"⟩
abbrev b_Fa_writeNames : ByteArray := prog_2_method_4_code
def M_Fa_writeNames : vM := (y_Fa_writeNames, b_Fa_writeNames, 3, none, [])
def y_Fa_writeItems : MethodName := ⟨"CodeShrinker$Families", "writeItems", "(LCodeShrinker$ProgramMethod;)V"⟩
abbrev b_Fa_writeItems : ByteArray := prog_2_method_12_code
def M_Fa_writeItems : vM := (y_Fa_writeItems, b_Fa_writeItems, 5, none, [])
def y_Fa_newNameOf : MethodName := ⟨"CodeShrinker$Families", "newNameOf", "(LCodeShrinker$ProgramClass;II)I"⟩
abbrev b_Fa_newNameOf : ByteArray := prog_2_method_13_code
def M_Fa_newNameOf : vM := (y_Fa_newNameOf, b_Fa_newNameOf, 5, (some .int), [])
def y_Cs_count : MethodName := ⟨"CodeShrinker", "count", "(I)I"⟩
abbrev b_Cs_count : ByteArray := prog_1_method_12_code
def M_Cs_count : vM := (y_Cs_count, b_Cs_count, 2, (some .int), [])
def y_Pr_liveMethods : MethodName := ⟨"CodeShrinker$Program", "liveMethods", "()I"⟩
abbrev b_Pr_liveMethods : ByteArray := prog_4_method_2_code
def M_Pr_liveMethods : vM := (y_Pr_liveMethods, b_Pr_liveMethods, 3, (some .int), [])
def y_Pr_madeClasses : MethodName := ⟨"CodeShrinker$Program", "madeClasses", "()I"⟩
abbrev b_Pr_madeClasses : ByteArray := prog_4_method_3_code
def M_Pr_madeClasses : vM := (y_Pr_madeClasses, b_Pr_madeClasses, 3, (some .int), [])
def y_Cs_parentOf : MethodName := ⟨"CodeShrinker", "parentOf", "(I)I"⟩
abbrev b_Cs_parentOf : ByteArray := prog_1_method_13_code
def M_Cs_parentOf : vM := (y_Cs_parentOf, b_Cs_parentOf, 3, (some .int), [])
def y_Cs_isClass : MethodName := ⟨"CodeShrinker", "isClass", "(I)Z"⟩
abbrev b_Cs_isClass : ByteArray := prog_1_method_15_code
def M_Cs_isClass : vM := (y_Cs_isClass, b_Cs_isClass, 2, (some .boolean), [])
def y_Lw_add : MethodName := ⟨"CodeShrinkerLaw", "add", "(LCodeShrinker;I[J)I"⟩
abbrev b_Lw_add : ByteArray := method_3_code
def M_Lw_add : vM := (y_Lw_add, b_Lw_add, 4, (some .int), [(0, 9, 12, 13), (0, 9, 15, 15)])
def y_Cs_add : MethodName := ⟨"CodeShrinker", "add", "(I)I"⟩
abbrev b_Cs_add : ByteArray := prog_1_method_2_code
def M_Cs_add : vM := (y_Cs_add, b_Cs_add, 4, (some .int), [])
def y_Cs_require : MethodName := ⟨"CodeShrinker", "require", "(Z)V"⟩
abbrev b_Cs_require : ByteArray := prog_1_method_20_code
def M_Cs_require : vM := (y_Cs_require, b_Cs_require, 1, none, [])
def y_Th_init : MethodName := ⟨"java/lang/Throwable", "<init>", "()V"⟩
abbrev b_Th_init : ByteArray := prog_21_method_1_code
def M_Th_init : vM := (y_Th_init, b_Th_init, 1, none, [])
def y_Ia_init : MethodName := ⟨"java/lang/IllegalArgumentException", "<init>", "(Ljava/lang/String;)V"⟩
abbrev b_Ia_init : ByteArray := prog_14_method_2_code
def M_Ia_init : vM := (y_Ia_init, b_Ia_init, 2, none, [])
def y_Rt_init : MethodName := ⟨"java/lang/RuntimeException", "<init>", "(Ljava/lang/String;)V"⟩
abbrev b_Rt_init : ByteArray := prog_18_method_2_code
def M_Rt_init : vM := (y_Rt_init, b_Rt_init, 2, none, [])
def y_Ex_init : MethodName := ⟨"java/lang/Exception", "<init>", "(Ljava/lang/String;)V"⟩
abbrev b_Ex_init : ByteArray := prog_13_method_2_code
def M_Ex_init : vM := (y_Ex_init, b_Ex_init, 2, none, [])
def y_Th_init2 : MethodName := ⟨"java/lang/Throwable", "<init>", "(Ljava/lang/String;)V"⟩
abbrev b_Th_init2 : ByteArray := prog_21_method_2_code
def M_Th_init2 : vM := (y_Th_init2, b_Th_init2, 2, none, [])
def y_Is_init : MethodName := ⟨"java/lang/IllegalStateException", "<init>", "(Ljava/lang/String;)V"⟩
abbrev b_Is_init : ByteArray := prog_15_method_2_code
def M_Is_init : vM := (y_Is_init, b_Is_init, 2, none, [])
def y_Pc_init : MethodName := ⟨"CodeShrinker$ProgramClass", "<init>", "(ILCodeShrinker$ProgramClass;)V"⟩
abbrev b_Pc_init : ByteArray := prog_5_method_1_code
def M_Pc_init : vM := (y_Pc_init, b_Pc_init, 3, none, [])
def y_Al_add : MethodName := ⟨"java/util/ArrayList", "add", "(Ljava/lang/Object;)Z"⟩
abbrev b_Al_add : ByteArray := prog_24_method_25_code
def M_Al_add : vM := (y_Al_add, b_Al_add, 2, (some .boolean), [])
def y_Al_add2 : MethodName := ⟨"java/util/ArrayList", "add", "(Ljava/lang/Object;[Ljava/lang/Object;I)V"⟩
abbrev b_Al_add2 : ByteArray := prog_24_method_24_code
def M_Al_add2 : vM := (y_Al_add2, b_Al_add2, 4, none, [])
def y_Al_grow : MethodName := ⟨"java/util/ArrayList", "grow", "()[Ljava/lang/Object;"⟩
abbrev b_Al_grow : ByteArray := prog_24_method_7_code
def M_Al_grow : vM := (y_Al_grow, b_Al_grow, 1, (some (.array (.object "java/lang/Object"))), [])
def y_Al_grow2 : MethodName := ⟨"java/util/ArrayList", "grow", "(I)[Ljava/lang/Object;"⟩
abbrev b_Al_grow2 : ByteArray := prog_24_method_6_code
def M_Al_grow2 : vM := (y_Al_grow2, b_Al_grow2, 4, (some (.array (.object "java/lang/Object"))), [])
def y_As_newLength : MethodName := ⟨"jdk/internal/util/ArraysSupport", "newLength", "(III)I"⟩
abbrev b_As_newLength : ByteArray := prog_32_method_27_code
def M_As_newLength : vM := (y_As_newLength, b_As_newLength, 4, (some .int), [])
def y_Ma_max : MethodName := ⟨"java/lang/Math", "max", "(II)I"⟩
abbrev b_Ma_max : ByteArray := prog_17_method_65_code
def M_Ma_max : vM := (y_Ma_max, b_Ma_max, 2, (some .int), [])
def y_As_hugeLength : MethodName := ⟨"jdk/internal/util/ArraysSupport", "hugeLength", "(II)I"⟩
abbrev b_As_hugeLength : ByteArray := prog_32_method_28_code
def M_As_hugeLength : vM := (y_As_hugeLength, b_As_hugeLength, 3, (some .int), [])
def y_Ar_copyOf : MethodName := ⟨"java/util/Arrays", "copyOf", "([Ljava/lang/Object;I)[Ljava/lang/Object;"⟩
abbrev b_Ar_copyOf : ByteArray := prog_25_method_119_code
def M_Ar_copyOf : vM := (y_Ar_copyOf, b_Ar_copyOf, 2, (some (.array (.object "java/lang/Object"))), [])
def y_Ar_copyOf2 : MethodName := ⟨"java/util/Arrays", "copyOf", "([Ljava/lang/Object;ILjava/lang/Class;)[Ljava/lang/Object;"⟩
abbrev b_Ar_copyOf2 : ByteArray := prog_25_method_120_code
def M_Ar_copyOf2 : vM := (y_Ar_copyOf2, b_Ar_copyOf2, 4, (some (.array (.object "java/lang/Object"))), [])
def y_Lw_method : MethodName := ⟨"CodeShrinkerLaw", "method", "(LCodeShrinker;III[J)I"⟩
abbrev b_Lw_method : ByteArray := method_4_code
def M_Lw_method : vM := (y_Lw_method, b_Lw_method, 6, (some .int), [(0, 12, 15, 13), (0, 12, 19, 15)])
def y_Cs_method : MethodName := ⟨"CodeShrinker", "method", "(III)I"⟩
abbrev b_Cs_method : ByteArray := prog_1_method_3_code
def M_Cs_method : vM := (y_Cs_method, b_Cs_method, 7, (some .int), [])
def y_Cs_isName : MethodName := ⟨"CodeShrinker", "isName", "(I)Z"⟩
abbrev b_Cs_isName : ByteArray := prog_1_method_18_code
def M_Cs_isName : vM := (y_Cs_isName, b_Cs_isName, 1, (some .boolean), [])
def y_Cs_isArity : MethodName := ⟨"CodeShrinker", "isArity", "(I)Z"⟩
abbrev b_Cs_isArity : ByteArray := prog_1_method_19_code
def M_Cs_isArity : vM := (y_Cs_isArity, b_Cs_isArity, 1, (some .boolean), [])
def y_Pm_init : MethodName := ⟨"CodeShrinker$ProgramMethod", "<init>", "(ILCodeShrinker$ProgramClass;II)V"⟩
abbrev b_Pm_init : ByteArray := prog_6_method_1_code
def M_Pm_init : vM := (y_Pm_init, b_Pm_init, 5, none, [])
def y_Lw_item : MethodName := ⟨"CodeShrinkerLaw", "item", "(LCodeShrinker;IIIII[J)I"⟩
abbrev b_Lw_item : ByteArray := method_5_code
def M_Lw_item : vM := (y_Lw_item, b_Lw_item, 8, (some .int), [(0, 16, 19, 13), (0, 16, 23, 15)])
def y_Cs_item : MethodName := ⟨"CodeShrinker", "item", "(IIIII)I"⟩
abbrev b_Cs_item : ByteArray := prog_1_method_4_code
def M_Cs_item : vM := (y_Cs_item, b_Cs_item, 7, (some .int), [])
def y_Cs_isMethod : MethodName := ⟨"CodeShrinker", "isMethod", "(I)Z"⟩
abbrev b_Cs_isMethod : ByteArray := prog_1_method_16_code
def M_Cs_isMethod : vM := (y_Cs_isMethod, b_Cs_isMethod, 2, (some .boolean), [])
def y_Cs_isItem : MethodName := ⟨"CodeShrinker", "isItem", "(IIII)Z"⟩
abbrev b_Cs_isItem : ByteArray := prog_1_method_17_code
def M_Cs_isItem : vM := (y_Cs_isItem, b_Cs_isItem, 5, (some .boolean), [])
def y_Cs_newItem : MethodName := ⟨"CodeShrinker", "newItem", "(IIII)LCodeShrinker$Item;"⟩
abbrev b_Cs_newItem : ByteArray := prog_1_method_14_code
def M_Cs_newItem : vM := (y_Cs_newItem, b_Cs_newItem, 6, (some (.object "CodeShrinker$Item")), [])
def y_It_init : MethodName := ⟨"CodeShrinker$Item", "<init>", "(IILCodeShrinker$ProgramClass;II)V"⟩
abbrev b_It_init : ByteArray := prog_3_method_1_code
def M_It_init : vM := (y_It_init, b_It_init, 6, none, [])
def y_Lw_keep : MethodName := ⟨"CodeShrinkerLaw", "keep", "(LCodeShrinker;IZ)I"⟩
abbrev b_Lw_keep : ByteArray := method_6_code
def M_Lw_keep : vM := (y_Lw_keep, b_Lw_keep, 4, (some .int), [(0, 6, 9, 13)])
def y_Cs_keep : MethodName := ⟨"CodeShrinker", "keep", "(IZ)V"⟩
abbrev b_Cs_keep : ByteArray := prog_1_method_5_code
def M_Cs_keep : vM := (y_Cs_keep, b_Cs_keep, 3, none, [])
def y_Lw_run : MethodName := ⟨"CodeShrinkerLaw", "run", "(LCodeShrinker;III[J)I"⟩
abbrev b_Lw_run : ByteArray := method_7_code
def M_Lw_run : vM := (y_Lw_run, b_Lw_run, 6, (some .int), [(0, 12, 15, 13), (0, 12, 19, 32), (0, 12, 23, 15)])
def y_Cs_run : MethodName := ⟨"CodeShrinker", "run", "(III)I"⟩
abbrev b_Cs_run : ByteArray := prog_1_method_6_code
def M_Cs_run : vM := (y_Cs_run, b_Cs_run, 4, (some .int), [])
def y_Ru_outcomeOf : MethodName := ⟨"CodeShrinker$Runner", "outcomeOf", "(LCodeShrinker$ProgramClass;II)I"⟩
abbrev b_Ru_outcomeOf : ByteArray := prog_8_method_2_code
def M_Ru_outcomeOf : vM := (y_Ru_outcomeOf, b_Ru_outcomeOf, 4, (some .int), [])
def y_Ru_perform : MethodName := ⟨"CodeShrinker$Runner", "perform", "(LCodeShrinker$ProgramClass;III)V"⟩
abbrev b_Ru_perform : ByteArray := prog_8_method_3_code
def M_Ru_perform : vM := (y_Ru_perform, b_Ru_perform, 7, none, [])
def y_Ns_init : MethodName := ⟨"java/util/NoSuchElementException", "<init>", "(Ljava/lang/String;)V"⟩
abbrev b_Ns_init : ByteArray := prog_28_method_4_code
def M_Ns_init : vM := (y_Ns_init, b_Ns_init, 2, none, [])
def y_Ru_performItem : MethodName := ⟨"CodeShrinker$Runner", "performItem", "(LCodeShrinker$Item;LCodeShrinker$ProgramClass;I)V"⟩
abbrev b_Ru_performItem : ByteArray := prog_8_method_4_code
def M_Ru_performItem : vM := (y_Ru_performItem, b_Ru_performItem, 5, none, [])
def y_Lw_told : MethodName := ⟨"CodeShrinkerLaw", "told", "(LCodeShrinker;II[J)I"⟩
abbrev b_Lw_told : ByteArray := method_8_code
def M_Lw_told : vM := (y_Lw_told, b_Lw_told, 5, (some .int), [(0, 10, 13, 13)])
def y_Cs_told : MethodName := ⟨"CodeShrinker", "told", "(II)I"⟩
abbrev b_Cs_told : ByteArray := prog_1_method_9_code
def M_Cs_told : vM := (y_Cs_told, b_Cs_told, 4, (some .int), [])
def y_Lw_inside : MethodName := ⟨"CodeShrinkerLaw", "inside", "(LCodeShrinker;III[J)I"⟩
abbrev b_Lw_inside : ByteArray := method_9_code
def M_Lw_inside : vM := (y_Lw_inside, b_Lw_inside, 6, (some .int), [(0, 12, 15, 13), (0, 12, 19, 32)])
def y_Cs_inside : MethodName := ⟨"CodeShrinker", "inside", "(III)I"⟩
abbrev b_Cs_inside : ByteArray := prog_1_method_10_code
def M_Cs_inside : vM := (y_Cs_inside, b_Cs_inside, 5, (some .int), [])
def y_It_part : MethodName := ⟨"CodeShrinker$Item", "part", "(I)I"⟩
abbrev b_It_part : ByteArray := prog_3_method_2_code
def M_It_part : vM := (y_It_part, b_It_part, 2, (some .int), [])
def y_Lw_trace : MethodName := ⟨"CodeShrinkerLaw", "trace", "(LCodeShrinker;III[J)I"⟩
abbrev b_Lw_trace : ByteArray := method_10_code
def M_Lw_trace : vM := (y_Lw_trace, b_Lw_trace, 6, (some .int), [(0, 12, 15, 13), (0, 12, 19, 32)])
def y_Cs_trace : MethodName := ⟨"CodeShrinker", "trace", "(III)I"⟩
abbrev b_Cs_trace : ByteArray := prog_1_method_11_code
def M_Cs_trace : vM := (y_Cs_trace, b_Cs_trace, 5, (some .int), [])
def y_Mo_init : MethodName := ⟨"CodeShrinkerModel", "<init>", "()V"⟩
abbrev b_Mo_init : ByteArray := prog_10_method_1_code
def M_Mo_init : vM := (y_Mo_init, b_Mo_init, 1, none, [])
def y_Mo_thrown : MethodName := ⟨"CodeShrinkerModel", "thrown", "()I"⟩
abbrev b_Mo_thrown : ByteArray := prog_10_method_2_code
def M_Mo_thrown : vM := (y_Mo_thrown, b_Mo_thrown, 1, (some .int), [])
def y_Mo_add : MethodName := ⟨"CodeShrinkerModel", "add", "(I)I"⟩
abbrev b_Mo_add : ByteArray := prog_10_method_8_code
def M_Mo_add : vM := (y_Mo_add, b_Mo_add, 2, (some .int), [])
def y_Mo_isClass : MethodName := ⟨"CodeShrinkerModel", "isClass", "(I)Z"⟩
abbrev b_Mo_isClass : ByteArray := prog_10_method_6_code
def M_Mo_isClass : vM := (y_Mo_isClass, b_Mo_isClass, 2, (some .boolean), [])
def y_Mo_in : MethodName := ⟨"CodeShrinkerModel", "in", "(III)Z"⟩
abbrev b_Mo_in : ByteArray := prog_10_method_3_code
def M_Mo_in : vM := (y_Mo_in, b_Mo_in, 3, (some .boolean), [])
def y_Mo_bad : MethodName := ⟨"CodeShrinkerModel", "bad", "(Z)Z"⟩
abbrev b_Mo_bad : ByteArray := prog_10_method_4_code
def M_Mo_bad : vM := (y_Mo_bad, b_Mo_bad, 2, (some .boolean), [])
def y_Mo_fail : MethodName := ⟨"CodeShrinkerModel", "fail", "(I)I"⟩
abbrev b_Mo_fail : ByteArray := prog_10_method_5_code
def M_Mo_fail : vM := (y_Mo_fail, b_Mo_fail, 2, (some .int), [])
def y_Mo_method : MethodName := ⟨"CodeShrinkerModel", "method", "(III)I"⟩
abbrev b_Mo_method : ByteArray := prog_10_method_11_code
def M_Mo_method : vM := (y_Mo_method, b_Mo_method, 4, (some .int), [])
def y_Mo_own : MethodName := ⟨"CodeShrinkerModel", "own", "(III)I"⟩
abbrev b_Mo_own : ByteArray := prog_10_method_9_code
def M_Mo_own : vM := (y_Mo_own, b_Mo_own, 5, (some .int), [])
def y_Mo_item : MethodName := ⟨"CodeShrinkerModel", "item", "(IIIII)I"⟩
abbrev b_Mo_item : ByteArray := prog_10_method_12_code
def M_Mo_item : vM := (y_Mo_item, b_Mo_item, 8, (some .int), [])
def y_Mo_isMethod : MethodName := ⟨"CodeShrinkerModel", "isMethod", "(I)Z"⟩
abbrev b_Mo_isMethod : ByteArray := prog_10_method_7_code
def M_Mo_isMethod : vM := (y_Mo_isMethod, b_Mo_isMethod, 2, (some .boolean), [])
def y_Mo_keep : MethodName := ⟨"CodeShrinkerModel", "keep", "(IZ)V"⟩
abbrev b_Mo_keep : ByteArray := prog_10_method_13_code
def M_Mo_keep : vM := (y_Mo_keep, b_Mo_keep, 3, none, [])
def y_Mo_run : MethodName := ⟨"CodeShrinkerModel", "run", "(III)I"⟩
abbrev b_Mo_run : ByteArray := prog_10_method_14_code
def M_Mo_run : vM := (y_Mo_run, b_Mo_run, 13, (some .int), [])
def y_Mo_find : MethodName := ⟨"CodeShrinkerModel", "find", "(III)I"⟩
abbrev b_Mo_find : ByteArray := prog_10_method_10_code
def M_Mo_find : vM := (y_Mo_find, b_Mo_find, 6, (some .int), [])
def y_Mo_shrink : MethodName := ⟨"CodeShrinkerModel", "shrink", "()I"⟩
abbrev b_Mo_shrink : ByteArray := prog_10_method_21_code
def M_Mo_shrink : vM := (y_Mo_shrink, b_Mo_shrink, 6, (some .int), [])
def y_Mo_findLive : MethodName := ⟨"CodeShrinkerModel", "findLive", "()V"⟩
abbrev b_Mo_findLive : ByteArray := prog_10_method_19_code
def M_Mo_findLive : vM := (y_Mo_findLive, b_Mo_findLive, 4, none, [])
def y_Mo_need : MethodName := ⟨"CodeShrinkerModel", "need", "(II)Z"⟩
abbrev b_Mo_need : ByteArray := prog_10_method_18_code
def M_Mo_need : vM := (y_Mo_need, b_Mo_need, 5, (some .boolean), [])
def y_Mo_enliven : MethodName := ⟨"CodeShrinkerModel", "enliven", "(II)Z"⟩
abbrev b_Mo_enliven : ByteArray := prog_10_method_17_code
def M_Mo_enliven : vM := (y_Mo_enliven, b_Mo_enliven, 4, (some .boolean), [])
def y_Mo_above : MethodName := ⟨"CodeShrinkerModel", "above", "(II)Z"⟩
abbrev b_Mo_above : ByteArray := prog_10_method_15_code
def M_Mo_above : vM := (y_Mo_above, b_Mo_above, 4, (some .boolean), [])
def y_Mo_moveMethod : MethodName := ⟨"CodeShrinkerModel", "moveMethod", "(II)V"⟩
abbrev b_Mo_moveMethod : ByteArray := prog_10_method_20_code
def M_Mo_moveMethod : vM := (y_Mo_moveMethod, b_Mo_moveMethod, 6, none, [])
def y_Mo_rename : MethodName := ⟨"CodeShrinkerModel", "rename", "()I"⟩
abbrev b_Mo_rename : ByteArray := prog_10_method_28_code
def M_Mo_rename : vM := (y_Mo_rename, b_Mo_rename, 7, (some .int), [])
def y_Mo_gather : MethodName := ⟨"CodeShrinkerModel", "gather", "()I"⟩
abbrev b_Mo_gather : ByteArray := prog_10_method_23_code
def M_Mo_gather : vM := (y_Mo_gather, b_Mo_gather, 5, (some .int), [])
def y_Mo_member : MethodName := ⟨"CodeShrinkerModel", "member", "(IIII)V"⟩
abbrev b_Mo_member : ByteArray := prog_10_method_22_code
def M_Mo_member : vM := (y_Mo_member, b_Mo_member, 5, none, [])
def y_Mo_alike : MethodName := ⟨"CodeShrinkerModel", "alike", "(II)Z"⟩
abbrev b_Mo_alike : ByteArray := prog_10_method_24_code
def M_Mo_alike : vM := (y_Mo_alike, b_Mo_alike, 3, (some .boolean), [])
def y_Mo_related : MethodName := ⟨"CodeShrinkerModel", "related", "(II)Z"⟩
abbrev b_Mo_related : ByteArray := prog_10_method_16_code
def M_Mo_related : vM := (y_Mo_related, b_Mo_related, 3, (some .boolean), [])
def y_Mo_keptFamily : MethodName := ⟨"CodeShrinkerModel", "keptFamily", "(I)Z"⟩
abbrev b_Mo_keptFamily : ByteArray := prog_10_method_25_code
def M_Mo_keptFamily : vM := (y_Mo_keptFamily, b_Mo_keptFamily, 3, (some .boolean), [])
def y_Mo_freeName : MethodName := ⟨"CodeShrinkerModel", "freeName", "(II)I"⟩
abbrev b_Mo_freeName : ByteArray := prog_10_method_27_code
def M_Mo_freeName : vM := (y_Mo_freeName, b_Mo_freeName, 6, (some .int), [])
def y_Mo_clash : MethodName := ⟨"CodeShrinkerModel", "clash", "(III)Z"⟩
abbrev b_Mo_clash : ByteArray := prog_10_method_26_code
def M_Mo_clash : vM := (y_Mo_clash, b_Mo_clash, 6, (some .boolean), [])
def y_Mo_told : MethodName := ⟨"CodeShrinkerModel", "told", "(II)I"⟩
abbrev b_Mo_told : ByteArray := prog_10_method_29_code
def M_Mo_told : vM := (y_Mo_told, b_Mo_told, 3, (some .int), [])
def y_Mo_inside : MethodName := ⟨"CodeShrinkerModel", "inside", "(III)I"⟩
abbrev b_Mo_inside : ByteArray := prog_10_method_30_code
def M_Mo_inside : vM := (y_Mo_inside, b_Mo_inside, 5, (some .int), [])
def y_Mo_trace : MethodName := ⟨"CodeShrinkerModel", "trace", "(III)I"⟩
abbrev b_Mo_trace : ByteArray := prog_10_method_31_code
def M_Mo_trace : vM := (y_Mo_trace, b_Mo_trace, 5, (some .int), [])
def y_Mo_count : MethodName := ⟨"CodeShrinkerModel", "count", "(I)I"⟩
abbrev b_Mo_count : ByteArray := prog_10_method_32_code
def M_Mo_count : vM := (y_Mo_count, b_Mo_count, 4, (some .int), [])
def y_Lw_law : MethodName := ⟨"CodeShrinkerLaw", "law", "([I)Z"⟩
abbrev b_Lw_law : ByteArray := code
def M_Lw_law : vM := (y_Lw_law, b_Lw_law, 7, (some .boolean), [])
def vGood (w : Cond) : Bool := goodWord w || (w.onTables && w.keepsFace)
def vT : List Cond := lw_tbl.filter vGood
theorem vT_of {w : Cond} (h : w ∈ tables_1) (g : vGood w = true) : w ∈ vT := List.mem_filter.mpr ⟨List.mem_append_right _ h, g⟩
theorem vT_1 {w : Cond} (i : Nat) (h : tables_1_1[i]? = some w) (g : vGood w = true) : w ∈ vT := vT_of (by have h := List.mem_of_getElem? h; exact List.mem_append_left _ h) g
theorem vT_2 {w : Cond} (i : Nat) (h : tables_1_2[i]? = some w) (g : vGood w = true) : w ∈ vT := vT_of (by have h := List.mem_of_getElem? h; exact List.mem_append_right _ (List.mem_append_left _ h)) g
theorem vT_3 {w : Cond} (i : Nat) (h : tables_1_3[i]? = some w) (g : vGood w = true) : w ∈ vT := vT_of (by have h := List.mem_of_getElem? h; exact List.mem_append_right _ (List.mem_append_right _ (List.mem_append_left _ h))) g
theorem vT_4 {w : Cond} (i : Nat) (h : tables_1_4[i]? = some w) (g : vGood w = true) : w ∈ vT := vT_of (by have h := List.mem_of_getElem? h; exact List.mem_append_right _ (List.mem_append_right _ (List.mem_append_right _ (List.mem_append_left _ h)))) g
theorem vT_5 {w : Cond} (i : Nat) (h : tables_1_5[i]? = some w) (g : vGood w = true) : w ∈ vT := vT_of (by have h := List.mem_of_getElem? h; exact List.mem_append_right _ (List.mem_append_right _ (List.mem_append_right _ (List.mem_append_right _ (h))))) g
theorem vT_sel {w : Cond} (i : Nat) (h : (k2_sels lw_privs)[i]? = some w) (g : vGood w = true) : w ∈ vT := List.mem_filter.mpr ⟨List.mem_append_left _ (List.mem_of_getElem? h), g⟩
end
section
theorem ki_Lw : (Cond.initialized "CodeShrinkerLaw") ∈ vT := vT_1 0 rfl rfl
theorem ki_Cs : (Cond.initialized "CodeShrinker") ∈ vT := vT_1 1 rfl rfl
theorem ki_Pr : (Cond.initialized "CodeShrinker$Program") ∈ vT := vT_1 2 rfl rfl
theorem ki_Ac : (Cond.initialized "java/util/AbstractCollection") ∈ vT := vT_1 3 rfl rfl
theorem ki_Ab : (Cond.initialized "java/util/AbstractList") ∈ vT := vT_1 4 rfl rfl
theorem ki_Al : (Cond.initialized "java/util/ArrayList") ∈ vT := vT_1 5 rfl rfl
theorem ki_Ru : (Cond.initialized "CodeShrinker$Runner") ∈ vT := vT_1 6 rfl rfl
theorem ki_Re : (Cond.initialized "CodeShrinker$Reach") ∈ vT := vT_1 7 rfl rfl
theorem ki_Fa : (Cond.initialized "CodeShrinker$Families") ∈ vT := vT_1 8 rfl rfl
theorem ki_Mo : (Cond.initialized "CodeShrinkerModel") ∈ vT := vT_1 9 rfl rfl
theorem ki_Th : (Cond.initialized "java/lang/Throwable") ∈ vT := vT_1 10 rfl rfl
theorem ki_Ex : (Cond.initialized "java/lang/Exception") ∈ vT := vT_1 11 rfl rfl
theorem ki_Rt : (Cond.initialized "java/lang/RuntimeException") ∈ vT := vT_1 12 rfl rfl
theorem ki_Ia : (Cond.initialized "java/lang/IllegalArgumentException") ∈ vT := vT_1 13 rfl rfl
theorem ki_Is : (Cond.initialized "java/lang/IllegalStateException") ∈ vT := vT_1 14 rfl rfl
theorem ki_Os : (Cond.initialized "java/util/Objects") ∈ vT := vT_1 15 rfl rfl
theorem ki_Pd : (Cond.initialized "jdk/internal/util/Preconditions") ∈ vT := vT_1 16 rfl rfl
theorem ki_Pc : (Cond.initialized "CodeShrinker$ProgramClass") ∈ vT := vT_1 17 rfl rfl
theorem ki_As : (Cond.initialized "jdk/internal/util/ArraysSupport") ∈ vT := vT_1 18 rfl rfl
theorem ki_Ma : (Cond.initialized "java/lang/Math") ∈ vT := vT_1 19 rfl rfl
theorem ki_Ar : (Cond.initialized "java/util/Arrays") ∈ vT := vT_1 20 rfl rfl
theorem ki_java_lang_System : (Cond.initialized "java/lang/System") ∈ vT := vT_1 21 rfl rfl
theorem ki_Pm : (Cond.initialized "CodeShrinker$ProgramMethod") ∈ vT := vT_1 22 rfl rfl
theorem ki_It : (Cond.initialized "CodeShrinker$Item") ∈ vT := vT_1 23 rfl rfl
theorem ki_Ns : (Cond.initialized "java/util/NoSuchElementException") ∈ vT := vT_1 24 rfl rfl
theorem kc_Lw_8 : (Cond.classLink "CodeShrinkerLaw" 8 "CodeShrinker") ∈ vT := vT_1 25 rfl rfl
theorem kn_Cs : (Cond.instantiable "CodeShrinker" 5) ∈ vT := vT_1 26 rfl rfl
theorem km_Lw_44 : (Cond.methodLink "CodeShrinkerLaw" 44 ⟨"CodeShrinker", "<init>", "()V"⟩) ∈ vT := vT_1 27 rfl rfl
theorem kI_Cs_init : (Cond.instanceMethod ⟨"CodeShrinker", "<init>", "()V"⟩) ∈ vT := vT_1 28 rfl rfl
theorem kM_Cs_init : (Cond.code ⟨"CodeShrinker", "<init>", "()V"⟩ prog_1_method_1_code 1 (Option.none : Option Jvm.ClassFile.FieldType)) ∈ vT := vT_1 29 rfl rfl
theorem km_Cs_1 : (Cond.methodLink "CodeShrinker" 1 ⟨"java/lang/Object", "<init>", "()V"⟩) ∈ vT := vT_1 30 rfl rfl
theorem kI_Ob_init : (Cond.instanceMethod ⟨"java/lang/Object", "<init>", "()V"⟩) ∈ vT := vT_1 31 rfl rfl
theorem kM_Ob_init : (Cond.code ⟨"java/lang/Object", "<init>", "()V"⟩ object_method_1_code 1 (Option.none : Option Jvm.ClassFile.FieldType)) ∈ vT := vT_1 32 rfl rfl
theorem kc_Cs_7 : (Cond.classLink "CodeShrinker" 7 "CodeShrinker$Program") ∈ vT := vT_1 33 rfl rfl
theorem kn_Pr : (Cond.instantiable "CodeShrinker$Program" 2) ∈ vT := vT_1 34 rfl rfl
theorem km_Cs_9 : (Cond.methodLink "CodeShrinker" 9 ⟨"CodeShrinker$Program", "<init>", "()V"⟩) ∈ vT := vT_1 35 rfl rfl
theorem kI_Pr_init : (Cond.instanceMethod ⟨"CodeShrinker$Program", "<init>", "()V"⟩) ∈ vT := vT_1 36 rfl rfl
theorem kM_Pr_init : (Cond.code ⟨"CodeShrinker$Program", "<init>", "()V"⟩ prog_4_method_1_code 1 (Option.none : Option Jvm.ClassFile.FieldType)) ∈ vT := vT_1 37 rfl rfl
theorem km_Pr_1 : (Cond.methodLink "CodeShrinker$Program" 1 ⟨"java/lang/Object", "<init>", "()V"⟩) ∈ vT := vT_1 38 rfl rfl
theorem kc_Pr_7 : (Cond.classLink "CodeShrinker$Program" 7 "java/util/ArrayList") ∈ vT := vT_1 39 rfl rfl
theorem kn_Al : (Cond.instantiable "java/util/ArrayList" 3) ∈ vT := vT_1 40 rfl rfl
theorem km_Pr_9 : (Cond.methodLink "CodeShrinker$Program" 9 ⟨"java/util/ArrayList", "<init>", "()V"⟩) ∈ vT := vT_1 41 rfl rfl
theorem kI_Al_init : (Cond.instanceMethod ⟨"java/util/ArrayList", "<init>", "()V"⟩) ∈ vT := vT_1 42 rfl rfl
theorem kM_Al_init : (Cond.code ⟨"java/util/ArrayList", "<init>", "()V"⟩ prog_24_method_2_code 1 (Option.none : Option Jvm.ClassFile.FieldType)) ∈ vT := vT_1 43 rfl rfl
theorem km_Al_1 : (Cond.methodLink "java/util/ArrayList" 1 ⟨"java/util/AbstractList", "<init>", "()V"⟩) ∈ vT := vT_1 44 rfl rfl
theorem kI_Ab_init : (Cond.instanceMethod ⟨"java/util/AbstractList", "<init>", "()V"⟩) ∈ vT := vT_1 45 rfl rfl
theorem kM_Ab_init : (Cond.code ⟨"java/util/AbstractList", "<init>", "()V"⟩ prog_23_method_1_code 1 (Option.none : Option Jvm.ClassFile.FieldType)) ∈ vT := vT_1 46 rfl rfl
theorem km_Ab_1 : (Cond.methodLink "java/util/AbstractList" 1 ⟨"java/util/AbstractCollection", "<init>", "()V"⟩) ∈ vT := vT_1 47 rfl rfl
theorem kI_Ac_init : (Cond.instanceMethod ⟨"java/util/AbstractCollection", "<init>", "()V"⟩) ∈ vT := vT_1 48 rfl rfl
theorem kM_Ac_init : (Cond.code ⟨"java/util/AbstractCollection", "<init>", "()V"⟩ prog_22_method_1_code 1 (Option.none : Option Jvm.ClassFile.FieldType)) ∈ vT := vT_1 49 rfl rfl
theorem km_Ac_1 : (Cond.methodLink "java/util/AbstractCollection" 1 ⟨"java/lang/Object", "<init>", "()V"⟩) ∈ vT := vT_1 50 rfl rfl
theorem kf_Al_39 : (Cond.fieldLink "java/util/ArrayList" 39 "java/util/ArrayList" "DEFAULTCAPACITY_EMPTY_ELEMENTDATA" "[Ljava/lang/Object;") ∈ vT := vT_1 51 rfl rfl
theorem kf_Al_9 : (Cond.fieldLink "java/util/ArrayList" 9 "java/util/ArrayList" "elementData" "[Ljava/lang/Object;") ∈ vT := vT_1 53 rfl rfl
theorem kf_Al_48 : (Cond.fieldLink "java/util/ArrayList" 48 "java/util/ArrayList" "size" "I") ∈ vT := vT_1 54 rfl rfl
theorem kf_Ab_7 : (Cond.fieldLink "java/util/AbstractList" 7 "java/util/AbstractList" "modCount" "I") ∈ vT := vT_1 55 rfl rfl
theorem kf_Al_63 : (Cond.fieldLink "java/util/ArrayList" 63 "java/util/ArrayList" "modCount" "I") ∈ vT := vT_1 56 rfl rfl
theorem kz_57 : (Cond.sameField "java/util/ArrayList" "java/util/AbstractList" "modCount" "I") ∈ vT := vT_1 57 rfl rfl
theorem kz_58 : (Cond.lays "java/util/ArrayList" "java/util/ArrayList" "elementData" "[Ljava/lang/Object;") ∈ vT := vT_1 58 rfl rfl
theorem kz_59 : (Cond.soleField "java/util/ArrayList" "elementData") ∈ vT := vT_1 59 rfl rfl
theorem kz_60 : (Cond.lays "java/util/ArrayList" "java/util/ArrayList" "size" "I") ∈ vT := vT_1 60 rfl rfl
theorem kz_61 : (Cond.soleField "java/util/ArrayList" "size") ∈ vT := vT_1 61 rfl rfl
theorem kz_62 : (Cond.lays "java/util/ArrayList" "java/util/AbstractList" "modCount" "I") ∈ vT := vT_1 62 rfl rfl
theorem kz_63 : (Cond.soleField "java/util/AbstractList" "modCount") ∈ vT := vT_1 63 rfl rfl
theorem kz_64 : (Cond.superclass "java/util/ArrayList" "java/util/AbstractList") ∈ vT := vT_1 64 rfl rfl
theorem kf_Pr_10 : (Cond.fieldLink "CodeShrinker$Program" 10 "CodeShrinker$Program" "classes" "Ljava/util/ArrayList;") ∈ vT := vT_1 65 rfl rfl
theorem kf_Cs_51 : (Cond.fieldLink "CodeShrinker" 51 "CodeShrinker$Program" "classes" "Ljava/util/ArrayList;") ∈ vT := vT_1 66 rfl rfl
theorem kf_Re_28 : (Cond.fieldLink "CodeShrinker$Reach" 28 "CodeShrinker$Program" "classes" "Ljava/util/ArrayList;") ∈ vT := vT_1 67 rfl rfl
theorem kf_Fa_91 : (Cond.fieldLink "CodeShrinker$Families" 91 "CodeShrinker$Program" "classes" "Ljava/util/ArrayList;") ∈ vT := vT_1 68 rfl rfl
theorem kf_Pr_16 : (Cond.fieldLink "CodeShrinker$Program" 16 "CodeShrinker$Program" "methods" "Ljava/util/ArrayList;") ∈ vT := vT_1 69 rfl rfl
theorem kf_Fa_42 : (Cond.fieldLink "CodeShrinker$Families" 42 "CodeShrinker$Program" "methods" "Ljava/util/ArrayList;") ∈ vT := vT_1 70 rfl rfl
theorem kf_Cs_87 : (Cond.fieldLink "CodeShrinker" 87 "CodeShrinker$Program" "methods" "Ljava/util/ArrayList;") ∈ vT := vT_1 71 rfl rfl
theorem kf_Re_49 : (Cond.fieldLink "CodeShrinker$Reach" 49 "CodeShrinker$Program" "methods" "Ljava/util/ArrayList;") ∈ vT := vT_1 72 rfl rfl
theorem kz_73 : (Cond.laysFinal "CodeShrinker$Program" "CodeShrinker$Program" "classes" "Ljava/util/ArrayList;") ∈ vT := vT_1 73 rfl rfl
theorem kz_74 : (Cond.soleField "CodeShrinker$Program" "classes") ∈ vT := vT_1 74 rfl rfl
theorem kz_75 : (Cond.laysFinal "CodeShrinker$Program" "CodeShrinker$Program" "methods" "Ljava/util/ArrayList;") ∈ vT := vT_1 75 rfl rfl
theorem kz_76 : (Cond.soleField "CodeShrinker$Program" "methods") ∈ vT := vT_1 76 rfl rfl
theorem kz_77 : (Cond.superclass "CodeShrinker$Program" "java/lang/Object") ∈ vT := vT_1 77 rfl rfl
theorem kc_Cs_16 : (Cond.classLink "CodeShrinker" 16 "CodeShrinker$Runner") ∈ vT := vT_1 78 rfl rfl
theorem kn_Ru : (Cond.instantiable "CodeShrinker$Runner" 2) ∈ vT := vT_1 79 rfl rfl
theorem kI_Ru_init : (Cond.instanceMethod ⟨"CodeShrinker$Runner", "<init>", "()V"⟩) ∈ vT := vT_1 81 rfl rfl
theorem kM_Ru_init : (Cond.code ⟨"CodeShrinker$Runner", "<init>", "()V"⟩ prog_8_method_1_code 1 (Option.none : Option Jvm.ClassFile.FieldType)) ∈ vT := vT_1 82 rfl rfl
theorem km_Ru_3 : (Cond.methodLink "CodeShrinker$Runner" 3 ⟨"java/lang/Object", "<init>", "()V"⟩) ∈ vT := vT_1 83 rfl rfl
theorem kf_Ru_9 : (Cond.fieldLink "CodeShrinker$Runner" 9 "CodeShrinker$Runner" "outcome" "I") ∈ vT := vT_1 84 rfl rfl
theorem kf_Ru_15 : (Cond.fieldLink "CodeShrinker$Runner" 15 "CodeShrinker$Runner" "itemsDone" "I") ∈ vT := vT_1 85 rfl rfl
theorem kz_86 : (Cond.lays "CodeShrinker$Runner" "CodeShrinker$Runner" "outcome" "I") ∈ vT := vT_1 86 rfl rfl
theorem kz_87 : (Cond.soleField "CodeShrinker$Runner" "outcome") ∈ vT := vT_1 87 rfl rfl
theorem kz_88 : (Cond.lays "CodeShrinker$Runner" "CodeShrinker$Runner" "itemsDone" "I") ∈ vT := vT_1 88 rfl rfl
theorem kz_89 : (Cond.soleField "CodeShrinker$Runner" "itemsDone") ∈ vT := vT_1 89 rfl rfl
theorem kz_90 : (Cond.superclass "CodeShrinker$Runner" "java/lang/Object") ∈ vT := vT_1 90 rfl rfl
theorem kc_Cs_23 : (Cond.classLink "CodeShrinker" 23 "CodeShrinker$Reach") ∈ vT := vT_1 91 rfl rfl
theorem kn_Re : (Cond.instantiable "CodeShrinker$Reach" 2) ∈ vT := vT_1 92 rfl rfl
theorem km_Cs_25 : (Cond.methodLink "CodeShrinker" 25 ⟨"CodeShrinker$Reach", "<init>", "(LCodeShrinker$Program;)V"⟩) ∈ vT := vT_1 93 rfl rfl
theorem kI_Re_init : (Cond.instanceMethod ⟨"CodeShrinker$Reach", "<init>", "(LCodeShrinker$Program;)V"⟩) ∈ vT := vT_1 94 rfl rfl
theorem kM_Re_init : (Cond.code ⟨"CodeShrinker$Reach", "<init>", "(LCodeShrinker$Program;)V"⟩ prog_7_method_1_code 2 (Option.none : Option Jvm.ClassFile.FieldType)) ∈ vT := vT_1 95 rfl rfl
theorem km_Re_3 : (Cond.methodLink "CodeShrinker$Reach" 3 ⟨"java/lang/Object", "<init>", "()V"⟩) ∈ vT := vT_1 96 rfl rfl
theorem kf_Re_9 : (Cond.fieldLink "CodeShrinker$Reach" 9 "CodeShrinker$Reach" "program" "LCodeShrinker$Program;") ∈ vT := vT_1 97 rfl rfl
theorem kf_Re_15 : (Cond.fieldLink "CodeShrinker$Reach" 15 "CodeShrinker$Reach" "grew" "Z") ∈ vT := vT_1 98 rfl rfl
theorem kz_99 : (Cond.laysFinal "CodeShrinker$Reach" "CodeShrinker$Reach" "program" "LCodeShrinker$Program;") ∈ vT := vT_1 99 rfl rfl
theorem kz_100 : (Cond.soleField "CodeShrinker$Reach" "program") ∈ vT := vT_1 100 rfl rfl
theorem kz_101 : (Cond.lays "CodeShrinker$Reach" "CodeShrinker$Reach" "grew" "Z") ∈ vT := vT_1 101 rfl rfl
theorem kz_102 : (Cond.soleField "CodeShrinker$Reach" "grew") ∈ vT := vT_1 102 rfl rfl
theorem kz_103 : (Cond.superclass "CodeShrinker$Reach" "java/lang/Object") ∈ vT := vT_1 103 rfl rfl
theorem kc_Cs_32 : (Cond.classLink "CodeShrinker" 32 "CodeShrinker$Families") ∈ vT := vT_1 104 rfl rfl
theorem kn_Fa : (Cond.instantiable "CodeShrinker$Families" 8) ∈ vT := vT_1 105 rfl rfl
theorem km_Cs_34 : (Cond.methodLink "CodeShrinker" 34 ⟨"CodeShrinker$Families", "<init>", "(LCodeShrinker$Program;)V"⟩) ∈ vT := vT_1 106 rfl rfl
theorem kI_Fa_init : (Cond.instanceMethod ⟨"CodeShrinker$Families", "<init>", "(LCodeShrinker$Program;)V"⟩) ∈ vT := vT_1 107 rfl rfl
theorem kM_Fa_init : (Cond.code ⟨"CodeShrinker$Families", "<init>", "(LCodeShrinker$Program;)V"⟩ prog_2_method_1_code 2 (Option.none : Option Jvm.ClassFile.FieldType)) ∈ vT := vT_1 108 rfl rfl
theorem km_Fa_3 : (Cond.methodLink "CodeShrinker$Families" 3 ⟨"java/lang/Object", "<init>", "()V"⟩) ∈ vT := vT_1 109 rfl rfl
theorem kf_Fa_9 : (Cond.fieldLink "CodeShrinker$Families" 9 "CodeShrinker$Families" "program" "LCodeShrinker$Program;") ∈ vT := vT_1 110 rfl rfl
theorem kf_Fa_15 : (Cond.fieldLink "CodeShrinker$Families" 15 "CodeShrinker$Families" "relatives" "[I") ∈ vT := vT_1 111 rfl rfl
theorem kf_Fa_19 : (Cond.fieldLink "CodeShrinker$Families" 19 "CodeShrinker$Families" "names" "[I") ∈ vT := vT_1 112 rfl rfl
theorem kf_Fa_22 : (Cond.fieldLink "CodeShrinker$Families" 22 "CodeShrinker$Families" "arities" "[I") ∈ vT := vT_1 113 rfl rfl
theorem kf_Fa_25 : (Cond.fieldLink "CodeShrinker$Families" 25 "CodeShrinker$Families" "members" "[I") ∈ vT := vT_1 114 rfl rfl
theorem kf_Fa_28 : (Cond.fieldLink "CodeShrinker$Families" 28 "CodeShrinker$Families" "newNames" "[I") ∈ vT := vT_1 115 rfl rfl
theorem kf_Fa_31 : (Cond.fieldLink "CodeShrinker$Families" 31 "CodeShrinker$Families" "kept" "[Z") ∈ vT := vT_1 116 rfl rfl
theorem kf_Fa_35 : (Cond.fieldLink "CodeShrinker$Families" 35 "CodeShrinker$Families" "size" "I") ∈ vT := vT_1 117 rfl rfl
theorem kf_Cs_141 : (Cond.fieldLink "CodeShrinker" 141 "CodeShrinker$Families" "size" "I") ∈ vT := vT_1 118 rfl rfl
theorem kz_119 : (Cond.laysFinal "CodeShrinker$Families" "CodeShrinker$Families" "program" "LCodeShrinker$Program;") ∈ vT := vT_1 119 rfl rfl
theorem kz_120 : (Cond.soleField "CodeShrinker$Families" "program") ∈ vT := vT_1 120 rfl rfl
theorem kz_121 : (Cond.laysFinal "CodeShrinker$Families" "CodeShrinker$Families" "relatives" "[I") ∈ vT := vT_1 121 rfl rfl
theorem kz_122 : (Cond.soleField "CodeShrinker$Families" "relatives") ∈ vT := vT_1 122 rfl rfl
theorem kz_123 : (Cond.laysFinal "CodeShrinker$Families" "CodeShrinker$Families" "names" "[I") ∈ vT := vT_1 123 rfl rfl
theorem kz_124 : (Cond.soleField "CodeShrinker$Families" "names") ∈ vT := vT_1 124 rfl rfl
theorem kz_125 : (Cond.laysFinal "CodeShrinker$Families" "CodeShrinker$Families" "arities" "[I") ∈ vT := vT_1 125 rfl rfl
theorem kz_126 : (Cond.soleField "CodeShrinker$Families" "arities") ∈ vT := vT_1 126 rfl rfl
theorem kz_127 : (Cond.laysFinal "CodeShrinker$Families" "CodeShrinker$Families" "members" "[I") ∈ vT := vT_1 127 rfl rfl
theorem kz_128 : (Cond.soleField "CodeShrinker$Families" "members") ∈ vT := vT_1 128 rfl rfl
theorem kz_129 : (Cond.laysFinal "CodeShrinker$Families" "CodeShrinker$Families" "newNames" "[I") ∈ vT := vT_1 129 rfl rfl
theorem kz_130 : (Cond.soleField "CodeShrinker$Families" "newNames") ∈ vT := vT_1 130 rfl rfl
theorem kz_131 : (Cond.laysFinal "CodeShrinker$Families" "CodeShrinker$Families" "kept" "[Z") ∈ vT := vT_1 131 rfl rfl
theorem kz_132 : (Cond.soleField "CodeShrinker$Families" "kept") ∈ vT := vT_1 132 rfl rfl
theorem kz_133 : (Cond.lays "CodeShrinker$Families" "CodeShrinker$Families" "size" "I") ∈ vT := vT_1 133 rfl rfl
theorem kz_134 : (Cond.soleField "CodeShrinker$Families" "size") ∈ vT := vT_1 134 rfl rfl
theorem kz_135 : (Cond.superclass "CodeShrinker$Families" "java/lang/Object") ∈ vT := vT_1 135 rfl rfl
theorem kz_136 : (Cond.arrayClass .int) ∈ vT := vT_1 136 rfl rfl
theorem kz_137 : (Cond.arrayClass .boolean) ∈ vT := vT_1 137 rfl rfl
theorem kf_Cs_10 : (Cond.fieldLink "CodeShrinker" 10 "CodeShrinker" "program" "LCodeShrinker$Program;") ∈ vT := vT_1 138 rfl rfl
theorem kf_Cs_19 : (Cond.fieldLink "CodeShrinker" 19 "CodeShrinker" "runner" "LCodeShrinker$Runner;") ∈ vT := vT_1 139 rfl rfl
theorem kf_Cs_28 : (Cond.fieldLink "CodeShrinker" 28 "CodeShrinker" "reach" "LCodeShrinker$Reach;") ∈ vT := vT_1 140 rfl rfl
theorem kf_Cs_35 : (Cond.fieldLink "CodeShrinker" 35 "CodeShrinker" "families" "LCodeShrinker$Families;") ∈ vT := vT_1 141 rfl rfl
theorem kf_Cs_39 : (Cond.fieldLink "CodeShrinker" 39 "CodeShrinker" "goneInAll" "I") ∈ vT := vT_1 142 rfl rfl
theorem kz_143 : (Cond.laysFinal "CodeShrinker" "CodeShrinker" "program" "LCodeShrinker$Program;") ∈ vT := vT_1 143 rfl rfl
theorem kz_144 : (Cond.soleField "CodeShrinker" "program") ∈ vT := vT_1 144 rfl rfl
theorem kz_145 : (Cond.laysFinal "CodeShrinker" "CodeShrinker" "runner" "LCodeShrinker$Runner;") ∈ vT := vT_1 145 rfl rfl
theorem kz_146 : (Cond.soleField "CodeShrinker" "runner") ∈ vT := vT_1 146 rfl rfl
theorem kz_147 : (Cond.laysFinal "CodeShrinker" "CodeShrinker" "reach" "LCodeShrinker$Reach;") ∈ vT := vT_1 147 rfl rfl
theorem kz_148 : (Cond.soleField "CodeShrinker" "reach") ∈ vT := vT_1 148 rfl rfl
theorem kz_149 : (Cond.laysFinal "CodeShrinker" "CodeShrinker" "families" "LCodeShrinker$Families;") ∈ vT := vT_1 149 rfl rfl
theorem kz_150 : (Cond.soleField "CodeShrinker" "families") ∈ vT := vT_1 150 rfl rfl
theorem kz_151 : (Cond.lays "CodeShrinker" "CodeShrinker" "goneInAll" "I") ∈ vT := vT_1 151 rfl rfl
theorem kz_152 : (Cond.soleField "CodeShrinker" "goneInAll") ∈ vT := vT_1 152 rfl rfl
theorem kz_153 : (Cond.superclass "CodeShrinker" "java/lang/Object") ∈ vT := vT_1 153 rfl rfl
theorem km_Lw_73 : (Cond.methodLink "CodeShrinkerLaw" 73 ⟨"CodeShrinker", "shrink", "()I"⟩) ∈ vT := vT_1 154 rfl rfl
theorem kI_Cs_shrink : (Cond.instanceMethod ⟨"CodeShrinker", "shrink", "()I"⟩) ∈ vT := vT_1 155 rfl rfl
theorem ks_Cs_Cs_shrink : (Cond.selects "CodeShrinker" ⟨"CodeShrinker", "shrink", "()I"⟩ ⟨"CodeShrinker", "shrink", "()I"⟩) ∈ vT := vT_1 156 rfl rfl
theorem kM_Cs_shrink : (Cond.code ⟨"CodeShrinker", "shrink", "()I"⟩ prog_1_method_7_code 3 (Option.some .int)) ∈ vT := vT_1 157 rfl rfl
theorem km_Cs_55 : (Cond.methodLink "CodeShrinker" 55 ⟨"java/util/ArrayList", "size", "()I"⟩) ∈ vT := vT_1 158 rfl rfl
theorem kI_Al_size : (Cond.instanceMethod ⟨"java/util/ArrayList", "size", "()I"⟩) ∈ vT := vT_1 159 rfl rfl
theorem ks_Al_Al_size : (Cond.selects "java/util/ArrayList" ⟨"java/util/ArrayList", "size", "()I"⟩ ⟨"java/util/ArrayList", "size", "()I"⟩) ∈ vT := vT_1 160 rfl rfl
theorem kM_Al_size : (Cond.code ⟨"java/util/ArrayList", "size", "()I"⟩ prog_24_method_8_code 1 (Option.some .int)) ∈ vT := vT_1 161 rfl rfl
theorem km_Cs_126 : (Cond.methodLink "CodeShrinker" 126 ⟨"CodeShrinker$Reach", "mark", "()V"⟩) ∈ vT := vT_1 162 rfl rfl
theorem kI_Re_mark : (Cond.instanceMethod ⟨"CodeShrinker$Reach", "mark", "()V"⟩) ∈ vT := vT_1 163 rfl rfl
theorem ks_Re_Re_mark : (Cond.selects "CodeShrinker$Reach" ⟨"CodeShrinker$Reach", "mark", "()V"⟩ ⟨"CodeShrinker$Reach", "mark", "()V"⟩) ∈ vT := vT_1 164 rfl rfl
theorem kM_Re_mark : (Cond.code ⟨"CodeShrinker$Reach", "mark", "()V"⟩ prog_7_method_2_code 2 (Option.none : Option Jvm.ClassFile.FieldType)) ∈ vT := vT_1 165 rfl rfl
theorem km_Re_19 : (Cond.methodLink "CodeShrinker$Reach" 19 ⟨"CodeShrinker$Reach", "clearMarks", "()V"⟩) ∈ vT := vT_1 166 rfl rfl
theorem kz_167 : (Cond.privateMethod ⟨"CodeShrinker$Reach", "clearMarks", "()V"⟩) ∈ vT := vT_1 167 rfl rfl
theorem kI_Re_clearMarks : (Cond.instanceMethod ⟨"CodeShrinker$Reach", "clearMarks", "()V"⟩) ∈ vT := vT_1 168 rfl rfl
theorem kM_Re_clearMarks : (Cond.code ⟨"CodeShrinker$Reach", "clearMarks", "()V"⟩ prog_7_method_3_code 2 (Option.none : Option Jvm.ClassFile.FieldType)) ∈ vT := vT_1 169 rfl rfl
theorem km_Re_34 : (Cond.methodLink "CodeShrinker$Reach" 34 ⟨"java/util/ArrayList", "size", "()I"⟩) ∈ vT := vT_1 170 rfl rfl
theorem km_Re_40 : (Cond.methodLink "CodeShrinker$Reach" 40 ⟨"java/util/ArrayList", "get", "(I)Ljava/lang/Object;"⟩) ∈ vT := vT_1 171 rfl rfl
theorem kI_Al_get : (Cond.instanceMethod ⟨"java/util/ArrayList", "get", "(I)Ljava/lang/Object;"⟩) ∈ vT := vT_1 172 rfl rfl
theorem ks_Al_Al_get : (Cond.selects "java/util/ArrayList" ⟨"java/util/ArrayList", "get", "(I)Ljava/lang/Object;"⟩ ⟨"java/util/ArrayList", "get", "(I)Ljava/lang/Object;"⟩) ∈ vT := vT_1 173 rfl rfl
theorem kM_Al_get : (Cond.code ⟨"java/util/ArrayList", "get", "(I)Ljava/lang/Object;"⟩ prog_24_method_20_code 2 (Option.some (.object "java/lang/Object"))) ∈ vT := vT_1 174 rfl rfl
theorem km_Al_118 : (Cond.methodLink "java/util/ArrayList" 118 ⟨"java/util/Objects", "checkIndex", "(II)I"⟩) ∈ vT := vT_1 175 rfl rfl
theorem kS_Os_checkIndex : (Cond.static ⟨"java/util/Objects", "checkIndex", "(II)I"⟩) ∈ vT := vT_1 176 rfl rfl
theorem kM_Os_checkIndex : (Cond.code ⟨"java/util/Objects", "checkIndex", "(II)I"⟩ prog_29_method_17_code 2 (Option.some .int)) ∈ vT := vT_1 177 rfl rfl
theorem km_Os_105 : (Cond.methodLink "java/util/Objects" 105 ⟨"jdk/internal/util/Preconditions", "checkIndex", "(IILjava/util/function/BiFunction;)I"⟩) ∈ vT := vT_1 178 rfl rfl
theorem kS_Pd_checkIndex : (Cond.static ⟨"jdk/internal/util/Preconditions", "checkIndex", "(IILjava/util/function/BiFunction;)I"⟩) ∈ vT := vT_1 179 rfl rfl
theorem kM_Pd_checkIndex : (Cond.code ⟨"jdk/internal/util/Preconditions", "checkIndex", "(IILjava/util/function/BiFunction;)I"⟩ prog_33_method_11_code 3 (Option.some .int)) ∈ vT := vT_1 180 rfl rfl
theorem km_Al_123 : (Cond.methodLink "java/util/ArrayList" 123 ⟨"java/util/ArrayList", "elementData", "(I)Ljava/lang/Object;"⟩) ∈ vT := vT_1 181 rfl rfl
theorem kI_Al_elementData : (Cond.instanceMethod ⟨"java/util/ArrayList", "elementData", "(I)Ljava/lang/Object;"⟩) ∈ vT := vT_1 182 rfl rfl
theorem ks_Al_Al_elementData : (Cond.selects "java/util/ArrayList" ⟨"java/util/ArrayList", "elementData", "(I)Ljava/lang/Object;"⟩ ⟨"java/util/ArrayList", "elementData", "(I)Ljava/lang/Object;"⟩) ∈ vT := vT_1 183 rfl rfl
theorem kM_Al_elementData : (Cond.code ⟨"java/util/ArrayList", "elementData", "(I)Ljava/lang/Object;"⟩ prog_24_method_18_code 2 (Option.some (.object "java/lang/Object"))) ∈ vT := vT_1 184 rfl rfl
theorem kc_Re_44 : (Cond.classLink "CodeShrinker$Reach" 44 "CodeShrinker$ProgramClass") ∈ vT := vT_1 185 rfl rfl
theorem kc_Re_52 : (Cond.classLink "CodeShrinker$Reach" 52 "CodeShrinker$ProgramMethod") ∈ vT := vT_1 186 rfl rfl
theorem km_Re_22 : (Cond.methodLink "CodeShrinker$Reach" 22 ⟨"CodeShrinker$Reach", "markKept", "()V"⟩) ∈ vT := vT_1 187 rfl rfl
theorem kz_188 : (Cond.privateMethod ⟨"CodeShrinker$Reach", "markKept", "()V"⟩) ∈ vT := vT_1 188 rfl rfl
theorem kI_Re_markKept : (Cond.instanceMethod ⟨"CodeShrinker$Reach", "markKept", "()V"⟩) ∈ vT := vT_1 189 rfl rfl
theorem kM_Re_markKept : (Cond.code ⟨"CodeShrinker$Reach", "markKept", "()V"⟩ prog_7_method_4_code 3 (Option.none : Option Jvm.ClassFile.FieldType)) ∈ vT := vT_1 190 rfl rfl
theorem km_Re_60 : (Cond.methodLink "CodeShrinker$Reach" 60 ⟨"CodeShrinker$Reach", "markLive", "(LCodeShrinker$ProgramMethod;)V"⟩) ∈ vT := vT_1 191 rfl rfl
theorem kz_192 : (Cond.privateMethod ⟨"CodeShrinker$Reach", "markLive", "(LCodeShrinker$ProgramMethod;)V"⟩) ∈ vT := vT_1 192 rfl rfl
theorem kI_Re_markLive : (Cond.instanceMethod ⟨"CodeShrinker$Reach", "markLive", "(LCodeShrinker$ProgramMethod;)V"⟩) ∈ vT := vT_1 193 rfl rfl
theorem kM_Re_markLive : (Cond.code ⟨"CodeShrinker$Reach", "markLive", "(LCodeShrinker$ProgramMethod;)V"⟩ prog_7_method_8_code 2 (Option.none : Option Jvm.ClassFile.FieldType)) ∈ vT := vT_1 194 rfl rfl
theorem km_Re_68 : (Cond.methodLink "CodeShrinker$Reach" 68 ⟨"CodeShrinker$Reach", "markMade", "(LCodeShrinker$ProgramClass;)V"⟩) ∈ vT := vT_1 195 rfl rfl
theorem kz_196 : (Cond.privateMethod ⟨"CodeShrinker$Reach", "markMade", "(LCodeShrinker$ProgramClass;)V"⟩) ∈ vT := vT_1 196 rfl rfl
theorem kI_Re_markMade : (Cond.instanceMethod ⟨"CodeShrinker$Reach", "markMade", "(LCodeShrinker$ProgramClass;)V"⟩) ∈ vT := vT_1 197 rfl rfl
theorem kM_Re_markMade : (Cond.code ⟨"CodeShrinker$Reach", "markMade", "(LCodeShrinker$ProgramClass;)V"⟩ prog_7_method_9_code 2 (Option.none : Option Jvm.ClassFile.FieldType)) ∈ vT := vT_1 198 rfl rfl
theorem km_Re_25 : (Cond.methodLink "CodeShrinker$Reach" 25 ⟨"CodeShrinker$Reach", "spreadFromLive", "()V"⟩) ∈ vT := vT_1 199 rfl rfl
theorem kz_200 : (Cond.privateMethod ⟨"CodeShrinker$Reach", "spreadFromLive", "()V"⟩) ∈ vT := vT_1 200 rfl rfl
theorem kI_Re_spreadFromLive : (Cond.instanceMethod ⟨"CodeShrinker$Reach", "spreadFromLive", "()V"⟩) ∈ vT := vT_1 201 rfl rfl
theorem kM_Re_spreadFromLive : (Cond.code ⟨"CodeShrinker$Reach", "spreadFromLive", "()V"⟩ prog_7_method_5_code 3 (Option.none : Option Jvm.ClassFile.FieldType)) ∈ vT := vT_1 202 rfl rfl
theorem km_Re_72 : (Cond.methodLink "CodeShrinker$Reach" 72 ⟨"CodeShrinker$Reach", "spread", "(LCodeShrinker$ProgramMethod;)V"⟩) ∈ vT := vT_1 203 rfl rfl
theorem kz_204 : (Cond.privateMethod ⟨"CodeShrinker$Reach", "spread", "(LCodeShrinker$ProgramMethod;)V"⟩) ∈ vT := vT_1 204 rfl rfl
theorem kI_Re_spread : (Cond.instanceMethod ⟨"CodeShrinker$Reach", "spread", "(LCodeShrinker$ProgramMethod;)V"⟩) ∈ vT := vT_1 205 rfl rfl
theorem kM_Re_spread : (Cond.code ⟨"CodeShrinker$Reach", "spread", "(LCodeShrinker$ProgramMethod;)V"⟩ prog_7_method_6_code 4 (Option.none : Option Jvm.ClassFile.FieldType)) ∈ vT := vT_1 206 rfl rfl
theorem kc_Re_78 : (Cond.classLink "CodeShrinker$Reach" 78 "CodeShrinker$Item") ∈ vT := vT_1 207 rfl rfl
theorem km_Re_90 : (Cond.methodLink "CodeShrinker$Reach" 90 ⟨"CodeShrinker$ProgramClass", "find", "(II)LCodeShrinker$ProgramMethod;"⟩) ∈ vT := vT_1 208 rfl rfl
theorem kI_Pc_find : (Cond.instanceMethod ⟨"CodeShrinker$ProgramClass", "find", "(II)LCodeShrinker$ProgramMethod;"⟩) ∈ vT := vT_1 209 rfl rfl
theorem ks_Pc_Pc_find : (Cond.selects "CodeShrinker$ProgramClass" ⟨"CodeShrinker$ProgramClass", "find", "(II)LCodeShrinker$ProgramMethod;"⟩ ⟨"CodeShrinker$ProgramClass", "find", "(II)LCodeShrinker$ProgramMethod;"⟩) ∈ vT := vT_1 210 rfl rfl
theorem kM_Pc_find : (Cond.code ⟨"CodeShrinker$ProgramClass", "find", "(II)LCodeShrinker$ProgramMethod;"⟩ prog_5_method_3_code 5 (Option.some (.object "CodeShrinker$ProgramMethod"))) ∈ vT := vT_1 211 rfl rfl
theorem km_Pc_47 : (Cond.methodLink "CodeShrinker$ProgramClass" 47 ⟨"CodeShrinker$ProgramClass", "own", "(II)LCodeShrinker$ProgramMethod;"⟩) ∈ vT := vT_1 212 rfl rfl
theorem kI_Pc_own : (Cond.instanceMethod ⟨"CodeShrinker$ProgramClass", "own", "(II)LCodeShrinker$ProgramMethod;"⟩) ∈ vT := vT_1 213 rfl rfl
theorem ks_Pc_Pc_own : (Cond.selects "CodeShrinker$ProgramClass" ⟨"CodeShrinker$ProgramClass", "own", "(II)LCodeShrinker$ProgramMethod;"⟩ ⟨"CodeShrinker$ProgramClass", "own", "(II)LCodeShrinker$ProgramMethod;"⟩) ∈ vT := vT_1 214 rfl rfl
theorem kM_Pc_own : (Cond.code ⟨"CodeShrinker$ProgramClass", "own", "(II)LCodeShrinker$ProgramMethod;"⟩ prog_5_method_2_code 5 (Option.some (.object "CodeShrinker$ProgramMethod"))) ∈ vT := vT_1 215 rfl rfl
theorem km_Pc_31 : (Cond.methodLink "CodeShrinker$ProgramClass" 31 ⟨"java/util/ArrayList", "size", "()I"⟩) ∈ vT := vT_1 216 rfl rfl
theorem km_Pc_35 : (Cond.methodLink "CodeShrinker$ProgramClass" 35 ⟨"java/util/ArrayList", "get", "(I)Ljava/lang/Object;"⟩) ∈ vT := vT_1 217 rfl rfl
theorem kc_Pc_39 : (Cond.classLink "CodeShrinker$ProgramClass" 39 "CodeShrinker$ProgramMethod") ∈ vT := vT_1 218 rfl rfl
theorem km_Re_97 : (Cond.methodLink "CodeShrinker$Reach" 97 ⟨"CodeShrinker$Reach", "spreadSelf", "(LCodeShrinker$ProgramClass;LCodeShrinker$Item;)V"⟩) ∈ vT := vT_1 219 rfl rfl
theorem kz_220 : (Cond.privateMethod ⟨"CodeShrinker$Reach", "spreadSelf", "(LCodeShrinker$ProgramClass;LCodeShrinker$Item;)V"⟩) ∈ vT := vT_1 220 rfl rfl
theorem kI_Re_spreadSelf : (Cond.instanceMethod ⟨"CodeShrinker$Reach", "spreadSelf", "(LCodeShrinker$ProgramClass;LCodeShrinker$Item;)V"⟩) ∈ vT := vT_1 221 rfl rfl
theorem kM_Re_spreadSelf : (Cond.code ⟨"CodeShrinker$Reach", "spreadSelf", "(LCodeShrinker$ProgramClass;LCodeShrinker$Item;)V"⟩ prog_7_method_7_code 5 (Option.none : Option Jvm.ClassFile.FieldType)) ∈ vT := vT_1 222 rfl rfl
theorem km_Re_101 : (Cond.methodLink "CodeShrinker$Reach" 101 ⟨"CodeShrinker$ProgramClass", "isOrIsBelow", "(LCodeShrinker$ProgramClass;)Z"⟩) ∈ vT := vT_1 223 rfl rfl
theorem kI_Pc_isOrIsBelow : (Cond.instanceMethod ⟨"CodeShrinker$ProgramClass", "isOrIsBelow", "(LCodeShrinker$ProgramClass;)Z"⟩) ∈ vT := vT_1 224 rfl rfl
theorem ks_Pc_Pc_isOrIsBelow : (Cond.selects "CodeShrinker$ProgramClass" ⟨"CodeShrinker$ProgramClass", "isOrIsBelow", "(LCodeShrinker$ProgramClass;)Z"⟩ ⟨"CodeShrinker$ProgramClass", "isOrIsBelow", "(LCodeShrinker$ProgramClass;)Z"⟩) ∈ vT := vT_1 225 rfl rfl
theorem kM_Pc_isOrIsBelow : (Cond.code ⟨"CodeShrinker$ProgramClass", "isOrIsBelow", "(LCodeShrinker$ProgramClass;)Z"⟩ prog_5_method_4_code 3 (Option.some .boolean)) ∈ vT := vT_1 226 rfl rfl
theorem km_Cs_129 : (Cond.methodLink "CodeShrinker" 129 ⟨"CodeShrinker$Program", "dropUnreached", "()V"⟩) ∈ vT := vT_1 227 rfl rfl
theorem kI_Pr_dropUnreached : (Cond.instanceMethod ⟨"CodeShrinker$Program", "dropUnreached", "()V"⟩) ∈ vT := vT_1 228 rfl rfl
theorem ks_Pr_Pr_dropUnreached : (Cond.selects "CodeShrinker$Program" ⟨"CodeShrinker$Program", "dropUnreached", "()V"⟩ ⟨"CodeShrinker$Program", "dropUnreached", "()V"⟩) ∈ vT := vT_1 229 rfl rfl
theorem kM_Pr_dropUnreached : (Cond.code ⟨"CodeShrinker$Program", "dropUnreached", "()V"⟩ prog_4_method_4_code 3 (Option.none : Option Jvm.ClassFile.FieldType)) ∈ vT := vT_1 230 rfl rfl
theorem km_Pr_38 : (Cond.methodLink "CodeShrinker$Program" 38 ⟨"CodeShrinker$Program", "dropDead", "(Ljava/util/ArrayList;)V"⟩) ∈ vT := vT_1 231 rfl rfl
theorem kS_Pr_dropDead : (Cond.static ⟨"CodeShrinker$Program", "dropDead", "(Ljava/util/ArrayList;)V"⟩) ∈ vT := vT_1 232 rfl rfl
theorem kM_Pr_dropDead : (Cond.code ⟨"CodeShrinker$Program", "dropDead", "(Ljava/util/ArrayList;)V"⟩ prog_4_method_6_code 2 (Option.none : Option Jvm.ClassFile.FieldType)) ∈ vT := vT_1 233 rfl rfl
theorem km_Pr_19 : (Cond.methodLink "CodeShrinker$Program" 19 ⟨"java/util/ArrayList", "size", "()I"⟩) ∈ vT := vT_1 234 rfl rfl
theorem km_Pr_23 : (Cond.methodLink "CodeShrinker$Program" 23 ⟨"java/util/ArrayList", "get", "(I)Ljava/lang/Object;"⟩) ∈ vT := vT_1 235 rfl rfl
theorem kc_Pr_27 : (Cond.classLink "CodeShrinker$Program" 27 "CodeShrinker$ProgramMethod") ∈ vT := vT_1 236 rfl rfl
theorem km_Pr_47 : (Cond.methodLink "CodeShrinker$Program" 47 ⟨"java/util/ArrayList", "remove", "(I)Ljava/lang/Object;"⟩) ∈ vT := vT_1 237 rfl rfl
theorem kI_Al_remove : (Cond.instanceMethod ⟨"java/util/ArrayList", "remove", "(I)Ljava/lang/Object;"⟩) ∈ vT := vT_1 238 rfl rfl
theorem ks_Al_Al_remove : (Cond.selects "java/util/ArrayList" ⟨"java/util/ArrayList", "remove", "(I)Ljava/lang/Object;"⟩ ⟨"java/util/ArrayList", "remove", "(I)Ljava/lang/Object;"⟩) ∈ vT := vT_1 239 rfl rfl
theorem kM_Al_remove : (Cond.code ⟨"java/util/ArrayList", "remove", "(I)Ljava/lang/Object;"⟩ prog_24_method_29_code 4 (Option.some (.object "java/lang/Object"))) ∈ vT := vT_2 0 rfl rfl
theorem km_Al_144 : (Cond.methodLink "java/util/ArrayList" 144 ⟨"java/util/ArrayList", "fastRemove", "([Ljava/lang/Object;I)V"⟩) ∈ vT := vT_2 1 rfl rfl
theorem kz_242 : (Cond.privateMethod ⟨"java/util/ArrayList", "fastRemove", "([Ljava/lang/Object;I)V"⟩) ∈ vT := vT_2 2 rfl rfl
theorem kI_Al_fastRemove : (Cond.instanceMethod ⟨"java/util/ArrayList", "fastRemove", "([Ljava/lang/Object;I)V"⟩) ∈ vT := vT_2 3 rfl rfl
theorem kM_Al_fastRemove : (Cond.code ⟨"java/util/ArrayList", "fastRemove", "([Ljava/lang/Object;I)V"⟩ prog_24_method_39_code 4 (Option.none : Option Jvm.ClassFile.FieldType)) ∈ vT := vT_2 4 rfl rfl
theorem km_Al_112 : (Cond.methodLink "java/util/ArrayList" 112 ⟨"java/lang/System", "arraycopy", "(Ljava/lang/Object;ILjava/lang/Object;II)V"⟩) ∈ vT := vT_2 5 rfl rfl
theorem kS_java_lang_System_arraycopy_Ljava_lang_Object_ILjava_lang_Object_II_V : (Cond.static ⟨"java/lang/System", "arraycopy", "(Ljava/lang/Object;ILjava/lang/Object;II)V"⟩) ∈ vT := vT_2 6 rfl rfl
theorem kz_247 : (Cond.native ⟨"java/lang/System", "arraycopy", "(Ljava/lang/Object;ILjava/lang/Object;II)V"⟩) ∈ vT := vT_2 7 rfl rfl
theorem kc_Pr_33 : (Cond.classLink "CodeShrinker$Program" 33 "CodeShrinker$ProgramClass") ∈ vT := vT_2 8 rfl rfl
theorem km_Pr_43 : (Cond.methodLink "CodeShrinker$Program" 43 ⟨"CodeShrinker$Program", "isMadeOrAboveMade", "(LCodeShrinker$ProgramClass;)Z"⟩) ∈ vT := vT_2 9 rfl rfl
theorem kz_250 : (Cond.privateMethod ⟨"CodeShrinker$Program", "isMadeOrAboveMade", "(LCodeShrinker$ProgramClass;)Z"⟩) ∈ vT := vT_2 10 rfl rfl
theorem kI_Pr_isMadeOrAboveMade : (Cond.instanceMethod ⟨"CodeShrinker$Program", "isMadeOrAboveMade", "(LCodeShrinker$ProgramClass;)Z"⟩) ∈ vT := vT_2 11 rfl rfl
theorem kM_Pr_isMadeOrAboveMade : (Cond.code ⟨"CodeShrinker$Program", "isMadeOrAboveMade", "(LCodeShrinker$ProgramClass;)Z"⟩ prog_4_method_5_code 4 (Option.some .boolean)) ∈ vT := vT_2 12 rfl rfl
theorem km_Pr_54 : (Cond.methodLink "CodeShrinker$Program" 54 ⟨"CodeShrinker$ProgramClass", "isOrIsBelow", "(LCodeShrinker$ProgramClass;)Z"⟩) ∈ vT := vT_2 13 rfl rfl
theorem km_Lw_77 : (Cond.methodLink "CodeShrinkerLaw" 77 ⟨"CodeShrinker", "rename", "()I"⟩) ∈ vT := vT_2 14 rfl rfl
theorem kI_Cs_rename : (Cond.instanceMethod ⟨"CodeShrinker", "rename", "()I"⟩) ∈ vT := vT_2 15 rfl rfl
theorem ks_Cs_Cs_rename : (Cond.selects "CodeShrinker" ⟨"CodeShrinker", "rename", "()I"⟩ ⟨"CodeShrinker", "rename", "()I"⟩) ∈ vT := vT_2 16 rfl rfl
theorem kM_Cs_rename : (Cond.code ⟨"CodeShrinker", "rename", "()I"⟩ prog_1_method_8_code 1 (Option.some .int)) ∈ vT := vT_2 17 rfl rfl
theorem km_Cs_132 : (Cond.methodLink "CodeShrinker" 132 ⟨"CodeShrinker$Families", "form", "()V"⟩) ∈ vT := vT_2 18 rfl rfl
theorem kI_Fa_form : (Cond.instanceMethod ⟨"CodeShrinker$Families", "form", "()V"⟩) ∈ vT := vT_2 19 rfl rfl
theorem ks_Fa_Fa_form : (Cond.selects "CodeShrinker$Families" ⟨"CodeShrinker$Families", "form", "()V"⟩ ⟨"CodeShrinker$Families", "form", "()V"⟩) ∈ vT := vT_2 20 rfl rfl
theorem kM_Fa_form : (Cond.code ⟨"CodeShrinker$Families", "form", "()V"⟩ prog_2_method_2_code 4 (Option.none : Option Jvm.ClassFile.FieldType)) ∈ vT := vT_2 21 rfl rfl
theorem km_Fa_39 : (Cond.methodLink "CodeShrinker$Families" 39 ⟨"CodeShrinker$Families", "seeRelatives", "()V"⟩) ∈ vT := vT_2 22 rfl rfl
theorem kz_263 : (Cond.privateMethod ⟨"CodeShrinker$Families", "seeRelatives", "()V"⟩) ∈ vT := vT_2 23 rfl rfl
theorem kI_Fa_seeRelatives : (Cond.instanceMethod ⟨"CodeShrinker$Families", "seeRelatives", "()V"⟩) ∈ vT := vT_2 24 rfl rfl
theorem kM_Fa_seeRelatives : (Cond.code ⟨"CodeShrinker$Families", "seeRelatives", "()V"⟩ prog_2_method_5_code 5 (Option.none : Option Jvm.ClassFile.FieldType)) ∈ vT := vT_2 25 rfl rfl
theorem km_Fa_48 : (Cond.methodLink "CodeShrinker$Families" 48 ⟨"java/util/ArrayList", "size", "()I"⟩) ∈ vT := vT_2 26 rfl rfl
theorem km_Fa_94 : (Cond.methodLink "CodeShrinker$Families" 94 ⟨"java/lang/Math", "min", "(II)I"⟩) ∈ vT := vT_2 27 rfl rfl
theorem kS_Ma_min : (Cond.static ⟨"java/lang/Math", "min", "(II)I"⟩) ∈ vT := vT_2 28 rfl rfl
theorem kM_Ma_min : (Cond.code ⟨"java/lang/Math", "min", "(II)I"⟩ prog_17_method_69_code 2 (Option.some .int)) ∈ vT := vT_2 29 rfl rfl
theorem km_Fa_53 : (Cond.methodLink "CodeShrinker$Families" 53 ⟨"java/util/ArrayList", "get", "(I)Ljava/lang/Object;"⟩) ∈ vT := vT_2 30 rfl rfl
theorem kc_Fa_100 : (Cond.classLink "CodeShrinker$Families" 100 "CodeShrinker$ProgramClass") ∈ vT := vT_2 31 rfl rfl
theorem km_Fa_102 : (Cond.methodLink "CodeShrinker$Families" 102 ⟨"CodeShrinker$ProgramClass", "isRelatedTo", "(LCodeShrinker$ProgramClass;)Z"⟩) ∈ vT := vT_2 32 rfl rfl
theorem kI_Pc_isRelatedTo : (Cond.instanceMethod ⟨"CodeShrinker$ProgramClass", "isRelatedTo", "(LCodeShrinker$ProgramClass;)Z"⟩) ∈ vT := vT_2 33 rfl rfl
theorem ks_Pc_Pc_isRelatedTo : (Cond.selects "CodeShrinker$ProgramClass" ⟨"CodeShrinker$ProgramClass", "isRelatedTo", "(LCodeShrinker$ProgramClass;)Z"⟩ ⟨"CodeShrinker$ProgramClass", "isRelatedTo", "(LCodeShrinker$ProgramClass;)Z"⟩) ∈ vT := vT_2 34 rfl rfl
theorem kM_Pc_isRelatedTo : (Cond.code ⟨"CodeShrinker$ProgramClass", "isRelatedTo", "(LCodeShrinker$ProgramClass;)Z"⟩ prog_5_method_5_code 2 (Option.some .boolean)) ∈ vT := vT_2 35 rfl rfl
theorem km_Pc_51 : (Cond.methodLink "CodeShrinker$ProgramClass" 51 ⟨"CodeShrinker$ProgramClass", "isOrIsBelow", "(LCodeShrinker$ProgramClass;)Z"⟩) ∈ vT := vT_2 36 rfl rfl
theorem kc_Fa_57 : (Cond.classLink "CodeShrinker$Families" 57 "CodeShrinker$ProgramMethod") ∈ vT := vT_2 37 rfl rfl
theorem km_Fa_69 : (Cond.methodLink "CodeShrinker$Families" 69 ⟨"CodeShrinker$Families", "familyOf", "(LCodeShrinker$ProgramClass;II)I"⟩) ∈ vT := vT_2 38 rfl rfl
theorem kz_279 : (Cond.privateMethod ⟨"CodeShrinker$Families", "familyOf", "(LCodeShrinker$ProgramClass;II)I"⟩) ∈ vT := vT_2 39 rfl rfl
theorem kI_Fa_familyOf : (Cond.instanceMethod ⟨"CodeShrinker$Families", "familyOf", "(LCodeShrinker$ProgramClass;II)I"⟩) ∈ vT := vT_2 40 rfl rfl
theorem kM_Fa_familyOf : (Cond.code ⟨"CodeShrinker$Families", "familyOf", "(LCodeShrinker$ProgramClass;II)I"⟩ prog_2_method_14_code 5 (Option.some .int)) ∈ vT := vT_2 41 rfl rfl
theorem km_Fa_132 : (Cond.methodLink "CodeShrinker$Families" 132 ⟨"CodeShrinker$Families", "holds", "(II)Z"⟩) ∈ vT := vT_2 42 rfl rfl
theorem kS_Fa_holds : (Cond.static ⟨"CodeShrinker$Families", "holds", "(II)Z"⟩) ∈ vT := vT_2 43 rfl rfl
theorem kM_Fa_holds : (Cond.code ⟨"CodeShrinker$Families", "holds", "(II)Z"⟩ prog_2_method_15_code 2 (Option.some .boolean)) ∈ vT := vT_2 44 rfl rfl
theorem km_Fa_73 : (Cond.methodLink "CodeShrinker$Families" 73 ⟨"CodeShrinker$Families", "open", "(LCodeShrinker$ProgramMethod;)I"⟩) ∈ vT := vT_2 45 rfl rfl
theorem kz_286 : (Cond.privateMethod ⟨"CodeShrinker$Families", "open", "(LCodeShrinker$ProgramMethod;)I"⟩) ∈ vT := vT_2 46 rfl rfl
theorem kI_Fa_open : (Cond.instanceMethod ⟨"CodeShrinker$Families", "open", "(LCodeShrinker$ProgramMethod;)I"⟩) ∈ vT := vT_2 47 rfl rfl
theorem kM_Fa_open : (Cond.code ⟨"CodeShrinker$Families", "open", "(LCodeShrinker$ProgramMethod;)I"⟩ prog_2_method_6_code 3 (Option.some .int)) ∈ vT := vT_2 48 rfl rfl
theorem km_Fa_109 : (Cond.methodLink "CodeShrinker$Families" 109 ⟨"CodeShrinker$Families", "bearers", "(II)I"⟩) ∈ vT := vT_2 49 rfl rfl
theorem kz_290 : (Cond.privateMethod ⟨"CodeShrinker$Families", "bearers", "(II)I"⟩) ∈ vT := vT_2 50 rfl rfl
theorem kI_Fa_bearers : (Cond.instanceMethod ⟨"CodeShrinker$Families", "bearers", "(II)I"⟩) ∈ vT := vT_2 51 rfl rfl
theorem kM_Fa_bearers : (Cond.code ⟨"CodeShrinker$Families", "bearers", "(II)I"⟩ prog_2_method_7_code 6 (Option.some .int)) ∈ vT := vT_2 52 rfl rfl
theorem km_Fa_115 : (Cond.methodLink "CodeShrinker$Families" 115 ⟨"CodeShrinker$Families", "standsIn", "(LCodeShrinker$ProgramMethod;II)Z"⟩) ∈ vT := vT_2 53 rfl rfl
theorem kS_Fa_standsIn : (Cond.static ⟨"CodeShrinker$Families", "standsIn", "(LCodeShrinker$ProgramMethod;II)Z"⟩) ∈ vT := vT_2 54 rfl rfl
theorem kM_Fa_standsIn : (Cond.code ⟨"CodeShrinker$Families", "standsIn", "(LCodeShrinker$ProgramMethod;II)Z"⟩ prog_2_method_8_code 5 (Option.some .boolean)) ∈ vT := vT_2 55 rfl rfl
theorem kc_Fa_122 : (Cond.classLink "CodeShrinker$Families" 122 "CodeShrinker$Item") ∈ vT := vT_2 56 rfl rfl
theorem km_Fa_112 : (Cond.methodLink "CodeShrinker$Families" 112 ⟨"CodeShrinker$Families", "joinedTo", "(II)I"⟩) ∈ vT := vT_2 57 rfl rfl
theorem kz_298 : (Cond.privateMethod ⟨"CodeShrinker$Families", "joinedTo", "(II)I"⟩) ∈ vT := vT_2 58 rfl rfl
theorem kI_Fa_joinedTo : (Cond.instanceMethod ⟨"CodeShrinker$Families", "joinedTo", "(II)I"⟩) ∈ vT := vT_2 59 rfl rfl
theorem kM_Fa_joinedTo : (Cond.code ⟨"CodeShrinker$Families", "joinedTo", "(II)I"⟩ prog_2_method_9_code 5 (Option.some .int)) ∈ vT := vT_2 60 rfl rfl
theorem km_Fa_129 : (Cond.methodLink "CodeShrinker$Families" 129 ⟨"CodeShrinker$Families", "relatedTo", "(I)I"⟩) ∈ vT := vT_2 61 rfl rfl
theorem kz_302 : (Cond.privateMethod ⟨"CodeShrinker$Families", "relatedTo", "(I)I"⟩) ∈ vT := vT_2 62 rfl rfl
theorem kI_Fa_relatedTo : (Cond.instanceMethod ⟨"CodeShrinker$Families", "relatedTo", "(I)I"⟩) ∈ vT := vT_2 63 rfl rfl
theorem kM_Fa_relatedTo : (Cond.code ⟨"CodeShrinker$Families", "relatedTo", "(I)I"⟩ prog_2_method_10_code 4 (Option.some .int)) ∈ vT := vT_2 64 rfl rfl
theorem km_Cs_135 : (Cond.methodLink "CodeShrinker" 135 ⟨"CodeShrinker$Families", "giveNames", "()V"⟩) ∈ vT := vT_2 65 rfl rfl
theorem kI_Fa_giveNames : (Cond.instanceMethod ⟨"CodeShrinker$Families", "giveNames", "()V"⟩) ∈ vT := vT_2 66 rfl rfl
theorem ks_Fa_Fa_giveNames : (Cond.selects "CodeShrinker$Families" ⟨"CodeShrinker$Families", "giveNames", "()V"⟩ ⟨"CodeShrinker$Families", "giveNames", "()V"⟩) ∈ vT := vT_2 67 rfl rfl
theorem kM_Fa_giveNames : (Cond.code ⟨"CodeShrinker$Families", "giveNames", "()V"⟩ prog_2_method_3_code 2 (Option.none : Option Jvm.ClassFile.FieldType)) ∈ vT := vT_2 68 rfl rfl
theorem km_Fa_80 : (Cond.methodLink "CodeShrinker$Families" 80 ⟨"CodeShrinker$Families", "leastFreeName", "(I)I"⟩) ∈ vT := vT_2 69 rfl rfl
theorem kz_310 : (Cond.privateMethod ⟨"CodeShrinker$Families", "leastFreeName", "(I)I"⟩) ∈ vT := vT_2 70 rfl rfl
theorem kI_Fa_leastFreeName : (Cond.instanceMethod ⟨"CodeShrinker$Families", "leastFreeName", "(I)I"⟩) ∈ vT := vT_2 71 rfl rfl
theorem kM_Fa_leastFreeName : (Cond.code ⟨"CodeShrinker$Families", "leastFreeName", "(I)I"⟩ prog_2_method_11_code 6 (Option.some .int)) ∈ vT := vT_2 72 rfl rfl
theorem km_Cs_138 : (Cond.methodLink "CodeShrinker" 138 ⟨"CodeShrinker$Families", "writeNames", "()V"⟩) ∈ vT := vT_2 73 rfl rfl
theorem kI_Fa_writeNames : (Cond.instanceMethod ⟨"CodeShrinker$Families", "writeNames", "()V"⟩) ∈ vT := vT_2 74 rfl rfl
theorem ks_Fa_Fa_writeNames : (Cond.selects "CodeShrinker$Families" ⟨"CodeShrinker$Families", "writeNames", "()V"⟩ ⟨"CodeShrinker$Families", "writeNames", "()V"⟩) ∈ vT := vT_2 75 rfl rfl
theorem kM_Fa_writeNames : (Cond.code ⟨"CodeShrinker$Families", "writeNames", "()V"⟩ prog_2_method_4_code 3 (Option.none : Option Jvm.ClassFile.FieldType)) ∈ vT := vT_2 76 rfl rfl
theorem km_Fa_84 : (Cond.methodLink "CodeShrinker$Families" 84 ⟨"CodeShrinker$Families", "writeItems", "(LCodeShrinker$ProgramMethod;)V"⟩) ∈ vT := vT_2 77 rfl rfl
theorem kz_318 : (Cond.privateMethod ⟨"CodeShrinker$Families", "writeItems", "(LCodeShrinker$ProgramMethod;)V"⟩) ∈ vT := vT_2 78 rfl rfl
theorem kI_Fa_writeItems : (Cond.instanceMethod ⟨"CodeShrinker$Families", "writeItems", "(LCodeShrinker$ProgramMethod;)V"⟩) ∈ vT := vT_2 79 rfl rfl
theorem kM_Fa_writeItems : (Cond.code ⟨"CodeShrinker$Families", "writeItems", "(LCodeShrinker$ProgramMethod;)V"⟩ prog_2_method_12_code 5 (Option.none : Option Jvm.ClassFile.FieldType)) ∈ vT := vT_2 80 rfl rfl
theorem km_Fa_139 : (Cond.methodLink "CodeShrinker$Families" 139 ⟨"CodeShrinker$ProgramClass", "find", "(II)LCodeShrinker$ProgramMethod;"⟩) ∈ vT := vT_2 81 rfl rfl
theorem km_Fa_88 : (Cond.methodLink "CodeShrinker$Families" 88 ⟨"CodeShrinker$Families", "newNameOf", "(LCodeShrinker$ProgramClass;II)I"⟩) ∈ vT := vT_2 82 rfl rfl
theorem kz_323 : (Cond.privateMethod ⟨"CodeShrinker$Families", "newNameOf", "(LCodeShrinker$ProgramClass;II)I"⟩) ∈ vT := vT_2 83 rfl rfl
theorem kI_Fa_newNameOf : (Cond.instanceMethod ⟨"CodeShrinker$Families", "newNameOf", "(LCodeShrinker$ProgramClass;II)I"⟩) ∈ vT := vT_2 84 rfl rfl
theorem kM_Fa_newNameOf : (Cond.code ⟨"CodeShrinker$Families", "newNameOf", "(LCodeShrinker$ProgramClass;II)I"⟩ prog_2_method_13_code 5 (Option.some .int)) ∈ vT := vT_2 85 rfl rfl
theorem km_Lw_91 : (Cond.methodLink "CodeShrinkerLaw" 91 ⟨"CodeShrinker", "count", "(I)I"⟩) ∈ vT := vT_2 86 rfl rfl
theorem kI_Cs_count : (Cond.instanceMethod ⟨"CodeShrinker", "count", "(I)I"⟩) ∈ vT := vT_2 87 rfl rfl
theorem ks_Cs_Cs_count : (Cond.selects "CodeShrinker" ⟨"CodeShrinker", "count", "(I)I"⟩ ⟨"CodeShrinker", "count", "(I)I"⟩) ∈ vT := vT_2 88 rfl rfl
theorem kM_Cs_count : (Cond.code ⟨"CodeShrinker", "count", "(I)I"⟩ prog_1_method_12_code 2 (Option.some .int)) ∈ vT := vT_2 89 rfl rfl
theorem km_Cs_176 : (Cond.methodLink "CodeShrinker" 176 ⟨"CodeShrinker$Program", "liveMethods", "()I"⟩) ∈ vT := vT_2 90 rfl rfl
theorem kI_Pr_liveMethods : (Cond.instanceMethod ⟨"CodeShrinker$Program", "liveMethods", "()I"⟩) ∈ vT := vT_2 91 rfl rfl
theorem ks_Pr_Pr_liveMethods : (Cond.selects "CodeShrinker$Program" ⟨"CodeShrinker$Program", "liveMethods", "()I"⟩ ⟨"CodeShrinker$Program", "liveMethods", "()I"⟩) ∈ vT := vT_2 92 rfl rfl
theorem kM_Pr_liveMethods : (Cond.code ⟨"CodeShrinker$Program", "liveMethods", "()I"⟩ prog_4_method_2_code 3 (Option.some .int)) ∈ vT := vT_2 93 rfl rfl
theorem km_Cs_179 : (Cond.methodLink "CodeShrinker" 179 ⟨"CodeShrinker$Program", "madeClasses", "()I"⟩) ∈ vT := vT_2 94 rfl rfl
theorem kI_Pr_madeClasses : (Cond.instanceMethod ⟨"CodeShrinker$Program", "madeClasses", "()I"⟩) ∈ vT := vT_2 95 rfl rfl
theorem ks_Pr_Pr_madeClasses : (Cond.selects "CodeShrinker$Program" ⟨"CodeShrinker$Program", "madeClasses", "()I"⟩ ⟨"CodeShrinker$Program", "madeClasses", "()I"⟩) ∈ vT := vT_2 96 rfl rfl
theorem kM_Pr_madeClasses : (Cond.code ⟨"CodeShrinker$Program", "madeClasses", "()I"⟩ prog_4_method_3_code 3 (Option.some .int)) ∈ vT := vT_2 97 rfl rfl
theorem km_Cs_182 : (Cond.methodLink "CodeShrinker" 182 ⟨"CodeShrinker", "parentOf", "(I)I"⟩) ∈ vT := vT_2 98 rfl rfl
theorem kz_339 : (Cond.privateMethod ⟨"CodeShrinker", "parentOf", "(I)I"⟩) ∈ vT := vT_2 99 rfl rfl
theorem kI_Cs_parentOf : (Cond.instanceMethod ⟨"CodeShrinker", "parentOf", "(I)I"⟩) ∈ vT := vT_2 100 rfl rfl
theorem kM_Cs_parentOf : (Cond.code ⟨"CodeShrinker", "parentOf", "(I)I"⟩ prog_1_method_13_code 3 (Option.some .int)) ∈ vT := vT_2 101 rfl rfl
theorem km_Cs_43 : (Cond.methodLink "CodeShrinker" 43 ⟨"CodeShrinker", "isClass", "(I)Z"⟩) ∈ vT := vT_2 102 rfl rfl
theorem kz_343 : (Cond.privateMethod ⟨"CodeShrinker", "isClass", "(I)Z"⟩) ∈ vT := vT_2 103 rfl rfl
theorem kI_Cs_isClass : (Cond.instanceMethod ⟨"CodeShrinker", "isClass", "(I)Z"⟩) ∈ vT := vT_2 104 rfl rfl
theorem kM_Cs_isClass : (Cond.code ⟨"CodeShrinker", "isClass", "(I)Z"⟩ prog_1_method_15_code 2 (Option.some .boolean)) ∈ vT := vT_2 105 rfl rfl
theorem km_Cs_68 : (Cond.methodLink "CodeShrinker" 68 ⟨"java/util/ArrayList", "get", "(I)Ljava/lang/Object;"⟩) ∈ vT := vT_2 106 rfl rfl
theorem kc_Cs_72 : (Cond.classLink "CodeShrinker" 72 "CodeShrinker$ProgramClass") ∈ vT := vT_2 107 rfl rfl
theorem km_Lw_48 : (Cond.methodLink "CodeShrinkerLaw" 48 ⟨"CodeShrinkerLaw", "add", "(LCodeShrinker;I[J)I"⟩) ∈ vT := vT_2 108 rfl rfl
theorem kS_Lw_add : (Cond.static ⟨"CodeShrinkerLaw", "add", "(LCodeShrinker;I[J)I"⟩) ∈ vT := vT_2 109 rfl rfl
theorem kM_Lw_add : (Cond.codeWith ⟨"CodeShrinkerLaw", "add", "(LCodeShrinker;I[J)I"⟩ method_3_code 4 (Option.some .int) [(0, 9, 12, 13), (0, 9, 15, 15)]) ∈ vT := vT_2 110 rfl rfl
theorem kc_Lw_13 : (Cond.classLink "CodeShrinkerLaw" 13 "java/lang/IllegalArgumentException") ∈ vT := vT_2 111 rfl rfl
theorem kc_Lw_15 : (Cond.classLink "CodeShrinkerLaw" 15 "java/lang/IllegalStateException") ∈ vT := vT_2 112 rfl rfl
theorem km_Lw_7 : (Cond.methodLink "CodeShrinkerLaw" 7 ⟨"CodeShrinker", "add", "(I)I"⟩) ∈ vT := vT_2 113 rfl rfl
theorem kI_Cs_add : (Cond.instanceMethod ⟨"CodeShrinker", "add", "(I)I"⟩) ∈ vT := vT_2 114 rfl rfl
theorem ks_Cs_Cs_add : (Cond.selects "CodeShrinker" ⟨"CodeShrinker", "add", "(I)I"⟩ ⟨"CodeShrinker", "add", "(I)I"⟩) ∈ vT := vT_2 115 rfl rfl
theorem kM_Cs_add : (Cond.code ⟨"CodeShrinker", "add", "(I)I"⟩ prog_1_method_2_code 4 (Option.some .int)) ∈ vT := vT_2 116 rfl rfl
theorem km_Cs_47 : (Cond.methodLink "CodeShrinker" 47 ⟨"CodeShrinker", "require", "(Z)V"⟩) ∈ vT := vT_2 117 rfl rfl
theorem kS_Cs_require : (Cond.static ⟨"CodeShrinker", "require", "(Z)V"⟩) ∈ vT := vT_2 118 rfl rfl
theorem kM_Cs_require : (Cond.code ⟨"CodeShrinker", "require", "(Z)V"⟩ prog_1_method_20_code 1 (Option.none : Option Jvm.ClassFile.FieldType)) ∈ vT := vT_2 119 rfl rfl
theorem kc_Cs_191 : (Cond.classLink "CodeShrinker" 191 "java/lang/IllegalArgumentException") ∈ vT := vT_2 120 rfl rfl
theorem kn_Ia : (Cond.instantiable "java/lang/IllegalArgumentException" 6) ∈ vT := vT_2 121 rfl rfl
theorem kx_Ia_Ia : (Cond.castable "java/lang/IllegalArgumentException" "java/lang/IllegalArgumentException") ∈ vT := vT_2 122 rfl rfl
theorem kz_363 : (Cond.declares ⟨"java/lang/RuntimeException", "<init>", "()V"⟩) ∈ vT := vT_2 123 rfl rfl
theorem kz_364 : (Cond.declares ⟨"java/lang/RuntimeException", "<init>", "(Ljava/lang/String;)V"⟩) ∈ vT := vT_2 124 rfl rfl
theorem kz_365 : (Cond.declares ⟨"java/lang/Exception", "<init>", "()V"⟩) ∈ vT := vT_2 125 rfl rfl
theorem kz_366 : (Cond.declares ⟨"java/lang/Exception", "<init>", "(Ljava/lang/String;)V"⟩) ∈ vT := vT_2 126 rfl rfl
theorem kz_367 : (Cond.declares ⟨"java/lang/Throwable", "<init>", "()V"⟩) ∈ vT := vT_2 127 rfl rfl
theorem kz_368 : (Cond.declares ⟨"java/lang/Throwable", "<init>", "(Ljava/lang/String;)V"⟩) ∈ vT := vT_2 128 rfl rfl
theorem ks_Ia_Th_fillInStackTrace_I_Ljava_lang_Throwable_ : (Cond.selects "java/lang/IllegalArgumentException" ⟨"java/lang/Throwable", "fillInStackTrace", "(I)Ljava/lang/Throwable;"⟩ ⟨"java/lang/Throwable", "fillInStackTrace", "(I)Ljava/lang/Throwable;"⟩) ∈ vT := vT_2 129 rfl rfl
theorem ks_Ia_Th_fillInStackTrace__Ljava_lang_Throwable_ : (Cond.selects "java/lang/IllegalArgumentException" ⟨"java/lang/Throwable", "fillInStackTrace", "()Ljava/lang/Throwable;"⟩ ⟨"java/lang/Throwable", "fillInStackTrace", "()Ljava/lang/Throwable;"⟩) ∈ vT := vT_2 130 rfl rfl
theorem kz_371 : (Cond.lays "java/lang/IllegalArgumentException" "java/lang/Throwable" "cause" "Ljava/lang/Throwable;") ∈ vT := vT_2 131 rfl rfl
theorem kz_372 : (Cond.lays "java/lang/Throwable" "java/lang/Throwable" "cause" "Ljava/lang/Throwable;") ∈ vT := vT_2 132 rfl rfl
theorem kz_373 : (Cond.lays "java/lang/IllegalArgumentException" "java/lang/Throwable" "stackTrace" "[Ljava/lang/StackTraceElement;") ∈ vT := vT_2 133 rfl rfl
theorem kz_374 : (Cond.lays "java/lang/Throwable" "java/lang/Throwable" "stackTrace" "[Ljava/lang/StackTraceElement;") ∈ vT := vT_2 134 rfl rfl
theorem kz_375 : (Cond.lays "java/lang/IllegalArgumentException" "java/lang/Throwable" "suppressedExceptions" "Ljava/util/List;") ∈ vT := vT_2 135 rfl rfl
theorem kz_376 : (Cond.lays "java/lang/Throwable" "java/lang/Throwable" "suppressedExceptions" "Ljava/util/List;") ∈ vT := vT_2 136 rfl rfl
theorem kz_377 : (Cond.lays "java/lang/IllegalArgumentException" "java/lang/Throwable" "detailMessage" "Ljava/lang/String;") ∈ vT := vT_2 137 rfl rfl
theorem kz_378 : (Cond.lays "java/lang/Throwable" "java/lang/Throwable" "detailMessage" "Ljava/lang/String;") ∈ vT := vT_2 138 rfl rfl
theorem kz_379 : (Cond.lays "java/lang/IllegalArgumentException" "java/lang/Throwable" "backtrace" "Ljava/lang/Object;") ∈ vT := vT_2 139 rfl rfl
theorem kz_380 : (Cond.lays "java/lang/Throwable" "java/lang/Throwable" "backtrace" "Ljava/lang/Object;") ∈ vT := vT_2 140 rfl rfl
theorem kf_Th_198 : (Cond.fieldLink "java/lang/Throwable" 198 "java/lang/Throwable" "backtrace" "Ljava/lang/Object;") ∈ vT := vT_2 141 rfl rfl
theorem kz_382 : (Cond.superclass "java/lang/Throwable" "java/lang/Object") ∈ vT := vT_2 142 rfl rfl
theorem kI_Th_init : (Cond.instanceMethod ⟨"java/lang/Throwable", "<init>", "()V"⟩) ∈ vT := vT_2 143 rfl rfl
theorem kM_Th_init : (Cond.code ⟨"java/lang/Throwable", "<init>", "()V"⟩ prog_21_method_1_code 1 (Option.none : Option Jvm.ClassFile.FieldType)) ∈ vT := vT_2 144 rfl rfl
theorem km_Th_1 : (Cond.methodLink "java/lang/Throwable" 1 ⟨"java/lang/Object", "<init>", "()V"⟩) ∈ vT := vT_2 145 rfl rfl
theorem kf_Th_13 : (Cond.fieldLink "java/lang/Throwable" 13 "java/lang/Throwable" "UNASSIGNED_STACK" "[Ljava/lang/StackTraceElement;") ∈ vT := vT_2 146 rfl rfl
theorem kf_Th_20 : (Cond.fieldLink "java/lang/Throwable" 20 "java/lang/Throwable" "SUPPRESSED_SENTINEL" "Ljava/util/List;") ∈ vT := vT_2 148 rfl rfl
theorem km_Th_27 : (Cond.methodLink "java/lang/Throwable" 27 ⟨"java/lang/Throwable", "fillInStackTrace", "()Ljava/lang/Throwable;"⟩) ∈ vT := vT_2 150 rfl rfl
theorem kI_Th_fillInStackTrace__Ljava_lang_Throwable_ : (Cond.instanceMethod ⟨"java/lang/Throwable", "fillInStackTrace", "()Ljava/lang/Throwable;"⟩) ∈ vT := vT_2 151 rfl rfl
theorem kz_392 : (Cond.sameMethod "java/lang/Throwable" "java/lang/Throwable" "fillInStackTrace" "()Ljava/lang/Throwable;") ∈ vT := vT_2 152 rfl rfl
theorem ks_Is_Th_fillInStackTrace__Ljava_lang_Throwable_ : (Cond.selects "java/lang/IllegalStateException" ⟨"java/lang/Throwable", "fillInStackTrace", "()Ljava/lang/Throwable;"⟩ ⟨"java/lang/Throwable", "fillInStackTrace", "()Ljava/lang/Throwable;"⟩) ∈ vT := vT_2 153 rfl rfl
theorem ks_Ns_Th_fillInStackTrace__Ljava_lang_Throwable_ : (Cond.selects "java/util/NoSuchElementException" ⟨"java/lang/Throwable", "fillInStackTrace", "()Ljava/lang/Throwable;"⟩ ⟨"java/lang/Throwable", "fillInStackTrace", "()Ljava/lang/Throwable;"⟩) ∈ vT := vT_2 154 rfl rfl
theorem kz_395 : (Cond.codeSync ⟨"java/lang/Throwable", "fillInStackTrace", "()Ljava/lang/Throwable;"⟩ prog_21_method_18_code 1 (Option.some (.object "java/lang/Throwable"))) ∈ vT := vT_2 155 rfl rfl
theorem km_Th_202 : (Cond.methodLink "java/lang/Throwable" 202 ⟨"java/lang/Throwable", "fillInStackTrace", "(I)Ljava/lang/Throwable;"⟩) ∈ vT := vT_2 156 rfl rfl
theorem kz_397 : (Cond.privateMethod ⟨"java/lang/Throwable", "fillInStackTrace", "(I)Ljava/lang/Throwable;"⟩) ∈ vT := vT_2 157 rfl rfl
theorem kI_Th_fillInStackTrace_I_Ljava_lang_Throwable_ : (Cond.instanceMethod ⟨"java/lang/Throwable", "fillInStackTrace", "(I)Ljava/lang/Throwable;"⟩) ∈ vT := vT_2 158 rfl rfl
theorem kn_Th : (Cond.instantiable "java/lang/Throwable" 6) ∈ vT := vT_2 159 rfl rfl
theorem kz_400 : (Cond.native ⟨"java/lang/Throwable", "fillInStackTrace", "(I)Ljava/lang/Throwable;"⟩) ∈ vT := vT_2 160 rfl rfl
theorem km_Cs_195 : (Cond.methodLink "CodeShrinker" 195 ⟨"java/lang/IllegalArgumentException", "<init>", "(Ljava/lang/String;)V"⟩) ∈ vT := vT_2 162 rfl rfl
theorem kI_Ia_init : (Cond.instanceMethod ⟨"java/lang/IllegalArgumentException", "<init>", "(Ljava/lang/String;)V"⟩) ∈ vT := vT_2 163 rfl rfl
theorem kM_Ia_init : (Cond.code ⟨"java/lang/IllegalArgumentException", "<init>", "(Ljava/lang/String;)V"⟩ prog_14_method_2_code 2 (Option.none : Option Jvm.ClassFile.FieldType)) ∈ vT := vT_2 164 rfl rfl
theorem km_Ia_7 : (Cond.methodLink "java/lang/IllegalArgumentException" 7 ⟨"java/lang/RuntimeException", "<init>", "(Ljava/lang/String;)V"⟩) ∈ vT := vT_2 165 rfl rfl
theorem kI_Rt_init : (Cond.instanceMethod ⟨"java/lang/RuntimeException", "<init>", "(Ljava/lang/String;)V"⟩) ∈ vT := vT_2 166 rfl rfl
theorem kM_Rt_init : (Cond.code ⟨"java/lang/RuntimeException", "<init>", "(Ljava/lang/String;)V"⟩ prog_18_method_2_code 2 (Option.none : Option Jvm.ClassFile.FieldType)) ∈ vT := vT_2 167 rfl rfl
theorem km_Rt_7 : (Cond.methodLink "java/lang/RuntimeException" 7 ⟨"java/lang/Exception", "<init>", "(Ljava/lang/String;)V"⟩) ∈ vT := vT_2 168 rfl rfl
theorem kI_Ex_init : (Cond.instanceMethod ⟨"java/lang/Exception", "<init>", "(Ljava/lang/String;)V"⟩) ∈ vT := vT_2 169 rfl rfl
theorem kM_Ex_init : (Cond.code ⟨"java/lang/Exception", "<init>", "(Ljava/lang/String;)V"⟩ prog_13_method_2_code 2 (Option.none : Option Jvm.ClassFile.FieldType)) ∈ vT := vT_2 170 rfl rfl
theorem km_Ex_7 : (Cond.methodLink "java/lang/Exception" 7 ⟨"java/lang/Throwable", "<init>", "(Ljava/lang/String;)V"⟩) ∈ vT := vT_2 171 rfl rfl
theorem kI_Th_init2 : (Cond.instanceMethod ⟨"java/lang/Throwable", "<init>", "(Ljava/lang/String;)V"⟩) ∈ vT := vT_2 172 rfl rfl
theorem kM_Th_init2 : (Cond.code ⟨"java/lang/Throwable", "<init>", "(Ljava/lang/String;)V"⟩ prog_21_method_2_code 2 (Option.none : Option Jvm.ClassFile.FieldType)) ∈ vT := vT_2 173 rfl rfl
theorem kf_Th_198_414 : (Cond.fieldLink "java/lang/Throwable" 198 "java/lang/Throwable" "backtrace" "Ljava/lang/Object;") ∈ vT := vT_2 174 rfl rfl
theorem kf_Th_31 : (Cond.fieldLink "java/lang/Throwable" 31 "java/lang/Throwable" "detailMessage" "Ljava/lang/String;") ∈ vT := vT_2 175 rfl rfl
theorem kf_Th_7 : (Cond.fieldLink "java/lang/Throwable" 7 "java/lang/Throwable" "cause" "Ljava/lang/Throwable;") ∈ vT := vT_2 176 rfl rfl
theorem kf_Th_17 : (Cond.fieldLink "java/lang/Throwable" 17 "java/lang/Throwable" "stackTrace" "[Ljava/lang/StackTraceElement;") ∈ vT := vT_2 177 rfl rfl
theorem kf_Th_24 : (Cond.fieldLink "java/lang/Throwable" 24 "java/lang/Throwable" "suppressedExceptions" "Ljava/util/List;") ∈ vT := vT_2 178 rfl rfl
theorem kz_419 : (Cond.soleField "java/lang/Throwable" "backtrace") ∈ vT := vT_2 179 rfl rfl
theorem kz_420 : (Cond.soleField "java/lang/Throwable" "detailMessage") ∈ vT := vT_2 180 rfl rfl
theorem kz_421 : (Cond.soleField "java/lang/Throwable" "cause") ∈ vT := vT_2 181 rfl rfl
theorem kz_422 : (Cond.soleField "java/lang/Throwable" "stackTrace") ∈ vT := vT_2 182 rfl rfl
theorem kz_423 : (Cond.lays "java/lang/IllegalArgumentException" "java/lang/Throwable" "depth" "I") ∈ vT := vT_2 183 rfl rfl
theorem kz_424 : (Cond.soleField "java/lang/Throwable" "depth") ∈ vT := vT_2 184 rfl rfl
theorem kz_425 : (Cond.soleField "java/lang/Throwable" "suppressedExceptions") ∈ vT := vT_2 185 rfl rfl
theorem kz_426 : (Cond.superclass "java/lang/IllegalArgumentException" "java/lang/RuntimeException") ∈ vT := vT_2 186 rfl rfl
theorem kz_427 : (Cond.arrayClass .byte) ∈ vT := vT_2 187 rfl rfl
theorem kc_Cs_61 : (Cond.classLink "CodeShrinker" 61 "java/lang/IllegalStateException") ∈ vT := vT_2 188 rfl rfl
theorem kn_Is : (Cond.instantiable "java/lang/IllegalStateException" 6) ∈ vT := vT_2 189 rfl rfl
theorem kx_Is_Is : (Cond.castable "java/lang/IllegalStateException" "java/lang/IllegalStateException") ∈ vT := vT_2 190 rfl rfl
theorem ks_Is_Th_fillInStackTrace_I_Ljava_lang_Throwable_ : (Cond.selects "java/lang/IllegalStateException" ⟨"java/lang/Throwable", "fillInStackTrace", "(I)Ljava/lang/Throwable;"⟩ ⟨"java/lang/Throwable", "fillInStackTrace", "(I)Ljava/lang/Throwable;"⟩) ∈ vT := vT_2 191 rfl rfl
theorem kz_432 : (Cond.lays "java/lang/IllegalStateException" "java/lang/Throwable" "cause" "Ljava/lang/Throwable;") ∈ vT := vT_2 192 rfl rfl
theorem kz_433 : (Cond.lays "java/lang/IllegalStateException" "java/lang/Throwable" "stackTrace" "[Ljava/lang/StackTraceElement;") ∈ vT := vT_2 193 rfl rfl
theorem kz_434 : (Cond.lays "java/lang/IllegalStateException" "java/lang/Throwable" "suppressedExceptions" "Ljava/util/List;") ∈ vT := vT_2 194 rfl rfl
theorem kz_435 : (Cond.lays "java/lang/IllegalStateException" "java/lang/Throwable" "detailMessage" "Ljava/lang/String;") ∈ vT := vT_2 195 rfl rfl
theorem kz_436 : (Cond.lays "java/lang/IllegalStateException" "java/lang/Throwable" "backtrace" "Ljava/lang/Object;") ∈ vT := vT_2 196 rfl rfl
theorem km_Cs_65 : (Cond.methodLink "CodeShrinker" 65 ⟨"java/lang/IllegalStateException", "<init>", "(Ljava/lang/String;)V"⟩) ∈ vT := vT_2 198 rfl rfl
theorem kI_Is_init : (Cond.instanceMethod ⟨"java/lang/IllegalStateException", "<init>", "(Ljava/lang/String;)V"⟩) ∈ vT := vT_2 199 rfl rfl
theorem kM_Is_init : (Cond.code ⟨"java/lang/IllegalStateException", "<init>", "(Ljava/lang/String;)V"⟩ prog_15_method_2_code 2 (Option.none : Option Jvm.ClassFile.FieldType)) ∈ vT := vT_2 200 rfl rfl
theorem km_Is_7 : (Cond.methodLink "java/lang/IllegalStateException" 7 ⟨"java/lang/RuntimeException", "<init>", "(Ljava/lang/String;)V"⟩) ∈ vT := vT_2 201 rfl rfl
theorem kz_442 : (Cond.lays "java/lang/IllegalStateException" "java/lang/Throwable" "depth" "I") ∈ vT := vT_2 202 rfl rfl
theorem kz_443 : (Cond.superclass "java/lang/IllegalStateException" "java/lang/RuntimeException") ∈ vT := vT_2 203 rfl rfl
theorem kn_Pc : (Cond.instantiable "CodeShrinker$ProgramClass" 5) ∈ vT := vT_2 204 rfl rfl
theorem km_Cs_74 : (Cond.methodLink "CodeShrinker" 74 ⟨"CodeShrinker$ProgramClass", "<init>", "(ILCodeShrinker$ProgramClass;)V"⟩) ∈ vT := vT_2 205 rfl rfl
theorem kI_Pc_init : (Cond.instanceMethod ⟨"CodeShrinker$ProgramClass", "<init>", "(ILCodeShrinker$ProgramClass;)V"⟩) ∈ vT := vT_2 206 rfl rfl
theorem kM_Pc_init : (Cond.code ⟨"CodeShrinker$ProgramClass", "<init>", "(ILCodeShrinker$ProgramClass;)V"⟩ prog_5_method_1_code 3 (Option.none : Option Jvm.ClassFile.FieldType)) ∈ vT := vT_2 207 rfl rfl
theorem km_Pc_1 : (Cond.methodLink "CodeShrinker$ProgramClass" 1 ⟨"java/lang/Object", "<init>", "()V"⟩) ∈ vT := vT_2 208 rfl rfl
theorem kc_Pc_17 : (Cond.classLink "CodeShrinker$ProgramClass" 17 "java/util/ArrayList") ∈ vT := vT_2 209 rfl rfl
theorem km_Pc_19 : (Cond.methodLink "CodeShrinker$ProgramClass" 19 ⟨"java/util/ArrayList", "<init>", "()V"⟩) ∈ vT := vT_2 210 rfl rfl
theorem kf_Pc_7 : (Cond.fieldLink "CodeShrinker$ProgramClass" 7 "CodeShrinker$ProgramClass" "parent" "LCodeShrinker$ProgramClass;") ∈ vT := vT_2 211 rfl rfl
theorem kf_Cs_185 : (Cond.fieldLink "CodeShrinker" 185 "CodeShrinker$ProgramClass" "parent" "LCodeShrinker$ProgramClass;") ∈ vT := vT_2 212 rfl rfl
theorem kf_Pc_13 : (Cond.fieldLink "CodeShrinker$ProgramClass" 13 "CodeShrinker$ProgramClass" "firstNumber" "I") ∈ vT := vT_2 213 rfl rfl
theorem kf_Cs_156 : (Cond.fieldLink "CodeShrinker" 156 "CodeShrinker$ProgramClass" "firstNumber" "I") ∈ vT := vT_2 214 rfl rfl
theorem kf_Pc_20 : (Cond.fieldLink "CodeShrinker$ProgramClass" 20 "CodeShrinker$ProgramClass" "methods" "Ljava/util/ArrayList;") ∈ vT := vT_2 215 rfl rfl
theorem kf_Cs_101 : (Cond.fieldLink "CodeShrinker" 101 "CodeShrinker$ProgramClass" "methods" "Ljava/util/ArrayList;") ∈ vT := vT_2 216 rfl rfl
theorem kf_Pr_42 : (Cond.fieldLink "CodeShrinker$Program" 42 "CodeShrinker$ProgramClass" "methods" "Ljava/util/ArrayList;") ∈ vT := vT_2 217 rfl rfl
theorem kf_Pc_24 : (Cond.fieldLink "CodeShrinker$ProgramClass" 24 "CodeShrinker$ProgramClass" "number" "I") ∈ vT := vT_2 218 rfl rfl
theorem kf_It_26 : (Cond.fieldLink "CodeShrinker$Item" 26 "CodeShrinker$ProgramClass" "number" "I") ∈ vT := vT_2 219 rfl rfl
theorem kf_Pr_50 : (Cond.fieldLink "CodeShrinker$Program" 50 "CodeShrinker$ProgramClass" "number" "I") ∈ vT := vT_2 220 rfl rfl
theorem kf_Fa_106 : (Cond.fieldLink "CodeShrinker$Families" 106 "CodeShrinker$ProgramClass" "number" "I") ∈ vT := vT_2 221 rfl rfl
theorem kf_Cs_147 : (Cond.fieldLink "CodeShrinker" 147 "CodeShrinker$ProgramClass" "number" "I") ∈ vT := vT_2 222 rfl rfl
theorem kf_Pc_27 : (Cond.fieldLink "CodeShrinker$ProgramClass" 27 "CodeShrinker$ProgramClass" "made" "Z") ∈ vT := vT_2 223 rfl rfl
theorem kf_Pr_35 : (Cond.fieldLink "CodeShrinker$Program" 35 "CodeShrinker$ProgramClass" "made" "Z") ∈ vT := vT_2 224 rfl rfl
theorem kf_Re_46 : (Cond.fieldLink "CodeShrinker$Reach" 46 "CodeShrinker$ProgramClass" "made" "Z") ∈ vT := vT_2 225 rfl rfl
theorem kz_466 : (Cond.laysFinal "CodeShrinker$ProgramClass" "CodeShrinker$ProgramClass" "parent" "LCodeShrinker$ProgramClass;") ∈ vT := vT_2 226 rfl rfl
theorem kz_467 : (Cond.soleField "CodeShrinker$ProgramClass" "parent") ∈ vT := vT_2 227 rfl rfl
theorem kz_468 : (Cond.laysFinal "CodeShrinker$ProgramClass" "CodeShrinker$ProgramClass" "firstNumber" "I") ∈ vT := vT_2 228 rfl rfl
theorem kz_469 : (Cond.soleField "CodeShrinker$ProgramClass" "firstNumber") ∈ vT := vT_2 229 rfl rfl
theorem kz_470 : (Cond.laysFinal "CodeShrinker$ProgramClass" "CodeShrinker$ProgramClass" "methods" "Ljava/util/ArrayList;") ∈ vT := vT_2 230 rfl rfl
theorem kz_471 : (Cond.soleField "CodeShrinker$ProgramClass" "methods") ∈ vT := vT_2 231 rfl rfl
theorem kz_472 : (Cond.lays "CodeShrinker$ProgramClass" "CodeShrinker$ProgramClass" "number" "I") ∈ vT := vT_2 232 rfl rfl
theorem kz_473 : (Cond.soleField "CodeShrinker$ProgramClass" "number") ∈ vT := vT_2 233 rfl rfl
theorem kz_474 : (Cond.lays "CodeShrinker$ProgramClass" "CodeShrinker$ProgramClass" "made" "Z") ∈ vT := vT_2 234 rfl rfl
theorem kz_475 : (Cond.soleField "CodeShrinker$ProgramClass" "made") ∈ vT := vT_2 235 rfl rfl
theorem kz_476 : (Cond.superclass "CodeShrinker$ProgramClass" "java/lang/Object") ∈ vT := vT_2 236 rfl rfl
theorem km_Cs_77 : (Cond.methodLink "CodeShrinker" 77 ⟨"java/util/ArrayList", "add", "(Ljava/lang/Object;)Z"⟩) ∈ vT := vT_2 237 rfl rfl
theorem kI_Al_add : (Cond.instanceMethod ⟨"java/util/ArrayList", "add", "(Ljava/lang/Object;)Z"⟩) ∈ vT := vT_2 238 rfl rfl
theorem ks_Al_Al_add : (Cond.selects "java/util/ArrayList" ⟨"java/util/ArrayList", "add", "(Ljava/lang/Object;)Z"⟩ ⟨"java/util/ArrayList", "add", "(Ljava/lang/Object;)Z"⟩) ∈ vT := vT_2 239 rfl rfl
theorem kM_Al_add : (Cond.code ⟨"java/util/ArrayList", "add", "(Ljava/lang/Object;)Z"⟩ prog_24_method_25_code 2 (Option.some .boolean)) ∈ vT := vT_3 0 rfl rfl
theorem km_Al_131 : (Cond.methodLink "java/util/ArrayList" 131 ⟨"java/util/ArrayList", "add", "(Ljava/lang/Object;[Ljava/lang/Object;I)V"⟩) ∈ vT := vT_3 1 rfl rfl
theorem kz_482 : (Cond.privateMethod ⟨"java/util/ArrayList", "add", "(Ljava/lang/Object;[Ljava/lang/Object;I)V"⟩) ∈ vT := vT_3 2 rfl rfl
theorem kI_Al_add2 : (Cond.instanceMethod ⟨"java/util/ArrayList", "add", "(Ljava/lang/Object;[Ljava/lang/Object;I)V"⟩) ∈ vT := vT_3 3 rfl rfl
theorem kM_Al_add2 : (Cond.code ⟨"java/util/ArrayList", "add", "(Ljava/lang/Object;[Ljava/lang/Object;I)V"⟩ prog_24_method_24_code 4 (Option.none : Option Jvm.ClassFile.FieldType)) ∈ vT := vT_3 4 rfl rfl
theorem km_Al_129 : (Cond.methodLink "java/util/ArrayList" 129 ⟨"java/util/ArrayList", "grow", "()[Ljava/lang/Object;"⟩) ∈ vT := vT_3 5 rfl rfl
theorem kz_486 : (Cond.privateMethod ⟨"java/util/ArrayList", "grow", "()[Ljava/lang/Object;"⟩) ∈ vT := vT_3 6 rfl rfl
theorem kI_Al_grow : (Cond.instanceMethod ⟨"java/util/ArrayList", "grow", "()[Ljava/lang/Object;"⟩) ∈ vT := vT_3 7 rfl rfl
theorem kM_Al_grow : (Cond.code ⟨"java/util/ArrayList", "grow", "()[Ljava/lang/Object;"⟩ prog_24_method_7_code 1 (Option.some (.array (.object "java/lang/Object")))) ∈ vT := vT_3 8 rfl rfl
theorem km_Al_69 : (Cond.methodLink "java/util/ArrayList" 69 ⟨"java/util/ArrayList", "grow", "(I)[Ljava/lang/Object;"⟩) ∈ vT := vT_3 9 rfl rfl
theorem kz_490 : (Cond.privateMethod ⟨"java/util/ArrayList", "grow", "(I)[Ljava/lang/Object;"⟩) ∈ vT := vT_3 10 rfl rfl
theorem kI_Al_grow2 : (Cond.instanceMethod ⟨"java/util/ArrayList", "grow", "(I)[Ljava/lang/Object;"⟩) ∈ vT := vT_3 11 rfl rfl
theorem kM_Al_grow2 : (Cond.code ⟨"java/util/ArrayList", "grow", "(I)[Ljava/lang/Object;"⟩ prog_24_method_6_code 4 (Option.some (.array (.object "java/lang/Object")))) ∈ vT := vT_3 12 rfl rfl
theorem km_Al_73 : (Cond.methodLink "java/util/ArrayList" 73 ⟨"jdk/internal/util/ArraysSupport", "newLength", "(III)I"⟩) ∈ vT := vT_3 13 rfl rfl
theorem kS_As_newLength : (Cond.static ⟨"jdk/internal/util/ArraysSupport", "newLength", "(III)I"⟩) ∈ vT := vT_3 14 rfl rfl
theorem kM_As_newLength : (Cond.code ⟨"jdk/internal/util/ArraysSupport", "newLength", "(III)I"⟩ prog_32_method_27_code 4 (Option.some .int)) ∈ vT := vT_3 15 rfl rfl
theorem km_As_194 : (Cond.methodLink "jdk/internal/util/ArraysSupport" 194 ⟨"java/lang/Math", "max", "(II)I"⟩) ∈ vT := vT_3 16 rfl rfl
theorem kS_Ma_max : (Cond.static ⟨"java/lang/Math", "max", "(II)I"⟩) ∈ vT := vT_3 17 rfl rfl
theorem kM_Ma_max : (Cond.code ⟨"java/lang/Math", "max", "(II)I"⟩ prog_17_method_65_code 2 (Option.some .int)) ∈ vT := vT_3 18 rfl rfl
theorem kz_499 : (Cond.constant "jdk/internal/util/ArraysSupport" 200 (2147483639 : Int32)) ∈ vT := vT_3 19 rfl rfl
theorem km_As_201 : (Cond.methodLink "jdk/internal/util/ArraysSupport" 201 ⟨"jdk/internal/util/ArraysSupport", "hugeLength", "(II)I"⟩) ∈ vT := vT_3 20 rfl rfl
theorem kS_As_hugeLength : (Cond.static ⟨"jdk/internal/util/ArraysSupport", "hugeLength", "(II)I"⟩) ∈ vT := vT_3 21 rfl rfl
theorem kM_As_hugeLength : (Cond.code ⟨"jdk/internal/util/ArraysSupport", "hugeLength", "(II)I"⟩ prog_32_method_28_code 3 (Option.some .int)) ∈ vT := vT_3 22 rfl rfl
theorem km_Al_66 : (Cond.methodLink "java/util/ArrayList" 66 ⟨"java/util/Arrays", "copyOf", "([Ljava/lang/Object;I)[Ljava/lang/Object;"⟩) ∈ vT := vT_3 23 rfl rfl
theorem kS_Ar_copyOf : (Cond.static ⟨"java/util/Arrays", "copyOf", "([Ljava/lang/Object;I)[Ljava/lang/Object;"⟩) ∈ vT := vT_3 24 rfl rfl
theorem kM_Ar_copyOf : (Cond.code ⟨"java/util/Arrays", "copyOf", "([Ljava/lang/Object;I)[Ljava/lang/Object;"⟩ prog_25_method_119_code 2 (Option.some (.array (.object "java/lang/Object")))) ∈ vT := vT_3 25 rfl rfl
theorem km_Ar_86 : (Cond.methodLink "java/util/Arrays" 86 ⟨"java/lang/Object", "getClass", "()Ljava/lang/Class;"⟩) ∈ vT := vT_3 26 rfl rfl
theorem kI_Ob_getClass__Ljava_lang_Class_ : (Cond.instanceMethod ⟨"java/lang/Object", "getClass", "()Ljava/lang/Class;"⟩) ∈ vT := vT_3 27 rfl rfl
theorem kz_508 : (Cond.sameMethod "java/lang/Object" "java/lang/Object" "getClass" "()Ljava/lang/Class;") ∈ vT := vT_3 28 rfl rfl
theorem ks_Cs_Ob_getClass__Ljava_lang_Class_ : (Cond.selects "CodeShrinker" ⟨"java/lang/Object", "getClass", "()Ljava/lang/Class;"⟩ ⟨"java/lang/Object", "getClass", "()Ljava/lang/Class;"⟩) ∈ vT := vT_3 29 rfl rfl
theorem ks_Fa_Ob_getClass__Ljava_lang_Class_ : (Cond.selects "CodeShrinker$Families" ⟨"java/lang/Object", "getClass", "()Ljava/lang/Class;"⟩ ⟨"java/lang/Object", "getClass", "()Ljava/lang/Class;"⟩) ∈ vT := vT_3 30 rfl rfl
theorem ks_It_Ob_getClass__Ljava_lang_Class_ : (Cond.selects "CodeShrinker$Item" ⟨"java/lang/Object", "getClass", "()Ljava/lang/Class;"⟩ ⟨"java/lang/Object", "getClass", "()Ljava/lang/Class;"⟩) ∈ vT := vT_3 31 rfl rfl
theorem ks_Pr_Ob_getClass__Ljava_lang_Class_ : (Cond.selects "CodeShrinker$Program" ⟨"java/lang/Object", "getClass", "()Ljava/lang/Class;"⟩ ⟨"java/lang/Object", "getClass", "()Ljava/lang/Class;"⟩) ∈ vT := vT_3 32 rfl rfl
theorem ks_Pc_Ob_getClass__Ljava_lang_Class_ : (Cond.selects "CodeShrinker$ProgramClass" ⟨"java/lang/Object", "getClass", "()Ljava/lang/Class;"⟩ ⟨"java/lang/Object", "getClass", "()Ljava/lang/Class;"⟩) ∈ vT := vT_3 33 rfl rfl
theorem ks_Pm_Ob_getClass__Ljava_lang_Class_ : (Cond.selects "CodeShrinker$ProgramMethod" ⟨"java/lang/Object", "getClass", "()Ljava/lang/Class;"⟩ ⟨"java/lang/Object", "getClass", "()Ljava/lang/Class;"⟩) ∈ vT := vT_3 34 rfl rfl
theorem ks_Re_Ob_getClass__Ljava_lang_Class_ : (Cond.selects "CodeShrinker$Reach" ⟨"java/lang/Object", "getClass", "()Ljava/lang/Class;"⟩ ⟨"java/lang/Object", "getClass", "()Ljava/lang/Class;"⟩) ∈ vT := vT_3 35 rfl rfl
theorem ks_Ru_Ob_getClass__Ljava_lang_Class_ : (Cond.selects "CodeShrinker$Runner" ⟨"java/lang/Object", "getClass", "()Ljava/lang/Class;"⟩ ⟨"java/lang/Object", "getClass", "()Ljava/lang/Class;"⟩) ∈ vT := vT_3 36 rfl rfl
theorem ks_Mo_Ob_getClass__Ljava_lang_Class_ : (Cond.selects "CodeShrinkerModel" ⟨"java/lang/Object", "getClass", "()Ljava/lang/Class;"⟩ ⟨"java/lang/Object", "getClass", "()Ljava/lang/Class;"⟩) ∈ vT := vT_3 37 rfl rfl
theorem ks_Ia_Ob_getClass__Ljava_lang_Class_ : (Cond.selects "java/lang/IllegalArgumentException" ⟨"java/lang/Object", "getClass", "()Ljava/lang/Class;"⟩ ⟨"java/lang/Object", "getClass", "()Ljava/lang/Class;"⟩) ∈ vT := vT_3 38 rfl rfl
theorem ks_Is_Ob_getClass__Ljava_lang_Class_ : (Cond.selects "java/lang/IllegalStateException" ⟨"java/lang/Object", "getClass", "()Ljava/lang/Class;"⟩ ⟨"java/lang/Object", "getClass", "()Ljava/lang/Class;"⟩) ∈ vT := vT_3 39 rfl rfl
theorem ks_Al_Ob_getClass__Ljava_lang_Class_ : (Cond.selects "java/util/ArrayList" ⟨"java/lang/Object", "getClass", "()Ljava/lang/Class;"⟩ ⟨"java/lang/Object", "getClass", "()Ljava/lang/Class;"⟩) ∈ vT := vT_3 40 rfl rfl
theorem ks_Ns_Ob_getClass__Ljava_lang_Class_ : (Cond.selects "java/util/NoSuchElementException" ⟨"java/lang/Object", "getClass", "()Ljava/lang/Class;"⟩ ⟨"java/lang/Object", "getClass", "()Ljava/lang/Class;"⟩) ∈ vT := vT_3 41 rfl rfl
theorem kz_522 : (Cond.native ⟨"java/lang/Object", "getClass", "()Ljava/lang/Class;"⟩) ∈ vT := vT_3 42 rfl rfl
theorem km_Ar_300 : (Cond.methodLink "java/util/Arrays" 300 ⟨"java/util/Arrays", "copyOf", "([Ljava/lang/Object;ILjava/lang/Class;)[Ljava/lang/Object;"⟩) ∈ vT := vT_3 43 rfl rfl
theorem kS_Ar_copyOf2 : (Cond.static ⟨"java/util/Arrays", "copyOf", "([Ljava/lang/Object;ILjava/lang/Class;)[Ljava/lang/Object;"⟩) ∈ vT := vT_3 44 rfl rfl
theorem kM_Ar_copyOf2 : (Cond.code ⟨"java/util/Arrays", "copyOf", "([Ljava/lang/Object;ILjava/lang/Class;)[Ljava/lang/Object;"⟩ prog_25_method_120_code 4 (Option.some (.array (.object "java/lang/Object")))) ∈ vT := vT_3 45 rfl rfl
theorem kc_Ar_110 : (Cond.classLink "java/util/Arrays" 110 "[Ljava/lang/Object;") ∈ vT := vT_3 46 rfl rfl
theorem kc_Ar_2 : (Cond.classLink "java/util/Arrays" 2 "java/lang/Object") ∈ vT := vT_3 48 rfl rfl
theorem km_Ar_304 : (Cond.methodLink "java/util/Arrays" 304 ⟨"java/lang/Math", "min", "(II)I"⟩) ∈ vT := vT_3 49 rfl rfl
theorem km_Ar_150 : (Cond.methodLink "java/util/Arrays" 150 ⟨"java/lang/System", "arraycopy", "(Ljava/lang/Object;ILjava/lang/Object;II)V"⟩) ∈ vT := vT_3 50 rfl rfl
theorem km_Al_79 : (Cond.methodLink "java/util/ArrayList" 79 ⟨"java/lang/Math", "max", "(II)I"⟩) ∈ vT := vT_3 51 rfl rfl
theorem kc_Al_7 : (Cond.classLink "java/util/ArrayList" 7 "java/lang/Object") ∈ vT := vT_3 52 rfl rfl
theorem km_Lw_58 : (Cond.methodLink "CodeShrinkerLaw" 58 ⟨"CodeShrinkerLaw", "method", "(LCodeShrinker;III[J)I"⟩) ∈ vT := vT_3 53 rfl rfl
theorem kS_Lw_method : (Cond.static ⟨"CodeShrinkerLaw", "method", "(LCodeShrinker;III[J)I"⟩) ∈ vT := vT_3 54 rfl rfl
theorem kM_Lw_method : (Cond.codeWith ⟨"CodeShrinkerLaw", "method", "(LCodeShrinker;III[J)I"⟩ method_4_code 6 (Option.some .int) [(0, 12, 15, 13), (0, 12, 19, 15)]) ∈ vT := vT_3 55 rfl rfl
theorem km_Lw_17 : (Cond.methodLink "CodeShrinkerLaw" 17 ⟨"CodeShrinker", "method", "(III)I"⟩) ∈ vT := vT_3 56 rfl rfl
theorem kI_Cs_method : (Cond.instanceMethod ⟨"CodeShrinker", "method", "(III)I"⟩) ∈ vT := vT_3 57 rfl rfl
theorem ks_Cs_Cs_method : (Cond.selects "CodeShrinker" ⟨"CodeShrinker", "method", "(III)I"⟩ ⟨"CodeShrinker", "method", "(III)I"⟩) ∈ vT := vT_3 58 rfl rfl
theorem kM_Cs_method : (Cond.code ⟨"CodeShrinker", "method", "(III)I"⟩ prog_1_method_3_code 7 (Option.some .int)) ∈ vT := vT_3 59 rfl rfl
theorem km_Cs_81 : (Cond.methodLink "CodeShrinker" 81 ⟨"CodeShrinker", "isName", "(I)Z"⟩) ∈ vT := vT_3 60 rfl rfl
theorem kS_Cs_isName : (Cond.static ⟨"CodeShrinker", "isName", "(I)Z"⟩) ∈ vT := vT_3 61 rfl rfl
theorem kM_Cs_isName : (Cond.code ⟨"CodeShrinker", "isName", "(I)Z"⟩ prog_1_method_18_code 1 (Option.some .boolean)) ∈ vT := vT_3 62 rfl rfl
theorem km_Cs_84 : (Cond.methodLink "CodeShrinker" 84 ⟨"CodeShrinker", "isArity", "(I)Z"⟩) ∈ vT := vT_3 63 rfl rfl
theorem kS_Cs_isArity : (Cond.static ⟨"CodeShrinker", "isArity", "(I)Z"⟩) ∈ vT := vT_3 64 rfl rfl
theorem kM_Cs_isArity : (Cond.code ⟨"CodeShrinker", "isArity", "(I)Z"⟩ prog_1_method_19_code 1 (Option.some .boolean)) ∈ vT := vT_3 65 rfl rfl
theorem km_Cs_90 : (Cond.methodLink "CodeShrinker" 90 ⟨"CodeShrinker$ProgramClass", "own", "(II)LCodeShrinker$ProgramMethod;"⟩) ∈ vT := vT_3 66 rfl rfl
theorem kc_Cs_96 : (Cond.classLink "CodeShrinker" 96 "CodeShrinker$ProgramMethod") ∈ vT := vT_3 68 rfl rfl
theorem kn_Pm : (Cond.instantiable "CodeShrinker$ProgramMethod" 8) ∈ vT := vT_3 69 rfl rfl
theorem km_Cs_98 : (Cond.methodLink "CodeShrinker" 98 ⟨"CodeShrinker$ProgramMethod", "<init>", "(ILCodeShrinker$ProgramClass;II)V"⟩) ∈ vT := vT_3 70 rfl rfl
theorem kI_Pm_init : (Cond.instanceMethod ⟨"CodeShrinker$ProgramMethod", "<init>", "(ILCodeShrinker$ProgramClass;II)V"⟩) ∈ vT := vT_3 71 rfl rfl
theorem kM_Pm_init : (Cond.code ⟨"CodeShrinker$ProgramMethod", "<init>", "(ILCodeShrinker$ProgramClass;II)V"⟩ prog_6_method_1_code 5 (Option.none : Option Jvm.ClassFile.FieldType)) ∈ vT := vT_3 72 rfl rfl
theorem km_Pm_1 : (Cond.methodLink "CodeShrinker$ProgramMethod" 1 ⟨"java/lang/Object", "<init>", "()V"⟩) ∈ vT := vT_3 73 rfl rfl
theorem kc_Pm_23 : (Cond.classLink "CodeShrinker$ProgramMethod" 23 "java/util/ArrayList") ∈ vT := vT_3 74 rfl rfl
theorem km_Pm_25 : (Cond.methodLink "CodeShrinker$ProgramMethod" 25 ⟨"java/util/ArrayList", "<init>", "()V"⟩) ∈ vT := vT_3 75 rfl rfl
theorem kf_Pm_7 : (Cond.fieldLink "CodeShrinker$ProgramMethod" 7 "CodeShrinker$ProgramMethod" "owner" "LCodeShrinker$ProgramClass;") ∈ vT := vT_3 76 rfl rfl
theorem kf_Fa_59 : (Cond.fieldLink "CodeShrinker$Families" 59 "CodeShrinker$ProgramMethod" "owner" "LCodeShrinker$ProgramClass;") ∈ vT := vT_3 77 rfl rfl
theorem kf_Re_64 : (Cond.fieldLink "CodeShrinker$Reach" 64 "CodeShrinker$ProgramMethod" "owner" "LCodeShrinker$ProgramClass;") ∈ vT := vT_3 78 rfl rfl
theorem kf_Cs_143 : (Cond.fieldLink "CodeShrinker" 143 "CodeShrinker$ProgramMethod" "owner" "LCodeShrinker$ProgramClass;") ∈ vT := vT_3 79 rfl rfl
theorem kf_Pm_13 : (Cond.fieldLink "CodeShrinker$ProgramMethod" 13 "CodeShrinker$ProgramMethod" "firstNumber" "I") ∈ vT := vT_3 80 rfl rfl
theorem kf_Cs_162 : (Cond.fieldLink "CodeShrinker" 162 "CodeShrinker$ProgramMethod" "firstNumber" "I") ∈ vT := vT_3 81 rfl rfl
theorem kf_Pm_17 : (Cond.fieldLink "CodeShrinker$ProgramMethod" 17 "CodeShrinker$ProgramMethod" "firstName" "I") ∈ vT := vT_3 82 rfl rfl
theorem kf_Cs_159 : (Cond.fieldLink "CodeShrinker" 159 "CodeShrinker$ProgramMethod" "firstName" "I") ∈ vT := vT_3 83 rfl rfl
theorem kf_Pm_20 : (Cond.fieldLink "CodeShrinker$ProgramMethod" 20 "CodeShrinker$ProgramMethod" "arity" "I") ∈ vT := vT_3 84 rfl rfl
theorem kf_Pc_44 : (Cond.fieldLink "CodeShrinker$ProgramClass" 44 "CodeShrinker$ProgramMethod" "arity" "I") ∈ vT := vT_3 85 rfl rfl
theorem kf_Fa_66 : (Cond.fieldLink "CodeShrinker$Families" 66 "CodeShrinker$ProgramMethod" "arity" "I") ∈ vT := vT_3 86 rfl rfl
theorem kf_Cs_153 : (Cond.fieldLink "CodeShrinker" 153 "CodeShrinker$ProgramMethod" "arity" "I") ∈ vT := vT_3 87 rfl rfl
theorem kf_Pm_26 : (Cond.fieldLink "CodeShrinker$ProgramMethod" 26 "CodeShrinker$ProgramMethod" "items" "Ljava/util/ArrayList;") ∈ vT := vT_3 88 rfl rfl
theorem kf_Ru_40 : (Cond.fieldLink "CodeShrinker$Runner" 40 "CodeShrinker$ProgramMethod" "items" "Ljava/util/ArrayList;") ∈ vT := vT_3 89 rfl rfl
theorem kf_Cs_109 : (Cond.fieldLink "CodeShrinker" 109 "CodeShrinker$ProgramMethod" "items" "Ljava/util/ArrayList;") ∈ vT := vT_3 90 rfl rfl
theorem kf_Re_75 : (Cond.fieldLink "CodeShrinker$Reach" 75 "CodeShrinker$ProgramMethod" "items" "Ljava/util/ArrayList;") ∈ vT := vT_3 91 rfl rfl
theorem kf_Fa_119 : (Cond.fieldLink "CodeShrinker$Families" 119 "CodeShrinker$ProgramMethod" "items" "Ljava/util/ArrayList;") ∈ vT := vT_3 92 rfl rfl
theorem kf_Pm_30 : (Cond.fieldLink "CodeShrinker$ProgramMethod" 30 "CodeShrinker$ProgramMethod" "name" "I") ∈ vT := vT_3 93 rfl rfl
theorem kf_Pc_41 : (Cond.fieldLink "CodeShrinker$ProgramClass" 41 "CodeShrinker$ProgramMethod" "name" "I") ∈ vT := vT_3 94 rfl rfl
theorem kf_Fa_63 : (Cond.fieldLink "CodeShrinker$Families" 63 "CodeShrinker$ProgramMethod" "name" "I") ∈ vT := vT_3 95 rfl rfl
theorem kf_Cs_150 : (Cond.fieldLink "CodeShrinker" 150 "CodeShrinker$ProgramMethod" "name" "I") ∈ vT := vT_3 96 rfl rfl
theorem kf_Pm_33 : (Cond.fieldLink "CodeShrinker$ProgramMethod" 33 "CodeShrinker$ProgramMethod" "kept" "Z") ∈ vT := vT_3 97 rfl rfl
theorem kf_Fa_77 : (Cond.fieldLink "CodeShrinker$Families" 77 "CodeShrinker$ProgramMethod" "kept" "Z") ∈ vT := vT_3 98 rfl rfl
theorem kf_Re_57 : (Cond.fieldLink "CodeShrinker$Reach" 57 "CodeShrinker$ProgramMethod" "kept" "Z") ∈ vT := vT_3 99 rfl rfl
theorem kf_Cs_118 : (Cond.fieldLink "CodeShrinker" 118 "CodeShrinker$ProgramMethod" "kept" "Z") ∈ vT := vT_3 100 rfl rfl
theorem kf_Pm_37 : (Cond.fieldLink "CodeShrinker$ProgramMethod" 37 "CodeShrinker$ProgramMethod" "live" "Z") ∈ vT := vT_3 101 rfl rfl
theorem kf_Pr_29 : (Cond.fieldLink "CodeShrinker$Program" 29 "CodeShrinker$ProgramMethod" "live" "Z") ∈ vT := vT_3 102 rfl rfl
theorem kf_Re_54 : (Cond.fieldLink "CodeShrinker$Reach" 54 "CodeShrinker$ProgramMethod" "live" "Z") ∈ vT := vT_3 103 rfl rfl
theorem kz_584 : (Cond.laysFinal "CodeShrinker$ProgramMethod" "CodeShrinker$ProgramMethod" "owner" "LCodeShrinker$ProgramClass;") ∈ vT := vT_3 104 rfl rfl
theorem kz_585 : (Cond.soleField "CodeShrinker$ProgramMethod" "owner") ∈ vT := vT_3 105 rfl rfl
theorem kz_586 : (Cond.laysFinal "CodeShrinker$ProgramMethod" "CodeShrinker$ProgramMethod" "firstNumber" "I") ∈ vT := vT_3 106 rfl rfl
theorem kz_587 : (Cond.soleField "CodeShrinker$ProgramMethod" "firstNumber") ∈ vT := vT_3 107 rfl rfl
theorem kz_588 : (Cond.laysFinal "CodeShrinker$ProgramMethod" "CodeShrinker$ProgramMethod" "firstName" "I") ∈ vT := vT_3 108 rfl rfl
theorem kz_589 : (Cond.soleField "CodeShrinker$ProgramMethod" "firstName") ∈ vT := vT_3 109 rfl rfl
theorem kz_590 : (Cond.laysFinal "CodeShrinker$ProgramMethod" "CodeShrinker$ProgramMethod" "arity" "I") ∈ vT := vT_3 110 rfl rfl
theorem kz_591 : (Cond.soleField "CodeShrinker$ProgramMethod" "arity") ∈ vT := vT_3 111 rfl rfl
theorem kz_592 : (Cond.laysFinal "CodeShrinker$ProgramMethod" "CodeShrinker$ProgramMethod" "items" "Ljava/util/ArrayList;") ∈ vT := vT_3 112 rfl rfl
theorem kz_593 : (Cond.soleField "CodeShrinker$ProgramMethod" "items") ∈ vT := vT_3 113 rfl rfl
theorem kz_594 : (Cond.lays "CodeShrinker$ProgramMethod" "CodeShrinker$ProgramMethod" "name" "I") ∈ vT := vT_3 114 rfl rfl
theorem kz_595 : (Cond.soleField "CodeShrinker$ProgramMethod" "name") ∈ vT := vT_3 115 rfl rfl
theorem kz_596 : (Cond.lays "CodeShrinker$ProgramMethod" "CodeShrinker$ProgramMethod" "kept" "Z") ∈ vT := vT_3 116 rfl rfl
theorem kz_597 : (Cond.soleField "CodeShrinker$ProgramMethod" "kept") ∈ vT := vT_3 117 rfl rfl
theorem kz_598 : (Cond.lays "CodeShrinker$ProgramMethod" "CodeShrinker$ProgramMethod" "live" "Z") ∈ vT := vT_3 118 rfl rfl
theorem kz_599 : (Cond.soleField "CodeShrinker$ProgramMethod" "live") ∈ vT := vT_3 119 rfl rfl
theorem kz_600 : (Cond.superclass "CodeShrinker$ProgramMethod" "java/lang/Object") ∈ vT := vT_3 120 rfl rfl
theorem km_Lw_62 : (Cond.methodLink "CodeShrinkerLaw" 62 ⟨"CodeShrinkerLaw", "item", "(LCodeShrinker;IIIII[J)I"⟩) ∈ vT := vT_3 121 rfl rfl
theorem kS_Lw_item : (Cond.static ⟨"CodeShrinkerLaw", "item", "(LCodeShrinker;IIIII[J)I"⟩) ∈ vT := vT_3 122 rfl rfl
theorem kM_Lw_item : (Cond.codeWith ⟨"CodeShrinkerLaw", "item", "(LCodeShrinker;IIIII[J)I"⟩ method_5_code 8 (Option.some .int) [(0, 16, 19, 13), (0, 16, 23, 15)]) ∈ vT := vT_3 123 rfl rfl
theorem km_Lw_21 : (Cond.methodLink "CodeShrinkerLaw" 21 ⟨"CodeShrinker", "item", "(IIIII)I"⟩) ∈ vT := vT_3 124 rfl rfl
theorem kI_Cs_item : (Cond.instanceMethod ⟨"CodeShrinker", "item", "(IIIII)I"⟩) ∈ vT := vT_3 125 rfl rfl
theorem ks_Cs_Cs_item : (Cond.selects "CodeShrinker" ⟨"CodeShrinker", "item", "(IIIII)I"⟩ ⟨"CodeShrinker", "item", "(IIIII)I"⟩) ∈ vT := vT_3 126 rfl rfl
theorem kM_Cs_item : (Cond.code ⟨"CodeShrinker", "item", "(IIIII)I"⟩ prog_1_method_4_code 7 (Option.some .int)) ∈ vT := vT_3 127 rfl rfl
theorem km_Cs_102 : (Cond.methodLink "CodeShrinker" 102 ⟨"CodeShrinker", "isMethod", "(I)Z"⟩) ∈ vT := vT_3 128 rfl rfl
theorem kz_609 : (Cond.privateMethod ⟨"CodeShrinker", "isMethod", "(I)Z"⟩) ∈ vT := vT_3 129 rfl rfl
theorem kI_Cs_isMethod : (Cond.instanceMethod ⟨"CodeShrinker", "isMethod", "(I)Z"⟩) ∈ vT := vT_3 130 rfl rfl
theorem kM_Cs_isMethod : (Cond.code ⟨"CodeShrinker", "isMethod", "(I)Z"⟩ prog_1_method_16_code 2 (Option.some .boolean)) ∈ vT := vT_3 131 rfl rfl
theorem km_Cs_105 : (Cond.methodLink "CodeShrinker" 105 ⟨"CodeShrinker", "isItem", "(IIII)Z"⟩) ∈ vT := vT_3 132 rfl rfl
theorem kz_613 : (Cond.privateMethod ⟨"CodeShrinker", "isItem", "(IIII)Z"⟩) ∈ vT := vT_3 133 rfl rfl
theorem kI_Cs_isItem : (Cond.instanceMethod ⟨"CodeShrinker", "isItem", "(IIII)Z"⟩) ∈ vT := vT_3 134 rfl rfl
theorem kM_Cs_isItem : (Cond.code ⟨"CodeShrinker", "isItem", "(IIII)Z"⟩ prog_1_method_17_code 5 (Option.some .boolean)) ∈ vT := vT_3 135 rfl rfl
theorem km_Cs_114 : (Cond.methodLink "CodeShrinker" 114 ⟨"CodeShrinker", "newItem", "(IIII)LCodeShrinker$Item;"⟩) ∈ vT := vT_3 137 rfl rfl
theorem kz_618 : (Cond.privateMethod ⟨"CodeShrinker", "newItem", "(IIII)LCodeShrinker$Item;"⟩) ∈ vT := vT_3 138 rfl rfl
theorem kI_Cs_newItem : (Cond.instanceMethod ⟨"CodeShrinker", "newItem", "(IIII)LCodeShrinker$Item;"⟩) ∈ vT := vT_3 139 rfl rfl
theorem kM_Cs_newItem : (Cond.code ⟨"CodeShrinker", "newItem", "(IIII)LCodeShrinker$Item;"⟩ prog_1_method_14_code 6 (Option.some (.object "CodeShrinker$Item"))) ∈ vT := vT_3 140 rfl rfl
theorem kc_Cs_168 : (Cond.classLink "CodeShrinker" 168 "CodeShrinker$Item") ∈ vT := vT_3 141 rfl rfl
theorem kn_It : (Cond.instantiable "CodeShrinker$Item" 5) ∈ vT := vT_3 142 rfl rfl
theorem km_Cs_188 : (Cond.methodLink "CodeShrinker" 188 ⟨"CodeShrinker$Item", "<init>", "(IILCodeShrinker$ProgramClass;II)V"⟩) ∈ vT := vT_3 143 rfl rfl
theorem kI_It_init : (Cond.instanceMethod ⟨"CodeShrinker$Item", "<init>", "(IILCodeShrinker$ProgramClass;II)V"⟩) ∈ vT := vT_3 144 rfl rfl
theorem kM_It_init : (Cond.code ⟨"CodeShrinker$Item", "<init>", "(IILCodeShrinker$ProgramClass;II)V"⟩ prog_3_method_1_code 6 (Option.none : Option Jvm.ClassFile.FieldType)) ∈ vT := vT_3 145 rfl rfl
theorem km_It_1 : (Cond.methodLink "CodeShrinker$Item" 1 ⟨"java/lang/Object", "<init>", "()V"⟩) ∈ vT := vT_3 146 rfl rfl
theorem kf_It_7 : (Cond.fieldLink "CodeShrinker$Item" 7 "CodeShrinker$Item" "kind" "I") ∈ vT := vT_3 147 rfl rfl
theorem kf_Ru_64 : (Cond.fieldLink "CodeShrinker$Runner" 64 "CodeShrinker$Item" "kind" "I") ∈ vT := vT_3 148 rfl rfl
theorem kf_Re_94 : (Cond.fieldLink "CodeShrinker$Reach" 94 "CodeShrinker$Item" "kind" "I") ∈ vT := vT_3 149 rfl rfl
theorem kf_Fa_124 : (Cond.fieldLink "CodeShrinker$Families" 124 "CodeShrinker$Item" "kind" "I") ∈ vT := vT_3 150 rfl rfl
theorem kf_It_13 : (Cond.fieldLink "CodeShrinker$Item" 13 "CodeShrinker$Item" "value" "I") ∈ vT := vT_3 151 rfl rfl
theorem kf_Ru_67 : (Cond.fieldLink "CodeShrinker$Runner" 67 "CodeShrinker$Item" "value" "I") ∈ vT := vT_3 152 rfl rfl
theorem kf_It_16 : (Cond.fieldLink "CodeShrinker$Item" 16 "CodeShrinker$Item" "target" "LCodeShrinker$ProgramClass;") ∈ vT := vT_3 153 rfl rfl
theorem kf_Ru_70 : (Cond.fieldLink "CodeShrinker$Runner" 70 "CodeShrinker$Item" "target" "LCodeShrinker$ProgramClass;") ∈ vT := vT_3 154 rfl rfl
theorem kf_Re_80 : (Cond.fieldLink "CodeShrinker$Reach" 80 "CodeShrinker$Item" "target" "LCodeShrinker$ProgramClass;") ∈ vT := vT_3 155 rfl rfl
theorem kf_Fa_136 : (Cond.fieldLink "CodeShrinker$Families" 136 "CodeShrinker$Item" "target" "LCodeShrinker$ProgramClass;") ∈ vT := vT_3 156 rfl rfl
theorem kf_It_20 : (Cond.fieldLink "CodeShrinker$Item" 20 "CodeShrinker$Item" "arity" "I") ∈ vT := vT_3 157 rfl rfl
theorem kf_Ru_77 : (Cond.fieldLink "CodeShrinker$Runner" 77 "CodeShrinker$Item" "arity" "I") ∈ vT := vT_3 158 rfl rfl
theorem kf_Re_87 : (Cond.fieldLink "CodeShrinker$Reach" 87 "CodeShrinker$Item" "arity" "I") ∈ vT := vT_3 159 rfl rfl
theorem kf_Fa_128 : (Cond.fieldLink "CodeShrinker$Families" 128 "CodeShrinker$Item" "arity" "I") ∈ vT := vT_3 160 rfl rfl
theorem kf_It_23 : (Cond.fieldLink "CodeShrinker$Item" 23 "CodeShrinker$Item" "name" "I") ∈ vT := vT_3 161 rfl rfl
theorem kf_Ru_74 : (Cond.fieldLink "CodeShrinker$Runner" 74 "CodeShrinker$Item" "name" "I") ∈ vT := vT_3 162 rfl rfl
theorem kf_Re_83 : (Cond.fieldLink "CodeShrinker$Reach" 83 "CodeShrinker$Item" "name" "I") ∈ vT := vT_3 163 rfl rfl
theorem kf_Fa_127 : (Cond.fieldLink "CodeShrinker$Families" 127 "CodeShrinker$Item" "name" "I") ∈ vT := vT_3 164 rfl rfl
theorem kz_645 : (Cond.laysFinal "CodeShrinker$Item" "CodeShrinker$Item" "kind" "I") ∈ vT := vT_3 165 rfl rfl
theorem kz_646 : (Cond.soleField "CodeShrinker$Item" "kind") ∈ vT := vT_3 166 rfl rfl
theorem kz_647 : (Cond.laysFinal "CodeShrinker$Item" "CodeShrinker$Item" "value" "I") ∈ vT := vT_3 167 rfl rfl
theorem kz_648 : (Cond.soleField "CodeShrinker$Item" "value") ∈ vT := vT_3 168 rfl rfl
theorem kz_649 : (Cond.laysFinal "CodeShrinker$Item" "CodeShrinker$Item" "target" "LCodeShrinker$ProgramClass;") ∈ vT := vT_3 169 rfl rfl
theorem kz_650 : (Cond.soleField "CodeShrinker$Item" "target") ∈ vT := vT_3 170 rfl rfl
theorem kz_651 : (Cond.laysFinal "CodeShrinker$Item" "CodeShrinker$Item" "arity" "I") ∈ vT := vT_3 171 rfl rfl
theorem kz_652 : (Cond.soleField "CodeShrinker$Item" "arity") ∈ vT := vT_3 172 rfl rfl
theorem kz_653 : (Cond.lays "CodeShrinker$Item" "CodeShrinker$Item" "name" "I") ∈ vT := vT_3 173 rfl rfl
theorem kz_654 : (Cond.soleField "CodeShrinker$Item" "name") ∈ vT := vT_3 174 rfl rfl
theorem kz_655 : (Cond.superclass "CodeShrinker$Item" "java/lang/Object") ∈ vT := vT_3 175 rfl rfl
theorem km_Lw_66 : (Cond.methodLink "CodeShrinkerLaw" 66 ⟨"CodeShrinkerLaw", "keep", "(LCodeShrinker;IZ)I"⟩) ∈ vT := vT_3 176 rfl rfl
theorem kS_Lw_keep : (Cond.static ⟨"CodeShrinkerLaw", "keep", "(LCodeShrinker;IZ)I"⟩) ∈ vT := vT_3 177 rfl rfl
theorem kM_Lw_keep : (Cond.codeWith ⟨"CodeShrinkerLaw", "keep", "(LCodeShrinker;IZ)I"⟩ method_6_code 4 (Option.some .int) [(0, 6, 9, 13)]) ∈ vT := vT_3 178 rfl rfl
theorem km_Lw_25 : (Cond.methodLink "CodeShrinkerLaw" 25 ⟨"CodeShrinker", "keep", "(IZ)V"⟩) ∈ vT := vT_3 179 rfl rfl
theorem kI_Cs_keep : (Cond.instanceMethod ⟨"CodeShrinker", "keep", "(IZ)V"⟩) ∈ vT := vT_3 180 rfl rfl
theorem ks_Cs_Cs_keep : (Cond.selects "CodeShrinker" ⟨"CodeShrinker", "keep", "(IZ)V"⟩ ⟨"CodeShrinker", "keep", "(IZ)V"⟩) ∈ vT := vT_3 181 rfl rfl
theorem kM_Cs_keep : (Cond.code ⟨"CodeShrinker", "keep", "(IZ)V"⟩ prog_1_method_5_code 3 (Option.none : Option Jvm.ClassFile.FieldType)) ∈ vT := vT_3 182 rfl rfl
theorem km_Lw_70 : (Cond.methodLink "CodeShrinkerLaw" 70 ⟨"CodeShrinkerLaw", "run", "(LCodeShrinker;III[J)I"⟩) ∈ vT := vT_3 183 rfl rfl
theorem kS_Lw_run : (Cond.static ⟨"CodeShrinkerLaw", "run", "(LCodeShrinker;III[J)I"⟩) ∈ vT := vT_3 184 rfl rfl
theorem kM_Lw_run : (Cond.codeWith ⟨"CodeShrinkerLaw", "run", "(LCodeShrinker;III[J)I"⟩ method_7_code 6 (Option.some .int) [(0, 12, 15, 13), (0, 12, 19, 32), (0, 12, 23, 15)]) ∈ vT := vT_3 185 rfl rfl
theorem kc_Lw_32 : (Cond.classLink "CodeShrinkerLaw" 32 "java/util/NoSuchElementException") ∈ vT := vT_3 186 rfl rfl
theorem km_Lw_29 : (Cond.methodLink "CodeShrinkerLaw" 29 ⟨"CodeShrinker", "run", "(III)I"⟩) ∈ vT := vT_3 187 rfl rfl
theorem kI_Cs_run : (Cond.instanceMethod ⟨"CodeShrinker", "run", "(III)I"⟩) ∈ vT := vT_3 188 rfl rfl
theorem ks_Cs_Cs_run : (Cond.selects "CodeShrinker" ⟨"CodeShrinker", "run", "(III)I"⟩ ⟨"CodeShrinker", "run", "(III)I"⟩) ∈ vT := vT_3 189 rfl rfl
theorem kM_Cs_run : (Cond.code ⟨"CodeShrinker", "run", "(III)I"⟩ prog_1_method_6_code 4 (Option.some .int)) ∈ vT := vT_3 190 rfl rfl
theorem km_Cs_122 : (Cond.methodLink "CodeShrinker" 122 ⟨"CodeShrinker$Runner", "outcomeOf", "(LCodeShrinker$ProgramClass;II)I"⟩) ∈ vT := vT_3 191 rfl rfl
theorem kI_Ru_outcomeOf : (Cond.instanceMethod ⟨"CodeShrinker$Runner", "outcomeOf", "(LCodeShrinker$ProgramClass;II)I"⟩) ∈ vT := vT_3 192 rfl rfl
theorem ks_Ru_Ru_outcomeOf : (Cond.selects "CodeShrinker$Runner" ⟨"CodeShrinker$Runner", "outcomeOf", "(LCodeShrinker$ProgramClass;II)I"⟩ ⟨"CodeShrinker$Runner", "outcomeOf", "(LCodeShrinker$ProgramClass;II)I"⟩) ∈ vT := vT_3 193 rfl rfl
theorem kM_Ru_outcomeOf : (Cond.code ⟨"CodeShrinker$Runner", "outcomeOf", "(LCodeShrinker$ProgramClass;II)I"⟩ prog_8_method_2_code 4 (Option.some .int)) ∈ vT := vT_3 194 rfl rfl
theorem km_Ru_18 : (Cond.methodLink "CodeShrinker$Runner" 18 ⟨"CodeShrinker$Runner", "perform", "(LCodeShrinker$ProgramClass;III)V"⟩) ∈ vT := vT_3 195 rfl rfl
theorem kz_676 : (Cond.privateMethod ⟨"CodeShrinker$Runner", "perform", "(LCodeShrinker$ProgramClass;III)V"⟩) ∈ vT := vT_3 196 rfl rfl
theorem kI_Ru_perform : (Cond.instanceMethod ⟨"CodeShrinker$Runner", "perform", "(LCodeShrinker$ProgramClass;III)V"⟩) ∈ vT := vT_3 197 rfl rfl
theorem kM_Ru_perform : (Cond.code ⟨"CodeShrinker$Runner", "perform", "(LCodeShrinker$ProgramClass;III)V"⟩ prog_8_method_3_code 7 (Option.none : Option Jvm.ClassFile.FieldType)) ∈ vT := vT_3 198 rfl rfl
theorem kc_Ru_22 : (Cond.classLink "CodeShrinker$Runner" 22 "java/lang/IllegalStateException") ∈ vT := vT_3 199 rfl rfl
theorem km_Ru_26 : (Cond.methodLink "CodeShrinker$Runner" 26 ⟨"java/lang/IllegalStateException", "<init>", "(Ljava/lang/String;)V"⟩) ∈ vT := vT_3 201 rfl rfl
theorem km_Ru_29 : (Cond.methodLink "CodeShrinker$Runner" 29 ⟨"CodeShrinker$ProgramClass", "find", "(II)LCodeShrinker$ProgramMethod;"⟩) ∈ vT := vT_3 202 rfl rfl
theorem kc_Ru_35 : (Cond.classLink "CodeShrinker$Runner" 35 "java/util/NoSuchElementException") ∈ vT := vT_3 203 rfl rfl
theorem kn_Ns : (Cond.instantiable "java/util/NoSuchElementException" 6) ∈ vT := vT_3 204 rfl rfl
theorem kx_Ns_Ns : (Cond.castable "java/util/NoSuchElementException" "java/util/NoSuchElementException") ∈ vT := vT_3 205 rfl rfl
theorem ks_Ns_Th_fillInStackTrace_I_Ljava_lang_Throwable_ : (Cond.selects "java/util/NoSuchElementException" ⟨"java/lang/Throwable", "fillInStackTrace", "(I)Ljava/lang/Throwable;"⟩ ⟨"java/lang/Throwable", "fillInStackTrace", "(I)Ljava/lang/Throwable;"⟩) ∈ vT := vT_3 206 rfl rfl
theorem kz_687 : (Cond.lays "java/util/NoSuchElementException" "java/lang/Throwable" "cause" "Ljava/lang/Throwable;") ∈ vT := vT_3 207 rfl rfl
theorem kz_688 : (Cond.lays "java/util/NoSuchElementException" "java/lang/Throwable" "stackTrace" "[Ljava/lang/StackTraceElement;") ∈ vT := vT_3 208 rfl rfl
theorem kz_689 : (Cond.lays "java/util/NoSuchElementException" "java/lang/Throwable" "suppressedExceptions" "Ljava/util/List;") ∈ vT := vT_3 209 rfl rfl
theorem kz_690 : (Cond.lays "java/util/NoSuchElementException" "java/lang/Throwable" "detailMessage" "Ljava/lang/String;") ∈ vT := vT_3 210 rfl rfl
theorem kz_691 : (Cond.lays "java/util/NoSuchElementException" "java/lang/Throwable" "backtrace" "Ljava/lang/Object;") ∈ vT := vT_3 211 rfl rfl
theorem km_Ru_39 : (Cond.methodLink "CodeShrinker$Runner" 39 ⟨"java/util/NoSuchElementException", "<init>", "(Ljava/lang/String;)V"⟩) ∈ vT := vT_3 213 rfl rfl
theorem kI_Ns_init : (Cond.instanceMethod ⟨"java/util/NoSuchElementException", "<init>", "(Ljava/lang/String;)V"⟩) ∈ vT := vT_3 214 rfl rfl
theorem kM_Ns_init : (Cond.code ⟨"java/util/NoSuchElementException", "<init>", "(Ljava/lang/String;)V"⟩ prog_28_method_4_code 2 (Option.none : Option Jvm.ClassFile.FieldType)) ∈ vT := vT_3 215 rfl rfl
theorem km_Ns_13 : (Cond.methodLink "java/util/NoSuchElementException" 13 ⟨"java/lang/RuntimeException", "<init>", "(Ljava/lang/String;)V"⟩) ∈ vT := vT_3 216 rfl rfl
theorem kz_697 : (Cond.lays "java/util/NoSuchElementException" "java/lang/Throwable" "depth" "I") ∈ vT := vT_3 217 rfl rfl
theorem kz_698 : (Cond.superclass "java/util/NoSuchElementException" "java/lang/RuntimeException") ∈ vT := vT_3 218 rfl rfl
theorem km_Ru_46 : (Cond.methodLink "CodeShrinker$Runner" 46 ⟨"java/util/ArrayList", "size", "()I"⟩) ∈ vT := vT_3 219 rfl rfl
theorem km_Ru_52 : (Cond.methodLink "CodeShrinker$Runner" 52 ⟨"java/util/ArrayList", "get", "(I)Ljava/lang/Object;"⟩) ∈ vT := vT_3 220 rfl rfl
theorem kc_Ru_56 : (Cond.classLink "CodeShrinker$Runner" 56 "CodeShrinker$Item") ∈ vT := vT_3 221 rfl rfl
theorem km_Ru_58 : (Cond.methodLink "CodeShrinker$Runner" 58 ⟨"CodeShrinker$Runner", "performItem", "(LCodeShrinker$Item;LCodeShrinker$ProgramClass;I)V"⟩) ∈ vT := vT_3 222 rfl rfl
theorem kz_703 : (Cond.privateMethod ⟨"CodeShrinker$Runner", "performItem", "(LCodeShrinker$Item;LCodeShrinker$ProgramClass;I)V"⟩) ∈ vT := vT_3 223 rfl rfl
theorem kI_Ru_performItem : (Cond.instanceMethod ⟨"CodeShrinker$Runner", "performItem", "(LCodeShrinker$Item;LCodeShrinker$ProgramClass;I)V"⟩) ∈ vT := vT_3 224 rfl rfl
theorem kM_Ru_performItem : (Cond.code ⟨"CodeShrinker$Runner", "performItem", "(LCodeShrinker$Item;LCodeShrinker$ProgramClass;I)V"⟩ prog_8_method_4_code 5 (Option.none : Option Jvm.ClassFile.FieldType)) ∈ vT := vT_3 225 rfl rfl
theorem km_Lw_81 : (Cond.methodLink "CodeShrinkerLaw" 81 ⟨"CodeShrinkerLaw", "told", "(LCodeShrinker;II[J)I"⟩) ∈ vT := vT_3 227 rfl rfl
theorem kS_Lw_told : (Cond.static ⟨"CodeShrinkerLaw", "told", "(LCodeShrinker;II[J)I"⟩) ∈ vT := vT_3 228 rfl rfl
theorem kM_Lw_told : (Cond.codeWith ⟨"CodeShrinkerLaw", "told", "(LCodeShrinker;II[J)I"⟩ method_8_code 5 (Option.some .int) [(0, 10, 13, 13)]) ∈ vT := vT_3 229 rfl rfl
theorem km_Lw_34 : (Cond.methodLink "CodeShrinkerLaw" 34 ⟨"CodeShrinker", "told", "(II)I"⟩) ∈ vT := vT_3 230 rfl rfl
theorem kI_Cs_told : (Cond.instanceMethod ⟨"CodeShrinker", "told", "(II)I"⟩) ∈ vT := vT_3 231 rfl rfl
theorem ks_Cs_Cs_told : (Cond.selects "CodeShrinker" ⟨"CodeShrinker", "told", "(II)I"⟩ ⟨"CodeShrinker", "told", "(II)I"⟩) ∈ vT := vT_3 232 rfl rfl
theorem kM_Cs_told : (Cond.code ⟨"CodeShrinker", "told", "(II)I"⟩ prog_1_method_9_code 4 (Option.some .int)) ∈ vT := vT_3 233 rfl rfl
theorem km_Lw_85 : (Cond.methodLink "CodeShrinkerLaw" 85 ⟨"CodeShrinkerLaw", "inside", "(LCodeShrinker;III[J)I"⟩) ∈ vT := vT_3 234 rfl rfl
theorem kS_Lw_inside : (Cond.static ⟨"CodeShrinkerLaw", "inside", "(LCodeShrinker;III[J)I"⟩) ∈ vT := vT_3 235 rfl rfl
theorem kM_Lw_inside : (Cond.codeWith ⟨"CodeShrinkerLaw", "inside", "(LCodeShrinker;III[J)I"⟩ method_9_code 6 (Option.some .int) [(0, 12, 15, 13), (0, 12, 19, 32)]) ∈ vT := vT_3 236 rfl rfl
theorem km_Lw_38 : (Cond.methodLink "CodeShrinkerLaw" 38 ⟨"CodeShrinker", "inside", "(III)I"⟩) ∈ vT := vT_3 237 rfl rfl
theorem kI_Cs_inside : (Cond.instanceMethod ⟨"CodeShrinker", "inside", "(III)I"⟩) ∈ vT := vT_3 238 rfl rfl
theorem ks_Cs_Cs_inside : (Cond.selects "CodeShrinker" ⟨"CodeShrinker", "inside", "(III)I"⟩ ⟨"CodeShrinker", "inside", "(III)I"⟩) ∈ vT := vT_3 239 rfl rfl
theorem kM_Cs_inside : (Cond.code ⟨"CodeShrinker", "inside", "(III)I"⟩ prog_1_method_10_code 5 (Option.some .int)) ∈ vT := vT_4 0 rfl rfl
theorem kc_Cs_163 : (Cond.classLink "CodeShrinker" 163 "java/util/NoSuchElementException") ∈ vT := vT_4 1 rfl rfl
theorem km_Cs_167 : (Cond.methodLink "CodeShrinker" 167 ⟨"java/util/NoSuchElementException", "<init>", "(Ljava/lang/String;)V"⟩) ∈ vT := vT_4 3 rfl rfl
theorem km_Cs_170 : (Cond.methodLink "CodeShrinker" 170 ⟨"CodeShrinker$Item", "part", "(I)I"⟩) ∈ vT := vT_4 4 rfl rfl
theorem kI_It_part : (Cond.instanceMethod ⟨"CodeShrinker$Item", "part", "(I)I"⟩) ∈ vT := vT_4 5 rfl rfl
theorem ks_It_It_part : (Cond.selects "CodeShrinker$Item" ⟨"CodeShrinker$Item", "part", "(I)I"⟩ ⟨"CodeShrinker$Item", "part", "(I)I"⟩) ∈ vT := vT_4 6 rfl rfl
theorem kM_It_part : (Cond.code ⟨"CodeShrinker$Item", "part", "(I)I"⟩ prog_3_method_2_code 2 (Option.some .int)) ∈ vT := vT_4 7 rfl rfl
theorem km_Lw_88 : (Cond.methodLink "CodeShrinkerLaw" 88 ⟨"CodeShrinkerLaw", "trace", "(LCodeShrinker;III[J)I"⟩) ∈ vT := vT_4 8 rfl rfl
theorem kS_Lw_trace : (Cond.static ⟨"CodeShrinkerLaw", "trace", "(LCodeShrinker;III[J)I"⟩) ∈ vT := vT_4 9 rfl rfl
theorem kM_Lw_trace : (Cond.codeWith ⟨"CodeShrinkerLaw", "trace", "(LCodeShrinker;III[J)I"⟩ method_10_code 6 (Option.some .int) [(0, 12, 15, 13), (0, 12, 19, 32)]) ∈ vT := vT_4 10 rfl rfl
theorem km_Lw_41 : (Cond.methodLink "CodeShrinkerLaw" 41 ⟨"CodeShrinker", "trace", "(III)I"⟩) ∈ vT := vT_4 11 rfl rfl
theorem kI_Cs_trace : (Cond.instanceMethod ⟨"CodeShrinker", "trace", "(III)I"⟩) ∈ vT := vT_4 12 rfl rfl
theorem ks_Cs_Cs_trace : (Cond.selects "CodeShrinker" ⟨"CodeShrinker", "trace", "(III)I"⟩ ⟨"CodeShrinker", "trace", "(III)I"⟩) ∈ vT := vT_4 13 rfl rfl
theorem kM_Cs_trace : (Cond.code ⟨"CodeShrinker", "trace", "(III)I"⟩ prog_1_method_11_code 5 (Option.some .int)) ∈ vT := vT_4 14 rfl rfl
theorem kc_Lw_45 : (Cond.classLink "CodeShrinkerLaw" 45 "CodeShrinkerModel") ∈ vT := vT_4 16 rfl rfl
theorem kn_Mo : (Cond.instantiable "CodeShrinkerModel" 31) ∈ vT := vT_4 17 rfl rfl
theorem km_Lw_47 : (Cond.methodLink "CodeShrinkerLaw" 47 ⟨"CodeShrinkerModel", "<init>", "()V"⟩) ∈ vT := vT_4 18 rfl rfl
theorem kI_Mo_init : (Cond.instanceMethod ⟨"CodeShrinkerModel", "<init>", "()V"⟩) ∈ vT := vT_4 19 rfl rfl
theorem kM_Mo_init : (Cond.code ⟨"CodeShrinkerModel", "<init>", "()V"⟩ prog_10_method_1_code 1 (Option.none : Option Jvm.ClassFile.FieldType)) ∈ vT := vT_4 20 rfl rfl
theorem km_Mo_1 : (Cond.methodLink "CodeShrinkerModel" 1 ⟨"java/lang/Object", "<init>", "()V"⟩) ∈ vT := vT_4 21 rfl rfl
theorem kf_Mo_7 : (Cond.fieldLink "CodeShrinkerModel" 7 "CodeShrinkerModel" "parent" "[I") ∈ vT := vT_4 22 rfl rfl
theorem kf_Mo_13 : (Cond.fieldLink "CodeShrinkerModel" 13 "CodeShrinkerModel" "classBorn" "[I") ∈ vT := vT_4 23 rfl rfl
theorem kf_Mo_16 : (Cond.fieldLink "CodeShrinkerModel" 16 "CodeShrinkerModel" "of" "[I") ∈ vT := vT_4 24 rfl rfl
theorem kf_Mo_19 : (Cond.fieldLink "CodeShrinkerModel" 19 "CodeShrinkerModel" "name" "[I") ∈ vT := vT_4 25 rfl rfl
theorem kf_Mo_22 : (Cond.fieldLink "CodeShrinkerModel" 22 "CodeShrinkerModel" "arity" "[I") ∈ vT := vT_4 26 rfl rfl
theorem kf_Mo_25 : (Cond.fieldLink "CodeShrinkerModel" 25 "CodeShrinkerModel" "items" "[I") ∈ vT := vT_4 27 rfl rfl
theorem kf_Mo_28 : (Cond.fieldLink "CodeShrinkerModel" 28 "CodeShrinkerModel" "born" "[I") ∈ vT := vT_4 28 rfl rfl
theorem kf_Mo_31 : (Cond.fieldLink "CodeShrinkerModel" 31 "CodeShrinkerModel" "bornName" "[I") ∈ vT := vT_4 29 rfl rfl
theorem kf_Mo_34 : (Cond.fieldLink "CodeShrinkerModel" 34 "CodeShrinkerModel" "bornClass" "[I") ∈ vT := vT_4 30 rfl rfl
theorem kf_Mo_37 : (Cond.fieldLink "CodeShrinkerModel" 37 "CodeShrinkerModel" "kept" "[Z") ∈ vT := vT_4 31 rfl rfl
theorem kf_Mo_41 : (Cond.fieldLink "CodeShrinkerModel" 41 "CodeShrinkerModel" "live" "[Z") ∈ vT := vT_4 32 rfl rfl
theorem kf_Mo_44 : (Cond.fieldLink "CodeShrinkerModel" 44 "CodeShrinkerModel" "made" "[Z") ∈ vT := vT_4 33 rfl rfl
theorem kf_Mo_47 : (Cond.fieldLink "CodeShrinkerModel" 47 "CodeShrinkerModel" "kind" "[I") ∈ vT := vT_4 34 rfl rfl
theorem kf_Mo_50 : (Cond.fieldLink "CodeShrinkerModel" 50 "CodeShrinkerModel" "a" "[I") ∈ vT := vT_4 35 rfl rfl
theorem kf_Mo_53 : (Cond.fieldLink "CodeShrinkerModel" 53 "CodeShrinkerModel" "b" "[I") ∈ vT := vT_4 36 rfl rfl
theorem kf_Mo_56 : (Cond.fieldLink "CodeShrinkerModel" 56 "CodeShrinkerModel" "c" "[I") ∈ vT := vT_4 37 rfl rfl
theorem kf_Mo_96 : (Cond.fieldLink "CodeShrinkerModel" 96 "CodeShrinkerModel" "classes" "I") ∈ vT := vT_4 38 rfl rfl
theorem kf_Mo_103 : (Cond.fieldLink "CodeShrinkerModel" 103 "CodeShrinkerModel" "methods" "I") ∈ vT := vT_4 39 rfl rfl
theorem kf_Mo_145 : (Cond.fieldLink "CodeShrinkerModel" 145 "CodeShrinkerModel" "gone" "I") ∈ vT := vT_4 40 rfl rfl
theorem kf_Mo_92 : (Cond.fieldLink "CodeShrinkerModel" 92 "CodeShrinkerModel" "thrown" "I") ∈ vT := vT_4 41 rfl rfl
theorem kf_Mo_59 : (Cond.fieldLink "CodeShrinkerModel" 59 "CodeShrinkerModel" "family" "[I") ∈ vT := vT_4 42 rfl rfl
theorem kf_Mo_62 : (Cond.fieldLink "CodeShrinkerModel" 62 "CodeShrinkerModel" "memberClass" "[I") ∈ vT := vT_4 43 rfl rfl
theorem kf_Mo_65 : (Cond.fieldLink "CodeShrinkerModel" 65 "CodeShrinkerModel" "memberName" "[I") ∈ vT := vT_4 44 rfl rfl
theorem kf_Mo_68 : (Cond.fieldLink "CodeShrinkerModel" 68 "CodeShrinkerModel" "memberArity" "[I") ∈ vT := vT_4 45 rfl rfl
theorem kf_Mo_71 : (Cond.fieldLink "CodeShrinkerModel" 71 "CodeShrinkerModel" "fresh" "[I") ∈ vT := vT_4 46 rfl rfl
theorem kf_Mo_74 : (Cond.fieldLink "CodeShrinkerModel" 74 "CodeShrinkerModel" "newNames" "[I") ∈ vT := vT_4 47 rfl rfl
theorem kf_Mo_77 : (Cond.fieldLink "CodeShrinkerModel" 77 "CodeShrinkerModel" "newNumber" "[I") ∈ vT := vT_4 48 rfl rfl
theorem kf_Mo_80 : (Cond.fieldLink "CodeShrinkerModel" 80 "CodeShrinkerModel" "newClass" "[I") ∈ vT := vT_4 49 rfl rfl
theorem kf_Mo_83 : (Cond.fieldLink "CodeShrinkerModel" 83 "CodeShrinkerModel" "running" "[I") ∈ vT := vT_4 50 rfl rfl
theorem kf_Mo_86 : (Cond.fieldLink "CodeShrinkerModel" 86 "CodeShrinkerModel" "at" "[I") ∈ vT := vT_4 51 rfl rfl
theorem kf_Mo_89 : (Cond.fieldLink "CodeShrinkerModel" 89 "CodeShrinkerModel" "worker" "[I") ∈ vT := vT_4 52 rfl rfl
theorem kz_773 : (Cond.laysFinal "CodeShrinkerModel" "CodeShrinkerModel" "parent" "[I") ∈ vT := vT_4 53 rfl rfl
theorem kz_774 : (Cond.soleField "CodeShrinkerModel" "parent") ∈ vT := vT_4 54 rfl rfl
theorem kz_775 : (Cond.laysFinal "CodeShrinkerModel" "CodeShrinkerModel" "classBorn" "[I") ∈ vT := vT_4 55 rfl rfl
theorem kz_776 : (Cond.soleField "CodeShrinkerModel" "classBorn") ∈ vT := vT_4 56 rfl rfl
theorem kz_777 : (Cond.laysFinal "CodeShrinkerModel" "CodeShrinkerModel" "of" "[I") ∈ vT := vT_4 57 rfl rfl
theorem kz_778 : (Cond.soleField "CodeShrinkerModel" "of") ∈ vT := vT_4 58 rfl rfl
theorem kz_779 : (Cond.laysFinal "CodeShrinkerModel" "CodeShrinkerModel" "name" "[I") ∈ vT := vT_4 59 rfl rfl
theorem kz_780 : (Cond.soleField "CodeShrinkerModel" "name") ∈ vT := vT_4 60 rfl rfl
theorem kz_781 : (Cond.laysFinal "CodeShrinkerModel" "CodeShrinkerModel" "arity" "[I") ∈ vT := vT_4 61 rfl rfl
theorem kz_782 : (Cond.soleField "CodeShrinkerModel" "arity") ∈ vT := vT_4 62 rfl rfl
theorem kz_783 : (Cond.laysFinal "CodeShrinkerModel" "CodeShrinkerModel" "items" "[I") ∈ vT := vT_4 63 rfl rfl
theorem kz_784 : (Cond.soleField "CodeShrinkerModel" "items") ∈ vT := vT_4 64 rfl rfl
theorem kz_785 : (Cond.laysFinal "CodeShrinkerModel" "CodeShrinkerModel" "born" "[I") ∈ vT := vT_4 65 rfl rfl
theorem kz_786 : (Cond.soleField "CodeShrinkerModel" "born") ∈ vT := vT_4 66 rfl rfl
theorem kz_787 : (Cond.laysFinal "CodeShrinkerModel" "CodeShrinkerModel" "bornName" "[I") ∈ vT := vT_4 67 rfl rfl
theorem kz_788 : (Cond.soleField "CodeShrinkerModel" "bornName") ∈ vT := vT_4 68 rfl rfl
theorem kz_789 : (Cond.laysFinal "CodeShrinkerModel" "CodeShrinkerModel" "bornClass" "[I") ∈ vT := vT_4 69 rfl rfl
theorem kz_790 : (Cond.soleField "CodeShrinkerModel" "bornClass") ∈ vT := vT_4 70 rfl rfl
theorem kz_791 : (Cond.laysFinal "CodeShrinkerModel" "CodeShrinkerModel" "kept" "[Z") ∈ vT := vT_4 71 rfl rfl
theorem kz_792 : (Cond.soleField "CodeShrinkerModel" "kept") ∈ vT := vT_4 72 rfl rfl
theorem kz_793 : (Cond.laysFinal "CodeShrinkerModel" "CodeShrinkerModel" "live" "[Z") ∈ vT := vT_4 73 rfl rfl
theorem kz_794 : (Cond.soleField "CodeShrinkerModel" "live") ∈ vT := vT_4 74 rfl rfl
theorem kz_795 : (Cond.laysFinal "CodeShrinkerModel" "CodeShrinkerModel" "made" "[Z") ∈ vT := vT_4 75 rfl rfl
theorem kz_796 : (Cond.soleField "CodeShrinkerModel" "made") ∈ vT := vT_4 76 rfl rfl
theorem kz_797 : (Cond.laysFinal "CodeShrinkerModel" "CodeShrinkerModel" "kind" "[I") ∈ vT := vT_4 77 rfl rfl
theorem kz_798 : (Cond.soleField "CodeShrinkerModel" "kind") ∈ vT := vT_4 78 rfl rfl
theorem kz_799 : (Cond.laysFinal "CodeShrinkerModel" "CodeShrinkerModel" "a" "[I") ∈ vT := vT_4 79 rfl rfl
theorem kz_800 : (Cond.soleField "CodeShrinkerModel" "a") ∈ vT := vT_4 80 rfl rfl
theorem kz_801 : (Cond.laysFinal "CodeShrinkerModel" "CodeShrinkerModel" "b" "[I") ∈ vT := vT_4 81 rfl rfl
theorem kz_802 : (Cond.soleField "CodeShrinkerModel" "b") ∈ vT := vT_4 82 rfl rfl
theorem kz_803 : (Cond.laysFinal "CodeShrinkerModel" "CodeShrinkerModel" "c" "[I") ∈ vT := vT_4 83 rfl rfl
theorem kz_804 : (Cond.soleField "CodeShrinkerModel" "c") ∈ vT := vT_4 84 rfl rfl
theorem kz_805 : (Cond.lays "CodeShrinkerModel" "CodeShrinkerModel" "classes" "I") ∈ vT := vT_4 85 rfl rfl
theorem kz_806 : (Cond.soleField "CodeShrinkerModel" "classes") ∈ vT := vT_4 86 rfl rfl
theorem kz_807 : (Cond.lays "CodeShrinkerModel" "CodeShrinkerModel" "methods" "I") ∈ vT := vT_4 87 rfl rfl
theorem kz_808 : (Cond.soleField "CodeShrinkerModel" "methods") ∈ vT := vT_4 88 rfl rfl
theorem kz_809 : (Cond.lays "CodeShrinkerModel" "CodeShrinkerModel" "gone" "I") ∈ vT := vT_4 89 rfl rfl
theorem kz_810 : (Cond.soleField "CodeShrinkerModel" "gone") ∈ vT := vT_4 90 rfl rfl
theorem kz_811 : (Cond.lays "CodeShrinkerModel" "CodeShrinkerModel" "thrown" "I") ∈ vT := vT_4 91 rfl rfl
theorem kz_812 : (Cond.soleField "CodeShrinkerModel" "thrown") ∈ vT := vT_4 92 rfl rfl
theorem kz_813 : (Cond.laysFinal "CodeShrinkerModel" "CodeShrinkerModel" "family" "[I") ∈ vT := vT_4 93 rfl rfl
theorem kz_814 : (Cond.soleField "CodeShrinkerModel" "family") ∈ vT := vT_4 94 rfl rfl
theorem kz_815 : (Cond.laysFinal "CodeShrinkerModel" "CodeShrinkerModel" "memberClass" "[I") ∈ vT := vT_4 95 rfl rfl
theorem kz_816 : (Cond.soleField "CodeShrinkerModel" "memberClass") ∈ vT := vT_4 96 rfl rfl
theorem kz_817 : (Cond.laysFinal "CodeShrinkerModel" "CodeShrinkerModel" "memberName" "[I") ∈ vT := vT_4 97 rfl rfl
theorem kz_818 : (Cond.soleField "CodeShrinkerModel" "memberName") ∈ vT := vT_4 98 rfl rfl
theorem kz_819 : (Cond.laysFinal "CodeShrinkerModel" "CodeShrinkerModel" "memberArity" "[I") ∈ vT := vT_4 99 rfl rfl
theorem kz_820 : (Cond.soleField "CodeShrinkerModel" "memberArity") ∈ vT := vT_4 100 rfl rfl
theorem kz_821 : (Cond.laysFinal "CodeShrinkerModel" "CodeShrinkerModel" "fresh" "[I") ∈ vT := vT_4 101 rfl rfl
theorem kz_822 : (Cond.soleField "CodeShrinkerModel" "fresh") ∈ vT := vT_4 102 rfl rfl
theorem kz_823 : (Cond.laysFinal "CodeShrinkerModel" "CodeShrinkerModel" "newNames" "[I") ∈ vT := vT_4 103 rfl rfl
theorem kz_824 : (Cond.soleField "CodeShrinkerModel" "newNames") ∈ vT := vT_4 104 rfl rfl
theorem kz_825 : (Cond.laysFinal "CodeShrinkerModel" "CodeShrinkerModel" "newNumber" "[I") ∈ vT := vT_4 105 rfl rfl
theorem kz_826 : (Cond.soleField "CodeShrinkerModel" "newNumber") ∈ vT := vT_4 106 rfl rfl
theorem kz_827 : (Cond.laysFinal "CodeShrinkerModel" "CodeShrinkerModel" "newClass" "[I") ∈ vT := vT_4 107 rfl rfl
theorem kz_828 : (Cond.soleField "CodeShrinkerModel" "newClass") ∈ vT := vT_4 108 rfl rfl
theorem kz_829 : (Cond.laysFinal "CodeShrinkerModel" "CodeShrinkerModel" "running" "[I") ∈ vT := vT_4 109 rfl rfl
theorem kz_830 : (Cond.soleField "CodeShrinkerModel" "running") ∈ vT := vT_4 110 rfl rfl
theorem kz_831 : (Cond.laysFinal "CodeShrinkerModel" "CodeShrinkerModel" "at" "[I") ∈ vT := vT_4 111 rfl rfl
theorem kz_832 : (Cond.soleField "CodeShrinkerModel" "at") ∈ vT := vT_4 112 rfl rfl
theorem kz_833 : (Cond.laysFinal "CodeShrinkerModel" "CodeShrinkerModel" "worker" "[I") ∈ vT := vT_4 113 rfl rfl
theorem kz_834 : (Cond.soleField "CodeShrinkerModel" "worker") ∈ vT := vT_4 114 rfl rfl
theorem kz_835 : (Cond.superclass "CodeShrinkerModel" "java/lang/Object") ∈ vT := vT_4 115 rfl rfl
theorem km_Lw_54 : (Cond.methodLink "CodeShrinkerLaw" 54 ⟨"CodeShrinkerModel", "thrown", "()I"⟩) ∈ vT := vT_4 116 rfl rfl
theorem kI_Mo_thrown : (Cond.instanceMethod ⟨"CodeShrinkerModel", "thrown", "()I"⟩) ∈ vT := vT_4 117 rfl rfl
theorem ks_Mo_Mo_thrown : (Cond.selects "CodeShrinkerModel" ⟨"CodeShrinkerModel", "thrown", "()I"⟩ ⟨"CodeShrinkerModel", "thrown", "()I"⟩) ∈ vT := vT_4 118 rfl rfl
theorem kM_Mo_thrown : (Cond.code ⟨"CodeShrinkerModel", "thrown", "()I"⟩ prog_10_method_2_code 1 (Option.some .int)) ∈ vT := vT_4 119 rfl rfl
theorem km_Lw_53 : (Cond.methodLink "CodeShrinkerLaw" 53 ⟨"CodeShrinkerModel", "add", "(I)I"⟩) ∈ vT := vT_4 120 rfl rfl
theorem kI_Mo_add : (Cond.instanceMethod ⟨"CodeShrinkerModel", "add", "(I)I"⟩) ∈ vT := vT_4 121 rfl rfl
theorem ks_Mo_Mo_add : (Cond.selects "CodeShrinkerModel" ⟨"CodeShrinkerModel", "add", "(I)I"⟩ ⟨"CodeShrinkerModel", "add", "(I)I"⟩) ∈ vT := vT_4 122 rfl rfl
theorem kM_Mo_add : (Cond.code ⟨"CodeShrinkerModel", "add", "(I)I"⟩ prog_10_method_8_code 2 (Option.some .int)) ∈ vT := vT_4 123 rfl rfl
theorem km_Mo_106 : (Cond.methodLink "CodeShrinkerModel" 106 ⟨"CodeShrinkerModel", "isClass", "(I)Z"⟩) ∈ vT := vT_4 124 rfl rfl
theorem kz_845 : (Cond.privateMethod ⟨"CodeShrinkerModel", "isClass", "(I)Z"⟩) ∈ vT := vT_4 125 rfl rfl
theorem kI_Mo_isClass : (Cond.instanceMethod ⟨"CodeShrinkerModel", "isClass", "(I)Z"⟩) ∈ vT := vT_4 126 rfl rfl
theorem kM_Mo_isClass : (Cond.code ⟨"CodeShrinkerModel", "isClass", "(I)Z"⟩ prog_10_method_6_code 2 (Option.some .boolean)) ∈ vT := vT_4 127 rfl rfl
theorem km_Mo_99 : (Cond.methodLink "CodeShrinkerModel" 99 ⟨"CodeShrinkerModel", "in", "(III)Z"⟩) ∈ vT := vT_4 128 rfl rfl
theorem kS_Mo_in : (Cond.static ⟨"CodeShrinkerModel", "in", "(III)Z"⟩) ∈ vT := vT_4 129 rfl rfl
theorem kM_Mo_in : (Cond.code ⟨"CodeShrinkerModel", "in", "(III)Z"⟩ prog_10_method_3_code 3 (Option.some .boolean)) ∈ vT := vT_4 130 rfl rfl
theorem km_Mo_110 : (Cond.methodLink "CodeShrinkerModel" 110 ⟨"CodeShrinkerModel", "bad", "(Z)Z"⟩) ∈ vT := vT_4 131 rfl rfl
theorem kz_852 : (Cond.privateMethod ⟨"CodeShrinkerModel", "bad", "(Z)Z"⟩) ∈ vT := vT_4 132 rfl rfl
theorem kI_Mo_bad : (Cond.instanceMethod ⟨"CodeShrinkerModel", "bad", "(Z)Z"⟩) ∈ vT := vT_4 133 rfl rfl
theorem kM_Mo_bad : (Cond.code ⟨"CodeShrinkerModel", "bad", "(Z)Z"⟩ prog_10_method_4_code 2 (Option.some .boolean)) ∈ vT := vT_4 134 rfl rfl
theorem km_Mo_114 : (Cond.methodLink "CodeShrinkerModel" 114 ⟨"CodeShrinkerModel", "fail", "(I)I"⟩) ∈ vT := vT_4 135 rfl rfl
theorem kz_856 : (Cond.privateMethod ⟨"CodeShrinkerModel", "fail", "(I)I"⟩) ∈ vT := vT_4 136 rfl rfl
theorem kI_Mo_fail : (Cond.instanceMethod ⟨"CodeShrinkerModel", "fail", "(I)I"⟩) ∈ vT := vT_4 137 rfl rfl
theorem kM_Mo_fail : (Cond.code ⟨"CodeShrinkerModel", "fail", "(I)I"⟩ prog_10_method_5_code 2 (Option.some .int)) ∈ vT := vT_4 138 rfl rfl
theorem km_Lw_61 : (Cond.methodLink "CodeShrinkerLaw" 61 ⟨"CodeShrinkerModel", "method", "(III)I"⟩) ∈ vT := vT_4 139 rfl rfl
theorem kI_Mo_method : (Cond.instanceMethod ⟨"CodeShrinkerModel", "method", "(III)I"⟩) ∈ vT := vT_4 140 rfl rfl
theorem ks_Mo_Mo_method : (Cond.selects "CodeShrinkerModel" ⟨"CodeShrinkerModel", "method", "(III)I"⟩ ⟨"CodeShrinkerModel", "method", "(III)I"⟩) ∈ vT := vT_4 141 rfl rfl
theorem kM_Mo_method : (Cond.code ⟨"CodeShrinkerModel", "method", "(III)I"⟩ prog_10_method_11_code 4 (Option.some .int)) ∈ vT := vT_4 142 rfl rfl
theorem km_Mo_118 : (Cond.methodLink "CodeShrinkerModel" 118 ⟨"CodeShrinkerModel", "own", "(III)I"⟩) ∈ vT := vT_4 143 rfl rfl
theorem kz_864 : (Cond.privateMethod ⟨"CodeShrinkerModel", "own", "(III)I"⟩) ∈ vT := vT_4 144 rfl rfl
theorem kI_Mo_own : (Cond.instanceMethod ⟨"CodeShrinkerModel", "own", "(III)I"⟩) ∈ vT := vT_4 145 rfl rfl
theorem kM_Mo_own : (Cond.code ⟨"CodeShrinkerModel", "own", "(III)I"⟩ prog_10_method_9_code 5 (Option.some .int)) ∈ vT := vT_4 146 rfl rfl
theorem km_Lw_65 : (Cond.methodLink "CodeShrinkerLaw" 65 ⟨"CodeShrinkerModel", "item", "(IIIII)I"⟩) ∈ vT := vT_4 147 rfl rfl
theorem kI_Mo_item : (Cond.instanceMethod ⟨"CodeShrinkerModel", "item", "(IIIII)I"⟩) ∈ vT := vT_4 148 rfl rfl
theorem ks_Mo_Mo_item : (Cond.selects "CodeShrinkerModel" ⟨"CodeShrinkerModel", "item", "(IIIII)I"⟩ ⟨"CodeShrinkerModel", "item", "(IIIII)I"⟩) ∈ vT := vT_4 149 rfl rfl
theorem kM_Mo_item : (Cond.code ⟨"CodeShrinkerModel", "item", "(IIIII)I"⟩ prog_10_method_12_code 8 (Option.some .int)) ∈ vT := vT_4 150 rfl rfl
theorem km_Mo_122 : (Cond.methodLink "CodeShrinkerModel" 122 ⟨"CodeShrinkerModel", "isMethod", "(I)Z"⟩) ∈ vT := vT_4 151 rfl rfl
theorem kz_872 : (Cond.privateMethod ⟨"CodeShrinkerModel", "isMethod", "(I)Z"⟩) ∈ vT := vT_4 152 rfl rfl
theorem kI_Mo_isMethod : (Cond.instanceMethod ⟨"CodeShrinkerModel", "isMethod", "(I)Z"⟩) ∈ vT := vT_4 153 rfl rfl
theorem kM_Mo_isMethod : (Cond.code ⟨"CodeShrinkerModel", "isMethod", "(I)Z"⟩ prog_10_method_7_code 2 (Option.some .boolean)) ∈ vT := vT_4 154 rfl rfl
theorem km_Lw_69 : (Cond.methodLink "CodeShrinkerLaw" 69 ⟨"CodeShrinkerModel", "keep", "(IZ)V"⟩) ∈ vT := vT_4 155 rfl rfl
theorem kI_Mo_keep : (Cond.instanceMethod ⟨"CodeShrinkerModel", "keep", "(IZ)V"⟩) ∈ vT := vT_4 156 rfl rfl
theorem ks_Mo_Mo_keep : (Cond.selects "CodeShrinkerModel" ⟨"CodeShrinkerModel", "keep", "(IZ)V"⟩ ⟨"CodeShrinkerModel", "keep", "(IZ)V"⟩) ∈ vT := vT_4 157 rfl rfl
theorem kM_Mo_keep : (Cond.code ⟨"CodeShrinkerModel", "keep", "(IZ)V"⟩ prog_10_method_13_code 3 (Option.none : Option Jvm.ClassFile.FieldType)) ∈ vT := vT_4 158 rfl rfl
theorem km_Lw_72 : (Cond.methodLink "CodeShrinkerLaw" 72 ⟨"CodeShrinkerModel", "run", "(III)I"⟩) ∈ vT := vT_4 159 rfl rfl
theorem kI_Mo_run : (Cond.instanceMethod ⟨"CodeShrinkerModel", "run", "(III)I"⟩) ∈ vT := vT_4 160 rfl rfl
theorem ks_Mo_Mo_run : (Cond.selects "CodeShrinkerModel" ⟨"CodeShrinkerModel", "run", "(III)I"⟩ ⟨"CodeShrinkerModel", "run", "(III)I"⟩) ∈ vT := vT_4 161 rfl rfl
theorem kM_Mo_run : (Cond.code ⟨"CodeShrinkerModel", "run", "(III)I"⟩ prog_10_method_14_code 13 (Option.some .int)) ∈ vT := vT_4 162 rfl rfl
theorem km_Mo_125 : (Cond.methodLink "CodeShrinkerModel" 125 ⟨"CodeShrinkerModel", "find", "(III)I"⟩) ∈ vT := vT_4 163 rfl rfl
theorem kz_884 : (Cond.privateMethod ⟨"CodeShrinkerModel", "find", "(III)I"⟩) ∈ vT := vT_4 164 rfl rfl
theorem kI_Mo_find : (Cond.instanceMethod ⟨"CodeShrinkerModel", "find", "(III)I"⟩) ∈ vT := vT_4 165 rfl rfl
theorem kM_Mo_find : (Cond.code ⟨"CodeShrinkerModel", "find", "(III)I"⟩ prog_10_method_10_code 6 (Option.some .int)) ∈ vT := vT_4 166 rfl rfl
theorem km_Lw_76 : (Cond.methodLink "CodeShrinkerLaw" 76 ⟨"CodeShrinkerModel", "shrink", "()I"⟩) ∈ vT := vT_4 167 rfl rfl
theorem kI_Mo_shrink : (Cond.instanceMethod ⟨"CodeShrinkerModel", "shrink", "()I"⟩) ∈ vT := vT_4 168 rfl rfl
theorem ks_Mo_Mo_shrink : (Cond.selects "CodeShrinkerModel" ⟨"CodeShrinkerModel", "shrink", "()I"⟩ ⟨"CodeShrinkerModel", "shrink", "()I"⟩) ∈ vT := vT_4 169 rfl rfl
theorem kM_Mo_shrink : (Cond.code ⟨"CodeShrinkerModel", "shrink", "()I"⟩ prog_10_method_21_code 6 (Option.some .int)) ∈ vT := vT_4 170 rfl rfl
theorem km_Mo_138 : (Cond.methodLink "CodeShrinkerModel" 138 ⟨"CodeShrinkerModel", "findLive", "()V"⟩) ∈ vT := vT_4 171 rfl rfl
theorem kz_892 : (Cond.privateMethod ⟨"CodeShrinkerModel", "findLive", "()V"⟩) ∈ vT := vT_4 172 rfl rfl
theorem kI_Mo_findLive : (Cond.instanceMethod ⟨"CodeShrinkerModel", "findLive", "()V"⟩) ∈ vT := vT_4 173 rfl rfl
theorem kM_Mo_findLive : (Cond.code ⟨"CodeShrinkerModel", "findLive", "()V"⟩ prog_10_method_19_code 4 (Option.none : Option Jvm.ClassFile.FieldType)) ∈ vT := vT_4 174 rfl rfl
theorem km_Mo_135 : (Cond.methodLink "CodeShrinkerModel" 135 ⟨"CodeShrinkerModel", "need", "(II)Z"⟩) ∈ vT := vT_4 175 rfl rfl
theorem kz_896 : (Cond.privateMethod ⟨"CodeShrinkerModel", "need", "(II)Z"⟩) ∈ vT := vT_4 176 rfl rfl
theorem kI_Mo_need : (Cond.instanceMethod ⟨"CodeShrinkerModel", "need", "(II)Z"⟩) ∈ vT := vT_4 177 rfl rfl
theorem kM_Mo_need : (Cond.code ⟨"CodeShrinkerModel", "need", "(II)Z"⟩ prog_10_method_18_code 5 (Option.some .boolean)) ∈ vT := vT_4 178 rfl rfl
theorem km_Mo_132 : (Cond.methodLink "CodeShrinkerModel" 132 ⟨"CodeShrinkerModel", "enliven", "(II)Z"⟩) ∈ vT := vT_4 179 rfl rfl
theorem kz_900 : (Cond.privateMethod ⟨"CodeShrinkerModel", "enliven", "(II)Z"⟩) ∈ vT := vT_4 180 rfl rfl
theorem kI_Mo_enliven : (Cond.instanceMethod ⟨"CodeShrinkerModel", "enliven", "(II)Z"⟩) ∈ vT := vT_4 181 rfl rfl
theorem kM_Mo_enliven : (Cond.code ⟨"CodeShrinkerModel", "enliven", "(II)Z"⟩ prog_10_method_17_code 4 (Option.some .boolean)) ∈ vT := vT_4 182 rfl rfl
theorem km_Mo_128 : (Cond.methodLink "CodeShrinkerModel" 128 ⟨"CodeShrinkerModel", "above", "(II)Z"⟩) ∈ vT := vT_4 183 rfl rfl
theorem kz_904 : (Cond.privateMethod ⟨"CodeShrinkerModel", "above", "(II)Z"⟩) ∈ vT := vT_4 184 rfl rfl
theorem kI_Mo_above : (Cond.instanceMethod ⟨"CodeShrinkerModel", "above", "(II)Z"⟩) ∈ vT := vT_4 185 rfl rfl
theorem kM_Mo_above : (Cond.code ⟨"CodeShrinkerModel", "above", "(II)Z"⟩ prog_10_method_15_code 4 (Option.some .boolean)) ∈ vT := vT_4 186 rfl rfl
theorem km_Mo_141 : (Cond.methodLink "CodeShrinkerModel" 141 ⟨"CodeShrinkerModel", "moveMethod", "(II)V"⟩) ∈ vT := vT_4 187 rfl rfl
theorem kz_908 : (Cond.privateMethod ⟨"CodeShrinkerModel", "moveMethod", "(II)V"⟩) ∈ vT := vT_4 188 rfl rfl
theorem kI_Mo_moveMethod : (Cond.instanceMethod ⟨"CodeShrinkerModel", "moveMethod", "(II)V"⟩) ∈ vT := vT_4 189 rfl rfl
theorem kM_Mo_moveMethod : (Cond.code ⟨"CodeShrinkerModel", "moveMethod", "(II)V"⟩ prog_10_method_20_code 6 (Option.none : Option Jvm.ClassFile.FieldType)) ∈ vT := vT_4 190 rfl rfl
theorem km_Lw_80 : (Cond.methodLink "CodeShrinkerLaw" 80 ⟨"CodeShrinkerModel", "rename", "()I"⟩) ∈ vT := vT_4 191 rfl rfl
theorem kI_Mo_rename : (Cond.instanceMethod ⟨"CodeShrinkerModel", "rename", "()I"⟩) ∈ vT := vT_4 192 rfl rfl
theorem ks_Mo_Mo_rename : (Cond.selects "CodeShrinkerModel" ⟨"CodeShrinkerModel", "rename", "()I"⟩ ⟨"CodeShrinkerModel", "rename", "()I"⟩) ∈ vT := vT_4 193 rfl rfl
theorem kM_Mo_rename : (Cond.code ⟨"CodeShrinkerModel", "rename", "()I"⟩ prog_10_method_28_code 7 (Option.some .int)) ∈ vT := vT_4 194 rfl rfl
theorem km_Mo_161 : (Cond.methodLink "CodeShrinkerModel" 161 ⟨"CodeShrinkerModel", "gather", "()I"⟩) ∈ vT := vT_4 195 rfl rfl
theorem kz_916 : (Cond.privateMethod ⟨"CodeShrinkerModel", "gather", "()I"⟩) ∈ vT := vT_4 196 rfl rfl
theorem kI_Mo_gather : (Cond.instanceMethod ⟨"CodeShrinkerModel", "gather", "()I"⟩) ∈ vT := vT_4 197 rfl rfl
theorem kM_Mo_gather : (Cond.code ⟨"CodeShrinkerModel", "gather", "()I"⟩ prog_10_method_23_code 5 (Option.some .int)) ∈ vT := vT_4 198 rfl rfl
theorem km_Mo_148 : (Cond.methodLink "CodeShrinkerModel" 148 ⟨"CodeShrinkerModel", "member", "(IIII)V"⟩) ∈ vT := vT_4 199 rfl rfl
theorem kz_920 : (Cond.privateMethod ⟨"CodeShrinkerModel", "member", "(IIII)V"⟩) ∈ vT := vT_4 200 rfl rfl
theorem kI_Mo_member : (Cond.instanceMethod ⟨"CodeShrinkerModel", "member", "(IIII)V"⟩) ∈ vT := vT_4 201 rfl rfl
theorem kM_Mo_member : (Cond.code ⟨"CodeShrinkerModel", "member", "(IIII)V"⟩ prog_10_method_22_code 5 (Option.none : Option Jvm.ClassFile.FieldType)) ∈ vT := vT_4 202 rfl rfl
theorem km_Mo_152 : (Cond.methodLink "CodeShrinkerModel" 152 ⟨"CodeShrinkerModel", "alike", "(II)Z"⟩) ∈ vT := vT_4 203 rfl rfl
theorem kz_924 : (Cond.privateMethod ⟨"CodeShrinkerModel", "alike", "(II)Z"⟩) ∈ vT := vT_4 204 rfl rfl
theorem kI_Mo_alike : (Cond.instanceMethod ⟨"CodeShrinkerModel", "alike", "(II)Z"⟩) ∈ vT := vT_4 205 rfl rfl
theorem kM_Mo_alike : (Cond.code ⟨"CodeShrinkerModel", "alike", "(II)Z"⟩ prog_10_method_24_code 3 (Option.some .boolean)) ∈ vT := vT_4 206 rfl rfl
theorem km_Mo_155 : (Cond.methodLink "CodeShrinkerModel" 155 ⟨"CodeShrinkerModel", "related", "(II)Z"⟩) ∈ vT := vT_4 207 rfl rfl
theorem kz_928 : (Cond.privateMethod ⟨"CodeShrinkerModel", "related", "(II)Z"⟩) ∈ vT := vT_4 208 rfl rfl
theorem kI_Mo_related : (Cond.instanceMethod ⟨"CodeShrinkerModel", "related", "(II)Z"⟩) ∈ vT := vT_4 209 rfl rfl
theorem kM_Mo_related : (Cond.code ⟨"CodeShrinkerModel", "related", "(II)Z"⟩ prog_10_method_16_code 3 (Option.some .boolean)) ∈ vT := vT_4 210 rfl rfl
theorem km_Mo_165 : (Cond.methodLink "CodeShrinkerModel" 165 ⟨"CodeShrinkerModel", "keptFamily", "(I)Z"⟩) ∈ vT := vT_4 211 rfl rfl
theorem kz_932 : (Cond.privateMethod ⟨"CodeShrinkerModel", "keptFamily", "(I)Z"⟩) ∈ vT := vT_4 212 rfl rfl
theorem kI_Mo_keptFamily : (Cond.instanceMethod ⟨"CodeShrinkerModel", "keptFamily", "(I)Z"⟩) ∈ vT := vT_4 213 rfl rfl
theorem kM_Mo_keptFamily : (Cond.code ⟨"CodeShrinkerModel", "keptFamily", "(I)Z"⟩ prog_10_method_25_code 3 (Option.some .boolean)) ∈ vT := vT_4 214 rfl rfl
theorem km_Mo_168 : (Cond.methodLink "CodeShrinkerModel" 168 ⟨"CodeShrinkerModel", "freeName", "(II)I"⟩) ∈ vT := vT_4 215 rfl rfl
theorem kz_936 : (Cond.privateMethod ⟨"CodeShrinkerModel", "freeName", "(II)I"⟩) ∈ vT := vT_4 216 rfl rfl
theorem kI_Mo_freeName : (Cond.instanceMethod ⟨"CodeShrinkerModel", "freeName", "(II)I"⟩) ∈ vT := vT_4 217 rfl rfl
theorem kM_Mo_freeName : (Cond.code ⟨"CodeShrinkerModel", "freeName", "(II)I"⟩ prog_10_method_27_code 6 (Option.some .int)) ∈ vT := vT_4 218 rfl rfl
theorem km_Mo_158 : (Cond.methodLink "CodeShrinkerModel" 158 ⟨"CodeShrinkerModel", "clash", "(III)Z"⟩) ∈ vT := vT_4 219 rfl rfl
theorem kz_940 : (Cond.privateMethod ⟨"CodeShrinkerModel", "clash", "(III)Z"⟩) ∈ vT := vT_4 220 rfl rfl
theorem kI_Mo_clash : (Cond.instanceMethod ⟨"CodeShrinkerModel", "clash", "(III)Z"⟩) ∈ vT := vT_4 221 rfl rfl
theorem kM_Mo_clash : (Cond.code ⟨"CodeShrinkerModel", "clash", "(III)Z"⟩ prog_10_method_26_code 6 (Option.some .boolean)) ∈ vT := vT_4 222 rfl rfl
theorem km_Lw_84 : (Cond.methodLink "CodeShrinkerLaw" 84 ⟨"CodeShrinkerModel", "told", "(II)I"⟩) ∈ vT := vT_4 223 rfl rfl
theorem kI_Mo_told : (Cond.instanceMethod ⟨"CodeShrinkerModel", "told", "(II)I"⟩) ∈ vT := vT_4 224 rfl rfl
theorem ks_Mo_Mo_told : (Cond.selects "CodeShrinkerModel" ⟨"CodeShrinkerModel", "told", "(II)I"⟩ ⟨"CodeShrinkerModel", "told", "(II)I"⟩) ∈ vT := vT_4 225 rfl rfl
theorem kM_Mo_told : (Cond.code ⟨"CodeShrinkerModel", "told", "(II)I"⟩ prog_10_method_29_code 3 (Option.some .int)) ∈ vT := vT_4 226 rfl rfl
theorem km_Lw_87 : (Cond.methodLink "CodeShrinkerLaw" 87 ⟨"CodeShrinkerModel", "inside", "(III)I"⟩) ∈ vT := vT_4 227 rfl rfl
theorem kI_Mo_inside : (Cond.instanceMethod ⟨"CodeShrinkerModel", "inside", "(III)I"⟩) ∈ vT := vT_4 228 rfl rfl
theorem ks_Mo_Mo_inside : (Cond.selects "CodeShrinkerModel" ⟨"CodeShrinkerModel", "inside", "(III)I"⟩ ⟨"CodeShrinkerModel", "inside", "(III)I"⟩) ∈ vT := vT_4 229 rfl rfl
theorem kM_Mo_inside : (Cond.code ⟨"CodeShrinkerModel", "inside", "(III)I"⟩ prog_10_method_30_code 5 (Option.some .int)) ∈ vT := vT_4 230 rfl rfl
theorem km_Lw_90 : (Cond.methodLink "CodeShrinkerLaw" 90 ⟨"CodeShrinkerModel", "trace", "(III)I"⟩) ∈ vT := vT_4 231 rfl rfl
theorem kI_Mo_trace : (Cond.instanceMethod ⟨"CodeShrinkerModel", "trace", "(III)I"⟩) ∈ vT := vT_4 232 rfl rfl
theorem ks_Mo_Mo_trace : (Cond.selects "CodeShrinkerModel" ⟨"CodeShrinkerModel", "trace", "(III)I"⟩ ⟨"CodeShrinkerModel", "trace", "(III)I"⟩) ∈ vT := vT_4 233 rfl rfl
theorem kM_Mo_trace : (Cond.code ⟨"CodeShrinkerModel", "trace", "(III)I"⟩ prog_10_method_31_code 5 (Option.some .int)) ∈ vT := vT_4 234 rfl rfl
theorem km_Lw_94 : (Cond.methodLink "CodeShrinkerLaw" 94 ⟨"CodeShrinkerModel", "count", "(I)I"⟩) ∈ vT := vT_4 235 rfl rfl
theorem kI_Mo_count : (Cond.instanceMethod ⟨"CodeShrinkerModel", "count", "(I)I"⟩) ∈ vT := vT_4 236 rfl rfl
theorem ks_Mo_Mo_count : (Cond.selects "CodeShrinkerModel" ⟨"CodeShrinkerModel", "count", "(I)I"⟩ ⟨"CodeShrinkerModel", "count", "(I)I"⟩) ∈ vT := vT_4 237 rfl rfl
theorem kM_Mo_count : (Cond.code ⟨"CodeShrinkerModel", "count", "(I)I"⟩ prog_10_method_32_code 4 (Option.some .int)) ∈ vT := vT_4 238 rfl rfl
theorem kz_959 : (Cond.arrayClass .long) ∈ vT := vT_4 239 rfl rfl
theorem kz_960 : (Cond.sameMethod "java/lang/Throwable" "java/lang/Throwable" "fillInStackTrace" "(I)Ljava/lang/Throwable;") ∈ vT := vT_5 0 rfl rfl
theorem kx_Pc_Pc : (Cond.castable "CodeShrinker$ProgramClass" "CodeShrinker$ProgramClass") ∈ vT := vT_5 1 rfl rfl
theorem kx_Pm_Pm : (Cond.castable "CodeShrinker$ProgramMethod" "CodeShrinker$ProgramMethod") ∈ vT := vT_5 2 rfl rfl
theorem kx_It_It : (Cond.castable "CodeShrinker$Item" "CodeShrinker$Item") ∈ vT := vT_5 3 rfl rfl
theorem kz_964 : (Cond.sameMethod "[Ljava/lang/Object;" "java/lang/Object" "getClass" "()Ljava/lang/Class;") ∈ vT := vT_5 4 rfl rfl
theorem ks__Ljava_lang_Object__Ob_getClass__Ljava_lang_Class_ : (Cond.selects "[Ljava/lang/Object;" ⟨"java/lang/Object", "getClass", "()Ljava/lang/Class;"⟩ ⟨"java/lang/Object", "getClass", "()Ljava/lang/Class;"⟩) ∈ vT := vT_5 5 rfl rfl
theorem kz_966 : (Cond.declares ⟨"java/lang/Object", "getClass", "()Ljava/lang/Class;"⟩) ∈ vT := vT_5 6 rfl rfl
theorem kx_Cs_Ob : (Cond.castable "CodeShrinker" "java/lang/Object") ∈ vT := vT_5 7 rfl rfl
theorem kx_Pr_Ob : (Cond.castable "CodeShrinker$Program" "java/lang/Object") ∈ vT := vT_5 8 rfl rfl
theorem kx_Ru_Ob : (Cond.castable "CodeShrinker$Runner" "java/lang/Object") ∈ vT := vT_5 9 rfl rfl
theorem kx_Re_Ob : (Cond.castable "CodeShrinker$Reach" "java/lang/Object") ∈ vT := vT_5 10 rfl rfl
theorem kx_Fa_Ob : (Cond.castable "CodeShrinker$Families" "java/lang/Object") ∈ vT := vT_5 11 rfl rfl
theorem kx_Mo_Ob : (Cond.castable "CodeShrinkerModel" "java/lang/Object") ∈ vT := vT_5 12 rfl rfl
theorem kx_Pc_Ob : (Cond.castable "CodeShrinker$ProgramClass" "java/lang/Object") ∈ vT := vT_5 13 rfl rfl
theorem kx_Pm_Ob : (Cond.castable "CodeShrinker$ProgramMethod" "java/lang/Object") ∈ vT := vT_5 14 rfl rfl
theorem kx_It_Ob : (Cond.castable "CodeShrinker$Item" "java/lang/Object") ∈ vT := vT_5 15 rfl rfl
theorem kx_java_lang_String_Ob : (Cond.castable "java/lang/String" "java/lang/Object") ∈ vT := vT_5 16 rfl rfl
theorem ks_Re_Re_clearMarks : (Cond.selects "CodeShrinker$Reach" ⟨"CodeShrinker$Reach", "clearMarks", "()V"⟩ ⟨"CodeShrinker$Reach", "clearMarks", "()V"⟩) ∈ vT := vT_sel 0 rfl rfl
theorem ks_Re_Re_markKept : (Cond.selects "CodeShrinker$Reach" ⟨"CodeShrinker$Reach", "markKept", "()V"⟩ ⟨"CodeShrinker$Reach", "markKept", "()V"⟩) ∈ vT := vT_sel 1 rfl rfl
theorem ks_Re_Re_markLive : (Cond.selects "CodeShrinker$Reach" ⟨"CodeShrinker$Reach", "markLive", "(LCodeShrinker$ProgramMethod;)V"⟩ ⟨"CodeShrinker$Reach", "markLive", "(LCodeShrinker$ProgramMethod;)V"⟩) ∈ vT := vT_sel 2 rfl rfl
theorem ks_Re_Re_markMade : (Cond.selects "CodeShrinker$Reach" ⟨"CodeShrinker$Reach", "markMade", "(LCodeShrinker$ProgramClass;)V"⟩ ⟨"CodeShrinker$Reach", "markMade", "(LCodeShrinker$ProgramClass;)V"⟩) ∈ vT := vT_sel 3 rfl rfl
theorem ks_Re_Re_spreadFromLive : (Cond.selects "CodeShrinker$Reach" ⟨"CodeShrinker$Reach", "spreadFromLive", "()V"⟩ ⟨"CodeShrinker$Reach", "spreadFromLive", "()V"⟩) ∈ vT := vT_sel 4 rfl rfl
theorem ks_Re_Re_spread : (Cond.selects "CodeShrinker$Reach" ⟨"CodeShrinker$Reach", "spread", "(LCodeShrinker$ProgramMethod;)V"⟩ ⟨"CodeShrinker$Reach", "spread", "(LCodeShrinker$ProgramMethod;)V"⟩) ∈ vT := vT_sel 5 rfl rfl
theorem ks_Re_Re_spreadSelf : (Cond.selects "CodeShrinker$Reach" ⟨"CodeShrinker$Reach", "spreadSelf", "(LCodeShrinker$ProgramClass;LCodeShrinker$Item;)V"⟩ ⟨"CodeShrinker$Reach", "spreadSelf", "(LCodeShrinker$ProgramClass;LCodeShrinker$Item;)V"⟩) ∈ vT := vT_sel 6 rfl rfl
theorem ks_Al_Al_fastRemove : (Cond.selects "java/util/ArrayList" ⟨"java/util/ArrayList", "fastRemove", "([Ljava/lang/Object;I)V"⟩ ⟨"java/util/ArrayList", "fastRemove", "([Ljava/lang/Object;I)V"⟩) ∈ vT := vT_sel 7 rfl rfl
theorem ks_Pr_Pr_isMadeOrAboveMade : (Cond.selects "CodeShrinker$Program" ⟨"CodeShrinker$Program", "isMadeOrAboveMade", "(LCodeShrinker$ProgramClass;)Z"⟩ ⟨"CodeShrinker$Program", "isMadeOrAboveMade", "(LCodeShrinker$ProgramClass;)Z"⟩) ∈ vT := vT_sel 8 rfl rfl
theorem ks_Fa_Fa_seeRelatives : (Cond.selects "CodeShrinker$Families" ⟨"CodeShrinker$Families", "seeRelatives", "()V"⟩ ⟨"CodeShrinker$Families", "seeRelatives", "()V"⟩) ∈ vT := vT_sel 9 rfl rfl
theorem ks_Fa_Fa_familyOf : (Cond.selects "CodeShrinker$Families" ⟨"CodeShrinker$Families", "familyOf", "(LCodeShrinker$ProgramClass;II)I"⟩ ⟨"CodeShrinker$Families", "familyOf", "(LCodeShrinker$ProgramClass;II)I"⟩) ∈ vT := vT_sel 10 rfl rfl
theorem ks_Fa_Fa_open : (Cond.selects "CodeShrinker$Families" ⟨"CodeShrinker$Families", "open", "(LCodeShrinker$ProgramMethod;)I"⟩ ⟨"CodeShrinker$Families", "open", "(LCodeShrinker$ProgramMethod;)I"⟩) ∈ vT := vT_sel 11 rfl rfl
theorem ks_Fa_Fa_bearers : (Cond.selects "CodeShrinker$Families" ⟨"CodeShrinker$Families", "bearers", "(II)I"⟩ ⟨"CodeShrinker$Families", "bearers", "(II)I"⟩) ∈ vT := vT_sel 12 rfl rfl
theorem ks_Fa_Fa_joinedTo : (Cond.selects "CodeShrinker$Families" ⟨"CodeShrinker$Families", "joinedTo", "(II)I"⟩ ⟨"CodeShrinker$Families", "joinedTo", "(II)I"⟩) ∈ vT := vT_sel 13 rfl rfl
theorem ks_Fa_Fa_relatedTo : (Cond.selects "CodeShrinker$Families" ⟨"CodeShrinker$Families", "relatedTo", "(I)I"⟩ ⟨"CodeShrinker$Families", "relatedTo", "(I)I"⟩) ∈ vT := vT_sel 14 rfl rfl
theorem ks_Fa_Fa_leastFreeName : (Cond.selects "CodeShrinker$Families" ⟨"CodeShrinker$Families", "leastFreeName", "(I)I"⟩ ⟨"CodeShrinker$Families", "leastFreeName", "(I)I"⟩) ∈ vT := vT_sel 15 rfl rfl
theorem ks_Fa_Fa_writeItems : (Cond.selects "CodeShrinker$Families" ⟨"CodeShrinker$Families", "writeItems", "(LCodeShrinker$ProgramMethod;)V"⟩ ⟨"CodeShrinker$Families", "writeItems", "(LCodeShrinker$ProgramMethod;)V"⟩) ∈ vT := vT_sel 16 rfl rfl
theorem ks_Fa_Fa_newNameOf : (Cond.selects "CodeShrinker$Families" ⟨"CodeShrinker$Families", "newNameOf", "(LCodeShrinker$ProgramClass;II)I"⟩ ⟨"CodeShrinker$Families", "newNameOf", "(LCodeShrinker$ProgramClass;II)I"⟩) ∈ vT := vT_sel 17 rfl rfl
theorem ks_Cs_Cs_parentOf : (Cond.selects "CodeShrinker" ⟨"CodeShrinker", "parentOf", "(I)I"⟩ ⟨"CodeShrinker", "parentOf", "(I)I"⟩) ∈ vT := vT_sel 18 rfl rfl
theorem ks_Cs_Cs_isClass : (Cond.selects "CodeShrinker" ⟨"CodeShrinker", "isClass", "(I)Z"⟩ ⟨"CodeShrinker", "isClass", "(I)Z"⟩) ∈ vT := vT_sel 19 rfl rfl
theorem ks_Th_Th_fillInStackTrace_I_Ljava_lang_Throwable_ : (Cond.selects "java/lang/Throwable" ⟨"java/lang/Throwable", "fillInStackTrace", "(I)Ljava/lang/Throwable;"⟩ ⟨"java/lang/Throwable", "fillInStackTrace", "(I)Ljava/lang/Throwable;"⟩) ∈ vT := vT_sel 20 rfl rfl
theorem ks_Al_Al_add2 : (Cond.selects "java/util/ArrayList" ⟨"java/util/ArrayList", "add", "(Ljava/lang/Object;[Ljava/lang/Object;I)V"⟩ ⟨"java/util/ArrayList", "add", "(Ljava/lang/Object;[Ljava/lang/Object;I)V"⟩) ∈ vT := vT_sel 21 rfl rfl
theorem ks_Al_Al_grow : (Cond.selects "java/util/ArrayList" ⟨"java/util/ArrayList", "grow", "()[Ljava/lang/Object;"⟩ ⟨"java/util/ArrayList", "grow", "()[Ljava/lang/Object;"⟩) ∈ vT := vT_sel 22 rfl rfl
theorem ks_Al_Al_grow2 : (Cond.selects "java/util/ArrayList" ⟨"java/util/ArrayList", "grow", "(I)[Ljava/lang/Object;"⟩ ⟨"java/util/ArrayList", "grow", "(I)[Ljava/lang/Object;"⟩) ∈ vT := vT_sel 23 rfl rfl
theorem ks_Cs_Cs_isMethod : (Cond.selects "CodeShrinker" ⟨"CodeShrinker", "isMethod", "(I)Z"⟩ ⟨"CodeShrinker", "isMethod", "(I)Z"⟩) ∈ vT := vT_sel 24 rfl rfl
theorem ks_Cs_Cs_isItem : (Cond.selects "CodeShrinker" ⟨"CodeShrinker", "isItem", "(IIII)Z"⟩ ⟨"CodeShrinker", "isItem", "(IIII)Z"⟩) ∈ vT := vT_sel 25 rfl rfl
theorem ks_Cs_Cs_newItem : (Cond.selects "CodeShrinker" ⟨"CodeShrinker", "newItem", "(IIII)LCodeShrinker$Item;"⟩ ⟨"CodeShrinker", "newItem", "(IIII)LCodeShrinker$Item;"⟩) ∈ vT := vT_sel 26 rfl rfl
theorem ks_Ru_Ru_perform : (Cond.selects "CodeShrinker$Runner" ⟨"CodeShrinker$Runner", "perform", "(LCodeShrinker$ProgramClass;III)V"⟩ ⟨"CodeShrinker$Runner", "perform", "(LCodeShrinker$ProgramClass;III)V"⟩) ∈ vT := vT_sel 27 rfl rfl
theorem ks_Ru_Ru_performItem : (Cond.selects "CodeShrinker$Runner" ⟨"CodeShrinker$Runner", "performItem", "(LCodeShrinker$Item;LCodeShrinker$ProgramClass;I)V"⟩ ⟨"CodeShrinker$Runner", "performItem", "(LCodeShrinker$Item;LCodeShrinker$ProgramClass;I)V"⟩) ∈ vT := vT_sel 28 rfl rfl
theorem ks_Mo_Mo_isClass : (Cond.selects "CodeShrinkerModel" ⟨"CodeShrinkerModel", "isClass", "(I)Z"⟩ ⟨"CodeShrinkerModel", "isClass", "(I)Z"⟩) ∈ vT := vT_sel 29 rfl rfl
theorem ks_Mo_Mo_bad : (Cond.selects "CodeShrinkerModel" ⟨"CodeShrinkerModel", "bad", "(Z)Z"⟩ ⟨"CodeShrinkerModel", "bad", "(Z)Z"⟩) ∈ vT := vT_sel 30 rfl rfl
theorem ks_Mo_Mo_fail : (Cond.selects "CodeShrinkerModel" ⟨"CodeShrinkerModel", "fail", "(I)I"⟩ ⟨"CodeShrinkerModel", "fail", "(I)I"⟩) ∈ vT := vT_sel 31 rfl rfl
theorem ks_Mo_Mo_own : (Cond.selects "CodeShrinkerModel" ⟨"CodeShrinkerModel", "own", "(III)I"⟩ ⟨"CodeShrinkerModel", "own", "(III)I"⟩) ∈ vT := vT_sel 32 rfl rfl
theorem ks_Mo_Mo_isMethod : (Cond.selects "CodeShrinkerModel" ⟨"CodeShrinkerModel", "isMethod", "(I)Z"⟩ ⟨"CodeShrinkerModel", "isMethod", "(I)Z"⟩) ∈ vT := vT_sel 33 rfl rfl
theorem ks_Mo_Mo_find : (Cond.selects "CodeShrinkerModel" ⟨"CodeShrinkerModel", "find", "(III)I"⟩ ⟨"CodeShrinkerModel", "find", "(III)I"⟩) ∈ vT := vT_sel 34 rfl rfl
theorem ks_Mo_Mo_findLive : (Cond.selects "CodeShrinkerModel" ⟨"CodeShrinkerModel", "findLive", "()V"⟩ ⟨"CodeShrinkerModel", "findLive", "()V"⟩) ∈ vT := vT_sel 35 rfl rfl
theorem ks_Mo_Mo_need : (Cond.selects "CodeShrinkerModel" ⟨"CodeShrinkerModel", "need", "(II)Z"⟩ ⟨"CodeShrinkerModel", "need", "(II)Z"⟩) ∈ vT := vT_sel 36 rfl rfl
theorem ks_Mo_Mo_enliven : (Cond.selects "CodeShrinkerModel" ⟨"CodeShrinkerModel", "enliven", "(II)Z"⟩ ⟨"CodeShrinkerModel", "enliven", "(II)Z"⟩) ∈ vT := vT_sel 37 rfl rfl
theorem ks_Mo_Mo_above : (Cond.selects "CodeShrinkerModel" ⟨"CodeShrinkerModel", "above", "(II)Z"⟩ ⟨"CodeShrinkerModel", "above", "(II)Z"⟩) ∈ vT := vT_sel 38 rfl rfl
theorem ks_Mo_Mo_moveMethod : (Cond.selects "CodeShrinkerModel" ⟨"CodeShrinkerModel", "moveMethod", "(II)V"⟩ ⟨"CodeShrinkerModel", "moveMethod", "(II)V"⟩) ∈ vT := vT_sel 39 rfl rfl
theorem ks_Mo_Mo_gather : (Cond.selects "CodeShrinkerModel" ⟨"CodeShrinkerModel", "gather", "()I"⟩ ⟨"CodeShrinkerModel", "gather", "()I"⟩) ∈ vT := vT_sel 40 rfl rfl
theorem ks_Mo_Mo_member : (Cond.selects "CodeShrinkerModel" ⟨"CodeShrinkerModel", "member", "(IIII)V"⟩ ⟨"CodeShrinkerModel", "member", "(IIII)V"⟩) ∈ vT := vT_sel 41 rfl rfl
theorem ks_Mo_Mo_alike : (Cond.selects "CodeShrinkerModel" ⟨"CodeShrinkerModel", "alike", "(II)Z"⟩ ⟨"CodeShrinkerModel", "alike", "(II)Z"⟩) ∈ vT := vT_sel 42 rfl rfl
theorem ks_Mo_Mo_related : (Cond.selects "CodeShrinkerModel" ⟨"CodeShrinkerModel", "related", "(II)Z"⟩ ⟨"CodeShrinkerModel", "related", "(II)Z"⟩) ∈ vT := vT_sel 43 rfl rfl
theorem ks_Mo_Mo_keptFamily : (Cond.selects "CodeShrinkerModel" ⟨"CodeShrinkerModel", "keptFamily", "(I)Z"⟩ ⟨"CodeShrinkerModel", "keptFamily", "(I)Z"⟩) ∈ vT := vT_sel 44 rfl rfl
theorem ks_Mo_Mo_freeName : (Cond.selects "CodeShrinkerModel" ⟨"CodeShrinkerModel", "freeName", "(II)I"⟩ ⟨"CodeShrinkerModel", "freeName", "(II)I"⟩) ∈ vT := vT_sel 45 rfl rfl
theorem ks_Mo_Mo_clash : (Cond.selects "CodeShrinkerModel" ⟨"CodeShrinkerModel", "clash", "(III)Z"⟩ ⟨"CodeShrinkerModel", "clash", "(III)Z"⟩) ∈ vT := vT_sel 46 rfl rfl
theorem i_Fa : ∀ w ∈ u_ws R_Fa F_Fa 8, w ∈ vT := by decide +kernel
theorem i_It : ∀ w ∈ u_ws R_It F_It 5, w ∈ vT := by decide +kernel
theorem i_Pr : ∀ w ∈ u_ws R_Pr F_Pr 2, w ∈ vT := by decide +kernel
theorem i_Pc : ∀ w ∈ u_ws R_Pc F_Pc 5, w ∈ vT := by decide +kernel
theorem i_Pm : ∀ w ∈ u_ws R_Pm F_Pm 8, w ∈ vT := by decide +kernel
theorem i_Re : ∀ w ∈ u_ws R_Re F_Re 2, w ∈ vT := by decide +kernel
theorem i_Ru : ∀ w ∈ u_ws R_Ru F_Ru 2, w ∈ vT := by decide +kernel
theorem i_Cs : ∀ w ∈ u_ws R_Cs F_Cs 5, w ∈ vT := by decide +kernel
theorem i_Mo : ∀ w ∈ u_ws R_Mo F_Mo 31, w ∈ vT := by decide +kernel
theorem i_Al : ∀ w ∈ u_ws R_Al F_Al 3, w ∈ vT := by decide +kernel
end
section
theorem d_Ob_init_0 : decode b_Ob_init 0 = .ok (.return_, 1) := by decide +kernel
theorem d_Pr_init_0 : decode b_Pr_init 0 = .ok (.aload_n 0, 1) := by decide +kernel
theorem d_Pr_init_1 : decode b_Pr_init 1 = .ok (.invokespecial 1, 3) := by decide +kernel
theorem d_Pr_init_4 : decode b_Pr_init 4 = .ok (.aload_n 0, 1) := by decide +kernel
theorem d_Pr_init_5 : decode b_Pr_init 5 = .ok (.new 7, 3) := by decide +kernel
theorem d_Pr_init_8 : decode b_Pr_init 8 = .ok (.dup, 1) := by decide +kernel
theorem d_Pr_init_9 : decode b_Pr_init 9 = .ok (.invokespecial 9, 3) := by decide +kernel
theorem d_Pr_init_12 : decode b_Pr_init 12 = .ok (.putfield 10, 3) := by decide +kernel
theorem d_Pr_init_15 : decode b_Pr_init 15 = .ok (.aload_n 0, 1) := by decide +kernel
theorem d_Pr_init_16 : decode b_Pr_init 16 = .ok (.new 7, 3) := by decide +kernel
theorem d_Pr_init_19 : decode b_Pr_init 19 = .ok (.dup, 1) := by decide +kernel
theorem d_Pr_init_20 : decode b_Pr_init 20 = .ok (.invokespecial 9, 3) := by decide +kernel
theorem d_Pr_init_23 : decode b_Pr_init 23 = .ok (.putfield 16, 3) := by decide +kernel
theorem d_Pr_init_26 : decode b_Pr_init 26 = .ok (.return_, 1) := by decide +kernel
theorem d_Al_init_0 : decode b_Al_init 0 = .ok (.aload_n 0, 1) := by decide +kernel
theorem d_Al_init_1 : decode b_Al_init 1 = .ok (.invokespecial 1, 3) := by decide +kernel
theorem d_Al_init_4 : decode b_Al_init 4 = .ok (.aload_n 0, 1) := by decide +kernel
theorem d_Al_init_5 : decode b_Al_init 5 = .ok (.getstatic 39, 3) := by decide +kernel
theorem d_Al_init_8 : decode b_Al_init 8 = .ok (.putfield 9, 3) := by decide +kernel
theorem d_Al_init_11 : decode b_Al_init 11 = .ok (.return_, 1) := by decide +kernel
theorem d_Ab_init_0 : decode b_Ab_init 0 = .ok (.aload_n 0, 1) := by decide +kernel
theorem d_Ab_init_1 : decode b_Ab_init 1 = .ok (.invokespecial 1, 3) := by decide +kernel
theorem d_Ab_init_4 : decode b_Ab_init 4 = .ok (.aload_n 0, 1) := by decide +kernel
theorem d_Ab_init_5 : decode b_Ab_init 5 = .ok (.iconst 0, 1) := by decide +kernel
theorem d_Ab_init_6 : decode b_Ab_init 6 = .ok (.putfield 7, 3) := by decide +kernel
theorem d_Ab_init_9 : decode b_Ab_init 9 = .ok (.return_, 1) := by decide +kernel
theorem d_Ac_init_0 : decode b_Ac_init 0 = .ok (.aload_n 0, 1) := by decide +kernel
theorem d_Ac_init_1 : decode b_Ac_init 1 = .ok (.invokespecial 1, 3) := by decide +kernel
theorem d_Ac_init_4 : decode b_Ac_init 4 = .ok (.return_, 1) := by decide +kernel
theorem d_Ru_init_0 : decode b_Ru_init 0 = .ok (.aload_n 0, 1) := by decide +kernel
theorem d_Ru_init_1 : decode b_Ru_init 1 = .ok (.invokespecial 3, 3) := by decide +kernel
theorem d_Ru_init_4 : decode b_Ru_init 4 = .ok (.return_, 1) := by decide +kernel
theorem d_Re_init_0 : decode b_Re_init 0 = .ok (.aload_n 0, 1) := by decide +kernel
theorem d_Re_init_1 : decode b_Re_init 1 = .ok (.invokespecial 3, 3) := by decide +kernel
theorem d_Re_init_4 : decode b_Re_init 4 = .ok (.aload_n 0, 1) := by decide +kernel
theorem d_Re_init_5 : decode b_Re_init 5 = .ok (.aload_n 1, 1) := by decide +kernel
theorem d_Re_init_6 : decode b_Re_init 6 = .ok (.putfield 9, 3) := by decide +kernel
theorem d_Re_init_9 : decode b_Re_init 9 = .ok (.aload_n 0, 1) := by decide +kernel
theorem d_Re_init_10 : decode b_Re_init 10 = .ok (.iconst 0, 1) := by decide +kernel
theorem d_Re_init_11 : decode b_Re_init 11 = .ok (.putfield 15, 3) := by decide +kernel
theorem d_Re_init_14 : decode b_Re_init 14 = .ok (.return_, 1) := by decide +kernel
theorem d_Al_size_0 : decode b_Al_size 0 = .ok (.aload_n 0, 1) := by decide +kernel
theorem d_Al_size_1 : decode b_Al_size 1 = .ok (.getfield 48, 3) := by decide +kernel
theorem d_Al_size_4 : decode b_Al_size 4 = .ok (.ireturn, 1) := by decide +kernel
theorem d_Re_mark_0 : decode b_Re_mark 0 = .ok (.aload_n 0, 1) := by decide +kernel
theorem d_Re_mark_1 : decode b_Re_mark 1 = .ok (.invokevirtual 19, 3) := by decide +kernel
theorem d_Re_mark_4 : decode b_Re_mark 4 = .ok (.aload_n 0, 1) := by decide +kernel
theorem d_Re_mark_5 : decode b_Re_mark 5 = .ok (.invokevirtual 22, 3) := by decide +kernel
theorem d_Re_mark_8 : decode b_Re_mark 8 = .ok (.aload_n 0, 1) := by decide +kernel
theorem d_Re_mark_9 : decode b_Re_mark 9 = .ok (.iconst 1, 1) := by decide +kernel
theorem d_Re_mark_10 : decode b_Re_mark 10 = .ok (.putfield 15, 3) := by decide +kernel
theorem d_Re_mark_13 : decode b_Re_mark 13 = .ok (.iconst 0, 1) := by decide +kernel
theorem d_Re_mark_14 : decode b_Re_mark 14 = .ok (.istore_n 1, 1) := by decide +kernel
theorem d_Re_mark_15 : decode b_Re_mark 15 = .ok (.aload_n 0, 1) := by decide +kernel
theorem d_Re_mark_16 : decode b_Re_mark 16 = .ok (.getfield 15, 3) := by decide +kernel
theorem d_Re_mark_19 : decode b_Re_mark 19 = .ok (.ifCond .eq 24, 3) := by decide +kernel
theorem d_Re_mark_22 : decode b_Re_mark 22 = .ok (.iload_n 1, 1) := by decide +kernel
theorem d_Re_mark_23 : decode b_Re_mark 23 = .ok (.bipush 32, 2) := by decide +kernel
theorem d_Re_mark_25 : decode b_Re_mark 25 = .ok (.if_icmp .gt 18, 3) := by decide +kernel
theorem d_Re_mark_28 : decode b_Re_mark 28 = .ok (.aload_n 0, 1) := by decide +kernel
theorem d_Re_mark_29 : decode b_Re_mark 29 = .ok (.iconst 0, 1) := by decide +kernel
theorem d_Re_mark_30 : decode b_Re_mark 30 = .ok (.putfield 15, 3) := by decide +kernel
theorem d_Re_mark_33 : decode b_Re_mark 33 = .ok (.aload_n 0, 1) := by decide +kernel
theorem d_Re_mark_34 : decode b_Re_mark 34 = .ok (.invokevirtual 25, 3) := by decide +kernel
theorem d_Re_mark_37 : decode b_Re_mark 37 = .ok (.iinc 1 1, 3) := by decide +kernel
theorem d_Re_mark_40 : decode b_Re_mark 40 = .ok (.goto (-25), 3) := by decide +kernel
theorem d_Re_mark_43 : decode b_Re_mark 43 = .ok (.return_, 1) := by decide +kernel
theorem d_Re_clearMarks_0 : decode b_Re_clearMarks 0 = .ok (.iconst 0, 1) := by decide +kernel
theorem d_Re_clearMarks_1 : decode b_Re_clearMarks 1 = .ok (.istore_n 1, 1) := by decide +kernel
theorem d_Re_clearMarks_2 : decode b_Re_clearMarks 2 = .ok (.iload_n 1, 1) := by decide +kernel
theorem d_Re_clearMarks_3 : decode b_Re_clearMarks 3 = .ok (.aload_n 0, 1) := by decide +kernel
theorem d_Re_clearMarks_4 : decode b_Re_clearMarks 4 = .ok (.getfield 9, 3) := by decide +kernel
theorem d_Re_clearMarks_7 : decode b_Re_clearMarks 7 = .ok (.getfield 28, 3) := by decide +kernel
theorem d_Re_clearMarks_10 : decode b_Re_clearMarks 10 = .ok (.invokevirtual 34, 3) := by decide +kernel
theorem d_Re_clearMarks_13 : decode b_Re_clearMarks 13 = .ok (.if_icmp .ge 27, 3) := by decide +kernel
theorem d_Re_clearMarks_16 : decode b_Re_clearMarks 16 = .ok (.aload_n 0, 1) := by decide +kernel
theorem d_Re_clearMarks_17 : decode b_Re_clearMarks 17 = .ok (.getfield 9, 3) := by decide +kernel
theorem d_Re_clearMarks_20 : decode b_Re_clearMarks 20 = .ok (.getfield 28, 3) := by decide +kernel
theorem d_Re_clearMarks_23 : decode b_Re_clearMarks 23 = .ok (.iload_n 1, 1) := by decide +kernel
theorem d_Re_clearMarks_24 : decode b_Re_clearMarks 24 = .ok (.invokevirtual 40, 3) := by decide +kernel
theorem d_Re_clearMarks_27 : decode b_Re_clearMarks 27 = .ok (.checkcast 44, 3) := by decide +kernel
theorem d_Re_clearMarks_30 : decode b_Re_clearMarks 30 = .ok (.iconst 0, 1) := by decide +kernel
theorem d_Re_clearMarks_31 : decode b_Re_clearMarks 31 = .ok (.putfield 46, 3) := by decide +kernel
theorem d_Re_clearMarks_34 : decode b_Re_clearMarks 34 = .ok (.iinc 1 1, 3) := by decide +kernel
theorem d_Re_clearMarks_37 : decode b_Re_clearMarks 37 = .ok (.goto (-35), 3) := by decide +kernel
theorem d_Re_clearMarks_40 : decode b_Re_clearMarks 40 = .ok (.iconst 0, 1) := by decide +kernel
theorem d_Re_clearMarks_41 : decode b_Re_clearMarks 41 = .ok (.istore_n 1, 1) := by decide +kernel
theorem d_Re_clearMarks_42 : decode b_Re_clearMarks 42 = .ok (.iload_n 1, 1) := by decide +kernel
theorem d_Re_clearMarks_43 : decode b_Re_clearMarks 43 = .ok (.aload_n 0, 1) := by decide +kernel
theorem d_Re_clearMarks_44 : decode b_Re_clearMarks 44 = .ok (.getfield 9, 3) := by decide +kernel
theorem d_Re_clearMarks_47 : decode b_Re_clearMarks 47 = .ok (.getfield 49, 3) := by decide +kernel
theorem d_Re_clearMarks_50 : decode b_Re_clearMarks 50 = .ok (.invokevirtual 34, 3) := by decide +kernel
theorem d_Re_clearMarks_53 : decode b_Re_clearMarks 53 = .ok (.if_icmp .ge 27, 3) := by decide +kernel
theorem d_Re_clearMarks_56 : decode b_Re_clearMarks 56 = .ok (.aload_n 0, 1) := by decide +kernel
theorem d_Re_clearMarks_57 : decode b_Re_clearMarks 57 = .ok (.getfield 9, 3) := by decide +kernel
theorem d_Re_clearMarks_60 : decode b_Re_clearMarks 60 = .ok (.getfield 49, 3) := by decide +kernel
theorem d_Re_clearMarks_63 : decode b_Re_clearMarks 63 = .ok (.iload_n 1, 1) := by decide +kernel
theorem d_Re_clearMarks_64 : decode b_Re_clearMarks 64 = .ok (.invokevirtual 40, 3) := by decide +kernel
theorem d_Re_clearMarks_67 : decode b_Re_clearMarks 67 = .ok (.checkcast 52, 3) := by decide +kernel
theorem d_Re_clearMarks_70 : decode b_Re_clearMarks 70 = .ok (.iconst 0, 1) := by decide +kernel
theorem d_Re_clearMarks_71 : decode b_Re_clearMarks 71 = .ok (.putfield 54, 3) := by decide +kernel
theorem d_Re_clearMarks_74 : decode b_Re_clearMarks 74 = .ok (.iinc 1 1, 3) := by decide +kernel
theorem d_Re_clearMarks_77 : decode b_Re_clearMarks 77 = .ok (.goto (-35), 3) := by decide +kernel
theorem d_Re_clearMarks_80 : decode b_Re_clearMarks 80 = .ok (.return_, 1) := by decide +kernel
theorem d_Al_get_0 : decode b_Al_get 0 = .ok (.iload_n 1, 1) := by decide +kernel
theorem d_Al_get_1 : decode b_Al_get 1 = .ok (.aload_n 0, 1) := by decide +kernel
theorem d_Al_get_2 : decode b_Al_get 2 = .ok (.getfield 48, 3) := by decide +kernel
theorem d_Al_get_5 : decode b_Al_get 5 = .ok (.invokestatic 118, 3) := by decide +kernel
theorem d_Al_get_8 : decode b_Al_get 8 = .ok (.pop, 1) := by decide +kernel
theorem d_Al_get_9 : decode b_Al_get 9 = .ok (.aload_n 0, 1) := by decide +kernel
theorem d_Al_get_10 : decode b_Al_get 10 = .ok (.iload_n 1, 1) := by decide +kernel
theorem d_Al_get_11 : decode b_Al_get 11 = .ok (.invokevirtual 123, 3) := by decide +kernel
theorem d_Al_get_14 : decode b_Al_get 14 = .ok (.areturn, 1) := by decide +kernel
theorem d_Os_checkIndex_0 : decode b_Os_checkIndex 0 = .ok (.iload_n 0, 1) := by decide +kernel
theorem d_Os_checkIndex_1 : decode b_Os_checkIndex 1 = .ok (.iload_n 1, 1) := by decide +kernel
theorem d_Os_checkIndex_2 : decode b_Os_checkIndex 2 = .ok (.aconst_null, 1) := by decide +kernel
theorem d_Os_checkIndex_3 : decode b_Os_checkIndex 3 = .ok (.invokestatic 105, 3) := by decide +kernel
theorem d_Os_checkIndex_6 : decode b_Os_checkIndex 6 = .ok (.ireturn, 1) := by decide +kernel
theorem d_Pd_checkIndex_0 : decode b_Pd_checkIndex 0 = .ok (.iload_n 0, 1) := by decide +kernel
theorem d_Pd_checkIndex_1 : decode b_Pd_checkIndex 1 = .ok (.ifCond .lt 8, 3) := by decide +kernel
theorem d_Pd_checkIndex_4 : decode b_Pd_checkIndex 4 = .ok (.iload_n 0, 1) := by decide +kernel
theorem d_Pd_checkIndex_5 : decode b_Pd_checkIndex 5 = .ok (.iload_n 1, 1) := by decide +kernel
theorem d_Pd_checkIndex_6 : decode b_Pd_checkIndex 6 = .ok (.if_icmp .lt 10, 3) := by decide +kernel
theorem d_Pd_checkIndex_9 : decode b_Pd_checkIndex 9 = .ok (.aload_n 2, 1) := by decide +kernel
theorem d_Pd_checkIndex_10 : decode b_Pd_checkIndex 10 = .ok (.iload_n 0, 1) := by decide +kernel
theorem d_Pd_checkIndex_11 : decode b_Pd_checkIndex 11 = .ok (.iload_n 1, 1) := by decide +kernel
theorem d_Pd_checkIndex_12 : decode b_Pd_checkIndex 12 = .ok (.invokestatic 95, 3) := by decide +kernel
theorem d_Pd_checkIndex_15 : decode b_Pd_checkIndex 15 = .ok (.athrow, 1) := by decide +kernel
theorem d_Pd_checkIndex_16 : decode b_Pd_checkIndex 16 = .ok (.iload_n 0, 1) := by decide +kernel
theorem d_Pd_checkIndex_17 : decode b_Pd_checkIndex 17 = .ok (.ireturn, 1) := by decide +kernel
theorem d_Al_elementData_0 : decode b_Al_elementData 0 = .ok (.aload_n 0, 1) := by decide +kernel
theorem d_Al_elementData_1 : decode b_Al_elementData 1 = .ok (.getfield 9, 3) := by decide +kernel
theorem d_Al_elementData_4 : decode b_Al_elementData 4 = .ok (.iload_n 1, 1) := by decide +kernel
theorem d_Al_elementData_5 : decode b_Al_elementData 5 = .ok (.aaload, 1) := by decide +kernel
theorem d_Al_elementData_6 : decode b_Al_elementData 6 = .ok (.areturn, 1) := by decide +kernel
theorem d_Re_markKept_0 : decode b_Re_markKept 0 = .ok (.iconst 0, 1) := by decide +kernel
theorem d_Re_markKept_1 : decode b_Re_markKept 1 = .ok (.istore_n 1, 1) := by decide +kernel
theorem d_Re_markKept_2 : decode b_Re_markKept 2 = .ok (.iload_n 1, 1) := by decide +kernel
theorem d_Re_markKept_3 : decode b_Re_markKept 3 = .ok (.aload_n 0, 1) := by decide +kernel
theorem d_Re_markKept_4 : decode b_Re_markKept 4 = .ok (.getfield 9, 3) := by decide +kernel
theorem d_Re_markKept_7 : decode b_Re_markKept 7 = .ok (.getfield 49, 3) := by decide +kernel
theorem d_Re_markKept_10 : decode b_Re_markKept 10 = .ok (.invokevirtual 34, 3) := by decide +kernel
theorem d_Re_markKept_13 : decode b_Re_markKept 13 = .ok (.if_icmp .ge 44, 3) := by decide +kernel
theorem d_Re_markKept_16 : decode b_Re_markKept 16 = .ok (.aload_n 0, 1) := by decide +kernel
theorem d_Re_markKept_17 : decode b_Re_markKept 17 = .ok (.getfield 9, 3) := by decide +kernel
theorem d_Re_markKept_20 : decode b_Re_markKept 20 = .ok (.getfield 49, 3) := by decide +kernel
theorem d_Re_markKept_23 : decode b_Re_markKept 23 = .ok (.iload_n 1, 1) := by decide +kernel
theorem d_Re_markKept_24 : decode b_Re_markKept 24 = .ok (.invokevirtual 40, 3) := by decide +kernel
theorem d_Re_markKept_27 : decode b_Re_markKept 27 = .ok (.checkcast 52, 3) := by decide +kernel
theorem d_Re_markKept_30 : decode b_Re_markKept 30 = .ok (.astore_n 2, 1) := by decide +kernel
theorem d_Re_markKept_31 : decode b_Re_markKept 31 = .ok (.aload_n 2, 1) := by decide +kernel
theorem d_Re_markKept_32 : decode b_Re_markKept 32 = .ok (.getfield 57, 3) := by decide +kernel
theorem d_Re_markKept_35 : decode b_Re_markKept 35 = .ok (.ifCond .eq 16, 3) := by decide +kernel
theorem d_Re_markKept_38 : decode b_Re_markKept 38 = .ok (.aload_n 0, 1) := by decide +kernel
theorem d_Re_markKept_39 : decode b_Re_markKept 39 = .ok (.aload_n 2, 1) := by decide +kernel
theorem d_Re_markKept_40 : decode b_Re_markKept 40 = .ok (.invokevirtual 60, 3) := by decide +kernel
theorem d_Re_markKept_43 : decode b_Re_markKept 43 = .ok (.aload_n 0, 1) := by decide +kernel
theorem d_Re_markKept_44 : decode b_Re_markKept 44 = .ok (.aload_n 2, 1) := by decide +kernel
theorem d_Re_markKept_45 : decode b_Re_markKept 45 = .ok (.getfield 64, 3) := by decide +kernel
theorem d_Re_markKept_48 : decode b_Re_markKept 48 = .ok (.invokevirtual 68, 3) := by decide +kernel
theorem d_Re_markKept_51 : decode b_Re_markKept 51 = .ok (.iinc 1 1, 3) := by decide +kernel
theorem d_Re_markKept_54 : decode b_Re_markKept 54 = .ok (.goto (-52), 3) := by decide +kernel
theorem d_Re_markKept_57 : decode b_Re_markKept 57 = .ok (.return_, 1) := by decide +kernel
theorem d_Re_markLive_0 : decode b_Re_markLive 0 = .ok (.aload_n 1, 1) := by decide +kernel
theorem d_Re_markLive_1 : decode b_Re_markLive 1 = .ok (.ifnull 20, 3) := by decide +kernel
theorem d_Re_markLive_4 : decode b_Re_markLive 4 = .ok (.aload_n 1, 1) := by decide +kernel
theorem d_Re_markLive_5 : decode b_Re_markLive 5 = .ok (.getfield 54, 3) := by decide +kernel
theorem d_Re_markLive_8 : decode b_Re_markLive 8 = .ok (.ifCond .ne 13, 3) := by decide +kernel
theorem d_Re_markLive_11 : decode b_Re_markLive 11 = .ok (.aload_n 1, 1) := by decide +kernel
theorem d_Re_markLive_12 : decode b_Re_markLive 12 = .ok (.iconst 1, 1) := by decide +kernel
theorem d_Re_markLive_13 : decode b_Re_markLive 13 = .ok (.putfield 54, 3) := by decide +kernel
theorem d_Re_markLive_16 : decode b_Re_markLive 16 = .ok (.aload_n 0, 1) := by decide +kernel
theorem d_Re_markLive_17 : decode b_Re_markLive 17 = .ok (.iconst 1, 1) := by decide +kernel
theorem d_Re_markLive_18 : decode b_Re_markLive 18 = .ok (.putfield 15, 3) := by decide +kernel
theorem d_Re_markLive_21 : decode b_Re_markLive 21 = .ok (.return_, 1) := by decide +kernel
theorem d_Re_markMade_0 : decode b_Re_markMade 0 = .ok (.aload_n 1, 1) := by decide +kernel
theorem d_Re_markMade_1 : decode b_Re_markMade 1 = .ok (.getfield 46, 3) := by decide +kernel
theorem d_Re_markMade_4 : decode b_Re_markMade 4 = .ok (.ifCond .ne 13, 3) := by decide +kernel
theorem d_Re_markMade_7 : decode b_Re_markMade 7 = .ok (.aload_n 1, 1) := by decide +kernel
theorem d_Re_markMade_8 : decode b_Re_markMade 8 = .ok (.iconst 1, 1) := by decide +kernel
theorem d_Re_markMade_9 : decode b_Re_markMade 9 = .ok (.putfield 46, 3) := by decide +kernel
theorem d_Re_markMade_12 : decode b_Re_markMade 12 = .ok (.aload_n 0, 1) := by decide +kernel
theorem d_Re_markMade_13 : decode b_Re_markMade 13 = .ok (.iconst 1, 1) := by decide +kernel
theorem d_Re_markMade_14 : decode b_Re_markMade 14 = .ok (.putfield 15, 3) := by decide +kernel
theorem d_Re_markMade_17 : decode b_Re_markMade 17 = .ok (.return_, 1) := by decide +kernel
theorem d_Re_spreadFromLive_0 : decode b_Re_spreadFromLive 0 = .ok (.iconst 0, 1) := by decide +kernel
theorem d_Re_spreadFromLive_1 : decode b_Re_spreadFromLive 1 = .ok (.istore_n 1, 1) := by decide +kernel
theorem d_Re_spreadFromLive_2 : decode b_Re_spreadFromLive 2 = .ok (.iload_n 1, 1) := by decide +kernel
theorem d_Re_spreadFromLive_3 : decode b_Re_spreadFromLive 3 = .ok (.aload_n 0, 1) := by decide +kernel
theorem d_Re_spreadFromLive_4 : decode b_Re_spreadFromLive 4 = .ok (.getfield 9, 3) := by decide +kernel
theorem d_Re_spreadFromLive_7 : decode b_Re_spreadFromLive 7 = .ok (.getfield 49, 3) := by decide +kernel
theorem d_Re_spreadFromLive_10 : decode b_Re_spreadFromLive 10 = .ok (.invokevirtual 34, 3) := by decide +kernel
theorem d_Re_spreadFromLive_13 : decode b_Re_spreadFromLive 13 = .ok (.if_icmp .ge 36, 3) := by decide +kernel
theorem d_Re_spreadFromLive_16 : decode b_Re_spreadFromLive 16 = .ok (.aload_n 0, 1) := by decide +kernel
theorem d_Re_spreadFromLive_17 : decode b_Re_spreadFromLive 17 = .ok (.getfield 9, 3) := by decide +kernel
theorem d_Re_spreadFromLive_20 : decode b_Re_spreadFromLive 20 = .ok (.getfield 49, 3) := by decide +kernel
theorem d_Re_spreadFromLive_23 : decode b_Re_spreadFromLive 23 = .ok (.iload_n 1, 1) := by decide +kernel
theorem d_Re_spreadFromLive_24 : decode b_Re_spreadFromLive 24 = .ok (.invokevirtual 40, 3) := by decide +kernel
theorem d_Re_spreadFromLive_27 : decode b_Re_spreadFromLive 27 = .ok (.checkcast 52, 3) := by decide +kernel
theorem d_Re_spreadFromLive_30 : decode b_Re_spreadFromLive 30 = .ok (.astore_n 2, 1) := by decide +kernel
theorem d_Re_spreadFromLive_31 : decode b_Re_spreadFromLive 31 = .ok (.aload_n 2, 1) := by decide +kernel
theorem d_Re_spreadFromLive_32 : decode b_Re_spreadFromLive 32 = .ok (.getfield 54, 3) := by decide +kernel
theorem d_Re_spreadFromLive_35 : decode b_Re_spreadFromLive 35 = .ok (.ifCond .eq 8, 3) := by decide +kernel
theorem d_Re_spreadFromLive_38 : decode b_Re_spreadFromLive 38 = .ok (.aload_n 0, 1) := by decide +kernel
theorem d_Re_spreadFromLive_39 : decode b_Re_spreadFromLive 39 = .ok (.aload_n 2, 1) := by decide +kernel
theorem d_Re_spreadFromLive_40 : decode b_Re_spreadFromLive 40 = .ok (.invokevirtual 72, 3) := by decide +kernel
theorem d_Re_spreadFromLive_43 : decode b_Re_spreadFromLive 43 = .ok (.iinc 1 1, 3) := by decide +kernel
theorem d_Re_spreadFromLive_46 : decode b_Re_spreadFromLive 46 = .ok (.goto (-44), 3) := by decide +kernel
theorem d_Re_spreadFromLive_49 : decode b_Re_spreadFromLive 49 = .ok (.return_, 1) := by decide +kernel
theorem d_Re_spread_0 : decode b_Re_spread 0 = .ok (.iconst 0, 1) := by decide +kernel
theorem d_Re_spread_1 : decode b_Re_spread 1 = .ok (.istore_n 2, 1) := by decide +kernel
theorem d_Re_spread_2 : decode b_Re_spread 2 = .ok (.iload_n 2, 1) := by decide +kernel
theorem d_Re_spread_3 : decode b_Re_spread 3 = .ok (.aload_n 1, 1) := by decide +kernel
theorem d_Re_spread_4 : decode b_Re_spread 4 = .ok (.getfield 75, 3) := by decide +kernel
theorem d_Re_spread_7 : decode b_Re_spread 7 = .ok (.invokevirtual 34, 3) := by decide +kernel
theorem d_Re_spread_10 : decode b_Re_spread 10 = .ok (.if_icmp .ge 75, 3) := by decide +kernel
theorem d_Re_spread_13 : decode b_Re_spread 13 = .ok (.aload_n 1, 1) := by decide +kernel
theorem d_Re_spread_14 : decode b_Re_spread 14 = .ok (.getfield 75, 3) := by decide +kernel
theorem d_Re_spread_17 : decode b_Re_spread 17 = .ok (.iload_n 2, 1) := by decide +kernel
theorem d_Re_spread_18 : decode b_Re_spread 18 = .ok (.invokevirtual 40, 3) := by decide +kernel
theorem d_Re_spread_21 : decode b_Re_spread 21 = .ok (.checkcast 78, 3) := by decide +kernel
theorem d_Re_spread_24 : decode b_Re_spread 24 = .ok (.astore_n 3, 1) := by decide +kernel
theorem d_Re_spread_25 : decode b_Re_spread 25 = .ok (.aload_n 3, 1) := by decide +kernel
theorem d_Re_spread_26 : decode b_Re_spread 26 = .ok (.getfield 80, 3) := by decide +kernel
theorem d_Re_spread_29 : decode b_Re_spread 29 = .ok (.ifnull 33, 3) := by decide +kernel
theorem d_Re_spread_32 : decode b_Re_spread 32 = .ok (.aload_n 0, 1) := by decide +kernel
theorem d_Re_spread_33 : decode b_Re_spread 33 = .ok (.aload_n 3, 1) := by decide +kernel
theorem d_Re_spread_34 : decode b_Re_spread 34 = .ok (.getfield 80, 3) := by decide +kernel
theorem d_Re_spread_37 : decode b_Re_spread 37 = .ok (.invokevirtual 68, 3) := by decide +kernel
theorem d_Re_spread_40 : decode b_Re_spread 40 = .ok (.aload_n 0, 1) := by decide +kernel
theorem d_Re_spread_41 : decode b_Re_spread 41 = .ok (.aload_n 3, 1) := by decide +kernel
theorem d_Re_spread_42 : decode b_Re_spread 42 = .ok (.getfield 80, 3) := by decide +kernel
theorem d_Re_spread_45 : decode b_Re_spread 45 = .ok (.aload_n 3, 1) := by decide +kernel
theorem d_Re_spread_46 : decode b_Re_spread 46 = .ok (.getfield 83, 3) := by decide +kernel
theorem d_Re_spread_49 : decode b_Re_spread 49 = .ok (.aload_n 3, 1) := by decide +kernel
theorem d_Re_spread_50 : decode b_Re_spread 50 = .ok (.getfield 87, 3) := by decide +kernel
theorem d_Re_spread_53 : decode b_Re_spread 53 = .ok (.invokevirtual 90, 3) := by decide +kernel
theorem d_Re_spread_56 : decode b_Re_spread 56 = .ok (.invokevirtual 60, 3) := by decide +kernel
theorem d_Re_spread_59 : decode b_Re_spread 59 = .ok (.goto 20, 3) := by decide +kernel
theorem d_Re_spread_62 : decode b_Re_spread 62 = .ok (.aload_n 3, 1) := by decide +kernel
theorem d_Re_spread_63 : decode b_Re_spread 63 = .ok (.getfield 94, 3) := by decide +kernel
theorem d_Re_spread_66 : decode b_Re_spread 66 = .ok (.iconst 2, 1) := by decide +kernel
theorem d_Re_spread_67 : decode b_Re_spread 67 = .ok (.if_icmp .ne 12, 3) := by decide +kernel
theorem d_Re_spread_70 : decode b_Re_spread 70 = .ok (.aload_n 0, 1) := by decide +kernel
theorem d_Re_spread_71 : decode b_Re_spread 71 = .ok (.aload_n 1, 1) := by decide +kernel
theorem d_Re_spread_72 : decode b_Re_spread 72 = .ok (.getfield 64, 3) := by decide +kernel
theorem d_Re_spread_75 : decode b_Re_spread 75 = .ok (.aload_n 3, 1) := by decide +kernel
theorem d_Re_spread_76 : decode b_Re_spread 76 = .ok (.invokevirtual 97, 3) := by decide +kernel
theorem d_Re_spread_79 : decode b_Re_spread 79 = .ok (.iinc 2 1, 3) := by decide +kernel
theorem d_Re_spread_82 : decode b_Re_spread 82 = .ok (.goto (-80), 3) := by decide +kernel
theorem d_Re_spread_85 : decode b_Re_spread 85 = .ok (.return_, 1) := by decide +kernel
theorem d_Pc_find_0 : decode b_Pc_find 0 = .ok (.aload_n 0, 1) := by decide +kernel
theorem d_Pc_find_1 : decode b_Pc_find 1 = .ok (.astore_n 3, 1) := by decide +kernel
theorem d_Pc_find_2 : decode b_Pc_find 2 = .ok (.aload_n 3, 1) := by decide +kernel
theorem d_Pc_find_3 : decode b_Pc_find 3 = .ok (.ifnull 27, 3) := by decide +kernel
theorem d_Pc_find_6 : decode b_Pc_find 6 = .ok (.aload_n 3, 1) := by decide +kernel
theorem d_Pc_find_7 : decode b_Pc_find 7 = .ok (.iload_n 1, 1) := by decide +kernel
theorem d_Pc_find_8 : decode b_Pc_find 8 = .ok (.iload_n 2, 1) := by decide +kernel
theorem d_Pc_find_9 : decode b_Pc_find 9 = .ok (.invokevirtual 47, 3) := by decide +kernel
theorem d_Pc_find_12 : decode b_Pc_find 12 = .ok (.astore 4, 2) := by decide +kernel
theorem d_Pc_find_14 : decode b_Pc_find 14 = .ok (.aload 4, 2) := by decide +kernel
theorem d_Pc_find_16 : decode b_Pc_find 16 = .ok (.ifnull 6, 3) := by decide +kernel
theorem d_Pc_find_19 : decode b_Pc_find 19 = .ok (.aload 4, 2) := by decide +kernel
theorem d_Pc_find_21 : decode b_Pc_find 21 = .ok (.areturn, 1) := by decide +kernel
theorem d_Pc_find_22 : decode b_Pc_find 22 = .ok (.aload_n 3, 1) := by decide +kernel
theorem d_Pc_find_23 : decode b_Pc_find 23 = .ok (.getfield 7, 3) := by decide +kernel
theorem d_Pc_find_26 : decode b_Pc_find 26 = .ok (.astore_n 3, 1) := by decide +kernel
theorem d_Pc_find_27 : decode b_Pc_find 27 = .ok (.goto (-25), 3) := by decide +kernel
theorem d_Pc_find_30 : decode b_Pc_find 30 = .ok (.aconst_null, 1) := by decide +kernel
theorem d_Pc_find_31 : decode b_Pc_find 31 = .ok (.areturn, 1) := by decide +kernel
theorem d_Pc_own_0 : decode b_Pc_own 0 = .ok (.iconst 0, 1) := by decide +kernel
theorem d_Pc_own_1 : decode b_Pc_own 1 = .ok (.istore_n 3, 1) := by decide +kernel
theorem d_Pc_own_2 : decode b_Pc_own 2 = .ok (.iload_n 3, 1) := by decide +kernel
theorem d_Pc_own_3 : decode b_Pc_own 3 = .ok (.aload_n 0, 1) := by decide +kernel
theorem d_Pc_own_4 : decode b_Pc_own 4 = .ok (.getfield 20, 3) := by decide +kernel
theorem d_Pc_own_7 : decode b_Pc_own 7 = .ok (.invokevirtual 31, 3) := by decide +kernel
theorem d_Pc_own_10 : decode b_Pc_own 10 = .ok (.if_icmp .ge 43, 3) := by decide +kernel
theorem d_Pc_own_13 : decode b_Pc_own 13 = .ok (.aload_n 0, 1) := by decide +kernel
theorem d_Pc_own_14 : decode b_Pc_own 14 = .ok (.getfield 20, 3) := by decide +kernel
theorem d_Pc_own_17 : decode b_Pc_own 17 = .ok (.iload_n 3, 1) := by decide +kernel
theorem d_Pc_own_18 : decode b_Pc_own 18 = .ok (.invokevirtual 35, 3) := by decide +kernel
theorem d_Pc_own_21 : decode b_Pc_own 21 = .ok (.checkcast 39, 3) := by decide +kernel
theorem d_Pc_own_24 : decode b_Pc_own 24 = .ok (.astore 4, 2) := by decide +kernel
theorem d_Pc_own_26 : decode b_Pc_own 26 = .ok (.aload 4, 2) := by decide +kernel
theorem d_Pc_own_28 : decode b_Pc_own 28 = .ok (.getfield 41, 3) := by decide +kernel
theorem d_Pc_own_31 : decode b_Pc_own 31 = .ok (.iload_n 1, 1) := by decide +kernel
theorem d_Pc_own_32 : decode b_Pc_own 32 = .ok (.if_icmp .ne 15, 3) := by decide +kernel
theorem d_Pc_own_35 : decode b_Pc_own 35 = .ok (.aload 4, 2) := by decide +kernel
theorem d_Pc_own_37 : decode b_Pc_own 37 = .ok (.getfield 44, 3) := by decide +kernel
theorem d_Pc_own_40 : decode b_Pc_own 40 = .ok (.iload_n 2, 1) := by decide +kernel
theorem d_Pc_own_41 : decode b_Pc_own 41 = .ok (.if_icmp .ne 6, 3) := by decide +kernel
theorem d_Pc_own_44 : decode b_Pc_own 44 = .ok (.aload 4, 2) := by decide +kernel
theorem d_Pc_own_46 : decode b_Pc_own 46 = .ok (.areturn, 1) := by decide +kernel
theorem d_Pc_own_47 : decode b_Pc_own 47 = .ok (.iinc 3 1, 3) := by decide +kernel
theorem d_Pc_own_50 : decode b_Pc_own 50 = .ok (.goto (-48), 3) := by decide +kernel
theorem d_Pc_own_53 : decode b_Pc_own 53 = .ok (.aconst_null, 1) := by decide +kernel
theorem d_Pc_own_54 : decode b_Pc_own 54 = .ok (.areturn, 1) := by decide +kernel
theorem d_Re_spreadSelf_0 : decode b_Re_spreadSelf 0 = .ok (.iconst 0, 1) := by decide +kernel
theorem d_Re_spreadSelf_1 : decode b_Re_spreadSelf 1 = .ok (.istore_n 3, 1) := by decide +kernel
theorem d_Re_spreadSelf_2 : decode b_Re_spreadSelf 2 = .ok (.iload_n 3, 1) := by decide +kernel
theorem d_Re_spreadSelf_3 : decode b_Re_spreadSelf 3 = .ok (.aload_n 0, 1) := by decide +kernel
theorem d_Re_spreadSelf_4 : decode b_Re_spreadSelf 4 = .ok (.getfield 9, 3) := by decide +kernel
theorem d_Re_spreadSelf_7 : decode b_Re_spreadSelf 7 = .ok (.getfield 28, 3) := by decide +kernel
theorem d_Re_spreadSelf_10 : decode b_Re_spreadSelf 10 = .ok (.invokevirtual 34, 3) := by decide +kernel
theorem d_Re_spreadSelf_13 : decode b_Re_spreadSelf 13 = .ok (.if_icmp .ge 59, 3) := by decide +kernel
theorem d_Re_spreadSelf_16 : decode b_Re_spreadSelf 16 = .ok (.aload_n 0, 1) := by decide +kernel
theorem d_Re_spreadSelf_17 : decode b_Re_spreadSelf 17 = .ok (.getfield 9, 3) := by decide +kernel
theorem d_Re_spreadSelf_20 : decode b_Re_spreadSelf 20 = .ok (.getfield 28, 3) := by decide +kernel
theorem d_Re_spreadSelf_23 : decode b_Re_spreadSelf 23 = .ok (.iload_n 3, 1) := by decide +kernel
theorem d_Re_spreadSelf_24 : decode b_Re_spreadSelf 24 = .ok (.invokevirtual 40, 3) := by decide +kernel
theorem d_Re_spreadSelf_27 : decode b_Re_spreadSelf 27 = .ok (.checkcast 44, 3) := by decide +kernel
theorem d_Re_spreadSelf_30 : decode b_Re_spreadSelf 30 = .ok (.astore 4, 2) := by decide +kernel
theorem d_Re_spreadSelf_32 : decode b_Re_spreadSelf 32 = .ok (.aload 4, 2) := by decide +kernel
theorem d_Re_spreadSelf_34 : decode b_Re_spreadSelf 34 = .ok (.getfield 46, 3) := by decide +kernel
theorem d_Re_spreadSelf_37 : decode b_Re_spreadSelf 37 = .ok (.ifCond .eq 29, 3) := by decide +kernel
theorem d_Re_spreadSelf_40 : decode b_Re_spreadSelf 40 = .ok (.aload 4, 2) := by decide +kernel
theorem d_Re_spreadSelf_42 : decode b_Re_spreadSelf 42 = .ok (.aload_n 1, 1) := by decide +kernel
theorem d_Re_spreadSelf_43 : decode b_Re_spreadSelf 43 = .ok (.invokevirtual 101, 3) := by decide +kernel
theorem d_Re_spreadSelf_46 : decode b_Re_spreadSelf 46 = .ok (.ifCond .eq 20, 3) := by decide +kernel
theorem d_Re_spreadSelf_49 : decode b_Re_spreadSelf 49 = .ok (.aload_n 0, 1) := by decide +kernel
theorem d_Re_spreadSelf_50 : decode b_Re_spreadSelf 50 = .ok (.aload 4, 2) := by decide +kernel
theorem d_Re_spreadSelf_52 : decode b_Re_spreadSelf 52 = .ok (.aload_n 2, 1) := by decide +kernel
theorem d_Re_spreadSelf_53 : decode b_Re_spreadSelf 53 = .ok (.getfield 83, 3) := by decide +kernel
theorem d_Re_spreadSelf_56 : decode b_Re_spreadSelf 56 = .ok (.aload_n 2, 1) := by decide +kernel
theorem d_Re_spreadSelf_57 : decode b_Re_spreadSelf 57 = .ok (.getfield 87, 3) := by decide +kernel
theorem d_Re_spreadSelf_60 : decode b_Re_spreadSelf 60 = .ok (.invokevirtual 90, 3) := by decide +kernel
theorem d_Re_spreadSelf_63 : decode b_Re_spreadSelf 63 = .ok (.invokevirtual 60, 3) := by decide +kernel
theorem d_Re_spreadSelf_66 : decode b_Re_spreadSelf 66 = .ok (.iinc 3 1, 3) := by decide +kernel
theorem d_Re_spreadSelf_69 : decode b_Re_spreadSelf 69 = .ok (.goto (-67), 3) := by decide +kernel
theorem d_Re_spreadSelf_72 : decode b_Re_spreadSelf 72 = .ok (.return_, 1) := by decide +kernel
theorem d_Pc_isOrIsBelow_0 : decode b_Pc_isOrIsBelow 0 = .ok (.aload_n 0, 1) := by decide +kernel
theorem d_Pc_isOrIsBelow_1 : decode b_Pc_isOrIsBelow 1 = .ok (.astore_n 2, 1) := by decide +kernel
theorem d_Pc_isOrIsBelow_2 : decode b_Pc_isOrIsBelow 2 = .ok (.aload_n 2, 1) := by decide +kernel
theorem d_Pc_isOrIsBelow_3 : decode b_Pc_isOrIsBelow 3 = .ok (.ifnull 18, 3) := by decide +kernel
theorem d_Pc_isOrIsBelow_6 : decode b_Pc_isOrIsBelow 6 = .ok (.aload_n 2, 1) := by decide +kernel
theorem d_Pc_isOrIsBelow_7 : decode b_Pc_isOrIsBelow 7 = .ok (.aload_n 1, 1) := by decide +kernel
theorem d_Pc_isOrIsBelow_8 : decode b_Pc_isOrIsBelow 8 = .ok (.if_acmp .ne 5, 3) := by decide +kernel
theorem d_Pc_isOrIsBelow_11 : decode b_Pc_isOrIsBelow 11 = .ok (.iconst 1, 1) := by decide +kernel
theorem d_Pc_isOrIsBelow_12 : decode b_Pc_isOrIsBelow 12 = .ok (.ireturn, 1) := by decide +kernel
theorem d_Pc_isOrIsBelow_13 : decode b_Pc_isOrIsBelow 13 = .ok (.aload_n 2, 1) := by decide +kernel
theorem d_Pc_isOrIsBelow_14 : decode b_Pc_isOrIsBelow 14 = .ok (.getfield 7, 3) := by decide +kernel
theorem d_Pc_isOrIsBelow_17 : decode b_Pc_isOrIsBelow 17 = .ok (.astore_n 2, 1) := by decide +kernel
theorem d_Pc_isOrIsBelow_18 : decode b_Pc_isOrIsBelow 18 = .ok (.goto (-16), 3) := by decide +kernel
theorem d_Pc_isOrIsBelow_21 : decode b_Pc_isOrIsBelow 21 = .ok (.iconst 0, 1) := by decide +kernel
theorem d_Pc_isOrIsBelow_22 : decode b_Pc_isOrIsBelow 22 = .ok (.ireturn, 1) := by decide +kernel
theorem d_Pr_dropUnreached_0 : decode b_Pr_dropUnreached 0 = .ok (.aload_n 0, 1) := by decide +kernel
theorem d_Pr_dropUnreached_1 : decode b_Pr_dropUnreached 1 = .ok (.getfield 16, 3) := by decide +kernel
theorem d_Pr_dropUnreached_4 : decode b_Pr_dropUnreached 4 = .ok (.invokestatic 38, 3) := by decide +kernel
theorem d_Pr_dropUnreached_7 : decode b_Pr_dropUnreached 7 = .ok (.aload_n 0, 1) := by decide +kernel
theorem d_Pr_dropUnreached_8 : decode b_Pr_dropUnreached 8 = .ok (.getfield 10, 3) := by decide +kernel
theorem d_Pr_dropUnreached_11 : decode b_Pr_dropUnreached 11 = .ok (.invokevirtual 19, 3) := by decide +kernel
theorem d_Pr_dropUnreached_14 : decode b_Pr_dropUnreached 14 = .ok (.iconst 1, 1) := by decide +kernel
theorem d_Pr_dropUnreached_15 : decode b_Pr_dropUnreached 15 = .ok (.isub, 1) := by decide +kernel
theorem d_Pr_dropUnreached_16 : decode b_Pr_dropUnreached 16 = .ok (.istore_n 1, 1) := by decide +kernel
theorem d_Pr_dropUnreached_17 : decode b_Pr_dropUnreached 17 = .ok (.iload_n 1, 1) := by decide +kernel
theorem d_Pr_dropUnreached_18 : decode b_Pr_dropUnreached 18 = .ok (.ifCond .lt 45, 3) := by decide +kernel
theorem d_Pr_dropUnreached_21 : decode b_Pr_dropUnreached 21 = .ok (.aload_n 0, 1) := by decide +kernel
theorem d_Pr_dropUnreached_22 : decode b_Pr_dropUnreached 22 = .ok (.getfield 10, 3) := by decide +kernel
theorem d_Pr_dropUnreached_25 : decode b_Pr_dropUnreached 25 = .ok (.iload_n 1, 1) := by decide +kernel
theorem d_Pr_dropUnreached_26 : decode b_Pr_dropUnreached 26 = .ok (.invokevirtual 23, 3) := by decide +kernel
theorem d_Pr_dropUnreached_29 : decode b_Pr_dropUnreached 29 = .ok (.checkcast 33, 3) := by decide +kernel
theorem d_Pr_dropUnreached_32 : decode b_Pr_dropUnreached 32 = .ok (.astore_n 2, 1) := by decide +kernel
theorem d_Pr_dropUnreached_33 : decode b_Pr_dropUnreached 33 = .ok (.aload_n 2, 1) := by decide +kernel
theorem d_Pr_dropUnreached_34 : decode b_Pr_dropUnreached 34 = .ok (.getfield 42, 3) := by decide +kernel
theorem d_Pr_dropUnreached_37 : decode b_Pr_dropUnreached 37 = .ok (.invokestatic 38, 3) := by decide +kernel
theorem d_Pr_dropUnreached_40 : decode b_Pr_dropUnreached 40 = .ok (.aload_n 0, 1) := by decide +kernel
theorem d_Pr_dropUnreached_41 : decode b_Pr_dropUnreached 41 = .ok (.aload_n 2, 1) := by decide +kernel
theorem d_Pr_dropUnreached_42 : decode b_Pr_dropUnreached 42 = .ok (.invokevirtual 43, 3) := by decide +kernel
theorem d_Pr_dropUnreached_45 : decode b_Pr_dropUnreached 45 = .ok (.ifCond .ne 12, 3) := by decide +kernel
theorem d_Pr_dropUnreached_48 : decode b_Pr_dropUnreached 48 = .ok (.aload_n 0, 1) := by decide +kernel
theorem d_Pr_dropUnreached_49 : decode b_Pr_dropUnreached 49 = .ok (.getfield 10, 3) := by decide +kernel
theorem d_Pr_dropUnreached_52 : decode b_Pr_dropUnreached 52 = .ok (.iload_n 1, 1) := by decide +kernel
theorem d_Pr_dropUnreached_53 : decode b_Pr_dropUnreached 53 = .ok (.invokevirtual 47, 3) := by decide +kernel
theorem d_Pr_dropUnreached_56 : decode b_Pr_dropUnreached 56 = .ok (.pop, 1) := by decide +kernel
theorem d_Pr_dropUnreached_57 : decode b_Pr_dropUnreached 57 = .ok (.iinc 1 (-1), 3) := by decide +kernel
theorem d_Pr_dropUnreached_60 : decode b_Pr_dropUnreached 60 = .ok (.goto (-43), 3) := by decide +kernel
theorem d_Pr_dropUnreached_63 : decode b_Pr_dropUnreached 63 = .ok (.iconst 0, 1) := by decide +kernel
theorem d_Pr_dropUnreached_64 : decode b_Pr_dropUnreached 64 = .ok (.istore_n 1, 1) := by decide +kernel
theorem d_Pr_dropUnreached_65 : decode b_Pr_dropUnreached 65 = .ok (.iload_n 1, 1) := by decide +kernel
theorem d_Pr_dropUnreached_66 : decode b_Pr_dropUnreached 66 = .ok (.aload_n 0, 1) := by decide +kernel
theorem d_Pr_dropUnreached_67 : decode b_Pr_dropUnreached 67 = .ok (.getfield 10, 3) := by decide +kernel
theorem d_Pr_dropUnreached_70 : decode b_Pr_dropUnreached 70 = .ok (.invokevirtual 19, 3) := by decide +kernel
theorem d_Pr_dropUnreached_73 : decode b_Pr_dropUnreached 73 = .ok (.if_icmp .ge 24, 3) := by decide +kernel
theorem d_Pr_dropUnreached_76 : decode b_Pr_dropUnreached 76 = .ok (.aload_n 0, 1) := by decide +kernel
theorem d_Pr_dropUnreached_77 : decode b_Pr_dropUnreached 77 = .ok (.getfield 10, 3) := by decide +kernel
theorem d_Pr_dropUnreached_80 : decode b_Pr_dropUnreached 80 = .ok (.iload_n 1, 1) := by decide +kernel
theorem d_Pr_dropUnreached_81 : decode b_Pr_dropUnreached 81 = .ok (.invokevirtual 23, 3) := by decide +kernel
theorem d_Pr_dropUnreached_84 : decode b_Pr_dropUnreached 84 = .ok (.checkcast 33, 3) := by decide +kernel
theorem d_Pr_dropUnreached_87 : decode b_Pr_dropUnreached 87 = .ok (.iload_n 1, 1) := by decide +kernel
theorem d_Pr_dropUnreached_88 : decode b_Pr_dropUnreached 88 = .ok (.putfield 50, 3) := by decide +kernel
theorem d_Pr_dropUnreached_91 : decode b_Pr_dropUnreached 91 = .ok (.iinc 1 1, 3) := by decide +kernel
theorem d_Pr_dropUnreached_94 : decode b_Pr_dropUnreached 94 = .ok (.goto (-29), 3) := by decide +kernel
theorem d_Pr_dropUnreached_97 : decode b_Pr_dropUnreached 97 = .ok (.return_, 1) := by decide +kernel
theorem d_Pr_dropDead_0 : decode b_Pr_dropDead 0 = .ok (.aload_n 0, 1) := by decide +kernel
theorem d_Pr_dropDead_1 : decode b_Pr_dropDead 1 = .ok (.invokevirtual 19, 3) := by decide +kernel
theorem d_Pr_dropDead_4 : decode b_Pr_dropDead 4 = .ok (.iconst 1, 1) := by decide +kernel
theorem d_Pr_dropDead_5 : decode b_Pr_dropDead 5 = .ok (.isub, 1) := by decide +kernel
theorem d_Pr_dropDead_6 : decode b_Pr_dropDead 6 = .ok (.istore_n 1, 1) := by decide +kernel
theorem d_Pr_dropDead_7 : decode b_Pr_dropDead 7 = .ok (.iload_n 1, 1) := by decide +kernel
theorem d_Pr_dropDead_8 : decode b_Pr_dropDead 8 = .ok (.ifCond .lt 29, 3) := by decide +kernel
theorem d_Pr_dropDead_11 : decode b_Pr_dropDead 11 = .ok (.aload_n 0, 1) := by decide +kernel
theorem d_Pr_dropDead_12 : decode b_Pr_dropDead 12 = .ok (.iload_n 1, 1) := by decide +kernel
theorem d_Pr_dropDead_13 : decode b_Pr_dropDead 13 = .ok (.invokevirtual 23, 3) := by decide +kernel
theorem d_Pr_dropDead_16 : decode b_Pr_dropDead 16 = .ok (.checkcast 27, 3) := by decide +kernel
theorem d_Pr_dropDead_19 : decode b_Pr_dropDead 19 = .ok (.getfield 29, 3) := by decide +kernel
theorem d_Pr_dropDead_22 : decode b_Pr_dropDead 22 = .ok (.ifCond .ne 9, 3) := by decide +kernel
theorem d_Pr_dropDead_25 : decode b_Pr_dropDead 25 = .ok (.aload_n 0, 1) := by decide +kernel
theorem d_Pr_dropDead_26 : decode b_Pr_dropDead 26 = .ok (.iload_n 1, 1) := by decide +kernel
theorem d_Pr_dropDead_27 : decode b_Pr_dropDead 27 = .ok (.invokevirtual 47, 3) := by decide +kernel
theorem d_Pr_dropDead_30 : decode b_Pr_dropDead 30 = .ok (.pop, 1) := by decide +kernel
theorem d_Pr_dropDead_31 : decode b_Pr_dropDead 31 = .ok (.iinc 1 (-1), 3) := by decide +kernel
theorem d_Pr_dropDead_34 : decode b_Pr_dropDead 34 = .ok (.goto (-27), 3) := by decide +kernel
theorem d_Pr_dropDead_37 : decode b_Pr_dropDead 37 = .ok (.return_, 1) := by decide +kernel
theorem d_Al_remove_0 : decode b_Al_remove 0 = .ok (.iload_n 1, 1) := by decide +kernel
theorem d_Al_remove_1 : decode b_Al_remove 1 = .ok (.aload_n 0, 1) := by decide +kernel
theorem d_Al_remove_2 : decode b_Al_remove 2 = .ok (.getfield 48, 3) := by decide +kernel
theorem d_Al_remove_5 : decode b_Al_remove 5 = .ok (.invokestatic 118, 3) := by decide +kernel
theorem d_Al_remove_8 : decode b_Al_remove 8 = .ok (.pop, 1) := by decide +kernel
theorem d_Al_remove_9 : decode b_Al_remove 9 = .ok (.aload_n 0, 1) := by decide +kernel
theorem d_Al_remove_10 : decode b_Al_remove 10 = .ok (.getfield 9, 3) := by decide +kernel
theorem d_Al_remove_13 : decode b_Al_remove 13 = .ok (.astore_n 2, 1) := by decide +kernel
theorem d_Al_remove_14 : decode b_Al_remove 14 = .ok (.aload_n 2, 1) := by decide +kernel
theorem d_Al_remove_15 : decode b_Al_remove 15 = .ok (.iload_n 1, 1) := by decide +kernel
theorem d_Al_remove_16 : decode b_Al_remove 16 = .ok (.aaload, 1) := by decide +kernel
theorem d_Al_remove_17 : decode b_Al_remove 17 = .ok (.astore_n 3, 1) := by decide +kernel
theorem d_Al_remove_18 : decode b_Al_remove 18 = .ok (.aload_n 0, 1) := by decide +kernel
theorem d_Al_remove_19 : decode b_Al_remove 19 = .ok (.aload_n 2, 1) := by decide +kernel
theorem d_Al_remove_20 : decode b_Al_remove 20 = .ok (.iload_n 1, 1) := by decide +kernel
theorem d_Al_remove_21 : decode b_Al_remove 21 = .ok (.invokevirtual 144, 3) := by decide +kernel
theorem d_Al_remove_24 : decode b_Al_remove 24 = .ok (.aload_n 3, 1) := by decide +kernel
theorem d_Al_remove_25 : decode b_Al_remove 25 = .ok (.areturn, 1) := by decide +kernel
theorem d_Al_fastRemove_0 : decode b_Al_fastRemove 0 = .ok (.aload_n 0, 1) := by decide +kernel
theorem d_Al_fastRemove_1 : decode b_Al_fastRemove 1 = .ok (.dup, 1) := by decide +kernel
theorem d_Al_fastRemove_2 : decode b_Al_fastRemove 2 = .ok (.getfield 63, 3) := by decide +kernel
theorem d_Al_fastRemove_5 : decode b_Al_fastRemove 5 = .ok (.iconst 1, 1) := by decide +kernel
theorem d_Al_fastRemove_6 : decode b_Al_fastRemove 6 = .ok (.iadd, 1) := by decide +kernel
theorem d_Al_fastRemove_7 : decode b_Al_fastRemove 7 = .ok (.putfield 63, 3) := by decide +kernel
theorem d_Al_fastRemove_10 : decode b_Al_fastRemove 10 = .ok (.aload_n 0, 1) := by decide +kernel
theorem d_Al_fastRemove_11 : decode b_Al_fastRemove 11 = .ok (.getfield 48, 3) := by decide +kernel
theorem d_Al_fastRemove_14 : decode b_Al_fastRemove 14 = .ok (.iconst 1, 1) := by decide +kernel
theorem d_Al_fastRemove_15 : decode b_Al_fastRemove 15 = .ok (.isub, 1) := by decide +kernel
theorem d_Al_fastRemove_16 : decode b_Al_fastRemove 16 = .ok (.dup, 1) := by decide +kernel
theorem d_Al_fastRemove_17 : decode b_Al_fastRemove 17 = .ok (.istore_n 3, 1) := by decide +kernel
theorem d_Al_fastRemove_18 : decode b_Al_fastRemove 18 = .ok (.iload_n 2, 1) := by decide +kernel
theorem d_Al_fastRemove_19 : decode b_Al_fastRemove 19 = .ok (.if_icmp .le 15, 3) := by decide +kernel
theorem d_Al_fastRemove_22 : decode b_Al_fastRemove 22 = .ok (.aload_n 1, 1) := by decide +kernel
theorem d_Al_fastRemove_23 : decode b_Al_fastRemove 23 = .ok (.iload_n 2, 1) := by decide +kernel
theorem d_Al_fastRemove_24 : decode b_Al_fastRemove 24 = .ok (.iconst 1, 1) := by decide +kernel
theorem d_Al_fastRemove_25 : decode b_Al_fastRemove 25 = .ok (.iadd, 1) := by decide +kernel
theorem d_Al_fastRemove_26 : decode b_Al_fastRemove 26 = .ok (.aload_n 1, 1) := by decide +kernel
theorem d_Al_fastRemove_27 : decode b_Al_fastRemove 27 = .ok (.iload_n 2, 1) := by decide +kernel
theorem d_Al_fastRemove_28 : decode b_Al_fastRemove 28 = .ok (.iload_n 3, 1) := by decide +kernel
theorem d_Al_fastRemove_29 : decode b_Al_fastRemove 29 = .ok (.iload_n 2, 1) := by decide +kernel
theorem d_Al_fastRemove_30 : decode b_Al_fastRemove 30 = .ok (.isub, 1) := by decide +kernel
theorem d_Al_fastRemove_31 : decode b_Al_fastRemove 31 = .ok (.invokestatic 112, 3) := by decide +kernel
theorem d_Al_fastRemove_34 : decode b_Al_fastRemove 34 = .ok (.aload_n 1, 1) := by decide +kernel
theorem d_Al_fastRemove_35 : decode b_Al_fastRemove 35 = .ok (.aload_n 0, 1) := by decide +kernel
theorem d_Al_fastRemove_36 : decode b_Al_fastRemove 36 = .ok (.iload_n 3, 1) := by decide +kernel
theorem d_Al_fastRemove_37 : decode b_Al_fastRemove 37 = .ok (.dup_x1, 1) := by decide +kernel
theorem d_Al_fastRemove_38 : decode b_Al_fastRemove 38 = .ok (.putfield 48, 3) := by decide +kernel
theorem d_Al_fastRemove_41 : decode b_Al_fastRemove 41 = .ok (.aconst_null, 1) := by decide +kernel
theorem d_Al_fastRemove_42 : decode b_Al_fastRemove 42 = .ok (.aastore, 1) := by decide +kernel
theorem d_Al_fastRemove_43 : decode b_Al_fastRemove 43 = .ok (.return_, 1) := by decide +kernel
theorem d_Pr_isMadeOrAboveMade_0 : decode b_Pr_isMadeOrAboveMade 0 = .ok (.iconst 0, 1) := by decide +kernel
theorem d_Pr_isMadeOrAboveMade_1 : decode b_Pr_isMadeOrAboveMade 1 = .ok (.istore_n 2, 1) := by decide +kernel
theorem d_Pr_isMadeOrAboveMade_2 : decode b_Pr_isMadeOrAboveMade 2 = .ok (.iload_n 2, 1) := by decide +kernel
theorem d_Pr_isMadeOrAboveMade_3 : decode b_Pr_isMadeOrAboveMade 3 = .ok (.aload_n 0, 1) := by decide +kernel
theorem d_Pr_isMadeOrAboveMade_4 : decode b_Pr_isMadeOrAboveMade 4 = .ok (.getfield 10, 3) := by decide +kernel
theorem d_Pr_isMadeOrAboveMade_7 : decode b_Pr_isMadeOrAboveMade 7 = .ok (.invokevirtual 19, 3) := by decide +kernel
theorem d_Pr_isMadeOrAboveMade_10 : decode b_Pr_isMadeOrAboveMade 10 = .ok (.if_icmp .ge 38, 3) := by decide +kernel
theorem d_Pr_isMadeOrAboveMade_13 : decode b_Pr_isMadeOrAboveMade 13 = .ok (.aload_n 0, 1) := by decide +kernel
theorem d_Pr_isMadeOrAboveMade_14 : decode b_Pr_isMadeOrAboveMade 14 = .ok (.getfield 10, 3) := by decide +kernel
theorem d_Pr_isMadeOrAboveMade_17 : decode b_Pr_isMadeOrAboveMade 17 = .ok (.iload_n 2, 1) := by decide +kernel
theorem d_Pr_isMadeOrAboveMade_18 : decode b_Pr_isMadeOrAboveMade 18 = .ok (.invokevirtual 23, 3) := by decide +kernel
theorem d_Pr_isMadeOrAboveMade_21 : decode b_Pr_isMadeOrAboveMade 21 = .ok (.checkcast 33, 3) := by decide +kernel
theorem d_Pr_isMadeOrAboveMade_24 : decode b_Pr_isMadeOrAboveMade 24 = .ok (.astore_n 3, 1) := by decide +kernel
theorem d_Pr_isMadeOrAboveMade_25 : decode b_Pr_isMadeOrAboveMade 25 = .ok (.aload_n 3, 1) := by decide +kernel
theorem d_Pr_isMadeOrAboveMade_26 : decode b_Pr_isMadeOrAboveMade 26 = .ok (.getfield 35, 3) := by decide +kernel
theorem d_Pr_isMadeOrAboveMade_29 : decode b_Pr_isMadeOrAboveMade 29 = .ok (.ifCond .eq 13, 3) := by decide +kernel
theorem d_Pr_isMadeOrAboveMade_32 : decode b_Pr_isMadeOrAboveMade 32 = .ok (.aload_n 3, 1) := by decide +kernel
theorem d_Pr_isMadeOrAboveMade_33 : decode b_Pr_isMadeOrAboveMade 33 = .ok (.aload_n 1, 1) := by decide +kernel
theorem d_Pr_isMadeOrAboveMade_34 : decode b_Pr_isMadeOrAboveMade 34 = .ok (.invokevirtual 54, 3) := by decide +kernel
theorem d_Pr_isMadeOrAboveMade_37 : decode b_Pr_isMadeOrAboveMade 37 = .ok (.ifCond .eq 5, 3) := by decide +kernel
theorem d_Pr_isMadeOrAboveMade_40 : decode b_Pr_isMadeOrAboveMade 40 = .ok (.iconst 1, 1) := by decide +kernel
theorem d_Pr_isMadeOrAboveMade_41 : decode b_Pr_isMadeOrAboveMade 41 = .ok (.ireturn, 1) := by decide +kernel
theorem d_Pr_isMadeOrAboveMade_42 : decode b_Pr_isMadeOrAboveMade 42 = .ok (.iinc 2 1, 3) := by decide +kernel
theorem d_Pr_isMadeOrAboveMade_45 : decode b_Pr_isMadeOrAboveMade 45 = .ok (.goto (-43), 3) := by decide +kernel
theorem d_Pr_isMadeOrAboveMade_48 : decode b_Pr_isMadeOrAboveMade 48 = .ok (.iconst 0, 1) := by decide +kernel
theorem d_Pr_isMadeOrAboveMade_49 : decode b_Pr_isMadeOrAboveMade 49 = .ok (.ireturn, 1) := by decide +kernel
theorem d_Ma_min_0 : decode b_Ma_min 0 = .ok (.iload_n 0, 1) := by decide +kernel
theorem d_Ma_min_1 : decode b_Ma_min 1 = .ok (.iload_n 1, 1) := by decide +kernel
theorem d_Ma_min_2 : decode b_Ma_min 2 = .ok (.if_icmp .gt 7, 3) := by decide +kernel
theorem d_Ma_min_5 : decode b_Ma_min 5 = .ok (.iload_n 0, 1) := by decide +kernel
theorem d_Ma_min_6 : decode b_Ma_min 6 = .ok (.goto 4, 3) := by decide +kernel
theorem d_Ma_min_9 : decode b_Ma_min 9 = .ok (.iload_n 1, 1) := by decide +kernel
theorem d_Ma_min_10 : decode b_Ma_min 10 = .ok (.ireturn, 1) := by decide +kernel
theorem d_Pc_isRelatedTo_0 : decode b_Pc_isRelatedTo 0 = .ok (.aload_n 0, 1) := by decide +kernel
theorem d_Pc_isRelatedTo_1 : decode b_Pc_isRelatedTo 1 = .ok (.aload_n 1, 1) := by decide +kernel
theorem d_Pc_isRelatedTo_2 : decode b_Pc_isRelatedTo 2 = .ok (.invokevirtual 51, 3) := by decide +kernel
theorem d_Pc_isRelatedTo_5 : decode b_Pc_isRelatedTo 5 = .ok (.ifCond .ne 11, 3) := by decide +kernel
theorem d_Pc_isRelatedTo_8 : decode b_Pc_isRelatedTo 8 = .ok (.aload_n 1, 1) := by decide +kernel
theorem d_Pc_isRelatedTo_9 : decode b_Pc_isRelatedTo 9 = .ok (.aload_n 0, 1) := by decide +kernel
theorem d_Pc_isRelatedTo_10 : decode b_Pc_isRelatedTo 10 = .ok (.invokevirtual 51, 3) := by decide +kernel
theorem d_Pc_isRelatedTo_13 : decode b_Pc_isRelatedTo 13 = .ok (.ifCond .eq 7, 3) := by decide +kernel
theorem d_Pc_isRelatedTo_16 : decode b_Pc_isRelatedTo 16 = .ok (.iconst 1, 1) := by decide +kernel
theorem d_Pc_isRelatedTo_17 : decode b_Pc_isRelatedTo 17 = .ok (.goto 4, 3) := by decide +kernel
theorem d_Pc_isRelatedTo_20 : decode b_Pc_isRelatedTo 20 = .ok (.iconst 0, 1) := by decide +kernel
theorem d_Pc_isRelatedTo_21 : decode b_Pc_isRelatedTo 21 = .ok (.ireturn, 1) := by decide +kernel
theorem d_Pr_liveMethods_0 : decode b_Pr_liveMethods 0 = .ok (.iconst 0, 1) := by decide +kernel
theorem d_Pr_liveMethods_1 : decode b_Pr_liveMethods 1 = .ok (.istore_n 1, 1) := by decide +kernel
theorem d_Pr_liveMethods_2 : decode b_Pr_liveMethods 2 = .ok (.iconst 0, 1) := by decide +kernel
theorem d_Pr_liveMethods_3 : decode b_Pr_liveMethods 3 = .ok (.istore_n 2, 1) := by decide +kernel
theorem d_Pr_liveMethods_4 : decode b_Pr_liveMethods 4 = .ok (.iload_n 2, 1) := by decide +kernel
theorem d_Pr_liveMethods_5 : decode b_Pr_liveMethods 5 = .ok (.aload_n 0, 1) := by decide +kernel
theorem d_Pr_liveMethods_6 : decode b_Pr_liveMethods 6 = .ok (.getfield 16, 3) := by decide +kernel
theorem d_Pr_liveMethods_9 : decode b_Pr_liveMethods 9 = .ok (.invokevirtual 19, 3) := by decide +kernel
theorem d_Pr_liveMethods_12 : decode b_Pr_liveMethods 12 = .ok (.if_icmp .ge 29, 3) := by decide +kernel
theorem d_Pr_liveMethods_15 : decode b_Pr_liveMethods 15 = .ok (.aload_n 0, 1) := by decide +kernel
theorem d_Pr_liveMethods_16 : decode b_Pr_liveMethods 16 = .ok (.getfield 16, 3) := by decide +kernel
theorem d_Pr_liveMethods_19 : decode b_Pr_liveMethods 19 = .ok (.iload_n 2, 1) := by decide +kernel
theorem d_Pr_liveMethods_20 : decode b_Pr_liveMethods 20 = .ok (.invokevirtual 23, 3) := by decide +kernel
theorem d_Pr_liveMethods_23 : decode b_Pr_liveMethods 23 = .ok (.checkcast 27, 3) := by decide +kernel
theorem d_Pr_liveMethods_26 : decode b_Pr_liveMethods 26 = .ok (.getfield 29, 3) := by decide +kernel
theorem d_Pr_liveMethods_29 : decode b_Pr_liveMethods 29 = .ok (.ifCond .eq 6, 3) := by decide +kernel
theorem d_Pr_liveMethods_32 : decode b_Pr_liveMethods 32 = .ok (.iinc 1 1, 3) := by decide +kernel
theorem d_Pr_liveMethods_35 : decode b_Pr_liveMethods 35 = .ok (.iinc 2 1, 3) := by decide +kernel
theorem d_Pr_liveMethods_38 : decode b_Pr_liveMethods 38 = .ok (.goto (-34), 3) := by decide +kernel
theorem d_Pr_liveMethods_41 : decode b_Pr_liveMethods 41 = .ok (.iload_n 1, 1) := by decide +kernel
theorem d_Pr_liveMethods_42 : decode b_Pr_liveMethods 42 = .ok (.ireturn, 1) := by decide +kernel
theorem d_Pr_madeClasses_0 : decode b_Pr_madeClasses 0 = .ok (.iconst 0, 1) := by decide +kernel
theorem d_Pr_madeClasses_1 : decode b_Pr_madeClasses 1 = .ok (.istore_n 1, 1) := by decide +kernel
theorem d_Pr_madeClasses_2 : decode b_Pr_madeClasses 2 = .ok (.iconst 0, 1) := by decide +kernel
theorem d_Pr_madeClasses_3 : decode b_Pr_madeClasses 3 = .ok (.istore_n 2, 1) := by decide +kernel
theorem d_Pr_madeClasses_4 : decode b_Pr_madeClasses 4 = .ok (.iload_n 2, 1) := by decide +kernel
theorem d_Pr_madeClasses_5 : decode b_Pr_madeClasses 5 = .ok (.aload_n 0, 1) := by decide +kernel
theorem d_Pr_madeClasses_6 : decode b_Pr_madeClasses 6 = .ok (.getfield 10, 3) := by decide +kernel
theorem d_Pr_madeClasses_9 : decode b_Pr_madeClasses 9 = .ok (.invokevirtual 19, 3) := by decide +kernel
theorem d_Pr_madeClasses_12 : decode b_Pr_madeClasses 12 = .ok (.if_icmp .ge 29, 3) := by decide +kernel
theorem d_Pr_madeClasses_15 : decode b_Pr_madeClasses 15 = .ok (.aload_n 0, 1) := by decide +kernel
theorem d_Pr_madeClasses_16 : decode b_Pr_madeClasses 16 = .ok (.getfield 10, 3) := by decide +kernel
theorem d_Pr_madeClasses_19 : decode b_Pr_madeClasses 19 = .ok (.iload_n 2, 1) := by decide +kernel
theorem d_Pr_madeClasses_20 : decode b_Pr_madeClasses 20 = .ok (.invokevirtual 23, 3) := by decide +kernel
theorem d_Pr_madeClasses_23 : decode b_Pr_madeClasses 23 = .ok (.checkcast 33, 3) := by decide +kernel
theorem d_Pr_madeClasses_26 : decode b_Pr_madeClasses 26 = .ok (.getfield 35, 3) := by decide +kernel
theorem d_Pr_madeClasses_29 : decode b_Pr_madeClasses 29 = .ok (.ifCond .eq 6, 3) := by decide +kernel
theorem d_Pr_madeClasses_32 : decode b_Pr_madeClasses 32 = .ok (.iinc 1 1, 3) := by decide +kernel
theorem d_Pr_madeClasses_35 : decode b_Pr_madeClasses 35 = .ok (.iinc 2 1, 3) := by decide +kernel
theorem d_Pr_madeClasses_38 : decode b_Pr_madeClasses 38 = .ok (.goto (-34), 3) := by decide +kernel
theorem d_Pr_madeClasses_41 : decode b_Pr_madeClasses 41 = .ok (.iload_n 1, 1) := by decide +kernel
theorem d_Pr_madeClasses_42 : decode b_Pr_madeClasses 42 = .ok (.ireturn, 1) := by decide +kernel
theorem d_Pc_init_0 : decode b_Pc_init 0 = .ok (.aload_n 0, 1) := by decide +kernel
theorem d_Pc_init_1 : decode b_Pc_init 1 = .ok (.invokespecial 1, 3) := by decide +kernel
theorem d_Pc_init_4 : decode b_Pc_init 4 = .ok (.aload_n 0, 1) := by decide +kernel
theorem d_Pc_init_5 : decode b_Pc_init 5 = .ok (.aload_n 2, 1) := by decide +kernel
theorem d_Pc_init_6 : decode b_Pc_init 6 = .ok (.putfield 7, 3) := by decide +kernel
theorem d_Pc_init_9 : decode b_Pc_init 9 = .ok (.aload_n 0, 1) := by decide +kernel
theorem d_Pc_init_10 : decode b_Pc_init 10 = .ok (.iload_n 1, 1) := by decide +kernel
theorem d_Pc_init_11 : decode b_Pc_init 11 = .ok (.putfield 13, 3) := by decide +kernel
theorem d_Pc_init_14 : decode b_Pc_init 14 = .ok (.aload_n 0, 1) := by decide +kernel
theorem d_Pc_init_15 : decode b_Pc_init 15 = .ok (.new 17, 3) := by decide +kernel
theorem d_Pc_init_18 : decode b_Pc_init 18 = .ok (.dup, 1) := by decide +kernel
theorem d_Pc_init_19 : decode b_Pc_init 19 = .ok (.invokespecial 19, 3) := by decide +kernel
theorem d_Pc_init_22 : decode b_Pc_init 22 = .ok (.putfield 20, 3) := by decide +kernel
theorem d_Pc_init_25 : decode b_Pc_init 25 = .ok (.aload_n 0, 1) := by decide +kernel
theorem d_Pc_init_26 : decode b_Pc_init 26 = .ok (.iload_n 1, 1) := by decide +kernel
theorem d_Pc_init_27 : decode b_Pc_init 27 = .ok (.putfield 24, 3) := by decide +kernel
theorem d_Pc_init_30 : decode b_Pc_init 30 = .ok (.aload_n 0, 1) := by decide +kernel
theorem d_Pc_init_31 : decode b_Pc_init 31 = .ok (.iconst 0, 1) := by decide +kernel
theorem d_Pc_init_32 : decode b_Pc_init 32 = .ok (.putfield 27, 3) := by decide +kernel
theorem d_Pc_init_35 : decode b_Pc_init 35 = .ok (.return_, 1) := by decide +kernel
theorem d_Al_add_0 : decode b_Al_add 0 = .ok (.aload_n 0, 1) := by decide +kernel
theorem d_Al_add_1 : decode b_Al_add 1 = .ok (.dup, 1) := by decide +kernel
theorem d_Al_add_2 : decode b_Al_add 2 = .ok (.getfield 63, 3) := by decide +kernel
theorem d_Al_add_5 : decode b_Al_add 5 = .ok (.iconst 1, 1) := by decide +kernel
theorem d_Al_add_6 : decode b_Al_add 6 = .ok (.iadd, 1) := by decide +kernel
theorem d_Al_add_7 : decode b_Al_add 7 = .ok (.putfield 63, 3) := by decide +kernel
theorem d_Al_add_10 : decode b_Al_add 10 = .ok (.aload_n 0, 1) := by decide +kernel
theorem d_Al_add_11 : decode b_Al_add 11 = .ok (.aload_n 1, 1) := by decide +kernel
theorem d_Al_add_12 : decode b_Al_add 12 = .ok (.aload_n 0, 1) := by decide +kernel
theorem d_Al_add_13 : decode b_Al_add 13 = .ok (.getfield 9, 3) := by decide +kernel
theorem d_Al_add_16 : decode b_Al_add 16 = .ok (.aload_n 0, 1) := by decide +kernel
theorem d_Al_add_17 : decode b_Al_add 17 = .ok (.getfield 48, 3) := by decide +kernel
theorem d_Al_add_20 : decode b_Al_add 20 = .ok (.invokevirtual 131, 3) := by decide +kernel
theorem d_Al_add_23 : decode b_Al_add 23 = .ok (.iconst 1, 1) := by decide +kernel
theorem d_Al_add_24 : decode b_Al_add 24 = .ok (.ireturn, 1) := by decide +kernel
theorem d_Al_add2_0 : decode b_Al_add2 0 = .ok (.iload_n 3, 1) := by decide +kernel
theorem d_Al_add2_1 : decode b_Al_add2 1 = .ok (.aload_n 2, 1) := by decide +kernel
theorem d_Al_add2_2 : decode b_Al_add2 2 = .ok (.arraylength, 1) := by decide +kernel
theorem d_Al_add2_3 : decode b_Al_add2 3 = .ok (.if_icmp .ne 8, 3) := by decide +kernel
theorem d_Al_add2_6 : decode b_Al_add2 6 = .ok (.aload_n 0, 1) := by decide +kernel
theorem d_Al_add2_7 : decode b_Al_add2 7 = .ok (.invokevirtual 129, 3) := by decide +kernel
theorem d_Al_add2_10 : decode b_Al_add2 10 = .ok (.astore_n 2, 1) := by decide +kernel
theorem d_Al_add2_11 : decode b_Al_add2 11 = .ok (.aload_n 2, 1) := by decide +kernel
theorem d_Al_add2_12 : decode b_Al_add2 12 = .ok (.iload_n 3, 1) := by decide +kernel
theorem d_Al_add2_13 : decode b_Al_add2 13 = .ok (.aload_n 1, 1) := by decide +kernel
theorem d_Al_add2_14 : decode b_Al_add2 14 = .ok (.aastore, 1) := by decide +kernel
theorem d_Al_add2_15 : decode b_Al_add2 15 = .ok (.aload_n 0, 1) := by decide +kernel
theorem d_Al_add2_16 : decode b_Al_add2 16 = .ok (.iload_n 3, 1) := by decide +kernel
theorem d_Al_add2_17 : decode b_Al_add2 17 = .ok (.iconst 1, 1) := by decide +kernel
theorem d_Al_add2_18 : decode b_Al_add2 18 = .ok (.iadd, 1) := by decide +kernel
theorem d_Al_add2_19 : decode b_Al_add2 19 = .ok (.putfield 48, 3) := by decide +kernel
theorem d_Al_add2_22 : decode b_Al_add2 22 = .ok (.return_, 1) := by decide +kernel
theorem d_Al_grow_0 : decode b_Al_grow 0 = .ok (.aload_n 0, 1) := by decide +kernel
theorem d_Al_grow_1 : decode b_Al_grow 1 = .ok (.aload_n 0, 1) := by decide +kernel
theorem d_Al_grow_2 : decode b_Al_grow 2 = .ok (.getfield 48, 3) := by decide +kernel
theorem d_Al_grow_5 : decode b_Al_grow 5 = .ok (.iconst 1, 1) := by decide +kernel
theorem d_Al_grow_6 : decode b_Al_grow 6 = .ok (.iadd, 1) := by decide +kernel
theorem d_Al_grow_7 : decode b_Al_grow 7 = .ok (.invokevirtual 69, 3) := by decide +kernel
theorem d_Al_grow_10 : decode b_Al_grow 10 = .ok (.areturn, 1) := by decide +kernel
theorem d_Al_grow2_0 : decode b_Al_grow2 0 = .ok (.aload_n 0, 1) := by decide +kernel
theorem d_Al_grow2_1 : decode b_Al_grow2 1 = .ok (.getfield 9, 3) := by decide +kernel
theorem d_Al_grow2_4 : decode b_Al_grow2 4 = .ok (.arraylength, 1) := by decide +kernel
theorem d_Al_grow2_5 : decode b_Al_grow2 5 = .ok (.istore_n 2, 1) := by decide +kernel
theorem d_Al_grow2_6 : decode b_Al_grow2 6 = .ok (.iload_n 2, 1) := by decide +kernel
theorem d_Al_grow2_7 : decode b_Al_grow2 7 = .ok (.ifCond .gt 13, 3) := by decide +kernel
theorem d_Al_grow2_10 : decode b_Al_grow2 10 = .ok (.aload_n 0, 1) := by decide +kernel
theorem d_Al_grow2_11 : decode b_Al_grow2 11 = .ok (.getfield 9, 3) := by decide +kernel
theorem d_Al_grow2_14 : decode b_Al_grow2 14 = .ok (.getstatic 39, 3) := by decide +kernel
theorem d_Al_grow2_17 : decode b_Al_grow2 17 = .ok (.if_acmp .eq 28, 3) := by decide +kernel
theorem d_Al_grow2_20 : decode b_Al_grow2 20 = .ok (.iload_n 2, 1) := by decide +kernel
theorem d_Al_grow2_21 : decode b_Al_grow2 21 = .ok (.iload_n 1, 1) := by decide +kernel
theorem d_Al_grow2_22 : decode b_Al_grow2 22 = .ok (.iload_n 2, 1) := by decide +kernel
theorem d_Al_grow2_23 : decode b_Al_grow2 23 = .ok (.isub, 1) := by decide +kernel
theorem d_Al_grow2_24 : decode b_Al_grow2 24 = .ok (.iload_n 2, 1) := by decide +kernel
theorem d_Al_grow2_25 : decode b_Al_grow2 25 = .ok (.iconst 1, 1) := by decide +kernel
theorem d_Al_grow2_26 : decode b_Al_grow2 26 = .ok (.ishr, 1) := by decide +kernel
theorem d_Al_grow2_27 : decode b_Al_grow2 27 = .ok (.invokestatic 73, 3) := by decide +kernel
theorem d_Al_grow2_30 : decode b_Al_grow2 30 = .ok (.istore_n 3, 1) := by decide +kernel
theorem d_Al_grow2_31 : decode b_Al_grow2 31 = .ok (.aload_n 0, 1) := by decide +kernel
theorem d_Al_grow2_32 : decode b_Al_grow2 32 = .ok (.aload_n 0, 1) := by decide +kernel
theorem d_Al_grow2_33 : decode b_Al_grow2 33 = .ok (.getfield 9, 3) := by decide +kernel
theorem d_Al_grow2_36 : decode b_Al_grow2 36 = .ok (.iload_n 3, 1) := by decide +kernel
theorem d_Al_grow2_37 : decode b_Al_grow2 37 = .ok (.invokestatic 66, 3) := by decide +kernel
theorem d_Al_grow2_40 : decode b_Al_grow2 40 = .ok (.dup_x1, 1) := by decide +kernel
theorem d_Al_grow2_41 : decode b_Al_grow2 41 = .ok (.putfield 9, 3) := by decide +kernel
theorem d_Al_grow2_44 : decode b_Al_grow2 44 = .ok (.areturn, 1) := by decide +kernel
theorem d_Al_grow2_45 : decode b_Al_grow2 45 = .ok (.aload_n 0, 1) := by decide +kernel
theorem d_Al_grow2_46 : decode b_Al_grow2 46 = .ok (.bipush 10, 2) := by decide +kernel
theorem d_Al_grow2_48 : decode b_Al_grow2 48 = .ok (.iload_n 1, 1) := by decide +kernel
theorem d_Al_grow2_49 : decode b_Al_grow2 49 = .ok (.invokestatic 79, 3) := by decide +kernel
theorem d_Al_grow2_52 : decode b_Al_grow2 52 = .ok (.anewarray 7, 3) := by decide +kernel
theorem d_Al_grow2_55 : decode b_Al_grow2 55 = .ok (.dup_x1, 1) := by decide +kernel
theorem d_Al_grow2_56 : decode b_Al_grow2 56 = .ok (.putfield 9, 3) := by decide +kernel
theorem d_Al_grow2_59 : decode b_Al_grow2 59 = .ok (.areturn, 1) := by decide +kernel
theorem d_As_newLength_0 : decode b_As_newLength 0 = .ok (.iload_n 0, 1) := by decide +kernel
theorem d_As_newLength_1 : decode b_As_newLength 1 = .ok (.iload_n 1, 1) := by decide +kernel
theorem d_As_newLength_2 : decode b_As_newLength 2 = .ok (.iload_n 2, 1) := by decide +kernel
theorem d_As_newLength_3 : decode b_As_newLength 3 = .ok (.invokestatic 194, 3) := by decide +kernel
theorem d_As_newLength_6 : decode b_As_newLength 6 = .ok (.iadd, 1) := by decide +kernel
theorem d_As_newLength_7 : decode b_As_newLength 7 = .ok (.istore_n 3, 1) := by decide +kernel
theorem d_As_newLength_8 : decode b_As_newLength 8 = .ok (.iconst 0, 1) := by decide +kernel
theorem d_As_newLength_9 : decode b_As_newLength 9 = .ok (.iload_n 3, 1) := by decide +kernel
theorem d_As_newLength_10 : decode b_As_newLength 10 = .ok (.if_icmp .ge 11, 3) := by decide +kernel
theorem d_As_newLength_13 : decode b_As_newLength 13 = .ok (.iload_n 3, 1) := by decide +kernel
theorem d_As_newLength_14 : decode b_As_newLength 14 = .ok (.ldc 200, 2) := by decide +kernel
theorem d_As_newLength_16 : decode b_As_newLength 16 = .ok (.if_icmp .gt 5, 3) := by decide +kernel
theorem d_As_newLength_19 : decode b_As_newLength 19 = .ok (.iload_n 3, 1) := by decide +kernel
theorem d_As_newLength_20 : decode b_As_newLength 20 = .ok (.ireturn, 1) := by decide +kernel
theorem d_As_newLength_21 : decode b_As_newLength 21 = .ok (.iload_n 0, 1) := by decide +kernel
theorem d_As_newLength_22 : decode b_As_newLength 22 = .ok (.iload_n 1, 1) := by decide +kernel
theorem d_As_newLength_23 : decode b_As_newLength 23 = .ok (.invokestatic 201, 3) := by decide +kernel
theorem d_As_newLength_26 : decode b_As_newLength 26 = .ok (.ireturn, 1) := by decide +kernel
theorem d_Ma_max_0 : decode b_Ma_max 0 = .ok (.iload_n 0, 1) := by decide +kernel
theorem d_Ma_max_1 : decode b_Ma_max 1 = .ok (.iload_n 1, 1) := by decide +kernel
theorem d_Ma_max_2 : decode b_Ma_max 2 = .ok (.if_icmp .lt 7, 3) := by decide +kernel
theorem d_Ma_max_5 : decode b_Ma_max 5 = .ok (.iload_n 0, 1) := by decide +kernel
theorem d_Ma_max_6 : decode b_Ma_max 6 = .ok (.goto 4, 3) := by decide +kernel
theorem d_Ma_max_9 : decode b_Ma_max 9 = .ok (.iload_n 1, 1) := by decide +kernel
theorem d_Ma_max_10 : decode b_Ma_max 10 = .ok (.ireturn, 1) := by decide +kernel
theorem d_As_hugeLength_0 : decode b_As_hugeLength 0 = .ok (.iload_n 0, 1) := by decide +kernel
theorem d_As_hugeLength_1 : decode b_As_hugeLength 1 = .ok (.iload_n 1, 1) := by decide +kernel
theorem d_As_hugeLength_2 : decode b_As_hugeLength 2 = .ok (.iadd, 1) := by decide +kernel
theorem d_As_hugeLength_3 : decode b_As_hugeLength 3 = .ok (.istore_n 2, 1) := by decide +kernel
theorem d_As_hugeLength_4 : decode b_As_hugeLength 4 = .ok (.iload_n 2, 1) := by decide +kernel
theorem d_As_hugeLength_5 : decode b_As_hugeLength 5 = .ok (.ifCond .ge 44, 3) := by decide +kernel
theorem d_As_hugeLength_8 : decode b_As_hugeLength 8 = .ok (.new 204, 3) := by decide +kernel
theorem d_As_hugeLength_11 : decode b_As_hugeLength 11 = .ok (.dup, 1) := by decide +kernel
theorem d_As_hugeLength_12 : decode b_As_hugeLength 12 = .ok (.new 89, 3) := by decide +kernel
theorem d_As_hugeLength_15 : decode b_As_hugeLength 15 = .ok (.dup, 1) := by decide +kernel
theorem d_As_hugeLength_16 : decode b_As_hugeLength 16 = .ok (.invokespecial 91, 3) := by decide +kernel
theorem d_As_hugeLength_19 : decode b_As_hugeLength 19 = .ok (.ldc 206, 2) := by decide +kernel
theorem d_As_hugeLength_21 : decode b_As_hugeLength 21 = .ok (.invokevirtual 94, 3) := by decide +kernel
theorem d_As_hugeLength_24 : decode b_As_hugeLength 24 = .ok (.iload_n 0, 1) := by decide +kernel
theorem d_As_hugeLength_25 : decode b_As_hugeLength 25 = .ok (.invokevirtual 98, 3) := by decide +kernel
theorem d_As_hugeLength_28 : decode b_As_hugeLength 28 = .ok (.ldc 208, 2) := by decide +kernel
theorem d_As_hugeLength_30 : decode b_As_hugeLength 30 = .ok (.invokevirtual 94, 3) := by decide +kernel
theorem d_As_hugeLength_33 : decode b_As_hugeLength 33 = .ok (.iload_n 1, 1) := by decide +kernel
theorem d_As_hugeLength_34 : decode b_As_hugeLength 34 = .ok (.invokevirtual 98, 3) := by decide +kernel
theorem d_As_hugeLength_37 : decode b_As_hugeLength 37 = .ok (.ldc 210, 2) := by decide +kernel
theorem d_As_hugeLength_39 : decode b_As_hugeLength 39 = .ok (.invokevirtual 94, 3) := by decide +kernel
theorem d_As_hugeLength_42 : decode b_As_hugeLength 42 = .ok (.invokevirtual 101, 3) := by decide +kernel
theorem d_As_hugeLength_45 : decode b_As_hugeLength 45 = .ok (.invokespecial 212, 3) := by decide +kernel
theorem d_As_hugeLength_48 : decode b_As_hugeLength 48 = .ok (.athrow, 1) := by decide +kernel
theorem d_As_hugeLength_49 : decode b_As_hugeLength 49 = .ok (.iload_n 2, 1) := by decide +kernel
theorem d_As_hugeLength_50 : decode b_As_hugeLength 50 = .ok (.ldc 200, 2) := by decide +kernel
theorem d_As_hugeLength_52 : decode b_As_hugeLength 52 = .ok (.if_icmp .gt 6, 3) := by decide +kernel
theorem d_As_hugeLength_55 : decode b_As_hugeLength 55 = .ok (.ldc 200, 2) := by decide +kernel
theorem d_As_hugeLength_57 : decode b_As_hugeLength 57 = .ok (.ireturn, 1) := by decide +kernel
theorem d_As_hugeLength_58 : decode b_As_hugeLength 58 = .ok (.iload_n 2, 1) := by decide +kernel
theorem d_As_hugeLength_59 : decode b_As_hugeLength 59 = .ok (.ireturn, 1) := by decide +kernel
theorem d_Ar_copyOf_0 : decode b_Ar_copyOf 0 = .ok (.aload_n 0, 1) := by decide +kernel
theorem d_Ar_copyOf_1 : decode b_Ar_copyOf 1 = .ok (.iload_n 1, 1) := by decide +kernel
theorem d_Ar_copyOf_2 : decode b_Ar_copyOf 2 = .ok (.aload_n 0, 1) := by decide +kernel
theorem d_Ar_copyOf_3 : decode b_Ar_copyOf 3 = .ok (.invokevirtual 86, 3) := by decide +kernel
theorem d_Ar_copyOf_6 : decode b_Ar_copyOf 6 = .ok (.invokestatic 300, 3) := by decide +kernel
theorem d_Ar_copyOf_9 : decode b_Ar_copyOf 9 = .ok (.areturn, 1) := by decide +kernel
theorem d_Ar_copyOf2_0 : decode b_Ar_copyOf2 0 = .ok (.aload_n 2, 1) := by decide +kernel
theorem d_Ar_copyOf2_1 : decode b_Ar_copyOf2 1 = .ok (.ldc 110, 2) := by decide +kernel
theorem d_Ar_copyOf2_3 : decode b_Ar_copyOf2 3 = .ok (.if_acmp .ne 10, 3) := by decide +kernel
theorem d_Ar_copyOf2_6 : decode b_Ar_copyOf2 6 = .ok (.iload_n 1, 1) := by decide +kernel
theorem d_Ar_copyOf2_7 : decode b_Ar_copyOf2 7 = .ok (.anewarray 2, 3) := by decide +kernel
theorem d_Ar_copyOf2_10 : decode b_Ar_copyOf2 10 = .ok (.goto 14, 3) := by decide +kernel
theorem d_Ar_copyOf2_13 : decode b_Ar_copyOf2 13 = .ok (.aload_n 2, 1) := by decide +kernel
theorem d_Ar_copyOf2_14 : decode b_Ar_copyOf2 14 = .ok (.invokevirtual 90, 3) := by decide +kernel
theorem d_Ar_copyOf2_17 : decode b_Ar_copyOf2 17 = .ok (.iload_n 1, 1) := by decide +kernel
theorem d_Ar_copyOf2_18 : decode b_Ar_copyOf2 18 = .ok (.invokestatic 95, 3) := by decide +kernel
theorem d_Ar_copyOf2_21 : decode b_Ar_copyOf2 21 = .ok (.checkcast 110, 3) := by decide +kernel
theorem d_Ar_copyOf2_24 : decode b_Ar_copyOf2 24 = .ok (.astore_n 3, 1) := by decide +kernel
theorem d_Ar_copyOf2_25 : decode b_Ar_copyOf2 25 = .ok (.aload_n 0, 1) := by decide +kernel
theorem d_Ar_copyOf2_26 : decode b_Ar_copyOf2 26 = .ok (.iconst 0, 1) := by decide +kernel
theorem d_Ar_copyOf2_27 : decode b_Ar_copyOf2 27 = .ok (.aload_n 3, 1) := by decide +kernel
theorem d_Ar_copyOf2_28 : decode b_Ar_copyOf2 28 = .ok (.iconst 0, 1) := by decide +kernel
theorem d_Ar_copyOf2_29 : decode b_Ar_copyOf2 29 = .ok (.aload_n 0, 1) := by decide +kernel
theorem d_Ar_copyOf2_30 : decode b_Ar_copyOf2 30 = .ok (.arraylength, 1) := by decide +kernel
theorem d_Ar_copyOf2_31 : decode b_Ar_copyOf2 31 = .ok (.iload_n 1, 1) := by decide +kernel
theorem d_Ar_copyOf2_32 : decode b_Ar_copyOf2 32 = .ok (.invokestatic 304, 3) := by decide +kernel
theorem d_Ar_copyOf2_35 : decode b_Ar_copyOf2 35 = .ok (.invokestatic 150, 3) := by decide +kernel
theorem d_Ar_copyOf2_38 : decode b_Ar_copyOf2 38 = .ok (.aload_n 3, 1) := by decide +kernel
theorem d_Ar_copyOf2_39 : decode b_Ar_copyOf2 39 = .ok (.areturn, 1) := by decide +kernel
theorem d_Pm_init_0 : decode b_Pm_init 0 = .ok (.aload_n 0, 1) := by decide +kernel
theorem d_Pm_init_1 : decode b_Pm_init 1 = .ok (.invokespecial 1, 3) := by decide +kernel
theorem d_Pm_init_4 : decode b_Pm_init 4 = .ok (.aload_n 0, 1) := by decide +kernel
theorem d_Pm_init_5 : decode b_Pm_init 5 = .ok (.aload_n 2, 1) := by decide +kernel
theorem d_Pm_init_6 : decode b_Pm_init 6 = .ok (.putfield 7, 3) := by decide +kernel
theorem d_Pm_init_9 : decode b_Pm_init 9 = .ok (.aload_n 0, 1) := by decide +kernel
theorem d_Pm_init_10 : decode b_Pm_init 10 = .ok (.iload_n 1, 1) := by decide +kernel
theorem d_Pm_init_11 : decode b_Pm_init 11 = .ok (.putfield 13, 3) := by decide +kernel
theorem d_Pm_init_14 : decode b_Pm_init 14 = .ok (.aload_n 0, 1) := by decide +kernel
theorem d_Pm_init_15 : decode b_Pm_init 15 = .ok (.iload_n 3, 1) := by decide +kernel
theorem d_Pm_init_16 : decode b_Pm_init 16 = .ok (.putfield 17, 3) := by decide +kernel
theorem d_Pm_init_19 : decode b_Pm_init 19 = .ok (.aload_n 0, 1) := by decide +kernel
theorem d_Pm_init_20 : decode b_Pm_init 20 = .ok (.iload 4, 2) := by decide +kernel
theorem d_Pm_init_22 : decode b_Pm_init 22 = .ok (.putfield 20, 3) := by decide +kernel
theorem d_Pm_init_25 : decode b_Pm_init 25 = .ok (.aload_n 0, 1) := by decide +kernel
theorem d_Pm_init_26 : decode b_Pm_init 26 = .ok (.new 23, 3) := by decide +kernel
theorem d_Pm_init_29 : decode b_Pm_init 29 = .ok (.dup, 1) := by decide +kernel
theorem d_Pm_init_30 : decode b_Pm_init 30 = .ok (.invokespecial 25, 3) := by decide +kernel
theorem d_Pm_init_33 : decode b_Pm_init 33 = .ok (.putfield 26, 3) := by decide +kernel
theorem d_Pm_init_36 : decode b_Pm_init 36 = .ok (.aload_n 0, 1) := by decide +kernel
theorem d_Pm_init_37 : decode b_Pm_init 37 = .ok (.iload_n 3, 1) := by decide +kernel
theorem d_Pm_init_38 : decode b_Pm_init 38 = .ok (.putfield 30, 3) := by decide +kernel
theorem d_Pm_init_41 : decode b_Pm_init 41 = .ok (.aload_n 0, 1) := by decide +kernel
theorem d_Pm_init_42 : decode b_Pm_init 42 = .ok (.iconst 0, 1) := by decide +kernel
theorem d_Pm_init_43 : decode b_Pm_init 43 = .ok (.putfield 33, 3) := by decide +kernel
theorem d_Pm_init_46 : decode b_Pm_init 46 = .ok (.aload_n 0, 1) := by decide +kernel
theorem d_Pm_init_47 : decode b_Pm_init 47 = .ok (.iconst 0, 1) := by decide +kernel
theorem d_Pm_init_48 : decode b_Pm_init 48 = .ok (.putfield 37, 3) := by decide +kernel
theorem d_Pm_init_51 : decode b_Pm_init 51 = .ok (.return_, 1) := by decide +kernel
theorem d_It_init_0 : decode b_It_init 0 = .ok (.aload_n 0, 1) := by decide +kernel
theorem d_It_init_1 : decode b_It_init 1 = .ok (.invokespecial 1, 3) := by decide +kernel
theorem d_It_init_4 : decode b_It_init 4 = .ok (.aload_n 0, 1) := by decide +kernel
theorem d_It_init_5 : decode b_It_init 5 = .ok (.iload_n 1, 1) := by decide +kernel
theorem d_It_init_6 : decode b_It_init 6 = .ok (.putfield 7, 3) := by decide +kernel
theorem d_It_init_9 : decode b_It_init 9 = .ok (.aload_n 0, 1) := by decide +kernel
theorem d_It_init_10 : decode b_It_init 10 = .ok (.iload_n 2, 1) := by decide +kernel
theorem d_It_init_11 : decode b_It_init 11 = .ok (.putfield 13, 3) := by decide +kernel
theorem d_It_init_14 : decode b_It_init 14 = .ok (.aload_n 0, 1) := by decide +kernel
theorem d_It_init_15 : decode b_It_init 15 = .ok (.aload_n 3, 1) := by decide +kernel
theorem d_It_init_16 : decode b_It_init 16 = .ok (.putfield 16, 3) := by decide +kernel
theorem d_It_init_19 : decode b_It_init 19 = .ok (.aload_n 0, 1) := by decide +kernel
theorem d_It_init_20 : decode b_It_init 20 = .ok (.iload 5, 2) := by decide +kernel
theorem d_It_init_22 : decode b_It_init 22 = .ok (.putfield 20, 3) := by decide +kernel
theorem d_It_init_25 : decode b_It_init 25 = .ok (.aload_n 0, 1) := by decide +kernel
theorem d_It_init_26 : decode b_It_init 26 = .ok (.iload 4, 2) := by decide +kernel
theorem d_It_init_28 : decode b_It_init 28 = .ok (.putfield 23, 3) := by decide +kernel
theorem d_It_init_31 : decode b_It_init 31 = .ok (.return_, 1) := by decide +kernel
theorem d_Ru_outcomeOf_0 : decode b_Ru_outcomeOf 0 = .ok (.aload_n 0, 1) := by decide +kernel
theorem d_Ru_outcomeOf_1 : decode b_Ru_outcomeOf 1 = .ok (.iconst 0, 1) := by decide +kernel
theorem d_Ru_outcomeOf_2 : decode b_Ru_outcomeOf 2 = .ok (.putfield 9, 3) := by decide +kernel
theorem d_Ru_outcomeOf_5 : decode b_Ru_outcomeOf 5 = .ok (.aload_n 0, 1) := by decide +kernel
theorem d_Ru_outcomeOf_6 : decode b_Ru_outcomeOf 6 = .ok (.iconst 0, 1) := by decide +kernel
theorem d_Ru_outcomeOf_7 : decode b_Ru_outcomeOf 7 = .ok (.putfield 15, 3) := by decide +kernel
theorem d_Ru_outcomeOf_10 : decode b_Ru_outcomeOf 10 = .ok (.aload_n 0, 1) := by decide +kernel
theorem d_Ru_outcomeOf_11 : decode b_Ru_outcomeOf 11 = .ok (.aload_n 1, 1) := by decide +kernel
theorem d_Ru_outcomeOf_12 : decode b_Ru_outcomeOf 12 = .ok (.iload_n 2, 1) := by decide +kernel
theorem d_Ru_outcomeOf_13 : decode b_Ru_outcomeOf 13 = .ok (.iload_n 3, 1) := by decide +kernel
theorem d_Ru_outcomeOf_14 : decode b_Ru_outcomeOf 14 = .ok (.iconst 1, 1) := by decide +kernel
theorem d_Ru_outcomeOf_15 : decode b_Ru_outcomeOf 15 = .ok (.invokevirtual 18, 3) := by decide +kernel
theorem d_Ru_outcomeOf_18 : decode b_Ru_outcomeOf 18 = .ok (.aload_n 0, 1) := by decide +kernel
theorem d_Ru_outcomeOf_19 : decode b_Ru_outcomeOf 19 = .ok (.getfield 9, 3) := by decide +kernel
theorem d_Ru_outcomeOf_22 : decode b_Ru_outcomeOf 22 = .ok (.ireturn, 1) := by decide +kernel
theorem d_Ru_perform_0 : decode b_Ru_perform 0 = .ok (.iload 4, 2) := by decide +kernel
theorem d_Ru_perform_2 : decode b_Ru_perform 2 = .ok (.bipush 16, 2) := by decide +kernel
theorem d_Ru_perform_4 : decode b_Ru_perform 4 = .ok (.if_icmp .le 13, 3) := by decide +kernel
theorem d_Ru_perform_7 : decode b_Ru_perform 7 = .ok (.new 22, 3) := by decide +kernel
theorem d_Ru_perform_10 : decode b_Ru_perform 10 = .ok (.dup, 1) := by decide +kernel
theorem d_Ru_perform_11 : decode b_Ru_perform 11 = .ok (.ldc 24, 2) := by decide +kernel
theorem d_Ru_perform_13 : decode b_Ru_perform 13 = .ok (.invokespecial 26, 3) := by decide +kernel
theorem d_Ru_perform_16 : decode b_Ru_perform 16 = .ok (.athrow, 1) := by decide +kernel
theorem d_Ru_perform_17 : decode b_Ru_perform 17 = .ok (.aload_n 1, 1) := by decide +kernel
theorem d_Ru_perform_18 : decode b_Ru_perform 18 = .ok (.iload_n 2, 1) := by decide +kernel
theorem d_Ru_perform_19 : decode b_Ru_perform 19 = .ok (.iload_n 3, 1) := by decide +kernel
theorem d_Ru_perform_20 : decode b_Ru_perform 20 = .ok (.invokevirtual 29, 3) := by decide +kernel
theorem d_Ru_perform_23 : decode b_Ru_perform 23 = .ok (.astore 5, 2) := by decide +kernel
theorem d_Ru_perform_25 : decode b_Ru_perform 25 = .ok (.aload 5, 2) := by decide +kernel
theorem d_Ru_perform_27 : decode b_Ru_perform 27 = .ok (.ifnonnull 13, 3) := by decide +kernel
theorem d_Ru_perform_30 : decode b_Ru_perform 30 = .ok (.new 35, 3) := by decide +kernel
theorem d_Ru_perform_33 : decode b_Ru_perform 33 = .ok (.dup, 1) := by decide +kernel
theorem d_Ru_perform_34 : decode b_Ru_perform 34 = .ok (.ldc 37, 2) := by decide +kernel
theorem d_Ru_perform_36 : decode b_Ru_perform 36 = .ok (.invokespecial 39, 3) := by decide +kernel
theorem d_Ru_perform_39 : decode b_Ru_perform 39 = .ok (.athrow, 1) := by decide +kernel
theorem d_Ru_perform_40 : decode b_Ru_perform 40 = .ok (.iconst 0, 1) := by decide +kernel
theorem d_Ru_perform_41 : decode b_Ru_perform 41 = .ok (.istore 6, 2) := by decide +kernel
theorem d_Ru_perform_43 : decode b_Ru_perform 43 = .ok (.iload 6, 2) := by decide +kernel
theorem d_Ru_perform_45 : decode b_Ru_perform 45 = .ok (.aload 5, 2) := by decide +kernel
theorem d_Ru_perform_47 : decode b_Ru_perform 47 = .ok (.getfield 40, 3) := by decide +kernel
theorem d_Ru_perform_50 : decode b_Ru_perform 50 = .ok (.invokevirtual 46, 3) := by decide +kernel
theorem d_Ru_perform_53 : decode b_Ru_perform 53 = .ok (.if_icmp .ge 29, 3) := by decide +kernel
theorem d_Ru_perform_56 : decode b_Ru_perform 56 = .ok (.aload_n 0, 1) := by decide +kernel
theorem d_Ru_perform_57 : decode b_Ru_perform 57 = .ok (.aload 5, 2) := by decide +kernel
theorem d_Ru_perform_59 : decode b_Ru_perform 59 = .ok (.getfield 40, 3) := by decide +kernel
theorem d_Ru_perform_62 : decode b_Ru_perform 62 = .ok (.iload 6, 2) := by decide +kernel
theorem d_Ru_perform_64 : decode b_Ru_perform 64 = .ok (.invokevirtual 52, 3) := by decide +kernel
theorem d_Ru_perform_67 : decode b_Ru_perform 67 = .ok (.checkcast 56, 3) := by decide +kernel
theorem d_Ru_perform_70 : decode b_Ru_perform 70 = .ok (.aload_n 1, 1) := by decide +kernel
theorem d_Ru_perform_71 : decode b_Ru_perform 71 = .ok (.iload 4, 2) := by decide +kernel
theorem d_Ru_perform_73 : decode b_Ru_perform 73 = .ok (.invokevirtual 58, 3) := by decide +kernel
theorem d_Ru_perform_76 : decode b_Ru_perform 76 = .ok (.iinc 6 1, 3) := by decide +kernel
theorem d_Ru_perform_79 : decode b_Ru_perform 79 = .ok (.goto (-36), 3) := by decide +kernel
theorem d_Ru_perform_82 : decode b_Ru_perform 82 = .ok (.return_, 1) := by decide +kernel
theorem d_Ru_performItem_0 : decode b_Ru_performItem 0 = .ok (.aload_n 0, 1) := by decide +kernel
theorem d_Ru_performItem_1 : decode b_Ru_performItem 1 = .ok (.getfield 15, 3) := by decide +kernel
theorem d_Ru_performItem_4 : decode b_Ru_performItem 4 = .ok (.sipush 300, 3) := by decide +kernel
theorem d_Ru_performItem_7 : decode b_Ru_performItem 7 = .ok (.if_icmp .lt 13, 3) := by decide +kernel
theorem d_Ru_performItem_10 : decode b_Ru_performItem 10 = .ok (.new 22, 3) := by decide +kernel
theorem d_Ru_performItem_13 : decode b_Ru_performItem 13 = .ok (.dup, 1) := by decide +kernel
theorem d_Ru_performItem_14 : decode b_Ru_performItem 14 = .ok (.ldc 62, 2) := by decide +kernel
theorem d_Ru_performItem_16 : decode b_Ru_performItem 16 = .ok (.invokespecial 26, 3) := by decide +kernel
theorem d_Ru_performItem_19 : decode b_Ru_performItem 19 = .ok (.athrow, 1) := by decide +kernel
theorem d_Ru_performItem_20 : decode b_Ru_performItem 20 = .ok (.aload_n 0, 1) := by decide +kernel
theorem d_Ru_performItem_21 : decode b_Ru_performItem 21 = .ok (.dup, 1) := by decide +kernel
theorem d_Ru_performItem_22 : decode b_Ru_performItem 22 = .ok (.getfield 15, 3) := by decide +kernel
theorem d_Ru_performItem_25 : decode b_Ru_performItem 25 = .ok (.iconst 1, 1) := by decide +kernel
theorem d_Ru_performItem_26 : decode b_Ru_performItem 26 = .ok (.iadd, 1) := by decide +kernel
theorem d_Ru_performItem_27 : decode b_Ru_performItem 27 = .ok (.putfield 15, 3) := by decide +kernel
theorem d_Ru_performItem_30 : decode b_Ru_performItem 30 = .ok (.aload_n 1, 1) := by decide +kernel
theorem d_Ru_performItem_31 : decode b_Ru_performItem 31 = .ok (.getfield 64, 3) := by decide +kernel
theorem d_Ru_performItem_34 : decode b_Ru_performItem 34 = .ok (.ifCond .ne 22, 3) := by decide +kernel
theorem d_Ru_performItem_37 : decode b_Ru_performItem 37 = .ok (.aload_n 0, 1) := by decide +kernel
theorem d_Ru_performItem_38 : decode b_Ru_performItem 38 = .ok (.bipush 31, 2) := by decide +kernel
theorem d_Ru_performItem_40 : decode b_Ru_performItem 40 = .ok (.aload_n 0, 1) := by decide +kernel
theorem d_Ru_performItem_41 : decode b_Ru_performItem 41 = .ok (.getfield 9, 3) := by decide +kernel
theorem d_Ru_performItem_44 : decode b_Ru_performItem 44 = .ok (.imul, 1) := by decide +kernel
theorem d_Ru_performItem_45 : decode b_Ru_performItem 45 = .ok (.aload_n 1, 1) := by decide +kernel
theorem d_Ru_performItem_46 : decode b_Ru_performItem 46 = .ok (.getfield 67, 3) := by decide +kernel
theorem d_Ru_performItem_49 : decode b_Ru_performItem 49 = .ok (.iadd, 1) := by decide +kernel
theorem d_Ru_performItem_50 : decode b_Ru_performItem 50 = .ok (.putfield 9, 3) := by decide +kernel
theorem d_Ru_performItem_53 : decode b_Ru_performItem 53 = .ok (.goto 37, 3) := by decide +kernel
theorem d_Ru_performItem_56 : decode b_Ru_performItem 56 = .ok (.aload_n 1, 1) := by decide +kernel
theorem d_Ru_performItem_57 : decode b_Ru_performItem 57 = .ok (.getfield 70, 3) := by decide +kernel
theorem d_Ru_performItem_60 : decode b_Ru_performItem 60 = .ok (.ifnonnull 7, 3) := by decide +kernel
theorem d_Ru_performItem_63 : decode b_Ru_performItem 63 = .ok (.aload_n 2, 1) := by decide +kernel
theorem d_Ru_performItem_64 : decode b_Ru_performItem 64 = .ok (.goto 7, 3) := by decide +kernel
theorem d_Ru_performItem_67 : decode b_Ru_performItem 67 = .ok (.aload_n 1, 1) := by decide +kernel
theorem d_Ru_performItem_68 : decode b_Ru_performItem 68 = .ok (.getfield 70, 3) := by decide +kernel
theorem d_Ru_performItem_71 : decode b_Ru_performItem 71 = .ok (.astore 4, 2) := by decide +kernel
theorem d_Ru_performItem_73 : decode b_Ru_performItem 73 = .ok (.aload_n 0, 1) := by decide +kernel
theorem d_Ru_performItem_74 : decode b_Ru_performItem 74 = .ok (.aload 4, 2) := by decide +kernel
theorem d_Ru_performItem_76 : decode b_Ru_performItem 76 = .ok (.aload_n 1, 1) := by decide +kernel
theorem d_Ru_performItem_77 : decode b_Ru_performItem 77 = .ok (.getfield 74, 3) := by decide +kernel
theorem d_Ru_performItem_80 : decode b_Ru_performItem 80 = .ok (.aload_n 1, 1) := by decide +kernel
theorem d_Ru_performItem_81 : decode b_Ru_performItem 81 = .ok (.getfield 77, 3) := by decide +kernel
theorem d_Ru_performItem_84 : decode b_Ru_performItem 84 = .ok (.iload_n 3, 1) := by decide +kernel
theorem d_Ru_performItem_85 : decode b_Ru_performItem 85 = .ok (.iconst 1, 1) := by decide +kernel
theorem d_Ru_performItem_86 : decode b_Ru_performItem 86 = .ok (.iadd, 1) := by decide +kernel
theorem d_Ru_performItem_87 : decode b_Ru_performItem 87 = .ok (.invokevirtual 18, 3) := by decide +kernel
theorem d_Ru_performItem_90 : decode b_Ru_performItem 90 = .ok (.return_, 1) := by decide +kernel
theorem d_It_part_0 : decode b_It_part 0 = .ok (.iload_n 1, 1) := by decide +kernel
theorem d_It_part_1 : decode b_It_part 1 = .ok (.tableswitch 59 0 2 #[27, 32, 54], 27) := by decide +kernel
theorem d_It_part_28 : decode b_It_part 28 = .ok (.aload_n 0, 1) := by decide +kernel
theorem d_It_part_29 : decode b_It_part 29 = .ok (.getfield 7, 3) := by decide +kernel
theorem d_It_part_32 : decode b_It_part 32 = .ok (.ireturn, 1) := by decide +kernel
theorem d_It_part_33 : decode b_It_part 33 = .ok (.aload_n 0, 1) := by decide +kernel
theorem d_It_part_34 : decode b_It_part 34 = .ok (.getfield 16, 3) := by decide +kernel
theorem d_It_part_37 : decode b_It_part 37 = .ok (.ifnonnull 10, 3) := by decide +kernel
theorem d_It_part_40 : decode b_It_part 40 = .ok (.aload_n 0, 1) := by decide +kernel
theorem d_It_part_41 : decode b_It_part 41 = .ok (.getfield 13, 3) := by decide +kernel
theorem d_It_part_44 : decode b_It_part 44 = .ok (.goto 10, 3) := by decide +kernel
theorem d_It_part_47 : decode b_It_part 47 = .ok (.aload_n 0, 1) := by decide +kernel
theorem d_It_part_48 : decode b_It_part 48 = .ok (.getfield 16, 3) := by decide +kernel
theorem d_It_part_51 : decode b_It_part 51 = .ok (.getfield 26, 3) := by decide +kernel
theorem d_It_part_54 : decode b_It_part 54 = .ok (.ireturn, 1) := by decide +kernel
theorem d_It_part_55 : decode b_It_part 55 = .ok (.aload_n 0, 1) := by decide +kernel
theorem d_It_part_56 : decode b_It_part 56 = .ok (.getfield 23, 3) := by decide +kernel
theorem d_It_part_59 : decode b_It_part 59 = .ok (.ireturn, 1) := by decide +kernel
theorem d_It_part_60 : decode b_It_part 60 = .ok (.aload_n 0, 1) := by decide +kernel
theorem d_It_part_61 : decode b_It_part 61 = .ok (.getfield 20, 3) := by decide +kernel
theorem d_It_part_64 : decode b_It_part 64 = .ok (.ireturn, 1) := by decide +kernel
end
