theorem d_Mo_init_0 : decode b_Mo_init 0 = .ok (.aload_n 0, 1) := by decide +kernel
theorem d_Mo_init_1 : decode b_Mo_init 1 = .ok (.invokespecial 1, 3) := by decide +kernel
theorem d_Mo_init_4 : decode b_Mo_init 4 = .ok (.aload_n 0, 1) := by decide +kernel
theorem d_Mo_init_5 : decode b_Mo_init 5 = .ok (.bipush 8, 2) := by decide +kernel
theorem d_Mo_init_7 : decode b_Mo_init 7 = .ok (.newarray .int, 2) := by decide +kernel
theorem d_Mo_init_9 : decode b_Mo_init 9 = .ok (.putfield 7, 3) := by decide +kernel
theorem d_Mo_init_12 : decode b_Mo_init 12 = .ok (.aload_n 0, 1) := by decide +kernel
theorem d_Mo_init_13 : decode b_Mo_init 13 = .ok (.bipush 8, 2) := by decide +kernel
theorem d_Mo_init_15 : decode b_Mo_init 15 = .ok (.newarray .int, 2) := by decide +kernel
theorem d_Mo_init_17 : decode b_Mo_init 17 = .ok (.putfield 13, 3) := by decide +kernel
theorem d_Mo_init_20 : decode b_Mo_init 20 = .ok (.aload_n 0, 1) := by decide +kernel
theorem d_Mo_init_21 : decode b_Mo_init 21 = .ok (.bipush 24, 2) := by decide +kernel
theorem d_Mo_init_23 : decode b_Mo_init 23 = .ok (.newarray .int, 2) := by decide +kernel
theorem d_Mo_init_25 : decode b_Mo_init 25 = .ok (.putfield 16, 3) := by decide +kernel
theorem d_Mo_init_28 : decode b_Mo_init 28 = .ok (.aload_n 0, 1) := by decide +kernel
theorem d_Mo_init_29 : decode b_Mo_init 29 = .ok (.bipush 24, 2) := by decide +kernel
theorem d_Mo_init_31 : decode b_Mo_init 31 = .ok (.newarray .int, 2) := by decide +kernel
theorem d_Mo_init_33 : decode b_Mo_init 33 = .ok (.putfield 19, 3) := by decide +kernel
theorem d_Mo_init_36 : decode b_Mo_init 36 = .ok (.aload_n 0, 1) := by decide +kernel
theorem d_Mo_init_37 : decode b_Mo_init 37 = .ok (.bipush 24, 2) := by decide +kernel
theorem d_Mo_init_39 : decode b_Mo_init 39 = .ok (.newarray .int, 2) := by decide +kernel
theorem d_Mo_init_41 : decode b_Mo_init 41 = .ok (.putfield 22, 3) := by decide +kernel
theorem d_Mo_init_44 : decode b_Mo_init 44 = .ok (.aload_n 0, 1) := by decide +kernel
theorem d_Mo_init_45 : decode b_Mo_init 45 = .ok (.bipush 24, 2) := by decide +kernel
theorem d_Mo_init_47 : decode b_Mo_init 47 = .ok (.newarray .int, 2) := by decide +kernel
theorem d_Mo_init_49 : decode b_Mo_init 49 = .ok (.putfield 25, 3) := by decide +kernel
theorem d_Mo_init_52 : decode b_Mo_init 52 = .ok (.aload_n 0, 1) := by decide +kernel
theorem d_Mo_init_53 : decode b_Mo_init 53 = .ok (.bipush 24, 2) := by decide +kernel
theorem d_Mo_init_55 : decode b_Mo_init 55 = .ok (.newarray .int, 2) := by decide +kernel
theorem d_Mo_init_57 : decode b_Mo_init 57 = .ok (.putfield 28, 3) := by decide +kernel
theorem d_Mo_init_60 : decode b_Mo_init 60 = .ok (.aload_n 0, 1) := by decide +kernel
theorem d_Mo_init_61 : decode b_Mo_init 61 = .ok (.bipush 24, 2) := by decide +kernel
theorem d_Mo_init_63 : decode b_Mo_init 63 = .ok (.newarray .int, 2) := by decide +kernel
theorem d_Mo_init_65 : decode b_Mo_init 65 = .ok (.putfield 31, 3) := by decide +kernel
theorem d_Mo_init_68 : decode b_Mo_init 68 = .ok (.aload_n 0, 1) := by decide +kernel
theorem d_Mo_init_69 : decode b_Mo_init 69 = .ok (.bipush 24, 2) := by decide +kernel
theorem d_Mo_init_71 : decode b_Mo_init 71 = .ok (.newarray .int, 2) := by decide +kernel
theorem d_Mo_init_73 : decode b_Mo_init 73 = .ok (.putfield 34, 3) := by decide +kernel
theorem d_Mo_init_76 : decode b_Mo_init 76 = .ok (.aload_n 0, 1) := by decide +kernel
theorem d_Mo_init_77 : decode b_Mo_init 77 = .ok (.bipush 24, 2) := by decide +kernel
theorem d_Mo_init_79 : decode b_Mo_init 79 = .ok (.newarray .boolean, 2) := by decide +kernel
theorem d_Mo_init_81 : decode b_Mo_init 81 = .ok (.putfield 37, 3) := by decide +kernel
theorem d_Mo_init_84 : decode b_Mo_init 84 = .ok (.aload_n 0, 1) := by decide +kernel
theorem d_Mo_init_85 : decode b_Mo_init 85 = .ok (.bipush 24, 2) := by decide +kernel
theorem d_Mo_init_87 : decode b_Mo_init 87 = .ok (.newarray .boolean, 2) := by decide +kernel
theorem d_Mo_init_89 : decode b_Mo_init 89 = .ok (.putfield 41, 3) := by decide +kernel
theorem d_Mo_init_92 : decode b_Mo_init 92 = .ok (.aload_n 0, 1) := by decide +kernel
theorem d_Mo_init_93 : decode b_Mo_init 93 = .ok (.bipush 8, 2) := by decide +kernel
theorem d_Mo_init_95 : decode b_Mo_init 95 = .ok (.newarray .boolean, 2) := by decide +kernel
theorem d_Mo_init_97 : decode b_Mo_init 97 = .ok (.putfield 44, 3) := by decide +kernel
theorem d_Mo_init_100 : decode b_Mo_init 100 = .ok (.aload_n 0, 1) := by decide +kernel
theorem d_Mo_init_101 : decode b_Mo_init 101 = .ok (.bipush 120, 2) := by decide +kernel
theorem d_Mo_init_103 : decode b_Mo_init 103 = .ok (.newarray .int, 2) := by decide +kernel
theorem d_Mo_init_105 : decode b_Mo_init 105 = .ok (.putfield 47, 3) := by decide +kernel
theorem d_Mo_init_108 : decode b_Mo_init 108 = .ok (.aload_n 0, 1) := by decide +kernel
theorem d_Mo_init_109 : decode b_Mo_init 109 = .ok (.bipush 120, 2) := by decide +kernel
theorem d_Mo_init_111 : decode b_Mo_init 111 = .ok (.newarray .int, 2) := by decide +kernel
theorem d_Mo_init_113 : decode b_Mo_init 113 = .ok (.putfield 50, 3) := by decide +kernel
theorem d_Mo_init_116 : decode b_Mo_init 116 = .ok (.aload_n 0, 1) := by decide +kernel
theorem d_Mo_init_117 : decode b_Mo_init 117 = .ok (.bipush 120, 2) := by decide +kernel
theorem d_Mo_init_119 : decode b_Mo_init 119 = .ok (.newarray .int, 2) := by decide +kernel
theorem d_Mo_init_121 : decode b_Mo_init 121 = .ok (.putfield 53, 3) := by decide +kernel
theorem d_Mo_init_124 : decode b_Mo_init 124 = .ok (.aload_n 0, 1) := by decide +kernel
theorem d_Mo_init_125 : decode b_Mo_init 125 = .ok (.bipush 120, 2) := by decide +kernel
theorem d_Mo_init_127 : decode b_Mo_init 127 = .ok (.newarray .int, 2) := by decide +kernel
theorem d_Mo_init_129 : decode b_Mo_init 129 = .ok (.putfield 56, 3) := by decide +kernel
theorem d_Mo_init_132 : decode b_Mo_init 132 = .ok (.aload_n 0, 1) := by decide +kernel
theorem d_Mo_init_133 : decode b_Mo_init 133 = .ok (.sipush 144, 3) := by decide +kernel
theorem d_Mo_init_136 : decode b_Mo_init 136 = .ok (.newarray .int, 2) := by decide +kernel
theorem d_Mo_init_138 : decode b_Mo_init 138 = .ok (.putfield 59, 3) := by decide +kernel
theorem d_Mo_init_141 : decode b_Mo_init 141 = .ok (.aload_n 0, 1) := by decide +kernel
theorem d_Mo_init_142 : decode b_Mo_init 142 = .ok (.sipush 144, 3) := by decide +kernel
theorem d_Mo_init_145 : decode b_Mo_init 145 = .ok (.newarray .int, 2) := by decide +kernel
theorem d_Mo_init_147 : decode b_Mo_init 147 = .ok (.putfield 62, 3) := by decide +kernel
theorem d_Mo_init_150 : decode b_Mo_init 150 = .ok (.aload_n 0, 1) := by decide +kernel
theorem d_Mo_init_151 : decode b_Mo_init 151 = .ok (.sipush 144, 3) := by decide +kernel
theorem d_Mo_init_154 : decode b_Mo_init 154 = .ok (.newarray .int, 2) := by decide +kernel
theorem d_Mo_init_156 : decode b_Mo_init 156 = .ok (.putfield 65, 3) := by decide +kernel
theorem d_Mo_init_159 : decode b_Mo_init 159 = .ok (.aload_n 0, 1) := by decide +kernel
theorem d_Mo_init_160 : decode b_Mo_init 160 = .ok (.sipush 144, 3) := by decide +kernel
theorem d_Mo_init_163 : decode b_Mo_init 163 = .ok (.newarray .int, 2) := by decide +kernel
theorem d_Mo_init_165 : decode b_Mo_init 165 = .ok (.putfield 68, 3) := by decide +kernel
theorem d_Mo_init_168 : decode b_Mo_init 168 = .ok (.aload_n 0, 1) := by decide +kernel
theorem d_Mo_init_169 : decode b_Mo_init 169 = .ok (.sipush 144, 3) := by decide +kernel
theorem d_Mo_init_172 : decode b_Mo_init 172 = .ok (.newarray .int, 2) := by decide +kernel
theorem d_Mo_init_174 : decode b_Mo_init 174 = .ok (.putfield 71, 3) := by decide +kernel
theorem d_Mo_init_177 : decode b_Mo_init 177 = .ok (.aload_n 0, 1) := by decide +kernel
theorem d_Mo_init_178 : decode b_Mo_init 178 = .ok (.bipush 120, 2) := by decide +kernel
theorem d_Mo_init_180 : decode b_Mo_init 180 = .ok (.newarray .int, 2) := by decide +kernel
theorem d_Mo_init_182 : decode b_Mo_init 182 = .ok (.putfield 74, 3) := by decide +kernel
theorem d_Mo_init_185 : decode b_Mo_init 185 = .ok (.aload_n 0, 1) := by decide +kernel
theorem d_Mo_init_186 : decode b_Mo_init 186 = .ok (.bipush 24, 2) := by decide +kernel
theorem d_Mo_init_188 : decode b_Mo_init 188 = .ok (.newarray .int, 2) := by decide +kernel
theorem d_Mo_init_190 : decode b_Mo_init 190 = .ok (.putfield 77, 3) := by decide +kernel
theorem d_Mo_init_193 : decode b_Mo_init 193 = .ok (.aload_n 0, 1) := by decide +kernel
theorem d_Mo_init_194 : decode b_Mo_init 194 = .ok (.bipush 8, 2) := by decide +kernel
theorem d_Mo_init_196 : decode b_Mo_init 196 = .ok (.newarray .int, 2) := by decide +kernel
theorem d_Mo_init_198 : decode b_Mo_init 198 = .ok (.putfield 80, 3) := by decide +kernel
theorem d_Mo_init_201 : decode b_Mo_init 201 = .ok (.aload_n 0, 1) := by decide +kernel
theorem d_Mo_init_202 : decode b_Mo_init 202 = .ok (.bipush 17, 2) := by decide +kernel
theorem d_Mo_init_204 : decode b_Mo_init 204 = .ok (.newarray .int, 2) := by decide +kernel
theorem d_Mo_init_206 : decode b_Mo_init 206 = .ok (.putfield 83, 3) := by decide +kernel
theorem d_Mo_init_209 : decode b_Mo_init 209 = .ok (.aload_n 0, 1) := by decide +kernel
theorem d_Mo_init_210 : decode b_Mo_init 210 = .ok (.bipush 17, 2) := by decide +kernel
theorem d_Mo_init_212 : decode b_Mo_init 212 = .ok (.newarray .int, 2) := by decide +kernel
theorem d_Mo_init_214 : decode b_Mo_init 214 = .ok (.putfield 86, 3) := by decide +kernel
theorem d_Mo_init_217 : decode b_Mo_init 217 = .ok (.aload_n 0, 1) := by decide +kernel
theorem d_Mo_init_218 : decode b_Mo_init 218 = .ok (.bipush 17, 2) := by decide +kernel
theorem d_Mo_init_220 : decode b_Mo_init 220 = .ok (.newarray .int, 2) := by decide +kernel
theorem d_Mo_init_222 : decode b_Mo_init 222 = .ok (.putfield 89, 3) := by decide +kernel
theorem d_Mo_init_225 : decode b_Mo_init 225 = .ok (.return_, 1) := by decide +kernel
theorem d_Mo_thrown_0 : decode b_Mo_thrown 0 = .ok (.aload_n 0, 1) := by decide +kernel
theorem d_Mo_thrown_1 : decode b_Mo_thrown 1 = .ok (.getfield 92, 3) := by decide +kernel
theorem d_Mo_thrown_4 : decode b_Mo_thrown 4 = .ok (.ireturn, 1) := by decide +kernel
theorem d_Mo_add_0 : decode b_Mo_add 0 = .ok (.aload_n 0, 1) := by decide +kernel
theorem d_Mo_add_1 : decode b_Mo_add 1 = .ok (.iload_n 1, 1) := by decide +kernel
theorem d_Mo_add_2 : decode b_Mo_add 2 = .ok (.iconst (-1), 1) := by decide +kernel
theorem d_Mo_add_3 : decode b_Mo_add 3 = .ok (.if_icmp .eq 11, 3) := by decide +kernel
theorem d_Mo_add_6 : decode b_Mo_add 6 = .ok (.aload_n 0, 1) := by decide +kernel
theorem d_Mo_add_7 : decode b_Mo_add 7 = .ok (.iload_n 1, 1) := by decide +kernel
theorem d_Mo_add_8 : decode b_Mo_add 8 = .ok (.invokevirtual 106, 3) := by decide +kernel
theorem d_Mo_add_11 : decode b_Mo_add 11 = .ok (.ifCond .eq 7, 3) := by decide +kernel
theorem d_Mo_add_14 : decode b_Mo_add 14 = .ok (.iconst 1, 1) := by decide +kernel
theorem d_Mo_add_15 : decode b_Mo_add 15 = .ok (.goto 4, 3) := by decide +kernel
theorem d_Mo_add_18 : decode b_Mo_add 18 = .ok (.iconst 0, 1) := by decide +kernel
theorem d_Mo_add_19 : decode b_Mo_add 19 = .ok (.invokevirtual 110, 3) := by decide +kernel
theorem d_Mo_add_22 : decode b_Mo_add 22 = .ok (.ifCond .eq 5, 3) := by decide +kernel
theorem d_Mo_add_25 : decode b_Mo_add 25 = .ok (.iconst 0, 1) := by decide +kernel
theorem d_Mo_add_26 : decode b_Mo_add 26 = .ok (.ireturn, 1) := by decide +kernel
theorem d_Mo_add_27 : decode b_Mo_add 27 = .ok (.aload_n 0, 1) := by decide +kernel
theorem d_Mo_add_28 : decode b_Mo_add 28 = .ok (.getfield 96, 3) := by decide +kernel
theorem d_Mo_add_31 : decode b_Mo_add 31 = .ok (.bipush 8, 2) := by decide +kernel
theorem d_Mo_add_33 : decode b_Mo_add 33 = .ok (.if_icmp .ne 9, 3) := by decide +kernel
theorem d_Mo_add_36 : decode b_Mo_add 36 = .ok (.aload_n 0, 1) := by decide +kernel
theorem d_Mo_add_37 : decode b_Mo_add 37 = .ok (.iconst 2, 1) := by decide +kernel
theorem d_Mo_add_38 : decode b_Mo_add 38 = .ok (.invokevirtual 114, 3) := by decide +kernel
theorem d_Mo_add_41 : decode b_Mo_add 41 = .ok (.ireturn, 1) := by decide +kernel
theorem d_Mo_add_42 : decode b_Mo_add 42 = .ok (.aload_n 0, 1) := by decide +kernel
theorem d_Mo_add_43 : decode b_Mo_add 43 = .ok (.getfield 7, 3) := by decide +kernel
theorem d_Mo_add_46 : decode b_Mo_add 46 = .ok (.aload_n 0, 1) := by decide +kernel
theorem d_Mo_add_47 : decode b_Mo_add 47 = .ok (.getfield 96, 3) := by decide +kernel
theorem d_Mo_add_50 : decode b_Mo_add 50 = .ok (.iload_n 1, 1) := by decide +kernel
theorem d_Mo_add_51 : decode b_Mo_add 51 = .ok (.iastore, 1) := by decide +kernel
theorem d_Mo_add_52 : decode b_Mo_add 52 = .ok (.aload_n 0, 1) := by decide +kernel
theorem d_Mo_add_53 : decode b_Mo_add 53 = .ok (.getfield 13, 3) := by decide +kernel
theorem d_Mo_add_56 : decode b_Mo_add 56 = .ok (.aload_n 0, 1) := by decide +kernel
theorem d_Mo_add_57 : decode b_Mo_add 57 = .ok (.getfield 96, 3) := by decide +kernel
theorem d_Mo_add_60 : decode b_Mo_add 60 = .ok (.aload_n 0, 1) := by decide +kernel
theorem d_Mo_add_61 : decode b_Mo_add 61 = .ok (.getfield 96, 3) := by decide +kernel
theorem d_Mo_add_64 : decode b_Mo_add 64 = .ok (.iastore, 1) := by decide +kernel
theorem d_Mo_add_65 : decode b_Mo_add 65 = .ok (.aload_n 0, 1) := by decide +kernel
theorem d_Mo_add_66 : decode b_Mo_add 66 = .ok (.dup, 1) := by decide +kernel
theorem d_Mo_add_67 : decode b_Mo_add 67 = .ok (.getfield 96, 3) := by decide +kernel
theorem d_Mo_add_70 : decode b_Mo_add 70 = .ok (.iconst 1, 1) := by decide +kernel
theorem d_Mo_add_71 : decode b_Mo_add 71 = .ok (.iadd, 1) := by decide +kernel
theorem d_Mo_add_72 : decode b_Mo_add 72 = .ok (.putfield 96, 3) := by decide +kernel
theorem d_Mo_add_75 : decode b_Mo_add 75 = .ok (.aload_n 0, 1) := by decide +kernel
theorem d_Mo_add_76 : decode b_Mo_add 76 = .ok (.getfield 96, 3) := by decide +kernel
theorem d_Mo_add_79 : decode b_Mo_add 79 = .ok (.iconst 1, 1) := by decide +kernel
theorem d_Mo_add_80 : decode b_Mo_add 80 = .ok (.isub, 1) := by decide +kernel
theorem d_Mo_add_81 : decode b_Mo_add 81 = .ok (.ireturn, 1) := by decide +kernel
theorem d_Mo_isClass_0 : decode b_Mo_isClass 0 = .ok (.iload_n 1, 1) := by decide +kernel
theorem d_Mo_isClass_1 : decode b_Mo_isClass 1 = .ok (.iconst 0, 1) := by decide +kernel
theorem d_Mo_isClass_2 : decode b_Mo_isClass 2 = .ok (.aload_n 0, 1) := by decide +kernel
theorem d_Mo_isClass_3 : decode b_Mo_isClass 3 = .ok (.getfield 96, 3) := by decide +kernel
theorem d_Mo_isClass_6 : decode b_Mo_isClass 6 = .ok (.iconst 1, 1) := by decide +kernel
theorem d_Mo_isClass_7 : decode b_Mo_isClass 7 = .ok (.isub, 1) := by decide +kernel
theorem d_Mo_isClass_8 : decode b_Mo_isClass 8 = .ok (.invokestatic 99, 3) := by decide +kernel
theorem d_Mo_isClass_11 : decode b_Mo_isClass 11 = .ok (.ireturn, 1) := by decide +kernel
theorem d_Mo_in_0 : decode b_Mo_in 0 = .ok (.iload_n 0, 1) := by decide +kernel
theorem d_Mo_in_1 : decode b_Mo_in 1 = .ok (.iload_n 1, 1) := by decide +kernel
theorem d_Mo_in_2 : decode b_Mo_in 2 = .ok (.if_icmp .lt 12, 3) := by decide +kernel
theorem d_Mo_in_5 : decode b_Mo_in 5 = .ok (.iload_n 0, 1) := by decide +kernel
theorem d_Mo_in_6 : decode b_Mo_in 6 = .ok (.iload_n 2, 1) := by decide +kernel
theorem d_Mo_in_7 : decode b_Mo_in 7 = .ok (.if_icmp .gt 7, 3) := by decide +kernel
theorem d_Mo_in_10 : decode b_Mo_in 10 = .ok (.iconst 1, 1) := by decide +kernel
theorem d_Mo_in_11 : decode b_Mo_in 11 = .ok (.goto 4, 3) := by decide +kernel
theorem d_Mo_in_14 : decode b_Mo_in 14 = .ok (.iconst 0, 1) := by decide +kernel
theorem d_Mo_in_15 : decode b_Mo_in 15 = .ok (.ireturn, 1) := by decide +kernel
theorem d_Mo_bad_0 : decode b_Mo_bad 0 = .ok (.aload_n 0, 1) := by decide +kernel
theorem d_Mo_bad_1 : decode b_Mo_bad 1 = .ok (.iload_n 1, 1) := by decide +kernel
theorem d_Mo_bad_2 : decode b_Mo_bad 2 = .ok (.ifCond .eq 7, 3) := by decide +kernel
theorem d_Mo_bad_5 : decode b_Mo_bad 5 = .ok (.iconst 0, 1) := by decide +kernel
theorem d_Mo_bad_6 : decode b_Mo_bad 6 = .ok (.goto 4, 3) := by decide +kernel
theorem d_Mo_bad_9 : decode b_Mo_bad 9 = .ok (.iconst 1, 1) := by decide +kernel
theorem d_Mo_bad_10 : decode b_Mo_bad 10 = .ok (.putfield 92, 3) := by decide +kernel
theorem d_Mo_bad_13 : decode b_Mo_bad 13 = .ok (.iload_n 1, 1) := by decide +kernel
theorem d_Mo_bad_14 : decode b_Mo_bad 14 = .ok (.ifCond .ne 7, 3) := by decide +kernel
theorem d_Mo_bad_17 : decode b_Mo_bad 17 = .ok (.iconst 1, 1) := by decide +kernel
theorem d_Mo_bad_18 : decode b_Mo_bad 18 = .ok (.goto 4, 3) := by decide +kernel
theorem d_Mo_bad_21 : decode b_Mo_bad 21 = .ok (.iconst 0, 1) := by decide +kernel
theorem d_Mo_bad_22 : decode b_Mo_bad 22 = .ok (.ireturn, 1) := by decide +kernel
theorem d_Mo_fail_0 : decode b_Mo_fail 0 = .ok (.aload_n 0, 1) := by decide +kernel
theorem d_Mo_fail_1 : decode b_Mo_fail 1 = .ok (.iload_n 1, 1) := by decide +kernel
theorem d_Mo_fail_2 : decode b_Mo_fail 2 = .ok (.putfield 92, 3) := by decide +kernel
theorem d_Mo_fail_5 : decode b_Mo_fail 5 = .ok (.iconst 0, 1) := by decide +kernel
theorem d_Mo_fail_6 : decode b_Mo_fail 6 = .ok (.ireturn, 1) := by decide +kernel
theorem d_Mo_method_0 : decode b_Mo_method 0 = .ok (.aload_n 0, 1) := by decide +kernel
theorem d_Mo_method_1 : decode b_Mo_method 1 = .ok (.aload_n 0, 1) := by decide +kernel
theorem d_Mo_method_2 : decode b_Mo_method 2 = .ok (.iload_n 1, 1) := by decide +kernel
theorem d_Mo_method_3 : decode b_Mo_method 3 = .ok (.invokevirtual 106, 3) := by decide +kernel
theorem d_Mo_method_6 : decode b_Mo_method 6 = .ok (.ifCond .eq 26, 3) := by decide +kernel
theorem d_Mo_method_9 : decode b_Mo_method 9 = .ok (.iload_n 2, 1) := by decide +kernel
theorem d_Mo_method_10 : decode b_Mo_method 10 = .ok (.iconst 0, 1) := by decide +kernel
theorem d_Mo_method_11 : decode b_Mo_method 11 = .ok (.bipush 25, 2) := by decide +kernel
theorem d_Mo_method_13 : decode b_Mo_method 13 = .ok (.invokestatic 99, 3) := by decide +kernel
theorem d_Mo_method_16 : decode b_Mo_method 16 = .ok (.ifCond .eq 16, 3) := by decide +kernel
theorem d_Mo_method_19 : decode b_Mo_method 19 = .ok (.iload_n 3, 1) := by decide +kernel
theorem d_Mo_method_20 : decode b_Mo_method 20 = .ok (.iconst 0, 1) := by decide +kernel
theorem d_Mo_method_21 : decode b_Mo_method 21 = .ok (.iconst 2, 1) := by decide +kernel
theorem d_Mo_method_22 : decode b_Mo_method 22 = .ok (.invokestatic 99, 3) := by decide +kernel
theorem d_Mo_method_25 : decode b_Mo_method 25 = .ok (.ifCond .eq 7, 3) := by decide +kernel
theorem d_Mo_method_28 : decode b_Mo_method 28 = .ok (.iconst 1, 1) := by decide +kernel
theorem d_Mo_method_29 : decode b_Mo_method 29 = .ok (.goto 4, 3) := by decide +kernel
theorem d_Mo_method_32 : decode b_Mo_method 32 = .ok (.iconst 0, 1) := by decide +kernel
theorem d_Mo_method_33 : decode b_Mo_method 33 = .ok (.invokevirtual 110, 3) := by decide +kernel
theorem d_Mo_method_36 : decode b_Mo_method 36 = .ok (.ifCond .eq 5, 3) := by decide +kernel
theorem d_Mo_method_39 : decode b_Mo_method 39 = .ok (.iconst 0, 1) := by decide +kernel
theorem d_Mo_method_40 : decode b_Mo_method 40 = .ok (.ireturn, 1) := by decide +kernel
theorem d_Mo_method_41 : decode b_Mo_method 41 = .ok (.aload_n 0, 1) := by decide +kernel
theorem d_Mo_method_42 : decode b_Mo_method 42 = .ok (.getfield 103, 3) := by decide +kernel
theorem d_Mo_method_45 : decode b_Mo_method 45 = .ok (.bipush 24, 2) := by decide +kernel
theorem d_Mo_method_47 : decode b_Mo_method 47 = .ok (.if_icmp .eq 13, 3) := by decide +kernel
theorem d_Mo_method_50 : decode b_Mo_method 50 = .ok (.aload_n 0, 1) := by decide +kernel
theorem d_Mo_method_51 : decode b_Mo_method 51 = .ok (.iload_n 1, 1) := by decide +kernel
theorem d_Mo_method_52 : decode b_Mo_method 52 = .ok (.iload_n 2, 1) := by decide +kernel
theorem d_Mo_method_53 : decode b_Mo_method 53 = .ok (.iload_n 3, 1) := by decide +kernel
theorem d_Mo_method_54 : decode b_Mo_method 54 = .ok (.invokevirtual 118, 3) := by decide +kernel
theorem d_Mo_method_57 : decode b_Mo_method 57 = .ok (.ifCond .lt 9, 3) := by decide +kernel
theorem d_Mo_method_60 : decode b_Mo_method 60 = .ok (.aload_n 0, 1) := by decide +kernel
theorem d_Mo_method_61 : decode b_Mo_method 61 = .ok (.iconst 2, 1) := by decide +kernel
theorem d_Mo_method_62 : decode b_Mo_method 62 = .ok (.invokevirtual 114, 3) := by decide +kernel
theorem d_Mo_method_65 : decode b_Mo_method 65 = .ok (.ireturn, 1) := by decide +kernel
theorem d_Mo_method_66 : decode b_Mo_method 66 = .ok (.aload_n 0, 1) := by decide +kernel
theorem d_Mo_method_67 : decode b_Mo_method 67 = .ok (.getfield 16, 3) := by decide +kernel
theorem d_Mo_method_70 : decode b_Mo_method 70 = .ok (.aload_n 0, 1) := by decide +kernel
theorem d_Mo_method_71 : decode b_Mo_method 71 = .ok (.getfield 103, 3) := by decide +kernel
theorem d_Mo_method_74 : decode b_Mo_method 74 = .ok (.iload_n 1, 1) := by decide +kernel
theorem d_Mo_method_75 : decode b_Mo_method 75 = .ok (.iastore, 1) := by decide +kernel
theorem d_Mo_method_76 : decode b_Mo_method 76 = .ok (.aload_n 0, 1) := by decide +kernel
theorem d_Mo_method_77 : decode b_Mo_method 77 = .ok (.getfield 19, 3) := by decide +kernel
theorem d_Mo_method_80 : decode b_Mo_method 80 = .ok (.aload_n 0, 1) := by decide +kernel
theorem d_Mo_method_81 : decode b_Mo_method 81 = .ok (.getfield 103, 3) := by decide +kernel
theorem d_Mo_method_84 : decode b_Mo_method 84 = .ok (.iload_n 2, 1) := by decide +kernel
theorem d_Mo_method_85 : decode b_Mo_method 85 = .ok (.iastore, 1) := by decide +kernel
theorem d_Mo_method_86 : decode b_Mo_method 86 = .ok (.aload_n 0, 1) := by decide +kernel
theorem d_Mo_method_87 : decode b_Mo_method 87 = .ok (.getfield 22, 3) := by decide +kernel
theorem d_Mo_method_90 : decode b_Mo_method 90 = .ok (.aload_n 0, 1) := by decide +kernel
theorem d_Mo_method_91 : decode b_Mo_method 91 = .ok (.getfield 103, 3) := by decide +kernel
theorem d_Mo_method_94 : decode b_Mo_method 94 = .ok (.iload_n 3, 1) := by decide +kernel
theorem d_Mo_method_95 : decode b_Mo_method 95 = .ok (.iastore, 1) := by decide +kernel
theorem d_Mo_method_96 : decode b_Mo_method 96 = .ok (.aload_n 0, 1) := by decide +kernel
theorem d_Mo_method_97 : decode b_Mo_method 97 = .ok (.getfield 25, 3) := by decide +kernel
theorem d_Mo_method_100 : decode b_Mo_method 100 = .ok (.aload_n 0, 1) := by decide +kernel
theorem d_Mo_method_101 : decode b_Mo_method 101 = .ok (.getfield 103, 3) := by decide +kernel
theorem d_Mo_method_104 : decode b_Mo_method 104 = .ok (.iconst 0, 1) := by decide +kernel
theorem d_Mo_method_105 : decode b_Mo_method 105 = .ok (.iastore, 1) := by decide +kernel
theorem d_Mo_method_106 : decode b_Mo_method 106 = .ok (.aload_n 0, 1) := by decide +kernel
theorem d_Mo_method_107 : decode b_Mo_method 107 = .ok (.getfield 37, 3) := by decide +kernel
theorem d_Mo_method_110 : decode b_Mo_method 110 = .ok (.aload_n 0, 1) := by decide +kernel
theorem d_Mo_method_111 : decode b_Mo_method 111 = .ok (.getfield 103, 3) := by decide +kernel
theorem d_Mo_method_114 : decode b_Mo_method 114 = .ok (.iconst 0, 1) := by decide +kernel
theorem d_Mo_method_115 : decode b_Mo_method 115 = .ok (.bastore, 1) := by decide +kernel
theorem d_Mo_method_116 : decode b_Mo_method 116 = .ok (.aload_n 0, 1) := by decide +kernel
theorem d_Mo_method_117 : decode b_Mo_method 117 = .ok (.getfield 28, 3) := by decide +kernel
theorem d_Mo_method_120 : decode b_Mo_method 120 = .ok (.aload_n 0, 1) := by decide +kernel
theorem d_Mo_method_121 : decode b_Mo_method 121 = .ok (.getfield 103, 3) := by decide +kernel
theorem d_Mo_method_124 : decode b_Mo_method 124 = .ok (.aload_n 0, 1) := by decide +kernel
theorem d_Mo_method_125 : decode b_Mo_method 125 = .ok (.getfield 103, 3) := by decide +kernel
theorem d_Mo_method_128 : decode b_Mo_method 128 = .ok (.iastore, 1) := by decide +kernel
theorem d_Mo_method_129 : decode b_Mo_method 129 = .ok (.aload_n 0, 1) := by decide +kernel
theorem d_Mo_method_130 : decode b_Mo_method 130 = .ok (.getfield 31, 3) := by decide +kernel
theorem d_Mo_method_133 : decode b_Mo_method 133 = .ok (.aload_n 0, 1) := by decide +kernel
theorem d_Mo_method_134 : decode b_Mo_method 134 = .ok (.getfield 103, 3) := by decide +kernel
theorem d_Mo_method_137 : decode b_Mo_method 137 = .ok (.iload_n 2, 1) := by decide +kernel
theorem d_Mo_method_138 : decode b_Mo_method 138 = .ok (.iastore, 1) := by decide +kernel
theorem d_Mo_method_139 : decode b_Mo_method 139 = .ok (.aload_n 0, 1) := by decide +kernel
theorem d_Mo_method_140 : decode b_Mo_method 140 = .ok (.getfield 34, 3) := by decide +kernel
theorem d_Mo_method_143 : decode b_Mo_method 143 = .ok (.aload_n 0, 1) := by decide +kernel
theorem d_Mo_method_144 : decode b_Mo_method 144 = .ok (.getfield 103, 3) := by decide +kernel
theorem d_Mo_method_147 : decode b_Mo_method 147 = .ok (.aload_n 0, 1) := by decide +kernel
theorem d_Mo_method_148 : decode b_Mo_method 148 = .ok (.getfield 13, 3) := by decide +kernel
theorem d_Mo_method_151 : decode b_Mo_method 151 = .ok (.iload_n 1, 1) := by decide +kernel
theorem d_Mo_method_152 : decode b_Mo_method 152 = .ok (.iaload, 1) := by decide +kernel
theorem d_Mo_method_153 : decode b_Mo_method 153 = .ok (.iastore, 1) := by decide +kernel
theorem d_Mo_method_154 : decode b_Mo_method 154 = .ok (.aload_n 0, 1) := by decide +kernel
theorem d_Mo_method_155 : decode b_Mo_method 155 = .ok (.dup, 1) := by decide +kernel
theorem d_Mo_method_156 : decode b_Mo_method 156 = .ok (.getfield 103, 3) := by decide +kernel
theorem d_Mo_method_159 : decode b_Mo_method 159 = .ok (.iconst 1, 1) := by decide +kernel
theorem d_Mo_method_160 : decode b_Mo_method 160 = .ok (.iadd, 1) := by decide +kernel
theorem d_Mo_method_161 : decode b_Mo_method 161 = .ok (.putfield 103, 3) := by decide +kernel
theorem d_Mo_method_164 : decode b_Mo_method 164 = .ok (.aload_n 0, 1) := by decide +kernel
theorem d_Mo_method_165 : decode b_Mo_method 165 = .ok (.getfield 103, 3) := by decide +kernel
theorem d_Mo_method_168 : decode b_Mo_method 168 = .ok (.iconst 1, 1) := by decide +kernel
theorem d_Mo_method_169 : decode b_Mo_method 169 = .ok (.isub, 1) := by decide +kernel
theorem d_Mo_method_170 : decode b_Mo_method 170 = .ok (.ireturn, 1) := by decide +kernel
theorem d_Mo_own_0 : decode b_Mo_own 0 = .ok (.iconst 0, 1) := by decide +kernel
theorem d_Mo_own_1 : decode b_Mo_own 1 = .ok (.istore 4, 2) := by decide +kernel
theorem d_Mo_own_3 : decode b_Mo_own 3 = .ok (.iload 4, 2) := by decide +kernel
theorem d_Mo_own_5 : decode b_Mo_own 5 = .ok (.aload_n 0, 1) := by decide +kernel
theorem d_Mo_own_6 : decode b_Mo_own 6 = .ok (.getfield 103, 3) := by decide +kernel
theorem d_Mo_own_9 : decode b_Mo_own 9 = .ok (.if_icmp .ge 45, 3) := by decide +kernel
theorem d_Mo_own_12 : decode b_Mo_own 12 = .ok (.aload_n 0, 1) := by decide +kernel
theorem d_Mo_own_13 : decode b_Mo_own 13 = .ok (.getfield 16, 3) := by decide +kernel
theorem d_Mo_own_16 : decode b_Mo_own 16 = .ok (.iload 4, 2) := by decide +kernel
theorem d_Mo_own_18 : decode b_Mo_own 18 = .ok (.iaload, 1) := by decide +kernel
theorem d_Mo_own_19 : decode b_Mo_own 19 = .ok (.iload_n 1, 1) := by decide +kernel
theorem d_Mo_own_20 : decode b_Mo_own 20 = .ok (.if_icmp .ne 28, 3) := by decide +kernel
theorem d_Mo_own_23 : decode b_Mo_own 23 = .ok (.aload_n 0, 1) := by decide +kernel
theorem d_Mo_own_24 : decode b_Mo_own 24 = .ok (.getfield 19, 3) := by decide +kernel
theorem d_Mo_own_27 : decode b_Mo_own 27 = .ok (.iload 4, 2) := by decide +kernel
theorem d_Mo_own_29 : decode b_Mo_own 29 = .ok (.iaload, 1) := by decide +kernel
theorem d_Mo_own_30 : decode b_Mo_own 30 = .ok (.iload_n 2, 1) := by decide +kernel
theorem d_Mo_own_31 : decode b_Mo_own 31 = .ok (.if_icmp .ne 17, 3) := by decide +kernel
theorem d_Mo_own_34 : decode b_Mo_own 34 = .ok (.aload_n 0, 1) := by decide +kernel
theorem d_Mo_own_35 : decode b_Mo_own 35 = .ok (.getfield 22, 3) := by decide +kernel
theorem d_Mo_own_38 : decode b_Mo_own 38 = .ok (.iload 4, 2) := by decide +kernel
theorem d_Mo_own_40 : decode b_Mo_own 40 = .ok (.iaload, 1) := by decide +kernel
theorem d_Mo_own_41 : decode b_Mo_own 41 = .ok (.iload_n 3, 1) := by decide +kernel
theorem d_Mo_own_42 : decode b_Mo_own 42 = .ok (.if_icmp .ne 6, 3) := by decide +kernel
theorem d_Mo_own_45 : decode b_Mo_own 45 = .ok (.iload 4, 2) := by decide +kernel
theorem d_Mo_own_47 : decode b_Mo_own 47 = .ok (.ireturn, 1) := by decide +kernel
theorem d_Mo_own_48 : decode b_Mo_own 48 = .ok (.iinc 4 1, 3) := by decide +kernel
theorem d_Mo_own_51 : decode b_Mo_own 51 = .ok (.goto (-48), 3) := by decide +kernel
theorem d_Mo_own_54 : decode b_Mo_own 54 = .ok (.iconst (-1), 1) := by decide +kernel
theorem d_Mo_own_55 : decode b_Mo_own 55 = .ok (.ireturn, 1) := by decide +kernel
theorem d_Mo_item_0 : decode b_Mo_item 0 = .ok (.aload_n 0, 1) := by decide +kernel
theorem d_Mo_item_1 : decode b_Mo_item 1 = .ok (.iload_n 1, 1) := by decide +kernel
theorem d_Mo_item_2 : decode b_Mo_item 2 = .ok (.invokevirtual 122, 3) := by decide +kernel
theorem d_Mo_item_5 : decode b_Mo_item 5 = .ok (.ifCond .eq 16, 3) := by decide +kernel
theorem d_Mo_item_8 : decode b_Mo_item 8 = .ok (.iload_n 2, 1) := by decide +kernel
theorem d_Mo_item_9 : decode b_Mo_item 9 = .ok (.iconst 0, 1) := by decide +kernel
theorem d_Mo_item_10 : decode b_Mo_item 10 = .ok (.iconst 2, 1) := by decide +kernel
theorem d_Mo_item_11 : decode b_Mo_item 11 = .ok (.invokestatic 99, 3) := by decide +kernel
theorem d_Mo_item_14 : decode b_Mo_item 14 = .ok (.ifCond .eq 7, 3) := by decide +kernel
theorem d_Mo_item_17 : decode b_Mo_item 17 = .ok (.iconst 1, 1) := by decide +kernel
theorem d_Mo_item_18 : decode b_Mo_item 18 = .ok (.goto 4, 3) := by decide +kernel
theorem d_Mo_item_21 : decode b_Mo_item 21 = .ok (.iconst 0, 1) := by decide +kernel
theorem d_Mo_item_22 : decode b_Mo_item 22 = .ok (.istore 6, 2) := by decide +kernel
theorem d_Mo_item_24 : decode b_Mo_item 24 = .ok (.iload_n 2, 1) := by decide +kernel
theorem d_Mo_item_25 : decode b_Mo_item 25 = .ok (.iconst 1, 1) := by decide +kernel
theorem d_Mo_item_26 : decode b_Mo_item 26 = .ok (.if_icmp .ne 11, 3) := by decide +kernel
theorem d_Mo_item_29 : decode b_Mo_item 29 = .ok (.aload_n 0, 1) := by decide +kernel
theorem d_Mo_item_30 : decode b_Mo_item 30 = .ok (.iload_n 3, 1) := by decide +kernel
theorem d_Mo_item_31 : decode b_Mo_item 31 = .ok (.invokevirtual 106, 3) := by decide +kernel
theorem d_Mo_item_34 : decode b_Mo_item 34 = .ok (.ifCond .eq 28, 3) := by decide +kernel
theorem d_Mo_item_37 : decode b_Mo_item 37 = .ok (.iload_n 2, 1) := by decide +kernel
theorem d_Mo_item_38 : decode b_Mo_item 38 = .ok (.ifCond .le 27, 3) := by decide +kernel
theorem d_Mo_item_41 : decode b_Mo_item 41 = .ok (.iload 4, 2) := by decide +kernel
theorem d_Mo_item_43 : decode b_Mo_item 43 = .ok (.iconst 0, 1) := by decide +kernel
theorem d_Mo_item_44 : decode b_Mo_item 44 = .ok (.bipush 25, 2) := by decide +kernel
theorem d_Mo_item_46 : decode b_Mo_item 46 = .ok (.invokestatic 99, 3) := by decide +kernel
theorem d_Mo_item_49 : decode b_Mo_item 49 = .ok (.ifCond .eq 13, 3) := by decide +kernel
theorem d_Mo_item_52 : decode b_Mo_item 52 = .ok (.iload 5, 2) := by decide +kernel
theorem d_Mo_item_54 : decode b_Mo_item 54 = .ok (.iconst 0, 1) := by decide +kernel
theorem d_Mo_item_55 : decode b_Mo_item 55 = .ok (.iconst 2, 1) := by decide +kernel
theorem d_Mo_item_56 : decode b_Mo_item 56 = .ok (.invokestatic 99, 3) := by decide +kernel
theorem d_Mo_item_59 : decode b_Mo_item 59 = .ok (.ifCond .ne 6, 3) := by decide +kernel
theorem d_Mo_item_62 : decode b_Mo_item 62 = .ok (.iconst 0, 1) := by decide +kernel
theorem d_Mo_item_63 : decode b_Mo_item 63 = .ok (.istore 6, 2) := by decide +kernel
theorem d_Mo_item_65 : decode b_Mo_item 65 = .ok (.aload_n 0, 1) := by decide +kernel
theorem d_Mo_item_66 : decode b_Mo_item 66 = .ok (.iload 6, 2) := by decide +kernel
theorem d_Mo_item_68 : decode b_Mo_item 68 = .ok (.invokevirtual 110, 3) := by decide +kernel
theorem d_Mo_item_71 : decode b_Mo_item 71 = .ok (.ifCond .eq 5, 3) := by decide +kernel
theorem d_Mo_item_74 : decode b_Mo_item 74 = .ok (.iconst 0, 1) := by decide +kernel
theorem d_Mo_item_75 : decode b_Mo_item 75 = .ok (.ireturn, 1) := by decide +kernel
theorem d_Mo_item_76 : decode b_Mo_item 76 = .ok (.aload_n 0, 1) := by decide +kernel
theorem d_Mo_item_77 : decode b_Mo_item 77 = .ok (.getfield 25, 3) := by decide +kernel
theorem d_Mo_item_80 : decode b_Mo_item 80 = .ok (.iload_n 1, 1) := by decide +kernel
theorem d_Mo_item_81 : decode b_Mo_item 81 = .ok (.iaload, 1) := by decide +kernel
theorem d_Mo_item_82 : decode b_Mo_item 82 = .ok (.iconst 5, 1) := by decide +kernel
theorem d_Mo_item_83 : decode b_Mo_item 83 = .ok (.if_icmp .ne 9, 3) := by decide +kernel
theorem d_Mo_item_86 : decode b_Mo_item 86 = .ok (.aload_n 0, 1) := by decide +kernel
theorem d_Mo_item_87 : decode b_Mo_item 87 = .ok (.iconst 2, 1) := by decide +kernel
theorem d_Mo_item_88 : decode b_Mo_item 88 = .ok (.invokevirtual 114, 3) := by decide +kernel
theorem d_Mo_item_91 : decode b_Mo_item 91 = .ok (.ireturn, 1) := by decide +kernel
theorem d_Mo_item_92 : decode b_Mo_item 92 = .ok (.iload_n 1, 1) := by decide +kernel
theorem d_Mo_item_93 : decode b_Mo_item 93 = .ok (.iconst 5, 1) := by decide +kernel
theorem d_Mo_item_94 : decode b_Mo_item 94 = .ok (.imul, 1) := by decide +kernel
theorem d_Mo_item_95 : decode b_Mo_item 95 = .ok (.aload_n 0, 1) := by decide +kernel
theorem d_Mo_item_96 : decode b_Mo_item 96 = .ok (.getfield 25, 3) := by decide +kernel
theorem d_Mo_item_99 : decode b_Mo_item 99 = .ok (.iload_n 1, 1) := by decide +kernel
theorem d_Mo_item_100 : decode b_Mo_item 100 = .ok (.iaload, 1) := by decide +kernel
theorem d_Mo_item_101 : decode b_Mo_item 101 = .ok (.iadd, 1) := by decide +kernel
theorem d_Mo_item_102 : decode b_Mo_item 102 = .ok (.istore 7, 2) := by decide +kernel
theorem d_Mo_item_104 : decode b_Mo_item 104 = .ok (.aload_n 0, 1) := by decide +kernel
theorem d_Mo_item_105 : decode b_Mo_item 105 = .ok (.getfield 47, 3) := by decide +kernel
theorem d_Mo_item_108 : decode b_Mo_item 108 = .ok (.iload 7, 2) := by decide +kernel
theorem d_Mo_item_110 : decode b_Mo_item 110 = .ok (.iload_n 2, 1) := by decide +kernel
theorem d_Mo_item_111 : decode b_Mo_item 111 = .ok (.iastore, 1) := by decide +kernel
theorem d_Mo_item_112 : decode b_Mo_item 112 = .ok (.aload_n 0, 1) := by decide +kernel
theorem d_Mo_item_113 : decode b_Mo_item 113 = .ok (.getfield 50, 3) := by decide +kernel
theorem d_Mo_item_116 : decode b_Mo_item 116 = .ok (.iload 7, 2) := by decide +kernel
theorem d_Mo_item_118 : decode b_Mo_item 118 = .ok (.iload_n 2, 1) := by decide +kernel
theorem d_Mo_item_119 : decode b_Mo_item 119 = .ok (.iconst 2, 1) := by decide +kernel
theorem d_Mo_item_120 : decode b_Mo_item 120 = .ok (.if_icmp .ne 7, 3) := by decide +kernel
theorem d_Mo_item_123 : decode b_Mo_item 123 = .ok (.iconst (-1), 1) := by decide +kernel
theorem d_Mo_item_124 : decode b_Mo_item 124 = .ok (.goto 4, 3) := by decide +kernel
theorem d_Mo_item_127 : decode b_Mo_item 127 = .ok (.iload_n 3, 1) := by decide +kernel
theorem d_Mo_item_128 : decode b_Mo_item 128 = .ok (.iastore, 1) := by decide +kernel
theorem d_Mo_item_129 : decode b_Mo_item 129 = .ok (.aload_n 0, 1) := by decide +kernel
theorem d_Mo_item_130 : decode b_Mo_item 130 = .ok (.getfield 53, 3) := by decide +kernel
theorem d_Mo_item_133 : decode b_Mo_item 133 = .ok (.iload 7, 2) := by decide +kernel
theorem d_Mo_item_135 : decode b_Mo_item 135 = .ok (.iload_n 2, 1) := by decide +kernel
theorem d_Mo_item_136 : decode b_Mo_item 136 = .ok (.ifCond .ne 7, 3) := by decide +kernel
theorem d_Mo_item_139 : decode b_Mo_item 139 = .ok (.iconst (-1), 1) := by decide +kernel
theorem d_Mo_item_140 : decode b_Mo_item 140 = .ok (.goto 5, 3) := by decide +kernel
theorem d_Mo_item_143 : decode b_Mo_item 143 = .ok (.iload 4, 2) := by decide +kernel
theorem d_Mo_item_145 : decode b_Mo_item 145 = .ok (.iastore, 1) := by decide +kernel
theorem d_Mo_item_146 : decode b_Mo_item 146 = .ok (.aload_n 0, 1) := by decide +kernel
theorem d_Mo_item_147 : decode b_Mo_item 147 = .ok (.getfield 56, 3) := by decide +kernel
theorem d_Mo_item_150 : decode b_Mo_item 150 = .ok (.iload 7, 2) := by decide +kernel
theorem d_Mo_item_152 : decode b_Mo_item 152 = .ok (.iload_n 2, 1) := by decide +kernel
theorem d_Mo_item_153 : decode b_Mo_item 153 = .ok (.ifCond .ne 7, 3) := by decide +kernel
theorem d_Mo_item_156 : decode b_Mo_item 156 = .ok (.iconst (-1), 1) := by decide +kernel
theorem d_Mo_item_157 : decode b_Mo_item 157 = .ok (.goto 5, 3) := by decide +kernel
theorem d_Mo_item_160 : decode b_Mo_item 160 = .ok (.iload 5, 2) := by decide +kernel
theorem d_Mo_item_162 : decode b_Mo_item 162 = .ok (.iastore, 1) := by decide +kernel
theorem d_Mo_item_163 : decode b_Mo_item 163 = .ok (.aload_n 0, 1) := by decide +kernel
theorem d_Mo_item_164 : decode b_Mo_item 164 = .ok (.getfield 25, 3) := by decide +kernel
theorem d_Mo_item_167 : decode b_Mo_item 167 = .ok (.iload_n 1, 1) := by decide +kernel
theorem d_Mo_item_168 : decode b_Mo_item 168 = .ok (.dup2, 1) := by decide +kernel
theorem d_Mo_item_169 : decode b_Mo_item 169 = .ok (.iaload, 1) := by decide +kernel
theorem d_Mo_item_170 : decode b_Mo_item 170 = .ok (.iconst 1, 1) := by decide +kernel
theorem d_Mo_item_171 : decode b_Mo_item 171 = .ok (.iadd, 1) := by decide +kernel
theorem d_Mo_item_172 : decode b_Mo_item 172 = .ok (.iastore, 1) := by decide +kernel
theorem d_Mo_item_173 : decode b_Mo_item 173 = .ok (.aload_n 0, 1) := by decide +kernel
theorem d_Mo_item_174 : decode b_Mo_item 174 = .ok (.getfield 25, 3) := by decide +kernel
theorem d_Mo_item_177 : decode b_Mo_item 177 = .ok (.iload_n 1, 1) := by decide +kernel
theorem d_Mo_item_178 : decode b_Mo_item 178 = .ok (.iaload, 1) := by decide +kernel
theorem d_Mo_item_179 : decode b_Mo_item 179 = .ok (.ireturn, 1) := by decide +kernel
theorem d_Mo_isMethod_0 : decode b_Mo_isMethod 0 = .ok (.iload_n 1, 1) := by decide +kernel
theorem d_Mo_isMethod_1 : decode b_Mo_isMethod 1 = .ok (.iconst 0, 1) := by decide +kernel
theorem d_Mo_isMethod_2 : decode b_Mo_isMethod 2 = .ok (.aload_n 0, 1) := by decide +kernel
theorem d_Mo_isMethod_3 : decode b_Mo_isMethod 3 = .ok (.getfield 103, 3) := by decide +kernel
theorem d_Mo_isMethod_6 : decode b_Mo_isMethod 6 = .ok (.iconst 1, 1) := by decide +kernel
theorem d_Mo_isMethod_7 : decode b_Mo_isMethod 7 = .ok (.isub, 1) := by decide +kernel
theorem d_Mo_isMethod_8 : decode b_Mo_isMethod 8 = .ok (.invokestatic 99, 3) := by decide +kernel
theorem d_Mo_isMethod_11 : decode b_Mo_isMethod 11 = .ok (.ireturn, 1) := by decide +kernel
theorem d_Mo_keep_0 : decode b_Mo_keep 0 = .ok (.aload_n 0, 1) := by decide +kernel
theorem d_Mo_keep_1 : decode b_Mo_keep 1 = .ok (.aload_n 0, 1) := by decide +kernel
theorem d_Mo_keep_2 : decode b_Mo_keep 2 = .ok (.iload_n 1, 1) := by decide +kernel
theorem d_Mo_keep_3 : decode b_Mo_keep 3 = .ok (.invokevirtual 122, 3) := by decide +kernel
theorem d_Mo_keep_6 : decode b_Mo_keep 6 = .ok (.invokevirtual 110, 3) := by decide +kernel
theorem d_Mo_keep_9 : decode b_Mo_keep 9 = .ok (.ifCond .eq 4, 3) := by decide +kernel
theorem d_Mo_keep_12 : decode b_Mo_keep 12 = .ok (.return_, 1) := by decide +kernel
theorem d_Mo_keep_13 : decode b_Mo_keep 13 = .ok (.aload_n 0, 1) := by decide +kernel
theorem d_Mo_keep_14 : decode b_Mo_keep 14 = .ok (.getfield 37, 3) := by decide +kernel
theorem d_Mo_keep_17 : decode b_Mo_keep 17 = .ok (.iload_n 1, 1) := by decide +kernel
theorem d_Mo_keep_18 : decode b_Mo_keep 18 = .ok (.iload_n 2, 1) := by decide +kernel
theorem d_Mo_keep_19 : decode b_Mo_keep 19 = .ok (.bastore, 1) := by decide +kernel
theorem d_Mo_keep_20 : decode b_Mo_keep 20 = .ok (.return_, 1) := by decide +kernel
theorem d_Mo_run_0 : decode b_Mo_run 0 = .ok (.aload_n 0, 1) := by decide +kernel
theorem d_Mo_run_1 : decode b_Mo_run 1 = .ok (.aload_n 0, 1) := by decide +kernel
theorem d_Mo_run_2 : decode b_Mo_run 2 = .ok (.iload_n 1, 1) := by decide +kernel
theorem d_Mo_run_3 : decode b_Mo_run 3 = .ok (.invokevirtual 106, 3) := by decide +kernel
theorem d_Mo_run_6 : decode b_Mo_run 6 = .ok (.ifCond .eq 26, 3) := by decide +kernel
theorem d_Mo_run_9 : decode b_Mo_run 9 = .ok (.iload_n 2, 1) := by decide +kernel
theorem d_Mo_run_10 : decode b_Mo_run 10 = .ok (.iconst 0, 1) := by decide +kernel
theorem d_Mo_run_11 : decode b_Mo_run 11 = .ok (.bipush 25, 2) := by decide +kernel
theorem d_Mo_run_13 : decode b_Mo_run 13 = .ok (.invokestatic 99, 3) := by decide +kernel
theorem d_Mo_run_16 : decode b_Mo_run 16 = .ok (.ifCond .eq 16, 3) := by decide +kernel
theorem d_Mo_run_19 : decode b_Mo_run 19 = .ok (.iload_n 3, 1) := by decide +kernel
theorem d_Mo_run_20 : decode b_Mo_run 20 = .ok (.iconst 0, 1) := by decide +kernel
theorem d_Mo_run_21 : decode b_Mo_run 21 = .ok (.iconst 2, 1) := by decide +kernel
theorem d_Mo_run_22 : decode b_Mo_run 22 = .ok (.invokestatic 99, 3) := by decide +kernel
theorem d_Mo_run_25 : decode b_Mo_run 25 = .ok (.ifCond .eq 7, 3) := by decide +kernel
theorem d_Mo_run_28 : decode b_Mo_run 28 = .ok (.iconst 1, 1) := by decide +kernel
theorem d_Mo_run_29 : decode b_Mo_run 29 = .ok (.goto 4, 3) := by decide +kernel
theorem d_Mo_run_32 : decode b_Mo_run 32 = .ok (.iconst 0, 1) := by decide +kernel
theorem d_Mo_run_33 : decode b_Mo_run 33 = .ok (.invokevirtual 110, 3) := by decide +kernel
theorem d_Mo_run_36 : decode b_Mo_run 36 = .ok (.ifCond .eq 5, 3) := by decide +kernel
theorem d_Mo_run_39 : decode b_Mo_run 39 = .ok (.iconst 0, 1) := by decide +kernel
theorem d_Mo_run_40 : decode b_Mo_run 40 = .ok (.ireturn, 1) := by decide +kernel
theorem d_Mo_run_41 : decode b_Mo_run 41 = .ok (.iconst 0, 1) := by decide +kernel
theorem d_Mo_run_42 : decode b_Mo_run 42 = .ok (.istore 4, 2) := by decide +kernel
theorem d_Mo_run_44 : decode b_Mo_run 44 = .ok (.iconst 0, 1) := by decide +kernel
theorem d_Mo_run_45 : decode b_Mo_run 45 = .ok (.istore 5, 2) := by decide +kernel
theorem d_Mo_run_47 : decode b_Mo_run 47 = .ok (.iconst 0, 1) := by decide +kernel
theorem d_Mo_run_48 : decode b_Mo_run 48 = .ok (.istore 6, 2) := by decide +kernel
theorem d_Mo_run_50 : decode b_Mo_run 50 = .ok (.iload_n 1, 1) := by decide +kernel
theorem d_Mo_run_51 : decode b_Mo_run 51 = .ok (.istore 7, 2) := by decide +kernel
theorem d_Mo_run_53 : decode b_Mo_run 53 = .ok (.iload_n 2, 1) := by decide +kernel
theorem d_Mo_run_54 : decode b_Mo_run 54 = .ok (.istore 8, 2) := by decide +kernel
theorem d_Mo_run_56 : decode b_Mo_run 56 = .ok (.iload_n 3, 1) := by decide +kernel
theorem d_Mo_run_57 : decode b_Mo_run 57 = .ok (.istore 9, 2) := by decide +kernel
theorem d_Mo_run_59 : decode b_Mo_run 59 = .ok (.iconst 1, 1) := by decide +kernel
theorem d_Mo_run_60 : decode b_Mo_run 60 = .ok (.istore 10, 2) := by decide +kernel
theorem d_Mo_run_62 : decode b_Mo_run 62 = .ok (.iload 10, 2) := by decide +kernel
theorem d_Mo_run_64 : decode b_Mo_run 64 = .ok (.ifCond .ne 8, 3) := by decide +kernel
theorem d_Mo_run_67 : decode b_Mo_run 67 = .ok (.iload 4, 2) := by decide +kernel
theorem d_Mo_run_69 : decode b_Mo_run 69 = .ok (.ifCond .le 232, 3) := by decide +kernel
theorem d_Mo_run_72 : decode b_Mo_run 72 = .ok (.iload 10, 2) := by decide +kernel
theorem d_Mo_run_74 : decode b_Mo_run 74 = .ok (.ifCond .eq 71, 3) := by decide +kernel
theorem d_Mo_run_77 : decode b_Mo_run 77 = .ok (.iload 4, 2) := by decide +kernel
theorem d_Mo_run_79 : decode b_Mo_run 79 = .ok (.bipush 16, 2) := by decide +kernel
theorem d_Mo_run_81 : decode b_Mo_run 81 = .ok (.if_icmp .ne 9, 3) := by decide +kernel
theorem d_Mo_run_84 : decode b_Mo_run 84 = .ok (.aload_n 0, 1) := by decide +kernel
theorem d_Mo_run_85 : decode b_Mo_run 85 = .ok (.iconst 3, 1) := by decide +kernel
theorem d_Mo_run_86 : decode b_Mo_run 86 = .ok (.invokevirtual 114, 3) := by decide +kernel
theorem d_Mo_run_89 : decode b_Mo_run 89 = .ok (.ireturn, 1) := by decide +kernel
theorem d_Mo_run_90 : decode b_Mo_run 90 = .ok (.aload_n 0, 1) := by decide +kernel
theorem d_Mo_run_91 : decode b_Mo_run 91 = .ok (.iload 7, 2) := by decide +kernel
theorem d_Mo_run_93 : decode b_Mo_run 93 = .ok (.iload 8, 2) := by decide +kernel
theorem d_Mo_run_95 : decode b_Mo_run 95 = .ok (.iload 9, 2) := by decide +kernel
theorem d_Mo_run_97 : decode b_Mo_run 97 = .ok (.invokevirtual 125, 3) := by decide +kernel
theorem d_Mo_run_100 : decode b_Mo_run 100 = .ok (.istore 11, 2) := by decide +kernel
theorem d_Mo_run_102 : decode b_Mo_run 102 = .ok (.iload 11, 2) := by decide +kernel
theorem d_Mo_run_104 : decode b_Mo_run 104 = .ok (.ifCond .ge 9, 3) := by decide +kernel
theorem d_Mo_run_107 : decode b_Mo_run 107 = .ok (.aload_n 0, 1) := by decide +kernel
theorem d_Mo_run_108 : decode b_Mo_run 108 = .ok (.iconst 2, 1) := by decide +kernel
theorem d_Mo_run_109 : decode b_Mo_run 109 = .ok (.invokevirtual 114, 3) := by decide +kernel
theorem d_Mo_run_112 : decode b_Mo_run 112 = .ok (.ireturn, 1) := by decide +kernel
theorem d_Mo_run_113 : decode b_Mo_run 113 = .ok (.iinc 4 1, 3) := by decide +kernel
theorem d_Mo_run_116 : decode b_Mo_run 116 = .ok (.aload_n 0, 1) := by decide +kernel
theorem d_Mo_run_117 : decode b_Mo_run 117 = .ok (.getfield 83, 3) := by decide +kernel
theorem d_Mo_run_120 : decode b_Mo_run 120 = .ok (.iload 4, 2) := by decide +kernel
theorem d_Mo_run_122 : decode b_Mo_run 122 = .ok (.iload 11, 2) := by decide +kernel
theorem d_Mo_run_124 : decode b_Mo_run 124 = .ok (.iastore, 1) := by decide +kernel
theorem d_Mo_run_125 : decode b_Mo_run 125 = .ok (.aload_n 0, 1) := by decide +kernel
theorem d_Mo_run_126 : decode b_Mo_run 126 = .ok (.getfield 86, 3) := by decide +kernel
theorem d_Mo_run_129 : decode b_Mo_run 129 = .ok (.iload 4, 2) := by decide +kernel
theorem d_Mo_run_131 : decode b_Mo_run 131 = .ok (.iconst 0, 1) := by decide +kernel
theorem d_Mo_run_132 : decode b_Mo_run 132 = .ok (.iastore, 1) := by decide +kernel
theorem d_Mo_run_133 : decode b_Mo_run 133 = .ok (.aload_n 0, 1) := by decide +kernel
theorem d_Mo_run_134 : decode b_Mo_run 134 = .ok (.getfield 89, 3) := by decide +kernel
theorem d_Mo_run_137 : decode b_Mo_run 137 = .ok (.iload 4, 2) := by decide +kernel
theorem d_Mo_run_139 : decode b_Mo_run 139 = .ok (.iload 7, 2) := by decide +kernel
theorem d_Mo_run_141 : decode b_Mo_run 141 = .ok (.iastore, 1) := by decide +kernel
theorem d_Mo_run_142 : decode b_Mo_run 142 = .ok (.iconst 0, 1) := by decide +kernel
theorem d_Mo_run_143 : decode b_Mo_run 143 = .ok (.istore 10, 2) := by decide +kernel
theorem d_Mo_run_145 : decode b_Mo_run 145 = .ok (.aload_n 0, 1) := by decide +kernel
theorem d_Mo_run_146 : decode b_Mo_run 146 = .ok (.getfield 83, 3) := by decide +kernel
theorem d_Mo_run_149 : decode b_Mo_run 149 = .ok (.iload 4, 2) := by decide +kernel
theorem d_Mo_run_151 : decode b_Mo_run 151 = .ok (.iaload, 1) := by decide +kernel
theorem d_Mo_run_152 : decode b_Mo_run 152 = .ok (.istore 11, 2) := by decide +kernel
theorem d_Mo_run_154 : decode b_Mo_run 154 = .ok (.iload 11, 2) := by decide +kernel
theorem d_Mo_run_156 : decode b_Mo_run 156 = .ok (.iconst 5, 1) := by decide +kernel
theorem d_Mo_run_157 : decode b_Mo_run 157 = .ok (.imul, 1) := by decide +kernel
theorem d_Mo_run_158 : decode b_Mo_run 158 = .ok (.aload_n 0, 1) := by decide +kernel
theorem d_Mo_run_159 : decode b_Mo_run 159 = .ok (.getfield 86, 3) := by decide +kernel
theorem d_Mo_run_162 : decode b_Mo_run 162 = .ok (.iload 4, 2) := by decide +kernel
theorem d_Mo_run_164 : decode b_Mo_run 164 = .ok (.iaload, 1) := by decide +kernel
theorem d_Mo_run_165 : decode b_Mo_run 165 = .ok (.iadd, 1) := by decide +kernel
theorem d_Mo_run_166 : decode b_Mo_run 166 = .ok (.istore 12, 2) := by decide +kernel
theorem d_Mo_run_168 : decode b_Mo_run 168 = .ok (.aload_n 0, 1) := by decide +kernel
theorem d_Mo_run_169 : decode b_Mo_run 169 = .ok (.getfield 86, 3) := by decide +kernel
theorem d_Mo_run_172 : decode b_Mo_run 172 = .ok (.iload 4, 2) := by decide +kernel
theorem d_Mo_run_174 : decode b_Mo_run 174 = .ok (.iaload, 1) := by decide +kernel
theorem d_Mo_run_175 : decode b_Mo_run 175 = .ok (.aload_n 0, 1) := by decide +kernel
theorem d_Mo_run_176 : decode b_Mo_run 176 = .ok (.getfield 25, 3) := by decide +kernel
theorem d_Mo_run_179 : decode b_Mo_run 179 = .ok (.iload 11, 2) := by decide +kernel
theorem d_Mo_run_181 : decode b_Mo_run 181 = .ok (.iaload, 1) := by decide +kernel
theorem d_Mo_run_182 : decode b_Mo_run 182 = .ok (.if_icmp .ne 9, 3) := by decide +kernel
theorem d_Mo_run_185 : decode b_Mo_run 185 = .ok (.iinc 4 (-1), 3) := by decide +kernel
theorem d_Mo_run_188 : decode b_Mo_run 188 = .ok (.goto (-126), 3) := by decide +kernel
theorem d_Mo_run_191 : decode b_Mo_run 191 = .ok (.iload 5, 2) := by decide +kernel
theorem d_Mo_run_193 : decode b_Mo_run 193 = .ok (.sipush 300, 3) := by decide +kernel
theorem d_Mo_run_196 : decode b_Mo_run 196 = .ok (.if_icmp .ne 9, 3) := by decide +kernel
theorem d_Mo_run_199 : decode b_Mo_run 199 = .ok (.aload_n 0, 1) := by decide +kernel
theorem d_Mo_run_200 : decode b_Mo_run 200 = .ok (.iconst 3, 1) := by decide +kernel
theorem d_Mo_run_201 : decode b_Mo_run 201 = .ok (.invokevirtual 114, 3) := by decide +kernel
theorem d_Mo_run_204 : decode b_Mo_run 204 = .ok (.ireturn, 1) := by decide +kernel
theorem d_Mo_run_205 : decode b_Mo_run 205 = .ok (.iinc 5 1, 3) := by decide +kernel
theorem d_Mo_run_208 : decode b_Mo_run 208 = .ok (.aload_n 0, 1) := by decide +kernel
theorem d_Mo_run_209 : decode b_Mo_run 209 = .ok (.getfield 86, 3) := by decide +kernel
theorem d_Mo_run_212 : decode b_Mo_run 212 = .ok (.iload 4, 2) := by decide +kernel
theorem d_Mo_run_214 : decode b_Mo_run 214 = .ok (.dup2, 1) := by decide +kernel
theorem d_Mo_run_215 : decode b_Mo_run 215 = .ok (.iaload, 1) := by decide +kernel
theorem d_Mo_run_216 : decode b_Mo_run 216 = .ok (.iconst 1, 1) := by decide +kernel
theorem d_Mo_run_217 : decode b_Mo_run 217 = .ok (.iadd, 1) := by decide +kernel
theorem d_Mo_run_218 : decode b_Mo_run 218 = .ok (.iastore, 1) := by decide +kernel
theorem d_Mo_run_219 : decode b_Mo_run 219 = .ok (.aload_n 0, 1) := by decide +kernel
theorem d_Mo_run_220 : decode b_Mo_run 220 = .ok (.getfield 47, 3) := by decide +kernel
theorem d_Mo_run_223 : decode b_Mo_run 223 = .ok (.iload 12, 2) := by decide +kernel
theorem d_Mo_run_225 : decode b_Mo_run 225 = .ok (.iaload, 1) := by decide +kernel
theorem d_Mo_run_226 : decode b_Mo_run 226 = .ok (.ifCond .ne 21, 3) := by decide +kernel
theorem d_Mo_run_229 : decode b_Mo_run 229 = .ok (.iload 6, 2) := by decide +kernel
theorem d_Mo_run_231 : decode b_Mo_run 231 = .ok (.bipush 31, 2) := by decide +kernel
theorem d_Mo_run_233 : decode b_Mo_run 233 = .ok (.imul, 1) := by decide +kernel
theorem d_Mo_run_234 : decode b_Mo_run 234 = .ok (.aload_n 0, 1) := by decide +kernel
theorem d_Mo_run_235 : decode b_Mo_run 235 = .ok (.getfield 50, 3) := by decide +kernel
theorem d_Mo_run_238 : decode b_Mo_run 238 = .ok (.iload 12, 2) := by decide +kernel
theorem d_Mo_run_240 : decode b_Mo_run 240 = .ok (.iaload, 1) := by decide +kernel
theorem d_Mo_run_241 : decode b_Mo_run 241 = .ok (.iadd, 1) := by decide +kernel
theorem d_Mo_run_242 : decode b_Mo_run 242 = .ok (.istore 6, 2) := by decide +kernel
theorem d_Mo_run_244 : decode b_Mo_run 244 = .ok (.goto 54, 3) := by decide +kernel
theorem d_Mo_run_247 : decode b_Mo_run 247 = .ok (.aload_n 0, 1) := by decide +kernel
theorem d_Mo_run_248 : decode b_Mo_run 248 = .ok (.getfield 47, 3) := by decide +kernel
theorem d_Mo_run_251 : decode b_Mo_run 251 = .ok (.iload 12, 2) := by decide +kernel
theorem d_Mo_run_253 : decode b_Mo_run 253 = .ok (.iaload, 1) := by decide +kernel
theorem d_Mo_run_254 : decode b_Mo_run 254 = .ok (.iconst 1, 1) := by decide +kernel
theorem d_Mo_run_255 : decode b_Mo_run 255 = .ok (.if_icmp .ne 13, 3) := by decide +kernel
theorem d_Mo_run_258 : decode b_Mo_run 258 = .ok (.aload_n 0, 1) := by decide +kernel
theorem d_Mo_run_259 : decode b_Mo_run 259 = .ok (.getfield 50, 3) := by decide +kernel
theorem d_Mo_run_262 : decode b_Mo_run 262 = .ok (.iload 12, 2) := by decide +kernel
theorem d_Mo_run_264 : decode b_Mo_run 264 = .ok (.iaload, 1) := by decide +kernel
theorem d_Mo_run_265 : decode b_Mo_run 265 = .ok (.goto 10, 3) := by decide +kernel
theorem d_Mo_run_268 : decode b_Mo_run 268 = .ok (.aload_n 0, 1) := by decide +kernel
theorem d_Mo_run_269 : decode b_Mo_run 269 = .ok (.getfield 89, 3) := by decide +kernel
theorem d_Mo_run_272 : decode b_Mo_run 272 = .ok (.iload 4, 2) := by decide +kernel
theorem d_Mo_run_274 : decode b_Mo_run 274 = .ok (.iaload, 1) := by decide +kernel
theorem d_Mo_run_275 : decode b_Mo_run 275 = .ok (.istore 7, 2) := by decide +kernel
theorem d_Mo_run_277 : decode b_Mo_run 277 = .ok (.aload_n 0, 1) := by decide +kernel
theorem d_Mo_run_278 : decode b_Mo_run 278 = .ok (.getfield 53, 3) := by decide +kernel
theorem d_Mo_run_281 : decode b_Mo_run 281 = .ok (.iload 12, 2) := by decide +kernel
theorem d_Mo_run_283 : decode b_Mo_run 283 = .ok (.iaload, 1) := by decide +kernel
theorem d_Mo_run_284 : decode b_Mo_run 284 = .ok (.istore 8, 2) := by decide +kernel
theorem d_Mo_run_286 : decode b_Mo_run 286 = .ok (.aload_n 0, 1) := by decide +kernel
theorem d_Mo_run_287 : decode b_Mo_run 287 = .ok (.getfield 56, 3) := by decide +kernel
theorem d_Mo_run_290 : decode b_Mo_run 290 = .ok (.iload 12, 2) := by decide +kernel
theorem d_Mo_run_292 : decode b_Mo_run 292 = .ok (.iaload, 1) := by decide +kernel
theorem d_Mo_run_293 : decode b_Mo_run 293 = .ok (.istore 9, 2) := by decide +kernel
theorem d_Mo_run_295 : decode b_Mo_run 295 = .ok (.iconst 1, 1) := by decide +kernel
theorem d_Mo_run_296 : decode b_Mo_run 296 = .ok (.istore 10, 2) := by decide +kernel
theorem d_Mo_run_298 : decode b_Mo_run 298 = .ok (.goto (-236), 3) := by decide +kernel
theorem d_Mo_run_301 : decode b_Mo_run 301 = .ok (.iload 6, 2) := by decide +kernel
theorem d_Mo_run_303 : decode b_Mo_run 303 = .ok (.ireturn, 1) := by decide +kernel
theorem d_Mo_find_0 : decode b_Mo_find 0 = .ok (.iload_n 1, 1) := by decide +kernel
theorem d_Mo_find_1 : decode b_Mo_find 1 = .ok (.istore 4, 2) := by decide +kernel
theorem d_Mo_find_3 : decode b_Mo_find 3 = .ok (.iload 4, 2) := by decide +kernel
theorem d_Mo_find_5 : decode b_Mo_find 5 = .ok (.ifCond .lt 33, 3) := by decide +kernel
theorem d_Mo_find_8 : decode b_Mo_find 8 = .ok (.aload_n 0, 1) := by decide +kernel
theorem d_Mo_find_9 : decode b_Mo_find 9 = .ok (.iload 4, 2) := by decide +kernel
theorem d_Mo_find_11 : decode b_Mo_find 11 = .ok (.iload_n 2, 1) := by decide +kernel
theorem d_Mo_find_12 : decode b_Mo_find 12 = .ok (.iload_n 3, 1) := by decide +kernel
theorem d_Mo_find_13 : decode b_Mo_find 13 = .ok (.invokevirtual 118, 3) := by decide +kernel
theorem d_Mo_find_16 : decode b_Mo_find 16 = .ok (.istore 5, 2) := by decide +kernel
theorem d_Mo_find_18 : decode b_Mo_find 18 = .ok (.iload 5, 2) := by decide +kernel
theorem d_Mo_find_20 : decode b_Mo_find 20 = .ok (.ifCond .lt 6, 3) := by decide +kernel
theorem d_Mo_find_23 : decode b_Mo_find 23 = .ok (.iload 5, 2) := by decide +kernel
theorem d_Mo_find_25 : decode b_Mo_find 25 = .ok (.ireturn, 1) := by decide +kernel
theorem d_Mo_find_26 : decode b_Mo_find 26 = .ok (.aload_n 0, 1) := by decide +kernel
theorem d_Mo_find_27 : decode b_Mo_find 27 = .ok (.getfield 7, 3) := by decide +kernel
theorem d_Mo_find_30 : decode b_Mo_find 30 = .ok (.iload 4, 2) := by decide +kernel
theorem d_Mo_find_32 : decode b_Mo_find 32 = .ok (.iaload, 1) := by decide +kernel
theorem d_Mo_find_33 : decode b_Mo_find 33 = .ok (.istore 4, 2) := by decide +kernel
theorem d_Mo_find_35 : decode b_Mo_find 35 = .ok (.goto (-32), 3) := by decide +kernel
theorem d_Mo_find_38 : decode b_Mo_find 38 = .ok (.iconst (-1), 1) := by decide +kernel
theorem d_Mo_find_39 : decode b_Mo_find 39 = .ok (.ireturn, 1) := by decide +kernel
theorem d_Mo_shrink_0 : decode b_Mo_shrink 0 = .ok (.aload_n 0, 1) := by decide +kernel
theorem d_Mo_shrink_1 : decode b_Mo_shrink 1 = .ok (.iconst 0, 1) := by decide +kernel
theorem d_Mo_shrink_2 : decode b_Mo_shrink 2 = .ok (.putfield 92, 3) := by decide +kernel
theorem d_Mo_shrink_5 : decode b_Mo_shrink 5 = .ok (.aload_n 0, 1) := by decide +kernel
theorem d_Mo_shrink_6 : decode b_Mo_shrink 6 = .ok (.invokevirtual 138, 3) := by decide +kernel
theorem d_Mo_shrink_9 : decode b_Mo_shrink 9 = .ok (.iconst 0, 1) := by decide +kernel
theorem d_Mo_shrink_10 : decode b_Mo_shrink 10 = .ok (.istore_n 1, 1) := by decide +kernel
theorem d_Mo_shrink_11 : decode b_Mo_shrink 11 = .ok (.iconst 0, 1) := by decide +kernel
theorem d_Mo_shrink_12 : decode b_Mo_shrink 12 = .ok (.istore_n 2, 1) := by decide +kernel
theorem d_Mo_shrink_13 : decode b_Mo_shrink 13 = .ok (.iconst 0, 1) := by decide +kernel
theorem d_Mo_shrink_14 : decode b_Mo_shrink 14 = .ok (.istore_n 3, 1) := by decide +kernel
theorem d_Mo_shrink_15 : decode b_Mo_shrink 15 = .ok (.iload_n 3, 1) := by decide +kernel
theorem d_Mo_shrink_16 : decode b_Mo_shrink 16 = .ok (.aload_n 0, 1) := by decide +kernel
theorem d_Mo_shrink_17 : decode b_Mo_shrink 17 = .ok (.getfield 96, 3) := by decide +kernel
theorem d_Mo_shrink_20 : decode b_Mo_shrink 20 = .ok (.if_icmp .ge 77, 3) := by decide +kernel
theorem d_Mo_shrink_23 : decode b_Mo_shrink 23 = .ok (.iconst 0, 1) := by decide +kernel
theorem d_Mo_shrink_24 : decode b_Mo_shrink 24 = .ok (.istore 4, 2) := by decide +kernel
theorem d_Mo_shrink_26 : decode b_Mo_shrink 26 = .ok (.iconst 0, 1) := by decide +kernel
theorem d_Mo_shrink_27 : decode b_Mo_shrink 27 = .ok (.istore 5, 2) := by decide +kernel
theorem d_Mo_shrink_29 : decode b_Mo_shrink 29 = .ok (.iload 5, 2) := by decide +kernel
theorem d_Mo_shrink_31 : decode b_Mo_shrink 31 = .ok (.aload_n 0, 1) := by decide +kernel
theorem d_Mo_shrink_32 : decode b_Mo_shrink 32 = .ok (.getfield 96, 3) := by decide +kernel
theorem d_Mo_shrink_35 : decode b_Mo_shrink 35 = .ok (.if_icmp .ge 32, 3) := by decide +kernel
theorem d_Mo_shrink_38 : decode b_Mo_shrink 38 = .ok (.aload_n 0, 1) := by decide +kernel
theorem d_Mo_shrink_39 : decode b_Mo_shrink 39 = .ok (.getfield 44, 3) := by decide +kernel
theorem d_Mo_shrink_42 : decode b_Mo_shrink 42 = .ok (.iload 5, 2) := by decide +kernel
theorem d_Mo_shrink_44 : decode b_Mo_shrink 44 = .ok (.baload, 1) := by decide +kernel
theorem d_Mo_shrink_45 : decode b_Mo_shrink 45 = .ok (.ifCond .eq 16, 3) := by decide +kernel
theorem d_Mo_shrink_48 : decode b_Mo_shrink 48 = .ok (.aload_n 0, 1) := by decide +kernel
theorem d_Mo_shrink_49 : decode b_Mo_shrink 49 = .ok (.iload_n 3, 1) := by decide +kernel
theorem d_Mo_shrink_50 : decode b_Mo_shrink 50 = .ok (.iload 5, 2) := by decide +kernel
theorem d_Mo_shrink_52 : decode b_Mo_shrink 52 = .ok (.invokevirtual 128, 3) := by decide +kernel
theorem d_Mo_shrink_55 : decode b_Mo_shrink 55 = .ok (.ifCond .eq 6, 3) := by decide +kernel
theorem d_Mo_shrink_58 : decode b_Mo_shrink 58 = .ok (.iconst 1, 1) := by decide +kernel
theorem d_Mo_shrink_59 : decode b_Mo_shrink 59 = .ok (.istore 4, 2) := by decide +kernel
theorem d_Mo_shrink_61 : decode b_Mo_shrink 61 = .ok (.iinc 5 1, 3) := by decide +kernel
theorem d_Mo_shrink_64 : decode b_Mo_shrink 64 = .ok (.goto (-35), 3) := by decide +kernel
theorem d_Mo_shrink_67 : decode b_Mo_shrink 67 = .ok (.aload_n 0, 1) := by decide +kernel
theorem d_Mo_shrink_68 : decode b_Mo_shrink 68 = .ok (.getfield 80, 3) := by decide +kernel
theorem d_Mo_shrink_71 : decode b_Mo_shrink 71 = .ok (.iload_n 3, 1) := by decide +kernel
theorem d_Mo_shrink_72 : decode b_Mo_shrink 72 = .ok (.iload 4, 2) := by decide +kernel
theorem d_Mo_shrink_74 : decode b_Mo_shrink 74 = .ok (.ifCond .eq 7, 3) := by decide +kernel
theorem d_Mo_shrink_77 : decode b_Mo_shrink 77 = .ok (.iload_n 1, 1) := by decide +kernel
theorem d_Mo_shrink_78 : decode b_Mo_shrink 78 = .ok (.goto 4, 3) := by decide +kernel
theorem d_Mo_shrink_81 : decode b_Mo_shrink 81 = .ok (.iconst (-1), 1) := by decide +kernel
theorem d_Mo_shrink_82 : decode b_Mo_shrink 82 = .ok (.iastore, 1) := by decide +kernel
theorem d_Mo_shrink_83 : decode b_Mo_shrink 83 = .ok (.iload 4, 2) := by decide +kernel
theorem d_Mo_shrink_85 : decode b_Mo_shrink 85 = .ok (.ifCond .eq 6, 3) := by decide +kernel
theorem d_Mo_shrink_88 : decode b_Mo_shrink 88 = .ok (.iinc 1 1, 3) := by decide +kernel
theorem d_Mo_shrink_91 : decode b_Mo_shrink 91 = .ok (.iinc 3 1, 3) := by decide +kernel
theorem d_Mo_shrink_94 : decode b_Mo_shrink 94 = .ok (.goto (-79), 3) := by decide +kernel
theorem d_Mo_shrink_97 : decode b_Mo_shrink 97 = .ok (.iconst 0, 1) := by decide +kernel
theorem d_Mo_shrink_98 : decode b_Mo_shrink 98 = .ok (.istore_n 3, 1) := by decide +kernel
theorem d_Mo_shrink_99 : decode b_Mo_shrink 99 = .ok (.iload_n 3, 1) := by decide +kernel
theorem d_Mo_shrink_100 : decode b_Mo_shrink 100 = .ok (.aload_n 0, 1) := by decide +kernel
theorem d_Mo_shrink_101 : decode b_Mo_shrink 101 = .ok (.getfield 103, 3) := by decide +kernel
theorem d_Mo_shrink_104 : decode b_Mo_shrink 104 = .ok (.if_icmp .ge 44, 3) := by decide +kernel
theorem d_Mo_shrink_107 : decode b_Mo_shrink 107 = .ok (.aload_n 0, 1) := by decide +kernel
theorem d_Mo_shrink_108 : decode b_Mo_shrink 108 = .ok (.getfield 41, 3) := by decide +kernel
theorem d_Mo_shrink_111 : decode b_Mo_shrink 111 = .ok (.iload_n 3, 1) := by decide +kernel
theorem d_Mo_shrink_112 : decode b_Mo_shrink 112 = .ok (.baload, 1) := by decide +kernel
theorem d_Mo_shrink_113 : decode b_Mo_shrink 113 = .ok (.ifCond .eq 29, 3) := by decide +kernel
theorem d_Mo_shrink_116 : decode b_Mo_shrink 116 = .ok (.aload_n 0, 1) := by decide +kernel
theorem d_Mo_shrink_117 : decode b_Mo_shrink 117 = .ok (.getfield 80, 3) := by decide +kernel
theorem d_Mo_shrink_120 : decode b_Mo_shrink 120 = .ok (.aload_n 0, 1) := by decide +kernel
theorem d_Mo_shrink_121 : decode b_Mo_shrink 121 = .ok (.getfield 16, 3) := by decide +kernel
theorem d_Mo_shrink_124 : decode b_Mo_shrink 124 = .ok (.iload_n 3, 1) := by decide +kernel
theorem d_Mo_shrink_125 : decode b_Mo_shrink 125 = .ok (.iaload, 1) := by decide +kernel
theorem d_Mo_shrink_126 : decode b_Mo_shrink 126 = .ok (.iaload, 1) := by decide +kernel
theorem d_Mo_shrink_127 : decode b_Mo_shrink 127 = .ok (.ifCond .ge 6, 3) := by decide +kernel
theorem d_Mo_shrink_130 : decode b_Mo_shrink 130 = .ok (.goto 12, 3) := by decide +kernel
theorem d_Mo_shrink_133 : decode b_Mo_shrink 133 = .ok (.aload_n 0, 1) := by decide +kernel
theorem d_Mo_shrink_134 : decode b_Mo_shrink 134 = .ok (.iload_n 3, 1) := by decide +kernel
theorem d_Mo_shrink_135 : decode b_Mo_shrink 135 = .ok (.iload_n 2, 1) := by decide +kernel
theorem d_Mo_shrink_136 : decode b_Mo_shrink 136 = .ok (.invokevirtual 141, 3) := by decide +kernel
theorem d_Mo_shrink_139 : decode b_Mo_shrink 139 = .ok (.iinc 2 1, 3) := by decide +kernel
theorem d_Mo_shrink_142 : decode b_Mo_shrink 142 = .ok (.iinc 3 1, 3) := by decide +kernel
theorem d_Mo_shrink_145 : decode b_Mo_shrink 145 = .ok (.goto (-46), 3) := by decide +kernel
theorem d_Mo_shrink_148 : decode b_Mo_shrink 148 = .ok (.iconst 0, 1) := by decide +kernel
theorem d_Mo_shrink_149 : decode b_Mo_shrink 149 = .ok (.istore_n 3, 1) := by decide +kernel
theorem d_Mo_shrink_150 : decode b_Mo_shrink 150 = .ok (.iload_n 3, 1) := by decide +kernel
theorem d_Mo_shrink_151 : decode b_Mo_shrink 151 = .ok (.aload_n 0, 1) := by decide +kernel
theorem d_Mo_shrink_152 : decode b_Mo_shrink 152 = .ok (.getfield 96, 3) := by decide +kernel
theorem d_Mo_shrink_155 : decode b_Mo_shrink 155 = .ok (.if_icmp .ge 69, 3) := by decide +kernel
theorem d_Mo_shrink_158 : decode b_Mo_shrink 158 = .ok (.aload_n 0, 1) := by decide +kernel
theorem d_Mo_shrink_159 : decode b_Mo_shrink 159 = .ok (.getfield 80, 3) := by decide +kernel
theorem d_Mo_shrink_162 : decode b_Mo_shrink 162 = .ok (.iload_n 3, 1) := by decide +kernel
theorem d_Mo_shrink_163 : decode b_Mo_shrink 163 = .ok (.iaload, 1) := by decide +kernel
theorem d_Mo_shrink_164 : decode b_Mo_shrink 164 = .ok (.istore 4, 2) := by decide +kernel
theorem d_Mo_shrink_166 : decode b_Mo_shrink 166 = .ok (.iload 4, 2) := by decide +kernel
theorem d_Mo_shrink_168 : decode b_Mo_shrink 168 = .ok (.ifCond .ge 6, 3) := by decide +kernel
theorem d_Mo_shrink_171 : decode b_Mo_shrink 171 = .ok (.goto 47, 3) := by decide +kernel
theorem d_Mo_shrink_174 : decode b_Mo_shrink 174 = .ok (.aload_n 0, 1) := by decide +kernel
theorem d_Mo_shrink_175 : decode b_Mo_shrink 175 = .ok (.getfield 7, 3) := by decide +kernel
theorem d_Mo_shrink_178 : decode b_Mo_shrink 178 = .ok (.iload 4, 2) := by decide +kernel
theorem d_Mo_shrink_180 : decode b_Mo_shrink 180 = .ok (.aload_n 0, 1) := by decide +kernel
theorem d_Mo_shrink_181 : decode b_Mo_shrink 181 = .ok (.getfield 7, 3) := by decide +kernel
theorem d_Mo_shrink_184 : decode b_Mo_shrink 184 = .ok (.iload_n 3, 1) := by decide +kernel
theorem d_Mo_shrink_185 : decode b_Mo_shrink 185 = .ok (.iaload, 1) := by decide +kernel
theorem d_Mo_shrink_186 : decode b_Mo_shrink 186 = .ok (.ifCond .ge 7, 3) := by decide +kernel
theorem d_Mo_shrink_189 : decode b_Mo_shrink 189 = .ok (.iconst (-1), 1) := by decide +kernel
theorem d_Mo_shrink_190 : decode b_Mo_shrink 190 = .ok (.goto 14, 3) := by decide +kernel
theorem d_Mo_shrink_193 : decode b_Mo_shrink 193 = .ok (.aload_n 0, 1) := by decide +kernel
theorem d_Mo_shrink_194 : decode b_Mo_shrink 194 = .ok (.getfield 80, 3) := by decide +kernel
theorem d_Mo_shrink_197 : decode b_Mo_shrink 197 = .ok (.aload_n 0, 1) := by decide +kernel
theorem d_Mo_shrink_198 : decode b_Mo_shrink 198 = .ok (.getfield 7, 3) := by decide +kernel
theorem d_Mo_shrink_201 : decode b_Mo_shrink 201 = .ok (.iload_n 3, 1) := by decide +kernel
theorem d_Mo_shrink_202 : decode b_Mo_shrink 202 = .ok (.iaload, 1) := by decide +kernel
theorem d_Mo_shrink_203 : decode b_Mo_shrink 203 = .ok (.iaload, 1) := by decide +kernel
theorem d_Mo_shrink_204 : decode b_Mo_shrink 204 = .ok (.iastore, 1) := by decide +kernel
theorem d_Mo_shrink_205 : decode b_Mo_shrink 205 = .ok (.aload_n 0, 1) := by decide +kernel
theorem d_Mo_shrink_206 : decode b_Mo_shrink 206 = .ok (.getfield 13, 3) := by decide +kernel
theorem d_Mo_shrink_209 : decode b_Mo_shrink 209 = .ok (.iload 4, 2) := by decide +kernel
theorem d_Mo_shrink_211 : decode b_Mo_shrink 211 = .ok (.aload_n 0, 1) := by decide +kernel
theorem d_Mo_shrink_212 : decode b_Mo_shrink 212 = .ok (.getfield 13, 3) := by decide +kernel
theorem d_Mo_shrink_215 : decode b_Mo_shrink 215 = .ok (.iload_n 3, 1) := by decide +kernel
theorem d_Mo_shrink_216 : decode b_Mo_shrink 216 = .ok (.iaload, 1) := by decide +kernel
theorem d_Mo_shrink_217 : decode b_Mo_shrink 217 = .ok (.iastore, 1) := by decide +kernel
theorem d_Mo_shrink_218 : decode b_Mo_shrink 218 = .ok (.iinc 3 1, 3) := by decide +kernel
theorem d_Mo_shrink_221 : decode b_Mo_shrink 221 = .ok (.goto (-71), 3) := by decide +kernel
theorem d_Mo_shrink_224 : decode b_Mo_shrink 224 = .ok (.aload_n 0, 1) := by decide +kernel
theorem d_Mo_shrink_225 : decode b_Mo_shrink 225 = .ok (.getfield 103, 3) := by decide +kernel
theorem d_Mo_shrink_228 : decode b_Mo_shrink 228 = .ok (.iload_n 2, 1) := by decide +kernel
theorem d_Mo_shrink_229 : decode b_Mo_shrink 229 = .ok (.isub, 1) := by decide +kernel
theorem d_Mo_shrink_230 : decode b_Mo_shrink 230 = .ok (.istore_n 3, 1) := by decide +kernel
theorem d_Mo_shrink_231 : decode b_Mo_shrink 231 = .ok (.aload_n 0, 1) := by decide +kernel
theorem d_Mo_shrink_232 : decode b_Mo_shrink 232 = .ok (.dup, 1) := by decide +kernel
theorem d_Mo_shrink_233 : decode b_Mo_shrink 233 = .ok (.getfield 145, 3) := by decide +kernel
theorem d_Mo_shrink_236 : decode b_Mo_shrink 236 = .ok (.iload_n 3, 1) := by decide +kernel
theorem d_Mo_shrink_237 : decode b_Mo_shrink 237 = .ok (.iadd, 1) := by decide +kernel
theorem d_Mo_shrink_238 : decode b_Mo_shrink 238 = .ok (.putfield 145, 3) := by decide +kernel
theorem d_Mo_shrink_241 : decode b_Mo_shrink 241 = .ok (.aload_n 0, 1) := by decide +kernel
theorem d_Mo_shrink_242 : decode b_Mo_shrink 242 = .ok (.iload_n 2, 1) := by decide +kernel
theorem d_Mo_shrink_243 : decode b_Mo_shrink 243 = .ok (.putfield 103, 3) := by decide +kernel
theorem d_Mo_shrink_246 : decode b_Mo_shrink 246 = .ok (.aload_n 0, 1) := by decide +kernel
theorem d_Mo_shrink_247 : decode b_Mo_shrink 247 = .ok (.iload_n 1, 1) := by decide +kernel
theorem d_Mo_shrink_248 : decode b_Mo_shrink 248 = .ok (.putfield 96, 3) := by decide +kernel
theorem d_Mo_shrink_251 : decode b_Mo_shrink 251 = .ok (.iload_n 3, 1) := by decide +kernel
theorem d_Mo_shrink_252 : decode b_Mo_shrink 252 = .ok (.ireturn, 1) := by decide +kernel
theorem d_Mo_findLive_0 : decode b_Mo_findLive 0 = .ok (.iconst 0, 1) := by decide +kernel
theorem d_Mo_findLive_1 : decode b_Mo_findLive 1 = .ok (.istore_n 1, 1) := by decide +kernel
theorem d_Mo_findLive_2 : decode b_Mo_findLive 2 = .ok (.iload_n 1, 1) := by decide +kernel
theorem d_Mo_findLive_3 : decode b_Mo_findLive 3 = .ok (.aload_n 0, 1) := by decide +kernel
theorem d_Mo_findLive_4 : decode b_Mo_findLive 4 = .ok (.getfield 96, 3) := by decide +kernel
theorem d_Mo_findLive_7 : decode b_Mo_findLive 7 = .ok (.if_icmp .ge 16, 3) := by decide +kernel
theorem d_Mo_findLive_10 : decode b_Mo_findLive 10 = .ok (.aload_n 0, 1) := by decide +kernel
theorem d_Mo_findLive_11 : decode b_Mo_findLive 11 = .ok (.getfield 44, 3) := by decide +kernel
theorem d_Mo_findLive_14 : decode b_Mo_findLive 14 = .ok (.iload_n 1, 1) := by decide +kernel
theorem d_Mo_findLive_15 : decode b_Mo_findLive 15 = .ok (.iconst 0, 1) := by decide +kernel
theorem d_Mo_findLive_16 : decode b_Mo_findLive 16 = .ok (.bastore, 1) := by decide +kernel
theorem d_Mo_findLive_17 : decode b_Mo_findLive 17 = .ok (.iinc 1 1, 3) := by decide +kernel
theorem d_Mo_findLive_20 : decode b_Mo_findLive 20 = .ok (.goto (-18), 3) := by decide +kernel
theorem d_Mo_findLive_23 : decode b_Mo_findLive 23 = .ok (.iconst 0, 1) := by decide +kernel
theorem d_Mo_findLive_24 : decode b_Mo_findLive 24 = .ok (.istore_n 1, 1) := by decide +kernel
theorem d_Mo_findLive_25 : decode b_Mo_findLive 25 = .ok (.iload_n 1, 1) := by decide +kernel
theorem d_Mo_findLive_26 : decode b_Mo_findLive 26 = .ok (.aload_n 0, 1) := by decide +kernel
theorem d_Mo_findLive_27 : decode b_Mo_findLive 27 = .ok (.getfield 103, 3) := by decide +kernel
theorem d_Mo_findLive_30 : decode b_Mo_findLive 30 = .ok (.if_icmp .ge 21, 3) := by decide +kernel
theorem d_Mo_findLive_33 : decode b_Mo_findLive 33 = .ok (.aload_n 0, 1) := by decide +kernel
theorem d_Mo_findLive_34 : decode b_Mo_findLive 34 = .ok (.getfield 41, 3) := by decide +kernel
theorem d_Mo_findLive_37 : decode b_Mo_findLive 37 = .ok (.iload_n 1, 1) := by decide +kernel
theorem d_Mo_findLive_38 : decode b_Mo_findLive 38 = .ok (.aload_n 0, 1) := by decide +kernel
theorem d_Mo_findLive_39 : decode b_Mo_findLive 39 = .ok (.getfield 37, 3) := by decide +kernel
theorem d_Mo_findLive_42 : decode b_Mo_findLive 42 = .ok (.iload_n 1, 1) := by decide +kernel
theorem d_Mo_findLive_43 : decode b_Mo_findLive 43 = .ok (.baload, 1) := by decide +kernel
theorem d_Mo_findLive_44 : decode b_Mo_findLive 44 = .ok (.bastore, 1) := by decide +kernel
theorem d_Mo_findLive_45 : decode b_Mo_findLive 45 = .ok (.iinc 1 1, 3) := by decide +kernel
theorem d_Mo_findLive_48 : decode b_Mo_findLive 48 = .ok (.goto (-23), 3) := by decide +kernel
theorem d_Mo_findLive_51 : decode b_Mo_findLive 51 = .ok (.iconst 0, 1) := by decide +kernel
theorem d_Mo_findLive_52 : decode b_Mo_findLive 52 = .ok (.istore_n 1, 1) := by decide +kernel
theorem d_Mo_findLive_53 : decode b_Mo_findLive 53 = .ok (.iload_n 1, 1) := by decide +kernel
theorem d_Mo_findLive_54 : decode b_Mo_findLive 54 = .ok (.aload_n 0, 1) := by decide +kernel
theorem d_Mo_findLive_55 : decode b_Mo_findLive 55 = .ok (.getfield 103, 3) := by decide +kernel
theorem d_Mo_findLive_58 : decode b_Mo_findLive 58 = .ok (.if_icmp .ge 30, 3) := by decide +kernel
theorem d_Mo_findLive_61 : decode b_Mo_findLive 61 = .ok (.aload_n 0, 1) := by decide +kernel
theorem d_Mo_findLive_62 : decode b_Mo_findLive 62 = .ok (.getfield 37, 3) := by decide +kernel
theorem d_Mo_findLive_65 : decode b_Mo_findLive 65 = .ok (.iload_n 1, 1) := by decide +kernel
theorem d_Mo_findLive_66 : decode b_Mo_findLive 66 = .ok (.baload, 1) := by decide +kernel
theorem d_Mo_findLive_67 : decode b_Mo_findLive 67 = .ok (.ifCond .eq 15, 3) := by decide +kernel
theorem d_Mo_findLive_70 : decode b_Mo_findLive 70 = .ok (.aload_n 0, 1) := by decide +kernel
theorem d_Mo_findLive_71 : decode b_Mo_findLive 71 = .ok (.getfield 44, 3) := by decide +kernel
theorem d_Mo_findLive_74 : decode b_Mo_findLive 74 = .ok (.aload_n 0, 1) := by decide +kernel
theorem d_Mo_findLive_75 : decode b_Mo_findLive 75 = .ok (.getfield 16, 3) := by decide +kernel
theorem d_Mo_findLive_78 : decode b_Mo_findLive 78 = .ok (.iload_n 1, 1) := by decide +kernel
theorem d_Mo_findLive_79 : decode b_Mo_findLive 79 = .ok (.iaload, 1) := by decide +kernel
theorem d_Mo_findLive_80 : decode b_Mo_findLive 80 = .ok (.iconst 1, 1) := by decide +kernel
theorem d_Mo_findLive_81 : decode b_Mo_findLive 81 = .ok (.bastore, 1) := by decide +kernel
theorem d_Mo_findLive_82 : decode b_Mo_findLive 82 = .ok (.iinc 1 1, 3) := by decide +kernel
theorem d_Mo_findLive_85 : decode b_Mo_findLive 85 = .ok (.goto (-32), 3) := by decide +kernel
theorem d_Mo_findLive_88 : decode b_Mo_findLive 88 = .ok (.iconst 1, 1) := by decide +kernel
theorem d_Mo_findLive_89 : decode b_Mo_findLive 89 = .ok (.istore_n 1, 1) := by decide +kernel
theorem d_Mo_findLive_90 : decode b_Mo_findLive 90 = .ok (.iload_n 1, 1) := by decide +kernel
theorem d_Mo_findLive_91 : decode b_Mo_findLive 91 = .ok (.ifCond .eq 66, 3) := by decide +kernel
theorem d_Mo_findLive_94 : decode b_Mo_findLive 94 = .ok (.iconst 0, 1) := by decide +kernel
theorem d_Mo_findLive_95 : decode b_Mo_findLive 95 = .ok (.istore_n 1, 1) := by decide +kernel
theorem d_Mo_findLive_96 : decode b_Mo_findLive 96 = .ok (.iconst 0, 1) := by decide +kernel
theorem d_Mo_findLive_97 : decode b_Mo_findLive 97 = .ok (.istore_n 2, 1) := by decide +kernel
theorem d_Mo_findLive_98 : decode b_Mo_findLive 98 = .ok (.iload_n 2, 1) := by decide +kernel
theorem d_Mo_findLive_99 : decode b_Mo_findLive 99 = .ok (.aload_n 0, 1) := by decide +kernel
theorem d_Mo_findLive_100 : decode b_Mo_findLive 100 = .ok (.getfield 103, 3) := by decide +kernel
theorem d_Mo_findLive_103 : decode b_Mo_findLive 103 = .ok (.if_icmp .ge 51, 3) := by decide +kernel
theorem d_Mo_findLive_106 : decode b_Mo_findLive 106 = .ok (.iconst 0, 1) := by decide +kernel
theorem d_Mo_findLive_107 : decode b_Mo_findLive 107 = .ok (.istore_n 3, 1) := by decide +kernel
theorem d_Mo_findLive_108 : decode b_Mo_findLive 108 = .ok (.iload_n 3, 1) := by decide +kernel
theorem d_Mo_findLive_109 : decode b_Mo_findLive 109 = .ok (.aload_n 0, 1) := by decide +kernel
theorem d_Mo_findLive_110 : decode b_Mo_findLive 110 = .ok (.getfield 25, 3) := by decide +kernel
theorem d_Mo_findLive_113 : decode b_Mo_findLive 113 = .ok (.iload_n 2, 1) := by decide +kernel
theorem d_Mo_findLive_114 : decode b_Mo_findLive 114 = .ok (.iaload, 1) := by decide +kernel
theorem d_Mo_findLive_115 : decode b_Mo_findLive 115 = .ok (.if_icmp .ge 33, 3) := by decide +kernel
theorem d_Mo_findLive_118 : decode b_Mo_findLive 118 = .ok (.aload_n 0, 1) := by decide +kernel
theorem d_Mo_findLive_119 : decode b_Mo_findLive 119 = .ok (.getfield 41, 3) := by decide +kernel
theorem d_Mo_findLive_122 : decode b_Mo_findLive 122 = .ok (.iload_n 2, 1) := by decide +kernel
theorem d_Mo_findLive_123 : decode b_Mo_findLive 123 = .ok (.baload, 1) := by decide +kernel
theorem d_Mo_findLive_124 : decode b_Mo_findLive 124 = .ok (.ifCond .eq 24, 3) := by decide +kernel
theorem d_Mo_findLive_127 : decode b_Mo_findLive 127 = .ok (.aload_n 0, 1) := by decide +kernel
theorem d_Mo_findLive_128 : decode b_Mo_findLive 128 = .ok (.iload_n 2, 1) := by decide +kernel
theorem d_Mo_findLive_129 : decode b_Mo_findLive 129 = .ok (.iload_n 2, 1) := by decide +kernel
theorem d_Mo_findLive_130 : decode b_Mo_findLive 130 = .ok (.iconst 5, 1) := by decide +kernel
theorem d_Mo_findLive_131 : decode b_Mo_findLive 131 = .ok (.imul, 1) := by decide +kernel
theorem d_Mo_findLive_132 : decode b_Mo_findLive 132 = .ok (.iload_n 3, 1) := by decide +kernel
theorem d_Mo_findLive_133 : decode b_Mo_findLive 133 = .ok (.iadd, 1) := by decide +kernel
theorem d_Mo_findLive_134 : decode b_Mo_findLive 134 = .ok (.invokevirtual 135, 3) := by decide +kernel
theorem d_Mo_findLive_137 : decode b_Mo_findLive 137 = .ok (.ifCond .eq 5, 3) := by decide +kernel
theorem d_Mo_findLive_140 : decode b_Mo_findLive 140 = .ok (.iconst 1, 1) := by decide +kernel
theorem d_Mo_findLive_141 : decode b_Mo_findLive 141 = .ok (.istore_n 1, 1) := by decide +kernel
theorem d_Mo_findLive_142 : decode b_Mo_findLive 142 = .ok (.iinc 3 1, 3) := by decide +kernel
theorem d_Mo_findLive_145 : decode b_Mo_findLive 145 = .ok (.goto (-37), 3) := by decide +kernel
theorem d_Mo_findLive_148 : decode b_Mo_findLive 148 = .ok (.iinc 2 1, 3) := by decide +kernel
theorem d_Mo_findLive_151 : decode b_Mo_findLive 151 = .ok (.goto (-53), 3) := by decide +kernel
theorem d_Mo_findLive_154 : decode b_Mo_findLive 154 = .ok (.goto (-64), 3) := by decide +kernel
theorem d_Mo_findLive_157 : decode b_Mo_findLive 157 = .ok (.return_, 1) := by decide +kernel
theorem d_Mo_need_0 : decode b_Mo_need 0 = .ok (.iconst 0, 1) := by decide +kernel
theorem d_Mo_need_1 : decode b_Mo_need 1 = .ok (.istore_n 3, 1) := by decide +kernel
theorem d_Mo_need_2 : decode b_Mo_need 2 = .ok (.aload_n 0, 1) := by decide +kernel
theorem d_Mo_need_3 : decode b_Mo_need 3 = .ok (.getfield 47, 3) := by decide +kernel
theorem d_Mo_need_6 : decode b_Mo_need 6 = .ok (.iload_n 2, 1) := by decide +kernel
theorem d_Mo_need_7 : decode b_Mo_need 7 = .ok (.iaload, 1) := by decide +kernel
theorem d_Mo_need_8 : decode b_Mo_need 8 = .ok (.iconst 1, 1) := by decide +kernel
theorem d_Mo_need_9 : decode b_Mo_need 9 = .ok (.if_icmp .ne 59, 3) := by decide +kernel
theorem d_Mo_need_12 : decode b_Mo_need 12 = .ok (.aload_n 0, 1) := by decide +kernel
theorem d_Mo_need_13 : decode b_Mo_need 13 = .ok (.getfield 44, 3) := by decide +kernel
theorem d_Mo_need_16 : decode b_Mo_need 16 = .ok (.aload_n 0, 1) := by decide +kernel
theorem d_Mo_need_17 : decode b_Mo_need 17 = .ok (.getfield 50, 3) := by decide +kernel
theorem d_Mo_need_20 : decode b_Mo_need 20 = .ok (.iload_n 2, 1) := by decide +kernel
theorem d_Mo_need_21 : decode b_Mo_need 21 = .ok (.iaload, 1) := by decide +kernel
theorem d_Mo_need_22 : decode b_Mo_need 22 = .ok (.baload, 1) := by decide +kernel
theorem d_Mo_need_23 : decode b_Mo_need 23 = .ok (.ifCond .ne 7, 3) := by decide +kernel
theorem d_Mo_need_26 : decode b_Mo_need 26 = .ok (.iconst 1, 1) := by decide +kernel
theorem d_Mo_need_27 : decode b_Mo_need 27 = .ok (.goto 4, 3) := by decide +kernel
theorem d_Mo_need_30 : decode b_Mo_need 30 = .ok (.iconst 0, 1) := by decide +kernel
theorem d_Mo_need_31 : decode b_Mo_need 31 = .ok (.istore_n 3, 1) := by decide +kernel
theorem d_Mo_need_32 : decode b_Mo_need 32 = .ok (.aload_n 0, 1) := by decide +kernel
theorem d_Mo_need_33 : decode b_Mo_need 33 = .ok (.getfield 44, 3) := by decide +kernel
theorem d_Mo_need_36 : decode b_Mo_need 36 = .ok (.aload_n 0, 1) := by decide +kernel
theorem d_Mo_need_37 : decode b_Mo_need 37 = .ok (.getfield 50, 3) := by decide +kernel
theorem d_Mo_need_40 : decode b_Mo_need 40 = .ok (.iload_n 2, 1) := by decide +kernel
theorem d_Mo_need_41 : decode b_Mo_need 41 = .ok (.iaload, 1) := by decide +kernel
theorem d_Mo_need_42 : decode b_Mo_need 42 = .ok (.iconst 1, 1) := by decide +kernel
theorem d_Mo_need_43 : decode b_Mo_need 43 = .ok (.bastore, 1) := by decide +kernel
theorem d_Mo_need_44 : decode b_Mo_need 44 = .ok (.aload_n 0, 1) := by decide +kernel
theorem d_Mo_need_45 : decode b_Mo_need 45 = .ok (.aload_n 0, 1) := by decide +kernel
theorem d_Mo_need_46 : decode b_Mo_need 46 = .ok (.getfield 50, 3) := by decide +kernel
theorem d_Mo_need_49 : decode b_Mo_need 49 = .ok (.iload_n 2, 1) := by decide +kernel
theorem d_Mo_need_50 : decode b_Mo_need 50 = .ok (.iaload, 1) := by decide +kernel
theorem d_Mo_need_51 : decode b_Mo_need 51 = .ok (.iload_n 2, 1) := by decide +kernel
theorem d_Mo_need_52 : decode b_Mo_need 52 = .ok (.invokevirtual 132, 3) := by decide +kernel
theorem d_Mo_need_55 : decode b_Mo_need 55 = .ok (.ifCond .ne 7, 3) := by decide +kernel
theorem d_Mo_need_58 : decode b_Mo_need 58 = .ok (.iload_n 3, 1) := by decide +kernel
theorem d_Mo_need_59 : decode b_Mo_need 59 = .ok (.ifCond .eq 7, 3) := by decide +kernel
theorem d_Mo_need_62 : decode b_Mo_need 62 = .ok (.iconst 1, 1) := by decide +kernel
theorem d_Mo_need_63 : decode b_Mo_need 63 = .ok (.goto 4, 3) := by decide +kernel
theorem d_Mo_need_66 : decode b_Mo_need 66 = .ok (.iconst 0, 1) := by decide +kernel
theorem d_Mo_need_67 : decode b_Mo_need 67 = .ok (.ireturn, 1) := by decide +kernel
theorem d_Mo_need_68 : decode b_Mo_need 68 = .ok (.iconst 0, 1) := by decide +kernel
theorem d_Mo_need_69 : decode b_Mo_need 69 = .ok (.istore 4, 2) := by decide +kernel
theorem d_Mo_need_71 : decode b_Mo_need 71 = .ok (.iload 4, 2) := by decide +kernel
theorem d_Mo_need_73 : decode b_Mo_need 73 = .ok (.aload_n 0, 1) := by decide +kernel
theorem d_Mo_need_74 : decode b_Mo_need 74 = .ok (.getfield 96, 3) := by decide +kernel
theorem d_Mo_need_77 : decode b_Mo_need 77 = .ok (.if_icmp .ge 56, 3) := by decide +kernel
theorem d_Mo_need_80 : decode b_Mo_need 80 = .ok (.aload_n 0, 1) := by decide +kernel
theorem d_Mo_need_81 : decode b_Mo_need 81 = .ok (.getfield 47, 3) := by decide +kernel
theorem d_Mo_need_84 : decode b_Mo_need 84 = .ok (.iload_n 2, 1) := by decide +kernel
theorem d_Mo_need_85 : decode b_Mo_need 85 = .ok (.iaload, 1) := by decide +kernel
theorem d_Mo_need_86 : decode b_Mo_need 86 = .ok (.iconst 2, 1) := by decide +kernel
theorem d_Mo_need_87 : decode b_Mo_need 87 = .ok (.if_icmp .ne 46, 3) := by decide +kernel
theorem d_Mo_need_90 : decode b_Mo_need 90 = .ok (.aload_n 0, 1) := by decide +kernel
theorem d_Mo_need_91 : decode b_Mo_need 91 = .ok (.getfield 44, 3) := by decide +kernel
theorem d_Mo_need_94 : decode b_Mo_need 94 = .ok (.iload 4, 2) := by decide +kernel
theorem d_Mo_need_96 : decode b_Mo_need 96 = .ok (.baload, 1) := by decide +kernel
theorem d_Mo_need_97 : decode b_Mo_need 97 = .ok (.ifCond .eq 30, 3) := by decide +kernel
theorem d_Mo_need_100 : decode b_Mo_need 100 = .ok (.aload_n 0, 1) := by decide +kernel
theorem d_Mo_need_101 : decode b_Mo_need 101 = .ok (.aload_n 0, 1) := by decide +kernel
theorem d_Mo_need_102 : decode b_Mo_need 102 = .ok (.getfield 16, 3) := by decide +kernel
theorem d_Mo_need_105 : decode b_Mo_need 105 = .ok (.iload_n 1, 1) := by decide +kernel
theorem d_Mo_need_106 : decode b_Mo_need 106 = .ok (.iaload, 1) := by decide +kernel
theorem d_Mo_need_107 : decode b_Mo_need 107 = .ok (.iload 4, 2) := by decide +kernel
theorem d_Mo_need_109 : decode b_Mo_need 109 = .ok (.invokevirtual 128, 3) := by decide +kernel
theorem d_Mo_need_112 : decode b_Mo_need 112 = .ok (.ifCond .eq 15, 3) := by decide +kernel
theorem d_Mo_need_115 : decode b_Mo_need 115 = .ok (.aload_n 0, 1) := by decide +kernel
theorem d_Mo_need_116 : decode b_Mo_need 116 = .ok (.iload 4, 2) := by decide +kernel
theorem d_Mo_need_118 : decode b_Mo_need 118 = .ok (.iload_n 2, 1) := by decide +kernel
theorem d_Mo_need_119 : decode b_Mo_need 119 = .ok (.invokevirtual 132, 3) := by decide +kernel
theorem d_Mo_need_122 : decode b_Mo_need 122 = .ok (.ifCond .eq 5, 3) := by decide +kernel
theorem d_Mo_need_125 : decode b_Mo_need 125 = .ok (.iconst 1, 1) := by decide +kernel
theorem d_Mo_need_126 : decode b_Mo_need 126 = .ok (.istore_n 3, 1) := by decide +kernel
theorem d_Mo_need_127 : decode b_Mo_need 127 = .ok (.iinc 4 1, 3) := by decide +kernel
theorem d_Mo_need_130 : decode b_Mo_need 130 = .ok (.goto (-59), 3) := by decide +kernel
theorem d_Mo_need_133 : decode b_Mo_need 133 = .ok (.iload_n 3, 1) := by decide +kernel
theorem d_Mo_need_134 : decode b_Mo_need 134 = .ok (.ireturn, 1) := by decide +kernel
theorem d_Mo_enliven_0 : decode b_Mo_enliven 0 = .ok (.aload_n 0, 1) := by decide +kernel
theorem d_Mo_enliven_1 : decode b_Mo_enliven 1 = .ok (.iload_n 1, 1) := by decide +kernel
theorem d_Mo_enliven_2 : decode b_Mo_enliven 2 = .ok (.aload_n 0, 1) := by decide +kernel
theorem d_Mo_enliven_3 : decode b_Mo_enliven 3 = .ok (.getfield 53, 3) := by decide +kernel
theorem d_Mo_enliven_6 : decode b_Mo_enliven 6 = .ok (.iload_n 2, 1) := by decide +kernel
theorem d_Mo_enliven_7 : decode b_Mo_enliven 7 = .ok (.iaload, 1) := by decide +kernel
theorem d_Mo_enliven_8 : decode b_Mo_enliven 8 = .ok (.aload_n 0, 1) := by decide +kernel
theorem d_Mo_enliven_9 : decode b_Mo_enliven 9 = .ok (.getfield 56, 3) := by decide +kernel
theorem d_Mo_enliven_12 : decode b_Mo_enliven 12 = .ok (.iload_n 2, 1) := by decide +kernel
theorem d_Mo_enliven_13 : decode b_Mo_enliven 13 = .ok (.iaload, 1) := by decide +kernel
theorem d_Mo_enliven_14 : decode b_Mo_enliven 14 = .ok (.invokevirtual 125, 3) := by decide +kernel
theorem d_Mo_enliven_17 : decode b_Mo_enliven 17 = .ok (.istore_n 3, 1) := by decide +kernel
theorem d_Mo_enliven_18 : decode b_Mo_enliven 18 = .ok (.iload_n 3, 1) := by decide +kernel
theorem d_Mo_enliven_19 : decode b_Mo_enliven 19 = .ok (.ifCond .lt 12, 3) := by decide +kernel
theorem d_Mo_enliven_22 : decode b_Mo_enliven 22 = .ok (.aload_n 0, 1) := by decide +kernel
theorem d_Mo_enliven_23 : decode b_Mo_enliven 23 = .ok (.getfield 41, 3) := by decide +kernel
theorem d_Mo_enliven_26 : decode b_Mo_enliven 26 = .ok (.iload_n 3, 1) := by decide +kernel
theorem d_Mo_enliven_27 : decode b_Mo_enliven 27 = .ok (.baload, 1) := by decide +kernel
theorem d_Mo_enliven_28 : decode b_Mo_enliven 28 = .ok (.ifCond .eq 5, 3) := by decide +kernel
theorem d_Mo_enliven_31 : decode b_Mo_enliven 31 = .ok (.iconst 0, 1) := by decide +kernel
theorem d_Mo_enliven_32 : decode b_Mo_enliven 32 = .ok (.ireturn, 1) := by decide +kernel
theorem d_Mo_enliven_33 : decode b_Mo_enliven 33 = .ok (.aload_n 0, 1) := by decide +kernel
theorem d_Mo_enliven_34 : decode b_Mo_enliven 34 = .ok (.getfield 41, 3) := by decide +kernel
theorem d_Mo_enliven_37 : decode b_Mo_enliven 37 = .ok (.iload_n 3, 1) := by decide +kernel
theorem d_Mo_enliven_38 : decode b_Mo_enliven 38 = .ok (.iconst 1, 1) := by decide +kernel
theorem d_Mo_enliven_39 : decode b_Mo_enliven 39 = .ok (.bastore, 1) := by decide +kernel
theorem d_Mo_enliven_40 : decode b_Mo_enliven 40 = .ok (.iconst 1, 1) := by decide +kernel
theorem d_Mo_enliven_41 : decode b_Mo_enliven 41 = .ok (.ireturn, 1) := by decide +kernel
theorem d_Mo_above_0 : decode b_Mo_above 0 = .ok (.iload_n 2, 1) := by decide +kernel
theorem d_Mo_above_1 : decode b_Mo_above 1 = .ok (.istore_n 3, 1) := by decide +kernel
theorem d_Mo_above_2 : decode b_Mo_above 2 = .ok (.iload_n 3, 1) := by decide +kernel
theorem d_Mo_above_3 : decode b_Mo_above 3 = .ok (.ifCond .lt 18, 3) := by decide +kernel
theorem d_Mo_above_6 : decode b_Mo_above 6 = .ok (.iload_n 3, 1) := by decide +kernel
theorem d_Mo_above_7 : decode b_Mo_above 7 = .ok (.iload_n 1, 1) := by decide +kernel
theorem d_Mo_above_8 : decode b_Mo_above 8 = .ok (.if_icmp .eq 13, 3) := by decide +kernel
theorem d_Mo_above_11 : decode b_Mo_above 11 = .ok (.aload_n 0, 1) := by decide +kernel
theorem d_Mo_above_12 : decode b_Mo_above 12 = .ok (.getfield 7, 3) := by decide +kernel
theorem d_Mo_above_15 : decode b_Mo_above 15 = .ok (.iload_n 3, 1) := by decide +kernel
theorem d_Mo_above_16 : decode b_Mo_above 16 = .ok (.iaload, 1) := by decide +kernel
theorem d_Mo_above_17 : decode b_Mo_above 17 = .ok (.istore_n 3, 1) := by decide +kernel
theorem d_Mo_above_18 : decode b_Mo_above 18 = .ok (.goto (-16), 3) := by decide +kernel
theorem d_Mo_above_21 : decode b_Mo_above 21 = .ok (.iload_n 3, 1) := by decide +kernel
theorem d_Mo_above_22 : decode b_Mo_above 22 = .ok (.iload_n 1, 1) := by decide +kernel
theorem d_Mo_above_23 : decode b_Mo_above 23 = .ok (.if_icmp .ne 7, 3) := by decide +kernel
theorem d_Mo_above_26 : decode b_Mo_above 26 = .ok (.iconst 1, 1) := by decide +kernel
theorem d_Mo_above_27 : decode b_Mo_above 27 = .ok (.goto 4, 3) := by decide +kernel
theorem d_Mo_above_30 : decode b_Mo_above 30 = .ok (.iconst 0, 1) := by decide +kernel
theorem d_Mo_above_31 : decode b_Mo_above 31 = .ok (.ireturn, 1) := by decide +kernel
theorem d_Mo_moveMethod_0 : decode b_Mo_moveMethod 0 = .ok (.aload_n 0, 1) := by decide +kernel
theorem d_Mo_moveMethod_1 : decode b_Mo_moveMethod 1 = .ok (.getfield 16, 3) := by decide +kernel
theorem d_Mo_moveMethod_4 : decode b_Mo_moveMethod 4 = .ok (.iload_n 2, 1) := by decide +kernel
theorem d_Mo_moveMethod_5 : decode b_Mo_moveMethod 5 = .ok (.aload_n 0, 1) := by decide +kernel
theorem d_Mo_moveMethod_6 : decode b_Mo_moveMethod 6 = .ok (.getfield 80, 3) := by decide +kernel
theorem d_Mo_moveMethod_9 : decode b_Mo_moveMethod 9 = .ok (.aload_n 0, 1) := by decide +kernel
theorem d_Mo_moveMethod_10 : decode b_Mo_moveMethod 10 = .ok (.getfield 16, 3) := by decide +kernel
theorem d_Mo_moveMethod_13 : decode b_Mo_moveMethod 13 = .ok (.iload_n 1, 1) := by decide +kernel
theorem d_Mo_moveMethod_14 : decode b_Mo_moveMethod 14 = .ok (.iaload, 1) := by decide +kernel
theorem d_Mo_moveMethod_15 : decode b_Mo_moveMethod 15 = .ok (.iaload, 1) := by decide +kernel
theorem d_Mo_moveMethod_16 : decode b_Mo_moveMethod 16 = .ok (.iastore, 1) := by decide +kernel
theorem d_Mo_moveMethod_17 : decode b_Mo_moveMethod 17 = .ok (.aload_n 0, 1) := by decide +kernel
theorem d_Mo_moveMethod_18 : decode b_Mo_moveMethod 18 = .ok (.getfield 19, 3) := by decide +kernel
theorem d_Mo_moveMethod_21 : decode b_Mo_moveMethod 21 = .ok (.iload_n 2, 1) := by decide +kernel
theorem d_Mo_moveMethod_22 : decode b_Mo_moveMethod 22 = .ok (.aload_n 0, 1) := by decide +kernel
theorem d_Mo_moveMethod_23 : decode b_Mo_moveMethod 23 = .ok (.getfield 19, 3) := by decide +kernel
theorem d_Mo_moveMethod_26 : decode b_Mo_moveMethod 26 = .ok (.iload_n 1, 1) := by decide +kernel
theorem d_Mo_moveMethod_27 : decode b_Mo_moveMethod 27 = .ok (.iaload, 1) := by decide +kernel
theorem d_Mo_moveMethod_28 : decode b_Mo_moveMethod 28 = .ok (.iastore, 1) := by decide +kernel
theorem d_Mo_moveMethod_29 : decode b_Mo_moveMethod 29 = .ok (.aload_n 0, 1) := by decide +kernel
theorem d_Mo_moveMethod_30 : decode b_Mo_moveMethod 30 = .ok (.getfield 22, 3) := by decide +kernel
theorem d_Mo_moveMethod_33 : decode b_Mo_moveMethod 33 = .ok (.iload_n 2, 1) := by decide +kernel
theorem d_Mo_moveMethod_34 : decode b_Mo_moveMethod 34 = .ok (.aload_n 0, 1) := by decide +kernel
theorem d_Mo_moveMethod_35 : decode b_Mo_moveMethod 35 = .ok (.getfield 22, 3) := by decide +kernel
theorem d_Mo_moveMethod_38 : decode b_Mo_moveMethod 38 = .ok (.iload_n 1, 1) := by decide +kernel
theorem d_Mo_moveMethod_39 : decode b_Mo_moveMethod 39 = .ok (.iaload, 1) := by decide +kernel
theorem d_Mo_moveMethod_40 : decode b_Mo_moveMethod 40 = .ok (.iastore, 1) := by decide +kernel
theorem d_Mo_moveMethod_41 : decode b_Mo_moveMethod 41 = .ok (.aload_n 0, 1) := by decide +kernel
theorem d_Mo_moveMethod_42 : decode b_Mo_moveMethod 42 = .ok (.getfield 25, 3) := by decide +kernel
theorem d_Mo_moveMethod_45 : decode b_Mo_moveMethod 45 = .ok (.iload_n 2, 1) := by decide +kernel
theorem d_Mo_moveMethod_46 : decode b_Mo_moveMethod 46 = .ok (.aload_n 0, 1) := by decide +kernel
theorem d_Mo_moveMethod_47 : decode b_Mo_moveMethod 47 = .ok (.getfield 25, 3) := by decide +kernel
theorem d_Mo_moveMethod_50 : decode b_Mo_moveMethod 50 = .ok (.iload_n 1, 1) := by decide +kernel
theorem d_Mo_moveMethod_51 : decode b_Mo_moveMethod 51 = .ok (.iaload, 1) := by decide +kernel
theorem d_Mo_moveMethod_52 : decode b_Mo_moveMethod 52 = .ok (.iastore, 1) := by decide +kernel
theorem d_Mo_moveMethod_53 : decode b_Mo_moveMethod 53 = .ok (.aload_n 0, 1) := by decide +kernel
theorem d_Mo_moveMethod_54 : decode b_Mo_moveMethod 54 = .ok (.getfield 37, 3) := by decide +kernel
theorem d_Mo_moveMethod_57 : decode b_Mo_moveMethod 57 = .ok (.iload_n 2, 1) := by decide +kernel
theorem d_Mo_moveMethod_58 : decode b_Mo_moveMethod 58 = .ok (.aload_n 0, 1) := by decide +kernel
theorem d_Mo_moveMethod_59 : decode b_Mo_moveMethod 59 = .ok (.getfield 37, 3) := by decide +kernel
theorem d_Mo_moveMethod_62 : decode b_Mo_moveMethod 62 = .ok (.iload_n 1, 1) := by decide +kernel
theorem d_Mo_moveMethod_63 : decode b_Mo_moveMethod 63 = .ok (.baload, 1) := by decide +kernel
theorem d_Mo_moveMethod_64 : decode b_Mo_moveMethod 64 = .ok (.bastore, 1) := by decide +kernel
theorem d_Mo_moveMethod_65 : decode b_Mo_moveMethod 65 = .ok (.aload_n 0, 1) := by decide +kernel
theorem d_Mo_moveMethod_66 : decode b_Mo_moveMethod 66 = .ok (.getfield 28, 3) := by decide +kernel
theorem d_Mo_moveMethod_69 : decode b_Mo_moveMethod 69 = .ok (.iload_n 2, 1) := by decide +kernel
theorem d_Mo_moveMethod_70 : decode b_Mo_moveMethod 70 = .ok (.aload_n 0, 1) := by decide +kernel
theorem d_Mo_moveMethod_71 : decode b_Mo_moveMethod 71 = .ok (.getfield 28, 3) := by decide +kernel
theorem d_Mo_moveMethod_74 : decode b_Mo_moveMethod 74 = .ok (.iload_n 1, 1) := by decide +kernel
theorem d_Mo_moveMethod_75 : decode b_Mo_moveMethod 75 = .ok (.iaload, 1) := by decide +kernel
theorem d_Mo_moveMethod_76 : decode b_Mo_moveMethod 76 = .ok (.iastore, 1) := by decide +kernel
theorem d_Mo_moveMethod_77 : decode b_Mo_moveMethod 77 = .ok (.aload_n 0, 1) := by decide +kernel
theorem d_Mo_moveMethod_78 : decode b_Mo_moveMethod 78 = .ok (.getfield 31, 3) := by decide +kernel
theorem d_Mo_moveMethod_81 : decode b_Mo_moveMethod 81 = .ok (.iload_n 2, 1) := by decide +kernel
theorem d_Mo_moveMethod_82 : decode b_Mo_moveMethod 82 = .ok (.aload_n 0, 1) := by decide +kernel
theorem d_Mo_moveMethod_83 : decode b_Mo_moveMethod 83 = .ok (.getfield 31, 3) := by decide +kernel
theorem d_Mo_moveMethod_86 : decode b_Mo_moveMethod 86 = .ok (.iload_n 1, 1) := by decide +kernel
theorem d_Mo_moveMethod_87 : decode b_Mo_moveMethod 87 = .ok (.iaload, 1) := by decide +kernel
theorem d_Mo_moveMethod_88 : decode b_Mo_moveMethod 88 = .ok (.iastore, 1) := by decide +kernel
theorem d_Mo_moveMethod_89 : decode b_Mo_moveMethod 89 = .ok (.aload_n 0, 1) := by decide +kernel
theorem d_Mo_moveMethod_90 : decode b_Mo_moveMethod 90 = .ok (.getfield 34, 3) := by decide +kernel
theorem d_Mo_moveMethod_93 : decode b_Mo_moveMethod 93 = .ok (.iload_n 2, 1) := by decide +kernel
theorem d_Mo_moveMethod_94 : decode b_Mo_moveMethod 94 = .ok (.aload_n 0, 1) := by decide +kernel
theorem d_Mo_moveMethod_95 : decode b_Mo_moveMethod 95 = .ok (.getfield 34, 3) := by decide +kernel
theorem d_Mo_moveMethod_98 : decode b_Mo_moveMethod 98 = .ok (.iload_n 1, 1) := by decide +kernel
theorem d_Mo_moveMethod_99 : decode b_Mo_moveMethod 99 = .ok (.iaload, 1) := by decide +kernel
theorem d_Mo_moveMethod_100 : decode b_Mo_moveMethod 100 = .ok (.iastore, 1) := by decide +kernel
theorem d_Mo_moveMethod_101 : decode b_Mo_moveMethod 101 = .ok (.iconst 0, 1) := by decide +kernel
theorem d_Mo_moveMethod_102 : decode b_Mo_moveMethod 102 = .ok (.istore_n 3, 1) := by decide +kernel
theorem d_Mo_moveMethod_103 : decode b_Mo_moveMethod 103 = .ok (.iload_n 3, 1) := by decide +kernel
theorem d_Mo_moveMethod_104 : decode b_Mo_moveMethod 104 = .ok (.aload_n 0, 1) := by decide +kernel
theorem d_Mo_moveMethod_105 : decode b_Mo_moveMethod 105 = .ok (.getfield 25, 3) := by decide +kernel
theorem d_Mo_moveMethod_108 : decode b_Mo_moveMethod 108 = .ok (.iload_n 1, 1) := by decide +kernel
theorem d_Mo_moveMethod_109 : decode b_Mo_moveMethod 109 = .ok (.iaload, 1) := by decide +kernel
theorem d_Mo_moveMethod_110 : decode b_Mo_moveMethod 110 = .ok (.if_icmp .ge 105, 3) := by decide +kernel
theorem d_Mo_moveMethod_113 : decode b_Mo_moveMethod 113 = .ok (.iload_n 1, 1) := by decide +kernel
theorem d_Mo_moveMethod_114 : decode b_Mo_moveMethod 114 = .ok (.iconst 5, 1) := by decide +kernel
theorem d_Mo_moveMethod_115 : decode b_Mo_moveMethod 115 = .ok (.imul, 1) := by decide +kernel
theorem d_Mo_moveMethod_116 : decode b_Mo_moveMethod 116 = .ok (.iload_n 3, 1) := by decide +kernel
theorem d_Mo_moveMethod_117 : decode b_Mo_moveMethod 117 = .ok (.iadd, 1) := by decide +kernel
theorem d_Mo_moveMethod_118 : decode b_Mo_moveMethod 118 = .ok (.istore 4, 2) := by decide +kernel
theorem d_Mo_moveMethod_120 : decode b_Mo_moveMethod 120 = .ok (.iload_n 2, 1) := by decide +kernel
theorem d_Mo_moveMethod_121 : decode b_Mo_moveMethod 121 = .ok (.iconst 5, 1) := by decide +kernel
theorem d_Mo_moveMethod_122 : decode b_Mo_moveMethod 122 = .ok (.imul, 1) := by decide +kernel
theorem d_Mo_moveMethod_123 : decode b_Mo_moveMethod 123 = .ok (.iload_n 3, 1) := by decide +kernel
theorem d_Mo_moveMethod_124 : decode b_Mo_moveMethod 124 = .ok (.iadd, 1) := by decide +kernel
theorem d_Mo_moveMethod_125 : decode b_Mo_moveMethod 125 = .ok (.istore 5, 2) := by decide +kernel
theorem d_Mo_moveMethod_127 : decode b_Mo_moveMethod 127 = .ok (.aload_n 0, 1) := by decide +kernel
theorem d_Mo_moveMethod_128 : decode b_Mo_moveMethod 128 = .ok (.getfield 47, 3) := by decide +kernel
theorem d_Mo_moveMethod_131 : decode b_Mo_moveMethod 131 = .ok (.iload 5, 2) := by decide +kernel
theorem d_Mo_moveMethod_133 : decode b_Mo_moveMethod 133 = .ok (.aload_n 0, 1) := by decide +kernel
theorem d_Mo_moveMethod_134 : decode b_Mo_moveMethod 134 = .ok (.getfield 47, 3) := by decide +kernel
theorem d_Mo_moveMethod_137 : decode b_Mo_moveMethod 137 = .ok (.iload 4, 2) := by decide +kernel
theorem d_Mo_moveMethod_139 : decode b_Mo_moveMethod 139 = .ok (.iaload, 1) := by decide +kernel
theorem d_Mo_moveMethod_140 : decode b_Mo_moveMethod 140 = .ok (.iastore, 1) := by decide +kernel
theorem d_Mo_moveMethod_141 : decode b_Mo_moveMethod 141 = .ok (.aload_n 0, 1) := by decide +kernel
theorem d_Mo_moveMethod_142 : decode b_Mo_moveMethod 142 = .ok (.getfield 50, 3) := by decide +kernel
theorem d_Mo_moveMethod_145 : decode b_Mo_moveMethod 145 = .ok (.iload 5, 2) := by decide +kernel
theorem d_Mo_moveMethod_147 : decode b_Mo_moveMethod 147 = .ok (.aload_n 0, 1) := by decide +kernel
theorem d_Mo_moveMethod_148 : decode b_Mo_moveMethod 148 = .ok (.getfield 47, 3) := by decide +kernel
theorem d_Mo_moveMethod_151 : decode b_Mo_moveMethod 151 = .ok (.iload 4, 2) := by decide +kernel
theorem d_Mo_moveMethod_153 : decode b_Mo_moveMethod 153 = .ok (.iaload, 1) := by decide +kernel
theorem d_Mo_moveMethod_154 : decode b_Mo_moveMethod 154 = .ok (.iconst 1, 1) := by decide +kernel
theorem d_Mo_moveMethod_155 : decode b_Mo_moveMethod 155 = .ok (.if_icmp .ne 18, 3) := by decide +kernel
theorem d_Mo_moveMethod_158 : decode b_Mo_moveMethod 158 = .ok (.aload_n 0, 1) := by decide +kernel
theorem d_Mo_moveMethod_159 : decode b_Mo_moveMethod 159 = .ok (.getfield 80, 3) := by decide +kernel
theorem d_Mo_moveMethod_162 : decode b_Mo_moveMethod 162 = .ok (.aload_n 0, 1) := by decide +kernel
theorem d_Mo_moveMethod_163 : decode b_Mo_moveMethod 163 = .ok (.getfield 50, 3) := by decide +kernel
theorem d_Mo_moveMethod_166 : decode b_Mo_moveMethod 166 = .ok (.iload 4, 2) := by decide +kernel
theorem d_Mo_moveMethod_168 : decode b_Mo_moveMethod 168 = .ok (.iaload, 1) := by decide +kernel
theorem d_Mo_moveMethod_169 : decode b_Mo_moveMethod 169 = .ok (.iaload, 1) := by decide +kernel
theorem d_Mo_moveMethod_170 : decode b_Mo_moveMethod 170 = .ok (.goto 10, 3) := by decide +kernel
theorem d_Mo_moveMethod_173 : decode b_Mo_moveMethod 173 = .ok (.aload_n 0, 1) := by decide +kernel
theorem d_Mo_moveMethod_174 : decode b_Mo_moveMethod 174 = .ok (.getfield 50, 3) := by decide +kernel
theorem d_Mo_moveMethod_177 : decode b_Mo_moveMethod 177 = .ok (.iload 4, 2) := by decide +kernel
theorem d_Mo_moveMethod_179 : decode b_Mo_moveMethod 179 = .ok (.iaload, 1) := by decide +kernel
theorem d_Mo_moveMethod_180 : decode b_Mo_moveMethod 180 = .ok (.iastore, 1) := by decide +kernel
theorem d_Mo_moveMethod_181 : decode b_Mo_moveMethod 181 = .ok (.aload_n 0, 1) := by decide +kernel
theorem d_Mo_moveMethod_182 : decode b_Mo_moveMethod 182 = .ok (.getfield 53, 3) := by decide +kernel
theorem d_Mo_moveMethod_185 : decode b_Mo_moveMethod 185 = .ok (.iload 5, 2) := by decide +kernel
theorem d_Mo_moveMethod_187 : decode b_Mo_moveMethod 187 = .ok (.aload_n 0, 1) := by decide +kernel
theorem d_Mo_moveMethod_188 : decode b_Mo_moveMethod 188 = .ok (.getfield 53, 3) := by decide +kernel
theorem d_Mo_moveMethod_191 : decode b_Mo_moveMethod 191 = .ok (.iload 4, 2) := by decide +kernel
theorem d_Mo_moveMethod_193 : decode b_Mo_moveMethod 193 = .ok (.iaload, 1) := by decide +kernel
theorem d_Mo_moveMethod_194 : decode b_Mo_moveMethod 194 = .ok (.iastore, 1) := by decide +kernel
theorem d_Mo_moveMethod_195 : decode b_Mo_moveMethod 195 = .ok (.aload_n 0, 1) := by decide +kernel
theorem d_Mo_moveMethod_196 : decode b_Mo_moveMethod 196 = .ok (.getfield 56, 3) := by decide +kernel
theorem d_Mo_moveMethod_199 : decode b_Mo_moveMethod 199 = .ok (.iload 5, 2) := by decide +kernel
theorem d_Mo_moveMethod_201 : decode b_Mo_moveMethod 201 = .ok (.aload_n 0, 1) := by decide +kernel
theorem d_Mo_moveMethod_202 : decode b_Mo_moveMethod 202 = .ok (.getfield 56, 3) := by decide +kernel
theorem d_Mo_moveMethod_205 : decode b_Mo_moveMethod 205 = .ok (.iload 4, 2) := by decide +kernel
theorem d_Mo_moveMethod_207 : decode b_Mo_moveMethod 207 = .ok (.iaload, 1) := by decide +kernel
theorem d_Mo_moveMethod_208 : decode b_Mo_moveMethod 208 = .ok (.iastore, 1) := by decide +kernel
theorem d_Mo_moveMethod_209 : decode b_Mo_moveMethod 209 = .ok (.iinc 3 1, 3) := by decide +kernel
theorem d_Mo_moveMethod_212 : decode b_Mo_moveMethod 212 = .ok (.goto (-109), 3) := by decide +kernel
theorem d_Mo_moveMethod_215 : decode b_Mo_moveMethod 215 = .ok (.return_, 1) := by decide +kernel
theorem d_Mo_rename_0 : decode b_Mo_rename 0 = .ok (.aload_n 0, 1) := by decide +kernel
theorem d_Mo_rename_1 : decode b_Mo_rename 1 = .ok (.iconst 0, 1) := by decide +kernel
theorem d_Mo_rename_2 : decode b_Mo_rename 2 = .ok (.putfield 92, 3) := by decide +kernel
theorem d_Mo_rename_5 : decode b_Mo_rename 5 = .ok (.aload_n 0, 1) := by decide +kernel
theorem d_Mo_rename_6 : decode b_Mo_rename 6 = .ok (.invokevirtual 161, 3) := by decide +kernel
theorem d_Mo_rename_9 : decode b_Mo_rename 9 = .ok (.istore_n 1, 1) := by decide +kernel
theorem d_Mo_rename_10 : decode b_Mo_rename 10 = .ok (.iconst 0, 1) := by decide +kernel
theorem d_Mo_rename_11 : decode b_Mo_rename 11 = .ok (.istore_n 2, 1) := by decide +kernel
theorem d_Mo_rename_12 : decode b_Mo_rename 12 = .ok (.aload_n 0, 1) := by decide +kernel
theorem d_Mo_rename_13 : decode b_Mo_rename 13 = .ok (.getfield 103, 3) := by decide +kernel
theorem d_Mo_rename_16 : decode b_Mo_rename 16 = .ok (.istore_n 3, 1) := by decide +kernel
theorem d_Mo_rename_17 : decode b_Mo_rename 17 = .ok (.iconst 0, 1) := by decide +kernel
theorem d_Mo_rename_18 : decode b_Mo_rename 18 = .ok (.istore 4, 2) := by decide +kernel
theorem d_Mo_rename_20 : decode b_Mo_rename 20 = .ok (.iload 4, 2) := by decide +kernel
theorem d_Mo_rename_22 : decode b_Mo_rename 22 = .ok (.aload_n 0, 1) := by decide +kernel
theorem d_Mo_rename_23 : decode b_Mo_rename 23 = .ok (.getfield 103, 3) := by decide +kernel
theorem d_Mo_rename_26 : decode b_Mo_rename 26 = .ok (.if_icmp .ge 48, 3) := by decide +kernel
theorem d_Mo_rename_29 : decode b_Mo_rename 29 = .ok (.aload_n 0, 1) := by decide +kernel
theorem d_Mo_rename_30 : decode b_Mo_rename 30 = .ok (.getfield 71, 3) := by decide +kernel
theorem d_Mo_rename_33 : decode b_Mo_rename 33 = .ok (.iload 4, 2) := by decide +kernel
theorem d_Mo_rename_35 : decode b_Mo_rename 35 = .ok (.aload_n 0, 1) := by decide +kernel
theorem d_Mo_rename_36 : decode b_Mo_rename 36 = .ok (.getfield 59, 3) := by decide +kernel
theorem d_Mo_rename_39 : decode b_Mo_rename 39 = .ok (.iload 4, 2) := by decide +kernel
theorem d_Mo_rename_41 : decode b_Mo_rename 41 = .ok (.iaload, 1) := by decide +kernel
theorem d_Mo_rename_42 : decode b_Mo_rename 42 = .ok (.iload 4, 2) := by decide +kernel
theorem d_Mo_rename_44 : decode b_Mo_rename 44 = .ok (.if_icmp .ne 22, 3) := by decide +kernel
theorem d_Mo_rename_47 : decode b_Mo_rename 47 = .ok (.aload_n 0, 1) := by decide +kernel
theorem d_Mo_rename_48 : decode b_Mo_rename 48 = .ok (.iload 4, 2) := by decide +kernel
theorem d_Mo_rename_50 : decode b_Mo_rename 50 = .ok (.invokevirtual 165, 3) := by decide +kernel
theorem d_Mo_rename_53 : decode b_Mo_rename 53 = .ok (.ifCond .eq 13, 3) := by decide +kernel
theorem d_Mo_rename_56 : decode b_Mo_rename 56 = .ok (.aload_n 0, 1) := by decide +kernel
theorem d_Mo_rename_57 : decode b_Mo_rename 57 = .ok (.getfield 19, 3) := by decide +kernel
theorem d_Mo_rename_60 : decode b_Mo_rename 60 = .ok (.iload 4, 2) := by decide +kernel
theorem d_Mo_rename_62 : decode b_Mo_rename 62 = .ok (.iaload, 1) := by decide +kernel
theorem d_Mo_rename_63 : decode b_Mo_rename 63 = .ok (.goto 4, 3) := by decide +kernel
theorem d_Mo_rename_66 : decode b_Mo_rename 66 = .ok (.iconst (-1), 1) := by decide +kernel
theorem d_Mo_rename_67 : decode b_Mo_rename 67 = .ok (.iastore, 1) := by decide +kernel
theorem d_Mo_rename_68 : decode b_Mo_rename 68 = .ok (.iinc 4 1, 3) := by decide +kernel
theorem d_Mo_rename_71 : decode b_Mo_rename 71 = .ok (.goto (-51), 3) := by decide +kernel
theorem d_Mo_rename_74 : decode b_Mo_rename 74 = .ok (.iconst 0, 1) := by decide +kernel
theorem d_Mo_rename_75 : decode b_Mo_rename 75 = .ok (.istore 4, 2) := by decide +kernel
theorem d_Mo_rename_77 : decode b_Mo_rename 77 = .ok (.iload 4, 2) := by decide +kernel
theorem d_Mo_rename_79 : decode b_Mo_rename 79 = .ok (.aload_n 0, 1) := by decide +kernel
theorem d_Mo_rename_80 : decode b_Mo_rename 80 = .ok (.getfield 103, 3) := by decide +kernel
theorem d_Mo_rename_83 : decode b_Mo_rename 83 = .ok (.if_icmp .ge 51, 3) := by decide +kernel
theorem d_Mo_rename_86 : decode b_Mo_rename 86 = .ok (.aload_n 0, 1) := by decide +kernel
theorem d_Mo_rename_87 : decode b_Mo_rename 87 = .ok (.getfield 59, 3) := by decide +kernel
theorem d_Mo_rename_90 : decode b_Mo_rename 90 = .ok (.iload 4, 2) := by decide +kernel
theorem d_Mo_rename_92 : decode b_Mo_rename 92 = .ok (.iaload, 1) := by decide +kernel
theorem d_Mo_rename_93 : decode b_Mo_rename 93 = .ok (.iload 4, 2) := by decide +kernel
theorem d_Mo_rename_95 : decode b_Mo_rename 95 = .ok (.if_icmp .eq 6, 3) := by decide +kernel
theorem d_Mo_rename_98 : decode b_Mo_rename 98 = .ok (.goto 30, 3) := by decide +kernel
theorem d_Mo_rename_101 : decode b_Mo_rename 101 = .ok (.iinc 2 1, 3) := by decide +kernel
theorem d_Mo_rename_104 : decode b_Mo_rename 104 = .ok (.aload_n 0, 1) := by decide +kernel
theorem d_Mo_rename_105 : decode b_Mo_rename 105 = .ok (.getfield 71, 3) := by decide +kernel
theorem d_Mo_rename_108 : decode b_Mo_rename 108 = .ok (.iload 4, 2) := by decide +kernel
theorem d_Mo_rename_110 : decode b_Mo_rename 110 = .ok (.iaload, 1) := by decide +kernel
theorem d_Mo_rename_111 : decode b_Mo_rename 111 = .ok (.ifCond .ge 17, 3) := by decide +kernel
theorem d_Mo_rename_114 : decode b_Mo_rename 114 = .ok (.aload_n 0, 1) := by decide +kernel
theorem d_Mo_rename_115 : decode b_Mo_rename 115 = .ok (.getfield 71, 3) := by decide +kernel
theorem d_Mo_rename_118 : decode b_Mo_rename 118 = .ok (.iload 4, 2) := by decide +kernel
theorem d_Mo_rename_120 : decode b_Mo_rename 120 = .ok (.aload_n 0, 1) := by decide +kernel
theorem d_Mo_rename_121 : decode b_Mo_rename 121 = .ok (.iload 4, 2) := by decide +kernel
theorem d_Mo_rename_123 : decode b_Mo_rename 123 = .ok (.iload_n 1, 1) := by decide +kernel
theorem d_Mo_rename_124 : decode b_Mo_rename 124 = .ok (.invokevirtual 168, 3) := by decide +kernel
theorem d_Mo_rename_127 : decode b_Mo_rename 127 = .ok (.iastore, 1) := by decide +kernel
theorem d_Mo_rename_128 : decode b_Mo_rename 128 = .ok (.iinc 4 1, 3) := by decide +kernel
theorem d_Mo_rename_131 : decode b_Mo_rename 131 = .ok (.goto (-54), 3) := by decide +kernel
theorem d_Mo_rename_134 : decode b_Mo_rename 134 = .ok (.iconst 0, 1) := by decide +kernel
theorem d_Mo_rename_135 : decode b_Mo_rename 135 = .ok (.istore 4, 2) := by decide +kernel
theorem d_Mo_rename_137 : decode b_Mo_rename 137 = .ok (.iload 4, 2) := by decide +kernel
theorem d_Mo_rename_139 : decode b_Mo_rename 139 = .ok (.aload_n 0, 1) := by decide +kernel
theorem d_Mo_rename_140 : decode b_Mo_rename 140 = .ok (.getfield 103, 3) := by decide +kernel
theorem d_Mo_rename_143 : decode b_Mo_rename 143 = .ok (.if_icmp .ge 162, 3) := by decide +kernel
theorem d_Mo_rename_146 : decode b_Mo_rename 146 = .ok (.iload 4, 2) := by decide +kernel
theorem d_Mo_rename_148 : decode b_Mo_rename 148 = .ok (.iconst 5, 1) := by decide +kernel
theorem d_Mo_rename_149 : decode b_Mo_rename 149 = .ok (.imul, 1) := by decide +kernel
theorem d_Mo_rename_150 : decode b_Mo_rename 150 = .ok (.istore 5, 2) := by decide +kernel
theorem d_Mo_rename_152 : decode b_Mo_rename 152 = .ok (.iload 5, 2) := by decide +kernel
theorem d_Mo_rename_154 : decode b_Mo_rename 154 = .ok (.iload 4, 2) := by decide +kernel
theorem d_Mo_rename_156 : decode b_Mo_rename 156 = .ok (.iconst 5, 1) := by decide +kernel
theorem d_Mo_rename_157 : decode b_Mo_rename 157 = .ok (.imul, 1) := by decide +kernel
theorem d_Mo_rename_158 : decode b_Mo_rename 158 = .ok (.aload_n 0, 1) := by decide +kernel
theorem d_Mo_rename_159 : decode b_Mo_rename 159 = .ok (.getfield 25, 3) := by decide +kernel
theorem d_Mo_rename_162 : decode b_Mo_rename 162 = .ok (.iload 4, 2) := by decide +kernel
theorem d_Mo_rename_164 : decode b_Mo_rename 164 = .ok (.iaload, 1) := by decide +kernel
theorem d_Mo_rename_165 : decode b_Mo_rename 165 = .ok (.iadd, 1) := by decide +kernel
theorem d_Mo_rename_166 : decode b_Mo_rename 166 = .ok (.if_icmp .ge 133, 3) := by decide +kernel
theorem d_Mo_rename_169 : decode b_Mo_rename 169 = .ok (.aload_n 0, 1) := by decide +kernel
theorem d_Mo_rename_170 : decode b_Mo_rename 170 = .ok (.getfield 47, 3) := by decide +kernel
theorem d_Mo_rename_173 : decode b_Mo_rename 173 = .ok (.iload 5, 2) := by decide +kernel
theorem d_Mo_rename_175 : decode b_Mo_rename 175 = .ok (.iaload, 1) := by decide +kernel
theorem d_Mo_rename_176 : decode b_Mo_rename 176 = .ok (.iconst 1, 1) := by decide +kernel
theorem d_Mo_rename_177 : decode b_Mo_rename 177 = .ok (.if_icmp .ne 31, 3) := by decide +kernel
theorem d_Mo_rename_180 : decode b_Mo_rename 180 = .ok (.aload_n 0, 1) := by decide +kernel
theorem d_Mo_rename_181 : decode b_Mo_rename 181 = .ok (.aload_n 0, 1) := by decide +kernel
theorem d_Mo_rename_182 : decode b_Mo_rename 182 = .ok (.getfield 50, 3) := by decide +kernel
theorem d_Mo_rename_185 : decode b_Mo_rename 185 = .ok (.iload 5, 2) := by decide +kernel
theorem d_Mo_rename_187 : decode b_Mo_rename 187 = .ok (.iaload, 1) := by decide +kernel
theorem d_Mo_rename_188 : decode b_Mo_rename 188 = .ok (.aload_n 0, 1) := by decide +kernel
theorem d_Mo_rename_189 : decode b_Mo_rename 189 = .ok (.getfield 53, 3) := by decide +kernel
theorem d_Mo_rename_192 : decode b_Mo_rename 192 = .ok (.iload 5, 2) := by decide +kernel
theorem d_Mo_rename_194 : decode b_Mo_rename 194 = .ok (.iaload, 1) := by decide +kernel
theorem d_Mo_rename_195 : decode b_Mo_rename 195 = .ok (.aload_n 0, 1) := by decide +kernel
theorem d_Mo_rename_196 : decode b_Mo_rename 196 = .ok (.getfield 56, 3) := by decide +kernel
theorem d_Mo_rename_199 : decode b_Mo_rename 199 = .ok (.iload 5, 2) := by decide +kernel
theorem d_Mo_rename_201 : decode b_Mo_rename 201 = .ok (.iaload, 1) := by decide +kernel
theorem d_Mo_rename_202 : decode b_Mo_rename 202 = .ok (.invokevirtual 125, 3) := by decide +kernel
theorem d_Mo_rename_205 : decode b_Mo_rename 205 = .ok (.goto 4, 3) := by decide +kernel
theorem d_Mo_rename_208 : decode b_Mo_rename 208 = .ok (.iconst (-1), 1) := by decide +kernel
theorem d_Mo_rename_209 : decode b_Mo_rename 209 = .ok (.istore 6, 2) := by decide +kernel
theorem d_Mo_rename_211 : decode b_Mo_rename 211 = .ok (.aload_n 0, 1) := by decide +kernel
theorem d_Mo_rename_212 : decode b_Mo_rename 212 = .ok (.getfield 74, 3) := by decide +kernel
theorem d_Mo_rename_215 : decode b_Mo_rename 215 = .ok (.iload 5, 2) := by decide +kernel
theorem d_Mo_rename_217 : decode b_Mo_rename 217 = .ok (.iload 6, 2) := by decide +kernel
theorem d_Mo_rename_219 : decode b_Mo_rename 219 = .ok (.ifCond .ge 8, 3) := by decide +kernel
theorem d_Mo_rename_222 : decode b_Mo_rename 222 = .ok (.bipush 26, 2) := by decide +kernel
theorem d_Mo_rename_224 : decode b_Mo_rename 224 = .ok (.goto 15, 3) := by decide +kernel
theorem d_Mo_rename_227 : decode b_Mo_rename 227 = .ok (.aload_n 0, 1) := by decide +kernel
theorem d_Mo_rename_228 : decode b_Mo_rename 228 = .ok (.getfield 71, 3) := by decide +kernel
theorem d_Mo_rename_231 : decode b_Mo_rename 231 = .ok (.aload_n 0, 1) := by decide +kernel
theorem d_Mo_rename_232 : decode b_Mo_rename 232 = .ok (.getfield 59, 3) := by decide +kernel
theorem d_Mo_rename_235 : decode b_Mo_rename 235 = .ok (.iload 6, 2) := by decide +kernel
theorem d_Mo_rename_237 : decode b_Mo_rename 237 = .ok (.iaload, 1) := by decide +kernel
theorem d_Mo_rename_238 : decode b_Mo_rename 238 = .ok (.iaload, 1) := by decide +kernel
theorem d_Mo_rename_239 : decode b_Mo_rename 239 = .ok (.iastore, 1) := by decide +kernel
theorem d_Mo_rename_240 : decode b_Mo_rename 240 = .ok (.aload_n 0, 1) := by decide +kernel
theorem d_Mo_rename_241 : decode b_Mo_rename 241 = .ok (.getfield 47, 3) := by decide +kernel
theorem d_Mo_rename_244 : decode b_Mo_rename 244 = .ok (.iload 5, 2) := by decide +kernel
theorem d_Mo_rename_246 : decode b_Mo_rename 246 = .ok (.iaload, 1) := by decide +kernel
theorem d_Mo_rename_247 : decode b_Mo_rename 247 = .ok (.iconst 2, 1) := by decide +kernel
theorem d_Mo_rename_248 : decode b_Mo_rename 248 = .ok (.if_icmp .eq 6, 3) := by decide +kernel
theorem d_Mo_rename_251 : decode b_Mo_rename 251 = .ok (.goto 42, 3) := by decide +kernel
theorem d_Mo_rename_254 : decode b_Mo_rename 254 = .ok (.aload_n 0, 1) := by decide +kernel
theorem d_Mo_rename_255 : decode b_Mo_rename 255 = .ok (.getfield 74, 3) := by decide +kernel
theorem d_Mo_rename_258 : decode b_Mo_rename 258 = .ok (.iload 5, 2) := by decide +kernel
theorem d_Mo_rename_260 : decode b_Mo_rename 260 = .ok (.aload_n 0, 1) := by decide +kernel
theorem d_Mo_rename_261 : decode b_Mo_rename 261 = .ok (.getfield 59, 3) := by decide +kernel
theorem d_Mo_rename_264 : decode b_Mo_rename 264 = .ok (.iload_n 3, 1) := by decide +kernel
theorem d_Mo_rename_265 : decode b_Mo_rename 265 = .ok (.iaload, 1) := by decide +kernel
theorem d_Mo_rename_266 : decode b_Mo_rename 266 = .ok (.aload_n 0, 1) := by decide +kernel
theorem d_Mo_rename_267 : decode b_Mo_rename 267 = .ok (.getfield 103, 3) := by decide +kernel
theorem d_Mo_rename_270 : decode b_Mo_rename 270 = .ok (.if_icmp .ge 17, 3) := by decide +kernel
theorem d_Mo_rename_273 : decode b_Mo_rename 273 = .ok (.aload_n 0, 1) := by decide +kernel
theorem d_Mo_rename_274 : decode b_Mo_rename 274 = .ok (.getfield 71, 3) := by decide +kernel
theorem d_Mo_rename_277 : decode b_Mo_rename 277 = .ok (.aload_n 0, 1) := by decide +kernel
theorem d_Mo_rename_278 : decode b_Mo_rename 278 = .ok (.getfield 59, 3) := by decide +kernel
theorem d_Mo_rename_281 : decode b_Mo_rename 281 = .ok (.iload_n 3, 1) := by decide +kernel
theorem d_Mo_rename_282 : decode b_Mo_rename 282 = .ok (.iaload, 1) := by decide +kernel
theorem d_Mo_rename_283 : decode b_Mo_rename 283 = .ok (.iaload, 1) := by decide +kernel
theorem d_Mo_rename_284 : decode b_Mo_rename 284 = .ok (.goto 5, 3) := by decide +kernel
theorem d_Mo_rename_287 : decode b_Mo_rename 287 = .ok (.bipush 26, 2) := by decide +kernel
theorem d_Mo_rename_289 : decode b_Mo_rename 289 = .ok (.iastore, 1) := by decide +kernel
theorem d_Mo_rename_290 : decode b_Mo_rename 290 = .ok (.iinc 3 1, 3) := by decide +kernel
theorem d_Mo_rename_293 : decode b_Mo_rename 293 = .ok (.iinc 5 1, 3) := by decide +kernel
theorem d_Mo_rename_296 : decode b_Mo_rename 296 = .ok (.goto (-144), 3) := by decide +kernel
theorem d_Mo_rename_299 : decode b_Mo_rename 299 = .ok (.iinc 4 1, 3) := by decide +kernel
theorem d_Mo_rename_302 : decode b_Mo_rename 302 = .ok (.goto (-165), 3) := by decide +kernel
theorem d_Mo_rename_305 : decode b_Mo_rename 305 = .ok (.iconst 0, 1) := by decide +kernel
theorem d_Mo_rename_306 : decode b_Mo_rename 306 = .ok (.istore 4, 2) := by decide +kernel
theorem d_Mo_rename_308 : decode b_Mo_rename 308 = .ok (.iload 4, 2) := by decide +kernel
theorem d_Mo_rename_310 : decode b_Mo_rename 310 = .ok (.aload_n 0, 1) := by decide +kernel
theorem d_Mo_rename_311 : decode b_Mo_rename 311 = .ok (.getfield 103, 3) := by decide +kernel
theorem d_Mo_rename_314 : decode b_Mo_rename 314 = .ok (.if_icmp .ge 81, 3) := by decide +kernel
theorem d_Mo_rename_317 : decode b_Mo_rename 317 = .ok (.iload 4, 2) := by decide +kernel
theorem d_Mo_rename_319 : decode b_Mo_rename 319 = .ok (.iconst 5, 1) := by decide +kernel
theorem d_Mo_rename_320 : decode b_Mo_rename 320 = .ok (.imul, 1) := by decide +kernel
theorem d_Mo_rename_321 : decode b_Mo_rename 321 = .ok (.istore 5, 2) := by decide +kernel
theorem d_Mo_rename_323 : decode b_Mo_rename 323 = .ok (.iload 5, 2) := by decide +kernel
theorem d_Mo_rename_325 : decode b_Mo_rename 325 = .ok (.iload 4, 2) := by decide +kernel
theorem d_Mo_rename_327 : decode b_Mo_rename 327 = .ok (.iconst 5, 1) := by decide +kernel
theorem d_Mo_rename_328 : decode b_Mo_rename 328 = .ok (.imul, 1) := by decide +kernel
theorem d_Mo_rename_329 : decode b_Mo_rename 329 = .ok (.aload_n 0, 1) := by decide +kernel
theorem d_Mo_rename_330 : decode b_Mo_rename 330 = .ok (.getfield 25, 3) := by decide +kernel
theorem d_Mo_rename_333 : decode b_Mo_rename 333 = .ok (.iload 4, 2) := by decide +kernel
theorem d_Mo_rename_335 : decode b_Mo_rename 335 = .ok (.iaload, 1) := by decide +kernel
theorem d_Mo_rename_336 : decode b_Mo_rename 336 = .ok (.iadd, 1) := by decide +kernel
theorem d_Mo_rename_337 : decode b_Mo_rename 337 = .ok (.if_icmp .ge 33, 3) := by decide +kernel
theorem d_Mo_rename_340 : decode b_Mo_rename 340 = .ok (.aload_n 0, 1) := by decide +kernel
theorem d_Mo_rename_341 : decode b_Mo_rename 341 = .ok (.getfield 47, 3) := by decide +kernel
theorem d_Mo_rename_344 : decode b_Mo_rename 344 = .ok (.iload 5, 2) := by decide +kernel
theorem d_Mo_rename_346 : decode b_Mo_rename 346 = .ok (.iaload, 1) := by decide +kernel
theorem d_Mo_rename_347 : decode b_Mo_rename 347 = .ok (.ifCond .le 17, 3) := by decide +kernel
theorem d_Mo_rename_350 : decode b_Mo_rename 350 = .ok (.aload_n 0, 1) := by decide +kernel
theorem d_Mo_rename_351 : decode b_Mo_rename 351 = .ok (.getfield 53, 3) := by decide +kernel
theorem d_Mo_rename_354 : decode b_Mo_rename 354 = .ok (.iload 5, 2) := by decide +kernel
theorem d_Mo_rename_356 : decode b_Mo_rename 356 = .ok (.aload_n 0, 1) := by decide +kernel
theorem d_Mo_rename_357 : decode b_Mo_rename 357 = .ok (.getfield 74, 3) := by decide +kernel
theorem d_Mo_rename_360 : decode b_Mo_rename 360 = .ok (.iload 5, 2) := by decide +kernel
theorem d_Mo_rename_362 : decode b_Mo_rename 362 = .ok (.iaload, 1) := by decide +kernel
theorem d_Mo_rename_363 : decode b_Mo_rename 363 = .ok (.iastore, 1) := by decide +kernel
theorem d_Mo_rename_364 : decode b_Mo_rename 364 = .ok (.iinc 5 1, 3) := by decide +kernel
theorem d_Mo_rename_367 : decode b_Mo_rename 367 = .ok (.goto (-44), 3) := by decide +kernel
theorem d_Mo_rename_370 : decode b_Mo_rename 370 = .ok (.aload_n 0, 1) := by decide +kernel
theorem d_Mo_rename_371 : decode b_Mo_rename 371 = .ok (.getfield 19, 3) := by decide +kernel
theorem d_Mo_rename_374 : decode b_Mo_rename 374 = .ok (.iload 4, 2) := by decide +kernel
theorem d_Mo_rename_376 : decode b_Mo_rename 376 = .ok (.aload_n 0, 1) := by decide +kernel
theorem d_Mo_rename_377 : decode b_Mo_rename 377 = .ok (.getfield 71, 3) := by decide +kernel
theorem d_Mo_rename_380 : decode b_Mo_rename 380 = .ok (.aload_n 0, 1) := by decide +kernel
theorem d_Mo_rename_381 : decode b_Mo_rename 381 = .ok (.getfield 59, 3) := by decide +kernel
theorem d_Mo_rename_384 : decode b_Mo_rename 384 = .ok (.iload 4, 2) := by decide +kernel
theorem d_Mo_rename_386 : decode b_Mo_rename 386 = .ok (.iaload, 1) := by decide +kernel
theorem d_Mo_rename_387 : decode b_Mo_rename 387 = .ok (.iaload, 1) := by decide +kernel
theorem d_Mo_rename_388 : decode b_Mo_rename 388 = .ok (.iastore, 1) := by decide +kernel
theorem d_Mo_rename_389 : decode b_Mo_rename 389 = .ok (.iinc 4 1, 3) := by decide +kernel
theorem d_Mo_rename_392 : decode b_Mo_rename 392 = .ok (.goto (-84), 3) := by decide +kernel
theorem d_Mo_rename_395 : decode b_Mo_rename 395 = .ok (.iload_n 2, 1) := by decide +kernel
theorem d_Mo_rename_396 : decode b_Mo_rename 396 = .ok (.ireturn, 1) := by decide +kernel
theorem d_Mo_gather_0 : decode b_Mo_gather 0 = .ok (.iconst 0, 1) := by decide +kernel
theorem d_Mo_gather_1 : decode b_Mo_gather 1 = .ok (.istore_n 1, 1) := by decide +kernel
theorem d_Mo_gather_2 : decode b_Mo_gather 2 = .ok (.iload_n 1, 1) := by decide +kernel
theorem d_Mo_gather_3 : decode b_Mo_gather 3 = .ok (.aload_n 0, 1) := by decide +kernel
theorem d_Mo_gather_4 : decode b_Mo_gather 4 = .ok (.getfield 103, 3) := by decide +kernel
theorem d_Mo_gather_7 : decode b_Mo_gather 7 = .ok (.if_icmp .ge 32, 3) := by decide +kernel
theorem d_Mo_gather_10 : decode b_Mo_gather 10 = .ok (.aload_n 0, 1) := by decide +kernel
theorem d_Mo_gather_11 : decode b_Mo_gather 11 = .ok (.iload_n 1, 1) := by decide +kernel
theorem d_Mo_gather_12 : decode b_Mo_gather 12 = .ok (.aload_n 0, 1) := by decide +kernel
theorem d_Mo_gather_13 : decode b_Mo_gather 13 = .ok (.getfield 16, 3) := by decide +kernel
theorem d_Mo_gather_16 : decode b_Mo_gather 16 = .ok (.iload_n 1, 1) := by decide +kernel
theorem d_Mo_gather_17 : decode b_Mo_gather 17 = .ok (.iaload, 1) := by decide +kernel
theorem d_Mo_gather_18 : decode b_Mo_gather 18 = .ok (.aload_n 0, 1) := by decide +kernel
theorem d_Mo_gather_19 : decode b_Mo_gather 19 = .ok (.getfield 19, 3) := by decide +kernel
theorem d_Mo_gather_22 : decode b_Mo_gather 22 = .ok (.iload_n 1, 1) := by decide +kernel
theorem d_Mo_gather_23 : decode b_Mo_gather 23 = .ok (.iaload, 1) := by decide +kernel
theorem d_Mo_gather_24 : decode b_Mo_gather 24 = .ok (.aload_n 0, 1) := by decide +kernel
theorem d_Mo_gather_25 : decode b_Mo_gather 25 = .ok (.getfield 22, 3) := by decide +kernel
theorem d_Mo_gather_28 : decode b_Mo_gather 28 = .ok (.iload_n 1, 1) := by decide +kernel
theorem d_Mo_gather_29 : decode b_Mo_gather 29 = .ok (.iaload, 1) := by decide +kernel
theorem d_Mo_gather_30 : decode b_Mo_gather 30 = .ok (.invokevirtual 148, 3) := by decide +kernel
theorem d_Mo_gather_33 : decode b_Mo_gather 33 = .ok (.iinc 1 1, 3) := by decide +kernel
theorem d_Mo_gather_36 : decode b_Mo_gather 36 = .ok (.goto (-34), 3) := by decide +kernel
theorem d_Mo_gather_39 : decode b_Mo_gather 39 = .ok (.aload_n 0, 1) := by decide +kernel
theorem d_Mo_gather_40 : decode b_Mo_gather 40 = .ok (.getfield 103, 3) := by decide +kernel
theorem d_Mo_gather_43 : decode b_Mo_gather 43 = .ok (.istore_n 1, 1) := by decide +kernel
theorem d_Mo_gather_44 : decode b_Mo_gather 44 = .ok (.iconst 0, 1) := by decide +kernel
theorem d_Mo_gather_45 : decode b_Mo_gather 45 = .ok (.istore_n 2, 1) := by decide +kernel
theorem d_Mo_gather_46 : decode b_Mo_gather 46 = .ok (.iload_n 2, 1) := by decide +kernel
theorem d_Mo_gather_47 : decode b_Mo_gather 47 = .ok (.aload_n 0, 1) := by decide +kernel
theorem d_Mo_gather_48 : decode b_Mo_gather 48 = .ok (.getfield 103, 3) := by decide +kernel
theorem d_Mo_gather_51 : decode b_Mo_gather 51 = .ok (.if_icmp .ge 72, 3) := by decide +kernel
theorem d_Mo_gather_54 : decode b_Mo_gather 54 = .ok (.iload_n 2, 1) := by decide +kernel
theorem d_Mo_gather_55 : decode b_Mo_gather 55 = .ok (.iconst 5, 1) := by decide +kernel
theorem d_Mo_gather_56 : decode b_Mo_gather 56 = .ok (.imul, 1) := by decide +kernel
theorem d_Mo_gather_57 : decode b_Mo_gather 57 = .ok (.istore_n 3, 1) := by decide +kernel
theorem d_Mo_gather_58 : decode b_Mo_gather 58 = .ok (.iload_n 3, 1) := by decide +kernel
theorem d_Mo_gather_59 : decode b_Mo_gather 59 = .ok (.iload_n 2, 1) := by decide +kernel
theorem d_Mo_gather_60 : decode b_Mo_gather 60 = .ok (.iconst 5, 1) := by decide +kernel
theorem d_Mo_gather_61 : decode b_Mo_gather 61 = .ok (.imul, 1) := by decide +kernel
theorem d_Mo_gather_62 : decode b_Mo_gather 62 = .ok (.aload_n 0, 1) := by decide +kernel
theorem d_Mo_gather_63 : decode b_Mo_gather 63 = .ok (.getfield 25, 3) := by decide +kernel
theorem d_Mo_gather_66 : decode b_Mo_gather 66 = .ok (.iload_n 2, 1) := by decide +kernel
theorem d_Mo_gather_67 : decode b_Mo_gather 67 = .ok (.iaload, 1) := by decide +kernel
theorem d_Mo_gather_68 : decode b_Mo_gather 68 = .ok (.iadd, 1) := by decide +kernel
theorem d_Mo_gather_69 : decode b_Mo_gather 69 = .ok (.if_icmp .ge 48, 3) := by decide +kernel
theorem d_Mo_gather_72 : decode b_Mo_gather 72 = .ok (.aload_n 0, 1) := by decide +kernel
theorem d_Mo_gather_73 : decode b_Mo_gather 73 = .ok (.getfield 47, 3) := by decide +kernel
theorem d_Mo_gather_76 : decode b_Mo_gather 76 = .ok (.iload_n 3, 1) := by decide +kernel
theorem d_Mo_gather_77 : decode b_Mo_gather 77 = .ok (.iaload, 1) := by decide +kernel
theorem d_Mo_gather_78 : decode b_Mo_gather 78 = .ok (.iconst 2, 1) := by decide +kernel
theorem d_Mo_gather_79 : decode b_Mo_gather 79 = .ok (.if_icmp .eq 6, 3) := by decide +kernel
theorem d_Mo_gather_82 : decode b_Mo_gather 82 = .ok (.goto 29, 3) := by decide +kernel
theorem d_Mo_gather_85 : decode b_Mo_gather 85 = .ok (.aload_n 0, 1) := by decide +kernel
theorem d_Mo_gather_86 : decode b_Mo_gather 86 = .ok (.iload_n 1, 1) := by decide +kernel
theorem d_Mo_gather_87 : decode b_Mo_gather 87 = .ok (.aload_n 0, 1) := by decide +kernel
theorem d_Mo_gather_88 : decode b_Mo_gather 88 = .ok (.getfield 16, 3) := by decide +kernel
theorem d_Mo_gather_91 : decode b_Mo_gather 91 = .ok (.iload_n 2, 1) := by decide +kernel
theorem d_Mo_gather_92 : decode b_Mo_gather 92 = .ok (.iaload, 1) := by decide +kernel
theorem d_Mo_gather_93 : decode b_Mo_gather 93 = .ok (.aload_n 0, 1) := by decide +kernel
theorem d_Mo_gather_94 : decode b_Mo_gather 94 = .ok (.getfield 53, 3) := by decide +kernel
theorem d_Mo_gather_97 : decode b_Mo_gather 97 = .ok (.iload_n 3, 1) := by decide +kernel
theorem d_Mo_gather_98 : decode b_Mo_gather 98 = .ok (.iaload, 1) := by decide +kernel
theorem d_Mo_gather_99 : decode b_Mo_gather 99 = .ok (.aload_n 0, 1) := by decide +kernel
theorem d_Mo_gather_100 : decode b_Mo_gather 100 = .ok (.getfield 56, 3) := by decide +kernel
theorem d_Mo_gather_103 : decode b_Mo_gather 103 = .ok (.iload_n 3, 1) := by decide +kernel
theorem d_Mo_gather_104 : decode b_Mo_gather 104 = .ok (.iaload, 1) := by decide +kernel
theorem d_Mo_gather_105 : decode b_Mo_gather 105 = .ok (.invokevirtual 148, 3) := by decide +kernel
theorem d_Mo_gather_108 : decode b_Mo_gather 108 = .ok (.iinc 1 1, 3) := by decide +kernel
theorem d_Mo_gather_111 : decode b_Mo_gather 111 = .ok (.iinc 3 1, 3) := by decide +kernel
theorem d_Mo_gather_114 : decode b_Mo_gather 114 = .ok (.goto (-56), 3) := by decide +kernel
theorem d_Mo_gather_117 : decode b_Mo_gather 117 = .ok (.iinc 2 1, 3) := by decide +kernel
theorem d_Mo_gather_120 : decode b_Mo_gather 120 = .ok (.goto (-74), 3) := by decide +kernel
theorem d_Mo_gather_123 : decode b_Mo_gather 123 = .ok (.iconst 1, 1) := by decide +kernel
theorem d_Mo_gather_124 : decode b_Mo_gather 124 = .ok (.istore_n 2, 1) := by decide +kernel
theorem d_Mo_gather_125 : decode b_Mo_gather 125 = .ok (.iload_n 2, 1) := by decide +kernel
theorem d_Mo_gather_126 : decode b_Mo_gather 126 = .ok (.ifCond .eq 77, 3) := by decide +kernel
theorem d_Mo_gather_129 : decode b_Mo_gather 129 = .ok (.iconst 0, 1) := by decide +kernel
theorem d_Mo_gather_130 : decode b_Mo_gather 130 = .ok (.istore_n 2, 1) := by decide +kernel
theorem d_Mo_gather_131 : decode b_Mo_gather 131 = .ok (.iconst 0, 1) := by decide +kernel
theorem d_Mo_gather_132 : decode b_Mo_gather 132 = .ok (.istore_n 3, 1) := by decide +kernel
theorem d_Mo_gather_133 : decode b_Mo_gather 133 = .ok (.iload_n 3, 1) := by decide +kernel
theorem d_Mo_gather_134 : decode b_Mo_gather 134 = .ok (.iload_n 1, 1) := by decide +kernel
theorem d_Mo_gather_135 : decode b_Mo_gather 135 = .ok (.if_icmp .ge 65, 3) := by decide +kernel
theorem d_Mo_gather_138 : decode b_Mo_gather 138 = .ok (.iconst 0, 1) := by decide +kernel
theorem d_Mo_gather_139 : decode b_Mo_gather 139 = .ok (.istore 4, 2) := by decide +kernel
theorem d_Mo_gather_141 : decode b_Mo_gather 141 = .ok (.iload 4, 2) := by decide +kernel
theorem d_Mo_gather_143 : decode b_Mo_gather 143 = .ok (.iload_n 1, 1) := by decide +kernel
theorem d_Mo_gather_144 : decode b_Mo_gather 144 = .ok (.if_icmp .ge 50, 3) := by decide +kernel
theorem d_Mo_gather_147 : decode b_Mo_gather 147 = .ok (.aload_n 0, 1) := by decide +kernel
theorem d_Mo_gather_148 : decode b_Mo_gather 148 = .ok (.getfield 59, 3) := by decide +kernel
theorem d_Mo_gather_151 : decode b_Mo_gather 151 = .ok (.iload_n 3, 1) := by decide +kernel
theorem d_Mo_gather_152 : decode b_Mo_gather 152 = .ok (.iaload, 1) := by decide +kernel
theorem d_Mo_gather_153 : decode b_Mo_gather 153 = .ok (.aload_n 0, 1) := by decide +kernel
theorem d_Mo_gather_154 : decode b_Mo_gather 154 = .ok (.getfield 59, 3) := by decide +kernel
theorem d_Mo_gather_157 : decode b_Mo_gather 157 = .ok (.iload 4, 2) := by decide +kernel
theorem d_Mo_gather_159 : decode b_Mo_gather 159 = .ok (.iaload, 1) := by decide +kernel
theorem d_Mo_gather_160 : decode b_Mo_gather 160 = .ok (.if_icmp .le 28, 3) := by decide +kernel
theorem d_Mo_gather_163 : decode b_Mo_gather 163 = .ok (.aload_n 0, 1) := by decide +kernel
theorem d_Mo_gather_164 : decode b_Mo_gather 164 = .ok (.iload_n 3, 1) := by decide +kernel
theorem d_Mo_gather_165 : decode b_Mo_gather 165 = .ok (.iload 4, 2) := by decide +kernel
theorem d_Mo_gather_167 : decode b_Mo_gather 167 = .ok (.invokevirtual 152, 3) := by decide +kernel
theorem d_Mo_gather_170 : decode b_Mo_gather 170 = .ok (.ifCond .eq 18, 3) := by decide +kernel
theorem d_Mo_gather_173 : decode b_Mo_gather 173 = .ok (.aload_n 0, 1) := by decide +kernel
theorem d_Mo_gather_174 : decode b_Mo_gather 174 = .ok (.getfield 59, 3) := by decide +kernel
theorem d_Mo_gather_177 : decode b_Mo_gather 177 = .ok (.iload_n 3, 1) := by decide +kernel
theorem d_Mo_gather_178 : decode b_Mo_gather 178 = .ok (.aload_n 0, 1) := by decide +kernel
theorem d_Mo_gather_179 : decode b_Mo_gather 179 = .ok (.getfield 59, 3) := by decide +kernel
theorem d_Mo_gather_182 : decode b_Mo_gather 182 = .ok (.iload 4, 2) := by decide +kernel
theorem d_Mo_gather_184 : decode b_Mo_gather 184 = .ok (.iaload, 1) := by decide +kernel
theorem d_Mo_gather_185 : decode b_Mo_gather 185 = .ok (.iastore, 1) := by decide +kernel
theorem d_Mo_gather_186 : decode b_Mo_gather 186 = .ok (.iconst 1, 1) := by decide +kernel
theorem d_Mo_gather_187 : decode b_Mo_gather 187 = .ok (.istore_n 2, 1) := by decide +kernel
theorem d_Mo_gather_188 : decode b_Mo_gather 188 = .ok (.iinc 4 1, 3) := by decide +kernel
theorem d_Mo_gather_191 : decode b_Mo_gather 191 = .ok (.goto (-50), 3) := by decide +kernel
theorem d_Mo_gather_194 : decode b_Mo_gather 194 = .ok (.iinc 3 1, 3) := by decide +kernel
theorem d_Mo_gather_197 : decode b_Mo_gather 197 = .ok (.goto (-64), 3) := by decide +kernel
theorem d_Mo_gather_200 : decode b_Mo_gather 200 = .ok (.goto (-75), 3) := by decide +kernel
theorem d_Mo_gather_203 : decode b_Mo_gather 203 = .ok (.iload_n 1, 1) := by decide +kernel
theorem d_Mo_gather_204 : decode b_Mo_gather 204 = .ok (.ireturn, 1) := by decide +kernel
theorem d_Mo_member_0 : decode b_Mo_member 0 = .ok (.aload_n 0, 1) := by decide +kernel
theorem d_Mo_member_1 : decode b_Mo_member 1 = .ok (.getfield 59, 3) := by decide +kernel
theorem d_Mo_member_4 : decode b_Mo_member 4 = .ok (.iload_n 1, 1) := by decide +kernel
theorem d_Mo_member_5 : decode b_Mo_member 5 = .ok (.iload_n 1, 1) := by decide +kernel
theorem d_Mo_member_6 : decode b_Mo_member 6 = .ok (.iastore, 1) := by decide +kernel
theorem d_Mo_member_7 : decode b_Mo_member 7 = .ok (.aload_n 0, 1) := by decide +kernel
theorem d_Mo_member_8 : decode b_Mo_member 8 = .ok (.getfield 62, 3) := by decide +kernel
theorem d_Mo_member_11 : decode b_Mo_member 11 = .ok (.iload_n 1, 1) := by decide +kernel
theorem d_Mo_member_12 : decode b_Mo_member 12 = .ok (.iload_n 2, 1) := by decide +kernel
theorem d_Mo_member_13 : decode b_Mo_member 13 = .ok (.iastore, 1) := by decide +kernel
theorem d_Mo_member_14 : decode b_Mo_member 14 = .ok (.aload_n 0, 1) := by decide +kernel
theorem d_Mo_member_15 : decode b_Mo_member 15 = .ok (.getfield 65, 3) := by decide +kernel
theorem d_Mo_member_18 : decode b_Mo_member 18 = .ok (.iload_n 1, 1) := by decide +kernel
theorem d_Mo_member_19 : decode b_Mo_member 19 = .ok (.iload_n 3, 1) := by decide +kernel
theorem d_Mo_member_20 : decode b_Mo_member 20 = .ok (.iastore, 1) := by decide +kernel
theorem d_Mo_member_21 : decode b_Mo_member 21 = .ok (.aload_n 0, 1) := by decide +kernel
theorem d_Mo_member_22 : decode b_Mo_member 22 = .ok (.getfield 68, 3) := by decide +kernel
theorem d_Mo_member_25 : decode b_Mo_member 25 = .ok (.iload_n 1, 1) := by decide +kernel
theorem d_Mo_member_26 : decode b_Mo_member 26 = .ok (.iload 4, 2) := by decide +kernel
theorem d_Mo_member_28 : decode b_Mo_member 28 = .ok (.iastore, 1) := by decide +kernel
theorem d_Mo_member_29 : decode b_Mo_member 29 = .ok (.return_, 1) := by decide +kernel
theorem d_Mo_alike_0 : decode b_Mo_alike 0 = .ok (.aload_n 0, 1) := by decide +kernel
theorem d_Mo_alike_1 : decode b_Mo_alike 1 = .ok (.getfield 65, 3) := by decide +kernel
theorem d_Mo_alike_4 : decode b_Mo_alike 4 = .ok (.iload_n 1, 1) := by decide +kernel
theorem d_Mo_alike_5 : decode b_Mo_alike 5 = .ok (.iaload, 1) := by decide +kernel
theorem d_Mo_alike_6 : decode b_Mo_alike 6 = .ok (.aload_n 0, 1) := by decide +kernel
theorem d_Mo_alike_7 : decode b_Mo_alike 7 = .ok (.getfield 65, 3) := by decide +kernel
theorem d_Mo_alike_10 : decode b_Mo_alike 10 = .ok (.iload_n 2, 1) := by decide +kernel
theorem d_Mo_alike_11 : decode b_Mo_alike 11 = .ok (.iaload, 1) := by decide +kernel
theorem d_Mo_alike_12 : decode b_Mo_alike 12 = .ok (.if_icmp .ne 41, 3) := by decide +kernel
theorem d_Mo_alike_15 : decode b_Mo_alike 15 = .ok (.aload_n 0, 1) := by decide +kernel
theorem d_Mo_alike_16 : decode b_Mo_alike 16 = .ok (.getfield 68, 3) := by decide +kernel
theorem d_Mo_alike_19 : decode b_Mo_alike 19 = .ok (.iload_n 1, 1) := by decide +kernel
theorem d_Mo_alike_20 : decode b_Mo_alike 20 = .ok (.iaload, 1) := by decide +kernel
theorem d_Mo_alike_21 : decode b_Mo_alike 21 = .ok (.aload_n 0, 1) := by decide +kernel
theorem d_Mo_alike_22 : decode b_Mo_alike 22 = .ok (.getfield 68, 3) := by decide +kernel
theorem d_Mo_alike_25 : decode b_Mo_alike 25 = .ok (.iload_n 2, 1) := by decide +kernel
theorem d_Mo_alike_26 : decode b_Mo_alike 26 = .ok (.iaload, 1) := by decide +kernel
theorem d_Mo_alike_27 : decode b_Mo_alike 27 = .ok (.if_icmp .ne 26, 3) := by decide +kernel
theorem d_Mo_alike_30 : decode b_Mo_alike 30 = .ok (.aload_n 0, 1) := by decide +kernel
theorem d_Mo_alike_31 : decode b_Mo_alike 31 = .ok (.aload_n 0, 1) := by decide +kernel
theorem d_Mo_alike_32 : decode b_Mo_alike 32 = .ok (.getfield 62, 3) := by decide +kernel
theorem d_Mo_alike_35 : decode b_Mo_alike 35 = .ok (.iload_n 1, 1) := by decide +kernel
theorem d_Mo_alike_36 : decode b_Mo_alike 36 = .ok (.iaload, 1) := by decide +kernel
theorem d_Mo_alike_37 : decode b_Mo_alike 37 = .ok (.aload_n 0, 1) := by decide +kernel
theorem d_Mo_alike_38 : decode b_Mo_alike 38 = .ok (.getfield 62, 3) := by decide +kernel
theorem d_Mo_alike_41 : decode b_Mo_alike 41 = .ok (.iload_n 2, 1) := by decide +kernel
theorem d_Mo_alike_42 : decode b_Mo_alike 42 = .ok (.iaload, 1) := by decide +kernel
theorem d_Mo_alike_43 : decode b_Mo_alike 43 = .ok (.invokevirtual 155, 3) := by decide +kernel
theorem d_Mo_alike_46 : decode b_Mo_alike 46 = .ok (.ifCond .eq 7, 3) := by decide +kernel
theorem d_Mo_alike_49 : decode b_Mo_alike 49 = .ok (.iconst 1, 1) := by decide +kernel
theorem d_Mo_alike_50 : decode b_Mo_alike 50 = .ok (.goto 4, 3) := by decide +kernel
theorem d_Mo_alike_53 : decode b_Mo_alike 53 = .ok (.iconst 0, 1) := by decide +kernel
theorem d_Mo_alike_54 : decode b_Mo_alike 54 = .ok (.ireturn, 1) := by decide +kernel
theorem d_Mo_related_0 : decode b_Mo_related 0 = .ok (.aload_n 0, 1) := by decide +kernel
theorem d_Mo_related_1 : decode b_Mo_related 1 = .ok (.iload_n 1, 1) := by decide +kernel
theorem d_Mo_related_2 : decode b_Mo_related 2 = .ok (.iload_n 2, 1) := by decide +kernel
theorem d_Mo_related_3 : decode b_Mo_related 3 = .ok (.invokevirtual 128, 3) := by decide +kernel
theorem d_Mo_related_6 : decode b_Mo_related 6 = .ok (.ifCond .ne 12, 3) := by decide +kernel
theorem d_Mo_related_9 : decode b_Mo_related 9 = .ok (.aload_n 0, 1) := by decide +kernel
theorem d_Mo_related_10 : decode b_Mo_related 10 = .ok (.iload_n 2, 1) := by decide +kernel
theorem d_Mo_related_11 : decode b_Mo_related 11 = .ok (.iload_n 1, 1) := by decide +kernel
theorem d_Mo_related_12 : decode b_Mo_related 12 = .ok (.invokevirtual 128, 3) := by decide +kernel
theorem d_Mo_related_15 : decode b_Mo_related 15 = .ok (.ifCond .eq 7, 3) := by decide +kernel
theorem d_Mo_related_18 : decode b_Mo_related 18 = .ok (.iconst 1, 1) := by decide +kernel
theorem d_Mo_related_19 : decode b_Mo_related 19 = .ok (.goto 4, 3) := by decide +kernel
theorem d_Mo_related_22 : decode b_Mo_related 22 = .ok (.iconst 0, 1) := by decide +kernel
theorem d_Mo_related_23 : decode b_Mo_related 23 = .ok (.ireturn, 1) := by decide +kernel
theorem d_Mo_keptFamily_0 : decode b_Mo_keptFamily 0 = .ok (.iconst 0, 1) := by decide +kernel
theorem d_Mo_keptFamily_1 : decode b_Mo_keptFamily 1 = .ok (.istore_n 2, 1) := by decide +kernel
theorem d_Mo_keptFamily_2 : decode b_Mo_keptFamily 2 = .ok (.iload_n 2, 1) := by decide +kernel
theorem d_Mo_keptFamily_3 : decode b_Mo_keptFamily 3 = .ok (.aload_n 0, 1) := by decide +kernel
theorem d_Mo_keptFamily_4 : decode b_Mo_keptFamily 4 = .ok (.getfield 103, 3) := by decide +kernel
theorem d_Mo_keptFamily_7 : decode b_Mo_keptFamily 7 = .ok (.if_icmp .ge 30, 3) := by decide +kernel
theorem d_Mo_keptFamily_10 : decode b_Mo_keptFamily 10 = .ok (.aload_n 0, 1) := by decide +kernel
theorem d_Mo_keptFamily_11 : decode b_Mo_keptFamily 11 = .ok (.getfield 59, 3) := by decide +kernel
theorem d_Mo_keptFamily_14 : decode b_Mo_keptFamily 14 = .ok (.iload_n 2, 1) := by decide +kernel
theorem d_Mo_keptFamily_15 : decode b_Mo_keptFamily 15 = .ok (.iaload, 1) := by decide +kernel
theorem d_Mo_keptFamily_16 : decode b_Mo_keptFamily 16 = .ok (.iload_n 1, 1) := by decide +kernel
theorem d_Mo_keptFamily_17 : decode b_Mo_keptFamily 17 = .ok (.if_icmp .ne 14, 3) := by decide +kernel
theorem d_Mo_keptFamily_20 : decode b_Mo_keptFamily 20 = .ok (.aload_n 0, 1) := by decide +kernel
theorem d_Mo_keptFamily_21 : decode b_Mo_keptFamily 21 = .ok (.getfield 37, 3) := by decide +kernel
theorem d_Mo_keptFamily_24 : decode b_Mo_keptFamily 24 = .ok (.iload_n 2, 1) := by decide +kernel
theorem d_Mo_keptFamily_25 : decode b_Mo_keptFamily 25 = .ok (.baload, 1) := by decide +kernel
theorem d_Mo_keptFamily_26 : decode b_Mo_keptFamily 26 = .ok (.ifCond .eq 5, 3) := by decide +kernel
theorem d_Mo_keptFamily_29 : decode b_Mo_keptFamily 29 = .ok (.iconst 1, 1) := by decide +kernel
theorem d_Mo_keptFamily_30 : decode b_Mo_keptFamily 30 = .ok (.ireturn, 1) := by decide +kernel
theorem d_Mo_keptFamily_31 : decode b_Mo_keptFamily 31 = .ok (.iinc 2 1, 3) := by decide +kernel
theorem d_Mo_keptFamily_34 : decode b_Mo_keptFamily 34 = .ok (.goto (-32), 3) := by decide +kernel
theorem d_Mo_keptFamily_37 : decode b_Mo_keptFamily 37 = .ok (.iconst 0, 1) := by decide +kernel
theorem d_Mo_keptFamily_38 : decode b_Mo_keptFamily 38 = .ok (.ireturn, 1) := by decide +kernel
theorem d_Mo_freeName_0 : decode b_Mo_freeName 0 = .ok (.iconst 0, 1) := by decide +kernel
theorem d_Mo_freeName_1 : decode b_Mo_freeName 1 = .ok (.istore_n 3, 1) := by decide +kernel
theorem d_Mo_freeName_2 : decode b_Mo_freeName 2 = .ok (.iconst 1, 1) := by decide +kernel
theorem d_Mo_freeName_3 : decode b_Mo_freeName 3 = .ok (.istore 4, 2) := by decide +kernel
theorem d_Mo_freeName_5 : decode b_Mo_freeName 5 = .ok (.iload 4, 2) := by decide +kernel
theorem d_Mo_freeName_7 : decode b_Mo_freeName 7 = .ok (.ifCond .eq 78, 3) := by decide +kernel
theorem d_Mo_freeName_10 : decode b_Mo_freeName 10 = .ok (.iconst 0, 1) := by decide +kernel
theorem d_Mo_freeName_11 : decode b_Mo_freeName 11 = .ok (.istore 4, 2) := by decide +kernel
theorem d_Mo_freeName_13 : decode b_Mo_freeName 13 = .ok (.iconst 0, 1) := by decide +kernel
theorem d_Mo_freeName_14 : decode b_Mo_freeName 14 = .ok (.istore 5, 2) := by decide +kernel
theorem d_Mo_freeName_16 : decode b_Mo_freeName 16 = .ok (.iload 5, 2) := by decide +kernel
theorem d_Mo_freeName_18 : decode b_Mo_freeName 18 = .ok (.aload_n 0, 1) := by decide +kernel
theorem d_Mo_freeName_19 : decode b_Mo_freeName 19 = .ok (.getfield 103, 3) := by decide +kernel
theorem d_Mo_freeName_22 : decode b_Mo_freeName 22 = .ok (.if_icmp .ge 52, 3) := by decide +kernel
theorem d_Mo_freeName_25 : decode b_Mo_freeName 25 = .ok (.iload 5, 2) := by decide +kernel
theorem d_Mo_freeName_27 : decode b_Mo_freeName 27 = .ok (.iload_n 1, 1) := by decide +kernel
theorem d_Mo_freeName_28 : decode b_Mo_freeName 28 = .ok (.if_icmp .eq 40, 3) := by decide +kernel
theorem d_Mo_freeName_31 : decode b_Mo_freeName 31 = .ok (.aload_n 0, 1) := by decide +kernel
theorem d_Mo_freeName_32 : decode b_Mo_freeName 32 = .ok (.getfield 59, 3) := by decide +kernel
theorem d_Mo_freeName_35 : decode b_Mo_freeName 35 = .ok (.iload 5, 2) := by decide +kernel
theorem d_Mo_freeName_37 : decode b_Mo_freeName 37 = .ok (.iaload, 1) := by decide +kernel
theorem d_Mo_freeName_38 : decode b_Mo_freeName 38 = .ok (.iload 5, 2) := by decide +kernel
theorem d_Mo_freeName_40 : decode b_Mo_freeName 40 = .ok (.if_icmp .ne 28, 3) := by decide +kernel
theorem d_Mo_freeName_43 : decode b_Mo_freeName 43 = .ok (.aload_n 0, 1) := by decide +kernel
theorem d_Mo_freeName_44 : decode b_Mo_freeName 44 = .ok (.getfield 71, 3) := by decide +kernel
theorem d_Mo_freeName_47 : decode b_Mo_freeName 47 = .ok (.iload 5, 2) := by decide +kernel
theorem d_Mo_freeName_49 : decode b_Mo_freeName 49 = .ok (.iaload, 1) := by decide +kernel
theorem d_Mo_freeName_50 : decode b_Mo_freeName 50 = .ok (.iload_n 3, 1) := by decide +kernel
theorem d_Mo_freeName_51 : decode b_Mo_freeName 51 = .ok (.if_icmp .ne 17, 3) := by decide +kernel
theorem d_Mo_freeName_54 : decode b_Mo_freeName 54 = .ok (.aload_n 0, 1) := by decide +kernel
theorem d_Mo_freeName_55 : decode b_Mo_freeName 55 = .ok (.iload_n 1, 1) := by decide +kernel
theorem d_Mo_freeName_56 : decode b_Mo_freeName 56 = .ok (.iload 5, 2) := by decide +kernel
theorem d_Mo_freeName_58 : decode b_Mo_freeName 58 = .ok (.iload_n 2, 1) := by decide +kernel
theorem d_Mo_freeName_59 : decode b_Mo_freeName 59 = .ok (.invokevirtual 158, 3) := by decide +kernel
theorem d_Mo_freeName_62 : decode b_Mo_freeName 62 = .ok (.ifCond .eq 6, 3) := by decide +kernel
theorem d_Mo_freeName_65 : decode b_Mo_freeName 65 = .ok (.iconst 1, 1) := by decide +kernel
theorem d_Mo_freeName_66 : decode b_Mo_freeName 66 = .ok (.istore 4, 2) := by decide +kernel
theorem d_Mo_freeName_68 : decode b_Mo_freeName 68 = .ok (.iinc 5 1, 3) := by decide +kernel
theorem d_Mo_freeName_71 : decode b_Mo_freeName 71 = .ok (.goto (-55), 3) := by decide +kernel
theorem d_Mo_freeName_74 : decode b_Mo_freeName 74 = .ok (.iload 4, 2) := by decide +kernel
theorem d_Mo_freeName_76 : decode b_Mo_freeName 76 = .ok (.ifCond .eq (-71), 3) := by decide +kernel
theorem d_Mo_freeName_79 : decode b_Mo_freeName 79 = .ok (.iinc 3 1, 3) := by decide +kernel
theorem d_Mo_freeName_82 : decode b_Mo_freeName 82 = .ok (.goto (-77), 3) := by decide +kernel
theorem d_Mo_freeName_85 : decode b_Mo_freeName 85 = .ok (.iload_n 3, 1) := by decide +kernel
theorem d_Mo_freeName_86 : decode b_Mo_freeName 86 = .ok (.ireturn, 1) := by decide +kernel
theorem d_Mo_clash_0 : decode b_Mo_clash 0 = .ok (.iconst 0, 1) := by decide +kernel
theorem d_Mo_clash_1 : decode b_Mo_clash 1 = .ok (.istore 4, 2) := by decide +kernel
theorem d_Mo_clash_3 : decode b_Mo_clash 3 = .ok (.iload 4, 2) := by decide +kernel
theorem d_Mo_clash_5 : decode b_Mo_clash 5 = .ok (.iload_n 3, 1) := by decide +kernel
theorem d_Mo_clash_6 : decode b_Mo_clash 6 = .ok (.if_icmp .ge 86, 3) := by decide +kernel
theorem d_Mo_clash_9 : decode b_Mo_clash 9 = .ok (.iconst 0, 1) := by decide +kernel
theorem d_Mo_clash_10 : decode b_Mo_clash 10 = .ok (.istore 5, 2) := by decide +kernel
theorem d_Mo_clash_12 : decode b_Mo_clash 12 = .ok (.iload 5, 2) := by decide +kernel
theorem d_Mo_clash_14 : decode b_Mo_clash 14 = .ok (.iload_n 3, 1) := by decide +kernel
theorem d_Mo_clash_15 : decode b_Mo_clash 15 = .ok (.if_icmp .ge 71, 3) := by decide +kernel
theorem d_Mo_clash_18 : decode b_Mo_clash 18 = .ok (.aload_n 0, 1) := by decide +kernel
theorem d_Mo_clash_19 : decode b_Mo_clash 19 = .ok (.getfield 59, 3) := by decide +kernel
theorem d_Mo_clash_22 : decode b_Mo_clash 22 = .ok (.iload 4, 2) := by decide +kernel
theorem d_Mo_clash_24 : decode b_Mo_clash 24 = .ok (.iaload, 1) := by decide +kernel
theorem d_Mo_clash_25 : decode b_Mo_clash 25 = .ok (.iload_n 1, 1) := by decide +kernel
theorem d_Mo_clash_26 : decode b_Mo_clash 26 = .ok (.if_icmp .ne 60, 3) := by decide +kernel
theorem d_Mo_clash_29 : decode b_Mo_clash 29 = .ok (.aload_n 0, 1) := by decide +kernel
theorem d_Mo_clash_30 : decode b_Mo_clash 30 = .ok (.getfield 59, 3) := by decide +kernel
theorem d_Mo_clash_33 : decode b_Mo_clash 33 = .ok (.iload 5, 2) := by decide +kernel
theorem d_Mo_clash_35 : decode b_Mo_clash 35 = .ok (.iaload, 1) := by decide +kernel
theorem d_Mo_clash_36 : decode b_Mo_clash 36 = .ok (.iload_n 2, 1) := by decide +kernel
theorem d_Mo_clash_37 : decode b_Mo_clash 37 = .ok (.if_icmp .ne 43, 3) := by decide +kernel
theorem d_Mo_clash_40 : decode b_Mo_clash 40 = .ok (.aload_n 0, 1) := by decide +kernel
theorem d_Mo_clash_41 : decode b_Mo_clash 41 = .ok (.getfield 68, 3) := by decide +kernel
theorem d_Mo_clash_44 : decode b_Mo_clash 44 = .ok (.iload 4, 2) := by decide +kernel
theorem d_Mo_clash_46 : decode b_Mo_clash 46 = .ok (.iaload, 1) := by decide +kernel
theorem d_Mo_clash_47 : decode b_Mo_clash 47 = .ok (.aload_n 0, 1) := by decide +kernel
theorem d_Mo_clash_48 : decode b_Mo_clash 48 = .ok (.getfield 68, 3) := by decide +kernel
theorem d_Mo_clash_51 : decode b_Mo_clash 51 = .ok (.iload 5, 2) := by decide +kernel
theorem d_Mo_clash_53 : decode b_Mo_clash 53 = .ok (.iaload, 1) := by decide +kernel
theorem d_Mo_clash_54 : decode b_Mo_clash 54 = .ok (.if_icmp .ne 26, 3) := by decide +kernel
theorem d_Mo_clash_57 : decode b_Mo_clash 57 = .ok (.aload_n 0, 1) := by decide +kernel
theorem d_Mo_clash_58 : decode b_Mo_clash 58 = .ok (.aload_n 0, 1) := by decide +kernel
theorem d_Mo_clash_59 : decode b_Mo_clash 59 = .ok (.getfield 62, 3) := by decide +kernel
theorem d_Mo_clash_62 : decode b_Mo_clash 62 = .ok (.iload 4, 2) := by decide +kernel
theorem d_Mo_clash_64 : decode b_Mo_clash 64 = .ok (.iaload, 1) := by decide +kernel
theorem d_Mo_clash_65 : decode b_Mo_clash 65 = .ok (.aload_n 0, 1) := by decide +kernel
theorem d_Mo_clash_66 : decode b_Mo_clash 66 = .ok (.getfield 62, 3) := by decide +kernel
theorem d_Mo_clash_69 : decode b_Mo_clash 69 = .ok (.iload 5, 2) := by decide +kernel
theorem d_Mo_clash_71 : decode b_Mo_clash 71 = .ok (.iaload, 1) := by decide +kernel
theorem d_Mo_clash_72 : decode b_Mo_clash 72 = .ok (.invokevirtual 155, 3) := by decide +kernel
theorem d_Mo_clash_75 : decode b_Mo_clash 75 = .ok (.ifCond .eq 5, 3) := by decide +kernel
theorem d_Mo_clash_78 : decode b_Mo_clash 78 = .ok (.iconst 1, 1) := by decide +kernel
theorem d_Mo_clash_79 : decode b_Mo_clash 79 = .ok (.ireturn, 1) := by decide +kernel
theorem d_Mo_clash_80 : decode b_Mo_clash 80 = .ok (.iinc 5 1, 3) := by decide +kernel
theorem d_Mo_clash_83 : decode b_Mo_clash 83 = .ok (.goto (-71), 3) := by decide +kernel
theorem d_Mo_clash_86 : decode b_Mo_clash 86 = .ok (.iinc 4 1, 3) := by decide +kernel
theorem d_Mo_clash_89 : decode b_Mo_clash 89 = .ok (.goto (-86), 3) := by decide +kernel
theorem d_Mo_clash_92 : decode b_Mo_clash 92 = .ok (.iconst 0, 1) := by decide +kernel
theorem d_Mo_clash_93 : decode b_Mo_clash 93 = .ok (.ireturn, 1) := by decide +kernel
theorem d_Mo_told_0 : decode b_Mo_told 0 = .ok (.aload_n 0, 1) := by decide +kernel
theorem d_Mo_told_1 : decode b_Mo_told 1 = .ok (.aload_n 0, 1) := by decide +kernel
theorem d_Mo_told_2 : decode b_Mo_told 2 = .ok (.iload_n 1, 1) := by decide +kernel
theorem d_Mo_told_3 : decode b_Mo_told 3 = .ok (.invokevirtual 122, 3) := by decide +kernel
theorem d_Mo_told_6 : decode b_Mo_told 6 = .ok (.ifCond .eq 17, 3) := by decide +kernel
theorem d_Mo_told_9 : decode b_Mo_told 9 = .ok (.iload_n 2, 1) := by decide +kernel
theorem d_Mo_told_10 : decode b_Mo_told 10 = .ok (.iconst 0, 1) := by decide +kernel
theorem d_Mo_told_11 : decode b_Mo_told 11 = .ok (.bipush 7, 2) := by decide +kernel
theorem d_Mo_told_13 : decode b_Mo_told 13 = .ok (.invokestatic 99, 3) := by decide +kernel
theorem d_Mo_told_16 : decode b_Mo_told 16 = .ok (.ifCond .eq 7, 3) := by decide +kernel
theorem d_Mo_told_19 : decode b_Mo_told 19 = .ok (.iconst 1, 1) := by decide +kernel
theorem d_Mo_told_20 : decode b_Mo_told 20 = .ok (.goto 4, 3) := by decide +kernel
theorem d_Mo_told_23 : decode b_Mo_told 23 = .ok (.iconst 0, 1) := by decide +kernel
theorem d_Mo_told_24 : decode b_Mo_told 24 = .ok (.invokevirtual 110, 3) := by decide +kernel
theorem d_Mo_told_27 : decode b_Mo_told 27 = .ok (.ifCond .eq 5, 3) := by decide +kernel
theorem d_Mo_told_30 : decode b_Mo_told 30 = .ok (.iconst 0, 1) := by decide +kernel
theorem d_Mo_told_31 : decode b_Mo_told 31 = .ok (.ireturn, 1) := by decide +kernel
theorem d_Mo_told_32 : decode b_Mo_told 32 = .ok (.iload_n 2, 1) := by decide +kernel
theorem d_Mo_told_33 : decode b_Mo_told 33 = .ok (.tableswitch 100 0 6 #[43, 50, 57, 64, 71, 86, 93], 43) := by decide +kernel
theorem d_Mo_told_76 : decode b_Mo_told 76 = .ok (.aload_n 0, 1) := by decide +kernel
theorem d_Mo_told_77 : decode b_Mo_told 77 = .ok (.getfield 16, 3) := by decide +kernel
theorem d_Mo_told_80 : decode b_Mo_told 80 = .ok (.iload_n 1, 1) := by decide +kernel
theorem d_Mo_told_81 : decode b_Mo_told 81 = .ok (.iaload, 1) := by decide +kernel
theorem d_Mo_told_82 : decode b_Mo_told 82 = .ok (.ireturn, 1) := by decide +kernel
theorem d_Mo_told_83 : decode b_Mo_told 83 = .ok (.aload_n 0, 1) := by decide +kernel
theorem d_Mo_told_84 : decode b_Mo_told 84 = .ok (.getfield 19, 3) := by decide +kernel
theorem d_Mo_told_87 : decode b_Mo_told 87 = .ok (.iload_n 1, 1) := by decide +kernel
theorem d_Mo_told_88 : decode b_Mo_told 88 = .ok (.iaload, 1) := by decide +kernel
theorem d_Mo_told_89 : decode b_Mo_told 89 = .ok (.ireturn, 1) := by decide +kernel
theorem d_Mo_told_90 : decode b_Mo_told 90 = .ok (.aload_n 0, 1) := by decide +kernel
theorem d_Mo_told_91 : decode b_Mo_told 91 = .ok (.getfield 22, 3) := by decide +kernel
theorem d_Mo_told_94 : decode b_Mo_told 94 = .ok (.iload_n 1, 1) := by decide +kernel
theorem d_Mo_told_95 : decode b_Mo_told 95 = .ok (.iaload, 1) := by decide +kernel
theorem d_Mo_told_96 : decode b_Mo_told 96 = .ok (.ireturn, 1) := by decide +kernel
theorem d_Mo_told_97 : decode b_Mo_told 97 = .ok (.aload_n 0, 1) := by decide +kernel
theorem d_Mo_told_98 : decode b_Mo_told 98 = .ok (.getfield 25, 3) := by decide +kernel
theorem d_Mo_told_101 : decode b_Mo_told 101 = .ok (.iload_n 1, 1) := by decide +kernel
theorem d_Mo_told_102 : decode b_Mo_told 102 = .ok (.iaload, 1) := by decide +kernel
theorem d_Mo_told_103 : decode b_Mo_told 103 = .ok (.ireturn, 1) := by decide +kernel
theorem d_Mo_told_104 : decode b_Mo_told 104 = .ok (.aload_n 0, 1) := by decide +kernel
theorem d_Mo_told_105 : decode b_Mo_told 105 = .ok (.getfield 37, 3) := by decide +kernel
theorem d_Mo_told_108 : decode b_Mo_told 108 = .ok (.iload_n 1, 1) := by decide +kernel
theorem d_Mo_told_109 : decode b_Mo_told 109 = .ok (.baload, 1) := by decide +kernel
theorem d_Mo_told_110 : decode b_Mo_told 110 = .ok (.ifCond .eq 7, 3) := by decide +kernel
theorem d_Mo_told_113 : decode b_Mo_told 113 = .ok (.iconst 1, 1) := by decide +kernel
theorem d_Mo_told_114 : decode b_Mo_told 114 = .ok (.goto 4, 3) := by decide +kernel
theorem d_Mo_told_117 : decode b_Mo_told 117 = .ok (.iconst 0, 1) := by decide +kernel
theorem d_Mo_told_118 : decode b_Mo_told 118 = .ok (.ireturn, 1) := by decide +kernel
theorem d_Mo_told_119 : decode b_Mo_told 119 = .ok (.aload_n 0, 1) := by decide +kernel
theorem d_Mo_told_120 : decode b_Mo_told 120 = .ok (.getfield 34, 3) := by decide +kernel
theorem d_Mo_told_123 : decode b_Mo_told 123 = .ok (.iload_n 1, 1) := by decide +kernel
theorem d_Mo_told_124 : decode b_Mo_told 124 = .ok (.iaload, 1) := by decide +kernel
theorem d_Mo_told_125 : decode b_Mo_told 125 = .ok (.ireturn, 1) := by decide +kernel
theorem d_Mo_told_126 : decode b_Mo_told 126 = .ok (.aload_n 0, 1) := by decide +kernel
theorem d_Mo_told_127 : decode b_Mo_told 127 = .ok (.getfield 31, 3) := by decide +kernel
theorem d_Mo_told_130 : decode b_Mo_told 130 = .ok (.iload_n 1, 1) := by decide +kernel
theorem d_Mo_told_131 : decode b_Mo_told 131 = .ok (.iaload, 1) := by decide +kernel
theorem d_Mo_told_132 : decode b_Mo_told 132 = .ok (.ireturn, 1) := by decide +kernel
theorem d_Mo_told_133 : decode b_Mo_told 133 = .ok (.aload_n 0, 1) := by decide +kernel
theorem d_Mo_told_134 : decode b_Mo_told 134 = .ok (.getfield 28, 3) := by decide +kernel
theorem d_Mo_told_137 : decode b_Mo_told 137 = .ok (.iload_n 1, 1) := by decide +kernel
theorem d_Mo_told_138 : decode b_Mo_told 138 = .ok (.iaload, 1) := by decide +kernel
theorem d_Mo_told_139 : decode b_Mo_told 139 = .ok (.ireturn, 1) := by decide +kernel
theorem d_Mo_inside_0 : decode b_Mo_inside 0 = .ok (.aload_n 0, 1) := by decide +kernel
theorem d_Mo_inside_1 : decode b_Mo_inside 1 = .ok (.aload_n 0, 1) := by decide +kernel
theorem d_Mo_inside_2 : decode b_Mo_inside 2 = .ok (.iload_n 1, 1) := by decide +kernel
theorem d_Mo_inside_3 : decode b_Mo_inside 3 = .ok (.invokevirtual 122, 3) := by decide +kernel
theorem d_Mo_inside_6 : decode b_Mo_inside 6 = .ok (.ifCond .eq 16, 3) := by decide +kernel
theorem d_Mo_inside_9 : decode b_Mo_inside 9 = .ok (.iload_n 3, 1) := by decide +kernel
theorem d_Mo_inside_10 : decode b_Mo_inside 10 = .ok (.iconst 0, 1) := by decide +kernel
theorem d_Mo_inside_11 : decode b_Mo_inside 11 = .ok (.iconst 3, 1) := by decide +kernel
theorem d_Mo_inside_12 : decode b_Mo_inside 12 = .ok (.invokestatic 99, 3) := by decide +kernel
theorem d_Mo_inside_15 : decode b_Mo_inside 15 = .ok (.ifCond .eq 7, 3) := by decide +kernel
theorem d_Mo_inside_18 : decode b_Mo_inside 18 = .ok (.iconst 1, 1) := by decide +kernel
theorem d_Mo_inside_19 : decode b_Mo_inside 19 = .ok (.goto 4, 3) := by decide +kernel
theorem d_Mo_inside_22 : decode b_Mo_inside 22 = .ok (.iconst 0, 1) := by decide +kernel
theorem d_Mo_inside_23 : decode b_Mo_inside 23 = .ok (.invokevirtual 110, 3) := by decide +kernel
theorem d_Mo_inside_26 : decode b_Mo_inside 26 = .ok (.ifCond .eq 5, 3) := by decide +kernel
theorem d_Mo_inside_29 : decode b_Mo_inside 29 = .ok (.iconst 0, 1) := by decide +kernel
theorem d_Mo_inside_30 : decode b_Mo_inside 30 = .ok (.ireturn, 1) := by decide +kernel
theorem d_Mo_inside_31 : decode b_Mo_inside 31 = .ok (.iload_n 2, 1) := by decide +kernel
theorem d_Mo_inside_32 : decode b_Mo_inside 32 = .ok (.iconst 0, 1) := by decide +kernel
theorem d_Mo_inside_33 : decode b_Mo_inside 33 = .ok (.aload_n 0, 1) := by decide +kernel
theorem d_Mo_inside_34 : decode b_Mo_inside 34 = .ok (.getfield 25, 3) := by decide +kernel
theorem d_Mo_inside_37 : decode b_Mo_inside 37 = .ok (.iload_n 1, 1) := by decide +kernel
theorem d_Mo_inside_38 : decode b_Mo_inside 38 = .ok (.iaload, 1) := by decide +kernel
theorem d_Mo_inside_39 : decode b_Mo_inside 39 = .ok (.iconst 1, 1) := by decide +kernel
theorem d_Mo_inside_40 : decode b_Mo_inside 40 = .ok (.isub, 1) := by decide +kernel
theorem d_Mo_inside_41 : decode b_Mo_inside 41 = .ok (.invokestatic 99, 3) := by decide +kernel
theorem d_Mo_inside_44 : decode b_Mo_inside 44 = .ok (.ifCond .ne 9, 3) := by decide +kernel
theorem d_Mo_inside_47 : decode b_Mo_inside 47 = .ok (.aload_n 0, 1) := by decide +kernel
theorem d_Mo_inside_48 : decode b_Mo_inside 48 = .ok (.iconst 2, 1) := by decide +kernel
theorem d_Mo_inside_49 : decode b_Mo_inside 49 = .ok (.invokevirtual 114, 3) := by decide +kernel
theorem d_Mo_inside_52 : decode b_Mo_inside 52 = .ok (.ireturn, 1) := by decide +kernel
theorem d_Mo_inside_53 : decode b_Mo_inside 53 = .ok (.iload_n 1, 1) := by decide +kernel
theorem d_Mo_inside_54 : decode b_Mo_inside 54 = .ok (.iconst 5, 1) := by decide +kernel
theorem d_Mo_inside_55 : decode b_Mo_inside 55 = .ok (.imul, 1) := by decide +kernel
theorem d_Mo_inside_56 : decode b_Mo_inside 56 = .ok (.iload_n 2, 1) := by decide +kernel
theorem d_Mo_inside_57 : decode b_Mo_inside 57 = .ok (.iadd, 1) := by decide +kernel
theorem d_Mo_inside_58 : decode b_Mo_inside 58 = .ok (.istore 4, 2) := by decide +kernel
theorem d_Mo_inside_60 : decode b_Mo_inside 60 = .ok (.iload_n 3, 1) := by decide +kernel
theorem d_Mo_inside_61 : decode b_Mo_inside 61 = .ok (.ifCond .ne 13, 3) := by decide +kernel
theorem d_Mo_inside_64 : decode b_Mo_inside 64 = .ok (.aload_n 0, 1) := by decide +kernel
theorem d_Mo_inside_65 : decode b_Mo_inside 65 = .ok (.getfield 47, 3) := by decide +kernel
theorem d_Mo_inside_68 : decode b_Mo_inside 68 = .ok (.iload 4, 2) := by decide +kernel
theorem d_Mo_inside_70 : decode b_Mo_inside 70 = .ok (.iaload, 1) := by decide +kernel
theorem d_Mo_inside_71 : decode b_Mo_inside 71 = .ok (.goto 40, 3) := by decide +kernel
theorem d_Mo_inside_74 : decode b_Mo_inside 74 = .ok (.iload_n 3, 1) := by decide +kernel
theorem d_Mo_inside_75 : decode b_Mo_inside 75 = .ok (.iconst 1, 1) := by decide +kernel
theorem d_Mo_inside_76 : decode b_Mo_inside 76 = .ok (.if_icmp .ne 13, 3) := by decide +kernel
theorem d_Mo_inside_79 : decode b_Mo_inside 79 = .ok (.aload_n 0, 1) := by decide +kernel
theorem d_Mo_inside_80 : decode b_Mo_inside 80 = .ok (.getfield 50, 3) := by decide +kernel
theorem d_Mo_inside_83 : decode b_Mo_inside 83 = .ok (.iload 4, 2) := by decide +kernel
theorem d_Mo_inside_85 : decode b_Mo_inside 85 = .ok (.iaload, 1) := by decide +kernel
theorem d_Mo_inside_86 : decode b_Mo_inside 86 = .ok (.goto 25, 3) := by decide +kernel
theorem d_Mo_inside_89 : decode b_Mo_inside 89 = .ok (.iload_n 3, 1) := by decide +kernel
theorem d_Mo_inside_90 : decode b_Mo_inside 90 = .ok (.iconst 2, 1) := by decide +kernel
theorem d_Mo_inside_91 : decode b_Mo_inside 91 = .ok (.if_icmp .ne 13, 3) := by decide +kernel
theorem d_Mo_inside_94 : decode b_Mo_inside 94 = .ok (.aload_n 0, 1) := by decide +kernel
theorem d_Mo_inside_95 : decode b_Mo_inside 95 = .ok (.getfield 53, 3) := by decide +kernel
theorem d_Mo_inside_98 : decode b_Mo_inside 98 = .ok (.iload 4, 2) := by decide +kernel
theorem d_Mo_inside_100 : decode b_Mo_inside 100 = .ok (.iaload, 1) := by decide +kernel
theorem d_Mo_inside_101 : decode b_Mo_inside 101 = .ok (.goto 10, 3) := by decide +kernel
theorem d_Mo_inside_104 : decode b_Mo_inside 104 = .ok (.aload_n 0, 1) := by decide +kernel
theorem d_Mo_inside_105 : decode b_Mo_inside 105 = .ok (.getfield 56, 3) := by decide +kernel
theorem d_Mo_inside_108 : decode b_Mo_inside 108 = .ok (.iload 4, 2) := by decide +kernel
theorem d_Mo_inside_110 : decode b_Mo_inside 110 = .ok (.iaload, 1) := by decide +kernel
theorem d_Mo_inside_111 : decode b_Mo_inside 111 = .ok (.ireturn, 1) := by decide +kernel
theorem d_Mo_trace_0 : decode b_Mo_trace 0 = .ok (.aload_n 0, 1) := by decide +kernel
theorem d_Mo_trace_1 : decode b_Mo_trace 1 = .ok (.aload_n 0, 1) := by decide +kernel
theorem d_Mo_trace_2 : decode b_Mo_trace 2 = .ok (.iload_n 1, 1) := by decide +kernel
theorem d_Mo_trace_3 : decode b_Mo_trace 3 = .ok (.invokevirtual 106, 3) := by decide +kernel
theorem d_Mo_trace_6 : decode b_Mo_trace 6 = .ok (.ifCond .eq 26, 3) := by decide +kernel
theorem d_Mo_trace_9 : decode b_Mo_trace 9 = .ok (.iload_n 2, 1) := by decide +kernel
theorem d_Mo_trace_10 : decode b_Mo_trace 10 = .ok (.iconst 0, 1) := by decide +kernel
theorem d_Mo_trace_11 : decode b_Mo_trace 11 = .ok (.bipush 26, 2) := by decide +kernel
theorem d_Mo_trace_13 : decode b_Mo_trace 13 = .ok (.invokestatic 99, 3) := by decide +kernel
theorem d_Mo_trace_16 : decode b_Mo_trace 16 = .ok (.ifCond .eq 16, 3) := by decide +kernel
theorem d_Mo_trace_19 : decode b_Mo_trace 19 = .ok (.iload_n 3, 1) := by decide +kernel
theorem d_Mo_trace_20 : decode b_Mo_trace 20 = .ok (.iconst 0, 1) := by decide +kernel
theorem d_Mo_trace_21 : decode b_Mo_trace 21 = .ok (.iconst 2, 1) := by decide +kernel
theorem d_Mo_trace_22 : decode b_Mo_trace 22 = .ok (.invokestatic 99, 3) := by decide +kernel
theorem d_Mo_trace_25 : decode b_Mo_trace 25 = .ok (.ifCond .eq 7, 3) := by decide +kernel
theorem d_Mo_trace_28 : decode b_Mo_trace 28 = .ok (.iconst 1, 1) := by decide +kernel
theorem d_Mo_trace_29 : decode b_Mo_trace 29 = .ok (.goto 4, 3) := by decide +kernel
theorem d_Mo_trace_32 : decode b_Mo_trace 32 = .ok (.iconst 0, 1) := by decide +kernel
theorem d_Mo_trace_33 : decode b_Mo_trace 33 = .ok (.invokevirtual 110, 3) := by decide +kernel
theorem d_Mo_trace_36 : decode b_Mo_trace 36 = .ok (.ifCond .eq 5, 3) := by decide +kernel
theorem d_Mo_trace_39 : decode b_Mo_trace 39 = .ok (.iconst 0, 1) := by decide +kernel
theorem d_Mo_trace_40 : decode b_Mo_trace 40 = .ok (.ireturn, 1) := by decide +kernel
theorem d_Mo_trace_41 : decode b_Mo_trace 41 = .ok (.aload_n 0, 1) := by decide +kernel
theorem d_Mo_trace_42 : decode b_Mo_trace 42 = .ok (.iload_n 1, 1) := by decide +kernel
theorem d_Mo_trace_43 : decode b_Mo_trace 43 = .ok (.iload_n 2, 1) := by decide +kernel
theorem d_Mo_trace_44 : decode b_Mo_trace 44 = .ok (.iload_n 3, 1) := by decide +kernel
theorem d_Mo_trace_45 : decode b_Mo_trace 45 = .ok (.invokevirtual 118, 3) := by decide +kernel
theorem d_Mo_trace_48 : decode b_Mo_trace 48 = .ok (.istore 4, 2) := by decide +kernel
theorem d_Mo_trace_50 : decode b_Mo_trace 50 = .ok (.iload 4, 2) := by decide +kernel
theorem d_Mo_trace_52 : decode b_Mo_trace 52 = .ok (.ifCond .ge 11, 3) := by decide +kernel
theorem d_Mo_trace_55 : decode b_Mo_trace 55 = .ok (.aload_n 0, 1) := by decide +kernel
theorem d_Mo_trace_56 : decode b_Mo_trace 56 = .ok (.iconst 2, 1) := by decide +kernel
theorem d_Mo_trace_57 : decode b_Mo_trace 57 = .ok (.invokevirtual 114, 3) := by decide +kernel
theorem d_Mo_trace_60 : decode b_Mo_trace 60 = .ok (.goto 10, 3) := by decide +kernel
theorem d_Mo_trace_63 : decode b_Mo_trace 63 = .ok (.aload_n 0, 1) := by decide +kernel
theorem d_Mo_trace_64 : decode b_Mo_trace 64 = .ok (.getfield 28, 3) := by decide +kernel
theorem d_Mo_trace_67 : decode b_Mo_trace 67 = .ok (.iload 4, 2) := by decide +kernel
theorem d_Mo_trace_69 : decode b_Mo_trace 69 = .ok (.iaload, 1) := by decide +kernel
theorem d_Mo_trace_70 : decode b_Mo_trace 70 = .ok (.ireturn, 1) := by decide +kernel
theorem d_Mo_count_0 : decode b_Mo_count 0 = .ok (.aload_n 0, 1) := by decide +kernel
theorem d_Mo_count_1 : decode b_Mo_count 1 = .ok (.iconst 0, 1) := by decide +kernel
theorem d_Mo_count_2 : decode b_Mo_count 2 = .ok (.putfield 92, 3) := by decide +kernel
theorem d_Mo_count_5 : decode b_Mo_count 5 = .ok (.iload_n 1, 1) := by decide +kernel
theorem d_Mo_count_6 : decode b_Mo_count 6 = .ok (.bipush 10, 2) := by decide +kernel
theorem d_Mo_count_8 : decode b_Mo_count 8 = .ok (.if_icmp .lt 24, 3) := by decide +kernel
theorem d_Mo_count_11 : decode b_Mo_count 11 = .ok (.aload_n 0, 1) := by decide +kernel
theorem d_Mo_count_12 : decode b_Mo_count 12 = .ok (.iload_n 1, 1) := by decide +kernel
theorem d_Mo_count_13 : decode b_Mo_count 13 = .ok (.bipush 10, 2) := by decide +kernel
theorem d_Mo_count_15 : decode b_Mo_count 15 = .ok (.isub, 1) := by decide +kernel
theorem d_Mo_count_16 : decode b_Mo_count 16 = .ok (.invokevirtual 106, 3) := by decide +kernel
theorem d_Mo_count_19 : decode b_Mo_count 19 = .ok (.ifCond .eq 13, 3) := by decide +kernel
theorem d_Mo_count_22 : decode b_Mo_count 22 = .ok (.aload_n 0, 1) := by decide +kernel
theorem d_Mo_count_23 : decode b_Mo_count 23 = .ok (.getfield 7, 3) := by decide +kernel
theorem d_Mo_count_26 : decode b_Mo_count 26 = .ok (.iload_n 1, 1) := by decide +kernel
theorem d_Mo_count_27 : decode b_Mo_count 27 = .ok (.bipush 10, 2) := by decide +kernel
theorem d_Mo_count_29 : decode b_Mo_count 29 = .ok (.isub, 1) := by decide +kernel
theorem d_Mo_count_30 : decode b_Mo_count 30 = .ok (.iaload, 1) := by decide +kernel
theorem d_Mo_count_31 : decode b_Mo_count 31 = .ok (.ireturn, 1) := by decide +kernel
theorem d_Mo_count_32 : decode b_Mo_count 32 = .ok (.iload_n 1, 1) := by decide +kernel
theorem d_Mo_count_33 : decode b_Mo_count 33 = .ok (.iconst 0, 1) := by decide +kernel
theorem d_Mo_count_34 : decode b_Mo_count 34 = .ok (.iconst 4, 1) := by decide +kernel
theorem d_Mo_count_35 : decode b_Mo_count 35 = .ok (.invokestatic 99, 3) := by decide +kernel
theorem d_Mo_count_38 : decode b_Mo_count 38 = .ok (.ifCond .ne 6, 3) := by decide +kernel
theorem d_Mo_count_41 : decode b_Mo_count 41 = .ok (.bipush (-2), 2) := by decide +kernel
theorem d_Mo_count_43 : decode b_Mo_count 43 = .ok (.ireturn, 1) := by decide +kernel
theorem d_Mo_count_44 : decode b_Mo_count 44 = .ok (.aload_n 0, 1) := by decide +kernel
theorem d_Mo_count_45 : decode b_Mo_count 45 = .ok (.invokevirtual 138, 3) := by decide +kernel
theorem d_Mo_count_48 : decode b_Mo_count 48 = .ok (.iconst 0, 1) := by decide +kernel
theorem d_Mo_count_49 : decode b_Mo_count 49 = .ok (.istore_n 2, 1) := by decide +kernel
theorem d_Mo_count_50 : decode b_Mo_count 50 = .ok (.iconst 0, 1) := by decide +kernel
theorem d_Mo_count_51 : decode b_Mo_count 51 = .ok (.istore_n 3, 1) := by decide +kernel
theorem d_Mo_count_52 : decode b_Mo_count 52 = .ok (.iload_n 3, 1) := by decide +kernel
theorem d_Mo_count_53 : decode b_Mo_count 53 = .ok (.aload_n 0, 1) := by decide +kernel
theorem d_Mo_count_54 : decode b_Mo_count 54 = .ok (.getfield 103, 3) := by decide +kernel
theorem d_Mo_count_57 : decode b_Mo_count 57 = .ok (.if_icmp .ge 26, 3) := by decide +kernel
theorem d_Mo_count_60 : decode b_Mo_count 60 = .ok (.iload_n 1, 1) := by decide +kernel
theorem d_Mo_count_61 : decode b_Mo_count 61 = .ok (.iconst 2, 1) := by decide +kernel
theorem d_Mo_count_62 : decode b_Mo_count 62 = .ok (.if_icmp .ne 21, 3) := by decide +kernel
theorem d_Mo_count_65 : decode b_Mo_count 65 = .ok (.aload_n 0, 1) := by decide +kernel
theorem d_Mo_count_66 : decode b_Mo_count 66 = .ok (.getfield 41, 3) := by decide +kernel
theorem d_Mo_count_69 : decode b_Mo_count 69 = .ok (.iload_n 3, 1) := by decide +kernel
theorem d_Mo_count_70 : decode b_Mo_count 70 = .ok (.baload, 1) := by decide +kernel
theorem d_Mo_count_71 : decode b_Mo_count 71 = .ok (.ifCond .eq 6, 3) := by decide +kernel
theorem d_Mo_count_74 : decode b_Mo_count 74 = .ok (.iinc 2 1, 3) := by decide +kernel
theorem d_Mo_count_77 : decode b_Mo_count 77 = .ok (.iinc 3 1, 3) := by decide +kernel
theorem d_Mo_count_80 : decode b_Mo_count 80 = .ok (.goto (-28), 3) := by decide +kernel
theorem d_Mo_count_83 : decode b_Mo_count 83 = .ok (.iconst 0, 1) := by decide +kernel
theorem d_Mo_count_84 : decode b_Mo_count 84 = .ok (.istore_n 3, 1) := by decide +kernel
theorem d_Mo_count_85 : decode b_Mo_count 85 = .ok (.iload_n 3, 1) := by decide +kernel
theorem d_Mo_count_86 : decode b_Mo_count 86 = .ok (.aload_n 0, 1) := by decide +kernel
theorem d_Mo_count_87 : decode b_Mo_count 87 = .ok (.getfield 96, 3) := by decide +kernel
theorem d_Mo_count_90 : decode b_Mo_count 90 = .ok (.if_icmp .ge 26, 3) := by decide +kernel
theorem d_Mo_count_93 : decode b_Mo_count 93 = .ok (.iload_n 1, 1) := by decide +kernel
theorem d_Mo_count_94 : decode b_Mo_count 94 = .ok (.iconst 3, 1) := by decide +kernel
theorem d_Mo_count_95 : decode b_Mo_count 95 = .ok (.if_icmp .ne 21, 3) := by decide +kernel
theorem d_Mo_count_98 : decode b_Mo_count 98 = .ok (.aload_n 0, 1) := by decide +kernel
theorem d_Mo_count_99 : decode b_Mo_count 99 = .ok (.getfield 44, 3) := by decide +kernel
theorem d_Mo_count_102 : decode b_Mo_count 102 = .ok (.iload_n 3, 1) := by decide +kernel
theorem d_Mo_count_103 : decode b_Mo_count 103 = .ok (.baload, 1) := by decide +kernel
theorem d_Mo_count_104 : decode b_Mo_count 104 = .ok (.ifCond .eq 6, 3) := by decide +kernel
theorem d_Mo_count_107 : decode b_Mo_count 107 = .ok (.iinc 2 1, 3) := by decide +kernel
theorem d_Mo_count_110 : decode b_Mo_count 110 = .ok (.iinc 3 1, 3) := by decide +kernel
theorem d_Mo_count_113 : decode b_Mo_count 113 = .ok (.goto (-28), 3) := by decide +kernel
theorem d_Mo_count_116 : decode b_Mo_count 116 = .ok (.iload_n 1, 1) := by decide +kernel
theorem d_Mo_count_117 : decode b_Mo_count 117 = .ok (.ifCond .ne 10, 3) := by decide +kernel
theorem d_Mo_count_120 : decode b_Mo_count 120 = .ok (.aload_n 0, 1) := by decide +kernel
theorem d_Mo_count_121 : decode b_Mo_count 121 = .ok (.getfield 96, 3) := by decide +kernel
theorem d_Mo_count_124 : decode b_Mo_count 124 = .ok (.goto 28, 3) := by decide +kernel
theorem d_Mo_count_127 : decode b_Mo_count 127 = .ok (.iload_n 1, 1) := by decide +kernel
theorem d_Mo_count_128 : decode b_Mo_count 128 = .ok (.iconst 1, 1) := by decide +kernel
theorem d_Mo_count_129 : decode b_Mo_count 129 = .ok (.if_icmp .ne 10, 3) := by decide +kernel
theorem d_Mo_count_132 : decode b_Mo_count 132 = .ok (.aload_n 0, 1) := by decide +kernel
theorem d_Mo_count_133 : decode b_Mo_count 133 = .ok (.getfield 103, 3) := by decide +kernel
theorem d_Mo_count_136 : decode b_Mo_count 136 = .ok (.goto 16, 3) := by decide +kernel
theorem d_Mo_count_139 : decode b_Mo_count 139 = .ok (.iload_n 1, 1) := by decide +kernel
theorem d_Mo_count_140 : decode b_Mo_count 140 = .ok (.iconst 4, 1) := by decide +kernel
theorem d_Mo_count_141 : decode b_Mo_count 141 = .ok (.if_icmp .ne 10, 3) := by decide +kernel
theorem d_Mo_count_144 : decode b_Mo_count 144 = .ok (.aload_n 0, 1) := by decide +kernel
theorem d_Mo_count_145 : decode b_Mo_count 145 = .ok (.getfield 145, 3) := by decide +kernel
theorem d_Mo_count_148 : decode b_Mo_count 148 = .ok (.goto 4, 3) := by decide +kernel
theorem d_Mo_count_151 : decode b_Mo_count 151 = .ok (.iload_n 2, 1) := by decide +kernel
theorem d_Mo_count_152 : decode b_Mo_count 152 = .ok (.ireturn, 1) := by decide +kernel
