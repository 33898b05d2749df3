theorem d_Lw_add_0 : decode b_Lw_add 0 = .ok (.aload_n 2, 1) := by decide +kernel
theorem d_Lw_add_1 : decode b_Lw_add 1 = .ok (.iconst 0, 1) := by decide +kernel
theorem d_Lw_add_2 : decode b_Lw_add 2 = .ok (.aload_n 0, 1) := by decide +kernel
theorem d_Lw_add_3 : decode b_Lw_add 3 = .ok (.iload_n 1, 1) := by decide +kernel
theorem d_Lw_add_4 : decode b_Lw_add 4 = .ok (.invokevirtual 7, 3) := by decide +kernel
theorem d_Lw_add_7 : decode b_Lw_add 7 = .ok (.i2l, 1) := by decide +kernel
theorem d_Lw_add_8 : decode b_Lw_add 8 = .ok (.lastore, 1) := by decide +kernel
theorem d_Lw_add_9 : decode b_Lw_add 9 = .ok (.goto 9, 3) := by decide +kernel
theorem d_Lw_add_12 : decode b_Lw_add 12 = .ok (.astore_n 3, 1) := by decide +kernel
theorem d_Lw_add_13 : decode b_Lw_add 13 = .ok (.iconst 1, 1) := by decide +kernel
theorem d_Lw_add_14 : decode b_Lw_add 14 = .ok (.ireturn, 1) := by decide +kernel
theorem d_Lw_add_15 : decode b_Lw_add 15 = .ok (.astore_n 3, 1) := by decide +kernel
theorem d_Lw_add_16 : decode b_Lw_add 16 = .ok (.iconst 2, 1) := by decide +kernel
theorem d_Lw_add_17 : decode b_Lw_add 17 = .ok (.ireturn, 1) := by decide +kernel
theorem d_Lw_add_18 : decode b_Lw_add 18 = .ok (.iconst 0, 1) := by decide +kernel
theorem d_Lw_add_19 : decode b_Lw_add 19 = .ok (.ireturn, 1) := by decide +kernel
theorem d_Lw_method_0 : decode b_Lw_method 0 = .ok (.aload 4, 2) := by decide +kernel
theorem d_Lw_method_2 : decode b_Lw_method 2 = .ok (.iconst 0, 1) := by decide +kernel
theorem d_Lw_method_3 : decode b_Lw_method 3 = .ok (.aload_n 0, 1) := by decide +kernel
theorem d_Lw_method_4 : decode b_Lw_method 4 = .ok (.iload_n 1, 1) := by decide +kernel
theorem d_Lw_method_5 : decode b_Lw_method 5 = .ok (.iload_n 2, 1) := by decide +kernel
theorem d_Lw_method_6 : decode b_Lw_method 6 = .ok (.iload_n 3, 1) := by decide +kernel
theorem d_Lw_method_7 : decode b_Lw_method 7 = .ok (.invokevirtual 17, 3) := by decide +kernel
theorem d_Lw_method_10 : decode b_Lw_method 10 = .ok (.i2l, 1) := by decide +kernel
theorem d_Lw_method_11 : decode b_Lw_method 11 = .ok (.lastore, 1) := by decide +kernel
theorem d_Lw_method_12 : decode b_Lw_method 12 = .ok (.goto 11, 3) := by decide +kernel
theorem d_Lw_method_15 : decode b_Lw_method 15 = .ok (.astore 5, 2) := by decide +kernel
theorem d_Lw_method_17 : decode b_Lw_method 17 = .ok (.iconst 1, 1) := by decide +kernel
theorem d_Lw_method_18 : decode b_Lw_method 18 = .ok (.ireturn, 1) := by decide +kernel
theorem d_Lw_method_19 : decode b_Lw_method 19 = .ok (.astore 5, 2) := by decide +kernel
theorem d_Lw_method_21 : decode b_Lw_method 21 = .ok (.iconst 2, 1) := by decide +kernel
theorem d_Lw_method_22 : decode b_Lw_method 22 = .ok (.ireturn, 1) := by decide +kernel
theorem d_Lw_method_23 : decode b_Lw_method 23 = .ok (.iconst 0, 1) := by decide +kernel
theorem d_Lw_method_24 : decode b_Lw_method 24 = .ok (.ireturn, 1) := by decide +kernel
theorem d_Lw_item_0 : decode b_Lw_item 0 = .ok (.aload 6, 2) := by decide +kernel
theorem d_Lw_item_2 : decode b_Lw_item 2 = .ok (.iconst 0, 1) := by decide +kernel
theorem d_Lw_item_3 : decode b_Lw_item 3 = .ok (.aload_n 0, 1) := by decide +kernel
theorem d_Lw_item_4 : decode b_Lw_item 4 = .ok (.iload_n 1, 1) := by decide +kernel
theorem d_Lw_item_5 : decode b_Lw_item 5 = .ok (.iload_n 2, 1) := by decide +kernel
theorem d_Lw_item_6 : decode b_Lw_item 6 = .ok (.iload_n 3, 1) := by decide +kernel
theorem d_Lw_item_7 : decode b_Lw_item 7 = .ok (.iload 4, 2) := by decide +kernel
theorem d_Lw_item_9 : decode b_Lw_item 9 = .ok (.iload 5, 2) := by decide +kernel
theorem d_Lw_item_11 : decode b_Lw_item 11 = .ok (.invokevirtual 21, 3) := by decide +kernel
theorem d_Lw_item_14 : decode b_Lw_item 14 = .ok (.i2l, 1) := by decide +kernel
theorem d_Lw_item_15 : decode b_Lw_item 15 = .ok (.lastore, 1) := by decide +kernel
theorem d_Lw_item_16 : decode b_Lw_item 16 = .ok (.goto 11, 3) := by decide +kernel
theorem d_Lw_item_19 : decode b_Lw_item 19 = .ok (.astore 7, 2) := by decide +kernel
theorem d_Lw_item_21 : decode b_Lw_item 21 = .ok (.iconst 1, 1) := by decide +kernel
theorem d_Lw_item_22 : decode b_Lw_item 22 = .ok (.ireturn, 1) := by decide +kernel
theorem d_Lw_item_23 : decode b_Lw_item 23 = .ok (.astore 7, 2) := by decide +kernel
theorem d_Lw_item_25 : decode b_Lw_item 25 = .ok (.iconst 2, 1) := by decide +kernel
theorem d_Lw_item_26 : decode b_Lw_item 26 = .ok (.ireturn, 1) := by decide +kernel
theorem d_Lw_item_27 : decode b_Lw_item 27 = .ok (.iconst 0, 1) := by decide +kernel
theorem d_Lw_item_28 : decode b_Lw_item 28 = .ok (.ireturn, 1) := by decide +kernel
theorem d_Lw_keep_0 : decode b_Lw_keep 0 = .ok (.aload_n 0, 1) := by decide +kernel
theorem d_Lw_keep_1 : decode b_Lw_keep 1 = .ok (.iload_n 1, 1) := by decide +kernel
theorem d_Lw_keep_2 : decode b_Lw_keep 2 = .ok (.iload_n 2, 1) := by decide +kernel
theorem d_Lw_keep_3 : decode b_Lw_keep 3 = .ok (.invokevirtual 25, 3) := by decide +kernel
theorem d_Lw_keep_6 : decode b_Lw_keep 6 = .ok (.goto 6, 3) := by decide +kernel
theorem d_Lw_keep_9 : decode b_Lw_keep 9 = .ok (.astore_n 3, 1) := by decide +kernel
theorem d_Lw_keep_10 : decode b_Lw_keep 10 = .ok (.iconst 1, 1) := by decide +kernel
theorem d_Lw_keep_11 : decode b_Lw_keep 11 = .ok (.ireturn, 1) := by decide +kernel
theorem d_Lw_keep_12 : decode b_Lw_keep 12 = .ok (.iconst 0, 1) := by decide +kernel
theorem d_Lw_keep_13 : decode b_Lw_keep 13 = .ok (.ireturn, 1) := by decide +kernel
theorem d_Lw_run_0 : decode b_Lw_run 0 = .ok (.aload 4, 2) := by decide +kernel
theorem d_Lw_run_2 : decode b_Lw_run 2 = .ok (.iconst 0, 1) := by decide +kernel
theorem d_Lw_run_3 : decode b_Lw_run 3 = .ok (.aload_n 0, 1) := by decide +kernel
theorem d_Lw_run_4 : decode b_Lw_run 4 = .ok (.iload_n 1, 1) := by decide +kernel
theorem d_Lw_run_5 : decode b_Lw_run 5 = .ok (.iload_n 2, 1) := by decide +kernel
theorem d_Lw_run_6 : decode b_Lw_run 6 = .ok (.iload_n 3, 1) := by decide +kernel
theorem d_Lw_run_7 : decode b_Lw_run 7 = .ok (.invokevirtual 29, 3) := by decide +kernel
theorem d_Lw_run_10 : decode b_Lw_run 10 = .ok (.i2l, 1) := by decide +kernel
theorem d_Lw_run_11 : decode b_Lw_run 11 = .ok (.lastore, 1) := by decide +kernel
theorem d_Lw_run_12 : decode b_Lw_run 12 = .ok (.goto 15, 3) := by decide +kernel
theorem d_Lw_run_15 : decode b_Lw_run 15 = .ok (.astore 5, 2) := by decide +kernel
theorem d_Lw_run_17 : decode b_Lw_run 17 = .ok (.iconst 1, 1) := by decide +kernel
theorem d_Lw_run_18 : decode b_Lw_run 18 = .ok (.ireturn, 1) := by decide +kernel
theorem d_Lw_run_19 : decode b_Lw_run 19 = .ok (.astore 5, 2) := by decide +kernel
theorem d_Lw_run_21 : decode b_Lw_run 21 = .ok (.iconst 2, 1) := by decide +kernel
theorem d_Lw_run_22 : decode b_Lw_run 22 = .ok (.ireturn, 1) := by decide +kernel
theorem d_Lw_run_23 : decode b_Lw_run 23 = .ok (.astore 5, 2) := by decide +kernel
theorem d_Lw_run_25 : decode b_Lw_run 25 = .ok (.iconst 3, 1) := by decide +kernel
theorem d_Lw_run_26 : decode b_Lw_run 26 = .ok (.ireturn, 1) := by decide +kernel
theorem d_Lw_run_27 : decode b_Lw_run 27 = .ok (.iconst 0, 1) := by decide +kernel
theorem d_Lw_run_28 : decode b_Lw_run 28 = .ok (.ireturn, 1) := by decide +kernel
theorem d_Lw_told_0 : decode b_Lw_told 0 = .ok (.aload_n 3, 1) := by decide +kernel
theorem d_Lw_told_1 : decode b_Lw_told 1 = .ok (.iconst 0, 1) := by decide +kernel
theorem d_Lw_told_2 : decode b_Lw_told 2 = .ok (.aload_n 0, 1) := by decide +kernel
theorem d_Lw_told_3 : decode b_Lw_told 3 = .ok (.iload_n 1, 1) := by decide +kernel
theorem d_Lw_told_4 : decode b_Lw_told 4 = .ok (.iload_n 2, 1) := by decide +kernel
theorem d_Lw_told_5 : decode b_Lw_told 5 = .ok (.invokevirtual 34, 3) := by decide +kernel
theorem d_Lw_told_8 : decode b_Lw_told 8 = .ok (.i2l, 1) := by decide +kernel
theorem d_Lw_told_9 : decode b_Lw_told 9 = .ok (.lastore, 1) := by decide +kernel
theorem d_Lw_told_10 : decode b_Lw_told 10 = .ok (.goto 7, 3) := by decide +kernel
theorem d_Lw_told_13 : decode b_Lw_told 13 = .ok (.astore 4, 2) := by decide +kernel
theorem d_Lw_told_15 : decode b_Lw_told 15 = .ok (.iconst 1, 1) := by decide +kernel
theorem d_Lw_told_16 : decode b_Lw_told 16 = .ok (.ireturn, 1) := by decide +kernel
theorem d_Lw_told_17 : decode b_Lw_told 17 = .ok (.iconst 0, 1) := by decide +kernel
theorem d_Lw_told_18 : decode b_Lw_told 18 = .ok (.ireturn, 1) := by decide +kernel
theorem d_Lw_inside_0 : decode b_Lw_inside 0 = .ok (.aload 4, 2) := by decide +kernel
theorem d_Lw_inside_2 : decode b_Lw_inside 2 = .ok (.iconst 0, 1) := by decide +kernel
theorem d_Lw_inside_3 : decode b_Lw_inside 3 = .ok (.aload_n 0, 1) := by decide +kernel
theorem d_Lw_inside_4 : decode b_Lw_inside 4 = .ok (.iload_n 1, 1) := by decide +kernel
theorem d_Lw_inside_5 : decode b_Lw_inside 5 = .ok (.iload_n 2, 1) := by decide +kernel
theorem d_Lw_inside_6 : decode b_Lw_inside 6 = .ok (.iload_n 3, 1) := by decide +kernel
theorem d_Lw_inside_7 : decode b_Lw_inside 7 = .ok (.invokevirtual 38, 3) := by decide +kernel
theorem d_Lw_inside_10 : decode b_Lw_inside 10 = .ok (.i2l, 1) := by decide +kernel
theorem d_Lw_inside_11 : decode b_Lw_inside 11 = .ok (.lastore, 1) := by decide +kernel
theorem d_Lw_inside_12 : decode b_Lw_inside 12 = .ok (.goto 11, 3) := by decide +kernel
theorem d_Lw_inside_15 : decode b_Lw_inside 15 = .ok (.astore 5, 2) := by decide +kernel
theorem d_Lw_inside_17 : decode b_Lw_inside 17 = .ok (.iconst 1, 1) := by decide +kernel
theorem d_Lw_inside_18 : decode b_Lw_inside 18 = .ok (.ireturn, 1) := by decide +kernel
theorem d_Lw_inside_19 : decode b_Lw_inside 19 = .ok (.astore 5, 2) := by decide +kernel
theorem d_Lw_inside_21 : decode b_Lw_inside 21 = .ok (.iconst 2, 1) := by decide +kernel
theorem d_Lw_inside_22 : decode b_Lw_inside 22 = .ok (.ireturn, 1) := by decide +kernel
theorem d_Lw_inside_23 : decode b_Lw_inside 23 = .ok (.iconst 0, 1) := by decide +kernel
theorem d_Lw_inside_24 : decode b_Lw_inside 24 = .ok (.ireturn, 1) := by decide +kernel
theorem d_Lw_trace_0 : decode b_Lw_trace 0 = .ok (.aload 4, 2) := by decide +kernel
theorem d_Lw_trace_2 : decode b_Lw_trace 2 = .ok (.iconst 0, 1) := by decide +kernel
theorem d_Lw_trace_3 : decode b_Lw_trace 3 = .ok (.aload_n 0, 1) := by decide +kernel
theorem d_Lw_trace_4 : decode b_Lw_trace 4 = .ok (.iload_n 1, 1) := by decide +kernel
theorem d_Lw_trace_5 : decode b_Lw_trace 5 = .ok (.iload_n 2, 1) := by decide +kernel
theorem d_Lw_trace_6 : decode b_Lw_trace 6 = .ok (.iload_n 3, 1) := by decide +kernel
theorem d_Lw_trace_7 : decode b_Lw_trace 7 = .ok (.invokevirtual 41, 3) := by decide +kernel
theorem d_Lw_trace_10 : decode b_Lw_trace 10 = .ok (.i2l, 1) := by decide +kernel
theorem d_Lw_trace_11 : decode b_Lw_trace 11 = .ok (.lastore, 1) := by decide +kernel
theorem d_Lw_trace_12 : decode b_Lw_trace 12 = .ok (.goto 11, 3) := by decide +kernel
theorem d_Lw_trace_15 : decode b_Lw_trace 15 = .ok (.astore 5, 2) := by decide +kernel
theorem d_Lw_trace_17 : decode b_Lw_trace 17 = .ok (.iconst 1, 1) := by decide +kernel
theorem d_Lw_trace_18 : decode b_Lw_trace 18 = .ok (.ireturn, 1) := by decide +kernel
theorem d_Lw_trace_19 : decode b_Lw_trace 19 = .ok (.astore 5, 2) := by decide +kernel
theorem d_Lw_trace_21 : decode b_Lw_trace 21 = .ok (.iconst 2, 1) := by decide +kernel
theorem d_Lw_trace_22 : decode b_Lw_trace 22 = .ok (.ireturn, 1) := by decide +kernel
theorem d_Lw_trace_23 : decode b_Lw_trace 23 = .ok (.iconst 0, 1) := by decide +kernel
theorem d_Lw_trace_24 : decode b_Lw_trace 24 = .ok (.ireturn, 1) := by decide +kernel
theorem d_Lw_law_0 : decode b_Lw_law 0 = .ok (.new 8, 3) := by decide +kernel
theorem d_Lw_law_3 : decode b_Lw_law 3 = .ok (.dup, 1) := by decide +kernel
theorem d_Lw_law_4 : decode b_Lw_law 4 = .ok (.invokespecial 44, 3) := by decide +kernel
theorem d_Lw_law_7 : decode b_Lw_law 7 = .ok (.astore_n 1, 1) := by decide +kernel
theorem d_Lw_law_8 : decode b_Lw_law 8 = .ok (.new 45, 3) := by decide +kernel
theorem d_Lw_law_11 : decode b_Lw_law 11 = .ok (.dup, 1) := by decide +kernel
theorem d_Lw_law_12 : decode b_Lw_law 12 = .ok (.invokespecial 47, 3) := by decide +kernel
theorem d_Lw_law_15 : decode b_Lw_law 15 = .ok (.astore_n 2, 1) := by decide +kernel
theorem d_Lw_law_16 : decode b_Lw_law 16 = .ok (.iconst 1, 1) := by decide +kernel
theorem d_Lw_law_17 : decode b_Lw_law 17 = .ok (.newarray .long, 2) := by decide +kernel
theorem d_Lw_law_19 : decode b_Lw_law 19 = .ok (.astore_n 3, 1) := by decide +kernel
theorem d_Lw_law_20 : decode b_Lw_law 20 = .ok (.iconst 0, 1) := by decide +kernel
theorem d_Lw_law_21 : decode b_Lw_law 21 = .ok (.istore 4, 2) := by decide +kernel
theorem d_Lw_law_23 : decode b_Lw_law 23 = .ok (.iload 4, 2) := by decide +kernel
theorem d_Lw_law_25 : decode b_Lw_law 25 = .ok (.aload_n 0, 1) := by decide +kernel
theorem d_Lw_law_26 : decode b_Lw_law 26 = .ok (.arraylength, 1) := by decide +kernel
theorem d_Lw_law_27 : decode b_Lw_law 27 = .ok (.bipush 6, 2) := by decide +kernel
theorem d_Lw_law_29 : decode b_Lw_law 29 = .ok (.isub, 1) := by decide +kernel
theorem d_Lw_law_30 : decode b_Lw_law 30 = .ok (.if_icmp .gt 739, 3) := by decide +kernel
theorem d_Lw_law_33 : decode b_Lw_law 33 = .ok (.aload_n 0, 1) := by decide +kernel
theorem d_Lw_law_34 : decode b_Lw_law 34 = .ok (.iload 4, 2) := by decide +kernel
theorem d_Lw_law_36 : decode b_Lw_law 36 = .ok (.iaload, 1) := by decide +kernel
theorem d_Lw_law_37 : decode b_Lw_law 37 = .ok (.bipush 15, 2) := by decide +kernel
theorem d_Lw_law_39 : decode b_Lw_law 39 = .ok (.iand, 1) := by decide +kernel
theorem d_Lw_law_40 : decode b_Lw_law 40 = .ok (.tableswitch 723 0 10 #[60, 116, 196, 300, 364, 444, 457, 470, 538, 618, 698], 60) := by decide +kernel
theorem d_Lw_law_100 : decode b_Lw_law 100 = .ok (.aload_n 1, 1) := by decide +kernel
theorem d_Lw_law_101 : decode b_Lw_law 101 = .ok (.aload_n 0, 1) := by decide +kernel
theorem d_Lw_law_102 : decode b_Lw_law 102 = .ok (.iload 4, 2) := by decide +kernel
theorem d_Lw_law_104 : decode b_Lw_law 104 = .ok (.iconst 1, 1) := by decide +kernel
theorem d_Lw_law_105 : decode b_Lw_law 105 = .ok (.iadd, 1) := by decide +kernel
theorem d_Lw_law_106 : decode b_Lw_law 106 = .ok (.iaload, 1) := by decide +kernel
theorem d_Lw_law_107 : decode b_Lw_law 107 = .ok (.aload_n 3, 1) := by decide +kernel
theorem d_Lw_law_108 : decode b_Lw_law 108 = .ok (.invokestatic 48, 3) := by decide +kernel
theorem d_Lw_law_111 : decode b_Lw_law 111 = .ok (.istore 5, 2) := by decide +kernel
theorem d_Lw_law_113 : decode b_Lw_law 113 = .ok (.aload_n 2, 1) := by decide +kernel
theorem d_Lw_law_114 : decode b_Lw_law 114 = .ok (.aload_n 0, 1) := by decide +kernel
theorem d_Lw_law_115 : decode b_Lw_law 115 = .ok (.iload 4, 2) := by decide +kernel
theorem d_Lw_law_117 : decode b_Lw_law 117 = .ok (.iconst 1, 1) := by decide +kernel
theorem d_Lw_law_118 : decode b_Lw_law 118 = .ok (.iadd, 1) := by decide +kernel
theorem d_Lw_law_119 : decode b_Lw_law 119 = .ok (.iaload, 1) := by decide +kernel
theorem d_Lw_law_120 : decode b_Lw_law 120 = .ok (.invokevirtual 53, 3) := by decide +kernel
theorem d_Lw_law_123 : decode b_Lw_law 123 = .ok (.istore 6, 2) := by decide +kernel
theorem d_Lw_law_125 : decode b_Lw_law 125 = .ok (.aload_n 2, 1) := by decide +kernel
theorem d_Lw_law_126 : decode b_Lw_law 126 = .ok (.invokevirtual 54, 3) := by decide +kernel
theorem d_Lw_law_129 : decode b_Lw_law 129 = .ok (.iload 5, 2) := by decide +kernel
theorem d_Lw_law_131 : decode b_Lw_law 131 = .ok (.if_icmp .eq 5, 3) := by decide +kernel
theorem d_Lw_law_134 : decode b_Lw_law 134 = .ok (.iconst 0, 1) := by decide +kernel
theorem d_Lw_law_135 : decode b_Lw_law 135 = .ok (.ireturn, 1) := by decide +kernel
theorem d_Lw_law_136 : decode b_Lw_law 136 = .ok (.iload 5, 2) := by decide +kernel
theorem d_Lw_law_138 : decode b_Lw_law 138 = .ok (.ifCond .ne 15, 3) := by decide +kernel
theorem d_Lw_law_141 : decode b_Lw_law 141 = .ok (.aload_n 3, 1) := by decide +kernel
theorem d_Lw_law_142 : decode b_Lw_law 142 = .ok (.iconst 0, 1) := by decide +kernel
theorem d_Lw_law_143 : decode b_Lw_law 143 = .ok (.laload, 1) := by decide +kernel
theorem d_Lw_law_144 : decode b_Lw_law 144 = .ok (.iload 6, 2) := by decide +kernel
theorem d_Lw_law_146 : decode b_Lw_law 146 = .ok (.i2l, 1) := by decide +kernel
theorem d_Lw_law_147 : decode b_Lw_law 147 = .ok (.lcmp, 1) := by decide +kernel
theorem d_Lw_law_148 : decode b_Lw_law 148 = .ok (.ifCond .eq 5, 3) := by decide +kernel
theorem d_Lw_law_151 : decode b_Lw_law 151 = .ok (.iconst 0, 1) := by decide +kernel
theorem d_Lw_law_152 : decode b_Lw_law 152 = .ok (.ireturn, 1) := by decide +kernel
theorem d_Lw_law_153 : decode b_Lw_law 153 = .ok (.goto 610, 3) := by decide +kernel
theorem d_Lw_law_156 : decode b_Lw_law 156 = .ok (.aload_n 1, 1) := by decide +kernel
theorem d_Lw_law_157 : decode b_Lw_law 157 = .ok (.aload_n 0, 1) := by decide +kernel
theorem d_Lw_law_158 : decode b_Lw_law 158 = .ok (.iload 4, 2) := by decide +kernel
theorem d_Lw_law_160 : decode b_Lw_law 160 = .ok (.iconst 1, 1) := by decide +kernel
theorem d_Lw_law_161 : decode b_Lw_law 161 = .ok (.iadd, 1) := by decide +kernel
theorem d_Lw_law_162 : decode b_Lw_law 162 = .ok (.iaload, 1) := by decide +kernel
theorem d_Lw_law_163 : decode b_Lw_law 163 = .ok (.aload_n 0, 1) := by decide +kernel
theorem d_Lw_law_164 : decode b_Lw_law 164 = .ok (.iload 4, 2) := by decide +kernel
theorem d_Lw_law_166 : decode b_Lw_law 166 = .ok (.iconst 2, 1) := by decide +kernel
theorem d_Lw_law_167 : decode b_Lw_law 167 = .ok (.iadd, 1) := by decide +kernel
theorem d_Lw_law_168 : decode b_Lw_law 168 = .ok (.iaload, 1) := by decide +kernel
theorem d_Lw_law_169 : decode b_Lw_law 169 = .ok (.aload_n 0, 1) := by decide +kernel
theorem d_Lw_law_170 : decode b_Lw_law 170 = .ok (.iload 4, 2) := by decide +kernel
theorem d_Lw_law_172 : decode b_Lw_law 172 = .ok (.iconst 3, 1) := by decide +kernel
theorem d_Lw_law_173 : decode b_Lw_law 173 = .ok (.iadd, 1) := by decide +kernel
theorem d_Lw_law_174 : decode b_Lw_law 174 = .ok (.iaload, 1) := by decide +kernel
theorem d_Lw_law_175 : decode b_Lw_law 175 = .ok (.aload_n 3, 1) := by decide +kernel
theorem d_Lw_law_176 : decode b_Lw_law 176 = .ok (.invokestatic 58, 3) := by decide +kernel
theorem d_Lw_law_179 : decode b_Lw_law 179 = .ok (.istore 5, 2) := by decide +kernel
theorem d_Lw_law_181 : decode b_Lw_law 181 = .ok (.aload_n 2, 1) := by decide +kernel
theorem d_Lw_law_182 : decode b_Lw_law 182 = .ok (.aload_n 0, 1) := by decide +kernel
theorem d_Lw_law_183 : decode b_Lw_law 183 = .ok (.iload 4, 2) := by decide +kernel
theorem d_Lw_law_185 : decode b_Lw_law 185 = .ok (.iconst 1, 1) := by decide +kernel
theorem d_Lw_law_186 : decode b_Lw_law 186 = .ok (.iadd, 1) := by decide +kernel
theorem d_Lw_law_187 : decode b_Lw_law 187 = .ok (.iaload, 1) := by decide +kernel
theorem d_Lw_law_188 : decode b_Lw_law 188 = .ok (.aload_n 0, 1) := by decide +kernel
theorem d_Lw_law_189 : decode b_Lw_law 189 = .ok (.iload 4, 2) := by decide +kernel
theorem d_Lw_law_191 : decode b_Lw_law 191 = .ok (.iconst 2, 1) := by decide +kernel
theorem d_Lw_law_192 : decode b_Lw_law 192 = .ok (.iadd, 1) := by decide +kernel
theorem d_Lw_law_193 : decode b_Lw_law 193 = .ok (.iaload, 1) := by decide +kernel
theorem d_Lw_law_194 : decode b_Lw_law 194 = .ok (.aload_n 0, 1) := by decide +kernel
theorem d_Lw_law_195 : decode b_Lw_law 195 = .ok (.iload 4, 2) := by decide +kernel
theorem d_Lw_law_197 : decode b_Lw_law 197 = .ok (.iconst 3, 1) := by decide +kernel
theorem d_Lw_law_198 : decode b_Lw_law 198 = .ok (.iadd, 1) := by decide +kernel
theorem d_Lw_law_199 : decode b_Lw_law 199 = .ok (.iaload, 1) := by decide +kernel
theorem d_Lw_law_200 : decode b_Lw_law 200 = .ok (.invokevirtual 61, 3) := by decide +kernel
theorem d_Lw_law_203 : decode b_Lw_law 203 = .ok (.istore 6, 2) := by decide +kernel
theorem d_Lw_law_205 : decode b_Lw_law 205 = .ok (.aload_n 2, 1) := by decide +kernel
theorem d_Lw_law_206 : decode b_Lw_law 206 = .ok (.invokevirtual 54, 3) := by decide +kernel
theorem d_Lw_law_209 : decode b_Lw_law 209 = .ok (.iload 5, 2) := by decide +kernel
theorem d_Lw_law_211 : decode b_Lw_law 211 = .ok (.if_icmp .eq 5, 3) := by decide +kernel
theorem d_Lw_law_214 : decode b_Lw_law 214 = .ok (.iconst 0, 1) := by decide +kernel
theorem d_Lw_law_215 : decode b_Lw_law 215 = .ok (.ireturn, 1) := by decide +kernel
theorem d_Lw_law_216 : decode b_Lw_law 216 = .ok (.iload 5, 2) := by decide +kernel
theorem d_Lw_law_218 : decode b_Lw_law 218 = .ok (.ifCond .ne 15, 3) := by decide +kernel
theorem d_Lw_law_221 : decode b_Lw_law 221 = .ok (.aload_n 3, 1) := by decide +kernel
theorem d_Lw_law_222 : decode b_Lw_law 222 = .ok (.iconst 0, 1) := by decide +kernel
theorem d_Lw_law_223 : decode b_Lw_law 223 = .ok (.laload, 1) := by decide +kernel
theorem d_Lw_law_224 : decode b_Lw_law 224 = .ok (.iload 6, 2) := by decide +kernel
theorem d_Lw_law_226 : decode b_Lw_law 226 = .ok (.i2l, 1) := by decide +kernel
theorem d_Lw_law_227 : decode b_Lw_law 227 = .ok (.lcmp, 1) := by decide +kernel
theorem d_Lw_law_228 : decode b_Lw_law 228 = .ok (.ifCond .eq 5, 3) := by decide +kernel
theorem d_Lw_law_231 : decode b_Lw_law 231 = .ok (.iconst 0, 1) := by decide +kernel
theorem d_Lw_law_232 : decode b_Lw_law 232 = .ok (.ireturn, 1) := by decide +kernel
theorem d_Lw_law_233 : decode b_Lw_law 233 = .ok (.goto 530, 3) := by decide +kernel
theorem d_Lw_law_236 : decode b_Lw_law 236 = .ok (.aload_n 1, 1) := by decide +kernel
theorem d_Lw_law_237 : decode b_Lw_law 237 = .ok (.aload_n 0, 1) := by decide +kernel
theorem d_Lw_law_238 : decode b_Lw_law 238 = .ok (.iload 4, 2) := by decide +kernel
theorem d_Lw_law_240 : decode b_Lw_law 240 = .ok (.iconst 1, 1) := by decide +kernel
theorem d_Lw_law_241 : decode b_Lw_law 241 = .ok (.iadd, 1) := by decide +kernel
theorem d_Lw_law_242 : decode b_Lw_law 242 = .ok (.iaload, 1) := by decide +kernel
theorem d_Lw_law_243 : decode b_Lw_law 243 = .ok (.aload_n 0, 1) := by decide +kernel
theorem d_Lw_law_244 : decode b_Lw_law 244 = .ok (.iload 4, 2) := by decide +kernel
theorem d_Lw_law_246 : decode b_Lw_law 246 = .ok (.iconst 2, 1) := by decide +kernel
theorem d_Lw_law_247 : decode b_Lw_law 247 = .ok (.iadd, 1) := by decide +kernel
theorem d_Lw_law_248 : decode b_Lw_law 248 = .ok (.iaload, 1) := by decide +kernel
theorem d_Lw_law_249 : decode b_Lw_law 249 = .ok (.aload_n 0, 1) := by decide +kernel
theorem d_Lw_law_250 : decode b_Lw_law 250 = .ok (.iload 4, 2) := by decide +kernel
theorem d_Lw_law_252 : decode b_Lw_law 252 = .ok (.iconst 3, 1) := by decide +kernel
theorem d_Lw_law_253 : decode b_Lw_law 253 = .ok (.iadd, 1) := by decide +kernel
theorem d_Lw_law_254 : decode b_Lw_law 254 = .ok (.iaload, 1) := by decide +kernel
theorem d_Lw_law_255 : decode b_Lw_law 255 = .ok (.aload_n 0, 1) := by decide +kernel
theorem d_Lw_law_256 : decode b_Lw_law 256 = .ok (.iload 4, 2) := by decide +kernel
theorem d_Lw_law_258 : decode b_Lw_law 258 = .ok (.iconst 4, 1) := by decide +kernel
theorem d_Lw_law_259 : decode b_Lw_law 259 = .ok (.iadd, 1) := by decide +kernel
theorem d_Lw_law_260 : decode b_Lw_law 260 = .ok (.iaload, 1) := by decide +kernel
theorem d_Lw_law_261 : decode b_Lw_law 261 = .ok (.aload_n 0, 1) := by decide +kernel
theorem d_Lw_law_262 : decode b_Lw_law 262 = .ok (.iload 4, 2) := by decide +kernel
theorem d_Lw_law_264 : decode b_Lw_law 264 = .ok (.iconst 5, 1) := by decide +kernel
theorem d_Lw_law_265 : decode b_Lw_law 265 = .ok (.iadd, 1) := by decide +kernel
theorem d_Lw_law_266 : decode b_Lw_law 266 = .ok (.iaload, 1) := by decide +kernel
theorem d_Lw_law_267 : decode b_Lw_law 267 = .ok (.aload_n 3, 1) := by decide +kernel
theorem d_Lw_law_268 : decode b_Lw_law 268 = .ok (.invokestatic 62, 3) := by decide +kernel
theorem d_Lw_law_271 : decode b_Lw_law 271 = .ok (.istore 5, 2) := by decide +kernel
theorem d_Lw_law_273 : decode b_Lw_law 273 = .ok (.aload_n 2, 1) := by decide +kernel
theorem d_Lw_law_274 : decode b_Lw_law 274 = .ok (.aload_n 0, 1) := by decide +kernel
theorem d_Lw_law_275 : decode b_Lw_law 275 = .ok (.iload 4, 2) := by decide +kernel
theorem d_Lw_law_277 : decode b_Lw_law 277 = .ok (.iconst 1, 1) := by decide +kernel
theorem d_Lw_law_278 : decode b_Lw_law 278 = .ok (.iadd, 1) := by decide +kernel
theorem d_Lw_law_279 : decode b_Lw_law 279 = .ok (.iaload, 1) := by decide +kernel
theorem d_Lw_law_280 : decode b_Lw_law 280 = .ok (.aload_n 0, 1) := by decide +kernel
theorem d_Lw_law_281 : decode b_Lw_law 281 = .ok (.iload 4, 2) := by decide +kernel
theorem d_Lw_law_283 : decode b_Lw_law 283 = .ok (.iconst 2, 1) := by decide +kernel
theorem d_Lw_law_284 : decode b_Lw_law 284 = .ok (.iadd, 1) := by decide +kernel
theorem d_Lw_law_285 : decode b_Lw_law 285 = .ok (.iaload, 1) := by decide +kernel
theorem d_Lw_law_286 : decode b_Lw_law 286 = .ok (.aload_n 0, 1) := by decide +kernel
theorem d_Lw_law_287 : decode b_Lw_law 287 = .ok (.iload 4, 2) := by decide +kernel
theorem d_Lw_law_289 : decode b_Lw_law 289 = .ok (.iconst 3, 1) := by decide +kernel
theorem d_Lw_law_290 : decode b_Lw_law 290 = .ok (.iadd, 1) := by decide +kernel
theorem d_Lw_law_291 : decode b_Lw_law 291 = .ok (.iaload, 1) := by decide +kernel
theorem d_Lw_law_292 : decode b_Lw_law 292 = .ok (.aload_n 0, 1) := by decide +kernel
theorem d_Lw_law_293 : decode b_Lw_law 293 = .ok (.iload 4, 2) := by decide +kernel
theorem d_Lw_law_295 : decode b_Lw_law 295 = .ok (.iconst 4, 1) := by decide +kernel
theorem d_Lw_law_296 : decode b_Lw_law 296 = .ok (.iadd, 1) := by decide +kernel
theorem d_Lw_law_297 : decode b_Lw_law 297 = .ok (.iaload, 1) := by decide +kernel
theorem d_Lw_law_298 : decode b_Lw_law 298 = .ok (.aload_n 0, 1) := by decide +kernel
theorem d_Lw_law_299 : decode b_Lw_law 299 = .ok (.iload 4, 2) := by decide +kernel
theorem d_Lw_law_301 : decode b_Lw_law 301 = .ok (.iconst 5, 1) := by decide +kernel
theorem d_Lw_law_302 : decode b_Lw_law 302 = .ok (.iadd, 1) := by decide +kernel
theorem d_Lw_law_303 : decode b_Lw_law 303 = .ok (.iaload, 1) := by decide +kernel
theorem d_Lw_law_304 : decode b_Lw_law 304 = .ok (.invokevirtual 65, 3) := by decide +kernel
theorem d_Lw_law_307 : decode b_Lw_law 307 = .ok (.istore 6, 2) := by decide +kernel
theorem d_Lw_law_309 : decode b_Lw_law 309 = .ok (.aload_n 2, 1) := by decide +kernel
theorem d_Lw_law_310 : decode b_Lw_law 310 = .ok (.invokevirtual 54, 3) := by decide +kernel
theorem d_Lw_law_313 : decode b_Lw_law 313 = .ok (.iload 5, 2) := by decide +kernel
theorem d_Lw_law_315 : decode b_Lw_law 315 = .ok (.if_icmp .eq 5, 3) := by decide +kernel
theorem d_Lw_law_318 : decode b_Lw_law 318 = .ok (.iconst 0, 1) := by decide +kernel
theorem d_Lw_law_319 : decode b_Lw_law 319 = .ok (.ireturn, 1) := by decide +kernel
theorem d_Lw_law_320 : decode b_Lw_law 320 = .ok (.iload 5, 2) := by decide +kernel
theorem d_Lw_law_322 : decode b_Lw_law 322 = .ok (.ifCond .ne 15, 3) := by decide +kernel
theorem d_Lw_law_325 : decode b_Lw_law 325 = .ok (.aload_n 3, 1) := by decide +kernel
theorem d_Lw_law_326 : decode b_Lw_law 326 = .ok (.iconst 0, 1) := by decide +kernel
theorem d_Lw_law_327 : decode b_Lw_law 327 = .ok (.laload, 1) := by decide +kernel
theorem d_Lw_law_328 : decode b_Lw_law 328 = .ok (.iload 6, 2) := by decide +kernel
theorem d_Lw_law_330 : decode b_Lw_law 330 = .ok (.i2l, 1) := by decide +kernel
theorem d_Lw_law_331 : decode b_Lw_law 331 = .ok (.lcmp, 1) := by decide +kernel
theorem d_Lw_law_332 : decode b_Lw_law 332 = .ok (.ifCond .eq 5, 3) := by decide +kernel
theorem d_Lw_law_335 : decode b_Lw_law 335 = .ok (.iconst 0, 1) := by decide +kernel
theorem d_Lw_law_336 : decode b_Lw_law 336 = .ok (.ireturn, 1) := by decide +kernel
theorem d_Lw_law_337 : decode b_Lw_law 337 = .ok (.goto 426, 3) := by decide +kernel
theorem d_Lw_law_340 : decode b_Lw_law 340 = .ok (.aload_n 1, 1) := by decide +kernel
theorem d_Lw_law_341 : decode b_Lw_law 341 = .ok (.aload_n 0, 1) := by decide +kernel
theorem d_Lw_law_342 : decode b_Lw_law 342 = .ok (.iload 4, 2) := by decide +kernel
theorem d_Lw_law_344 : decode b_Lw_law 344 = .ok (.iconst 1, 1) := by decide +kernel
theorem d_Lw_law_345 : decode b_Lw_law 345 = .ok (.iadd, 1) := by decide +kernel
theorem d_Lw_law_346 : decode b_Lw_law 346 = .ok (.iaload, 1) := by decide +kernel
theorem d_Lw_law_347 : decode b_Lw_law 347 = .ok (.aload_n 0, 1) := by decide +kernel
theorem d_Lw_law_348 : decode b_Lw_law 348 = .ok (.iload 4, 2) := by decide +kernel
theorem d_Lw_law_350 : decode b_Lw_law 350 = .ok (.iconst 2, 1) := by decide +kernel
theorem d_Lw_law_351 : decode b_Lw_law 351 = .ok (.iadd, 1) := by decide +kernel
theorem d_Lw_law_352 : decode b_Lw_law 352 = .ok (.iaload, 1) := by decide +kernel
theorem d_Lw_law_353 : decode b_Lw_law 353 = .ok (.ifCond .eq 7, 3) := by decide +kernel
theorem d_Lw_law_356 : decode b_Lw_law 356 = .ok (.iconst 1, 1) := by decide +kernel
theorem d_Lw_law_357 : decode b_Lw_law 357 = .ok (.goto 4, 3) := by decide +kernel
theorem d_Lw_law_360 : decode b_Lw_law 360 = .ok (.iconst 0, 1) := by decide +kernel
theorem d_Lw_law_361 : decode b_Lw_law 361 = .ok (.invokestatic 66, 3) := by decide +kernel
theorem d_Lw_law_364 : decode b_Lw_law 364 = .ok (.istore 5, 2) := by decide +kernel
theorem d_Lw_law_366 : decode b_Lw_law 366 = .ok (.aload_n 2, 1) := by decide +kernel
theorem d_Lw_law_367 : decode b_Lw_law 367 = .ok (.aload_n 0, 1) := by decide +kernel
theorem d_Lw_law_368 : decode b_Lw_law 368 = .ok (.iload 4, 2) := by decide +kernel
theorem d_Lw_law_370 : decode b_Lw_law 370 = .ok (.iconst 1, 1) := by decide +kernel
theorem d_Lw_law_371 : decode b_Lw_law 371 = .ok (.iadd, 1) := by decide +kernel
theorem d_Lw_law_372 : decode b_Lw_law 372 = .ok (.iaload, 1) := by decide +kernel
theorem d_Lw_law_373 : decode b_Lw_law 373 = .ok (.aload_n 0, 1) := by decide +kernel
theorem d_Lw_law_374 : decode b_Lw_law 374 = .ok (.iload 4, 2) := by decide +kernel
theorem d_Lw_law_376 : decode b_Lw_law 376 = .ok (.iconst 2, 1) := by decide +kernel
theorem d_Lw_law_377 : decode b_Lw_law 377 = .ok (.iadd, 1) := by decide +kernel
theorem d_Lw_law_378 : decode b_Lw_law 378 = .ok (.iaload, 1) := by decide +kernel
theorem d_Lw_law_379 : decode b_Lw_law 379 = .ok (.ifCond .eq 7, 3) := by decide +kernel
theorem d_Lw_law_382 : decode b_Lw_law 382 = .ok (.iconst 1, 1) := by decide +kernel
theorem d_Lw_law_383 : decode b_Lw_law 383 = .ok (.goto 4, 3) := by decide +kernel
theorem d_Lw_law_386 : decode b_Lw_law 386 = .ok (.iconst 0, 1) := by decide +kernel
theorem d_Lw_law_387 : decode b_Lw_law 387 = .ok (.invokevirtual 69, 3) := by decide +kernel
theorem d_Lw_law_390 : decode b_Lw_law 390 = .ok (.aload_n 2, 1) := by decide +kernel
theorem d_Lw_law_391 : decode b_Lw_law 391 = .ok (.invokevirtual 54, 3) := by decide +kernel
theorem d_Lw_law_394 : decode b_Lw_law 394 = .ok (.iload 5, 2) := by decide +kernel
theorem d_Lw_law_396 : decode b_Lw_law 396 = .ok (.if_icmp .eq 5, 3) := by decide +kernel
theorem d_Lw_law_399 : decode b_Lw_law 399 = .ok (.iconst 0, 1) := by decide +kernel
theorem d_Lw_law_400 : decode b_Lw_law 400 = .ok (.ireturn, 1) := by decide +kernel
theorem d_Lw_law_401 : decode b_Lw_law 401 = .ok (.goto 362, 3) := by decide +kernel
theorem d_Lw_law_404 : decode b_Lw_law 404 = .ok (.aload_n 1, 1) := by decide +kernel
theorem d_Lw_law_405 : decode b_Lw_law 405 = .ok (.aload_n 0, 1) := by decide +kernel
theorem d_Lw_law_406 : decode b_Lw_law 406 = .ok (.iload 4, 2) := by decide +kernel
theorem d_Lw_law_408 : decode b_Lw_law 408 = .ok (.iconst 1, 1) := by decide +kernel
theorem d_Lw_law_409 : decode b_Lw_law 409 = .ok (.iadd, 1) := by decide +kernel
theorem d_Lw_law_410 : decode b_Lw_law 410 = .ok (.iaload, 1) := by decide +kernel
theorem d_Lw_law_411 : decode b_Lw_law 411 = .ok (.aload_n 0, 1) := by decide +kernel
theorem d_Lw_law_412 : decode b_Lw_law 412 = .ok (.iload 4, 2) := by decide +kernel
theorem d_Lw_law_414 : decode b_Lw_law 414 = .ok (.iconst 2, 1) := by decide +kernel
theorem d_Lw_law_415 : decode b_Lw_law 415 = .ok (.iadd, 1) := by decide +kernel
theorem d_Lw_law_416 : decode b_Lw_law 416 = .ok (.iaload, 1) := by decide +kernel
theorem d_Lw_law_417 : decode b_Lw_law 417 = .ok (.aload_n 0, 1) := by decide +kernel
theorem d_Lw_law_418 : decode b_Lw_law 418 = .ok (.iload 4, 2) := by decide +kernel
theorem d_Lw_law_420 : decode b_Lw_law 420 = .ok (.iconst 3, 1) := by decide +kernel
theorem d_Lw_law_421 : decode b_Lw_law 421 = .ok (.iadd, 1) := by decide +kernel
theorem d_Lw_law_422 : decode b_Lw_law 422 = .ok (.iaload, 1) := by decide +kernel
theorem d_Lw_law_423 : decode b_Lw_law 423 = .ok (.aload_n 3, 1) := by decide +kernel
theorem d_Lw_law_424 : decode b_Lw_law 424 = .ok (.invokestatic 70, 3) := by decide +kernel
theorem d_Lw_law_427 : decode b_Lw_law 427 = .ok (.istore 5, 2) := by decide +kernel
theorem d_Lw_law_429 : decode b_Lw_law 429 = .ok (.aload_n 2, 1) := by decide +kernel
theorem d_Lw_law_430 : decode b_Lw_law 430 = .ok (.aload_n 0, 1) := by decide +kernel
theorem d_Lw_law_431 : decode b_Lw_law 431 = .ok (.iload 4, 2) := by decide +kernel
theorem d_Lw_law_433 : decode b_Lw_law 433 = .ok (.iconst 1, 1) := by decide +kernel
theorem d_Lw_law_434 : decode b_Lw_law 434 = .ok (.iadd, 1) := by decide +kernel
theorem d_Lw_law_435 : decode b_Lw_law 435 = .ok (.iaload, 1) := by decide +kernel
theorem d_Lw_law_436 : decode b_Lw_law 436 = .ok (.aload_n 0, 1) := by decide +kernel
theorem d_Lw_law_437 : decode b_Lw_law 437 = .ok (.iload 4, 2) := by decide +kernel
theorem d_Lw_law_439 : decode b_Lw_law 439 = .ok (.iconst 2, 1) := by decide +kernel
theorem d_Lw_law_440 : decode b_Lw_law 440 = .ok (.iadd, 1) := by decide +kernel
theorem d_Lw_law_441 : decode b_Lw_law 441 = .ok (.iaload, 1) := by decide +kernel
theorem d_Lw_law_442 : decode b_Lw_law 442 = .ok (.aload_n 0, 1) := by decide +kernel
theorem d_Lw_law_443 : decode b_Lw_law 443 = .ok (.iload 4, 2) := by decide +kernel
theorem d_Lw_law_445 : decode b_Lw_law 445 = .ok (.iconst 3, 1) := by decide +kernel
theorem d_Lw_law_446 : decode b_Lw_law 446 = .ok (.iadd, 1) := by decide +kernel
theorem d_Lw_law_447 : decode b_Lw_law 447 = .ok (.iaload, 1) := by decide +kernel
theorem d_Lw_law_448 : decode b_Lw_law 448 = .ok (.invokevirtual 72, 3) := by decide +kernel
theorem d_Lw_law_451 : decode b_Lw_law 451 = .ok (.istore 6, 2) := by decide +kernel
theorem d_Lw_law_453 : decode b_Lw_law 453 = .ok (.aload_n 2, 1) := by decide +kernel
theorem d_Lw_law_454 : decode b_Lw_law 454 = .ok (.invokevirtual 54, 3) := by decide +kernel
theorem d_Lw_law_457 : decode b_Lw_law 457 = .ok (.iload 5, 2) := by decide +kernel
theorem d_Lw_law_459 : decode b_Lw_law 459 = .ok (.if_icmp .eq 5, 3) := by decide +kernel
theorem d_Lw_law_462 : decode b_Lw_law 462 = .ok (.iconst 0, 1) := by decide +kernel
theorem d_Lw_law_463 : decode b_Lw_law 463 = .ok (.ireturn, 1) := by decide +kernel
theorem d_Lw_law_464 : decode b_Lw_law 464 = .ok (.iload 5, 2) := by decide +kernel
theorem d_Lw_law_466 : decode b_Lw_law 466 = .ok (.ifCond .ne 15, 3) := by decide +kernel
theorem d_Lw_law_469 : decode b_Lw_law 469 = .ok (.aload_n 3, 1) := by decide +kernel
theorem d_Lw_law_470 : decode b_Lw_law 470 = .ok (.iconst 0, 1) := by decide +kernel
theorem d_Lw_law_471 : decode b_Lw_law 471 = .ok (.laload, 1) := by decide +kernel
theorem d_Lw_law_472 : decode b_Lw_law 472 = .ok (.iload 6, 2) := by decide +kernel
theorem d_Lw_law_474 : decode b_Lw_law 474 = .ok (.i2l, 1) := by decide +kernel
theorem d_Lw_law_475 : decode b_Lw_law 475 = .ok (.lcmp, 1) := by decide +kernel
theorem d_Lw_law_476 : decode b_Lw_law 476 = .ok (.ifCond .eq 5, 3) := by decide +kernel
theorem d_Lw_law_479 : decode b_Lw_law 479 = .ok (.iconst 0, 1) := by decide +kernel
theorem d_Lw_law_480 : decode b_Lw_law 480 = .ok (.ireturn, 1) := by decide +kernel
theorem d_Lw_law_481 : decode b_Lw_law 481 = .ok (.goto 282, 3) := by decide +kernel
theorem d_Lw_law_484 : decode b_Lw_law 484 = .ok (.aload_n 1, 1) := by decide +kernel
theorem d_Lw_law_485 : decode b_Lw_law 485 = .ok (.invokevirtual 73, 3) := by decide +kernel
theorem d_Lw_law_488 : decode b_Lw_law 488 = .ok (.aload_n 2, 1) := by decide +kernel
theorem d_Lw_law_489 : decode b_Lw_law 489 = .ok (.invokevirtual 76, 3) := by decide +kernel
theorem d_Lw_law_492 : decode b_Lw_law 492 = .ok (.if_icmp .eq 271, 3) := by decide +kernel
theorem d_Lw_law_495 : decode b_Lw_law 495 = .ok (.iconst 0, 1) := by decide +kernel
theorem d_Lw_law_496 : decode b_Lw_law 496 = .ok (.ireturn, 1) := by decide +kernel
theorem d_Lw_law_497 : decode b_Lw_law 497 = .ok (.aload_n 1, 1) := by decide +kernel
theorem d_Lw_law_498 : decode b_Lw_law 498 = .ok (.invokevirtual 77, 3) := by decide +kernel
theorem d_Lw_law_501 : decode b_Lw_law 501 = .ok (.aload_n 2, 1) := by decide +kernel
theorem d_Lw_law_502 : decode b_Lw_law 502 = .ok (.invokevirtual 80, 3) := by decide +kernel
theorem d_Lw_law_505 : decode b_Lw_law 505 = .ok (.if_icmp .eq 258, 3) := by decide +kernel
theorem d_Lw_law_508 : decode b_Lw_law 508 = .ok (.iconst 0, 1) := by decide +kernel
theorem d_Lw_law_509 : decode b_Lw_law 509 = .ok (.ireturn, 1) := by decide +kernel
theorem d_Lw_law_510 : decode b_Lw_law 510 = .ok (.aload_n 1, 1) := by decide +kernel
theorem d_Lw_law_511 : decode b_Lw_law 511 = .ok (.aload_n 0, 1) := by decide +kernel
theorem d_Lw_law_512 : decode b_Lw_law 512 = .ok (.iload 4, 2) := by decide +kernel
theorem d_Lw_law_514 : decode b_Lw_law 514 = .ok (.iconst 1, 1) := by decide +kernel
theorem d_Lw_law_515 : decode b_Lw_law 515 = .ok (.iadd, 1) := by decide +kernel
theorem d_Lw_law_516 : decode b_Lw_law 516 = .ok (.iaload, 1) := by decide +kernel
theorem d_Lw_law_517 : decode b_Lw_law 517 = .ok (.aload_n 0, 1) := by decide +kernel
theorem d_Lw_law_518 : decode b_Lw_law 518 = .ok (.iload 4, 2) := by decide +kernel
theorem d_Lw_law_520 : decode b_Lw_law 520 = .ok (.iconst 2, 1) := by decide +kernel
theorem d_Lw_law_521 : decode b_Lw_law 521 = .ok (.iadd, 1) := by decide +kernel
theorem d_Lw_law_522 : decode b_Lw_law 522 = .ok (.iaload, 1) := by decide +kernel
theorem d_Lw_law_523 : decode b_Lw_law 523 = .ok (.aload_n 3, 1) := by decide +kernel
theorem d_Lw_law_524 : decode b_Lw_law 524 = .ok (.invokestatic 81, 3) := by decide +kernel
theorem d_Lw_law_527 : decode b_Lw_law 527 = .ok (.istore 5, 2) := by decide +kernel
theorem d_Lw_law_529 : decode b_Lw_law 529 = .ok (.aload_n 2, 1) := by decide +kernel
theorem d_Lw_law_530 : decode b_Lw_law 530 = .ok (.aload_n 0, 1) := by decide +kernel
theorem d_Lw_law_531 : decode b_Lw_law 531 = .ok (.iload 4, 2) := by decide +kernel
theorem d_Lw_law_533 : decode b_Lw_law 533 = .ok (.iconst 1, 1) := by decide +kernel
theorem d_Lw_law_534 : decode b_Lw_law 534 = .ok (.iadd, 1) := by decide +kernel
theorem d_Lw_law_535 : decode b_Lw_law 535 = .ok (.iaload, 1) := by decide +kernel
theorem d_Lw_law_536 : decode b_Lw_law 536 = .ok (.aload_n 0, 1) := by decide +kernel
theorem d_Lw_law_537 : decode b_Lw_law 537 = .ok (.iload 4, 2) := by decide +kernel
theorem d_Lw_law_539 : decode b_Lw_law 539 = .ok (.iconst 2, 1) := by decide +kernel
theorem d_Lw_law_540 : decode b_Lw_law 540 = .ok (.iadd, 1) := by decide +kernel
theorem d_Lw_law_541 : decode b_Lw_law 541 = .ok (.iaload, 1) := by decide +kernel
theorem d_Lw_law_542 : decode b_Lw_law 542 = .ok (.invokevirtual 84, 3) := by decide +kernel
theorem d_Lw_law_545 : decode b_Lw_law 545 = .ok (.istore 6, 2) := by decide +kernel
theorem d_Lw_law_547 : decode b_Lw_law 547 = .ok (.aload_n 2, 1) := by decide +kernel
theorem d_Lw_law_548 : decode b_Lw_law 548 = .ok (.invokevirtual 54, 3) := by decide +kernel
theorem d_Lw_law_551 : decode b_Lw_law 551 = .ok (.iload 5, 2) := by decide +kernel
theorem d_Lw_law_553 : decode b_Lw_law 553 = .ok (.if_icmp .eq 5, 3) := by decide +kernel
theorem d_Lw_law_556 : decode b_Lw_law 556 = .ok (.iconst 0, 1) := by decide +kernel
theorem d_Lw_law_557 : decode b_Lw_law 557 = .ok (.ireturn, 1) := by decide +kernel
theorem d_Lw_law_558 : decode b_Lw_law 558 = .ok (.iload 5, 2) := by decide +kernel
theorem d_Lw_law_560 : decode b_Lw_law 560 = .ok (.ifCond .ne 15, 3) := by decide +kernel
theorem d_Lw_law_563 : decode b_Lw_law 563 = .ok (.aload_n 3, 1) := by decide +kernel
theorem d_Lw_law_564 : decode b_Lw_law 564 = .ok (.iconst 0, 1) := by decide +kernel
theorem d_Lw_law_565 : decode b_Lw_law 565 = .ok (.laload, 1) := by decide +kernel
theorem d_Lw_law_566 : decode b_Lw_law 566 = .ok (.iload 6, 2) := by decide +kernel
theorem d_Lw_law_568 : decode b_Lw_law 568 = .ok (.i2l, 1) := by decide +kernel
theorem d_Lw_law_569 : decode b_Lw_law 569 = .ok (.lcmp, 1) := by decide +kernel
theorem d_Lw_law_570 : decode b_Lw_law 570 = .ok (.ifCond .eq 5, 3) := by decide +kernel
theorem d_Lw_law_573 : decode b_Lw_law 573 = .ok (.iconst 0, 1) := by decide +kernel
theorem d_Lw_law_574 : decode b_Lw_law 574 = .ok (.ireturn, 1) := by decide +kernel
theorem d_Lw_law_575 : decode b_Lw_law 575 = .ok (.goto 188, 3) := by decide +kernel
theorem d_Lw_law_578 : decode b_Lw_law 578 = .ok (.aload_n 1, 1) := by decide +kernel
theorem d_Lw_law_579 : decode b_Lw_law 579 = .ok (.aload_n 0, 1) := by decide +kernel
theorem d_Lw_law_580 : decode b_Lw_law 580 = .ok (.iload 4, 2) := by decide +kernel
theorem d_Lw_law_582 : decode b_Lw_law 582 = .ok (.iconst 1, 1) := by decide +kernel
theorem d_Lw_law_583 : decode b_Lw_law 583 = .ok (.iadd, 1) := by decide +kernel
theorem d_Lw_law_584 : decode b_Lw_law 584 = .ok (.iaload, 1) := by decide +kernel
theorem d_Lw_law_585 : decode b_Lw_law 585 = .ok (.aload_n 0, 1) := by decide +kernel
theorem d_Lw_law_586 : decode b_Lw_law 586 = .ok (.iload 4, 2) := by decide +kernel
theorem d_Lw_law_588 : decode b_Lw_law 588 = .ok (.iconst 2, 1) := by decide +kernel
theorem d_Lw_law_589 : decode b_Lw_law 589 = .ok (.iadd, 1) := by decide +kernel
theorem d_Lw_law_590 : decode b_Lw_law 590 = .ok (.iaload, 1) := by decide +kernel
theorem d_Lw_law_591 : decode b_Lw_law 591 = .ok (.aload_n 0, 1) := by decide +kernel
theorem d_Lw_law_592 : decode b_Lw_law 592 = .ok (.iload 4, 2) := by decide +kernel
theorem d_Lw_law_594 : decode b_Lw_law 594 = .ok (.iconst 3, 1) := by decide +kernel
theorem d_Lw_law_595 : decode b_Lw_law 595 = .ok (.iadd, 1) := by decide +kernel
theorem d_Lw_law_596 : decode b_Lw_law 596 = .ok (.iaload, 1) := by decide +kernel
theorem d_Lw_law_597 : decode b_Lw_law 597 = .ok (.aload_n 3, 1) := by decide +kernel
theorem d_Lw_law_598 : decode b_Lw_law 598 = .ok (.invokestatic 85, 3) := by decide +kernel
theorem d_Lw_law_601 : decode b_Lw_law 601 = .ok (.istore 5, 2) := by decide +kernel
theorem d_Lw_law_603 : decode b_Lw_law 603 = .ok (.aload_n 2, 1) := by decide +kernel
theorem d_Lw_law_604 : decode b_Lw_law 604 = .ok (.aload_n 0, 1) := by decide +kernel
theorem d_Lw_law_605 : decode b_Lw_law 605 = .ok (.iload 4, 2) := by decide +kernel
theorem d_Lw_law_607 : decode b_Lw_law 607 = .ok (.iconst 1, 1) := by decide +kernel
theorem d_Lw_law_608 : decode b_Lw_law 608 = .ok (.iadd, 1) := by decide +kernel
theorem d_Lw_law_609 : decode b_Lw_law 609 = .ok (.iaload, 1) := by decide +kernel
theorem d_Lw_law_610 : decode b_Lw_law 610 = .ok (.aload_n 0, 1) := by decide +kernel
theorem d_Lw_law_611 : decode b_Lw_law 611 = .ok (.iload 4, 2) := by decide +kernel
theorem d_Lw_law_613 : decode b_Lw_law 613 = .ok (.iconst 2, 1) := by decide +kernel
theorem d_Lw_law_614 : decode b_Lw_law 614 = .ok (.iadd, 1) := by decide +kernel
theorem d_Lw_law_615 : decode b_Lw_law 615 = .ok (.iaload, 1) := by decide +kernel
theorem d_Lw_law_616 : decode b_Lw_law 616 = .ok (.aload_n 0, 1) := by decide +kernel
theorem d_Lw_law_617 : decode b_Lw_law 617 = .ok (.iload 4, 2) := by decide +kernel
theorem d_Lw_law_619 : decode b_Lw_law 619 = .ok (.iconst 3, 1) := by decide +kernel
theorem d_Lw_law_620 : decode b_Lw_law 620 = .ok (.iadd, 1) := by decide +kernel
theorem d_Lw_law_621 : decode b_Lw_law 621 = .ok (.iaload, 1) := by decide +kernel
theorem d_Lw_law_622 : decode b_Lw_law 622 = .ok (.invokevirtual 87, 3) := by decide +kernel
theorem d_Lw_law_625 : decode b_Lw_law 625 = .ok (.istore 6, 2) := by decide +kernel
theorem d_Lw_law_627 : decode b_Lw_law 627 = .ok (.aload_n 2, 1) := by decide +kernel
theorem d_Lw_law_628 : decode b_Lw_law 628 = .ok (.invokevirtual 54, 3) := by decide +kernel
theorem d_Lw_law_631 : decode b_Lw_law 631 = .ok (.iload 5, 2) := by decide +kernel
theorem d_Lw_law_633 : decode b_Lw_law 633 = .ok (.if_icmp .eq 5, 3) := by decide +kernel
theorem d_Lw_law_636 : decode b_Lw_law 636 = .ok (.iconst 0, 1) := by decide +kernel
theorem d_Lw_law_637 : decode b_Lw_law 637 = .ok (.ireturn, 1) := by decide +kernel
theorem d_Lw_law_638 : decode b_Lw_law 638 = .ok (.iload 5, 2) := by decide +kernel
theorem d_Lw_law_640 : decode b_Lw_law 640 = .ok (.ifCond .ne 15, 3) := by decide +kernel
theorem d_Lw_law_643 : decode b_Lw_law 643 = .ok (.aload_n 3, 1) := by decide +kernel
theorem d_Lw_law_644 : decode b_Lw_law 644 = .ok (.iconst 0, 1) := by decide +kernel
theorem d_Lw_law_645 : decode b_Lw_law 645 = .ok (.laload, 1) := by decide +kernel
theorem d_Lw_law_646 : decode b_Lw_law 646 = .ok (.iload 6, 2) := by decide +kernel
theorem d_Lw_law_648 : decode b_Lw_law 648 = .ok (.i2l, 1) := by decide +kernel
theorem d_Lw_law_649 : decode b_Lw_law 649 = .ok (.lcmp, 1) := by decide +kernel
theorem d_Lw_law_650 : decode b_Lw_law 650 = .ok (.ifCond .eq 5, 3) := by decide +kernel
theorem d_Lw_law_653 : decode b_Lw_law 653 = .ok (.iconst 0, 1) := by decide +kernel
theorem d_Lw_law_654 : decode b_Lw_law 654 = .ok (.ireturn, 1) := by decide +kernel
theorem d_Lw_law_655 : decode b_Lw_law 655 = .ok (.goto 108, 3) := by decide +kernel
theorem d_Lw_law_658 : decode b_Lw_law 658 = .ok (.aload_n 1, 1) := by decide +kernel
theorem d_Lw_law_659 : decode b_Lw_law 659 = .ok (.aload_n 0, 1) := by decide +kernel
theorem d_Lw_law_660 : decode b_Lw_law 660 = .ok (.iload 4, 2) := by decide +kernel
theorem d_Lw_law_662 : decode b_Lw_law 662 = .ok (.iconst 1, 1) := by decide +kernel
theorem d_Lw_law_663 : decode b_Lw_law 663 = .ok (.iadd, 1) := by decide +kernel
theorem d_Lw_law_664 : decode b_Lw_law 664 = .ok (.iaload, 1) := by decide +kernel
theorem d_Lw_law_665 : decode b_Lw_law 665 = .ok (.aload_n 0, 1) := by decide +kernel
theorem d_Lw_law_666 : decode b_Lw_law 666 = .ok (.iload 4, 2) := by decide +kernel
theorem d_Lw_law_668 : decode b_Lw_law 668 = .ok (.iconst 2, 1) := by decide +kernel
theorem d_Lw_law_669 : decode b_Lw_law 669 = .ok (.iadd, 1) := by decide +kernel
theorem d_Lw_law_670 : decode b_Lw_law 670 = .ok (.iaload, 1) := by decide +kernel
theorem d_Lw_law_671 : decode b_Lw_law 671 = .ok (.aload_n 0, 1) := by decide +kernel
theorem d_Lw_law_672 : decode b_Lw_law 672 = .ok (.iload 4, 2) := by decide +kernel
theorem d_Lw_law_674 : decode b_Lw_law 674 = .ok (.iconst 3, 1) := by decide +kernel
theorem d_Lw_law_675 : decode b_Lw_law 675 = .ok (.iadd, 1) := by decide +kernel
theorem d_Lw_law_676 : decode b_Lw_law 676 = .ok (.iaload, 1) := by decide +kernel
theorem d_Lw_law_677 : decode b_Lw_law 677 = .ok (.aload_n 3, 1) := by decide +kernel
theorem d_Lw_law_678 : decode b_Lw_law 678 = .ok (.invokestatic 88, 3) := by decide +kernel
theorem d_Lw_law_681 : decode b_Lw_law 681 = .ok (.istore 5, 2) := by decide +kernel
theorem d_Lw_law_683 : decode b_Lw_law 683 = .ok (.aload_n 2, 1) := by decide +kernel
theorem d_Lw_law_684 : decode b_Lw_law 684 = .ok (.aload_n 0, 1) := by decide +kernel
theorem d_Lw_law_685 : decode b_Lw_law 685 = .ok (.iload 4, 2) := by decide +kernel
theorem d_Lw_law_687 : decode b_Lw_law 687 = .ok (.iconst 1, 1) := by decide +kernel
theorem d_Lw_law_688 : decode b_Lw_law 688 = .ok (.iadd, 1) := by decide +kernel
theorem d_Lw_law_689 : decode b_Lw_law 689 = .ok (.iaload, 1) := by decide +kernel
theorem d_Lw_law_690 : decode b_Lw_law 690 = .ok (.aload_n 0, 1) := by decide +kernel
theorem d_Lw_law_691 : decode b_Lw_law 691 = .ok (.iload 4, 2) := by decide +kernel
theorem d_Lw_law_693 : decode b_Lw_law 693 = .ok (.iconst 2, 1) := by decide +kernel
theorem d_Lw_law_694 : decode b_Lw_law 694 = .ok (.iadd, 1) := by decide +kernel
theorem d_Lw_law_695 : decode b_Lw_law 695 = .ok (.iaload, 1) := by decide +kernel
theorem d_Lw_law_696 : decode b_Lw_law 696 = .ok (.aload_n 0, 1) := by decide +kernel
theorem d_Lw_law_697 : decode b_Lw_law 697 = .ok (.iload 4, 2) := by decide +kernel
theorem d_Lw_law_699 : decode b_Lw_law 699 = .ok (.iconst 3, 1) := by decide +kernel
theorem d_Lw_law_700 : decode b_Lw_law 700 = .ok (.iadd, 1) := by decide +kernel
theorem d_Lw_law_701 : decode b_Lw_law 701 = .ok (.iaload, 1) := by decide +kernel
theorem d_Lw_law_702 : decode b_Lw_law 702 = .ok (.invokevirtual 90, 3) := by decide +kernel
theorem d_Lw_law_705 : decode b_Lw_law 705 = .ok (.istore 6, 2) := by decide +kernel
theorem d_Lw_law_707 : decode b_Lw_law 707 = .ok (.aload_n 2, 1) := by decide +kernel
theorem d_Lw_law_708 : decode b_Lw_law 708 = .ok (.invokevirtual 54, 3) := by decide +kernel
theorem d_Lw_law_711 : decode b_Lw_law 711 = .ok (.iload 5, 2) := by decide +kernel
theorem d_Lw_law_713 : decode b_Lw_law 713 = .ok (.if_icmp .eq 5, 3) := by decide +kernel
theorem d_Lw_law_716 : decode b_Lw_law 716 = .ok (.iconst 0, 1) := by decide +kernel
theorem d_Lw_law_717 : decode b_Lw_law 717 = .ok (.ireturn, 1) := by decide +kernel
theorem d_Lw_law_718 : decode b_Lw_law 718 = .ok (.iload 5, 2) := by decide +kernel
theorem d_Lw_law_720 : decode b_Lw_law 720 = .ok (.ifCond .ne 15, 3) := by decide +kernel
theorem d_Lw_law_723 : decode b_Lw_law 723 = .ok (.aload_n 3, 1) := by decide +kernel
theorem d_Lw_law_724 : decode b_Lw_law 724 = .ok (.iconst 0, 1) := by decide +kernel
theorem d_Lw_law_725 : decode b_Lw_law 725 = .ok (.laload, 1) := by decide +kernel
theorem d_Lw_law_726 : decode b_Lw_law 726 = .ok (.iload 6, 2) := by decide +kernel
theorem d_Lw_law_728 : decode b_Lw_law 728 = .ok (.i2l, 1) := by decide +kernel
theorem d_Lw_law_729 : decode b_Lw_law 729 = .ok (.lcmp, 1) := by decide +kernel
theorem d_Lw_law_730 : decode b_Lw_law 730 = .ok (.ifCond .eq 5, 3) := by decide +kernel
theorem d_Lw_law_733 : decode b_Lw_law 733 = .ok (.iconst 0, 1) := by decide +kernel
theorem d_Lw_law_734 : decode b_Lw_law 734 = .ok (.ireturn, 1) := by decide +kernel
theorem d_Lw_law_735 : decode b_Lw_law 735 = .ok (.goto 28, 3) := by decide +kernel
theorem d_Lw_law_738 : decode b_Lw_law 738 = .ok (.aload_n 1, 1) := by decide +kernel
theorem d_Lw_law_739 : decode b_Lw_law 739 = .ok (.aload_n 0, 1) := by decide +kernel
theorem d_Lw_law_740 : decode b_Lw_law 740 = .ok (.iload 4, 2) := by decide +kernel
theorem d_Lw_law_742 : decode b_Lw_law 742 = .ok (.iconst 1, 1) := by decide +kernel
theorem d_Lw_law_743 : decode b_Lw_law 743 = .ok (.iadd, 1) := by decide +kernel
theorem d_Lw_law_744 : decode b_Lw_law 744 = .ok (.iaload, 1) := by decide +kernel
theorem d_Lw_law_745 : decode b_Lw_law 745 = .ok (.invokevirtual 91, 3) := by decide +kernel
theorem d_Lw_law_748 : decode b_Lw_law 748 = .ok (.aload_n 2, 1) := by decide +kernel
theorem d_Lw_law_749 : decode b_Lw_law 749 = .ok (.aload_n 0, 1) := by decide +kernel
theorem d_Lw_law_750 : decode b_Lw_law 750 = .ok (.iload 4, 2) := by decide +kernel
theorem d_Lw_law_752 : decode b_Lw_law 752 = .ok (.iconst 1, 1) := by decide +kernel
theorem d_Lw_law_753 : decode b_Lw_law 753 = .ok (.iadd, 1) := by decide +kernel
theorem d_Lw_law_754 : decode b_Lw_law 754 = .ok (.iaload, 1) := by decide +kernel
theorem d_Lw_law_755 : decode b_Lw_law 755 = .ok (.invokevirtual 94, 3) := by decide +kernel
theorem d_Lw_law_758 : decode b_Lw_law 758 = .ok (.if_icmp .eq 5, 3) := by decide +kernel
theorem d_Lw_law_761 : decode b_Lw_law 761 = .ok (.iconst 0, 1) := by decide +kernel
theorem d_Lw_law_762 : decode b_Lw_law 762 = .ok (.ireturn, 1) := by decide +kernel
theorem d_Lw_law_763 : decode b_Lw_law 763 = .ok (.iinc 4 6, 3) := by decide +kernel
theorem d_Lw_law_766 : decode b_Lw_law 766 = .ok (.goto (-743), 3) := by decide +kernel
theorem d_Lw_law_769 : decode b_Lw_law 769 = .ok (.iconst 1, 1) := by decide +kernel
theorem d_Lw_law_770 : decode b_Lw_law 770 = .ok (.ireturn, 1) := by decide +kernel
