theorem d_Ob_init_0 : decode b_Ob_init 0 = .ok (.return_, 1) := by decide +kernel
theorem d_Pr_init_0 : decode b_Pr_init 0 = .ok (.aload_n 0, 1) := by decide +kernel
theorem d_Pr_init_1 : decode b_Pr_init 1 = .ok (.invokespecial 1, 3) := by decide +kernel
theorem d_Pr_init_4 : decode b_Pr_init 4 = .ok (.aload_n 0, 1) := by decide +kernel
theorem d_Pr_init_5 : decode b_Pr_init 5 = .ok (.new 7, 3) := by decide +kernel
theorem d_Pr_init_8 : decode b_Pr_init 8 = .ok (.dup, 1) := by decide +kernel
theorem d_Pr_init_9 : decode b_Pr_init 9 = .ok (.invokespecial 9, 3) := by decide +kernel
theorem d_Pr_init_12 : decode b_Pr_init 12 = .ok (.putfield 10, 3) := by decide +kernel
theorem d_Pr_init_15 : decode b_Pr_init 15 = .ok (.aload_n 0, 1) := by decide +kernel
theorem d_Pr_init_16 : decode b_Pr_init 16 = .ok (.new 7, 3) := by decide +kernel
theorem d_Pr_init_19 : decode b_Pr_init 19 = .ok (.dup, 1) := by decide +kernel
theorem d_Pr_init_20 : decode b_Pr_init 20 = .ok (.invokespecial 9, 3) := by decide +kernel
theorem d_Pr_init_23 : decode b_Pr_init 23 = .ok (.putfield 16, 3) := by decide +kernel
theorem d_Pr_init_26 : decode b_Pr_init 26 = .ok (.return_, 1) := by decide +kernel
theorem d_Al_init_0 : decode b_Al_init 0 = .ok (.aload_n 0, 1) := by decide +kernel
theorem d_Al_init_1 : decode b_Al_init 1 = .ok (.invokespecial 1, 3) := by decide +kernel
theorem d_Al_init_4 : decode b_Al_init 4 = .ok (.aload_n 0, 1) := by decide +kernel
theorem d_Al_init_5 : decode b_Al_init 5 = .ok (.getstatic 39, 3) := by decide +kernel
theorem d_Al_init_8 : decode b_Al_init 8 = .ok (.putfield 9, 3) := by decide +kernel
theorem d_Al_init_11 : decode b_Al_init 11 = .ok (.return_, 1) := by decide +kernel
theorem d_Ab_init_0 : decode b_Ab_init 0 = .ok (.aload_n 0, 1) := by decide +kernel
theorem d_Ab_init_1 : decode b_Ab_init 1 = .ok (.invokespecial 1, 3) := by decide +kernel
theorem d_Ab_init_4 : decode b_Ab_init 4 = .ok (.aload_n 0, 1) := by decide +kernel
theorem d_Ab_init_5 : decode b_Ab_init 5 = .ok (.iconst 0, 1) := by decide +kernel
theorem d_Ab_init_6 : decode b_Ab_init 6 = .ok (.putfield 7, 3) := by decide +kernel
theorem d_Ab_init_9 : decode b_Ab_init 9 = .ok (.return_, 1) := by decide +kernel
theorem d_Ac_init_0 : decode b_Ac_init 0 = .ok (.aload_n 0, 1) := by decide +kernel
theorem d_Ac_init_1 : decode b_Ac_init 1 = .ok (.invokespecial 1, 3) := by decide +kernel
theorem d_Ac_init_4 : decode b_Ac_init 4 = .ok (.return_, 1) := by decide +kernel
theorem d_Ru_init_0 : decode b_Ru_init 0 = .ok (.aload_n 0, 1) := by decide +kernel
theorem d_Ru_init_1 : decode b_Ru_init 1 = .ok (.invokespecial 3, 3) := by decide +kernel
theorem d_Ru_init_4 : decode b_Ru_init 4 = .ok (.return_, 1) := by decide +kernel
theorem d_Re_init_0 : decode b_Re_init 0 = .ok (.aload_n 0, 1) := by decide +kernel
theorem d_Re_init_1 : decode b_Re_init 1 = .ok (.invokespecial 3, 3) := by decide +kernel
theorem d_Re_init_4 : decode b_Re_init 4 = .ok (.aload_n 0, 1) := by decide +kernel
theorem d_Re_init_5 : decode b_Re_init 5 = .ok (.aload_n 1, 1) := by decide +kernel
theorem d_Re_init_6 : decode b_Re_init 6 = .ok (.putfield 9, 3) := by decide +kernel
theorem d_Re_init_9 : decode b_Re_init 9 = .ok (.aload_n 0, 1) := by decide +kernel
theorem d_Re_init_10 : decode b_Re_init 10 = .ok (.iconst 0, 1) := by decide +kernel
theorem d_Re_init_11 : decode b_Re_init 11 = .ok (.putfield 15, 3) := by decide +kernel
theorem d_Re_init_14 : decode b_Re_init 14 = .ok (.return_, 1) := by decide +kernel
theorem d_Al_size_0 : decode b_Al_size 0 = .ok (.aload_n 0, 1) := by decide +kernel
theorem d_Al_size_1 : decode b_Al_size 1 = .ok (.getfield 48, 3) := by decide +kernel
theorem d_Al_size_4 : decode b_Al_size 4 = .ok (.ireturn, 1) := by decide +kernel
theorem d_Re_mark_0 : decode b_Re_mark 0 = .ok (.aload_n 0, 1) := by decide +kernel
theorem d_Re_mark_1 : decode b_Re_mark 1 = .ok (.invokevirtual 19, 3) := by decide +kernel
theorem d_Re_mark_4 : decode b_Re_mark 4 = .ok (.aload_n 0, 1) := by decide +kernel
theorem d_Re_mark_5 : decode b_Re_mark 5 = .ok (.invokevirtual 22, 3) := by decide +kernel
theorem d_Re_mark_8 : decode b_Re_mark 8 = .ok (.aload_n 0, 1) := by decide +kernel
theorem d_Re_mark_9 : decode b_Re_mark 9 = .ok (.iconst 1, 1) := by decide +kernel
theorem d_Re_mark_10 : decode b_Re_mark 10 = .ok (.putfield 15, 3) := by decide +kernel
theorem d_Re_mark_13 : decode b_Re_mark 13 = .ok (.iconst 0, 1) := by decide +kernel
theorem d_Re_mark_14 : decode b_Re_mark 14 = .ok (.istore_n 1, 1) := by decide +kernel
theorem d_Re_mark_15 : decode b_Re_mark 15 = .ok (.aload_n 0, 1) := by decide +kernel
theorem d_Re_mark_16 : decode b_Re_mark 16 = .ok (.getfield 15, 3) := by decide +kernel
theorem d_Re_mark_19 : decode b_Re_mark 19 = .ok (.ifCond .eq 24, 3) := by decide +kernel
theorem d_Re_mark_22 : decode b_Re_mark 22 = .ok (.iload_n 1, 1) := by decide +kernel
theorem d_Re_mark_23 : decode b_Re_mark 23 = .ok (.bipush 32, 2) := by decide +kernel
theorem d_Re_mark_25 : decode b_Re_mark 25 = .ok (.if_icmp .gt 18, 3) := by decide +kernel
theorem d_Re_mark_28 : decode b_Re_mark 28 = .ok (.aload_n 0, 1) := by decide +kernel
theorem d_Re_mark_29 : decode b_Re_mark 29 = .ok (.iconst 0, 1) := by decide +kernel
theorem d_Re_mark_30 : decode b_Re_mark 30 = .ok (.putfield 15, 3) := by decide +kernel
theorem d_Re_mark_33 : decode b_Re_mark 33 = .ok (.aload_n 0, 1) := by decide +kernel
theorem d_Re_mark_34 : decode b_Re_mark 34 = .ok (.invokevirtual 25, 3) := by decide +kernel
theorem d_Re_mark_37 : decode b_Re_mark 37 = .ok (.iinc 1 1, 3) := by decide +kernel
theorem d_Re_mark_40 : decode b_Re_mark 40 = .ok (.goto (-25), 3) := by decide +kernel
theorem d_Re_mark_43 : decode b_Re_mark 43 = .ok (.return_, 1) := by decide +kernel
theorem d_Re_clearMarks_0 : decode b_Re_clearMarks 0 = .ok (.iconst 0, 1) := by decide +kernel
theorem d_Re_clearMarks_1 : decode b_Re_clearMarks 1 = .ok (.istore_n 1, 1) := by decide +kernel
theorem d_Re_clearMarks_2 : decode b_Re_clearMarks 2 = .ok (.iload_n 1, 1) := by decide +kernel
theorem d_Re_clearMarks_3 : decode b_Re_clearMarks 3 = .ok (.aload_n 0, 1) := by decide +kernel
theorem d_Re_clearMarks_4 : decode b_Re_clearMarks 4 = .ok (.getfield 9, 3) := by decide +kernel
theorem d_Re_clearMarks_7 : decode b_Re_clearMarks 7 = .ok (.getfield 28, 3) := by decide +kernel
theorem d_Re_clearMarks_10 : decode b_Re_clearMarks 10 = .ok (.invokevirtual 34, 3) := by decide +kernel
theorem d_Re_clearMarks_13 : decode b_Re_clearMarks 13 = .ok (.if_icmp .ge 27, 3) := by decide +kernel
theorem d_Re_clearMarks_16 : decode b_Re_clearMarks 16 = .ok (.aload_n 0, 1) := by decide +kernel
theorem d_Re_clearMarks_17 : decode b_Re_clearMarks 17 = .ok (.getfield 9, 3) := by decide +kernel
theorem d_Re_clearMarks_20 : decode b_Re_clearMarks 20 = .ok (.getfield 28, 3) := by decide +kernel
theorem d_Re_clearMarks_23 : decode b_Re_clearMarks 23 = .ok (.iload_n 1, 1) := by decide +kernel
theorem d_Re_clearMarks_24 : decode b_Re_clearMarks 24 = .ok (.invokevirtual 40, 3) := by decide +kernel
theorem d_Re_clearMarks_27 : decode b_Re_clearMarks 27 = .ok (.checkcast 44, 3) := by decide +kernel
theorem d_Re_clearMarks_30 : decode b_Re_clearMarks 30 = .ok (.iconst 0, 1) := by decide +kernel
theorem d_Re_clearMarks_31 : decode b_Re_clearMarks 31 = .ok (.putfield 46, 3) := by decide +kernel
theorem d_Re_clearMarks_34 : decode b_Re_clearMarks 34 = .ok (.iinc 1 1, 3) := by decide +kernel
theorem d_Re_clearMarks_37 : decode b_Re_clearMarks 37 = .ok (.goto (-35), 3) := by decide +kernel
theorem d_Re_clearMarks_40 : decode b_Re_clearMarks 40 = .ok (.iconst 0, 1) := by decide +kernel
theorem d_Re_clearMarks_41 : decode b_Re_clearMarks 41 = .ok (.istore_n 1, 1) := by decide +kernel
theorem d_Re_clearMarks_42 : decode b_Re_clearMarks 42 = .ok (.iload_n 1, 1) := by decide +kernel
theorem d_Re_clearMarks_43 : decode b_Re_clearMarks 43 = .ok (.aload_n 0, 1) := by decide +kernel
theorem d_Re_clearMarks_44 : decode b_Re_clearMarks 44 = .ok (.getfield 9, 3) := by decide +kernel
theorem d_Re_clearMarks_47 : decode b_Re_clearMarks 47 = .ok (.getfield 49, 3) := by decide +kernel
theorem d_Re_clearMarks_50 : decode b_Re_clearMarks 50 = .ok (.invokevirtual 34, 3) := by decide +kernel
theorem d_Re_clearMarks_53 : decode b_Re_clearMarks 53 = .ok (.if_icmp .ge 27, 3) := by decide +kernel
theorem d_Re_clearMarks_56 : decode b_Re_clearMarks 56 = .ok (.aload_n 0, 1) := by decide +kernel
theorem d_Re_clearMarks_57 : decode b_Re_clearMarks 57 = .ok (.getfield 9, 3) := by decide +kernel
theorem d_Re_clearMarks_60 : decode b_Re_clearMarks 60 = .ok (.getfield 49, 3) := by decide +kernel
theorem d_Re_clearMarks_63 : decode b_Re_clearMarks 63 = .ok (.iload_n 1, 1) := by decide +kernel
theorem d_Re_clearMarks_64 : decode b_Re_clearMarks 64 = .ok (.invokevirtual 40, 3) := by decide +kernel
theorem d_Re_clearMarks_67 : decode b_Re_clearMarks 67 = .ok (.checkcast 52, 3) := by decide +kernel
theorem d_Re_clearMarks_70 : decode b_Re_clearMarks 70 = .ok (.iconst 0, 1) := by decide +kernel
theorem d_Re_clearMarks_71 : decode b_Re_clearMarks 71 = .ok (.putfield 54, 3) := by decide +kernel
theorem d_Re_clearMarks_74 : decode b_Re_clearMarks 74 = .ok (.iinc 1 1, 3) := by decide +kernel
theorem d_Re_clearMarks_77 : decode b_Re_clearMarks 77 = .ok (.goto (-35), 3) := by decide +kernel
theorem d_Re_clearMarks_80 : decode b_Re_clearMarks 80 = .ok (.return_, 1) := by decide +kernel
theorem d_Al_get_0 : decode b_Al_get 0 = .ok (.iload_n 1, 1) := by decide +kernel
theorem d_Al_get_1 : decode b_Al_get 1 = .ok (.aload_n 0, 1) := by decide +kernel
theorem d_Al_get_2 : decode b_Al_get 2 = .ok (.getfield 48, 3) := by decide +kernel
theorem d_Al_get_5 : decode b_Al_get 5 = .ok (.invokestatic 118, 3) := by decide +kernel
theorem d_Al_get_8 : decode b_Al_get 8 = .ok (.pop, 1) := by decide +kernel
theorem d_Al_get_9 : decode b_Al_get 9 = .ok (.aload_n 0, 1) := by decide +kernel
theorem d_Al_get_10 : decode b_Al_get 10 = .ok (.iload_n 1, 1) := by decide +kernel
theorem d_Al_get_11 : decode b_Al_get 11 = .ok (.invokevirtual 123, 3) := by decide +kernel
theorem d_Al_get_14 : decode b_Al_get 14 = .ok (.areturn, 1) := by decide +kernel
theorem d_Os_checkIndex_0 : decode b_Os_checkIndex 0 = .ok (.iload_n 0, 1) := by decide +kernel
theorem d_Os_checkIndex_1 : decode b_Os_checkIndex 1 = .ok (.iload_n 1, 1) := by decide +kernel
theorem d_Os_checkIndex_2 : decode b_Os_checkIndex 2 = .ok (.aconst_null, 1) := by decide +kernel
theorem d_Os_checkIndex_3 : decode b_Os_checkIndex 3 = .ok (.invokestatic 105, 3) := by decide +kernel
theorem d_Os_checkIndex_6 : decode b_Os_checkIndex 6 = .ok (.ireturn, 1) := by decide +kernel
theorem d_Pd_checkIndex_0 : decode b_Pd_checkIndex 0 = .ok (.iload_n 0, 1) := by decide +kernel
theorem d_Pd_checkIndex_1 : decode b_Pd_checkIndex 1 = .ok (.ifCond .lt 8, 3) := by decide +kernel
theorem d_Pd_checkIndex_4 : decode b_Pd_checkIndex 4 = .ok (.iload_n 0, 1) := by decide +kernel
theorem d_Pd_checkIndex_5 : decode b_Pd_checkIndex 5 = .ok (.iload_n 1, 1) := by decide +kernel
theorem d_Pd_checkIndex_6 : decode b_Pd_checkIndex 6 = .ok (.if_icmp .lt 10, 3) := by decide +kernel
theorem d_Pd_checkIndex_9 : decode b_Pd_checkIndex 9 = .ok (.aload_n 2, 1) := by decide +kernel
theorem d_Pd_checkIndex_10 : decode b_Pd_checkIndex 10 = .ok (.iload_n 0, 1) := by decide +kernel
theorem d_Pd_checkIndex_11 : decode b_Pd_checkIndex 11 = .ok (.iload_n 1, 1) := by decide +kernel
theorem d_Pd_checkIndex_12 : decode b_Pd_checkIndex 12 = .ok (.invokestatic 95, 3) := by decide +kernel
theorem d_Pd_checkIndex_15 : decode b_Pd_checkIndex 15 = .ok (.athrow, 1) := by decide +kernel
theorem d_Pd_checkIndex_16 : decode b_Pd_checkIndex 16 = .ok (.iload_n 0, 1) := by decide +kernel
theorem d_Pd_checkIndex_17 : decode b_Pd_checkIndex 17 = .ok (.ireturn, 1) := by decide +kernel
theorem d_Al_elementData_0 : decode b_Al_elementData 0 = .ok (.aload_n 0, 1) := by decide +kernel
theorem d_Al_elementData_1 : decode b_Al_elementData 1 = .ok (.getfield 9, 3) := by decide +kernel
theorem d_Al_elementData_4 : decode b_Al_elementData 4 = .ok (.iload_n 1, 1) := by decide +kernel
theorem d_Al_elementData_5 : decode b_Al_elementData 5 = .ok (.aaload, 1) := by decide +kernel
theorem d_Al_elementData_6 : decode b_Al_elementData 6 = .ok (.areturn, 1) := by decide +kernel
theorem d_Re_markKept_0 : decode b_Re_markKept 0 = .ok (.iconst 0, 1) := by decide +kernel
theorem d_Re_markKept_1 : decode b_Re_markKept 1 = .ok (.istore_n 1, 1) := by decide +kernel
theorem d_Re_markKept_2 : decode b_Re_markKept 2 = .ok (.iload_n 1, 1) := by decide +kernel
theorem d_Re_markKept_3 : decode b_Re_markKept 3 = .ok (.aload_n 0, 1) := by decide +kernel
theorem d_Re_markKept_4 : decode b_Re_markKept 4 = .ok (.getfield 9, 3) := by decide +kernel
theorem d_Re_markKept_7 : decode b_Re_markKept 7 = .ok (.getfield 49, 3) := by decide +kernel
theorem d_Re_markKept_10 : decode b_Re_markKept 10 = .ok (.invokevirtual 34, 3) := by decide +kernel
theorem d_Re_markKept_13 : decode b_Re_markKept 13 = .ok (.if_icmp .ge 44, 3) := by decide +kernel
theorem d_Re_markKept_16 : decode b_Re_markKept 16 = .ok (.aload_n 0, 1) := by decide +kernel
theorem d_Re_markKept_17 : decode b_Re_markKept 17 = .ok (.getfield 9, 3) := by decide +kernel
theorem d_Re_markKept_20 : decode b_Re_markKept 20 = .ok (.getfield 49, 3) := by decide +kernel
theorem d_Re_markKept_23 : decode b_Re_markKept 23 = .ok (.iload_n 1, 1) := by decide +kernel
theorem d_Re_markKept_24 : decode b_Re_markKept 24 = .ok (.invokevirtual 40, 3) := by decide +kernel
theorem d_Re_markKept_27 : decode b_Re_markKept 27 = .ok (.checkcast 52, 3) := by decide +kernel
theorem d_Re_markKept_30 : decode b_Re_markKept 30 = .ok (.astore_n 2, 1) := by decide +kernel
theorem d_Re_markKept_31 : decode b_Re_markKept 31 = .ok (.aload_n 2, 1) := by decide +kernel
theorem d_Re_markKept_32 : decode b_Re_markKept 32 = .ok (.getfield 57, 3) := by decide +kernel
theorem d_Re_markKept_35 : decode b_Re_markKept 35 = .ok (.ifCond .eq 16, 3) := by decide +kernel
theorem d_Re_markKept_38 : decode b_Re_markKept 38 = .ok (.aload_n 0, 1) := by decide +kernel
theorem d_Re_markKept_39 : decode b_Re_markKept 39 = .ok (.aload_n 2, 1) := by decide +kernel
theorem d_Re_markKept_40 : decode b_Re_markKept 40 = .ok (.invokevirtual 60, 3) := by decide +kernel
theorem d_Re_markKept_43 : decode b_Re_markKept 43 = .ok (.aload_n 0, 1) := by decide +kernel
theorem d_Re_markKept_44 : decode b_Re_markKept 44 = .ok (.aload_n 2, 1) := by decide +kernel
theorem d_Re_markKept_45 : decode b_Re_markKept 45 = .ok (.getfield 64, 3) := by decide +kernel
theorem d_Re_markKept_48 : decode b_Re_markKept 48 = .ok (.invokevirtual 68, 3) := by decide +kernel
theorem d_Re_markKept_51 : decode b_Re_markKept 51 = .ok (.iinc 1 1, 3) := by decide +kernel
theorem d_Re_markKept_54 : decode b_Re_markKept 54 = .ok (.goto (-52), 3) := by decide +kernel
theorem d_Re_markKept_57 : decode b_Re_markKept 57 = .ok (.return_, 1) := by decide +kernel
theorem d_Re_markLive_0 : decode b_Re_markLive 0 = .ok (.aload_n 1, 1) := by decide +kernel
theorem d_Re_markLive_1 : decode b_Re_markLive 1 = .ok (.ifnull 20, 3) := by decide +kernel
theorem d_Re_markLive_4 : decode b_Re_markLive 4 = .ok (.aload_n 1, 1) := by decide +kernel
theorem d_Re_markLive_5 : decode b_Re_markLive 5 = .ok (.getfield 54, 3) := by decide +kernel
theorem d_Re_markLive_8 : decode b_Re_markLive 8 = .ok (.ifCond .ne 13, 3) := by decide +kernel
theorem d_Re_markLive_11 : decode b_Re_markLive 11 = .ok (.aload_n 1, 1) := by decide +kernel
theorem d_Re_markLive_12 : decode b_Re_markLive 12 = .ok (.iconst 1, 1) := by decide +kernel
theorem d_Re_markLive_13 : decode b_Re_markLive 13 = .ok (.putfield 54, 3) := by decide +kernel
theorem d_Re_markLive_16 : decode b_Re_markLive 16 = .ok (.aload_n 0, 1) := by decide +kernel
theorem d_Re_markLive_17 : decode b_Re_markLive 17 = .ok (.iconst 1, 1) := by decide +kernel
theorem d_Re_markLive_18 : decode b_Re_markLive 18 = .ok (.putfield 15, 3) := by decide +kernel
theorem d_Re_markLive_21 : decode b_Re_markLive 21 = .ok (.return_, 1) := by decide +kernel
theorem d_Re_markMade_0 : decode b_Re_markMade 0 = .ok (.aload_n 1, 1) := by decide +kernel
theorem d_Re_markMade_1 : decode b_Re_markMade 1 = .ok (.getfield 46, 3) := by decide +kernel
theorem d_Re_markMade_4 : decode b_Re_markMade 4 = .ok (.ifCond .ne 13, 3) := by decide +kernel
theorem d_Re_markMade_7 : decode b_Re_markMade 7 = .ok (.aload_n 1, 1) := by decide +kernel
theorem d_Re_markMade_8 : decode b_Re_markMade 8 = .ok (.iconst 1, 1) := by decide +kernel
theorem d_Re_markMade_9 : decode b_Re_markMade 9 = .ok (.putfield 46, 3) := by decide +kernel
theorem d_Re_markMade_12 : decode b_Re_markMade 12 = .ok (.aload_n 0, 1) := by decide +kernel
theorem d_Re_markMade_13 : decode b_Re_markMade 13 = .ok (.iconst 1, 1) := by decide +kernel
theorem d_Re_markMade_14 : decode b_Re_markMade 14 = .ok (.putfield 15, 3) := by decide +kernel
theorem d_Re_markMade_17 : decode b_Re_markMade 17 = .ok (.return_, 1) := by decide +kernel
theorem d_Re_spreadFromLive_0 : decode b_Re_spreadFromLive 0 = .ok (.iconst 0, 1) := by decide +kernel
theorem d_Re_spreadFromLive_1 : decode b_Re_spreadFromLive 1 = .ok (.istore_n 1, 1) := by decide +kernel
theorem d_Re_spreadFromLive_2 : decode b_Re_spreadFromLive 2 = .ok (.iload_n 1, 1) := by decide +kernel
theorem d_Re_spreadFromLive_3 : decode b_Re_spreadFromLive 3 = .ok (.aload_n 0, 1) := by decide +kernel
theorem d_Re_spreadFromLive_4 : decode b_Re_spreadFromLive 4 = .ok (.getfield 9, 3) := by decide +kernel
theorem d_Re_spreadFromLive_7 : decode b_Re_spreadFromLive 7 = .ok (.getfield 49, 3) := by decide +kernel
theorem d_Re_spreadFromLive_10 : decode b_Re_spreadFromLive 10 = .ok (.invokevirtual 34, 3) := by decide +kernel
theorem d_Re_spreadFromLive_13 : decode b_Re_spreadFromLive 13 = .ok (.if_icmp .ge 36, 3) := by decide +kernel
theorem d_Re_spreadFromLive_16 : decode b_Re_spreadFromLive 16 = .ok (.aload_n 0, 1) := by decide +kernel
theorem d_Re_spreadFromLive_17 : decode b_Re_spreadFromLive 17 = .ok (.getfield 9, 3) := by decide +kernel
theorem d_Re_spreadFromLive_20 : decode b_Re_spreadFromLive 20 = .ok (.getfield 49, 3) := by decide +kernel
theorem d_Re_spreadFromLive_23 : decode b_Re_spreadFromLive 23 = .ok (.iload_n 1, 1) := by decide +kernel
theorem d_Re_spreadFromLive_24 : decode b_Re_spreadFromLive 24 = .ok (.invokevirtual 40, 3) := by decide +kernel
theorem d_Re_spreadFromLive_27 : decode b_Re_spreadFromLive 27 = .ok (.checkcast 52, 3) := by decide +kernel
theorem d_Re_spreadFromLive_30 : decode b_Re_spreadFromLive 30 = .ok (.astore_n 2, 1) := by decide +kernel
theorem d_Re_spreadFromLive_31 : decode b_Re_spreadFromLive 31 = .ok (.aload_n 2, 1) := by decide +kernel
theorem d_Re_spreadFromLive_32 : decode b_Re_spreadFromLive 32 = .ok (.getfield 54, 3) := by decide +kernel
theorem d_Re_spreadFromLive_35 : decode b_Re_spreadFromLive 35 = .ok (.ifCond .eq 8, 3) := by decide +kernel
theorem d_Re_spreadFromLive_38 : decode b_Re_spreadFromLive 38 = .ok (.aload_n 0, 1) := by decide +kernel
theorem d_Re_spreadFromLive_39 : decode b_Re_spreadFromLive 39 = .ok (.aload_n 2, 1) := by decide +kernel
theorem d_Re_spreadFromLive_40 : decode b_Re_spreadFromLive 40 = .ok (.invokevirtual 72, 3) := by decide +kernel
theorem d_Re_spreadFromLive_43 : decode b_Re_spreadFromLive 43 = .ok (.iinc 1 1, 3) := by decide +kernel
theorem d_Re_spreadFromLive_46 : decode b_Re_spreadFromLive 46 = .ok (.goto (-44), 3) := by decide +kernel
theorem d_Re_spreadFromLive_49 : decode b_Re_spreadFromLive 49 = .ok (.return_, 1) := by decide +kernel
theorem d_Re_spread_0 : decode b_Re_spread 0 = .ok (.iconst 0, 1) := by decide +kernel
theorem d_Re_spread_1 : decode b_Re_spread 1 = .ok (.istore_n 2, 1) := by decide +kernel
theorem d_Re_spread_2 : decode b_Re_spread 2 = .ok (.iload_n 2, 1) := by decide +kernel
theorem d_Re_spread_3 : decode b_Re_spread 3 = .ok (.aload_n 1, 1) := by decide +kernel
theorem d_Re_spread_4 : decode b_Re_spread 4 = .ok (.getfield 75, 3) := by decide +kernel
theorem d_Re_spread_7 : decode b_Re_spread 7 = .ok (.invokevirtual 34, 3) := by decide +kernel
theorem d_Re_spread_10 : decode b_Re_spread 10 = .ok (.if_icmp .ge 75, 3) := by decide +kernel
theorem d_Re_spread_13 : decode b_Re_spread 13 = .ok (.aload_n 1, 1) := by decide +kernel
theorem d_Re_spread_14 : decode b_Re_spread 14 = .ok (.getfield 75, 3) := by decide +kernel
theorem d_Re_spread_17 : decode b_Re_spread 17 = .ok (.iload_n 2, 1) := by decide +kernel
theorem d_Re_spread_18 : decode b_Re_spread 18 = .ok (.invokevirtual 40, 3) := by decide +kernel
theorem d_Re_spread_21 : decode b_Re_spread 21 = .ok (.checkcast 78, 3) := by decide +kernel
theorem d_Re_spread_24 : decode b_Re_spread 24 = .ok (.astore_n 3, 1) := by decide +kernel
theorem d_Re_spread_25 : decode b_Re_spread 25 = .ok (.aload_n 3, 1) := by decide +kernel
theorem d_Re_spread_26 : decode b_Re_spread 26 = .ok (.getfield 80, 3) := by decide +kernel
theorem d_Re_spread_29 : decode b_Re_spread 29 = .ok (.ifnull 33, 3) := by decide +kernel
theorem d_Re_spread_32 : decode b_Re_spread 32 = .ok (.aload_n 0, 1) := by decide +kernel
theorem d_Re_spread_33 : decode b_Re_spread 33 = .ok (.aload_n 3, 1) := by decide +kernel
theorem d_Re_spread_34 : decode b_Re_spread 34 = .ok (.getfield 80, 3) := by decide +kernel
theorem d_Re_spread_37 : decode b_Re_spread 37 = .ok (.invokevirtual 68, 3) := by decide +kernel
theorem d_Re_spread_40 : decode b_Re_spread 40 = .ok (.aload_n 0, 1) := by decide +kernel
theorem d_Re_spread_41 : decode b_Re_spread 41 = .ok (.aload_n 3, 1) := by decide +kernel
theorem d_Re_spread_42 : decode b_Re_spread 42 = .ok (.getfield 80, 3) := by decide +kernel
theorem d_Re_spread_45 : decode b_Re_spread 45 = .ok (.aload_n 3, 1) := by decide +kernel
theorem d_Re_spread_46 : decode b_Re_spread 46 = .ok (.getfield 83, 3) := by decide +kernel
theorem d_Re_spread_49 : decode b_Re_spread 49 = .ok (.aload_n 3, 1) := by decide +kernel
theorem d_Re_spread_50 : decode b_Re_spread 50 = .ok (.getfield 87, 3) := by decide +kernel
theorem d_Re_spread_53 : decode b_Re_spread 53 = .ok (.invokevirtual 90, 3) := by decide +kernel
theorem d_Re_spread_56 : decode b_Re_spread 56 = .ok (.invokevirtual 60, 3) := by decide +kernel
theorem d_Re_spread_59 : decode b_Re_spread 59 = .ok (.goto 20, 3) := by decide +kernel
theorem d_Re_spread_62 : decode b_Re_spread 62 = .ok (.aload_n 3, 1) := by decide +kernel
theorem d_Re_spread_63 : decode b_Re_spread 63 = .ok (.getfield 94, 3) := by decide +kernel
theorem d_Re_spread_66 : decode b_Re_spread 66 = .ok (.iconst 2, 1) := by decide +kernel
theorem d_Re_spread_67 : decode b_Re_spread 67 = .ok (.if_icmp .ne 12, 3) := by decide +kernel
theorem d_Re_spread_70 : decode b_Re_spread 70 = .ok (.aload_n 0, 1) := by decide +kernel
theorem d_Re_spread_71 : decode b_Re_spread 71 = .ok (.aload_n 1, 1) := by decide +kernel
theorem d_Re_spread_72 : decode b_Re_spread 72 = .ok (.getfield 64, 3) := by decide +kernel
theorem d_Re_spread_75 : decode b_Re_spread 75 = .ok (.aload_n 3, 1) := by decide +kernel
theorem d_Re_spread_76 : decode b_Re_spread 76 = .ok (.invokevirtual 97, 3) := by decide +kernel
theorem d_Re_spread_79 : decode b_Re_spread 79 = .ok (.iinc 2 1, 3) := by decide +kernel
theorem d_Re_spread_82 : decode b_Re_spread 82 = .ok (.goto (-80), 3) := by decide +kernel
theorem d_Re_spread_85 : decode b_Re_spread 85 = .ok (.return_, 1) := by decide +kernel
theorem d_Pc_find_0 : decode b_Pc_find 0 = .ok (.aload_n 0, 1) := by decide +kernel
theorem d_Pc_find_1 : decode b_Pc_find 1 = .ok (.astore_n 3, 1) := by decide +kernel
theorem d_Pc_find_2 : decode b_Pc_find 2 = .ok (.aload_n 3, 1) := by decide +kernel
theorem d_Pc_find_3 : decode b_Pc_find 3 = .ok (.ifnull 27, 3) := by decide +kernel
theorem d_Pc_find_6 : decode b_Pc_find 6 = .ok (.aload_n 3, 1) := by decide +kernel
theorem d_Pc_find_7 : decode b_Pc_find 7 = .ok (.iload_n 1, 1) := by decide +kernel
theorem d_Pc_find_8 : decode b_Pc_find 8 = .ok (.iload_n 2, 1) := by decide +kernel
theorem d_Pc_find_9 : decode b_Pc_find 9 = .ok (.invokevirtual 47, 3) := by decide +kernel
theorem d_Pc_find_12 : decode b_Pc_find 12 = .ok (.astore 4, 2) := by decide +kernel
theorem d_Pc_find_14 : decode b_Pc_find 14 = .ok (.aload 4, 2) := by decide +kernel
theorem d_Pc_find_16 : decode b_Pc_find 16 = .ok (.ifnull 6, 3) := by decide +kernel
theorem d_Pc_find_19 : decode b_Pc_find 19 = .ok (.aload 4, 2) := by decide +kernel
theorem d_Pc_find_21 : decode b_Pc_find 21 = .ok (.areturn, 1) := by decide +kernel
theorem d_Pc_find_22 : decode b_Pc_find 22 = .ok (.aload_n 3, 1) := by decide +kernel
theorem d_Pc_find_23 : decode b_Pc_find 23 = .ok (.getfield 7, 3) := by decide +kernel
theorem d_Pc_find_26 : decode b_Pc_find 26 = .ok (.astore_n 3, 1) := by decide +kernel
theorem d_Pc_find_27 : decode b_Pc_find 27 = .ok (.goto (-25), 3) := by decide +kernel
theorem d_Pc_find_30 : decode b_Pc_find 30 = .ok (.aconst_null, 1) := by decide +kernel
theorem d_Pc_find_31 : decode b_Pc_find 31 = .ok (.areturn, 1) := by decide +kernel
theorem d_Pc_own_0 : decode b_Pc_own 0 = .ok (.iconst 0, 1) := by decide +kernel
theorem d_Pc_own_1 : decode b_Pc_own 1 = .ok (.istore_n 3, 1) := by decide +kernel
theorem d_Pc_own_2 : decode b_Pc_own 2 = .ok (.iload_n 3, 1) := by decide +kernel
theorem d_Pc_own_3 : decode b_Pc_own 3 = .ok (.aload_n 0, 1) := by decide +kernel
theorem d_Pc_own_4 : decode b_Pc_own 4 = .ok (.getfield 20, 3) := by decide +kernel
theorem d_Pc_own_7 : decode b_Pc_own 7 = .ok (.invokevirtual 31, 3) := by decide +kernel
theorem d_Pc_own_10 : decode b_Pc_own 10 = .ok (.if_icmp .ge 43, 3) := by decide +kernel
theorem d_Pc_own_13 : decode b_Pc_own 13 = .ok (.aload_n 0, 1) := by decide +kernel
theorem d_Pc_own_14 : decode b_Pc_own 14 = .ok (.getfield 20, 3) := by decide +kernel
theorem d_Pc_own_17 : decode b_Pc_own 17 = .ok (.iload_n 3, 1) := by decide +kernel
theorem d_Pc_own_18 : decode b_Pc_own 18 = .ok (.invokevirtual 35, 3) := by decide +kernel
theorem d_Pc_own_21 : decode b_Pc_own 21 = .ok (.checkcast 39, 3) := by decide +kernel
theorem d_Pc_own_24 : decode b_Pc_own 24 = .ok (.astore 4, 2) := by decide +kernel
theorem d_Pc_own_26 : decode b_Pc_own 26 = .ok (.aload 4, 2) := by decide +kernel
theorem d_Pc_own_28 : decode b_Pc_own 28 = .ok (.getfield 41, 3) := by decide +kernel
theorem d_Pc_own_31 : decode b_Pc_own 31 = .ok (.iload_n 1, 1) := by decide +kernel
theorem d_Pc_own_32 : decode b_Pc_own 32 = .ok (.if_icmp .ne 15, 3) := by decide +kernel
theorem d_Pc_own_35 : decode b_Pc_own 35 = .ok (.aload 4, 2) := by decide +kernel
theorem d_Pc_own_37 : decode b_Pc_own 37 = .ok (.getfield 44, 3) := by decide +kernel
theorem d_Pc_own_40 : decode b_Pc_own 40 = .ok (.iload_n 2, 1) := by decide +kernel
theorem d_Pc_own_41 : decode b_Pc_own 41 = .ok (.if_icmp .ne 6, 3) := by decide +kernel
theorem d_Pc_own_44 : decode b_Pc_own 44 = .ok (.aload 4, 2) := by decide +kernel
theorem d_Pc_own_46 : decode b_Pc_own 46 = .ok (.areturn, 1) := by decide +kernel
theorem d_Pc_own_47 : decode b_Pc_own 47 = .ok (.iinc 3 1, 3) := by decide +kernel
theorem d_Pc_own_50 : decode b_Pc_own 50 = .ok (.goto (-48), 3) := by decide +kernel
theorem d_Pc_own_53 : decode b_Pc_own 53 = .ok (.aconst_null, 1) := by decide +kernel
theorem d_Pc_own_54 : decode b_Pc_own 54 = .ok (.areturn, 1) := by decide +kernel
theorem d_Re_spreadSelf_0 : decode b_Re_spreadSelf 0 = .ok (.iconst 0, 1) := by decide +kernel
theorem d_Re_spreadSelf_1 : decode b_Re_spreadSelf 1 = .ok (.istore_n 3, 1) := by decide +kernel
theorem d_Re_spreadSelf_2 : decode b_Re_spreadSelf 2 = .ok (.iload_n 3, 1) := by decide +kernel
theorem d_Re_spreadSelf_3 : decode b_Re_spreadSelf 3 = .ok (.aload_n 0, 1) := by decide +kernel
theorem d_Re_spreadSelf_4 : decode b_Re_spreadSelf 4 = .ok (.getfield 9, 3) := by decide +kernel
theorem d_Re_spreadSelf_7 : decode b_Re_spreadSelf 7 = .ok (.getfield 28, 3) := by decide +kernel
theorem d_Re_spreadSelf_10 : decode b_Re_spreadSelf 10 = .ok (.invokevirtual 34, 3) := by decide +kernel
theorem d_Re_spreadSelf_13 : decode b_Re_spreadSelf 13 = .ok (.if_icmp .ge 59, 3) := by decide +kernel
theorem d_Re_spreadSelf_16 : decode b_Re_spreadSelf 16 = .ok (.aload_n 0, 1) := by decide +kernel
theorem d_Re_spreadSelf_17 : decode b_Re_spreadSelf 17 = .ok (.getfield 9, 3) := by decide +kernel
theorem d_Re_spreadSelf_20 : decode b_Re_spreadSelf 20 = .ok (.getfield 28, 3) := by decide +kernel
theorem d_Re_spreadSelf_23 : decode b_Re_spreadSelf 23 = .ok (.iload_n 3, 1) := by decide +kernel
theorem d_Re_spreadSelf_24 : decode b_Re_spreadSelf 24 = .ok (.invokevirtual 40, 3) := by decide +kernel
theorem d_Re_spreadSelf_27 : decode b_Re_spreadSelf 27 = .ok (.checkcast 44, 3) := by decide +kernel
theorem d_Re_spreadSelf_30 : decode b_Re_spreadSelf 30 = .ok (.astore 4, 2) := by decide +kernel
theorem d_Re_spreadSelf_32 : decode b_Re_spreadSelf 32 = .ok (.aload 4, 2) := by decide +kernel
theorem d_Re_spreadSelf_34 : decode b_Re_spreadSelf 34 = .ok (.getfield 46, 3) := by decide +kernel
theorem d_Re_spreadSelf_37 : decode b_Re_spreadSelf 37 = .ok (.ifCond .eq 29, 3) := by decide +kernel
theorem d_Re_spreadSelf_40 : decode b_Re_spreadSelf 40 = .ok (.aload 4, 2) := by decide +kernel
theorem d_Re_spreadSelf_42 : decode b_Re_spreadSelf 42 = .ok (.aload_n 1, 1) := by decide +kernel
theorem d_Re_spreadSelf_43 : decode b_Re_spreadSelf 43 = .ok (.invokevirtual 101, 3) := by decide +kernel
theorem d_Re_spreadSelf_46 : decode b_Re_spreadSelf 46 = .ok (.ifCond .eq 20, 3) := by decide +kernel
theorem d_Re_spreadSelf_49 : decode b_Re_spreadSelf 49 = .ok (.aload_n 0, 1) := by decide +kernel
theorem d_Re_spreadSelf_50 : decode b_Re_spreadSelf 50 = .ok (.aload 4, 2) := by decide +kernel
theorem d_Re_spreadSelf_52 : decode b_Re_spreadSelf 52 = .ok (.aload_n 2, 1) := by decide +kernel
theorem d_Re_spreadSelf_53 : decode b_Re_spreadSelf 53 = .ok (.getfield 83, 3) := by decide +kernel
theorem d_Re_spreadSelf_56 : decode b_Re_spreadSelf 56 = .ok (.aload_n 2, 1) := by decide +kernel
theorem d_Re_spreadSelf_57 : decode b_Re_spreadSelf 57 = .ok (.getfield 87, 3) := by decide +kernel
theorem d_Re_spreadSelf_60 : decode b_Re_spreadSelf 60 = .ok (.invokevirtual 90, 3) := by decide +kernel
theorem d_Re_spreadSelf_63 : decode b_Re_spreadSelf 63 = .ok (.invokevirtual 60, 3) := by decide +kernel
theorem d_Re_spreadSelf_66 : decode b_Re_spreadSelf 66 = .ok (.iinc 3 1, 3) := by decide +kernel
theorem d_Re_spreadSelf_69 : decode b_Re_spreadSelf 69 = .ok (.goto (-67), 3) := by decide +kernel
theorem d_Re_spreadSelf_72 : decode b_Re_spreadSelf 72 = .ok (.return_, 1) := by decide +kernel
theorem d_Pc_isOrIsBelow_0 : decode b_Pc_isOrIsBelow 0 = .ok (.aload_n 0, 1) := by decide +kernel
theorem d_Pc_isOrIsBelow_1 : decode b_Pc_isOrIsBelow 1 = .ok (.astore_n 2, 1) := by decide +kernel
theorem d_Pc_isOrIsBelow_2 : decode b_Pc_isOrIsBelow 2 = .ok (.aload_n 2, 1) := by decide +kernel
theorem d_Pc_isOrIsBelow_3 : decode b_Pc_isOrIsBelow 3 = .ok (.ifnull 18, 3) := by decide +kernel
theorem d_Pc_isOrIsBelow_6 : decode b_Pc_isOrIsBelow 6 = .ok (.aload_n 2, 1) := by decide +kernel
theorem d_Pc_isOrIsBelow_7 : decode b_Pc_isOrIsBelow 7 = .ok (.aload_n 1, 1) := by decide +kernel
theorem d_Pc_isOrIsBelow_8 : decode b_Pc_isOrIsBelow 8 = .ok (.if_acmp .ne 5, 3) := by decide +kernel
theorem d_Pc_isOrIsBelow_11 : decode b_Pc_isOrIsBelow 11 = .ok (.iconst 1, 1) := by decide +kernel
theorem d_Pc_isOrIsBelow_12 : decode b_Pc_isOrIsBelow 12 = .ok (.ireturn, 1) := by decide +kernel
theorem d_Pc_isOrIsBelow_13 : decode b_Pc_isOrIsBelow 13 = .ok (.aload_n 2, 1) := by decide +kernel
theorem d_Pc_isOrIsBelow_14 : decode b_Pc_isOrIsBelow 14 = .ok (.getfield 7, 3) := by decide +kernel
theorem d_Pc_isOrIsBelow_17 : decode b_Pc_isOrIsBelow 17 = .ok (.astore_n 2, 1) := by decide +kernel
theorem d_Pc_isOrIsBelow_18 : decode b_Pc_isOrIsBelow 18 = .ok (.goto (-16), 3) := by decide +kernel
theorem d_Pc_isOrIsBelow_21 : decode b_Pc_isOrIsBelow 21 = .ok (.iconst 0, 1) := by decide +kernel
theorem d_Pc_isOrIsBelow_22 : decode b_Pc_isOrIsBelow 22 = .ok (.ireturn, 1) := by decide +kernel
theorem d_Pr_dropUnreached_0 : decode b_Pr_dropUnreached 0 = .ok (.aload_n 0, 1) := by decide +kernel
theorem d_Pr_dropUnreached_1 : decode b_Pr_dropUnreached 1 = .ok (.getfield 16, 3) := by decide +kernel
theorem d_Pr_dropUnreached_4 : decode b_Pr_dropUnreached 4 = .ok (.invokestatic 38, 3) := by decide +kernel
theorem d_Pr_dropUnreached_7 : decode b_Pr_dropUnreached 7 = .ok (.aload_n 0, 1) := by decide +kernel
theorem d_Pr_dropUnreached_8 : decode b_Pr_dropUnreached 8 = .ok (.getfield 10, 3) := by decide +kernel
theorem d_Pr_dropUnreached_11 : decode b_Pr_dropUnreached 11 = .ok (.invokevirtual 19, 3) := by decide +kernel
theorem d_Pr_dropUnreached_14 : decode b_Pr_dropUnreached 14 = .ok (.iconst 1, 1) := by decide +kernel
theorem d_Pr_dropUnreached_15 : decode b_Pr_dropUnreached 15 = .ok (.isub, 1) := by decide +kernel
theorem d_Pr_dropUnreached_16 : decode b_Pr_dropUnreached 16 = .ok (.istore_n 1, 1) := by decide +kernel
theorem d_Pr_dropUnreached_17 : decode b_Pr_dropUnreached 17 = .ok (.iload_n 1, 1) := by decide +kernel
theorem d_Pr_dropUnreached_18 : decode b_Pr_dropUnreached 18 = .ok (.ifCond .lt 45, 3) := by decide +kernel
theorem d_Pr_dropUnreached_21 : decode b_Pr_dropUnreached 21 = .ok (.aload_n 0, 1) := by decide +kernel
theorem d_Pr_dropUnreached_22 : decode b_Pr_dropUnreached 22 = .ok (.getfield 10, 3) := by decide +kernel
theorem d_Pr_dropUnreached_25 : decode b_Pr_dropUnreached 25 = .ok (.iload_n 1, 1) := by decide +kernel
theorem d_Pr_dropUnreached_26 : decode b_Pr_dropUnreached 26 = .ok (.invokevirtual 23, 3) := by decide +kernel
theorem d_Pr_dropUnreached_29 : decode b_Pr_dropUnreached 29 = .ok (.checkcast 33, 3) := by decide +kernel
theorem d_Pr_dropUnreached_32 : decode b_Pr_dropUnreached 32 = .ok (.astore_n 2, 1) := by decide +kernel
theorem d_Pr_dropUnreached_33 : decode b_Pr_dropUnreached 33 = .ok (.aload_n 2, 1) := by decide +kernel
theorem d_Pr_dropUnreached_34 : decode b_Pr_dropUnreached 34 = .ok (.getfield 42, 3) := by decide +kernel
theorem d_Pr_dropUnreached_37 : decode b_Pr_dropUnreached 37 = .ok (.invokestatic 38, 3) := by decide +kernel
theorem d_Pr_dropUnreached_40 : decode b_Pr_dropUnreached 40 = .ok (.aload_n 0, 1) := by decide +kernel
theorem d_Pr_dropUnreached_41 : decode b_Pr_dropUnreached 41 = .ok (.aload_n 2, 1) := by decide +kernel
theorem d_Pr_dropUnreached_42 : decode b_Pr_dropUnreached 42 = .ok (.invokevirtual 43, 3) := by decide +kernel
theorem d_Pr_dropUnreached_45 : decode b_Pr_dropUnreached 45 = .ok (.ifCond .ne 12, 3) := by decide +kernel
theorem d_Pr_dropUnreached_48 : decode b_Pr_dropUnreached 48 = .ok (.aload_n 0, 1) := by decide +kernel
theorem d_Pr_dropUnreached_49 : decode b_Pr_dropUnreached 49 = .ok (.getfield 10, 3) := by decide +kernel
theorem d_Pr_dropUnreached_52 : decode b_Pr_dropUnreached 52 = .ok (.iload_n 1, 1) := by decide +kernel
theorem d_Pr_dropUnreached_53 : decode b_Pr_dropUnreached 53 = .ok (.invokevirtual 47, 3) := by decide +kernel
theorem d_Pr_dropUnreached_56 : decode b_Pr_dropUnreached 56 = .ok (.pop, 1) := by decide +kernel
theorem d_Pr_dropUnreached_57 : decode b_Pr_dropUnreached 57 = .ok (.iinc 1 (-1), 3) := by decide +kernel
theorem d_Pr_dropUnreached_60 : decode b_Pr_dropUnreached 60 = .ok (.goto (-43), 3) := by decide +kernel
theorem d_Pr_dropUnreached_63 : decode b_Pr_dropUnreached 63 = .ok (.iconst 0, 1) := by decide +kernel
theorem d_Pr_dropUnreached_64 : decode b_Pr_dropUnreached 64 = .ok (.istore_n 1, 1) := by decide +kernel
theorem d_Pr_dropUnreached_65 : decode b_Pr_dropUnreached 65 = .ok (.iload_n 1, 1) := by decide +kernel
theorem d_Pr_dropUnreached_66 : decode b_Pr_dropUnreached 66 = .ok (.aload_n 0, 1) := by decide +kernel
theorem d_Pr_dropUnreached_67 : decode b_Pr_dropUnreached 67 = .ok (.getfield 10, 3) := by decide +kernel
theorem d_Pr_dropUnreached_70 : decode b_Pr_dropUnreached 70 = .ok (.invokevirtual 19, 3) := by decide +kernel
theorem d_Pr_dropUnreached_73 : decode b_Pr_dropUnreached 73 = .ok (.if_icmp .ge 24, 3) := by decide +kernel
theorem d_Pr_dropUnreached_76 : decode b_Pr_dropUnreached 76 = .ok (.aload_n 0, 1) := by decide +kernel
theorem d_Pr_dropUnreached_77 : decode b_Pr_dropUnreached 77 = .ok (.getfield 10, 3) := by decide +kernel
theorem d_Pr_dropUnreached_80 : decode b_Pr_dropUnreached 80 = .ok (.iload_n 1, 1) := by decide +kernel
theorem d_Pr_dropUnreached_81 : decode b_Pr_dropUnreached 81 = .ok (.invokevirtual 23, 3) := by decide +kernel
theorem d_Pr_dropUnreached_84 : decode b_Pr_dropUnreached 84 = .ok (.checkcast 33, 3) := by decide +kernel
theorem d_Pr_dropUnreached_87 : decode b_Pr_dropUnreached 87 = .ok (.iload_n 1, 1) := by decide +kernel
theorem d_Pr_dropUnreached_88 : decode b_Pr_dropUnreached 88 = .ok (.putfield 50, 3) := by decide +kernel
theorem d_Pr_dropUnreached_91 : decode b_Pr_dropUnreached 91 = .ok (.iinc 1 1, 3) := by decide +kernel
theorem d_Pr_dropUnreached_94 : decode b_Pr_dropUnreached 94 = .ok (.goto (-29), 3) := by decide +kernel
theorem d_Pr_dropUnreached_97 : decode b_Pr_dropUnreached 97 = .ok (.return_, 1) := by decide +kernel
theorem d_Pr_dropDead_0 : decode b_Pr_dropDead 0 = .ok (.aload_n 0, 1) := by decide +kernel
theorem d_Pr_dropDead_1 : decode b_Pr_dropDead 1 = .ok (.invokevirtual 19, 3) := by decide +kernel
theorem d_Pr_dropDead_4 : decode b_Pr_dropDead 4 = .ok (.iconst 1, 1) := by decide +kernel
theorem d_Pr_dropDead_5 : decode b_Pr_dropDead 5 = .ok (.isub, 1) := by decide +kernel
theorem d_Pr_dropDead_6 : decode b_Pr_dropDead 6 = .ok (.istore_n 1, 1) := by decide +kernel
theorem d_Pr_dropDead_7 : decode b_Pr_dropDead 7 = .ok (.iload_n 1, 1) := by decide +kernel
theorem d_Pr_dropDead_8 : decode b_Pr_dropDead 8 = .ok (.ifCond .lt 29, 3) := by decide +kernel
theorem d_Pr_dropDead_11 : decode b_Pr_dropDead 11 = .ok (.aload_n 0, 1) := by decide +kernel
theorem d_Pr_dropDead_12 : decode b_Pr_dropDead 12 = .ok (.iload_n 1, 1) := by decide +kernel
theorem d_Pr_dropDead_13 : decode b_Pr_dropDead 13 = .ok (.invokevirtual 23, 3) := by decide +kernel
theorem d_Pr_dropDead_16 : decode b_Pr_dropDead 16 = .ok (.checkcast 27, 3) := by decide +kernel
theorem d_Pr_dropDead_19 : decode b_Pr_dropDead 19 = .ok (.getfield 29, 3) := by decide +kernel
theorem d_Pr_dropDead_22 : decode b_Pr_dropDead 22 = .ok (.ifCond .ne 9, 3) := by decide +kernel
theorem d_Pr_dropDead_25 : decode b_Pr_dropDead 25 = .ok (.aload_n 0, 1) := by decide +kernel
theorem d_Pr_dropDead_26 : decode b_Pr_dropDead 26 = .ok (.iload_n 1, 1) := by decide +kernel
theorem d_Pr_dropDead_27 : decode b_Pr_dropDead 27 = .ok (.invokevirtual 47, 3) := by decide +kernel
theorem d_Pr_dropDead_30 : decode b_Pr_dropDead 30 = .ok (.pop, 1) := by decide +kernel
theorem d_Pr_dropDead_31 : decode b_Pr_dropDead 31 = .ok (.iinc 1 (-1), 3) := by decide +kernel
theorem d_Pr_dropDead_34 : decode b_Pr_dropDead 34 = .ok (.goto (-27), 3) := by decide +kernel
theorem d_Pr_dropDead_37 : decode b_Pr_dropDead 37 = .ok (.return_, 1) := by decide +kernel
theorem d_Al_remove_0 : decode b_Al_remove 0 = .ok (.iload_n 1, 1) := by decide +kernel
theorem d_Al_remove_1 : decode b_Al_remove 1 = .ok (.aload_n 0, 1) := by decide +kernel
theorem d_Al_remove_2 : decode b_Al_remove 2 = .ok (.getfield 48, 3) := by decide +kernel
theorem d_Al_remove_5 : decode b_Al_remove 5 = .ok (.invokestatic 118, 3) := by decide +kernel
theorem d_Al_remove_8 : decode b_Al_remove 8 = .ok (.pop, 1) := by decide +kernel
theorem d_Al_remove_9 : decode b_Al_remove 9 = .ok (.aload_n 0, 1) := by decide +kernel
theorem d_Al_remove_10 : decode b_Al_remove 10 = .ok (.getfield 9, 3) := by decide +kernel
theorem d_Al_remove_13 : decode b_Al_remove 13 = .ok (.astore_n 2, 1) := by decide +kernel
theorem d_Al_remove_14 : decode b_Al_remove 14 = .ok (.aload_n 2, 1) := by decide +kernel
theorem d_Al_remove_15 : decode b_Al_remove 15 = .ok (.iload_n 1, 1) := by decide +kernel
theorem d_Al_remove_16 : decode b_Al_remove 16 = .ok (.aaload, 1) := by decide +kernel
theorem d_Al_remove_17 : decode b_Al_remove 17 = .ok (.astore_n 3, 1) := by decide +kernel
theorem d_Al_remove_18 : decode b_Al_remove 18 = .ok (.aload_n 0, 1) := by decide +kernel
theorem d_Al_remove_19 : decode b_Al_remove 19 = .ok (.aload_n 2, 1) := by decide +kernel
theorem d_Al_remove_20 : decode b_Al_remove 20 = .ok (.iload_n 1, 1) := by decide +kernel
theorem d_Al_remove_21 : decode b_Al_remove 21 = .ok (.invokevirtual 144, 3) := by decide +kernel
theorem d_Al_remove_24 : decode b_Al_remove 24 = .ok (.aload_n 3, 1) := by decide +kernel
theorem d_Al_remove_25 : decode b_Al_remove 25 = .ok (.areturn, 1) := by decide +kernel
theorem d_Al_fastRemove_0 : decode b_Al_fastRemove 0 = .ok (.aload_n 0, 1) := by decide +kernel
theorem d_Al_fastRemove_1 : decode b_Al_fastRemove 1 = .ok (.dup, 1) := by decide +kernel
theorem d_Al_fastRemove_2 : decode b_Al_fastRemove 2 = .ok (.getfield 63, 3) := by decide +kernel
theorem d_Al_fastRemove_5 : decode b_Al_fastRemove 5 = .ok (.iconst 1, 1) := by decide +kernel
theorem d_Al_fastRemove_6 : decode b_Al_fastRemove 6 = .ok (.iadd, 1) := by decide +kernel
theorem d_Al_fastRemove_7 : decode b_Al_fastRemove 7 = .ok (.putfield 63, 3) := by decide +kernel
theorem d_Al_fastRemove_10 : decode b_Al_fastRemove 10 = .ok (.aload_n 0, 1) := by decide +kernel
theorem d_Al_fastRemove_11 : decode b_Al_fastRemove 11 = .ok (.getfield 48, 3) := by decide +kernel
theorem d_Al_fastRemove_14 : decode b_Al_fastRemove 14 = .ok (.iconst 1, 1) := by decide +kernel
theorem d_Al_fastRemove_15 : decode b_Al_fastRemove 15 = .ok (.isub, 1) := by decide +kernel
theorem d_Al_fastRemove_16 : decode b_Al_fastRemove 16 = .ok (.dup, 1) := by decide +kernel
theorem d_Al_fastRemove_17 : decode b_Al_fastRemove 17 = .ok (.istore_n 3, 1) := by decide +kernel
theorem d_Al_fastRemove_18 : decode b_Al_fastRemove 18 = .ok (.iload_n 2, 1) := by decide +kernel
theorem d_Al_fastRemove_19 : decode b_Al_fastRemove 19 = .ok (.if_icmp .le 15, 3) := by decide +kernel
theorem d_Al_fastRemove_22 : decode b_Al_fastRemove 22 = .ok (.aload_n 1, 1) := by decide +kernel
theorem d_Al_fastRemove_23 : decode b_Al_fastRemove 23 = .ok (.iload_n 2, 1) := by decide +kernel
theorem d_Al_fastRemove_24 : decode b_Al_fastRemove 24 = .ok (.iconst 1, 1) := by decide +kernel
theorem d_Al_fastRemove_25 : decode b_Al_fastRemove 25 = .ok (.iadd, 1) := by decide +kernel
theorem d_Al_fastRemove_26 : decode b_Al_fastRemove 26 = .ok (.aload_n 1, 1) := by decide +kernel
theorem d_Al_fastRemove_27 : decode b_Al_fastRemove 27 = .ok (.iload_n 2, 1) := by decide +kernel
theorem d_Al_fastRemove_28 : decode b_Al_fastRemove 28 = .ok (.iload_n 3, 1) := by decide +kernel
theorem d_Al_fastRemove_29 : decode b_Al_fastRemove 29 = .ok (.iload_n 2, 1) := by decide +kernel
theorem d_Al_fastRemove_30 : decode b_Al_fastRemove 30 = .ok (.isub, 1) := by decide +kernel
theorem d_Al_fastRemove_31 : decode b_Al_fastRemove 31 = .ok (.invokestatic 112, 3) := by decide +kernel
theorem d_Al_fastRemove_34 : decode b_Al_fastRemove 34 = .ok (.aload_n 1, 1) := by decide +kernel
theorem d_Al_fastRemove_35 : decode b_Al_fastRemove 35 = .ok (.aload_n 0, 1) := by decide +kernel
theorem d_Al_fastRemove_36 : decode b_Al_fastRemove 36 = .ok (.iload_n 3, 1) := by decide +kernel
theorem d_Al_fastRemove_37 : decode b_Al_fastRemove 37 = .ok (.dup_x1, 1) := by decide +kernel
theorem d_Al_fastRemove_38 : decode b_Al_fastRemove 38 = .ok (.putfield 48, 3) := by decide +kernel
theorem d_Al_fastRemove_41 : decode b_Al_fastRemove 41 = .ok (.aconst_null, 1) := by decide +kernel
theorem d_Al_fastRemove_42 : decode b_Al_fastRemove 42 = .ok (.aastore, 1) := by decide +kernel
theorem d_Al_fastRemove_43 : decode b_Al_fastRemove 43 = .ok (.return_, 1) := by decide +kernel
theorem d_Pr_isMadeOrAboveMade_0 : decode b_Pr_isMadeOrAboveMade 0 = .ok (.iconst 0, 1) := by decide +kernel
theorem d_Pr_isMadeOrAboveMade_1 : decode b_Pr_isMadeOrAboveMade 1 = .ok (.istore_n 2, 1) := by decide +kernel
theorem d_Pr_isMadeOrAboveMade_2 : decode b_Pr_isMadeOrAboveMade 2 = .ok (.iload_n 2, 1) := by decide +kernel
theorem d_Pr_isMadeOrAboveMade_3 : decode b_Pr_isMadeOrAboveMade 3 = .ok (.aload_n 0, 1) := by decide +kernel
theorem d_Pr_isMadeOrAboveMade_4 : decode b_Pr_isMadeOrAboveMade 4 = .ok (.getfield 10, 3) := by decide +kernel
theorem d_Pr_isMadeOrAboveMade_7 : decode b_Pr_isMadeOrAboveMade 7 = .ok (.invokevirtual 19, 3) := by decide +kernel
theorem d_Pr_isMadeOrAboveMade_10 : decode b_Pr_isMadeOrAboveMade 10 = .ok (.if_icmp .ge 38, 3) := by decide +kernel
theorem d_Pr_isMadeOrAboveMade_13 : decode b_Pr_isMadeOrAboveMade 13 = .ok (.aload_n 0, 1) := by decide +kernel
theorem d_Pr_isMadeOrAboveMade_14 : decode b_Pr_isMadeOrAboveMade 14 = .ok (.getfield 10, 3) := by decide +kernel
theorem d_Pr_isMadeOrAboveMade_17 : decode b_Pr_isMadeOrAboveMade 17 = .ok (.iload_n 2, 1) := by decide +kernel
theorem d_Pr_isMadeOrAboveMade_18 : decode b_Pr_isMadeOrAboveMade 18 = .ok (.invokevirtual 23, 3) := by decide +kernel
theorem d_Pr_isMadeOrAboveMade_21 : decode b_Pr_isMadeOrAboveMade 21 = .ok (.checkcast 33, 3) := by decide +kernel
theorem d_Pr_isMadeOrAboveMade_24 : decode b_Pr_isMadeOrAboveMade 24 = .ok (.astore_n 3, 1) := by decide +kernel
theorem d_Pr_isMadeOrAboveMade_25 : decode b_Pr_isMadeOrAboveMade 25 = .ok (.aload_n 3, 1) := by decide +kernel
theorem d_Pr_isMadeOrAboveMade_26 : decode b_Pr_isMadeOrAboveMade 26 = .ok (.getfield 35, 3) := by decide +kernel
theorem d_Pr_isMadeOrAboveMade_29 : decode b_Pr_isMadeOrAboveMade 29 = .ok (.ifCond .eq 13, 3) := by decide +kernel
theorem d_Pr_isMadeOrAboveMade_32 : decode b_Pr_isMadeOrAboveMade 32 = .ok (.aload_n 3, 1) := by decide +kernel
theorem d_Pr_isMadeOrAboveMade_33 : decode b_Pr_isMadeOrAboveMade 33 = .ok (.aload_n 1, 1) := by decide +kernel
theorem d_Pr_isMadeOrAboveMade_34 : decode b_Pr_isMadeOrAboveMade 34 = .ok (.invokevirtual 54, 3) := by decide +kernel
theorem d_Pr_isMadeOrAboveMade_37 : decode b_Pr_isMadeOrAboveMade 37 = .ok (.ifCond .eq 5, 3) := by decide +kernel
theorem d_Pr_isMadeOrAboveMade_40 : decode b_Pr_isMadeOrAboveMade 40 = .ok (.iconst 1, 1) := by decide +kernel
theorem d_Pr_isMadeOrAboveMade_41 : decode b_Pr_isMadeOrAboveMade 41 = .ok (.ireturn, 1) := by decide +kernel
theorem d_Pr_isMadeOrAboveMade_42 : decode b_Pr_isMadeOrAboveMade 42 = .ok (.iinc 2 1, 3) := by decide +kernel
theorem d_Pr_isMadeOrAboveMade_45 : decode b_Pr_isMadeOrAboveMade 45 = .ok (.goto (-43), 3) := by decide +kernel
theorem d_Pr_isMadeOrAboveMade_48 : decode b_Pr_isMadeOrAboveMade 48 = .ok (.iconst 0, 1) := by decide +kernel
theorem d_Pr_isMadeOrAboveMade_49 : decode b_Pr_isMadeOrAboveMade 49 = .ok (.ireturn, 1) := by decide +kernel
theorem d_Ma_min_0 : decode b_Ma_min 0 = .ok (.iload_n 0, 1) := by decide +kernel
theorem d_Ma_min_1 : decode b_Ma_min 1 = .ok (.iload_n 1, 1) := by decide +kernel
theorem d_Ma_min_2 : decode b_Ma_min 2 = .ok (.if_icmp .gt 7, 3) := by decide +kernel
theorem d_Ma_min_5 : decode b_Ma_min 5 = .ok (.iload_n 0, 1) := by decide +kernel
theorem d_Ma_min_6 : decode b_Ma_min 6 = .ok (.goto 4, 3) := by decide +kernel
theorem d_Ma_min_9 : decode b_Ma_min 9 = .ok (.iload_n 1, 1) := by decide +kernel
theorem d_Ma_min_10 : decode b_Ma_min 10 = .ok (.ireturn, 1) := by decide +kernel
theorem d_Pc_isRelatedTo_0 : decode b_Pc_isRelatedTo 0 = .ok (.aload_n 0, 1) := by decide +kernel
theorem d_Pc_isRelatedTo_1 : decode b_Pc_isRelatedTo 1 = .ok (.aload_n 1, 1) := by decide +kernel
theorem d_Pc_isRelatedTo_2 : decode b_Pc_isRelatedTo 2 = .ok (.invokevirtual 51, 3) := by decide +kernel
theorem d_Pc_isRelatedTo_5 : decode b_Pc_isRelatedTo 5 = .ok (.ifCond .ne 11, 3) := by decide +kernel
theorem d_Pc_isRelatedTo_8 : decode b_Pc_isRelatedTo 8 = .ok (.aload_n 1, 1) := by decide +kernel
theorem d_Pc_isRelatedTo_9 : decode b_Pc_isRelatedTo 9 = .ok (.aload_n 0, 1) := by decide +kernel
theorem d_Pc_isRelatedTo_10 : decode b_Pc_isRelatedTo 10 = .ok (.invokevirtual 51, 3) := by decide +kernel
theorem d_Pc_isRelatedTo_13 : decode b_Pc_isRelatedTo 13 = .ok (.ifCond .eq 7, 3) := by decide +kernel
theorem d_Pc_isRelatedTo_16 : decode b_Pc_isRelatedTo 16 = .ok (.iconst 1, 1) := by decide +kernel
theorem d_Pc_isRelatedTo_17 : decode b_Pc_isRelatedTo 17 = .ok (.goto 4, 3) := by decide +kernel
theorem d_Pc_isRelatedTo_20 : decode b_Pc_isRelatedTo 20 = .ok (.iconst 0, 1) := by decide +kernel
theorem d_Pc_isRelatedTo_21 : decode b_Pc_isRelatedTo 21 = .ok (.ireturn, 1) := by decide +kernel
theorem d_Pr_liveMethods_0 : decode b_Pr_liveMethods 0 = .ok (.iconst 0, 1) := by decide +kernel
theorem d_Pr_liveMethods_1 : decode b_Pr_liveMethods 1 = .ok (.istore_n 1, 1) := by decide +kernel
theorem d_Pr_liveMethods_2 : decode b_Pr_liveMethods 2 = .ok (.iconst 0, 1) := by decide +kernel
theorem d_Pr_liveMethods_3 : decode b_Pr_liveMethods 3 = .ok (.istore_n 2, 1) := by decide +kernel
theorem d_Pr_liveMethods_4 : decode b_Pr_liveMethods 4 = .ok (.iload_n 2, 1) := by decide +kernel
theorem d_Pr_liveMethods_5 : decode b_Pr_liveMethods 5 = .ok (.aload_n 0, 1) := by decide +kernel
theorem d_Pr_liveMethods_6 : decode b_Pr_liveMethods 6 = .ok (.getfield 16, 3) := by decide +kernel
theorem d_Pr_liveMethods_9 : decode b_Pr_liveMethods 9 = .ok (.invokevirtual 19, 3) := by decide +kernel
theorem d_Pr_liveMethods_12 : decode b_Pr_liveMethods 12 = .ok (.if_icmp .ge 29, 3) := by decide +kernel
theorem d_Pr_liveMethods_15 : decode b_Pr_liveMethods 15 = .ok (.aload_n 0, 1) := by decide +kernel
theorem d_Pr_liveMethods_16 : decode b_Pr_liveMethods 16 = .ok (.getfield 16, 3) := by decide +kernel
theorem d_Pr_liveMethods_19 : decode b_Pr_liveMethods 19 = .ok (.iload_n 2, 1) := by decide +kernel
theorem d_Pr_liveMethods_20 : decode b_Pr_liveMethods 20 = .ok (.invokevirtual 23, 3) := by decide +kernel
theorem d_Pr_liveMethods_23 : decode b_Pr_liveMethods 23 = .ok (.checkcast 27, 3) := by decide +kernel
theorem d_Pr_liveMethods_26 : decode b_Pr_liveMethods 26 = .ok (.getfield 29, 3) := by decide +kernel
theorem d_Pr_liveMethods_29 : decode b_Pr_liveMethods 29 = .ok (.ifCond .eq 6, 3) := by decide +kernel
theorem d_Pr_liveMethods_32 : decode b_Pr_liveMethods 32 = .ok (.iinc 1 1, 3) := by decide +kernel
theorem d_Pr_liveMethods_35 : decode b_Pr_liveMethods 35 = .ok (.iinc 2 1, 3) := by decide +kernel
theorem d_Pr_liveMethods_38 : decode b_Pr_liveMethods 38 = .ok (.goto (-34), 3) := by decide +kernel
theorem d_Pr_liveMethods_41 : decode b_Pr_liveMethods 41 = .ok (.iload_n 1, 1) := by decide +kernel
theorem d_Pr_liveMethods_42 : decode b_Pr_liveMethods 42 = .ok (.ireturn, 1) := by decide +kernel
theorem d_Pr_madeClasses_0 : decode b_Pr_madeClasses 0 = .ok (.iconst 0, 1) := by decide +kernel
theorem d_Pr_madeClasses_1 : decode b_Pr_madeClasses 1 = .ok (.istore_n 1, 1) := by decide +kernel
theorem d_Pr_madeClasses_2 : decode b_Pr_madeClasses 2 = .ok (.iconst 0, 1) := by decide +kernel
theorem d_Pr_madeClasses_3 : decode b_Pr_madeClasses 3 = .ok (.istore_n 2, 1) := by decide +kernel
theorem d_Pr_madeClasses_4 : decode b_Pr_madeClasses 4 = .ok (.iload_n 2, 1) := by decide +kernel
theorem d_Pr_madeClasses_5 : decode b_Pr_madeClasses 5 = .ok (.aload_n 0, 1) := by decide +kernel
theorem d_Pr_madeClasses_6 : decode b_Pr_madeClasses 6 = .ok (.getfield 10, 3) := by decide +kernel
theorem d_Pr_madeClasses_9 : decode b_Pr_madeClasses 9 = .ok (.invokevirtual 19, 3) := by decide +kernel
theorem d_Pr_madeClasses_12 : decode b_Pr_madeClasses 12 = .ok (.if_icmp .ge 29, 3) := by decide +kernel
theorem d_Pr_madeClasses_15 : decode b_Pr_madeClasses 15 = .ok (.aload_n 0, 1) := by decide +kernel
theorem d_Pr_madeClasses_16 : decode b_Pr_madeClasses 16 = .ok (.getfield 10, 3) := by decide +kernel
theorem d_Pr_madeClasses_19 : decode b_Pr_madeClasses 19 = .ok (.iload_n 2, 1) := by decide +kernel
theorem d_Pr_madeClasses_20 : decode b_Pr_madeClasses 20 = .ok (.invokevirtual 23, 3) := by decide +kernel
theorem d_Pr_madeClasses_23 : decode b_Pr_madeClasses 23 = .ok (.checkcast 33, 3) := by decide +kernel
theorem d_Pr_madeClasses_26 : decode b_Pr_madeClasses 26 = .ok (.getfield 35, 3) := by decide +kernel
theorem d_Pr_madeClasses_29 : decode b_Pr_madeClasses 29 = .ok (.ifCond .eq 6, 3) := by decide +kernel
theorem d_Pr_madeClasses_32 : decode b_Pr_madeClasses 32 = .ok (.iinc 1 1, 3) := by decide +kernel
theorem d_Pr_madeClasses_35 : decode b_Pr_madeClasses 35 = .ok (.iinc 2 1, 3) := by decide +kernel
theorem d_Pr_madeClasses_38 : decode b_Pr_madeClasses 38 = .ok (.goto (-34), 3) := by decide +kernel
theorem d_Pr_madeClasses_41 : decode b_Pr_madeClasses 41 = .ok (.iload_n 1, 1) := by decide +kernel
theorem d_Pr_madeClasses_42 : decode b_Pr_madeClasses 42 = .ok (.ireturn, 1) := by decide +kernel
theorem d_Pc_init_0 : decode b_Pc_init 0 = .ok (.aload_n 0, 1) := by decide +kernel
theorem d_Pc_init_1 : decode b_Pc_init 1 = .ok (.invokespecial 1, 3) := by decide +kernel
theorem d_Pc_init_4 : decode b_Pc_init 4 = .ok (.aload_n 0, 1) := by decide +kernel
theorem d_Pc_init_5 : decode b_Pc_init 5 = .ok (.aload_n 2, 1) := by decide +kernel
theorem d_Pc_init_6 : decode b_Pc_init 6 = .ok (.putfield 7, 3) := by decide +kernel
theorem d_Pc_init_9 : decode b_Pc_init 9 = .ok (.aload_n 0, 1) := by decide +kernel
theorem d_Pc_init_10 : decode b_Pc_init 10 = .ok (.iload_n 1, 1) := by decide +kernel
theorem d_Pc_init_11 : decode b_Pc_init 11 = .ok (.putfield 13, 3) := by decide +kernel
theorem d_Pc_init_14 : decode b_Pc_init 14 = .ok (.aload_n 0, 1) := by decide +kernel
theorem d_Pc_init_15 : decode b_Pc_init 15 = .ok (.new 17, 3) := by decide +kernel
theorem d_Pc_init_18 : decode b_Pc_init 18 = .ok (.dup, 1) := by decide +kernel
theorem d_Pc_init_19 : decode b_Pc_init 19 = .ok (.invokespecial 19, 3) := by decide +kernel
theorem d_Pc_init_22 : decode b_Pc_init 22 = .ok (.putfield 20, 3) := by decide +kernel
theorem d_Pc_init_25 : decode b_Pc_init 25 = .ok (.aload_n 0, 1) := by decide +kernel
theorem d_Pc_init_26 : decode b_Pc_init 26 = .ok (.iload_n 1, 1) := by decide +kernel
theorem d_Pc_init_27 : decode b_Pc_init 27 = .ok (.putfield 24, 3) := by decide +kernel
theorem d_Pc_init_30 : decode b_Pc_init 30 = .ok (.aload_n 0, 1) := by decide +kernel
theorem d_Pc_init_31 : decode b_Pc_init 31 = .ok (.iconst 0, 1) := by decide +kernel
theorem d_Pc_init_32 : decode b_Pc_init 32 = .ok (.putfield 27, 3) := by decide +kernel
theorem d_Pc_init_35 : decode b_Pc_init 35 = .ok (.return_, 1) := by decide +kernel
theorem d_Al_add_0 : decode b_Al_add 0 = .ok (.aload_n 0, 1) := by decide +kernel
theorem d_Al_add_1 : decode b_Al_add 1 = .ok (.dup, 1) := by decide +kernel
theorem d_Al_add_2 : decode b_Al_add 2 = .ok (.getfield 63, 3) := by decide +kernel
theorem d_Al_add_5 : decode b_Al_add 5 = .ok (.iconst 1, 1) := by decide +kernel
theorem d_Al_add_6 : decode b_Al_add 6 = .ok (.iadd, 1) := by decide +kernel
theorem d_Al_add_7 : decode b_Al_add 7 = .ok (.putfield 63, 3) := by decide +kernel
theorem d_Al_add_10 : decode b_Al_add 10 = .ok (.aload_n 0, 1) := by decide +kernel
theorem d_Al_add_11 : decode b_Al_add 11 = .ok (.aload_n 1, 1) := by decide +kernel
theorem d_Al_add_12 : decode b_Al_add 12 = .ok (.aload_n 0, 1) := by decide +kernel
theorem d_Al_add_13 : decode b_Al_add 13 = .ok (.getfield 9, 3) := by decide +kernel
theorem d_Al_add_16 : decode b_Al_add 16 = .ok (.aload_n 0, 1) := by decide +kernel
theorem d_Al_add_17 : decode b_Al_add 17 = .ok (.getfield 48, 3) := by decide +kernel
theorem d_Al_add_20 : decode b_Al_add 20 = .ok (.invokevirtual 131, 3) := by decide +kernel
theorem d_Al_add_23 : decode b_Al_add 23 = .ok (.iconst 1, 1) := by decide +kernel
theorem d_Al_add_24 : decode b_Al_add 24 = .ok (.ireturn, 1) := by decide +kernel
theorem d_Al_add2_0 : decode b_Al_add2 0 = .ok (.iload_n 3, 1) := by decide +kernel
theorem d_Al_add2_1 : decode b_Al_add2 1 = .ok (.aload_n 2, 1) := by decide +kernel
theorem d_Al_add2_2 : decode b_Al_add2 2 = .ok (.arraylength, 1) := by decide +kernel
theorem d_Al_add2_3 : decode b_Al_add2 3 = .ok (.if_icmp .ne 8, 3) := by decide +kernel
theorem d_Al_add2_6 : decode b_Al_add2 6 = .ok (.aload_n 0, 1) := by decide +kernel
theorem d_Al_add2_7 : decode b_Al_add2 7 = .ok (.invokevirtual 129, 3) := by decide +kernel
theorem d_Al_add2_10 : decode b_Al_add2 10 = .ok (.astore_n 2, 1) := by decide +kernel
theorem d_Al_add2_11 : decode b_Al_add2 11 = .ok (.aload_n 2, 1) := by decide +kernel
theorem d_Al_add2_12 : decode b_Al_add2 12 = .ok (.iload_n 3, 1) := by decide +kernel
theorem d_Al_add2_13 : decode b_Al_add2 13 = .ok (.aload_n 1, 1) := by decide +kernel
theorem d_Al_add2_14 : decode b_Al_add2 14 = .ok (.aastore, 1) := by decide +kernel
theorem d_Al_add2_15 : decode b_Al_add2 15 = .ok (.aload_n 0, 1) := by decide +kernel
theorem d_Al_add2_16 : decode b_Al_add2 16 = .ok (.iload_n 3, 1) := by decide +kernel
theorem d_Al_add2_17 : decode b_Al_add2 17 = .ok (.iconst 1, 1) := by decide +kernel
theorem d_Al_add2_18 : decode b_Al_add2 18 = .ok (.iadd, 1) := by decide +kernel
theorem d_Al_add2_19 : decode b_Al_add2 19 = .ok (.putfield 48, 3) := by decide +kernel
theorem d_Al_add2_22 : decode b_Al_add2 22 = .ok (.return_, 1) := by decide +kernel
theorem d_Al_grow_0 : decode b_Al_grow 0 = .ok (.aload_n 0, 1) := by decide +kernel
theorem d_Al_grow_1 : decode b_Al_grow 1 = .ok (.aload_n 0, 1) := by decide +kernel
theorem d_Al_grow_2 : decode b_Al_grow 2 = .ok (.getfield 48, 3) := by decide +kernel
theorem d_Al_grow_5 : decode b_Al_grow 5 = .ok (.iconst 1, 1) := by decide +kernel
theorem d_Al_grow_6 : decode b_Al_grow 6 = .ok (.iadd, 1) := by decide +kernel
theorem d_Al_grow_7 : decode b_Al_grow 7 = .ok (.invokevirtual 69, 3) := by decide +kernel
theorem d_Al_grow_10 : decode b_Al_grow 10 = .ok (.areturn, 1) := by decide +kernel
theorem d_Al_grow2_0 : decode b_Al_grow2 0 = .ok (.aload_n 0, 1) := by decide +kernel
theorem d_Al_grow2_1 : decode b_Al_grow2 1 = .ok (.getfield 9, 3) := by decide +kernel
theorem d_Al_grow2_4 : decode b_Al_grow2 4 = .ok (.arraylength, 1) := by decide +kernel
theorem d_Al_grow2_5 : decode b_Al_grow2 5 = .ok (.istore_n 2, 1) := by decide +kernel
theorem d_Al_grow2_6 : decode b_Al_grow2 6 = .ok (.iload_n 2, 1) := by decide +kernel
theorem d_Al_grow2_7 : decode b_Al_grow2 7 = .ok (.ifCond .gt 13, 3) := by decide +kernel
theorem d_Al_grow2_10 : decode b_Al_grow2 10 = .ok (.aload_n 0, 1) := by decide +kernel
theorem d_Al_grow2_11 : decode b_Al_grow2 11 = .ok (.getfield 9, 3) := by decide +kernel
theorem d_Al_grow2_14 : decode b_Al_grow2 14 = .ok (.getstatic 39, 3) := by decide +kernel
theorem d_Al_grow2_17 : decode b_Al_grow2 17 = .ok (.if_acmp .eq 28, 3) := by decide +kernel
theorem d_Al_grow2_20 : decode b_Al_grow2 20 = .ok (.iload_n 2, 1) := by decide +kernel
theorem d_Al_grow2_21 : decode b_Al_grow2 21 = .ok (.iload_n 1, 1) := by decide +kernel
theorem d_Al_grow2_22 : decode b_Al_grow2 22 = .ok (.iload_n 2, 1) := by decide +kernel
theorem d_Al_grow2_23 : decode b_Al_grow2 23 = .ok (.isub, 1) := by decide +kernel
theorem d_Al_grow2_24 : decode b_Al_grow2 24 = .ok (.iload_n 2, 1) := by decide +kernel
theorem d_Al_grow2_25 : decode b_Al_grow2 25 = .ok (.iconst 1, 1) := by decide +kernel
theorem d_Al_grow2_26 : decode b_Al_grow2 26 = .ok (.ishr, 1) := by decide +kernel
theorem d_Al_grow2_27 : decode b_Al_grow2 27 = .ok (.invokestatic 73, 3) := by decide +kernel
theorem d_Al_grow2_30 : decode b_Al_grow2 30 = .ok (.istore_n 3, 1) := by decide +kernel
theorem d_Al_grow2_31 : decode b_Al_grow2 31 = .ok (.aload_n 0, 1) := by decide +kernel
theorem d_Al_grow2_32 : decode b_Al_grow2 32 = .ok (.aload_n 0, 1) := by decide +kernel
theorem d_Al_grow2_33 : decode b_Al_grow2 33 = .ok (.getfield 9, 3) := by decide +kernel
theorem d_Al_grow2_36 : decode b_Al_grow2 36 = .ok (.iload_n 3, 1) := by decide +kernel
theorem d_Al_grow2_37 : decode b_Al_grow2 37 = .ok (.invokestatic 66, 3) := by decide +kernel
theorem d_Al_grow2_40 : decode b_Al_grow2 40 = .ok (.dup_x1, 1) := by decide +kernel
theorem d_Al_grow2_41 : decode b_Al_grow2 41 = .ok (.putfield 9, 3) := by decide +kernel
theorem d_Al_grow2_44 : decode b_Al_grow2 44 = .ok (.areturn, 1) := by decide +kernel
theorem d_Al_grow2_45 : decode b_Al_grow2 45 = .ok (.aload_n 0, 1) := by decide +kernel
theorem d_Al_grow2_46 : decode b_Al_grow2 46 = .ok (.bipush 10, 2) := by decide +kernel
theorem d_Al_grow2_48 : decode b_Al_grow2 48 = .ok (.iload_n 1, 1) := by decide +kernel
theorem d_Al_grow2_49 : decode b_Al_grow2 49 = .ok (.invokestatic 79, 3) := by decide +kernel
theorem d_Al_grow2_52 : decode b_Al_grow2 52 = .ok (.anewarray 7, 3) := by decide +kernel
theorem d_Al_grow2_55 : decode b_Al_grow2 55 = .ok (.dup_x1, 1) := by decide +kernel
theorem d_Al_grow2_56 : decode b_Al_grow2 56 = .ok (.putfield 9, 3) := by decide +kernel
theorem d_Al_grow2_59 : decode b_Al_grow2 59 = .ok (.areturn, 1) := by decide +kernel
theorem d_As_newLength_0 : decode b_As_newLength 0 = .ok (.iload_n 0, 1) := by decide +kernel
theorem d_As_newLength_1 : decode b_As_newLength 1 = .ok (.iload_n 1, 1) := by decide +kernel
theorem d_As_newLength_2 : decode b_As_newLength 2 = .ok (.iload_n 2, 1) := by decide +kernel
theorem d_As_newLength_3 : decode b_As_newLength 3 = .ok (.invokestatic 194, 3) := by decide +kernel
theorem d_As_newLength_6 : decode b_As_newLength 6 = .ok (.iadd, 1) := by decide +kernel
theorem d_As_newLength_7 : decode b_As_newLength 7 = .ok (.istore_n 3, 1) := by decide +kernel
theorem d_As_newLength_8 : decode b_As_newLength 8 = .ok (.iconst 0, 1) := by decide +kernel
theorem d_As_newLength_9 : decode b_As_newLength 9 = .ok (.iload_n 3, 1) := by decide +kernel
theorem d_As_newLength_10 : decode b_As_newLength 10 = .ok (.if_icmp .ge 11, 3) := by decide +kernel
theorem d_As_newLength_13 : decode b_As_newLength 13 = .ok (.iload_n 3, 1) := by decide +kernel
theorem d_As_newLength_14 : decode b_As_newLength 14 = .ok (.ldc 200, 2) := by decide +kernel
theorem d_As_newLength_16 : decode b_As_newLength 16 = .ok (.if_icmp .gt 5, 3) := by decide +kernel
theorem d_As_newLength_19 : decode b_As_newLength 19 = .ok (.iload_n 3, 1) := by decide +kernel
theorem d_As_newLength_20 : decode b_As_newLength 20 = .ok (.ireturn, 1) := by decide +kernel
theorem d_As_newLength_21 : decode b_As_newLength 21 = .ok (.iload_n 0, 1) := by decide +kernel
theorem d_As_newLength_22 : decode b_As_newLength 22 = .ok (.iload_n 1, 1) := by decide +kernel
theorem d_As_newLength_23 : decode b_As_newLength 23 = .ok (.invokestatic 201, 3) := by decide +kernel
theorem d_As_newLength_26 : decode b_As_newLength 26 = .ok (.ireturn, 1) := by decide +kernel
theorem d_Ma_max_0 : decode b_Ma_max 0 = .ok (.iload_n 0, 1) := by decide +kernel
theorem d_Ma_max_1 : decode b_Ma_max 1 = .ok (.iload_n 1, 1) := by decide +kernel
theorem d_Ma_max_2 : decode b_Ma_max 2 = .ok (.if_icmp .lt 7, 3) := by decide +kernel
theorem d_Ma_max_5 : decode b_Ma_max 5 = .ok (.iload_n 0, 1) := by decide +kernel
theorem d_Ma_max_6 : decode b_Ma_max 6 = .ok (.goto 4, 3) := by decide +kernel
theorem d_Ma_max_9 : decode b_Ma_max 9 = .ok (.iload_n 1, 1) := by decide +kernel
theorem d_Ma_max_10 : decode b_Ma_max 10 = .ok (.ireturn, 1) := by decide +kernel
theorem d_As_hugeLength_0 : decode b_As_hugeLength 0 = .ok (.iload_n 0, 1) := by decide +kernel
theorem d_As_hugeLength_1 : decode b_As_hugeLength 1 = .ok (.iload_n 1, 1) := by decide +kernel
theorem d_As_hugeLength_2 : decode b_As_hugeLength 2 = .ok (.iadd, 1) := by decide +kernel
theorem d_As_hugeLength_3 : decode b_As_hugeLength 3 = .ok (.istore_n 2, 1) := by decide +kernel
theorem d_As_hugeLength_4 : decode b_As_hugeLength 4 = .ok (.iload_n 2, 1) := by decide +kernel
theorem d_As_hugeLength_5 : decode b_As_hugeLength 5 = .ok (.ifCond .ge 44, 3) := by decide +kernel
theorem d_As_hugeLength_8 : decode b_As_hugeLength 8 = .ok (.new 204, 3) := by decide +kernel
theorem d_As_hugeLength_11 : decode b_As_hugeLength 11 = .ok (.dup, 1) := by decide +kernel
theorem d_As_hugeLength_12 : decode b_As_hugeLength 12 = .ok (.new 89, 3) := by decide +kernel
theorem d_As_hugeLength_15 : decode b_As_hugeLength 15 = .ok (.dup, 1) := by decide +kernel
theorem d_As_hugeLength_16 : decode b_As_hugeLength 16 = .ok (.invokespecial 91, 3) := by decide +kernel
theorem d_As_hugeLength_19 : decode b_As_hugeLength 19 = .ok (.ldc 206, 2) := by decide +kernel
theorem d_As_hugeLength_21 : decode b_As_hugeLength 21 = .ok (.invokevirtual 94, 3) := by decide +kernel
theorem d_As_hugeLength_24 : decode b_As_hugeLength 24 = .ok (.iload_n 0, 1) := by decide +kernel
theorem d_As_hugeLength_25 : decode b_As_hugeLength 25 = .ok (.invokevirtual 98, 3) := by decide +kernel
theorem d_As_hugeLength_28 : decode b_As_hugeLength 28 = .ok (.ldc 208, 2) := by decide +kernel
theorem d_As_hugeLength_30 : decode b_As_hugeLength 30 = .ok (.invokevirtual 94, 3) := by decide +kernel
theorem d_As_hugeLength_33 : decode b_As_hugeLength 33 = .ok (.iload_n 1, 1) := by decide +kernel
theorem d_As_hugeLength_34 : decode b_As_hugeLength 34 = .ok (.invokevirtual 98, 3) := by decide +kernel
theorem d_As_hugeLength_37 : decode b_As_hugeLength 37 = .ok (.ldc 210, 2) := by decide +kernel
theorem d_As_hugeLength_39 : decode b_As_hugeLength 39 = .ok (.invokevirtual 94, 3) := by decide +kernel
theorem d_As_hugeLength_42 : decode b_As_hugeLength 42 = .ok (.invokevirtual 101, 3) := by decide +kernel
theorem d_As_hugeLength_45 : decode b_As_hugeLength 45 = .ok (.invokespecial 212, 3) := by decide +kernel
theorem d_As_hugeLength_48 : decode b_As_hugeLength 48 = .ok (.athrow, 1) := by decide +kernel
theorem d_As_hugeLength_49 : decode b_As_hugeLength 49 = .ok (.iload_n 2, 1) := by decide +kernel
theorem d_As_hugeLength_50 : decode b_As_hugeLength 50 = .ok (.ldc 200, 2) := by decide +kernel
theorem d_As_hugeLength_52 : decode b_As_hugeLength 52 = .ok (.if_icmp .gt 6, 3) := by decide +kernel
theorem d_As_hugeLength_55 : decode b_As_hugeLength 55 = .ok (.ldc 200, 2) := by decide +kernel
theorem d_As_hugeLength_57 : decode b_As_hugeLength 57 = .ok (.ireturn, 1) := by decide +kernel
theorem d_As_hugeLength_58 : decode b_As_hugeLength 58 = .ok (.iload_n 2, 1) := by decide +kernel
theorem d_As_hugeLength_59 : decode b_As_hugeLength 59 = .ok (.ireturn, 1) := by decide +kernel
theorem d_Ar_copyOf_0 : decode b_Ar_copyOf 0 = .ok (.aload_n 0, 1) := by decide +kernel
theorem d_Ar_copyOf_1 : decode b_Ar_copyOf 1 = .ok (.iload_n 1, 1) := by decide +kernel
theorem d_Ar_copyOf_2 : decode b_Ar_copyOf 2 = .ok (.aload_n 0, 1) := by decide +kernel
theorem d_Ar_copyOf_3 : decode b_Ar_copyOf 3 = .ok (.invokevirtual 86, 3) := by decide +kernel
theorem d_Ar_copyOf_6 : decode b_Ar_copyOf 6 = .ok (.invokestatic 300, 3) := by decide +kernel
theorem d_Ar_copyOf_9 : decode b_Ar_copyOf 9 = .ok (.areturn, 1) := by decide +kernel
theorem d_Ar_copyOf2_0 : decode b_Ar_copyOf2 0 = .ok (.aload_n 2, 1) := by decide +kernel
theorem d_Ar_copyOf2_1 : decode b_Ar_copyOf2 1 = .ok (.ldc 110, 2) := by decide +kernel
theorem d_Ar_copyOf2_3 : decode b_Ar_copyOf2 3 = .ok (.if_acmp .ne 10, 3) := by decide +kernel
theorem d_Ar_copyOf2_6 : decode b_Ar_copyOf2 6 = .ok (.iload_n 1, 1) := by decide +kernel
theorem d_Ar_copyOf2_7 : decode b_Ar_copyOf2 7 = .ok (.anewarray 2, 3) := by decide +kernel
theorem d_Ar_copyOf2_10 : decode b_Ar_copyOf2 10 = .ok (.goto 14, 3) := by decide +kernel
theorem d_Ar_copyOf2_13 : decode b_Ar_copyOf2 13 = .ok (.aload_n 2, 1) := by decide +kernel
theorem d_Ar_copyOf2_14 : decode b_Ar_copyOf2 14 = .ok (.invokevirtual 90, 3) := by decide +kernel
theorem d_Ar_copyOf2_17 : decode b_Ar_copyOf2 17 = .ok (.iload_n 1, 1) := by decide +kernel
theorem d_Ar_copyOf2_18 : decode b_Ar_copyOf2 18 = .ok (.invokestatic 95, 3) := by decide +kernel
theorem d_Ar_copyOf2_21 : decode b_Ar_copyOf2 21 = .ok (.checkcast 110, 3) := by decide +kernel
theorem d_Ar_copyOf2_24 : decode b_Ar_copyOf2 24 = .ok (.astore_n 3, 1) := by decide +kernel
theorem d_Ar_copyOf2_25 : decode b_Ar_copyOf2 25 = .ok (.aload_n 0, 1) := by decide +kernel
theorem d_Ar_copyOf2_26 : decode b_Ar_copyOf2 26 = .ok (.iconst 0, 1) := by decide +kernel
theorem d_Ar_copyOf2_27 : decode b_Ar_copyOf2 27 = .ok (.aload_n 3, 1) := by decide +kernel
theorem d_Ar_copyOf2_28 : decode b_Ar_copyOf2 28 = .ok (.iconst 0, 1) := by decide +kernel
theorem d_Ar_copyOf2_29 : decode b_Ar_copyOf2 29 = .ok (.aload_n 0, 1) := by decide +kernel
theorem d_Ar_copyOf2_30 : decode b_Ar_copyOf2 30 = .ok (.arraylength, 1) := by decide +kernel
theorem d_Ar_copyOf2_31 : decode b_Ar_copyOf2 31 = .ok (.iload_n 1, 1) := by decide +kernel
theorem d_Ar_copyOf2_32 : decode b_Ar_copyOf2 32 = .ok (.invokestatic 304, 3) := by decide +kernel
theorem d_Ar_copyOf2_35 : decode b_Ar_copyOf2 35 = .ok (.invokestatic 150, 3) := by decide +kernel
theorem d_Ar_copyOf2_38 : decode b_Ar_copyOf2 38 = .ok (.aload_n 3, 1) := by decide +kernel
theorem d_Ar_copyOf2_39 : decode b_Ar_copyOf2 39 = .ok (.areturn, 1) := by decide +kernel
theorem d_Pm_init_0 : decode b_Pm_init 0 = .ok (.aload_n 0, 1) := by decide +kernel
theorem d_Pm_init_1 : decode b_Pm_init 1 = .ok (.invokespecial 1, 3) := by decide +kernel
theorem d_Pm_init_4 : decode b_Pm_init 4 = .ok (.aload_n 0, 1) := by decide +kernel
theorem d_Pm_init_5 : decode b_Pm_init 5 = .ok (.aload_n 2, 1) := by decide +kernel
theorem d_Pm_init_6 : decode b_Pm_init 6 = .ok (.putfield 7, 3) := by decide +kernel
theorem d_Pm_init_9 : decode b_Pm_init 9 = .ok (.aload_n 0, 1) := by decide +kernel
theorem d_Pm_init_10 : decode b_Pm_init 10 = .ok (.iload_n 1, 1) := by decide +kernel
theorem d_Pm_init_11 : decode b_Pm_init 11 = .ok (.putfield 13, 3) := by decide +kernel
theorem d_Pm_init_14 : decode b_Pm_init 14 = .ok (.aload_n 0, 1) := by decide +kernel
theorem d_Pm_init_15 : decode b_Pm_init 15 = .ok (.iload_n 3, 1) := by decide +kernel
theorem d_Pm_init_16 : decode b_Pm_init 16 = .ok (.putfield 17, 3) := by decide +kernel
theorem d_Pm_init_19 : decode b_Pm_init 19 = .ok (.aload_n 0, 1) := by decide +kernel
theorem d_Pm_init_20 : decode b_Pm_init 20 = .ok (.iload 4, 2) := by decide +kernel
theorem d_Pm_init_22 : decode b_Pm_init 22 = .ok (.putfield 20, 3) := by decide +kernel
theorem d_Pm_init_25 : decode b_Pm_init 25 = .ok (.aload_n 0, 1) := by decide +kernel
theorem d_Pm_init_26 : decode b_Pm_init 26 = .ok (.new 23, 3) := by decide +kernel
theorem d_Pm_init_29 : decode b_Pm_init 29 = .ok (.dup, 1) := by decide +kernel
theorem d_Pm_init_30 : decode b_Pm_init 30 = .ok (.invokespecial 25, 3) := by decide +kernel
theorem d_Pm_init_33 : decode b_Pm_init 33 = .ok (.putfield 26, 3) := by decide +kernel
theorem d_Pm_init_36 : decode b_Pm_init 36 = .ok (.aload_n 0, 1) := by decide +kernel
theorem d_Pm_init_37 : decode b_Pm_init 37 = .ok (.iload_n 3, 1) := by decide +kernel
theorem d_Pm_init_38 : decode b_Pm_init 38 = .ok (.putfield 30, 3) := by decide +kernel
theorem d_Pm_init_41 : decode b_Pm_init 41 = .ok (.aload_n 0, 1) := by decide +kernel
theorem d_Pm_init_42 : decode b_Pm_init 42 = .ok (.iconst 0, 1) := by decide +kernel
theorem d_Pm_init_43 : decode b_Pm_init 43 = .ok (.putfield 33, 3) := by decide +kernel
theorem d_Pm_init_46 : decode b_Pm_init 46 = .ok (.aload_n 0, 1) := by decide +kernel
theorem d_Pm_init_47 : decode b_Pm_init 47 = .ok (.iconst 0, 1) := by decide +kernel
theorem d_Pm_init_48 : decode b_Pm_init 48 = .ok (.putfield 37, 3) := by decide +kernel
theorem d_Pm_init_51 : decode b_Pm_init 51 = .ok (.return_, 1) := by decide +kernel
theorem d_It_init_0 : decode b_It_init 0 = .ok (.aload_n 0, 1) := by decide +kernel
theorem d_It_init_1 : decode b_It_init 1 = .ok (.invokespecial 1, 3) := by decide +kernel
theorem d_It_init_4 : decode b_It_init 4 = .ok (.aload_n 0, 1) := by decide +kernel
theorem d_It_init_5 : decode b_It_init 5 = .ok (.iload_n 1, 1) := by decide +kernel
theorem d_It_init_6 : decode b_It_init 6 = .ok (.putfield 7, 3) := by decide +kernel
theorem d_It_init_9 : decode b_It_init 9 = .ok (.aload_n 0, 1) := by decide +kernel
theorem d_It_init_10 : decode b_It_init 10 = .ok (.iload_n 2, 1) := by decide +kernel
theorem d_It_init_11 : decode b_It_init 11 = .ok (.putfield 13, 3) := by decide +kernel
theorem d_It_init_14 : decode b_It_init 14 = .ok (.aload_n 0, 1) := by decide +kernel
theorem d_It_init_15 : decode b_It_init 15 = .ok (.aload_n 3, 1) := by decide +kernel
theorem d_It_init_16 : decode b_It_init 16 = .ok (.putfield 16, 3) := by decide +kernel
theorem d_It_init_19 : decode b_It_init 19 = .ok (.aload_n 0, 1) := by decide +kernel
theorem d_It_init_20 : decode b_It_init 20 = .ok (.iload 5, 2) := by decide +kernel
theorem d_It_init_22 : decode b_It_init 22 = .ok (.putfield 20, 3) := by decide +kernel
theorem d_It_init_25 : decode b_It_init 25 = .ok (.aload_n 0, 1) := by decide +kernel
theorem d_It_init_26 : decode b_It_init 26 = .ok (.iload 4, 2) := by decide +kernel
theorem d_It_init_28 : decode b_It_init 28 = .ok (.putfield 23, 3) := by decide +kernel
theorem d_It_init_31 : decode b_It_init 31 = .ok (.return_, 1) := by decide +kernel
theorem d_Ru_outcomeOf_0 : decode b_Ru_outcomeOf 0 = .ok (.aload_n 0, 1) := by decide +kernel
theorem d_Ru_outcomeOf_1 : decode b_Ru_outcomeOf 1 = .ok (.iconst 0, 1) := by decide +kernel
theorem d_Ru_outcomeOf_2 : decode b_Ru_outcomeOf 2 = .ok (.putfield 9, 3) := by decide +kernel
theorem d_Ru_outcomeOf_5 : decode b_Ru_outcomeOf 5 = .ok (.aload_n 0, 1) := by decide +kernel
theorem d_Ru_outcomeOf_6 : decode b_Ru_outcomeOf 6 = .ok (.iconst 0, 1) := by decide +kernel
theorem d_Ru_outcomeOf_7 : decode b_Ru_outcomeOf 7 = .ok (.putfield 15, 3) := by decide +kernel
theorem d_Ru_outcomeOf_10 : decode b_Ru_outcomeOf 10 = .ok (.aload_n 0, 1) := by decide +kernel
theorem d_Ru_outcomeOf_11 : decode b_Ru_outcomeOf 11 = .ok (.aload_n 1, 1) := by decide +kernel
theorem d_Ru_outcomeOf_12 : decode b_Ru_outcomeOf 12 = .ok (.iload_n 2, 1) := by decide +kernel
theorem d_Ru_outcomeOf_13 : decode b_Ru_outcomeOf 13 = .ok (.iload_n 3, 1) := by decide +kernel
theorem d_Ru_outcomeOf_14 : decode b_Ru_outcomeOf 14 = .ok (.iconst 1, 1) := by decide +kernel
theorem d_Ru_outcomeOf_15 : decode b_Ru_outcomeOf 15 = .ok (.invokevirtual 18, 3) := by decide +kernel
theorem d_Ru_outcomeOf_18 : decode b_Ru_outcomeOf 18 = .ok (.aload_n 0, 1) := by decide +kernel
theorem d_Ru_outcomeOf_19 : decode b_Ru_outcomeOf 19 = .ok (.getfield 9, 3) := by decide +kernel
theorem d_Ru_outcomeOf_22 : decode b_Ru_outcomeOf 22 = .ok (.ireturn, 1) := by decide +kernel
theorem d_Ru_perform_0 : decode b_Ru_perform 0 = .ok (.iload 4, 2) := by decide +kernel
theorem d_Ru_perform_2 : decode b_Ru_perform 2 = .ok (.bipush 16, 2) := by decide +kernel
theorem d_Ru_perform_4 : decode b_Ru_perform 4 = .ok (.if_icmp .le 13, 3) := by decide +kernel
theorem d_Ru_perform_7 : decode b_Ru_perform 7 = .ok (.new 22, 3) := by decide +kernel
theorem d_Ru_perform_10 : decode b_Ru_perform 10 = .ok (.dup, 1) := by decide +kernel
theorem d_Ru_perform_11 : decode b_Ru_perform 11 = .ok (.ldc 24, 2) := by decide +kernel
theorem d_Ru_perform_13 : decode b_Ru_perform 13 = .ok (.invokespecial 26, 3) := by decide +kernel
theorem d_Ru_perform_16 : decode b_Ru_perform 16 = .ok (.athrow, 1) := by decide +kernel
theorem d_Ru_perform_17 : decode b_Ru_perform 17 = .ok (.aload_n 1, 1) := by decide +kernel
theorem d_Ru_perform_18 : decode b_Ru_perform 18 = .ok (.iload_n 2, 1) := by decide +kernel
theorem d_Ru_perform_19 : decode b_Ru_perform 19 = .ok (.iload_n 3, 1) := by decide +kernel
theorem d_Ru_perform_20 : decode b_Ru_perform 20 = .ok (.invokevirtual 29, 3) := by decide +kernel
theorem d_Ru_perform_23 : decode b_Ru_perform 23 = .ok (.astore 5, 2) := by decide +kernel
theorem d_Ru_perform_25 : decode b_Ru_perform 25 = .ok (.aload 5, 2) := by decide +kernel
theorem d_Ru_perform_27 : decode b_Ru_perform 27 = .ok (.ifnonnull 13, 3) := by decide +kernel
theorem d_Ru_perform_30 : decode b_Ru_perform 30 = .ok (.new 35, 3) := by decide +kernel
theorem d_Ru_perform_33 : decode b_Ru_perform 33 = .ok (.dup, 1) := by decide +kernel
theorem d_Ru_perform_34 : decode b_Ru_perform 34 = .ok (.ldc 37, 2) := by decide +kernel
theorem d_Ru_perform_36 : decode b_Ru_perform 36 = .ok (.invokespecial 39, 3) := by decide +kernel
theorem d_Ru_perform_39 : decode b_Ru_perform 39 = .ok (.athrow, 1) := by decide +kernel
theorem d_Ru_perform_40 : decode b_Ru_perform 40 = .ok (.iconst 0, 1) := by decide +kernel
theorem d_Ru_perform_41 : decode b_Ru_perform 41 = .ok (.istore 6, 2) := by decide +kernel
theorem d_Ru_perform_43 : decode b_Ru_perform 43 = .ok (.iload 6, 2) := by decide +kernel
theorem d_Ru_perform_45 : decode b_Ru_perform 45 = .ok (.aload 5, 2) := by decide +kernel
theorem d_Ru_perform_47 : decode b_Ru_perform 47 = .ok (.getfield 40, 3) := by decide +kernel
theorem d_Ru_perform_50 : decode b_Ru_perform 50 = .ok (.invokevirtual 46, 3) := by decide +kernel
theorem d_Ru_perform_53 : decode b_Ru_perform 53 = .ok (.if_icmp .ge 29, 3) := by decide +kernel
theorem d_Ru_perform_56 : decode b_Ru_perform 56 = .ok (.aload_n 0, 1) := by decide +kernel
theorem d_Ru_perform_57 : decode b_Ru_perform 57 = .ok (.aload 5, 2) := by decide +kernel
theorem d_Ru_perform_59 : decode b_Ru_perform 59 = .ok (.getfield 40, 3) := by decide +kernel
theorem d_Ru_perform_62 : decode b_Ru_perform 62 = .ok (.iload 6, 2) := by decide +kernel
theorem d_Ru_perform_64 : decode b_Ru_perform 64 = .ok (.invokevirtual 52, 3) := by decide +kernel
theorem d_Ru_perform_67 : decode b_Ru_perform 67 = .ok (.checkcast 56, 3) := by decide +kernel
theorem d_Ru_perform_70 : decode b_Ru_perform 70 = .ok (.aload_n 1, 1) := by decide +kernel
theorem d_Ru_perform_71 : decode b_Ru_perform 71 = .ok (.iload 4, 2) := by decide +kernel
theorem d_Ru_perform_73 : decode b_Ru_perform 73 = .ok (.invokevirtual 58, 3) := by decide +kernel
theorem d_Ru_perform_76 : decode b_Ru_perform 76 = .ok (.iinc 6 1, 3) := by decide +kernel
theorem d_Ru_perform_79 : decode b_Ru_perform 79 = .ok (.goto (-36), 3) := by decide +kernel
theorem d_Ru_perform_82 : decode b_Ru_perform 82 = .ok (.return_, 1) := by decide +kernel
theorem d_Ru_performItem_0 : decode b_Ru_performItem 0 = .ok (.aload_n 0, 1) := by decide +kernel
theorem d_Ru_performItem_1 : decode b_Ru_performItem 1 = .ok (.getfield 15, 3) := by decide +kernel
theorem d_Ru_performItem_4 : decode b_Ru_performItem 4 = .ok (.sipush 300, 3) := by decide +kernel
theorem d_Ru_performItem_7 : decode b_Ru_performItem 7 = .ok (.if_icmp .lt 13, 3) := by decide +kernel
theorem d_Ru_performItem_10 : decode b_Ru_performItem 10 = .ok (.new 22, 3) := by decide +kernel
theorem d_Ru_performItem_13 : decode b_Ru_performItem 13 = .ok (.dup, 1) := by decide +kernel
theorem d_Ru_performItem_14 : decode b_Ru_performItem 14 = .ok (.ldc 62, 2) := by decide +kernel
theorem d_Ru_performItem_16 : decode b_Ru_performItem 16 = .ok (.invokespecial 26, 3) := by decide +kernel
theorem d_Ru_performItem_19 : decode b_Ru_performItem 19 = .ok (.athrow, 1) := by decide +kernel
theorem d_Ru_performItem_20 : decode b_Ru_performItem 20 = .ok (.aload_n 0, 1) := by decide +kernel
theorem d_Ru_performItem_21 : decode b_Ru_performItem 21 = .ok (.dup, 1) := by decide +kernel
theorem d_Ru_performItem_22 : decode b_Ru_performItem 22 = .ok (.getfield 15, 3) := by decide +kernel
theorem d_Ru_performItem_25 : decode b_Ru_performItem 25 = .ok (.iconst 1, 1) := by decide +kernel
theorem d_Ru_performItem_26 : decode b_Ru_performItem 26 = .ok (.iadd, 1) := by decide +kernel
theorem d_Ru_performItem_27 : decode b_Ru_performItem 27 = .ok (.putfield 15, 3) := by decide +kernel
theorem d_Ru_performItem_30 : decode b_Ru_performItem 30 = .ok (.aload_n 1, 1) := by decide +kernel
theorem d_Ru_performItem_31 : decode b_Ru_performItem 31 = .ok (.getfield 64, 3) := by decide +kernel
theorem d_Ru_performItem_34 : decode b_Ru_performItem 34 = .ok (.ifCond .ne 22, 3) := by decide +kernel
theorem d_Ru_performItem_37 : decode b_Ru_performItem 37 = .ok (.aload_n 0, 1) := by decide +kernel
theorem d_Ru_performItem_38 : decode b_Ru_performItem 38 = .ok (.bipush 31, 2) := by decide +kernel
theorem d_Ru_performItem_40 : decode b_Ru_performItem 40 = .ok (.aload_n 0, 1) := by decide +kernel
theorem d_Ru_performItem_41 : decode b_Ru_performItem 41 = .ok (.getfield 9, 3) := by decide +kernel
theorem d_Ru_performItem_44 : decode b_Ru_performItem 44 = .ok (.imul, 1) := by decide +kernel
theorem d_Ru_performItem_45 : decode b_Ru_performItem 45 = .ok (.aload_n 1, 1) := by decide +kernel
theorem d_Ru_performItem_46 : decode b_Ru_performItem 46 = .ok (.getfield 67, 3) := by decide +kernel
theorem d_Ru_performItem_49 : decode b_Ru_performItem 49 = .ok (.iadd, 1) := by decide +kernel
theorem d_Ru_performItem_50 : decode b_Ru_performItem 50 = .ok (.putfield 9, 3) := by decide +kernel
theorem d_Ru_performItem_53 : decode b_Ru_performItem 53 = .ok (.goto 37, 3) := by decide +kernel
theorem d_Ru_performItem_56 : decode b_Ru_performItem 56 = .ok (.aload_n 1, 1) := by decide +kernel
theorem d_Ru_performItem_57 : decode b_Ru_performItem 57 = .ok (.getfield 70, 3) := by decide +kernel
theorem d_Ru_performItem_60 : decode b_Ru_performItem 60 = .ok (.ifnonnull 7, 3) := by decide +kernel
theorem d_Ru_performItem_63 : decode b_Ru_performItem 63 = .ok (.aload_n 2, 1) := by decide +kernel
theorem d_Ru_performItem_64 : decode b_Ru_performItem 64 = .ok (.goto 7, 3) := by decide +kernel
theorem d_Ru_performItem_67 : decode b_Ru_performItem 67 = .ok (.aload_n 1, 1) := by decide +kernel
theorem d_Ru_performItem_68 : decode b_Ru_performItem 68 = .ok (.getfield 70, 3) := by decide +kernel
theorem d_Ru_performItem_71 : decode b_Ru_performItem 71 = .ok (.astore 4, 2) := by decide +kernel
theorem d_Ru_performItem_73 : decode b_Ru_performItem 73 = .ok (.aload_n 0, 1) := by decide +kernel
theorem d_Ru_performItem_74 : decode b_Ru_performItem 74 = .ok (.aload 4, 2) := by decide +kernel
theorem d_Ru_performItem_76 : decode b_Ru_performItem 76 = .ok (.aload_n 1, 1) := by decide +kernel
theorem d_Ru_performItem_77 : decode b_Ru_performItem 77 = .ok (.getfield 74, 3) := by decide +kernel
theorem d_Ru_performItem_80 : decode b_Ru_performItem 80 = .ok (.aload_n 1, 1) := by decide +kernel
theorem d_Ru_performItem_81 : decode b_Ru_performItem 81 = .ok (.getfield 77, 3) := by decide +kernel
theorem d_Ru_performItem_84 : decode b_Ru_performItem 84 = .ok (.iload_n 3, 1) := by decide +kernel
theorem d_Ru_performItem_85 : decode b_Ru_performItem 85 = .ok (.iconst 1, 1) := by decide +kernel
theorem d_Ru_performItem_86 : decode b_Ru_performItem 86 = .ok (.iadd, 1) := by decide +kernel
theorem d_Ru_performItem_87 : decode b_Ru_performItem 87 = .ok (.invokevirtual 18, 3) := by decide +kernel
theorem d_Ru_performItem_90 : decode b_Ru_performItem 90 = .ok (.return_, 1) := by decide +kernel
theorem d_It_part_0 : decode b_It_part 0 = .ok (.iload_n 1, 1) := by decide +kernel
theorem d_It_part_1 : decode b_It_part 1 = .ok (.tableswitch 59 0 2 #[27, 32, 54], 27) := by decide +kernel
theorem d_It_part_28 : decode b_It_part 28 = .ok (.aload_n 0, 1) := by decide +kernel
theorem d_It_part_29 : decode b_It_part 29 = .ok (.getfield 7, 3) := by decide +kernel
theorem d_It_part_32 : decode b_It_part 32 = .ok (.ireturn, 1) := by decide +kernel
theorem d_It_part_33 : decode b_It_part 33 = .ok (.aload_n 0, 1) := by decide +kernel
theorem d_It_part_34 : decode b_It_part 34 = .ok (.getfield 16, 3) := by decide +kernel
theorem d_It_part_37 : decode b_It_part 37 = .ok (.ifnonnull 10, 3) := by decide +kernel
theorem d_It_part_40 : decode b_It_part 40 = .ok (.aload_n 0, 1) := by decide +kernel
theorem d_It_part_41 : decode b_It_part 41 = .ok (.getfield 13, 3) := by decide +kernel
theorem d_It_part_44 : decode b_It_part 44 = .ok (.goto 10, 3) := by decide +kernel
theorem d_It_part_47 : decode b_It_part 47 = .ok (.aload_n 0, 1) := by decide +kernel
theorem d_It_part_48 : decode b_It_part 48 = .ok (.getfield 16, 3) := by decide +kernel
theorem d_It_part_51 : decode b_It_part 51 = .ok (.getfield 26, 3) := by decide +kernel
theorem d_It_part_54 : decode b_It_part 54 = .ok (.ireturn, 1) := by decide +kernel
theorem d_It_part_55 : decode b_It_part 55 = .ok (.aload_n 0, 1) := by decide +kernel
theorem d_It_part_56 : decode b_It_part 56 = .ok (.getfield 23, 3) := by decide +kernel
theorem d_It_part_59 : decode b_It_part 59 = .ok (.ireturn, 1) := by decide +kernel
theorem d_It_part_60 : decode b_It_part 60 = .ok (.aload_n 0, 1) := by decide +kernel
theorem d_It_part_61 : decode b_It_part 61 = .ok (.getfield 20, 3) := by decide +kernel
theorem d_It_part_64 : decode b_It_part 64 = .ok (.ireturn, 1) := by decide +kernel
