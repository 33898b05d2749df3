theorem d_Cs_init_0 : decode b_Cs_init 0 = .ok (.aload_n 0, 1) := by decide +kernel
theorem d_Cs_init_1 : decode b_Cs_init 1 = .ok (.invokespecial 1, 3) := by decide +kernel
theorem d_Cs_init_4 : decode b_Cs_init 4 = .ok (.aload_n 0, 1) := by decide +kernel
theorem d_Cs_init_5 : decode b_Cs_init 5 = .ok (.new 7, 3) := by decide +kernel
theorem d_Cs_init_8 : decode b_Cs_init 8 = .ok (.dup, 1) := by decide +kernel
theorem d_Cs_init_9 : decode b_Cs_init 9 = .ok (.invokespecial 9, 3) := by decide +kernel
theorem d_Cs_init_12 : decode b_Cs_init 12 = .ok (.putfield 10, 3) := by decide +kernel
theorem d_Cs_init_15 : decode b_Cs_init 15 = .ok (.aload_n 0, 1) := by decide +kernel
theorem d_Cs_init_16 : decode b_Cs_init 16 = .ok (.new 16, 3) := by decide +kernel
theorem d_Cs_init_19 : decode b_Cs_init 19 = .ok (.dup, 1) := by decide +kernel
theorem d_Cs_init_20 : decode b_Cs_init 20 = .ok (.invokespecial 18, 3) := by decide +kernel
theorem d_Cs_init_23 : decode b_Cs_init 23 = .ok (.putfield 19, 3) := by decide +kernel
theorem d_Cs_init_26 : decode b_Cs_init 26 = .ok (.aload_n 0, 1) := by decide +kernel
theorem d_Cs_init_27 : decode b_Cs_init 27 = .ok (.new 23, 3) := by decide +kernel
theorem d_Cs_init_30 : decode b_Cs_init 30 = .ok (.dup, 1) := by decide +kernel
theorem d_Cs_init_31 : decode b_Cs_init 31 = .ok (.aload_n 0, 1) := by decide +kernel
theorem d_Cs_init_32 : decode b_Cs_init 32 = .ok (.getfield 10, 3) := by decide +kernel
theorem d_Cs_init_35 : decode b_Cs_init 35 = .ok (.invokespecial 25, 3) := by decide +kernel
theorem d_Cs_init_38 : decode b_Cs_init 38 = .ok (.putfield 28, 3) := by decide +kernel
theorem d_Cs_init_41 : decode b_Cs_init 41 = .ok (.aload_n 0, 1) := by decide +kernel
theorem d_Cs_init_42 : decode b_Cs_init 42 = .ok (.new 32, 3) := by decide +kernel
theorem d_Cs_init_45 : decode b_Cs_init 45 = .ok (.dup, 1) := by decide +kernel
theorem d_Cs_init_46 : decode b_Cs_init 46 = .ok (.aload_n 0, 1) := by decide +kernel
theorem d_Cs_init_47 : decode b_Cs_init 47 = .ok (.getfield 10, 3) := by decide +kernel
theorem d_Cs_init_50 : decode b_Cs_init 50 = .ok (.invokespecial 34, 3) := by decide +kernel
theorem d_Cs_init_53 : decode b_Cs_init 53 = .ok (.putfield 35, 3) := by decide +kernel
theorem d_Cs_init_56 : decode b_Cs_init 56 = .ok (.aload_n 0, 1) := by decide +kernel
theorem d_Cs_init_57 : decode b_Cs_init 57 = .ok (.iconst 0, 1) := by decide +kernel
theorem d_Cs_init_58 : decode b_Cs_init 58 = .ok (.putfield 39, 3) := by decide +kernel
theorem d_Cs_init_61 : decode b_Cs_init 61 = .ok (.return_, 1) := by decide +kernel
theorem d_Fa_init_0 : decode b_Fa_init 0 = .ok (.aload_n 0, 1) := by decide +kernel
theorem d_Fa_init_1 : decode b_Fa_init 1 = .ok (.invokespecial 3, 3) := by decide +kernel
theorem d_Fa_init_4 : decode b_Fa_init 4 = .ok (.aload_n 0, 1) := by decide +kernel
theorem d_Fa_init_5 : decode b_Fa_init 5 = .ok (.aload_n 1, 1) := by decide +kernel
theorem d_Fa_init_6 : decode b_Fa_init 6 = .ok (.putfield 9, 3) := by decide +kernel
theorem d_Fa_init_9 : decode b_Fa_init 9 = .ok (.aload_n 0, 1) := by decide +kernel
theorem d_Fa_init_10 : decode b_Fa_init 10 = .ok (.bipush 8, 2) := by decide +kernel
theorem d_Fa_init_12 : decode b_Fa_init 12 = .ok (.newarray .int, 2) := by decide +kernel
theorem d_Fa_init_14 : decode b_Fa_init 14 = .ok (.putfield 15, 3) := by decide +kernel
theorem d_Fa_init_17 : decode b_Fa_init 17 = .ok (.aload_n 0, 1) := by decide +kernel
theorem d_Fa_init_18 : decode b_Fa_init 18 = .ok (.bipush 24, 2) := by decide +kernel
theorem d_Fa_init_20 : decode b_Fa_init 20 = .ok (.newarray .int, 2) := by decide +kernel
theorem d_Fa_init_22 : decode b_Fa_init 22 = .ok (.putfield 19, 3) := by decide +kernel
theorem d_Fa_init_25 : decode b_Fa_init 25 = .ok (.aload_n 0, 1) := by decide +kernel
theorem d_Fa_init_26 : decode b_Fa_init 26 = .ok (.bipush 24, 2) := by decide +kernel
theorem d_Fa_init_28 : decode b_Fa_init 28 = .ok (.newarray .int, 2) := by decide +kernel
theorem d_Fa_init_30 : decode b_Fa_init 30 = .ok (.putfield 22, 3) := by decide +kernel
theorem d_Fa_init_33 : decode b_Fa_init 33 = .ok (.aload_n 0, 1) := by decide +kernel
theorem d_Fa_init_34 : decode b_Fa_init 34 = .ok (.bipush 24, 2) := by decide +kernel
theorem d_Fa_init_36 : decode b_Fa_init 36 = .ok (.newarray .int, 2) := by decide +kernel
theorem d_Fa_init_38 : decode b_Fa_init 38 = .ok (.putfield 25, 3) := by decide +kernel
theorem d_Fa_init_41 : decode b_Fa_init 41 = .ok (.aload_n 0, 1) := by decide +kernel
theorem d_Fa_init_42 : decode b_Fa_init 42 = .ok (.bipush 24, 2) := by decide +kernel
theorem d_Fa_init_44 : decode b_Fa_init 44 = .ok (.newarray .int, 2) := by decide +kernel
theorem d_Fa_init_46 : decode b_Fa_init 46 = .ok (.putfield 28, 3) := by decide +kernel
theorem d_Fa_init_49 : decode b_Fa_init 49 = .ok (.aload_n 0, 1) := by decide +kernel
theorem d_Fa_init_50 : decode b_Fa_init 50 = .ok (.bipush 24, 2) := by decide +kernel
theorem d_Fa_init_52 : decode b_Fa_init 52 = .ok (.newarray .boolean, 2) := by decide +kernel
theorem d_Fa_init_54 : decode b_Fa_init 54 = .ok (.putfield 31, 3) := by decide +kernel
theorem d_Fa_init_57 : decode b_Fa_init 57 = .ok (.aload_n 0, 1) := by decide +kernel
theorem d_Fa_init_58 : decode b_Fa_init 58 = .ok (.iconst 0, 1) := by decide +kernel
theorem d_Fa_init_59 : decode b_Fa_init 59 = .ok (.putfield 35, 3) := by decide +kernel
theorem d_Fa_init_62 : decode b_Fa_init 62 = .ok (.return_, 1) := by decide +kernel
theorem d_Cs_shrink_0 : decode b_Cs_shrink 0 = .ok (.aload_n 0, 1) := by decide +kernel
theorem d_Cs_shrink_1 : decode b_Cs_shrink 1 = .ok (.getfield 10, 3) := by decide +kernel
theorem d_Cs_shrink_4 : decode b_Cs_shrink 4 = .ok (.getfield 87, 3) := by decide +kernel
theorem d_Cs_shrink_7 : decode b_Cs_shrink 7 = .ok (.invokevirtual 55, 3) := by decide +kernel
theorem d_Cs_shrink_10 : decode b_Cs_shrink 10 = .ok (.istore_n 1, 1) := by decide +kernel
theorem d_Cs_shrink_11 : decode b_Cs_shrink 11 = .ok (.aload_n 0, 1) := by decide +kernel
theorem d_Cs_shrink_12 : decode b_Cs_shrink 12 = .ok (.getfield 28, 3) := by decide +kernel
theorem d_Cs_shrink_15 : decode b_Cs_shrink 15 = .ok (.invokevirtual 126, 3) := by decide +kernel
theorem d_Cs_shrink_18 : decode b_Cs_shrink 18 = .ok (.aload_n 0, 1) := by decide +kernel
theorem d_Cs_shrink_19 : decode b_Cs_shrink 19 = .ok (.getfield 10, 3) := by decide +kernel
theorem d_Cs_shrink_22 : decode b_Cs_shrink 22 = .ok (.invokevirtual 129, 3) := by decide +kernel
theorem d_Cs_shrink_25 : decode b_Cs_shrink 25 = .ok (.iload_n 1, 1) := by decide +kernel
theorem d_Cs_shrink_26 : decode b_Cs_shrink 26 = .ok (.aload_n 0, 1) := by decide +kernel
theorem d_Cs_shrink_27 : decode b_Cs_shrink 27 = .ok (.getfield 10, 3) := by decide +kernel
theorem d_Cs_shrink_30 : decode b_Cs_shrink 30 = .ok (.getfield 87, 3) := by decide +kernel
theorem d_Cs_shrink_33 : decode b_Cs_shrink 33 = .ok (.invokevirtual 55, 3) := by decide +kernel
theorem d_Cs_shrink_36 : decode b_Cs_shrink 36 = .ok (.isub, 1) := by decide +kernel
theorem d_Cs_shrink_37 : decode b_Cs_shrink 37 = .ok (.istore_n 2, 1) := by decide +kernel
theorem d_Cs_shrink_38 : decode b_Cs_shrink 38 = .ok (.aload_n 0, 1) := by decide +kernel
theorem d_Cs_shrink_39 : decode b_Cs_shrink 39 = .ok (.dup, 1) := by decide +kernel
theorem d_Cs_shrink_40 : decode b_Cs_shrink 40 = .ok (.getfield 39, 3) := by decide +kernel
theorem d_Cs_shrink_43 : decode b_Cs_shrink 43 = .ok (.iload_n 2, 1) := by decide +kernel
theorem d_Cs_shrink_44 : decode b_Cs_shrink 44 = .ok (.iadd, 1) := by decide +kernel
theorem d_Cs_shrink_45 : decode b_Cs_shrink 45 = .ok (.putfield 39, 3) := by decide +kernel
theorem d_Cs_shrink_48 : decode b_Cs_shrink 48 = .ok (.iload_n 2, 1) := by decide +kernel
theorem d_Cs_shrink_49 : decode b_Cs_shrink 49 = .ok (.ireturn, 1) := by decide +kernel
theorem d_Cs_rename_0 : decode b_Cs_rename 0 = .ok (.aload_n 0, 1) := by decide +kernel
theorem d_Cs_rename_1 : decode b_Cs_rename 1 = .ok (.getfield 35, 3) := by decide +kernel
theorem d_Cs_rename_4 : decode b_Cs_rename 4 = .ok (.invokevirtual 132, 3) := by decide +kernel
theorem d_Cs_rename_7 : decode b_Cs_rename 7 = .ok (.aload_n 0, 1) := by decide +kernel
theorem d_Cs_rename_8 : decode b_Cs_rename 8 = .ok (.getfield 35, 3) := by decide +kernel
theorem d_Cs_rename_11 : decode b_Cs_rename 11 = .ok (.invokevirtual 135, 3) := by decide +kernel
theorem d_Cs_rename_14 : decode b_Cs_rename 14 = .ok (.aload_n 0, 1) := by decide +kernel
theorem d_Cs_rename_15 : decode b_Cs_rename 15 = .ok (.getfield 35, 3) := by decide +kernel
theorem d_Cs_rename_18 : decode b_Cs_rename 18 = .ok (.invokevirtual 138, 3) := by decide +kernel
theorem d_Cs_rename_21 : decode b_Cs_rename 21 = .ok (.aload_n 0, 1) := by decide +kernel
theorem d_Cs_rename_22 : decode b_Cs_rename 22 = .ok (.getfield 35, 3) := by decide +kernel
theorem d_Cs_rename_25 : decode b_Cs_rename 25 = .ok (.getfield 141, 3) := by decide +kernel
theorem d_Cs_rename_28 : decode b_Cs_rename 28 = .ok (.ireturn, 1) := by decide +kernel
theorem d_Fa_form_0 : decode b_Fa_form 0 = .ok (.aload_n 0, 1) := by decide +kernel
theorem d_Fa_form_1 : decode b_Fa_form 1 = .ok (.invokevirtual 39, 3) := by decide +kernel
theorem d_Fa_form_4 : decode b_Fa_form 4 = .ok (.aload_n 0, 1) := by decide +kernel
theorem d_Fa_form_5 : decode b_Fa_form 5 = .ok (.iconst 0, 1) := by decide +kernel
theorem d_Fa_form_6 : decode b_Fa_form 6 = .ok (.putfield 35, 3) := by decide +kernel
theorem d_Fa_form_9 : decode b_Fa_form 9 = .ok (.iconst 0, 1) := by decide +kernel
theorem d_Fa_form_10 : decode b_Fa_form 10 = .ok (.istore_n 1, 1) := by decide +kernel
theorem d_Fa_form_11 : decode b_Fa_form 11 = .ok (.iload_n 1, 1) := by decide +kernel
theorem d_Fa_form_12 : decode b_Fa_form 12 = .ok (.aload_n 0, 1) := by decide +kernel
theorem d_Fa_form_13 : decode b_Fa_form 13 = .ok (.getfield 9, 3) := by decide +kernel
theorem d_Fa_form_16 : decode b_Fa_form 16 = .ok (.getfield 42, 3) := by decide +kernel
theorem d_Fa_form_19 : decode b_Fa_form 19 = .ok (.invokevirtual 48, 3) := by decide +kernel
theorem d_Fa_form_22 : decode b_Fa_form 22 = .ok (.if_icmp .ge 74, 3) := by decide +kernel
theorem d_Fa_form_25 : decode b_Fa_form 25 = .ok (.aload_n 0, 1) := by decide +kernel
theorem d_Fa_form_26 : decode b_Fa_form 26 = .ok (.getfield 9, 3) := by decide +kernel
theorem d_Fa_form_29 : decode b_Fa_form 29 = .ok (.getfield 42, 3) := by decide +kernel
theorem d_Fa_form_32 : decode b_Fa_form 32 = .ok (.iload_n 1, 1) := by decide +kernel
theorem d_Fa_form_33 : decode b_Fa_form 33 = .ok (.invokevirtual 53, 3) := by decide +kernel
theorem d_Fa_form_36 : decode b_Fa_form 36 = .ok (.checkcast 57, 3) := by decide +kernel
theorem d_Fa_form_39 : decode b_Fa_form 39 = .ok (.astore_n 2, 1) := by decide +kernel
theorem d_Fa_form_40 : decode b_Fa_form 40 = .ok (.aload_n 0, 1) := by decide +kernel
theorem d_Fa_form_41 : decode b_Fa_form 41 = .ok (.aload_n 2, 1) := by decide +kernel
theorem d_Fa_form_42 : decode b_Fa_form 42 = .ok (.getfield 59, 3) := by decide +kernel
theorem d_Fa_form_45 : decode b_Fa_form 45 = .ok (.aload_n 2, 1) := by decide +kernel
theorem d_Fa_form_46 : decode b_Fa_form 46 = .ok (.getfield 63, 3) := by decide +kernel
theorem d_Fa_form_49 : decode b_Fa_form 49 = .ok (.aload_n 2, 1) := by decide +kernel
theorem d_Fa_form_50 : decode b_Fa_form 50 = .ok (.getfield 66, 3) := by decide +kernel
theorem d_Fa_form_53 : decode b_Fa_form 53 = .ok (.invokevirtual 69, 3) := by decide +kernel
theorem d_Fa_form_56 : decode b_Fa_form 56 = .ok (.istore_n 3, 1) := by decide +kernel
theorem d_Fa_form_57 : decode b_Fa_form 57 = .ok (.iload_n 3, 1) := by decide +kernel
theorem d_Fa_form_58 : decode b_Fa_form 58 = .ok (.iconst (-1), 1) := by decide +kernel
theorem d_Fa_form_59 : decode b_Fa_form 59 = .ok (.if_icmp .ne 9, 3) := by decide +kernel
theorem d_Fa_form_62 : decode b_Fa_form 62 = .ok (.aload_n 0, 1) := by decide +kernel
theorem d_Fa_form_63 : decode b_Fa_form 63 = .ok (.aload_n 2, 1) := by decide +kernel
theorem d_Fa_form_64 : decode b_Fa_form 64 = .ok (.invokevirtual 73, 3) := by decide +kernel
theorem d_Fa_form_67 : decode b_Fa_form 67 = .ok (.istore_n 3, 1) := by decide +kernel
theorem d_Fa_form_68 : decode b_Fa_form 68 = .ok (.aload_n 2, 1) := by decide +kernel
theorem d_Fa_form_69 : decode b_Fa_form 69 = .ok (.getfield 77, 3) := by decide +kernel
theorem d_Fa_form_72 : decode b_Fa_form 72 = .ok (.ifCond .eq 18, 3) := by decide +kernel
theorem d_Fa_form_75 : decode b_Fa_form 75 = .ok (.iload_n 3, 1) := by decide +kernel
theorem d_Fa_form_76 : decode b_Fa_form 76 = .ok (.aload_n 0, 1) := by decide +kernel
theorem d_Fa_form_77 : decode b_Fa_form 77 = .ok (.getfield 35, 3) := by decide +kernel
theorem d_Fa_form_80 : decode b_Fa_form 80 = .ok (.if_icmp .ge 10, 3) := by decide +kernel
theorem d_Fa_form_83 : decode b_Fa_form 83 = .ok (.aload_n 0, 1) := by decide +kernel
theorem d_Fa_form_84 : decode b_Fa_form 84 = .ok (.getfield 31, 3) := by decide +kernel
theorem d_Fa_form_87 : decode b_Fa_form 87 = .ok (.iload_n 3, 1) := by decide +kernel
theorem d_Fa_form_88 : decode b_Fa_form 88 = .ok (.iconst 1, 1) := by decide +kernel
theorem d_Fa_form_89 : decode b_Fa_form 89 = .ok (.bastore, 1) := by decide +kernel
theorem d_Fa_form_90 : decode b_Fa_form 90 = .ok (.iinc 1 1, 3) := by decide +kernel
theorem d_Fa_form_93 : decode b_Fa_form 93 = .ok (.goto (-82), 3) := by decide +kernel
theorem d_Fa_form_96 : decode b_Fa_form 96 = .ok (.return_, 1) := by decide +kernel
theorem d_Fa_seeRelatives_0 : decode b_Fa_seeRelatives 0 = .ok (.aload_n 0, 1) := by decide +kernel
theorem d_Fa_seeRelatives_1 : decode b_Fa_seeRelatives 1 = .ok (.getfield 9, 3) := by decide +kernel
theorem d_Fa_seeRelatives_4 : decode b_Fa_seeRelatives 4 = .ok (.getfield 91, 3) := by decide +kernel
theorem d_Fa_seeRelatives_7 : decode b_Fa_seeRelatives 7 = .ok (.invokevirtual 48, 3) := by decide +kernel
theorem d_Fa_seeRelatives_10 : decode b_Fa_seeRelatives 10 = .ok (.bipush 8, 2) := by decide +kernel
theorem d_Fa_seeRelatives_12 : decode b_Fa_seeRelatives 12 = .ok (.invokestatic 94, 3) := by decide +kernel
theorem d_Fa_seeRelatives_15 : decode b_Fa_seeRelatives 15 = .ok (.istore_n 1, 1) := by decide +kernel
theorem d_Fa_seeRelatives_16 : decode b_Fa_seeRelatives 16 = .ok (.iconst 0, 1) := by decide +kernel
theorem d_Fa_seeRelatives_17 : decode b_Fa_seeRelatives 17 = .ok (.istore_n 2, 1) := by decide +kernel
theorem d_Fa_seeRelatives_18 : decode b_Fa_seeRelatives 18 = .ok (.iload_n 2, 1) := by decide +kernel
theorem d_Fa_seeRelatives_19 : decode b_Fa_seeRelatives 19 = .ok (.iload_n 1, 1) := by decide +kernel
theorem d_Fa_seeRelatives_20 : decode b_Fa_seeRelatives 20 = .ok (.if_icmp .ge 75, 3) := by decide +kernel
theorem d_Fa_seeRelatives_23 : decode b_Fa_seeRelatives 23 = .ok (.iconst 0, 1) := by decide +kernel
theorem d_Fa_seeRelatives_24 : decode b_Fa_seeRelatives 24 = .ok (.istore_n 3, 1) := by decide +kernel
theorem d_Fa_seeRelatives_25 : decode b_Fa_seeRelatives 25 = .ok (.iconst 0, 1) := by decide +kernel
theorem d_Fa_seeRelatives_26 : decode b_Fa_seeRelatives 26 = .ok (.istore 4, 2) := by decide +kernel
theorem d_Fa_seeRelatives_28 : decode b_Fa_seeRelatives 28 = .ok (.iload 4, 2) := by decide +kernel
theorem d_Fa_seeRelatives_30 : decode b_Fa_seeRelatives 30 = .ok (.iload_n 1, 1) := by decide +kernel
theorem d_Fa_seeRelatives_31 : decode b_Fa_seeRelatives 31 = .ok (.if_icmp .ge 51, 3) := by decide +kernel
theorem d_Fa_seeRelatives_34 : decode b_Fa_seeRelatives 34 = .ok (.aload_n 0, 1) := by decide +kernel
theorem d_Fa_seeRelatives_35 : decode b_Fa_seeRelatives 35 = .ok (.getfield 9, 3) := by decide +kernel
theorem d_Fa_seeRelatives_38 : decode b_Fa_seeRelatives 38 = .ok (.getfield 91, 3) := by decide +kernel
theorem d_Fa_seeRelatives_41 : decode b_Fa_seeRelatives 41 = .ok (.iload_n 2, 1) := by decide +kernel
theorem d_Fa_seeRelatives_42 : decode b_Fa_seeRelatives 42 = .ok (.invokevirtual 53, 3) := by decide +kernel
theorem d_Fa_seeRelatives_45 : decode b_Fa_seeRelatives 45 = .ok (.checkcast 100, 3) := by decide +kernel
theorem d_Fa_seeRelatives_48 : decode b_Fa_seeRelatives 48 = .ok (.aload_n 0, 1) := by decide +kernel
theorem d_Fa_seeRelatives_49 : decode b_Fa_seeRelatives 49 = .ok (.getfield 9, 3) := by decide +kernel
theorem d_Fa_seeRelatives_52 : decode b_Fa_seeRelatives 52 = .ok (.getfield 91, 3) := by decide +kernel
theorem d_Fa_seeRelatives_55 : decode b_Fa_seeRelatives 55 = .ok (.iload 4, 2) := by decide +kernel
theorem d_Fa_seeRelatives_57 : decode b_Fa_seeRelatives 57 = .ok (.invokevirtual 53, 3) := by decide +kernel
theorem d_Fa_seeRelatives_60 : decode b_Fa_seeRelatives 60 = .ok (.checkcast 100, 3) := by decide +kernel
theorem d_Fa_seeRelatives_63 : decode b_Fa_seeRelatives 63 = .ok (.invokevirtual 102, 3) := by decide +kernel
theorem d_Fa_seeRelatives_66 : decode b_Fa_seeRelatives 66 = .ok (.ifCond .eq 10, 3) := by decide +kernel
theorem d_Fa_seeRelatives_69 : decode b_Fa_seeRelatives 69 = .ok (.iload_n 3, 1) := by decide +kernel
theorem d_Fa_seeRelatives_70 : decode b_Fa_seeRelatives 70 = .ok (.iconst 1, 1) := by decide +kernel
theorem d_Fa_seeRelatives_71 : decode b_Fa_seeRelatives 71 = .ok (.iload 4, 2) := by decide +kernel
theorem d_Fa_seeRelatives_73 : decode b_Fa_seeRelatives 73 = .ok (.ishl, 1) := by decide +kernel
theorem d_Fa_seeRelatives_74 : decode b_Fa_seeRelatives 74 = .ok (.ior, 1) := by decide +kernel
theorem d_Fa_seeRelatives_75 : decode b_Fa_seeRelatives 75 = .ok (.istore_n 3, 1) := by decide +kernel
theorem d_Fa_seeRelatives_76 : decode b_Fa_seeRelatives 76 = .ok (.iinc 4 1, 3) := by decide +kernel
theorem d_Fa_seeRelatives_79 : decode b_Fa_seeRelatives 79 = .ok (.goto (-51), 3) := by decide +kernel
theorem d_Fa_seeRelatives_82 : decode b_Fa_seeRelatives 82 = .ok (.aload_n 0, 1) := by decide +kernel
theorem d_Fa_seeRelatives_83 : decode b_Fa_seeRelatives 83 = .ok (.getfield 15, 3) := by decide +kernel
theorem d_Fa_seeRelatives_86 : decode b_Fa_seeRelatives 86 = .ok (.iload_n 2, 1) := by decide +kernel
theorem d_Fa_seeRelatives_87 : decode b_Fa_seeRelatives 87 = .ok (.iload_n 3, 1) := by decide +kernel
theorem d_Fa_seeRelatives_88 : decode b_Fa_seeRelatives 88 = .ok (.iastore, 1) := by decide +kernel
theorem d_Fa_seeRelatives_89 : decode b_Fa_seeRelatives 89 = .ok (.iinc 2 1, 3) := by decide +kernel
theorem d_Fa_seeRelatives_92 : decode b_Fa_seeRelatives 92 = .ok (.goto (-74), 3) := by decide +kernel
theorem d_Fa_seeRelatives_95 : decode b_Fa_seeRelatives 95 = .ok (.return_, 1) := by decide +kernel
theorem d_Fa_familyOf_0 : decode b_Fa_familyOf 0 = .ok (.iconst 0, 1) := by decide +kernel
theorem d_Fa_familyOf_1 : decode b_Fa_familyOf 1 = .ok (.istore 4, 2) := by decide +kernel
theorem d_Fa_familyOf_3 : decode b_Fa_familyOf 3 = .ok (.iload 4, 2) := by decide +kernel
theorem d_Fa_familyOf_5 : decode b_Fa_familyOf 5 = .ok (.aload_n 0, 1) := by decide +kernel
theorem d_Fa_familyOf_6 : decode b_Fa_familyOf 6 = .ok (.getfield 35, 3) := by decide +kernel
theorem d_Fa_familyOf_9 : decode b_Fa_familyOf 9 = .ok (.if_icmp .ge 51, 3) := by decide +kernel
theorem d_Fa_familyOf_12 : decode b_Fa_familyOf 12 = .ok (.aload_n 0, 1) := by decide +kernel
theorem d_Fa_familyOf_13 : decode b_Fa_familyOf 13 = .ok (.getfield 19, 3) := by decide +kernel
theorem d_Fa_familyOf_16 : decode b_Fa_familyOf 16 = .ok (.iload 4, 2) := by decide +kernel
theorem d_Fa_familyOf_18 : decode b_Fa_familyOf 18 = .ok (.iaload, 1) := by decide +kernel
theorem d_Fa_familyOf_19 : decode b_Fa_familyOf 19 = .ok (.iload_n 2, 1) := by decide +kernel
theorem d_Fa_familyOf_20 : decode b_Fa_familyOf 20 = .ok (.if_icmp .ne 34, 3) := by decide +kernel
theorem d_Fa_familyOf_23 : decode b_Fa_familyOf 23 = .ok (.aload_n 0, 1) := by decide +kernel
theorem d_Fa_familyOf_24 : decode b_Fa_familyOf 24 = .ok (.getfield 22, 3) := by decide +kernel
theorem d_Fa_familyOf_27 : decode b_Fa_familyOf 27 = .ok (.iload 4, 2) := by decide +kernel
theorem d_Fa_familyOf_29 : decode b_Fa_familyOf 29 = .ok (.iaload, 1) := by decide +kernel
theorem d_Fa_familyOf_30 : decode b_Fa_familyOf 30 = .ok (.iload_n 3, 1) := by decide +kernel
theorem d_Fa_familyOf_31 : decode b_Fa_familyOf 31 = .ok (.if_icmp .ne 23, 3) := by decide +kernel
theorem d_Fa_familyOf_34 : decode b_Fa_familyOf 34 = .ok (.aload_n 0, 1) := by decide +kernel
theorem d_Fa_familyOf_35 : decode b_Fa_familyOf 35 = .ok (.getfield 25, 3) := by decide +kernel
theorem d_Fa_familyOf_38 : decode b_Fa_familyOf 38 = .ok (.iload 4, 2) := by decide +kernel
theorem d_Fa_familyOf_40 : decode b_Fa_familyOf 40 = .ok (.iaload, 1) := by decide +kernel
theorem d_Fa_familyOf_41 : decode b_Fa_familyOf 41 = .ok (.aload_n 1, 1) := by decide +kernel
theorem d_Fa_familyOf_42 : decode b_Fa_familyOf 42 = .ok (.getfield 106, 3) := by decide +kernel
theorem d_Fa_familyOf_45 : decode b_Fa_familyOf 45 = .ok (.invokestatic 132, 3) := by decide +kernel
theorem d_Fa_familyOf_48 : decode b_Fa_familyOf 48 = .ok (.ifCond .eq 6, 3) := by decide +kernel
theorem d_Fa_familyOf_51 : decode b_Fa_familyOf 51 = .ok (.iload 4, 2) := by decide +kernel
theorem d_Fa_familyOf_53 : decode b_Fa_familyOf 53 = .ok (.ireturn, 1) := by decide +kernel
theorem d_Fa_familyOf_54 : decode b_Fa_familyOf 54 = .ok (.iinc 4 1, 3) := by decide +kernel
theorem d_Fa_familyOf_57 : decode b_Fa_familyOf 57 = .ok (.goto (-54), 3) := by decide +kernel
theorem d_Fa_familyOf_60 : decode b_Fa_familyOf 60 = .ok (.iconst (-1), 1) := by decide +kernel
theorem d_Fa_familyOf_61 : decode b_Fa_familyOf 61 = .ok (.ireturn, 1) := by decide +kernel
theorem d_Fa_holds_0 : decode b_Fa_holds 0 = .ok (.iload_n 0, 1) := by decide +kernel
theorem d_Fa_holds_1 : decode b_Fa_holds 1 = .ok (.iload_n 1, 1) := by decide +kernel
theorem d_Fa_holds_2 : decode b_Fa_holds 2 = .ok (.ishr, 1) := by decide +kernel
theorem d_Fa_holds_3 : decode b_Fa_holds 3 = .ok (.iconst 1, 1) := by decide +kernel
theorem d_Fa_holds_4 : decode b_Fa_holds 4 = .ok (.iand, 1) := by decide +kernel
theorem d_Fa_holds_5 : decode b_Fa_holds 5 = .ok (.ifCond .eq 7, 3) := by decide +kernel
theorem d_Fa_holds_8 : decode b_Fa_holds 8 = .ok (.iconst 1, 1) := by decide +kernel
theorem d_Fa_holds_9 : decode b_Fa_holds 9 = .ok (.goto 4, 3) := by decide +kernel
theorem d_Fa_holds_12 : decode b_Fa_holds 12 = .ok (.iconst 0, 1) := by decide +kernel
theorem d_Fa_holds_13 : decode b_Fa_holds 13 = .ok (.ireturn, 1) := by decide +kernel
theorem d_Fa_open_0 : decode b_Fa_open 0 = .ok (.aload_n 0, 1) := by decide +kernel
theorem d_Fa_open_1 : decode b_Fa_open 1 = .ok (.getfield 35, 3) := by decide +kernel
theorem d_Fa_open_4 : decode b_Fa_open 4 = .ok (.istore_n 2, 1) := by decide +kernel
theorem d_Fa_open_5 : decode b_Fa_open 5 = .ok (.iload_n 2, 1) := by decide +kernel
theorem d_Fa_open_6 : decode b_Fa_open 6 = .ok (.bipush 24, 2) := by decide +kernel
theorem d_Fa_open_8 : decode b_Fa_open 8 = .ok (.if_icmp .ge 71, 3) := by decide +kernel
theorem d_Fa_open_11 : decode b_Fa_open 11 = .ok (.aload_n 0, 1) := by decide +kernel
theorem d_Fa_open_12 : decode b_Fa_open 12 = .ok (.getfield 19, 3) := by decide +kernel
theorem d_Fa_open_15 : decode b_Fa_open 15 = .ok (.iload_n 2, 1) := by decide +kernel
theorem d_Fa_open_16 : decode b_Fa_open 16 = .ok (.aload_n 1, 1) := by decide +kernel
theorem d_Fa_open_17 : decode b_Fa_open 17 = .ok (.getfield 63, 3) := by decide +kernel
theorem d_Fa_open_20 : decode b_Fa_open 20 = .ok (.iastore, 1) := by decide +kernel
theorem d_Fa_open_21 : decode b_Fa_open 21 = .ok (.aload_n 0, 1) := by decide +kernel
theorem d_Fa_open_22 : decode b_Fa_open 22 = .ok (.getfield 22, 3) := by decide +kernel
theorem d_Fa_open_25 : decode b_Fa_open 25 = .ok (.iload_n 2, 1) := by decide +kernel
theorem d_Fa_open_26 : decode b_Fa_open 26 = .ok (.aload_n 1, 1) := by decide +kernel
theorem d_Fa_open_27 : decode b_Fa_open 27 = .ok (.getfield 66, 3) := by decide +kernel
theorem d_Fa_open_30 : decode b_Fa_open 30 = .ok (.iastore, 1) := by decide +kernel
theorem d_Fa_open_31 : decode b_Fa_open 31 = .ok (.aload_n 0, 1) := by decide +kernel
theorem d_Fa_open_32 : decode b_Fa_open 32 = .ok (.getfield 25, 3) := by decide +kernel
theorem d_Fa_open_35 : decode b_Fa_open 35 = .ok (.iload_n 2, 1) := by decide +kernel
theorem d_Fa_open_36 : decode b_Fa_open 36 = .ok (.aload_n 0, 1) := by decide +kernel
theorem d_Fa_open_37 : decode b_Fa_open 37 = .ok (.iconst 1, 1) := by decide +kernel
theorem d_Fa_open_38 : decode b_Fa_open 38 = .ok (.aload_n 1, 1) := by decide +kernel
theorem d_Fa_open_39 : decode b_Fa_open 39 = .ok (.getfield 59, 3) := by decide +kernel
theorem d_Fa_open_42 : decode b_Fa_open 42 = .ok (.getfield 106, 3) := by decide +kernel
theorem d_Fa_open_45 : decode b_Fa_open 45 = .ok (.ishl, 1) := by decide +kernel
theorem d_Fa_open_46 : decode b_Fa_open 46 = .ok (.aload_n 0, 1) := by decide +kernel
theorem d_Fa_open_47 : decode b_Fa_open 47 = .ok (.aload_n 1, 1) := by decide +kernel
theorem d_Fa_open_48 : decode b_Fa_open 48 = .ok (.getfield 63, 3) := by decide +kernel
theorem d_Fa_open_51 : decode b_Fa_open 51 = .ok (.aload_n 1, 1) := by decide +kernel
theorem d_Fa_open_52 : decode b_Fa_open 52 = .ok (.getfield 66, 3) := by decide +kernel
theorem d_Fa_open_55 : decode b_Fa_open 55 = .ok (.invokevirtual 109, 3) := by decide +kernel
theorem d_Fa_open_58 : decode b_Fa_open 58 = .ok (.invokevirtual 112, 3) := by decide +kernel
theorem d_Fa_open_61 : decode b_Fa_open 61 = .ok (.iastore, 1) := by decide +kernel
theorem d_Fa_open_62 : decode b_Fa_open 62 = .ok (.aload_n 0, 1) := by decide +kernel
theorem d_Fa_open_63 : decode b_Fa_open 63 = .ok (.getfield 31, 3) := by decide +kernel
theorem d_Fa_open_66 : decode b_Fa_open 66 = .ok (.iload_n 2, 1) := by decide +kernel
theorem d_Fa_open_67 : decode b_Fa_open 67 = .ok (.iconst 0, 1) := by decide +kernel
theorem d_Fa_open_68 : decode b_Fa_open 68 = .ok (.bastore, 1) := by decide +kernel
theorem d_Fa_open_69 : decode b_Fa_open 69 = .ok (.aload_n 0, 1) := by decide +kernel
theorem d_Fa_open_70 : decode b_Fa_open 70 = .ok (.dup, 1) := by decide +kernel
theorem d_Fa_open_71 : decode b_Fa_open 71 = .ok (.getfield 35, 3) := by decide +kernel
theorem d_Fa_open_74 : decode b_Fa_open 74 = .ok (.iconst 1, 1) := by decide +kernel
theorem d_Fa_open_75 : decode b_Fa_open 75 = .ok (.iadd, 1) := by decide +kernel
theorem d_Fa_open_76 : decode b_Fa_open 76 = .ok (.putfield 35, 3) := by decide +kernel
theorem d_Fa_open_79 : decode b_Fa_open 79 = .ok (.iload_n 2, 1) := by decide +kernel
theorem d_Fa_open_80 : decode b_Fa_open 80 = .ok (.ireturn, 1) := by decide +kernel
theorem d_Fa_bearers_0 : decode b_Fa_bearers 0 = .ok (.iconst 0, 1) := by decide +kernel
theorem d_Fa_bearers_1 : decode b_Fa_bearers 1 = .ok (.istore_n 3, 1) := by decide +kernel
theorem d_Fa_bearers_2 : decode b_Fa_bearers 2 = .ok (.iconst 0, 1) := by decide +kernel
theorem d_Fa_bearers_3 : decode b_Fa_bearers 3 = .ok (.istore 4, 2) := by decide +kernel
theorem d_Fa_bearers_5 : decode b_Fa_bearers 5 = .ok (.iload 4, 2) := by decide +kernel
theorem d_Fa_bearers_7 : decode b_Fa_bearers 7 = .ok (.aload_n 0, 1) := by decide +kernel
theorem d_Fa_bearers_8 : decode b_Fa_bearers 8 = .ok (.getfield 9, 3) := by decide +kernel
theorem d_Fa_bearers_11 : decode b_Fa_bearers 11 = .ok (.getfield 42, 3) := by decide +kernel
theorem d_Fa_bearers_14 : decode b_Fa_bearers 14 = .ok (.invokevirtual 48, 3) := by decide +kernel
theorem d_Fa_bearers_17 : decode b_Fa_bearers 17 = .ok (.if_icmp .ge 67, 3) := by decide +kernel
theorem d_Fa_bearers_20 : decode b_Fa_bearers 20 = .ok (.aload_n 0, 1) := by decide +kernel
theorem d_Fa_bearers_21 : decode b_Fa_bearers 21 = .ok (.getfield 9, 3) := by decide +kernel
theorem d_Fa_bearers_24 : decode b_Fa_bearers 24 = .ok (.getfield 42, 3) := by decide +kernel
theorem d_Fa_bearers_27 : decode b_Fa_bearers 27 = .ok (.iload 4, 2) := by decide +kernel
theorem d_Fa_bearers_29 : decode b_Fa_bearers 29 = .ok (.invokevirtual 53, 3) := by decide +kernel
theorem d_Fa_bearers_32 : decode b_Fa_bearers 32 = .ok (.checkcast 57, 3) := by decide +kernel
theorem d_Fa_bearers_35 : decode b_Fa_bearers 35 = .ok (.astore 5, 2) := by decide +kernel
theorem d_Fa_bearers_37 : decode b_Fa_bearers 37 = .ok (.aload 5, 2) := by decide +kernel
theorem d_Fa_bearers_39 : decode b_Fa_bearers 39 = .ok (.getfield 63, 3) := by decide +kernel
theorem d_Fa_bearers_42 : decode b_Fa_bearers 42 = .ok (.iload_n 1, 1) := by decide +kernel
theorem d_Fa_bearers_43 : decode b_Fa_bearers 43 = .ok (.if_icmp .ne 12, 3) := by decide +kernel
theorem d_Fa_bearers_46 : decode b_Fa_bearers 46 = .ok (.aload 5, 2) := by decide +kernel
theorem d_Fa_bearers_48 : decode b_Fa_bearers 48 = .ok (.getfield 66, 3) := by decide +kernel
theorem d_Fa_bearers_51 : decode b_Fa_bearers 51 = .ok (.iload_n 2, 1) := by decide +kernel
theorem d_Fa_bearers_52 : decode b_Fa_bearers 52 = .ok (.if_icmp .eq 13, 3) := by decide +kernel
theorem d_Fa_bearers_55 : decode b_Fa_bearers 55 = .ok (.aload 5, 2) := by decide +kernel
theorem d_Fa_bearers_57 : decode b_Fa_bearers 57 = .ok (.iload_n 1, 1) := by decide +kernel
theorem d_Fa_bearers_58 : decode b_Fa_bearers 58 = .ok (.iload_n 2, 1) := by decide +kernel
theorem d_Fa_bearers_59 : decode b_Fa_bearers 59 = .ok (.invokestatic 115, 3) := by decide +kernel
theorem d_Fa_bearers_62 : decode b_Fa_bearers 62 = .ok (.ifCond .eq 16, 3) := by decide +kernel
theorem d_Fa_bearers_65 : decode b_Fa_bearers 65 = .ok (.iload_n 3, 1) := by decide +kernel
theorem d_Fa_bearers_66 : decode b_Fa_bearers 66 = .ok (.iconst 1, 1) := by decide +kernel
theorem d_Fa_bearers_67 : decode b_Fa_bearers 67 = .ok (.aload 5, 2) := by decide +kernel
theorem d_Fa_bearers_69 : decode b_Fa_bearers 69 = .ok (.getfield 59, 3) := by decide +kernel
theorem d_Fa_bearers_72 : decode b_Fa_bearers 72 = .ok (.getfield 106, 3) := by decide +kernel
theorem d_Fa_bearers_75 : decode b_Fa_bearers 75 = .ok (.ishl, 1) := by decide +kernel
theorem d_Fa_bearers_76 : decode b_Fa_bearers 76 = .ok (.ior, 1) := by decide +kernel
theorem d_Fa_bearers_77 : decode b_Fa_bearers 77 = .ok (.istore_n 3, 1) := by decide +kernel
theorem d_Fa_bearers_78 : decode b_Fa_bearers 78 = .ok (.iinc 4 1, 3) := by decide +kernel
theorem d_Fa_bearers_81 : decode b_Fa_bearers 81 = .ok (.goto (-76), 3) := by decide +kernel
theorem d_Fa_bearers_84 : decode b_Fa_bearers 84 = .ok (.iload_n 3, 1) := by decide +kernel
theorem d_Fa_bearers_85 : decode b_Fa_bearers 85 = .ok (.ireturn, 1) := by decide +kernel
theorem d_Fa_standsIn_0 : decode b_Fa_standsIn 0 = .ok (.iconst 0, 1) := by decide +kernel
theorem d_Fa_standsIn_1 : decode b_Fa_standsIn 1 = .ok (.istore_n 3, 1) := by decide +kernel
theorem d_Fa_standsIn_2 : decode b_Fa_standsIn 2 = .ok (.iload_n 3, 1) := by decide +kernel
theorem d_Fa_standsIn_3 : decode b_Fa_standsIn 3 = .ok (.aload_n 0, 1) := by decide +kernel
theorem d_Fa_standsIn_4 : decode b_Fa_standsIn 4 = .ok (.getfield 119, 3) := by decide +kernel
theorem d_Fa_standsIn_7 : decode b_Fa_standsIn 7 = .ok (.invokevirtual 48, 3) := by decide +kernel
theorem d_Fa_standsIn_10 : decode b_Fa_standsIn 10 = .ok (.if_icmp .ge 51, 3) := by decide +kernel
theorem d_Fa_standsIn_13 : decode b_Fa_standsIn 13 = .ok (.aload_n 0, 1) := by decide +kernel
theorem d_Fa_standsIn_14 : decode b_Fa_standsIn 14 = .ok (.getfield 119, 3) := by decide +kernel
theorem d_Fa_standsIn_17 : decode b_Fa_standsIn 17 = .ok (.iload_n 3, 1) := by decide +kernel
theorem d_Fa_standsIn_18 : decode b_Fa_standsIn 18 = .ok (.invokevirtual 53, 3) := by decide +kernel
theorem d_Fa_standsIn_21 : decode b_Fa_standsIn 21 = .ok (.checkcast 122, 3) := by decide +kernel
theorem d_Fa_standsIn_24 : decode b_Fa_standsIn 24 = .ok (.astore 4, 2) := by decide +kernel
theorem d_Fa_standsIn_26 : decode b_Fa_standsIn 26 = .ok (.aload 4, 2) := by decide +kernel
theorem d_Fa_standsIn_28 : decode b_Fa_standsIn 28 = .ok (.getfield 124, 3) := by decide +kernel
theorem d_Fa_standsIn_31 : decode b_Fa_standsIn 31 = .ok (.iconst 2, 1) := by decide +kernel
theorem d_Fa_standsIn_32 : decode b_Fa_standsIn 32 = .ok (.if_icmp .ne 23, 3) := by decide +kernel
theorem d_Fa_standsIn_35 : decode b_Fa_standsIn 35 = .ok (.aload 4, 2) := by decide +kernel
theorem d_Fa_standsIn_37 : decode b_Fa_standsIn 37 = .ok (.getfield 127, 3) := by decide +kernel
theorem d_Fa_standsIn_40 : decode b_Fa_standsIn 40 = .ok (.iload_n 1, 1) := by decide +kernel
theorem d_Fa_standsIn_41 : decode b_Fa_standsIn 41 = .ok (.if_icmp .ne 14, 3) := by decide +kernel
theorem d_Fa_standsIn_44 : decode b_Fa_standsIn 44 = .ok (.aload 4, 2) := by decide +kernel
theorem d_Fa_standsIn_46 : decode b_Fa_standsIn 46 = .ok (.getfield 128, 3) := by decide +kernel
theorem d_Fa_standsIn_49 : decode b_Fa_standsIn 49 = .ok (.iload_n 2, 1) := by decide +kernel
theorem d_Fa_standsIn_50 : decode b_Fa_standsIn 50 = .ok (.if_icmp .ne 5, 3) := by decide +kernel
theorem d_Fa_standsIn_53 : decode b_Fa_standsIn 53 = .ok (.iconst 1, 1) := by decide +kernel
theorem d_Fa_standsIn_54 : decode b_Fa_standsIn 54 = .ok (.ireturn, 1) := by decide +kernel
theorem d_Fa_standsIn_55 : decode b_Fa_standsIn 55 = .ok (.iinc 3 1, 3) := by decide +kernel
theorem d_Fa_standsIn_58 : decode b_Fa_standsIn 58 = .ok (.goto (-56), 3) := by decide +kernel
theorem d_Fa_standsIn_61 : decode b_Fa_standsIn 61 = .ok (.iconst 0, 1) := by decide +kernel
theorem d_Fa_standsIn_62 : decode b_Fa_standsIn 62 = .ok (.ireturn, 1) := by decide +kernel
theorem d_Fa_joinedTo_0 : decode b_Fa_joinedTo 0 = .ok (.iload_n 1, 1) := by decide +kernel
theorem d_Fa_joinedTo_1 : decode b_Fa_joinedTo 1 = .ok (.istore_n 3, 1) := by decide +kernel
theorem d_Fa_joinedTo_2 : decode b_Fa_joinedTo 2 = .ok (.iconst 0, 1) := by decide +kernel
theorem d_Fa_joinedTo_3 : decode b_Fa_joinedTo 3 = .ok (.istore 4, 2) := by decide +kernel
theorem d_Fa_joinedTo_5 : decode b_Fa_joinedTo 5 = .ok (.iload 4, 2) := by decide +kernel
theorem d_Fa_joinedTo_7 : decode b_Fa_joinedTo 7 = .ok (.bipush 8, 2) := by decide +kernel
theorem d_Fa_joinedTo_9 : decode b_Fa_joinedTo 9 = .ok (.if_icmp .ge 19, 3) := by decide +kernel
theorem d_Fa_joinedTo_12 : decode b_Fa_joinedTo 12 = .ok (.iload_n 3, 1) := by decide +kernel
theorem d_Fa_joinedTo_13 : decode b_Fa_joinedTo 13 = .ok (.iload_n 2, 1) := by decide +kernel
theorem d_Fa_joinedTo_14 : decode b_Fa_joinedTo 14 = .ok (.aload_n 0, 1) := by decide +kernel
theorem d_Fa_joinedTo_15 : decode b_Fa_joinedTo 15 = .ok (.iload_n 3, 1) := by decide +kernel
theorem d_Fa_joinedTo_16 : decode b_Fa_joinedTo 16 = .ok (.invokevirtual 129, 3) := by decide +kernel
theorem d_Fa_joinedTo_19 : decode b_Fa_joinedTo 19 = .ok (.iand, 1) := by decide +kernel
theorem d_Fa_joinedTo_20 : decode b_Fa_joinedTo 20 = .ok (.ior, 1) := by decide +kernel
theorem d_Fa_joinedTo_21 : decode b_Fa_joinedTo 21 = .ok (.istore_n 3, 1) := by decide +kernel
theorem d_Fa_joinedTo_22 : decode b_Fa_joinedTo 22 = .ok (.iinc 4 1, 3) := by decide +kernel
theorem d_Fa_joinedTo_25 : decode b_Fa_joinedTo 25 = .ok (.goto (-20), 3) := by decide +kernel
theorem d_Fa_joinedTo_28 : decode b_Fa_joinedTo 28 = .ok (.iload_n 3, 1) := by decide +kernel
theorem d_Fa_joinedTo_29 : decode b_Fa_joinedTo 29 = .ok (.ireturn, 1) := by decide +kernel
theorem d_Fa_relatedTo_0 : decode b_Fa_relatedTo 0 = .ok (.iconst 0, 1) := by decide +kernel
theorem d_Fa_relatedTo_1 : decode b_Fa_relatedTo 1 = .ok (.istore_n 2, 1) := by decide +kernel
theorem d_Fa_relatedTo_2 : decode b_Fa_relatedTo 2 = .ok (.iconst 0, 1) := by decide +kernel
theorem d_Fa_relatedTo_3 : decode b_Fa_relatedTo 3 = .ok (.istore_n 3, 1) := by decide +kernel
theorem d_Fa_relatedTo_4 : decode b_Fa_relatedTo 4 = .ok (.iload_n 3, 1) := by decide +kernel
theorem d_Fa_relatedTo_5 : decode b_Fa_relatedTo 5 = .ok (.bipush 8, 2) := by decide +kernel
theorem d_Fa_relatedTo_7 : decode b_Fa_relatedTo 7 = .ok (.if_icmp .ge 40, 3) := by decide +kernel
theorem d_Fa_relatedTo_10 : decode b_Fa_relatedTo 10 = .ok (.iload_n 3, 1) := by decide +kernel
theorem d_Fa_relatedTo_11 : decode b_Fa_relatedTo 11 = .ok (.aload_n 0, 1) := by decide +kernel
theorem d_Fa_relatedTo_12 : decode b_Fa_relatedTo 12 = .ok (.getfield 9, 3) := by decide +kernel
theorem d_Fa_relatedTo_15 : decode b_Fa_relatedTo 15 = .ok (.getfield 91, 3) := by decide +kernel
theorem d_Fa_relatedTo_18 : decode b_Fa_relatedTo 18 = .ok (.invokevirtual 48, 3) := by decide +kernel
theorem d_Fa_relatedTo_21 : decode b_Fa_relatedTo 21 = .ok (.if_icmp .ge 26, 3) := by decide +kernel
theorem d_Fa_relatedTo_24 : decode b_Fa_relatedTo 24 = .ok (.iload_n 1, 1) := by decide +kernel
theorem d_Fa_relatedTo_25 : decode b_Fa_relatedTo 25 = .ok (.iload_n 3, 1) := by decide +kernel
theorem d_Fa_relatedTo_26 : decode b_Fa_relatedTo 26 = .ok (.invokestatic 132, 3) := by decide +kernel
theorem d_Fa_relatedTo_29 : decode b_Fa_relatedTo 29 = .ok (.ifCond .eq 12, 3) := by decide +kernel
theorem d_Fa_relatedTo_32 : decode b_Fa_relatedTo 32 = .ok (.iload_n 2, 1) := by decide +kernel
theorem d_Fa_relatedTo_33 : decode b_Fa_relatedTo 33 = .ok (.aload_n 0, 1) := by decide +kernel
theorem d_Fa_relatedTo_34 : decode b_Fa_relatedTo 34 = .ok (.getfield 15, 3) := by decide +kernel
theorem d_Fa_relatedTo_37 : decode b_Fa_relatedTo 37 = .ok (.iload_n 3, 1) := by decide +kernel
theorem d_Fa_relatedTo_38 : decode b_Fa_relatedTo 38 = .ok (.iaload, 1) := by decide +kernel
theorem d_Fa_relatedTo_39 : decode b_Fa_relatedTo 39 = .ok (.ior, 1) := by decide +kernel
theorem d_Fa_relatedTo_40 : decode b_Fa_relatedTo 40 = .ok (.istore_n 2, 1) := by decide +kernel
theorem d_Fa_relatedTo_41 : decode b_Fa_relatedTo 41 = .ok (.iinc 3 1, 3) := by decide +kernel
theorem d_Fa_relatedTo_44 : decode b_Fa_relatedTo 44 = .ok (.goto (-40), 3) := by decide +kernel
theorem d_Fa_relatedTo_47 : decode b_Fa_relatedTo 47 = .ok (.iload_n 2, 1) := by decide +kernel
theorem d_Fa_relatedTo_48 : decode b_Fa_relatedTo 48 = .ok (.ireturn, 1) := by decide +kernel
theorem d_Fa_giveNames_0 : decode b_Fa_giveNames 0 = .ok (.iconst 0, 1) := by decide +kernel
theorem d_Fa_giveNames_1 : decode b_Fa_giveNames 1 = .ok (.istore_n 1, 1) := by decide +kernel
theorem d_Fa_giveNames_2 : decode b_Fa_giveNames 2 = .ok (.iload_n 1, 1) := by decide +kernel
theorem d_Fa_giveNames_3 : decode b_Fa_giveNames 3 = .ok (.aload_n 0, 1) := by decide +kernel
theorem d_Fa_giveNames_4 : decode b_Fa_giveNames 4 = .ok (.getfield 35, 3) := by decide +kernel
theorem d_Fa_giveNames_7 : decode b_Fa_giveNames 7 = .ok (.if_icmp .ge 34, 3) := by decide +kernel
theorem d_Fa_giveNames_10 : decode b_Fa_giveNames 10 = .ok (.aload_n 0, 1) := by decide +kernel
theorem d_Fa_giveNames_11 : decode b_Fa_giveNames 11 = .ok (.getfield 28, 3) := by decide +kernel
theorem d_Fa_giveNames_14 : decode b_Fa_giveNames 14 = .ok (.iload_n 1, 1) := by decide +kernel
theorem d_Fa_giveNames_15 : decode b_Fa_giveNames 15 = .ok (.aload_n 0, 1) := by decide +kernel
theorem d_Fa_giveNames_16 : decode b_Fa_giveNames 16 = .ok (.getfield 31, 3) := by decide +kernel
theorem d_Fa_giveNames_19 : decode b_Fa_giveNames 19 = .ok (.iload_n 1, 1) := by decide +kernel
theorem d_Fa_giveNames_20 : decode b_Fa_giveNames 20 = .ok (.baload, 1) := by decide +kernel
theorem d_Fa_giveNames_21 : decode b_Fa_giveNames 21 = .ok (.ifCond .eq 12, 3) := by decide +kernel
theorem d_Fa_giveNames_24 : decode b_Fa_giveNames 24 = .ok (.aload_n 0, 1) := by decide +kernel
theorem d_Fa_giveNames_25 : decode b_Fa_giveNames 25 = .ok (.getfield 19, 3) := by decide +kernel
theorem d_Fa_giveNames_28 : decode b_Fa_giveNames 28 = .ok (.iload_n 1, 1) := by decide +kernel
theorem d_Fa_giveNames_29 : decode b_Fa_giveNames 29 = .ok (.iaload, 1) := by decide +kernel
theorem d_Fa_giveNames_30 : decode b_Fa_giveNames 30 = .ok (.goto 4, 3) := by decide +kernel
theorem d_Fa_giveNames_33 : decode b_Fa_giveNames 33 = .ok (.iconst (-1), 1) := by decide +kernel
theorem d_Fa_giveNames_34 : decode b_Fa_giveNames 34 = .ok (.iastore, 1) := by decide +kernel
theorem d_Fa_giveNames_35 : decode b_Fa_giveNames 35 = .ok (.iinc 1 1, 3) := by decide +kernel
theorem d_Fa_giveNames_38 : decode b_Fa_giveNames 38 = .ok (.goto (-36), 3) := by decide +kernel
theorem d_Fa_giveNames_41 : decode b_Fa_giveNames 41 = .ok (.iconst 0, 1) := by decide +kernel
theorem d_Fa_giveNames_42 : decode b_Fa_giveNames 42 = .ok (.istore_n 1, 1) := by decide +kernel
theorem d_Fa_giveNames_43 : decode b_Fa_giveNames 43 = .ok (.iload_n 1, 1) := by decide +kernel
theorem d_Fa_giveNames_44 : decode b_Fa_giveNames 44 = .ok (.aload_n 0, 1) := by decide +kernel
theorem d_Fa_giveNames_45 : decode b_Fa_giveNames 45 = .ok (.getfield 35, 3) := by decide +kernel
theorem d_Fa_giveNames_48 : decode b_Fa_giveNames 48 = .ok (.if_icmp .ge 29, 3) := by decide +kernel
theorem d_Fa_giveNames_51 : decode b_Fa_giveNames 51 = .ok (.aload_n 0, 1) := by decide +kernel
theorem d_Fa_giveNames_52 : decode b_Fa_giveNames 52 = .ok (.getfield 31, 3) := by decide +kernel
theorem d_Fa_giveNames_55 : decode b_Fa_giveNames 55 = .ok (.iload_n 1, 1) := by decide +kernel
theorem d_Fa_giveNames_56 : decode b_Fa_giveNames 56 = .ok (.baload, 1) := by decide +kernel
theorem d_Fa_giveNames_57 : decode b_Fa_giveNames 57 = .ok (.ifCond .ne 14, 3) := by decide +kernel
theorem d_Fa_giveNames_60 : decode b_Fa_giveNames 60 = .ok (.aload_n 0, 1) := by decide +kernel
theorem d_Fa_giveNames_61 : decode b_Fa_giveNames 61 = .ok (.getfield 28, 3) := by decide +kernel
theorem d_Fa_giveNames_64 : decode b_Fa_giveNames 64 = .ok (.iload_n 1, 1) := by decide +kernel
theorem d_Fa_giveNames_65 : decode b_Fa_giveNames 65 = .ok (.aload_n 0, 1) := by decide +kernel
theorem d_Fa_giveNames_66 : decode b_Fa_giveNames 66 = .ok (.iload_n 1, 1) := by decide +kernel
theorem d_Fa_giveNames_67 : decode b_Fa_giveNames 67 = .ok (.invokevirtual 80, 3) := by decide +kernel
theorem d_Fa_giveNames_70 : decode b_Fa_giveNames 70 = .ok (.iastore, 1) := by decide +kernel
theorem d_Fa_giveNames_71 : decode b_Fa_giveNames 71 = .ok (.iinc 1 1, 3) := by decide +kernel
theorem d_Fa_giveNames_74 : decode b_Fa_giveNames 74 = .ok (.goto (-31), 3) := by decide +kernel
theorem d_Fa_giveNames_77 : decode b_Fa_giveNames 77 = .ok (.return_, 1) := by decide +kernel
theorem d_Fa_leastFreeName_0 : decode b_Fa_leastFreeName 0 = .ok (.aload_n 0, 1) := by decide +kernel
theorem d_Fa_leastFreeName_1 : decode b_Fa_leastFreeName 1 = .ok (.aload_n 0, 1) := by decide +kernel
theorem d_Fa_leastFreeName_2 : decode b_Fa_leastFreeName 2 = .ok (.getfield 25, 3) := by decide +kernel
theorem d_Fa_leastFreeName_5 : decode b_Fa_leastFreeName 5 = .ok (.iload_n 1, 1) := by decide +kernel
theorem d_Fa_leastFreeName_6 : decode b_Fa_leastFreeName 6 = .ok (.iaload, 1) := by decide +kernel
theorem d_Fa_leastFreeName_7 : decode b_Fa_leastFreeName 7 = .ok (.invokevirtual 129, 3) := by decide +kernel
theorem d_Fa_leastFreeName_10 : decode b_Fa_leastFreeName 10 = .ok (.istore_n 2, 1) := by decide +kernel
theorem d_Fa_leastFreeName_11 : decode b_Fa_leastFreeName 11 = .ok (.iconst 0, 1) := by decide +kernel
theorem d_Fa_leastFreeName_12 : decode b_Fa_leastFreeName 12 = .ok (.istore_n 3, 1) := by decide +kernel
theorem d_Fa_leastFreeName_13 : decode b_Fa_leastFreeName 13 = .ok (.iconst 0, 1) := by decide +kernel
theorem d_Fa_leastFreeName_14 : decode b_Fa_leastFreeName 14 = .ok (.istore 4, 2) := by decide +kernel
theorem d_Fa_leastFreeName_16 : decode b_Fa_leastFreeName 16 = .ok (.iload 4, 2) := by decide +kernel
theorem d_Fa_leastFreeName_18 : decode b_Fa_leastFreeName 18 = .ok (.aload_n 0, 1) := by decide +kernel
theorem d_Fa_leastFreeName_19 : decode b_Fa_leastFreeName 19 = .ok (.getfield 35, 3) := by decide +kernel
theorem d_Fa_leastFreeName_22 : decode b_Fa_leastFreeName 22 = .ok (.if_icmp .ge 72, 3) := by decide +kernel
theorem d_Fa_leastFreeName_25 : decode b_Fa_leastFreeName 25 = .ok (.aload_n 0, 1) := by decide +kernel
theorem d_Fa_leastFreeName_26 : decode b_Fa_leastFreeName 26 = .ok (.getfield 22, 3) := by decide +kernel
theorem d_Fa_leastFreeName_29 : decode b_Fa_leastFreeName 29 = .ok (.iload 4, 2) := by decide +kernel
theorem d_Fa_leastFreeName_31 : decode b_Fa_leastFreeName 31 = .ok (.iaload, 1) := by decide +kernel
theorem d_Fa_leastFreeName_32 : decode b_Fa_leastFreeName 32 = .ok (.aload_n 0, 1) := by decide +kernel
theorem d_Fa_leastFreeName_33 : decode b_Fa_leastFreeName 33 = .ok (.getfield 22, 3) := by decide +kernel
theorem d_Fa_leastFreeName_36 : decode b_Fa_leastFreeName 36 = .ok (.iload_n 1, 1) := by decide +kernel
theorem d_Fa_leastFreeName_37 : decode b_Fa_leastFreeName 37 = .ok (.iaload, 1) := by decide +kernel
theorem d_Fa_leastFreeName_38 : decode b_Fa_leastFreeName 38 = .ok (.if_icmp .ne 19, 3) := by decide +kernel
theorem d_Fa_leastFreeName_41 : decode b_Fa_leastFreeName 41 = .ok (.aload_n 0, 1) := by decide +kernel
theorem d_Fa_leastFreeName_42 : decode b_Fa_leastFreeName 42 = .ok (.getfield 25, 3) := by decide +kernel
theorem d_Fa_leastFreeName_45 : decode b_Fa_leastFreeName 45 = .ok (.iload 4, 2) := by decide +kernel
theorem d_Fa_leastFreeName_47 : decode b_Fa_leastFreeName 47 = .ok (.iaload, 1) := by decide +kernel
theorem d_Fa_leastFreeName_48 : decode b_Fa_leastFreeName 48 = .ok (.iload_n 2, 1) := by decide +kernel
theorem d_Fa_leastFreeName_49 : decode b_Fa_leastFreeName 49 = .ok (.iand, 1) := by decide +kernel
theorem d_Fa_leastFreeName_50 : decode b_Fa_leastFreeName 50 = .ok (.ifCond .eq 7, 3) := by decide +kernel
theorem d_Fa_leastFreeName_53 : decode b_Fa_leastFreeName 53 = .ok (.iconst 1, 1) := by decide +kernel
theorem d_Fa_leastFreeName_54 : decode b_Fa_leastFreeName 54 = .ok (.goto 4, 3) := by decide +kernel
theorem d_Fa_leastFreeName_57 : decode b_Fa_leastFreeName 57 = .ok (.iconst 0, 1) := by decide +kernel
theorem d_Fa_leastFreeName_58 : decode b_Fa_leastFreeName 58 = .ok (.istore 5, 2) := by decide +kernel
theorem d_Fa_leastFreeName_60 : decode b_Fa_leastFreeName 60 = .ok (.iload 5, 2) := by decide +kernel
theorem d_Fa_leastFreeName_62 : decode b_Fa_leastFreeName 62 = .ok (.ifCond .eq 26, 3) := by decide +kernel
theorem d_Fa_leastFreeName_65 : decode b_Fa_leastFreeName 65 = .ok (.aload_n 0, 1) := by decide +kernel
theorem d_Fa_leastFreeName_66 : decode b_Fa_leastFreeName 66 = .ok (.getfield 28, 3) := by decide +kernel
theorem d_Fa_leastFreeName_69 : decode b_Fa_leastFreeName 69 = .ok (.iload 4, 2) := by decide +kernel
theorem d_Fa_leastFreeName_71 : decode b_Fa_leastFreeName 71 = .ok (.iaload, 1) := by decide +kernel
theorem d_Fa_leastFreeName_72 : decode b_Fa_leastFreeName 72 = .ok (.iconst (-1), 1) := by decide +kernel
theorem d_Fa_leastFreeName_73 : decode b_Fa_leastFreeName 73 = .ok (.if_icmp .eq 15, 3) := by decide +kernel
theorem d_Fa_leastFreeName_76 : decode b_Fa_leastFreeName 76 = .ok (.iload_n 3, 1) := by decide +kernel
theorem d_Fa_leastFreeName_77 : decode b_Fa_leastFreeName 77 = .ok (.iconst 1, 1) := by decide +kernel
theorem d_Fa_leastFreeName_78 : decode b_Fa_leastFreeName 78 = .ok (.aload_n 0, 1) := by decide +kernel
theorem d_Fa_leastFreeName_79 : decode b_Fa_leastFreeName 79 = .ok (.getfield 28, 3) := by decide +kernel
theorem d_Fa_leastFreeName_82 : decode b_Fa_leastFreeName 82 = .ok (.iload 4, 2) := by decide +kernel
theorem d_Fa_leastFreeName_84 : decode b_Fa_leastFreeName 84 = .ok (.iaload, 1) := by decide +kernel
theorem d_Fa_leastFreeName_85 : decode b_Fa_leastFreeName 85 = .ok (.ishl, 1) := by decide +kernel
theorem d_Fa_leastFreeName_86 : decode b_Fa_leastFreeName 86 = .ok (.ior, 1) := by decide +kernel
theorem d_Fa_leastFreeName_87 : decode b_Fa_leastFreeName 87 = .ok (.istore_n 3, 1) := by decide +kernel
theorem d_Fa_leastFreeName_88 : decode b_Fa_leastFreeName 88 = .ok (.iinc 4 1, 3) := by decide +kernel
theorem d_Fa_leastFreeName_91 : decode b_Fa_leastFreeName 91 = .ok (.goto (-75), 3) := by decide +kernel
theorem d_Fa_leastFreeName_94 : decode b_Fa_leastFreeName 94 = .ok (.iconst 0, 1) := by decide +kernel
theorem d_Fa_leastFreeName_95 : decode b_Fa_leastFreeName 95 = .ok (.istore 4, 2) := by decide +kernel
theorem d_Fa_leastFreeName_97 : decode b_Fa_leastFreeName 97 = .ok (.iload 4, 2) := by decide +kernel
theorem d_Fa_leastFreeName_99 : decode b_Fa_leastFreeName 99 = .ok (.bipush 26, 2) := by decide +kernel
theorem d_Fa_leastFreeName_101 : decode b_Fa_leastFreeName 101 = .ok (.if_icmp .ge 18, 3) := by decide +kernel
theorem d_Fa_leastFreeName_104 : decode b_Fa_leastFreeName 104 = .ok (.iload_n 3, 1) := by decide +kernel
theorem d_Fa_leastFreeName_105 : decode b_Fa_leastFreeName 105 = .ok (.iload 4, 2) := by decide +kernel
theorem d_Fa_leastFreeName_107 : decode b_Fa_leastFreeName 107 = .ok (.invokestatic 132, 3) := by decide +kernel
theorem d_Fa_leastFreeName_110 : decode b_Fa_leastFreeName 110 = .ok (.ifCond .eq 9, 3) := by decide +kernel
theorem d_Fa_leastFreeName_113 : decode b_Fa_leastFreeName 113 = .ok (.iinc 4 1, 3) := by decide +kernel
theorem d_Fa_leastFreeName_116 : decode b_Fa_leastFreeName 116 = .ok (.goto (-19), 3) := by decide +kernel
theorem d_Fa_leastFreeName_119 : decode b_Fa_leastFreeName 119 = .ok (.iload 4, 2) := by decide +kernel
theorem d_Fa_leastFreeName_121 : decode b_Fa_leastFreeName 121 = .ok (.ireturn, 1) := by decide +kernel
theorem d_Fa_writeNames_0 : decode b_Fa_writeNames 0 = .ok (.iconst 0, 1) := by decide +kernel
theorem d_Fa_writeNames_1 : decode b_Fa_writeNames 1 = .ok (.istore_n 1, 1) := by decide +kernel
theorem d_Fa_writeNames_2 : decode b_Fa_writeNames 2 = .ok (.iload_n 1, 1) := by decide +kernel
theorem d_Fa_writeNames_3 : decode b_Fa_writeNames 3 = .ok (.aload_n 0, 1) := by decide +kernel
theorem d_Fa_writeNames_4 : decode b_Fa_writeNames 4 = .ok (.getfield 9, 3) := by decide +kernel
theorem d_Fa_writeNames_7 : decode b_Fa_writeNames 7 = .ok (.getfield 42, 3) := by decide +kernel
theorem d_Fa_writeNames_10 : decode b_Fa_writeNames 10 = .ok (.invokevirtual 48, 3) := by decide +kernel
theorem d_Fa_writeNames_13 : decode b_Fa_writeNames 13 = .ok (.if_icmp .ge 27, 3) := by decide +kernel
theorem d_Fa_writeNames_16 : decode b_Fa_writeNames 16 = .ok (.aload_n 0, 1) := by decide +kernel
theorem d_Fa_writeNames_17 : decode b_Fa_writeNames 17 = .ok (.aload_n 0, 1) := by decide +kernel
theorem d_Fa_writeNames_18 : decode b_Fa_writeNames 18 = .ok (.getfield 9, 3) := by decide +kernel
theorem d_Fa_writeNames_21 : decode b_Fa_writeNames 21 = .ok (.getfield 42, 3) := by decide +kernel
theorem d_Fa_writeNames_24 : decode b_Fa_writeNames 24 = .ok (.iload_n 1, 1) := by decide +kernel
theorem d_Fa_writeNames_25 : decode b_Fa_writeNames 25 = .ok (.invokevirtual 53, 3) := by decide +kernel
theorem d_Fa_writeNames_28 : decode b_Fa_writeNames 28 = .ok (.checkcast 57, 3) := by decide +kernel
theorem d_Fa_writeNames_31 : decode b_Fa_writeNames 31 = .ok (.invokevirtual 84, 3) := by decide +kernel
theorem d_Fa_writeNames_34 : decode b_Fa_writeNames 34 = .ok (.iinc 1 1, 3) := by decide +kernel
theorem d_Fa_writeNames_37 : decode b_Fa_writeNames 37 = .ok (.goto (-35), 3) := by decide +kernel
theorem d_Fa_writeNames_40 : decode b_Fa_writeNames 40 = .ok (.iconst 0, 1) := by decide +kernel
theorem d_Fa_writeNames_41 : decode b_Fa_writeNames 41 = .ok (.istore_n 1, 1) := by decide +kernel
theorem d_Fa_writeNames_42 : decode b_Fa_writeNames 42 = .ok (.iload_n 1, 1) := by decide +kernel
theorem d_Fa_writeNames_43 : decode b_Fa_writeNames 43 = .ok (.aload_n 0, 1) := by decide +kernel
theorem d_Fa_writeNames_44 : decode b_Fa_writeNames 44 = .ok (.getfield 9, 3) := by decide +kernel
theorem d_Fa_writeNames_47 : decode b_Fa_writeNames 47 = .ok (.getfield 42, 3) := by decide +kernel
theorem d_Fa_writeNames_50 : decode b_Fa_writeNames 50 = .ok (.invokevirtual 48, 3) := by decide +kernel
theorem d_Fa_writeNames_53 : decode b_Fa_writeNames 53 = .ok (.if_icmp .ge 44, 3) := by decide +kernel
theorem d_Fa_writeNames_56 : decode b_Fa_writeNames 56 = .ok (.aload_n 0, 1) := by decide +kernel
theorem d_Fa_writeNames_57 : decode b_Fa_writeNames 57 = .ok (.getfield 9, 3) := by decide +kernel
theorem d_Fa_writeNames_60 : decode b_Fa_writeNames 60 = .ok (.getfield 42, 3) := by decide +kernel
theorem d_Fa_writeNames_63 : decode b_Fa_writeNames 63 = .ok (.iload_n 1, 1) := by decide +kernel
theorem d_Fa_writeNames_64 : decode b_Fa_writeNames 64 = .ok (.invokevirtual 53, 3) := by decide +kernel
theorem d_Fa_writeNames_67 : decode b_Fa_writeNames 67 = .ok (.checkcast 57, 3) := by decide +kernel
theorem d_Fa_writeNames_70 : decode b_Fa_writeNames 70 = .ok (.astore_n 2, 1) := by decide +kernel
theorem d_Fa_writeNames_71 : decode b_Fa_writeNames 71 = .ok (.aload_n 2, 1) := by decide +kernel
theorem d_Fa_writeNames_72 : decode b_Fa_writeNames 72 = .ok (.aload_n 0, 1) := by decide +kernel
theorem d_Fa_writeNames_73 : decode b_Fa_writeNames 73 = .ok (.aload_n 2, 1) := by decide +kernel
theorem d_Fa_writeNames_74 : decode b_Fa_writeNames 74 = .ok (.getfield 59, 3) := by decide +kernel
theorem d_Fa_writeNames_77 : decode b_Fa_writeNames 77 = .ok (.aload_n 2, 1) := by decide +kernel
theorem d_Fa_writeNames_78 : decode b_Fa_writeNames 78 = .ok (.getfield 63, 3) := by decide +kernel
theorem d_Fa_writeNames_81 : decode b_Fa_writeNames 81 = .ok (.aload_n 2, 1) := by decide +kernel
theorem d_Fa_writeNames_82 : decode b_Fa_writeNames 82 = .ok (.getfield 66, 3) := by decide +kernel
theorem d_Fa_writeNames_85 : decode b_Fa_writeNames 85 = .ok (.invokevirtual 88, 3) := by decide +kernel
theorem d_Fa_writeNames_88 : decode b_Fa_writeNames 88 = .ok (.putfield 63, 3) := by decide +kernel
theorem d_Fa_writeNames_91 : decode b_Fa_writeNames 91 = .ok (.iinc 1 1, 3) := by decide +kernel
theorem d_Fa_writeNames_94 : decode b_Fa_writeNames 94 = .ok (.goto (-52), 3) := by decide +kernel
theorem d_Fa_writeNames_97 : decode b_Fa_writeNames 97 = .ok (.return_, 1) := by decide +kernel
theorem d_Fa_writeItems_0 : decode b_Fa_writeItems 0 = .ok (.iconst 0, 1) := by decide +kernel
theorem d_Fa_writeItems_1 : decode b_Fa_writeItems 1 = .ok (.istore_n 2, 1) := by decide +kernel
theorem d_Fa_writeItems_2 : decode b_Fa_writeItems 2 = .ok (.iload_n 2, 1) := by decide +kernel
theorem d_Fa_writeItems_3 : decode b_Fa_writeItems 3 = .ok (.aload_n 1, 1) := by decide +kernel
theorem d_Fa_writeItems_4 : decode b_Fa_writeItems 4 = .ok (.getfield 119, 3) := by decide +kernel
theorem d_Fa_writeItems_7 : decode b_Fa_writeItems 7 = .ok (.invokevirtual 48, 3) := by decide +kernel
theorem d_Fa_writeItems_10 : decode b_Fa_writeItems 10 = .ok (.if_icmp .ge 109, 3) := by decide +kernel
theorem d_Fa_writeItems_13 : decode b_Fa_writeItems 13 = .ok (.aload_n 1, 1) := by decide +kernel
theorem d_Fa_writeItems_14 : decode b_Fa_writeItems 14 = .ok (.getfield 119, 3) := by decide +kernel
theorem d_Fa_writeItems_17 : decode b_Fa_writeItems 17 = .ok (.iload_n 2, 1) := by decide +kernel
theorem d_Fa_writeItems_18 : decode b_Fa_writeItems 18 = .ok (.invokevirtual 53, 3) := by decide +kernel
theorem d_Fa_writeItems_21 : decode b_Fa_writeItems 21 = .ok (.checkcast 122, 3) := by decide +kernel
theorem d_Fa_writeItems_24 : decode b_Fa_writeItems 24 = .ok (.astore_n 3, 1) := by decide +kernel
theorem d_Fa_writeItems_25 : decode b_Fa_writeItems 25 = .ok (.aload_n 3, 1) := by decide +kernel
theorem d_Fa_writeItems_26 : decode b_Fa_writeItems 26 = .ok (.getfield 136, 3) := by decide +kernel
theorem d_Fa_writeItems_29 : decode b_Fa_writeItems 29 = .ok (.ifnull 56, 3) := by decide +kernel
theorem d_Fa_writeItems_32 : decode b_Fa_writeItems 32 = .ok (.aload_n 3, 1) := by decide +kernel
theorem d_Fa_writeItems_33 : decode b_Fa_writeItems 33 = .ok (.getfield 136, 3) := by decide +kernel
theorem d_Fa_writeItems_36 : decode b_Fa_writeItems 36 = .ok (.aload_n 3, 1) := by decide +kernel
theorem d_Fa_writeItems_37 : decode b_Fa_writeItems 37 = .ok (.getfield 127, 3) := by decide +kernel
theorem d_Fa_writeItems_40 : decode b_Fa_writeItems 40 = .ok (.aload_n 3, 1) := by decide +kernel
theorem d_Fa_writeItems_41 : decode b_Fa_writeItems 41 = .ok (.getfield 128, 3) := by decide +kernel
theorem d_Fa_writeItems_44 : decode b_Fa_writeItems 44 = .ok (.invokevirtual 139, 3) := by decide +kernel
theorem d_Fa_writeItems_47 : decode b_Fa_writeItems 47 = .ok (.astore 4, 2) := by decide +kernel
theorem d_Fa_writeItems_49 : decode b_Fa_writeItems 49 = .ok (.aload_n 3, 1) := by decide +kernel
theorem d_Fa_writeItems_50 : decode b_Fa_writeItems 50 = .ok (.aload 4, 2) := by decide +kernel
theorem d_Fa_writeItems_52 : decode b_Fa_writeItems 52 = .ok (.ifnonnull 8, 3) := by decide +kernel
theorem d_Fa_writeItems_55 : decode b_Fa_writeItems 55 = .ok (.bipush 26, 2) := by decide +kernel
theorem d_Fa_writeItems_57 : decode b_Fa_writeItems 57 = .ok (.goto 22, 3) := by decide +kernel
theorem d_Fa_writeItems_60 : decode b_Fa_writeItems 60 = .ok (.aload_n 0, 1) := by decide +kernel
theorem d_Fa_writeItems_61 : decode b_Fa_writeItems 61 = .ok (.aload 4, 2) := by decide +kernel
theorem d_Fa_writeItems_63 : decode b_Fa_writeItems 63 = .ok (.getfield 59, 3) := by decide +kernel
theorem d_Fa_writeItems_66 : decode b_Fa_writeItems 66 = .ok (.aload 4, 2) := by decide +kernel
theorem d_Fa_writeItems_68 : decode b_Fa_writeItems 68 = .ok (.getfield 63, 3) := by decide +kernel
theorem d_Fa_writeItems_71 : decode b_Fa_writeItems 71 = .ok (.aload 4, 2) := by decide +kernel
theorem d_Fa_writeItems_73 : decode b_Fa_writeItems 73 = .ok (.getfield 66, 3) := by decide +kernel
theorem d_Fa_writeItems_76 : decode b_Fa_writeItems 76 = .ok (.invokevirtual 88, 3) := by decide +kernel
theorem d_Fa_writeItems_79 : decode b_Fa_writeItems 79 = .ok (.putfield 127, 3) := by decide +kernel
theorem d_Fa_writeItems_82 : decode b_Fa_writeItems 82 = .ok (.goto 31, 3) := by decide +kernel
theorem d_Fa_writeItems_85 : decode b_Fa_writeItems 85 = .ok (.aload_n 3, 1) := by decide +kernel
theorem d_Fa_writeItems_86 : decode b_Fa_writeItems 86 = .ok (.getfield 124, 3) := by decide +kernel
theorem d_Fa_writeItems_89 : decode b_Fa_writeItems 89 = .ok (.iconst 2, 1) := by decide +kernel
theorem d_Fa_writeItems_90 : decode b_Fa_writeItems 90 = .ok (.if_icmp .ne 23, 3) := by decide +kernel
theorem d_Fa_writeItems_93 : decode b_Fa_writeItems 93 = .ok (.aload_n 3, 1) := by decide +kernel
theorem d_Fa_writeItems_94 : decode b_Fa_writeItems 94 = .ok (.aload_n 0, 1) := by decide +kernel
theorem d_Fa_writeItems_95 : decode b_Fa_writeItems 95 = .ok (.aload_n 1, 1) := by decide +kernel
theorem d_Fa_writeItems_96 : decode b_Fa_writeItems 96 = .ok (.getfield 59, 3) := by decide +kernel
theorem d_Fa_writeItems_99 : decode b_Fa_writeItems 99 = .ok (.aload_n 3, 1) := by decide +kernel
theorem d_Fa_writeItems_100 : decode b_Fa_writeItems 100 = .ok (.getfield 127, 3) := by decide +kernel
theorem d_Fa_writeItems_103 : decode b_Fa_writeItems 103 = .ok (.aload_n 3, 1) := by decide +kernel
theorem d_Fa_writeItems_104 : decode b_Fa_writeItems 104 = .ok (.getfield 128, 3) := by decide +kernel
theorem d_Fa_writeItems_107 : decode b_Fa_writeItems 107 = .ok (.invokevirtual 88, 3) := by decide +kernel
theorem d_Fa_writeItems_110 : decode b_Fa_writeItems 110 = .ok (.putfield 127, 3) := by decide +kernel
theorem d_Fa_writeItems_113 : decode b_Fa_writeItems 113 = .ok (.iinc 2 1, 3) := by decide +kernel
theorem d_Fa_writeItems_116 : decode b_Fa_writeItems 116 = .ok (.goto (-114), 3) := by decide +kernel
theorem d_Fa_writeItems_119 : decode b_Fa_writeItems 119 = .ok (.return_, 1) := by decide +kernel
theorem d_Fa_newNameOf_0 : decode b_Fa_newNameOf 0 = .ok (.aload_n 0, 1) := by decide +kernel
theorem d_Fa_newNameOf_1 : decode b_Fa_newNameOf 1 = .ok (.aload_n 1, 1) := by decide +kernel
theorem d_Fa_newNameOf_2 : decode b_Fa_newNameOf 2 = .ok (.iload_n 2, 1) := by decide +kernel
theorem d_Fa_newNameOf_3 : decode b_Fa_newNameOf 3 = .ok (.iload_n 3, 1) := by decide +kernel
theorem d_Fa_newNameOf_4 : decode b_Fa_newNameOf 4 = .ok (.invokevirtual 69, 3) := by decide +kernel
theorem d_Fa_newNameOf_7 : decode b_Fa_newNameOf 7 = .ok (.istore 4, 2) := by decide +kernel
theorem d_Fa_newNameOf_9 : decode b_Fa_newNameOf 9 = .ok (.iload 4, 2) := by decide +kernel
theorem d_Fa_newNameOf_11 : decode b_Fa_newNameOf 11 = .ok (.iconst (-1), 1) := by decide +kernel
theorem d_Fa_newNameOf_12 : decode b_Fa_newNameOf 12 = .ok (.if_icmp .ne 8, 3) := by decide +kernel
theorem d_Fa_newNameOf_15 : decode b_Fa_newNameOf 15 = .ok (.bipush 26, 2) := by decide +kernel
theorem d_Fa_newNameOf_17 : decode b_Fa_newNameOf 17 = .ok (.goto 10, 3) := by decide +kernel
theorem d_Fa_newNameOf_20 : decode b_Fa_newNameOf 20 = .ok (.aload_n 0, 1) := by decide +kernel
theorem d_Fa_newNameOf_21 : decode b_Fa_newNameOf 21 = .ok (.getfield 28, 3) := by decide +kernel
theorem d_Fa_newNameOf_24 : decode b_Fa_newNameOf 24 = .ok (.iload 4, 2) := by decide +kernel
theorem d_Fa_newNameOf_26 : decode b_Fa_newNameOf 26 = .ok (.iaload, 1) := by decide +kernel
theorem d_Fa_newNameOf_27 : decode b_Fa_newNameOf 27 = .ok (.ireturn, 1) := by decide +kernel
theorem d_Cs_count_0 : decode b_Cs_count 0 = .ok (.iload_n 1, 1) := by decide +kernel
theorem d_Cs_count_1 : decode b_Cs_count 1 = .ok (.tableswitch 92 0 4 #[35, 46, 57, 72, 87], 35) := by decide +kernel
theorem d_Cs_count_36 : decode b_Cs_count 36 = .ok (.aload_n 0, 1) := by decide +kernel
theorem d_Cs_count_37 : decode b_Cs_count 37 = .ok (.getfield 10, 3) := by decide +kernel
theorem d_Cs_count_40 : decode b_Cs_count 40 = .ok (.getfield 51, 3) := by decide +kernel
theorem d_Cs_count_43 : decode b_Cs_count 43 = .ok (.invokevirtual 55, 3) := by decide +kernel
theorem d_Cs_count_46 : decode b_Cs_count 46 = .ok (.ireturn, 1) := by decide +kernel
theorem d_Cs_count_47 : decode b_Cs_count 47 = .ok (.aload_n 0, 1) := by decide +kernel
theorem d_Cs_count_48 : decode b_Cs_count 48 = .ok (.getfield 10, 3) := by decide +kernel
theorem d_Cs_count_51 : decode b_Cs_count 51 = .ok (.getfield 87, 3) := by decide +kernel
theorem d_Cs_count_54 : decode b_Cs_count 54 = .ok (.invokevirtual 55, 3) := by decide +kernel
theorem d_Cs_count_57 : decode b_Cs_count 57 = .ok (.ireturn, 1) := by decide +kernel
theorem d_Cs_count_58 : decode b_Cs_count 58 = .ok (.aload_n 0, 1) := by decide +kernel
theorem d_Cs_count_59 : decode b_Cs_count 59 = .ok (.getfield 28, 3) := by decide +kernel
theorem d_Cs_count_62 : decode b_Cs_count 62 = .ok (.invokevirtual 126, 3) := by decide +kernel
theorem d_Cs_count_65 : decode b_Cs_count 65 = .ok (.aload_n 0, 1) := by decide +kernel
theorem d_Cs_count_66 : decode b_Cs_count 66 = .ok (.getfield 10, 3) := by decide +kernel
theorem d_Cs_count_69 : decode b_Cs_count 69 = .ok (.invokevirtual 176, 3) := by decide +kernel
theorem d_Cs_count_72 : decode b_Cs_count 72 = .ok (.ireturn, 1) := by decide +kernel
theorem d_Cs_count_73 : decode b_Cs_count 73 = .ok (.aload_n 0, 1) := by decide +kernel
theorem d_Cs_count_74 : decode b_Cs_count 74 = .ok (.getfield 28, 3) := by decide +kernel
theorem d_Cs_count_77 : decode b_Cs_count 77 = .ok (.invokevirtual 126, 3) := by decide +kernel
theorem d_Cs_count_80 : decode b_Cs_count 80 = .ok (.aload_n 0, 1) := by decide +kernel
theorem d_Cs_count_81 : decode b_Cs_count 81 = .ok (.getfield 10, 3) := by decide +kernel
theorem d_Cs_count_84 : decode b_Cs_count 84 = .ok (.invokevirtual 179, 3) := by decide +kernel
theorem d_Cs_count_87 : decode b_Cs_count 87 = .ok (.ireturn, 1) := by decide +kernel
theorem d_Cs_count_88 : decode b_Cs_count 88 = .ok (.aload_n 0, 1) := by decide +kernel
theorem d_Cs_count_89 : decode b_Cs_count 89 = .ok (.getfield 39, 3) := by decide +kernel
theorem d_Cs_count_92 : decode b_Cs_count 92 = .ok (.ireturn, 1) := by decide +kernel
theorem d_Cs_count_93 : decode b_Cs_count 93 = .ok (.iload_n 1, 1) := by decide +kernel
theorem d_Cs_count_94 : decode b_Cs_count 94 = .ok (.bipush 10, 2) := by decide +kernel
theorem d_Cs_count_96 : decode b_Cs_count 96 = .ok (.if_icmp .lt 14, 3) := by decide +kernel
theorem d_Cs_count_99 : decode b_Cs_count 99 = .ok (.aload_n 0, 1) := by decide +kernel
theorem d_Cs_count_100 : decode b_Cs_count 100 = .ok (.iload_n 1, 1) := by decide +kernel
theorem d_Cs_count_101 : decode b_Cs_count 101 = .ok (.bipush 10, 2) := by decide +kernel
theorem d_Cs_count_103 : decode b_Cs_count 103 = .ok (.isub, 1) := by decide +kernel
theorem d_Cs_count_104 : decode b_Cs_count 104 = .ok (.invokevirtual 182, 3) := by decide +kernel
theorem d_Cs_count_107 : decode b_Cs_count 107 = .ok (.goto 5, 3) := by decide +kernel
theorem d_Cs_count_110 : decode b_Cs_count 110 = .ok (.bipush (-2), 2) := by decide +kernel
theorem d_Cs_count_112 : decode b_Cs_count 112 = .ok (.ireturn, 1) := by decide +kernel
theorem d_Cs_parentOf_0 : decode b_Cs_parentOf 0 = .ok (.aload_n 0, 1) := by decide +kernel
theorem d_Cs_parentOf_1 : decode b_Cs_parentOf 1 = .ok (.iload_n 1, 1) := by decide +kernel
theorem d_Cs_parentOf_2 : decode b_Cs_parentOf 2 = .ok (.invokevirtual 43, 3) := by decide +kernel
theorem d_Cs_parentOf_5 : decode b_Cs_parentOf 5 = .ok (.ifCond .ne 6, 3) := by decide +kernel
theorem d_Cs_parentOf_8 : decode b_Cs_parentOf 8 = .ok (.bipush (-2), 2) := by decide +kernel
theorem d_Cs_parentOf_10 : decode b_Cs_parentOf 10 = .ok (.ireturn, 1) := by decide +kernel
theorem d_Cs_parentOf_11 : decode b_Cs_parentOf 11 = .ok (.aload_n 0, 1) := by decide +kernel
theorem d_Cs_parentOf_12 : decode b_Cs_parentOf 12 = .ok (.getfield 10, 3) := by decide +kernel
theorem d_Cs_parentOf_15 : decode b_Cs_parentOf 15 = .ok (.getfield 51, 3) := by decide +kernel
theorem d_Cs_parentOf_18 : decode b_Cs_parentOf 18 = .ok (.iload_n 1, 1) := by decide +kernel
theorem d_Cs_parentOf_19 : decode b_Cs_parentOf 19 = .ok (.invokevirtual 68, 3) := by decide +kernel
theorem d_Cs_parentOf_22 : decode b_Cs_parentOf 22 = .ok (.checkcast 72, 3) := by decide +kernel
theorem d_Cs_parentOf_25 : decode b_Cs_parentOf 25 = .ok (.getfield 185, 3) := by decide +kernel
theorem d_Cs_parentOf_28 : decode b_Cs_parentOf 28 = .ok (.astore_n 2, 1) := by decide +kernel
theorem d_Cs_parentOf_29 : decode b_Cs_parentOf 29 = .ok (.aload_n 2, 1) := by decide +kernel
theorem d_Cs_parentOf_30 : decode b_Cs_parentOf 30 = .ok (.ifnonnull 7, 3) := by decide +kernel
theorem d_Cs_parentOf_33 : decode b_Cs_parentOf 33 = .ok (.iconst (-1), 1) := by decide +kernel
theorem d_Cs_parentOf_34 : decode b_Cs_parentOf 34 = .ok (.goto 7, 3) := by decide +kernel
theorem d_Cs_parentOf_37 : decode b_Cs_parentOf 37 = .ok (.aload_n 2, 1) := by decide +kernel
theorem d_Cs_parentOf_38 : decode b_Cs_parentOf 38 = .ok (.getfield 147, 3) := by decide +kernel
theorem d_Cs_parentOf_41 : decode b_Cs_parentOf 41 = .ok (.ireturn, 1) := by decide +kernel
theorem d_Cs_isClass_0 : decode b_Cs_isClass 0 = .ok (.iload_n 1, 1) := by decide +kernel
theorem d_Cs_isClass_1 : decode b_Cs_isClass 1 = .ok (.ifCond .lt 21, 3) := by decide +kernel
theorem d_Cs_isClass_4 : decode b_Cs_isClass 4 = .ok (.iload_n 1, 1) := by decide +kernel
theorem d_Cs_isClass_5 : decode b_Cs_isClass 5 = .ok (.aload_n 0, 1) := by decide +kernel
theorem d_Cs_isClass_6 : decode b_Cs_isClass 6 = .ok (.getfield 10, 3) := by decide +kernel
theorem d_Cs_isClass_9 : decode b_Cs_isClass 9 = .ok (.getfield 51, 3) := by decide +kernel
theorem d_Cs_isClass_12 : decode b_Cs_isClass 12 = .ok (.invokevirtual 55, 3) := by decide +kernel
theorem d_Cs_isClass_15 : decode b_Cs_isClass 15 = .ok (.if_icmp .ge 7, 3) := by decide +kernel
theorem d_Cs_isClass_18 : decode b_Cs_isClass 18 = .ok (.iconst 1, 1) := by decide +kernel
theorem d_Cs_isClass_19 : decode b_Cs_isClass 19 = .ok (.goto 4, 3) := by decide +kernel
theorem d_Cs_isClass_22 : decode b_Cs_isClass 22 = .ok (.iconst 0, 1) := by decide +kernel
theorem d_Cs_isClass_23 : decode b_Cs_isClass 23 = .ok (.ireturn, 1) := by decide +kernel
theorem d_Cs_add_0 : decode b_Cs_add 0 = .ok (.iload_n 1, 1) := by decide +kernel
theorem d_Cs_add_1 : decode b_Cs_add 1 = .ok (.iconst (-1), 1) := by decide +kernel
theorem d_Cs_add_2 : decode b_Cs_add 2 = .ok (.if_icmp .eq 11, 3) := by decide +kernel
theorem d_Cs_add_5 : decode b_Cs_add 5 = .ok (.aload_n 0, 1) := by decide +kernel
theorem d_Cs_add_6 : decode b_Cs_add 6 = .ok (.iload_n 1, 1) := by decide +kernel
theorem d_Cs_add_7 : decode b_Cs_add 7 = .ok (.invokevirtual 43, 3) := by decide +kernel
theorem d_Cs_add_10 : decode b_Cs_add 10 = .ok (.ifCond .eq 7, 3) := by decide +kernel
theorem d_Cs_add_13 : decode b_Cs_add 13 = .ok (.iconst 1, 1) := by decide +kernel
theorem d_Cs_add_14 : decode b_Cs_add 14 = .ok (.goto 4, 3) := by decide +kernel
theorem d_Cs_add_17 : decode b_Cs_add 17 = .ok (.iconst 0, 1) := by decide +kernel
theorem d_Cs_add_18 : decode b_Cs_add 18 = .ok (.invokestatic 47, 3) := by decide +kernel
theorem d_Cs_add_21 : decode b_Cs_add 21 = .ok (.aload_n 0, 1) := by decide +kernel
theorem d_Cs_add_22 : decode b_Cs_add 22 = .ok (.getfield 10, 3) := by decide +kernel
theorem d_Cs_add_25 : decode b_Cs_add 25 = .ok (.getfield 51, 3) := by decide +kernel
theorem d_Cs_add_28 : decode b_Cs_add 28 = .ok (.invokevirtual 55, 3) := by decide +kernel
theorem d_Cs_add_31 : decode b_Cs_add 31 = .ok (.istore_n 2, 1) := by decide +kernel
theorem d_Cs_add_32 : decode b_Cs_add 32 = .ok (.iload_n 2, 1) := by decide +kernel
theorem d_Cs_add_33 : decode b_Cs_add 33 = .ok (.bipush 8, 2) := by decide +kernel
theorem d_Cs_add_35 : decode b_Cs_add 35 = .ok (.if_icmp .lt 13, 3) := by decide +kernel
theorem d_Cs_add_38 : decode b_Cs_add 38 = .ok (.new 61, 3) := by decide +kernel
theorem d_Cs_add_41 : decode b_Cs_add 41 = .ok (.dup, 1) := by decide +kernel
theorem d_Cs_add_42 : decode b_Cs_add 42 = .ok (.ldc 63, 2) := by decide +kernel
theorem d_Cs_add_44 : decode b_Cs_add 44 = .ok (.invokespecial 65, 3) := by decide +kernel
theorem d_Cs_add_47 : decode b_Cs_add 47 = .ok (.athrow, 1) := by decide +kernel
theorem d_Cs_add_48 : decode b_Cs_add 48 = .ok (.iload_n 1, 1) := by decide +kernel
theorem d_Cs_add_49 : decode b_Cs_add 49 = .ok (.iconst (-1), 1) := by decide +kernel
theorem d_Cs_add_50 : decode b_Cs_add 50 = .ok (.if_icmp .ne 7, 3) := by decide +kernel
theorem d_Cs_add_53 : decode b_Cs_add 53 = .ok (.aconst_null, 1) := by decide +kernel
theorem d_Cs_add_54 : decode b_Cs_add 54 = .ok (.goto 17, 3) := by decide +kernel
theorem d_Cs_add_57 : decode b_Cs_add 57 = .ok (.aload_n 0, 1) := by decide +kernel
theorem d_Cs_add_58 : decode b_Cs_add 58 = .ok (.getfield 10, 3) := by decide +kernel
theorem d_Cs_add_61 : decode b_Cs_add 61 = .ok (.getfield 51, 3) := by decide +kernel
theorem d_Cs_add_64 : decode b_Cs_add 64 = .ok (.iload_n 1, 1) := by decide +kernel
theorem d_Cs_add_65 : decode b_Cs_add 65 = .ok (.invokevirtual 68, 3) := by decide +kernel
theorem d_Cs_add_68 : decode b_Cs_add 68 = .ok (.checkcast 72, 3) := by decide +kernel
theorem d_Cs_add_71 : decode b_Cs_add 71 = .ok (.astore_n 3, 1) := by decide +kernel
theorem d_Cs_add_72 : decode b_Cs_add 72 = .ok (.aload_n 0, 1) := by decide +kernel
theorem d_Cs_add_73 : decode b_Cs_add 73 = .ok (.getfield 10, 3) := by decide +kernel
theorem d_Cs_add_76 : decode b_Cs_add 76 = .ok (.getfield 51, 3) := by decide +kernel
theorem d_Cs_add_79 : decode b_Cs_add 79 = .ok (.new 72, 3) := by decide +kernel
theorem d_Cs_add_82 : decode b_Cs_add 82 = .ok (.dup, 1) := by decide +kernel
theorem d_Cs_add_83 : decode b_Cs_add 83 = .ok (.iload_n 2, 1) := by decide +kernel
theorem d_Cs_add_84 : decode b_Cs_add 84 = .ok (.aload_n 3, 1) := by decide +kernel
theorem d_Cs_add_85 : decode b_Cs_add 85 = .ok (.invokespecial 74, 3) := by decide +kernel
theorem d_Cs_add_88 : decode b_Cs_add 88 = .ok (.invokevirtual 77, 3) := by decide +kernel
theorem d_Cs_add_91 : decode b_Cs_add 91 = .ok (.pop, 1) := by decide +kernel
theorem d_Cs_add_92 : decode b_Cs_add 92 = .ok (.iload_n 2, 1) := by decide +kernel
theorem d_Cs_add_93 : decode b_Cs_add 93 = .ok (.ireturn, 1) := by decide +kernel
theorem d_Cs_require_0 : decode b_Cs_require 0 = .ok (.iload_n 0, 1) := by decide +kernel
theorem d_Cs_require_1 : decode b_Cs_require 1 = .ok (.ifCond .ne 13, 3) := by decide +kernel
theorem d_Cs_require_4 : decode b_Cs_require 4 = .ok (.new 191, 3) := by decide +kernel
theorem d_Cs_require_7 : decode b_Cs_require 7 = .ok (.dup, 1) := by decide +kernel
theorem d_Cs_require_8 : decode b_Cs_require 8 = .ok (.ldc 193, 2) := by decide +kernel
theorem d_Cs_require_10 : decode b_Cs_require 10 = .ok (.invokespecial 195, 3) := by decide +kernel
theorem d_Cs_require_13 : decode b_Cs_require 13 = .ok (.athrow, 1) := by decide +kernel
theorem d_Cs_require_14 : decode b_Cs_require 14 = .ok (.return_, 1) := by decide +kernel
theorem d_Cs_method_0 : decode b_Cs_method 0 = .ok (.aload_n 0, 1) := by decide +kernel
theorem d_Cs_method_1 : decode b_Cs_method 1 = .ok (.iload_n 1, 1) := by decide +kernel
theorem d_Cs_method_2 : decode b_Cs_method 2 = .ok (.invokevirtual 43, 3) := by decide +kernel
theorem d_Cs_method_5 : decode b_Cs_method 5 = .ok (.ifCond .eq 21, 3) := by decide +kernel
theorem d_Cs_method_8 : decode b_Cs_method 8 = .ok (.iload_n 2, 1) := by decide +kernel
theorem d_Cs_method_9 : decode b_Cs_method 9 = .ok (.invokestatic 81, 3) := by decide +kernel
theorem d_Cs_method_12 : decode b_Cs_method 12 = .ok (.ifCond .eq 14, 3) := by decide +kernel
theorem d_Cs_method_15 : decode b_Cs_method 15 = .ok (.iload_n 3, 1) := by decide +kernel
theorem d_Cs_method_16 : decode b_Cs_method 16 = .ok (.invokestatic 84, 3) := by decide +kernel
theorem d_Cs_method_19 : decode b_Cs_method 19 = .ok (.ifCond .eq 7, 3) := by decide +kernel
theorem d_Cs_method_22 : decode b_Cs_method 22 = .ok (.iconst 1, 1) := by decide +kernel
theorem d_Cs_method_23 : decode b_Cs_method 23 = .ok (.goto 4, 3) := by decide +kernel
theorem d_Cs_method_26 : decode b_Cs_method 26 = .ok (.iconst 0, 1) := by decide +kernel
theorem d_Cs_method_27 : decode b_Cs_method 27 = .ok (.invokestatic 47, 3) := by decide +kernel
theorem d_Cs_method_30 : decode b_Cs_method 30 = .ok (.aload_n 0, 1) := by decide +kernel
theorem d_Cs_method_31 : decode b_Cs_method 31 = .ok (.getfield 10, 3) := by decide +kernel
theorem d_Cs_method_34 : decode b_Cs_method 34 = .ok (.getfield 87, 3) := by decide +kernel
theorem d_Cs_method_37 : decode b_Cs_method 37 = .ok (.invokevirtual 55, 3) := by decide +kernel
theorem d_Cs_method_40 : decode b_Cs_method 40 = .ok (.istore 4, 2) := by decide +kernel
theorem d_Cs_method_42 : decode b_Cs_method 42 = .ok (.aload_n 0, 1) := by decide +kernel
theorem d_Cs_method_43 : decode b_Cs_method 43 = .ok (.getfield 10, 3) := by decide +kernel
theorem d_Cs_method_46 : decode b_Cs_method 46 = .ok (.getfield 51, 3) := by decide +kernel
theorem d_Cs_method_49 : decode b_Cs_method 49 = .ok (.iload_n 1, 1) := by decide +kernel
theorem d_Cs_method_50 : decode b_Cs_method 50 = .ok (.invokevirtual 68, 3) := by decide +kernel
theorem d_Cs_method_53 : decode b_Cs_method 53 = .ok (.checkcast 72, 3) := by decide +kernel
theorem d_Cs_method_56 : decode b_Cs_method 56 = .ok (.astore 5, 2) := by decide +kernel
theorem d_Cs_method_58 : decode b_Cs_method 58 = .ok (.iload 4, 2) := by decide +kernel
theorem d_Cs_method_60 : decode b_Cs_method 60 = .ok (.bipush 24, 2) := by decide +kernel
theorem d_Cs_method_62 : decode b_Cs_method 62 = .ok (.if_icmp .ge 13, 3) := by decide +kernel
theorem d_Cs_method_65 : decode b_Cs_method 65 = .ok (.aload 5, 2) := by decide +kernel
theorem d_Cs_method_67 : decode b_Cs_method 67 = .ok (.iload_n 2, 1) := by decide +kernel
theorem d_Cs_method_68 : decode b_Cs_method 68 = .ok (.iload_n 3, 1) := by decide +kernel
theorem d_Cs_method_69 : decode b_Cs_method 69 = .ok (.invokevirtual 90, 3) := by decide +kernel
theorem d_Cs_method_72 : decode b_Cs_method 72 = .ok (.ifnull 13, 3) := by decide +kernel
theorem d_Cs_method_75 : decode b_Cs_method 75 = .ok (.new 61, 3) := by decide +kernel
theorem d_Cs_method_78 : decode b_Cs_method 78 = .ok (.dup, 1) := by decide +kernel
theorem d_Cs_method_79 : decode b_Cs_method 79 = .ok (.ldc 94, 2) := by decide +kernel
theorem d_Cs_method_81 : decode b_Cs_method 81 = .ok (.invokespecial 65, 3) := by decide +kernel
theorem d_Cs_method_84 : decode b_Cs_method 84 = .ok (.athrow, 1) := by decide +kernel
theorem d_Cs_method_85 : decode b_Cs_method 85 = .ok (.new 96, 3) := by decide +kernel
theorem d_Cs_method_88 : decode b_Cs_method 88 = .ok (.dup, 1) := by decide +kernel
theorem d_Cs_method_89 : decode b_Cs_method 89 = .ok (.iload 4, 2) := by decide +kernel
theorem d_Cs_method_91 : decode b_Cs_method 91 = .ok (.aload 5, 2) := by decide +kernel
theorem d_Cs_method_93 : decode b_Cs_method 93 = .ok (.iload_n 2, 1) := by decide +kernel
theorem d_Cs_method_94 : decode b_Cs_method 94 = .ok (.iload_n 3, 1) := by decide +kernel
theorem d_Cs_method_95 : decode b_Cs_method 95 = .ok (.invokespecial 98, 3) := by decide +kernel
theorem d_Cs_method_98 : decode b_Cs_method 98 = .ok (.astore 6, 2) := by decide +kernel
theorem d_Cs_method_100 : decode b_Cs_method 100 = .ok (.aload_n 0, 1) := by decide +kernel
theorem d_Cs_method_101 : decode b_Cs_method 101 = .ok (.getfield 10, 3) := by decide +kernel
theorem d_Cs_method_104 : decode b_Cs_method 104 = .ok (.getfield 87, 3) := by decide +kernel
theorem d_Cs_method_107 : decode b_Cs_method 107 = .ok (.aload 6, 2) := by decide +kernel
theorem d_Cs_method_109 : decode b_Cs_method 109 = .ok (.invokevirtual 77, 3) := by decide +kernel
theorem d_Cs_method_112 : decode b_Cs_method 112 = .ok (.pop, 1) := by decide +kernel
theorem d_Cs_method_113 : decode b_Cs_method 113 = .ok (.aload 5, 2) := by decide +kernel
theorem d_Cs_method_115 : decode b_Cs_method 115 = .ok (.getfield 101, 3) := by decide +kernel
theorem d_Cs_method_118 : decode b_Cs_method 118 = .ok (.aload 6, 2) := by decide +kernel
theorem d_Cs_method_120 : decode b_Cs_method 120 = .ok (.invokevirtual 77, 3) := by decide +kernel
theorem d_Cs_method_123 : decode b_Cs_method 123 = .ok (.pop, 1) := by decide +kernel
theorem d_Cs_method_124 : decode b_Cs_method 124 = .ok (.iload 4, 2) := by decide +kernel
theorem d_Cs_method_126 : decode b_Cs_method 126 = .ok (.ireturn, 1) := by decide +kernel
theorem d_Cs_isName_0 : decode b_Cs_isName 0 = .ok (.iload_n 0, 1) := by decide +kernel
theorem d_Cs_isName_1 : decode b_Cs_isName 1 = .ok (.ifCond .lt 13, 3) := by decide +kernel
theorem d_Cs_isName_4 : decode b_Cs_isName 4 = .ok (.iload_n 0, 1) := by decide +kernel
theorem d_Cs_isName_5 : decode b_Cs_isName 5 = .ok (.bipush 26, 2) := by decide +kernel
theorem d_Cs_isName_7 : decode b_Cs_isName 7 = .ok (.if_icmp .ge 7, 3) := by decide +kernel
theorem d_Cs_isName_10 : decode b_Cs_isName 10 = .ok (.iconst 1, 1) := by decide +kernel
theorem d_Cs_isName_11 : decode b_Cs_isName 11 = .ok (.goto 4, 3) := by decide +kernel
theorem d_Cs_isName_14 : decode b_Cs_isName 14 = .ok (.iconst 0, 1) := by decide +kernel
theorem d_Cs_isName_15 : decode b_Cs_isName 15 = .ok (.ireturn, 1) := by decide +kernel
theorem d_Cs_isArity_0 : decode b_Cs_isArity 0 = .ok (.iload_n 0, 1) := by decide +kernel
theorem d_Cs_isArity_1 : decode b_Cs_isArity 1 = .ok (.ifCond .lt 12, 3) := by decide +kernel
theorem d_Cs_isArity_4 : decode b_Cs_isArity 4 = .ok (.iload_n 0, 1) := by decide +kernel
theorem d_Cs_isArity_5 : decode b_Cs_isArity 5 = .ok (.iconst 3, 1) := by decide +kernel
theorem d_Cs_isArity_6 : decode b_Cs_isArity 6 = .ok (.if_icmp .ge 7, 3) := by decide +kernel
theorem d_Cs_isArity_9 : decode b_Cs_isArity 9 = .ok (.iconst 1, 1) := by decide +kernel
theorem d_Cs_isArity_10 : decode b_Cs_isArity 10 = .ok (.goto 4, 3) := by decide +kernel
theorem d_Cs_isArity_13 : decode b_Cs_isArity 13 = .ok (.iconst 0, 1) := by decide +kernel
theorem d_Cs_isArity_14 : decode b_Cs_isArity 14 = .ok (.ireturn, 1) := by decide +kernel
theorem d_Cs_item_0 : decode b_Cs_item 0 = .ok (.aload_n 0, 1) := by decide +kernel
theorem d_Cs_item_1 : decode b_Cs_item 1 = .ok (.iload_n 1, 1) := by decide +kernel
theorem d_Cs_item_2 : decode b_Cs_item 2 = .ok (.invokevirtual 102, 3) := by decide +kernel
theorem d_Cs_item_5 : decode b_Cs_item 5 = .ok (.ifCond .eq 20, 3) := by decide +kernel
theorem d_Cs_item_8 : decode b_Cs_item 8 = .ok (.aload_n 0, 1) := by decide +kernel
theorem d_Cs_item_9 : decode b_Cs_item 9 = .ok (.iload_n 2, 1) := by decide +kernel
theorem d_Cs_item_10 : decode b_Cs_item 10 = .ok (.iload_n 3, 1) := by decide +kernel
theorem d_Cs_item_11 : decode b_Cs_item 11 = .ok (.iload 4, 2) := by decide +kernel
theorem d_Cs_item_13 : decode b_Cs_item 13 = .ok (.iload 5, 2) := by decide +kernel
theorem d_Cs_item_15 : decode b_Cs_item 15 = .ok (.invokevirtual 105, 3) := by decide +kernel
theorem d_Cs_item_18 : decode b_Cs_item 18 = .ok (.ifCond .eq 7, 3) := by decide +kernel
theorem d_Cs_item_21 : decode b_Cs_item 21 = .ok (.iconst 1, 1) := by decide +kernel
theorem d_Cs_item_22 : decode b_Cs_item 22 = .ok (.goto 4, 3) := by decide +kernel
theorem d_Cs_item_25 : decode b_Cs_item 25 = .ok (.iconst 0, 1) := by decide +kernel
theorem d_Cs_item_26 : decode b_Cs_item 26 = .ok (.invokestatic 47, 3) := by decide +kernel
theorem d_Cs_item_29 : decode b_Cs_item 29 = .ok (.aload_n 0, 1) := by decide +kernel
theorem d_Cs_item_30 : decode b_Cs_item 30 = .ok (.getfield 10, 3) := by decide +kernel
theorem d_Cs_item_33 : decode b_Cs_item 33 = .ok (.getfield 87, 3) := by decide +kernel
theorem d_Cs_item_36 : decode b_Cs_item 36 = .ok (.iload_n 1, 1) := by decide +kernel
theorem d_Cs_item_37 : decode b_Cs_item 37 = .ok (.invokevirtual 68, 3) := by decide +kernel
theorem d_Cs_item_40 : decode b_Cs_item 40 = .ok (.checkcast 96, 3) := by decide +kernel
theorem d_Cs_item_43 : decode b_Cs_item 43 = .ok (.astore 6, 2) := by decide +kernel
theorem d_Cs_item_45 : decode b_Cs_item 45 = .ok (.aload 6, 2) := by decide +kernel
theorem d_Cs_item_47 : decode b_Cs_item 47 = .ok (.getfield 109, 3) := by decide +kernel
theorem d_Cs_item_50 : decode b_Cs_item 50 = .ok (.invokevirtual 55, 3) := by decide +kernel
theorem d_Cs_item_53 : decode b_Cs_item 53 = .ok (.iconst 5, 1) := by decide +kernel
theorem d_Cs_item_54 : decode b_Cs_item 54 = .ok (.if_icmp .lt 13, 3) := by decide +kernel
theorem d_Cs_item_57 : decode b_Cs_item 57 = .ok (.new 61, 3) := by decide +kernel
theorem d_Cs_item_60 : decode b_Cs_item 60 = .ok (.dup, 1) := by decide +kernel
theorem d_Cs_item_61 : decode b_Cs_item 61 = .ok (.ldc 112, 2) := by decide +kernel
theorem d_Cs_item_63 : decode b_Cs_item 63 = .ok (.invokespecial 65, 3) := by decide +kernel
theorem d_Cs_item_66 : decode b_Cs_item 66 = .ok (.athrow, 1) := by decide +kernel
theorem d_Cs_item_67 : decode b_Cs_item 67 = .ok (.aload 6, 2) := by decide +kernel
theorem d_Cs_item_69 : decode b_Cs_item 69 = .ok (.getfield 109, 3) := by decide +kernel
theorem d_Cs_item_72 : decode b_Cs_item 72 = .ok (.aload_n 0, 1) := by decide +kernel
theorem d_Cs_item_73 : decode b_Cs_item 73 = .ok (.iload_n 2, 1) := by decide +kernel
theorem d_Cs_item_74 : decode b_Cs_item 74 = .ok (.iload_n 3, 1) := by decide +kernel
theorem d_Cs_item_75 : decode b_Cs_item 75 = .ok (.iload 4, 2) := by decide +kernel
theorem d_Cs_item_77 : decode b_Cs_item 77 = .ok (.iload 5, 2) := by decide +kernel
theorem d_Cs_item_79 : decode b_Cs_item 79 = .ok (.invokevirtual 114, 3) := by decide +kernel
theorem d_Cs_item_82 : decode b_Cs_item 82 = .ok (.invokevirtual 77, 3) := by decide +kernel
theorem d_Cs_item_85 : decode b_Cs_item 85 = .ok (.pop, 1) := by decide +kernel
theorem d_Cs_item_86 : decode b_Cs_item 86 = .ok (.aload 6, 2) := by decide +kernel
theorem d_Cs_item_88 : decode b_Cs_item 88 = .ok (.getfield 109, 3) := by decide +kernel
theorem d_Cs_item_91 : decode b_Cs_item 91 = .ok (.invokevirtual 55, 3) := by decide +kernel
theorem d_Cs_item_94 : decode b_Cs_item 94 = .ok (.ireturn, 1) := by decide +kernel
theorem d_Cs_isMethod_0 : decode b_Cs_isMethod 0 = .ok (.iload_n 1, 1) := by decide +kernel
theorem d_Cs_isMethod_1 : decode b_Cs_isMethod 1 = .ok (.ifCond .lt 21, 3) := by decide +kernel
theorem d_Cs_isMethod_4 : decode b_Cs_isMethod 4 = .ok (.iload_n 1, 1) := by decide +kernel
theorem d_Cs_isMethod_5 : decode b_Cs_isMethod 5 = .ok (.aload_n 0, 1) := by decide +kernel
theorem d_Cs_isMethod_6 : decode b_Cs_isMethod 6 = .ok (.getfield 10, 3) := by decide +kernel
theorem d_Cs_isMethod_9 : decode b_Cs_isMethod 9 = .ok (.getfield 87, 3) := by decide +kernel
theorem d_Cs_isMethod_12 : decode b_Cs_isMethod 12 = .ok (.invokevirtual 55, 3) := by decide +kernel
theorem d_Cs_isMethod_15 : decode b_Cs_isMethod 15 = .ok (.if_icmp .ge 7, 3) := by decide +kernel
theorem d_Cs_isMethod_18 : decode b_Cs_isMethod 18 = .ok (.iconst 1, 1) := by decide +kernel
theorem d_Cs_isMethod_19 : decode b_Cs_isMethod 19 = .ok (.goto 4, 3) := by decide +kernel
theorem d_Cs_isMethod_22 : decode b_Cs_isMethod 22 = .ok (.iconst 0, 1) := by decide +kernel
theorem d_Cs_isMethod_23 : decode b_Cs_isMethod 23 = .ok (.ireturn, 1) := by decide +kernel
theorem d_Cs_isItem_0 : decode b_Cs_isItem 0 = .ok (.iload_n 1, 1) := by decide +kernel
theorem d_Cs_isItem_1 : decode b_Cs_isItem 1 = .ok (.tableswitch 79 0 2 #[27, 29, 58], 27) := by decide +kernel
theorem d_Cs_isItem_28 : decode b_Cs_isItem 28 = .ok (.iconst 1, 1) := by decide +kernel
theorem d_Cs_isItem_29 : decode b_Cs_isItem 29 = .ok (.ireturn, 1) := by decide +kernel
theorem d_Cs_isItem_30 : decode b_Cs_isItem 30 = .ok (.aload_n 0, 1) := by decide +kernel
theorem d_Cs_isItem_31 : decode b_Cs_isItem 31 = .ok (.iload_n 2, 1) := by decide +kernel
theorem d_Cs_isItem_32 : decode b_Cs_isItem 32 = .ok (.invokevirtual 43, 3) := by decide +kernel
theorem d_Cs_isItem_35 : decode b_Cs_isItem 35 = .ok (.ifCond .eq 22, 3) := by decide +kernel
theorem d_Cs_isItem_38 : decode b_Cs_isItem 38 = .ok (.iload_n 3, 1) := by decide +kernel
theorem d_Cs_isItem_39 : decode b_Cs_isItem 39 = .ok (.invokestatic 81, 3) := by decide +kernel
theorem d_Cs_isItem_42 : decode b_Cs_isItem 42 = .ok (.ifCond .eq 15, 3) := by decide +kernel
theorem d_Cs_isItem_45 : decode b_Cs_isItem 45 = .ok (.iload 4, 2) := by decide +kernel
theorem d_Cs_isItem_47 : decode b_Cs_isItem 47 = .ok (.invokestatic 84, 3) := by decide +kernel
theorem d_Cs_isItem_50 : decode b_Cs_isItem 50 = .ok (.ifCond .eq 7, 3) := by decide +kernel
theorem d_Cs_isItem_53 : decode b_Cs_isItem 53 = .ok (.iconst 1, 1) := by decide +kernel
theorem d_Cs_isItem_54 : decode b_Cs_isItem 54 = .ok (.goto 4, 3) := by decide +kernel
theorem d_Cs_isItem_57 : decode b_Cs_isItem 57 = .ok (.iconst 0, 1) := by decide +kernel
theorem d_Cs_isItem_58 : decode b_Cs_isItem 58 = .ok (.ireturn, 1) := by decide +kernel
theorem d_Cs_isItem_59 : decode b_Cs_isItem 59 = .ok (.iload_n 3, 1) := by decide +kernel
theorem d_Cs_isItem_60 : decode b_Cs_isItem 60 = .ok (.invokestatic 81, 3) := by decide +kernel
theorem d_Cs_isItem_63 : decode b_Cs_isItem 63 = .ok (.ifCond .eq 15, 3) := by decide +kernel
theorem d_Cs_isItem_66 : decode b_Cs_isItem 66 = .ok (.iload 4, 2) := by decide +kernel
theorem d_Cs_isItem_68 : decode b_Cs_isItem 68 = .ok (.invokestatic 84, 3) := by decide +kernel
theorem d_Cs_isItem_71 : decode b_Cs_isItem 71 = .ok (.ifCond .eq 7, 3) := by decide +kernel
theorem d_Cs_isItem_74 : decode b_Cs_isItem 74 = .ok (.iconst 1, 1) := by decide +kernel
theorem d_Cs_isItem_75 : decode b_Cs_isItem 75 = .ok (.goto 4, 3) := by decide +kernel
theorem d_Cs_isItem_78 : decode b_Cs_isItem 78 = .ok (.iconst 0, 1) := by decide +kernel
theorem d_Cs_isItem_79 : decode b_Cs_isItem 79 = .ok (.ireturn, 1) := by decide +kernel
theorem d_Cs_isItem_80 : decode b_Cs_isItem 80 = .ok (.iconst 0, 1) := by decide +kernel
theorem d_Cs_isItem_81 : decode b_Cs_isItem 81 = .ok (.ireturn, 1) := by decide +kernel
theorem d_Cs_newItem_0 : decode b_Cs_newItem 0 = .ok (.iload_n 1, 1) := by decide +kernel
theorem d_Cs_newItem_1 : decode b_Cs_newItem 1 = .ok (.ifCond .ne 16, 3) := by decide +kernel
theorem d_Cs_newItem_4 : decode b_Cs_newItem 4 = .ok (.new 168, 3) := by decide +kernel
theorem d_Cs_newItem_7 : decode b_Cs_newItem 7 = .ok (.dup, 1) := by decide +kernel
theorem d_Cs_newItem_8 : decode b_Cs_newItem 8 = .ok (.iconst 0, 1) := by decide +kernel
theorem d_Cs_newItem_9 : decode b_Cs_newItem 9 = .ok (.iload_n 2, 1) := by decide +kernel
theorem d_Cs_newItem_10 : decode b_Cs_newItem 10 = .ok (.aconst_null, 1) := by decide +kernel
theorem d_Cs_newItem_11 : decode b_Cs_newItem 11 = .ok (.iconst (-1), 1) := by decide +kernel
theorem d_Cs_newItem_12 : decode b_Cs_newItem 12 = .ok (.iconst (-1), 1) := by decide +kernel
theorem d_Cs_newItem_13 : decode b_Cs_newItem 13 = .ok (.invokespecial 188, 3) := by decide +kernel
theorem d_Cs_newItem_16 : decode b_Cs_newItem 16 = .ok (.areturn, 1) := by decide +kernel
theorem d_Cs_newItem_17 : decode b_Cs_newItem 17 = .ok (.iload_n 1, 1) := by decide +kernel
theorem d_Cs_newItem_18 : decode b_Cs_newItem 18 = .ok (.iconst 1, 1) := by decide +kernel
theorem d_Cs_newItem_19 : decode b_Cs_newItem 19 = .ok (.if_icmp .ne 28, 3) := by decide +kernel
theorem d_Cs_newItem_22 : decode b_Cs_newItem 22 = .ok (.aload_n 0, 1) := by decide +kernel
theorem d_Cs_newItem_23 : decode b_Cs_newItem 23 = .ok (.iload_n 2, 1) := by decide +kernel
theorem d_Cs_newItem_24 : decode b_Cs_newItem 24 = .ok (.invokevirtual 43, 3) := by decide +kernel
theorem d_Cs_newItem_27 : decode b_Cs_newItem 27 = .ok (.ifCond .eq 20, 3) := by decide +kernel
theorem d_Cs_newItem_30 : decode b_Cs_newItem 30 = .ok (.aload_n 0, 1) := by decide +kernel
theorem d_Cs_newItem_31 : decode b_Cs_newItem 31 = .ok (.getfield 10, 3) := by decide +kernel
theorem d_Cs_newItem_34 : decode b_Cs_newItem 34 = .ok (.getfield 51, 3) := by decide +kernel
theorem d_Cs_newItem_37 : decode b_Cs_newItem 37 = .ok (.iload_n 2, 1) := by decide +kernel
theorem d_Cs_newItem_38 : decode b_Cs_newItem 38 = .ok (.invokevirtual 68, 3) := by decide +kernel
theorem d_Cs_newItem_41 : decode b_Cs_newItem 41 = .ok (.checkcast 72, 3) := by decide +kernel
theorem d_Cs_newItem_44 : decode b_Cs_newItem 44 = .ok (.goto 4, 3) := by decide +kernel
theorem d_Cs_newItem_47 : decode b_Cs_newItem 47 = .ok (.aconst_null, 1) := by decide +kernel
theorem d_Cs_newItem_48 : decode b_Cs_newItem 48 = .ok (.astore 5, 2) := by decide +kernel
theorem d_Cs_newItem_50 : decode b_Cs_newItem 50 = .ok (.new 168, 3) := by decide +kernel
theorem d_Cs_newItem_53 : decode b_Cs_newItem 53 = .ok (.dup, 1) := by decide +kernel
theorem d_Cs_newItem_54 : decode b_Cs_newItem 54 = .ok (.iload_n 1, 1) := by decide +kernel
theorem d_Cs_newItem_55 : decode b_Cs_newItem 55 = .ok (.iconst (-1), 1) := by decide +kernel
theorem d_Cs_newItem_56 : decode b_Cs_newItem 56 = .ok (.aload 5, 2) := by decide +kernel
theorem d_Cs_newItem_58 : decode b_Cs_newItem 58 = .ok (.iload_n 3, 1) := by decide +kernel
theorem d_Cs_newItem_59 : decode b_Cs_newItem 59 = .ok (.iload 4, 2) := by decide +kernel
theorem d_Cs_newItem_61 : decode b_Cs_newItem 61 = .ok (.invokespecial 188, 3) := by decide +kernel
theorem d_Cs_newItem_64 : decode b_Cs_newItem 64 = .ok (.areturn, 1) := by decide +kernel
theorem d_Cs_keep_0 : decode b_Cs_keep 0 = .ok (.aload_n 0, 1) := by decide +kernel
theorem d_Cs_keep_1 : decode b_Cs_keep 1 = .ok (.iload_n 1, 1) := by decide +kernel
theorem d_Cs_keep_2 : decode b_Cs_keep 2 = .ok (.invokevirtual 102, 3) := by decide +kernel
theorem d_Cs_keep_5 : decode b_Cs_keep 5 = .ok (.invokestatic 47, 3) := by decide +kernel
theorem d_Cs_keep_8 : decode b_Cs_keep 8 = .ok (.aload_n 0, 1) := by decide +kernel
theorem d_Cs_keep_9 : decode b_Cs_keep 9 = .ok (.getfield 10, 3) := by decide +kernel
theorem d_Cs_keep_12 : decode b_Cs_keep 12 = .ok (.getfield 87, 3) := by decide +kernel
theorem d_Cs_keep_15 : decode b_Cs_keep 15 = .ok (.iload_n 1, 1) := by decide +kernel
theorem d_Cs_keep_16 : decode b_Cs_keep 16 = .ok (.invokevirtual 68, 3) := by decide +kernel
theorem d_Cs_keep_19 : decode b_Cs_keep 19 = .ok (.checkcast 96, 3) := by decide +kernel
theorem d_Cs_keep_22 : decode b_Cs_keep 22 = .ok (.iload_n 2, 1) := by decide +kernel
theorem d_Cs_keep_23 : decode b_Cs_keep 23 = .ok (.putfield 118, 3) := by decide +kernel
theorem d_Cs_keep_26 : decode b_Cs_keep 26 = .ok (.return_, 1) := by decide +kernel
theorem d_Cs_run_0 : decode b_Cs_run 0 = .ok (.aload_n 0, 1) := by decide +kernel
theorem d_Cs_run_1 : decode b_Cs_run 1 = .ok (.iload_n 1, 1) := by decide +kernel
theorem d_Cs_run_2 : decode b_Cs_run 2 = .ok (.invokevirtual 43, 3) := by decide +kernel
theorem d_Cs_run_5 : decode b_Cs_run 5 = .ok (.ifCond .eq 21, 3) := by decide +kernel
theorem d_Cs_run_8 : decode b_Cs_run 8 = .ok (.iload_n 2, 1) := by decide +kernel
theorem d_Cs_run_9 : decode b_Cs_run 9 = .ok (.invokestatic 81, 3) := by decide +kernel
theorem d_Cs_run_12 : decode b_Cs_run 12 = .ok (.ifCond .eq 14, 3) := by decide +kernel
theorem d_Cs_run_15 : decode b_Cs_run 15 = .ok (.iload_n 3, 1) := by decide +kernel
theorem d_Cs_run_16 : decode b_Cs_run 16 = .ok (.invokestatic 84, 3) := by decide +kernel
theorem d_Cs_run_19 : decode b_Cs_run 19 = .ok (.ifCond .eq 7, 3) := by decide +kernel
theorem d_Cs_run_22 : decode b_Cs_run 22 = .ok (.iconst 1, 1) := by decide +kernel
theorem d_Cs_run_23 : decode b_Cs_run 23 = .ok (.goto 4, 3) := by decide +kernel
theorem d_Cs_run_26 : decode b_Cs_run 26 = .ok (.iconst 0, 1) := by decide +kernel
theorem d_Cs_run_27 : decode b_Cs_run 27 = .ok (.invokestatic 47, 3) := by decide +kernel
theorem d_Cs_run_30 : decode b_Cs_run 30 = .ok (.aload_n 0, 1) := by decide +kernel
theorem d_Cs_run_31 : decode b_Cs_run 31 = .ok (.getfield 19, 3) := by decide +kernel
theorem d_Cs_run_34 : decode b_Cs_run 34 = .ok (.aload_n 0, 1) := by decide +kernel
theorem d_Cs_run_35 : decode b_Cs_run 35 = .ok (.getfield 10, 3) := by decide +kernel
theorem d_Cs_run_38 : decode b_Cs_run 38 = .ok (.getfield 51, 3) := by decide +kernel
theorem d_Cs_run_41 : decode b_Cs_run 41 = .ok (.iload_n 1, 1) := by decide +kernel
theorem d_Cs_run_42 : decode b_Cs_run 42 = .ok (.invokevirtual 68, 3) := by decide +kernel
theorem d_Cs_run_45 : decode b_Cs_run 45 = .ok (.checkcast 72, 3) := by decide +kernel
theorem d_Cs_run_48 : decode b_Cs_run 48 = .ok (.iload_n 2, 1) := by decide +kernel
theorem d_Cs_run_49 : decode b_Cs_run 49 = .ok (.iload_n 3, 1) := by decide +kernel
theorem d_Cs_run_50 : decode b_Cs_run 50 = .ok (.invokevirtual 122, 3) := by decide +kernel
theorem d_Cs_run_53 : decode b_Cs_run 53 = .ok (.ireturn, 1) := by decide +kernel
theorem d_Cs_told_0 : decode b_Cs_told 0 = .ok (.aload_n 0, 1) := by decide +kernel
theorem d_Cs_told_1 : decode b_Cs_told 1 = .ok (.iload_n 1, 1) := by decide +kernel
theorem d_Cs_told_2 : decode b_Cs_told 2 = .ok (.invokevirtual 102, 3) := by decide +kernel
theorem d_Cs_told_5 : decode b_Cs_told 5 = .ok (.ifCond .eq 17, 3) := by decide +kernel
theorem d_Cs_told_8 : decode b_Cs_told 8 = .ok (.iload_n 2, 1) := by decide +kernel
theorem d_Cs_told_9 : decode b_Cs_told 9 = .ok (.ifCond .lt 13, 3) := by decide +kernel
theorem d_Cs_told_12 : decode b_Cs_told 12 = .ok (.iload_n 2, 1) := by decide +kernel
theorem d_Cs_told_13 : decode b_Cs_told 13 = .ok (.bipush 7, 2) := by decide +kernel
theorem d_Cs_told_15 : decode b_Cs_told 15 = .ok (.if_icmp .gt 7, 3) := by decide +kernel
theorem d_Cs_told_18 : decode b_Cs_told 18 = .ok (.iconst 1, 1) := by decide +kernel
theorem d_Cs_told_19 : decode b_Cs_told 19 = .ok (.goto 4, 3) := by decide +kernel
theorem d_Cs_told_22 : decode b_Cs_told 22 = .ok (.iconst 0, 1) := by decide +kernel
theorem d_Cs_told_23 : decode b_Cs_told 23 = .ok (.invokestatic 47, 3) := by decide +kernel
theorem d_Cs_told_26 : decode b_Cs_told 26 = .ok (.aload_n 0, 1) := by decide +kernel
theorem d_Cs_told_27 : decode b_Cs_told 27 = .ok (.getfield 10, 3) := by decide +kernel
theorem d_Cs_told_30 : decode b_Cs_told 30 = .ok (.getfield 87, 3) := by decide +kernel
theorem d_Cs_told_33 : decode b_Cs_told 33 = .ok (.iload_n 1, 1) := by decide +kernel
theorem d_Cs_told_34 : decode b_Cs_told 34 = .ok (.invokevirtual 68, 3) := by decide +kernel
theorem d_Cs_told_37 : decode b_Cs_told 37 = .ok (.checkcast 96, 3) := by decide +kernel
theorem d_Cs_told_40 : decode b_Cs_told 40 = .ok (.astore_n 3, 1) := by decide +kernel
theorem d_Cs_told_41 : decode b_Cs_told 41 = .ok (.iload_n 2, 1) := by decide +kernel
theorem d_Cs_told_42 : decode b_Cs_told 42 = .ok (.tableswitch 94 0 6 #[42, 50, 55, 60, 68, 81, 89], 42) := by decide +kernel
theorem d_Cs_told_84 : decode b_Cs_told 84 = .ok (.aload_n 3, 1) := by decide +kernel
theorem d_Cs_told_85 : decode b_Cs_told 85 = .ok (.getfield 143, 3) := by decide +kernel
theorem d_Cs_told_88 : decode b_Cs_told 88 = .ok (.getfield 147, 3) := by decide +kernel
theorem d_Cs_told_91 : decode b_Cs_told 91 = .ok (.ireturn, 1) := by decide +kernel
theorem d_Cs_told_92 : decode b_Cs_told 92 = .ok (.aload_n 3, 1) := by decide +kernel
theorem d_Cs_told_93 : decode b_Cs_told 93 = .ok (.getfield 150, 3) := by decide +kernel
theorem d_Cs_told_96 : decode b_Cs_told 96 = .ok (.ireturn, 1) := by decide +kernel
theorem d_Cs_told_97 : decode b_Cs_told 97 = .ok (.aload_n 3, 1) := by decide +kernel
theorem d_Cs_told_98 : decode b_Cs_told 98 = .ok (.getfield 153, 3) := by decide +kernel
theorem d_Cs_told_101 : decode b_Cs_told 101 = .ok (.ireturn, 1) := by decide +kernel
theorem d_Cs_told_102 : decode b_Cs_told 102 = .ok (.aload_n 3, 1) := by decide +kernel
theorem d_Cs_told_103 : decode b_Cs_told 103 = .ok (.getfield 109, 3) := by decide +kernel
theorem d_Cs_told_106 : decode b_Cs_told 106 = .ok (.invokevirtual 55, 3) := by decide +kernel
theorem d_Cs_told_109 : decode b_Cs_told 109 = .ok (.ireturn, 1) := by decide +kernel
theorem d_Cs_told_110 : decode b_Cs_told 110 = .ok (.aload_n 3, 1) := by decide +kernel
theorem d_Cs_told_111 : decode b_Cs_told 111 = .ok (.getfield 118, 3) := by decide +kernel
theorem d_Cs_told_114 : decode b_Cs_told 114 = .ok (.ifCond .eq 7, 3) := by decide +kernel
theorem d_Cs_told_117 : decode b_Cs_told 117 = .ok (.iconst 1, 1) := by decide +kernel
theorem d_Cs_told_118 : decode b_Cs_told 118 = .ok (.goto 4, 3) := by decide +kernel
theorem d_Cs_told_121 : decode b_Cs_told 121 = .ok (.iconst 0, 1) := by decide +kernel
theorem d_Cs_told_122 : decode b_Cs_told 122 = .ok (.ireturn, 1) := by decide +kernel
theorem d_Cs_told_123 : decode b_Cs_told 123 = .ok (.aload_n 3, 1) := by decide +kernel
theorem d_Cs_told_124 : decode b_Cs_told 124 = .ok (.getfield 143, 3) := by decide +kernel
theorem d_Cs_told_127 : decode b_Cs_told 127 = .ok (.getfield 156, 3) := by decide +kernel
theorem d_Cs_told_130 : decode b_Cs_told 130 = .ok (.ireturn, 1) := by decide +kernel
theorem d_Cs_told_131 : decode b_Cs_told 131 = .ok (.aload_n 3, 1) := by decide +kernel
theorem d_Cs_told_132 : decode b_Cs_told 132 = .ok (.getfield 159, 3) := by decide +kernel
theorem d_Cs_told_135 : decode b_Cs_told 135 = .ok (.ireturn, 1) := by decide +kernel
theorem d_Cs_told_136 : decode b_Cs_told 136 = .ok (.aload_n 3, 1) := by decide +kernel
theorem d_Cs_told_137 : decode b_Cs_told 137 = .ok (.getfield 162, 3) := by decide +kernel
theorem d_Cs_told_140 : decode b_Cs_told 140 = .ok (.ireturn, 1) := by decide +kernel
theorem d_Cs_inside_0 : decode b_Cs_inside 0 = .ok (.aload_n 0, 1) := by decide +kernel
theorem d_Cs_inside_1 : decode b_Cs_inside 1 = .ok (.iload_n 1, 1) := by decide +kernel
theorem d_Cs_inside_2 : decode b_Cs_inside 2 = .ok (.invokevirtual 102, 3) := by decide +kernel
theorem d_Cs_inside_5 : decode b_Cs_inside 5 = .ok (.ifCond .eq 16, 3) := by decide +kernel
theorem d_Cs_inside_8 : decode b_Cs_inside 8 = .ok (.iload_n 3, 1) := by decide +kernel
theorem d_Cs_inside_9 : decode b_Cs_inside 9 = .ok (.ifCond .lt 12, 3) := by decide +kernel
theorem d_Cs_inside_12 : decode b_Cs_inside 12 = .ok (.iload_n 3, 1) := by decide +kernel
theorem d_Cs_inside_13 : decode b_Cs_inside 13 = .ok (.iconst 3, 1) := by decide +kernel
theorem d_Cs_inside_14 : decode b_Cs_inside 14 = .ok (.if_icmp .gt 7, 3) := by decide +kernel
theorem d_Cs_inside_17 : decode b_Cs_inside 17 = .ok (.iconst 1, 1) := by decide +kernel
theorem d_Cs_inside_18 : decode b_Cs_inside 18 = .ok (.goto 4, 3) := by decide +kernel
theorem d_Cs_inside_21 : decode b_Cs_inside 21 = .ok (.iconst 0, 1) := by decide +kernel
theorem d_Cs_inside_22 : decode b_Cs_inside 22 = .ok (.invokestatic 47, 3) := by decide +kernel
theorem d_Cs_inside_25 : decode b_Cs_inside 25 = .ok (.aload_n 0, 1) := by decide +kernel
theorem d_Cs_inside_26 : decode b_Cs_inside 26 = .ok (.getfield 10, 3) := by decide +kernel
theorem d_Cs_inside_29 : decode b_Cs_inside 29 = .ok (.getfield 87, 3) := by decide +kernel
theorem d_Cs_inside_32 : decode b_Cs_inside 32 = .ok (.iload_n 1, 1) := by decide +kernel
theorem d_Cs_inside_33 : decode b_Cs_inside 33 = .ok (.invokevirtual 68, 3) := by decide +kernel
theorem d_Cs_inside_36 : decode b_Cs_inside 36 = .ok (.checkcast 96, 3) := by decide +kernel
theorem d_Cs_inside_39 : decode b_Cs_inside 39 = .ok (.astore 4, 2) := by decide +kernel
theorem d_Cs_inside_41 : decode b_Cs_inside 41 = .ok (.iload_n 2, 1) := by decide +kernel
theorem d_Cs_inside_42 : decode b_Cs_inside 42 = .ok (.ifCond .lt 15, 3) := by decide +kernel
theorem d_Cs_inside_45 : decode b_Cs_inside 45 = .ok (.iload_n 2, 1) := by decide +kernel
theorem d_Cs_inside_46 : decode b_Cs_inside 46 = .ok (.aload 4, 2) := by decide +kernel
theorem d_Cs_inside_48 : decode b_Cs_inside 48 = .ok (.getfield 109, 3) := by decide +kernel
theorem d_Cs_inside_51 : decode b_Cs_inside 51 = .ok (.invokevirtual 55, 3) := by decide +kernel
theorem d_Cs_inside_54 : decode b_Cs_inside 54 = .ok (.if_icmp .lt 13, 3) := by decide +kernel
theorem d_Cs_inside_57 : decode b_Cs_inside 57 = .ok (.new 163, 3) := by decide +kernel
theorem d_Cs_inside_60 : decode b_Cs_inside 60 = .ok (.dup, 1) := by decide +kernel
theorem d_Cs_inside_61 : decode b_Cs_inside 61 = .ok (.ldc 165, 2) := by decide +kernel
theorem d_Cs_inside_63 : decode b_Cs_inside 63 = .ok (.invokespecial 167, 3) := by decide +kernel
theorem d_Cs_inside_66 : decode b_Cs_inside 66 = .ok (.athrow, 1) := by decide +kernel
theorem d_Cs_inside_67 : decode b_Cs_inside 67 = .ok (.aload 4, 2) := by decide +kernel
theorem d_Cs_inside_69 : decode b_Cs_inside 69 = .ok (.getfield 109, 3) := by decide +kernel
theorem d_Cs_inside_72 : decode b_Cs_inside 72 = .ok (.iload_n 2, 1) := by decide +kernel
theorem d_Cs_inside_73 : decode b_Cs_inside 73 = .ok (.invokevirtual 68, 3) := by decide +kernel
theorem d_Cs_inside_76 : decode b_Cs_inside 76 = .ok (.checkcast 168, 3) := by decide +kernel
theorem d_Cs_inside_79 : decode b_Cs_inside 79 = .ok (.iload_n 3, 1) := by decide +kernel
theorem d_Cs_inside_80 : decode b_Cs_inside 80 = .ok (.invokevirtual 170, 3) := by decide +kernel
theorem d_Cs_inside_83 : decode b_Cs_inside 83 = .ok (.ireturn, 1) := by decide +kernel
theorem d_Cs_trace_0 : decode b_Cs_trace 0 = .ok (.aload_n 0, 1) := by decide +kernel
theorem d_Cs_trace_1 : decode b_Cs_trace 1 = .ok (.iload_n 1, 1) := by decide +kernel
theorem d_Cs_trace_2 : decode b_Cs_trace 2 = .ok (.invokevirtual 43, 3) := by decide +kernel
theorem d_Cs_trace_5 : decode b_Cs_trace 5 = .ok (.ifCond .eq 27, 3) := by decide +kernel
theorem d_Cs_trace_8 : decode b_Cs_trace 8 = .ok (.iload_n 2, 1) := by decide +kernel
theorem d_Cs_trace_9 : decode b_Cs_trace 9 = .ok (.invokestatic 81, 3) := by decide +kernel
theorem d_Cs_trace_12 : decode b_Cs_trace 12 = .ok (.ifCond .ne 9, 3) := by decide +kernel
theorem d_Cs_trace_15 : decode b_Cs_trace 15 = .ok (.iload_n 2, 1) := by decide +kernel
theorem d_Cs_trace_16 : decode b_Cs_trace 16 = .ok (.bipush 26, 2) := by decide +kernel
theorem d_Cs_trace_18 : decode b_Cs_trace 18 = .ok (.if_icmp .ne 14, 3) := by decide +kernel
theorem d_Cs_trace_21 : decode b_Cs_trace 21 = .ok (.iload_n 3, 1) := by decide +kernel
theorem d_Cs_trace_22 : decode b_Cs_trace 22 = .ok (.invokestatic 84, 3) := by decide +kernel
theorem d_Cs_trace_25 : decode b_Cs_trace 25 = .ok (.ifCond .eq 7, 3) := by decide +kernel
theorem d_Cs_trace_28 : decode b_Cs_trace 28 = .ok (.iconst 1, 1) := by decide +kernel
theorem d_Cs_trace_29 : decode b_Cs_trace 29 = .ok (.goto 4, 3) := by decide +kernel
theorem d_Cs_trace_32 : decode b_Cs_trace 32 = .ok (.iconst 0, 1) := by decide +kernel
theorem d_Cs_trace_33 : decode b_Cs_trace 33 = .ok (.invokestatic 47, 3) := by decide +kernel
theorem d_Cs_trace_36 : decode b_Cs_trace 36 = .ok (.aload_n 0, 1) := by decide +kernel
theorem d_Cs_trace_37 : decode b_Cs_trace 37 = .ok (.getfield 10, 3) := by decide +kernel
theorem d_Cs_trace_40 : decode b_Cs_trace 40 = .ok (.getfield 51, 3) := by decide +kernel
theorem d_Cs_trace_43 : decode b_Cs_trace 43 = .ok (.iload_n 1, 1) := by decide +kernel
theorem d_Cs_trace_44 : decode b_Cs_trace 44 = .ok (.invokevirtual 68, 3) := by decide +kernel
theorem d_Cs_trace_47 : decode b_Cs_trace 47 = .ok (.checkcast 72, 3) := by decide +kernel
theorem d_Cs_trace_50 : decode b_Cs_trace 50 = .ok (.iload_n 2, 1) := by decide +kernel
theorem d_Cs_trace_51 : decode b_Cs_trace 51 = .ok (.iload_n 3, 1) := by decide +kernel
theorem d_Cs_trace_52 : decode b_Cs_trace 52 = .ok (.invokevirtual 90, 3) := by decide +kernel
theorem d_Cs_trace_55 : decode b_Cs_trace 55 = .ok (.astore 4, 2) := by decide +kernel
theorem d_Cs_trace_57 : decode b_Cs_trace 57 = .ok (.aload 4, 2) := by decide +kernel
theorem d_Cs_trace_59 : decode b_Cs_trace 59 = .ok (.ifnonnull 13, 3) := by decide +kernel
theorem d_Cs_trace_62 : decode b_Cs_trace 62 = .ok (.new 163, 3) := by decide +kernel
theorem d_Cs_trace_65 : decode b_Cs_trace 65 = .ok (.dup, 1) := by decide +kernel
theorem d_Cs_trace_66 : decode b_Cs_trace 66 = .ok (.ldc 174, 2) := by decide +kernel
theorem d_Cs_trace_68 : decode b_Cs_trace 68 = .ok (.invokespecial 167, 3) := by decide +kernel
theorem d_Cs_trace_71 : decode b_Cs_trace 71 = .ok (.athrow, 1) := by decide +kernel
theorem d_Cs_trace_72 : decode b_Cs_trace 72 = .ok (.aload 4, 2) := by decide +kernel
theorem d_Cs_trace_74 : decode b_Cs_trace 74 = .ok (.getfield 162, 3) := by decide +kernel
theorem d_Cs_trace_77 : decode b_Cs_trace 77 = .ok (.ireturn, 1) := by decide +kernel
