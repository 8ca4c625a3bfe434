theorem dX0_init_0 : decode cX0_init 0 = .ok (.aload_n 0, 1) := by decide +kernel
theorem dX0_init_1 : decode cX0_init 1 = .ok (.invokespecial 1, 3) := by decide +kernel
theorem dX0_init_4 : decode cX0_init 4 = .ok (.aload_n 0, 1) := by decide +kernel
theorem dX0_init_5 : decode cX0_init 5 = .ok (.bipush 15, 2) := by decide +kernel
theorem dX0_init_7 : decode cX0_init 7 = .ok (.newarray .int, 2) := by decide +kernel
theorem dX0_init_9 : decode cX0_init 9 = .ok (.putfield 9, 3) := by decide +kernel
theorem dX0_init_12 : decode cX0_init 12 = .ok (.aload_n 0, 1) := by decide +kernel
theorem dX0_init_13 : decode cX0_init 13 = .ok (.iconst 0, 1) := by decide +kernel
theorem dX0_init_14 : decode cX0_init 14 = .ok (.putfield 13, 3) := by decide +kernel
theorem dX0_init_17 : decode cX0_init 17 = .ok (.aload_n 0, 1) := by decide +kernel
theorem dX0_init_18 : decode cX0_init 18 = .ok (.bipush 26, 2) := by decide +kernel
theorem dX0_init_20 : decode cX0_init 20 = .ok (.newarray .int, 2) := by decide +kernel
theorem dX0_init_22 : decode cX0_init 22 = .ok (.putfield 17, 3) := by decide +kernel
theorem dX0_init_25 : decode cX0_init 25 = .ok (.iconst 0, 1) := by decide +kernel
theorem dX0_init_26 : decode cX0_init 26 = .ok (.istore_n 1, 1) := by decide +kernel
theorem dX0_init_27 : decode cX0_init 27 = .ok (.iload_n 1, 1) := by decide +kernel
theorem dX0_init_28 : decode cX0_init 28 = .ok (.bipush 26, 2) := by decide +kernel
theorem dX0_init_30 : decode cX0_init 30 = .ok (.if_icmp .ge 19, 3) := by decide +kernel
theorem dX0_init_33 : decode cX0_init 33 = .ok (.aload_n 0, 1) := by decide +kernel
theorem dX0_init_34 : decode cX0_init 34 = .ok (.getfield 17, 3) := by decide +kernel
theorem dX0_init_37 : decode cX0_init 37 = .ok (.iload_n 1, 1) := by decide +kernel
theorem dX0_init_38 : decode cX0_init 38 = .ok (.bipush 97, 2) := by decide +kernel
theorem dX0_init_40 : decode cX0_init 40 = .ok (.iload_n 1, 1) := by decide +kernel
theorem dX0_init_41 : decode cX0_init 41 = .ok (.iadd, 1) := by decide +kernel
theorem dX0_init_42 : decode cX0_init 42 = .ok (.iastore, 1) := by decide +kernel
theorem dX0_init_43 : decode cX0_init 43 = .ok (.iinc 1 1, 3) := by decide +kernel
theorem dX0_init_46 : decode cX0_init 46 = .ok (.goto (-19), 3) := by decide +kernel
theorem dX0_init_49 : decode cX0_init 49 = .ok (.aload_n 0, 1) := by decide +kernel
theorem dX0_init_50 : decode cX0_init 50 = .ok (.sipush 3750, 3) := by decide +kernel
theorem dX0_init_53 : decode cX0_init 53 = .ok (.newarray .int, 2) := by decide +kernel
theorem dX0_init_55 : decode cX0_init 55 = .ok (.putfield 20, 3) := by decide +kernel
theorem dX0_init_58 : decode cX0_init 58 = .ok (.aload_n 0, 1) := by decide +kernel
theorem dX0_init_59 : decode cX0_init 59 = .ok (.sipush 250, 3) := by decide +kernel
theorem dX0_init_62 : decode cX0_init 62 = .ok (.newarray .int, 2) := by decide +kernel
theorem dX0_init_64 : decode cX0_init 64 = .ok (.putfield 23, 3) := by decide +kernel
theorem dX0_init_67 : decode cX0_init 67 = .ok (.aload_n 0, 1) := by decide +kernel
theorem dX0_init_68 : decode cX0_init 68 = .ok (.sipush 250, 3) := by decide +kernel
theorem dX0_init_71 : decode cX0_init 71 = .ok (.newarray .int, 2) := by decide +kernel
theorem dX0_init_73 : decode cX0_init 73 = .ok (.putfield 26, 3) := by decide +kernel
theorem dX0_init_76 : decode cX0_init 76 = .ok (.aload_n 0, 1) := by decide +kernel
theorem dX0_init_77 : decode cX0_init 77 = .ok (.sipush 250, 3) := by decide +kernel
theorem dX0_init_80 : decode cX0_init 80 = .ok (.newarray .int, 2) := by decide +kernel
theorem dX0_init_82 : decode cX0_init 82 = .ok (.putfield 29, 3) := by decide +kernel
theorem dX0_init_85 : decode cX0_init 85 = .ok (.aload_n 0, 1) := by decide +kernel
theorem dX0_init_86 : decode cX0_init 86 = .ok (.sipush 250, 3) := by decide +kernel
theorem dX0_init_89 : decode cX0_init 89 = .ok (.newarray .boolean, 2) := by decide +kernel
theorem dX0_init_91 : decode cX0_init 91 = .ok (.putfield 32, 3) := by decide +kernel
theorem dX0_init_94 : decode cX0_init 94 = .ok (.aload_n 0, 1) := by decide +kernel
theorem dX0_init_95 : decode cX0_init 95 = .ok (.iconst 0, 1) := by decide +kernel
theorem dX0_init_96 : decode cX0_init 96 = .ok (.putfield 36, 3) := by decide +kernel
theorem dX0_init_99 : decode cX0_init 99 = .ok (.aload_n 0, 1) := by decide +kernel
theorem dX0_init_100 : decode cX0_init 100 = .ok (.sipush 250, 3) := by decide +kernel
theorem dX0_init_103 : decode cX0_init 103 = .ok (.newarray .int, 2) := by decide +kernel
theorem dX0_init_105 : decode cX0_init 105 = .ok (.putfield 39, 3) := by decide +kernel
theorem dX0_init_108 : decode cX0_init 108 = .ok (.aload_n 0, 1) := by decide +kernel
theorem dX0_init_109 : decode cX0_init 109 = .ok (.iconst 0, 1) := by decide +kernel
theorem dX0_init_110 : decode cX0_init 110 = .ok (.putfield 42, 3) := by decide +kernel
theorem dX0_init_113 : decode cX0_init 113 = .ok (.aload_n 0, 1) := by decide +kernel
theorem dX0_init_114 : decode cX0_init 114 = .ok (.bipush 26, 2) := by decide +kernel
theorem dX0_init_116 : decode cX0_init 116 = .ok (.newarray .int, 2) := by decide +kernel
theorem dX0_init_118 : decode cX0_init 118 = .ok (.putfield 45, 3) := by decide +kernel
theorem dX0_init_121 : decode cX0_init 121 = .ok (.return_, 1) := by decide +kernel
theorem dX0_sign_0 : decode cX0_sign 0 = .ok (.aload_n 0, 1) := by decide +kernel
theorem dX0_sign_1 : decode cX0_sign 1 = .ok (.getfield 13, 3) := by decide +kernel
theorem dX0_sign_4 : decode cX0_sign 4 = .ok (.bipush 15, 2) := by decide +kernel
theorem dX0_sign_6 : decode cX0_sign 6 = .ok (.if_icmp .ge 16, 3) := by decide +kernel
theorem dX0_sign_9 : decode cX0_sign 9 = .ok (.iload_n 1, 1) := by decide +kernel
theorem dX0_sign_10 : decode cX0_sign 10 = .ok (.invokestatic 48, 3) := by decide +kernel
theorem dX0_sign_13 : decode cX0_sign 13 = .ok (.ifCond .ne 11, 3) := by decide +kernel
theorem dX0_sign_16 : decode cX0_sign 16 = .ok (.iload_n 1, 1) := by decide +kernel
theorem dX0_sign_17 : decode cX0_sign 17 = .ok (.bipush 63, 2) := by decide +kernel
theorem dX0_sign_19 : decode cX0_sign 19 = .ok (.if_icmp .eq 5, 3) := by decide +kernel
theorem dX0_sign_22 : decode cX0_sign 22 = .ok (.iconst 0, 1) := by decide +kernel
theorem dX0_sign_23 : decode cX0_sign 23 = .ok (.ireturn, 1) := by decide +kernel
theorem dX0_sign_24 : decode cX0_sign 24 = .ok (.aload_n 0, 1) := by decide +kernel
theorem dX0_sign_25 : decode cX0_sign 25 = .ok (.getfield 9, 3) := by decide +kernel
theorem dX0_sign_28 : decode cX0_sign 28 = .ok (.aload_n 0, 1) := by decide +kernel
theorem dX0_sign_29 : decode cX0_sign 29 = .ok (.getfield 13, 3) := by decide +kernel
theorem dX0_sign_32 : decode cX0_sign 32 = .ok (.iload_n 1, 1) := by decide +kernel
theorem dX0_sign_33 : decode cX0_sign 33 = .ok (.iastore, 1) := by decide +kernel
theorem dX0_sign_34 : decode cX0_sign 34 = .ok (.aload_n 0, 1) := by decide +kernel
theorem dX0_sign_35 : decode cX0_sign 35 = .ok (.dup, 1) := by decide +kernel
theorem dX0_sign_36 : decode cX0_sign 36 = .ok (.getfield 13, 3) := by decide +kernel
theorem dX0_sign_39 : decode cX0_sign 39 = .ok (.iconst 1, 1) := by decide +kernel
theorem dX0_sign_40 : decode cX0_sign 40 = .ok (.iadd, 1) := by decide +kernel
theorem dX0_sign_41 : decode cX0_sign 41 = .ok (.putfield 13, 3) := by decide +kernel
theorem dX0_sign_44 : decode cX0_sign 44 = .ok (.iconst 1, 1) := by decide +kernel
theorem dX0_sign_45 : decode cX0_sign 45 = .ok (.ireturn, 1) := by decide +kernel
theorem dX0_clear_0 : decode cX0_clear 0 = .ok (.aload_n 0, 1) := by decide +kernel
theorem dX0_clear_1 : decode cX0_clear 1 = .ok (.iconst 0, 1) := by decide +kernel
theorem dX0_clear_2 : decode cX0_clear 2 = .ok (.putfield 13, 3) := by decide +kernel
theorem dX0_clear_5 : decode cX0_clear 5 = .ok (.return_, 1) := by decide +kernel
theorem dX0_fold_0 : decode cX0_fold 0 = .ok (.iload_n 1, 1) := by decide +kernel
theorem dX0_fold_1 : decode cX0_fold 1 = .ok (.invokestatic 52, 3) := by decide +kernel
theorem dX0_fold_4 : decode cX0_fold 4 = .ok (.iload_n 2, 1) := by decide +kernel
theorem dX0_fold_5 : decode cX0_fold 5 = .ok (.invokestatic 52, 3) := by decide +kernel
theorem dX0_fold_8 : decode cX0_fold 8 = .ok (.aload_n 0, 1) := by decide +kernel
theorem dX0_fold_9 : decode cX0_fold 9 = .ok (.getfield 17, 3) := by decide +kernel
theorem dX0_fold_12 : decode cX0_fold 12 = .ok (.iload_n 1, 1) := by decide +kernel
theorem dX0_fold_13 : decode cX0_fold 13 = .ok (.bipush 97, 2) := by decide +kernel
theorem dX0_fold_15 : decode cX0_fold 15 = .ok (.isub, 1) := by decide +kernel
theorem dX0_fold_16 : decode cX0_fold 16 = .ok (.iload_n 2, 1) := by decide +kernel
theorem dX0_fold_17 : decode cX0_fold 17 = .ok (.iastore, 1) := by decide +kernel
theorem dX0_fold_18 : decode cX0_fold 18 = .ok (.return_, 1) := by decide +kernel
theorem dX0_enter_0 : decode cX0_enter 0 = .ok (.iload_n 1, 1) := by decide +kernel
theorem dX0_enter_1 : decode cX0_enter 1 = .ok (.invokestatic 56, 3) := by decide +kernel
theorem dX0_enter_4 : decode cX0_enter 4 = .ok (.aload_n 0, 1) := by decide +kernel
theorem dX0_enter_5 : decode cX0_enter 5 = .ok (.getfield 13, 3) := by decide +kernel
theorem dX0_enter_8 : decode cX0_enter 8 = .ok (.ifCond .eq 21, 3) := by decide +kernel
theorem dX0_enter_11 : decode cX0_enter 11 = .ok (.aload_n 0, 1) := by decide +kernel
theorem dX0_enter_12 : decode cX0_enter 12 = .ok (.invokevirtual 59, 3) := by decide +kernel
theorem dX0_enter_15 : decode cX0_enter 15 = .ok (.ifCond .ne 14, 3) := by decide +kernel
theorem dX0_enter_18 : decode cX0_enter 18 = .ok (.iload_n 2, 1) := by decide +kernel
theorem dX0_enter_19 : decode cX0_enter 19 = .ok (.ifCond .lt 10, 3) := by decide +kernel
theorem dX0_enter_22 : decode cX0_enter 22 = .ok (.iload_n 2, 1) := by decide +kernel
theorem dX0_enter_23 : decode cX0_enter 23 = .ok (.sipush 1000, 3) := by decide +kernel
theorem dX0_enter_26 : decode cX0_enter 26 = .ok (.if_icmp .le 5, 3) := by decide +kernel
theorem dX0_enter_29 : decode cX0_enter 29 = .ok (.iconst (-1), 1) := by decide +kernel
theorem dX0_enter_30 : decode cX0_enter 30 = .ok (.ireturn, 1) := by decide +kernel
theorem dX0_enter_31 : decode cX0_enter 31 = .ok (.aload_n 0, 1) := by decide +kernel
theorem dX0_enter_32 : decode cX0_enter 32 = .ok (.invokevirtual 63, 3) := by decide +kernel
theorem dX0_enter_35 : decode cX0_enter 35 = .ok (.istore_n 3, 1) := by decide +kernel
theorem dX0_enter_36 : decode cX0_enter 36 = .ok (.iload_n 3, 1) := by decide +kernel
theorem dX0_enter_37 : decode cX0_enter 37 = .ok (.iconst (-1), 1) := by decide +kernel
theorem dX0_enter_38 : decode cX0_enter 38 = .ok (.if_icmp .ne 20, 3) := by decide +kernel
theorem dX0_enter_41 : decode cX0_enter 41 = .ok (.aload_n 0, 1) := by decide +kernel
theorem dX0_enter_42 : decode cX0_enter 42 = .ok (.getfield 36, 3) := by decide +kernel
theorem dX0_enter_45 : decode cX0_enter 45 = .ok (.sipush 250, 3) := by decide +kernel
theorem dX0_enter_48 : decode cX0_enter 48 = .ok (.if_icmp .lt 5, 3) := by decide +kernel
theorem dX0_enter_51 : decode cX0_enter 51 = .ok (.iconst (-1), 1) := by decide +kernel
theorem dX0_enter_52 : decode cX0_enter 52 = .ok (.ireturn, 1) := by decide +kernel
theorem dX0_enter_53 : decode cX0_enter 53 = .ok (.aload_n 0, 1) := by decide +kernel
theorem dX0_enter_54 : decode cX0_enter 54 = .ok (.invokevirtual 67, 3) := by decide +kernel
theorem dX0_enter_57 : decode cX0_enter 57 = .ok (.istore_n 3, 1) := by decide +kernel
theorem dX0_enter_58 : decode cX0_enter 58 = .ok (.aload_n 0, 1) := by decide +kernel
theorem dX0_enter_59 : decode cX0_enter 59 = .ok (.getfield 29, 3) := by decide +kernel
theorem dX0_enter_62 : decode cX0_enter 62 = .ok (.iload_n 3, 1) := by decide +kernel
theorem dX0_enter_63 : decode cX0_enter 63 = .ok (.dup2, 1) := by decide +kernel
theorem dX0_enter_64 : decode cX0_enter 64 = .ok (.iaload, 1) := by decide +kernel
theorem dX0_enter_65 : decode cX0_enter 65 = .ok (.iconst 1, 1) := by decide +kernel
theorem dX0_enter_66 : decode cX0_enter 66 = .ok (.iload_n 1, 1) := by decide +kernel
theorem dX0_enter_67 : decode cX0_enter 67 = .ok (.ishl, 1) := by decide +kernel
theorem dX0_enter_68 : decode cX0_enter 68 = .ok (.ior, 1) := by decide +kernel
theorem dX0_enter_69 : decode cX0_enter 69 = .ok (.iastore, 1) := by decide +kernel
theorem dX0_enter_70 : decode cX0_enter 70 = .ok (.aload_n 0, 1) := by decide +kernel
theorem dX0_enter_71 : decode cX0_enter 71 = .ok (.getfield 26, 3) := by decide +kernel
theorem dX0_enter_74 : decode cX0_enter 74 = .ok (.iload_n 3, 1) := by decide +kernel
theorem dX0_enter_75 : decode cX0_enter 75 = .ok (.aload_n 0, 1) := by decide +kernel
theorem dX0_enter_76 : decode cX0_enter 76 = .ok (.getfield 26, 3) := by decide +kernel
theorem dX0_enter_79 : decode cX0_enter 79 = .ok (.iload_n 3, 1) := by decide +kernel
theorem dX0_enter_80 : decode cX0_enter 80 = .ok (.iaload, 1) := by decide +kernel
theorem dX0_enter_81 : decode cX0_enter 81 = .ok (.iload_n 2, 1) := by decide +kernel
theorem dX0_enter_82 : decode cX0_enter 82 = .ok (.invokestatic 70, 3) := by decide +kernel
theorem dX0_enter_85 : decode cX0_enter 85 = .ok (.iastore, 1) := by decide +kernel
theorem dX0_enter_86 : decode cX0_enter 86 = .ok (.iload_n 3, 1) := by decide +kernel
theorem dX0_enter_87 : decode cX0_enter 87 = .ok (.ireturn, 1) := by decide +kernel
theorem dX0_bar_0 : decode cX0_bar 0 = .ok (.iconst 0, 1) := by decide +kernel
theorem dX0_bar_1 : decode cX0_bar 1 = .ok (.istore_n 2, 1) := by decide +kernel
theorem dX0_bar_2 : decode cX0_bar 2 = .ok (.iconst 0, 1) := by decide +kernel
theorem dX0_bar_3 : decode cX0_bar 3 = .ok (.istore_n 3, 1) := by decide +kernel
theorem dX0_bar_4 : decode cX0_bar 4 = .ok (.iload_n 3, 1) := by decide +kernel
theorem dX0_bar_5 : decode cX0_bar 5 = .ok (.aload_n 0, 1) := by decide +kernel
theorem dX0_bar_6 : decode cX0_bar 6 = .ok (.getfield 36, 3) := by decide +kernel
theorem dX0_bar_9 : decode cX0_bar 9 = .ok (.if_icmp .ge 37, 3) := by decide +kernel
theorem dX0_bar_12 : decode cX0_bar 12 = .ok (.aload_n 0, 1) := by decide +kernel
theorem dX0_bar_13 : decode cX0_bar 13 = .ok (.getfield 32, 3) := by decide +kernel
theorem dX0_bar_16 : decode cX0_bar 16 = .ok (.iload_n 3, 1) := by decide +kernel
theorem dX0_bar_17 : decode cX0_bar 17 = .ok (.baload, 1) := by decide +kernel
theorem dX0_bar_18 : decode cX0_bar 18 = .ok (.iload_n 1, 1) := by decide +kernel
theorem dX0_bar_19 : decode cX0_bar 19 = .ok (.if_icmp .eq 21, 3) := by decide +kernel
theorem dX0_bar_22 : decode cX0_bar 22 = .ok (.aload_n 0, 1) := by decide +kernel
theorem dX0_bar_23 : decode cX0_bar 23 = .ok (.iload_n 3, 1) := by decide +kernel
theorem dX0_bar_24 : decode cX0_bar 24 = .ok (.invokevirtual 76, 3) := by decide +kernel
theorem dX0_bar_27 : decode cX0_bar 27 = .ok (.ifCond .eq 13, 3) := by decide +kernel
theorem dX0_bar_30 : decode cX0_bar 30 = .ok (.aload_n 0, 1) := by decide +kernel
theorem dX0_bar_31 : decode cX0_bar 31 = .ok (.getfield 32, 3) := by decide +kernel
theorem dX0_bar_34 : decode cX0_bar 34 = .ok (.iload_n 3, 1) := by decide +kernel
theorem dX0_bar_35 : decode cX0_bar 35 = .ok (.iload_n 1, 1) := by decide +kernel
theorem dX0_bar_36 : decode cX0_bar 36 = .ok (.bastore, 1) := by decide +kernel
theorem dX0_bar_37 : decode cX0_bar 37 = .ok (.iinc 2 1, 3) := by decide +kernel
theorem dX0_bar_40 : decode cX0_bar 40 = .ok (.iinc 3 1, 3) := by decide +kernel
theorem dX0_bar_43 : decode cX0_bar 43 = .ok (.goto (-39), 3) := by decide +kernel
theorem dX0_bar_46 : decode cX0_bar 46 = .ok (.iload_n 2, 1) := by decide +kernel
theorem dX0_bar_47 : decode cX0_bar 47 = .ok (.ireturn, 1) := by decide +kernel
theorem dX0_merge_0 : decode cX0_merge 0 = .ok (.iload_n 2, 1) := by decide +kernel
theorem dX0_merge_1 : decode cX0_merge 1 = .ok (.invokestatic 56, 3) := by decide +kernel
theorem dX0_merge_4 : decode cX0_merge 4 = .ok (.iload_n 3, 1) := by decide +kernel
theorem dX0_merge_5 : decode cX0_merge 5 = .ok (.invokestatic 56, 3) := by decide +kernel
theorem dX0_merge_8 : decode cX0_merge 8 = .ok (.iload 4, 2) := by decide +kernel
theorem dX0_merge_10 : decode cX0_merge 10 = .ok (.invokestatic 56, 3) := by decide +kernel
theorem dX0_merge_13 : decode cX0_merge 13 = .ok (.iload_n 1, 1) := by decide +kernel
theorem dX0_merge_14 : decode cX0_merge 14 = .ok (.ifCond .eq 15, 3) := by decide +kernel
theorem dX0_merge_17 : decode cX0_merge 17 = .ok (.iload_n 1, 1) := by decide +kernel
theorem dX0_merge_18 : decode cX0_merge 18 = .ok (.iconst 1, 1) := by decide +kernel
theorem dX0_merge_19 : decode cX0_merge 19 = .ok (.if_icmp .eq 10, 3) := by decide +kernel
theorem dX0_merge_22 : decode cX0_merge 22 = .ok (.iload_n 1, 1) := by decide +kernel
theorem dX0_merge_23 : decode cX0_merge 23 = .ok (.iconst 2, 1) := by decide +kernel
theorem dX0_merge_24 : decode cX0_merge 24 = .ok (.if_icmp .eq 5, 3) := by decide +kernel
theorem dX0_merge_27 : decode cX0_merge 27 = .ok (.iconst (-1), 1) := by decide +kernel
theorem dX0_merge_28 : decode cX0_merge 28 = .ok (.ireturn, 1) := by decide +kernel
theorem dX0_merge_29 : decode cX0_merge 29 = .ok (.iconst 0, 1) := by decide +kernel
theorem dX0_merge_30 : decode cX0_merge 30 = .ok (.istore 5, 2) := by decide +kernel
theorem dX0_merge_32 : decode cX0_merge 32 = .ok (.iconst 0, 1) := by decide +kernel
theorem dX0_merge_33 : decode cX0_merge 33 = .ok (.istore 6, 2) := by decide +kernel
theorem dX0_merge_35 : decode cX0_merge 35 = .ok (.iload 6, 2) := by decide +kernel
theorem dX0_merge_37 : decode cX0_merge 37 = .ok (.aload_n 0, 1) := by decide +kernel
theorem dX0_merge_38 : decode cX0_merge 38 = .ok (.getfield 36, 3) := by decide +kernel
theorem dX0_merge_41 : decode cX0_merge 41 = .ok (.if_icmp .ge 65, 3) := by decide +kernel
theorem dX0_merge_44 : decode cX0_merge 44 = .ok (.iload_n 1, 1) := by decide +kernel
theorem dX0_merge_45 : decode cX0_merge 45 = .ok (.aload_n 0, 1) := by decide +kernel
theorem dX0_merge_46 : decode cX0_merge 46 = .ok (.iload 6, 2) := by decide +kernel
theorem dX0_merge_48 : decode cX0_merge 48 = .ok (.iload_n 3, 1) := by decide +kernel
theorem dX0_merge_49 : decode cX0_merge 49 = .ok (.invokevirtual 79, 3) := by decide +kernel
theorem dX0_merge_52 : decode cX0_merge 52 = .ok (.aload_n 0, 1) := by decide +kernel
theorem dX0_merge_53 : decode cX0_merge 53 = .ok (.iload 6, 2) := by decide +kernel
theorem dX0_merge_55 : decode cX0_merge 55 = .ok (.iload 4, 2) := by decide +kernel
theorem dX0_merge_57 : decode cX0_merge 57 = .ok (.invokevirtual 79, 3) := by decide +kernel
theorem dX0_merge_60 : decode cX0_merge 60 = .ok (.invokestatic 83, 3) := by decide +kernel
theorem dX0_merge_63 : decode cX0_merge 63 = .ok (.ifCond .eq 22, 3) := by decide +kernel
theorem dX0_merge_66 : decode cX0_merge 66 = .ok (.aload_n 0, 1) := by decide +kernel
theorem dX0_merge_67 : decode cX0_merge 67 = .ok (.getfield 29, 3) := by decide +kernel
theorem dX0_merge_70 : decode cX0_merge 70 = .ok (.iload 6, 2) := by decide +kernel
theorem dX0_merge_72 : decode cX0_merge 72 = .ok (.dup2, 1) := by decide +kernel
theorem dX0_merge_73 : decode cX0_merge 73 = .ok (.iaload, 1) := by decide +kernel
theorem dX0_merge_74 : decode cX0_merge 74 = .ok (.iconst 1, 1) := by decide +kernel
theorem dX0_merge_75 : decode cX0_merge 75 = .ok (.iload_n 2, 1) := by decide +kernel
theorem dX0_merge_76 : decode cX0_merge 76 = .ok (.ishl, 1) := by decide +kernel
theorem dX0_merge_77 : decode cX0_merge 77 = .ok (.ior, 1) := by decide +kernel
theorem dX0_merge_78 : decode cX0_merge 78 = .ok (.iastore, 1) := by decide +kernel
theorem dX0_merge_79 : decode cX0_merge 79 = .ok (.iinc 5 1, 3) := by decide +kernel
theorem dX0_merge_82 : decode cX0_merge 82 = .ok (.goto 18, 3) := by decide +kernel
theorem dX0_merge_85 : decode cX0_merge 85 = .ok (.aload_n 0, 1) := by decide +kernel
theorem dX0_merge_86 : decode cX0_merge 86 = .ok (.getfield 29, 3) := by decide +kernel
theorem dX0_merge_89 : decode cX0_merge 89 = .ok (.iload 6, 2) := by decide +kernel
theorem dX0_merge_91 : decode cX0_merge 91 = .ok (.dup2, 1) := by decide +kernel
theorem dX0_merge_92 : decode cX0_merge 92 = .ok (.iaload, 1) := by decide +kernel
theorem dX0_merge_93 : decode cX0_merge 93 = .ok (.iconst 1, 1) := by decide +kernel
theorem dX0_merge_94 : decode cX0_merge 94 = .ok (.iload_n 2, 1) := by decide +kernel
theorem dX0_merge_95 : decode cX0_merge 95 = .ok (.ishl, 1) := by decide +kernel
theorem dX0_merge_96 : decode cX0_merge 96 = .ok (.iconst (-1), 1) := by decide +kernel
theorem dX0_merge_97 : decode cX0_merge 97 = .ok (.ixor, 1) := by decide +kernel
theorem dX0_merge_98 : decode cX0_merge 98 = .ok (.iand, 1) := by decide +kernel
theorem dX0_merge_99 : decode cX0_merge 99 = .ok (.iastore, 1) := by decide +kernel
theorem dX0_merge_100 : decode cX0_merge 100 = .ok (.iinc 6 1, 3) := by decide +kernel
theorem dX0_merge_103 : decode cX0_merge 103 = .ok (.goto (-68), 3) := by decide +kernel
theorem dX0_merge_106 : decode cX0_merge 106 = .ok (.iload 5, 2) := by decide +kernel
theorem dX0_merge_108 : decode cX0_merge 108 = .ok (.ireturn, 1) := by decide +kernel
theorem dX0_seek_0 : decode cX0_seek 0 = .ok (.iload_n 1, 1) := by decide +kernel
theorem dX0_seek_1 : decode cX0_seek 1 = .ok (.invokestatic 56, 3) := by decide +kernel
theorem dX0_seek_4 : decode cX0_seek 4 = .ok (.aload_n 0, 1) := by decide +kernel
theorem dX0_seek_5 : decode cX0_seek 5 = .ok (.iconst 0, 1) := by decide +kernel
theorem dX0_seek_6 : decode cX0_seek 6 = .ok (.putfield 42, 3) := by decide +kernel
theorem dX0_seek_9 : decode cX0_seek 9 = .ok (.iconst 0, 1) := by decide +kernel
theorem dX0_seek_10 : decode cX0_seek 10 = .ok (.istore_n 2, 1) := by decide +kernel
theorem dX0_seek_11 : decode cX0_seek 11 = .ok (.iload_n 2, 1) := by decide +kernel
theorem dX0_seek_12 : decode cX0_seek 12 = .ok (.aload_n 0, 1) := by decide +kernel
theorem dX0_seek_13 : decode cX0_seek 13 = .ok (.getfield 36, 3) := by decide +kernel
theorem dX0_seek_16 : decode cX0_seek 16 = .ok (.if_icmp .ge 31, 3) := by decide +kernel
theorem dX0_seek_19 : decode cX0_seek 19 = .ok (.aload_n 0, 1) := by decide +kernel
theorem dX0_seek_20 : decode cX0_seek 20 = .ok (.iload_n 2, 1) := by decide +kernel
theorem dX0_seek_21 : decode cX0_seek 21 = .ok (.iload_n 1, 1) := by decide +kernel
theorem dX0_seek_22 : decode cX0_seek 22 = .ok (.invokevirtual 87, 3) := by decide +kernel
theorem dX0_seek_25 : decode cX0_seek 25 = .ok (.ifCond .eq 16, 3) := by decide +kernel
theorem dX0_seek_28 : decode cX0_seek 28 = .ok (.aload_n 0, 1) := by decide +kernel
theorem dX0_seek_29 : decode cX0_seek 29 = .ok (.iload_n 2, 1) := by decide +kernel
theorem dX0_seek_30 : decode cX0_seek 30 = .ok (.invokevirtual 76, 3) := by decide +kernel
theorem dX0_seek_33 : decode cX0_seek 33 = .ok (.ifCond .eq 8, 3) := by decide +kernel
theorem dX0_seek_36 : decode cX0_seek 36 = .ok (.aload_n 0, 1) := by decide +kernel
theorem dX0_seek_37 : decode cX0_seek 37 = .ok (.iload_n 2, 1) := by decide +kernel
theorem dX0_seek_38 : decode cX0_seek 38 = .ok (.invokevirtual 90, 3) := by decide +kernel
theorem dX0_seek_41 : decode cX0_seek 41 = .ok (.iinc 2 1, 3) := by decide +kernel
theorem dX0_seek_44 : decode cX0_seek 44 = .ok (.goto (-33), 3) := by decide +kernel
theorem dX0_seek_47 : decode cX0_seek 47 = .ok (.aload_n 0, 1) := by decide +kernel
theorem dX0_seek_48 : decode cX0_seek 48 = .ok (.getfield 42, 3) := by decide +kernel
theorem dX0_seek_51 : decode cX0_seek 51 = .ok (.ireturn, 1) := by decide +kernel
theorem dX0_candidate_0 : decode cX0_candidate 0 = .ok (.iload_n 1, 1) := by decide +kernel
theorem dX0_candidate_1 : decode cX0_candidate 1 = .ok (.ifCond .lt 11, 3) := by decide +kernel
theorem dX0_candidate_4 : decode cX0_candidate 4 = .ok (.iload_n 1, 1) := by decide +kernel
theorem dX0_candidate_5 : decode cX0_candidate 5 = .ok (.aload_n 0, 1) := by decide +kernel
theorem dX0_candidate_6 : decode cX0_candidate 6 = .ok (.getfield 42, 3) := by decide +kernel
theorem dX0_candidate_9 : decode cX0_candidate 9 = .ok (.if_icmp .lt 13, 3) := by decide +kernel
theorem dX0_candidate_12 : decode cX0_candidate 12 = .ok (.new 93, 3) := by decide +kernel
theorem dX0_candidate_15 : decode cX0_candidate 15 = .ok (.dup, 1) := by decide +kernel
theorem dX0_candidate_16 : decode cX0_candidate 16 = .ok (.ldc 95, 2) := by decide +kernel
theorem dX0_candidate_18 : decode cX0_candidate 18 = .ok (.invokespecial 97, 3) := by decide +kernel
theorem dX0_candidate_21 : decode cX0_candidate 21 = .ok (.athrow, 1) := by decide +kernel
theorem dX0_candidate_22 : decode cX0_candidate 22 = .ok (.aload_n 0, 1) := by decide +kernel
theorem dX0_candidate_23 : decode cX0_candidate 23 = .ok (.getfield 39, 3) := by decide +kernel
theorem dX0_candidate_26 : decode cX0_candidate 26 = .ok (.iload_n 1, 1) := by decide +kernel
theorem dX0_candidate_27 : decode cX0_candidate 27 = .ok (.iaload, 1) := by decide +kernel
theorem dX0_candidate_28 : decode cX0_candidate 28 = .ok (.ireturn, 1) := by decide +kernel
theorem dX0_at_0 : decode cX0_at 0 = .ok (.iload_n 2, 1) := by decide +kernel
theorem dX0_at_1 : decode cX0_at 1 = .ok (.invokestatic 52, 3) := by decide +kernel
theorem dX0_at_4 : decode cX0_at 4 = .ok (.iconst 0, 1) := by decide +kernel
theorem dX0_at_5 : decode cX0_at 5 = .ok (.istore_n 3, 1) := by decide +kernel
theorem dX0_at_6 : decode cX0_at 6 = .ok (.iconst 0, 1) := by decide +kernel
theorem dX0_at_7 : decode cX0_at 7 = .ok (.istore 4, 2) := by decide +kernel
theorem dX0_at_9 : decode cX0_at 9 = .ok (.iload 4, 2) := by decide +kernel
theorem dX0_at_11 : decode cX0_at 11 = .ok (.aload_n 0, 1) := by decide +kernel
theorem dX0_at_12 : decode cX0_at 12 = .ok (.getfield 42, 3) := by decide +kernel
theorem dX0_at_15 : decode cX0_at 15 = .ok (.if_icmp .ge 28, 3) := by decide +kernel
theorem dX0_at_18 : decode cX0_at 18 = .ok (.aload_n 0, 1) := by decide +kernel
theorem dX0_at_19 : decode cX0_at 19 = .ok (.aload_n 0, 1) := by decide +kernel
theorem dX0_at_20 : decode cX0_at 20 = .ok (.getfield 39, 3) := by decide +kernel
theorem dX0_at_23 : decode cX0_at 23 = .ok (.iload 4, 2) := by decide +kernel
theorem dX0_at_25 : decode cX0_at 25 = .ok (.iaload, 1) := by decide +kernel
theorem dX0_at_26 : decode cX0_at 26 = .ok (.iload_n 1, 1) := by decide +kernel
theorem dX0_at_27 : decode cX0_at 27 = .ok (.invokevirtual 100, 3) := by decide +kernel
theorem dX0_at_30 : decode cX0_at 30 = .ok (.iload_n 2, 1) := by decide +kernel
theorem dX0_at_31 : decode cX0_at 31 = .ok (.if_icmp .ne 6, 3) := by decide +kernel
theorem dX0_at_34 : decode cX0_at 34 = .ok (.iinc 3 1, 3) := by decide +kernel
theorem dX0_at_37 : decode cX0_at 37 = .ok (.iinc 4 1, 3) := by decide +kernel
theorem dX0_at_40 : decode cX0_at 40 = .ok (.goto (-31), 3) := by decide +kernel
theorem dX0_at_43 : decode cX0_at 43 = .ok (.iload_n 3, 1) := by decide +kernel
theorem dX0_at_44 : decode cX0_at 44 = .ok (.ireturn, 1) := by decide +kernel
theorem dX0_begins_0 : decode cX0_begins 0 = .ok (.iload_n 1, 1) := by decide +kernel
theorem dX0_begins_1 : decode cX0_begins 1 = .ok (.invokestatic 56, 3) := by decide +kernel
theorem dX0_begins_4 : decode cX0_begins 4 = .ok (.iconst 0, 1) := by decide +kernel
theorem dX0_begins_5 : decode cX0_begins 5 = .ok (.istore_n 2, 1) := by decide +kernel
theorem dX0_begins_6 : decode cX0_begins 6 = .ok (.iconst 0, 1) := by decide +kernel
theorem dX0_begins_7 : decode cX0_begins 7 = .ok (.istore_n 3, 1) := by decide +kernel
theorem dX0_begins_8 : decode cX0_begins 8 = .ok (.iload_n 3, 1) := by decide +kernel
theorem dX0_begins_9 : decode cX0_begins 9 = .ok (.aload_n 0, 1) := by decide +kernel
theorem dX0_begins_10 : decode cX0_begins 10 = .ok (.getfield 36, 3) := by decide +kernel
theorem dX0_begins_13 : decode cX0_begins 13 = .ok (.if_icmp .ge 30, 3) := by decide +kernel
theorem dX0_begins_16 : decode cX0_begins 16 = .ok (.aload_n 0, 1) := by decide +kernel
theorem dX0_begins_17 : decode cX0_begins 17 = .ok (.iload_n 3, 1) := by decide +kernel
theorem dX0_begins_18 : decode cX0_begins 18 = .ok (.iload_n 1, 1) := by decide +kernel
theorem dX0_begins_19 : decode cX0_begins 19 = .ok (.invokevirtual 87, 3) := by decide +kernel
theorem dX0_begins_22 : decode cX0_begins 22 = .ok (.ifCond .eq 15, 3) := by decide +kernel
theorem dX0_begins_25 : decode cX0_begins 25 = .ok (.aload_n 0, 1) := by decide +kernel
theorem dX0_begins_26 : decode cX0_begins 26 = .ok (.iload_n 3, 1) := by decide +kernel
theorem dX0_begins_27 : decode cX0_begins 27 = .ok (.iconst 0, 1) := by decide +kernel
theorem dX0_begins_28 : decode cX0_begins 28 = .ok (.invokevirtual 103, 3) := by decide +kernel
theorem dX0_begins_31 : decode cX0_begins 31 = .ok (.ifCond .eq 6, 3) := by decide +kernel
theorem dX0_begins_34 : decode cX0_begins 34 = .ok (.iinc 2 1, 3) := by decide +kernel
theorem dX0_begins_37 : decode cX0_begins 37 = .ok (.iinc 3 1, 3) := by decide +kernel
theorem dX0_begins_40 : decode cX0_begins 40 = .ok (.goto (-32), 3) := by decide +kernel
theorem dX0_begins_43 : decode cX0_begins 43 = .ok (.iload_n 2, 1) := by decide +kernel
theorem dX0_begins_44 : decode cX0_begins 44 = .ok (.ireturn, 1) := by decide +kernel
theorem dX0_ends_0 : decode cX0_ends 0 = .ok (.iload_n 1, 1) := by decide +kernel
theorem dX0_ends_1 : decode cX0_ends 1 = .ok (.invokestatic 56, 3) := by decide +kernel
theorem dX0_ends_4 : decode cX0_ends 4 = .ok (.iconst 0, 1) := by decide +kernel
theorem dX0_ends_5 : decode cX0_ends 5 = .ok (.istore_n 2, 1) := by decide +kernel
theorem dX0_ends_6 : decode cX0_ends 6 = .ok (.iconst 0, 1) := by decide +kernel
theorem dX0_ends_7 : decode cX0_ends 7 = .ok (.istore_n 3, 1) := by decide +kernel
theorem dX0_ends_8 : decode cX0_ends 8 = .ok (.iload_n 3, 1) := by decide +kernel
theorem dX0_ends_9 : decode cX0_ends 9 = .ok (.aload_n 0, 1) := by decide +kernel
theorem dX0_ends_10 : decode cX0_ends 10 = .ok (.getfield 36, 3) := by decide +kernel
theorem dX0_ends_13 : decode cX0_ends 13 = .ok (.if_icmp .ge 40, 3) := by decide +kernel
theorem dX0_ends_16 : decode cX0_ends 16 = .ok (.aload_n 0, 1) := by decide +kernel
theorem dX0_ends_17 : decode cX0_ends 17 = .ok (.iload_n 3, 1) := by decide +kernel
theorem dX0_ends_18 : decode cX0_ends 18 = .ok (.iload_n 1, 1) := by decide +kernel
theorem dX0_ends_19 : decode cX0_ends 19 = .ok (.invokevirtual 87, 3) := by decide +kernel
theorem dX0_ends_22 : decode cX0_ends 22 = .ok (.ifCond .eq 25, 3) := by decide +kernel
theorem dX0_ends_25 : decode cX0_ends 25 = .ok (.aload_n 0, 1) := by decide +kernel
theorem dX0_ends_26 : decode cX0_ends 26 = .ok (.iload_n 3, 1) := by decide +kernel
theorem dX0_ends_27 : decode cX0_ends 27 = .ok (.aload_n 0, 1) := by decide +kernel
theorem dX0_ends_28 : decode cX0_ends 28 = .ok (.getfield 23, 3) := by decide +kernel
theorem dX0_ends_31 : decode cX0_ends 31 = .ok (.iload_n 3, 1) := by decide +kernel
theorem dX0_ends_32 : decode cX0_ends 32 = .ok (.iaload, 1) := by decide +kernel
theorem dX0_ends_33 : decode cX0_ends 33 = .ok (.aload_n 0, 1) := by decide +kernel
theorem dX0_ends_34 : decode cX0_ends 34 = .ok (.getfield 13, 3) := by decide +kernel
theorem dX0_ends_37 : decode cX0_ends 37 = .ok (.isub, 1) := by decide +kernel
theorem dX0_ends_38 : decode cX0_ends 38 = .ok (.invokevirtual 103, 3) := by decide +kernel
theorem dX0_ends_41 : decode cX0_ends 41 = .ok (.ifCond .eq 6, 3) := by decide +kernel
theorem dX0_ends_44 : decode cX0_ends 44 = .ok (.iinc 2 1, 3) := by decide +kernel
theorem dX0_ends_47 : decode cX0_ends 47 = .ok (.iinc 3 1, 3) := by decide +kernel
theorem dX0_ends_50 : decode cX0_ends 50 = .ok (.goto (-42), 3) := by decide +kernel
theorem dX0_ends_53 : decode cX0_ends 53 = .ok (.iload_n 2, 1) := by decide +kernel
theorem dX0_ends_54 : decode cX0_ends 54 = .ok (.ireturn, 1) := by decide +kernel
theorem dX0_mixed_0 : decode cX0_mixed 0 = .ok (.iload_n 1, 1) := by decide +kernel
theorem dX0_mixed_1 : decode cX0_mixed 1 = .ok (.invokestatic 56, 3) := by decide +kernel
theorem dX0_mixed_4 : decode cX0_mixed 4 = .ok (.iconst 0, 1) := by decide +kernel
theorem dX0_mixed_5 : decode cX0_mixed 5 = .ok (.istore_n 2, 1) := by decide +kernel
theorem dX0_mixed_6 : decode cX0_mixed 6 = .ok (.iconst 0, 1) := by decide +kernel
theorem dX0_mixed_7 : decode cX0_mixed 7 = .ok (.istore_n 3, 1) := by decide +kernel
theorem dX0_mixed_8 : decode cX0_mixed 8 = .ok (.iload_n 3, 1) := by decide +kernel
theorem dX0_mixed_9 : decode cX0_mixed 9 = .ok (.aload_n 0, 1) := by decide +kernel
theorem dX0_mixed_10 : decode cX0_mixed 10 = .ok (.getfield 36, 3) := by decide +kernel
theorem dX0_mixed_13 : decode cX0_mixed 13 = .ok (.if_icmp .ge 29, 3) := by decide +kernel
theorem dX0_mixed_16 : decode cX0_mixed 16 = .ok (.aload_n 0, 1) := by decide +kernel
theorem dX0_mixed_17 : decode cX0_mixed 17 = .ok (.iload_n 3, 1) := by decide +kernel
theorem dX0_mixed_18 : decode cX0_mixed 18 = .ok (.iload_n 1, 1) := by decide +kernel
theorem dX0_mixed_19 : decode cX0_mixed 19 = .ok (.invokevirtual 87, 3) := by decide +kernel
theorem dX0_mixed_22 : decode cX0_mixed 22 = .ok (.ifCond .eq 14, 3) := by decide +kernel
theorem dX0_mixed_25 : decode cX0_mixed 25 = .ok (.aload_n 0, 1) := by decide +kernel
theorem dX0_mixed_26 : decode cX0_mixed 26 = .ok (.iload_n 3, 1) := by decide +kernel
theorem dX0_mixed_27 : decode cX0_mixed 27 = .ok (.invokevirtual 106, 3) := by decide +kernel
theorem dX0_mixed_30 : decode cX0_mixed 30 = .ok (.ifCond .eq 6, 3) := by decide +kernel
theorem dX0_mixed_33 : decode cX0_mixed 33 = .ok (.iinc 2 1, 3) := by decide +kernel
theorem dX0_mixed_36 : decode cX0_mixed 36 = .ok (.iinc 3 1, 3) := by decide +kernel
theorem dX0_mixed_39 : decode cX0_mixed 39 = .ok (.goto (-31), 3) := by decide +kernel
theorem dX0_mixed_42 : decode cX0_mixed 42 = .ok (.iload_n 2, 1) := by decide +kernel
theorem dX0_mixed_43 : decode cX0_mixed 43 = .ok (.ireturn, 1) := by decide +kernel
theorem dX0_many_0 : decode cX0_many 0 = .ok (.iload_n 1, 1) := by decide +kernel
theorem dX0_many_1 : decode cX0_many 1 = .ok (.invokestatic 56, 3) := by decide +kernel
theorem dX0_many_4 : decode cX0_many 4 = .ok (.iload_n 2, 1) := by decide +kernel
theorem dX0_many_5 : decode cX0_many 5 = .ok (.iconst 1, 1) := by decide +kernel
theorem dX0_many_6 : decode cX0_many 6 = .ok (.if_icmp .lt 9, 3) := by decide +kernel
theorem dX0_many_9 : decode cX0_many 9 = .ok (.iload_n 2, 1) := by decide +kernel
theorem dX0_many_10 : decode cX0_many 10 = .ok (.bipush 15, 2) := by decide +kernel
theorem dX0_many_12 : decode cX0_many 12 = .ok (.if_icmp .le 5, 3) := by decide +kernel
theorem dX0_many_15 : decode cX0_many 15 = .ok (.iconst (-1), 1) := by decide +kernel
theorem dX0_many_16 : decode cX0_many 16 = .ok (.ireturn, 1) := by decide +kernel
theorem dX0_many_17 : decode cX0_many 17 = .ok (.iconst 0, 1) := by decide +kernel
theorem dX0_many_18 : decode cX0_many 18 = .ok (.istore_n 3, 1) := by decide +kernel
theorem dX0_many_19 : decode cX0_many 19 = .ok (.iconst 0, 1) := by decide +kernel
theorem dX0_many_20 : decode cX0_many 20 = .ok (.istore 4, 2) := by decide +kernel
theorem dX0_many_22 : decode cX0_many 22 = .ok (.iload 4, 2) := by decide +kernel
theorem dX0_many_24 : decode cX0_many 24 = .ok (.aload_n 0, 1) := by decide +kernel
theorem dX0_many_25 : decode cX0_many 25 = .ok (.getfield 36, 3) := by decide +kernel
theorem dX0_many_28 : decode cX0_many 28 = .ok (.if_icmp .ge 33, 3) := by decide +kernel
theorem dX0_many_31 : decode cX0_many 31 = .ok (.aload_n 0, 1) := by decide +kernel
theorem dX0_many_32 : decode cX0_many 32 = .ok (.iload 4, 2) := by decide +kernel
theorem dX0_many_34 : decode cX0_many 34 = .ok (.iload_n 1, 1) := by decide +kernel
theorem dX0_many_35 : decode cX0_many 35 = .ok (.invokevirtual 79, 3) := by decide +kernel
theorem dX0_many_38 : decode cX0_many 38 = .ok (.ifCond .eq 17, 3) := by decide +kernel
theorem dX0_many_41 : decode cX0_many 41 = .ok (.aload_n 0, 1) := by decide +kernel
theorem dX0_many_42 : decode cX0_many 42 = .ok (.getfield 23, 3) := by decide +kernel
theorem dX0_many_45 : decode cX0_many 45 = .ok (.iload 4, 2) := by decide +kernel
theorem dX0_many_47 : decode cX0_many 47 = .ok (.iaload, 1) := by decide +kernel
theorem dX0_many_48 : decode cX0_many 48 = .ok (.iload_n 2, 1) := by decide +kernel
theorem dX0_many_49 : decode cX0_many 49 = .ok (.if_icmp .ne 6, 3) := by decide +kernel
theorem dX0_many_52 : decode cX0_many 52 = .ok (.iinc 3 1, 3) := by decide +kernel
theorem dX0_many_55 : decode cX0_many 55 = .ok (.iinc 4 1, 3) := by decide +kernel
theorem dX0_many_58 : decode cX0_many 58 = .ok (.goto (-36), 3) := by decide +kernel
theorem dX0_many_61 : decode cX0_many 61 = .ok (.iload_n 3, 1) := by decide +kernel
theorem dX0_many_62 : decode cX0_many 62 = .ok (.ireturn, 1) := by decide +kernel
theorem dX0_letters_0 : decode cX0_letters 0 = .ok (.iload_n 1, 1) := by decide +kernel
theorem dX0_letters_1 : decode cX0_letters 1 = .ok (.invokestatic 56, 3) := by decide +kernel
theorem dX0_letters_4 : decode cX0_letters 4 = .ok (.iload_n 2, 1) := by decide +kernel
theorem dX0_letters_5 : decode cX0_letters 5 = .ok (.invokestatic 52, 3) := by decide +kernel
theorem dX0_letters_8 : decode cX0_letters 8 = .ok (.iconst 0, 1) := by decide +kernel
theorem dX0_letters_9 : decode cX0_letters 9 = .ok (.istore_n 3, 1) := by decide +kernel
theorem dX0_letters_10 : decode cX0_letters 10 = .ok (.iconst 0, 1) := by decide +kernel
theorem dX0_letters_11 : decode cX0_letters 11 = .ok (.istore 4, 2) := by decide +kernel
theorem dX0_letters_13 : decode cX0_letters 13 = .ok (.iload 4, 2) := by decide +kernel
theorem dX0_letters_15 : decode cX0_letters 15 = .ok (.aload_n 0, 1) := by decide +kernel
theorem dX0_letters_16 : decode cX0_letters 16 = .ok (.getfield 36, 3) := by decide +kernel
theorem dX0_letters_19 : decode cX0_letters 19 = .ok (.if_icmp .ge 29, 3) := by decide +kernel
theorem dX0_letters_22 : decode cX0_letters 22 = .ok (.aload_n 0, 1) := by decide +kernel
theorem dX0_letters_23 : decode cX0_letters 23 = .ok (.iload 4, 2) := by decide +kernel
theorem dX0_letters_25 : decode cX0_letters 25 = .ok (.iload_n 1, 1) := by decide +kernel
theorem dX0_letters_26 : decode cX0_letters 26 = .ok (.invokevirtual 79, 3) := by decide +kernel
theorem dX0_letters_29 : decode cX0_letters 29 = .ok (.ifCond .eq 13, 3) := by decide +kernel
theorem dX0_letters_32 : decode cX0_letters 32 = .ok (.iload_n 3, 1) := by decide +kernel
theorem dX0_letters_33 : decode cX0_letters 33 = .ok (.aload_n 0, 1) := by decide +kernel
theorem dX0_letters_34 : decode cX0_letters 34 = .ok (.iload 4, 2) := by decide +kernel
theorem dX0_letters_36 : decode cX0_letters 36 = .ok (.iload_n 2, 1) := by decide +kernel
theorem dX0_letters_37 : decode cX0_letters 37 = .ok (.invokevirtual 109, 3) := by decide +kernel
theorem dX0_letters_40 : decode cX0_letters 40 = .ok (.iadd, 1) := by decide +kernel
theorem dX0_letters_41 : decode cX0_letters 41 = .ok (.istore_n 3, 1) := by decide +kernel
theorem dX0_letters_42 : decode cX0_letters 42 = .ok (.iinc 4 1, 3) := by decide +kernel
theorem dX0_letters_45 : decode cX0_letters 45 = .ok (.goto (-32), 3) := by decide +kernel
theorem dX0_letters_48 : decode cX0_letters 48 = .ok (.iload_n 3, 1) := by decide +kernel
theorem dX0_letters_49 : decode cX0_letters 49 = .ok (.ireturn, 1) := by decide +kernel
theorem dX0_letter_0 : decode cX0_letter 0 = .ok (.aload_n 0, 1) := by decide +kernel
theorem dX0_letter_1 : decode cX0_letter 1 = .ok (.iload_n 1, 1) := by decide +kernel
theorem dX0_letter_2 : decode cX0_letter 2 = .ok (.invokevirtual 112, 3) := by decide +kernel
theorem dX0_letter_5 : decode cX0_letter 5 = .ok (.aload_n 0, 1) := by decide +kernel
theorem dX0_letter_6 : decode cX0_letter 6 = .ok (.iload_n 1, 1) := by decide +kernel
theorem dX0_letter_7 : decode cX0_letter 7 = .ok (.iload_n 2, 1) := by decide +kernel
theorem dX0_letter_8 : decode cX0_letter 8 = .ok (.invokevirtual 100, 3) := by decide +kernel
theorem dX0_letter_11 : decode cX0_letter 11 = .ok (.ireturn, 1) := by decide +kernel
theorem dX0_tell_0 : decode cX0_tell 0 = .ok (.aload_n 0, 1) := by decide +kernel
theorem dX0_tell_1 : decode cX0_tell 1 = .ok (.iload_n 1, 1) := by decide +kernel
theorem dX0_tell_2 : decode cX0_tell 2 = .ok (.invokevirtual 112, 3) := by decide +kernel
theorem dX0_tell_5 : decode cX0_tell 5 = .ok (.iload_n 2, 1) := by decide +kernel
theorem dX0_tell_6 : decode cX0_tell 6 = .ok (.tableswitch 66 0 3 #[30, 37, 44, 59], 30) := by decide +kernel
theorem dX0_tell_36 : decode cX0_tell 36 = .ok (.aload_n 0, 1) := by decide +kernel
theorem dX0_tell_37 : decode cX0_tell 37 = .ok (.getfield 26, 3) := by decide +kernel
theorem dX0_tell_40 : decode cX0_tell 40 = .ok (.iload_n 1, 1) := by decide +kernel
theorem dX0_tell_41 : decode cX0_tell 41 = .ok (.iaload, 1) := by decide +kernel
theorem dX0_tell_42 : decode cX0_tell 42 = .ok (.ireturn, 1) := by decide +kernel
theorem dX0_tell_43 : decode cX0_tell 43 = .ok (.aload_n 0, 1) := by decide +kernel
theorem dX0_tell_44 : decode cX0_tell 44 = .ok (.getfield 29, 3) := by decide +kernel
theorem dX0_tell_47 : decode cX0_tell 47 = .ok (.iload_n 1, 1) := by decide +kernel
theorem dX0_tell_48 : decode cX0_tell 48 = .ok (.iaload, 1) := by decide +kernel
theorem dX0_tell_49 : decode cX0_tell 49 = .ok (.ireturn, 1) := by decide +kernel
theorem dX0_tell_50 : decode cX0_tell 50 = .ok (.aload_n 0, 1) := by decide +kernel
theorem dX0_tell_51 : decode cX0_tell 51 = .ok (.getfield 32, 3) := by decide +kernel
theorem dX0_tell_54 : decode cX0_tell 54 = .ok (.iload_n 1, 1) := by decide +kernel
theorem dX0_tell_55 : decode cX0_tell 55 = .ok (.baload, 1) := by decide +kernel
theorem dX0_tell_56 : decode cX0_tell 56 = .ok (.ifCond .eq 7, 3) := by decide +kernel
theorem dX0_tell_59 : decode cX0_tell 59 = .ok (.iconst 1, 1) := by decide +kernel
theorem dX0_tell_60 : decode cX0_tell 60 = .ok (.goto 4, 3) := by decide +kernel
theorem dX0_tell_63 : decode cX0_tell 63 = .ok (.iconst 0, 1) := by decide +kernel
theorem dX0_tell_64 : decode cX0_tell 64 = .ok (.ireturn, 1) := by decide +kernel
theorem dX0_tell_65 : decode cX0_tell 65 = .ok (.aload_n 0, 1) := by decide +kernel
theorem dX0_tell_66 : decode cX0_tell 66 = .ok (.getfield 23, 3) := by decide +kernel
theorem dX0_tell_69 : decode cX0_tell 69 = .ok (.iload_n 1, 1) := by decide +kernel
theorem dX0_tell_70 : decode cX0_tell 70 = .ok (.iaload, 1) := by decide +kernel
theorem dX0_tell_71 : decode cX0_tell 71 = .ok (.ireturn, 1) := by decide +kernel
theorem dX0_tell_72 : decode cX0_tell 72 = .ok (.iconst (-1), 1) := by decide +kernel
theorem dX0_tell_73 : decode cX0_tell 73 = .ok (.ireturn, 1) := by decide +kernel
theorem dX0_common_0 : decode cX0_common 0 = .ok (.iload_n 1, 1) := by decide +kernel
theorem dX0_common_1 : decode cX0_common 1 = .ok (.invokestatic 56, 3) := by decide +kernel
theorem dX0_common_4 : decode cX0_common 4 = .ok (.iconst (-1), 1) := by decide +kernel
theorem dX0_common_5 : decode cX0_common 5 = .ok (.istore_n 2, 1) := by decide +kernel
theorem dX0_common_6 : decode cX0_common 6 = .ok (.iconst 0, 1) := by decide +kernel
theorem dX0_common_7 : decode cX0_common 7 = .ok (.istore_n 3, 1) := by decide +kernel
theorem dX0_common_8 : decode cX0_common 8 = .ok (.iconst 0, 1) := by decide +kernel
theorem dX0_common_9 : decode cX0_common 9 = .ok (.istore 4, 2) := by decide +kernel
theorem dX0_common_11 : decode cX0_common 11 = .ok (.iload 4, 2) := by decide +kernel
theorem dX0_common_13 : decode cX0_common 13 = .ok (.aload_n 0, 1) := by decide +kernel
theorem dX0_common_14 : decode cX0_common 14 = .ok (.getfield 36, 3) := by decide +kernel
theorem dX0_common_17 : decode cX0_common 17 = .ok (.if_icmp .ge 50, 3) := by decide +kernel
theorem dX0_common_20 : decode cX0_common 20 = .ok (.aload_n 0, 1) := by decide +kernel
theorem dX0_common_21 : decode cX0_common 21 = .ok (.iload 4, 2) := by decide +kernel
theorem dX0_common_23 : decode cX0_common 23 = .ok (.iload_n 1, 1) := by decide +kernel
theorem dX0_common_24 : decode cX0_common 24 = .ok (.invokevirtual 87, 3) := by decide +kernel
theorem dX0_common_27 : decode cX0_common 27 = .ok (.ifCond .eq 34, 3) := by decide +kernel
theorem dX0_common_30 : decode cX0_common 30 = .ok (.iload_n 2, 1) := by decide +kernel
theorem dX0_common_31 : decode cX0_common 31 = .ok (.iconst (-1), 1) := by decide +kernel
theorem dX0_common_32 : decode cX0_common 32 = .ok (.if_icmp .ne 17, 3) := by decide +kernel
theorem dX0_common_35 : decode cX0_common 35 = .ok (.iload 4, 2) := by decide +kernel
theorem dX0_common_37 : decode cX0_common 37 = .ok (.istore_n 2, 1) := by decide +kernel
theorem dX0_common_38 : decode cX0_common 38 = .ok (.aload_n 0, 1) := by decide +kernel
theorem dX0_common_39 : decode cX0_common 39 = .ok (.getfield 23, 3) := by decide +kernel
theorem dX0_common_42 : decode cX0_common 42 = .ok (.iload 4, 2) := by decide +kernel
theorem dX0_common_44 : decode cX0_common 44 = .ok (.iaload, 1) := by decide +kernel
theorem dX0_common_45 : decode cX0_common 45 = .ok (.istore_n 3, 1) := by decide +kernel
theorem dX0_common_46 : decode cX0_common 46 = .ok (.goto 15, 3) := by decide +kernel
theorem dX0_common_49 : decode cX0_common 49 = .ok (.iload_n 3, 1) := by decide +kernel
theorem dX0_common_50 : decode cX0_common 50 = .ok (.aload_n 0, 1) := by decide +kernel
theorem dX0_common_51 : decode cX0_common 51 = .ok (.iload_n 2, 1) := by decide +kernel
theorem dX0_common_52 : decode cX0_common 52 = .ok (.iload 4, 2) := by decide +kernel
theorem dX0_common_54 : decode cX0_common 54 = .ok (.invokevirtual 115, 3) := by decide +kernel
theorem dX0_common_57 : decode cX0_common 57 = .ok (.invokestatic 118, 3) := by decide +kernel
theorem dX0_common_60 : decode cX0_common 60 = .ok (.istore_n 3, 1) := by decide +kernel
theorem dX0_common_61 : decode cX0_common 61 = .ok (.iinc 4 1, 3) := by decide +kernel
theorem dX0_common_64 : decode cX0_common 64 = .ok (.goto (-53), 3) := by decide +kernel
theorem dX0_common_67 : decode cX0_common 67 = .ok (.iload_n 3, 1) := by decide +kernel
theorem dX0_common_68 : decode cX0_common 68 = .ok (.ireturn, 1) := by decide +kernel
theorem dX0_isLetter_0 : decode cX0_isLetter 0 = .ok (.iload_n 0, 1) := by decide +kernel
theorem dX0_isLetter_1 : decode cX0_isLetter 1 = .ok (.bipush 97, 2) := by decide +kernel
theorem dX0_isLetter_3 : decode cX0_isLetter 3 = .ok (.if_icmp .lt 13, 3) := by decide +kernel
theorem dX0_isLetter_6 : decode cX0_isLetter 6 = .ok (.iload_n 0, 1) := by decide +kernel
theorem dX0_isLetter_7 : decode cX0_isLetter 7 = .ok (.bipush 123, 2) := by decide +kernel
theorem dX0_isLetter_9 : decode cX0_isLetter 9 = .ok (.if_icmp .ge 7, 3) := by decide +kernel
theorem dX0_isLetter_12 : decode cX0_isLetter 12 = .ok (.iconst 1, 1) := by decide +kernel
theorem dX0_isLetter_13 : decode cX0_isLetter 13 = .ok (.goto 4, 3) := by decide +kernel
theorem dX0_isLetter_16 : decode cX0_isLetter 16 = .ok (.iconst 0, 1) := by decide +kernel
theorem dX0_isLetter_17 : decode cX0_isLetter 17 = .ok (.ireturn, 1) := by decide +kernel
theorem dX0_needLetter_0 : decode cX0_needLetter 0 = .ok (.iload_n 0, 1) := by decide +kernel
theorem dX0_needLetter_1 : decode cX0_needLetter 1 = .ok (.invokestatic 48, 3) := by decide +kernel
theorem dX0_needLetter_4 : decode cX0_needLetter 4 = .ok (.ifCond .ne 13, 3) := by decide +kernel
theorem dX0_needLetter_7 : decode cX0_needLetter 7 = .ok (.new 93, 3) := by decide +kernel
theorem dX0_needLetter_10 : decode cX0_needLetter 10 = .ok (.dup, 1) := by decide +kernel
theorem dX0_needLetter_11 : decode cX0_needLetter 11 = .ok (.ldc 121, 2) := by decide +kernel
theorem dX0_needLetter_13 : decode cX0_needLetter 13 = .ok (.invokespecial 97, 3) := by decide +kernel
theorem dX0_needLetter_16 : decode cX0_needLetter 16 = .ok (.athrow, 1) := by decide +kernel
theorem dX0_needLetter_17 : decode cX0_needLetter 17 = .ok (.return_, 1) := by decide +kernel
theorem dX0_needList_0 : decode cX0_needList 0 = .ok (.iload_n 0, 1) := by decide +kernel
theorem dX0_needList_1 : decode cX0_needList 1 = .ok (.ifCond .lt 8, 3) := by decide +kernel
theorem dX0_needList_4 : decode cX0_needList 4 = .ok (.iload_n 0, 1) := by decide +kernel
theorem dX0_needList_5 : decode cX0_needList 5 = .ok (.iconst 4, 1) := by decide +kernel
theorem dX0_needList_6 : decode cX0_needList 6 = .ok (.if_icmp .lt 13, 3) := by decide +kernel
theorem dX0_needList_9 : decode cX0_needList 9 = .ok (.new 93, 3) := by decide +kernel
theorem dX0_needList_12 : decode cX0_needList 12 = .ok (.dup, 1) := by decide +kernel
theorem dX0_needList_13 : decode cX0_needList 13 = .ok (.ldc 123, 2) := by decide +kernel
theorem dX0_needList_15 : decode cX0_needList 15 = .ok (.invokespecial 97, 3) := by decide +kernel
theorem dX0_needList_18 : decode cX0_needList 18 = .ok (.athrow, 1) := by decide +kernel
theorem dX0_needList_19 : decode cX0_needList 19 = .ok (.return_, 1) := by decide +kernel
theorem dX0_needWord_0 : decode cX0_needWord 0 = .ok (.iload_n 1, 1) := by decide +kernel
theorem dX0_needWord_1 : decode cX0_needWord 1 = .ok (.ifCond .lt 11, 3) := by decide +kernel
theorem dX0_needWord_4 : decode cX0_needWord 4 = .ok (.iload_n 1, 1) := by decide +kernel
theorem dX0_needWord_5 : decode cX0_needWord 5 = .ok (.aload_n 0, 1) := by decide +kernel
theorem dX0_needWord_6 : decode cX0_needWord 6 = .ok (.getfield 36, 3) := by decide +kernel
theorem dX0_needWord_9 : decode cX0_needWord 9 = .ok (.if_icmp .lt 13, 3) := by decide +kernel
theorem dX0_needWord_12 : decode cX0_needWord 12 = .ok (.new 93, 3) := by decide +kernel
theorem dX0_needWord_15 : decode cX0_needWord 15 = .ok (.dup, 1) := by decide +kernel
theorem dX0_needWord_16 : decode cX0_needWord 16 = .ok (.ldc 125, 2) := by decide +kernel
theorem dX0_needWord_18 : decode cX0_needWord 18 = .ok (.invokespecial 97, 3) := by decide +kernel
theorem dX0_needWord_21 : decode cX0_needWord 21 = .ok (.athrow, 1) := by decide +kernel
theorem dX0_needWord_22 : decode cX0_needWord 22 = .ok (.return_, 1) := by decide +kernel
theorem dX0_isChosen_0 : decode cX0_isChosen 0 = .ok (.iload_n 0, 1) := by decide +kernel
theorem dX0_isChosen_1 : decode cX0_isChosen 1 = .ok (.ifCond .ne 17, 3) := by decide +kernel
theorem dX0_isChosen_4 : decode cX0_isChosen 4 = .ok (.iload_n 1, 1) := by decide +kernel
theorem dX0_isChosen_5 : decode cX0_isChosen 5 = .ok (.ifCond .ne 7, 3) := by decide +kernel
theorem dX0_isChosen_8 : decode cX0_isChosen 8 = .ok (.iload_n 2, 1) := by decide +kernel
theorem dX0_isChosen_9 : decode cX0_isChosen 9 = .ok (.ifCond .eq 7, 3) := by decide +kernel
theorem dX0_isChosen_12 : decode cX0_isChosen 12 = .ok (.iconst 1, 1) := by decide +kernel
theorem dX0_isChosen_13 : decode cX0_isChosen 13 = .ok (.goto 4, 3) := by decide +kernel
theorem dX0_isChosen_16 : decode cX0_isChosen 16 = .ok (.iconst 0, 1) := by decide +kernel
theorem dX0_isChosen_17 : decode cX0_isChosen 17 = .ok (.ireturn, 1) := by decide +kernel
theorem dX0_isChosen_18 : decode cX0_isChosen 18 = .ok (.iload_n 0, 1) := by decide +kernel
theorem dX0_isChosen_19 : decode cX0_isChosen 19 = .ok (.iconst 1, 1) := by decide +kernel
theorem dX0_isChosen_20 : decode cX0_isChosen 20 = .ok (.if_icmp .ne 17, 3) := by decide +kernel
theorem dX0_isChosen_23 : decode cX0_isChosen 23 = .ok (.iload_n 1, 1) := by decide +kernel
theorem dX0_isChosen_24 : decode cX0_isChosen 24 = .ok (.ifCond .eq 11, 3) := by decide +kernel
theorem dX0_isChosen_27 : decode cX0_isChosen 27 = .ok (.iload_n 2, 1) := by decide +kernel
theorem dX0_isChosen_28 : decode cX0_isChosen 28 = .ok (.ifCond .eq 7, 3) := by decide +kernel
theorem dX0_isChosen_31 : decode cX0_isChosen 31 = .ok (.iconst 1, 1) := by decide +kernel
theorem dX0_isChosen_32 : decode cX0_isChosen 32 = .ok (.goto 4, 3) := by decide +kernel
theorem dX0_isChosen_35 : decode cX0_isChosen 35 = .ok (.iconst 0, 1) := by decide +kernel
theorem dX0_isChosen_36 : decode cX0_isChosen 36 = .ok (.ireturn, 1) := by decide +kernel
theorem dX0_isChosen_37 : decode cX0_isChosen 37 = .ok (.iload_n 1, 1) := by decide +kernel
theorem dX0_isChosen_38 : decode cX0_isChosen 38 = .ok (.ifCond .eq 11, 3) := by decide +kernel
theorem dX0_isChosen_41 : decode cX0_isChosen 41 = .ok (.iload_n 2, 1) := by decide +kernel
theorem dX0_isChosen_42 : decode cX0_isChosen 42 = .ok (.ifCond .ne 7, 3) := by decide +kernel
theorem dX0_isChosen_45 : decode cX0_isChosen 45 = .ok (.iconst 1, 1) := by decide +kernel
theorem dX0_isChosen_46 : decode cX0_isChosen 46 = .ok (.goto 4, 3) := by decide +kernel
theorem dX0_isChosen_49 : decode cX0_isChosen 49 = .ok (.iconst 0, 1) := by decide +kernel
theorem dX0_isChosen_50 : decode cX0_isChosen 50 = .ok (.ireturn, 1) := by decide +kernel
theorem dX0_isOf_0 : decode cX0_isOf 0 = .ok (.aload_n 0, 1) := by decide +kernel
theorem dX0_isOf_1 : decode cX0_isOf 1 = .ok (.getfield 29, 3) := by decide +kernel
theorem dX0_isOf_4 : decode cX0_isOf 4 = .ok (.iload_n 1, 1) := by decide +kernel
theorem dX0_isOf_5 : decode cX0_isOf 5 = .ok (.iaload, 1) := by decide +kernel
theorem dX0_isOf_6 : decode cX0_isOf 6 = .ok (.iconst 1, 1) := by decide +kernel
theorem dX0_isOf_7 : decode cX0_isOf 7 = .ok (.iload_n 2, 1) := by decide +kernel
theorem dX0_isOf_8 : decode cX0_isOf 8 = .ok (.ishl, 1) := by decide +kernel
theorem dX0_isOf_9 : decode cX0_isOf 9 = .ok (.iand, 1) := by decide +kernel
theorem dX0_isOf_10 : decode cX0_isOf 10 = .ok (.ifCond .eq 7, 3) := by decide +kernel
theorem dX0_isOf_13 : decode cX0_isOf 13 = .ok (.iconst 1, 1) := by decide +kernel
theorem dX0_isOf_14 : decode cX0_isOf 14 = .ok (.goto 4, 3) := by decide +kernel
theorem dX0_isOf_17 : decode cX0_isOf 17 = .ok (.iconst 0, 1) := by decide +kernel
theorem dX0_isOf_18 : decode cX0_isOf 18 = .ok (.ireturn, 1) := by decide +kernel
theorem dX0_isFreeIn_0 : decode cX0_isFreeIn 0 = .ok (.aload_n 0, 1) := by decide +kernel
theorem dX0_isFreeIn_1 : decode cX0_isFreeIn 1 = .ok (.iload_n 1, 1) := by decide +kernel
theorem dX0_isFreeIn_2 : decode cX0_isFreeIn 2 = .ok (.iload_n 2, 1) := by decide +kernel
theorem dX0_isFreeIn_3 : decode cX0_isFreeIn 3 = .ok (.invokevirtual 79, 3) := by decide +kernel
theorem dX0_isFreeIn_6 : decode cX0_isFreeIn 6 = .ok (.ifCond .eq 16, 3) := by decide +kernel
theorem dX0_isFreeIn_9 : decode cX0_isFreeIn 9 = .ok (.aload_n 0, 1) := by decide +kernel
theorem dX0_isFreeIn_10 : decode cX0_isFreeIn 10 = .ok (.getfield 32, 3) := by decide +kernel
theorem dX0_isFreeIn_13 : decode cX0_isFreeIn 13 = .ok (.iload_n 1, 1) := by decide +kernel
theorem dX0_isFreeIn_14 : decode cX0_isFreeIn 14 = .ok (.baload, 1) := by decide +kernel
theorem dX0_isFreeIn_15 : decode cX0_isFreeIn 15 = .ok (.ifCond .ne 7, 3) := by decide +kernel
theorem dX0_isFreeIn_18 : decode cX0_isFreeIn 18 = .ok (.iconst 1, 1) := by decide +kernel
theorem dX0_isFreeIn_19 : decode cX0_isFreeIn 19 = .ok (.goto 4, 3) := by decide +kernel
theorem dX0_isFreeIn_22 : decode cX0_isFreeIn 22 = .ok (.iconst 0, 1) := by decide +kernel
theorem dX0_isFreeIn_23 : decode cX0_isFreeIn 23 = .ok (.ireturn, 1) := by decide +kernel
theorem dX0_foldedSign_0 : decode cX0_foldedSign 0 = .ok (.aload_n 0, 1) := by decide +kernel
theorem dX0_foldedSign_1 : decode cX0_foldedSign 1 = .ok (.getfield 9, 3) := by decide +kernel
theorem dX0_foldedSign_4 : decode cX0_foldedSign 4 = .ok (.iload_n 1, 1) := by decide +kernel
theorem dX0_foldedSign_5 : decode cX0_foldedSign 5 = .ok (.iaload, 1) := by decide +kernel
theorem dX0_foldedSign_6 : decode cX0_foldedSign 6 = .ok (.istore_n 2, 1) := by decide +kernel
theorem dX0_foldedSign_7 : decode cX0_foldedSign 7 = .ok (.iload_n 2, 1) := by decide +kernel
theorem dX0_foldedSign_8 : decode cX0_foldedSign 8 = .ok (.invokestatic 48, 3) := by decide +kernel
theorem dX0_foldedSign_11 : decode cX0_foldedSign 11 = .ok (.ifCond .eq 15, 3) := by decide +kernel
theorem dX0_foldedSign_14 : decode cX0_foldedSign 14 = .ok (.aload_n 0, 1) := by decide +kernel
theorem dX0_foldedSign_15 : decode cX0_foldedSign 15 = .ok (.getfield 17, 3) := by decide +kernel
theorem dX0_foldedSign_18 : decode cX0_foldedSign 18 = .ok (.iload_n 2, 1) := by decide +kernel
theorem dX0_foldedSign_19 : decode cX0_foldedSign 19 = .ok (.bipush 97, 2) := by decide +kernel
theorem dX0_foldedSign_21 : decode cX0_foldedSign 21 = .ok (.isub, 1) := by decide +kernel
theorem dX0_foldedSign_22 : decode cX0_foldedSign 22 = .ok (.iaload, 1) := by decide +kernel
theorem dX0_foldedSign_23 : decode cX0_foldedSign 23 = .ok (.goto 5, 3) := by decide +kernel
theorem dX0_foldedSign_26 : decode cX0_foldedSign 26 = .ok (.bipush 63, 2) := by decide +kernel
theorem dX0_foldedSign_28 : decode cX0_foldedSign 28 = .ok (.ireturn, 1) := by decide +kernel
theorem dX0_rowHasBlank_0 : decode cX0_rowHasBlank 0 = .ok (.iconst 0, 1) := by decide +kernel
theorem dX0_rowHasBlank_1 : decode cX0_rowHasBlank 1 = .ok (.istore_n 1, 1) := by decide +kernel
theorem dX0_rowHasBlank_2 : decode cX0_rowHasBlank 2 = .ok (.iload_n 1, 1) := by decide +kernel
theorem dX0_rowHasBlank_3 : decode cX0_rowHasBlank 3 = .ok (.aload_n 0, 1) := by decide +kernel
theorem dX0_rowHasBlank_4 : decode cX0_rowHasBlank 4 = .ok (.getfield 13, 3) := by decide +kernel
theorem dX0_rowHasBlank_7 : decode cX0_rowHasBlank 7 = .ok (.if_icmp .ge 22, 3) := by decide +kernel
theorem dX0_rowHasBlank_10 : decode cX0_rowHasBlank 10 = .ok (.aload_n 0, 1) := by decide +kernel
theorem dX0_rowHasBlank_11 : decode cX0_rowHasBlank 11 = .ok (.getfield 9, 3) := by decide +kernel
theorem dX0_rowHasBlank_14 : decode cX0_rowHasBlank 14 = .ok (.iload_n 1, 1) := by decide +kernel
theorem dX0_rowHasBlank_15 : decode cX0_rowHasBlank 15 = .ok (.iaload, 1) := by decide +kernel
theorem dX0_rowHasBlank_16 : decode cX0_rowHasBlank 16 = .ok (.bipush 63, 2) := by decide +kernel
theorem dX0_rowHasBlank_18 : decode cX0_rowHasBlank 18 = .ok (.if_icmp .ne 5, 3) := by decide +kernel
theorem dX0_rowHasBlank_21 : decode cX0_rowHasBlank 21 = .ok (.iconst 1, 1) := by decide +kernel
theorem dX0_rowHasBlank_22 : decode cX0_rowHasBlank 22 = .ok (.ireturn, 1) := by decide +kernel
theorem dX0_rowHasBlank_23 : decode cX0_rowHasBlank 23 = .ok (.iinc 1 1, 3) := by decide +kernel
theorem dX0_rowHasBlank_26 : decode cX0_rowHasBlank 26 = .ok (.goto (-24), 3) := by decide +kernel
theorem dX0_rowHasBlank_29 : decode cX0_rowHasBlank 29 = .ok (.iconst 0, 1) := by decide +kernel
theorem dX0_rowHasBlank_30 : decode cX0_rowHasBlank 30 = .ok (.ireturn, 1) := by decide +kernel
theorem dX0_letterOrNone_0 : decode cX0_letterOrNone 0 = .ok (.iload_n 2, 1) := by decide +kernel
theorem dX0_letterOrNone_1 : decode cX0_letterOrNone 1 = .ok (.ifCond .lt 13, 3) := by decide +kernel
theorem dX0_letterOrNone_4 : decode cX0_letterOrNone 4 = .ok (.iload_n 2, 1) := by decide +kernel
theorem dX0_letterOrNone_5 : decode cX0_letterOrNone 5 = .ok (.aload_n 0, 1) := by decide +kernel
theorem dX0_letterOrNone_6 : decode cX0_letterOrNone 6 = .ok (.getfield 23, 3) := by decide +kernel
theorem dX0_letterOrNone_9 : decode cX0_letterOrNone 9 = .ok (.iload_n 1, 1) := by decide +kernel
theorem dX0_letterOrNone_10 : decode cX0_letterOrNone 10 = .ok (.iaload, 1) := by decide +kernel
theorem dX0_letterOrNone_11 : decode cX0_letterOrNone 11 = .ok (.if_icmp .lt 5, 3) := by decide +kernel
theorem dX0_letterOrNone_14 : decode cX0_letterOrNone 14 = .ok (.iconst (-1), 1) := by decide +kernel
theorem dX0_letterOrNone_15 : decode cX0_letterOrNone 15 = .ok (.ireturn, 1) := by decide +kernel
theorem dX0_letterOrNone_16 : decode cX0_letterOrNone 16 = .ok (.aload_n 0, 1) := by decide +kernel
theorem dX0_letterOrNone_17 : decode cX0_letterOrNone 17 = .ok (.getfield 20, 3) := by decide +kernel
theorem dX0_letterOrNone_20 : decode cX0_letterOrNone 20 = .ok (.iload_n 1, 1) := by decide +kernel
theorem dX0_letterOrNone_21 : decode cX0_letterOrNone 21 = .ok (.bipush 15, 2) := by decide +kernel
theorem dX0_letterOrNone_23 : decode cX0_letterOrNone 23 = .ok (.imul, 1) := by decide +kernel
theorem dX0_letterOrNone_24 : decode cX0_letterOrNone 24 = .ok (.iload_n 2, 1) := by decide +kernel
theorem dX0_letterOrNone_25 : decode cX0_letterOrNone 25 = .ok (.iadd, 1) := by decide +kernel
theorem dX0_letterOrNone_26 : decode cX0_letterOrNone 26 = .ok (.iaload, 1) := by decide +kernel
theorem dX0_letterOrNone_27 : decode cX0_letterOrNone 27 = .ok (.ireturn, 1) := by decide +kernel
theorem dX0_timesInWord_0 : decode cX0_timesInWord 0 = .ok (.iconst 0, 1) := by decide +kernel
theorem dX0_timesInWord_1 : decode cX0_timesInWord 1 = .ok (.istore_n 3, 1) := by decide +kernel
theorem dX0_timesInWord_2 : decode cX0_timesInWord 2 = .ok (.iconst 0, 1) := by decide +kernel
theorem dX0_timesInWord_3 : decode cX0_timesInWord 3 = .ok (.istore 4, 2) := by decide +kernel
theorem dX0_timesInWord_5 : decode cX0_timesInWord 5 = .ok (.iload 4, 2) := by decide +kernel
theorem dX0_timesInWord_7 : decode cX0_timesInWord 7 = .ok (.aload_n 0, 1) := by decide +kernel
theorem dX0_timesInWord_8 : decode cX0_timesInWord 8 = .ok (.getfield 23, 3) := by decide +kernel
theorem dX0_timesInWord_11 : decode cX0_timesInWord 11 = .ok (.iload_n 1, 1) := by decide +kernel
theorem dX0_timesInWord_12 : decode cX0_timesInWord 12 = .ok (.iaload, 1) := by decide +kernel
theorem dX0_timesInWord_13 : decode cX0_timesInWord 13 = .ok (.if_icmp .ge 23, 3) := by decide +kernel
theorem dX0_timesInWord_16 : decode cX0_timesInWord 16 = .ok (.aload_n 0, 1) := by decide +kernel
theorem dX0_timesInWord_17 : decode cX0_timesInWord 17 = .ok (.iload_n 1, 1) := by decide +kernel
theorem dX0_timesInWord_18 : decode cX0_timesInWord 18 = .ok (.iload 4, 2) := by decide +kernel
theorem dX0_timesInWord_20 : decode cX0_timesInWord 20 = .ok (.invokevirtual 100, 3) := by decide +kernel
theorem dX0_timesInWord_23 : decode cX0_timesInWord 23 = .ok (.iload_n 2, 1) := by decide +kernel
theorem dX0_timesInWord_24 : decode cX0_timesInWord 24 = .ok (.if_icmp .ne 6, 3) := by decide +kernel
theorem dX0_timesInWord_27 : decode cX0_timesInWord 27 = .ok (.iinc 3 1, 3) := by decide +kernel
theorem dX0_timesInWord_30 : decode cX0_timesInWord 30 = .ok (.iinc 4 1, 3) := by decide +kernel
theorem dX0_timesInWord_33 : decode cX0_timesInWord 33 = .ok (.goto (-28), 3) := by decide +kernel
theorem dX0_timesInWord_36 : decode cX0_timesInWord 36 = .ok (.iload_n 3, 1) := by decide +kernel
theorem dX0_timesInWord_37 : decode cX0_timesInWord 37 = .ok (.ireturn, 1) := by decide +kernel
theorem dX0_hasRowAt_0 : decode cX0_hasRowAt 0 = .ok (.iload_n 2, 1) := by decide +kernel
theorem dX0_hasRowAt_1 : decode cX0_hasRowAt 1 = .ok (.ifCond .lt 18, 3) := by decide +kernel
theorem dX0_hasRowAt_4 : decode cX0_hasRowAt 4 = .ok (.iload_n 2, 1) := by decide +kernel
theorem dX0_hasRowAt_5 : decode cX0_hasRowAt 5 = .ok (.aload_n 0, 1) := by decide +kernel
theorem dX0_hasRowAt_6 : decode cX0_hasRowAt 6 = .ok (.getfield 13, 3) := by decide +kernel
theorem dX0_hasRowAt_9 : decode cX0_hasRowAt 9 = .ok (.iadd, 1) := by decide +kernel
theorem dX0_hasRowAt_10 : decode cX0_hasRowAt 10 = .ok (.aload_n 0, 1) := by decide +kernel
theorem dX0_hasRowAt_11 : decode cX0_hasRowAt 11 = .ok (.getfield 23, 3) := by decide +kernel
theorem dX0_hasRowAt_14 : decode cX0_hasRowAt 14 = .ok (.iload_n 1, 1) := by decide +kernel
theorem dX0_hasRowAt_15 : decode cX0_hasRowAt 15 = .ok (.iaload, 1) := by decide +kernel
theorem dX0_hasRowAt_16 : decode cX0_hasRowAt 16 = .ok (.if_icmp .le 5, 3) := by decide +kernel
theorem dX0_hasRowAt_19 : decode cX0_hasRowAt 19 = .ok (.iconst 0, 1) := by decide +kernel
theorem dX0_hasRowAt_20 : decode cX0_hasRowAt 20 = .ok (.ireturn, 1) := by decide +kernel
theorem dX0_hasRowAt_21 : decode cX0_hasRowAt 21 = .ok (.iconst 0, 1) := by decide +kernel
theorem dX0_hasRowAt_22 : decode cX0_hasRowAt 22 = .ok (.istore_n 3, 1) := by decide +kernel
theorem dX0_hasRowAt_23 : decode cX0_hasRowAt 23 = .ok (.iload_n 3, 1) := by decide +kernel
theorem dX0_hasRowAt_24 : decode cX0_hasRowAt 24 = .ok (.aload_n 0, 1) := by decide +kernel
theorem dX0_hasRowAt_25 : decode cX0_hasRowAt 25 = .ok (.getfield 13, 3) := by decide +kernel
theorem dX0_hasRowAt_28 : decode cX0_hasRowAt 28 = .ok (.if_icmp .ge 38, 3) := by decide +kernel
theorem dX0_hasRowAt_31 : decode cX0_hasRowAt 31 = .ok (.aload_n 0, 1) := by decide +kernel
theorem dX0_hasRowAt_32 : decode cX0_hasRowAt 32 = .ok (.iload_n 3, 1) := by decide +kernel
theorem dX0_hasRowAt_33 : decode cX0_hasRowAt 33 = .ok (.invokevirtual 127, 3) := by decide +kernel
theorem dX0_hasRowAt_36 : decode cX0_hasRowAt 36 = .ok (.istore 4, 2) := by decide +kernel
theorem dX0_hasRowAt_38 : decode cX0_hasRowAt 38 = .ok (.iload 4, 2) := by decide +kernel
theorem dX0_hasRowAt_40 : decode cX0_hasRowAt 40 = .ok (.bipush 63, 2) := by decide +kernel
theorem dX0_hasRowAt_42 : decode cX0_hasRowAt 42 = .ok (.if_icmp .eq 18, 3) := by decide +kernel
theorem dX0_hasRowAt_45 : decode cX0_hasRowAt 45 = .ok (.iload 4, 2) := by decide +kernel
theorem dX0_hasRowAt_47 : decode cX0_hasRowAt 47 = .ok (.aload_n 0, 1) := by decide +kernel
theorem dX0_hasRowAt_48 : decode cX0_hasRowAt 48 = .ok (.iload_n 1, 1) := by decide +kernel
theorem dX0_hasRowAt_49 : decode cX0_hasRowAt 49 = .ok (.iload_n 2, 1) := by decide +kernel
theorem dX0_hasRowAt_50 : decode cX0_hasRowAt 50 = .ok (.iload_n 3, 1) := by decide +kernel
theorem dX0_hasRowAt_51 : decode cX0_hasRowAt 51 = .ok (.iadd, 1) := by decide +kernel
theorem dX0_hasRowAt_52 : decode cX0_hasRowAt 52 = .ok (.invokevirtual 100, 3) := by decide +kernel
theorem dX0_hasRowAt_55 : decode cX0_hasRowAt 55 = .ok (.if_icmp .eq 5, 3) := by decide +kernel
theorem dX0_hasRowAt_58 : decode cX0_hasRowAt 58 = .ok (.iconst 0, 1) := by decide +kernel
theorem dX0_hasRowAt_59 : decode cX0_hasRowAt 59 = .ok (.ireturn, 1) := by decide +kernel
theorem dX0_hasRowAt_60 : decode cX0_hasRowAt 60 = .ok (.iinc 3 1, 3) := by decide +kernel
theorem dX0_hasRowAt_63 : decode cX0_hasRowAt 63 = .ok (.goto (-40), 3) := by decide +kernel
theorem dX0_hasRowAt_66 : decode cX0_hasRowAt 66 = .ok (.iconst 1, 1) := by decide +kernel
theorem dX0_hasRowAt_67 : decode cX0_hasRowAt 67 = .ok (.ireturn, 1) := by decide +kernel
theorem dX0_fits_0 : decode cX0_fits 0 = .ok (.aload_n 0, 1) := by decide +kernel
theorem dX0_fits_1 : decode cX0_fits 1 = .ok (.getfield 23, 3) := by decide +kernel
theorem dX0_fits_4 : decode cX0_fits 4 = .ok (.iload_n 1, 1) := by decide +kernel
theorem dX0_fits_5 : decode cX0_fits 5 = .ok (.iaload, 1) := by decide +kernel
theorem dX0_fits_6 : decode cX0_fits 6 = .ok (.aload_n 0, 1) := by decide +kernel
theorem dX0_fits_7 : decode cX0_fits 7 = .ok (.getfield 13, 3) := by decide +kernel
theorem dX0_fits_10 : decode cX0_fits 10 = .ok (.if_icmp .ne 16, 3) := by decide +kernel
theorem dX0_fits_13 : decode cX0_fits 13 = .ok (.aload_n 0, 1) := by decide +kernel
theorem dX0_fits_14 : decode cX0_fits 14 = .ok (.iload_n 1, 1) := by decide +kernel
theorem dX0_fits_15 : decode cX0_fits 15 = .ok (.iconst 0, 1) := by decide +kernel
theorem dX0_fits_16 : decode cX0_fits 16 = .ok (.invokevirtual 103, 3) := by decide +kernel
theorem dX0_fits_19 : decode cX0_fits 19 = .ok (.ifCond .eq 7, 3) := by decide +kernel
theorem dX0_fits_22 : decode cX0_fits 22 = .ok (.iconst 1, 1) := by decide +kernel
theorem dX0_fits_23 : decode cX0_fits 23 = .ok (.goto 4, 3) := by decide +kernel
theorem dX0_fits_26 : decode cX0_fits 26 = .ok (.iconst 0, 1) := by decide +kernel
theorem dX0_fits_27 : decode cX0_fits 27 = .ok (.ireturn, 1) := by decide +kernel
theorem dX0_wordOfRow_0 : decode cX0_wordOfRow 0 = .ok (.iconst 0, 1) := by decide +kernel
theorem dX0_wordOfRow_1 : decode cX0_wordOfRow 1 = .ok (.istore_n 1, 1) := by decide +kernel
theorem dX0_wordOfRow_2 : decode cX0_wordOfRow 2 = .ok (.iload_n 1, 1) := by decide +kernel
theorem dX0_wordOfRow_3 : decode cX0_wordOfRow 3 = .ok (.aload_n 0, 1) := by decide +kernel
theorem dX0_wordOfRow_4 : decode cX0_wordOfRow 4 = .ok (.getfield 36, 3) := by decide +kernel
theorem dX0_wordOfRow_7 : decode cX0_wordOfRow 7 = .ok (.if_icmp .ge 19, 3) := by decide +kernel
theorem dX0_wordOfRow_10 : decode cX0_wordOfRow 10 = .ok (.aload_n 0, 1) := by decide +kernel
theorem dX0_wordOfRow_11 : decode cX0_wordOfRow 11 = .ok (.iload_n 1, 1) := by decide +kernel
theorem dX0_wordOfRow_12 : decode cX0_wordOfRow 12 = .ok (.invokevirtual 76, 3) := by decide +kernel
theorem dX0_wordOfRow_15 : decode cX0_wordOfRow 15 = .ok (.ifCond .eq 5, 3) := by decide +kernel
theorem dX0_wordOfRow_18 : decode cX0_wordOfRow 18 = .ok (.iload_n 1, 1) := by decide +kernel
theorem dX0_wordOfRow_19 : decode cX0_wordOfRow 19 = .ok (.ireturn, 1) := by decide +kernel
theorem dX0_wordOfRow_20 : decode cX0_wordOfRow 20 = .ok (.iinc 1 1, 3) := by decide +kernel
theorem dX0_wordOfRow_23 : decode cX0_wordOfRow 23 = .ok (.goto (-21), 3) := by decide +kernel
theorem dX0_wordOfRow_26 : decode cX0_wordOfRow 26 = .ok (.iconst (-1), 1) := by decide +kernel
theorem dX0_wordOfRow_27 : decode cX0_wordOfRow 27 = .ok (.ireturn, 1) := by decide +kernel
theorem dX0_addWordOfRow_0 : decode cX0_addWordOfRow 0 = .ok (.aload_n 0, 1) := by decide +kernel
theorem dX0_addWordOfRow_1 : decode cX0_addWordOfRow 1 = .ok (.getfield 36, 3) := by decide +kernel
theorem dX0_addWordOfRow_4 : decode cX0_addWordOfRow 4 = .ok (.istore_n 1, 1) := by decide +kernel
theorem dX0_addWordOfRow_5 : decode cX0_addWordOfRow 5 = .ok (.iconst 0, 1) := by decide +kernel
theorem dX0_addWordOfRow_6 : decode cX0_addWordOfRow 6 = .ok (.istore_n 2, 1) := by decide +kernel
theorem dX0_addWordOfRow_7 : decode cX0_addWordOfRow 7 = .ok (.iload_n 2, 1) := by decide +kernel
theorem dX0_addWordOfRow_8 : decode cX0_addWordOfRow 8 = .ok (.aload_n 0, 1) := by decide +kernel
theorem dX0_addWordOfRow_9 : decode cX0_addWordOfRow 9 = .ok (.getfield 13, 3) := by decide +kernel
theorem dX0_addWordOfRow_12 : decode cX0_addWordOfRow 12 = .ok (.if_icmp .ge 25, 3) := by decide +kernel
theorem dX0_addWordOfRow_15 : decode cX0_addWordOfRow 15 = .ok (.aload_n 0, 1) := by decide +kernel
theorem dX0_addWordOfRow_16 : decode cX0_addWordOfRow 16 = .ok (.getfield 20, 3) := by decide +kernel
theorem dX0_addWordOfRow_19 : decode cX0_addWordOfRow 19 = .ok (.iload_n 1, 1) := by decide +kernel
theorem dX0_addWordOfRow_20 : decode cX0_addWordOfRow 20 = .ok (.bipush 15, 2) := by decide +kernel
theorem dX0_addWordOfRow_22 : decode cX0_addWordOfRow 22 = .ok (.imul, 1) := by decide +kernel
theorem dX0_addWordOfRow_23 : decode cX0_addWordOfRow 23 = .ok (.iload_n 2, 1) := by decide +kernel
theorem dX0_addWordOfRow_24 : decode cX0_addWordOfRow 24 = .ok (.iadd, 1) := by decide +kernel
theorem dX0_addWordOfRow_25 : decode cX0_addWordOfRow 25 = .ok (.aload_n 0, 1) := by decide +kernel
theorem dX0_addWordOfRow_26 : decode cX0_addWordOfRow 26 = .ok (.iload_n 2, 1) := by decide +kernel
theorem dX0_addWordOfRow_27 : decode cX0_addWordOfRow 27 = .ok (.invokevirtual 127, 3) := by decide +kernel
theorem dX0_addWordOfRow_30 : decode cX0_addWordOfRow 30 = .ok (.iastore, 1) := by decide +kernel
theorem dX0_addWordOfRow_31 : decode cX0_addWordOfRow 31 = .ok (.iinc 2 1, 3) := by decide +kernel
theorem dX0_addWordOfRow_34 : decode cX0_addWordOfRow 34 = .ok (.goto (-27), 3) := by decide +kernel
theorem dX0_addWordOfRow_37 : decode cX0_addWordOfRow 37 = .ok (.aload_n 0, 1) := by decide +kernel
theorem dX0_addWordOfRow_38 : decode cX0_addWordOfRow 38 = .ok (.getfield 23, 3) := by decide +kernel
theorem dX0_addWordOfRow_41 : decode cX0_addWordOfRow 41 = .ok (.iload_n 1, 1) := by decide +kernel
theorem dX0_addWordOfRow_42 : decode cX0_addWordOfRow 42 = .ok (.aload_n 0, 1) := by decide +kernel
theorem dX0_addWordOfRow_43 : decode cX0_addWordOfRow 43 = .ok (.getfield 13, 3) := by decide +kernel
theorem dX0_addWordOfRow_46 : decode cX0_addWordOfRow 46 = .ok (.iastore, 1) := by decide +kernel
theorem dX0_addWordOfRow_47 : decode cX0_addWordOfRow 47 = .ok (.aload_n 0, 1) := by decide +kernel
theorem dX0_addWordOfRow_48 : decode cX0_addWordOfRow 48 = .ok (.dup, 1) := by decide +kernel
theorem dX0_addWordOfRow_49 : decode cX0_addWordOfRow 49 = .ok (.getfield 36, 3) := by decide +kernel
theorem dX0_addWordOfRow_52 : decode cX0_addWordOfRow 52 = .ok (.iconst 1, 1) := by decide +kernel
theorem dX0_addWordOfRow_53 : decode cX0_addWordOfRow 53 = .ok (.iadd, 1) := by decide +kernel
theorem dX0_addWordOfRow_54 : decode cX0_addWordOfRow 54 = .ok (.putfield 36, 3) := by decide +kernel
theorem dX0_addWordOfRow_57 : decode cX0_addWordOfRow 57 = .ok (.iload_n 1, 1) := by decide +kernel
theorem dX0_addWordOfRow_58 : decode cX0_addWordOfRow 58 = .ok (.ireturn, 1) := by decide +kernel
theorem dX0_addCandidate_0 : decode cX0_addCandidate 0 = .ok (.aload_n 0, 1) := by decide +kernel
theorem dX0_addCandidate_1 : decode cX0_addCandidate 1 = .ok (.getfield 42, 3) := by decide +kernel
theorem dX0_addCandidate_4 : decode cX0_addCandidate 4 = .ok (.istore_n 2, 1) := by decide +kernel
theorem dX0_addCandidate_5 : decode cX0_addCandidate 5 = .ok (.iload_n 2, 1) := by decide +kernel
theorem dX0_addCandidate_6 : decode cX0_addCandidate 6 = .ok (.ifCond .le 39, 3) := by decide +kernel
theorem dX0_addCandidate_9 : decode cX0_addCandidate 9 = .ok (.aload_n 0, 1) := by decide +kernel
theorem dX0_addCandidate_10 : decode cX0_addCandidate 10 = .ok (.iload_n 1, 1) := by decide +kernel
theorem dX0_addCandidate_11 : decode cX0_addCandidate 11 = .ok (.aload_n 0, 1) := by decide +kernel
theorem dX0_addCandidate_12 : decode cX0_addCandidate 12 = .ok (.getfield 39, 3) := by decide +kernel
theorem dX0_addCandidate_15 : decode cX0_addCandidate 15 = .ok (.iload_n 2, 1) := by decide +kernel
theorem dX0_addCandidate_16 : decode cX0_addCandidate 16 = .ok (.iconst 1, 1) := by decide +kernel
theorem dX0_addCandidate_17 : decode cX0_addCandidate 17 = .ok (.isub, 1) := by decide +kernel
theorem dX0_addCandidate_18 : decode cX0_addCandidate 18 = .ok (.iaload, 1) := by decide +kernel
theorem dX0_addCandidate_19 : decode cX0_addCandidate 19 = .ok (.invokevirtual 131, 3) := by decide +kernel
theorem dX0_addCandidate_22 : decode cX0_addCandidate 22 = .ok (.ifCond .eq 23, 3) := by decide +kernel
theorem dX0_addCandidate_25 : decode cX0_addCandidate 25 = .ok (.aload_n 0, 1) := by decide +kernel
theorem dX0_addCandidate_26 : decode cX0_addCandidate 26 = .ok (.getfield 39, 3) := by decide +kernel
theorem dX0_addCandidate_29 : decode cX0_addCandidate 29 = .ok (.iload_n 2, 1) := by decide +kernel
theorem dX0_addCandidate_30 : decode cX0_addCandidate 30 = .ok (.aload_n 0, 1) := by decide +kernel
theorem dX0_addCandidate_31 : decode cX0_addCandidate 31 = .ok (.getfield 39, 3) := by decide +kernel
theorem dX0_addCandidate_34 : decode cX0_addCandidate 34 = .ok (.iload_n 2, 1) := by decide +kernel
theorem dX0_addCandidate_35 : decode cX0_addCandidate 35 = .ok (.iconst 1, 1) := by decide +kernel
theorem dX0_addCandidate_36 : decode cX0_addCandidate 36 = .ok (.isub, 1) := by decide +kernel
theorem dX0_addCandidate_37 : decode cX0_addCandidate 37 = .ok (.iaload, 1) := by decide +kernel
theorem dX0_addCandidate_38 : decode cX0_addCandidate 38 = .ok (.iastore, 1) := by decide +kernel
theorem dX0_addCandidate_39 : decode cX0_addCandidate 39 = .ok (.iinc 2 (-1), 3) := by decide +kernel
theorem dX0_addCandidate_42 : decode cX0_addCandidate 42 = .ok (.goto (-37), 3) := by decide +kernel
theorem dX0_addCandidate_45 : decode cX0_addCandidate 45 = .ok (.aload_n 0, 1) := by decide +kernel
theorem dX0_addCandidate_46 : decode cX0_addCandidate 46 = .ok (.getfield 39, 3) := by decide +kernel
theorem dX0_addCandidate_49 : decode cX0_addCandidate 49 = .ok (.iload_n 2, 1) := by decide +kernel
theorem dX0_addCandidate_50 : decode cX0_addCandidate 50 = .ok (.iload_n 1, 1) := by decide +kernel
theorem dX0_addCandidate_51 : decode cX0_addCandidate 51 = .ok (.iastore, 1) := by decide +kernel
theorem dX0_addCandidate_52 : decode cX0_addCandidate 52 = .ok (.aload_n 0, 1) := by decide +kernel
theorem dX0_addCandidate_53 : decode cX0_addCandidate 53 = .ok (.dup, 1) := by decide +kernel
theorem dX0_addCandidate_54 : decode cX0_addCandidate 54 = .ok (.getfield 42, 3) := by decide +kernel
theorem dX0_addCandidate_57 : decode cX0_addCandidate 57 = .ok (.iconst 1, 1) := by decide +kernel
theorem dX0_addCandidate_58 : decode cX0_addCandidate 58 = .ok (.iadd, 1) := by decide +kernel
theorem dX0_addCandidate_59 : decode cX0_addCandidate 59 = .ok (.putfield 42, 3) := by decide +kernel
theorem dX0_addCandidate_62 : decode cX0_addCandidate 62 = .ok (.return_, 1) := by decide +kernel
theorem dX0_isAhead_0 : decode cX0_isAhead 0 = .ok (.aload_n 0, 1) := by decide +kernel
theorem dX0_isAhead_1 : decode cX0_isAhead 1 = .ok (.getfield 26, 3) := by decide +kernel
theorem dX0_isAhead_4 : decode cX0_isAhead 4 = .ok (.iload_n 1, 1) := by decide +kernel
theorem dX0_isAhead_5 : decode cX0_isAhead 5 = .ok (.iaload, 1) := by decide +kernel
theorem dX0_isAhead_6 : decode cX0_isAhead 6 = .ok (.aload_n 0, 1) := by decide +kernel
theorem dX0_isAhead_7 : decode cX0_isAhead 7 = .ok (.getfield 26, 3) := by decide +kernel
theorem dX0_isAhead_10 : decode cX0_isAhead 10 = .ok (.iload_n 2, 1) := by decide +kernel
theorem dX0_isAhead_11 : decode cX0_isAhead 11 = .ok (.iaload, 1) := by decide +kernel
theorem dX0_isAhead_12 : decode cX0_isAhead 12 = .ok (.if_icmp .eq 24, 3) := by decide +kernel
theorem dX0_isAhead_15 : decode cX0_isAhead 15 = .ok (.aload_n 0, 1) := by decide +kernel
theorem dX0_isAhead_16 : decode cX0_isAhead 16 = .ok (.getfield 26, 3) := by decide +kernel
theorem dX0_isAhead_19 : decode cX0_isAhead 19 = .ok (.iload_n 1, 1) := by decide +kernel
theorem dX0_isAhead_20 : decode cX0_isAhead 20 = .ok (.iaload, 1) := by decide +kernel
theorem dX0_isAhead_21 : decode cX0_isAhead 21 = .ok (.aload_n 0, 1) := by decide +kernel
theorem dX0_isAhead_22 : decode cX0_isAhead 22 = .ok (.getfield 26, 3) := by decide +kernel
theorem dX0_isAhead_25 : decode cX0_isAhead 25 = .ok (.iload_n 2, 1) := by decide +kernel
theorem dX0_isAhead_26 : decode cX0_isAhead 26 = .ok (.iaload, 1) := by decide +kernel
theorem dX0_isAhead_27 : decode cX0_isAhead 27 = .ok (.if_icmp .le 7, 3) := by decide +kernel
theorem dX0_isAhead_30 : decode cX0_isAhead 30 = .ok (.iconst 1, 1) := by decide +kernel
theorem dX0_isAhead_31 : decode cX0_isAhead 31 = .ok (.goto 4, 3) := by decide +kernel
theorem dX0_isAhead_34 : decode cX0_isAhead 34 = .ok (.iconst 0, 1) := by decide +kernel
theorem dX0_isAhead_35 : decode cX0_isAhead 35 = .ok (.ireturn, 1) := by decide +kernel
theorem dX0_isAhead_36 : decode cX0_isAhead 36 = .ok (.aload_n 0, 1) := by decide +kernel
theorem dX0_isAhead_37 : decode cX0_isAhead 37 = .ok (.iload_n 1, 1) := by decide +kernel
theorem dX0_isAhead_38 : decode cX0_isAhead 38 = .ok (.iload_n 2, 1) := by decide +kernel
theorem dX0_isAhead_39 : decode cX0_isAhead 39 = .ok (.invokevirtual 115, 3) := by decide +kernel
theorem dX0_isAhead_42 : decode cX0_isAhead 42 = .ok (.istore_n 3, 1) := by decide +kernel
theorem dX0_isAhead_43 : decode cX0_isAhead 43 = .ok (.aload_n 0, 1) := by decide +kernel
theorem dX0_isAhead_44 : decode cX0_isAhead 44 = .ok (.iload_n 1, 1) := by decide +kernel
theorem dX0_isAhead_45 : decode cX0_isAhead 45 = .ok (.iload_n 3, 1) := by decide +kernel
theorem dX0_isAhead_46 : decode cX0_isAhead 46 = .ok (.invokevirtual 100, 3) := by decide +kernel
theorem dX0_isAhead_49 : decode cX0_isAhead 49 = .ok (.aload_n 0, 1) := by decide +kernel
theorem dX0_isAhead_50 : decode cX0_isAhead 50 = .ok (.iload_n 2, 1) := by decide +kernel
theorem dX0_isAhead_51 : decode cX0_isAhead 51 = .ok (.iload_n 3, 1) := by decide +kernel
theorem dX0_isAhead_52 : decode cX0_isAhead 52 = .ok (.invokevirtual 100, 3) := by decide +kernel
theorem dX0_isAhead_55 : decode cX0_isAhead 55 = .ok (.if_icmp .ge 7, 3) := by decide +kernel
theorem dX0_isAhead_58 : decode cX0_isAhead 58 = .ok (.iconst 1, 1) := by decide +kernel
theorem dX0_isAhead_59 : decode cX0_isAhead 59 = .ok (.goto 4, 3) := by decide +kernel
theorem dX0_isAhead_62 : decode cX0_isAhead 62 = .ok (.iconst 0, 1) := by decide +kernel
theorem dX0_isAhead_63 : decode cX0_isAhead 63 = .ok (.ireturn, 1) := by decide +kernel
theorem dX0_sharedBeginning_0 : decode cX0_sharedBeginning 0 = .ok (.aload_n 0, 1) := by decide +kernel
theorem dX0_sharedBeginning_1 : decode cX0_sharedBeginning 1 = .ok (.getfield 23, 3) := by decide +kernel
theorem dX0_sharedBeginning_4 : decode cX0_sharedBeginning 4 = .ok (.iload_n 1, 1) := by decide +kernel
theorem dX0_sharedBeginning_5 : decode cX0_sharedBeginning 5 = .ok (.iaload, 1) := by decide +kernel
theorem dX0_sharedBeginning_6 : decode cX0_sharedBeginning 6 = .ok (.aload_n 0, 1) := by decide +kernel
theorem dX0_sharedBeginning_7 : decode cX0_sharedBeginning 7 = .ok (.getfield 23, 3) := by decide +kernel
theorem dX0_sharedBeginning_10 : decode cX0_sharedBeginning 10 = .ok (.iload_n 2, 1) := by decide +kernel
theorem dX0_sharedBeginning_11 : decode cX0_sharedBeginning 11 = .ok (.iaload, 1) := by decide +kernel
theorem dX0_sharedBeginning_12 : decode cX0_sharedBeginning 12 = .ok (.invokestatic 118, 3) := by decide +kernel
theorem dX0_sharedBeginning_15 : decode cX0_sharedBeginning 15 = .ok (.istore_n 3, 1) := by decide +kernel
theorem dX0_sharedBeginning_16 : decode cX0_sharedBeginning 16 = .ok (.iconst 0, 1) := by decide +kernel
theorem dX0_sharedBeginning_17 : decode cX0_sharedBeginning 17 = .ok (.istore 4, 2) := by decide +kernel
theorem dX0_sharedBeginning_19 : decode cX0_sharedBeginning 19 = .ok (.iload 4, 2) := by decide +kernel
theorem dX0_sharedBeginning_21 : decode cX0_sharedBeginning 21 = .ok (.iload_n 3, 1) := by decide +kernel
theorem dX0_sharedBeginning_22 : decode cX0_sharedBeginning 22 = .ok (.if_icmp .ge 26, 3) := by decide +kernel
theorem dX0_sharedBeginning_25 : decode cX0_sharedBeginning 25 = .ok (.aload_n 0, 1) := by decide +kernel
theorem dX0_sharedBeginning_26 : decode cX0_sharedBeginning 26 = .ok (.iload_n 1, 1) := by decide +kernel
theorem dX0_sharedBeginning_27 : decode cX0_sharedBeginning 27 = .ok (.iload 4, 2) := by decide +kernel
theorem dX0_sharedBeginning_29 : decode cX0_sharedBeginning 29 = .ok (.invokevirtual 100, 3) := by decide +kernel
theorem dX0_sharedBeginning_32 : decode cX0_sharedBeginning 32 = .ok (.aload_n 0, 1) := by decide +kernel
theorem dX0_sharedBeginning_33 : decode cX0_sharedBeginning 33 = .ok (.iload_n 2, 1) := by decide +kernel
theorem dX0_sharedBeginning_34 : decode cX0_sharedBeginning 34 = .ok (.iload 4, 2) := by decide +kernel
theorem dX0_sharedBeginning_36 : decode cX0_sharedBeginning 36 = .ok (.invokevirtual 100, 3) := by decide +kernel
theorem dX0_sharedBeginning_39 : decode cX0_sharedBeginning 39 = .ok (.if_icmp .ne 9, 3) := by decide +kernel
theorem dX0_sharedBeginning_42 : decode cX0_sharedBeginning 42 = .ok (.iinc 4 1, 3) := by decide +kernel
theorem dX0_sharedBeginning_45 : decode cX0_sharedBeginning 45 = .ok (.goto (-26), 3) := by decide +kernel
theorem dX0_sharedBeginning_48 : decode cX0_sharedBeginning 48 = .ok (.iload 4, 2) := by decide +kernel
theorem dX0_sharedBeginning_50 : decode cX0_sharedBeginning 50 = .ok (.ireturn, 1) := by decide +kernel
theorem dX0_isRowInSomeOrder_0 : decode cX0_isRowInSomeOrder 0 = .ok (.aload_n 0, 1) := by decide +kernel
theorem dX0_isRowInSomeOrder_1 : decode cX0_isRowInSomeOrder 1 = .ok (.getfield 23, 3) := by decide +kernel
theorem dX0_isRowInSomeOrder_4 : decode cX0_isRowInSomeOrder 4 = .ok (.iload_n 1, 1) := by decide +kernel
theorem dX0_isRowInSomeOrder_5 : decode cX0_isRowInSomeOrder 5 = .ok (.iaload, 1) := by decide +kernel
theorem dX0_isRowInSomeOrder_6 : decode cX0_isRowInSomeOrder 6 = .ok (.aload_n 0, 1) := by decide +kernel
theorem dX0_isRowInSomeOrder_7 : decode cX0_isRowInSomeOrder 7 = .ok (.getfield 13, 3) := by decide +kernel
theorem dX0_isRowInSomeOrder_10 : decode cX0_isRowInSomeOrder 10 = .ok (.if_icmp .eq 5, 3) := by decide +kernel
theorem dX0_isRowInSomeOrder_13 : decode cX0_isRowInSomeOrder 13 = .ok (.iconst 0, 1) := by decide +kernel
theorem dX0_isRowInSomeOrder_14 : decode cX0_isRowInSomeOrder 14 = .ok (.ireturn, 1) := by decide +kernel
theorem dX0_isRowInSomeOrder_15 : decode cX0_isRowInSomeOrder 15 = .ok (.aload_n 0, 1) := by decide +kernel
theorem dX0_isRowInSomeOrder_16 : decode cX0_isRowInSomeOrder 16 = .ok (.invokevirtual 134, 3) := by decide +kernel
theorem dX0_isRowInSomeOrder_19 : decode cX0_isRowInSomeOrder 19 = .ok (.istore_n 2, 1) := by decide +kernel
theorem dX0_isRowInSomeOrder_20 : decode cX0_isRowInSomeOrder 20 = .ok (.iconst 0, 1) := by decide +kernel
theorem dX0_isRowInSomeOrder_21 : decode cX0_isRowInSomeOrder 21 = .ok (.istore_n 3, 1) := by decide +kernel
theorem dX0_isRowInSomeOrder_22 : decode cX0_isRowInSomeOrder 22 = .ok (.iload_n 3, 1) := by decide +kernel
theorem dX0_isRowInSomeOrder_23 : decode cX0_isRowInSomeOrder 23 = .ok (.aload_n 0, 1) := by decide +kernel
theorem dX0_isRowInSomeOrder_24 : decode cX0_isRowInSomeOrder 24 = .ok (.getfield 13, 3) := by decide +kernel
theorem dX0_isRowInSomeOrder_27 : decode cX0_isRowInSomeOrder 27 = .ok (.if_icmp .ge 59, 3) := by decide +kernel
theorem dX0_isRowInSomeOrder_30 : decode cX0_isRowInSomeOrder 30 = .ok (.aload_n 0, 1) := by decide +kernel
theorem dX0_isRowInSomeOrder_31 : decode cX0_isRowInSomeOrder 31 = .ok (.iload_n 1, 1) := by decide +kernel
theorem dX0_isRowInSomeOrder_32 : decode cX0_isRowInSomeOrder 32 = .ok (.iload_n 3, 1) := by decide +kernel
theorem dX0_isRowInSomeOrder_33 : decode cX0_isRowInSomeOrder 33 = .ok (.invokevirtual 100, 3) := by decide +kernel
theorem dX0_isRowInSomeOrder_36 : decode cX0_isRowInSomeOrder 36 = .ok (.bipush 97, 2) := by decide +kernel
theorem dX0_isRowInSomeOrder_38 : decode cX0_isRowInSomeOrder 38 = .ok (.isub, 1) := by decide +kernel
theorem dX0_isRowInSomeOrder_39 : decode cX0_isRowInSomeOrder 39 = .ok (.istore 4, 2) := by decide +kernel
theorem dX0_isRowInSomeOrder_41 : decode cX0_isRowInSomeOrder 41 = .ok (.iload 4, 2) := by decide +kernel
theorem dX0_isRowInSomeOrder_43 : decode cX0_isRowInSomeOrder 43 = .ok (.ifCond .lt 34, 3) := by decide +kernel
theorem dX0_isRowInSomeOrder_46 : decode cX0_isRowInSomeOrder 46 = .ok (.iload 4, 2) := by decide +kernel
theorem dX0_isRowInSomeOrder_48 : decode cX0_isRowInSomeOrder 48 = .ok (.bipush 26, 2) := by decide +kernel
theorem dX0_isRowInSomeOrder_50 : decode cX0_isRowInSomeOrder 50 = .ok (.if_icmp .ge 27, 3) := by decide +kernel
theorem dX0_isRowInSomeOrder_53 : decode cX0_isRowInSomeOrder 53 = .ok (.aload_n 0, 1) := by decide +kernel
theorem dX0_isRowInSomeOrder_54 : decode cX0_isRowInSomeOrder 54 = .ok (.getfield 45, 3) := by decide +kernel
theorem dX0_isRowInSomeOrder_57 : decode cX0_isRowInSomeOrder 57 = .ok (.iload 4, 2) := by decide +kernel
theorem dX0_isRowInSomeOrder_59 : decode cX0_isRowInSomeOrder 59 = .ok (.iaload, 1) := by decide +kernel
theorem dX0_isRowInSomeOrder_60 : decode cX0_isRowInSomeOrder 60 = .ok (.ifCond .le 17, 3) := by decide +kernel
theorem dX0_isRowInSomeOrder_63 : decode cX0_isRowInSomeOrder 63 = .ok (.aload_n 0, 1) := by decide +kernel
theorem dX0_isRowInSomeOrder_64 : decode cX0_isRowInSomeOrder 64 = .ok (.getfield 45, 3) := by decide +kernel
theorem dX0_isRowInSomeOrder_67 : decode cX0_isRowInSomeOrder 67 = .ok (.iload 4, 2) := by decide +kernel
theorem dX0_isRowInSomeOrder_69 : decode cX0_isRowInSomeOrder 69 = .ok (.dup2, 1) := by decide +kernel
theorem dX0_isRowInSomeOrder_70 : decode cX0_isRowInSomeOrder 70 = .ok (.iaload, 1) := by decide +kernel
theorem dX0_isRowInSomeOrder_71 : decode cX0_isRowInSomeOrder 71 = .ok (.iconst 1, 1) := by decide +kernel
theorem dX0_isRowInSomeOrder_72 : decode cX0_isRowInSomeOrder 72 = .ok (.isub, 1) := by decide +kernel
theorem dX0_isRowInSomeOrder_73 : decode cX0_isRowInSomeOrder 73 = .ok (.iastore, 1) := by decide +kernel
theorem dX0_isRowInSomeOrder_74 : decode cX0_isRowInSomeOrder 74 = .ok (.goto 6, 3) := by decide +kernel
theorem dX0_isRowInSomeOrder_77 : decode cX0_isRowInSomeOrder 77 = .ok (.iinc 2 (-1), 3) := by decide +kernel
theorem dX0_isRowInSomeOrder_80 : decode cX0_isRowInSomeOrder 80 = .ok (.iinc 3 1, 3) := by decide +kernel
theorem dX0_isRowInSomeOrder_83 : decode cX0_isRowInSomeOrder 83 = .ok (.goto (-61), 3) := by decide +kernel
theorem dX0_isRowInSomeOrder_86 : decode cX0_isRowInSomeOrder 86 = .ok (.iload_n 2, 1) := by decide +kernel
theorem dX0_isRowInSomeOrder_87 : decode cX0_isRowInSomeOrder 87 = .ok (.ifCond .lt 7, 3) := by decide +kernel
theorem dX0_isRowInSomeOrder_90 : decode cX0_isRowInSomeOrder 90 = .ok (.iconst 1, 1) := by decide +kernel
theorem dX0_isRowInSomeOrder_91 : decode cX0_isRowInSomeOrder 91 = .ok (.goto 4, 3) := by decide +kernel
theorem dX0_isRowInSomeOrder_94 : decode cX0_isRowInSomeOrder 94 = .ok (.iconst 0, 1) := by decide +kernel
theorem dX0_isRowInSomeOrder_95 : decode cX0_isRowInSomeOrder 95 = .ok (.ireturn, 1) := by decide +kernel
theorem dX0_fillStock_0 : decode cX0_fillStock 0 = .ok (.iconst 0, 1) := by decide +kernel
theorem dX0_fillStock_1 : decode cX0_fillStock 1 = .ok (.istore_n 1, 1) := by decide +kernel
theorem dX0_fillStock_2 : decode cX0_fillStock 2 = .ok (.iload_n 1, 1) := by decide +kernel
theorem dX0_fillStock_3 : decode cX0_fillStock 3 = .ok (.bipush 26, 2) := by decide +kernel
theorem dX0_fillStock_5 : decode cX0_fillStock 5 = .ok (.if_icmp .ge 16, 3) := by decide +kernel
theorem dX0_fillStock_8 : decode cX0_fillStock 8 = .ok (.aload_n 0, 1) := by decide +kernel
theorem dX0_fillStock_9 : decode cX0_fillStock 9 = .ok (.getfield 45, 3) := by decide +kernel
theorem dX0_fillStock_12 : decode cX0_fillStock 12 = .ok (.iload_n 1, 1) := by decide +kernel
theorem dX0_fillStock_13 : decode cX0_fillStock 13 = .ok (.iconst 0, 1) := by decide +kernel
theorem dX0_fillStock_14 : decode cX0_fillStock 14 = .ok (.iastore, 1) := by decide +kernel
theorem dX0_fillStock_15 : decode cX0_fillStock 15 = .ok (.iinc 1 1, 3) := by decide +kernel
theorem dX0_fillStock_18 : decode cX0_fillStock 18 = .ok (.goto (-16), 3) := by decide +kernel
theorem dX0_fillStock_21 : decode cX0_fillStock 21 = .ok (.iconst 0, 1) := by decide +kernel
theorem dX0_fillStock_22 : decode cX0_fillStock 22 = .ok (.istore_n 1, 1) := by decide +kernel
theorem dX0_fillStock_23 : decode cX0_fillStock 23 = .ok (.iconst 0, 1) := by decide +kernel
theorem dX0_fillStock_24 : decode cX0_fillStock 24 = .ok (.istore_n 2, 1) := by decide +kernel
theorem dX0_fillStock_25 : decode cX0_fillStock 25 = .ok (.iload_n 2, 1) := by decide +kernel
theorem dX0_fillStock_26 : decode cX0_fillStock 26 = .ok (.aload_n 0, 1) := by decide +kernel
theorem dX0_fillStock_27 : decode cX0_fillStock 27 = .ok (.getfield 13, 3) := by decide +kernel
theorem dX0_fillStock_30 : decode cX0_fillStock 30 = .ok (.if_icmp .ge 41, 3) := by decide +kernel
theorem dX0_fillStock_33 : decode cX0_fillStock 33 = .ok (.aload_n 0, 1) := by decide +kernel
theorem dX0_fillStock_34 : decode cX0_fillStock 34 = .ok (.iload_n 2, 1) := by decide +kernel
theorem dX0_fillStock_35 : decode cX0_fillStock 35 = .ok (.invokevirtual 127, 3) := by decide +kernel
theorem dX0_fillStock_38 : decode cX0_fillStock 38 = .ok (.istore_n 3, 1) := by decide +kernel
theorem dX0_fillStock_39 : decode cX0_fillStock 39 = .ok (.iload_n 3, 1) := by decide +kernel
theorem dX0_fillStock_40 : decode cX0_fillStock 40 = .ok (.invokestatic 48, 3) := by decide +kernel
theorem dX0_fillStock_43 : decode cX0_fillStock 43 = .ok (.ifCond .eq 19, 3) := by decide +kernel
theorem dX0_fillStock_46 : decode cX0_fillStock 46 = .ok (.aload_n 0, 1) := by decide +kernel
theorem dX0_fillStock_47 : decode cX0_fillStock 47 = .ok (.getfield 45, 3) := by decide +kernel
theorem dX0_fillStock_50 : decode cX0_fillStock 50 = .ok (.iload_n 3, 1) := by decide +kernel
theorem dX0_fillStock_51 : decode cX0_fillStock 51 = .ok (.bipush 97, 2) := by decide +kernel
theorem dX0_fillStock_53 : decode cX0_fillStock 53 = .ok (.isub, 1) := by decide +kernel
theorem dX0_fillStock_54 : decode cX0_fillStock 54 = .ok (.dup2, 1) := by decide +kernel
theorem dX0_fillStock_55 : decode cX0_fillStock 55 = .ok (.iaload, 1) := by decide +kernel
theorem dX0_fillStock_56 : decode cX0_fillStock 56 = .ok (.iconst 1, 1) := by decide +kernel
theorem dX0_fillStock_57 : decode cX0_fillStock 57 = .ok (.iadd, 1) := by decide +kernel
theorem dX0_fillStock_58 : decode cX0_fillStock 58 = .ok (.iastore, 1) := by decide +kernel
theorem dX0_fillStock_59 : decode cX0_fillStock 59 = .ok (.goto 6, 3) := by decide +kernel
theorem dX0_fillStock_62 : decode cX0_fillStock 62 = .ok (.iinc 1 1, 3) := by decide +kernel
theorem dX0_fillStock_65 : decode cX0_fillStock 65 = .ok (.iinc 2 1, 3) := by decide +kernel
theorem dX0_fillStock_68 : decode cX0_fillStock 68 = .ok (.goto (-43), 3) := by decide +kernel
theorem dX0_fillStock_71 : decode cX0_fillStock 71 = .ok (.iload_n 1, 1) := by decide +kernel
theorem dX0_fillStock_72 : decode cX0_fillStock 72 = .ok (.ireturn, 1) := by decide +kernel
