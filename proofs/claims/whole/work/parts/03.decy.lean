theorem dX1_init_0 : decode cX1_init 0 = .ok (.aload_n 0, 1) := by decide +kernel
theorem dX1_init_1 : decode cX1_init 1 = .ok (.invokespecial 1, 3) := by decide +kernel
theorem dX1_init_4 : decode cX1_init 4 = .ok (.aload_n 0, 1) := by decide +kernel
theorem dX1_init_5 : decode cX1_init 5 = .ok (.bipush 15, 2) := by decide +kernel
theorem dX1_init_7 : decode cX1_init 7 = .ok (.newarray .int, 2) := by decide +kernel
theorem dX1_init_9 : decode cX1_init 9 = .ok (.putfield 7, 3) := by decide +kernel
theorem dX1_init_12 : decode cX1_init 12 = .ok (.aload_n 0, 1) := by decide +kernel
theorem dX1_init_13 : decode cX1_init 13 = .ok (.bipush 26, 2) := by decide +kernel
theorem dX1_init_15 : decode cX1_init 15 = .ok (.newarray .int, 2) := by decide +kernel
theorem dX1_init_17 : decode cX1_init 17 = .ok (.putfield 13, 3) := by decide +kernel
theorem dX1_init_20 : decode cX1_init 20 = .ok (.aload_n 0, 1) := by decide +kernel
theorem dX1_init_21 : decode cX1_init 21 = .ok (.sipush 3750, 3) := by decide +kernel
theorem dX1_init_24 : decode cX1_init 24 = .ok (.newarray .int, 2) := by decide +kernel
theorem dX1_init_26 : decode cX1_init 26 = .ok (.putfield 16, 3) := by decide +kernel
theorem dX1_init_29 : decode cX1_init 29 = .ok (.aload_n 0, 1) := by decide +kernel
theorem dX1_init_30 : decode cX1_init 30 = .ok (.sipush 250, 3) := by decide +kernel
theorem dX1_init_33 : decode cX1_init 33 = .ok (.newarray .int, 2) := by decide +kernel
theorem dX1_init_35 : decode cX1_init 35 = .ok (.putfield 19, 3) := by decide +kernel
theorem dX1_init_38 : decode cX1_init 38 = .ok (.aload_n 0, 1) := by decide +kernel
theorem dX1_init_39 : decode cX1_init 39 = .ok (.sipush 250, 3) := by decide +kernel
theorem dX1_init_42 : decode cX1_init 42 = .ok (.newarray .int, 2) := by decide +kernel
theorem dX1_init_44 : decode cX1_init 44 = .ok (.putfield 22, 3) := by decide +kernel
theorem dX1_init_47 : decode cX1_init 47 = .ok (.aload_n 0, 1) := by decide +kernel
theorem dX1_init_48 : decode cX1_init 48 = .ok (.sipush 250, 3) := by decide +kernel
theorem dX1_init_51 : decode cX1_init 51 = .ok (.newarray .int, 2) := by decide +kernel
theorem dX1_init_53 : decode cX1_init 53 = .ok (.putfield 25, 3) := by decide +kernel
theorem dX1_init_56 : decode cX1_init 56 = .ok (.aload_n 0, 1) := by decide +kernel
theorem dX1_init_57 : decode cX1_init 57 = .ok (.sipush 250, 3) := by decide +kernel
theorem dX1_init_60 : decode cX1_init 60 = .ok (.newarray .boolean, 2) := by decide +kernel
theorem dX1_init_62 : decode cX1_init 62 = .ok (.putfield 28, 3) := by decide +kernel
theorem dX1_init_65 : decode cX1_init 65 = .ok (.aload_n 0, 1) := by decide +kernel
theorem dX1_init_66 : decode cX1_init 66 = .ok (.sipush 250, 3) := by decide +kernel
theorem dX1_init_69 : decode cX1_init 69 = .ok (.newarray .int, 2) := by decide +kernel
theorem dX1_init_71 : decode cX1_init 71 = .ok (.putfield 32, 3) := by decide +kernel
theorem dX1_init_74 : decode cX1_init 74 = .ok (.aload_n 0, 1) := by decide +kernel
theorem dX1_init_75 : decode cX1_init 75 = .ok (.bipush 26, 2) := by decide +kernel
theorem dX1_init_77 : decode cX1_init 77 = .ok (.newarray .int, 2) := by decide +kernel
theorem dX1_init_79 : decode cX1_init 79 = .ok (.putfield 35, 3) := by decide +kernel
theorem dX1_init_82 : decode cX1_init 82 = .ok (.iconst 0, 1) := by decide +kernel
theorem dX1_init_83 : decode cX1_init 83 = .ok (.istore_n 1, 1) := by decide +kernel
theorem dX1_init_84 : decode cX1_init 84 = .ok (.iload_n 1, 1) := by decide +kernel
theorem dX1_init_85 : decode cX1_init 85 = .ok (.bipush 26, 2) := by decide +kernel
theorem dX1_init_87 : decode cX1_init 87 = .ok (.if_icmp .ge 19, 3) := by decide +kernel
theorem dX1_init_90 : decode cX1_init 90 = .ok (.aload_n 0, 1) := by decide +kernel
theorem dX1_init_91 : decode cX1_init 91 = .ok (.getfield 13, 3) := by decide +kernel
theorem dX1_init_94 : decode cX1_init 94 = .ok (.iload_n 1, 1) := by decide +kernel
theorem dX1_init_95 : decode cX1_init 95 = .ok (.bipush 97, 2) := by decide +kernel
theorem dX1_init_97 : decode cX1_init 97 = .ok (.iload_n 1, 1) := by decide +kernel
theorem dX1_init_98 : decode cX1_init 98 = .ok (.iadd, 1) := by decide +kernel
theorem dX1_init_99 : decode cX1_init 99 = .ok (.iastore, 1) := by decide +kernel
theorem dX1_init_100 : decode cX1_init 100 = .ok (.iinc 1 1, 3) := by decide +kernel
theorem dX1_init_103 : decode cX1_init 103 = .ok (.goto (-19), 3) := by decide +kernel
theorem dX1_init_106 : decode cX1_init 106 = .ok (.return_, 1) := by decide +kernel
theorem dX1_thrown_0 : decode cX1_thrown 0 = .ok (.aload_n 0, 1) := by decide +kernel
theorem dX1_thrown_1 : decode cX1_thrown 1 = .ok (.getfield 38, 3) := by decide +kernel
theorem dX1_thrown_4 : decode cX1_thrown 4 = .ok (.ireturn, 1) := by decide +kernel
theorem dX1_fails_0 : decode cX1_fails 0 = .ok (.aload_n 0, 1) := by decide +kernel
theorem dX1_fails_1 : decode cX1_fails 1 = .ok (.iload_n 1, 1) := by decide +kernel
theorem dX1_fails_2 : decode cX1_fails 2 = .ok (.ifCond .eq 7, 3) := by decide +kernel
theorem dX1_fails_5 : decode cX1_fails 5 = .ok (.iconst 1, 1) := by decide +kernel
theorem dX1_fails_6 : decode cX1_fails 6 = .ok (.goto 4, 3) := by decide +kernel
theorem dX1_fails_9 : decode cX1_fails 9 = .ok (.iconst 0, 1) := by decide +kernel
theorem dX1_fails_10 : decode cX1_fails 10 = .ok (.putfield 38, 3) := by decide +kernel
theorem dX1_fails_13 : decode cX1_fails 13 = .ok (.iload_n 1, 1) := by decide +kernel
theorem dX1_fails_14 : decode cX1_fails 14 = .ok (.ireturn, 1) := by decide +kernel
theorem dX1_isLetter_0 : decode cX1_isLetter 0 = .ok (.iload_n 0, 1) := by decide +kernel
theorem dX1_isLetter_1 : decode cX1_isLetter 1 = .ok (.bipush 97, 2) := by decide +kernel
theorem dX1_isLetter_3 : decode cX1_isLetter 3 = .ok (.if_icmp .lt 13, 3) := by decide +kernel
theorem dX1_isLetter_6 : decode cX1_isLetter 6 = .ok (.iload_n 0, 1) := by decide +kernel
theorem dX1_isLetter_7 : decode cX1_isLetter 7 = .ok (.bipush 122, 2) := by decide +kernel
theorem dX1_isLetter_9 : decode cX1_isLetter 9 = .ok (.if_icmp .gt 7, 3) := by decide +kernel
theorem dX1_isLetter_12 : decode cX1_isLetter 12 = .ok (.iconst 1, 1) := by decide +kernel
theorem dX1_isLetter_13 : decode cX1_isLetter 13 = .ok (.goto 4, 3) := by decide +kernel
theorem dX1_isLetter_16 : decode cX1_isLetter 16 = .ok (.iconst 0, 1) := by decide +kernel
theorem dX1_isLetter_17 : decode cX1_isLetter 17 = .ok (.ireturn, 1) := by decide +kernel
theorem dX1_isList_0 : decode cX1_isList 0 = .ok (.iload_n 0, 1) := by decide +kernel
theorem dX1_isList_1 : decode cX1_isList 1 = .ok (.ifCond .lt 12, 3) := by decide +kernel
theorem dX1_isList_4 : decode cX1_isList 4 = .ok (.iload_n 0, 1) := by decide +kernel
theorem dX1_isList_5 : decode cX1_isList 5 = .ok (.iconst 4, 1) := by decide +kernel
theorem dX1_isList_6 : decode cX1_isList 6 = .ok (.if_icmp .ge 7, 3) := by decide +kernel
theorem dX1_isList_9 : decode cX1_isList 9 = .ok (.iconst 1, 1) := by decide +kernel
theorem dX1_isList_10 : decode cX1_isList 10 = .ok (.goto 4, 3) := by decide +kernel
theorem dX1_isList_13 : decode cX1_isList 13 = .ok (.iconst 0, 1) := by decide +kernel
theorem dX1_isList_14 : decode cX1_isList 14 = .ok (.ireturn, 1) := by decide +kernel
theorem dX1_isWord_0 : decode cX1_isWord 0 = .ok (.iload_n 1, 1) := by decide +kernel
theorem dX1_isWord_1 : decode cX1_isWord 1 = .ok (.ifCond .lt 15, 3) := by decide +kernel
theorem dX1_isWord_4 : decode cX1_isWord 4 = .ok (.iload_n 1, 1) := by decide +kernel
theorem dX1_isWord_5 : decode cX1_isWord 5 = .ok (.aload_n 0, 1) := by decide +kernel
theorem dX1_isWord_6 : decode cX1_isWord 6 = .ok (.getfield 42, 3) := by decide +kernel
theorem dX1_isWord_9 : decode cX1_isWord 9 = .ok (.if_icmp .ge 7, 3) := by decide +kernel
theorem dX1_isWord_12 : decode cX1_isWord 12 = .ok (.iconst 1, 1) := by decide +kernel
theorem dX1_isWord_13 : decode cX1_isWord 13 = .ok (.goto 4, 3) := by decide +kernel
theorem dX1_isWord_16 : decode cX1_isWord 16 = .ok (.iconst 0, 1) := by decide +kernel
theorem dX1_isWord_17 : decode cX1_isWord 17 = .ok (.ireturn, 1) := by decide +kernel
theorem dX1_sign_0 : decode cX1_sign 0 = .ok (.aload_n 0, 1) := by decide +kernel
theorem dX1_sign_1 : decode cX1_sign 1 = .ok (.iconst 0, 1) := by decide +kernel
theorem dX1_sign_2 : decode cX1_sign 2 = .ok (.putfield 38, 3) := by decide +kernel
theorem dX1_sign_5 : decode cX1_sign 5 = .ok (.iload_n 1, 1) := by decide +kernel
theorem dX1_sign_6 : decode cX1_sign 6 = .ok (.invokestatic 45, 3) := by decide +kernel
theorem dX1_sign_9 : decode cX1_sign 9 = .ok (.ifCond .ne 9, 3) := by decide +kernel
theorem dX1_sign_12 : decode cX1_sign 12 = .ok (.iload_n 1, 1) := by decide +kernel
theorem dX1_sign_13 : decode cX1_sign 13 = .ok (.bipush 63, 2) := by decide +kernel
theorem dX1_sign_15 : decode cX1_sign 15 = .ok (.if_icmp .ne 12, 3) := by decide +kernel
theorem dX1_sign_18 : decode cX1_sign 18 = .ok (.aload_n 0, 1) := by decide +kernel
theorem dX1_sign_19 : decode cX1_sign 19 = .ok (.getfield 49, 3) := by decide +kernel
theorem dX1_sign_22 : decode cX1_sign 22 = .ok (.bipush 15, 2) := by decide +kernel
theorem dX1_sign_24 : decode cX1_sign 24 = .ok (.if_icmp .ne 5, 3) := by decide +kernel
theorem dX1_sign_27 : decode cX1_sign 27 = .ok (.iconst 0, 1) := by decide +kernel
theorem dX1_sign_28 : decode cX1_sign 28 = .ok (.ireturn, 1) := by decide +kernel
theorem dX1_sign_29 : decode cX1_sign 29 = .ok (.aload_n 0, 1) := by decide +kernel
theorem dX1_sign_30 : decode cX1_sign 30 = .ok (.getfield 7, 3) := by decide +kernel
theorem dX1_sign_33 : decode cX1_sign 33 = .ok (.aload_n 0, 1) := by decide +kernel
theorem dX1_sign_34 : decode cX1_sign 34 = .ok (.getfield 49, 3) := by decide +kernel
theorem dX1_sign_37 : decode cX1_sign 37 = .ok (.iload_n 1, 1) := by decide +kernel
theorem dX1_sign_38 : decode cX1_sign 38 = .ok (.iastore, 1) := by decide +kernel
theorem dX1_sign_39 : decode cX1_sign 39 = .ok (.aload_n 0, 1) := by decide +kernel
theorem dX1_sign_40 : decode cX1_sign 40 = .ok (.dup, 1) := by decide +kernel
theorem dX1_sign_41 : decode cX1_sign 41 = .ok (.getfield 49, 3) := by decide +kernel
theorem dX1_sign_44 : decode cX1_sign 44 = .ok (.iconst 1, 1) := by decide +kernel
theorem dX1_sign_45 : decode cX1_sign 45 = .ok (.iadd, 1) := by decide +kernel
theorem dX1_sign_46 : decode cX1_sign 46 = .ok (.putfield 49, 3) := by decide +kernel
theorem dX1_sign_49 : decode cX1_sign 49 = .ok (.iconst 1, 1) := by decide +kernel
theorem dX1_sign_50 : decode cX1_sign 50 = .ok (.ireturn, 1) := by decide +kernel
theorem dX1_clear_0 : decode cX1_clear 0 = .ok (.aload_n 0, 1) := by decide +kernel
theorem dX1_clear_1 : decode cX1_clear 1 = .ok (.iconst 0, 1) := by decide +kernel
theorem dX1_clear_2 : decode cX1_clear 2 = .ok (.putfield 38, 3) := by decide +kernel
theorem dX1_clear_5 : decode cX1_clear 5 = .ok (.aload_n 0, 1) := by decide +kernel
theorem dX1_clear_6 : decode cX1_clear 6 = .ok (.iconst 0, 1) := by decide +kernel
theorem dX1_clear_7 : decode cX1_clear 7 = .ok (.putfield 49, 3) := by decide +kernel
theorem dX1_clear_10 : decode cX1_clear 10 = .ok (.return_, 1) := by decide +kernel
theorem dX1_fold_0 : decode cX1_fold 0 = .ok (.aload_n 0, 1) := by decide +kernel
theorem dX1_fold_1 : decode cX1_fold 1 = .ok (.iload_n 1, 1) := by decide +kernel
theorem dX1_fold_2 : decode cX1_fold 2 = .ok (.invokestatic 45, 3) := by decide +kernel
theorem dX1_fold_5 : decode cX1_fold 5 = .ok (.ifCond .eq 10, 3) := by decide +kernel
theorem dX1_fold_8 : decode cX1_fold 8 = .ok (.iload_n 2, 1) := by decide +kernel
theorem dX1_fold_9 : decode cX1_fold 9 = .ok (.invokestatic 45, 3) := by decide +kernel
theorem dX1_fold_12 : decode cX1_fold 12 = .ok (.ifCond .ne 7, 3) := by decide +kernel
theorem dX1_fold_15 : decode cX1_fold 15 = .ok (.iconst 1, 1) := by decide +kernel
theorem dX1_fold_16 : decode cX1_fold 16 = .ok (.goto 4, 3) := by decide +kernel
theorem dX1_fold_19 : decode cX1_fold 19 = .ok (.iconst 0, 1) := by decide +kernel
theorem dX1_fold_20 : decode cX1_fold 20 = .ok (.invokevirtual 52, 3) := by decide +kernel
theorem dX1_fold_23 : decode cX1_fold 23 = .ok (.ifCond .ne 13, 3) := by decide +kernel
theorem dX1_fold_26 : decode cX1_fold 26 = .ok (.aload_n 0, 1) := by decide +kernel
theorem dX1_fold_27 : decode cX1_fold 27 = .ok (.getfield 13, 3) := by decide +kernel
theorem dX1_fold_30 : decode cX1_fold 30 = .ok (.iload_n 1, 1) := by decide +kernel
theorem dX1_fold_31 : decode cX1_fold 31 = .ok (.bipush 97, 2) := by decide +kernel
theorem dX1_fold_33 : decode cX1_fold 33 = .ok (.isub, 1) := by decide +kernel
theorem dX1_fold_34 : decode cX1_fold 34 = .ok (.iload_n 2, 1) := by decide +kernel
theorem dX1_fold_35 : decode cX1_fold 35 = .ok (.iastore, 1) := by decide +kernel
theorem dX1_fold_36 : decode cX1_fold 36 = .ok (.return_, 1) := by decide +kernel
theorem dX1_signAt_0 : decode cX1_signAt 0 = .ok (.aload_n 0, 1) := by decide +kernel
theorem dX1_signAt_1 : decode cX1_signAt 1 = .ok (.getfield 7, 3) := by decide +kernel
theorem dX1_signAt_4 : decode cX1_signAt 4 = .ok (.iload_n 1, 1) := by decide +kernel
theorem dX1_signAt_5 : decode cX1_signAt 5 = .ok (.iaload, 1) := by decide +kernel
theorem dX1_signAt_6 : decode cX1_signAt 6 = .ok (.bipush 63, 2) := by decide +kernel
theorem dX1_signAt_8 : decode cX1_signAt 8 = .ok (.if_icmp .ne 8, 3) := by decide +kernel
theorem dX1_signAt_11 : decode cX1_signAt 11 = .ok (.bipush 63, 2) := by decide +kernel
theorem dX1_signAt_13 : decode cX1_signAt 13 = .ok (.goto 17, 3) := by decide +kernel
theorem dX1_signAt_16 : decode cX1_signAt 16 = .ok (.aload_n 0, 1) := by decide +kernel
theorem dX1_signAt_17 : decode cX1_signAt 17 = .ok (.getfield 13, 3) := by decide +kernel
theorem dX1_signAt_20 : decode cX1_signAt 20 = .ok (.aload_n 0, 1) := by decide +kernel
theorem dX1_signAt_21 : decode cX1_signAt 21 = .ok (.getfield 7, 3) := by decide +kernel
theorem dX1_signAt_24 : decode cX1_signAt 24 = .ok (.iload_n 1, 1) := by decide +kernel
theorem dX1_signAt_25 : decode cX1_signAt 25 = .ok (.iaload, 1) := by decide +kernel
theorem dX1_signAt_26 : decode cX1_signAt 26 = .ok (.bipush 97, 2) := by decide +kernel
theorem dX1_signAt_28 : decode cX1_signAt 28 = .ok (.isub, 1) := by decide +kernel
theorem dX1_signAt_29 : decode cX1_signAt 29 = .ok (.iaload, 1) := by decide +kernel
theorem dX1_signAt_30 : decode cX1_signAt 30 = .ok (.ireturn, 1) := by decide +kernel
theorem dX1_letterAt_0 : decode cX1_letterAt 0 = .ok (.aload_n 0, 1) := by decide +kernel
theorem dX1_letterAt_1 : decode cX1_letterAt 1 = .ok (.getfield 16, 3) := by decide +kernel
theorem dX1_letterAt_4 : decode cX1_letterAt 4 = .ok (.bipush 15, 2) := by decide +kernel
theorem dX1_letterAt_6 : decode cX1_letterAt 6 = .ok (.iload_n 1, 1) := by decide +kernel
theorem dX1_letterAt_7 : decode cX1_letterAt 7 = .ok (.imul, 1) := by decide +kernel
theorem dX1_letterAt_8 : decode cX1_letterAt 8 = .ok (.iload_n 2, 1) := by decide +kernel
theorem dX1_letterAt_9 : decode cX1_letterAt 9 = .ok (.iadd, 1) := by decide +kernel
theorem dX1_letterAt_10 : decode cX1_letterAt 10 = .ok (.iaload, 1) := by decide +kernel
theorem dX1_letterAt_11 : decode cX1_letterAt 11 = .ok (.ireturn, 1) := by decide +kernel
theorem dX1_hasBlank_0 : decode cX1_hasBlank 0 = .ok (.iconst 0, 1) := by decide +kernel
theorem dX1_hasBlank_1 : decode cX1_hasBlank 1 = .ok (.istore_n 1, 1) := by decide +kernel
theorem dX1_hasBlank_2 : decode cX1_hasBlank 2 = .ok (.iload_n 1, 1) := by decide +kernel
theorem dX1_hasBlank_3 : decode cX1_hasBlank 3 = .ok (.aload_n 0, 1) := by decide +kernel
theorem dX1_hasBlank_4 : decode cX1_hasBlank 4 = .ok (.getfield 49, 3) := by decide +kernel
theorem dX1_hasBlank_7 : decode cX1_hasBlank 7 = .ok (.if_icmp .ge 22, 3) := by decide +kernel
theorem dX1_hasBlank_10 : decode cX1_hasBlank 10 = .ok (.aload_n 0, 1) := by decide +kernel
theorem dX1_hasBlank_11 : decode cX1_hasBlank 11 = .ok (.getfield 7, 3) := by decide +kernel
theorem dX1_hasBlank_14 : decode cX1_hasBlank 14 = .ok (.iload_n 1, 1) := by decide +kernel
theorem dX1_hasBlank_15 : decode cX1_hasBlank 15 = .ok (.iaload, 1) := by decide +kernel
theorem dX1_hasBlank_16 : decode cX1_hasBlank 16 = .ok (.bipush 63, 2) := by decide +kernel
theorem dX1_hasBlank_18 : decode cX1_hasBlank 18 = .ok (.if_icmp .ne 5, 3) := by decide +kernel
theorem dX1_hasBlank_21 : decode cX1_hasBlank 21 = .ok (.iconst 1, 1) := by decide +kernel
theorem dX1_hasBlank_22 : decode cX1_hasBlank 22 = .ok (.ireturn, 1) := by decide +kernel
theorem dX1_hasBlank_23 : decode cX1_hasBlank 23 = .ok (.iinc 1 1, 3) := by decide +kernel
theorem dX1_hasBlank_26 : decode cX1_hasBlank 26 = .ok (.goto (-24), 3) := by decide +kernel
theorem dX1_hasBlank_29 : decode cX1_hasBlank 29 = .ok (.iconst 0, 1) := by decide +kernel
theorem dX1_hasBlank_30 : decode cX1_hasBlank 30 = .ok (.ireturn, 1) := by decide +kernel
theorem dX1_isAt_0 : decode cX1_isAt 0 = .ok (.iconst 0, 1) := by decide +kernel
theorem dX1_isAt_1 : decode cX1_isAt 1 = .ok (.istore_n 3, 1) := by decide +kernel
theorem dX1_isAt_2 : decode cX1_isAt 2 = .ok (.iload_n 3, 1) := by decide +kernel
theorem dX1_isAt_3 : decode cX1_isAt 3 = .ok (.aload_n 0, 1) := by decide +kernel
theorem dX1_isAt_4 : decode cX1_isAt 4 = .ok (.getfield 49, 3) := by decide +kernel
theorem dX1_isAt_7 : decode cX1_isAt 7 = .ok (.if_icmp .ge 37, 3) := by decide +kernel
theorem dX1_isAt_10 : decode cX1_isAt 10 = .ok (.aload_n 0, 1) := by decide +kernel
theorem dX1_isAt_11 : decode cX1_isAt 11 = .ok (.iload_n 3, 1) := by decide +kernel
theorem dX1_isAt_12 : decode cX1_isAt 12 = .ok (.invokevirtual 56, 3) := by decide +kernel
theorem dX1_isAt_15 : decode cX1_isAt 15 = .ok (.bipush 63, 2) := by decide +kernel
theorem dX1_isAt_17 : decode cX1_isAt 17 = .ok (.if_icmp .eq 21, 3) := by decide +kernel
theorem dX1_isAt_20 : decode cX1_isAt 20 = .ok (.aload_n 0, 1) := by decide +kernel
theorem dX1_isAt_21 : decode cX1_isAt 21 = .ok (.iload_n 3, 1) := by decide +kernel
theorem dX1_isAt_22 : decode cX1_isAt 22 = .ok (.invokevirtual 56, 3) := by decide +kernel
theorem dX1_isAt_25 : decode cX1_isAt 25 = .ok (.aload_n 0, 1) := by decide +kernel
theorem dX1_isAt_26 : decode cX1_isAt 26 = .ok (.iload_n 1, 1) := by decide +kernel
theorem dX1_isAt_27 : decode cX1_isAt 27 = .ok (.iload_n 2, 1) := by decide +kernel
theorem dX1_isAt_28 : decode cX1_isAt 28 = .ok (.iload_n 3, 1) := by decide +kernel
theorem dX1_isAt_29 : decode cX1_isAt 29 = .ok (.iadd, 1) := by decide +kernel
theorem dX1_isAt_30 : decode cX1_isAt 30 = .ok (.invokevirtual 60, 3) := by decide +kernel
theorem dX1_isAt_33 : decode cX1_isAt 33 = .ok (.if_icmp .eq 5, 3) := by decide +kernel
theorem dX1_isAt_36 : decode cX1_isAt 36 = .ok (.iconst 0, 1) := by decide +kernel
theorem dX1_isAt_37 : decode cX1_isAt 37 = .ok (.ireturn, 1) := by decide +kernel
theorem dX1_isAt_38 : decode cX1_isAt 38 = .ok (.iinc 3 1, 3) := by decide +kernel
theorem dX1_isAt_41 : decode cX1_isAt 41 = .ok (.goto (-39), 3) := by decide +kernel
theorem dX1_isAt_44 : decode cX1_isAt 44 = .ok (.iconst 1, 1) := by decide +kernel
theorem dX1_isAt_45 : decode cX1_isAt 45 = .ok (.ireturn, 1) := by decide +kernel
theorem dX1_fits_0 : decode cX1_fits 0 = .ok (.aload_n 0, 1) := by decide +kernel
theorem dX1_fits_1 : decode cX1_fits 1 = .ok (.getfield 19, 3) := by decide +kernel
theorem dX1_fits_4 : decode cX1_fits 4 = .ok (.iload_n 1, 1) := by decide +kernel
theorem dX1_fits_5 : decode cX1_fits 5 = .ok (.iaload, 1) := by decide +kernel
theorem dX1_fits_6 : decode cX1_fits 6 = .ok (.aload_n 0, 1) := by decide +kernel
theorem dX1_fits_7 : decode cX1_fits 7 = .ok (.getfield 49, 3) := by decide +kernel
theorem dX1_fits_10 : decode cX1_fits 10 = .ok (.if_icmp .ne 16, 3) := by decide +kernel
theorem dX1_fits_13 : decode cX1_fits 13 = .ok (.aload_n 0, 1) := by decide +kernel
theorem dX1_fits_14 : decode cX1_fits 14 = .ok (.iload_n 1, 1) := by decide +kernel
theorem dX1_fits_15 : decode cX1_fits 15 = .ok (.iconst 0, 1) := by decide +kernel
theorem dX1_fits_16 : decode cX1_fits 16 = .ok (.invokevirtual 64, 3) := by decide +kernel
theorem dX1_fits_19 : decode cX1_fits 19 = .ok (.ifCond .eq 7, 3) := by decide +kernel
theorem dX1_fits_22 : decode cX1_fits 22 = .ok (.iconst 1, 1) := by decide +kernel
theorem dX1_fits_23 : decode cX1_fits 23 = .ok (.goto 4, 3) := by decide +kernel
theorem dX1_fits_26 : decode cX1_fits 26 = .ok (.iconst 0, 1) := by decide +kernel
theorem dX1_fits_27 : decode cX1_fits 27 = .ok (.ireturn, 1) := by decide +kernel
theorem dX1_isIn_0 : decode cX1_isIn 0 = .ok (.aload_n 0, 1) := by decide +kernel
theorem dX1_isIn_1 : decode cX1_isIn 1 = .ok (.getfield 25, 3) := by decide +kernel
theorem dX1_isIn_4 : decode cX1_isIn 4 = .ok (.iload_n 1, 1) := by decide +kernel
theorem dX1_isIn_5 : decode cX1_isIn 5 = .ok (.iaload, 1) := by decide +kernel
theorem dX1_isIn_6 : decode cX1_isIn 6 = .ok (.iload_n 2, 1) := by decide +kernel
theorem dX1_isIn_7 : decode cX1_isIn 7 = .ok (.ishr, 1) := by decide +kernel
theorem dX1_isIn_8 : decode cX1_isIn 8 = .ok (.iconst 1, 1) := by decide +kernel
theorem dX1_isIn_9 : decode cX1_isIn 9 = .ok (.iand, 1) := by decide +kernel
theorem dX1_isIn_10 : decode cX1_isIn 10 = .ok (.iconst 1, 1) := by decide +kernel
theorem dX1_isIn_11 : decode cX1_isIn 11 = .ok (.if_icmp .ne 7, 3) := by decide +kernel
theorem dX1_isIn_14 : decode cX1_isIn 14 = .ok (.iconst 1, 1) := by decide +kernel
theorem dX1_isIn_15 : decode cX1_isIn 15 = .ok (.goto 4, 3) := by decide +kernel
theorem dX1_isIn_18 : decode cX1_isIn 18 = .ok (.iconst 0, 1) := by decide +kernel
theorem dX1_isIn_19 : decode cX1_isIn 19 = .ok (.ireturn, 1) := by decide +kernel
theorem dX1_enter_0 : decode cX1_enter 0 = .ok (.aload_n 0, 1) := by decide +kernel
theorem dX1_enter_1 : decode cX1_enter 1 = .ok (.iload_n 1, 1) := by decide +kernel
theorem dX1_enter_2 : decode cX1_enter 2 = .ok (.invokestatic 68, 3) := by decide +kernel
theorem dX1_enter_5 : decode cX1_enter 5 = .ok (.ifCond .ne 7, 3) := by decide +kernel
theorem dX1_enter_8 : decode cX1_enter 8 = .ok (.iconst 1, 1) := by decide +kernel
theorem dX1_enter_9 : decode cX1_enter 9 = .ok (.goto 4, 3) := by decide +kernel
theorem dX1_enter_12 : decode cX1_enter 12 = .ok (.iconst 0, 1) := by decide +kernel
theorem dX1_enter_13 : decode cX1_enter 13 = .ok (.invokevirtual 52, 3) := by decide +kernel
theorem dX1_enter_16 : decode cX1_enter 16 = .ok (.ifCond .eq 5, 3) := by decide +kernel
theorem dX1_enter_19 : decode cX1_enter 19 = .ok (.iconst 0, 1) := by decide +kernel
theorem dX1_enter_20 : decode cX1_enter 20 = .ok (.ireturn, 1) := by decide +kernel
theorem dX1_enter_21 : decode cX1_enter 21 = .ok (.aload_n 0, 1) := by decide +kernel
theorem dX1_enter_22 : decode cX1_enter 22 = .ok (.getfield 49, 3) := by decide +kernel
theorem dX1_enter_25 : decode cX1_enter 25 = .ok (.ifCond .eq 21, 3) := by decide +kernel
theorem dX1_enter_28 : decode cX1_enter 28 = .ok (.aload_n 0, 1) := by decide +kernel
theorem dX1_enter_29 : decode cX1_enter 29 = .ok (.invokevirtual 71, 3) := by decide +kernel
theorem dX1_enter_32 : decode cX1_enter 32 = .ok (.ifCond .ne 14, 3) := by decide +kernel
theorem dX1_enter_35 : decode cX1_enter 35 = .ok (.iload_n 2, 1) := by decide +kernel
theorem dX1_enter_36 : decode cX1_enter 36 = .ok (.ifCond .lt 10, 3) := by decide +kernel
theorem dX1_enter_39 : decode cX1_enter 39 = .ok (.iload_n 2, 1) := by decide +kernel
theorem dX1_enter_40 : decode cX1_enter 40 = .ok (.sipush 1000, 3) := by decide +kernel
theorem dX1_enter_43 : decode cX1_enter 43 = .ok (.if_icmp .le 5, 3) := by decide +kernel
theorem dX1_enter_46 : decode cX1_enter 46 = .ok (.iconst (-1), 1) := by decide +kernel
theorem dX1_enter_47 : decode cX1_enter 47 = .ok (.ireturn, 1) := by decide +kernel
theorem dX1_enter_48 : decode cX1_enter 48 = .ok (.iconst 0, 1) := by decide +kernel
theorem dX1_enter_49 : decode cX1_enter 49 = .ok (.istore_n 3, 1) := by decide +kernel
theorem dX1_enter_50 : decode cX1_enter 50 = .ok (.iload_n 3, 1) := by decide +kernel
theorem dX1_enter_51 : decode cX1_enter 51 = .ok (.aload_n 0, 1) := by decide +kernel
theorem dX1_enter_52 : decode cX1_enter 52 = .ok (.getfield 42, 3) := by decide +kernel
theorem dX1_enter_55 : decode cX1_enter 55 = .ok (.if_icmp .ge 64, 3) := by decide +kernel
theorem dX1_enter_58 : decode cX1_enter 58 = .ok (.aload_n 0, 1) := by decide +kernel
theorem dX1_enter_59 : decode cX1_enter 59 = .ok (.iload_n 3, 1) := by decide +kernel
theorem dX1_enter_60 : decode cX1_enter 60 = .ok (.invokevirtual 75, 3) := by decide +kernel
theorem dX1_enter_63 : decode cX1_enter 63 = .ok (.ifCond .ne 6, 3) := by decide +kernel
theorem dX1_enter_66 : decode cX1_enter 66 = .ok (.goto 47, 3) := by decide +kernel
theorem dX1_enter_69 : decode cX1_enter 69 = .ok (.aload_n 0, 1) := by decide +kernel
theorem dX1_enter_70 : decode cX1_enter 70 = .ok (.getfield 25, 3) := by decide +kernel
theorem dX1_enter_73 : decode cX1_enter 73 = .ok (.iload_n 3, 1) := by decide +kernel
theorem dX1_enter_74 : decode cX1_enter 74 = .ok (.aload_n 0, 1) := by decide +kernel
theorem dX1_enter_75 : decode cX1_enter 75 = .ok (.getfield 25, 3) := by decide +kernel
theorem dX1_enter_78 : decode cX1_enter 78 = .ok (.iload_n 3, 1) := by decide +kernel
theorem dX1_enter_79 : decode cX1_enter 79 = .ok (.iaload, 1) := by decide +kernel
theorem dX1_enter_80 : decode cX1_enter 80 = .ok (.iconst 1, 1) := by decide +kernel
theorem dX1_enter_81 : decode cX1_enter 81 = .ok (.iload_n 1, 1) := by decide +kernel
theorem dX1_enter_82 : decode cX1_enter 82 = .ok (.ishl, 1) := by decide +kernel
theorem dX1_enter_83 : decode cX1_enter 83 = .ok (.ior, 1) := by decide +kernel
theorem dX1_enter_84 : decode cX1_enter 84 = .ok (.iastore, 1) := by decide +kernel
theorem dX1_enter_85 : decode cX1_enter 85 = .ok (.aload_n 0, 1) := by decide +kernel
theorem dX1_enter_86 : decode cX1_enter 86 = .ok (.getfield 22, 3) := by decide +kernel
theorem dX1_enter_89 : decode cX1_enter 89 = .ok (.iload_n 3, 1) := by decide +kernel
theorem dX1_enter_90 : decode cX1_enter 90 = .ok (.aload_n 0, 1) := by decide +kernel
theorem dX1_enter_91 : decode cX1_enter 91 = .ok (.getfield 22, 3) := by decide +kernel
theorem dX1_enter_94 : decode cX1_enter 94 = .ok (.iload_n 3, 1) := by decide +kernel
theorem dX1_enter_95 : decode cX1_enter 95 = .ok (.iaload, 1) := by decide +kernel
theorem dX1_enter_96 : decode cX1_enter 96 = .ok (.iload_n 2, 1) := by decide +kernel
theorem dX1_enter_97 : decode cX1_enter 97 = .ok (.if_icmp .le 12, 3) := by decide +kernel
theorem dX1_enter_100 : decode cX1_enter 100 = .ok (.aload_n 0, 1) := by decide +kernel
theorem dX1_enter_101 : decode cX1_enter 101 = .ok (.getfield 22, 3) := by decide +kernel
theorem dX1_enter_104 : decode cX1_enter 104 = .ok (.iload_n 3, 1) := by decide +kernel
theorem dX1_enter_105 : decode cX1_enter 105 = .ok (.iaload, 1) := by decide +kernel
theorem dX1_enter_106 : decode cX1_enter 106 = .ok (.goto 4, 3) := by decide +kernel
theorem dX1_enter_109 : decode cX1_enter 109 = .ok (.iload_n 2, 1) := by decide +kernel
theorem dX1_enter_110 : decode cX1_enter 110 = .ok (.iastore, 1) := by decide +kernel
theorem dX1_enter_111 : decode cX1_enter 111 = .ok (.iload_n 3, 1) := by decide +kernel
theorem dX1_enter_112 : decode cX1_enter 112 = .ok (.ireturn, 1) := by decide +kernel
theorem dX1_enter_113 : decode cX1_enter 113 = .ok (.iinc 3 1, 3) := by decide +kernel
theorem dX1_enter_116 : decode cX1_enter 116 = .ok (.goto (-66), 3) := by decide +kernel
theorem dX1_enter_119 : decode cX1_enter 119 = .ok (.aload_n 0, 1) := by decide +kernel
theorem dX1_enter_120 : decode cX1_enter 120 = .ok (.getfield 42, 3) := by decide +kernel
theorem dX1_enter_123 : decode cX1_enter 123 = .ok (.sipush 250, 3) := by decide +kernel
theorem dX1_enter_126 : decode cX1_enter 126 = .ok (.if_icmp .ne 5, 3) := by decide +kernel
theorem dX1_enter_129 : decode cX1_enter 129 = .ok (.iconst (-1), 1) := by decide +kernel
theorem dX1_enter_130 : decode cX1_enter 130 = .ok (.ireturn, 1) := by decide +kernel
theorem dX1_enter_131 : decode cX1_enter 131 = .ok (.iconst 0, 1) := by decide +kernel
theorem dX1_enter_132 : decode cX1_enter 132 = .ok (.istore_n 3, 1) := by decide +kernel
theorem dX1_enter_133 : decode cX1_enter 133 = .ok (.iload_n 3, 1) := by decide +kernel
theorem dX1_enter_134 : decode cX1_enter 134 = .ok (.aload_n 0, 1) := by decide +kernel
theorem dX1_enter_135 : decode cX1_enter 135 = .ok (.getfield 49, 3) := by decide +kernel
theorem dX1_enter_138 : decode cX1_enter 138 = .ok (.if_icmp .ge 28, 3) := by decide +kernel
theorem dX1_enter_141 : decode cX1_enter 141 = .ok (.aload_n 0, 1) := by decide +kernel
theorem dX1_enter_142 : decode cX1_enter 142 = .ok (.getfield 16, 3) := by decide +kernel
theorem dX1_enter_145 : decode cX1_enter 145 = .ok (.bipush 15, 2) := by decide +kernel
theorem dX1_enter_147 : decode cX1_enter 147 = .ok (.aload_n 0, 1) := by decide +kernel
theorem dX1_enter_148 : decode cX1_enter 148 = .ok (.getfield 42, 3) := by decide +kernel
theorem dX1_enter_151 : decode cX1_enter 151 = .ok (.imul, 1) := by decide +kernel
theorem dX1_enter_152 : decode cX1_enter 152 = .ok (.iload_n 3, 1) := by decide +kernel
theorem dX1_enter_153 : decode cX1_enter 153 = .ok (.iadd, 1) := by decide +kernel
theorem dX1_enter_154 : decode cX1_enter 154 = .ok (.aload_n 0, 1) := by decide +kernel
theorem dX1_enter_155 : decode cX1_enter 155 = .ok (.iload_n 3, 1) := by decide +kernel
theorem dX1_enter_156 : decode cX1_enter 156 = .ok (.invokevirtual 56, 3) := by decide +kernel
theorem dX1_enter_159 : decode cX1_enter 159 = .ok (.iastore, 1) := by decide +kernel
theorem dX1_enter_160 : decode cX1_enter 160 = .ok (.iinc 3 1, 3) := by decide +kernel
theorem dX1_enter_163 : decode cX1_enter 163 = .ok (.goto (-30), 3) := by decide +kernel
theorem dX1_enter_166 : decode cX1_enter 166 = .ok (.aload_n 0, 1) := by decide +kernel
theorem dX1_enter_167 : decode cX1_enter 167 = .ok (.getfield 19, 3) := by decide +kernel
theorem dX1_enter_170 : decode cX1_enter 170 = .ok (.aload_n 0, 1) := by decide +kernel
theorem dX1_enter_171 : decode cX1_enter 171 = .ok (.getfield 42, 3) := by decide +kernel
theorem dX1_enter_174 : decode cX1_enter 174 = .ok (.aload_n 0, 1) := by decide +kernel
theorem dX1_enter_175 : decode cX1_enter 175 = .ok (.getfield 49, 3) := by decide +kernel
theorem dX1_enter_178 : decode cX1_enter 178 = .ok (.iastore, 1) := by decide +kernel
theorem dX1_enter_179 : decode cX1_enter 179 = .ok (.aload_n 0, 1) := by decide +kernel
theorem dX1_enter_180 : decode cX1_enter 180 = .ok (.getfield 22, 3) := by decide +kernel
theorem dX1_enter_183 : decode cX1_enter 183 = .ok (.aload_n 0, 1) := by decide +kernel
theorem dX1_enter_184 : decode cX1_enter 184 = .ok (.getfield 42, 3) := by decide +kernel
theorem dX1_enter_187 : decode cX1_enter 187 = .ok (.iload_n 2, 1) := by decide +kernel
theorem dX1_enter_188 : decode cX1_enter 188 = .ok (.iastore, 1) := by decide +kernel
theorem dX1_enter_189 : decode cX1_enter 189 = .ok (.aload_n 0, 1) := by decide +kernel
theorem dX1_enter_190 : decode cX1_enter 190 = .ok (.getfield 25, 3) := by decide +kernel
theorem dX1_enter_193 : decode cX1_enter 193 = .ok (.aload_n 0, 1) := by decide +kernel
theorem dX1_enter_194 : decode cX1_enter 194 = .ok (.getfield 42, 3) := by decide +kernel
theorem dX1_enter_197 : decode cX1_enter 197 = .ok (.iconst 1, 1) := by decide +kernel
theorem dX1_enter_198 : decode cX1_enter 198 = .ok (.iload_n 1, 1) := by decide +kernel
theorem dX1_enter_199 : decode cX1_enter 199 = .ok (.ishl, 1) := by decide +kernel
theorem dX1_enter_200 : decode cX1_enter 200 = .ok (.iastore, 1) := by decide +kernel
theorem dX1_enter_201 : decode cX1_enter 201 = .ok (.aload_n 0, 1) := by decide +kernel
theorem dX1_enter_202 : decode cX1_enter 202 = .ok (.getfield 28, 3) := by decide +kernel
theorem dX1_enter_205 : decode cX1_enter 205 = .ok (.aload_n 0, 1) := by decide +kernel
theorem dX1_enter_206 : decode cX1_enter 206 = .ok (.getfield 42, 3) := by decide +kernel
theorem dX1_enter_209 : decode cX1_enter 209 = .ok (.iconst 0, 1) := by decide +kernel
theorem dX1_enter_210 : decode cX1_enter 210 = .ok (.bastore, 1) := by decide +kernel
theorem dX1_enter_211 : decode cX1_enter 211 = .ok (.aload_n 0, 1) := by decide +kernel
theorem dX1_enter_212 : decode cX1_enter 212 = .ok (.dup, 1) := by decide +kernel
theorem dX1_enter_213 : decode cX1_enter 213 = .ok (.getfield 42, 3) := by decide +kernel
theorem dX1_enter_216 : decode cX1_enter 216 = .ok (.iconst 1, 1) := by decide +kernel
theorem dX1_enter_217 : decode cX1_enter 217 = .ok (.iadd, 1) := by decide +kernel
theorem dX1_enter_218 : decode cX1_enter 218 = .ok (.putfield 42, 3) := by decide +kernel
theorem dX1_enter_221 : decode cX1_enter 221 = .ok (.aload_n 0, 1) := by decide +kernel
theorem dX1_enter_222 : decode cX1_enter 222 = .ok (.getfield 42, 3) := by decide +kernel
theorem dX1_enter_225 : decode cX1_enter 225 = .ok (.iconst 1, 1) := by decide +kernel
theorem dX1_enter_226 : decode cX1_enter 226 = .ok (.isub, 1) := by decide +kernel
theorem dX1_enter_227 : decode cX1_enter 227 = .ok (.ireturn, 1) := by decide +kernel
theorem dX1_bar_0 : decode cX1_bar 0 = .ok (.aload_n 0, 1) := by decide +kernel
theorem dX1_bar_1 : decode cX1_bar 1 = .ok (.iconst 0, 1) := by decide +kernel
theorem dX1_bar_2 : decode cX1_bar 2 = .ok (.putfield 38, 3) := by decide +kernel
theorem dX1_bar_5 : decode cX1_bar 5 = .ok (.iconst 0, 1) := by decide +kernel
theorem dX1_bar_6 : decode cX1_bar 6 = .ok (.istore_n 2, 1) := by decide +kernel
theorem dX1_bar_7 : decode cX1_bar 7 = .ok (.iconst 0, 1) := by decide +kernel
theorem dX1_bar_8 : decode cX1_bar 8 = .ok (.istore_n 3, 1) := by decide +kernel
theorem dX1_bar_9 : decode cX1_bar 9 = .ok (.iload_n 3, 1) := by decide +kernel
theorem dX1_bar_10 : decode cX1_bar 10 = .ok (.aload_n 0, 1) := by decide +kernel
theorem dX1_bar_11 : decode cX1_bar 11 = .ok (.getfield 42, 3) := by decide +kernel
theorem dX1_bar_14 : decode cX1_bar 14 = .ok (.if_icmp .ge 40, 3) := by decide +kernel
theorem dX1_bar_17 : decode cX1_bar 17 = .ok (.aload_n 0, 1) := by decide +kernel
theorem dX1_bar_18 : decode cX1_bar 18 = .ok (.iload_n 3, 1) := by decide +kernel
theorem dX1_bar_19 : decode cX1_bar 19 = .ok (.invokevirtual 75, 3) := by decide +kernel
theorem dX1_bar_22 : decode cX1_bar 22 = .ok (.ifCond .eq 26, 3) := by decide +kernel
theorem dX1_bar_25 : decode cX1_bar 25 = .ok (.aload_n 0, 1) := by decide +kernel
theorem dX1_bar_26 : decode cX1_bar 26 = .ok (.getfield 28, 3) := by decide +kernel
theorem dX1_bar_29 : decode cX1_bar 29 = .ok (.iload_n 3, 1) := by decide +kernel
theorem dX1_bar_30 : decode cX1_bar 30 = .ok (.baload, 1) := by decide +kernel
theorem dX1_bar_31 : decode cX1_bar 31 = .ok (.iload_n 1, 1) := by decide +kernel
theorem dX1_bar_32 : decode cX1_bar 32 = .ok (.if_icmp .ne 6, 3) := by decide +kernel
theorem dX1_bar_35 : decode cX1_bar 35 = .ok (.goto 13, 3) := by decide +kernel
theorem dX1_bar_38 : decode cX1_bar 38 = .ok (.aload_n 0, 1) := by decide +kernel
theorem dX1_bar_39 : decode cX1_bar 39 = .ok (.getfield 28, 3) := by decide +kernel
theorem dX1_bar_42 : decode cX1_bar 42 = .ok (.iload_n 3, 1) := by decide +kernel
theorem dX1_bar_43 : decode cX1_bar 43 = .ok (.iload_n 1, 1) := by decide +kernel
theorem dX1_bar_44 : decode cX1_bar 44 = .ok (.bastore, 1) := by decide +kernel
theorem dX1_bar_45 : decode cX1_bar 45 = .ok (.iinc 2 1, 3) := by decide +kernel
theorem dX1_bar_48 : decode cX1_bar 48 = .ok (.iinc 3 1, 3) := by decide +kernel
theorem dX1_bar_51 : decode cX1_bar 51 = .ok (.goto (-42), 3) := by decide +kernel
theorem dX1_bar_54 : decode cX1_bar 54 = .ok (.iload_n 2, 1) := by decide +kernel
theorem dX1_bar_55 : decode cX1_bar 55 = .ok (.ireturn, 1) := by decide +kernel
theorem dX1_merge_0 : decode cX1_merge 0 = .ok (.aload_n 0, 1) := by decide +kernel
theorem dX1_merge_1 : decode cX1_merge 1 = .ok (.iload_n 2, 1) := by decide +kernel
theorem dX1_merge_2 : decode cX1_merge 2 = .ok (.invokestatic 68, 3) := by decide +kernel
theorem dX1_merge_5 : decode cX1_merge 5 = .ok (.ifCond .eq 18, 3) := by decide +kernel
theorem dX1_merge_8 : decode cX1_merge 8 = .ok (.iload_n 3, 1) := by decide +kernel
theorem dX1_merge_9 : decode cX1_merge 9 = .ok (.invokestatic 68, 3) := by decide +kernel
theorem dX1_merge_12 : decode cX1_merge 12 = .ok (.ifCond .eq 11, 3) := by decide +kernel
theorem dX1_merge_15 : decode cX1_merge 15 = .ok (.iload 4, 2) := by decide +kernel
theorem dX1_merge_17 : decode cX1_merge 17 = .ok (.invokestatic 68, 3) := by decide +kernel
theorem dX1_merge_20 : decode cX1_merge 20 = .ok (.ifCond .ne 7, 3) := by decide +kernel
theorem dX1_merge_23 : decode cX1_merge 23 = .ok (.iconst 1, 1) := by decide +kernel
theorem dX1_merge_24 : decode cX1_merge 24 = .ok (.goto 4, 3) := by decide +kernel
theorem dX1_merge_27 : decode cX1_merge 27 = .ok (.iconst 0, 1) := by decide +kernel
theorem dX1_merge_28 : decode cX1_merge 28 = .ok (.invokevirtual 52, 3) := by decide +kernel
theorem dX1_merge_31 : decode cX1_merge 31 = .ok (.ifCond .eq 5, 3) := by decide +kernel
theorem dX1_merge_34 : decode cX1_merge 34 = .ok (.iconst 0, 1) := by decide +kernel
theorem dX1_merge_35 : decode cX1_merge 35 = .ok (.ireturn, 1) := by decide +kernel
theorem dX1_merge_36 : decode cX1_merge 36 = .ok (.iload_n 1, 1) := by decide +kernel
theorem dX1_merge_37 : decode cX1_merge 37 = .ok (.ifCond .lt 8, 3) := by decide +kernel
theorem dX1_merge_40 : decode cX1_merge 40 = .ok (.iload_n 1, 1) := by decide +kernel
theorem dX1_merge_41 : decode cX1_merge 41 = .ok (.iconst 2, 1) := by decide +kernel
theorem dX1_merge_42 : decode cX1_merge 42 = .ok (.if_icmp .le 5, 3) := by decide +kernel
theorem dX1_merge_45 : decode cX1_merge 45 = .ok (.iconst (-1), 1) := by decide +kernel
theorem dX1_merge_46 : decode cX1_merge 46 = .ok (.ireturn, 1) := by decide +kernel
theorem dX1_merge_47 : decode cX1_merge 47 = .ok (.iconst 0, 1) := by decide +kernel
theorem dX1_merge_48 : decode cX1_merge 48 = .ok (.istore 5, 2) := by decide +kernel
theorem dX1_merge_50 : decode cX1_merge 50 = .ok (.iconst 0, 1) := by decide +kernel
theorem dX1_merge_51 : decode cX1_merge 51 = .ok (.istore 6, 2) := by decide +kernel
theorem dX1_merge_53 : decode cX1_merge 53 = .ok (.iload 6, 2) := by decide +kernel
theorem dX1_merge_55 : decode cX1_merge 55 = .ok (.aload_n 0, 1) := by decide +kernel
theorem dX1_merge_56 : decode cX1_merge 56 = .ok (.getfield 42, 3) := by decide +kernel
theorem dX1_merge_59 : decode cX1_merge 59 = .ok (.if_icmp .ge 144, 3) := by decide +kernel
theorem dX1_merge_62 : decode cX1_merge 62 = .ok (.aload_n 0, 1) := by decide +kernel
theorem dX1_merge_63 : decode cX1_merge 63 = .ok (.iload 6, 2) := by decide +kernel
theorem dX1_merge_65 : decode cX1_merge 65 = .ok (.iload_n 3, 1) := by decide +kernel
theorem dX1_merge_66 : decode cX1_merge 66 = .ok (.invokevirtual 78, 3) := by decide +kernel
theorem dX1_merge_69 : decode cX1_merge 69 = .ok (.istore 7, 2) := by decide +kernel
theorem dX1_merge_71 : decode cX1_merge 71 = .ok (.aload_n 0, 1) := by decide +kernel
theorem dX1_merge_72 : decode cX1_merge 72 = .ok (.iload 6, 2) := by decide +kernel
theorem dX1_merge_74 : decode cX1_merge 74 = .ok (.iload 4, 2) := by decide +kernel
theorem dX1_merge_76 : decode cX1_merge 76 = .ok (.invokevirtual 78, 3) := by decide +kernel
theorem dX1_merge_79 : decode cX1_merge 79 = .ok (.istore 8, 2) := by decide +kernel
theorem dX1_merge_81 : decode cX1_merge 81 = .ok (.iload_n 1, 1) := by decide +kernel
theorem dX1_merge_82 : decode cX1_merge 82 = .ok (.ifCond .ne 21, 3) := by decide +kernel
theorem dX1_merge_85 : decode cX1_merge 85 = .ok (.iload 7, 2) := by decide +kernel
theorem dX1_merge_87 : decode cX1_merge 87 = .ok (.ifCond .ne 8, 3) := by decide +kernel
theorem dX1_merge_90 : decode cX1_merge 90 = .ok (.iload 8, 2) := by decide +kernel
theorem dX1_merge_92 : decode cX1_merge 92 = .ok (.ifCond .eq 7, 3) := by decide +kernel
theorem dX1_merge_95 : decode cX1_merge 95 = .ok (.iconst 1, 1) := by decide +kernel
theorem dX1_merge_96 : decode cX1_merge 96 = .ok (.goto 45, 3) := by decide +kernel
theorem dX1_merge_99 : decode cX1_merge 99 = .ok (.iconst 0, 1) := by decide +kernel
theorem dX1_merge_100 : decode cX1_merge 100 = .ok (.goto 41, 3) := by decide +kernel
theorem dX1_merge_103 : decode cX1_merge 103 = .ok (.iload_n 1, 1) := by decide +kernel
theorem dX1_merge_104 : decode cX1_merge 104 = .ok (.iconst 1, 1) := by decide +kernel
theorem dX1_merge_105 : decode cX1_merge 105 = .ok (.if_icmp .ne 21, 3) := by decide +kernel
theorem dX1_merge_108 : decode cX1_merge 108 = .ok (.iload 7, 2) := by decide +kernel
theorem dX1_merge_110 : decode cX1_merge 110 = .ok (.ifCond .eq 12, 3) := by decide +kernel
theorem dX1_merge_113 : decode cX1_merge 113 = .ok (.iload 8, 2) := by decide +kernel
theorem dX1_merge_115 : decode cX1_merge 115 = .ok (.ifCond .eq 7, 3) := by decide +kernel
theorem dX1_merge_118 : decode cX1_merge 118 = .ok (.iconst 1, 1) := by decide +kernel
theorem dX1_merge_119 : decode cX1_merge 119 = .ok (.goto 22, 3) := by decide +kernel
theorem dX1_merge_122 : decode cX1_merge 122 = .ok (.iconst 0, 1) := by decide +kernel
theorem dX1_merge_123 : decode cX1_merge 123 = .ok (.goto 18, 3) := by decide +kernel
theorem dX1_merge_126 : decode cX1_merge 126 = .ok (.iload 7, 2) := by decide +kernel
theorem dX1_merge_128 : decode cX1_merge 128 = .ok (.ifCond .eq 12, 3) := by decide +kernel
theorem dX1_merge_131 : decode cX1_merge 131 = .ok (.iload 8, 2) := by decide +kernel
theorem dX1_merge_133 : decode cX1_merge 133 = .ok (.ifCond .ne 7, 3) := by decide +kernel
theorem dX1_merge_136 : decode cX1_merge 136 = .ok (.iconst 1, 1) := by decide +kernel
theorem dX1_merge_137 : decode cX1_merge 137 = .ok (.goto 4, 3) := by decide +kernel
theorem dX1_merge_140 : decode cX1_merge 140 = .ok (.iconst 0, 1) := by decide +kernel
theorem dX1_merge_141 : decode cX1_merge 141 = .ok (.istore 9, 2) := by decide +kernel
theorem dX1_merge_143 : decode cX1_merge 143 = .ok (.aload_n 0, 1) := by decide +kernel
theorem dX1_merge_144 : decode cX1_merge 144 = .ok (.getfield 25, 3) := by decide +kernel
theorem dX1_merge_147 : decode cX1_merge 147 = .ok (.iload 6, 2) := by decide +kernel
theorem dX1_merge_149 : decode cX1_merge 149 = .ok (.iload 9, 2) := by decide +kernel
theorem dX1_merge_151 : decode cX1_merge 151 = .ok (.ifCond .eq 17, 3) := by decide +kernel
theorem dX1_merge_154 : decode cX1_merge 154 = .ok (.aload_n 0, 1) := by decide +kernel
theorem dX1_merge_155 : decode cX1_merge 155 = .ok (.getfield 25, 3) := by decide +kernel
theorem dX1_merge_158 : decode cX1_merge 158 = .ok (.iload 6, 2) := by decide +kernel
theorem dX1_merge_160 : decode cX1_merge 160 = .ok (.iaload, 1) := by decide +kernel
theorem dX1_merge_161 : decode cX1_merge 161 = .ok (.iconst 1, 1) := by decide +kernel
theorem dX1_merge_162 : decode cX1_merge 162 = .ok (.iload_n 2, 1) := by decide +kernel
theorem dX1_merge_163 : decode cX1_merge 163 = .ok (.ishl, 1) := by decide +kernel
theorem dX1_merge_164 : decode cX1_merge 164 = .ok (.ior, 1) := by decide +kernel
theorem dX1_merge_165 : decode cX1_merge 165 = .ok (.goto 16, 3) := by decide +kernel
theorem dX1_merge_168 : decode cX1_merge 168 = .ok (.aload_n 0, 1) := by decide +kernel
theorem dX1_merge_169 : decode cX1_merge 169 = .ok (.getfield 25, 3) := by decide +kernel
theorem dX1_merge_172 : decode cX1_merge 172 = .ok (.iload 6, 2) := by decide +kernel
theorem dX1_merge_174 : decode cX1_merge 174 = .ok (.iaload, 1) := by decide +kernel
theorem dX1_merge_175 : decode cX1_merge 175 = .ok (.iconst 1, 1) := by decide +kernel
theorem dX1_merge_176 : decode cX1_merge 176 = .ok (.iload_n 2, 1) := by decide +kernel
theorem dX1_merge_177 : decode cX1_merge 177 = .ok (.ishl, 1) := by decide +kernel
theorem dX1_merge_178 : decode cX1_merge 178 = .ok (.iconst (-1), 1) := by decide +kernel
theorem dX1_merge_179 : decode cX1_merge 179 = .ok (.ixor, 1) := by decide +kernel
theorem dX1_merge_180 : decode cX1_merge 180 = .ok (.iand, 1) := by decide +kernel
theorem dX1_merge_181 : decode cX1_merge 181 = .ok (.iastore, 1) := by decide +kernel
theorem dX1_merge_182 : decode cX1_merge 182 = .ok (.iload 5, 2) := by decide +kernel
theorem dX1_merge_184 : decode cX1_merge 184 = .ok (.iload 9, 2) := by decide +kernel
theorem dX1_merge_186 : decode cX1_merge 186 = .ok (.ifCond .eq 7, 3) := by decide +kernel
theorem dX1_merge_189 : decode cX1_merge 189 = .ok (.iconst 1, 1) := by decide +kernel
theorem dX1_merge_190 : decode cX1_merge 190 = .ok (.goto 4, 3) := by decide +kernel
theorem dX1_merge_193 : decode cX1_merge 193 = .ok (.iconst 0, 1) := by decide +kernel
theorem dX1_merge_194 : decode cX1_merge 194 = .ok (.iadd, 1) := by decide +kernel
theorem dX1_merge_195 : decode cX1_merge 195 = .ok (.istore 5, 2) := by decide +kernel
theorem dX1_merge_197 : decode cX1_merge 197 = .ok (.iinc 6 1, 3) := by decide +kernel
theorem dX1_merge_200 : decode cX1_merge 200 = .ok (.goto (-147), 3) := by decide +kernel
theorem dX1_merge_203 : decode cX1_merge 203 = .ok (.iload 5, 2) := by decide +kernel
theorem dX1_merge_205 : decode cX1_merge 205 = .ok (.ireturn, 1) := by decide +kernel
theorem dX1_isAhead_0 : decode cX1_isAhead 0 = .ok (.aload_n 0, 1) := by decide +kernel
theorem dX1_isAhead_1 : decode cX1_isAhead 1 = .ok (.getfield 22, 3) := by decide +kernel
theorem dX1_isAhead_4 : decode cX1_isAhead 4 = .ok (.iload_n 1, 1) := by decide +kernel
theorem dX1_isAhead_5 : decode cX1_isAhead 5 = .ok (.iaload, 1) := by decide +kernel
theorem dX1_isAhead_6 : decode cX1_isAhead 6 = .ok (.aload_n 0, 1) := by decide +kernel
theorem dX1_isAhead_7 : decode cX1_isAhead 7 = .ok (.getfield 22, 3) := by decide +kernel
theorem dX1_isAhead_10 : decode cX1_isAhead 10 = .ok (.iload_n 2, 1) := by decide +kernel
theorem dX1_isAhead_11 : decode cX1_isAhead 11 = .ok (.iaload, 1) := by decide +kernel
theorem dX1_isAhead_12 : decode cX1_isAhead 12 = .ok (.if_icmp .eq 24, 3) := by decide +kernel
theorem dX1_isAhead_15 : decode cX1_isAhead 15 = .ok (.aload_n 0, 1) := by decide +kernel
theorem dX1_isAhead_16 : decode cX1_isAhead 16 = .ok (.getfield 22, 3) := by decide +kernel
theorem dX1_isAhead_19 : decode cX1_isAhead 19 = .ok (.iload_n 1, 1) := by decide +kernel
theorem dX1_isAhead_20 : decode cX1_isAhead 20 = .ok (.iaload, 1) := by decide +kernel
theorem dX1_isAhead_21 : decode cX1_isAhead 21 = .ok (.aload_n 0, 1) := by decide +kernel
theorem dX1_isAhead_22 : decode cX1_isAhead 22 = .ok (.getfield 22, 3) := by decide +kernel
theorem dX1_isAhead_25 : decode cX1_isAhead 25 = .ok (.iload_n 2, 1) := by decide +kernel
theorem dX1_isAhead_26 : decode cX1_isAhead 26 = .ok (.iaload, 1) := by decide +kernel
theorem dX1_isAhead_27 : decode cX1_isAhead 27 = .ok (.if_icmp .le 7, 3) := by decide +kernel
theorem dX1_isAhead_30 : decode cX1_isAhead 30 = .ok (.iconst 1, 1) := by decide +kernel
theorem dX1_isAhead_31 : decode cX1_isAhead 31 = .ok (.goto 4, 3) := by decide +kernel
theorem dX1_isAhead_34 : decode cX1_isAhead 34 = .ok (.iconst 0, 1) := by decide +kernel
theorem dX1_isAhead_35 : decode cX1_isAhead 35 = .ok (.ireturn, 1) := by decide +kernel
theorem dX1_isAhead_36 : decode cX1_isAhead 36 = .ok (.iconst 0, 1) := by decide +kernel
theorem dX1_isAhead_37 : decode cX1_isAhead 37 = .ok (.istore_n 3, 1) := by decide +kernel
theorem dX1_isAhead_38 : decode cX1_isAhead 38 = .ok (.iload_n 3, 1) := by decide +kernel
theorem dX1_isAhead_39 : decode cX1_isAhead 39 = .ok (.bipush 15, 2) := by decide +kernel
theorem dX1_isAhead_41 : decode cX1_isAhead 41 = .ok (.if_icmp .ge 45, 3) := by decide +kernel
theorem dX1_isAhead_44 : decode cX1_isAhead 44 = .ok (.aload_n 0, 1) := by decide +kernel
theorem dX1_isAhead_45 : decode cX1_isAhead 45 = .ok (.iload_n 1, 1) := by decide +kernel
theorem dX1_isAhead_46 : decode cX1_isAhead 46 = .ok (.iload_n 3, 1) := by decide +kernel
theorem dX1_isAhead_47 : decode cX1_isAhead 47 = .ok (.invokevirtual 60, 3) := by decide +kernel
theorem dX1_isAhead_50 : decode cX1_isAhead 50 = .ok (.aload_n 0, 1) := by decide +kernel
theorem dX1_isAhead_51 : decode cX1_isAhead 51 = .ok (.iload_n 2, 1) := by decide +kernel
theorem dX1_isAhead_52 : decode cX1_isAhead 52 = .ok (.iload_n 3, 1) := by decide +kernel
theorem dX1_isAhead_53 : decode cX1_isAhead 53 = .ok (.invokevirtual 60, 3) := by decide +kernel
theorem dX1_isAhead_56 : decode cX1_isAhead 56 = .ok (.if_icmp .eq 24, 3) := by decide +kernel
theorem dX1_isAhead_59 : decode cX1_isAhead 59 = .ok (.aload_n 0, 1) := by decide +kernel
theorem dX1_isAhead_60 : decode cX1_isAhead 60 = .ok (.iload_n 1, 1) := by decide +kernel
theorem dX1_isAhead_61 : decode cX1_isAhead 61 = .ok (.iload_n 3, 1) := by decide +kernel
theorem dX1_isAhead_62 : decode cX1_isAhead 62 = .ok (.invokevirtual 60, 3) := by decide +kernel
theorem dX1_isAhead_65 : decode cX1_isAhead 65 = .ok (.aload_n 0, 1) := by decide +kernel
theorem dX1_isAhead_66 : decode cX1_isAhead 66 = .ok (.iload_n 2, 1) := by decide +kernel
theorem dX1_isAhead_67 : decode cX1_isAhead 67 = .ok (.iload_n 3, 1) := by decide +kernel
theorem dX1_isAhead_68 : decode cX1_isAhead 68 = .ok (.invokevirtual 60, 3) := by decide +kernel
theorem dX1_isAhead_71 : decode cX1_isAhead 71 = .ok (.if_icmp .ge 7, 3) := by decide +kernel
theorem dX1_isAhead_74 : decode cX1_isAhead 74 = .ok (.iconst 1, 1) := by decide +kernel
theorem dX1_isAhead_75 : decode cX1_isAhead 75 = .ok (.goto 4, 3) := by decide +kernel
theorem dX1_isAhead_78 : decode cX1_isAhead 78 = .ok (.iconst 0, 1) := by decide +kernel
theorem dX1_isAhead_79 : decode cX1_isAhead 79 = .ok (.ireturn, 1) := by decide +kernel
theorem dX1_isAhead_80 : decode cX1_isAhead 80 = .ok (.iinc 3 1, 3) := by decide +kernel
theorem dX1_isAhead_83 : decode cX1_isAhead 83 = .ok (.goto (-45), 3) := by decide +kernel
theorem dX1_isAhead_86 : decode cX1_isAhead 86 = .ok (.iconst 0, 1) := by decide +kernel
theorem dX1_isAhead_87 : decode cX1_isAhead 87 = .ok (.ireturn, 1) := by decide +kernel
theorem dX1_seek_0 : decode cX1_seek 0 = .ok (.aload_n 0, 1) := by decide +kernel
theorem dX1_seek_1 : decode cX1_seek 1 = .ok (.iload_n 1, 1) := by decide +kernel
theorem dX1_seek_2 : decode cX1_seek 2 = .ok (.invokestatic 68, 3) := by decide +kernel
theorem dX1_seek_5 : decode cX1_seek 5 = .ok (.ifCond .ne 7, 3) := by decide +kernel
theorem dX1_seek_8 : decode cX1_seek 8 = .ok (.iconst 1, 1) := by decide +kernel
theorem dX1_seek_9 : decode cX1_seek 9 = .ok (.goto 4, 3) := by decide +kernel
theorem dX1_seek_12 : decode cX1_seek 12 = .ok (.iconst 0, 1) := by decide +kernel
theorem dX1_seek_13 : decode cX1_seek 13 = .ok (.invokevirtual 52, 3) := by decide +kernel
theorem dX1_seek_16 : decode cX1_seek 16 = .ok (.ifCond .eq 5, 3) := by decide +kernel
theorem dX1_seek_19 : decode cX1_seek 19 = .ok (.iconst 0, 1) := by decide +kernel
theorem dX1_seek_20 : decode cX1_seek 20 = .ok (.ireturn, 1) := by decide +kernel
theorem dX1_seek_21 : decode cX1_seek 21 = .ok (.aload_n 0, 1) := by decide +kernel
theorem dX1_seek_22 : decode cX1_seek 22 = .ok (.iconst 0, 1) := by decide +kernel
theorem dX1_seek_23 : decode cX1_seek 23 = .ok (.putfield 81, 3) := by decide +kernel
theorem dX1_seek_26 : decode cX1_seek 26 = .ok (.iconst 0, 1) := by decide +kernel
theorem dX1_seek_27 : decode cX1_seek 27 = .ok (.istore_n 2, 1) := by decide +kernel
theorem dX1_seek_28 : decode cX1_seek 28 = .ok (.iload_n 2, 1) := by decide +kernel
theorem dX1_seek_29 : decode cX1_seek 29 = .ok (.aload_n 0, 1) := by decide +kernel
theorem dX1_seek_30 : decode cX1_seek 30 = .ok (.getfield 42, 3) := by decide +kernel
theorem dX1_seek_33 : decode cX1_seek 33 = .ok (.if_icmp .ge 100, 3) := by decide +kernel
theorem dX1_seek_36 : decode cX1_seek 36 = .ok (.aload_n 0, 1) := by decide +kernel
theorem dX1_seek_37 : decode cX1_seek 37 = .ok (.iload_n 2, 1) := by decide +kernel
theorem dX1_seek_38 : decode cX1_seek 38 = .ok (.iload_n 1, 1) := by decide +kernel
theorem dX1_seek_39 : decode cX1_seek 39 = .ok (.invokevirtual 78, 3) := by decide +kernel
theorem dX1_seek_42 : decode cX1_seek 42 = .ok (.ifCond .eq 85, 3) := by decide +kernel
theorem dX1_seek_45 : decode cX1_seek 45 = .ok (.aload_n 0, 1) := by decide +kernel
theorem dX1_seek_46 : decode cX1_seek 46 = .ok (.getfield 28, 3) := by decide +kernel
theorem dX1_seek_49 : decode cX1_seek 49 = .ok (.iload_n 2, 1) := by decide +kernel
theorem dX1_seek_50 : decode cX1_seek 50 = .ok (.baload, 1) := by decide +kernel
theorem dX1_seek_51 : decode cX1_seek 51 = .ok (.ifCond .ne 76, 3) := by decide +kernel
theorem dX1_seek_54 : decode cX1_seek 54 = .ok (.aload_n 0, 1) := by decide +kernel
theorem dX1_seek_55 : decode cX1_seek 55 = .ok (.iload_n 2, 1) := by decide +kernel
theorem dX1_seek_56 : decode cX1_seek 56 = .ok (.invokevirtual 75, 3) := by decide +kernel
theorem dX1_seek_59 : decode cX1_seek 59 = .ok (.ifCond .ne 6, 3) := by decide +kernel
theorem dX1_seek_62 : decode cX1_seek 62 = .ok (.goto 65, 3) := by decide +kernel
theorem dX1_seek_65 : decode cX1_seek 65 = .ok (.aload_n 0, 1) := by decide +kernel
theorem dX1_seek_66 : decode cX1_seek 66 = .ok (.getfield 81, 3) := by decide +kernel
theorem dX1_seek_69 : decode cX1_seek 69 = .ok (.istore_n 3, 1) := by decide +kernel
theorem dX1_seek_70 : decode cX1_seek 70 = .ok (.iload_n 3, 1) := by decide +kernel
theorem dX1_seek_71 : decode cX1_seek 71 = .ok (.ifCond .le 39, 3) := by decide +kernel
theorem dX1_seek_74 : decode cX1_seek 74 = .ok (.aload_n 0, 1) := by decide +kernel
theorem dX1_seek_75 : decode cX1_seek 75 = .ok (.iload_n 2, 1) := by decide +kernel
theorem dX1_seek_76 : decode cX1_seek 76 = .ok (.aload_n 0, 1) := by decide +kernel
theorem dX1_seek_77 : decode cX1_seek 77 = .ok (.getfield 32, 3) := by decide +kernel
theorem dX1_seek_80 : decode cX1_seek 80 = .ok (.iload_n 3, 1) := by decide +kernel
theorem dX1_seek_81 : decode cX1_seek 81 = .ok (.iconst 1, 1) := by decide +kernel
theorem dX1_seek_82 : decode cX1_seek 82 = .ok (.isub, 1) := by decide +kernel
theorem dX1_seek_83 : decode cX1_seek 83 = .ok (.iaload, 1) := by decide +kernel
theorem dX1_seek_84 : decode cX1_seek 84 = .ok (.invokevirtual 84, 3) := by decide +kernel
theorem dX1_seek_87 : decode cX1_seek 87 = .ok (.ifCond .eq 23, 3) := by decide +kernel
theorem dX1_seek_90 : decode cX1_seek 90 = .ok (.aload_n 0, 1) := by decide +kernel
theorem dX1_seek_91 : decode cX1_seek 91 = .ok (.getfield 32, 3) := by decide +kernel
theorem dX1_seek_94 : decode cX1_seek 94 = .ok (.iload_n 3, 1) := by decide +kernel
theorem dX1_seek_95 : decode cX1_seek 95 = .ok (.aload_n 0, 1) := by decide +kernel
theorem dX1_seek_96 : decode cX1_seek 96 = .ok (.getfield 32, 3) := by decide +kernel
theorem dX1_seek_99 : decode cX1_seek 99 = .ok (.iload_n 3, 1) := by decide +kernel
theorem dX1_seek_100 : decode cX1_seek 100 = .ok (.iconst 1, 1) := by decide +kernel
theorem dX1_seek_101 : decode cX1_seek 101 = .ok (.isub, 1) := by decide +kernel
theorem dX1_seek_102 : decode cX1_seek 102 = .ok (.iaload, 1) := by decide +kernel
theorem dX1_seek_103 : decode cX1_seek 103 = .ok (.iastore, 1) := by decide +kernel
theorem dX1_seek_104 : decode cX1_seek 104 = .ok (.iinc 3 (-1), 3) := by decide +kernel
theorem dX1_seek_107 : decode cX1_seek 107 = .ok (.goto (-37), 3) := by decide +kernel
theorem dX1_seek_110 : decode cX1_seek 110 = .ok (.aload_n 0, 1) := by decide +kernel
theorem dX1_seek_111 : decode cX1_seek 111 = .ok (.getfield 32, 3) := by decide +kernel
theorem dX1_seek_114 : decode cX1_seek 114 = .ok (.iload_n 3, 1) := by decide +kernel
theorem dX1_seek_115 : decode cX1_seek 115 = .ok (.iload_n 2, 1) := by decide +kernel
theorem dX1_seek_116 : decode cX1_seek 116 = .ok (.iastore, 1) := by decide +kernel
theorem dX1_seek_117 : decode cX1_seek 117 = .ok (.aload_n 0, 1) := by decide +kernel
theorem dX1_seek_118 : decode cX1_seek 118 = .ok (.dup, 1) := by decide +kernel
theorem dX1_seek_119 : decode cX1_seek 119 = .ok (.getfield 81, 3) := by decide +kernel
theorem dX1_seek_122 : decode cX1_seek 122 = .ok (.iconst 1, 1) := by decide +kernel
theorem dX1_seek_123 : decode cX1_seek 123 = .ok (.iadd, 1) := by decide +kernel
theorem dX1_seek_124 : decode cX1_seek 124 = .ok (.putfield 81, 3) := by decide +kernel
theorem dX1_seek_127 : decode cX1_seek 127 = .ok (.iinc 2 1, 3) := by decide +kernel
theorem dX1_seek_130 : decode cX1_seek 130 = .ok (.goto (-102), 3) := by decide +kernel
theorem dX1_seek_133 : decode cX1_seek 133 = .ok (.aload_n 0, 1) := by decide +kernel
theorem dX1_seek_134 : decode cX1_seek 134 = .ok (.getfield 81, 3) := by decide +kernel
theorem dX1_seek_137 : decode cX1_seek 137 = .ok (.ireturn, 1) := by decide +kernel
theorem dX1_candidate_0 : decode cX1_candidate 0 = .ok (.aload_n 0, 1) := by decide +kernel
theorem dX1_candidate_1 : decode cX1_candidate 1 = .ok (.iload_n 1, 1) := by decide +kernel
theorem dX1_candidate_2 : decode cX1_candidate 2 = .ok (.ifCond .lt 11, 3) := by decide +kernel
theorem dX1_candidate_5 : decode cX1_candidate 5 = .ok (.iload_n 1, 1) := by decide +kernel
theorem dX1_candidate_6 : decode cX1_candidate 6 = .ok (.aload_n 0, 1) := by decide +kernel
theorem dX1_candidate_7 : decode cX1_candidate 7 = .ok (.getfield 81, 3) := by decide +kernel
theorem dX1_candidate_10 : decode cX1_candidate 10 = .ok (.if_icmp .lt 7, 3) := by decide +kernel
theorem dX1_candidate_13 : decode cX1_candidate 13 = .ok (.iconst 1, 1) := by decide +kernel
theorem dX1_candidate_14 : decode cX1_candidate 14 = .ok (.goto 4, 3) := by decide +kernel
theorem dX1_candidate_17 : decode cX1_candidate 17 = .ok (.iconst 0, 1) := by decide +kernel
theorem dX1_candidate_18 : decode cX1_candidate 18 = .ok (.invokevirtual 52, 3) := by decide +kernel
theorem dX1_candidate_21 : decode cX1_candidate 21 = .ok (.ifCond .eq 7, 3) := by decide +kernel
theorem dX1_candidate_24 : decode cX1_candidate 24 = .ok (.iconst 0, 1) := by decide +kernel
theorem dX1_candidate_25 : decode cX1_candidate 25 = .ok (.goto 9, 3) := by decide +kernel
theorem dX1_candidate_28 : decode cX1_candidate 28 = .ok (.aload_n 0, 1) := by decide +kernel
theorem dX1_candidate_29 : decode cX1_candidate 29 = .ok (.getfield 32, 3) := by decide +kernel
theorem dX1_candidate_32 : decode cX1_candidate 32 = .ok (.iload_n 1, 1) := by decide +kernel
theorem dX1_candidate_33 : decode cX1_candidate 33 = .ok (.iaload, 1) := by decide +kernel
theorem dX1_candidate_34 : decode cX1_candidate 34 = .ok (.ireturn, 1) := by decide +kernel
theorem dX1_at_0 : decode cX1_at 0 = .ok (.aload_n 0, 1) := by decide +kernel
theorem dX1_at_1 : decode cX1_at 1 = .ok (.iload_n 2, 1) := by decide +kernel
theorem dX1_at_2 : decode cX1_at 2 = .ok (.invokestatic 45, 3) := by decide +kernel
theorem dX1_at_5 : decode cX1_at 5 = .ok (.ifCond .ne 7, 3) := by decide +kernel
theorem dX1_at_8 : decode cX1_at 8 = .ok (.iconst 1, 1) := by decide +kernel
theorem dX1_at_9 : decode cX1_at 9 = .ok (.goto 4, 3) := by decide +kernel
theorem dX1_at_12 : decode cX1_at 12 = .ok (.iconst 0, 1) := by decide +kernel
theorem dX1_at_13 : decode cX1_at 13 = .ok (.invokevirtual 52, 3) := by decide +kernel
theorem dX1_at_16 : decode cX1_at 16 = .ok (.ifCond .eq 5, 3) := by decide +kernel
theorem dX1_at_19 : decode cX1_at 19 = .ok (.iconst 0, 1) := by decide +kernel
theorem dX1_at_20 : decode cX1_at 20 = .ok (.ireturn, 1) := by decide +kernel
theorem dX1_at_21 : decode cX1_at 21 = .ok (.iconst 0, 1) := by decide +kernel
theorem dX1_at_22 : decode cX1_at 22 = .ok (.istore_n 3, 1) := by decide +kernel
theorem dX1_at_23 : decode cX1_at 23 = .ok (.iconst 0, 1) := by decide +kernel
theorem dX1_at_24 : decode cX1_at 24 = .ok (.istore 4, 2) := by decide +kernel
theorem dX1_at_26 : decode cX1_at 26 = .ok (.iload 4, 2) := by decide +kernel
theorem dX1_at_28 : decode cX1_at 28 = .ok (.aload_n 0, 1) := by decide +kernel
theorem dX1_at_29 : decode cX1_at 29 = .ok (.getfield 81, 3) := by decide +kernel
theorem dX1_at_32 : decode cX1_at 32 = .ok (.if_icmp .ge 53, 3) := by decide +kernel
theorem dX1_at_35 : decode cX1_at 35 = .ok (.iload_n 3, 1) := by decide +kernel
theorem dX1_at_36 : decode cX1_at 36 = .ok (.iload_n 1, 1) := by decide +kernel
theorem dX1_at_37 : decode cX1_at 37 = .ok (.ifCond .lt 39, 3) := by decide +kernel
theorem dX1_at_40 : decode cX1_at 40 = .ok (.iload_n 1, 1) := by decide +kernel
theorem dX1_at_41 : decode cX1_at 41 = .ok (.aload_n 0, 1) := by decide +kernel
theorem dX1_at_42 : decode cX1_at 42 = .ok (.getfield 19, 3) := by decide +kernel
theorem dX1_at_45 : decode cX1_at 45 = .ok (.aload_n 0, 1) := by decide +kernel
theorem dX1_at_46 : decode cX1_at 46 = .ok (.getfield 32, 3) := by decide +kernel
theorem dX1_at_49 : decode cX1_at 49 = .ok (.iload 4, 2) := by decide +kernel
theorem dX1_at_51 : decode cX1_at 51 = .ok (.iaload, 1) := by decide +kernel
theorem dX1_at_52 : decode cX1_at 52 = .ok (.iaload, 1) := by decide +kernel
theorem dX1_at_53 : decode cX1_at 53 = .ok (.if_icmp .ge 23, 3) := by decide +kernel
theorem dX1_at_56 : decode cX1_at 56 = .ok (.aload_n 0, 1) := by decide +kernel
theorem dX1_at_57 : decode cX1_at 57 = .ok (.aload_n 0, 1) := by decide +kernel
theorem dX1_at_58 : decode cX1_at 58 = .ok (.getfield 32, 3) := by decide +kernel
theorem dX1_at_61 : decode cX1_at 61 = .ok (.iload 4, 2) := by decide +kernel
theorem dX1_at_63 : decode cX1_at 63 = .ok (.iaload, 1) := by decide +kernel
theorem dX1_at_64 : decode cX1_at 64 = .ok (.iload_n 1, 1) := by decide +kernel
theorem dX1_at_65 : decode cX1_at 65 = .ok (.invokevirtual 60, 3) := by decide +kernel
theorem dX1_at_68 : decode cX1_at 68 = .ok (.iload_n 2, 1) := by decide +kernel
theorem dX1_at_69 : decode cX1_at 69 = .ok (.if_icmp .ne 7, 3) := by decide +kernel
theorem dX1_at_72 : decode cX1_at 72 = .ok (.iconst 1, 1) := by decide +kernel
theorem dX1_at_73 : decode cX1_at 73 = .ok (.goto 4, 3) := by decide +kernel
theorem dX1_at_76 : decode cX1_at 76 = .ok (.iconst 0, 1) := by decide +kernel
theorem dX1_at_77 : decode cX1_at 77 = .ok (.iadd, 1) := by decide +kernel
theorem dX1_at_78 : decode cX1_at 78 = .ok (.istore_n 3, 1) := by decide +kernel
theorem dX1_at_79 : decode cX1_at 79 = .ok (.iinc 4 1, 3) := by decide +kernel
theorem dX1_at_82 : decode cX1_at 82 = .ok (.goto (-56), 3) := by decide +kernel
theorem dX1_at_85 : decode cX1_at 85 = .ok (.iload_n 3, 1) := by decide +kernel
theorem dX1_at_86 : decode cX1_at 86 = .ok (.ireturn, 1) := by decide +kernel
theorem dX1_count_0 : decode cX1_count 0 = .ok (.aload_n 0, 1) := by decide +kernel
theorem dX1_count_1 : decode cX1_count 1 = .ok (.iload_n 1, 1) := by decide +kernel
theorem dX1_count_2 : decode cX1_count 2 = .ok (.invokestatic 68, 3) := by decide +kernel
theorem dX1_count_5 : decode cX1_count 5 = .ok (.ifCond .ne 7, 3) := by decide +kernel
theorem dX1_count_8 : decode cX1_count 8 = .ok (.iconst 1, 1) := by decide +kernel
theorem dX1_count_9 : decode cX1_count 9 = .ok (.goto 4, 3) := by decide +kernel
theorem dX1_count_12 : decode cX1_count 12 = .ok (.iconst 0, 1) := by decide +kernel
theorem dX1_count_13 : decode cX1_count 13 = .ok (.invokevirtual 52, 3) := by decide +kernel
theorem dX1_count_16 : decode cX1_count 16 = .ok (.ifCond .eq 5, 3) := by decide +kernel
theorem dX1_count_19 : decode cX1_count 19 = .ok (.iconst 0, 1) := by decide +kernel
theorem dX1_count_20 : decode cX1_count 20 = .ok (.ireturn, 1) := by decide +kernel
theorem dX1_count_21 : decode cX1_count 21 = .ok (.iconst 0, 1) := by decide +kernel
theorem dX1_count_22 : decode cX1_count 22 = .ok (.istore_n 3, 1) := by decide +kernel
theorem dX1_count_23 : decode cX1_count 23 = .ok (.iconst 0, 1) := by decide +kernel
theorem dX1_count_24 : decode cX1_count 24 = .ok (.istore 4, 2) := by decide +kernel
theorem dX1_count_26 : decode cX1_count 26 = .ok (.iload 4, 2) := by decide +kernel
theorem dX1_count_28 : decode cX1_count 28 = .ok (.aload_n 0, 1) := by decide +kernel
theorem dX1_count_29 : decode cX1_count 29 = .ok (.getfield 42, 3) := by decide +kernel
theorem dX1_count_32 : decode cX1_count 32 = .ok (.if_icmp .ge 80, 3) := by decide +kernel
theorem dX1_count_35 : decode cX1_count 35 = .ok (.iload_n 3, 1) := by decide +kernel
theorem dX1_count_36 : decode cX1_count 36 = .ok (.aload_n 0, 1) := by decide +kernel
theorem dX1_count_37 : decode cX1_count 37 = .ok (.iload 4, 2) := by decide +kernel
theorem dX1_count_39 : decode cX1_count 39 = .ok (.iload_n 1, 1) := by decide +kernel
theorem dX1_count_40 : decode cX1_count 40 = .ok (.invokevirtual 78, 3) := by decide +kernel
theorem dX1_count_43 : decode cX1_count 43 = .ok (.ifCond .eq 60, 3) := by decide +kernel
theorem dX1_count_46 : decode cX1_count 46 = .ok (.aload_n 0, 1) := by decide +kernel
theorem dX1_count_47 : decode cX1_count 47 = .ok (.getfield 28, 3) := by decide +kernel
theorem dX1_count_50 : decode cX1_count 50 = .ok (.iload 4, 2) := by decide +kernel
theorem dX1_count_52 : decode cX1_count 52 = .ok (.baload, 1) := by decide +kernel
theorem dX1_count_53 : decode cX1_count 53 = .ok (.ifCond .ne 50, 3) := by decide +kernel
theorem dX1_count_56 : decode cX1_count 56 = .ok (.aload_n 0, 1) := by decide +kernel
theorem dX1_count_57 : decode cX1_count 57 = .ok (.getfield 19, 3) := by decide +kernel
theorem dX1_count_60 : decode cX1_count 60 = .ok (.iload 4, 2) := by decide +kernel
theorem dX1_count_62 : decode cX1_count 62 = .ok (.iaload, 1) := by decide +kernel
theorem dX1_count_63 : decode cX1_count 63 = .ok (.aload_n 0, 1) := by decide +kernel
theorem dX1_count_64 : decode cX1_count 64 = .ok (.getfield 49, 3) := by decide +kernel
theorem dX1_count_67 : decode cX1_count 67 = .ok (.if_icmp .lt 36, 3) := by decide +kernel
theorem dX1_count_70 : decode cX1_count 70 = .ok (.aload_n 0, 1) := by decide +kernel
theorem dX1_count_71 : decode cX1_count 71 = .ok (.iload 4, 2) := by decide +kernel
theorem dX1_count_73 : decode cX1_count 73 = .ok (.iload_n 2, 1) := by decide +kernel
theorem dX1_count_74 : decode cX1_count 74 = .ok (.ifCond .eq 18, 3) := by decide +kernel
theorem dX1_count_77 : decode cX1_count 77 = .ok (.aload_n 0, 1) := by decide +kernel
theorem dX1_count_78 : decode cX1_count 78 = .ok (.getfield 19, 3) := by decide +kernel
theorem dX1_count_81 : decode cX1_count 81 = .ok (.iload 4, 2) := by decide +kernel
theorem dX1_count_83 : decode cX1_count 83 = .ok (.iaload, 1) := by decide +kernel
theorem dX1_count_84 : decode cX1_count 84 = .ok (.aload_n 0, 1) := by decide +kernel
theorem dX1_count_85 : decode cX1_count 85 = .ok (.getfield 49, 3) := by decide +kernel
theorem dX1_count_88 : decode cX1_count 88 = .ok (.isub, 1) := by decide +kernel
theorem dX1_count_89 : decode cX1_count 89 = .ok (.goto 4, 3) := by decide +kernel
theorem dX1_count_92 : decode cX1_count 92 = .ok (.iconst 0, 1) := by decide +kernel
theorem dX1_count_93 : decode cX1_count 93 = .ok (.invokevirtual 64, 3) := by decide +kernel
theorem dX1_count_96 : decode cX1_count 96 = .ok (.ifCond .eq 7, 3) := by decide +kernel
theorem dX1_count_99 : decode cX1_count 99 = .ok (.iconst 1, 1) := by decide +kernel
theorem dX1_count_100 : decode cX1_count 100 = .ok (.goto 4, 3) := by decide +kernel
theorem dX1_count_103 : decode cX1_count 103 = .ok (.iconst 0, 1) := by decide +kernel
theorem dX1_count_104 : decode cX1_count 104 = .ok (.iadd, 1) := by decide +kernel
theorem dX1_count_105 : decode cX1_count 105 = .ok (.istore_n 3, 1) := by decide +kernel
theorem dX1_count_106 : decode cX1_count 106 = .ok (.iinc 4 1, 3) := by decide +kernel
theorem dX1_count_109 : decode cX1_count 109 = .ok (.goto (-83), 3) := by decide +kernel
theorem dX1_count_112 : decode cX1_count 112 = .ok (.iload_n 3, 1) := by decide +kernel
theorem dX1_count_113 : decode cX1_count 113 = .ok (.ireturn, 1) := by decide +kernel
theorem dX1_begins_0 : decode cX1_begins 0 = .ok (.aload_n 0, 1) := by decide +kernel
theorem dX1_begins_1 : decode cX1_begins 1 = .ok (.iload_n 1, 1) := by decide +kernel
theorem dX1_begins_2 : decode cX1_begins 2 = .ok (.iconst 0, 1) := by decide +kernel
theorem dX1_begins_3 : decode cX1_begins 3 = .ok (.invokevirtual 87, 3) := by decide +kernel
theorem dX1_begins_6 : decode cX1_begins 6 = .ok (.ireturn, 1) := by decide +kernel
theorem dX1_ends_0 : decode cX1_ends 0 = .ok (.aload_n 0, 1) := by decide +kernel
theorem dX1_ends_1 : decode cX1_ends 1 = .ok (.iload_n 1, 1) := by decide +kernel
theorem dX1_ends_2 : decode cX1_ends 2 = .ok (.iconst 1, 1) := by decide +kernel
theorem dX1_ends_3 : decode cX1_ends 3 = .ok (.invokevirtual 87, 3) := by decide +kernel
theorem dX1_ends_6 : decode cX1_ends 6 = .ok (.ireturn, 1) := by decide +kernel
theorem dX1_isMixed_0 : decode cX1_isMixed 0 = .ok (.aload_n 0, 1) := by decide +kernel
theorem dX1_isMixed_1 : decode cX1_isMixed 1 = .ok (.getfield 19, 3) := by decide +kernel
theorem dX1_isMixed_4 : decode cX1_isMixed 4 = .ok (.iload_n 1, 1) := by decide +kernel
theorem dX1_isMixed_5 : decode cX1_isMixed 5 = .ok (.iaload, 1) := by decide +kernel
theorem dX1_isMixed_6 : decode cX1_isMixed 6 = .ok (.aload_n 0, 1) := by decide +kernel
theorem dX1_isMixed_7 : decode cX1_isMixed 7 = .ok (.getfield 49, 3) := by decide +kernel
theorem dX1_isMixed_10 : decode cX1_isMixed 10 = .ok (.if_icmp .eq 5, 3) := by decide +kernel
theorem dX1_isMixed_13 : decode cX1_isMixed 13 = .ok (.iconst 0, 1) := by decide +kernel
theorem dX1_isMixed_14 : decode cX1_isMixed 14 = .ok (.ireturn, 1) := by decide +kernel
theorem dX1_isMixed_15 : decode cX1_isMixed 15 = .ok (.iconst 0, 1) := by decide +kernel
theorem dX1_isMixed_16 : decode cX1_isMixed 16 = .ok (.istore_n 2, 1) := by decide +kernel
theorem dX1_isMixed_17 : decode cX1_isMixed 17 = .ok (.iload_n 2, 1) := by decide +kernel
theorem dX1_isMixed_18 : decode cX1_isMixed 18 = .ok (.bipush 26, 2) := by decide +kernel
theorem dX1_isMixed_20 : decode cX1_isMixed 20 = .ok (.if_icmp .ge 16, 3) := by decide +kernel
theorem dX1_isMixed_23 : decode cX1_isMixed 23 = .ok (.aload_n 0, 1) := by decide +kernel
theorem dX1_isMixed_24 : decode cX1_isMixed 24 = .ok (.getfield 35, 3) := by decide +kernel
theorem dX1_isMixed_27 : decode cX1_isMixed 27 = .ok (.iload_n 2, 1) := by decide +kernel
theorem dX1_isMixed_28 : decode cX1_isMixed 28 = .ok (.iconst 0, 1) := by decide +kernel
theorem dX1_isMixed_29 : decode cX1_isMixed 29 = .ok (.iastore, 1) := by decide +kernel
theorem dX1_isMixed_30 : decode cX1_isMixed 30 = .ok (.iinc 2 1, 3) := by decide +kernel
theorem dX1_isMixed_33 : decode cX1_isMixed 33 = .ok (.goto (-16), 3) := by decide +kernel
theorem dX1_isMixed_36 : decode cX1_isMixed 36 = .ok (.iconst 0, 1) := by decide +kernel
theorem dX1_isMixed_37 : decode cX1_isMixed 37 = .ok (.istore_n 2, 1) := by decide +kernel
theorem dX1_isMixed_38 : decode cX1_isMixed 38 = .ok (.iload_n 2, 1) := by decide +kernel
theorem dX1_isMixed_39 : decode cX1_isMixed 39 = .ok (.aload_n 0, 1) := by decide +kernel
theorem dX1_isMixed_40 : decode cX1_isMixed 40 = .ok (.getfield 49, 3) := by decide +kernel
theorem dX1_isMixed_43 : decode cX1_isMixed 43 = .ok (.if_icmp .ge 36, 3) := by decide +kernel
theorem dX1_isMixed_46 : decode cX1_isMixed 46 = .ok (.aload_n 0, 1) := by decide +kernel
theorem dX1_isMixed_47 : decode cX1_isMixed 47 = .ok (.iload_n 2, 1) := by decide +kernel
theorem dX1_isMixed_48 : decode cX1_isMixed 48 = .ok (.invokevirtual 56, 3) := by decide +kernel
theorem dX1_isMixed_51 : decode cX1_isMixed 51 = .ok (.bipush 63, 2) := by decide +kernel
theorem dX1_isMixed_53 : decode cX1_isMixed 53 = .ok (.if_icmp .eq 20, 3) := by decide +kernel
theorem dX1_isMixed_56 : decode cX1_isMixed 56 = .ok (.aload_n 0, 1) := by decide +kernel
theorem dX1_isMixed_57 : decode cX1_isMixed 57 = .ok (.getfield 35, 3) := by decide +kernel
theorem dX1_isMixed_60 : decode cX1_isMixed 60 = .ok (.aload_n 0, 1) := by decide +kernel
theorem dX1_isMixed_61 : decode cX1_isMixed 61 = .ok (.iload_n 2, 1) := by decide +kernel
theorem dX1_isMixed_62 : decode cX1_isMixed 62 = .ok (.invokevirtual 56, 3) := by decide +kernel
theorem dX1_isMixed_65 : decode cX1_isMixed 65 = .ok (.bipush 97, 2) := by decide +kernel
theorem dX1_isMixed_67 : decode cX1_isMixed 67 = .ok (.isub, 1) := by decide +kernel
theorem dX1_isMixed_68 : decode cX1_isMixed 68 = .ok (.dup2, 1) := by decide +kernel
theorem dX1_isMixed_69 : decode cX1_isMixed 69 = .ok (.iaload, 1) := by decide +kernel
theorem dX1_isMixed_70 : decode cX1_isMixed 70 = .ok (.iconst 1, 1) := by decide +kernel
theorem dX1_isMixed_71 : decode cX1_isMixed 71 = .ok (.iadd, 1) := by decide +kernel
theorem dX1_isMixed_72 : decode cX1_isMixed 72 = .ok (.iastore, 1) := by decide +kernel
theorem dX1_isMixed_73 : decode cX1_isMixed 73 = .ok (.iinc 2 1, 3) := by decide +kernel
theorem dX1_isMixed_76 : decode cX1_isMixed 76 = .ok (.goto (-38), 3) := by decide +kernel
theorem dX1_isMixed_79 : decode cX1_isMixed 79 = .ok (.iconst 0, 1) := by decide +kernel
theorem dX1_isMixed_80 : decode cX1_isMixed 80 = .ok (.istore_n 2, 1) := by decide +kernel
theorem dX1_isMixed_81 : decode cX1_isMixed 81 = .ok (.iload_n 2, 1) := by decide +kernel
theorem dX1_isMixed_82 : decode cX1_isMixed 82 = .ok (.aload_n 0, 1) := by decide +kernel
theorem dX1_isMixed_83 : decode cX1_isMixed 83 = .ok (.getfield 49, 3) := by decide +kernel
theorem dX1_isMixed_86 : decode cX1_isMixed 86 = .ok (.if_icmp .ge 27, 3) := by decide +kernel
theorem dX1_isMixed_89 : decode cX1_isMixed 89 = .ok (.aload_n 0, 1) := by decide +kernel
theorem dX1_isMixed_90 : decode cX1_isMixed 90 = .ok (.getfield 35, 3) := by decide +kernel
theorem dX1_isMixed_93 : decode cX1_isMixed 93 = .ok (.aload_n 0, 1) := by decide +kernel
theorem dX1_isMixed_94 : decode cX1_isMixed 94 = .ok (.iload_n 1, 1) := by decide +kernel
theorem dX1_isMixed_95 : decode cX1_isMixed 95 = .ok (.iload_n 2, 1) := by decide +kernel
theorem dX1_isMixed_96 : decode cX1_isMixed 96 = .ok (.invokevirtual 60, 3) := by decide +kernel
theorem dX1_isMixed_99 : decode cX1_isMixed 99 = .ok (.bipush 97, 2) := by decide +kernel
theorem dX1_isMixed_101 : decode cX1_isMixed 101 = .ok (.isub, 1) := by decide +kernel
theorem dX1_isMixed_102 : decode cX1_isMixed 102 = .ok (.dup2, 1) := by decide +kernel
theorem dX1_isMixed_103 : decode cX1_isMixed 103 = .ok (.iaload, 1) := by decide +kernel
theorem dX1_isMixed_104 : decode cX1_isMixed 104 = .ok (.iconst 1, 1) := by decide +kernel
theorem dX1_isMixed_105 : decode cX1_isMixed 105 = .ok (.isub, 1) := by decide +kernel
theorem dX1_isMixed_106 : decode cX1_isMixed 106 = .ok (.iastore, 1) := by decide +kernel
theorem dX1_isMixed_107 : decode cX1_isMixed 107 = .ok (.iinc 2 1, 3) := by decide +kernel
theorem dX1_isMixed_110 : decode cX1_isMixed 110 = .ok (.goto (-29), 3) := by decide +kernel
theorem dX1_isMixed_113 : decode cX1_isMixed 113 = .ok (.iconst 0, 1) := by decide +kernel
theorem dX1_isMixed_114 : decode cX1_isMixed 114 = .ok (.istore_n 2, 1) := by decide +kernel
theorem dX1_isMixed_115 : decode cX1_isMixed 115 = .ok (.iload_n 2, 1) := by decide +kernel
theorem dX1_isMixed_116 : decode cX1_isMixed 116 = .ok (.bipush 26, 2) := by decide +kernel
theorem dX1_isMixed_118 : decode cX1_isMixed 118 = .ok (.if_icmp .ge 20, 3) := by decide +kernel
theorem dX1_isMixed_121 : decode cX1_isMixed 121 = .ok (.aload_n 0, 1) := by decide +kernel
theorem dX1_isMixed_122 : decode cX1_isMixed 122 = .ok (.getfield 35, 3) := by decide +kernel
theorem dX1_isMixed_125 : decode cX1_isMixed 125 = .ok (.iload_n 2, 1) := by decide +kernel
theorem dX1_isMixed_126 : decode cX1_isMixed 126 = .ok (.iaload, 1) := by decide +kernel
theorem dX1_isMixed_127 : decode cX1_isMixed 127 = .ok (.ifCond .le 5, 3) := by decide +kernel
theorem dX1_isMixed_130 : decode cX1_isMixed 130 = .ok (.iconst 0, 1) := by decide +kernel
theorem dX1_isMixed_131 : decode cX1_isMixed 131 = .ok (.ireturn, 1) := by decide +kernel
theorem dX1_isMixed_132 : decode cX1_isMixed 132 = .ok (.iinc 2 1, 3) := by decide +kernel
theorem dX1_isMixed_135 : decode cX1_isMixed 135 = .ok (.goto (-20), 3) := by decide +kernel
theorem dX1_isMixed_138 : decode cX1_isMixed 138 = .ok (.iconst 1, 1) := by decide +kernel
theorem dX1_isMixed_139 : decode cX1_isMixed 139 = .ok (.ireturn, 1) := by decide +kernel
theorem dX1_mixed_0 : decode cX1_mixed 0 = .ok (.aload_n 0, 1) := by decide +kernel
theorem dX1_mixed_1 : decode cX1_mixed 1 = .ok (.iload_n 1, 1) := by decide +kernel
theorem dX1_mixed_2 : decode cX1_mixed 2 = .ok (.invokestatic 68, 3) := by decide +kernel
theorem dX1_mixed_5 : decode cX1_mixed 5 = .ok (.ifCond .ne 7, 3) := by decide +kernel
theorem dX1_mixed_8 : decode cX1_mixed 8 = .ok (.iconst 1, 1) := by decide +kernel
theorem dX1_mixed_9 : decode cX1_mixed 9 = .ok (.goto 4, 3) := by decide +kernel
theorem dX1_mixed_12 : decode cX1_mixed 12 = .ok (.iconst 0, 1) := by decide +kernel
theorem dX1_mixed_13 : decode cX1_mixed 13 = .ok (.invokevirtual 52, 3) := by decide +kernel
theorem dX1_mixed_16 : decode cX1_mixed 16 = .ok (.ifCond .eq 5, 3) := by decide +kernel
theorem dX1_mixed_19 : decode cX1_mixed 19 = .ok (.iconst 0, 1) := by decide +kernel
theorem dX1_mixed_20 : decode cX1_mixed 20 = .ok (.ireturn, 1) := by decide +kernel
theorem dX1_mixed_21 : decode cX1_mixed 21 = .ok (.iconst 0, 1) := by decide +kernel
theorem dX1_mixed_22 : decode cX1_mixed 22 = .ok (.istore_n 2, 1) := by decide +kernel
theorem dX1_mixed_23 : decode cX1_mixed 23 = .ok (.iconst 0, 1) := by decide +kernel
theorem dX1_mixed_24 : decode cX1_mixed 24 = .ok (.istore_n 3, 1) := by decide +kernel
theorem dX1_mixed_25 : decode cX1_mixed 25 = .ok (.iload_n 3, 1) := by decide +kernel
theorem dX1_mixed_26 : decode cX1_mixed 26 = .ok (.aload_n 0, 1) := by decide +kernel
theorem dX1_mixed_27 : decode cX1_mixed 27 = .ok (.getfield 42, 3) := by decide +kernel
theorem dX1_mixed_30 : decode cX1_mixed 30 = .ok (.if_icmp .ge 43, 3) := by decide +kernel
theorem dX1_mixed_33 : decode cX1_mixed 33 = .ok (.iload_n 2, 1) := by decide +kernel
theorem dX1_mixed_34 : decode cX1_mixed 34 = .ok (.aload_n 0, 1) := by decide +kernel
theorem dX1_mixed_35 : decode cX1_mixed 35 = .ok (.iload_n 3, 1) := by decide +kernel
theorem dX1_mixed_36 : decode cX1_mixed 36 = .ok (.iload_n 1, 1) := by decide +kernel
theorem dX1_mixed_37 : decode cX1_mixed 37 = .ok (.invokevirtual 78, 3) := by decide +kernel
theorem dX1_mixed_40 : decode cX1_mixed 40 = .ok (.ifCond .eq 24, 3) := by decide +kernel
theorem dX1_mixed_43 : decode cX1_mixed 43 = .ok (.aload_n 0, 1) := by decide +kernel
theorem dX1_mixed_44 : decode cX1_mixed 44 = .ok (.getfield 28, 3) := by decide +kernel
theorem dX1_mixed_47 : decode cX1_mixed 47 = .ok (.iload_n 3, 1) := by decide +kernel
theorem dX1_mixed_48 : decode cX1_mixed 48 = .ok (.baload, 1) := by decide +kernel
theorem dX1_mixed_49 : decode cX1_mixed 49 = .ok (.ifCond .ne 15, 3) := by decide +kernel
theorem dX1_mixed_52 : decode cX1_mixed 52 = .ok (.aload_n 0, 1) := by decide +kernel
theorem dX1_mixed_53 : decode cX1_mixed 53 = .ok (.iload_n 3, 1) := by decide +kernel
theorem dX1_mixed_54 : decode cX1_mixed 54 = .ok (.invokevirtual 91, 3) := by decide +kernel
theorem dX1_mixed_57 : decode cX1_mixed 57 = .ok (.ifCond .eq 7, 3) := by decide +kernel
theorem dX1_mixed_60 : decode cX1_mixed 60 = .ok (.iconst 1, 1) := by decide +kernel
theorem dX1_mixed_61 : decode cX1_mixed 61 = .ok (.goto 4, 3) := by decide +kernel
theorem dX1_mixed_64 : decode cX1_mixed 64 = .ok (.iconst 0, 1) := by decide +kernel
theorem dX1_mixed_65 : decode cX1_mixed 65 = .ok (.iadd, 1) := by decide +kernel
theorem dX1_mixed_66 : decode cX1_mixed 66 = .ok (.istore_n 2, 1) := by decide +kernel
theorem dX1_mixed_67 : decode cX1_mixed 67 = .ok (.iinc 3 1, 3) := by decide +kernel
theorem dX1_mixed_70 : decode cX1_mixed 70 = .ok (.goto (-45), 3) := by decide +kernel
theorem dX1_mixed_73 : decode cX1_mixed 73 = .ok (.iload_n 2, 1) := by decide +kernel
theorem dX1_mixed_74 : decode cX1_mixed 74 = .ok (.ireturn, 1) := by decide +kernel
theorem dX1_many_0 : decode cX1_many 0 = .ok (.aload_n 0, 1) := by decide +kernel
theorem dX1_many_1 : decode cX1_many 1 = .ok (.iload_n 1, 1) := by decide +kernel
theorem dX1_many_2 : decode cX1_many 2 = .ok (.invokestatic 68, 3) := by decide +kernel
theorem dX1_many_5 : decode cX1_many 5 = .ok (.ifCond .ne 7, 3) := by decide +kernel
theorem dX1_many_8 : decode cX1_many 8 = .ok (.iconst 1, 1) := by decide +kernel
theorem dX1_many_9 : decode cX1_many 9 = .ok (.goto 4, 3) := by decide +kernel
theorem dX1_many_12 : decode cX1_many 12 = .ok (.iconst 0, 1) := by decide +kernel
theorem dX1_many_13 : decode cX1_many 13 = .ok (.invokevirtual 52, 3) := by decide +kernel
theorem dX1_many_16 : decode cX1_many 16 = .ok (.ifCond .eq 5, 3) := by decide +kernel
theorem dX1_many_19 : decode cX1_many 19 = .ok (.iconst 0, 1) := by decide +kernel
theorem dX1_many_20 : decode cX1_many 20 = .ok (.ireturn, 1) := by decide +kernel
theorem dX1_many_21 : decode cX1_many 21 = .ok (.iload_n 2, 1) := by decide +kernel
theorem dX1_many_22 : decode cX1_many 22 = .ok (.iconst 1, 1) := by decide +kernel
theorem dX1_many_23 : decode cX1_many 23 = .ok (.if_icmp .lt 9, 3) := by decide +kernel
theorem dX1_many_26 : decode cX1_many 26 = .ok (.iload_n 2, 1) := by decide +kernel
theorem dX1_many_27 : decode cX1_many 27 = .ok (.bipush 15, 2) := by decide +kernel
theorem dX1_many_29 : decode cX1_many 29 = .ok (.if_icmp .le 5, 3) := by decide +kernel
theorem dX1_many_32 : decode cX1_many 32 = .ok (.iconst (-1), 1) := by decide +kernel
theorem dX1_many_33 : decode cX1_many 33 = .ok (.ireturn, 1) := by decide +kernel
theorem dX1_many_34 : decode cX1_many 34 = .ok (.iconst 0, 1) := by decide +kernel
theorem dX1_many_35 : decode cX1_many 35 = .ok (.istore_n 3, 1) := by decide +kernel
theorem dX1_many_36 : decode cX1_many 36 = .ok (.iconst 0, 1) := by decide +kernel
theorem dX1_many_37 : decode cX1_many 37 = .ok (.istore 4, 2) := by decide +kernel
theorem dX1_many_39 : decode cX1_many 39 = .ok (.iload 4, 2) := by decide +kernel
theorem dX1_many_41 : decode cX1_many 41 = .ok (.aload_n 0, 1) := by decide +kernel
theorem dX1_many_42 : decode cX1_many 42 = .ok (.getfield 42, 3) := by decide +kernel
theorem dX1_many_45 : decode cX1_many 45 = .ok (.if_icmp .ge 38, 3) := by decide +kernel
theorem dX1_many_48 : decode cX1_many 48 = .ok (.iload_n 3, 1) := by decide +kernel
theorem dX1_many_49 : decode cX1_many 49 = .ok (.aload_n 0, 1) := by decide +kernel
theorem dX1_many_50 : decode cX1_many 50 = .ok (.iload 4, 2) := by decide +kernel
theorem dX1_many_52 : decode cX1_many 52 = .ok (.iload_n 1, 1) := by decide +kernel
theorem dX1_many_53 : decode cX1_many 53 = .ok (.invokevirtual 78, 3) := by decide +kernel
theorem dX1_many_56 : decode cX1_many 56 = .ok (.ifCond .eq 18, 3) := by decide +kernel
theorem dX1_many_59 : decode cX1_many 59 = .ok (.aload_n 0, 1) := by decide +kernel
theorem dX1_many_60 : decode cX1_many 60 = .ok (.getfield 19, 3) := by decide +kernel
theorem dX1_many_63 : decode cX1_many 63 = .ok (.iload 4, 2) := by decide +kernel
theorem dX1_many_65 : decode cX1_many 65 = .ok (.iaload, 1) := by decide +kernel
theorem dX1_many_66 : decode cX1_many 66 = .ok (.iload_n 2, 1) := by decide +kernel
theorem dX1_many_67 : decode cX1_many 67 = .ok (.if_icmp .ne 7, 3) := by decide +kernel
theorem dX1_many_70 : decode cX1_many 70 = .ok (.iconst 1, 1) := by decide +kernel
theorem dX1_many_71 : decode cX1_many 71 = .ok (.goto 4, 3) := by decide +kernel
theorem dX1_many_74 : decode cX1_many 74 = .ok (.iconst 0, 1) := by decide +kernel
theorem dX1_many_75 : decode cX1_many 75 = .ok (.iadd, 1) := by decide +kernel
theorem dX1_many_76 : decode cX1_many 76 = .ok (.istore_n 3, 1) := by decide +kernel
theorem dX1_many_77 : decode cX1_many 77 = .ok (.iinc 4 1, 3) := by decide +kernel
theorem dX1_many_80 : decode cX1_many 80 = .ok (.goto (-41), 3) := by decide +kernel
theorem dX1_many_83 : decode cX1_many 83 = .ok (.iload_n 3, 1) := by decide +kernel
theorem dX1_many_84 : decode cX1_many 84 = .ok (.ireturn, 1) := by decide +kernel
theorem dX1_letters_0 : decode cX1_letters 0 = .ok (.aload_n 0, 1) := by decide +kernel
theorem dX1_letters_1 : decode cX1_letters 1 = .ok (.iload_n 1, 1) := by decide +kernel
theorem dX1_letters_2 : decode cX1_letters 2 = .ok (.invokestatic 68, 3) := by decide +kernel
theorem dX1_letters_5 : decode cX1_letters 5 = .ok (.ifCond .eq 10, 3) := by decide +kernel
theorem dX1_letters_8 : decode cX1_letters 8 = .ok (.iload_n 2, 1) := by decide +kernel
theorem dX1_letters_9 : decode cX1_letters 9 = .ok (.invokestatic 45, 3) := by decide +kernel
theorem dX1_letters_12 : decode cX1_letters 12 = .ok (.ifCond .ne 7, 3) := by decide +kernel
theorem dX1_letters_15 : decode cX1_letters 15 = .ok (.iconst 1, 1) := by decide +kernel
theorem dX1_letters_16 : decode cX1_letters 16 = .ok (.goto 4, 3) := by decide +kernel
theorem dX1_letters_19 : decode cX1_letters 19 = .ok (.iconst 0, 1) := by decide +kernel
theorem dX1_letters_20 : decode cX1_letters 20 = .ok (.invokevirtual 52, 3) := by decide +kernel
theorem dX1_letters_23 : decode cX1_letters 23 = .ok (.ifCond .eq 5, 3) := by decide +kernel
theorem dX1_letters_26 : decode cX1_letters 26 = .ok (.iconst 0, 1) := by decide +kernel
theorem dX1_letters_27 : decode cX1_letters 27 = .ok (.ireturn, 1) := by decide +kernel
theorem dX1_letters_28 : decode cX1_letters 28 = .ok (.iconst 0, 1) := by decide +kernel
theorem dX1_letters_29 : decode cX1_letters 29 = .ok (.istore_n 3, 1) := by decide +kernel
theorem dX1_letters_30 : decode cX1_letters 30 = .ok (.iconst 0, 1) := by decide +kernel
theorem dX1_letters_31 : decode cX1_letters 31 = .ok (.istore 4, 2) := by decide +kernel
theorem dX1_letters_33 : decode cX1_letters 33 = .ok (.iload 4, 2) := by decide +kernel
theorem dX1_letters_35 : decode cX1_letters 35 = .ok (.aload_n 0, 1) := by decide +kernel
theorem dX1_letters_36 : decode cX1_letters 36 = .ok (.getfield 42, 3) := by decide +kernel
theorem dX1_letters_39 : decode cX1_letters 39 = .ok (.if_icmp .ge 60, 3) := by decide +kernel
theorem dX1_letters_42 : decode cX1_letters 42 = .ok (.iconst 0, 1) := by decide +kernel
theorem dX1_letters_43 : decode cX1_letters 43 = .ok (.istore 5, 2) := by decide +kernel
theorem dX1_letters_45 : decode cX1_letters 45 = .ok (.iload 5, 2) := by decide +kernel
theorem dX1_letters_47 : decode cX1_letters 47 = .ok (.aload_n 0, 1) := by decide +kernel
theorem dX1_letters_48 : decode cX1_letters 48 = .ok (.getfield 19, 3) := by decide +kernel
theorem dX1_letters_51 : decode cX1_letters 51 = .ok (.iload 4, 2) := by decide +kernel
theorem dX1_letters_53 : decode cX1_letters 53 = .ok (.iaload, 1) := by decide +kernel
theorem dX1_letters_54 : decode cX1_letters 54 = .ok (.if_icmp .ge 39, 3) := by decide +kernel
theorem dX1_letters_57 : decode cX1_letters 57 = .ok (.aload_n 0, 1) := by decide +kernel
theorem dX1_letters_58 : decode cX1_letters 58 = .ok (.iload 4, 2) := by decide +kernel
theorem dX1_letters_60 : decode cX1_letters 60 = .ok (.iload_n 1, 1) := by decide +kernel
theorem dX1_letters_61 : decode cX1_letters 61 = .ok (.invokevirtual 78, 3) := by decide +kernel
theorem dX1_letters_64 : decode cX1_letters 64 = .ok (.ifCond .eq 29, 3) := by decide +kernel
theorem dX1_letters_67 : decode cX1_letters 67 = .ok (.iload_n 3, 1) := by decide +kernel
theorem dX1_letters_68 : decode cX1_letters 68 = .ok (.aload_n 0, 1) := by decide +kernel
theorem dX1_letters_69 : decode cX1_letters 69 = .ok (.iload 4, 2) := by decide +kernel
theorem dX1_letters_71 : decode cX1_letters 71 = .ok (.iload 5, 2) := by decide +kernel
theorem dX1_letters_73 : decode cX1_letters 73 = .ok (.invokevirtual 60, 3) := by decide +kernel
theorem dX1_letters_76 : decode cX1_letters 76 = .ok (.iload_n 2, 1) := by decide +kernel
theorem dX1_letters_77 : decode cX1_letters 77 = .ok (.if_icmp .ne 7, 3) := by decide +kernel
theorem dX1_letters_80 : decode cX1_letters 80 = .ok (.iconst 1, 1) := by decide +kernel
theorem dX1_letters_81 : decode cX1_letters 81 = .ok (.goto 4, 3) := by decide +kernel
theorem dX1_letters_84 : decode cX1_letters 84 = .ok (.iconst 0, 1) := by decide +kernel
theorem dX1_letters_85 : decode cX1_letters 85 = .ok (.iadd, 1) := by decide +kernel
theorem dX1_letters_86 : decode cX1_letters 86 = .ok (.istore_n 3, 1) := by decide +kernel
theorem dX1_letters_87 : decode cX1_letters 87 = .ok (.iinc 5 1, 3) := by decide +kernel
theorem dX1_letters_90 : decode cX1_letters 90 = .ok (.goto (-45), 3) := by decide +kernel
theorem dX1_letters_93 : decode cX1_letters 93 = .ok (.iinc 4 1, 3) := by decide +kernel
theorem dX1_letters_96 : decode cX1_letters 96 = .ok (.goto (-63), 3) := by decide +kernel
theorem dX1_letters_99 : decode cX1_letters 99 = .ok (.iload_n 3, 1) := by decide +kernel
theorem dX1_letters_100 : decode cX1_letters 100 = .ok (.ireturn, 1) := by decide +kernel
theorem dX1_letter_0 : decode cX1_letter 0 = .ok (.aload_n 0, 1) := by decide +kernel
theorem dX1_letter_1 : decode cX1_letter 1 = .ok (.aload_n 0, 1) := by decide +kernel
theorem dX1_letter_2 : decode cX1_letter 2 = .ok (.iload_n 1, 1) := by decide +kernel
theorem dX1_letter_3 : decode cX1_letter 3 = .ok (.invokevirtual 94, 3) := by decide +kernel
theorem dX1_letter_6 : decode cX1_letter 6 = .ok (.ifCond .ne 7, 3) := by decide +kernel
theorem dX1_letter_9 : decode cX1_letter 9 = .ok (.iconst 1, 1) := by decide +kernel
theorem dX1_letter_10 : decode cX1_letter 10 = .ok (.goto 4, 3) := by decide +kernel
theorem dX1_letter_13 : decode cX1_letter 13 = .ok (.iconst 0, 1) := by decide +kernel
theorem dX1_letter_14 : decode cX1_letter 14 = .ok (.invokevirtual 52, 3) := by decide +kernel
theorem dX1_letter_17 : decode cX1_letter 17 = .ok (.ifCond .eq 5, 3) := by decide +kernel
theorem dX1_letter_20 : decode cX1_letter 20 = .ok (.iconst 0, 1) := by decide +kernel
theorem dX1_letter_21 : decode cX1_letter 21 = .ok (.ireturn, 1) := by decide +kernel
theorem dX1_letter_22 : decode cX1_letter 22 = .ok (.iload_n 2, 1) := by decide +kernel
theorem dX1_letter_23 : decode cX1_letter 23 = .ok (.ifCond .lt 13, 3) := by decide +kernel
theorem dX1_letter_26 : decode cX1_letter 26 = .ok (.iload_n 2, 1) := by decide +kernel
theorem dX1_letter_27 : decode cX1_letter 27 = .ok (.aload_n 0, 1) := by decide +kernel
theorem dX1_letter_28 : decode cX1_letter 28 = .ok (.getfield 19, 3) := by decide +kernel
theorem dX1_letter_31 : decode cX1_letter 31 = .ok (.iload_n 1, 1) := by decide +kernel
theorem dX1_letter_32 : decode cX1_letter 32 = .ok (.iaload, 1) := by decide +kernel
theorem dX1_letter_33 : decode cX1_letter 33 = .ok (.if_icmp .lt 7, 3) := by decide +kernel
theorem dX1_letter_36 : decode cX1_letter 36 = .ok (.iconst (-1), 1) := by decide +kernel
theorem dX1_letter_37 : decode cX1_letter 37 = .ok (.goto 9, 3) := by decide +kernel
theorem dX1_letter_40 : decode cX1_letter 40 = .ok (.aload_n 0, 1) := by decide +kernel
theorem dX1_letter_41 : decode cX1_letter 41 = .ok (.iload_n 1, 1) := by decide +kernel
theorem dX1_letter_42 : decode cX1_letter 42 = .ok (.iload_n 2, 1) := by decide +kernel
theorem dX1_letter_43 : decode cX1_letter 43 = .ok (.invokevirtual 60, 3) := by decide +kernel
theorem dX1_letter_46 : decode cX1_letter 46 = .ok (.ireturn, 1) := by decide +kernel
theorem dX1_tell_0 : decode cX1_tell 0 = .ok (.aload_n 0, 1) := by decide +kernel
theorem dX1_tell_1 : decode cX1_tell 1 = .ok (.aload_n 0, 1) := by decide +kernel
theorem dX1_tell_2 : decode cX1_tell 2 = .ok (.iload_n 1, 1) := by decide +kernel
theorem dX1_tell_3 : decode cX1_tell 3 = .ok (.invokevirtual 94, 3) := by decide +kernel
theorem dX1_tell_6 : decode cX1_tell 6 = .ok (.ifCond .ne 7, 3) := by decide +kernel
theorem dX1_tell_9 : decode cX1_tell 9 = .ok (.iconst 1, 1) := by decide +kernel
theorem dX1_tell_10 : decode cX1_tell 10 = .ok (.goto 4, 3) := by decide +kernel
theorem dX1_tell_13 : decode cX1_tell 13 = .ok (.iconst 0, 1) := by decide +kernel
theorem dX1_tell_14 : decode cX1_tell 14 = .ok (.invokevirtual 52, 3) := by decide +kernel
theorem dX1_tell_17 : decode cX1_tell 17 = .ok (.ifCond .eq 5, 3) := by decide +kernel
theorem dX1_tell_20 : decode cX1_tell 20 = .ok (.iconst 0, 1) := by decide +kernel
theorem dX1_tell_21 : decode cX1_tell 21 = .ok (.ireturn, 1) := by decide +kernel
theorem dX1_tell_22 : decode cX1_tell 22 = .ok (.iload_n 2, 1) := by decide +kernel
theorem dX1_tell_23 : decode cX1_tell 23 = .ok (.tableswitch 65 0 3 #[29, 36, 43, 58], 29) := by decide +kernel
theorem dX1_tell_52 : decode cX1_tell 52 = .ok (.aload_n 0, 1) := by decide +kernel
theorem dX1_tell_53 : decode cX1_tell 53 = .ok (.getfield 22, 3) := by decide +kernel
theorem dX1_tell_56 : decode cX1_tell 56 = .ok (.iload_n 1, 1) := by decide +kernel
theorem dX1_tell_57 : decode cX1_tell 57 = .ok (.iaload, 1) := by decide +kernel
theorem dX1_tell_58 : decode cX1_tell 58 = .ok (.ireturn, 1) := by decide +kernel
theorem dX1_tell_59 : decode cX1_tell 59 = .ok (.aload_n 0, 1) := by decide +kernel
theorem dX1_tell_60 : decode cX1_tell 60 = .ok (.getfield 25, 3) := by decide +kernel
theorem dX1_tell_63 : decode cX1_tell 63 = .ok (.iload_n 1, 1) := by decide +kernel
theorem dX1_tell_64 : decode cX1_tell 64 = .ok (.iaload, 1) := by decide +kernel
theorem dX1_tell_65 : decode cX1_tell 65 = .ok (.ireturn, 1) := by decide +kernel
theorem dX1_tell_66 : decode cX1_tell 66 = .ok (.aload_n 0, 1) := by decide +kernel
theorem dX1_tell_67 : decode cX1_tell 67 = .ok (.getfield 28, 3) := by decide +kernel
theorem dX1_tell_70 : decode cX1_tell 70 = .ok (.iload_n 1, 1) := by decide +kernel
theorem dX1_tell_71 : decode cX1_tell 71 = .ok (.baload, 1) := by decide +kernel
theorem dX1_tell_72 : decode cX1_tell 72 = .ok (.ifCond .eq 7, 3) := by decide +kernel
theorem dX1_tell_75 : decode cX1_tell 75 = .ok (.iconst 1, 1) := by decide +kernel
theorem dX1_tell_76 : decode cX1_tell 76 = .ok (.goto 4, 3) := by decide +kernel
theorem dX1_tell_79 : decode cX1_tell 79 = .ok (.iconst 0, 1) := by decide +kernel
theorem dX1_tell_80 : decode cX1_tell 80 = .ok (.ireturn, 1) := by decide +kernel
theorem dX1_tell_81 : decode cX1_tell 81 = .ok (.aload_n 0, 1) := by decide +kernel
theorem dX1_tell_82 : decode cX1_tell 82 = .ok (.getfield 19, 3) := by decide +kernel
theorem dX1_tell_85 : decode cX1_tell 85 = .ok (.iload_n 1, 1) := by decide +kernel
theorem dX1_tell_86 : decode cX1_tell 86 = .ok (.iaload, 1) := by decide +kernel
theorem dX1_tell_87 : decode cX1_tell 87 = .ok (.ireturn, 1) := by decide +kernel
theorem dX1_tell_88 : decode cX1_tell 88 = .ok (.iconst (-1), 1) := by decide +kernel
theorem dX1_tell_89 : decode cX1_tell 89 = .ok (.ireturn, 1) := by decide +kernel
theorem dX1_common_0 : decode cX1_common 0 = .ok (.aload_n 0, 1) := by decide +kernel
theorem dX1_common_1 : decode cX1_common 1 = .ok (.iload_n 1, 1) := by decide +kernel
theorem dX1_common_2 : decode cX1_common 2 = .ok (.invokestatic 68, 3) := by decide +kernel
theorem dX1_common_5 : decode cX1_common 5 = .ok (.ifCond .ne 7, 3) := by decide +kernel
theorem dX1_common_8 : decode cX1_common 8 = .ok (.iconst 1, 1) := by decide +kernel
theorem dX1_common_9 : decode cX1_common 9 = .ok (.goto 4, 3) := by decide +kernel
theorem dX1_common_12 : decode cX1_common 12 = .ok (.iconst 0, 1) := by decide +kernel
theorem dX1_common_13 : decode cX1_common 13 = .ok (.invokevirtual 52, 3) := by decide +kernel
theorem dX1_common_16 : decode cX1_common 16 = .ok (.ifCond .eq 5, 3) := by decide +kernel
theorem dX1_common_19 : decode cX1_common 19 = .ok (.iconst 0, 1) := by decide +kernel
theorem dX1_common_20 : decode cX1_common 20 = .ok (.ireturn, 1) := by decide +kernel
theorem dX1_common_21 : decode cX1_common 21 = .ok (.iconst (-1), 1) := by decide +kernel
theorem dX1_common_22 : decode cX1_common 22 = .ok (.istore_n 2, 1) := by decide +kernel
theorem dX1_common_23 : decode cX1_common 23 = .ok (.iconst 0, 1) := by decide +kernel
theorem dX1_common_24 : decode cX1_common 24 = .ok (.istore_n 3, 1) := by decide +kernel
theorem dX1_common_25 : decode cX1_common 25 = .ok (.iconst 0, 1) := by decide +kernel
theorem dX1_common_26 : decode cX1_common 26 = .ok (.istore 4, 2) := by decide +kernel
theorem dX1_common_28 : decode cX1_common 28 = .ok (.iload 4, 2) := by decide +kernel
theorem dX1_common_30 : decode cX1_common 30 = .ok (.aload_n 0, 1) := by decide +kernel
theorem dX1_common_31 : decode cX1_common 31 = .ok (.getfield 42, 3) := by decide +kernel
theorem dX1_common_34 : decode cX1_common 34 = .ok (.if_icmp .ge 95, 3) := by decide +kernel
theorem dX1_common_37 : decode cX1_common 37 = .ok (.aload_n 0, 1) := by decide +kernel
theorem dX1_common_38 : decode cX1_common 38 = .ok (.iload 4, 2) := by decide +kernel
theorem dX1_common_40 : decode cX1_common 40 = .ok (.iload_n 1, 1) := by decide +kernel
theorem dX1_common_41 : decode cX1_common 41 = .ok (.invokevirtual 78, 3) := by decide +kernel
theorem dX1_common_44 : decode cX1_common 44 = .ok (.ifCond .eq 79, 3) := by decide +kernel
theorem dX1_common_47 : decode cX1_common 47 = .ok (.aload_n 0, 1) := by decide +kernel
theorem dX1_common_48 : decode cX1_common 48 = .ok (.getfield 28, 3) := by decide +kernel
theorem dX1_common_51 : decode cX1_common 51 = .ok (.iload 4, 2) := by decide +kernel
theorem dX1_common_53 : decode cX1_common 53 = .ok (.baload, 1) := by decide +kernel
theorem dX1_common_54 : decode cX1_common 54 = .ok (.ifCond .eq 6, 3) := by decide +kernel
theorem dX1_common_57 : decode cX1_common 57 = .ok (.goto 66, 3) := by decide +kernel
theorem dX1_common_60 : decode cX1_common 60 = .ok (.iload_n 2, 1) := by decide +kernel
theorem dX1_common_61 : decode cX1_common 61 = .ok (.ifCond .ge 14, 3) := by decide +kernel
theorem dX1_common_64 : decode cX1_common 64 = .ok (.iload 4, 2) := by decide +kernel
theorem dX1_common_66 : decode cX1_common 66 = .ok (.istore_n 2, 1) := by decide +kernel
theorem dX1_common_67 : decode cX1_common 67 = .ok (.aload_n 0, 1) := by decide +kernel
theorem dX1_common_68 : decode cX1_common 68 = .ok (.getfield 19, 3) := by decide +kernel
theorem dX1_common_71 : decode cX1_common 71 = .ok (.iload 4, 2) := by decide +kernel
theorem dX1_common_73 : decode cX1_common 73 = .ok (.iaload, 1) := by decide +kernel
theorem dX1_common_74 : decode cX1_common 74 = .ok (.istore_n 3, 1) := by decide +kernel
theorem dX1_common_75 : decode cX1_common 75 = .ok (.iconst 0, 1) := by decide +kernel
theorem dX1_common_76 : decode cX1_common 76 = .ok (.istore 5, 2) := by decide +kernel
theorem dX1_common_78 : decode cX1_common 78 = .ok (.iload 5, 2) := by decide +kernel
theorem dX1_common_80 : decode cX1_common 80 = .ok (.iload_n 3, 1) := by decide +kernel
theorem dX1_common_81 : decode cX1_common 81 = .ok (.if_icmp .ge 39, 3) := by decide +kernel
theorem dX1_common_84 : decode cX1_common 84 = .ok (.iload 5, 2) := by decide +kernel
theorem dX1_common_86 : decode cX1_common 86 = .ok (.aload_n 0, 1) := by decide +kernel
theorem dX1_common_87 : decode cX1_common 87 = .ok (.getfield 19, 3) := by decide +kernel
theorem dX1_common_90 : decode cX1_common 90 = .ok (.iload 4, 2) := by decide +kernel
theorem dX1_common_92 : decode cX1_common 92 = .ok (.iaload, 1) := by decide +kernel
theorem dX1_common_93 : decode cX1_common 93 = .ok (.if_icmp .ge 27, 3) := by decide +kernel
theorem dX1_common_96 : decode cX1_common 96 = .ok (.aload_n 0, 1) := by decide +kernel
theorem dX1_common_97 : decode cX1_common 97 = .ok (.iload 4, 2) := by decide +kernel
theorem dX1_common_99 : decode cX1_common 99 = .ok (.iload 5, 2) := by decide +kernel
theorem dX1_common_101 : decode cX1_common 101 = .ok (.invokevirtual 60, 3) := by decide +kernel
theorem dX1_common_104 : decode cX1_common 104 = .ok (.aload_n 0, 1) := by decide +kernel
theorem dX1_common_105 : decode cX1_common 105 = .ok (.iload_n 2, 1) := by decide +kernel
theorem dX1_common_106 : decode cX1_common 106 = .ok (.iload 5, 2) := by decide +kernel
theorem dX1_common_108 : decode cX1_common 108 = .ok (.invokevirtual 60, 3) := by decide +kernel
theorem dX1_common_111 : decode cX1_common 111 = .ok (.if_icmp .ne 9, 3) := by decide +kernel
theorem dX1_common_114 : decode cX1_common 114 = .ok (.iinc 5 1, 3) := by decide +kernel
theorem dX1_common_117 : decode cX1_common 117 = .ok (.goto (-39), 3) := by decide +kernel
theorem dX1_common_120 : decode cX1_common 120 = .ok (.iload 5, 2) := by decide +kernel
theorem dX1_common_122 : decode cX1_common 122 = .ok (.istore_n 3, 1) := by decide +kernel
theorem dX1_common_123 : decode cX1_common 123 = .ok (.iinc 4 1, 3) := by decide +kernel
theorem dX1_common_126 : decode cX1_common 126 = .ok (.goto (-98), 3) := by decide +kernel
theorem dX1_common_129 : decode cX1_common 129 = .ok (.iload_n 3, 1) := by decide +kernel
theorem dX1_common_130 : decode cX1_common 130 = .ok (.ireturn, 1) := by decide +kernel
