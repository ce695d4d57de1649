theorem dM_init_0 : decode bM_init 0 = .ok (.aload_n 0, 1) := by decide +kernel
theorem dM_init_1 : decode bM_init 1 = .ok (.invokespecial 1, 3) := by decide +kernel
theorem dM_init_4 : decode bM_init 4 = .ok (.aload_n 0, 1) := by decide +kernel
theorem dM_init_5 : decode bM_init 5 = .ok (.sipush 400, 3) := by decide +kernel
theorem dM_init_8 : decode bM_init 8 = .ok (.newarray .int, 2) := by decide +kernel
theorem dM_init_10 : decode bM_init 10 = .ok (.putfield 7, 3) := by decide +kernel
theorem dM_init_13 : decode bM_init 13 = .ok (.aload_n 0, 1) := by decide +kernel
theorem dM_init_14 : decode bM_init 14 = .ok (.iconst (-1), 1) := by decide +kernel
theorem dM_init_15 : decode bM_init 15 = .ok (.putfield 13, 3) := by decide +kernel
theorem dM_init_18 : decode bM_init 18 = .ok (.aload_n 0, 1) := by decide +kernel
theorem dM_init_19 : decode bM_init 19 = .ok (.iconst 4, 1) := by decide +kernel
theorem dM_init_20 : decode bM_init 20 = .ok (.newarray .int, 2) := by decide +kernel
theorem dM_init_22 : decode bM_init 22 = .ok (.putfield 17, 3) := by decide +kernel
theorem dM_init_25 : decode bM_init 25 = .ok (.aload_n 0, 1) := by decide +kernel
theorem dM_init_26 : decode bM_init 26 = .ok (.sipush 160, 3) := by decide +kernel
theorem dM_init_29 : decode bM_init 29 = .ok (.newarray .long, 2) := by decide +kernel
theorem dM_init_31 : decode bM_init 31 = .ok (.putfield 20, 3) := by decide +kernel
theorem dM_init_34 : decode bM_init 34 = .ok (.aload_n 0, 1) := by decide +kernel
theorem dM_init_35 : decode bM_init 35 = .ok (.sipush 160, 3) := by decide +kernel
theorem dM_init_38 : decode bM_init 38 = .ok (.newarray .int, 2) := by decide +kernel
theorem dM_init_40 : decode bM_init 40 = .ok (.putfield 24, 3) := by decide +kernel
theorem dM_init_43 : decode bM_init 43 = .ok (.aload_n 0, 1) := by decide +kernel
theorem dM_init_44 : decode bM_init 44 = .ok (.sipush 160, 3) := by decide +kernel
theorem dM_init_47 : decode bM_init 47 = .ok (.newarray .int, 2) := by decide +kernel
theorem dM_init_49 : decode bM_init 49 = .ok (.putfield 27, 3) := by decide +kernel
theorem dM_init_52 : decode bM_init 52 = .ok (.aload_n 0, 1) := by decide +kernel
theorem dM_init_53 : decode bM_init 53 = .ok (.sipush 640, 3) := by decide +kernel
theorem dM_init_56 : decode bM_init 56 = .ok (.newarray .long, 2) := by decide +kernel
theorem dM_init_58 : decode bM_init 58 = .ok (.putfield 30, 3) := by decide +kernel
theorem dM_init_61 : decode bM_init 61 = .ok (.aload_n 0, 1) := by decide +kernel
theorem dM_init_62 : decode bM_init 62 = .ok (.bipush 20, 2) := by decide +kernel
theorem dM_init_64 : decode bM_init 64 = .ok (.newarray .int, 2) := by decide +kernel
theorem dM_init_66 : decode bM_init 66 = .ok (.putfield 33, 3) := by decide +kernel
theorem dM_init_69 : decode bM_init 69 = .ok (.aload_n 0, 1) := by decide +kernel
theorem dM_init_70 : decode bM_init 70 = .ok (.bipush 20, 2) := by decide +kernel
theorem dM_init_72 : decode bM_init 72 = .ok (.newarray .long, 2) := by decide +kernel
theorem dM_init_74 : decode bM_init 74 = .ok (.putfield 36, 3) := by decide +kernel
theorem dM_init_77 : decode bM_init 77 = .ok (.aload_n 0, 1) := by decide +kernel
theorem dM_init_78 : decode bM_init 78 = .ok (.bipush 20, 2) := by decide +kernel
theorem dM_init_80 : decode bM_init 80 = .ok (.newarray .int, 2) := by decide +kernel
theorem dM_init_82 : decode bM_init 82 = .ok (.putfield 39, 3) := by decide +kernel
theorem dM_init_85 : decode bM_init 85 = .ok (.aload_n 0, 1) := by decide +kernel
theorem dM_init_86 : decode bM_init 86 = .ok (.bipush 20, 2) := by decide +kernel
theorem dM_init_88 : decode bM_init 88 = .ok (.newarray .long, 2) := by decide +kernel
theorem dM_init_90 : decode bM_init 90 = .ok (.putfield 42, 3) := by decide +kernel
theorem dM_init_93 : decode bM_init 93 = .ok (.aload_n 0, 1) := by decide +kernel
theorem dM_init_94 : decode bM_init 94 = .ok (.bipush 60, 2) := by decide +kernel
theorem dM_init_96 : decode bM_init 96 = .ok (.newarray .int, 2) := by decide +kernel
theorem dM_init_98 : decode bM_init 98 = .ok (.putfield 45, 3) := by decide +kernel
theorem dM_init_101 : decode bM_init 101 = .ok (.aload_n 0, 1) := by decide +kernel
theorem dM_init_102 : decode bM_init 102 = .ok (.bipush 60, 2) := by decide +kernel
theorem dM_init_104 : decode bM_init 104 = .ok (.newarray .long, 2) := by decide +kernel
theorem dM_init_106 : decode bM_init 106 = .ok (.putfield 48, 3) := by decide +kernel
theorem dM_init_109 : decode bM_init 109 = .ok (.aload_n 0, 1) := by decide +kernel
theorem dM_init_110 : decode bM_init 110 = .ok (.bipush 60, 2) := by decide +kernel
theorem dM_init_112 : decode bM_init 112 = .ok (.newarray .int, 2) := by decide +kernel
theorem dM_init_114 : decode bM_init 114 = .ok (.putfield 51, 3) := by decide +kernel
theorem dM_init_117 : decode bM_init 117 = .ok (.aload_n 0, 1) := by decide +kernel
theorem dM_init_118 : decode bM_init 118 = .ok (.bipush 60, 2) := by decide +kernel
theorem dM_init_120 : decode bM_init 120 = .ok (.newarray .long, 2) := by decide +kernel
theorem dM_init_122 : decode bM_init 122 = .ok (.putfield 54, 3) := by decide +kernel
theorem dM_init_125 : decode bM_init 125 = .ok (.aload_n 0, 1) := by decide +kernel
theorem dM_init_126 : decode bM_init 126 = .ok (.bipush 40, 2) := by decide +kernel
theorem dM_init_128 : decode bM_init 128 = .ok (.newarray .long, 2) := by decide +kernel
theorem dM_init_130 : decode bM_init 130 = .ok (.putfield 57, 3) := by decide +kernel
theorem dM_init_133 : decode bM_init 133 = .ok (.aload_n 0, 1) := by decide +kernel
theorem dM_init_134 : decode bM_init 134 = .ok (.bipush 40, 2) := by decide +kernel
theorem dM_init_136 : decode bM_init 136 = .ok (.newarray .int, 2) := by decide +kernel
theorem dM_init_138 : decode bM_init 138 = .ok (.putfield 60, 3) := by decide +kernel
theorem dM_init_141 : decode bM_init 141 = .ok (.aload_n 0, 1) := by decide +kernel
theorem dM_init_142 : decode bM_init 142 = .ok (.bipush 6, 2) := by decide +kernel
theorem dM_init_144 : decode bM_init 144 = .ok (.newarray .long, 2) := by decide +kernel
theorem dM_init_146 : decode bM_init 146 = .ok (.putfield 63, 3) := by decide +kernel
theorem dM_init_149 : decode bM_init 149 = .ok (.aload_n 0, 1) := by decide +kernel
theorem dM_init_150 : decode bM_init 150 = .ok (.bipush 40, 2) := by decide +kernel
theorem dM_init_152 : decode bM_init 152 = .ok (.newarray .int, 2) := by decide +kernel
theorem dM_init_154 : decode bM_init 154 = .ok (.putfield 66, 3) := by decide +kernel
theorem dM_init_157 : decode bM_init 157 = .ok (.return_, 1) := by decide +kernel
theorem dM_thrown_0 : decode bM_thrown 0 = .ok (.aload_n 0, 1) := by decide +kernel
theorem dM_thrown_1 : decode bM_thrown 1 = .ok (.getfield 69, 3) := by decide +kernel
theorem dM_thrown_4 : decode bM_thrown 4 = .ok (.ireturn, 1) := by decide +kernel
theorem dM_refuse_0 : decode bM_refuse 0 = .ok (.aload_n 0, 1) := by decide +kernel
theorem dM_refuse_1 : decode bM_refuse 1 = .ok (.iload_n 1, 1) := by decide +kernel
theorem dM_refuse_2 : decode bM_refuse 2 = .ok (.putfield 69, 3) := by decide +kernel
theorem dM_refuse_5 : decode bM_refuse 5 = .ok (.iconst 0, 1) := by decide +kernel
theorem dM_refuse_6 : decode bM_refuse 6 = .ok (.ireturn, 1) := by decide +kernel
theorem dM_in_0 : decode bM_in 0 = .ok (.iload_n 0, 1) := by decide +kernel
theorem dM_in_1 : decode bM_in 1 = .ok (.iload_n 1, 1) := by decide +kernel
theorem dM_in_2 : decode bM_in 2 = .ok (.if_icmp .lt 12, 3) := by decide +kernel
theorem dM_in_5 : decode bM_in 5 = .ok (.iload_n 0, 1) := by decide +kernel
theorem dM_in_6 : decode bM_in 6 = .ok (.iload_n 2, 1) := by decide +kernel
theorem dM_in_7 : decode bM_in 7 = .ok (.if_icmp .gt 7, 3) := by decide +kernel
theorem dM_in_10 : decode bM_in 10 = .ok (.iconst 1, 1) := by decide +kernel
theorem dM_in_11 : decode bM_in 11 = .ok (.goto 4, 3) := by decide +kernel
theorem dM_in_14 : decode bM_in 14 = .ok (.iconst 0, 1) := by decide +kernel
theorem dM_in_15 : decode bM_in 15 = .ok (.ireturn, 1) := by decide +kernel
theorem dM_isEdition_0 : decode bM_isEdition 0 = .ok (.iload_n 0, 1) := by decide +kernel
theorem dM_isEdition_1 : decode bM_isEdition 1 = .ok (.ifCond .lt 12, 3) := by decide +kernel
theorem dM_isEdition_4 : decode bM_isEdition 4 = .ok (.iload_n 0, 1) := by decide +kernel
theorem dM_isEdition_5 : decode bM_isEdition 5 = .ok (.iconst 3, 1) := by decide +kernel
theorem dM_isEdition_6 : decode bM_isEdition 6 = .ok (.if_icmp .ge 7, 3) := by decide +kernel
theorem dM_isEdition_9 : decode bM_isEdition 9 = .ok (.iconst 1, 1) := by decide +kernel
theorem dM_isEdition_10 : decode bM_isEdition 10 = .ok (.goto 4, 3) := by decide +kernel
theorem dM_isEdition_13 : decode bM_isEdition 13 = .ok (.iconst 0, 1) := by decide +kernel
theorem dM_isEdition_14 : decode bM_isEdition 14 = .ok (.ireturn, 1) := by decide +kernel
theorem dM_isLetter_0 : decode bM_isLetter 0 = .ok (.iload_n 0, 1) := by decide +kernel
theorem dM_isLetter_1 : decode bM_isLetter 1 = .ok (.bipush 97, 2) := by decide +kernel
theorem dM_isLetter_3 : decode bM_isLetter 3 = .ok (.bipush 122, 2) := by decide +kernel
theorem dM_isLetter_5 : decode bM_isLetter 5 = .ok (.invokestatic 72, 3) := by decide +kernel
theorem dM_isLetter_8 : decode bM_isLetter 8 = .ok (.ireturn, 1) := by decide +kernel
theorem dM_isDigit_0 : decode bM_isDigit 0 = .ok (.iload_n 0, 1) := by decide +kernel
theorem dM_isDigit_1 : decode bM_isDigit 1 = .ok (.bipush 48, 2) := by decide +kernel
theorem dM_isDigit_3 : decode bM_isDigit 3 = .ok (.bipush 57, 2) := by decide +kernel
theorem dM_isDigit_5 : decode bM_isDigit 5 = .ok (.invokestatic 72, 3) := by decide +kernel
theorem dM_isDigit_8 : decode bM_isDigit 8 = .ok (.ireturn, 1) := by decide +kernel
theorem dM_sign_0 : decode bM_sign 0 = .ok (.aload_n 0, 1) := by decide +kernel
theorem dM_sign_1 : decode bM_sign 1 = .ok (.iconst 0, 1) := by decide +kernel
theorem dM_sign_2 : decode bM_sign 2 = .ok (.putfield 69, 3) := by decide +kernel
theorem dM_sign_5 : decode bM_sign 5 = .ok (.iload_n 1, 1) := by decide +kernel
theorem dM_sign_6 : decode bM_sign 6 = .ok (.bipush 65, 2) := by decide +kernel
theorem dM_sign_8 : decode bM_sign 8 = .ok (.bipush 90, 2) := by decide +kernel
theorem dM_sign_10 : decode bM_sign 10 = .ok (.invokestatic 72, 3) := by decide +kernel
theorem dM_sign_13 : decode bM_sign 13 = .ok (.ifCond .eq 10, 3) := by decide +kernel
theorem dM_sign_16 : decode bM_sign 16 = .ok (.iload_n 1, 1) := by decide +kernel
theorem dM_sign_17 : decode bM_sign 17 = .ok (.bipush 32, 2) := by decide +kernel
theorem dM_sign_19 : decode bM_sign 19 = .ok (.iadd, 1) := by decide +kernel
theorem dM_sign_20 : decode bM_sign 20 = .ok (.goto 4, 3) := by decide +kernel
theorem dM_sign_23 : decode bM_sign 23 = .ok (.iload_n 1, 1) := by decide +kernel
theorem dM_sign_24 : decode bM_sign 24 = .ok (.istore_n 2, 1) := by decide +kernel
theorem dM_sign_25 : decode bM_sign 25 = .ok (.iload_n 2, 1) := by decide +kernel
theorem dM_sign_26 : decode bM_sign 26 = .ok (.invokestatic 76, 3) := by decide +kernel
theorem dM_sign_29 : decode bM_sign 29 = .ok (.ifCond .ne 28, 3) := by decide +kernel
theorem dM_sign_32 : decode bM_sign 32 = .ok (.iload_n 2, 1) := by decide +kernel
theorem dM_sign_33 : decode bM_sign 33 = .ok (.invokestatic 80, 3) := by decide +kernel
theorem dM_sign_36 : decode bM_sign 36 = .ok (.ifCond .ne 21, 3) := by decide +kernel
theorem dM_sign_39 : decode bM_sign 39 = .ok (.iload_n 2, 1) := by decide +kernel
theorem dM_sign_40 : decode bM_sign 40 = .ok (.bipush 45, 2) := by decide +kernel
theorem dM_sign_42 : decode bM_sign 42 = .ok (.if_icmp .eq 15, 3) := by decide +kernel
theorem dM_sign_45 : decode bM_sign 45 = .ok (.iload_n 2, 1) := by decide +kernel
theorem dM_sign_46 : decode bM_sign 46 = .ok (.bipush 46, 2) := by decide +kernel
theorem dM_sign_48 : decode bM_sign 48 = .ok (.if_icmp .eq 9, 3) := by decide +kernel
theorem dM_sign_51 : decode bM_sign 51 = .ok (.iload_n 2, 1) := by decide +kernel
theorem dM_sign_52 : decode bM_sign 52 = .ok (.bipush 59, 2) := by decide +kernel
theorem dM_sign_54 : decode bM_sign 54 = .ok (.if_icmp .ne 13, 3) := by decide +kernel
theorem dM_sign_57 : decode bM_sign 57 = .ok (.aload_n 0, 1) := by decide +kernel
theorem dM_sign_58 : decode bM_sign 58 = .ok (.getfield 83, 3) := by decide +kernel
theorem dM_sign_61 : decode bM_sign 61 = .ok (.sipush 400, 3) := by decide +kernel
theorem dM_sign_64 : decode bM_sign 64 = .ok (.if_icmp .ne 5, 3) := by decide +kernel
theorem dM_sign_67 : decode bM_sign 67 = .ok (.iconst 0, 1) := by decide +kernel
theorem dM_sign_68 : decode bM_sign 68 = .ok (.ireturn, 1) := by decide +kernel
theorem dM_sign_69 : decode bM_sign 69 = .ok (.aload_n 0, 1) := by decide +kernel
theorem dM_sign_70 : decode bM_sign 70 = .ok (.getfield 7, 3) := by decide +kernel
theorem dM_sign_73 : decode bM_sign 73 = .ok (.aload_n 0, 1) := by decide +kernel
theorem dM_sign_74 : decode bM_sign 74 = .ok (.getfield 83, 3) := by decide +kernel
theorem dM_sign_77 : decode bM_sign 77 = .ok (.iload_n 2, 1) := by decide +kernel
theorem dM_sign_78 : decode bM_sign 78 = .ok (.iastore, 1) := by decide +kernel
theorem dM_sign_79 : decode bM_sign 79 = .ok (.aload_n 0, 1) := by decide +kernel
theorem dM_sign_80 : decode bM_sign 80 = .ok (.dup, 1) := by decide +kernel
theorem dM_sign_81 : decode bM_sign 81 = .ok (.getfield 83, 3) := by decide +kernel
theorem dM_sign_84 : decode bM_sign 84 = .ok (.iconst 1, 1) := by decide +kernel
theorem dM_sign_85 : decode bM_sign 85 = .ok (.iadd, 1) := by decide +kernel
theorem dM_sign_86 : decode bM_sign 86 = .ok (.putfield 83, 3) := by decide +kernel
theorem dM_sign_89 : decode bM_sign 89 = .ok (.iconst 1, 1) := by decide +kernel
theorem dM_sign_90 : decode bM_sign 90 = .ok (.ireturn, 1) := by decide +kernel
theorem dM_fails_0 : decode bM_fails 0 = .ok (.aload_n 0, 1) := by decide +kernel
theorem dM_fails_1 : decode bM_fails 1 = .ok (.iload_n 1, 1) := by decide +kernel
theorem dM_fails_2 : decode bM_fails 2 = .ok (.putfield 86, 3) := by decide +kernel
theorem dM_fails_5 : decode bM_fails 5 = .ok (.aload_n 0, 1) := by decide +kernel
theorem dM_fails_6 : decode bM_fails 6 = .ok (.iload_n 2, 1) := by decide +kernel
theorem dM_fails_7 : decode bM_fails 7 = .ok (.putfield 13, 3) := by decide +kernel
theorem dM_fails_10 : decode bM_fails 10 = .ok (.iconst 0, 1) := by decide +kernel
theorem dM_fails_11 : decode bM_fails 11 = .ok (.ireturn, 1) := by decide +kernel
theorem dM_run_0 : decode bM_run 0 = .ok (.iconst 0, 1) := by decide +kernel
theorem dM_run_1 : decode bM_run 1 = .ok (.istore_n 3, 1) := by decide +kernel
theorem dM_run_2 : decode bM_run 2 = .ok (.iload_n 1, 1) := by decide +kernel
theorem dM_run_3 : decode bM_run 3 = .ok (.iload_n 3, 1) := by decide +kernel
theorem dM_run_4 : decode bM_run 4 = .ok (.iadd, 1) := by decide +kernel
theorem dM_run_5 : decode bM_run 5 = .ok (.aload_n 0, 1) := by decide +kernel
theorem dM_run_6 : decode bM_run 6 = .ok (.getfield 83, 3) := by decide +kernel
theorem dM_run_9 : decode bM_run 9 = .ok (.if_icmp .ge 65, 3) := by decide +kernel
theorem dM_run_12 : decode bM_run 12 = .ok (.iload_n 2, 1) := by decide +kernel
theorem dM_run_13 : decode bM_run 13 = .ok (.ifCond .ne 19, 3) := by decide +kernel
theorem dM_run_16 : decode bM_run 16 = .ok (.aload_n 0, 1) := by decide +kernel
theorem dM_run_17 : decode bM_run 17 = .ok (.getfield 7, 3) := by decide +kernel
theorem dM_run_20 : decode bM_run 20 = .ok (.iload_n 1, 1) := by decide +kernel
theorem dM_run_21 : decode bM_run 21 = .ok (.iload_n 3, 1) := by decide +kernel
theorem dM_run_22 : decode bM_run 22 = .ok (.iadd, 1) := by decide +kernel
theorem dM_run_23 : decode bM_run 23 = .ok (.iaload, 1) := by decide +kernel
theorem dM_run_24 : decode bM_run 24 = .ok (.bipush 45, 2) := by decide +kernel
theorem dM_run_26 : decode bM_run 26 = .ok (.if_icmp .ne 48, 3) := by decide +kernel
theorem dM_run_29 : decode bM_run 29 = .ok (.goto 39, 3) := by decide +kernel
theorem dM_run_32 : decode bM_run 32 = .ok (.iload_n 2, 1) := by decide +kernel
theorem dM_run_33 : decode bM_run 33 = .ok (.iconst 1, 1) := by decide +kernel
theorem dM_run_34 : decode bM_run 34 = .ok (.if_icmp .ne 20, 3) := by decide +kernel
theorem dM_run_37 : decode bM_run 37 = .ok (.aload_n 0, 1) := by decide +kernel
theorem dM_run_38 : decode bM_run 38 = .ok (.getfield 7, 3) := by decide +kernel
theorem dM_run_41 : decode bM_run 41 = .ok (.iload_n 1, 1) := by decide +kernel
theorem dM_run_42 : decode bM_run 42 = .ok (.iload_n 3, 1) := by decide +kernel
theorem dM_run_43 : decode bM_run 43 = .ok (.iadd, 1) := by decide +kernel
theorem dM_run_44 : decode bM_run 44 = .ok (.iaload, 1) := by decide +kernel
theorem dM_run_45 : decode bM_run 45 = .ok (.invokestatic 80, 3) := by decide +kernel
theorem dM_run_48 : decode bM_run 48 = .ok (.ifCond .eq 26, 3) := by decide +kernel
theorem dM_run_51 : decode bM_run 51 = .ok (.goto 17, 3) := by decide +kernel
theorem dM_run_54 : decode bM_run 54 = .ok (.aload_n 0, 1) := by decide +kernel
theorem dM_run_55 : decode bM_run 55 = .ok (.getfield 7, 3) := by decide +kernel
theorem dM_run_58 : decode bM_run 58 = .ok (.iload_n 1, 1) := by decide +kernel
theorem dM_run_59 : decode bM_run 59 = .ok (.iload_n 3, 1) := by decide +kernel
theorem dM_run_60 : decode bM_run 60 = .ok (.iadd, 1) := by decide +kernel
theorem dM_run_61 : decode bM_run 61 = .ok (.iaload, 1) := by decide +kernel
theorem dM_run_62 : decode bM_run 62 = .ok (.invokestatic 76, 3) := by decide +kernel
theorem dM_run_65 : decode bM_run 65 = .ok (.ifCond .eq 9, 3) := by decide +kernel
theorem dM_run_68 : decode bM_run 68 = .ok (.iinc 3 1, 3) := by decide +kernel
theorem dM_run_71 : decode bM_run 71 = .ok (.goto (-69), 3) := by decide +kernel
theorem dM_run_74 : decode bM_run 74 = .ok (.iload_n 3, 1) := by decide +kernel
theorem dM_run_75 : decode bM_run 75 = .ok (.ireturn, 1) := by decide +kernel
theorem dM_wordAt_0 : decode bM_wordAt 0 = .ok (.lconst 0, 1) := by decide +kernel
theorem dM_wordAt_1 : decode bM_wordAt 1 = .ok (.lstore_n 3, 1) := by decide +kernel
theorem dM_wordAt_2 : decode bM_wordAt 2 = .ok (.iconst 0, 1) := by decide +kernel
theorem dM_wordAt_3 : decode bM_wordAt 3 = .ok (.istore 5, 2) := by decide +kernel
theorem dM_wordAt_5 : decode bM_wordAt 5 = .ok (.iload 5, 2) := by decide +kernel
theorem dM_wordAt_7 : decode bM_wordAt 7 = .ok (.iload_n 2, 1) := by decide +kernel
theorem dM_wordAt_8 : decode bM_wordAt 8 = .ok (.if_icmp .ge 30, 3) := by decide +kernel
theorem dM_wordAt_11 : decode bM_wordAt 11 = .ok (.ldc2_w 89, 3) := by decide +kernel
theorem dM_wordAt_14 : decode bM_wordAt 14 = .ok (.lload_n 3, 1) := by decide +kernel
theorem dM_wordAt_15 : decode bM_wordAt 15 = .ok (.lmul, 1) := by decide +kernel
theorem dM_wordAt_16 : decode bM_wordAt 16 = .ok (.aload_n 0, 1) := by decide +kernel
theorem dM_wordAt_17 : decode bM_wordAt 17 = .ok (.getfield 7, 3) := by decide +kernel
theorem dM_wordAt_20 : decode bM_wordAt 20 = .ok (.iload_n 1, 1) := by decide +kernel
theorem dM_wordAt_21 : decode bM_wordAt 21 = .ok (.iload 5, 2) := by decide +kernel
theorem dM_wordAt_23 : decode bM_wordAt 23 = .ok (.iadd, 1) := by decide +kernel
theorem dM_wordAt_24 : decode bM_wordAt 24 = .ok (.iaload, 1) := by decide +kernel
theorem dM_wordAt_25 : decode bM_wordAt 25 = .ok (.i2l, 1) := by decide +kernel
theorem dM_wordAt_26 : decode bM_wordAt 26 = .ok (.ladd, 1) := by decide +kernel
theorem dM_wordAt_27 : decode bM_wordAt 27 = .ok (.ldc2_w 91, 3) := by decide +kernel
theorem dM_wordAt_30 : decode bM_wordAt 30 = .ok (.lsub, 1) := by decide +kernel
theorem dM_wordAt_31 : decode bM_wordAt 31 = .ok (.lstore_n 3, 1) := by decide +kernel
theorem dM_wordAt_32 : decode bM_wordAt 32 = .ok (.iinc 5 1, 3) := by decide +kernel
theorem dM_wordAt_35 : decode bM_wordAt 35 = .ok (.goto (-30), 3) := by decide +kernel
theorem dM_wordAt_38 : decode bM_wordAt 38 = .ok (.lload_n 3, 1) := by decide +kernel
theorem dM_wordAt_39 : decode bM_wordAt 39 = .ok (.lreturn, 1) := by decide +kernel
theorem dM_codeAt_0 : decode bM_codeAt 0 = .ok (.lconst 1, 1) := by decide +kernel
theorem dM_codeAt_1 : decode bM_codeAt 1 = .ok (.lstore_n 3, 1) := by decide +kernel
theorem dM_codeAt_2 : decode bM_codeAt 2 = .ok (.iconst 0, 1) := by decide +kernel
theorem dM_codeAt_3 : decode bM_codeAt 3 = .ok (.istore 5, 2) := by decide +kernel
theorem dM_codeAt_5 : decode bM_codeAt 5 = .ok (.iload 5, 2) := by decide +kernel
theorem dM_codeAt_7 : decode bM_codeAt 7 = .ok (.iload_n 2, 1) := by decide +kernel
theorem dM_codeAt_8 : decode bM_codeAt 8 = .ok (.if_icmp .ge 30, 3) := by decide +kernel
theorem dM_codeAt_11 : decode bM_codeAt 11 = .ok (.ldc2_w 93, 3) := by decide +kernel
theorem dM_codeAt_14 : decode bM_codeAt 14 = .ok (.lload_n 3, 1) := by decide +kernel
theorem dM_codeAt_15 : decode bM_codeAt 15 = .ok (.lmul, 1) := by decide +kernel
theorem dM_codeAt_16 : decode bM_codeAt 16 = .ok (.aload_n 0, 1) := by decide +kernel
theorem dM_codeAt_17 : decode bM_codeAt 17 = .ok (.getfield 7, 3) := by decide +kernel
theorem dM_codeAt_20 : decode bM_codeAt 20 = .ok (.iload_n 1, 1) := by decide +kernel
theorem dM_codeAt_21 : decode bM_codeAt 21 = .ok (.iload 5, 2) := by decide +kernel
theorem dM_codeAt_23 : decode bM_codeAt 23 = .ok (.iadd, 1) := by decide +kernel
theorem dM_codeAt_24 : decode bM_codeAt 24 = .ok (.iaload, 1) := by decide +kernel
theorem dM_codeAt_25 : decode bM_codeAt 25 = .ok (.i2l, 1) := by decide +kernel
theorem dM_codeAt_26 : decode bM_codeAt 26 = .ok (.ladd, 1) := by decide +kernel
theorem dM_codeAt_27 : decode bM_codeAt 27 = .ok (.ldc2_w 95, 3) := by decide +kernel
theorem dM_codeAt_30 : decode bM_codeAt 30 = .ok (.lsub, 1) := by decide +kernel
theorem dM_codeAt_31 : decode bM_codeAt 31 = .ok (.lstore_n 3, 1) := by decide +kernel
theorem dM_codeAt_32 : decode bM_codeAt 32 = .ok (.iinc 5 1, 3) := by decide +kernel
theorem dM_codeAt_35 : decode bM_codeAt 35 = .ok (.goto (-30), 3) := by decide +kernel
theorem dM_codeAt_38 : decode bM_codeAt 38 = .ok (.lload_n 3, 1) := by decide +kernel
theorem dM_codeAt_39 : decode bM_codeAt 39 = .ok (.lreturn, 1) := by decide +kernel
theorem dM_digitsOf_0 : decode bM_digitsOf 0 = .ok (.iconst 0, 1) := by decide +kernel
theorem dM_digitsOf_1 : decode bM_digitsOf 1 = .ok (.istore_n 2, 1) := by decide +kernel
theorem dM_digitsOf_2 : decode bM_digitsOf 2 = .ok (.lload_n 0, 1) := by decide +kernel
theorem dM_digitsOf_3 : decode bM_digitsOf 3 = .ok (.lstore_n 3, 1) := by decide +kernel
theorem dM_digitsOf_4 : decode bM_digitsOf 4 = .ok (.lload_n 3, 1) := by decide +kernel
theorem dM_digitsOf_5 : decode bM_digitsOf 5 = .ok (.ldc2_w 97, 3) := by decide +kernel
theorem dM_digitsOf_8 : decode bM_digitsOf 8 = .ok (.lcmp, 1) := by decide +kernel
theorem dM_digitsOf_9 : decode bM_digitsOf 9 = .ok (.ifCond .le 15, 3) := by decide +kernel
theorem dM_digitsOf_12 : decode bM_digitsOf 12 = .ok (.iinc 2 1, 3) := by decide +kernel
theorem dM_digitsOf_15 : decode bM_digitsOf 15 = .ok (.lload_n 3, 1) := by decide +kernel
theorem dM_digitsOf_16 : decode bM_digitsOf 16 = .ok (.ldc2_w 93, 3) := by decide +kernel
theorem dM_digitsOf_19 : decode bM_digitsOf 19 = .ok (.ldiv, 1) := by decide +kernel
theorem dM_digitsOf_20 : decode bM_digitsOf 20 = .ok (.lstore_n 3, 1) := by decide +kernel
theorem dM_digitsOf_21 : decode bM_digitsOf 21 = .ok (.goto (-17), 3) := by decide +kernel
theorem dM_digitsOf_24 : decode bM_digitsOf 24 = .ok (.iload_n 2, 1) := by decide +kernel
theorem dM_digitsOf_25 : decode bM_digitsOf 25 = .ok (.ireturn, 1) := by decide +kernel
theorem dM_cut_0 : decode bM_cut 0 = .ok (.lload_n 0, 1) := by decide +kernel
theorem dM_cut_1 : decode bM_cut 1 = .ok (.lstore_n 3, 1) := by decide +kernel
theorem dM_cut_2 : decode bM_cut 2 = .ok (.lload_n 0, 1) := by decide +kernel
theorem dM_cut_3 : decode bM_cut 3 = .ok (.invokestatic 99, 3) := by decide +kernel
theorem dM_cut_6 : decode bM_cut 6 = .ok (.istore 5, 2) := by decide +kernel
theorem dM_cut_8 : decode bM_cut 8 = .ok (.iload 5, 2) := by decide +kernel
theorem dM_cut_10 : decode bM_cut 10 = .ok (.iload_n 2, 1) := by decide +kernel
theorem dM_cut_11 : decode bM_cut 11 = .ok (.if_icmp .le 15, 3) := by decide +kernel
theorem dM_cut_14 : decode bM_cut 14 = .ok (.lload_n 3, 1) := by decide +kernel
theorem dM_cut_15 : decode bM_cut 15 = .ok (.ldc2_w 93, 3) := by decide +kernel
theorem dM_cut_18 : decode bM_cut 18 = .ok (.ldiv, 1) := by decide +kernel
theorem dM_cut_19 : decode bM_cut 19 = .ok (.lstore_n 3, 1) := by decide +kernel
theorem dM_cut_20 : decode bM_cut 20 = .ok (.iinc 5 (-1), 3) := by decide +kernel
theorem dM_cut_23 : decode bM_cut 23 = .ok (.goto (-15), 3) := by decide +kernel
theorem dM_cut_26 : decode bM_cut 26 = .ok (.lload_n 3, 1) := by decide +kernel
theorem dM_cut_27 : decode bM_cut 27 = .ok (.lreturn, 1) := by decide +kernel
theorem dM_begins_0 : decode bM_begins 0 = .ok (.lload_n 0, 1) := by decide +kernel
theorem dM_begins_1 : decode bM_begins 1 = .ok (.invokestatic 99, 3) := by decide +kernel
theorem dM_begins_4 : decode bM_begins 4 = .ok (.lload_n 2, 1) := by decide +kernel
theorem dM_begins_5 : decode bM_begins 5 = .ok (.invokestatic 99, 3) := by decide +kernel
theorem dM_begins_8 : decode bM_begins 8 = .ok (.if_icmp .le 20, 3) := by decide +kernel
theorem dM_begins_11 : decode bM_begins 11 = .ok (.lload_n 0, 1) := by decide +kernel
theorem dM_begins_12 : decode bM_begins 12 = .ok (.lload_n 2, 1) := by decide +kernel
theorem dM_begins_13 : decode bM_begins 13 = .ok (.invokestatic 99, 3) := by decide +kernel
theorem dM_begins_16 : decode bM_begins 16 = .ok (.invokestatic 103, 3) := by decide +kernel
theorem dM_begins_19 : decode bM_begins 19 = .ok (.lload_n 2, 1) := by decide +kernel
theorem dM_begins_20 : decode bM_begins 20 = .ok (.lcmp, 1) := by decide +kernel
theorem dM_begins_21 : decode bM_begins 21 = .ok (.ifCond .ne 7, 3) := by decide +kernel
theorem dM_begins_24 : decode bM_begins 24 = .ok (.iconst 1, 1) := by decide +kernel
theorem dM_begins_25 : decode bM_begins 25 = .ok (.goto 4, 3) := by decide +kernel
theorem dM_begins_28 : decode bM_begins 28 = .ok (.iconst 0, 1) := by decide +kernel
theorem dM_begins_29 : decode bM_begins 29 = .ok (.ireturn, 1) := by decide +kernel
theorem dM_isBehind_0 : decode bM_isBehind 0 = .ok (.lload_n 0, 1) := by decide +kernel
theorem dM_isBehind_1 : decode bM_isBehind 1 = .ok (.invokestatic 99, 3) := by decide +kernel
theorem dM_isBehind_4 : decode bM_isBehind 4 = .ok (.lload_n 2, 1) := by decide +kernel
theorem dM_isBehind_5 : decode bM_isBehind 5 = .ok (.invokestatic 99, 3) := by decide +kernel
theorem dM_isBehind_8 : decode bM_isBehind 8 = .ok (.if_icmp .ge 10, 3) := by decide +kernel
theorem dM_isBehind_11 : decode bM_isBehind 11 = .ok (.lload_n 0, 1) := by decide +kernel
theorem dM_isBehind_12 : decode bM_isBehind 12 = .ok (.invokestatic 99, 3) := by decide +kernel
theorem dM_isBehind_15 : decode bM_isBehind 15 = .ok (.goto 7, 3) := by decide +kernel
theorem dM_isBehind_18 : decode bM_isBehind 18 = .ok (.lload_n 2, 1) := by decide +kernel
theorem dM_isBehind_19 : decode bM_isBehind 19 = .ok (.invokestatic 99, 3) := by decide +kernel
theorem dM_isBehind_22 : decode bM_isBehind 22 = .ok (.istore 4, 2) := by decide +kernel
theorem dM_isBehind_24 : decode bM_isBehind 24 = .ok (.lload_n 0, 1) := by decide +kernel
theorem dM_isBehind_25 : decode bM_isBehind 25 = .ok (.iload 4, 2) := by decide +kernel
theorem dM_isBehind_27 : decode bM_isBehind 27 = .ok (.invokestatic 103, 3) := by decide +kernel
theorem dM_isBehind_30 : decode bM_isBehind 30 = .ok (.lload_n 2, 1) := by decide +kernel
theorem dM_isBehind_31 : decode bM_isBehind 31 = .ok (.iload 4, 2) := by decide +kernel
theorem dM_isBehind_33 : decode bM_isBehind 33 = .ok (.invokestatic 103, 3) := by decide +kernel
theorem dM_isBehind_36 : decode bM_isBehind 36 = .ok (.lcmp, 1) := by decide +kernel
theorem dM_isBehind_37 : decode bM_isBehind 37 = .ok (.ifCond .gt 11, 3) := by decide +kernel
theorem dM_isBehind_40 : decode bM_isBehind 40 = .ok (.lload_n 0, 1) := by decide +kernel
theorem dM_isBehind_41 : decode bM_isBehind 41 = .ok (.lload_n 2, 1) := by decide +kernel
theorem dM_isBehind_42 : decode bM_isBehind 42 = .ok (.invokestatic 107, 3) := by decide +kernel
theorem dM_isBehind_45 : decode bM_isBehind 45 = .ok (.ifCond .eq 7, 3) := by decide +kernel
theorem dM_isBehind_48 : decode bM_isBehind 48 = .ok (.iconst 1, 1) := by decide +kernel
theorem dM_isBehind_49 : decode bM_isBehind 49 = .ok (.goto 4, 3) := by decide +kernel
theorem dM_isBehind_52 : decode bM_isBehind 52 = .ok (.iconst 0, 1) := by decide +kernel
theorem dM_isBehind_53 : decode bM_isBehind 53 = .ok (.ireturn, 1) := by decide +kernel
theorem dM_above_0 : decode bM_above 0 = .ok (.iload_n 2, 1) := by decide +kernel
theorem dM_above_1 : decode bM_above 1 = .ok (.iconst 1, 1) := by decide +kernel
theorem dM_above_2 : decode bM_above 2 = .ok (.isub, 1) := by decide +kernel
theorem dM_above_3 : decode bM_above 3 = .ok (.istore_n 3, 1) := by decide +kernel
theorem dM_above_4 : decode bM_above 4 = .ok (.iload_n 3, 1) := by decide +kernel
theorem dM_above_5 : decode bM_above 5 = .ok (.iload_n 1, 1) := by decide +kernel
theorem dM_above_6 : decode bM_above 6 = .ok (.if_icmp .lt 26, 3) := by decide +kernel
theorem dM_above_9 : decode bM_above 9 = .ok (.aload_n 0, 1) := by decide +kernel
theorem dM_above_10 : decode bM_above 10 = .ok (.getfield 24, 3) := by decide +kernel
theorem dM_above_13 : decode bM_above 13 = .ok (.iload_n 3, 1) := by decide +kernel
theorem dM_above_14 : decode bM_above 14 = .ok (.iaload, 1) := by decide +kernel
theorem dM_above_15 : decode bM_above 15 = .ok (.aload_n 0, 1) := by decide +kernel
theorem dM_above_16 : decode bM_above 16 = .ok (.getfield 24, 3) := by decide +kernel
theorem dM_above_19 : decode bM_above 19 = .ok (.iload_n 2, 1) := by decide +kernel
theorem dM_above_20 : decode bM_above 20 = .ok (.iaload, 1) := by decide +kernel
theorem dM_above_21 : decode bM_above 21 = .ok (.iconst 1, 1) := by decide +kernel
theorem dM_above_22 : decode bM_above 22 = .ok (.isub, 1) := by decide +kernel
theorem dM_above_23 : decode bM_above 23 = .ok (.if_icmp .eq 9, 3) := by decide +kernel
theorem dM_above_26 : decode bM_above 26 = .ok (.iinc 3 (-1), 3) := by decide +kernel
theorem dM_above_29 : decode bM_above 29 = .ok (.goto (-25), 3) := by decide +kernel
theorem dM_above_32 : decode bM_above 32 = .ok (.aload_n 0, 1) := by decide +kernel
theorem dM_above_33 : decode bM_above 33 = .ok (.getfield 24, 3) := by decide +kernel
theorem dM_above_36 : decode bM_above 36 = .ok (.iload_n 2, 1) := by decide +kernel
theorem dM_above_37 : decode bM_above 37 = .ok (.iaload, 1) := by decide +kernel
theorem dM_above_38 : decode bM_above 38 = .ok (.ifCond .eq 8, 3) := by decide +kernel
theorem dM_above_41 : decode bM_above 41 = .ok (.iload_n 3, 1) := by decide +kernel
theorem dM_above_42 : decode bM_above 42 = .ok (.iload_n 1, 1) := by decide +kernel
theorem dM_above_43 : decode bM_above 43 = .ok (.if_icmp .ge 7, 3) := by decide +kernel
theorem dM_above_46 : decode bM_above 46 = .ok (.iconst (-1), 1) := by decide +kernel
theorem dM_above_47 : decode bM_above 47 = .ok (.goto 4, 3) := by decide +kernel
theorem dM_above_50 : decode bM_above 50 = .ok (.iload_n 3, 1) := by decide +kernel
theorem dM_above_51 : decode bM_above 51 = .ok (.ireturn, 1) := by decide +kernel
theorem dM_readsCode_0 : decode bM_readsCode 0 = .ok (.aload_n 0, 1) := by decide +kernel
theorem dM_readsCode_1 : decode bM_readsCode 1 = .ok (.getfield 17, 3) := by decide +kernel
theorem dM_readsCode_4 : decode bM_readsCode 4 = .ok (.iconst 3, 1) := by decide +kernel
theorem dM_readsCode_5 : decode bM_readsCode 5 = .ok (.iaload, 1) := by decide +kernel
theorem dM_readsCode_6 : decode bM_readsCode 6 = .ok (.istore_n 2, 1) := by decide +kernel
theorem dM_readsCode_7 : decode bM_readsCode 7 = .ok (.bipush 120, 2) := by decide +kernel
theorem dM_readsCode_9 : decode bM_readsCode 9 = .ok (.iload_n 2, 1) := by decide +kernel
theorem dM_readsCode_10 : decode bM_readsCode 10 = .ok (.iadd, 1) := by decide +kernel
theorem dM_readsCode_11 : decode bM_readsCode 11 = .ok (.istore_n 3, 1) := by decide +kernel
theorem dM_readsCode_12 : decode bM_readsCode 12 = .ok (.aload_n 0, 1) := by decide +kernel
theorem dM_readsCode_13 : decode bM_readsCode 13 = .ok (.iload_n 1, 1) := by decide +kernel
theorem dM_readsCode_14 : decode bM_readsCode 14 = .ok (.iconst 0, 1) := by decide +kernel
theorem dM_readsCode_15 : decode bM_readsCode 15 = .ok (.invokevirtual 111, 3) := by decide +kernel
theorem dM_readsCode_18 : decode bM_readsCode 18 = .ok (.istore 4, 2) := by decide +kernel
theorem dM_readsCode_20 : decode bM_readsCode 20 = .ok (.iload_n 1, 1) := by decide +kernel
theorem dM_readsCode_21 : decode bM_readsCode 21 = .ok (.iload 4, 2) := by decide +kernel
theorem dM_readsCode_23 : decode bM_readsCode 23 = .ok (.iadd, 1) := by decide +kernel
theorem dM_readsCode_24 : decode bM_readsCode 24 = .ok (.istore 5, 2) := by decide +kernel
theorem dM_readsCode_26 : decode bM_readsCode 26 = .ok (.iload 4, 2) := by decide +kernel
theorem dM_readsCode_28 : decode bM_readsCode 28 = .ok (.ifCond .ne 22, 3) := by decide +kernel
theorem dM_readsCode_31 : decode bM_readsCode 31 = .ok (.aload_n 0, 1) := by decide +kernel
theorem dM_readsCode_32 : decode bM_readsCode 32 = .ok (.getfield 7, 3) := by decide +kernel
theorem dM_readsCode_35 : decode bM_readsCode 35 = .ok (.iload_n 1, 1) := by decide +kernel
theorem dM_readsCode_36 : decode bM_readsCode 36 = .ok (.iaload, 1) := by decide +kernel
theorem dM_readsCode_37 : decode bM_readsCode 37 = .ok (.invokestatic 80, 3) := by decide +kernel
theorem dM_readsCode_40 : decode bM_readsCode 40 = .ok (.ifCond .ne 10, 3) := by decide +kernel
theorem dM_readsCode_43 : decode bM_readsCode 43 = .ok (.aload_n 0, 1) := by decide +kernel
theorem dM_readsCode_44 : decode bM_readsCode 44 = .ok (.iconst 1, 1) := by decide +kernel
theorem dM_readsCode_45 : decode bM_readsCode 45 = .ok (.iload_n 1, 1) := by decide +kernel
theorem dM_readsCode_46 : decode bM_readsCode 46 = .ok (.invokevirtual 115, 3) := by decide +kernel
theorem dM_readsCode_49 : decode bM_readsCode 49 = .ok (.ireturn, 1) := by decide +kernel
theorem dM_readsCode_50 : decode bM_readsCode 50 = .ok (.iload 4, 2) := by decide +kernel
theorem dM_readsCode_52 : decode bM_readsCode 52 = .ok (.iload_n 2, 1) := by decide +kernel
theorem dM_readsCode_53 : decode bM_readsCode 53 = .ok (.ifCond .ne 7, 3) := by decide +kernel
theorem dM_readsCode_56 : decode bM_readsCode 56 = .ok (.iconst 0, 1) := by decide +kernel
theorem dM_readsCode_57 : decode bM_readsCode 57 = .ok (.goto 13, 3) := by decide +kernel
theorem dM_readsCode_60 : decode bM_readsCode 60 = .ok (.aload_n 0, 1) := by decide +kernel
theorem dM_readsCode_61 : decode bM_readsCode 61 = .ok (.getfield 24, 3) := by decide +kernel
theorem dM_readsCode_64 : decode bM_readsCode 64 = .ok (.iload_n 3, 1) := by decide +kernel
theorem dM_readsCode_65 : decode bM_readsCode 65 = .ok (.iconst 1, 1) := by decide +kernel
theorem dM_readsCode_66 : decode bM_readsCode 66 = .ok (.isub, 1) := by decide +kernel
theorem dM_readsCode_67 : decode bM_readsCode 67 = .ok (.iaload, 1) := by decide +kernel
theorem dM_readsCode_68 : decode bM_readsCode 68 = .ok (.iconst 1, 1) := by decide +kernel
theorem dM_readsCode_69 : decode bM_readsCode 69 = .ok (.iadd, 1) := by decide +kernel
theorem dM_readsCode_70 : decode bM_readsCode 70 = .ok (.if_icmp .le 10, 3) := by decide +kernel
theorem dM_readsCode_73 : decode bM_readsCode 73 = .ok (.aload_n 0, 1) := by decide +kernel
theorem dM_readsCode_74 : decode bM_readsCode 74 = .ok (.iconst 2, 1) := by decide +kernel
theorem dM_readsCode_75 : decode bM_readsCode 75 = .ok (.iload_n 1, 1) := by decide +kernel
theorem dM_readsCode_76 : decode bM_readsCode 76 = .ok (.invokevirtual 115, 3) := by decide +kernel
theorem dM_readsCode_79 : decode bM_readsCode 79 = .ok (.ireturn, 1) := by decide +kernel
theorem dM_readsCode_80 : decode bM_readsCode 80 = .ok (.iload_n 2, 1) := by decide +kernel
theorem dM_readsCode_81 : decode bM_readsCode 81 = .ok (.bipush 40, 2) := by decide +kernel
theorem dM_readsCode_83 : decode bM_readsCode 83 = .ok (.if_icmp .ne 10, 3) := by decide +kernel
theorem dM_readsCode_86 : decode bM_readsCode 86 = .ok (.aload_n 0, 1) := by decide +kernel
theorem dM_readsCode_87 : decode bM_readsCode 87 = .ok (.iconst 5, 1) := by decide +kernel
theorem dM_readsCode_88 : decode bM_readsCode 88 = .ok (.iload_n 1, 1) := by decide +kernel
theorem dM_readsCode_89 : decode bM_readsCode 89 = .ok (.invokevirtual 115, 3) := by decide +kernel
theorem dM_readsCode_92 : decode bM_readsCode 92 = .ok (.ireturn, 1) := by decide +kernel
theorem dM_readsCode_93 : decode bM_readsCode 93 = .ok (.iload 4, 2) := by decide +kernel
theorem dM_readsCode_95 : decode bM_readsCode 95 = .ok (.iconst 4, 1) := by decide +kernel
theorem dM_readsCode_96 : decode bM_readsCode 96 = .ok (.if_icmp .le 12, 3) := by decide +kernel
theorem dM_readsCode_99 : decode bM_readsCode 99 = .ok (.aload_n 0, 1) := by decide +kernel
theorem dM_readsCode_100 : decode bM_readsCode 100 = .ok (.iconst 1, 1) := by decide +kernel
theorem dM_readsCode_101 : decode bM_readsCode 101 = .ok (.iload_n 1, 1) := by decide +kernel
theorem dM_readsCode_102 : decode bM_readsCode 102 = .ok (.iconst 4, 1) := by decide +kernel
theorem dM_readsCode_103 : decode bM_readsCode 103 = .ok (.iadd, 1) := by decide +kernel
theorem dM_readsCode_104 : decode bM_readsCode 104 = .ok (.invokevirtual 115, 3) := by decide +kernel
theorem dM_readsCode_107 : decode bM_readsCode 107 = .ok (.ireturn, 1) := by decide +kernel
theorem dM_readsCode_108 : decode bM_readsCode 108 = .ok (.aload_n 0, 1) := by decide +kernel
theorem dM_readsCode_109 : decode bM_readsCode 109 = .ok (.iload 5, 2) := by decide +kernel
theorem dM_readsCode_111 : decode bM_readsCode 111 = .ok (.iconst 1, 1) := by decide +kernel
theorem dM_readsCode_112 : decode bM_readsCode 112 = .ok (.invokevirtual 111, 3) := by decide +kernel
theorem dM_readsCode_115 : decode bM_readsCode 115 = .ok (.istore 6, 2) := by decide +kernel
theorem dM_readsCode_117 : decode bM_readsCode 117 = .ok (.iload 6, 2) := by decide +kernel
theorem dM_readsCode_119 : decode bM_readsCode 119 = .ok (.ifCond .ne 11, 3) := by decide +kernel
theorem dM_readsCode_122 : decode bM_readsCode 122 = .ok (.aload_n 0, 1) := by decide +kernel
theorem dM_readsCode_123 : decode bM_readsCode 123 = .ok (.iconst 1, 1) := by decide +kernel
theorem dM_readsCode_124 : decode bM_readsCode 124 = .ok (.iload 5, 2) := by decide +kernel
theorem dM_readsCode_126 : decode bM_readsCode 126 = .ok (.invokevirtual 115, 3) := by decide +kernel
theorem dM_readsCode_129 : decode bM_readsCode 129 = .ok (.ireturn, 1) := by decide +kernel
theorem dM_readsCode_130 : decode bM_readsCode 130 = .ok (.iload 6, 2) := by decide +kernel
theorem dM_readsCode_132 : decode bM_readsCode 132 = .ok (.bipush 10, 2) := by decide +kernel
theorem dM_readsCode_134 : decode bM_readsCode 134 = .ok (.if_icmp .gt 11, 3) := by decide +kernel
theorem dM_readsCode_137 : decode bM_readsCode 137 = .ok (.iload 6, 2) := by decide +kernel
theorem dM_readsCode_139 : decode bM_readsCode 139 = .ok (.iconst 2, 1) := by decide +kernel
theorem dM_readsCode_140 : decode bM_readsCode 140 = .ok (.irem, 1) := by decide +kernel
theorem dM_readsCode_141 : decode bM_readsCode 141 = .ok (.iconst 1, 1) := by decide +kernel
theorem dM_readsCode_142 : decode bM_readsCode 142 = .ok (.if_icmp .ne 29, 3) := by decide +kernel
theorem dM_readsCode_145 : decode bM_readsCode 145 = .ok (.aload_n 0, 1) := by decide +kernel
theorem dM_readsCode_146 : decode bM_readsCode 146 = .ok (.iconst 1, 1) := by decide +kernel
theorem dM_readsCode_147 : decode bM_readsCode 147 = .ok (.iload 6, 2) := by decide +kernel
theorem dM_readsCode_149 : decode bM_readsCode 149 = .ok (.bipush 10, 2) := by decide +kernel
theorem dM_readsCode_151 : decode bM_readsCode 151 = .ok (.if_icmp .le 11, 3) := by decide +kernel
theorem dM_readsCode_154 : decode bM_readsCode 154 = .ok (.iload 5, 2) := by decide +kernel
theorem dM_readsCode_156 : decode bM_readsCode 156 = .ok (.bipush 10, 2) := by decide +kernel
theorem dM_readsCode_158 : decode bM_readsCode 158 = .ok (.iadd, 1) := by decide +kernel
theorem dM_readsCode_159 : decode bM_readsCode 159 = .ok (.goto 8, 3) := by decide +kernel
theorem dM_readsCode_162 : decode bM_readsCode 162 = .ok (.iload 5, 2) := by decide +kernel
theorem dM_readsCode_164 : decode bM_readsCode 164 = .ok (.iload 6, 2) := by decide +kernel
theorem dM_readsCode_166 : decode bM_readsCode 166 = .ok (.iadd, 1) := by decide +kernel
theorem dM_readsCode_167 : decode bM_readsCode 167 = .ok (.invokevirtual 115, 3) := by decide +kernel
theorem dM_readsCode_170 : decode bM_readsCode 170 = .ok (.ireturn, 1) := by decide +kernel
theorem dM_readsCode_171 : decode bM_readsCode 171 = .ok (.aload_n 0, 1) := by decide +kernel
theorem dM_readsCode_172 : decode bM_readsCode 172 = .ok (.getfield 24, 3) := by decide +kernel
theorem dM_readsCode_175 : decode bM_readsCode 175 = .ok (.iload_n 3, 1) := by decide +kernel
theorem dM_readsCode_176 : decode bM_readsCode 176 = .ok (.iload 4, 2) := by decide +kernel
theorem dM_readsCode_178 : decode bM_readsCode 178 = .ok (.iastore, 1) := by decide +kernel
theorem dM_readsCode_179 : decode bM_readsCode 179 = .ok (.aload_n 0, 1) := by decide +kernel
theorem dM_readsCode_180 : decode bM_readsCode 180 = .ok (.getfield 20, 3) := by decide +kernel
theorem dM_readsCode_183 : decode bM_readsCode 183 = .ok (.iload_n 3, 1) := by decide +kernel
theorem dM_readsCode_184 : decode bM_readsCode 184 = .ok (.aload_n 0, 1) := by decide +kernel
theorem dM_readsCode_185 : decode bM_readsCode 185 = .ok (.iload 5, 2) := by decide +kernel
theorem dM_readsCode_187 : decode bM_readsCode 187 = .ok (.iload 6, 2) := by decide +kernel
theorem dM_readsCode_189 : decode bM_readsCode 189 = .ok (.invokevirtual 119, 3) := by decide +kernel
theorem dM_readsCode_192 : decode bM_readsCode 192 = .ok (.lastore, 1) := by decide +kernel
theorem dM_readsCode_193 : decode bM_readsCode 193 = .ok (.aload_n 0, 1) := by decide +kernel
theorem dM_readsCode_194 : decode bM_readsCode 194 = .ok (.bipush 120, 2) := by decide +kernel
theorem dM_readsCode_196 : decode bM_readsCode 196 = .ok (.iload_n 3, 1) := by decide +kernel
theorem dM_readsCode_197 : decode bM_readsCode 197 = .ok (.invokevirtual 123, 3) := by decide +kernel
theorem dM_readsCode_200 : decode bM_readsCode 200 = .ok (.istore 7, 2) := by decide +kernel
theorem dM_readsCode_202 : decode bM_readsCode 202 = .ok (.iload 4, 2) := by decide +kernel
theorem dM_readsCode_204 : decode bM_readsCode 204 = .ok (.ifCond .ne 9, 3) := by decide +kernel
theorem dM_readsCode_207 : decode bM_readsCode 207 = .ok (.iload 6, 2) := by decide +kernel
theorem dM_readsCode_209 : decode bM_readsCode 209 = .ok (.iconst 2, 1) := by decide +kernel
theorem dM_readsCode_210 : decode bM_readsCode 210 = .ok (.if_icmp .ne 36, 3) := by decide +kernel
theorem dM_readsCode_213 : decode bM_readsCode 213 = .ok (.iload 4, 2) := by decide +kernel
theorem dM_readsCode_215 : decode bM_readsCode 215 = .ok (.ifCond .le 39, 3) := by decide +kernel
theorem dM_readsCode_218 : decode bM_readsCode 218 = .ok (.aload_n 0, 1) := by decide +kernel
theorem dM_readsCode_219 : decode bM_readsCode 219 = .ok (.getfield 20, 3) := by decide +kernel
theorem dM_readsCode_222 : decode bM_readsCode 222 = .ok (.iload_n 3, 1) := by decide +kernel
theorem dM_readsCode_223 : decode bM_readsCode 223 = .ok (.laload, 1) := by decide +kernel
theorem dM_readsCode_224 : decode bM_readsCode 224 = .ok (.aload_n 0, 1) := by decide +kernel
theorem dM_readsCode_225 : decode bM_readsCode 225 = .ok (.getfield 20, 3) := by decide +kernel
theorem dM_readsCode_228 : decode bM_readsCode 228 = .ok (.iload 7, 2) := by decide +kernel
theorem dM_readsCode_230 : decode bM_readsCode 230 = .ok (.ifCond .ge 7, 3) := by decide +kernel
theorem dM_readsCode_233 : decode bM_readsCode 233 = .ok (.iload_n 3, 1) := by decide +kernel
theorem dM_readsCode_234 : decode bM_readsCode 234 = .ok (.goto 5, 3) := by decide +kernel
theorem dM_readsCode_237 : decode bM_readsCode 237 = .ok (.iload 7, 2) := by decide +kernel
theorem dM_readsCode_239 : decode bM_readsCode 239 = .ok (.laload, 1) := by decide +kernel
theorem dM_readsCode_240 : decode bM_readsCode 240 = .ok (.invokestatic 107, 3) := by decide +kernel
theorem dM_readsCode_243 : decode bM_readsCode 243 = .ok (.ifCond .ne 11, 3) := by decide +kernel
theorem dM_readsCode_246 : decode bM_readsCode 246 = .ok (.aload_n 0, 1) := by decide +kernel
theorem dM_readsCode_247 : decode bM_readsCode 247 = .ok (.iconst 3, 1) := by decide +kernel
theorem dM_readsCode_248 : decode bM_readsCode 248 = .ok (.iload 5, 2) := by decide +kernel
theorem dM_readsCode_250 : decode bM_readsCode 250 = .ok (.invokevirtual 115, 3) := by decide +kernel
theorem dM_readsCode_253 : decode bM_readsCode 253 = .ok (.ireturn, 1) := by decide +kernel
theorem dM_readsCode_254 : decode bM_readsCode 254 = .ok (.iload_n 2, 1) := by decide +kernel
theorem dM_readsCode_255 : decode bM_readsCode 255 = .ok (.ifCond .eq 33, 3) := by decide +kernel
theorem dM_readsCode_258 : decode bM_readsCode 258 = .ok (.aload_n 0, 1) := by decide +kernel
theorem dM_readsCode_259 : decode bM_readsCode 259 = .ok (.getfield 20, 3) := by decide +kernel
theorem dM_readsCode_262 : decode bM_readsCode 262 = .ok (.iload_n 3, 1) := by decide +kernel
theorem dM_readsCode_263 : decode bM_readsCode 263 = .ok (.laload, 1) := by decide +kernel
theorem dM_readsCode_264 : decode bM_readsCode 264 = .ok (.aload_n 0, 1) := by decide +kernel
theorem dM_readsCode_265 : decode bM_readsCode 265 = .ok (.getfield 20, 3) := by decide +kernel
theorem dM_readsCode_268 : decode bM_readsCode 268 = .ok (.iload_n 3, 1) := by decide +kernel
theorem dM_readsCode_269 : decode bM_readsCode 269 = .ok (.iconst 1, 1) := by decide +kernel
theorem dM_readsCode_270 : decode bM_readsCode 270 = .ok (.isub, 1) := by decide +kernel
theorem dM_readsCode_271 : decode bM_readsCode 271 = .ok (.laload, 1) := by decide +kernel
theorem dM_readsCode_272 : decode bM_readsCode 272 = .ok (.invokestatic 126, 3) := by decide +kernel
theorem dM_readsCode_275 : decode bM_readsCode 275 = .ok (.ifCond .ne 13, 3) := by decide +kernel
theorem dM_readsCode_278 : decode bM_readsCode 278 = .ok (.aload_n 0, 1) := by decide +kernel
theorem dM_readsCode_279 : decode bM_readsCode 279 = .ok (.iconst 4, 1) := by decide +kernel
theorem dM_readsCode_280 : decode bM_readsCode 280 = .ok (.iload 5, 2) := by decide +kernel
theorem dM_readsCode_282 : decode bM_readsCode 282 = .ok (.invokevirtual 115, 3) := by decide +kernel
theorem dM_readsCode_285 : decode bM_readsCode 285 = .ok (.ifCond .eq 7, 3) := by decide +kernel
theorem dM_readsCode_288 : decode bM_readsCode 288 = .ok (.iconst 1, 1) := by decide +kernel
theorem dM_readsCode_289 : decode bM_readsCode 289 = .ok (.goto 4, 3) := by decide +kernel
theorem dM_readsCode_292 : decode bM_readsCode 292 = .ok (.iconst 0, 1) := by decide +kernel
theorem dM_readsCode_293 : decode bM_readsCode 293 = .ok (.ireturn, 1) := by decide +kernel
theorem dM_readsWords_0 : decode bM_readsWords 0 = .ok (.iload_n 1, 1) := by decide +kernel
theorem dM_readsWords_1 : decode bM_readsWords 1 = .ok (.istore 4, 2) := by decide +kernel
theorem dM_readsWords_3 : decode bM_readsWords 3 = .ok (.aload_n 0, 1) := by decide +kernel
theorem dM_readsWords_4 : decode bM_readsWords 4 = .ok (.iconst 0, 1) := by decide +kernel
theorem dM_readsWords_5 : decode bM_readsWords 5 = .ok (.putfield 129, 3) := by decide +kernel
theorem dM_readsWords_8 : decode bM_readsWords 8 = .ok (.aload_n 0, 1) := by decide +kernel
theorem dM_readsWords_9 : decode bM_readsWords 9 = .ok (.iload 4, 2) := by decide +kernel
theorem dM_readsWords_11 : decode bM_readsWords 11 = .ok (.iconst 2, 1) := by decide +kernel
theorem dM_readsWords_12 : decode bM_readsWords 12 = .ok (.invokevirtual 111, 3) := by decide +kernel
theorem dM_readsWords_15 : decode bM_readsWords 15 = .ok (.istore 5, 2) := by decide +kernel
theorem dM_readsWords_17 : decode bM_readsWords 17 = .ok (.iload 5, 2) := by decide +kernel
theorem dM_readsWords_19 : decode bM_readsWords 19 = .ok (.ifCond .eq 10, 3) := by decide +kernel
theorem dM_readsWords_22 : decode bM_readsWords 22 = .ok (.iload 5, 2) := by decide +kernel
theorem dM_readsWords_24 : decode bM_readsWords 24 = .ok (.bipush 8, 2) := by decide +kernel
theorem dM_readsWords_26 : decode bM_readsWords 26 = .ok (.if_icmp .le 32, 3) := by decide +kernel
theorem dM_readsWords_29 : decode bM_readsWords 29 = .ok (.aload_n 0, 1) := by decide +kernel
theorem dM_readsWords_30 : decode bM_readsWords 30 = .ok (.iconst 1, 1) := by decide +kernel
theorem dM_readsWords_31 : decode bM_readsWords 31 = .ok (.iload 5, 2) := by decide +kernel
theorem dM_readsWords_33 : decode bM_readsWords 33 = .ok (.ifCond .ne 8, 3) := by decide +kernel
theorem dM_readsWords_36 : decode bM_readsWords 36 = .ok (.iload 4, 2) := by decide +kernel
theorem dM_readsWords_38 : decode bM_readsWords 38 = .ok (.goto 8, 3) := by decide +kernel
theorem dM_readsWords_41 : decode bM_readsWords 41 = .ok (.iload 4, 2) := by decide +kernel
theorem dM_readsWords_43 : decode bM_readsWords 43 = .ok (.bipush 8, 2) := by decide +kernel
theorem dM_readsWords_45 : decode bM_readsWords 45 = .ok (.iadd, 1) := by decide +kernel
theorem dM_readsWords_46 : decode bM_readsWords 46 = .ok (.invokevirtual 115, 3) := by decide +kernel
theorem dM_readsWords_49 : decode bM_readsWords 49 = .ok (.ifCond .eq 7, 3) := by decide +kernel
theorem dM_readsWords_52 : decode bM_readsWords 52 = .ok (.iconst 0, 1) := by decide +kernel
theorem dM_readsWords_53 : decode bM_readsWords 53 = .ok (.goto 4, 3) := by decide +kernel
theorem dM_readsWords_56 : decode bM_readsWords 56 = .ok (.iconst (-1), 1) := by decide +kernel
theorem dM_readsWords_57 : decode bM_readsWords 57 = .ok (.ireturn, 1) := by decide +kernel
theorem dM_readsWords_58 : decode bM_readsWords 58 = .ok (.aload_n 0, 1) := by decide +kernel
theorem dM_readsWords_59 : decode bM_readsWords 59 = .ok (.getfield 129, 3) := by decide +kernel
theorem dM_readsWords_62 : decode bM_readsWords 62 = .ok (.bipush 6, 2) := by decide +kernel
theorem dM_readsWords_64 : decode bM_readsWords 64 = .ok (.if_icmp .ge 20, 3) := by decide +kernel
theorem dM_readsWords_67 : decode bM_readsWords 67 = .ok (.aload_n 0, 1) := by decide +kernel
theorem dM_readsWords_68 : decode bM_readsWords 68 = .ok (.getfield 63, 3) := by decide +kernel
theorem dM_readsWords_71 : decode bM_readsWords 71 = .ok (.aload_n 0, 1) := by decide +kernel
theorem dM_readsWords_72 : decode bM_readsWords 72 = .ok (.getfield 129, 3) := by decide +kernel
theorem dM_readsWords_75 : decode bM_readsWords 75 = .ok (.aload_n 0, 1) := by decide +kernel
theorem dM_readsWords_76 : decode bM_readsWords 76 = .ok (.iload 4, 2) := by decide +kernel
theorem dM_readsWords_78 : decode bM_readsWords 78 = .ok (.iload 5, 2) := by decide +kernel
theorem dM_readsWords_80 : decode bM_readsWords 80 = .ok (.invokevirtual 132, 3) := by decide +kernel
theorem dM_readsWords_83 : decode bM_readsWords 83 = .ok (.lastore, 1) := by decide +kernel
theorem dM_readsWords_84 : decode bM_readsWords 84 = .ok (.aload_n 0, 1) := by decide +kernel
theorem dM_readsWords_85 : decode bM_readsWords 85 = .ok (.dup, 1) := by decide +kernel
theorem dM_readsWords_86 : decode bM_readsWords 86 = .ok (.getfield 129, 3) := by decide +kernel
theorem dM_readsWords_89 : decode bM_readsWords 89 = .ok (.iconst 1, 1) := by decide +kernel
theorem dM_readsWords_90 : decode bM_readsWords 90 = .ok (.iadd, 1) := by decide +kernel
theorem dM_readsWords_91 : decode bM_readsWords 91 = .ok (.putfield 129, 3) := by decide +kernel
theorem dM_readsWords_94 : decode bM_readsWords 94 = .ok (.iload 4, 2) := by decide +kernel
theorem dM_readsWords_96 : decode bM_readsWords 96 = .ok (.iload 5, 2) := by decide +kernel
theorem dM_readsWords_98 : decode bM_readsWords 98 = .ok (.iadd, 1) := by decide +kernel
theorem dM_readsWords_99 : decode bM_readsWords 99 = .ok (.istore 4, 2) := by decide +kernel
theorem dM_readsWords_101 : decode bM_readsWords 101 = .ok (.iload 4, 2) := by decide +kernel
theorem dM_readsWords_103 : decode bM_readsWords 103 = .ok (.aload_n 0, 1) := by decide +kernel
theorem dM_readsWords_104 : decode bM_readsWords 104 = .ok (.getfield 83, 3) := by decide +kernel
theorem dM_readsWords_107 : decode bM_readsWords 107 = .ok (.if_icmp .ge 13, 3) := by decide +kernel
theorem dM_readsWords_110 : decode bM_readsWords 110 = .ok (.aload_n 0, 1) := by decide +kernel
theorem dM_readsWords_111 : decode bM_readsWords 111 = .ok (.getfield 7, 3) := by decide +kernel
theorem dM_readsWords_114 : decode bM_readsWords 114 = .ok (.iload 4, 2) := by decide +kernel
theorem dM_readsWords_116 : decode bM_readsWords 116 = .ok (.iaload, 1) := by decide +kernel
theorem dM_readsWords_117 : decode bM_readsWords 117 = .ok (.goto 4, 3) := by decide +kernel
theorem dM_readsWords_120 : decode bM_readsWords 120 = .ok (.iconst 0, 1) := by decide +kernel
theorem dM_readsWords_121 : decode bM_readsWords 121 = .ok (.istore 6, 2) := by decide +kernel
theorem dM_readsWords_123 : decode bM_readsWords 123 = .ok (.iload 6, 2) := by decide +kernel
theorem dM_readsWords_125 : decode bM_readsWords 125 = .ok (.iload_n 3, 1) := by decide +kernel
theorem dM_readsWords_126 : decode bM_readsWords 126 = .ok (.if_icmp .ne 8, 3) := by decide +kernel
theorem dM_readsWords_129 : decode bM_readsWords 129 = .ok (.iload 4, 2) := by decide +kernel
theorem dM_readsWords_131 : decode bM_readsWords 131 = .ok (.iconst 1, 1) := by decide +kernel
theorem dM_readsWords_132 : decode bM_readsWords 132 = .ok (.iadd, 1) := by decide +kernel
theorem dM_readsWords_133 : decode bM_readsWords 133 = .ok (.ireturn, 1) := by decide +kernel
theorem dM_readsWords_134 : decode bM_readsWords 134 = .ok (.iload 6, 2) := by decide +kernel
theorem dM_readsWords_136 : decode bM_readsWords 136 = .ok (.bipush 46, 2) := by decide +kernel
theorem dM_readsWords_138 : decode bM_readsWords 138 = .ok (.if_icmp .ne 11, 3) := by decide +kernel
theorem dM_readsWords_141 : decode bM_readsWords 141 = .ok (.aload_n 0, 1) := by decide +kernel
theorem dM_readsWords_142 : decode bM_readsWords 142 = .ok (.getfield 129, 3) := by decide +kernel
theorem dM_readsWords_145 : decode bM_readsWords 145 = .ok (.iload_n 2, 1) := by decide +kernel
theorem dM_readsWords_146 : decode bM_readsWords 146 = .ok (.if_icmp .ne 19, 3) := by decide +kernel
theorem dM_readsWords_149 : decode bM_readsWords 149 = .ok (.aload_n 0, 1) := by decide +kernel
theorem dM_readsWords_150 : decode bM_readsWords 150 = .ok (.iconst 1, 1) := by decide +kernel
theorem dM_readsWords_151 : decode bM_readsWords 151 = .ok (.iload 4, 2) := by decide +kernel
theorem dM_readsWords_153 : decode bM_readsWords 153 = .ok (.invokevirtual 115, 3) := by decide +kernel
theorem dM_readsWords_156 : decode bM_readsWords 156 = .ok (.ifCond .eq 7, 3) := by decide +kernel
theorem dM_readsWords_159 : decode bM_readsWords 159 = .ok (.iconst 0, 1) := by decide +kernel
theorem dM_readsWords_160 : decode bM_readsWords 160 = .ok (.goto 4, 3) := by decide +kernel
theorem dM_readsWords_163 : decode bM_readsWords 163 = .ok (.iconst (-1), 1) := by decide +kernel
theorem dM_readsWords_164 : decode bM_readsWords 164 = .ok (.ireturn, 1) := by decide +kernel
theorem dM_readsWords_165 : decode bM_readsWords 165 = .ok (.iinc 4 1, 3) := by decide +kernel
theorem dM_readsWords_168 : decode bM_readsWords 168 = .ok (.goto (-160), 3) := by decide +kernel
theorem dM_reads_0 : decode bM_reads 0 = .ok (.aload_n 0, 1) := by decide +kernel
theorem dM_reads_1 : decode bM_reads 1 = .ok (.getfield 17, 3) := by decide +kernel
theorem dM_reads_4 : decode bM_reads 4 = .ok (.iconst 3, 1) := by decide +kernel
theorem dM_reads_5 : decode bM_reads 5 = .ok (.iconst 0, 1) := by decide +kernel
theorem dM_reads_6 : decode bM_reads 6 = .ok (.iastore, 1) := by decide +kernel
theorem dM_reads_7 : decode bM_reads 7 = .ok (.iconst 0, 1) := by decide +kernel
theorem dM_reads_8 : decode bM_reads 8 = .ok (.istore_n 1, 1) := by decide +kernel
theorem dM_reads_9 : decode bM_reads 9 = .ok (.iload_n 1, 1) := by decide +kernel
theorem dM_reads_10 : decode bM_reads 10 = .ok (.ifCond .lt 128, 3) := by decide +kernel
theorem dM_reads_13 : decode bM_reads 13 = .ok (.iload_n 1, 1) := by decide +kernel
theorem dM_reads_14 : decode bM_reads 14 = .ok (.aload_n 0, 1) := by decide +kernel
theorem dM_reads_15 : decode bM_reads 15 = .ok (.getfield 83, 3) := by decide +kernel
theorem dM_reads_18 : decode bM_reads 18 = .ok (.if_icmp .ge 120, 3) := by decide +kernel
theorem dM_reads_21 : decode bM_reads 21 = .ok (.aload_n 0, 1) := by decide +kernel
theorem dM_reads_22 : decode bM_reads 22 = .ok (.iload_n 1, 1) := by decide +kernel
theorem dM_reads_23 : decode bM_reads 23 = .ok (.invokevirtual 135, 3) := by decide +kernel
theorem dM_reads_26 : decode bM_reads 26 = .ok (.ifCond .ne 5, 3) := by decide +kernel
theorem dM_reads_29 : decode bM_reads 29 = .ok (.iconst 0, 1) := by decide +kernel
theorem dM_reads_30 : decode bM_reads 30 = .ok (.ireturn, 1) := by decide +kernel
theorem dM_reads_31 : decode bM_reads 31 = .ok (.bipush 120, 2) := by decide +kernel
theorem dM_reads_33 : decode bM_reads 33 = .ok (.aload_n 0, 1) := by decide +kernel
theorem dM_reads_34 : decode bM_reads 34 = .ok (.getfield 17, 3) := by decide +kernel
theorem dM_reads_37 : decode bM_reads 37 = .ok (.iconst 3, 1) := by decide +kernel
theorem dM_reads_38 : decode bM_reads 38 = .ok (.iaload, 1) := by decide +kernel
theorem dM_reads_39 : decode bM_reads 39 = .ok (.iadd, 1) := by decide +kernel
theorem dM_reads_40 : decode bM_reads 40 = .ok (.istore_n 2, 1) := by decide +kernel
theorem dM_reads_41 : decode bM_reads 41 = .ok (.iload_n 1, 1) := by decide +kernel
theorem dM_reads_42 : decode bM_reads 42 = .ok (.aload_n 0, 1) := by decide +kernel
theorem dM_reads_43 : decode bM_reads 43 = .ok (.getfield 24, 3) := by decide +kernel
theorem dM_reads_46 : decode bM_reads 46 = .ok (.iload_n 2, 1) := by decide +kernel
theorem dM_reads_47 : decode bM_reads 47 = .ok (.iaload, 1) := by decide +kernel
theorem dM_reads_48 : decode bM_reads 48 = .ok (.iadd, 1) := by decide +kernel
theorem dM_reads_49 : decode bM_reads 49 = .ok (.aload_n 0, 1) := by decide +kernel
theorem dM_reads_50 : decode bM_reads 50 = .ok (.getfield 20, 3) := by decide +kernel
theorem dM_reads_53 : decode bM_reads 53 = .ok (.iload_n 2, 1) := by decide +kernel
theorem dM_reads_54 : decode bM_reads 54 = .ok (.laload, 1) := by decide +kernel
theorem dM_reads_55 : decode bM_reads 55 = .ok (.invokestatic 99, 3) := by decide +kernel
theorem dM_reads_58 : decode bM_reads 58 = .ok (.iadd, 1) := by decide +kernel
theorem dM_reads_59 : decode bM_reads 59 = .ok (.istore_n 3, 1) := by decide +kernel
theorem dM_reads_60 : decode bM_reads 60 = .ok (.aload_n 0, 1) := by decide +kernel
theorem dM_reads_61 : decode bM_reads 61 = .ok (.iload_n 3, 1) := by decide +kernel
theorem dM_reads_62 : decode bM_reads 62 = .ok (.iconst 4, 1) := by decide +kernel
theorem dM_reads_63 : decode bM_reads 63 = .ok (.bipush 59, 2) := by decide +kernel
theorem dM_reads_65 : decode bM_reads 65 = .ok (.invokevirtual 138, 3) := by decide +kernel
theorem dM_reads_68 : decode bM_reads 68 = .ok (.istore_n 1, 1) := by decide +kernel
theorem dM_reads_69 : decode bM_reads 69 = .ok (.aload_n 0, 1) := by decide +kernel
theorem dM_reads_70 : decode bM_reads 70 = .ok (.getfield 27, 3) := by decide +kernel
theorem dM_reads_73 : decode bM_reads 73 = .ok (.iload_n 2, 1) := by decide +kernel
theorem dM_reads_74 : decode bM_reads 74 = .ok (.aload_n 0, 1) := by decide +kernel
theorem dM_reads_75 : decode bM_reads 75 = .ok (.getfield 129, 3) := by decide +kernel
theorem dM_reads_78 : decode bM_reads 78 = .ok (.iastore, 1) := by decide +kernel
theorem dM_reads_79 : decode bM_reads 79 = .ok (.iconst 0, 1) := by decide +kernel
theorem dM_reads_80 : decode bM_reads 80 = .ok (.istore 4, 2) := by decide +kernel
theorem dM_reads_82 : decode bM_reads 82 = .ok (.iload 4, 2) := by decide +kernel
theorem dM_reads_84 : decode bM_reads 84 = .ok (.iconst 4, 1) := by decide +kernel
theorem dM_reads_85 : decode bM_reads 85 = .ok (.if_icmp .ge 40, 3) := by decide +kernel
theorem dM_reads_88 : decode bM_reads 88 = .ok (.aload_n 0, 1) := by decide +kernel
theorem dM_reads_89 : decode bM_reads 89 = .ok (.getfield 30, 3) := by decide +kernel
theorem dM_reads_92 : decode bM_reads 92 = .ok (.iconst 4, 1) := by decide +kernel
theorem dM_reads_93 : decode bM_reads 93 = .ok (.iload_n 2, 1) := by decide +kernel
theorem dM_reads_94 : decode bM_reads 94 = .ok (.imul, 1) := by decide +kernel
theorem dM_reads_95 : decode bM_reads 95 = .ok (.iload 4, 2) := by decide +kernel
theorem dM_reads_97 : decode bM_reads 97 = .ok (.iadd, 1) := by decide +kernel
theorem dM_reads_98 : decode bM_reads 98 = .ok (.iload 4, 2) := by decide +kernel
theorem dM_reads_100 : decode bM_reads 100 = .ok (.aload_n 0, 1) := by decide +kernel
theorem dM_reads_101 : decode bM_reads 101 = .ok (.getfield 129, 3) := by decide +kernel
theorem dM_reads_104 : decode bM_reads 104 = .ok (.if_icmp .ge 13, 3) := by decide +kernel
theorem dM_reads_107 : decode bM_reads 107 = .ok (.aload_n 0, 1) := by decide +kernel
theorem dM_reads_108 : decode bM_reads 108 = .ok (.getfield 63, 3) := by decide +kernel
theorem dM_reads_111 : decode bM_reads 111 = .ok (.iload 4, 2) := by decide +kernel
theorem dM_reads_113 : decode bM_reads 113 = .ok (.laload, 1) := by decide +kernel
theorem dM_reads_114 : decode bM_reads 114 = .ok (.goto 4, 3) := by decide +kernel
theorem dM_reads_117 : decode bM_reads 117 = .ok (.lconst 0, 1) := by decide +kernel
theorem dM_reads_118 : decode bM_reads 118 = .ok (.lastore, 1) := by decide +kernel
theorem dM_reads_119 : decode bM_reads 119 = .ok (.iinc 4 1, 3) := by decide +kernel
theorem dM_reads_122 : decode bM_reads 122 = .ok (.goto (-40), 3) := by decide +kernel
theorem dM_reads_125 : decode bM_reads 125 = .ok (.aload_n 0, 1) := by decide +kernel
theorem dM_reads_126 : decode bM_reads 126 = .ok (.getfield 17, 3) := by decide +kernel
theorem dM_reads_129 : decode bM_reads 129 = .ok (.iconst 3, 1) := by decide +kernel
theorem dM_reads_130 : decode bM_reads 130 = .ok (.dup2, 1) := by decide +kernel
theorem dM_reads_131 : decode bM_reads 131 = .ok (.iaload, 1) := by decide +kernel
theorem dM_reads_132 : decode bM_reads 132 = .ok (.iconst 1, 1) := by decide +kernel
theorem dM_reads_133 : decode bM_reads 133 = .ok (.iadd, 1) := by decide +kernel
theorem dM_reads_134 : decode bM_reads 134 = .ok (.iastore, 1) := by decide +kernel
theorem dM_reads_135 : decode bM_reads 135 = .ok (.goto (-126), 3) := by decide +kernel
theorem dM_reads_138 : decode bM_reads 138 = .ok (.iload_n 1, 1) := by decide +kernel
theorem dM_reads_139 : decode bM_reads 139 = .ok (.ifCond .ge 7, 3) := by decide +kernel
theorem dM_reads_142 : decode bM_reads 142 = .ok (.iconst 0, 1) := by decide +kernel
theorem dM_reads_143 : decode bM_reads 143 = .ok (.goto 26, 3) := by decide +kernel
theorem dM_reads_146 : decode bM_reads 146 = .ok (.aload_n 0, 1) := by decide +kernel
theorem dM_reads_147 : decode bM_reads 147 = .ok (.getfield 17, 3) := by decide +kernel
theorem dM_reads_150 : decode bM_reads 150 = .ok (.iconst 3, 1) := by decide +kernel
theorem dM_reads_151 : decode bM_reads 151 = .ok (.iaload, 1) := by decide +kernel
theorem dM_reads_152 : decode bM_reads 152 = .ok (.ifCond .gt 12, 3) := by decide +kernel
theorem dM_reads_155 : decode bM_reads 155 = .ok (.aload_n 0, 1) := by decide +kernel
theorem dM_reads_156 : decode bM_reads 156 = .ok (.iconst 1, 1) := by decide +kernel
theorem dM_reads_157 : decode bM_reads 157 = .ok (.iconst 0, 1) := by decide +kernel
theorem dM_reads_158 : decode bM_reads 158 = .ok (.invokevirtual 115, 3) := by decide +kernel
theorem dM_reads_161 : decode bM_reads 161 = .ok (.ifCond .eq 7, 3) := by decide +kernel
theorem dM_reads_164 : decode bM_reads 164 = .ok (.iconst 1, 1) := by decide +kernel
theorem dM_reads_165 : decode bM_reads 165 = .ok (.goto 4, 3) := by decide +kernel
theorem dM_reads_168 : decode bM_reads 168 = .ok (.iconst 0, 1) := by decide +kernel
theorem dM_reads_169 : decode bM_reads 169 = .ok (.ireturn, 1) := by decide +kernel
theorem dM_forget_0 : decode bM_forget 0 = .ok (.iconst 0, 1) := by decide +kernel
theorem dM_forget_1 : decode bM_forget 1 = .ok (.istore_n 2, 1) := by decide +kernel
theorem dM_forget_2 : decode bM_forget 2 = .ok (.iconst 0, 1) := by decide +kernel
theorem dM_forget_3 : decode bM_forget 3 = .ok (.istore_n 3, 1) := by decide +kernel
theorem dM_forget_4 : decode bM_forget 4 = .ok (.iload_n 3, 1) := by decide +kernel
theorem dM_forget_5 : decode bM_forget 5 = .ok (.aload_n 0, 1) := by decide +kernel
theorem dM_forget_6 : decode bM_forget 6 = .ok (.getfield 142, 3) := by decide +kernel
theorem dM_forget_9 : decode bM_forget 9 = .ok (.if_icmp .ge 70, 3) := by decide +kernel
theorem dM_forget_12 : decode bM_forget 12 = .ok (.aload_n 0, 1) := by decide +kernel
theorem dM_forget_13 : decode bM_forget 13 = .ok (.getfield 33, 3) := by decide +kernel
theorem dM_forget_16 : decode bM_forget 16 = .ok (.iload_n 3, 1) := by decide +kernel
theorem dM_forget_17 : decode bM_forget 17 = .ok (.iaload, 1) := by decide +kernel
theorem dM_forget_18 : decode bM_forget 18 = .ok (.iload_n 1, 1) := by decide +kernel
theorem dM_forget_19 : decode bM_forget 19 = .ok (.if_icmp .eq 54, 3) := by decide +kernel
theorem dM_forget_22 : decode bM_forget 22 = .ok (.aload_n 0, 1) := by decide +kernel
theorem dM_forget_23 : decode bM_forget 23 = .ok (.getfield 33, 3) := by decide +kernel
theorem dM_forget_26 : decode bM_forget 26 = .ok (.iload_n 2, 1) := by decide +kernel
theorem dM_forget_27 : decode bM_forget 27 = .ok (.aload_n 0, 1) := by decide +kernel
theorem dM_forget_28 : decode bM_forget 28 = .ok (.getfield 33, 3) := by decide +kernel
theorem dM_forget_31 : decode bM_forget 31 = .ok (.iload_n 3, 1) := by decide +kernel
theorem dM_forget_32 : decode bM_forget 32 = .ok (.iaload, 1) := by decide +kernel
theorem dM_forget_33 : decode bM_forget 33 = .ok (.iastore, 1) := by decide +kernel
theorem dM_forget_34 : decode bM_forget 34 = .ok (.aload_n 0, 1) := by decide +kernel
theorem dM_forget_35 : decode bM_forget 35 = .ok (.getfield 36, 3) := by decide +kernel
theorem dM_forget_38 : decode bM_forget 38 = .ok (.iload_n 2, 1) := by decide +kernel
theorem dM_forget_39 : decode bM_forget 39 = .ok (.aload_n 0, 1) := by decide +kernel
theorem dM_forget_40 : decode bM_forget 40 = .ok (.getfield 36, 3) := by decide +kernel
theorem dM_forget_43 : decode bM_forget 43 = .ok (.iload_n 3, 1) := by decide +kernel
theorem dM_forget_44 : decode bM_forget 44 = .ok (.laload, 1) := by decide +kernel
theorem dM_forget_45 : decode bM_forget 45 = .ok (.lastore, 1) := by decide +kernel
theorem dM_forget_46 : decode bM_forget 46 = .ok (.aload_n 0, 1) := by decide +kernel
theorem dM_forget_47 : decode bM_forget 47 = .ok (.getfield 39, 3) := by decide +kernel
theorem dM_forget_50 : decode bM_forget 50 = .ok (.iload_n 2, 1) := by decide +kernel
theorem dM_forget_51 : decode bM_forget 51 = .ok (.aload_n 0, 1) := by decide +kernel
theorem dM_forget_52 : decode bM_forget 52 = .ok (.getfield 39, 3) := by decide +kernel
theorem dM_forget_55 : decode bM_forget 55 = .ok (.iload_n 3, 1) := by decide +kernel
theorem dM_forget_56 : decode bM_forget 56 = .ok (.iaload, 1) := by decide +kernel
theorem dM_forget_57 : decode bM_forget 57 = .ok (.iastore, 1) := by decide +kernel
theorem dM_forget_58 : decode bM_forget 58 = .ok (.aload_n 0, 1) := by decide +kernel
theorem dM_forget_59 : decode bM_forget 59 = .ok (.getfield 42, 3) := by decide +kernel
theorem dM_forget_62 : decode bM_forget 62 = .ok (.iload_n 2, 1) := by decide +kernel
theorem dM_forget_63 : decode bM_forget 63 = .ok (.aload_n 0, 1) := by decide +kernel
theorem dM_forget_64 : decode bM_forget 64 = .ok (.getfield 42, 3) := by decide +kernel
theorem dM_forget_67 : decode bM_forget 67 = .ok (.iload_n 3, 1) := by decide +kernel
theorem dM_forget_68 : decode bM_forget 68 = .ok (.laload, 1) := by decide +kernel
theorem dM_forget_69 : decode bM_forget 69 = .ok (.lastore, 1) := by decide +kernel
theorem dM_forget_70 : decode bM_forget 70 = .ok (.iinc 2 1, 3) := by decide +kernel
theorem dM_forget_73 : decode bM_forget 73 = .ok (.iinc 3 1, 3) := by decide +kernel
theorem dM_forget_76 : decode bM_forget 76 = .ok (.goto (-72), 3) := by decide +kernel
theorem dM_forget_79 : decode bM_forget 79 = .ok (.aload_n 0, 1) := by decide +kernel
theorem dM_forget_80 : decode bM_forget 80 = .ok (.iload_n 2, 1) := by decide +kernel
theorem dM_forget_81 : decode bM_forget 81 = .ok (.putfield 142, 3) := by decide +kernel
theorem dM_forget_84 : decode bM_forget 84 = .ok (.iconst 0, 1) := by decide +kernel
theorem dM_forget_85 : decode bM_forget 85 = .ok (.istore_n 2, 1) := by decide +kernel
theorem dM_forget_86 : decode bM_forget 86 = .ok (.iconst 0, 1) := by decide +kernel
theorem dM_forget_87 : decode bM_forget 87 = .ok (.istore_n 3, 1) := by decide +kernel
theorem dM_forget_88 : decode bM_forget 88 = .ok (.iload_n 3, 1) := by decide +kernel
theorem dM_forget_89 : decode bM_forget 89 = .ok (.aload_n 0, 1) := by decide +kernel
theorem dM_forget_90 : decode bM_forget 90 = .ok (.getfield 145, 3) := by decide +kernel
theorem dM_forget_93 : decode bM_forget 93 = .ok (.if_icmp .ge 80, 3) := by decide +kernel
theorem dM_forget_96 : decode bM_forget 96 = .ok (.aload_n 0, 1) := by decide +kernel
theorem dM_forget_97 : decode bM_forget 97 = .ok (.getfield 45, 3) := by decide +kernel
theorem dM_forget_100 : decode bM_forget 100 = .ok (.iload_n 3, 1) := by decide +kernel
theorem dM_forget_101 : decode bM_forget 101 = .ok (.iaload, 1) := by decide +kernel
theorem dM_forget_102 : decode bM_forget 102 = .ok (.iload_n 1, 1) := by decide +kernel
theorem dM_forget_103 : decode bM_forget 103 = .ok (.if_icmp .eq 64, 3) := by decide +kernel
theorem dM_forget_106 : decode bM_forget 106 = .ok (.aload_n 0, 1) := by decide +kernel
theorem dM_forget_107 : decode bM_forget 107 = .ok (.getfield 51, 3) := by decide +kernel
theorem dM_forget_110 : decode bM_forget 110 = .ok (.iload_n 3, 1) := by decide +kernel
theorem dM_forget_111 : decode bM_forget 111 = .ok (.iaload, 1) := by decide +kernel
theorem dM_forget_112 : decode bM_forget 112 = .ok (.iload_n 1, 1) := by decide +kernel
theorem dM_forget_113 : decode bM_forget 113 = .ok (.if_icmp .eq 54, 3) := by decide +kernel
theorem dM_forget_116 : decode bM_forget 116 = .ok (.aload_n 0, 1) := by decide +kernel
theorem dM_forget_117 : decode bM_forget 117 = .ok (.getfield 45, 3) := by decide +kernel
theorem dM_forget_120 : decode bM_forget 120 = .ok (.iload_n 2, 1) := by decide +kernel
theorem dM_forget_121 : decode bM_forget 121 = .ok (.aload_n 0, 1) := by decide +kernel
theorem dM_forget_122 : decode bM_forget 122 = .ok (.getfield 45, 3) := by decide +kernel
theorem dM_forget_125 : decode bM_forget 125 = .ok (.iload_n 3, 1) := by decide +kernel
theorem dM_forget_126 : decode bM_forget 126 = .ok (.iaload, 1) := by decide +kernel
theorem dM_forget_127 : decode bM_forget 127 = .ok (.iastore, 1) := by decide +kernel
theorem dM_forget_128 : decode bM_forget 128 = .ok (.aload_n 0, 1) := by decide +kernel
theorem dM_forget_129 : decode bM_forget 129 = .ok (.getfield 48, 3) := by decide +kernel
theorem dM_forget_132 : decode bM_forget 132 = .ok (.iload_n 2, 1) := by decide +kernel
theorem dM_forget_133 : decode bM_forget 133 = .ok (.aload_n 0, 1) := by decide +kernel
theorem dM_forget_134 : decode bM_forget 134 = .ok (.getfield 48, 3) := by decide +kernel
theorem dM_forget_137 : decode bM_forget 137 = .ok (.iload_n 3, 1) := by decide +kernel
theorem dM_forget_138 : decode bM_forget 138 = .ok (.laload, 1) := by decide +kernel
theorem dM_forget_139 : decode bM_forget 139 = .ok (.lastore, 1) := by decide +kernel
theorem dM_forget_140 : decode bM_forget 140 = .ok (.aload_n 0, 1) := by decide +kernel
theorem dM_forget_141 : decode bM_forget 141 = .ok (.getfield 51, 3) := by decide +kernel
theorem dM_forget_144 : decode bM_forget 144 = .ok (.iload_n 2, 1) := by decide +kernel
theorem dM_forget_145 : decode bM_forget 145 = .ok (.aload_n 0, 1) := by decide +kernel
theorem dM_forget_146 : decode bM_forget 146 = .ok (.getfield 51, 3) := by decide +kernel
theorem dM_forget_149 : decode bM_forget 149 = .ok (.iload_n 3, 1) := by decide +kernel
theorem dM_forget_150 : decode bM_forget 150 = .ok (.iaload, 1) := by decide +kernel
theorem dM_forget_151 : decode bM_forget 151 = .ok (.iastore, 1) := by decide +kernel
theorem dM_forget_152 : decode bM_forget 152 = .ok (.aload_n 0, 1) := by decide +kernel
theorem dM_forget_153 : decode bM_forget 153 = .ok (.getfield 54, 3) := by decide +kernel
theorem dM_forget_156 : decode bM_forget 156 = .ok (.iload_n 2, 1) := by decide +kernel
theorem dM_forget_157 : decode bM_forget 157 = .ok (.aload_n 0, 1) := by decide +kernel
theorem dM_forget_158 : decode bM_forget 158 = .ok (.getfield 54, 3) := by decide +kernel
theorem dM_forget_161 : decode bM_forget 161 = .ok (.iload_n 3, 1) := by decide +kernel
theorem dM_forget_162 : decode bM_forget 162 = .ok (.laload, 1) := by decide +kernel
theorem dM_forget_163 : decode bM_forget 163 = .ok (.lastore, 1) := by decide +kernel
theorem dM_forget_164 : decode bM_forget 164 = .ok (.iinc 2 1, 3) := by decide +kernel
theorem dM_forget_167 : decode bM_forget 167 = .ok (.iinc 3 1, 3) := by decide +kernel
theorem dM_forget_170 : decode bM_forget 170 = .ok (.goto (-82), 3) := by decide +kernel
theorem dM_forget_173 : decode bM_forget 173 = .ok (.aload_n 0, 1) := by decide +kernel
theorem dM_forget_174 : decode bM_forget 174 = .ok (.iload_n 2, 1) := by decide +kernel
theorem dM_forget_175 : decode bM_forget 175 = .ok (.putfield 145, 3) := by decide +kernel
theorem dM_forget_178 : decode bM_forget 178 = .ok (.return_, 1) := by decide +kernel
theorem dM_read_0 : decode bM_read 0 = .ok (.aload_n 0, 1) := by decide +kernel
theorem dM_read_1 : decode bM_read 1 = .ok (.iconst 0, 1) := by decide +kernel
theorem dM_read_2 : decode bM_read 2 = .ok (.putfield 86, 3) := by decide +kernel
theorem dM_read_5 : decode bM_read 5 = .ok (.aload_n 0, 1) := by decide +kernel
theorem dM_read_6 : decode bM_read 6 = .ok (.iconst (-1), 1) := by decide +kernel
theorem dM_read_7 : decode bM_read 7 = .ok (.putfield 13, 3) := by decide +kernel
theorem dM_read_10 : decode bM_read 10 = .ok (.aload_n 0, 1) := by decide +kernel
theorem dM_read_11 : decode bM_read 11 = .ok (.invokevirtual 148, 3) := by decide +kernel
theorem dM_read_14 : decode bM_read 14 = .ok (.istore_n 1, 1) := by decide +kernel
theorem dM_read_15 : decode bM_read 15 = .ok (.aload_n 0, 1) := by decide +kernel
theorem dM_read_16 : decode bM_read 16 = .ok (.iconst 0, 1) := by decide +kernel
theorem dM_read_17 : decode bM_read 17 = .ok (.putfield 83, 3) := by decide +kernel
theorem dM_read_20 : decode bM_read 20 = .ok (.iload_n 1, 1) := by decide +kernel
theorem dM_read_21 : decode bM_read 21 = .ok (.ifCond .ne 9, 3) := by decide +kernel
theorem dM_read_24 : decode bM_read 24 = .ok (.aload_n 0, 1) := by decide +kernel
theorem dM_read_25 : decode bM_read 25 = .ok (.iconst 1, 1) := by decide +kernel
theorem dM_read_26 : decode bM_read 26 = .ok (.invokevirtual 152, 3) := by decide +kernel
theorem dM_read_29 : decode bM_read 29 = .ok (.ireturn, 1) := by decide +kernel
theorem dM_read_30 : decode bM_read 30 = .ok (.aload_n 0, 1) := by decide +kernel
theorem dM_read_31 : decode bM_read 31 = .ok (.iconst 0, 1) := by decide +kernel
theorem dM_read_32 : decode bM_read 32 = .ok (.putfield 69, 3) := by decide +kernel
theorem dM_read_35 : decode bM_read 35 = .ok (.aload_n 0, 1) := by decide +kernel
theorem dM_read_36 : decode bM_read 36 = .ok (.getfield 17, 3) := by decide +kernel
theorem dM_read_39 : decode bM_read 39 = .ok (.aload_n 0, 1) := by decide +kernel
theorem dM_read_40 : decode bM_read 40 = .ok (.getfield 156, 3) := by decide +kernel
theorem dM_read_43 : decode bM_read 43 = .ok (.aload_n 0, 1) := by decide +kernel
theorem dM_read_44 : decode bM_read 44 = .ok (.getfield 17, 3) := by decide +kernel
theorem dM_read_47 : decode bM_read 47 = .ok (.iconst 3, 1) := by decide +kernel
theorem dM_read_48 : decode bM_read 48 = .ok (.iaload, 1) := by decide +kernel
theorem dM_read_49 : decode bM_read 49 = .ok (.iastore, 1) := by decide +kernel
theorem dM_read_50 : decode bM_read 50 = .ok (.iconst 0, 1) := by decide +kernel
theorem dM_read_51 : decode bM_read 51 = .ok (.istore_n 2, 1) := by decide +kernel
theorem dM_read_52 : decode bM_read 52 = .ok (.iload_n 2, 1) := by decide +kernel
theorem dM_read_53 : decode bM_read 53 = .ok (.aload_n 0, 1) := by decide +kernel
theorem dM_read_54 : decode bM_read 54 = .ok (.getfield 17, 3) := by decide +kernel
theorem dM_read_57 : decode bM_read 57 = .ok (.iconst 3, 1) := by decide +kernel
theorem dM_read_58 : decode bM_read 58 = .ok (.iaload, 1) := by decide +kernel
theorem dM_read_59 : decode bM_read 59 = .ok (.if_icmp .ge 105, 3) := by decide +kernel
theorem dM_read_62 : decode bM_read 62 = .ok (.bipush 40, 2) := by decide +kernel
theorem dM_read_64 : decode bM_read 64 = .ok (.aload_n 0, 1) := by decide +kernel
theorem dM_read_65 : decode bM_read 65 = .ok (.getfield 156, 3) := by decide +kernel
theorem dM_read_68 : decode bM_read 68 = .ok (.imul, 1) := by decide +kernel
theorem dM_read_69 : decode bM_read 69 = .ok (.iload_n 2, 1) := by decide +kernel
theorem dM_read_70 : decode bM_read 70 = .ok (.iadd, 1) := by decide +kernel
theorem dM_read_71 : decode bM_read 71 = .ok (.istore_n 3, 1) := by decide +kernel
theorem dM_read_72 : decode bM_read 72 = .ok (.aload_n 0, 1) := by decide +kernel
theorem dM_read_73 : decode bM_read 73 = .ok (.getfield 20, 3) := by decide +kernel
theorem dM_read_76 : decode bM_read 76 = .ok (.iload_n 3, 1) := by decide +kernel
theorem dM_read_77 : decode bM_read 77 = .ok (.aload_n 0, 1) := by decide +kernel
theorem dM_read_78 : decode bM_read 78 = .ok (.getfield 20, 3) := by decide +kernel
theorem dM_read_81 : decode bM_read 81 = .ok (.bipush 120, 2) := by decide +kernel
theorem dM_read_83 : decode bM_read 83 = .ok (.iload_n 2, 1) := by decide +kernel
theorem dM_read_84 : decode bM_read 84 = .ok (.iadd, 1) := by decide +kernel
theorem dM_read_85 : decode bM_read 85 = .ok (.laload, 1) := by decide +kernel
theorem dM_read_86 : decode bM_read 86 = .ok (.lastore, 1) := by decide +kernel
theorem dM_read_87 : decode bM_read 87 = .ok (.aload_n 0, 1) := by decide +kernel
theorem dM_read_88 : decode bM_read 88 = .ok (.getfield 24, 3) := by decide +kernel
theorem dM_read_91 : decode bM_read 91 = .ok (.iload_n 3, 1) := by decide +kernel
theorem dM_read_92 : decode bM_read 92 = .ok (.aload_n 0, 1) := by decide +kernel
theorem dM_read_93 : decode bM_read 93 = .ok (.getfield 24, 3) := by decide +kernel
theorem dM_read_96 : decode bM_read 96 = .ok (.bipush 120, 2) := by decide +kernel
theorem dM_read_98 : decode bM_read 98 = .ok (.iload_n 2, 1) := by decide +kernel
theorem dM_read_99 : decode bM_read 99 = .ok (.iadd, 1) := by decide +kernel
theorem dM_read_100 : decode bM_read 100 = .ok (.iaload, 1) := by decide +kernel
theorem dM_read_101 : decode bM_read 101 = .ok (.iastore, 1) := by decide +kernel
theorem dM_read_102 : decode bM_read 102 = .ok (.aload_n 0, 1) := by decide +kernel
theorem dM_read_103 : decode bM_read 103 = .ok (.getfield 27, 3) := by decide +kernel
theorem dM_read_106 : decode bM_read 106 = .ok (.iload_n 3, 1) := by decide +kernel
theorem dM_read_107 : decode bM_read 107 = .ok (.aload_n 0, 1) := by decide +kernel
theorem dM_read_108 : decode bM_read 108 = .ok (.getfield 27, 3) := by decide +kernel
theorem dM_read_111 : decode bM_read 111 = .ok (.bipush 120, 2) := by decide +kernel
theorem dM_read_113 : decode bM_read 113 = .ok (.iload_n 2, 1) := by decide +kernel
theorem dM_read_114 : decode bM_read 114 = .ok (.iadd, 1) := by decide +kernel
theorem dM_read_115 : decode bM_read 115 = .ok (.iaload, 1) := by decide +kernel
theorem dM_read_116 : decode bM_read 116 = .ok (.iastore, 1) := by decide +kernel
theorem dM_read_117 : decode bM_read 117 = .ok (.iconst 0, 1) := by decide +kernel
theorem dM_read_118 : decode bM_read 118 = .ok (.istore 4, 2) := by decide +kernel
theorem dM_read_120 : decode bM_read 120 = .ok (.iload 4, 2) := by decide +kernel
theorem dM_read_122 : decode bM_read 122 = .ok (.iconst 4, 1) := by decide +kernel
theorem dM_read_123 : decode bM_read 123 = .ok (.if_icmp .ge 35, 3) := by decide +kernel
theorem dM_read_126 : decode bM_read 126 = .ok (.aload_n 0, 1) := by decide +kernel
theorem dM_read_127 : decode bM_read 127 = .ok (.getfield 30, 3) := by decide +kernel
theorem dM_read_130 : decode bM_read 130 = .ok (.iconst 4, 1) := by decide +kernel
theorem dM_read_131 : decode bM_read 131 = .ok (.iload_n 3, 1) := by decide +kernel
theorem dM_read_132 : decode bM_read 132 = .ok (.imul, 1) := by decide +kernel
theorem dM_read_133 : decode bM_read 133 = .ok (.iload 4, 2) := by decide +kernel
theorem dM_read_135 : decode bM_read 135 = .ok (.iadd, 1) := by decide +kernel
theorem dM_read_136 : decode bM_read 136 = .ok (.aload_n 0, 1) := by decide +kernel
theorem dM_read_137 : decode bM_read 137 = .ok (.getfield 30, 3) := by decide +kernel
theorem dM_read_140 : decode bM_read 140 = .ok (.sipush 480, 3) := by decide +kernel
theorem dM_read_143 : decode bM_read 143 = .ok (.iconst 4, 1) := by decide +kernel
theorem dM_read_144 : decode bM_read 144 = .ok (.iload_n 2, 1) := by decide +kernel
theorem dM_read_145 : decode bM_read 145 = .ok (.imul, 1) := by decide +kernel
theorem dM_read_146 : decode bM_read 146 = .ok (.iadd, 1) := by decide +kernel
theorem dM_read_147 : decode bM_read 147 = .ok (.iload 4, 2) := by decide +kernel
theorem dM_read_149 : decode bM_read 149 = .ok (.iadd, 1) := by decide +kernel
theorem dM_read_150 : decode bM_read 150 = .ok (.laload, 1) := by decide +kernel
theorem dM_read_151 : decode bM_read 151 = .ok (.lastore, 1) := by decide +kernel
theorem dM_read_152 : decode bM_read 152 = .ok (.iinc 4 1, 3) := by decide +kernel
theorem dM_read_155 : decode bM_read 155 = .ok (.goto (-35), 3) := by decide +kernel
theorem dM_read_158 : decode bM_read 158 = .ok (.iinc 2 1, 3) := by decide +kernel
theorem dM_read_161 : decode bM_read 161 = .ok (.goto (-109), 3) := by decide +kernel
theorem dM_read_164 : decode bM_read 164 = .ok (.aload_n 0, 1) := by decide +kernel
theorem dM_read_165 : decode bM_read 165 = .ok (.aload_n 0, 1) := by decide +kernel
theorem dM_read_166 : decode bM_read 166 = .ok (.getfield 156, 3) := by decide +kernel
theorem dM_read_169 : decode bM_read 169 = .ok (.invokevirtual 159, 3) := by decide +kernel
theorem dM_read_172 : decode bM_read 172 = .ok (.aload_n 0, 1) := by decide +kernel
theorem dM_read_173 : decode bM_read 173 = .ok (.getfield 17, 3) := by decide +kernel
theorem dM_read_176 : decode bM_read 176 = .ok (.iconst 3, 1) := by decide +kernel
theorem dM_read_177 : decode bM_read 177 = .ok (.iaload, 1) := by decide +kernel
theorem dM_read_178 : decode bM_read 178 = .ok (.ireturn, 1) := by decide +kernel
theorem dM_failure_0 : decode bM_failure 0 = .ok (.aload_n 0, 1) := by decide +kernel
theorem dM_failure_1 : decode bM_failure 1 = .ok (.iconst 0, 1) := by decide +kernel
theorem dM_failure_2 : decode bM_failure 2 = .ok (.putfield 69, 3) := by decide +kernel
theorem dM_failure_5 : decode bM_failure 5 = .ok (.iload_n 1, 1) := by decide +kernel
theorem dM_failure_6 : decode bM_failure 6 = .ok (.ifCond .ne 10, 3) := by decide +kernel
theorem dM_failure_9 : decode bM_failure 9 = .ok (.aload_n 0, 1) := by decide +kernel
theorem dM_failure_10 : decode bM_failure 10 = .ok (.getfield 86, 3) := by decide +kernel
theorem dM_failure_13 : decode bM_failure 13 = .ok (.goto 16, 3) := by decide +kernel
theorem dM_failure_16 : decode bM_failure 16 = .ok (.iload_n 1, 1) := by decide +kernel
theorem dM_failure_17 : decode bM_failure 17 = .ok (.iconst 1, 1) := by decide +kernel
theorem dM_failure_18 : decode bM_failure 18 = .ok (.if_icmp .ne 10, 3) := by decide +kernel
theorem dM_failure_21 : decode bM_failure 21 = .ok (.aload_n 0, 1) := by decide +kernel
theorem dM_failure_22 : decode bM_failure 22 = .ok (.getfield 13, 3) := by decide +kernel
theorem dM_failure_25 : decode bM_failure 25 = .ok (.goto 4, 3) := by decide +kernel
theorem dM_failure_28 : decode bM_failure 28 = .ok (.iconst (-1), 1) := by decide +kernel
theorem dM_failure_29 : decode bM_failure 29 = .ok (.ireturn, 1) := by decide +kernel
theorem dM_edition_0 : decode bM_edition 0 = .ok (.aload_n 0, 1) := by decide +kernel
theorem dM_edition_1 : decode bM_edition 1 = .ok (.iconst 0, 1) := by decide +kernel
theorem dM_edition_2 : decode bM_edition 2 = .ok (.putfield 69, 3) := by decide +kernel
theorem dM_edition_5 : decode bM_edition 5 = .ok (.iload_n 1, 1) := by decide +kernel
theorem dM_edition_6 : decode bM_edition 6 = .ok (.invokestatic 163, 3) := by decide +kernel
theorem dM_edition_9 : decode bM_edition 9 = .ok (.ifCond .eq 11, 3) := by decide +kernel
theorem dM_edition_12 : decode bM_edition 12 = .ok (.iload_n 1, 1) := by decide +kernel
theorem dM_edition_13 : decode bM_edition 13 = .ok (.aload_n 0, 1) := by decide +kernel
theorem dM_edition_14 : decode bM_edition 14 = .ok (.getfield 156, 3) := by decide +kernel
theorem dM_edition_17 : decode bM_edition 17 = .ok (.if_icmp .ne 5, 3) := by decide +kernel
theorem dM_edition_20 : decode bM_edition 20 = .ok (.iconst 0, 1) := by decide +kernel
theorem dM_edition_21 : decode bM_edition 21 = .ok (.ireturn, 1) := by decide +kernel
theorem dM_edition_22 : decode bM_edition 22 = .ok (.aload_n 0, 1) := by decide +kernel
theorem dM_edition_23 : decode bM_edition 23 = .ok (.iload_n 1, 1) := by decide +kernel
theorem dM_edition_24 : decode bM_edition 24 = .ok (.putfield 156, 3) := by decide +kernel
theorem dM_edition_27 : decode bM_edition 27 = .ok (.iconst 1, 1) := by decide +kernel
theorem dM_edition_28 : decode bM_edition 28 = .ok (.ireturn, 1) := by decide +kernel
theorem dM_below_0 : decode bM_below 0 = .ok (.iconst 0, 1) := by decide +kernel
theorem dM_below_1 : decode bM_below 1 = .ok (.istore_n 3, 1) := by decide +kernel
theorem dM_below_2 : decode bM_below 2 = .ok (.iload_n 2, 1) := by decide +kernel
theorem dM_below_3 : decode bM_below 3 = .ok (.iconst 1, 1) := by decide +kernel
theorem dM_below_4 : decode bM_below 4 = .ok (.iadd, 1) := by decide +kernel
theorem dM_below_5 : decode bM_below 5 = .ok (.istore 4, 2) := by decide +kernel
theorem dM_below_7 : decode bM_below 7 = .ok (.iload 4, 2) := by decide +kernel
theorem dM_below_9 : decode bM_below 9 = .ok (.bipush 40, 2) := by decide +kernel
theorem dM_below_11 : decode bM_below 11 = .ok (.iload_n 1, 1) := by decide +kernel
theorem dM_below_12 : decode bM_below 12 = .ok (.imul, 1) := by decide +kernel
theorem dM_below_13 : decode bM_below 13 = .ok (.aload_n 0, 1) := by decide +kernel
theorem dM_below_14 : decode bM_below 14 = .ok (.getfield 17, 3) := by decide +kernel
theorem dM_below_17 : decode bM_below 17 = .ok (.iload_n 1, 1) := by decide +kernel
theorem dM_below_18 : decode bM_below 18 = .ok (.iaload, 1) := by decide +kernel
theorem dM_below_19 : decode bM_below 19 = .ok (.iadd, 1) := by decide +kernel
theorem dM_below_20 : decode bM_below 20 = .ok (.if_icmp .ge 31, 3) := by decide +kernel
theorem dM_below_23 : decode bM_below 23 = .ok (.iload_n 3, 1) := by decide +kernel
theorem dM_below_24 : decode bM_below 24 = .ok (.aload_n 0, 1) := by decide +kernel
theorem dM_below_25 : decode bM_below 25 = .ok (.bipush 40, 2) := by decide +kernel
theorem dM_below_27 : decode bM_below 27 = .ok (.iload_n 1, 1) := by decide +kernel
theorem dM_below_28 : decode bM_below 28 = .ok (.imul, 1) := by decide +kernel
theorem dM_below_29 : decode bM_below 29 = .ok (.iload 4, 2) := by decide +kernel
theorem dM_below_31 : decode bM_below 31 = .ok (.invokevirtual 123, 3) := by decide +kernel
theorem dM_below_34 : decode bM_below 34 = .ok (.iload_n 2, 1) := by decide +kernel
theorem dM_below_35 : decode bM_below 35 = .ok (.if_icmp .ne 7, 3) := by decide +kernel
theorem dM_below_38 : decode bM_below 38 = .ok (.iconst 1, 1) := by decide +kernel
theorem dM_below_39 : decode bM_below 39 = .ok (.goto 4, 3) := by decide +kernel
theorem dM_below_42 : decode bM_below 42 = .ok (.iconst 0, 1) := by decide +kernel
theorem dM_below_43 : decode bM_below 43 = .ok (.iadd, 1) := by decide +kernel
theorem dM_below_44 : decode bM_below 44 = .ok (.istore_n 3, 1) := by decide +kernel
theorem dM_below_45 : decode bM_below 45 = .ok (.iinc 4 1, 3) := by decide +kernel
theorem dM_below_48 : decode bM_below 48 = .ok (.goto (-41), 3) := by decide +kernel
theorem dM_below_51 : decode bM_below 51 = .ok (.iload_n 3, 1) := by decide +kernel
theorem dM_below_52 : decode bM_below 52 = .ok (.ireturn, 1) := by decide +kernel
theorem dM_row_0 : decode bM_row 0 = .ok (.iload_n 1, 1) := by decide +kernel
theorem dM_row_1 : decode bM_row 1 = .ok (.ifCond .lt 25, 3) := by decide +kernel
theorem dM_row_4 : decode bM_row 4 = .ok (.iload_n 1, 1) := by decide +kernel
theorem dM_row_5 : decode bM_row 5 = .ok (.aload_n 0, 1) := by decide +kernel
theorem dM_row_6 : decode bM_row 6 = .ok (.getfield 17, 3) := by decide +kernel
theorem dM_row_9 : decode bM_row 9 = .ok (.aload_n 0, 1) := by decide +kernel
theorem dM_row_10 : decode bM_row 10 = .ok (.getfield 156, 3) := by decide +kernel
theorem dM_row_13 : decode bM_row 13 = .ok (.iaload, 1) := by decide +kernel
theorem dM_row_14 : decode bM_row 14 = .ok (.if_icmp .ge 12, 3) := by decide +kernel
theorem dM_row_17 : decode bM_row 17 = .ok (.iload_n 2, 1) := by decide +kernel
theorem dM_row_18 : decode bM_row 18 = .ok (.iconst 0, 1) := by decide +kernel
theorem dM_row_19 : decode bM_row 19 = .ok (.iconst 4, 1) := by decide +kernel
theorem dM_row_20 : decode bM_row 20 = .ok (.invokestatic 72, 3) := by decide +kernel
theorem dM_row_23 : decode bM_row 23 = .ok (.ifCond .ne 10, 3) := by decide +kernel
theorem dM_row_26 : decode bM_row 26 = .ok (.aload_n 0, 1) := by decide +kernel
theorem dM_row_27 : decode bM_row 27 = .ok (.iconst 1, 1) := by decide +kernel
theorem dM_row_28 : decode bM_row 28 = .ok (.invokevirtual 152, 3) := by decide +kernel
theorem dM_row_31 : decode bM_row 31 = .ok (.i2l, 1) := by decide +kernel
theorem dM_row_32 : decode bM_row 32 = .ok (.lreturn, 1) := by decide +kernel
theorem dM_row_33 : decode bM_row 33 = .ok (.aload_n 0, 1) := by decide +kernel
theorem dM_row_34 : decode bM_row 34 = .ok (.iconst 0, 1) := by decide +kernel
theorem dM_row_35 : decode bM_row 35 = .ok (.putfield 69, 3) := by decide +kernel
theorem dM_row_38 : decode bM_row 38 = .ok (.bipush 40, 2) := by decide +kernel
theorem dM_row_40 : decode bM_row 40 = .ok (.aload_n 0, 1) := by decide +kernel
theorem dM_row_41 : decode bM_row 41 = .ok (.getfield 156, 3) := by decide +kernel
theorem dM_row_44 : decode bM_row 44 = .ok (.imul, 1) := by decide +kernel
theorem dM_row_45 : decode bM_row 45 = .ok (.iload_n 1, 1) := by decide +kernel
theorem dM_row_46 : decode bM_row 46 = .ok (.iadd, 1) := by decide +kernel
theorem dM_row_47 : decode bM_row 47 = .ok (.istore_n 3, 1) := by decide +kernel
theorem dM_row_48 : decode bM_row 48 = .ok (.aload_n 0, 1) := by decide +kernel
theorem dM_row_49 : decode bM_row 49 = .ok (.bipush 40, 2) := by decide +kernel
theorem dM_row_51 : decode bM_row 51 = .ok (.aload_n 0, 1) := by decide +kernel
theorem dM_row_52 : decode bM_row 52 = .ok (.getfield 156, 3) := by decide +kernel
theorem dM_row_55 : decode bM_row 55 = .ok (.imul, 1) := by decide +kernel
theorem dM_row_56 : decode bM_row 56 = .ok (.iload_n 3, 1) := by decide +kernel
theorem dM_row_57 : decode bM_row 57 = .ok (.invokevirtual 123, 3) := by decide +kernel
theorem dM_row_60 : decode bM_row 60 = .ok (.istore 4, 2) := by decide +kernel
theorem dM_row_62 : decode bM_row 62 = .ok (.iload_n 2, 1) := by decide +kernel
theorem dM_row_63 : decode bM_row 63 = .ok (.tableswitch 69 0 3 #[29, 36, 44, 52], 29) := by decide +kernel
theorem dM_row_92 : decode bM_row 92 = .ok (.aload_n 0, 1) := by decide +kernel
theorem dM_row_93 : decode bM_row 93 = .ok (.getfield 20, 3) := by decide +kernel
theorem dM_row_96 : decode bM_row 96 = .ok (.iload_n 3, 1) := by decide +kernel
theorem dM_row_97 : decode bM_row 97 = .ok (.laload, 1) := by decide +kernel
theorem dM_row_98 : decode bM_row 98 = .ok (.lreturn, 1) := by decide +kernel
theorem dM_row_99 : decode bM_row 99 = .ok (.aload_n 0, 1) := by decide +kernel
theorem dM_row_100 : decode bM_row 100 = .ok (.getfield 24, 3) := by decide +kernel
theorem dM_row_103 : decode bM_row 103 = .ok (.iload_n 3, 1) := by decide +kernel
theorem dM_row_104 : decode bM_row 104 = .ok (.iaload, 1) := by decide +kernel
theorem dM_row_105 : decode bM_row 105 = .ok (.i2l, 1) := by decide +kernel
theorem dM_row_106 : decode bM_row 106 = .ok (.lreturn, 1) := by decide +kernel
theorem dM_row_107 : decode bM_row 107 = .ok (.aload_n 0, 1) := by decide +kernel
theorem dM_row_108 : decode bM_row 108 = .ok (.getfield 27, 3) := by decide +kernel
theorem dM_row_111 : decode bM_row 111 = .ok (.iload_n 3, 1) := by decide +kernel
theorem dM_row_112 : decode bM_row 112 = .ok (.iaload, 1) := by decide +kernel
theorem dM_row_113 : decode bM_row 113 = .ok (.i2l, 1) := by decide +kernel
theorem dM_row_114 : decode bM_row 114 = .ok (.lreturn, 1) := by decide +kernel
theorem dM_row_115 : decode bM_row 115 = .ok (.iload 4, 2) := by decide +kernel
theorem dM_row_117 : decode bM_row 117 = .ok (.ifCond .ge 7, 3) := by decide +kernel
theorem dM_row_120 : decode bM_row 120 = .ok (.lconst 0, 1) := by decide +kernel
theorem dM_row_121 : decode bM_row 121 = .ok (.goto 10, 3) := by decide +kernel
theorem dM_row_124 : decode bM_row 124 = .ok (.aload_n 0, 1) := by decide +kernel
theorem dM_row_125 : decode bM_row 125 = .ok (.getfield 20, 3) := by decide +kernel
theorem dM_row_128 : decode bM_row 128 = .ok (.iload 4, 2) := by decide +kernel
theorem dM_row_130 : decode bM_row 130 = .ok (.laload, 1) := by decide +kernel
theorem dM_row_131 : decode bM_row 131 = .ok (.lreturn, 1) := by decide +kernel
theorem dM_row_132 : decode bM_row 132 = .ok (.aload_n 0, 1) := by decide +kernel
theorem dM_row_133 : decode bM_row 133 = .ok (.aload_n 0, 1) := by decide +kernel
theorem dM_row_134 : decode bM_row 134 = .ok (.getfield 156, 3) := by decide +kernel
theorem dM_row_137 : decode bM_row 137 = .ok (.iload_n 3, 1) := by decide +kernel
theorem dM_row_138 : decode bM_row 138 = .ok (.invokevirtual 166, 3) := by decide +kernel
theorem dM_row_141 : decode bM_row 141 = .ok (.i2l, 1) := by decide +kernel
theorem dM_row_142 : decode bM_row 142 = .ok (.lreturn, 1) := by decide +kernel
theorem dM_rowOf_0 : decode bM_rowOf 0 = .ok (.iconst (-1), 1) := by decide +kernel
theorem dM_rowOf_1 : decode bM_rowOf 1 = .ok (.istore 4, 2) := by decide +kernel
theorem dM_rowOf_3 : decode bM_rowOf 3 = .ok (.iconst 0, 1) := by decide +kernel
theorem dM_rowOf_4 : decode bM_rowOf 4 = .ok (.istore 5, 2) := by decide +kernel
theorem dM_rowOf_6 : decode bM_rowOf 6 = .ok (.iload 5, 2) := by decide +kernel
theorem dM_rowOf_8 : decode bM_rowOf 8 = .ok (.aload_n 0, 1) := by decide +kernel
theorem dM_rowOf_9 : decode bM_rowOf 9 = .ok (.getfield 17, 3) := by decide +kernel
theorem dM_rowOf_12 : decode bM_rowOf 12 = .ok (.iload_n 1, 1) := by decide +kernel
theorem dM_rowOf_13 : decode bM_rowOf 13 = .ok (.iaload, 1) := by decide +kernel
theorem dM_rowOf_14 : decode bM_rowOf 14 = .ok (.if_icmp .ge 35, 3) := by decide +kernel
theorem dM_rowOf_17 : decode bM_rowOf 17 = .ok (.aload_n 0, 1) := by decide +kernel
theorem dM_rowOf_18 : decode bM_rowOf 18 = .ok (.getfield 20, 3) := by decide +kernel
theorem dM_rowOf_21 : decode bM_rowOf 21 = .ok (.bipush 40, 2) := by decide +kernel
theorem dM_rowOf_23 : decode bM_rowOf 23 = .ok (.iload_n 1, 1) := by decide +kernel
theorem dM_rowOf_24 : decode bM_rowOf 24 = .ok (.imul, 1) := by decide +kernel
theorem dM_rowOf_25 : decode bM_rowOf 25 = .ok (.iload 5, 2) := by decide +kernel
theorem dM_rowOf_27 : decode bM_rowOf 27 = .ok (.iadd, 1) := by decide +kernel
theorem dM_rowOf_28 : decode bM_rowOf 28 = .ok (.laload, 1) := by decide +kernel
theorem dM_rowOf_29 : decode bM_rowOf 29 = .ok (.lload_n 2, 1) := by decide +kernel
theorem dM_rowOf_30 : decode bM_rowOf 30 = .ok (.lcmp, 1) := by decide +kernel
theorem dM_rowOf_31 : decode bM_rowOf 31 = .ok (.ifCond .ne 8, 3) := by decide +kernel
theorem dM_rowOf_34 : decode bM_rowOf 34 = .ok (.iload 5, 2) := by decide +kernel
theorem dM_rowOf_36 : decode bM_rowOf 36 = .ok (.goto 5, 3) := by decide +kernel
theorem dM_rowOf_39 : decode bM_rowOf 39 = .ok (.iload 4, 2) := by decide +kernel
theorem dM_rowOf_41 : decode bM_rowOf 41 = .ok (.istore 4, 2) := by decide +kernel
theorem dM_rowOf_43 : decode bM_rowOf 43 = .ok (.iinc 5 1, 3) := by decide +kernel
theorem dM_rowOf_46 : decode bM_rowOf 46 = .ok (.goto (-40), 3) := by decide +kernel
theorem dM_rowOf_49 : decode bM_rowOf 49 = .ok (.iload 4, 2) := by decide +kernel
theorem dM_rowOf_51 : decode bM_rowOf 51 = .ok (.ireturn, 1) := by decide +kernel
theorem dM_find_0 : decode bM_find 0 = .ok (.aload_n 0, 1) := by decide +kernel
theorem dM_find_1 : decode bM_find 1 = .ok (.iconst 0, 1) := by decide +kernel
theorem dM_find_2 : decode bM_find 2 = .ok (.putfield 69, 3) := by decide +kernel
theorem dM_find_5 : decode bM_find 5 = .ok (.aload_n 0, 1) := by decide +kernel
theorem dM_find_6 : decode bM_find 6 = .ok (.aload_n 0, 1) := by decide +kernel
theorem dM_find_7 : decode bM_find 7 = .ok (.getfield 156, 3) := by decide +kernel
theorem dM_find_10 : decode bM_find 10 = .ok (.lload_n 1, 1) := by decide +kernel
theorem dM_find_11 : decode bM_find 11 = .ok (.invokevirtual 169, 3) := by decide +kernel
theorem dM_find_14 : decode bM_find 14 = .ok (.ireturn, 1) := by decide +kernel
theorem dM_notesOf_0 : decode bM_notesOf 0 = .ok (.iconst 0, 1) := by decide +kernel
theorem dM_notesOf_1 : decode bM_notesOf 1 = .ok (.istore_n 2, 1) := by decide +kernel
theorem dM_notesOf_2 : decode bM_notesOf 2 = .ok (.iconst 0, 1) := by decide +kernel
theorem dM_notesOf_3 : decode bM_notesOf 3 = .ok (.istore_n 3, 1) := by decide +kernel
theorem dM_notesOf_4 : decode bM_notesOf 4 = .ok (.iload_n 3, 1) := by decide +kernel
theorem dM_notesOf_5 : decode bM_notesOf 5 = .ok (.aload_n 0, 1) := by decide +kernel
theorem dM_notesOf_6 : decode bM_notesOf 6 = .ok (.getfield 142, 3) := by decide +kernel
theorem dM_notesOf_9 : decode bM_notesOf 9 = .ok (.if_icmp .ge 27, 3) := by decide +kernel
theorem dM_notesOf_12 : decode bM_notesOf 12 = .ok (.iload_n 2, 1) := by decide +kernel
theorem dM_notesOf_13 : decode bM_notesOf 13 = .ok (.aload_n 0, 1) := by decide +kernel
theorem dM_notesOf_14 : decode bM_notesOf 14 = .ok (.getfield 33, 3) := by decide +kernel
theorem dM_notesOf_17 : decode bM_notesOf 17 = .ok (.iload_n 3, 1) := by decide +kernel
theorem dM_notesOf_18 : decode bM_notesOf 18 = .ok (.iaload, 1) := by decide +kernel
theorem dM_notesOf_19 : decode bM_notesOf 19 = .ok (.iload_n 1, 1) := by decide +kernel
theorem dM_notesOf_20 : decode bM_notesOf 20 = .ok (.if_icmp .ne 7, 3) := by decide +kernel
theorem dM_notesOf_23 : decode bM_notesOf 23 = .ok (.iconst 1, 1) := by decide +kernel
theorem dM_notesOf_24 : decode bM_notesOf 24 = .ok (.goto 4, 3) := by decide +kernel
theorem dM_notesOf_27 : decode bM_notesOf 27 = .ok (.iconst 0, 1) := by decide +kernel
theorem dM_notesOf_28 : decode bM_notesOf 28 = .ok (.iadd, 1) := by decide +kernel
theorem dM_notesOf_29 : decode bM_notesOf 29 = .ok (.istore_n 2, 1) := by decide +kernel
theorem dM_notesOf_30 : decode bM_notesOf 30 = .ok (.iinc 3 1, 3) := by decide +kernel
theorem dM_notesOf_33 : decode bM_notesOf 33 = .ok (.goto (-29), 3) := by decide +kernel
theorem dM_notesOf_36 : decode bM_notesOf 36 = .ok (.iload_n 2, 1) := by decide +kernel
theorem dM_notesOf_37 : decode bM_notesOf 37 = .ok (.ireturn, 1) := by decide +kernel
theorem dM_isNote_0 : decode bM_isNote 0 = .ok (.aload_n 0, 1) := by decide +kernel
theorem dM_isNote_1 : decode bM_isNote 1 = .ok (.getfield 33, 3) := by decide +kernel
theorem dM_isNote_4 : decode bM_isNote 4 = .ok (.iload_n 1, 1) := by decide +kernel
theorem dM_isNote_5 : decode bM_isNote 5 = .ok (.iaload, 1) := by decide +kernel
theorem dM_isNote_6 : decode bM_isNote 6 = .ok (.aload_n 0, 1) := by decide +kernel
theorem dM_isNote_7 : decode bM_isNote 7 = .ok (.getfield 156, 3) := by decide +kernel
theorem dM_isNote_10 : decode bM_isNote 10 = .ok (.if_icmp .ne 41, 3) := by decide +kernel
theorem dM_isNote_13 : decode bM_isNote 13 = .ok (.aload_n 0, 1) := by decide +kernel
theorem dM_isNote_14 : decode bM_isNote 14 = .ok (.getfield 36, 3) := by decide +kernel
theorem dM_isNote_17 : decode bM_isNote 17 = .ok (.iload_n 1, 1) := by decide +kernel
theorem dM_isNote_18 : decode bM_isNote 18 = .ok (.laload, 1) := by decide +kernel
theorem dM_isNote_19 : decode bM_isNote 19 = .ok (.lload_n 2, 1) := by decide +kernel
theorem dM_isNote_20 : decode bM_isNote 20 = .ok (.lcmp, 1) := by decide +kernel
theorem dM_isNote_21 : decode bM_isNote 21 = .ok (.ifCond .ne 30, 3) := by decide +kernel
theorem dM_isNote_24 : decode bM_isNote 24 = .ok (.aload_n 0, 1) := by decide +kernel
theorem dM_isNote_25 : decode bM_isNote 25 = .ok (.getfield 39, 3) := by decide +kernel
theorem dM_isNote_28 : decode bM_isNote 28 = .ok (.iload_n 1, 1) := by decide +kernel
theorem dM_isNote_29 : decode bM_isNote 29 = .ok (.iaload, 1) := by decide +kernel
theorem dM_isNote_30 : decode bM_isNote 30 = .ok (.iload 4, 2) := by decide +kernel
theorem dM_isNote_32 : decode bM_isNote 32 = .ok (.if_icmp .ne 19, 3) := by decide +kernel
theorem dM_isNote_35 : decode bM_isNote 35 = .ok (.aload_n 0, 1) := by decide +kernel
theorem dM_isNote_36 : decode bM_isNote 36 = .ok (.getfield 42, 3) := by decide +kernel
theorem dM_isNote_39 : decode bM_isNote 39 = .ok (.iload_n 1, 1) := by decide +kernel
theorem dM_isNote_40 : decode bM_isNote 40 = .ok (.laload, 1) := by decide +kernel
theorem dM_isNote_41 : decode bM_isNote 41 = .ok (.lload 5, 2) := by decide +kernel
theorem dM_isNote_43 : decode bM_isNote 43 = .ok (.lcmp, 1) := by decide +kernel
theorem dM_isNote_44 : decode bM_isNote 44 = .ok (.ifCond .ne 7, 3) := by decide +kernel
theorem dM_isNote_47 : decode bM_isNote 47 = .ok (.iconst 1, 1) := by decide +kernel
theorem dM_isNote_48 : decode bM_isNote 48 = .ok (.goto 4, 3) := by decide +kernel
theorem dM_isNote_51 : decode bM_isNote 51 = .ok (.iconst 0, 1) := by decide +kernel
theorem dM_isNote_52 : decode bM_isNote 52 = .ok (.ireturn, 1) := by decide +kernel
theorem dM_hasNote_0 : decode bM_hasNote 0 = .ok (.iconst 0, 1) := by decide +kernel
theorem dM_hasNote_1 : decode bM_hasNote 1 = .ok (.istore 6, 2) := by decide +kernel
theorem dM_hasNote_3 : decode bM_hasNote 3 = .ok (.iconst 0, 1) := by decide +kernel
theorem dM_hasNote_4 : decode bM_hasNote 4 = .ok (.istore 7, 2) := by decide +kernel
theorem dM_hasNote_6 : decode bM_hasNote 6 = .ok (.iload 7, 2) := by decide +kernel
theorem dM_hasNote_8 : decode bM_hasNote 8 = .ok (.aload_n 0, 1) := by decide +kernel
theorem dM_hasNote_9 : decode bM_hasNote 9 = .ok (.getfield 142, 3) := by decide +kernel
theorem dM_hasNote_12 : decode bM_hasNote 12 = .ok (.if_icmp .ge 34, 3) := by decide +kernel
theorem dM_hasNote_15 : decode bM_hasNote 15 = .ok (.iload 6, 2) := by decide +kernel
theorem dM_hasNote_17 : decode bM_hasNote 17 = .ok (.ifCond .ne 16, 3) := by decide +kernel
theorem dM_hasNote_20 : decode bM_hasNote 20 = .ok (.aload_n 0, 1) := by decide +kernel
theorem dM_hasNote_21 : decode bM_hasNote 21 = .ok (.iload 7, 2) := by decide +kernel
theorem dM_hasNote_23 : decode bM_hasNote 23 = .ok (.lload_n 1, 1) := by decide +kernel
theorem dM_hasNote_24 : decode bM_hasNote 24 = .ok (.iload_n 3, 1) := by decide +kernel
theorem dM_hasNote_25 : decode bM_hasNote 25 = .ok (.lload 4, 2) := by decide +kernel
theorem dM_hasNote_27 : decode bM_hasNote 27 = .ok (.invokevirtual 173, 3) := by decide +kernel
theorem dM_hasNote_30 : decode bM_hasNote 30 = .ok (.ifCond .eq 7, 3) := by decide +kernel
theorem dM_hasNote_33 : decode bM_hasNote 33 = .ok (.iconst 1, 1) := by decide +kernel
theorem dM_hasNote_34 : decode bM_hasNote 34 = .ok (.goto 4, 3) := by decide +kernel
theorem dM_hasNote_37 : decode bM_hasNote 37 = .ok (.iconst 0, 1) := by decide +kernel
theorem dM_hasNote_38 : decode bM_hasNote 38 = .ok (.istore 6, 2) := by decide +kernel
theorem dM_hasNote_40 : decode bM_hasNote 40 = .ok (.iinc 7 1, 3) := by decide +kernel
theorem dM_hasNote_43 : decode bM_hasNote 43 = .ok (.goto (-37), 3) := by decide +kernel
theorem dM_hasNote_46 : decode bM_hasNote 46 = .ok (.iload 6, 2) := by decide +kernel
theorem dM_hasNote_48 : decode bM_hasNote 48 = .ok (.ireturn, 1) := by decide +kernel
theorem dM_note_0 : decode bM_note 0 = .ok (.aload_n 0, 1) := by decide +kernel
theorem dM_note_1 : decode bM_note 1 = .ok (.aload_n 0, 1) := by decide +kernel
theorem dM_note_2 : decode bM_note 2 = .ok (.getfield 156, 3) := by decide +kernel
theorem dM_note_5 : decode bM_note 5 = .ok (.lload_n 1, 1) := by decide +kernel
theorem dM_note_6 : decode bM_note 6 = .ok (.invokevirtual 169, 3) := by decide +kernel
theorem dM_note_9 : decode bM_note 9 = .ok (.ifCond .lt 32, 3) := by decide +kernel
theorem dM_note_12 : decode bM_note 12 = .ok (.aload_n 0, 1) := by decide +kernel
theorem dM_note_13 : decode bM_note 13 = .ok (.aload_n 0, 1) := by decide +kernel
theorem dM_note_14 : decode bM_note 14 = .ok (.getfield 156, 3) := by decide +kernel
theorem dM_note_17 : decode bM_note 17 = .ok (.lload 4, 2) := by decide +kernel
theorem dM_note_19 : decode bM_note 19 = .ok (.invokevirtual 169, 3) := by decide +kernel
theorem dM_note_22 : decode bM_note 22 = .ok (.ifCond .lt 19, 3) := by decide +kernel
theorem dM_note_25 : decode bM_note 25 = .ok (.lload_n 1, 1) := by decide +kernel
theorem dM_note_26 : decode bM_note 26 = .ok (.lload 4, 2) := by decide +kernel
theorem dM_note_28 : decode bM_note 28 = .ok (.lcmp, 1) := by decide +kernel
theorem dM_note_29 : decode bM_note 29 = .ok (.ifCond .eq 12, 3) := by decide +kernel
theorem dM_note_32 : decode bM_note 32 = .ok (.iload_n 3, 1) := by decide +kernel
theorem dM_note_33 : decode bM_note 33 = .ok (.iconst 0, 1) := by decide +kernel
theorem dM_note_34 : decode bM_note 34 = .ok (.iconst 1, 1) := by decide +kernel
theorem dM_note_35 : decode bM_note 35 = .ok (.invokestatic 72, 3) := by decide +kernel
theorem dM_note_38 : decode bM_note 38 = .ok (.ifCond .ne 9, 3) := by decide +kernel
theorem dM_note_41 : decode bM_note 41 = .ok (.aload_n 0, 1) := by decide +kernel
theorem dM_note_42 : decode bM_note 42 = .ok (.iconst 1, 1) := by decide +kernel
theorem dM_note_43 : decode bM_note 43 = .ok (.invokevirtual 152, 3) := by decide +kernel
theorem dM_note_46 : decode bM_note 46 = .ok (.ireturn, 1) := by decide +kernel
theorem dM_note_47 : decode bM_note 47 = .ok (.aload_n 0, 1) := by decide +kernel
theorem dM_note_48 : decode bM_note 48 = .ok (.getfield 142, 3) := by decide +kernel
theorem dM_note_51 : decode bM_note 51 = .ok (.bipush 20, 2) := by decide +kernel
theorem dM_note_53 : decode bM_note 53 = .ok (.if_icmp .eq 14, 3) := by decide +kernel
theorem dM_note_56 : decode bM_note 56 = .ok (.aload_n 0, 1) := by decide +kernel
theorem dM_note_57 : decode bM_note 57 = .ok (.lload_n 1, 1) := by decide +kernel
theorem dM_note_58 : decode bM_note 58 = .ok (.iload_n 3, 1) := by decide +kernel
theorem dM_note_59 : decode bM_note 59 = .ok (.lload 4, 2) := by decide +kernel
theorem dM_note_61 : decode bM_note 61 = .ok (.invokevirtual 177, 3) := by decide +kernel
theorem dM_note_64 : decode bM_note 64 = .ok (.ifCond .eq 9, 3) := by decide +kernel
theorem dM_note_67 : decode bM_note 67 = .ok (.aload_n 0, 1) := by decide +kernel
theorem dM_note_68 : decode bM_note 68 = .ok (.iconst 2, 1) := by decide +kernel
theorem dM_note_69 : decode bM_note 69 = .ok (.invokevirtual 152, 3) := by decide +kernel
theorem dM_note_72 : decode bM_note 72 = .ok (.ireturn, 1) := by decide +kernel
theorem dM_note_73 : decode bM_note 73 = .ok (.aload_n 0, 1) := by decide +kernel
theorem dM_note_74 : decode bM_note 74 = .ok (.iconst 0, 1) := by decide +kernel
theorem dM_note_75 : decode bM_note 75 = .ok (.putfield 69, 3) := by decide +kernel
theorem dM_note_78 : decode bM_note 78 = .ok (.aload_n 0, 1) := by decide +kernel
theorem dM_note_79 : decode bM_note 79 = .ok (.getfield 33, 3) := by decide +kernel
theorem dM_note_82 : decode bM_note 82 = .ok (.aload_n 0, 1) := by decide +kernel
theorem dM_note_83 : decode bM_note 83 = .ok (.getfield 142, 3) := by decide +kernel
theorem dM_note_86 : decode bM_note 86 = .ok (.aload_n 0, 1) := by decide +kernel
theorem dM_note_87 : decode bM_note 87 = .ok (.getfield 156, 3) := by decide +kernel
theorem dM_note_90 : decode bM_note 90 = .ok (.iastore, 1) := by decide +kernel
theorem dM_note_91 : decode bM_note 91 = .ok (.aload_n 0, 1) := by decide +kernel
theorem dM_note_92 : decode bM_note 92 = .ok (.getfield 36, 3) := by decide +kernel
theorem dM_note_95 : decode bM_note 95 = .ok (.aload_n 0, 1) := by decide +kernel
theorem dM_note_96 : decode bM_note 96 = .ok (.getfield 142, 3) := by decide +kernel
theorem dM_note_99 : decode bM_note 99 = .ok (.lload_n 1, 1) := by decide +kernel
theorem dM_note_100 : decode bM_note 100 = .ok (.lastore, 1) := by decide +kernel
theorem dM_note_101 : decode bM_note 101 = .ok (.aload_n 0, 1) := by decide +kernel
theorem dM_note_102 : decode bM_note 102 = .ok (.getfield 39, 3) := by decide +kernel
theorem dM_note_105 : decode bM_note 105 = .ok (.aload_n 0, 1) := by decide +kernel
theorem dM_note_106 : decode bM_note 106 = .ok (.getfield 142, 3) := by decide +kernel
theorem dM_note_109 : decode bM_note 109 = .ok (.iload_n 3, 1) := by decide +kernel
theorem dM_note_110 : decode bM_note 110 = .ok (.iastore, 1) := by decide +kernel
theorem dM_note_111 : decode bM_note 111 = .ok (.aload_n 0, 1) := by decide +kernel
theorem dM_note_112 : decode bM_note 112 = .ok (.getfield 42, 3) := by decide +kernel
theorem dM_note_115 : decode bM_note 115 = .ok (.aload_n 0, 1) := by decide +kernel
theorem dM_note_116 : decode bM_note 116 = .ok (.getfield 142, 3) := by decide +kernel
theorem dM_note_119 : decode bM_note 119 = .ok (.lload 4, 2) := by decide +kernel
theorem dM_note_121 : decode bM_note 121 = .ok (.lastore, 1) := by decide +kernel
theorem dM_note_122 : decode bM_note 122 = .ok (.aload_n 0, 1) := by decide +kernel
theorem dM_note_123 : decode bM_note 123 = .ok (.dup, 1) := by decide +kernel
theorem dM_note_124 : decode bM_note 124 = .ok (.getfield 142, 3) := by decide +kernel
theorem dM_note_127 : decode bM_note 127 = .ok (.iconst 1, 1) := by decide +kernel
theorem dM_note_128 : decode bM_note 128 = .ok (.iadd, 1) := by decide +kernel
theorem dM_note_129 : decode bM_note 129 = .ok (.putfield 142, 3) := by decide +kernel
theorem dM_note_132 : decode bM_note 132 = .ok (.aload_n 0, 1) := by decide +kernel
theorem dM_note_133 : decode bM_note 133 = .ok (.aload_n 0, 1) := by decide +kernel
theorem dM_note_134 : decode bM_note 134 = .ok (.getfield 156, 3) := by decide +kernel
theorem dM_note_137 : decode bM_note 137 = .ok (.invokevirtual 181, 3) := by decide +kernel
theorem dM_note_140 : decode bM_note 140 = .ok (.ireturn, 1) := by decide +kernel
theorem dM_noted_0 : decode bM_noted 0 = .ok (.aload_n 0, 1) := by decide +kernel
theorem dM_noted_1 : decode bM_noted 1 = .ok (.aload_n 0, 1) := by decide +kernel
theorem dM_noted_2 : decode bM_noted 2 = .ok (.getfield 156, 3) := by decide +kernel
theorem dM_noted_5 : decode bM_noted 5 = .ok (.lload_n 1, 1) := by decide +kernel
theorem dM_noted_6 : decode bM_noted 6 = .ok (.invokevirtual 169, 3) := by decide +kernel
theorem dM_noted_9 : decode bM_noted 9 = .ok (.ifCond .ge 9, 3) := by decide +kernel
theorem dM_noted_12 : decode bM_noted 12 = .ok (.aload_n 0, 1) := by decide +kernel
theorem dM_noted_13 : decode bM_noted 13 = .ok (.iconst 1, 1) := by decide +kernel
theorem dM_noted_14 : decode bM_noted 14 = .ok (.invokevirtual 152, 3) := by decide +kernel
theorem dM_noted_17 : decode bM_noted 17 = .ok (.ireturn, 1) := by decide +kernel
theorem dM_noted_18 : decode bM_noted 18 = .ok (.aload_n 0, 1) := by decide +kernel
theorem dM_noted_19 : decode bM_noted 19 = .ok (.iconst 0, 1) := by decide +kernel
theorem dM_noted_20 : decode bM_noted 20 = .ok (.putfield 69, 3) := by decide +kernel
theorem dM_noted_23 : decode bM_noted 23 = .ok (.iload_n 3, 1) := by decide +kernel
theorem dM_noted_24 : decode bM_noted 24 = .ok (.istore 4, 2) := by decide +kernel
theorem dM_noted_26 : decode bM_noted 26 = .ok (.iconst 0, 1) := by decide +kernel
theorem dM_noted_27 : decode bM_noted 27 = .ok (.istore 5, 2) := by decide +kernel
theorem dM_noted_29 : decode bM_noted 29 = .ok (.iload 5, 2) := by decide +kernel
theorem dM_noted_31 : decode bM_noted 31 = .ok (.aload_n 0, 1) := by decide +kernel
theorem dM_noted_32 : decode bM_noted 32 = .ok (.getfield 142, 3) := by decide +kernel
theorem dM_noted_35 : decode bM_noted 35 = .ok (.if_icmp .ge 93, 3) := by decide +kernel
theorem dM_noted_38 : decode bM_noted 38 = .ok (.aload_n 0, 1) := by decide +kernel
theorem dM_noted_39 : decode bM_noted 39 = .ok (.getfield 33, 3) := by decide +kernel
theorem dM_noted_42 : decode bM_noted 42 = .ok (.iload 5, 2) := by decide +kernel
theorem dM_noted_44 : decode bM_noted 44 = .ok (.iaload, 1) := by decide +kernel
theorem dM_noted_45 : decode bM_noted 45 = .ok (.aload_n 0, 1) := by decide +kernel
theorem dM_noted_46 : decode bM_noted 46 = .ok (.getfield 156, 3) := by decide +kernel
theorem dM_noted_49 : decode bM_noted 49 = .ok (.if_icmp .ne 19, 3) := by decide +kernel
theorem dM_noted_52 : decode bM_noted 52 = .ok (.aload_n 0, 1) := by decide +kernel
theorem dM_noted_53 : decode bM_noted 53 = .ok (.getfield 36, 3) := by decide +kernel
theorem dM_noted_56 : decode bM_noted 56 = .ok (.iload 5, 2) := by decide +kernel
theorem dM_noted_58 : decode bM_noted 58 = .ok (.laload, 1) := by decide +kernel
theorem dM_noted_59 : decode bM_noted 59 = .ok (.lload_n 1, 1) := by decide +kernel
theorem dM_noted_60 : decode bM_noted 60 = .ok (.lcmp, 1) := by decide +kernel
theorem dM_noted_61 : decode bM_noted 61 = .ok (.ifCond .ne 7, 3) := by decide +kernel
theorem dM_noted_64 : decode bM_noted 64 = .ok (.iconst 1, 1) := by decide +kernel
theorem dM_noted_65 : decode bM_noted 65 = .ok (.goto 4, 3) := by decide +kernel
theorem dM_noted_68 : decode bM_noted 68 = .ok (.iconst 0, 1) := by decide +kernel
theorem dM_noted_69 : decode bM_noted 69 = .ok (.istore 6, 2) := by decide +kernel
theorem dM_noted_71 : decode bM_noted 71 = .ok (.iload 6, 2) := by decide +kernel
theorem dM_noted_73 : decode bM_noted 73 = .ok (.ifCond .eq 34, 3) := by decide +kernel
theorem dM_noted_76 : decode bM_noted 76 = .ok (.iload 4, 2) := by decide +kernel
theorem dM_noted_78 : decode bM_noted 78 = .ok (.ifCond .ne 29, 3) := by decide +kernel
theorem dM_noted_81 : decode bM_noted 81 = .ok (.iconst 2, 1) := by decide +kernel
theorem dM_noted_82 : decode bM_noted 82 = .ok (.aload_n 0, 1) := by decide +kernel
theorem dM_noted_83 : decode bM_noted 83 = .ok (.aload_n 0, 1) := by decide +kernel
theorem dM_noted_84 : decode bM_noted 84 = .ok (.getfield 156, 3) := by decide +kernel
theorem dM_noted_87 : decode bM_noted 87 = .ok (.aload_n 0, 1) := by decide +kernel
theorem dM_noted_88 : decode bM_noted 88 = .ok (.getfield 42, 3) := by decide +kernel
theorem dM_noted_91 : decode bM_noted 91 = .ok (.iload 5, 2) := by decide +kernel
theorem dM_noted_93 : decode bM_noted 93 = .ok (.laload, 1) := by decide +kernel
theorem dM_noted_94 : decode bM_noted 94 = .ok (.invokevirtual 169, 3) := by decide +kernel
theorem dM_noted_97 : decode bM_noted 97 = .ok (.imul, 1) := by decide +kernel
theorem dM_noted_98 : decode bM_noted 98 = .ok (.aload_n 0, 1) := by decide +kernel
theorem dM_noted_99 : decode bM_noted 99 = .ok (.getfield 39, 3) := by decide +kernel
theorem dM_noted_102 : decode bM_noted 102 = .ok (.iload 5, 2) := by decide +kernel
theorem dM_noted_104 : decode bM_noted 104 = .ok (.iaload, 1) := by decide +kernel
theorem dM_noted_105 : decode bM_noted 105 = .ok (.iadd, 1) := by decide +kernel
theorem dM_noted_106 : decode bM_noted 106 = .ok (.ireturn, 1) := by decide +kernel
theorem dM_noted_107 : decode bM_noted 107 = .ok (.iload 4, 2) := by decide +kernel
theorem dM_noted_109 : decode bM_noted 109 = .ok (.iload 6, 2) := by decide +kernel
theorem dM_noted_111 : decode bM_noted 111 = .ok (.ifCond .eq 7, 3) := by decide +kernel
theorem dM_noted_114 : decode bM_noted 114 = .ok (.iconst 1, 1) := by decide +kernel
theorem dM_noted_115 : decode bM_noted 115 = .ok (.goto 4, 3) := by decide +kernel
theorem dM_noted_118 : decode bM_noted 118 = .ok (.iconst 0, 1) := by decide +kernel
theorem dM_noted_119 : decode bM_noted 119 = .ok (.isub, 1) := by decide +kernel
theorem dM_noted_120 : decode bM_noted 120 = .ok (.istore 4, 2) := by decide +kernel
theorem dM_noted_122 : decode bM_noted 122 = .ok (.iinc 5 1, 3) := by decide +kernel
theorem dM_noted_125 : decode bM_noted 125 = .ok (.goto (-96), 3) := by decide +kernel
theorem dM_noted_128 : decode bM_noted 128 = .ok (.iconst (-1), 1) := by decide +kernel
theorem dM_noted_129 : decode bM_noted 129 = .ok (.ireturn, 1) := by decide +kernel
theorem dM_isLink_0 : decode bM_isLink 0 = .ok (.aload_n 0, 1) := by decide +kernel
theorem dM_isLink_1 : decode bM_isLink 1 = .ok (.getfield 45, 3) := by decide +kernel
theorem dM_isLink_4 : decode bM_isLink 4 = .ok (.iload_n 1, 1) := by decide +kernel
theorem dM_isLink_5 : decode bM_isLink 5 = .ok (.iaload, 1) := by decide +kernel
theorem dM_isLink_6 : decode bM_isLink 6 = .ok (.iload_n 2, 1) := by decide +kernel
theorem dM_isLink_7 : decode bM_isLink 7 = .ok (.if_icmp .ne 29, 3) := by decide +kernel
theorem dM_isLink_10 : decode bM_isLink 10 = .ok (.aload_n 0, 1) := by decide +kernel
theorem dM_isLink_11 : decode bM_isLink 11 = .ok (.getfield 48, 3) := by decide +kernel
theorem dM_isLink_14 : decode bM_isLink 14 = .ok (.iload_n 1, 1) := by decide +kernel
theorem dM_isLink_15 : decode bM_isLink 15 = .ok (.laload, 1) := by decide +kernel
theorem dM_isLink_16 : decode bM_isLink 16 = .ok (.lload_n 3, 1) := by decide +kernel
theorem dM_isLink_17 : decode bM_isLink 17 = .ok (.lcmp, 1) := by decide +kernel
theorem dM_isLink_18 : decode bM_isLink 18 = .ok (.ifCond .ne 18, 3) := by decide +kernel
theorem dM_isLink_21 : decode bM_isLink 21 = .ok (.aload_n 0, 1) := by decide +kernel
theorem dM_isLink_22 : decode bM_isLink 22 = .ok (.getfield 51, 3) := by decide +kernel
theorem dM_isLink_25 : decode bM_isLink 25 = .ok (.iload_n 1, 1) := by decide +kernel
theorem dM_isLink_26 : decode bM_isLink 26 = .ok (.iaload, 1) := by decide +kernel
theorem dM_isLink_27 : decode bM_isLink 27 = .ok (.iload 5, 2) := by decide +kernel
theorem dM_isLink_29 : decode bM_isLink 29 = .ok (.if_icmp .ne 7, 3) := by decide +kernel
theorem dM_isLink_32 : decode bM_isLink 32 = .ok (.iconst 1, 1) := by decide +kernel
theorem dM_isLink_33 : decode bM_isLink 33 = .ok (.goto 4, 3) := by decide +kernel
theorem dM_isLink_36 : decode bM_isLink 36 = .ok (.iconst 0, 1) := by decide +kernel
theorem dM_isLink_37 : decode bM_isLink 37 = .ok (.ireturn, 1) := by decide +kernel
theorem dM_link_0 : decode bM_link 0 = .ok (.aload_n 0, 1) := by decide +kernel
theorem dM_link_1 : decode bM_link 1 = .ok (.iconst 0, 1) := by decide +kernel
theorem dM_link_2 : decode bM_link 2 = .ok (.putfield 69, 3) := by decide +kernel
theorem dM_link_5 : decode bM_link 5 = .ok (.iload_n 1, 1) := by decide +kernel
theorem dM_link_6 : decode bM_link 6 = .ok (.invokestatic 163, 3) := by decide +kernel
theorem dM_link_9 : decode bM_link 9 = .ok (.ifCond .eq 69, 3) := by decide +kernel
theorem dM_link_12 : decode bM_link 12 = .ok (.iload 4, 2) := by decide +kernel
theorem dM_link_14 : decode bM_link 14 = .ok (.invokestatic 163, 3) := by decide +kernel
theorem dM_link_17 : decode bM_link 17 = .ok (.ifCond .eq 61, 3) := by decide +kernel
theorem dM_link_20 : decode bM_link 20 = .ok (.iload_n 1, 1) := by decide +kernel
theorem dM_link_21 : decode bM_link 21 = .ok (.iload 4, 2) := by decide +kernel
theorem dM_link_23 : decode bM_link 23 = .ok (.if_icmp .eq 55, 3) := by decide +kernel
theorem dM_link_26 : decode bM_link 26 = .ok (.aload_n 0, 1) := by decide +kernel
theorem dM_link_27 : decode bM_link 27 = .ok (.iload_n 1, 1) := by decide +kernel
theorem dM_link_28 : decode bM_link 28 = .ok (.invokestatic 163, 3) := by decide +kernel
theorem dM_link_31 : decode bM_link 31 = .ok (.ifCond .eq 7, 3) := by decide +kernel
theorem dM_link_34 : decode bM_link 34 = .ok (.iload_n 1, 1) := by decide +kernel
theorem dM_link_35 : decode bM_link 35 = .ok (.goto 4, 3) := by decide +kernel
theorem dM_link_38 : decode bM_link 38 = .ok (.iconst 0, 1) := by decide +kernel
theorem dM_link_39 : decode bM_link 39 = .ok (.lload_n 2, 1) := by decide +kernel
theorem dM_link_40 : decode bM_link 40 = .ok (.invokevirtual 169, 3) := by decide +kernel
theorem dM_link_43 : decode bM_link 43 = .ok (.ifCond .lt 35, 3) := by decide +kernel
theorem dM_link_46 : decode bM_link 46 = .ok (.aload_n 0, 1) := by decide +kernel
theorem dM_link_47 : decode bM_link 47 = .ok (.iload 4, 2) := by decide +kernel
theorem dM_link_49 : decode bM_link 49 = .ok (.invokestatic 163, 3) := by decide +kernel
theorem dM_link_52 : decode bM_link 52 = .ok (.ifCond .eq 8, 3) := by decide +kernel
theorem dM_link_55 : decode bM_link 55 = .ok (.iload 4, 2) := by decide +kernel
theorem dM_link_57 : decode bM_link 57 = .ok (.goto 4, 3) := by decide +kernel
theorem dM_link_60 : decode bM_link 60 = .ok (.iconst 0, 1) := by decide +kernel
theorem dM_link_61 : decode bM_link 61 = .ok (.lload 5, 2) := by decide +kernel
theorem dM_link_63 : decode bM_link 63 = .ok (.invokevirtual 169, 3) := by decide +kernel
theorem dM_link_66 : decode bM_link 66 = .ok (.ifCond .lt 12, 3) := by decide +kernel
theorem dM_link_69 : decode bM_link 69 = .ok (.aload_n 0, 1) := by decide +kernel
theorem dM_link_70 : decode bM_link 70 = .ok (.getfield 145, 3) := by decide +kernel
theorem dM_link_73 : decode bM_link 73 = .ok (.bipush 60, 2) := by decide +kernel
theorem dM_link_75 : decode bM_link 75 = .ok (.if_icmp .ne 5, 3) := by decide +kernel
theorem dM_link_78 : decode bM_link 78 = .ok (.iconst 0, 1) := by decide +kernel
theorem dM_link_79 : decode bM_link 79 = .ok (.ireturn, 1) := by decide +kernel
theorem dM_link_80 : decode bM_link 80 = .ok (.iconst 0, 1) := by decide +kernel
theorem dM_link_81 : decode bM_link 81 = .ok (.istore 7, 2) := by decide +kernel
theorem dM_link_83 : decode bM_link 83 = .ok (.iload 7, 2) := by decide +kernel
theorem dM_link_85 : decode bM_link 85 = .ok (.aload_n 0, 1) := by decide +kernel
theorem dM_link_86 : decode bM_link 86 = .ok (.getfield 145, 3) := by decide +kernel
theorem dM_link_89 : decode bM_link 89 = .ok (.if_icmp .ge 37, 3) := by decide +kernel
theorem dM_link_92 : decode bM_link 92 = .ok (.aload_n 0, 1) := by decide +kernel
theorem dM_link_93 : decode bM_link 93 = .ok (.iload 7, 2) := by decide +kernel
theorem dM_link_95 : decode bM_link 95 = .ok (.iload_n 1, 1) := by decide +kernel
theorem dM_link_96 : decode bM_link 96 = .ok (.lload_n 2, 1) := by decide +kernel
theorem dM_link_97 : decode bM_link 97 = .ok (.iload 4, 2) := by decide +kernel
theorem dM_link_99 : decode bM_link 99 = .ok (.invokevirtual 184, 3) := by decide +kernel
theorem dM_link_102 : decode bM_link 102 = .ok (.ifCond .eq 18, 3) := by decide +kernel
theorem dM_link_105 : decode bM_link 105 = .ok (.aload_n 0, 1) := by decide +kernel
theorem dM_link_106 : decode bM_link 106 = .ok (.getfield 54, 3) := by decide +kernel
theorem dM_link_109 : decode bM_link 109 = .ok (.iload 7, 2) := by decide +kernel
theorem dM_link_111 : decode bM_link 111 = .ok (.laload, 1) := by decide +kernel
theorem dM_link_112 : decode bM_link 112 = .ok (.lload 5, 2) := by decide +kernel
theorem dM_link_114 : decode bM_link 114 = .ok (.lcmp, 1) := by decide +kernel
theorem dM_link_115 : decode bM_link 115 = .ok (.ifCond .ne 5, 3) := by decide +kernel
theorem dM_link_118 : decode bM_link 118 = .ok (.iconst 0, 1) := by decide +kernel
theorem dM_link_119 : decode bM_link 119 = .ok (.ireturn, 1) := by decide +kernel
theorem dM_link_120 : decode bM_link 120 = .ok (.iinc 7 1, 3) := by decide +kernel
theorem dM_link_123 : decode bM_link 123 = .ok (.goto (-40), 3) := by decide +kernel
theorem dM_link_126 : decode bM_link 126 = .ok (.aload_n 0, 1) := by decide +kernel
theorem dM_link_127 : decode bM_link 127 = .ok (.getfield 45, 3) := by decide +kernel
theorem dM_link_130 : decode bM_link 130 = .ok (.aload_n 0, 1) := by decide +kernel
theorem dM_link_131 : decode bM_link 131 = .ok (.getfield 145, 3) := by decide +kernel
theorem dM_link_134 : decode bM_link 134 = .ok (.iload_n 1, 1) := by decide +kernel
theorem dM_link_135 : decode bM_link 135 = .ok (.iastore, 1) := by decide +kernel
theorem dM_link_136 : decode bM_link 136 = .ok (.aload_n 0, 1) := by decide +kernel
theorem dM_link_137 : decode bM_link 137 = .ok (.getfield 48, 3) := by decide +kernel
theorem dM_link_140 : decode bM_link 140 = .ok (.aload_n 0, 1) := by decide +kernel
theorem dM_link_141 : decode bM_link 141 = .ok (.getfield 145, 3) := by decide +kernel
theorem dM_link_144 : decode bM_link 144 = .ok (.lload_n 2, 1) := by decide +kernel
theorem dM_link_145 : decode bM_link 145 = .ok (.lastore, 1) := by decide +kernel
theorem dM_link_146 : decode bM_link 146 = .ok (.aload_n 0, 1) := by decide +kernel
theorem dM_link_147 : decode bM_link 147 = .ok (.getfield 51, 3) := by decide +kernel
theorem dM_link_150 : decode bM_link 150 = .ok (.aload_n 0, 1) := by decide +kernel
theorem dM_link_151 : decode bM_link 151 = .ok (.getfield 145, 3) := by decide +kernel
theorem dM_link_154 : decode bM_link 154 = .ok (.iload 4, 2) := by decide +kernel
theorem dM_link_156 : decode bM_link 156 = .ok (.iastore, 1) := by decide +kernel
theorem dM_link_157 : decode bM_link 157 = .ok (.aload_n 0, 1) := by decide +kernel
theorem dM_link_158 : decode bM_link 158 = .ok (.getfield 54, 3) := by decide +kernel
theorem dM_link_161 : decode bM_link 161 = .ok (.aload_n 0, 1) := by decide +kernel
theorem dM_link_162 : decode bM_link 162 = .ok (.getfield 145, 3) := by decide +kernel
theorem dM_link_165 : decode bM_link 165 = .ok (.lload 5, 2) := by decide +kernel
theorem dM_link_167 : decode bM_link 167 = .ok (.lastore, 1) := by decide +kernel
theorem dM_link_168 : decode bM_link 168 = .ok (.aload_n 0, 1) := by decide +kernel
theorem dM_link_169 : decode bM_link 169 = .ok (.dup, 1) := by decide +kernel
theorem dM_link_170 : decode bM_link 170 = .ok (.getfield 145, 3) := by decide +kernel
theorem dM_link_173 : decode bM_link 173 = .ok (.iconst 1, 1) := by decide +kernel
theorem dM_link_174 : decode bM_link 174 = .ok (.iadd, 1) := by decide +kernel
theorem dM_link_175 : decode bM_link 175 = .ok (.putfield 145, 3) := by decide +kernel
theorem dM_link_178 : decode bM_link 178 = .ok (.iconst 1, 1) := by decide +kernel
theorem dM_link_179 : decode bM_link 179 = .ok (.ireturn, 1) := by decide +kernel
theorem dM_isOf_0 : decode bM_isOf 0 = .ok (.iload_n 1, 1) := by decide +kernel
theorem dM_isOf_1 : decode bM_isOf 1 = .ok (.invokestatic 163, 3) := by decide +kernel
theorem dM_isOf_4 : decode bM_isOf 4 = .ok (.ifCond .eq 41, 3) := by decide +kernel
theorem dM_isOf_7 : decode bM_isOf 7 = .ok (.iload 4, 2) := by decide +kernel
theorem dM_isOf_9 : decode bM_isOf 9 = .ok (.invokestatic 163, 3) := by decide +kernel
theorem dM_isOf_12 : decode bM_isOf 12 = .ok (.ifCond .eq 33, 3) := by decide +kernel
theorem dM_isOf_15 : decode bM_isOf 15 = .ok (.iload_n 1, 1) := by decide +kernel
theorem dM_isOf_16 : decode bM_isOf 16 = .ok (.iload 4, 2) := by decide +kernel
theorem dM_isOf_18 : decode bM_isOf 18 = .ok (.if_icmp .eq 27, 3) := by decide +kernel
theorem dM_isOf_21 : decode bM_isOf 21 = .ok (.aload_n 0, 1) := by decide +kernel
theorem dM_isOf_22 : decode bM_isOf 22 = .ok (.iload_n 1, 1) := by decide +kernel
theorem dM_isOf_23 : decode bM_isOf 23 = .ok (.invokestatic 163, 3) := by decide +kernel
theorem dM_isOf_26 : decode bM_isOf 26 = .ok (.ifCond .eq 7, 3) := by decide +kernel
theorem dM_isOf_29 : decode bM_isOf 29 = .ok (.iload_n 1, 1) := by decide +kernel
theorem dM_isOf_30 : decode bM_isOf 30 = .ok (.goto 4, 3) := by decide +kernel
theorem dM_isOf_33 : decode bM_isOf 33 = .ok (.iconst 0, 1) := by decide +kernel
theorem dM_isOf_34 : decode bM_isOf 34 = .ok (.lload_n 2, 1) := by decide +kernel
theorem dM_isOf_35 : decode bM_isOf 35 = .ok (.invokevirtual 169, 3) := by decide +kernel
theorem dM_isOf_38 : decode bM_isOf 38 = .ok (.ifCond .lt 7, 3) := by decide +kernel
theorem dM_isOf_41 : decode bM_isOf 41 = .ok (.iconst 1, 1) := by decide +kernel
theorem dM_isOf_42 : decode bM_isOf 42 = .ok (.goto 4, 3) := by decide +kernel
theorem dM_isOf_45 : decode bM_isOf 45 = .ok (.iconst 0, 1) := by decide +kernel
theorem dM_isOf_46 : decode bM_isOf 46 = .ok (.ireturn, 1) := by decide +kernel
theorem dM_linksOf_0 : decode bM_linksOf 0 = .ok (.iconst 0, 1) := by decide +kernel
theorem dM_linksOf_1 : decode bM_linksOf 1 = .ok (.istore 5, 2) := by decide +kernel
theorem dM_linksOf_3 : decode bM_linksOf 3 = .ok (.iconst 0, 1) := by decide +kernel
theorem dM_linksOf_4 : decode bM_linksOf 4 = .ok (.istore 6, 2) := by decide +kernel
theorem dM_linksOf_6 : decode bM_linksOf 6 = .ok (.iload 6, 2) := by decide +kernel
theorem dM_linksOf_8 : decode bM_linksOf 8 = .ok (.aload_n 0, 1) := by decide +kernel
theorem dM_linksOf_9 : decode bM_linksOf 9 = .ok (.getfield 145, 3) := by decide +kernel
theorem dM_linksOf_12 : decode bM_linksOf 12 = .ok (.if_icmp .ge 32, 3) := by decide +kernel
theorem dM_linksOf_15 : decode bM_linksOf 15 = .ok (.iload 5, 2) := by decide +kernel
theorem dM_linksOf_17 : decode bM_linksOf 17 = .ok (.aload_n 0, 1) := by decide +kernel
theorem dM_linksOf_18 : decode bM_linksOf 18 = .ok (.iload 6, 2) := by decide +kernel
theorem dM_linksOf_20 : decode bM_linksOf 20 = .ok (.iload_n 1, 1) := by decide +kernel
theorem dM_linksOf_21 : decode bM_linksOf 21 = .ok (.lload_n 2, 1) := by decide +kernel
theorem dM_linksOf_22 : decode bM_linksOf 22 = .ok (.iload 4, 2) := by decide +kernel
theorem dM_linksOf_24 : decode bM_linksOf 24 = .ok (.invokevirtual 184, 3) := by decide +kernel
theorem dM_linksOf_27 : decode bM_linksOf 27 = .ok (.ifCond .eq 7, 3) := by decide +kernel
theorem dM_linksOf_30 : decode bM_linksOf 30 = .ok (.iconst 1, 1) := by decide +kernel
theorem dM_linksOf_31 : decode bM_linksOf 31 = .ok (.goto 4, 3) := by decide +kernel
theorem dM_linksOf_34 : decode bM_linksOf 34 = .ok (.iconst 0, 1) := by decide +kernel
theorem dM_linksOf_35 : decode bM_linksOf 35 = .ok (.iadd, 1) := by decide +kernel
theorem dM_linksOf_36 : decode bM_linksOf 36 = .ok (.istore 5, 2) := by decide +kernel
theorem dM_linksOf_38 : decode bM_linksOf 38 = .ok (.iinc 6 1, 3) := by decide +kernel
theorem dM_linksOf_41 : decode bM_linksOf 41 = .ok (.goto (-35), 3) := by decide +kernel
theorem dM_linksOf_44 : decode bM_linksOf 44 = .ok (.iload 5, 2) := by decide +kernel
theorem dM_linksOf_46 : decode bM_linksOf 46 = .ok (.ireturn, 1) := by decide +kernel
theorem dM_linksTo_0 : decode bM_linksTo 0 = .ok (.iconst 0, 1) := by decide +kernel
theorem dM_linksTo_1 : decode bM_linksTo 1 = .ok (.istore 5, 2) := by decide +kernel
theorem dM_linksTo_3 : decode bM_linksTo 3 = .ok (.iconst 0, 1) := by decide +kernel
theorem dM_linksTo_4 : decode bM_linksTo 4 = .ok (.istore 6, 2) := by decide +kernel
theorem dM_linksTo_6 : decode bM_linksTo 6 = .ok (.iload 6, 2) := by decide +kernel
theorem dM_linksTo_8 : decode bM_linksTo 8 = .ok (.aload_n 0, 1) := by decide +kernel
theorem dM_linksTo_9 : decode bM_linksTo 9 = .ok (.getfield 145, 3) := by decide +kernel
theorem dM_linksTo_12 : decode bM_linksTo 12 = .ok (.if_icmp .ge 53, 3) := by decide +kernel
theorem dM_linksTo_15 : decode bM_linksTo 15 = .ok (.iload 5, 2) := by decide +kernel
theorem dM_linksTo_17 : decode bM_linksTo 17 = .ok (.aload_n 0, 1) := by decide +kernel
theorem dM_linksTo_18 : decode bM_linksTo 18 = .ok (.getfield 45, 3) := by decide +kernel
theorem dM_linksTo_21 : decode bM_linksTo 21 = .ok (.iload 6, 2) := by decide +kernel
theorem dM_linksTo_23 : decode bM_linksTo 23 = .ok (.iaload, 1) := by decide +kernel
theorem dM_linksTo_24 : decode bM_linksTo 24 = .ok (.iload_n 1, 1) := by decide +kernel
theorem dM_linksTo_25 : decode bM_linksTo 25 = .ok (.if_icmp .ne 30, 3) := by decide +kernel
theorem dM_linksTo_28 : decode bM_linksTo 28 = .ok (.aload_n 0, 1) := by decide +kernel
theorem dM_linksTo_29 : decode bM_linksTo 29 = .ok (.getfield 51, 3) := by decide +kernel
theorem dM_linksTo_32 : decode bM_linksTo 32 = .ok (.iload 6, 2) := by decide +kernel
theorem dM_linksTo_34 : decode bM_linksTo 34 = .ok (.iaload, 1) := by decide +kernel
theorem dM_linksTo_35 : decode bM_linksTo 35 = .ok (.iload_n 2, 1) := by decide +kernel
theorem dM_linksTo_36 : decode bM_linksTo 36 = .ok (.if_icmp .ne 19, 3) := by decide +kernel
theorem dM_linksTo_39 : decode bM_linksTo 39 = .ok (.aload_n 0, 1) := by decide +kernel
theorem dM_linksTo_40 : decode bM_linksTo 40 = .ok (.getfield 54, 3) := by decide +kernel
theorem dM_linksTo_43 : decode bM_linksTo 43 = .ok (.iload 6, 2) := by decide +kernel
theorem dM_linksTo_45 : decode bM_linksTo 45 = .ok (.laload, 1) := by decide +kernel
theorem dM_linksTo_46 : decode bM_linksTo 46 = .ok (.lload_n 3, 1) := by decide +kernel
theorem dM_linksTo_47 : decode bM_linksTo 47 = .ok (.lcmp, 1) := by decide +kernel
theorem dM_linksTo_48 : decode bM_linksTo 48 = .ok (.ifCond .ne 7, 3) := by decide +kernel
theorem dM_linksTo_51 : decode bM_linksTo 51 = .ok (.iconst 1, 1) := by decide +kernel
theorem dM_linksTo_52 : decode bM_linksTo 52 = .ok (.goto 4, 3) := by decide +kernel
theorem dM_linksTo_55 : decode bM_linksTo 55 = .ok (.iconst 0, 1) := by decide +kernel
theorem dM_linksTo_56 : decode bM_linksTo 56 = .ok (.iadd, 1) := by decide +kernel
theorem dM_linksTo_57 : decode bM_linksTo 57 = .ok (.istore 5, 2) := by decide +kernel
theorem dM_linksTo_59 : decode bM_linksTo 59 = .ok (.iinc 6 1, 3) := by decide +kernel
theorem dM_linksTo_62 : decode bM_linksTo 62 = .ok (.goto (-56), 3) := by decide +kernel
theorem dM_linksTo_65 : decode bM_linksTo 65 = .ok (.iload 5, 2) := by decide +kernel
theorem dM_linksTo_67 : decode bM_linksTo 67 = .ok (.ireturn, 1) := by decide +kernel
theorem dM_became_0 : decode bM_became 0 = .ok (.aload_n 0, 1) := by decide +kernel
theorem dM_became_1 : decode bM_became 1 = .ok (.iload_n 1, 1) := by decide +kernel
theorem dM_became_2 : decode bM_became 2 = .ok (.lload_n 2, 1) := by decide +kernel
theorem dM_became_3 : decode bM_became 3 = .ok (.iload 4, 2) := by decide +kernel
theorem dM_became_5 : decode bM_became 5 = .ok (.invokevirtual 188, 3) := by decide +kernel
theorem dM_became_8 : decode bM_became 8 = .ok (.ifCond .ne 9, 3) := by decide +kernel
theorem dM_became_11 : decode bM_became 11 = .ok (.aload_n 0, 1) := by decide +kernel
theorem dM_became_12 : decode bM_became 12 = .ok (.iconst 1, 1) := by decide +kernel
theorem dM_became_13 : decode bM_became 13 = .ok (.invokevirtual 152, 3) := by decide +kernel
theorem dM_became_16 : decode bM_became 16 = .ok (.ireturn, 1) := by decide +kernel
theorem dM_became_17 : decode bM_became 17 = .ok (.aload_n 0, 1) := by decide +kernel
theorem dM_became_18 : decode bM_became 18 = .ok (.iconst 0, 1) := by decide +kernel
theorem dM_became_19 : decode bM_became 19 = .ok (.putfield 69, 3) := by decide +kernel
theorem dM_became_22 : decode bM_became 22 = .ok (.aload_n 0, 1) := by decide +kernel
theorem dM_became_23 : decode bM_became 23 = .ok (.iload_n 1, 1) := by decide +kernel
theorem dM_became_24 : decode bM_became 24 = .ok (.lload_n 2, 1) := by decide +kernel
theorem dM_became_25 : decode bM_became 25 = .ok (.iload 4, 2) := by decide +kernel
theorem dM_became_27 : decode bM_became 27 = .ok (.invokevirtual 192, 3) := by decide +kernel
theorem dM_became_30 : decode bM_became 30 = .ok (.istore 5, 2) := by decide +kernel
theorem dM_became_32 : decode bM_became 32 = .ok (.iconst 0, 1) := by decide +kernel
theorem dM_became_33 : decode bM_became 33 = .ok (.istore 6, 2) := by decide +kernel
theorem dM_became_35 : decode bM_became 35 = .ok (.iconst 0, 1) := by decide +kernel
theorem dM_became_36 : decode bM_became 36 = .ok (.istore 7, 2) := by decide +kernel
theorem dM_became_38 : decode bM_became 38 = .ok (.iload 7, 2) := by decide +kernel
theorem dM_became_40 : decode bM_became 40 = .ok (.aload_n 0, 1) := by decide +kernel
theorem dM_became_41 : decode bM_became 41 = .ok (.getfield 145, 3) := by decide +kernel
theorem dM_became_44 : decode bM_became 44 = .ok (.if_icmp .ge 52, 3) := by decide +kernel
theorem dM_became_47 : decode bM_became 47 = .ok (.iload 6, 2) := by decide +kernel
theorem dM_became_49 : decode bM_became 49 = .ok (.ifCond .ne 34, 3) := by decide +kernel
theorem dM_became_52 : decode bM_became 52 = .ok (.aload_n 0, 1) := by decide +kernel
theorem dM_became_53 : decode bM_became 53 = .ok (.iload 7, 2) := by decide +kernel
theorem dM_became_55 : decode bM_became 55 = .ok (.iload_n 1, 1) := by decide +kernel
theorem dM_became_56 : decode bM_became 56 = .ok (.lload_n 2, 1) := by decide +kernel
theorem dM_became_57 : decode bM_became 57 = .ok (.iload 4, 2) := by decide +kernel
theorem dM_became_59 : decode bM_became 59 = .ok (.invokevirtual 184, 3) := by decide +kernel
theorem dM_became_62 : decode bM_became 62 = .ok (.ifCond .eq 25, 3) := by decide +kernel
theorem dM_became_65 : decode bM_became 65 = .ok (.aload_n 0, 1) := by decide +kernel
theorem dM_became_66 : decode bM_became 66 = .ok (.iload_n 1, 1) := by decide +kernel
theorem dM_became_67 : decode bM_became 67 = .ok (.iload 4, 2) := by decide +kernel
theorem dM_became_69 : decode bM_became 69 = .ok (.aload_n 0, 1) := by decide +kernel
theorem dM_became_70 : decode bM_became 70 = .ok (.getfield 54, 3) := by decide +kernel
theorem dM_became_73 : decode bM_became 73 = .ok (.iload 7, 2) := by decide +kernel
theorem dM_became_75 : decode bM_became 75 = .ok (.laload, 1) := by decide +kernel
theorem dM_became_76 : decode bM_became 76 = .ok (.invokevirtual 196, 3) := by decide +kernel
theorem dM_became_79 : decode bM_became 79 = .ok (.iconst 1, 1) := by decide +kernel
theorem dM_became_80 : decode bM_became 80 = .ok (.if_icmp .le 7, 3) := by decide +kernel
theorem dM_became_83 : decode bM_became 83 = .ok (.iconst 1, 1) := by decide +kernel
theorem dM_became_84 : decode bM_became 84 = .ok (.goto 4, 3) := by decide +kernel
theorem dM_became_87 : decode bM_became 87 = .ok (.iconst 0, 1) := by decide +kernel
theorem dM_became_88 : decode bM_became 88 = .ok (.istore 6, 2) := by decide +kernel
theorem dM_became_90 : decode bM_became 90 = .ok (.iinc 7 1, 3) := by decide +kernel
theorem dM_became_93 : decode bM_became 93 = .ok (.goto (-55), 3) := by decide +kernel
theorem dM_became_96 : decode bM_became 96 = .ok (.iload 5, 2) := by decide +kernel
theorem dM_became_98 : decode bM_became 98 = .ok (.ifCond .ne 7, 3) := by decide +kernel
theorem dM_became_101 : decode bM_became 101 = .ok (.iconst 0, 1) := by decide +kernel
theorem dM_became_102 : decode bM_became 102 = .ok (.goto 32, 3) := by decide +kernel
theorem dM_became_105 : decode bM_became 105 = .ok (.iload 5, 2) := by decide +kernel
theorem dM_became_107 : decode bM_became 107 = .ok (.iconst 1, 1) := by decide +kernel
theorem dM_became_108 : decode bM_became 108 = .ok (.if_icmp .ne 16, 3) := by decide +kernel
theorem dM_became_111 : decode bM_became 111 = .ok (.iload 6, 2) := by decide +kernel
theorem dM_became_113 : decode bM_became 113 = .ok (.ifCond .eq 7, 3) := by decide +kernel
theorem dM_became_116 : decode bM_became 116 = .ok (.iconst 3, 1) := by decide +kernel
theorem dM_became_117 : decode bM_became 117 = .ok (.goto 17, 3) := by decide +kernel
theorem dM_became_120 : decode bM_became 120 = .ok (.iconst 1, 1) := by decide +kernel
theorem dM_became_121 : decode bM_became 121 = .ok (.goto 13, 3) := by decide +kernel
theorem dM_became_124 : decode bM_became 124 = .ok (.iload 6, 2) := by decide +kernel
theorem dM_became_126 : decode bM_became 126 = .ok (.ifCond .eq 7, 3) := by decide +kernel
theorem dM_became_129 : decode bM_became 129 = .ok (.iconst 4, 1) := by decide +kernel
theorem dM_became_130 : decode bM_became 130 = .ok (.goto 4, 3) := by decide +kernel
theorem dM_became_133 : decode bM_became 133 = .ok (.iconst 2, 1) := by decide +kernel
theorem dM_became_134 : decode bM_became 134 = .ok (.ireturn, 1) := by decide +kernel
theorem dM_linked_0 : decode bM_linked 0 = .ok (.aload_n 0, 1) := by decide +kernel
theorem dM_linked_1 : decode bM_linked 1 = .ok (.iload_n 1, 1) := by decide +kernel
theorem dM_linked_2 : decode bM_linked 2 = .ok (.lload_n 2, 1) := by decide +kernel
theorem dM_linked_3 : decode bM_linked 3 = .ok (.iload 4, 2) := by decide +kernel
theorem dM_linked_5 : decode bM_linked 5 = .ok (.invokevirtual 188, 3) := by decide +kernel
theorem dM_linked_8 : decode bM_linked 8 = .ok (.ifCond .ne 10, 3) := by decide +kernel
theorem dM_linked_11 : decode bM_linked 11 = .ok (.aload_n 0, 1) := by decide +kernel
theorem dM_linked_12 : decode bM_linked 12 = .ok (.iconst 1, 1) := by decide +kernel
theorem dM_linked_13 : decode bM_linked 13 = .ok (.invokevirtual 152, 3) := by decide +kernel
theorem dM_linked_16 : decode bM_linked 16 = .ok (.i2l, 1) := by decide +kernel
theorem dM_linked_17 : decode bM_linked 17 = .ok (.lreturn, 1) := by decide +kernel
theorem dM_linked_18 : decode bM_linked 18 = .ok (.aload_n 0, 1) := by decide +kernel
theorem dM_linked_19 : decode bM_linked 19 = .ok (.iconst 0, 1) := by decide +kernel
theorem dM_linked_20 : decode bM_linked 20 = .ok (.putfield 69, 3) := by decide +kernel
theorem dM_linked_23 : decode bM_linked 23 = .ok (.iload 5, 2) := by decide +kernel
theorem dM_linked_25 : decode bM_linked 25 = .ok (.istore 6, 2) := by decide +kernel
theorem dM_linked_27 : decode bM_linked 27 = .ok (.iconst 0, 1) := by decide +kernel
theorem dM_linked_28 : decode bM_linked 28 = .ok (.istore 7, 2) := by decide +kernel
theorem dM_linked_30 : decode bM_linked 30 = .ok (.iload 7, 2) := by decide +kernel
theorem dM_linked_32 : decode bM_linked 32 = .ok (.aload_n 0, 1) := by decide +kernel
theorem dM_linked_33 : decode bM_linked 33 = .ok (.getfield 145, 3) := by decide +kernel
theorem dM_linked_36 : decode bM_linked 36 = .ok (.if_icmp .ge 58, 3) := by decide +kernel
theorem dM_linked_39 : decode bM_linked 39 = .ok (.aload_n 0, 1) := by decide +kernel
theorem dM_linked_40 : decode bM_linked 40 = .ok (.iload 7, 2) := by decide +kernel
theorem dM_linked_42 : decode bM_linked 42 = .ok (.iload_n 1, 1) := by decide +kernel
theorem dM_linked_43 : decode bM_linked 43 = .ok (.lload_n 2, 1) := by decide +kernel
theorem dM_linked_44 : decode bM_linked 44 = .ok (.iload 4, 2) := by decide +kernel
theorem dM_linked_46 : decode bM_linked 46 = .ok (.invokevirtual 184, 3) := by decide +kernel
theorem dM_linked_49 : decode bM_linked 49 = .ok (.ifCond .eq 16, 3) := by decide +kernel
theorem dM_linked_52 : decode bM_linked 52 = .ok (.iload 6, 2) := by decide +kernel
theorem dM_linked_54 : decode bM_linked 54 = .ok (.ifCond .ne 11, 3) := by decide +kernel
theorem dM_linked_57 : decode bM_linked 57 = .ok (.aload_n 0, 1) := by decide +kernel
theorem dM_linked_58 : decode bM_linked 58 = .ok (.getfield 54, 3) := by decide +kernel
theorem dM_linked_61 : decode bM_linked 61 = .ok (.iload 7, 2) := by decide +kernel
theorem dM_linked_63 : decode bM_linked 63 = .ok (.laload, 1) := by decide +kernel
theorem dM_linked_64 : decode bM_linked 64 = .ok (.lreturn, 1) := by decide +kernel
theorem dM_linked_65 : decode bM_linked 65 = .ok (.iload 6, 2) := by decide +kernel
theorem dM_linked_67 : decode bM_linked 67 = .ok (.aload_n 0, 1) := by decide +kernel
theorem dM_linked_68 : decode bM_linked 68 = .ok (.iload 7, 2) := by decide +kernel
theorem dM_linked_70 : decode bM_linked 70 = .ok (.iload_n 1, 1) := by decide +kernel
theorem dM_linked_71 : decode bM_linked 71 = .ok (.lload_n 2, 1) := by decide +kernel
theorem dM_linked_72 : decode bM_linked 72 = .ok (.iload 4, 2) := by decide +kernel
theorem dM_linked_74 : decode bM_linked 74 = .ok (.invokevirtual 184, 3) := by decide +kernel
theorem dM_linked_77 : decode bM_linked 77 = .ok (.ifCond .eq 7, 3) := by decide +kernel
theorem dM_linked_80 : decode bM_linked 80 = .ok (.iconst 1, 1) := by decide +kernel
theorem dM_linked_81 : decode bM_linked 81 = .ok (.goto 4, 3) := by decide +kernel
theorem dM_linked_84 : decode bM_linked 84 = .ok (.iconst 0, 1) := by decide +kernel
theorem dM_linked_85 : decode bM_linked 85 = .ok (.isub, 1) := by decide +kernel
theorem dM_linked_86 : decode bM_linked 86 = .ok (.istore 6, 2) := by decide +kernel
theorem dM_linked_88 : decode bM_linked 88 = .ok (.iinc 7 1, 3) := by decide +kernel
theorem dM_linked_91 : decode bM_linked 91 = .ok (.goto (-61), 3) := by decide +kernel
theorem dM_linked_94 : decode bM_linked 94 = .ok (.lconst 0, 1) := by decide +kernel
theorem dM_linked_95 : decode bM_linked 95 = .ok (.lreturn, 1) := by decide +kernel
theorem dM_lost_0 : decode bM_lost 0 = .ok (.iload_n 1, 1) := by decide +kernel
theorem dM_lost_1 : decode bM_lost 1 = .ok (.invokestatic 163, 3) := by decide +kernel
theorem dM_lost_4 : decode bM_lost 4 = .ok (.ifCond .eq 15, 3) := by decide +kernel
theorem dM_lost_7 : decode bM_lost 7 = .ok (.iload_n 2, 1) := by decide +kernel
theorem dM_lost_8 : decode bM_lost 8 = .ok (.invokestatic 163, 3) := by decide +kernel
theorem dM_lost_11 : decode bM_lost 11 = .ok (.ifCond .eq 8, 3) := by decide +kernel
theorem dM_lost_14 : decode bM_lost 14 = .ok (.iload_n 1, 1) := by decide +kernel
theorem dM_lost_15 : decode bM_lost 15 = .ok (.iload_n 2, 1) := by decide +kernel
theorem dM_lost_16 : decode bM_lost 16 = .ok (.if_icmp .ne 9, 3) := by decide +kernel
theorem dM_lost_19 : decode bM_lost 19 = .ok (.aload_n 0, 1) := by decide +kernel
theorem dM_lost_20 : decode bM_lost 20 = .ok (.iconst 1, 1) := by decide +kernel
theorem dM_lost_21 : decode bM_lost 21 = .ok (.invokevirtual 152, 3) := by decide +kernel
theorem dM_lost_24 : decode bM_lost 24 = .ok (.ireturn, 1) := by decide +kernel
theorem dM_lost_25 : decode bM_lost 25 = .ok (.aload_n 0, 1) := by decide +kernel
theorem dM_lost_26 : decode bM_lost 26 = .ok (.iconst 0, 1) := by decide +kernel
theorem dM_lost_27 : decode bM_lost 27 = .ok (.putfield 69, 3) := by decide +kernel
theorem dM_lost_30 : decode bM_lost 30 = .ok (.iconst 0, 1) := by decide +kernel
theorem dM_lost_31 : decode bM_lost 31 = .ok (.istore_n 3, 1) := by decide +kernel
theorem dM_lost_32 : decode bM_lost 32 = .ok (.bipush 40, 2) := by decide +kernel
theorem dM_lost_34 : decode bM_lost 34 = .ok (.iload_n 1, 1) := by decide +kernel
theorem dM_lost_35 : decode bM_lost 35 = .ok (.imul, 1) := by decide +kernel
theorem dM_lost_36 : decode bM_lost 36 = .ok (.istore 4, 2) := by decide +kernel
theorem dM_lost_38 : decode bM_lost 38 = .ok (.iload 4, 2) := by decide +kernel
theorem dM_lost_40 : decode bM_lost 40 = .ok (.bipush 40, 2) := by decide +kernel
theorem dM_lost_42 : decode bM_lost 42 = .ok (.iload_n 1, 1) := by decide +kernel
theorem dM_lost_43 : decode bM_lost 43 = .ok (.imul, 1) := by decide +kernel
theorem dM_lost_44 : decode bM_lost 44 = .ok (.aload_n 0, 1) := by decide +kernel
theorem dM_lost_45 : decode bM_lost 45 = .ok (.getfield 17, 3) := by decide +kernel
theorem dM_lost_48 : decode bM_lost 48 = .ok (.iload_n 1, 1) := by decide +kernel
theorem dM_lost_49 : decode bM_lost 49 = .ok (.iaload, 1) := by decide +kernel
theorem dM_lost_50 : decode bM_lost 50 = .ok (.iadd, 1) := by decide +kernel
theorem dM_lost_51 : decode bM_lost 51 = .ok (.if_icmp .ge 43, 3) := by decide +kernel
theorem dM_lost_54 : decode bM_lost 54 = .ok (.iload_n 3, 1) := by decide +kernel
theorem dM_lost_55 : decode bM_lost 55 = .ok (.aload_n 0, 1) := by decide +kernel
theorem dM_lost_56 : decode bM_lost 56 = .ok (.iload_n 1, 1) := by decide +kernel
theorem dM_lost_57 : decode bM_lost 57 = .ok (.iload 4, 2) := by decide +kernel
theorem dM_lost_59 : decode bM_lost 59 = .ok (.invokevirtual 166, 3) := by decide +kernel
theorem dM_lost_62 : decode bM_lost 62 = .ok (.ifCond .ne 23, 3) := by decide +kernel
theorem dM_lost_65 : decode bM_lost 65 = .ok (.aload_n 0, 1) := by decide +kernel
theorem dM_lost_66 : decode bM_lost 66 = .ok (.iload_n 1, 1) := by decide +kernel
theorem dM_lost_67 : decode bM_lost 67 = .ok (.aload_n 0, 1) := by decide +kernel
theorem dM_lost_68 : decode bM_lost 68 = .ok (.getfield 20, 3) := by decide +kernel
theorem dM_lost_71 : decode bM_lost 71 = .ok (.iload 4, 2) := by decide +kernel
theorem dM_lost_73 : decode bM_lost 73 = .ok (.laload, 1) := by decide +kernel
theorem dM_lost_74 : decode bM_lost 74 = .ok (.iload_n 2, 1) := by decide +kernel
theorem dM_lost_75 : decode bM_lost 75 = .ok (.invokevirtual 192, 3) := by decide +kernel
theorem dM_lost_78 : decode bM_lost 78 = .ok (.ifCond .ne 7, 3) := by decide +kernel
theorem dM_lost_81 : decode bM_lost 81 = .ok (.iconst 1, 1) := by decide +kernel
theorem dM_lost_82 : decode bM_lost 82 = .ok (.goto 4, 3) := by decide +kernel
theorem dM_lost_85 : decode bM_lost 85 = .ok (.iconst 0, 1) := by decide +kernel
theorem dM_lost_86 : decode bM_lost 86 = .ok (.iadd, 1) := by decide +kernel
theorem dM_lost_87 : decode bM_lost 87 = .ok (.istore_n 3, 1) := by decide +kernel
theorem dM_lost_88 : decode bM_lost 88 = .ok (.iinc 4 1, 3) := by decide +kernel
theorem dM_lost_91 : decode bM_lost 91 = .ok (.goto (-53), 3) := by decide +kernel
theorem dM_lost_94 : decode bM_lost 94 = .ok (.iload_n 3, 1) := by decide +kernel
theorem dM_lost_95 : decode bM_lost 95 = .ok (.ireturn, 1) := by decide +kernel
theorem dM_has_0 : decode bM_has 0 = .ok (.iconst 0, 1) := by decide +kernel
theorem dM_has_1 : decode bM_has 1 = .ok (.istore 4, 2) := by decide +kernel
theorem dM_has_3 : decode bM_has 3 = .ok (.iconst 4, 1) := by decide +kernel
theorem dM_has_4 : decode bM_has 4 = .ok (.iload_n 1, 1) := by decide +kernel
theorem dM_has_5 : decode bM_has 5 = .ok (.imul, 1) := by decide +kernel
theorem dM_has_6 : decode bM_has 6 = .ok (.istore 5, 2) := by decide +kernel
theorem dM_has_8 : decode bM_has 8 = .ok (.iload 5, 2) := by decide +kernel
theorem dM_has_10 : decode bM_has 10 = .ok (.iconst 4, 1) := by decide +kernel
theorem dM_has_11 : decode bM_has 11 = .ok (.iload_n 1, 1) := by decide +kernel
theorem dM_has_12 : decode bM_has 12 = .ok (.imul, 1) := by decide +kernel
theorem dM_has_13 : decode bM_has 13 = .ok (.aload_n 0, 1) := by decide +kernel
theorem dM_has_14 : decode bM_has 14 = .ok (.getfield 27, 3) := by decide +kernel
theorem dM_has_17 : decode bM_has 17 = .ok (.iload_n 1, 1) := by decide +kernel
theorem dM_has_18 : decode bM_has 18 = .ok (.iaload, 1) := by decide +kernel
theorem dM_has_19 : decode bM_has 19 = .ok (.iadd, 1) := by decide +kernel
theorem dM_has_20 : decode bM_has 20 = .ok (.if_icmp .ge 33, 3) := by decide +kernel
theorem dM_has_23 : decode bM_has 23 = .ok (.iload 4, 2) := by decide +kernel
theorem dM_has_25 : decode bM_has 25 = .ok (.ifCond .ne 15, 3) := by decide +kernel
theorem dM_has_28 : decode bM_has 28 = .ok (.aload_n 0, 1) := by decide +kernel
theorem dM_has_29 : decode bM_has 29 = .ok (.getfield 30, 3) := by decide +kernel
theorem dM_has_32 : decode bM_has 32 = .ok (.iload 5, 2) := by decide +kernel
theorem dM_has_34 : decode bM_has 34 = .ok (.laload, 1) := by decide +kernel
theorem dM_has_35 : decode bM_has 35 = .ok (.lload_n 2, 1) := by decide +kernel
theorem dM_has_36 : decode bM_has 36 = .ok (.lcmp, 1) := by decide +kernel
theorem dM_has_37 : decode bM_has 37 = .ok (.ifCond .ne 7, 3) := by decide +kernel
theorem dM_has_40 : decode bM_has 40 = .ok (.iconst 1, 1) := by decide +kernel
theorem dM_has_41 : decode bM_has 41 = .ok (.goto 4, 3) := by decide +kernel
theorem dM_has_44 : decode bM_has 44 = .ok (.iconst 0, 1) := by decide +kernel
theorem dM_has_45 : decode bM_has 45 = .ok (.istore 4, 2) := by decide +kernel
theorem dM_has_47 : decode bM_has 47 = .ok (.iinc 5 1, 3) := by decide +kernel
theorem dM_has_50 : decode bM_has 50 = .ok (.goto (-42), 3) := by decide +kernel
theorem dM_has_53 : decode bM_has 53 = .ok (.iload 4, 2) := by decide +kernel
theorem dM_has_55 : decode bM_has 55 = .ok (.ireturn, 1) := by decide +kernel
theorem dM_pointsOf_0 : decode bM_pointsOf 0 = .ok (.iconst 0, 1) := by decide +kernel
theorem dM_pointsOf_1 : decode bM_pointsOf 1 = .ok (.istore_n 2, 1) := by decide +kernel
theorem dM_pointsOf_2 : decode bM_pointsOf 2 = .ok (.iconst 0, 1) := by decide +kernel
theorem dM_pointsOf_3 : decode bM_pointsOf 3 = .ok (.istore_n 3, 1) := by decide +kernel
theorem dM_pointsOf_4 : decode bM_pointsOf 4 = .ok (.iconst 0, 1) := by decide +kernel
theorem dM_pointsOf_5 : decode bM_pointsOf 5 = .ok (.istore 4, 2) := by decide +kernel
theorem dM_pointsOf_7 : decode bM_pointsOf 7 = .ok (.iload 4, 2) := by decide +kernel
theorem dM_pointsOf_9 : decode bM_pointsOf 9 = .ok (.aload_n 0, 1) := by decide +kernel
theorem dM_pointsOf_10 : decode bM_pointsOf 10 = .ok (.getfield 129, 3) := by decide +kernel
theorem dM_pointsOf_13 : decode bM_pointsOf 13 = .ok (.if_icmp .ge 140, 3) := by decide +kernel
theorem dM_pointsOf_16 : decode bM_pointsOf 16 = .ok (.iconst 0, 1) := by decide +kernel
theorem dM_pointsOf_17 : decode bM_pointsOf 17 = .ok (.istore 5, 2) := by decide +kernel
theorem dM_pointsOf_19 : decode bM_pointsOf 19 = .ok (.aload_n 0, 1) := by decide +kernel
theorem dM_pointsOf_20 : decode bM_pointsOf 20 = .ok (.bipush 40, 2) := by decide +kernel
theorem dM_pointsOf_22 : decode bM_pointsOf 22 = .ok (.aload_n 0, 1) := by decide +kernel
theorem dM_pointsOf_23 : decode bM_pointsOf 23 = .ok (.getfield 156, 3) := by decide +kernel
theorem dM_pointsOf_26 : decode bM_pointsOf 26 = .ok (.imul, 1) := by decide +kernel
theorem dM_pointsOf_27 : decode bM_pointsOf 27 = .ok (.iload_n 1, 1) := by decide +kernel
theorem dM_pointsOf_28 : decode bM_pointsOf 28 = .ok (.invokevirtual 123, 3) := by decide +kernel
theorem dM_pointsOf_31 : decode bM_pointsOf 31 = .ok (.istore 6, 2) := by decide +kernel
theorem dM_pointsOf_33 : decode bM_pointsOf 33 = .ok (.iload 6, 2) := by decide +kernel
theorem dM_pointsOf_35 : decode bM_pointsOf 35 = .ok (.ifCond .lt 80, 3) := by decide +kernel
theorem dM_pointsOf_38 : decode bM_pointsOf 38 = .ok (.iload 5, 2) := by decide +kernel
theorem dM_pointsOf_40 : decode bM_pointsOf 40 = .ok (.ifCond .ne 19, 3) := by decide +kernel
theorem dM_pointsOf_43 : decode bM_pointsOf 43 = .ok (.aload_n 0, 1) := by decide +kernel
theorem dM_pointsOf_44 : decode bM_pointsOf 44 = .ok (.iload 6, 2) := by decide +kernel
theorem dM_pointsOf_46 : decode bM_pointsOf 46 = .ok (.aload_n 0, 1) := by decide +kernel
theorem dM_pointsOf_47 : decode bM_pointsOf 47 = .ok (.getfield 63, 3) := by decide +kernel
theorem dM_pointsOf_50 : decode bM_pointsOf 50 = .ok (.iload 4, 2) := by decide +kernel
theorem dM_pointsOf_52 : decode bM_pointsOf 52 = .ok (.laload, 1) := by decide +kernel
theorem dM_pointsOf_53 : decode bM_pointsOf 53 = .ok (.invokevirtual 200, 3) := by decide +kernel
theorem dM_pointsOf_56 : decode bM_pointsOf 56 = .ok (.ifCond .eq 7, 3) := by decide +kernel
theorem dM_pointsOf_59 : decode bM_pointsOf 59 = .ok (.iconst 1, 1) := by decide +kernel
theorem dM_pointsOf_60 : decode bM_pointsOf 60 = .ok (.goto 4, 3) := by decide +kernel
theorem dM_pointsOf_63 : decode bM_pointsOf 63 = .ok (.iconst 0, 1) := by decide +kernel
theorem dM_pointsOf_64 : decode bM_pointsOf 64 = .ok (.istore 5, 2) := by decide +kernel
theorem dM_pointsOf_66 : decode bM_pointsOf 66 = .ok (.iload_n 3, 1) := by decide +kernel
theorem dM_pointsOf_67 : decode bM_pointsOf 67 = .ok (.ifCond .ne 24, 3) := by decide +kernel
theorem dM_pointsOf_70 : decode bM_pointsOf 70 = .ok (.aload_n 0, 1) := by decide +kernel
theorem dM_pointsOf_71 : decode bM_pointsOf 71 = .ok (.aload_n 0, 1) := by decide +kernel
theorem dM_pointsOf_72 : decode bM_pointsOf 72 = .ok (.getfield 20, 3) := by decide +kernel
theorem dM_pointsOf_75 : decode bM_pointsOf 75 = .ok (.iload 6, 2) := by decide +kernel
theorem dM_pointsOf_77 : decode bM_pointsOf 77 = .ok (.laload, 1) := by decide +kernel
theorem dM_pointsOf_78 : decode bM_pointsOf 78 = .ok (.iconst 1, 1) := by decide +kernel
theorem dM_pointsOf_79 : decode bM_pointsOf 79 = .ok (.aload_n 0, 1) := by decide +kernel
theorem dM_pointsOf_80 : decode bM_pointsOf 80 = .ok (.getfield 20, 3) := by decide +kernel
theorem dM_pointsOf_83 : decode bM_pointsOf 83 = .ok (.iload_n 1, 1) := by decide +kernel
theorem dM_pointsOf_84 : decode bM_pointsOf 84 = .ok (.laload, 1) := by decide +kernel
theorem dM_pointsOf_85 : decode bM_pointsOf 85 = .ok (.invokevirtual 177, 3) := by decide +kernel
theorem dM_pointsOf_88 : decode bM_pointsOf 88 = .ok (.ifCond .eq 7, 3) := by decide +kernel
theorem dM_pointsOf_91 : decode bM_pointsOf 91 = .ok (.iconst 1, 1) := by decide +kernel
theorem dM_pointsOf_92 : decode bM_pointsOf 92 = .ok (.goto 4, 3) := by decide +kernel
theorem dM_pointsOf_95 : decode bM_pointsOf 95 = .ok (.iconst 0, 1) := by decide +kernel
theorem dM_pointsOf_96 : decode bM_pointsOf 96 = .ok (.istore_n 3, 1) := by decide +kernel
theorem dM_pointsOf_97 : decode bM_pointsOf 97 = .ok (.aload_n 0, 1) := by decide +kernel
theorem dM_pointsOf_98 : decode bM_pointsOf 98 = .ok (.bipush 40, 2) := by decide +kernel
theorem dM_pointsOf_100 : decode bM_pointsOf 100 = .ok (.aload_n 0, 1) := by decide +kernel
theorem dM_pointsOf_101 : decode bM_pointsOf 101 = .ok (.getfield 156, 3) := by decide +kernel
theorem dM_pointsOf_104 : decode bM_pointsOf 104 = .ok (.imul, 1) := by decide +kernel
theorem dM_pointsOf_105 : decode bM_pointsOf 105 = .ok (.iload 6, 2) := by decide +kernel
theorem dM_pointsOf_107 : decode bM_pointsOf 107 = .ok (.invokevirtual 123, 3) := by decide +kernel
theorem dM_pointsOf_110 : decode bM_pointsOf 110 = .ok (.istore 6, 2) := by decide +kernel
theorem dM_pointsOf_112 : decode bM_pointsOf 112 = .ok (.goto (-79), 3) := by decide +kernel
theorem dM_pointsOf_115 : decode bM_pointsOf 115 = .ok (.iload_n 2, 1) := by decide +kernel
theorem dM_pointsOf_116 : decode bM_pointsOf 116 = .ok (.aload_n 0, 1) := by decide +kernel
theorem dM_pointsOf_117 : decode bM_pointsOf 117 = .ok (.iload_n 1, 1) := by decide +kernel
theorem dM_pointsOf_118 : decode bM_pointsOf 118 = .ok (.aload_n 0, 1) := by decide +kernel
theorem dM_pointsOf_119 : decode bM_pointsOf 119 = .ok (.getfield 63, 3) := by decide +kernel
theorem dM_pointsOf_122 : decode bM_pointsOf 122 = .ok (.iload 4, 2) := by decide +kernel
theorem dM_pointsOf_124 : decode bM_pointsOf 124 = .ok (.laload, 1) := by decide +kernel
theorem dM_pointsOf_125 : decode bM_pointsOf 125 = .ok (.invokevirtual 200, 3) := by decide +kernel
theorem dM_pointsOf_128 : decode bM_pointsOf 128 = .ok (.ifCond .eq 7, 3) := by decide +kernel
theorem dM_pointsOf_131 : decode bM_pointsOf 131 = .ok (.iconst 4, 1) := by decide +kernel
theorem dM_pointsOf_132 : decode bM_pointsOf 132 = .ok (.goto 13, 3) := by decide +kernel
theorem dM_pointsOf_135 : decode bM_pointsOf 135 = .ok (.iload 5, 2) := by decide +kernel
theorem dM_pointsOf_137 : decode bM_pointsOf 137 = .ok (.ifCond .eq 7, 3) := by decide +kernel
theorem dM_pointsOf_140 : decode bM_pointsOf 140 = .ok (.iconst 2, 1) := by decide +kernel
theorem dM_pointsOf_141 : decode bM_pointsOf 141 = .ok (.goto 4, 3) := by decide +kernel
theorem dM_pointsOf_144 : decode bM_pointsOf 144 = .ok (.iconst 0, 1) := by decide +kernel
theorem dM_pointsOf_145 : decode bM_pointsOf 145 = .ok (.iadd, 1) := by decide +kernel
theorem dM_pointsOf_146 : decode bM_pointsOf 146 = .ok (.istore_n 2, 1) := by decide +kernel
theorem dM_pointsOf_147 : decode bM_pointsOf 147 = .ok (.iinc 4 1, 3) := by decide +kernel
theorem dM_pointsOf_150 : decode bM_pointsOf 150 = .ok (.goto (-143), 3) := by decide +kernel
theorem dM_pointsOf_153 : decode bM_pointsOf 153 = .ok (.iload_n 3, 1) := by decide +kernel
theorem dM_pointsOf_154 : decode bM_pointsOf 154 = .ok (.ifCond .eq 9, 3) := by decide +kernel
theorem dM_pointsOf_157 : decode bM_pointsOf 157 = .ok (.iload_n 2, 1) := by decide +kernel
theorem dM_pointsOf_158 : decode bM_pointsOf 158 = .ok (.iconst 2, 1) := by decide +kernel
theorem dM_pointsOf_159 : decode bM_pointsOf 159 = .ok (.idiv, 1) := by decide +kernel
theorem dM_pointsOf_160 : decode bM_pointsOf 160 = .ok (.goto 4, 3) := by decide +kernel
theorem dM_pointsOf_163 : decode bM_pointsOf 163 = .ok (.iload_n 2, 1) := by decide +kernel
theorem dM_pointsOf_164 : decode bM_pointsOf 164 = .ok (.ireturn, 1) := by decide +kernel
theorem dM_search_0 : decode bM_search 0 = .ok (.aload_n 0, 1) := by decide +kernel
theorem dM_search_1 : decode bM_search 1 = .ok (.iconst 0, 1) := by decide +kernel
theorem dM_search_2 : decode bM_search 2 = .ok (.putfield 86, 3) := by decide +kernel
theorem dM_search_5 : decode bM_search 5 = .ok (.aload_n 0, 1) := by decide +kernel
theorem dM_search_6 : decode bM_search 6 = .ok (.iconst (-1), 1) := by decide +kernel
theorem dM_search_7 : decode bM_search 7 = .ok (.putfield 13, 3) := by decide +kernel
theorem dM_search_10 : decode bM_search 10 = .ok (.aload_n 0, 1) := by decide +kernel
theorem dM_search_11 : decode bM_search 11 = .ok (.iconst 0, 1) := by decide +kernel
theorem dM_search_12 : decode bM_search 12 = .ok (.bipush 6, 2) := by decide +kernel
theorem dM_search_14 : decode bM_search 14 = .ok (.iconst 0, 1) := by decide +kernel
theorem dM_search_15 : decode bM_search 15 = .ok (.invokevirtual 138, 3) := by decide +kernel
theorem dM_search_18 : decode bM_search 18 = .ok (.istore_n 1, 1) := by decide +kernel
theorem dM_search_19 : decode bM_search 19 = .ok (.aload_n 0, 1) := by decide +kernel
theorem dM_search_20 : decode bM_search 20 = .ok (.iconst 0, 1) := by decide +kernel
theorem dM_search_21 : decode bM_search 21 = .ok (.putfield 83, 3) := by decide +kernel
theorem dM_search_24 : decode bM_search 24 = .ok (.iload_n 1, 1) := by decide +kernel
theorem dM_search_25 : decode bM_search 25 = .ok (.ifCond .ge 9, 3) := by decide +kernel
theorem dM_search_28 : decode bM_search 28 = .ok (.aload_n 0, 1) := by decide +kernel
theorem dM_search_29 : decode bM_search 29 = .ok (.iconst 1, 1) := by decide +kernel
theorem dM_search_30 : decode bM_search 30 = .ok (.invokevirtual 152, 3) := by decide +kernel
theorem dM_search_33 : decode bM_search 33 = .ok (.ireturn, 1) := by decide +kernel
theorem dM_search_34 : decode bM_search 34 = .ok (.aload_n 0, 1) := by decide +kernel
theorem dM_search_35 : decode bM_search 35 = .ok (.iconst 0, 1) := by decide +kernel
theorem dM_search_36 : decode bM_search 36 = .ok (.putfield 69, 3) := by decide +kernel
theorem dM_search_39 : decode bM_search 39 = .ok (.aload_n 0, 1) := by decide +kernel
theorem dM_search_40 : decode bM_search 40 = .ok (.iconst 0, 1) := by decide +kernel
theorem dM_search_41 : decode bM_search 41 = .ok (.putfield 204, 3) := by decide +kernel
theorem dM_search_44 : decode bM_search 44 = .ok (.iconst 0, 1) := by decide +kernel
theorem dM_search_45 : decode bM_search 45 = .ok (.istore_n 2, 1) := by decide +kernel
theorem dM_search_46 : decode bM_search 46 = .ok (.iload_n 2, 1) := by decide +kernel
theorem dM_search_47 : decode bM_search 47 = .ok (.aload_n 0, 1) := by decide +kernel
theorem dM_search_48 : decode bM_search 48 = .ok (.getfield 17, 3) := by decide +kernel
theorem dM_search_51 : decode bM_search 51 = .ok (.aload_n 0, 1) := by decide +kernel
theorem dM_search_52 : decode bM_search 52 = .ok (.getfield 156, 3) := by decide +kernel
theorem dM_search_55 : decode bM_search 55 = .ok (.iaload, 1) := by decide +kernel
theorem dM_search_56 : decode bM_search 56 = .ok (.if_icmp .ge 28, 3) := by decide +kernel
theorem dM_search_59 : decode bM_search 59 = .ok (.aload_n 0, 1) := by decide +kernel
theorem dM_search_60 : decode bM_search 60 = .ok (.getfield 66, 3) := by decide +kernel
theorem dM_search_63 : decode bM_search 63 = .ok (.iload_n 2, 1) := by decide +kernel
theorem dM_search_64 : decode bM_search 64 = .ok (.aload_n 0, 1) := by decide +kernel
theorem dM_search_65 : decode bM_search 65 = .ok (.bipush 40, 2) := by decide +kernel
theorem dM_search_67 : decode bM_search 67 = .ok (.aload_n 0, 1) := by decide +kernel
theorem dM_search_68 : decode bM_search 68 = .ok (.getfield 156, 3) := by decide +kernel
theorem dM_search_71 : decode bM_search 71 = .ok (.imul, 1) := by decide +kernel
theorem dM_search_72 : decode bM_search 72 = .ok (.iload_n 2, 1) := by decide +kernel
theorem dM_search_73 : decode bM_search 73 = .ok (.iadd, 1) := by decide +kernel
theorem dM_search_74 : decode bM_search 74 = .ok (.invokevirtual 207, 3) := by decide +kernel
theorem dM_search_77 : decode bM_search 77 = .ok (.iastore, 1) := by decide +kernel
theorem dM_search_78 : decode bM_search 78 = .ok (.iinc 2 1, 3) := by decide +kernel
theorem dM_search_81 : decode bM_search 81 = .ok (.goto (-35), 3) := by decide +kernel
theorem dM_search_84 : decode bM_search 84 = .ok (.bipush 24, 2) := by decide +kernel
theorem dM_search_86 : decode bM_search 86 = .ok (.istore_n 2, 1) := by decide +kernel
theorem dM_search_87 : decode bM_search 87 = .ok (.iload_n 2, 1) := by decide +kernel
theorem dM_search_88 : decode bM_search 88 = .ok (.ifCond .le 83, 3) := by decide +kernel
theorem dM_search_91 : decode bM_search 91 = .ok (.iconst 0, 1) := by decide +kernel
theorem dM_search_92 : decode bM_search 92 = .ok (.istore_n 3, 1) := by decide +kernel
theorem dM_search_93 : decode bM_search 93 = .ok (.iload_n 3, 1) := by decide +kernel
theorem dM_search_94 : decode bM_search 94 = .ok (.aload_n 0, 1) := by decide +kernel
theorem dM_search_95 : decode bM_search 95 = .ok (.getfield 17, 3) := by decide +kernel
theorem dM_search_98 : decode bM_search 98 = .ok (.aload_n 0, 1) := by decide +kernel
theorem dM_search_99 : decode bM_search 99 = .ok (.getfield 156, 3) := by decide +kernel
theorem dM_search_102 : decode bM_search 102 = .ok (.iaload, 1) := by decide +kernel
theorem dM_search_103 : decode bM_search 103 = .ok (.if_icmp .ge 62, 3) := by decide +kernel
theorem dM_search_106 : decode bM_search 106 = .ok (.aload_n 0, 1) := by decide +kernel
theorem dM_search_107 : decode bM_search 107 = .ok (.getfield 66, 3) := by decide +kernel
theorem dM_search_110 : decode bM_search 110 = .ok (.iload_n 3, 1) := by decide +kernel
theorem dM_search_111 : decode bM_search 111 = .ok (.iaload, 1) := by decide +kernel
theorem dM_search_112 : decode bM_search 112 = .ok (.iload_n 2, 1) := by decide +kernel
theorem dM_search_113 : decode bM_search 113 = .ok (.if_icmp .ne 46, 3) := by decide +kernel
theorem dM_search_116 : decode bM_search 116 = .ok (.aload_n 0, 1) := by decide +kernel
theorem dM_search_117 : decode bM_search 117 = .ok (.getfield 57, 3) := by decide +kernel
theorem dM_search_120 : decode bM_search 120 = .ok (.aload_n 0, 1) := by decide +kernel
theorem dM_search_121 : decode bM_search 121 = .ok (.getfield 204, 3) := by decide +kernel
theorem dM_search_124 : decode bM_search 124 = .ok (.aload_n 0, 1) := by decide +kernel
theorem dM_search_125 : decode bM_search 125 = .ok (.getfield 20, 3) := by decide +kernel
theorem dM_search_128 : decode bM_search 128 = .ok (.bipush 40, 2) := by decide +kernel
theorem dM_search_130 : decode bM_search 130 = .ok (.aload_n 0, 1) := by decide +kernel
theorem dM_search_131 : decode bM_search 131 = .ok (.getfield 156, 3) := by decide +kernel
theorem dM_search_134 : decode bM_search 134 = .ok (.imul, 1) := by decide +kernel
theorem dM_search_135 : decode bM_search 135 = .ok (.iload_n 3, 1) := by decide +kernel
theorem dM_search_136 : decode bM_search 136 = .ok (.iadd, 1) := by decide +kernel
theorem dM_search_137 : decode bM_search 137 = .ok (.laload, 1) := by decide +kernel
theorem dM_search_138 : decode bM_search 138 = .ok (.lastore, 1) := by decide +kernel
theorem dM_search_139 : decode bM_search 139 = .ok (.aload_n 0, 1) := by decide +kernel
theorem dM_search_140 : decode bM_search 140 = .ok (.getfield 60, 3) := by decide +kernel
theorem dM_search_143 : decode bM_search 143 = .ok (.aload_n 0, 1) := by decide +kernel
theorem dM_search_144 : decode bM_search 144 = .ok (.getfield 204, 3) := by decide +kernel
theorem dM_search_147 : decode bM_search 147 = .ok (.iload_n 2, 1) := by decide +kernel
theorem dM_search_148 : decode bM_search 148 = .ok (.iastore, 1) := by decide +kernel
theorem dM_search_149 : decode bM_search 149 = .ok (.aload_n 0, 1) := by decide +kernel
theorem dM_search_150 : decode bM_search 150 = .ok (.dup, 1) := by decide +kernel
theorem dM_search_151 : decode bM_search 151 = .ok (.getfield 204, 3) := by decide +kernel
theorem dM_search_154 : decode bM_search 154 = .ok (.iconst 1, 1) := by decide +kernel
theorem dM_search_155 : decode bM_search 155 = .ok (.iadd, 1) := by decide +kernel
theorem dM_search_156 : decode bM_search 156 = .ok (.putfield 204, 3) := by decide +kernel
theorem dM_search_159 : decode bM_search 159 = .ok (.iinc 3 1, 3) := by decide +kernel
theorem dM_search_162 : decode bM_search 162 = .ok (.goto (-69), 3) := by decide +kernel
theorem dM_search_165 : decode bM_search 165 = .ok (.iinc 2 (-1), 3) := by decide +kernel
theorem dM_search_168 : decode bM_search 168 = .ok (.goto (-81), 3) := by decide +kernel
theorem dM_search_171 : decode bM_search 171 = .ok (.aload_n 0, 1) := by decide +kernel
theorem dM_search_172 : decode bM_search 172 = .ok (.getfield 204, 3) := by decide +kernel
theorem dM_search_175 : decode bM_search 175 = .ok (.ireturn, 1) := by decide +kernel
theorem dM_found_0 : decode bM_found 0 = .ok (.aload_n 0, 1) := by decide +kernel
theorem dM_found_1 : decode bM_found 1 = .ok (.iload_n 1, 1) := by decide +kernel
theorem dM_found_2 : decode bM_found 2 = .ok (.ifCond .lt 24, 3) := by decide +kernel
theorem dM_found_5 : decode bM_found 5 = .ok (.iload_n 1, 1) := by decide +kernel
theorem dM_found_6 : decode bM_found 6 = .ok (.aload_n 0, 1) := by decide +kernel
theorem dM_found_7 : decode bM_found 7 = .ok (.getfield 204, 3) := by decide +kernel
theorem dM_found_10 : decode bM_found 10 = .ok (.if_icmp .ge 16, 3) := by decide +kernel
theorem dM_found_13 : decode bM_found 13 = .ok (.iload_n 2, 1) := by decide +kernel
theorem dM_found_14 : decode bM_found 14 = .ok (.iconst 0, 1) := by decide +kernel
theorem dM_found_15 : decode bM_found 15 = .ok (.iconst 1, 1) := by decide +kernel
theorem dM_found_16 : decode bM_found 16 = .ok (.invokestatic 72, 3) := by decide +kernel
theorem dM_found_19 : decode bM_found 19 = .ok (.ifCond .eq 7, 3) := by decide +kernel
theorem dM_found_22 : decode bM_found 22 = .ok (.iconst 0, 1) := by decide +kernel
theorem dM_found_23 : decode bM_found 23 = .ok (.goto 4, 3) := by decide +kernel
theorem dM_found_26 : decode bM_found 26 = .ok (.iconst 1, 1) := by decide +kernel
theorem dM_found_27 : decode bM_found 27 = .ok (.putfield 69, 3) := by decide +kernel
theorem dM_found_30 : decode bM_found 30 = .ok (.aload_n 0, 1) := by decide +kernel
theorem dM_found_31 : decode bM_found 31 = .ok (.getfield 69, 3) := by decide +kernel
theorem dM_found_34 : decode bM_found 34 = .ok (.ifCond .le 7, 3) := by decide +kernel
theorem dM_found_37 : decode bM_found 37 = .ok (.lconst 0, 1) := by decide +kernel
theorem dM_found_38 : decode bM_found 38 = .ok (.goto 23, 3) := by decide +kernel
theorem dM_found_41 : decode bM_found 41 = .ok (.iload_n 2, 1) := by decide +kernel
theorem dM_found_42 : decode bM_found 42 = .ok (.ifCond .ne 12, 3) := by decide +kernel
theorem dM_found_45 : decode bM_found 45 = .ok (.aload_n 0, 1) := by decide +kernel
theorem dM_found_46 : decode bM_found 46 = .ok (.getfield 57, 3) := by decide +kernel
theorem dM_found_49 : decode bM_found 49 = .ok (.iload_n 1, 1) := by decide +kernel
theorem dM_found_50 : decode bM_found 50 = .ok (.laload, 1) := by decide +kernel
theorem dM_found_51 : decode bM_found 51 = .ok (.goto 10, 3) := by decide +kernel
theorem dM_found_54 : decode bM_found 54 = .ok (.aload_n 0, 1) := by decide +kernel
theorem dM_found_55 : decode bM_found 55 = .ok (.getfield 60, 3) := by decide +kernel
theorem dM_found_58 : decode bM_found 58 = .ok (.iload_n 1, 1) := by decide +kernel
theorem dM_found_59 : decode bM_found 59 = .ok (.iaload, 1) := by decide +kernel
theorem dM_found_60 : decode bM_found 60 = .ok (.i2l, 1) := by decide +kernel
theorem dM_found_61 : decode bM_found 61 = .ok (.lreturn, 1) := by decide +kernel
theorem dM_count_0 : decode bM_count 0 = .ok (.aload_n 0, 1) := by decide +kernel
theorem dM_count_1 : decode bM_count 1 = .ok (.iconst 0, 1) := by decide +kernel
theorem dM_count_2 : decode bM_count 2 = .ok (.putfield 69, 3) := by decide +kernel
theorem dM_count_5 : decode bM_count 5 = .ok (.iload_n 1, 1) := by decide +kernel
theorem dM_count_6 : decode bM_count 6 = .ok (.bipush 20, 2) := by decide +kernel
theorem dM_count_8 : decode bM_count 8 = .ok (.if_icmp .lt 77, 3) := by decide +kernel
theorem dM_count_11 : decode bM_count 11 = .ok (.iconst 0, 1) := by decide +kernel
theorem dM_count_12 : decode bM_count 12 = .ok (.istore_n 2, 1) := by decide +kernel
theorem dM_count_13 : decode bM_count 13 = .ok (.iconst 0, 1) := by decide +kernel
theorem dM_count_14 : decode bM_count 14 = .ok (.istore_n 3, 1) := by decide +kernel
theorem dM_count_15 : decode bM_count 15 = .ok (.iload_n 1, 1) := by decide +kernel
theorem dM_count_16 : decode bM_count 16 = .ok (.bipush 20, 2) := by decide +kernel
theorem dM_count_18 : decode bM_count 18 = .ok (.isub, 1) := by decide +kernel
theorem dM_count_19 : decode bM_count 19 = .ok (.invokestatic 163, 3) := by decide +kernel
theorem dM_count_22 : decode bM_count 22 = .ok (.ifCond .eq 47, 3) := by decide +kernel
theorem dM_count_25 : decode bM_count 25 = .ok (.iload_n 3, 1) := by decide +kernel
theorem dM_count_26 : decode bM_count 26 = .ok (.aload_n 0, 1) := by decide +kernel
theorem dM_count_27 : decode bM_count 27 = .ok (.getfield 17, 3) := by decide +kernel
theorem dM_count_30 : decode bM_count 30 = .ok (.iload_n 1, 1) := by decide +kernel
theorem dM_count_31 : decode bM_count 31 = .ok (.bipush 20, 2) := by decide +kernel
theorem dM_count_33 : decode bM_count 33 = .ok (.isub, 1) := by decide +kernel
theorem dM_count_34 : decode bM_count 34 = .ok (.iaload, 1) := by decide +kernel
theorem dM_count_35 : decode bM_count 35 = .ok (.if_icmp .ge 34, 3) := by decide +kernel
theorem dM_count_38 : decode bM_count 38 = .ok (.iload_n 2, 1) := by decide +kernel
theorem dM_count_39 : decode bM_count 39 = .ok (.aload_n 0, 1) := by decide +kernel
theorem dM_count_40 : decode bM_count 40 = .ok (.getfield 24, 3) := by decide +kernel
theorem dM_count_43 : decode bM_count 43 = .ok (.bipush 40, 2) := by decide +kernel
theorem dM_count_45 : decode bM_count 45 = .ok (.iload_n 1, 1) := by decide +kernel
theorem dM_count_46 : decode bM_count 46 = .ok (.bipush 20, 2) := by decide +kernel
theorem dM_count_48 : decode bM_count 48 = .ok (.isub, 1) := by decide +kernel
theorem dM_count_49 : decode bM_count 49 = .ok (.imul, 1) := by decide +kernel
theorem dM_count_50 : decode bM_count 50 = .ok (.iload_n 3, 1) := by decide +kernel
theorem dM_count_51 : decode bM_count 51 = .ok (.iadd, 1) := by decide +kernel
theorem dM_count_52 : decode bM_count 52 = .ok (.iaload, 1) := by decide +kernel
theorem dM_count_53 : decode bM_count 53 = .ok (.ifCond .ne 7, 3) := by decide +kernel
theorem dM_count_56 : decode bM_count 56 = .ok (.iconst 1, 1) := by decide +kernel
theorem dM_count_57 : decode bM_count 57 = .ok (.goto 4, 3) := by decide +kernel
theorem dM_count_60 : decode bM_count 60 = .ok (.iconst 0, 1) := by decide +kernel
theorem dM_count_61 : decode bM_count 61 = .ok (.iadd, 1) := by decide +kernel
theorem dM_count_62 : decode bM_count 62 = .ok (.istore_n 2, 1) := by decide +kernel
theorem dM_count_63 : decode bM_count 63 = .ok (.iinc 3 1, 3) := by decide +kernel
theorem dM_count_66 : decode bM_count 66 = .ok (.goto (-51), 3) := by decide +kernel
theorem dM_count_69 : decode bM_count 69 = .ok (.iload_n 1, 1) := by decide +kernel
theorem dM_count_70 : decode bM_count 70 = .ok (.bipush 20, 2) := by decide +kernel
theorem dM_count_72 : decode bM_count 72 = .ok (.isub, 1) := by decide +kernel
theorem dM_count_73 : decode bM_count 73 = .ok (.invokestatic 163, 3) := by decide +kernel
theorem dM_count_76 : decode bM_count 76 = .ok (.ifCond .eq 7, 3) := by decide +kernel
theorem dM_count_79 : decode bM_count 79 = .ok (.iload_n 2, 1) := by decide +kernel
theorem dM_count_80 : decode bM_count 80 = .ok (.goto 4, 3) := by decide +kernel
theorem dM_count_83 : decode bM_count 83 = .ok (.iconst (-1), 1) := by decide +kernel
theorem dM_count_84 : decode bM_count 84 = .ok (.ireturn, 1) := by decide +kernel
theorem dM_count_85 : decode bM_count 85 = .ok (.iload_n 1, 1) := by decide +kernel
theorem dM_count_86 : decode bM_count 86 = .ok (.bipush 10, 2) := by decide +kernel
theorem dM_count_88 : decode bM_count 88 = .ok (.if_icmp .lt 27, 3) := by decide +kernel
theorem dM_count_91 : decode bM_count 91 = .ok (.iload_n 1, 1) := by decide +kernel
theorem dM_count_92 : decode bM_count 92 = .ok (.bipush 10, 2) := by decide +kernel
theorem dM_count_94 : decode bM_count 94 = .ok (.isub, 1) := by decide +kernel
theorem dM_count_95 : decode bM_count 95 = .ok (.invokestatic 163, 3) := by decide +kernel
theorem dM_count_98 : decode bM_count 98 = .ok (.ifCond .eq 15, 3) := by decide +kernel
theorem dM_count_101 : decode bM_count 101 = .ok (.aload_n 0, 1) := by decide +kernel
theorem dM_count_102 : decode bM_count 102 = .ok (.getfield 17, 3) := by decide +kernel
theorem dM_count_105 : decode bM_count 105 = .ok (.iload_n 1, 1) := by decide +kernel
theorem dM_count_106 : decode bM_count 106 = .ok (.bipush 10, 2) := by decide +kernel
theorem dM_count_108 : decode bM_count 108 = .ok (.isub, 1) := by decide +kernel
theorem dM_count_109 : decode bM_count 109 = .ok (.iaload, 1) := by decide +kernel
theorem dM_count_110 : decode bM_count 110 = .ok (.goto 4, 3) := by decide +kernel
theorem dM_count_113 : decode bM_count 113 = .ok (.iconst (-1), 1) := by decide +kernel
theorem dM_count_114 : decode bM_count 114 = .ok (.ireturn, 1) := by decide +kernel
theorem dM_count_115 : decode bM_count 115 = .ok (.iload_n 1, 1) := by decide +kernel
theorem dM_count_116 : decode bM_count 116 = .ok (.tableswitch 61 0 4 #[36, 41, 46, 51, 56], 36) := by decide +kernel
theorem dM_count_152 : decode bM_count 152 = .ok (.aload_n 0, 1) := by decide +kernel
theorem dM_count_153 : decode bM_count 153 = .ok (.getfield 83, 3) := by decide +kernel
theorem dM_count_156 : decode bM_count 156 = .ok (.ireturn, 1) := by decide +kernel
theorem dM_count_157 : decode bM_count 157 = .ok (.aload_n 0, 1) := by decide +kernel
theorem dM_count_158 : decode bM_count 158 = .ok (.getfield 156, 3) := by decide +kernel
theorem dM_count_161 : decode bM_count 161 = .ok (.ireturn, 1) := by decide +kernel
theorem dM_count_162 : decode bM_count 162 = .ok (.aload_n 0, 1) := by decide +kernel
theorem dM_count_163 : decode bM_count 163 = .ok (.getfield 142, 3) := by decide +kernel
theorem dM_count_166 : decode bM_count 166 = .ok (.ireturn, 1) := by decide +kernel
theorem dM_count_167 : decode bM_count 167 = .ok (.aload_n 0, 1) := by decide +kernel
theorem dM_count_168 : decode bM_count 168 = .ok (.getfield 145, 3) := by decide +kernel
theorem dM_count_171 : decode bM_count 171 = .ok (.ireturn, 1) := by decide +kernel
theorem dM_count_172 : decode bM_count 172 = .ok (.aload_n 0, 1) := by decide +kernel
theorem dM_count_173 : decode bM_count 173 = .ok (.getfield 204, 3) := by decide +kernel
theorem dM_count_176 : decode bM_count 176 = .ok (.ireturn, 1) := by decide +kernel
theorem dM_count_177 : decode bM_count 177 = .ok (.iconst (-1), 1) := by decide +kernel
theorem dM_count_178 : decode bM_count 178 = .ok (.ireturn, 1) := by decide +kernel
