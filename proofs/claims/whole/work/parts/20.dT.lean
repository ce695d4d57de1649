theorem dT_init_0 : decode bT_init 0 = .ok (.aload_n 0, 1) := by decide +kernel
theorem dT_init_1 : decode bT_init 1 = .ok (.invokespecial 3, 3) := by decide +kernel
theorem dT_init_4 : decode bT_init 4 = .ok (.aload_n 0, 1) := by decide +kernel
theorem dT_init_5 : decode bT_init 5 = .ok (.bipush 40, 2) := by decide +kernel
theorem dT_init_7 : decode bT_init 7 = .ok (.newarray .long, 2) := by decide +kernel
theorem dT_init_9 : decode bT_init 9 = .ok (.putfield 9, 3) := by decide +kernel
theorem dT_init_12 : decode bT_init 12 = .ok (.aload_n 0, 1) := by decide +kernel
theorem dT_init_13 : decode bT_init 13 = .ok (.bipush 40, 2) := by decide +kernel
theorem dT_init_15 : decode bT_init 15 = .ok (.newarray .int, 2) := by decide +kernel
theorem dT_init_17 : decode bT_init 17 = .ok (.putfield 15, 3) := by decide +kernel
theorem dT_init_20 : decode bT_init 20 = .ok (.aload_n 0, 1) := by decide +kernel
theorem dT_init_21 : decode bT_init 21 = .ok (.bipush 40, 2) := by decide +kernel
theorem dT_init_23 : decode bT_init 23 = .ok (.newarray .int, 2) := by decide +kernel
theorem dT_init_25 : decode bT_init 25 = .ok (.putfield 19, 3) := by decide +kernel
theorem dT_init_28 : decode bT_init 28 = .ok (.aload_n 0, 1) := by decide +kernel
theorem dT_init_29 : decode bT_init 29 = .ok (.bipush 40, 2) := by decide +kernel
theorem dT_init_31 : decode bT_init 31 = .ok (.newarray .int, 2) := by decide +kernel
theorem dT_init_33 : decode bT_init 33 = .ok (.putfield 22, 3) := by decide +kernel
theorem dT_init_36 : decode bT_init 36 = .ok (.aload_n 0, 1) := by decide +kernel
theorem dT_init_37 : decode bT_init 37 = .ok (.bipush 40, 2) := by decide +kernel
theorem dT_init_39 : decode bT_init 39 = .ok (.newarray .int, 2) := by decide +kernel
theorem dT_init_41 : decode bT_init 41 = .ok (.putfield 25, 3) := by decide +kernel
theorem dT_init_44 : decode bT_init 44 = .ok (.aload_n 0, 1) := by decide +kernel
theorem dT_init_45 : decode bT_init 45 = .ok (.sipush 160, 3) := by decide +kernel
theorem dT_init_48 : decode bT_init 48 = .ok (.newarray .long, 2) := by decide +kernel
theorem dT_init_50 : decode bT_init 50 = .ok (.putfield 28, 3) := by decide +kernel
theorem dT_init_53 : decode bT_init 53 = .ok (.aload_n 0, 1) := by decide +kernel
theorem dT_init_54 : decode bT_init 54 = .ok (.iconst 0, 1) := by decide +kernel
theorem dT_init_55 : decode bT_init 55 = .ok (.putfield 31, 3) := by decide +kernel
theorem dT_init_58 : decode bT_init 58 = .ok (.aload_n 0, 1) := by decide +kernel
theorem dT_init_59 : decode bT_init 59 = .ok (.iconst 0, 1) := by decide +kernel
theorem dT_init_60 : decode bT_init 60 = .ok (.putfield 35, 3) := by decide +kernel
theorem dT_init_63 : decode bT_init 63 = .ok (.return_, 1) := by decide +kernel
theorem dT_clear_0 : decode bT_clear 0 = .ok (.aload_n 0, 1) := by decide +kernel
theorem dT_clear_1 : decode bT_clear 1 = .ok (.iconst 0, 1) := by decide +kernel
theorem dT_clear_2 : decode bT_clear 2 = .ok (.putfield 31, 3) := by decide +kernel
theorem dT_clear_5 : decode bT_clear 5 = .ok (.aload_n 0, 1) := by decide +kernel
theorem dT_clear_6 : decode bT_clear 6 = .ok (.iconst 0, 1) := by decide +kernel
theorem dT_clear_7 : decode bT_clear 7 = .ok (.putfield 35, 3) := by decide +kernel
theorem dT_clear_10 : decode bT_clear 10 = .ok (.return_, 1) := by decide +kernel
theorem dT_size_0 : decode bT_size 0 = .ok (.aload_n 0, 1) := by decide +kernel
theorem dT_size_1 : decode bT_size 1 = .ok (.getfield 31, 3) := by decide +kernel
theorem dT_size_4 : decode bT_size 4 = .ok (.ireturn, 1) := by decide +kernel
theorem dT_chapters_0 : decode bT_chapters 0 = .ok (.aload_n 0, 1) := by decide +kernel
theorem dT_chapters_1 : decode bT_chapters 1 = .ok (.getfield 35, 3) := by decide +kernel
theorem dT_chapters_4 : decode bT_chapters 4 = .ok (.ireturn, 1) := by decide +kernel
theorem dT_isFull_0 : decode bT_isFull 0 = .ok (.aload_n 0, 1) := by decide +kernel
theorem dT_isFull_1 : decode bT_isFull 1 = .ok (.getfield 31, 3) := by decide +kernel
theorem dT_isFull_4 : decode bT_isFull 4 = .ok (.bipush 40, 2) := by decide +kernel
theorem dT_isFull_6 : decode bT_isFull 6 = .ok (.if_icmp .lt 7, 3) := by decide +kernel
theorem dT_isFull_9 : decode bT_isFull 9 = .ok (.iconst 1, 1) := by decide +kernel
theorem dT_isFull_10 : decode bT_isFull 10 = .ok (.goto 4, 3) := by decide +kernel
theorem dT_isFull_13 : decode bT_isFull 13 = .ok (.iconst 0, 1) := by decide +kernel
theorem dT_isFull_14 : decode bT_isFull 14 = .ok (.ireturn, 1) := by decide +kernel
theorem dT_has_0 : decode bT_has 0 = .ok (.iload_n 1, 1) := by decide +kernel
theorem dT_has_1 : decode bT_has 1 = .ok (.ifCond .lt 21, 3) := by decide +kernel
theorem dT_has_4 : decode bT_has 4 = .ok (.iload_n 1, 1) := by decide +kernel
theorem dT_has_5 : decode bT_has 5 = .ok (.aload_n 0, 1) := by decide +kernel
theorem dT_has_6 : decode bT_has 6 = .ok (.getfield 31, 3) := by decide +kernel
theorem dT_has_9 : decode bT_has 9 = .ok (.if_icmp .ge 13, 3) := by decide +kernel
theorem dT_has_12 : decode bT_has 12 = .ok (.iload_n 1, 1) := by decide +kernel
theorem dT_has_13 : decode bT_has 13 = .ok (.bipush 40, 2) := by decide +kernel
theorem dT_has_15 : decode bT_has 15 = .ok (.if_icmp .ge 7, 3) := by decide +kernel
theorem dT_has_18 : decode bT_has 18 = .ok (.iconst 1, 1) := by decide +kernel
theorem dT_has_19 : decode bT_has 19 = .ok (.goto 4, 3) := by decide +kernel
theorem dT_has_22 : decode bT_has 22 = .ok (.iconst 0, 1) := by decide +kernel
theorem dT_has_23 : decode bT_has 23 = .ok (.ireturn, 1) := by decide +kernel
theorem dT_codeOf_0 : decode bT_codeOf 0 = .ok (.aload_n 0, 1) := by decide +kernel
theorem dT_codeOf_1 : decode bT_codeOf 1 = .ok (.iload_n 1, 1) := by decide +kernel
theorem dT_codeOf_2 : decode bT_codeOf 2 = .ok (.invokevirtual 38, 3) := by decide +kernel
theorem dT_codeOf_5 : decode bT_codeOf 5 = .ok (.ifCond .eq 12, 3) := by decide +kernel
theorem dT_codeOf_8 : decode bT_codeOf 8 = .ok (.aload_n 0, 1) := by decide +kernel
theorem dT_codeOf_9 : decode bT_codeOf 9 = .ok (.getfield 9, 3) := by decide +kernel
theorem dT_codeOf_12 : decode bT_codeOf 12 = .ok (.iload_n 1, 1) := by decide +kernel
theorem dT_codeOf_13 : decode bT_codeOf 13 = .ok (.laload, 1) := by decide +kernel
theorem dT_codeOf_14 : decode bT_codeOf 14 = .ok (.goto 4, 3) := by decide +kernel
theorem dT_codeOf_17 : decode bT_codeOf 17 = .ok (.lconst 0, 1) := by decide +kernel
theorem dT_codeOf_18 : decode bT_codeOf 18 = .ok (.lreturn, 1) := by decide +kernel
theorem dT_dashesOf_0 : decode bT_dashesOf 0 = .ok (.aload_n 0, 1) := by decide +kernel
theorem dT_dashesOf_1 : decode bT_dashesOf 1 = .ok (.iload_n 1, 1) := by decide +kernel
theorem dT_dashesOf_2 : decode bT_dashesOf 2 = .ok (.invokevirtual 38, 3) := by decide +kernel
theorem dT_dashesOf_5 : decode bT_dashesOf 5 = .ok (.ifCond .eq 12, 3) := by decide +kernel
theorem dT_dashesOf_8 : decode bT_dashesOf 8 = .ok (.aload_n 0, 1) := by decide +kernel
theorem dT_dashesOf_9 : decode bT_dashesOf 9 = .ok (.getfield 15, 3) := by decide +kernel
theorem dT_dashesOf_12 : decode bT_dashesOf 12 = .ok (.iload_n 1, 1) := by decide +kernel
theorem dT_dashesOf_13 : decode bT_dashesOf 13 = .ok (.iaload, 1) := by decide +kernel
theorem dT_dashesOf_14 : decode bT_dashesOf 14 = .ok (.goto 4, 3) := by decide +kernel
theorem dT_dashesOf_17 : decode bT_dashesOf 17 = .ok (.iconst (-1), 1) := by decide +kernel
theorem dT_dashesOf_18 : decode bT_dashesOf 18 = .ok (.ireturn, 1) := by decide +kernel
theorem dT_parentOf_0 : decode bT_parentOf 0 = .ok (.aload_n 0, 1) := by decide +kernel
theorem dT_parentOf_1 : decode bT_parentOf 1 = .ok (.iload_n 1, 1) := by decide +kernel
theorem dT_parentOf_2 : decode bT_parentOf 2 = .ok (.invokevirtual 38, 3) := by decide +kernel
theorem dT_parentOf_5 : decode bT_parentOf 5 = .ok (.ifCond .eq 12, 3) := by decide +kernel
theorem dT_parentOf_8 : decode bT_parentOf 8 = .ok (.aload_n 0, 1) := by decide +kernel
theorem dT_parentOf_9 : decode bT_parentOf 9 = .ok (.getfield 19, 3) := by decide +kernel
theorem dT_parentOf_12 : decode bT_parentOf 12 = .ok (.iload_n 1, 1) := by decide +kernel
theorem dT_parentOf_13 : decode bT_parentOf 13 = .ok (.iaload, 1) := by decide +kernel
theorem dT_parentOf_14 : decode bT_parentOf 14 = .ok (.goto 4, 3) := by decide +kernel
theorem dT_parentOf_17 : decode bT_parentOf 17 = .ok (.iconst (-1), 1) := by decide +kernel
theorem dT_parentOf_18 : decode bT_parentOf 18 = .ok (.ireturn, 1) := by decide +kernel
theorem dT_childrenOf_0 : decode bT_childrenOf 0 = .ok (.aload_n 0, 1) := by decide +kernel
theorem dT_childrenOf_1 : decode bT_childrenOf 1 = .ok (.iload_n 1, 1) := by decide +kernel
theorem dT_childrenOf_2 : decode bT_childrenOf 2 = .ok (.invokevirtual 38, 3) := by decide +kernel
theorem dT_childrenOf_5 : decode bT_childrenOf 5 = .ok (.ifCond .eq 12, 3) := by decide +kernel
theorem dT_childrenOf_8 : decode bT_childrenOf 8 = .ok (.aload_n 0, 1) := by decide +kernel
theorem dT_childrenOf_9 : decode bT_childrenOf 9 = .ok (.getfield 22, 3) := by decide +kernel
theorem dT_childrenOf_12 : decode bT_childrenOf 12 = .ok (.iload_n 1, 1) := by decide +kernel
theorem dT_childrenOf_13 : decode bT_childrenOf 13 = .ok (.iaload, 1) := by decide +kernel
theorem dT_childrenOf_14 : decode bT_childrenOf 14 = .ok (.goto 4, 3) := by decide +kernel
theorem dT_childrenOf_17 : decode bT_childrenOf 17 = .ok (.iconst 0, 1) := by decide +kernel
theorem dT_childrenOf_18 : decode bT_childrenOf 18 = .ok (.ireturn, 1) := by decide +kernel
theorem dT_wordsOf_0 : decode bT_wordsOf 0 = .ok (.aload_n 0, 1) := by decide +kernel
theorem dT_wordsOf_1 : decode bT_wordsOf 1 = .ok (.iload_n 1, 1) := by decide +kernel
theorem dT_wordsOf_2 : decode bT_wordsOf 2 = .ok (.invokevirtual 38, 3) := by decide +kernel
theorem dT_wordsOf_5 : decode bT_wordsOf 5 = .ok (.ifCond .eq 12, 3) := by decide +kernel
theorem dT_wordsOf_8 : decode bT_wordsOf 8 = .ok (.aload_n 0, 1) := by decide +kernel
theorem dT_wordsOf_9 : decode bT_wordsOf 9 = .ok (.getfield 25, 3) := by decide +kernel
theorem dT_wordsOf_12 : decode bT_wordsOf 12 = .ok (.iload_n 1, 1) := by decide +kernel
theorem dT_wordsOf_13 : decode bT_wordsOf 13 = .ok (.iaload, 1) := by decide +kernel
theorem dT_wordsOf_14 : decode bT_wordsOf 14 = .ok (.goto 4, 3) := by decide +kernel
theorem dT_wordsOf_17 : decode bT_wordsOf 17 = .ok (.iconst 0, 1) := by decide +kernel
theorem dT_wordsOf_18 : decode bT_wordsOf 18 = .ok (.ireturn, 1) := by decide +kernel
theorem dT_rowOf_0 : decode bT_rowOf 0 = .ok (.iconst 0, 1) := by decide +kernel
theorem dT_rowOf_1 : decode bT_rowOf 1 = .ok (.istore_n 3, 1) := by decide +kernel
theorem dT_rowOf_2 : decode bT_rowOf 2 = .ok (.iload_n 3, 1) := by decide +kernel
theorem dT_rowOf_3 : decode bT_rowOf 3 = .ok (.aload_n 0, 1) := by decide +kernel
theorem dT_rowOf_4 : decode bT_rowOf 4 = .ok (.getfield 31, 3) := by decide +kernel
theorem dT_rowOf_7 : decode bT_rowOf 7 = .ok (.if_icmp .ge 22, 3) := by decide +kernel
theorem dT_rowOf_10 : decode bT_rowOf 10 = .ok (.aload_n 0, 1) := by decide +kernel
theorem dT_rowOf_11 : decode bT_rowOf 11 = .ok (.getfield 9, 3) := by decide +kernel
theorem dT_rowOf_14 : decode bT_rowOf 14 = .ok (.iload_n 3, 1) := by decide +kernel
theorem dT_rowOf_15 : decode bT_rowOf 15 = .ok (.laload, 1) := by decide +kernel
theorem dT_rowOf_16 : decode bT_rowOf 16 = .ok (.lload_n 1, 1) := by decide +kernel
theorem dT_rowOf_17 : decode bT_rowOf 17 = .ok (.lcmp, 1) := by decide +kernel
theorem dT_rowOf_18 : decode bT_rowOf 18 = .ok (.ifCond .ne 5, 3) := by decide +kernel
theorem dT_rowOf_21 : decode bT_rowOf 21 = .ok (.iload_n 3, 1) := by decide +kernel
theorem dT_rowOf_22 : decode bT_rowOf 22 = .ok (.ireturn, 1) := by decide +kernel
theorem dT_rowOf_23 : decode bT_rowOf 23 = .ok (.iinc 3 1, 3) := by decide +kernel
theorem dT_rowOf_26 : decode bT_rowOf 26 = .ok (.goto (-24), 3) := by decide +kernel
theorem dT_rowOf_29 : decode bT_rowOf 29 = .ok (.iconst (-1), 1) := by decide +kernel
theorem dT_rowOf_30 : decode bT_rowOf 30 = .ok (.ireturn, 1) := by decide +kernel
theorem dT_mostDashes_0 : decode bT_mostDashes 0 = .ok (.aload_n 0, 1) := by decide +kernel
theorem dT_mostDashes_1 : decode bT_mostDashes 1 = .ok (.aload_n 0, 1) := by decide +kernel
theorem dT_mostDashes_2 : decode bT_mostDashes 2 = .ok (.getfield 31, 3) := by decide +kernel
theorem dT_mostDashes_5 : decode bT_mostDashes 5 = .ok (.iconst 1, 1) := by decide +kernel
theorem dT_mostDashes_6 : decode bT_mostDashes 6 = .ok (.isub, 1) := by decide +kernel
theorem dT_mostDashes_7 : decode bT_mostDashes 7 = .ok (.invokevirtual 42, 3) := by decide +kernel
theorem dT_mostDashes_10 : decode bT_mostDashes 10 = .ok (.iconst 1, 1) := by decide +kernel
theorem dT_mostDashes_11 : decode bT_mostDashes 11 = .ok (.iadd, 1) := by decide +kernel
theorem dT_mostDashes_12 : decode bT_mostDashes 12 = .ok (.ireturn, 1) := by decide +kernel
theorem dT_parentFor_0 : decode bT_parentFor 0 = .ok (.aload_n 0, 1) := by decide +kernel
theorem dT_parentFor_1 : decode bT_parentFor 1 = .ok (.getfield 31, 3) := by decide +kernel
theorem dT_parentFor_4 : decode bT_parentFor 4 = .ok (.iconst 1, 1) := by decide +kernel
theorem dT_parentFor_5 : decode bT_parentFor 5 = .ok (.isub, 1) := by decide +kernel
theorem dT_parentFor_6 : decode bT_parentFor 6 = .ok (.istore_n 2, 1) := by decide +kernel
theorem dT_parentFor_7 : decode bT_parentFor 7 = .ok (.iload_n 2, 1) := by decide +kernel
theorem dT_parentFor_8 : decode bT_parentFor 8 = .ok (.ifCond .lt 23, 3) := by decide +kernel
theorem dT_parentFor_11 : decode bT_parentFor 11 = .ok (.aload_n 0, 1) := by decide +kernel
theorem dT_parentFor_12 : decode bT_parentFor 12 = .ok (.getfield 15, 3) := by decide +kernel
theorem dT_parentFor_15 : decode bT_parentFor 15 = .ok (.iload_n 2, 1) := by decide +kernel
theorem dT_parentFor_16 : decode bT_parentFor 16 = .ok (.iaload, 1) := by decide +kernel
theorem dT_parentFor_17 : decode bT_parentFor 17 = .ok (.iload_n 1, 1) := by decide +kernel
theorem dT_parentFor_18 : decode bT_parentFor 18 = .ok (.iconst 1, 1) := by decide +kernel
theorem dT_parentFor_19 : decode bT_parentFor 19 = .ok (.isub, 1) := by decide +kernel
theorem dT_parentFor_20 : decode bT_parentFor 20 = .ok (.if_icmp .ne 5, 3) := by decide +kernel
theorem dT_parentFor_23 : decode bT_parentFor 23 = .ok (.iload_n 2, 1) := by decide +kernel
theorem dT_parentFor_24 : decode bT_parentFor 24 = .ok (.ireturn, 1) := by decide +kernel
theorem dT_parentFor_25 : decode bT_parentFor 25 = .ok (.iinc 2 (-1), 3) := by decide +kernel
theorem dT_parentFor_28 : decode bT_parentFor 28 = .ok (.goto (-21), 3) := by decide +kernel
theorem dT_parentFor_31 : decode bT_parentFor 31 = .ok (.iconst (-1), 1) := by decide +kernel
theorem dT_parentFor_32 : decode bT_parentFor 32 = .ok (.ireturn, 1) := by decide +kernel
theorem dT_fitsBelow_0 : decode bT_fitsBelow 0 = .ok (.aload_n 0, 1) := by decide +kernel
theorem dT_fitsBelow_1 : decode bT_fitsBelow 1 = .ok (.iload_n 1, 1) := by decide +kernel
theorem dT_fitsBelow_2 : decode bT_fitsBelow 2 = .ok (.invokevirtual 38, 3) := by decide +kernel
theorem dT_fitsBelow_5 : decode bT_fitsBelow 5 = .ok (.ifCond .ne 8, 3) := by decide +kernel
theorem dT_fitsBelow_8 : decode bT_fitsBelow 8 = .ok (.lload_n 2, 1) := by decide +kernel
theorem dT_fitsBelow_9 : decode bT_fitsBelow 9 = .ok (.invokestatic 46, 3) := by decide +kernel
theorem dT_fitsBelow_12 : decode bT_fitsBelow 12 = .ok (.ireturn, 1) := by decide +kernel
theorem dT_fitsBelow_13 : decode bT_fitsBelow 13 = .ok (.lload_n 2, 1) := by decide +kernel
theorem dT_fitsBelow_14 : decode bT_fitsBelow 14 = .ok (.aload_n 0, 1) := by decide +kernel
theorem dT_fitsBelow_15 : decode bT_fitsBelow 15 = .ok (.getfield 9, 3) := by decide +kernel
theorem dT_fitsBelow_18 : decode bT_fitsBelow 18 = .ok (.iload_n 1, 1) := by decide +kernel
theorem dT_fitsBelow_19 : decode bT_fitsBelow 19 = .ok (.laload, 1) := by decide +kernel
theorem dT_fitsBelow_20 : decode bT_fitsBelow 20 = .ok (.lcmp, 1) := by decide +kernel
theorem dT_fitsBelow_21 : decode bT_fitsBelow 21 = .ok (.ifCond .eq 20, 3) := by decide +kernel
theorem dT_fitsBelow_24 : decode bT_fitsBelow 24 = .ok (.lload_n 2, 1) := by decide +kernel
theorem dT_fitsBelow_25 : decode bT_fitsBelow 25 = .ok (.aload_n 0, 1) := by decide +kernel
theorem dT_fitsBelow_26 : decode bT_fitsBelow 26 = .ok (.getfield 9, 3) := by decide +kernel
theorem dT_fitsBelow_29 : decode bT_fitsBelow 29 = .ok (.iload_n 1, 1) := by decide +kernel
theorem dT_fitsBelow_30 : decode bT_fitsBelow 30 = .ok (.laload, 1) := by decide +kernel
theorem dT_fitsBelow_31 : decode bT_fitsBelow 31 = .ok (.invokestatic 52, 3) := by decide +kernel
theorem dT_fitsBelow_34 : decode bT_fitsBelow 34 = .ok (.ifCond .eq 7, 3) := by decide +kernel
theorem dT_fitsBelow_37 : decode bT_fitsBelow 37 = .ok (.iconst 1, 1) := by decide +kernel
theorem dT_fitsBelow_38 : decode bT_fitsBelow 38 = .ok (.goto 4, 3) := by decide +kernel
theorem dT_fitsBelow_41 : decode bT_fitsBelow 41 = .ok (.iconst 0, 1) := by decide +kernel
theorem dT_fitsBelow_42 : decode bT_fitsBelow 42 = .ok (.ireturn, 1) := by decide +kernel
theorem dT_comesBehindLast_0 : decode bT_comesBehindLast 0 = .ok (.aload_n 0, 1) := by decide +kernel
theorem dT_comesBehindLast_1 : decode bT_comesBehindLast 1 = .ok (.getfield 31, 3) := by decide +kernel
theorem dT_comesBehindLast_4 : decode bT_comesBehindLast 4 = .ok (.ifCond .eq 20, 3) := by decide +kernel
theorem dT_comesBehindLast_7 : decode bT_comesBehindLast 7 = .ok (.lload_n 1, 1) := by decide +kernel
theorem dT_comesBehindLast_8 : decode bT_comesBehindLast 8 = .ok (.aload_n 0, 1) := by decide +kernel
theorem dT_comesBehindLast_9 : decode bT_comesBehindLast 9 = .ok (.aload_n 0, 1) := by decide +kernel
theorem dT_comesBehindLast_10 : decode bT_comesBehindLast 10 = .ok (.getfield 31, 3) := by decide +kernel
theorem dT_comesBehindLast_13 : decode bT_comesBehindLast 13 = .ok (.iconst 1, 1) := by decide +kernel
theorem dT_comesBehindLast_14 : decode bT_comesBehindLast 14 = .ok (.isub, 1) := by decide +kernel
theorem dT_comesBehindLast_15 : decode bT_comesBehindLast 15 = .ok (.invokevirtual 56, 3) := by decide +kernel
theorem dT_comesBehindLast_18 : decode bT_comesBehindLast 18 = .ok (.invokestatic 60, 3) := by decide +kernel
theorem dT_comesBehindLast_21 : decode bT_comesBehindLast 21 = .ok (.ifCond .eq 7, 3) := by decide +kernel
theorem dT_comesBehindLast_24 : decode bT_comesBehindLast 24 = .ok (.iconst 1, 1) := by decide +kernel
theorem dT_comesBehindLast_25 : decode bT_comesBehindLast 25 = .ok (.goto 4, 3) := by decide +kernel
theorem dT_comesBehindLast_28 : decode bT_comesBehindLast 28 = .ok (.iconst 0, 1) := by decide +kernel
theorem dT_comesBehindLast_29 : decode bT_comesBehindLast 29 = .ok (.ireturn, 1) := by decide +kernel
theorem dT_add_0 : decode bT_add 0 = .ok (.aload_n 0, 1) := by decide +kernel
theorem dT_add_1 : decode bT_add 1 = .ok (.invokevirtual 63, 3) := by decide +kernel
theorem dT_add_4 : decode bT_add 4 = .ok (.ifCond .eq 4, 3) := by decide +kernel
theorem dT_add_7 : decode bT_add 7 = .ok (.return_, 1) := by decide +kernel
theorem dT_add_8 : decode bT_add 8 = .ok (.aload_n 0, 1) := by decide +kernel
theorem dT_add_9 : decode bT_add 9 = .ok (.iload_n 3, 1) := by decide +kernel
theorem dT_add_10 : decode bT_add 10 = .ok (.invokevirtual 67, 3) := by decide +kernel
theorem dT_add_13 : decode bT_add 13 = .ok (.istore 5, 2) := by decide +kernel
theorem dT_add_15 : decode bT_add 15 = .ok (.aload_n 0, 1) := by decide +kernel
theorem dT_add_16 : decode bT_add 16 = .ok (.getfield 9, 3) := by decide +kernel
theorem dT_add_19 : decode bT_add 19 = .ok (.aload_n 0, 1) := by decide +kernel
theorem dT_add_20 : decode bT_add 20 = .ok (.getfield 31, 3) := by decide +kernel
theorem dT_add_23 : decode bT_add 23 = .ok (.lload_n 1, 1) := by decide +kernel
theorem dT_add_24 : decode bT_add 24 = .ok (.lastore, 1) := by decide +kernel
theorem dT_add_25 : decode bT_add 25 = .ok (.aload_n 0, 1) := by decide +kernel
theorem dT_add_26 : decode bT_add 26 = .ok (.getfield 15, 3) := by decide +kernel
theorem dT_add_29 : decode bT_add 29 = .ok (.aload_n 0, 1) := by decide +kernel
theorem dT_add_30 : decode bT_add 30 = .ok (.getfield 31, 3) := by decide +kernel
theorem dT_add_33 : decode bT_add 33 = .ok (.iload_n 3, 1) := by decide +kernel
theorem dT_add_34 : decode bT_add 34 = .ok (.iastore, 1) := by decide +kernel
theorem dT_add_35 : decode bT_add 35 = .ok (.aload_n 0, 1) := by decide +kernel
theorem dT_add_36 : decode bT_add 36 = .ok (.getfield 19, 3) := by decide +kernel
theorem dT_add_39 : decode bT_add 39 = .ok (.aload_n 0, 1) := by decide +kernel
theorem dT_add_40 : decode bT_add 40 = .ok (.getfield 31, 3) := by decide +kernel
theorem dT_add_43 : decode bT_add 43 = .ok (.iload 5, 2) := by decide +kernel
theorem dT_add_45 : decode bT_add 45 = .ok (.iastore, 1) := by decide +kernel
theorem dT_add_46 : decode bT_add 46 = .ok (.aload_n 0, 1) := by decide +kernel
theorem dT_add_47 : decode bT_add 47 = .ok (.getfield 22, 3) := by decide +kernel
theorem dT_add_50 : decode bT_add 50 = .ok (.aload_n 0, 1) := by decide +kernel
theorem dT_add_51 : decode bT_add 51 = .ok (.getfield 31, 3) := by decide +kernel
theorem dT_add_54 : decode bT_add 54 = .ok (.iconst 0, 1) := by decide +kernel
theorem dT_add_55 : decode bT_add 55 = .ok (.iastore, 1) := by decide +kernel
theorem dT_add_56 : decode bT_add 56 = .ok (.aload_n 0, 1) := by decide +kernel
theorem dT_add_57 : decode bT_add 57 = .ok (.getfield 25, 3) := by decide +kernel
theorem dT_add_60 : decode bT_add 60 = .ok (.aload_n 0, 1) := by decide +kernel
theorem dT_add_61 : decode bT_add 61 = .ok (.getfield 31, 3) := by decide +kernel
theorem dT_add_64 : decode bT_add 64 = .ok (.aload 4, 2) := by decide +kernel
theorem dT_add_66 : decode bT_add 66 = .ok (.invokevirtual 70, 3) := by decide +kernel
theorem dT_add_69 : decode bT_add 69 = .ok (.iconst 4, 1) := by decide +kernel
theorem dT_add_70 : decode bT_add 70 = .ok (.invokestatic 76, 3) := by decide +kernel
theorem dT_add_73 : decode bT_add 73 = .ok (.iastore, 1) := by decide +kernel
theorem dT_add_74 : decode bT_add 74 = .ok (.iconst 0, 1) := by decide +kernel
theorem dT_add_75 : decode bT_add 75 = .ok (.istore 6, 2) := by decide +kernel
theorem dT_add_77 : decode bT_add 77 = .ok (.iload 6, 2) := by decide +kernel
theorem dT_add_79 : decode bT_add 79 = .ok (.aload_n 0, 1) := by decide +kernel
theorem dT_add_80 : decode bT_add 80 = .ok (.getfield 25, 3) := by decide +kernel
theorem dT_add_83 : decode bT_add 83 = .ok (.aload_n 0, 1) := by decide +kernel
theorem dT_add_84 : decode bT_add 84 = .ok (.getfield 31, 3) := by decide +kernel
theorem dT_add_87 : decode bT_add 87 = .ok (.iaload, 1) := by decide +kernel
theorem dT_add_88 : decode bT_add 88 = .ok (.if_icmp .ge 30, 3) := by decide +kernel
theorem dT_add_91 : decode bT_add 91 = .ok (.aload_n 0, 1) := by decide +kernel
theorem dT_add_92 : decode bT_add 92 = .ok (.getfield 28, 3) := by decide +kernel
theorem dT_add_95 : decode bT_add 95 = .ok (.aload_n 0, 1) := by decide +kernel
theorem dT_add_96 : decode bT_add 96 = .ok (.getfield 31, 3) := by decide +kernel
theorem dT_add_99 : decode bT_add 99 = .ok (.iconst 4, 1) := by decide +kernel
theorem dT_add_100 : decode bT_add 100 = .ok (.imul, 1) := by decide +kernel
theorem dT_add_101 : decode bT_add 101 = .ok (.iload 6, 2) := by decide +kernel
theorem dT_add_103 : decode bT_add 103 = .ok (.iadd, 1) := by decide +kernel
theorem dT_add_104 : decode bT_add 104 = .ok (.aload 4, 2) := by decide +kernel
theorem dT_add_106 : decode bT_add 106 = .ok (.iload 6, 2) := by decide +kernel
theorem dT_add_108 : decode bT_add 108 = .ok (.invokevirtual 82, 3) := by decide +kernel
theorem dT_add_111 : decode bT_add 111 = .ok (.lastore, 1) := by decide +kernel
theorem dT_add_112 : decode bT_add 112 = .ok (.iinc 6 1, 3) := by decide +kernel
theorem dT_add_115 : decode bT_add 115 = .ok (.goto (-38), 3) := by decide +kernel
theorem dT_add_118 : decode bT_add 118 = .ok (.aload_n 0, 1) := by decide +kernel
theorem dT_add_119 : decode bT_add 119 = .ok (.iload 5, 2) := by decide +kernel
theorem dT_add_121 : decode bT_add 121 = .ok (.invokevirtual 38, 3) := by decide +kernel
theorem dT_add_124 : decode bT_add 124 = .ok (.ifCond .eq 17, 3) := by decide +kernel
theorem dT_add_127 : decode bT_add 127 = .ok (.aload_n 0, 1) := by decide +kernel
theorem dT_add_128 : decode bT_add 128 = .ok (.getfield 22, 3) := by decide +kernel
theorem dT_add_131 : decode bT_add 131 = .ok (.iload 5, 2) := by decide +kernel
theorem dT_add_133 : decode bT_add 133 = .ok (.dup2, 1) := by decide +kernel
theorem dT_add_134 : decode bT_add 134 = .ok (.iaload, 1) := by decide +kernel
theorem dT_add_135 : decode bT_add 135 = .ok (.iconst 1, 1) := by decide +kernel
theorem dT_add_136 : decode bT_add 136 = .ok (.iadd, 1) := by decide +kernel
theorem dT_add_137 : decode bT_add 137 = .ok (.iastore, 1) := by decide +kernel
theorem dT_add_138 : decode bT_add 138 = .ok (.goto 13, 3) := by decide +kernel
theorem dT_add_141 : decode bT_add 141 = .ok (.aload_n 0, 1) := by decide +kernel
theorem dT_add_142 : decode bT_add 142 = .ok (.dup, 1) := by decide +kernel
theorem dT_add_143 : decode bT_add 143 = .ok (.getfield 35, 3) := by decide +kernel
theorem dT_add_146 : decode bT_add 146 = .ok (.iconst 1, 1) := by decide +kernel
theorem dT_add_147 : decode bT_add 147 = .ok (.iadd, 1) := by decide +kernel
theorem dT_add_148 : decode bT_add 148 = .ok (.putfield 35, 3) := by decide +kernel
theorem dT_add_151 : decode bT_add 151 = .ok (.aload_n 0, 1) := by decide +kernel
theorem dT_add_152 : decode bT_add 152 = .ok (.dup, 1) := by decide +kernel
theorem dT_add_153 : decode bT_add 153 = .ok (.getfield 31, 3) := by decide +kernel
theorem dT_add_156 : decode bT_add 156 = .ok (.iconst 1, 1) := by decide +kernel
theorem dT_add_157 : decode bT_add 157 = .ok (.iadd, 1) := by decide +kernel
theorem dT_add_158 : decode bT_add 158 = .ok (.putfield 31, 3) := by decide +kernel
theorem dT_add_161 : decode bT_add 161 = .ok (.return_, 1) := by decide +kernel
theorem dT_pointsFor_0 : decode bT_pointsFor 0 = .ok (.aload_n 0, 1) := by decide +kernel
theorem dT_pointsFor_1 : decode bT_pointsFor 1 = .ok (.iload_n 1, 1) := by decide +kernel
theorem dT_pointsFor_2 : decode bT_pointsFor 2 = .ok (.lload_n 2, 1) := by decide +kernel
theorem dT_pointsFor_3 : decode bT_pointsFor 3 = .ok (.invokevirtual 85, 3) := by decide +kernel
theorem dT_pointsFor_6 : decode bT_pointsFor 6 = .ok (.ifCond .eq 5, 3) := by decide +kernel
theorem dT_pointsFor_9 : decode bT_pointsFor 9 = .ok (.iconst 4, 1) := by decide +kernel
theorem dT_pointsFor_10 : decode bT_pointsFor 10 = .ok (.ireturn, 1) := by decide +kernel
theorem dT_pointsFor_11 : decode bT_pointsFor 11 = .ok (.aload_n 0, 1) := by decide +kernel
theorem dT_pointsFor_12 : decode bT_pointsFor 12 = .ok (.iload_n 1, 1) := by decide +kernel
theorem dT_pointsFor_13 : decode bT_pointsFor 13 = .ok (.invokevirtual 89, 3) := by decide +kernel
theorem dT_pointsFor_16 : decode bT_pointsFor 16 = .ok (.istore 4, 2) := by decide +kernel
theorem dT_pointsFor_18 : decode bT_pointsFor 18 = .ok (.iconst 0, 1) := by decide +kernel
theorem dT_pointsFor_19 : decode bT_pointsFor 19 = .ok (.istore 5, 2) := by decide +kernel
theorem dT_pointsFor_21 : decode bT_pointsFor 21 = .ok (.iload 5, 2) := by decide +kernel
theorem dT_pointsFor_23 : decode bT_pointsFor 23 = .ok (.iconst 4, 1) := by decide +kernel
theorem dT_pointsFor_24 : decode bT_pointsFor 24 = .ok (.if_icmp .ge 35, 3) := by decide +kernel
theorem dT_pointsFor_27 : decode bT_pointsFor 27 = .ok (.iload 4, 2) := by decide +kernel
theorem dT_pointsFor_29 : decode bT_pointsFor 29 = .ok (.iconst (-1), 1) := by decide +kernel
theorem dT_pointsFor_30 : decode bT_pointsFor 30 = .ok (.if_icmp .eq 29, 3) := by decide +kernel
theorem dT_pointsFor_33 : decode bT_pointsFor 33 = .ok (.aload_n 0, 1) := by decide +kernel
theorem dT_pointsFor_34 : decode bT_pointsFor 34 = .ok (.iload 4, 2) := by decide +kernel
theorem dT_pointsFor_36 : decode bT_pointsFor 36 = .ok (.lload_n 2, 1) := by decide +kernel
theorem dT_pointsFor_37 : decode bT_pointsFor 37 = .ok (.invokevirtual 85, 3) := by decide +kernel
theorem dT_pointsFor_40 : decode bT_pointsFor 40 = .ok (.ifCond .eq 5, 3) := by decide +kernel
theorem dT_pointsFor_43 : decode bT_pointsFor 43 = .ok (.iconst 2, 1) := by decide +kernel
theorem dT_pointsFor_44 : decode bT_pointsFor 44 = .ok (.ireturn, 1) := by decide +kernel
theorem dT_pointsFor_45 : decode bT_pointsFor 45 = .ok (.aload_n 0, 1) := by decide +kernel
theorem dT_pointsFor_46 : decode bT_pointsFor 46 = .ok (.iload 4, 2) := by decide +kernel
theorem dT_pointsFor_48 : decode bT_pointsFor 48 = .ok (.invokevirtual 89, 3) := by decide +kernel
theorem dT_pointsFor_51 : decode bT_pointsFor 51 = .ok (.istore 4, 2) := by decide +kernel
theorem dT_pointsFor_53 : decode bT_pointsFor 53 = .ok (.iinc 5 1, 3) := by decide +kernel
theorem dT_pointsFor_56 : decode bT_pointsFor 56 = .ok (.goto (-35), 3) := by decide +kernel
theorem dT_pointsFor_59 : decode bT_pointsFor 59 = .ok (.iconst 0, 1) := by decide +kernel
theorem dT_pointsFor_60 : decode bT_pointsFor 60 = .ok (.ireturn, 1) := by decide +kernel
theorem dT_hasWord_0 : decode bT_hasWord 0 = .ok (.iconst 0, 1) := by decide +kernel
theorem dT_hasWord_1 : decode bT_hasWord 1 = .ok (.istore 4, 2) := by decide +kernel
theorem dT_hasWord_3 : decode bT_hasWord 3 = .ok (.iload 4, 2) := by decide +kernel
theorem dT_hasWord_5 : decode bT_hasWord 5 = .ok (.aload_n 0, 1) := by decide +kernel
theorem dT_hasWord_6 : decode bT_hasWord 6 = .ok (.iload_n 1, 1) := by decide +kernel
theorem dT_hasWord_7 : decode bT_hasWord 7 = .ok (.invokevirtual 92, 3) := by decide +kernel
theorem dT_hasWord_10 : decode bT_hasWord 10 = .ok (.if_icmp .ge 27, 3) := by decide +kernel
theorem dT_hasWord_13 : decode bT_hasWord 13 = .ok (.aload_n 0, 1) := by decide +kernel
theorem dT_hasWord_14 : decode bT_hasWord 14 = .ok (.getfield 28, 3) := by decide +kernel
theorem dT_hasWord_17 : decode bT_hasWord 17 = .ok (.iload_n 1, 1) := by decide +kernel
theorem dT_hasWord_18 : decode bT_hasWord 18 = .ok (.iconst 4, 1) := by decide +kernel
theorem dT_hasWord_19 : decode bT_hasWord 19 = .ok (.imul, 1) := by decide +kernel
theorem dT_hasWord_20 : decode bT_hasWord 20 = .ok (.iload 4, 2) := by decide +kernel
theorem dT_hasWord_22 : decode bT_hasWord 22 = .ok (.iadd, 1) := by decide +kernel
theorem dT_hasWord_23 : decode bT_hasWord 23 = .ok (.laload, 1) := by decide +kernel
theorem dT_hasWord_24 : decode bT_hasWord 24 = .ok (.lload_n 2, 1) := by decide +kernel
theorem dT_hasWord_25 : decode bT_hasWord 25 = .ok (.lcmp, 1) := by decide +kernel
theorem dT_hasWord_26 : decode bT_hasWord 26 = .ok (.ifCond .ne 5, 3) := by decide +kernel
theorem dT_hasWord_29 : decode bT_hasWord 29 = .ok (.iconst 1, 1) := by decide +kernel
theorem dT_hasWord_30 : decode bT_hasWord 30 = .ok (.ireturn, 1) := by decide +kernel
theorem dT_hasWord_31 : decode bT_hasWord 31 = .ok (.iinc 4 1, 3) := by decide +kernel
theorem dT_hasWord_34 : decode bT_hasWord 34 = .ok (.goto (-31), 3) := by decide +kernel
theorem dT_hasWord_37 : decode bT_hasWord 37 = .ok (.iconst 0, 1) := by decide +kernel
theorem dT_hasWord_38 : decode bT_hasWord 38 = .ok (.ireturn, 1) := by decide +kernel
