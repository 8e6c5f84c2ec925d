theorem dX0_init_0 : decode cX0_init 0 = .ok (.aload_n 0, 1) := by decide +kernel
theorem dX0_init_1 : decode cX0_init 1 = .ok (.invokespecial 3, 3) := by decide +kernel
theorem dX0_init_4 : decode cX0_init 4 = .ok (.aload_n 0, 1) := by decide +kernel
theorem dX0_init_5 : decode cX0_init 5 = .ok (.iconst 0, 1) := by decide +kernel
theorem dX0_init_6 : decode cX0_init 6 = .ok (.putfield 9, 3) := by decide +kernel
theorem dX0_init_9 : decode cX0_init 9 = .ok (.aload_n 0, 1) := by decide +kernel
theorem dX0_init_10 : decode cX0_init 10 = .ok (.aload_n 1, 1) := by decide +kernel
theorem dX0_init_11 : decode cX0_init 11 = .ok (.putfield 15, 3) := by decide +kernel
theorem dX0_init_14 : decode cX0_init 14 = .ok (.aload_n 0, 1) := by decide +kernel
theorem dX0_init_15 : decode cX0_init 15 = .ok (.iload_n 2, 1) := by decide +kernel
theorem dX0_init_16 : decode cX0_init 16 = .ok (.putfield 19, 3) := by decide +kernel
theorem dX0_init_19 : decode cX0_init 19 = .ok (.return_, 1) := by decide +kernel
theorem dX0_abortIfGoing_0 : decode cX0_abortIfGoing 0 = .ok (.aload_n 0, 1) := by decide +kernel
theorem dX0_abortIfGoing_1 : decode cX0_abortIfGoing 1 = .ok (.getfield 9, 3) := by decide +kernel
theorem dX0_abortIfGoing_4 : decode cX0_abortIfGoing 4 = .ok (.ifCond .eq 5, 3) := by decide +kernel
theorem dX0_abortIfGoing_7 : decode cX0_abortIfGoing 7 = .ok (.iconst 0, 1) := by decide +kernel
theorem dX0_abortIfGoing_8 : decode cX0_abortIfGoing 8 = .ok (.ireturn, 1) := by decide +kernel
theorem dX0_abortIfGoing_9 : decode cX0_abortIfGoing 9 = .ok (.aload_n 0, 1) := by decide +kernel
theorem dX0_abortIfGoing_10 : decode cX0_abortIfGoing 10 = .ok (.iconst 2, 1) := by decide +kernel
theorem dX0_abortIfGoing_11 : decode cX0_abortIfGoing 11 = .ok (.putfield 9, 3) := by decide +kernel
theorem dX0_abortIfGoing_14 : decode cX0_abortIfGoing 14 = .ok (.iconst 1, 1) := by decide +kernel
theorem dX0_abortIfGoing_15 : decode cX0_abortIfGoing 15 = .ok (.ireturn, 1) := by decide +kernel
theorem dX1_init_0 : decode cX1_init 0 = .ok (.aload_n 0, 1) := by decide +kernel
theorem dX1_init_1 : decode cX1_init 1 = .ok (.invokespecial 3, 3) := by decide +kernel
theorem dX1_init_4 : decode cX1_init 4 = .ok (.aload_n 0, 1) := by decide +kernel
theorem dX1_init_5 : decode cX1_init 5 = .ok (.iconst 1, 1) := by decide +kernel
theorem dX1_init_6 : decode cX1_init 6 = .ok (.putfield 9, 3) := by decide +kernel
theorem dX1_init_9 : decode cX1_init 9 = .ok (.aload_n 0, 1) := by decide +kernel
theorem dX1_init_10 : decode cX1_init 10 = .ok (.iconst (-1), 1) := by decide +kernel
theorem dX1_init_11 : decode cX1_init 11 = .ok (.putfield 15, 3) := by decide +kernel
theorem dX1_init_14 : decode cX1_init 14 = .ok (.aload_n 0, 1) := by decide +kernel
theorem dX1_init_15 : decode cX1_init 15 = .ok (.iload_n 1, 1) := by decide +kernel
theorem dX1_init_16 : decode cX1_init 16 = .ok (.putfield 19, 3) := by decide +kernel
theorem dX1_init_19 : decode cX1_init 19 = .ok (.aload_n 0, 1) := by decide +kernel
theorem dX1_init_20 : decode cX1_init 20 = .ok (.iload_n 2, 1) := by decide +kernel
theorem dX1_init_21 : decode cX1_init 21 = .ok (.putfield 22, 3) := by decide +kernel
theorem dX1_init_24 : decode cX1_init 24 = .ok (.aload_n 0, 1) := by decide +kernel
theorem dX1_init_25 : decode cX1_init 25 = .ok (.iload_n 3, 1) := by decide +kernel
theorem dX1_init_26 : decode cX1_init 26 = .ok (.putfield 25, 3) := by decide +kernel
theorem dX1_init_29 : decode cX1_init 29 = .ok (.aload_n 0, 1) := by decide +kernel
theorem dX1_init_30 : decode cX1_init 30 = .ok (.iload 4, 2) := by decide +kernel
theorem dX1_init_32 : decode cX1_init 32 = .ok (.putfield 28, 3) := by decide +kernel
theorem dX1_init_35 : decode cX1_init 35 = .ok (.aload_n 0, 1) := by decide +kernel
theorem dX1_init_36 : decode cX1_init 36 = .ok (.iload 5, 2) := by decide +kernel
theorem dX1_init_38 : decode cX1_init 38 = .ok (.putfield 31, 3) := by decide +kernel
theorem dX1_init_41 : decode cX1_init 41 = .ok (.return_, 1) := by decide +kernel
theorem dX1_isBound_0 : decode cX1_isBound 0 = .ok (.aload_n 0, 1) := by decide +kernel
theorem dX1_isBound_1 : decode cX1_isBound 1 = .ok (.getfield 34, 3) := by decide +kernel
theorem dX1_isBound_4 : decode cX1_isBound 4 = .ok (.ifnull 7, 3) := by decide +kernel
theorem dX1_isBound_7 : decode cX1_isBound 7 = .ok (.iconst 1, 1) := by decide +kernel
theorem dX1_isBound_8 : decode cX1_isBound 8 = .ok (.goto 4, 3) := by decide +kernel
theorem dX1_isBound_11 : decode cX1_isBound 11 = .ok (.iconst 0, 1) := by decide +kernel
theorem dX1_isBound_12 : decode cX1_isBound 12 = .ok (.ireturn, 1) := by decide +kernel
theorem dX1_isSaved_0 : decode cX1_isSaved 0 = .ok (.aload_n 0, 1) := by decide +kernel
theorem dX1_isSaved_1 : decode cX1_isSaved 1 = .ok (.getfield 34, 3) := by decide +kernel
theorem dX1_isSaved_4 : decode cX1_isSaved 4 = .ok (.ifnull 17, 3) := by decide +kernel
theorem dX1_isSaved_7 : decode cX1_isSaved 7 = .ok (.aload_n 0, 1) := by decide +kernel
theorem dX1_isSaved_8 : decode cX1_isSaved 8 = .ok (.getfield 34, 3) := by decide +kernel
theorem dX1_isSaved_11 : decode cX1_isSaved 11 = .ok (.getfield 38, 3) := by decide +kernel
theorem dX1_isSaved_14 : decode cX1_isSaved 14 = .ok (.ifCond .eq 7, 3) := by decide +kernel
theorem dX1_isSaved_17 : decode cX1_isSaved 17 = .ok (.iconst 1, 1) := by decide +kernel
theorem dX1_isSaved_18 : decode cX1_isSaved 18 = .ok (.goto 4, 3) := by decide +kernel
theorem dX1_isSaved_21 : decode cX1_isSaved 21 = .ok (.iconst 0, 1) := by decide +kernel
theorem dX1_isSaved_22 : decode cX1_isSaved 22 = .ok (.ireturn, 1) := by decide +kernel
theorem dX1_isAtOrBelow_0 : decode cX1_isAtOrBelow 0 = .ok (.aload_n 0, 1) := by decide +kernel
theorem dX1_isAtOrBelow_1 : decode cX1_isAtOrBelow 1 = .ok (.astore_n 2, 1) := by decide +kernel
theorem dX1_isAtOrBelow_2 : decode cX1_isAtOrBelow 2 = .ok (.aload_n 2, 1) := by decide +kernel
theorem dX1_isAtOrBelow_3 : decode cX1_isAtOrBelow 3 = .ok (.ifnull 18, 3) := by decide +kernel
theorem dX1_isAtOrBelow_6 : decode cX1_isAtOrBelow 6 = .ok (.aload_n 2, 1) := by decide +kernel
theorem dX1_isAtOrBelow_7 : decode cX1_isAtOrBelow 7 = .ok (.aload_n 1, 1) := by decide +kernel
theorem dX1_isAtOrBelow_8 : decode cX1_isAtOrBelow 8 = .ok (.if_acmp .ne 5, 3) := by decide +kernel
theorem dX1_isAtOrBelow_11 : decode cX1_isAtOrBelow 11 = .ok (.iconst 1, 1) := by decide +kernel
theorem dX1_isAtOrBelow_12 : decode cX1_isAtOrBelow 12 = .ok (.ireturn, 1) := by decide +kernel
theorem dX1_isAtOrBelow_13 : decode cX1_isAtOrBelow 13 = .ok (.aload_n 2, 1) := by decide +kernel
theorem dX1_isAtOrBelow_14 : decode cX1_isAtOrBelow 14 = .ok (.getfield 43, 3) := by decide +kernel
theorem dX1_isAtOrBelow_17 : decode cX1_isAtOrBelow 17 = .ok (.astore_n 2, 1) := by decide +kernel
theorem dX1_isAtOrBelow_18 : decode cX1_isAtOrBelow 18 = .ok (.goto (-16), 3) := by decide +kernel
theorem dX1_isAtOrBelow_21 : decode cX1_isAtOrBelow 21 = .ok (.iconst 0, 1) := by decide +kernel
theorem dX1_isAtOrBelow_22 : decode cX1_isAtOrBelow 22 = .ok (.ireturn, 1) := by decide +kernel
theorem dX1_hasLeavingNeed_0 : decode cX1_hasLeavingNeed 0 = .ok (.aload_n 0, 1) := by decide +kernel
theorem dX1_hasLeavingNeed_1 : decode cX1_hasLeavingNeed 1 = .ok (.getfield 43, 3) := by decide +kernel
theorem dX1_hasLeavingNeed_4 : decode cX1_hasLeavingNeed 4 = .ok (.ifnull 13, 3) := by decide +kernel
theorem dX1_hasLeavingNeed_7 : decode cX1_hasLeavingNeed 7 = .ok (.aload_n 0, 1) := by decide +kernel
theorem dX1_hasLeavingNeed_8 : decode cX1_hasLeavingNeed 8 = .ok (.getfield 43, 3) := by decide +kernel
theorem dX1_hasLeavingNeed_11 : decode cX1_hasLeavingNeed 11 = .ok (.getfield 47, 3) := by decide +kernel
theorem dX1_hasLeavingNeed_14 : decode cX1_hasLeavingNeed 14 = .ok (.ifCond .ne 37, 3) := by decide +kernel
theorem dX1_hasLeavingNeed_17 : decode cX1_hasLeavingNeed 17 = .ok (.aload_n 0, 1) := by decide +kernel
theorem dX1_hasLeavingNeed_18 : decode cX1_hasLeavingNeed 18 = .ok (.getfield 50, 3) := by decide +kernel
theorem dX1_hasLeavingNeed_21 : decode cX1_hasLeavingNeed 21 = .ok (.ifnull 13, 3) := by decide +kernel
theorem dX1_hasLeavingNeed_24 : decode cX1_hasLeavingNeed 24 = .ok (.aload_n 0, 1) := by decide +kernel
theorem dX1_hasLeavingNeed_25 : decode cX1_hasLeavingNeed 25 = .ok (.getfield 50, 3) := by decide +kernel
theorem dX1_hasLeavingNeed_28 : decode cX1_hasLeavingNeed 28 = .ok (.getfield 47, 3) := by decide +kernel
theorem dX1_hasLeavingNeed_31 : decode cX1_hasLeavingNeed 31 = .ok (.ifCond .ne 20, 3) := by decide +kernel
theorem dX1_hasLeavingNeed_34 : decode cX1_hasLeavingNeed 34 = .ok (.aload_n 0, 1) := by decide +kernel
theorem dX1_hasLeavingNeed_35 : decode cX1_hasLeavingNeed 35 = .ok (.getfield 53, 3) := by decide +kernel
theorem dX1_hasLeavingNeed_38 : decode cX1_hasLeavingNeed 38 = .ok (.ifnull 17, 3) := by decide +kernel
theorem dX1_hasLeavingNeed_41 : decode cX1_hasLeavingNeed 41 = .ok (.aload_n 0, 1) := by decide +kernel
theorem dX1_hasLeavingNeed_42 : decode cX1_hasLeavingNeed 42 = .ok (.getfield 53, 3) := by decide +kernel
theorem dX1_hasLeavingNeed_45 : decode cX1_hasLeavingNeed 45 = .ok (.getfield 47, 3) := by decide +kernel
theorem dX1_hasLeavingNeed_48 : decode cX1_hasLeavingNeed 48 = .ok (.ifCond .eq 7, 3) := by decide +kernel
theorem dX1_hasLeavingNeed_51 : decode cX1_hasLeavingNeed 51 = .ok (.iconst 1, 1) := by decide +kernel
theorem dX1_hasLeavingNeed_52 : decode cX1_hasLeavingNeed 52 = .ok (.goto 4, 3) := by decide +kernel
theorem dX1_hasLeavingNeed_55 : decode cX1_hasLeavingNeed 55 = .ok (.iconst 0, 1) := by decide +kernel
theorem dX1_hasLeavingNeed_56 : decode cX1_hasLeavingNeed 56 = .ok (.ireturn, 1) := by decide +kernel
theorem dX1_space_0 : decode cX1_space 0 = .ok (.aload_n 0, 1) := by decide +kernel
theorem dX1_space_1 : decode cX1_space 1 = .ok (.getfield 43, 3) := by decide +kernel
theorem dX1_space_4 : decode cX1_space 4 = .ok (.astore_n 1, 1) := by decide +kernel
theorem dX1_space_5 : decode cX1_space 5 = .ok (.aload_n 1, 1) := by decide +kernel
theorem dX1_space_6 : decode cX1_space 6 = .ok (.ifnull 21, 3) := by decide +kernel
theorem dX1_space_9 : decode cX1_space 9 = .ok (.aload_n 1, 1) := by decide +kernel
theorem dX1_space_10 : decode cX1_space 10 = .ok (.getfield 15, 3) := by decide +kernel
theorem dX1_space_13 : decode cX1_space 13 = .ok (.iconst (-1), 1) := by decide +kernel
theorem dX1_space_14 : decode cX1_space 14 = .ok (.if_icmp .eq 5, 3) := by decide +kernel
theorem dX1_space_17 : decode cX1_space 17 = .ok (.aload_n 1, 1) := by decide +kernel
theorem dX1_space_18 : decode cX1_space 18 = .ok (.areturn, 1) := by decide +kernel
theorem dX1_space_19 : decode cX1_space 19 = .ok (.aload_n 1, 1) := by decide +kernel
theorem dX1_space_20 : decode cX1_space 20 = .ok (.getfield 43, 3) := by decide +kernel
theorem dX1_space_23 : decode cX1_space 23 = .ok (.astore_n 1, 1) := by decide +kernel
theorem dX1_space_24 : decode cX1_space 24 = .ok (.goto (-19), 3) := by decide +kernel
theorem dX1_space_27 : decode cX1_space 27 = .ok (.aconst_null, 1) := by decide +kernel
theorem dX1_space_28 : decode cX1_space 28 = .ok (.areturn, 1) := by decide +kernel
theorem dX2_init_0 : decode cX2_init 0 = .ok (.aload_n 0, 1) := by decide +kernel
theorem dX2_init_1 : decode cX2_init 1 = .ok (.invokespecial 1, 3) := by decide +kernel
theorem dX2_init_4 : decode cX2_init 4 = .ok (.aload_n 0, 1) := by decide +kernel
theorem dX2_init_5 : decode cX2_init 5 = .ok (.iload_n 1, 1) := by decide +kernel
theorem dX2_init_6 : decode cX2_init 6 = .ok (.putfield 7, 3) := by decide +kernel
theorem dX2_init_9 : decode cX2_init 9 = .ok (.aload_n 0, 1) := by decide +kernel
theorem dX2_init_10 : decode cX2_init 10 = .ok (.iload_n 2, 1) := by decide +kernel
theorem dX2_init_11 : decode cX2_init 11 = .ok (.putfield 13, 3) := by decide +kernel
theorem dX2_init_14 : decode cX2_init 14 = .ok (.aload_n 0, 1) := by decide +kernel
theorem dX2_init_15 : decode cX2_init 15 = .ok (.iload_n 3, 1) := by decide +kernel
theorem dX2_init_16 : decode cX2_init 16 = .ok (.putfield 16, 3) := by decide +kernel
theorem dX2_init_19 : decode cX2_init 19 = .ok (.aload_n 0, 1) := by decide +kernel
theorem dX2_init_20 : decode cX2_init 20 = .ok (.iload 4, 2) := by decide +kernel
theorem dX2_init_22 : decode cX2_init 22 = .ok (.putfield 19, 3) := by decide +kernel
theorem dX2_init_25 : decode cX2_init 25 = .ok (.aload_n 0, 1) := by decide +kernel
theorem dX2_init_26 : decode cX2_init 26 = .ok (.iload 5, 2) := by decide +kernel
theorem dX2_init_28 : decode cX2_init 28 = .ok (.putfield 22, 3) := by decide +kernel
theorem dX2_init_31 : decode cX2_init 31 = .ok (.return_, 1) := by decide +kernel
theorem dX2_knows_0 : decode cX2_knows 0 = .ok (.aload_n 0, 1) := by decide +kernel
theorem dX2_knows_1 : decode cX2_knows 1 = .ok (.getfield 13, 3) := by decide +kernel
theorem dX2_knows_4 : decode cX2_knows 4 = .ok (.iload_n 1, 1) := by decide +kernel
theorem dX2_knows_5 : decode cX2_knows 5 = .ok (.iushr, 1) := by decide +kernel
theorem dX2_knows_6 : decode cX2_knows 6 = .ok (.iconst 1, 1) := by decide +kernel
theorem dX2_knows_7 : decode cX2_knows 7 = .ok (.iand, 1) := by decide +kernel
theorem dX2_knows_8 : decode cX2_knows 8 = .ok (.iconst 1, 1) := by decide +kernel
theorem dX2_knows_9 : decode cX2_knows 9 = .ok (.if_icmp .ne 7, 3) := by decide +kernel
theorem dX2_knows_12 : decode cX2_knows 12 = .ok (.iconst 1, 1) := by decide +kernel
theorem dX2_knows_13 : decode cX2_knows 13 = .ok (.goto 4, 3) := by decide +kernel
theorem dX2_knows_16 : decode cX2_knows 16 = .ok (.iconst 0, 1) := by decide +kernel
theorem dX2_knows_17 : decode cX2_knows 17 = .ok (.ireturn, 1) := by decide +kernel
theorem dX3_init_0 : decode cX3_init 0 = .ok (.aload_n 0, 1) := by decide +kernel
theorem dX3_init_1 : decode cX3_init 1 = .ok (.invokespecial 1, 3) := by decide +kernel
theorem dX3_init_4 : decode cX3_init 4 = .ok (.aload_n 0, 1) := by decide +kernel
theorem dX3_init_5 : decode cX3_init 5 = .ok (.bipush 20, 2) := by decide +kernel
theorem dX3_init_7 : decode cX3_init 7 = .ok (.newarray .int, 2) := by decide +kernel
theorem dX3_init_9 : decode cX3_init 9 = .ok (.putfield 9, 3) := by decide +kernel
theorem dX3_init_12 : decode cX3_init 12 = .ok (.aload_n 0, 1) := by decide +kernel
theorem dX3_init_13 : decode cX3_init 13 = .ok (.bipush 20, 2) := by decide +kernel
theorem dX3_init_15 : decode cX3_init 15 = .ok (.newarray .int, 2) := by decide +kernel
theorem dX3_init_17 : decode cX3_init 17 = .ok (.putfield 13, 3) := by decide +kernel
theorem dX3_init_20 : decode cX3_init 20 = .ok (.return_, 1) := by decide +kernel
theorem dX3_note_0 : decode cX3_note 0 = .ok (.aload_n 0, 1) := by decide +kernel
theorem dX3_note_1 : decode cX3_note 1 = .ok (.getfield 16, 3) := by decide +kernel
theorem dX3_note_4 : decode cX3_note 4 = .ok (.bipush 20, 2) := by decide +kernel
theorem dX3_note_6 : decode cX3_note 6 = .ok (.invokestatic 20, 3) := by decide +kernel
theorem dX3_note_9 : decode cX3_note 9 = .ok (.istore_n 3, 1) := by decide +kernel
theorem dX3_note_10 : decode cX3_note 10 = .ok (.aload_n 0, 1) := by decide +kernel
theorem dX3_note_11 : decode cX3_note 11 = .ok (.getfield 9, 3) := by decide +kernel
theorem dX3_note_14 : decode cX3_note 14 = .ok (.iload_n 3, 1) := by decide +kernel
theorem dX3_note_15 : decode cX3_note 15 = .ok (.iload_n 1, 1) := by decide +kernel
theorem dX3_note_16 : decode cX3_note 16 = .ok (.iastore, 1) := by decide +kernel
theorem dX3_note_17 : decode cX3_note 17 = .ok (.aload_n 0, 1) := by decide +kernel
theorem dX3_note_18 : decode cX3_note 18 = .ok (.getfield 13, 3) := by decide +kernel
theorem dX3_note_21 : decode cX3_note 21 = .ok (.iload_n 3, 1) := by decide +kernel
theorem dX3_note_22 : decode cX3_note 22 = .ok (.iload_n 2, 1) := by decide +kernel
theorem dX3_note_23 : decode cX3_note 23 = .ok (.iastore, 1) := by decide +kernel
theorem dX3_note_24 : decode cX3_note 24 = .ok (.aload_n 0, 1) := by decide +kernel
theorem dX3_note_25 : decode cX3_note 25 = .ok (.dup, 1) := by decide +kernel
theorem dX3_note_26 : decode cX3_note 26 = .ok (.getfield 16, 3) := by decide +kernel
theorem dX3_note_29 : decode cX3_note 29 = .ok (.iconst 1, 1) := by decide +kernel
theorem dX3_note_30 : decode cX3_note 30 = .ok (.iadd, 1) := by decide +kernel
theorem dX3_note_31 : decode cX3_note 31 = .ok (.putfield 16, 3) := by decide +kernel
theorem dX3_note_34 : decode cX3_note 34 = .ok (.return_, 1) := by decide +kernel
theorem dX3_keeps_0 : decode cX3_keeps 0 = .ok (.iload_n 1, 1) := by decide +kernel
theorem dX3_keeps_1 : decode cX3_keeps 1 = .ok (.ifCond .lt 26, 3) := by decide +kernel
theorem dX3_keeps_4 : decode cX3_keeps 4 = .ok (.iload_n 1, 1) := by decide +kernel
theorem dX3_keeps_5 : decode cX3_keeps 5 = .ok (.aload_n 0, 1) := by decide +kernel
theorem dX3_keeps_6 : decode cX3_keeps 6 = .ok (.getfield 16, 3) := by decide +kernel
theorem dX3_keeps_9 : decode cX3_keeps 9 = .ok (.if_icmp .ge 18, 3) := by decide +kernel
theorem dX3_keeps_12 : decode cX3_keeps 12 = .ok (.iload_n 1, 1) := by decide +kernel
theorem dX3_keeps_13 : decode cX3_keeps 13 = .ok (.aload_n 0, 1) := by decide +kernel
theorem dX3_keeps_14 : decode cX3_keeps 14 = .ok (.getfield 16, 3) := by decide +kernel
theorem dX3_keeps_17 : decode cX3_keeps 17 = .ok (.bipush 20, 2) := by decide +kernel
theorem dX3_keeps_19 : decode cX3_keeps 19 = .ok (.isub, 1) := by decide +kernel
theorem dX3_keeps_20 : decode cX3_keeps 20 = .ok (.if_icmp .lt 7, 3) := by decide +kernel
theorem dX3_keeps_23 : decode cX3_keeps 23 = .ok (.iconst 1, 1) := by decide +kernel
theorem dX3_keeps_24 : decode cX3_keeps 24 = .ok (.goto 4, 3) := by decide +kernel
theorem dX3_keeps_27 : decode cX3_keeps 27 = .ok (.iconst 0, 1) := by decide +kernel
theorem dX3_keeps_28 : decode cX3_keeps 28 = .ok (.ireturn, 1) := by decide +kernel
theorem dX3_kindAt_0 : decode cX3_kindAt 0 = .ok (.aload_n 0, 1) := by decide +kernel
theorem dX3_kindAt_1 : decode cX3_kindAt 1 = .ok (.getfield 9, 3) := by decide +kernel
theorem dX3_kindAt_4 : decode cX3_kindAt 4 = .ok (.iload_n 1, 1) := by decide +kernel
theorem dX3_kindAt_5 : decode cX3_kindAt 5 = .ok (.bipush 20, 2) := by decide +kernel
theorem dX3_kindAt_7 : decode cX3_kindAt 7 = .ok (.invokestatic 20, 3) := by decide +kernel
theorem dX3_kindAt_10 : decode cX3_kindAt 10 = .ok (.iaload, 1) := by decide +kernel
theorem dX3_kindAt_11 : decode cX3_kindAt 11 = .ok (.ireturn, 1) := by decide +kernel
theorem dX3_subjectAt_0 : decode cX3_subjectAt 0 = .ok (.aload_n 0, 1) := by decide +kernel
theorem dX3_subjectAt_1 : decode cX3_subjectAt 1 = .ok (.getfield 13, 3) := by decide +kernel
theorem dX3_subjectAt_4 : decode cX3_subjectAt 4 = .ok (.iload_n 1, 1) := by decide +kernel
theorem dX3_subjectAt_5 : decode cX3_subjectAt 5 = .ok (.bipush 20, 2) := by decide +kernel
theorem dX3_subjectAt_7 : decode cX3_subjectAt 7 = .ok (.invokestatic 20, 3) := by decide +kernel
theorem dX3_subjectAt_10 : decode cX3_subjectAt 10 = .ok (.iaload, 1) := by decide +kernel
theorem dX3_subjectAt_11 : decode cX3_subjectAt 11 = .ok (.ireturn, 1) := by decide +kernel
theorem dX4_init_0 : decode cX4_init 0 = .ok (.aload_n 0, 1) := by decide +kernel
theorem dX4_init_1 : decode cX4_init 1 = .ok (.invokespecial 1, 3) := by decide +kernel
theorem dX4_init_4 : decode cX4_init 4 = .ok (.aload_n 0, 1) := by decide +kernel
theorem dX4_init_5 : decode cX4_init 5 = .ok (.iconst 1, 1) := by decide +kernel
theorem dX4_init_6 : decode cX4_init 6 = .ok (.putfield 7, 3) := by decide +kernel
theorem dX4_init_9 : decode cX4_init 9 = .ok (.aload_n 0, 1) := by decide +kernel
theorem dX4_init_10 : decode cX4_init 10 = .ok (.aload_n 1, 1) := by decide +kernel
theorem dX4_init_11 : decode cX4_init 11 = .ok (.putfield 13, 3) := by decide +kernel
theorem dX4_init_14 : decode cX4_init 14 = .ok (.return_, 1) := by decide +kernel
theorem dX4_isAlive_0 : decode cX4_isAlive 0 = .ok (.aload_n 0, 1) := by decide +kernel
theorem dX4_isAlive_1 : decode cX4_isAlive 1 = .ok (.getfield 7, 3) := by decide +kernel
theorem dX4_isAlive_4 : decode cX4_isAlive 4 = .ok (.ifCond .eq 14, 3) := by decide +kernel
theorem dX4_isAlive_7 : decode cX4_isAlive 7 = .ok (.aload_n 0, 1) := by decide +kernel
theorem dX4_isAlive_8 : decode cX4_isAlive 8 = .ok (.getfield 17, 3) := by decide +kernel
theorem dX4_isAlive_11 : decode cX4_isAlive 11 = .ok (.ifCond .ne 7, 3) := by decide +kernel
theorem dX4_isAlive_14 : decode cX4_isAlive 14 = .ok (.iconst 1, 1) := by decide +kernel
theorem dX4_isAlive_15 : decode cX4_isAlive 15 = .ok (.goto 4, 3) := by decide +kernel
theorem dX4_isAlive_18 : decode cX4_isAlive 18 = .ok (.iconst 0, 1) := by decide +kernel
theorem dX4_isAlive_19 : decode cX4_isAlive 19 = .ok (.ireturn, 1) := by decide +kernel
theorem dX5_init_0 : decode cX5_init 0 = .ok (.aload_n 0, 1) := by decide +kernel
theorem dX5_init_1 : decode cX5_init 1 = .ok (.invokespecial 1, 3) := by decide +kernel
theorem dX5_init_4 : decode cX5_init 4 = .ok (.return_, 1) := by decide +kernel
theorem dX6_init_0 : decode cX6_init 0 = .ok (.aload_n 0, 1) := by decide +kernel
theorem dX6_init_1 : decode cX6_init 1 = .ok (.invokespecial 1, 3) := by decide +kernel
theorem dX6_init_4 : decode cX6_init 4 = .ok (.aload_n 0, 1) := by decide +kernel
theorem dX6_init_5 : decode cX6_init 5 = .ok (.new 7, 3) := by decide +kernel
theorem dX6_init_8 : decode cX6_init 8 = .ok (.dup, 1) := by decide +kernel
theorem dX6_init_9 : decode cX6_init 9 = .ok (.invokespecial 9, 3) := by decide +kernel
theorem dX6_init_12 : decode cX6_init 12 = .ok (.putfield 10, 3) := by decide +kernel
theorem dX6_init_15 : decode cX6_init 15 = .ok (.aload_n 0, 1) := by decide +kernel
theorem dX6_init_16 : decode cX6_init 16 = .ok (.new 7, 3) := by decide +kernel
theorem dX6_init_19 : decode cX6_init 19 = .ok (.dup, 1) := by decide +kernel
theorem dX6_init_20 : decode cX6_init 20 = .ok (.invokespecial 9, 3) := by decide +kernel
theorem dX6_init_23 : decode cX6_init 23 = .ok (.putfield 16, 3) := by decide +kernel
theorem dX6_init_26 : decode cX6_init 26 = .ok (.aload_n 0, 1) := by decide +kernel
theorem dX6_init_27 : decode cX6_init 27 = .ok (.new 7, 3) := by decide +kernel
theorem dX6_init_30 : decode cX6_init 30 = .ok (.dup, 1) := by decide +kernel
theorem dX6_init_31 : decode cX6_init 31 = .ok (.invokespecial 9, 3) := by decide +kernel
theorem dX6_init_34 : decode cX6_init 34 = .ok (.putfield 19, 3) := by decide +kernel
theorem dX6_init_37 : decode cX6_init 37 = .ok (.aload_n 0, 1) := by decide +kernel
theorem dX6_init_38 : decode cX6_init 38 = .ok (.new 7, 3) := by decide +kernel
theorem dX6_init_41 : decode cX6_init 41 = .ok (.dup, 1) := by decide +kernel
theorem dX6_init_42 : decode cX6_init 42 = .ok (.invokespecial 9, 3) := by decide +kernel
theorem dX6_init_45 : decode cX6_init 45 = .ok (.putfield 22, 3) := by decide +kernel
theorem dX6_init_48 : decode cX6_init 48 = .ok (.aload_n 0, 1) := by decide +kernel
theorem dX6_init_49 : decode cX6_init 49 = .ok (.new 7, 3) := by decide +kernel
theorem dX6_init_52 : decode cX6_init 52 = .ok (.dup, 1) := by decide +kernel
theorem dX6_init_53 : decode cX6_init 53 = .ok (.invokespecial 9, 3) := by decide +kernel
theorem dX6_init_56 : decode cX6_init 56 = .ok (.putfield 25, 3) := by decide +kernel
theorem dX6_init_59 : decode cX6_init 59 = .ok (.aload_n 0, 1) := by decide +kernel
theorem dX6_init_60 : decode cX6_init 60 = .ok (.new 7, 3) := by decide +kernel
theorem dX6_init_63 : decode cX6_init 63 = .ok (.dup, 1) := by decide +kernel
theorem dX6_init_64 : decode cX6_init 64 = .ok (.invokespecial 9, 3) := by decide +kernel
theorem dX6_init_67 : decode cX6_init 67 = .ok (.putfield 28, 3) := by decide +kernel
theorem dX6_init_70 : decode cX6_init 70 = .ok (.aload_n 0, 1) := by decide +kernel
theorem dX6_init_71 : decode cX6_init 71 = .ok (.bipush 8, 2) := by decide +kernel
theorem dX6_init_73 : decode cX6_init 73 = .ok (.newarray .int, 2) := by decide +kernel
theorem dX6_init_75 : decode cX6_init 75 = .ok (.putfield 31, 3) := by decide +kernel
theorem dX6_init_78 : decode cX6_init 78 = .ok (.aload_n 0, 1) := by decide +kernel
theorem dX6_init_79 : decode cX6_init 79 = .ok (.new 35, 3) := by decide +kernel
theorem dX6_init_82 : decode cX6_init 82 = .ok (.dup, 1) := by decide +kernel
theorem dX6_init_83 : decode cX6_init 83 = .ok (.invokespecial 37, 3) := by decide +kernel
theorem dX6_init_86 : decode cX6_init 86 = .ok (.putfield 38, 3) := by decide +kernel
theorem dX6_init_89 : decode cX6_init 89 = .ok (.iconst 0, 1) := by decide +kernel
theorem dX6_init_90 : decode cX6_init 90 = .ok (.istore_n 1, 1) := by decide +kernel
theorem dX6_init_91 : decode cX6_init 91 = .ok (.iload_n 1, 1) := by decide +kernel
theorem dX6_init_92 : decode cX6_init 92 = .ok (.bipush 16, 2) := by decide +kernel
theorem dX6_init_94 : decode cX6_init 94 = .ok (.if_icmp .ge 24, 3) := by decide +kernel
theorem dX6_init_97 : decode cX6_init 97 = .ok (.aload_n 0, 1) := by decide +kernel
theorem dX6_init_98 : decode cX6_init 98 = .ok (.getfield 28, 3) := by decide +kernel
theorem dX6_init_101 : decode cX6_init 101 = .ok (.new 42, 3) := by decide +kernel
theorem dX6_init_104 : decode cX6_init 104 = .ok (.dup, 1) := by decide +kernel
theorem dX6_init_105 : decode cX6_init 105 = .ok (.invokespecial 44, 3) := by decide +kernel
theorem dX6_init_108 : decode cX6_init 108 = .ok (.invokevirtual 45, 3) := by decide +kernel
theorem dX6_init_111 : decode cX6_init 111 = .ok (.pop, 1) := by decide +kernel
theorem dX6_init_112 : decode cX6_init 112 = .ok (.iinc 1 1, 3) := by decide +kernel
theorem dX6_init_115 : decode cX6_init 115 = .ok (.goto (-24), 3) := by decide +kernel
theorem dX6_init_118 : decode cX6_init 118 = .ok (.return_, 1) := by decide +kernel
theorem dX6_plug_0 : decode cX6_plug 0 = .ok (.aload_n 0, 1) := by decide +kernel
theorem dX6_plug_1 : decode cX6_plug 1 = .ok (.iload_n 1, 1) := by decide +kernel
theorem dX6_plug_2 : decode cX6_plug 2 = .ok (.invokevirtual 49, 3) := by decide +kernel
theorem dX6_plug_5 : decode cX6_plug 5 = .ok (.astore 8, 2) := by decide +kernel
theorem dX6_plug_7 : decode cX6_plug 7 = .ok (.aload_n 0, 1) := by decide +kernel
theorem dX6_plug_8 : decode cX6_plug 8 = .ok (.iload 6, 2) := by decide +kernel
theorem dX6_plug_10 : decode cX6_plug 10 = .ok (.invokevirtual 49, 3) := by decide +kernel
theorem dX6_plug_13 : decode cX6_plug 13 = .ok (.astore 9, 2) := by decide +kernel
theorem dX6_plug_15 : decode cX6_plug 15 = .ok (.aload_n 0, 1) := by decide +kernel
theorem dX6_plug_16 : decode cX6_plug 16 = .ok (.iload 7, 2) := by decide +kernel
theorem dX6_plug_18 : decode cX6_plug 18 = .ok (.invokevirtual 49, 3) := by decide +kernel
theorem dX6_plug_21 : decode cX6_plug 21 = .ok (.astore 10, 2) := by decide +kernel
theorem dX6_plug_23 : decode cX6_plug 23 = .ok (.iload_n 2, 1) := by decide +kernel
theorem dX6_plug_24 : decode cX6_plug 24 = .ok (.iconst 0, 1) := by decide +kernel
theorem dX6_plug_25 : decode cX6_plug 25 = .ok (.bipush 31, 2) := by decide +kernel
theorem dX6_plug_27 : decode cX6_plug 27 = .ok (.invokestatic 53, 3) := by decide +kernel
theorem dX6_plug_30 : decode cX6_plug 30 = .ok (.ifCond .eq 21, 3) := by decide +kernel
theorem dX6_plug_33 : decode cX6_plug 33 = .ok (.iload_n 3, 1) := by decide +kernel
theorem dX6_plug_34 : decode cX6_plug 34 = .ok (.invokestatic 57, 3) := by decide +kernel
theorem dX6_plug_37 : decode cX6_plug 37 = .ok (.ifCond .eq 14, 3) := by decide +kernel
theorem dX6_plug_40 : decode cX6_plug 40 = .ok (.iload 4, 2) := by decide +kernel
theorem dX6_plug_42 : decode cX6_plug 42 = .ok (.iconst (-1), 1) := by decide +kernel
theorem dX6_plug_43 : decode cX6_plug 43 = .ok (.bipush 7, 2) := by decide +kernel
theorem dX6_plug_45 : decode cX6_plug 45 = .ok (.invokestatic 53, 3) := by decide +kernel
theorem dX6_plug_48 : decode cX6_plug 48 = .ok (.ifCond .ne 13, 3) := by decide +kernel
theorem dX6_plug_51 : decode cX6_plug 51 = .ok (.new 61, 3) := by decide +kernel
theorem dX6_plug_54 : decode cX6_plug 54 = .ok (.dup, 1) := by decide +kernel
theorem dX6_plug_55 : decode cX6_plug 55 = .ok (.ldc 63, 2) := by decide +kernel
theorem dX6_plug_57 : decode cX6_plug 57 = .ok (.invokespecial 65, 3) := by decide +kernel
theorem dX6_plug_60 : decode cX6_plug 60 = .ok (.athrow, 1) := by decide +kernel
theorem dX6_plug_61 : decode cX6_plug 61 = .ok (.aload 9, 2) := by decide +kernel
theorem dX6_plug_63 : decode cX6_plug 63 = .ok (.ifnull 20, 3) := by decide +kernel
theorem dX6_plug_66 : decode cX6_plug 66 = .ok (.aload 9, 2) := by decide +kernel
theorem dX6_plug_68 : decode cX6_plug 68 = .ok (.aload 10, 2) := by decide +kernel
theorem dX6_plug_70 : decode cX6_plug 70 = .ok (.if_acmp .ne 13, 3) := by decide +kernel
theorem dX6_plug_73 : decode cX6_plug 73 = .ok (.new 61, 3) := by decide +kernel
theorem dX6_plug_76 : decode cX6_plug 76 = .ok (.dup, 1) := by decide +kernel
theorem dX6_plug_77 : decode cX6_plug 77 = .ok (.ldc 68, 2) := by decide +kernel
theorem dX6_plug_79 : decode cX6_plug 79 = .ok (.invokespecial 65, 3) := by decide +kernel
theorem dX6_plug_82 : decode cX6_plug 82 = .ok (.athrow, 1) := by decide +kernel
theorem dX6_plug_83 : decode cX6_plug 83 = .ok (.aload_n 0, 1) := by decide +kernel
theorem dX6_plug_84 : decode cX6_plug 84 = .ok (.getfield 10, 3) := by decide +kernel
theorem dX6_plug_87 : decode cX6_plug 87 = .ok (.invokevirtual 70, 3) := by decide +kernel
theorem dX6_plug_90 : decode cX6_plug 90 = .ok (.bipush 24, 2) := by decide +kernel
theorem dX6_plug_92 : decode cX6_plug 92 = .ok (.if_icmp .lt 13, 3) := by decide +kernel
theorem dX6_plug_95 : decode cX6_plug 95 = .ok (.new 74, 3) := by decide +kernel
theorem dX6_plug_98 : decode cX6_plug 98 = .ok (.dup, 1) := by decide +kernel
theorem dX6_plug_99 : decode cX6_plug 99 = .ok (.ldc 76, 2) := by decide +kernel
theorem dX6_plug_101 : decode cX6_plug 101 = .ok (.invokespecial 78, 3) := by decide +kernel
theorem dX6_plug_104 : decode cX6_plug 104 = .ok (.athrow, 1) := by decide +kernel
theorem dX6_plug_105 : decode cX6_plug 105 = .ok (.new 79, 3) := by decide +kernel
theorem dX6_plug_108 : decode cX6_plug 108 = .ok (.dup, 1) := by decide +kernel
theorem dX6_plug_109 : decode cX6_plug 109 = .ok (.aload_n 0, 1) := by decide +kernel
theorem dX6_plug_110 : decode cX6_plug 110 = .ok (.getfield 10, 3) := by decide +kernel
theorem dX6_plug_113 : decode cX6_plug 113 = .ok (.invokevirtual 70, 3) := by decide +kernel
theorem dX6_plug_116 : decode cX6_plug 116 = .ok (.iload_n 2, 1) := by decide +kernel
theorem dX6_plug_117 : decode cX6_plug 117 = .ok (.iload_n 3, 1) := by decide +kernel
theorem dX6_plug_118 : decode cX6_plug 118 = .ok (.iload 4, 2) := by decide +kernel
theorem dX6_plug_120 : decode cX6_plug 120 = .ok (.iload 5, 2) := by decide +kernel
theorem dX6_plug_122 : decode cX6_plug 122 = .ok (.invokespecial 81, 3) := by decide +kernel
theorem dX6_plug_125 : decode cX6_plug 125 = .ok (.astore 11, 2) := by decide +kernel
theorem dX6_plug_127 : decode cX6_plug 127 = .ok (.aload 11, 2) := by decide +kernel
theorem dX6_plug_129 : decode cX6_plug 129 = .ok (.aload 8, 2) := by decide +kernel
theorem dX6_plug_131 : decode cX6_plug 131 = .ok (.putfield 84, 3) := by decide +kernel
theorem dX6_plug_134 : decode cX6_plug 134 = .ok (.aload 11, 2) := by decide +kernel
theorem dX6_plug_136 : decode cX6_plug 136 = .ok (.aload 9, 2) := by decide +kernel
theorem dX6_plug_138 : decode cX6_plug 138 = .ok (.putfield 88, 3) := by decide +kernel
theorem dX6_plug_141 : decode cX6_plug 141 = .ok (.aload 11, 2) := by decide +kernel
theorem dX6_plug_143 : decode cX6_plug 143 = .ok (.aload 10, 2) := by decide +kernel
theorem dX6_plug_145 : decode cX6_plug 145 = .ok (.putfield 91, 3) := by decide +kernel
theorem dX6_plug_148 : decode cX6_plug 148 = .ok (.aload_n 0, 1) := by decide +kernel
theorem dX6_plug_149 : decode cX6_plug 149 = .ok (.getfield 10, 3) := by decide +kernel
theorem dX6_plug_152 : decode cX6_plug 152 = .ok (.aload 11, 2) := by decide +kernel
theorem dX6_plug_154 : decode cX6_plug 154 = .ok (.invokevirtual 45, 3) := by decide +kernel
theorem dX6_plug_157 : decode cX6_plug 157 = .ok (.pop, 1) := by decide +kernel
theorem dX6_plug_158 : decode cX6_plug 158 = .ok (.aload_n 0, 1) := by decide +kernel
theorem dX6_plug_159 : decode cX6_plug 159 = .ok (.invokevirtual 94, 3) := by decide +kernel
theorem dX6_plug_162 : decode cX6_plug 162 = .ok (.aload 11, 2) := by decide +kernel
theorem dX6_plug_164 : decode cX6_plug 164 = .ok (.getfield 97, 3) := by decide +kernel
theorem dX6_plug_167 : decode cX6_plug 167 = .ok (.ireturn, 1) := by decide +kernel
theorem dX6_unplug_0 : decode cX6_unplug 0 = .ok (.aload_n 0, 1) := by decide +kernel
theorem dX6_unplug_1 : decode cX6_unplug 1 = .ok (.iload_n 1, 1) := by decide +kernel
theorem dX6_unplug_2 : decode cX6_unplug 2 = .ok (.invokevirtual 101, 3) := by decide +kernel
theorem dX6_unplug_5 : decode cX6_unplug 5 = .ok (.astore_n 2, 1) := by decide +kernel
theorem dX6_unplug_6 : decode cX6_unplug 6 = .ok (.aload_n 2, 1) := by decide +kernel
theorem dX6_unplug_7 : decode cX6_unplug 7 = .ok (.getfield 104, 3) := by decide +kernel
theorem dX6_unplug_10 : decode cX6_unplug 10 = .ok (.ifCond .ne 13, 3) := by decide +kernel
theorem dX6_unplug_13 : decode cX6_unplug 13 = .ok (.new 74, 3) := by decide +kernel
theorem dX6_unplug_16 : decode cX6_unplug 16 = .ok (.dup, 1) := by decide +kernel
theorem dX6_unplug_17 : decode cX6_unplug 17 = .ok (.ldc 108, 2) := by decide +kernel
theorem dX6_unplug_19 : decode cX6_unplug 19 = .ok (.invokespecial 78, 3) := by decide +kernel
theorem dX6_unplug_22 : decode cX6_unplug 22 = .ok (.athrow, 1) := by decide +kernel
theorem dX6_unplug_23 : decode cX6_unplug 23 = .ok (.iconst 0, 1) := by decide +kernel
theorem dX6_unplug_24 : decode cX6_unplug 24 = .ok (.istore_n 3, 1) := by decide +kernel
theorem dX6_unplug_25 : decode cX6_unplug 25 = .ok (.iload_n 3, 1) := by decide +kernel
theorem dX6_unplug_26 : decode cX6_unplug 26 = .ok (.aload_n 0, 1) := by decide +kernel
theorem dX6_unplug_27 : decode cX6_unplug 27 = .ok (.getfield 16, 3) := by decide +kernel
theorem dX6_unplug_30 : decode cX6_unplug 30 = .ok (.invokevirtual 70, 3) := by decide +kernel
theorem dX6_unplug_33 : decode cX6_unplug 33 = .ok (.if_icmp .ge 33, 3) := by decide +kernel
theorem dX6_unplug_36 : decode cX6_unplug 36 = .ok (.aload_n 0, 1) := by decide +kernel
theorem dX6_unplug_37 : decode cX6_unplug 37 = .ok (.getfield 16, 3) := by decide +kernel
theorem dX6_unplug_40 : decode cX6_unplug 40 = .ok (.iload_n 3, 1) := by decide +kernel
theorem dX6_unplug_41 : decode cX6_unplug 41 = .ok (.invokevirtual 110, 3) := by decide +kernel
theorem dX6_unplug_44 : decode cX6_unplug 44 = .ok (.checkcast 79, 3) := by decide +kernel
theorem dX6_unplug_47 : decode cX6_unplug 47 = .ok (.astore 4, 2) := by decide +kernel
theorem dX6_unplug_49 : decode cX6_unplug 49 = .ok (.aload 4, 2) := by decide +kernel
theorem dX6_unplug_51 : decode cX6_unplug 51 = .ok (.aload 4, 2) := by decide +kernel
theorem dX6_unplug_53 : decode cX6_unplug 53 = .ok (.aload_n 2, 1) := by decide +kernel
theorem dX6_unplug_54 : decode cX6_unplug 54 = .ok (.invokevirtual 114, 3) := by decide +kernel
theorem dX6_unplug_57 : decode cX6_unplug 57 = .ok (.putfield 118, 3) := by decide +kernel
theorem dX6_unplug_60 : decode cX6_unplug 60 = .ok (.iinc 3 1, 3) := by decide +kernel
theorem dX6_unplug_63 : decode cX6_unplug 63 = .ok (.goto (-38), 3) := by decide +kernel
theorem dX6_unplug_66 : decode cX6_unplug 66 = .ok (.aload_n 0, 1) := by decide +kernel
theorem dX6_unplug_67 : decode cX6_unplug 67 = .ok (.invokevirtual 121, 3) := by decide +kernel
theorem dX6_unplug_70 : decode cX6_unplug 70 = .ok (.pop, 1) := by decide +kernel
theorem dX6_unplug_71 : decode cX6_unplug 71 = .ok (.aload_n 0, 1) := by decide +kernel
theorem dX6_unplug_72 : decode cX6_unplug 72 = .ok (.aload_n 2, 1) := by decide +kernel
theorem dX6_unplug_73 : decode cX6_unplug 73 = .ok (.invokevirtual 124, 3) := by decide +kernel
theorem dX6_unplug_76 : decode cX6_unplug 76 = .ok (.istore_n 3, 1) := by decide +kernel
theorem dX6_unplug_77 : decode cX6_unplug 77 = .ok (.aload_n 0, 1) := by decide +kernel
theorem dX6_unplug_78 : decode cX6_unplug 78 = .ok (.invokevirtual 94, 3) := by decide +kernel
theorem dX6_unplug_81 : decode cX6_unplug 81 = .ok (.iload_n 3, 1) := by decide +kernel
theorem dX6_unplug_82 : decode cX6_unplug 82 = .ok (.ireturn, 1) := by decide +kernel
theorem dX6_driver_0 : decode cX6_driver 0 = .ok (.iload_n 2, 1) := by decide +kernel
theorem dX6_driver_1 : decode cX6_driver 1 = .ok (.iconst 0, 1) := by decide +kernel
theorem dX6_driver_2 : decode cX6_driver 2 = .ok (.bipush 9, 2) := by decide +kernel
theorem dX6_driver_4 : decode cX6_driver 4 = .ok (.invokestatic 53, 3) := by decide +kernel
theorem dX6_driver_7 : decode cX6_driver 7 = .ok (.ifCond .eq 13, 3) := by decide +kernel
theorem dX6_driver_10 : decode cX6_driver 10 = .ok (.iload_n 3, 1) := by decide +kernel
theorem dX6_driver_11 : decode cX6_driver 11 = .ok (.iconst 0, 1) := by decide +kernel
theorem dX6_driver_12 : decode cX6_driver 12 = .ok (.bipush 9, 2) := by decide +kernel
theorem dX6_driver_14 : decode cX6_driver 14 = .ok (.invokestatic 53, 3) := by decide +kernel
theorem dX6_driver_17 : decode cX6_driver 17 = .ok (.ifCond .ne 13, 3) := by decide +kernel
theorem dX6_driver_20 : decode cX6_driver 20 = .ok (.new 61, 3) := by decide +kernel
theorem dX6_driver_23 : decode cX6_driver 23 = .ok (.dup, 1) := by decide +kernel
theorem dX6_driver_24 : decode cX6_driver 24 = .ok (.ldc 128, 2) := by decide +kernel
theorem dX6_driver_26 : decode cX6_driver 26 = .ok (.invokespecial 65, 3) := by decide +kernel
theorem dX6_driver_29 : decode cX6_driver 29 = .ok (.athrow, 1) := by decide +kernel
theorem dX6_driver_30 : decode cX6_driver 30 = .ok (.aload_n 0, 1) := by decide +kernel
theorem dX6_driver_31 : decode cX6_driver 31 = .ok (.getfield 19, 3) := by decide +kernel
theorem dX6_driver_34 : decode cX6_driver 34 = .ok (.invokevirtual 70, 3) := by decide +kernel
theorem dX6_driver_37 : decode cX6_driver 37 = .ok (.bipush 8, 2) := by decide +kernel
theorem dX6_driver_39 : decode cX6_driver 39 = .ok (.if_icmp .lt 13, 3) := by decide +kernel
theorem dX6_driver_42 : decode cX6_driver 42 = .ok (.new 74, 3) := by decide +kernel
theorem dX6_driver_45 : decode cX6_driver 45 = .ok (.dup, 1) := by decide +kernel
theorem dX6_driver_46 : decode cX6_driver 46 = .ok (.ldc 130, 2) := by decide +kernel
theorem dX6_driver_48 : decode cX6_driver 48 = .ok (.invokespecial 78, 3) := by decide +kernel
theorem dX6_driver_51 : decode cX6_driver 51 = .ok (.athrow, 1) := by decide +kernel
theorem dX6_driver_52 : decode cX6_driver 52 = .ok (.new 132, 3) := by decide +kernel
theorem dX6_driver_55 : decode cX6_driver 55 = .ok (.dup, 1) := by decide +kernel
theorem dX6_driver_56 : decode cX6_driver 56 = .ok (.aload_n 0, 1) := by decide +kernel
theorem dX6_driver_57 : decode cX6_driver 57 = .ok (.getfield 19, 3) := by decide +kernel
theorem dX6_driver_60 : decode cX6_driver 60 = .ok (.invokevirtual 70, 3) := by decide +kernel
theorem dX6_driver_63 : decode cX6_driver 63 = .ok (.iload_n 1, 1) := by decide +kernel
theorem dX6_driver_64 : decode cX6_driver 64 = .ok (.iload_n 2, 1) := by decide +kernel
theorem dX6_driver_65 : decode cX6_driver 65 = .ok (.iload_n 3, 1) := by decide +kernel
theorem dX6_driver_66 : decode cX6_driver 66 = .ok (.iload 4, 2) := by decide +kernel
theorem dX6_driver_68 : decode cX6_driver 68 = .ok (.invokespecial 134, 3) := by decide +kernel
theorem dX6_driver_71 : decode cX6_driver 71 = .ok (.astore 5, 2) := by decide +kernel
theorem dX6_driver_73 : decode cX6_driver 73 = .ok (.aload_n 0, 1) := by decide +kernel
theorem dX6_driver_74 : decode cX6_driver 74 = .ok (.getfield 19, 3) := by decide +kernel
theorem dX6_driver_77 : decode cX6_driver 77 = .ok (.aload 5, 2) := by decide +kernel
theorem dX6_driver_79 : decode cX6_driver 79 = .ok (.invokevirtual 45, 3) := by decide +kernel
theorem dX6_driver_82 : decode cX6_driver 82 = .ok (.pop, 1) := by decide +kernel
theorem dX6_driver_83 : decode cX6_driver 83 = .ok (.aload_n 0, 1) := by decide +kernel
theorem dX6_driver_84 : decode cX6_driver 84 = .ok (.invokevirtual 94, 3) := by decide +kernel
theorem dX6_driver_87 : decode cX6_driver 87 = .ok (.aload 5, 2) := by decide +kernel
theorem dX6_driver_89 : decode cX6_driver 89 = .ok (.getfield 135, 3) := by decide +kernel
theorem dX6_driver_92 : decode cX6_driver 92 = .ok (.ireturn, 1) := by decide +kernel
theorem dX6_load_0 : decode cX6_load 0 = .ok (.iload_n 1, 1) := by decide +kernel
theorem dX6_load_1 : decode cX6_load 1 = .ok (.ifCond .lt 14, 3) := by decide +kernel
theorem dX6_load_4 : decode cX6_load 4 = .ok (.iload_n 1, 1) := by decide +kernel
theorem dX6_load_5 : decode cX6_load 5 = .ok (.aload_n 0, 1) := by decide +kernel
theorem dX6_load_6 : decode cX6_load 6 = .ok (.getfield 19, 3) := by decide +kernel
theorem dX6_load_9 : decode cX6_load 9 = .ok (.invokevirtual 70, 3) := by decide +kernel
theorem dX6_load_12 : decode cX6_load 12 = .ok (.if_icmp .lt 13, 3) := by decide +kernel
theorem dX6_load_15 : decode cX6_load 15 = .ok (.new 136, 3) := by decide +kernel
theorem dX6_load_18 : decode cX6_load 18 = .ok (.dup, 1) := by decide +kernel
theorem dX6_load_19 : decode cX6_load 19 = .ok (.ldc 138, 2) := by decide +kernel
theorem dX6_load_21 : decode cX6_load 21 = .ok (.invokespecial 140, 3) := by decide +kernel
theorem dX6_load_24 : decode cX6_load 24 = .ok (.athrow, 1) := by decide +kernel
theorem dX6_load_25 : decode cX6_load 25 = .ok (.iload_n 2, 1) := by decide +kernel
theorem dX6_load_26 : decode cX6_load 26 = .ok (.iconst 0, 1) := by decide +kernel
theorem dX6_load_27 : decode cX6_load 27 = .ok (.bipush 9, 2) := by decide +kernel
theorem dX6_load_29 : decode cX6_load 29 = .ok (.invokestatic 53, 3) := by decide +kernel
theorem dX6_load_32 : decode cX6_load 32 = .ok (.ifCond .ne 13, 3) := by decide +kernel
theorem dX6_load_35 : decode cX6_load 35 = .ok (.new 61, 3) := by decide +kernel
theorem dX6_load_38 : decode cX6_load 38 = .ok (.dup, 1) := by decide +kernel
theorem dX6_load_39 : decode cX6_load 39 = .ok (.ldc 141, 2) := by decide +kernel
theorem dX6_load_41 : decode cX6_load 41 = .ok (.invokespecial 65, 3) := by decide +kernel
theorem dX6_load_44 : decode cX6_load 44 = .ok (.athrow, 1) := by decide +kernel
theorem dX6_load_45 : decode cX6_load 45 = .ok (.aload_n 0, 1) := by decide +kernel
theorem dX6_load_46 : decode cX6_load 46 = .ok (.getfield 19, 3) := by decide +kernel
theorem dX6_load_49 : decode cX6_load 49 = .ok (.iload_n 1, 1) := by decide +kernel
theorem dX6_load_50 : decode cX6_load 50 = .ok (.invokevirtual 110, 3) := by decide +kernel
theorem dX6_load_53 : decode cX6_load 53 = .ok (.checkcast 132, 3) := by decide +kernel
theorem dX6_load_56 : decode cX6_load 56 = .ok (.astore_n 3, 1) := by decide +kernel
theorem dX6_load_57 : decode cX6_load 57 = .ok (.aload_n 3, 1) := by decide +kernel
theorem dX6_load_58 : decode cX6_load 58 = .ok (.getfield 143, 3) := by decide +kernel
theorem dX6_load_61 : decode cX6_load 61 = .ok (.istore 4, 2) := by decide +kernel
theorem dX6_load_63 : decode cX6_load 63 = .ok (.aload_n 3, 1) := by decide +kernel
theorem dX6_load_64 : decode cX6_load 64 = .ok (.iload_n 2, 1) := by decide +kernel
theorem dX6_load_65 : decode cX6_load 65 = .ok (.putfield 143, 3) := by decide +kernel
theorem dX6_load_68 : decode cX6_load 68 = .ok (.aload_n 0, 1) := by decide +kernel
theorem dX6_load_69 : decode cX6_load 69 = .ok (.invokevirtual 94, 3) := by decide +kernel
theorem dX6_load_72 : decode cX6_load 72 = .ok (.iload 4, 2) := by decide +kernel
theorem dX6_load_74 : decode cX6_load 74 = .ok (.ireturn, 1) := by decide +kernel
theorem dX6_unbind_0 : decode cX6_unbind 0 = .ok (.aload_n 0, 1) := by decide +kernel
theorem dX6_unbind_1 : decode cX6_unbind 1 = .ok (.iload_n 1, 1) := by decide +kernel
theorem dX6_unbind_2 : decode cX6_unbind 2 = .ok (.invokevirtual 101, 3) := by decide +kernel
theorem dX6_unbind_5 : decode cX6_unbind 5 = .ok (.astore_n 2, 1) := by decide +kernel
theorem dX6_unbind_6 : decode cX6_unbind 6 = .ok (.aload_n 2, 1) := by decide +kernel
theorem dX6_unbind_7 : decode cX6_unbind 7 = .ok (.invokevirtual 146, 3) := by decide +kernel
theorem dX6_unbind_10 : decode cX6_unbind 10 = .ok (.ifCond .ne 13, 3) := by decide +kernel
theorem dX6_unbind_13 : decode cX6_unbind 13 = .ok (.new 74, 3) := by decide +kernel
theorem dX6_unbind_16 : decode cX6_unbind 16 = .ok (.dup, 1) := by decide +kernel
theorem dX6_unbind_17 : decode cX6_unbind 17 = .ok (.ldc 150, 2) := by decide +kernel
theorem dX6_unbind_19 : decode cX6_unbind 19 = .ok (.invokespecial 78, 3) := by decide +kernel
theorem dX6_unbind_22 : decode cX6_unbind 22 = .ok (.athrow, 1) := by decide +kernel
theorem dX6_unbind_23 : decode cX6_unbind 23 = .ok (.aload_n 2, 1) := by decide +kernel
theorem dX6_unbind_24 : decode cX6_unbind 24 = .ok (.iconst 1, 1) := by decide +kernel
theorem dX6_unbind_25 : decode cX6_unbind 25 = .ok (.putfield 152, 3) := by decide +kernel
theorem dX6_unbind_28 : decode cX6_unbind 28 = .ok (.aload_n 2, 1) := by decide +kernel
theorem dX6_unbind_29 : decode cX6_unbind 29 = .ok (.iconst 1, 1) := by decide +kernel
theorem dX6_unbind_30 : decode cX6_unbind 30 = .ok (.putfield 118, 3) := by decide +kernel
theorem dX6_unbind_33 : decode cX6_unbind 33 = .ok (.aload_n 0, 1) := by decide +kernel
theorem dX6_unbind_34 : decode cX6_unbind 34 = .ok (.invokevirtual 121, 3) := by decide +kernel
theorem dX6_unbind_37 : decode cX6_unbind 37 = .ok (.istore_n 3, 1) := by decide +kernel
theorem dX6_unbind_38 : decode cX6_unbind 38 = .ok (.aload_n 0, 1) := by decide +kernel
theorem dX6_unbind_39 : decode cX6_unbind 39 = .ok (.invokevirtual 94, 3) := by decide +kernel
theorem dX6_unbind_42 : decode cX6_unbind 42 = .ok (.iload_n 3, 1) := by decide +kernel
theorem dX6_unbind_43 : decode cX6_unbind 43 = .ok (.ireturn, 1) := by decide +kernel
theorem dX6_bind_0 : decode cX6_bind 0 = .ok (.aload_n 0, 1) := by decide +kernel
theorem dX6_bind_1 : decode cX6_bind 1 = .ok (.iload_n 1, 1) := by decide +kernel
theorem dX6_bind_2 : decode cX6_bind 2 = .ok (.invokevirtual 101, 3) := by decide +kernel
theorem dX6_bind_5 : decode cX6_bind 5 = .ok (.astore_n 2, 1) := by decide +kernel
theorem dX6_bind_6 : decode cX6_bind 6 = .ok (.aload_n 2, 1) := by decide +kernel
theorem dX6_bind_7 : decode cX6_bind 7 = .ok (.getfield 104, 3) := by decide +kernel
theorem dX6_bind_10 : decode cX6_bind 10 = .ok (.ifCond .eq 10, 3) := by decide +kernel
theorem dX6_bind_13 : decode cX6_bind 13 = .ok (.aload_n 2, 1) := by decide +kernel
theorem dX6_bind_14 : decode cX6_bind 14 = .ok (.getfield 152, 3) := by decide +kernel
theorem dX6_bind_17 : decode cX6_bind 17 = .ok (.ifCond .ne 13, 3) := by decide +kernel
theorem dX6_bind_20 : decode cX6_bind 20 = .ok (.new 74, 3) := by decide +kernel
theorem dX6_bind_23 : decode cX6_bind 23 = .ok (.dup, 1) := by decide +kernel
theorem dX6_bind_24 : decode cX6_bind 24 = .ok (.ldc 155, 2) := by decide +kernel
theorem dX6_bind_26 : decode cX6_bind 26 = .ok (.invokespecial 78, 3) := by decide +kernel
theorem dX6_bind_29 : decode cX6_bind 29 = .ok (.athrow, 1) := by decide +kernel
theorem dX6_bind_30 : decode cX6_bind 30 = .ok (.aload_n 2, 1) := by decide +kernel
theorem dX6_bind_31 : decode cX6_bind 31 = .ok (.iconst 0, 1) := by decide +kernel
theorem dX6_bind_32 : decode cX6_bind 32 = .ok (.putfield 152, 3) := by decide +kernel
theorem dX6_bind_35 : decode cX6_bind 35 = .ok (.aload_n 0, 1) := by decide +kernel
theorem dX6_bind_36 : decode cX6_bind 36 = .ok (.invokevirtual 94, 3) := by decide +kernel
theorem dX6_bind_39 : decode cX6_bind 39 = .ok (.aload_n 2, 1) := by decide +kernel
theorem dX6_bind_40 : decode cX6_bind 40 = .ok (.invokevirtual 146, 3) := by decide +kernel
theorem dX6_bind_43 : decode cX6_bind 43 = .ok (.ifCond .eq 7, 3) := by decide +kernel
theorem dX6_bind_46 : decode cX6_bind 46 = .ok (.iconst 0, 1) := by decide +kernel
theorem dX6_bind_47 : decode cX6_bind 47 = .ok (.goto 8, 3) := by decide +kernel
theorem dX6_bind_50 : decode cX6_bind 50 = .ok (.aload_n 0, 1) := by decide +kernel
theorem dX6_bind_51 : decode cX6_bind 51 = .ok (.aload_n 2, 1) := by decide +kernel
theorem dX6_bind_52 : decode cX6_bind 52 = .ok (.invokevirtual 157, 3) := by decide +kernel
theorem dX6_bind_55 : decode cX6_bind 55 = .ok (.ireturn, 1) := by decide +kernel
theorem dX6_reset_0 : decode cX6_reset 0 = .ok (.aload_n 0, 1) := by decide +kernel
theorem dX6_reset_1 : decode cX6_reset 1 = .ok (.iload_n 1, 1) := by decide +kernel
theorem dX6_reset_2 : decode cX6_reset 2 = .ok (.invokevirtual 101, 3) := by decide +kernel
theorem dX6_reset_5 : decode cX6_reset 5 = .ok (.astore_n 2, 1) := by decide +kernel
theorem dX6_reset_6 : decode cX6_reset 6 = .ok (.aload_n 2, 1) := by decide +kernel
theorem dX6_reset_7 : decode cX6_reset 7 = .ok (.invokevirtual 146, 3) := by decide +kernel
theorem dX6_reset_10 : decode cX6_reset 10 = .ok (.ifCond .eq 10, 3) := by decide +kernel
theorem dX6_reset_13 : decode cX6_reset 13 = .ok (.aload_n 0, 1) := by decide +kernel
theorem dX6_reset_14 : decode cX6_reset 14 = .ok (.getfield 160, 3) := by decide +kernel
theorem dX6_reset_17 : decode cX6_reset 17 = .ok (.ifCond .eq 13, 3) := by decide +kernel
theorem dX6_reset_20 : decode cX6_reset 20 = .ok (.new 74, 3) := by decide +kernel
theorem dX6_reset_23 : decode cX6_reset 23 = .ok (.dup, 1) := by decide +kernel
theorem dX6_reset_24 : decode cX6_reset 24 = .ok (.ldc 163, 2) := by decide +kernel
theorem dX6_reset_26 : decode cX6_reset 26 = .ok (.invokespecial 78, 3) := by decide +kernel
theorem dX6_reset_29 : decode cX6_reset 29 = .ok (.athrow, 1) := by decide +kernel
theorem dX6_reset_30 : decode cX6_reset 30 = .ok (.aload_n 0, 1) := by decide +kernel
theorem dX6_reset_31 : decode cX6_reset 31 = .ok (.aload_n 2, 1) := by decide +kernel
theorem dX6_reset_32 : decode cX6_reset 32 = .ok (.invokevirtual 165, 3) := by decide +kernel
theorem dX6_reset_35 : decode cX6_reset 35 = .ok (.istore_n 3, 1) := by decide +kernel
theorem dX6_reset_36 : decode cX6_reset 36 = .ok (.aload_n 0, 1) := by decide +kernel
theorem dX6_reset_37 : decode cX6_reset 37 = .ok (.aload_n 2, 1) := by decide +kernel
theorem dX6_reset_38 : decode cX6_reset 38 = .ok (.invokevirtual 168, 3) := by decide +kernel
theorem dX6_reset_41 : decode cX6_reset 41 = .ok (.aload_n 2, 1) := by decide +kernel
theorem dX6_reset_42 : decode cX6_reset 42 = .ok (.iconst 0, 1) := by decide +kernel
theorem dX6_reset_43 : decode cX6_reset 43 = .ok (.putfield 172, 3) := by decide +kernel
theorem dX6_reset_46 : decode cX6_reset 46 = .ok (.aload_n 2, 1) := by decide +kernel
theorem dX6_reset_47 : decode cX6_reset 47 = .ok (.iconst 0, 1) := by decide +kernel
theorem dX6_reset_48 : decode cX6_reset 48 = .ok (.putfield 175, 3) := by decide +kernel
theorem dX6_reset_51 : decode cX6_reset 51 = .ok (.iload_n 3, 1) := by decide +kernel
theorem dX6_reset_52 : decode cX6_reset 52 = .ok (.ireturn, 1) := by decide +kernel
theorem dX6_open_0 : decode cX6_open 0 = .ok (.aload_n 0, 1) := by decide +kernel
theorem dX6_open_1 : decode cX6_open 1 = .ok (.iload_n 1, 1) := by decide +kernel
theorem dX6_open_2 : decode cX6_open 2 = .ok (.invokevirtual 101, 3) := by decide +kernel
theorem dX6_open_5 : decode cX6_open 5 = .ok (.astore_n 2, 1) := by decide +kernel
theorem dX6_open_6 : decode cX6_open 6 = .ok (.aload_n 2, 1) := by decide +kernel
theorem dX6_open_7 : decode cX6_open 7 = .ok (.invokevirtual 146, 3) := by decide +kernel
theorem dX6_open_10 : decode cX6_open 10 = .ok (.ifCond .eq 22, 3) := by decide +kernel
theorem dX6_open_13 : decode cX6_open 13 = .ok (.aload_n 0, 1) := by decide +kernel
theorem dX6_open_14 : decode cX6_open 14 = .ok (.getfield 160, 3) := by decide +kernel
theorem dX6_open_17 : decode cX6_open 17 = .ok (.ifCond .ne 15, 3) := by decide +kernel
theorem dX6_open_20 : decode cX6_open 20 = .ok (.aload_n 0, 1) := by decide +kernel
theorem dX6_open_21 : decode cX6_open 21 = .ok (.getfield 22, 3) := by decide +kernel
theorem dX6_open_24 : decode cX6_open 24 = .ok (.invokevirtual 70, 3) := by decide +kernel
theorem dX6_open_27 : decode cX6_open 27 = .ok (.bipush 40, 2) := by decide +kernel
theorem dX6_open_29 : decode cX6_open 29 = .ok (.if_icmp .lt 13, 3) := by decide +kernel
theorem dX6_open_32 : decode cX6_open 32 = .ok (.new 74, 3) := by decide +kernel
theorem dX6_open_35 : decode cX6_open 35 = .ok (.dup, 1) := by decide +kernel
theorem dX6_open_36 : decode cX6_open 36 = .ok (.ldc 178, 2) := by decide +kernel
theorem dX6_open_38 : decode cX6_open 38 = .ok (.invokespecial 78, 3) := by decide +kernel
theorem dX6_open_41 : decode cX6_open 41 = .ok (.athrow, 1) := by decide +kernel
theorem dX6_open_42 : decode cX6_open 42 = .ok (.aload_n 0, 1) := by decide +kernel
theorem dX6_open_43 : decode cX6_open 43 = .ok (.getfield 22, 3) := by decide +kernel
theorem dX6_open_46 : decode cX6_open 46 = .ok (.invokevirtual 70, 3) := by decide +kernel
theorem dX6_open_49 : decode cX6_open 49 = .ok (.istore_n 3, 1) := by decide +kernel
theorem dX6_open_50 : decode cX6_open 50 = .ok (.aload_n 0, 1) := by decide +kernel
theorem dX6_open_51 : decode cX6_open 51 = .ok (.getfield 22, 3) := by decide +kernel
theorem dX6_open_54 : decode cX6_open 54 = .ok (.new 180, 3) := by decide +kernel
theorem dX6_open_57 : decode cX6_open 57 = .ok (.dup, 1) := by decide +kernel
theorem dX6_open_58 : decode cX6_open 58 = .ok (.aload_n 2, 1) := by decide +kernel
theorem dX6_open_59 : decode cX6_open 59 = .ok (.invokespecial 182, 3) := by decide +kernel
theorem dX6_open_62 : decode cX6_open 62 = .ok (.invokevirtual 45, 3) := by decide +kernel
theorem dX6_open_65 : decode cX6_open 65 = .ok (.pop, 1) := by decide +kernel
theorem dX6_open_66 : decode cX6_open 66 = .ok (.iload_n 3, 1) := by decide +kernel
theorem dX6_open_67 : decode cX6_open 67 = .ok (.ireturn, 1) := by decide +kernel
theorem dX6_close_0 : decode cX6_close 0 = .ok (.aload_n 0, 1) := by decide +kernel
theorem dX6_close_1 : decode cX6_close 1 = .ok (.iload_n 1, 1) := by decide +kernel
theorem dX6_close_2 : decode cX6_close 2 = .ok (.invokevirtual 184, 3) := by decide +kernel
theorem dX6_close_5 : decode cX6_close 5 = .ok (.astore_n 2, 1) := by decide +kernel
theorem dX6_close_6 : decode cX6_close 6 = .ok (.aload_n 2, 1) := by decide +kernel
theorem dX6_close_7 : decode cX6_close 7 = .ok (.getfield 188, 3) := by decide +kernel
theorem dX6_close_10 : decode cX6_close 10 = .ok (.ifCond .ne 13, 3) := by decide +kernel
theorem dX6_close_13 : decode cX6_close 13 = .ok (.new 74, 3) := by decide +kernel
theorem dX6_close_16 : decode cX6_close 16 = .ok (.dup, 1) := by decide +kernel
theorem dX6_close_17 : decode cX6_close 17 = .ok (.ldc 191, 2) := by decide +kernel
theorem dX6_close_19 : decode cX6_close 19 = .ok (.invokespecial 78, 3) := by decide +kernel
theorem dX6_close_22 : decode cX6_close 22 = .ok (.athrow, 1) := by decide +kernel
theorem dX6_close_23 : decode cX6_close 23 = .ok (.aload_n 2, 1) := by decide +kernel
theorem dX6_close_24 : decode cX6_close 24 = .ok (.iconst 0, 1) := by decide +kernel
theorem dX6_close_25 : decode cX6_close 25 = .ok (.putfield 188, 3) := by decide +kernel
theorem dX6_close_28 : decode cX6_close 28 = .ok (.iconst 0, 1) := by decide +kernel
theorem dX6_close_29 : decode cX6_close 29 = .ok (.istore_n 3, 1) := by decide +kernel
theorem dX6_close_30 : decode cX6_close 30 = .ok (.iload_n 3, 1) := by decide +kernel
theorem dX6_close_31 : decode cX6_close 31 = .ok (.aload_n 0, 1) := by decide +kernel
theorem dX6_close_32 : decode cX6_close 32 = .ok (.getfield 25, 3) := by decide +kernel
theorem dX6_close_35 : decode cX6_close 35 = .ok (.invokevirtual 70, 3) := by decide +kernel
theorem dX6_close_38 : decode cX6_close 38 = .ok (.if_icmp .ge 37, 3) := by decide +kernel
theorem dX6_close_41 : decode cX6_close 41 = .ok (.aload_n 0, 1) := by decide +kernel
theorem dX6_close_42 : decode cX6_close 42 = .ok (.getfield 25, 3) := by decide +kernel
theorem dX6_close_45 : decode cX6_close 45 = .ok (.iload_n 3, 1) := by decide +kernel
theorem dX6_close_46 : decode cX6_close 46 = .ok (.invokevirtual 110, 3) := by decide +kernel
theorem dX6_close_49 : decode cX6_close 49 = .ok (.checkcast 193, 3) := by decide +kernel
theorem dX6_close_52 : decode cX6_close 52 = .ok (.astore 4, 2) := by decide +kernel
theorem dX6_close_54 : decode cX6_close 54 = .ok (.aload 4, 2) := by decide +kernel
theorem dX6_close_56 : decode cX6_close 56 = .ok (.getfield 195, 3) := by decide +kernel
theorem dX6_close_59 : decode cX6_close 59 = .ok (.aload_n 2, 1) := by decide +kernel
theorem dX6_close_60 : decode cX6_close 60 = .ok (.if_acmp .ne 9, 3) := by decide +kernel
theorem dX6_close_63 : decode cX6_close 63 = .ok (.aload 4, 2) := by decide +kernel
theorem dX6_close_65 : decode cX6_close 65 = .ok (.invokevirtual 199, 3) := by decide +kernel
theorem dX6_close_68 : decode cX6_close 68 = .ok (.pop, 1) := by decide +kernel
theorem dX6_close_69 : decode cX6_close 69 = .ok (.iinc 3 1, 3) := by decide +kernel
theorem dX6_close_72 : decode cX6_close 72 = .ok (.goto (-42), 3) := by decide +kernel
theorem dX6_close_75 : decode cX6_close 75 = .ok (.aload_n 2, 1) := by decide +kernel
theorem dX6_close_76 : decode cX6_close 76 = .ok (.getfield 202, 3) := by decide +kernel
theorem dX6_close_79 : decode cX6_close 79 = .ok (.ireturn, 1) := by decide +kernel
theorem dX6_call_0 : decode cX6_call 0 = .ok (.aload_n 0, 1) := by decide +kernel
theorem dX6_call_1 : decode cX6_call 1 = .ok (.iload_n 1, 1) := by decide +kernel
theorem dX6_call_2 : decode cX6_call 2 = .ok (.invokevirtual 184, 3) := by decide +kernel
theorem dX6_call_5 : decode cX6_call 5 = .ok (.astore_n 3, 1) := by decide +kernel
theorem dX6_call_6 : decode cX6_call 6 = .ok (.iload_n 2, 1) := by decide +kernel
theorem dX6_call_7 : decode cX6_call 7 = .ok (.iconst 1, 1) := by decide +kernel
theorem dX6_call_8 : decode cX6_call 8 = .ok (.bipush 20, 2) := by decide +kernel
theorem dX6_call_10 : decode cX6_call 10 = .ok (.invokestatic 53, 3) := by decide +kernel
theorem dX6_call_13 : decode cX6_call 13 = .ok (.ifCond .ne 13, 3) := by decide +kernel
theorem dX6_call_16 : decode cX6_call 16 = .ok (.new 61, 3) := by decide +kernel
theorem dX6_call_19 : decode cX6_call 19 = .ok (.dup, 1) := by decide +kernel
theorem dX6_call_20 : decode cX6_call 20 = .ok (.ldc 205, 2) := by decide +kernel
theorem dX6_call_22 : decode cX6_call 22 = .ok (.invokespecial 65, 3) := by decide +kernel
theorem dX6_call_25 : decode cX6_call 25 = .ok (.athrow, 1) := by decide +kernel
theorem dX6_call_26 : decode cX6_call 26 = .ok (.aload_n 0, 1) := by decide +kernel
theorem dX6_call_27 : decode cX6_call 27 = .ok (.aload_n 3, 1) := by decide +kernel
theorem dX6_call_28 : decode cX6_call 28 = .ok (.invokevirtual 207, 3) := by decide +kernel
theorem dX6_call_31 : decode cX6_call 31 = .ok (.ifCond .eq 15, 3) := by decide +kernel
theorem dX6_call_34 : decode cX6_call 34 = .ok (.aload_n 0, 1) := by decide +kernel
theorem dX6_call_35 : decode cX6_call 35 = .ok (.getfield 25, 3) := by decide +kernel
theorem dX6_call_38 : decode cX6_call 38 = .ok (.invokevirtual 70, 3) := by decide +kernel
theorem dX6_call_41 : decode cX6_call 41 = .ok (.bipush 100, 2) := by decide +kernel
theorem dX6_call_43 : decode cX6_call 43 = .ok (.if_icmp .lt 13, 3) := by decide +kernel
theorem dX6_call_46 : decode cX6_call 46 = .ok (.new 74, 3) := by decide +kernel
theorem dX6_call_49 : decode cX6_call 49 = .ok (.dup, 1) := by decide +kernel
theorem dX6_call_50 : decode cX6_call 50 = .ok (.ldc 211, 2) := by decide +kernel
theorem dX6_call_52 : decode cX6_call 52 = .ok (.invokespecial 78, 3) := by decide +kernel
theorem dX6_call_55 : decode cX6_call 55 = .ok (.athrow, 1) := by decide +kernel
theorem dX6_call_56 : decode cX6_call 56 = .ok (.aload_n 0, 1) := by decide +kernel
theorem dX6_call_57 : decode cX6_call 57 = .ok (.aload_n 3, 1) := by decide +kernel
theorem dX6_call_58 : decode cX6_call 58 = .ok (.getfield 213, 3) := by decide +kernel
theorem dX6_call_61 : decode cX6_call 61 = .ok (.invokevirtual 216, 3) := by decide +kernel
theorem dX6_call_64 : decode cX6_call 64 = .ok (.aload_n 0, 1) := by decide +kernel
theorem dX6_call_65 : decode cX6_call 65 = .ok (.getfield 25, 3) := by decide +kernel
theorem dX6_call_68 : decode cX6_call 68 = .ok (.invokevirtual 70, 3) := by decide +kernel
theorem dX6_call_71 : decode cX6_call 71 = .ok (.istore 4, 2) := by decide +kernel
theorem dX6_call_73 : decode cX6_call 73 = .ok (.aload_n 0, 1) := by decide +kernel
theorem dX6_call_74 : decode cX6_call 74 = .ok (.getfield 25, 3) := by decide +kernel
theorem dX6_call_77 : decode cX6_call 77 = .ok (.new 193, 3) := by decide +kernel
theorem dX6_call_80 : decode cX6_call 80 = .ok (.dup, 1) := by decide +kernel
theorem dX6_call_81 : decode cX6_call 81 = .ok (.aload_n 3, 1) := by decide +kernel
theorem dX6_call_82 : decode cX6_call 82 = .ok (.aload_n 0, 1) := by decide +kernel
theorem dX6_call_83 : decode cX6_call 83 = .ok (.getfield 219, 3) := by decide +kernel
theorem dX6_call_86 : decode cX6_call 86 = .ok (.iload_n 2, 1) := by decide +kernel
theorem dX6_call_87 : decode cX6_call 87 = .ok (.iadd, 1) := by decide +kernel
theorem dX6_call_88 : decode cX6_call 88 = .ok (.invokespecial 222, 3) := by decide +kernel
theorem dX6_call_91 : decode cX6_call 91 = .ok (.invokevirtual 45, 3) := by decide +kernel
theorem dX6_call_94 : decode cX6_call 94 = .ok (.pop, 1) := by decide +kernel
theorem dX6_call_95 : decode cX6_call 95 = .ok (.iload 4, 2) := by decide +kernel
theorem dX6_call_97 : decode cX6_call 97 = .ok (.ireturn, 1) := by decide +kernel
theorem dX6_set_0 : decode cX6_set 0 = .ok (.aload_n 0, 1) := by decide +kernel
theorem dX6_set_1 : decode cX6_set 1 = .ok (.iload_n 1, 1) := by decide +kernel
theorem dX6_set_2 : decode cX6_set 2 = .ok (.invokevirtual 184, 3) := by decide +kernel
theorem dX6_set_5 : decode cX6_set 5 = .ok (.astore_n 3, 1) := by decide +kernel
theorem dX6_set_6 : decode cX6_set 6 = .ok (.iload_n 2, 1) := by decide +kernel
theorem dX6_set_7 : decode cX6_set 7 = .ok (.iconst 0, 1) := by decide +kernel
theorem dX6_set_8 : decode cX6_set 8 = .ok (.bipush 99, 2) := by decide +kernel
theorem dX6_set_10 : decode cX6_set 10 = .ok (.invokestatic 53, 3) := by decide +kernel
theorem dX6_set_13 : decode cX6_set 13 = .ok (.ifCond .ne 13, 3) := by decide +kernel
theorem dX6_set_16 : decode cX6_set 16 = .ok (.new 61, 3) := by decide +kernel
theorem dX6_set_19 : decode cX6_set 19 = .ok (.dup, 1) := by decide +kernel
theorem dX6_set_20 : decode cX6_set 20 = .ok (.ldc 225, 2) := by decide +kernel
theorem dX6_set_22 : decode cX6_set 22 = .ok (.invokespecial 65, 3) := by decide +kernel
theorem dX6_set_25 : decode cX6_set 25 = .ok (.athrow, 1) := by decide +kernel
theorem dX6_set_26 : decode cX6_set 26 = .ok (.aload_n 0, 1) := by decide +kernel
theorem dX6_set_27 : decode cX6_set 27 = .ok (.aload_n 3, 1) := by decide +kernel
theorem dX6_set_28 : decode cX6_set 28 = .ok (.invokevirtual 207, 3) := by decide +kernel
theorem dX6_set_31 : decode cX6_set 31 = .ok (.ifCond .ne 13, 3) := by decide +kernel
theorem dX6_set_34 : decode cX6_set 34 = .ok (.new 74, 3) := by decide +kernel
theorem dX6_set_37 : decode cX6_set 37 = .ok (.dup, 1) := by decide +kernel
theorem dX6_set_38 : decode cX6_set 38 = .ok (.ldc 227, 2) := by decide +kernel
theorem dX6_set_40 : decode cX6_set 40 = .ok (.invokespecial 78, 3) := by decide +kernel
theorem dX6_set_43 : decode cX6_set 43 = .ok (.athrow, 1) := by decide +kernel
theorem dX6_set_44 : decode cX6_set 44 = .ok (.aload_n 0, 1) := by decide +kernel
theorem dX6_set_45 : decode cX6_set 45 = .ok (.aload_n 3, 1) := by decide +kernel
theorem dX6_set_46 : decode cX6_set 46 = .ok (.getfield 213, 3) := by decide +kernel
theorem dX6_set_49 : decode cX6_set 49 = .ok (.invokevirtual 216, 3) := by decide +kernel
theorem dX6_set_52 : decode cX6_set 52 = .ok (.aload_n 3, 1) := by decide +kernel
theorem dX6_set_53 : decode cX6_set 53 = .ok (.getfield 213, 3) := by decide +kernel
theorem dX6_set_56 : decode cX6_set 56 = .ok (.getfield 172, 3) := by decide +kernel
theorem dX6_set_59 : decode cX6_set 59 = .ok (.istore 4, 2) := by decide +kernel
theorem dX6_set_61 : decode cX6_set 61 = .ok (.aload_n 3, 1) := by decide +kernel
theorem dX6_set_62 : decode cX6_set 62 = .ok (.getfield 213, 3) := by decide +kernel
theorem dX6_set_65 : decode cX6_set 65 = .ok (.iload_n 2, 1) := by decide +kernel
theorem dX6_set_66 : decode cX6_set 66 = .ok (.putfield 172, 3) := by decide +kernel
theorem dX6_set_69 : decode cX6_set 69 = .ok (.iload 4, 2) := by decide +kernel
theorem dX6_set_71 : decode cX6_set 71 = .ok (.ireturn, 1) := by decide +kernel
theorem dX6_get_0 : decode cX6_get 0 = .ok (.aload_n 0, 1) := by decide +kernel
theorem dX6_get_1 : decode cX6_get 1 = .ok (.iload_n 1, 1) := by decide +kernel
theorem dX6_get_2 : decode cX6_get 2 = .ok (.invokevirtual 184, 3) := by decide +kernel
theorem dX6_get_5 : decode cX6_get 5 = .ok (.astore_n 2, 1) := by decide +kernel
theorem dX6_get_6 : decode cX6_get 6 = .ok (.aload_n 0, 1) := by decide +kernel
theorem dX6_get_7 : decode cX6_get 7 = .ok (.aload_n 2, 1) := by decide +kernel
theorem dX6_get_8 : decode cX6_get 8 = .ok (.invokevirtual 207, 3) := by decide +kernel
theorem dX6_get_11 : decode cX6_get 11 = .ok (.ifCond .ne 13, 3) := by decide +kernel
theorem dX6_get_14 : decode cX6_get 14 = .ok (.new 74, 3) := by decide +kernel
theorem dX6_get_17 : decode cX6_get 17 = .ok (.dup, 1) := by decide +kernel
theorem dX6_get_18 : decode cX6_get 18 = .ok (.ldc 227, 2) := by decide +kernel
theorem dX6_get_20 : decode cX6_get 20 = .ok (.invokespecial 78, 3) := by decide +kernel
theorem dX6_get_23 : decode cX6_get 23 = .ok (.athrow, 1) := by decide +kernel
theorem dX6_get_24 : decode cX6_get 24 = .ok (.aload_n 0, 1) := by decide +kernel
theorem dX6_get_25 : decode cX6_get 25 = .ok (.aload_n 2, 1) := by decide +kernel
theorem dX6_get_26 : decode cX6_get 26 = .ok (.getfield 213, 3) := by decide +kernel
theorem dX6_get_29 : decode cX6_get 29 = .ok (.invokevirtual 216, 3) := by decide +kernel
theorem dX6_get_32 : decode cX6_get 32 = .ok (.aload_n 2, 1) := by decide +kernel
theorem dX6_get_33 : decode cX6_get 33 = .ok (.getfield 213, 3) := by decide +kernel
theorem dX6_get_36 : decode cX6_get 36 = .ok (.getfield 172, 3) := by decide +kernel
theorem dX6_get_39 : decode cX6_get 39 = .ok (.ireturn, 1) := by decide +kernel
theorem dX6_map_0 : decode cX6_map 0 = .ok (.aload_n 0, 1) := by decide +kernel
theorem dX6_map_1 : decode cX6_map 1 = .ok (.iload_n 1, 1) := by decide +kernel
theorem dX6_map_2 : decode cX6_map 2 = .ok (.invokevirtual 184, 3) := by decide +kernel
theorem dX6_map_5 : decode cX6_map 5 = .ok (.astore_n 3, 1) := by decide +kernel
theorem dX6_map_6 : decode cX6_map 6 = .ok (.iload_n 2, 1) := by decide +kernel
theorem dX6_map_7 : decode cX6_map 7 = .ok (.iconst 0, 1) := by decide +kernel
theorem dX6_map_8 : decode cX6_map 8 = .ok (.bipush 31, 2) := by decide +kernel
theorem dX6_map_10 : decode cX6_map 10 = .ok (.invokestatic 53, 3) := by decide +kernel
theorem dX6_map_13 : decode cX6_map 13 = .ok (.ifCond .ne 13, 3) := by decide +kernel
theorem dX6_map_16 : decode cX6_map 16 = .ok (.new 61, 3) := by decide +kernel
theorem dX6_map_19 : decode cX6_map 19 = .ok (.dup, 1) := by decide +kernel
theorem dX6_map_20 : decode cX6_map 20 = .ok (.ldc 229, 2) := by decide +kernel
theorem dX6_map_22 : decode cX6_map 22 = .ok (.invokespecial 65, 3) := by decide +kernel
theorem dX6_map_25 : decode cX6_map 25 = .ok (.athrow, 1) := by decide +kernel
theorem dX6_map_26 : decode cX6_map 26 = .ok (.aload_n 0, 1) := by decide +kernel
theorem dX6_map_27 : decode cX6_map 27 = .ok (.invokevirtual 231, 3) := by decide +kernel
theorem dX6_map_30 : decode cX6_map 30 = .ok (.istore 4, 2) := by decide +kernel
theorem dX6_map_32 : decode cX6_map 32 = .ok (.aload_n 0, 1) := by decide +kernel
theorem dX6_map_33 : decode cX6_map 33 = .ok (.aload_n 3, 1) := by decide +kernel
theorem dX6_map_34 : decode cX6_map 34 = .ok (.invokevirtual 207, 3) := by decide +kernel
theorem dX6_map_37 : decode cX6_map 37 = .ok (.ifCond .eq 9, 3) := by decide +kernel
theorem dX6_map_40 : decode cX6_map 40 = .ok (.iload 4, 2) := by decide +kernel
theorem dX6_map_42 : decode cX6_map 42 = .ok (.iconst (-1), 1) := by decide +kernel
theorem dX6_map_43 : decode cX6_map 43 = .ok (.if_icmp .ne 13, 3) := by decide +kernel
theorem dX6_map_46 : decode cX6_map 46 = .ok (.new 74, 3) := by decide +kernel
theorem dX6_map_49 : decode cX6_map 49 = .ok (.dup, 1) := by decide +kernel
theorem dX6_map_50 : decode cX6_map 50 = .ok (.ldc 234, 2) := by decide +kernel
theorem dX6_map_52 : decode cX6_map 52 = .ok (.invokespecial 78, 3) := by decide +kernel
theorem dX6_map_55 : decode cX6_map 55 = .ok (.athrow, 1) := by decide +kernel
theorem dX6_map_56 : decode cX6_map 56 = .ok (.aload_n 0, 1) := by decide +kernel
theorem dX6_map_57 : decode cX6_map 57 = .ok (.iload 4, 2) := by decide +kernel
theorem dX6_map_59 : decode cX6_map 59 = .ok (.invokevirtual 236, 3) := by decide +kernel
theorem dX6_map_62 : decode cX6_map 62 = .ok (.astore 5, 2) := by decide +kernel
theorem dX6_map_64 : decode cX6_map 64 = .ok (.aload 5, 2) := by decide +kernel
theorem dX6_map_66 : decode cX6_map 66 = .ok (.aload_n 3, 1) := by decide +kernel
theorem dX6_map_67 : decode cX6_map 67 = .ok (.getfield 213, 3) := by decide +kernel
theorem dX6_map_70 : decode cX6_map 70 = .ok (.putfield 240, 3) := by decide +kernel
theorem dX6_map_73 : decode cX6_map 73 = .ok (.aload 5, 2) := by decide +kernel
theorem dX6_map_75 : decode cX6_map 75 = .ok (.iload_n 2, 1) := by decide +kernel
theorem dX6_map_76 : decode cX6_map 76 = .ok (.putfield 243, 3) := by decide +kernel
theorem dX6_map_79 : decode cX6_map 79 = .ok (.iload 4, 2) := by decide +kernel
theorem dX6_map_81 : decode cX6_map 81 = .ok (.ireturn, 1) := by decide +kernel
theorem dX6_unmap_0 : decode cX6_unmap 0 = .ok (.aload_n 0, 1) := by decide +kernel
theorem dX6_unmap_1 : decode cX6_unmap 1 = .ok (.iload_n 1, 1) := by decide +kernel
theorem dX6_unmap_2 : decode cX6_unmap 2 = .ok (.invokevirtual 184, 3) := by decide +kernel
theorem dX6_unmap_5 : decode cX6_unmap 5 = .ok (.astore_n 3, 1) := by decide +kernel
theorem dX6_unmap_6 : decode cX6_unmap 6 = .ok (.aload_n 0, 1) := by decide +kernel
theorem dX6_unmap_7 : decode cX6_unmap 7 = .ok (.iload_n 2, 1) := by decide +kernel
theorem dX6_unmap_8 : decode cX6_unmap 8 = .ok (.invokevirtual 236, 3) := by decide +kernel
theorem dX6_unmap_11 : decode cX6_unmap 11 = .ok (.astore 4, 2) := by decide +kernel
theorem dX6_unmap_13 : decode cX6_unmap 13 = .ok (.aload_n 3, 1) := by decide +kernel
theorem dX6_unmap_14 : decode cX6_unmap 14 = .ok (.invokevirtual 246, 3) := by decide +kernel
theorem dX6_unmap_17 : decode cX6_unmap 17 = .ok (.ifCond .eq 15, 3) := by decide +kernel
theorem dX6_unmap_20 : decode cX6_unmap 20 = .ok (.aload 4, 2) := by decide +kernel
theorem dX6_unmap_22 : decode cX6_unmap 22 = .ok (.getfield 240, 3) := by decide +kernel
theorem dX6_unmap_25 : decode cX6_unmap 25 = .ok (.aload_n 3, 1) := by decide +kernel
theorem dX6_unmap_26 : decode cX6_unmap 26 = .ok (.getfield 213, 3) := by decide +kernel
theorem dX6_unmap_29 : decode cX6_unmap 29 = .ok (.if_acmp .eq 13, 3) := by decide +kernel
theorem dX6_unmap_32 : decode cX6_unmap 32 = .ok (.new 74, 3) := by decide +kernel
theorem dX6_unmap_35 : decode cX6_unmap 35 = .ok (.dup, 1) := by decide +kernel
theorem dX6_unmap_36 : decode cX6_unmap 36 = .ok (.ldc 249, 2) := by decide +kernel
theorem dX6_unmap_38 : decode cX6_unmap 38 = .ok (.invokespecial 78, 3) := by decide +kernel
theorem dX6_unmap_41 : decode cX6_unmap 41 = .ok (.athrow, 1) := by decide +kernel
theorem dX6_unmap_42 : decode cX6_unmap 42 = .ok (.aload 4, 2) := by decide +kernel
theorem dX6_unmap_44 : decode cX6_unmap 44 = .ok (.aconst_null, 1) := by decide +kernel
theorem dX6_unmap_45 : decode cX6_unmap 45 = .ok (.putfield 240, 3) := by decide +kernel
theorem dX6_unmap_48 : decode cX6_unmap 48 = .ok (.aload 4, 2) := by decide +kernel
theorem dX6_unmap_50 : decode cX6_unmap 50 = .ok (.getfield 243, 3) := by decide +kernel
theorem dX6_unmap_53 : decode cX6_unmap 53 = .ok (.ireturn, 1) := by decide +kernel
theorem dX6_access_0 : decode cX6_access 0 = .ok (.aload_n 0, 1) := by decide +kernel
theorem dX6_access_1 : decode cX6_access 1 = .ok (.iload_n 1, 1) := by decide +kernel
theorem dX6_access_2 : decode cX6_access 2 = .ok (.invokevirtual 101, 3) := by decide +kernel
theorem dX6_access_5 : decode cX6_access 5 = .ok (.astore_n 3, 1) := by decide +kernel
theorem dX6_access_6 : decode cX6_access 6 = .ok (.aload_n 0, 1) := by decide +kernel
theorem dX6_access_7 : decode cX6_access 7 = .ok (.iload_n 2, 1) := by decide +kernel
theorem dX6_access_8 : decode cX6_access 8 = .ok (.invokevirtual 236, 3) := by decide +kernel
theorem dX6_access_11 : decode cX6_access 11 = .ok (.astore 4, 2) := by decide +kernel
theorem dX6_access_13 : decode cX6_access 13 = .ok (.aload_n 3, 1) := by decide +kernel
theorem dX6_access_14 : decode cX6_access 14 = .ok (.getfield 104, 3) := by decide +kernel
theorem dX6_access_17 : decode cX6_access 17 = .ok (.ifCond .ne 13, 3) := by decide +kernel
theorem dX6_access_20 : decode cX6_access 20 = .ok (.new 74, 3) := by decide +kernel
theorem dX6_access_23 : decode cX6_access 23 = .ok (.dup, 1) := by decide +kernel
theorem dX6_access_24 : decode cX6_access 24 = .ok (.ldc 108, 2) := by decide +kernel
theorem dX6_access_26 : decode cX6_access 26 = .ok (.invokespecial 78, 3) := by decide +kernel
theorem dX6_access_29 : decode cX6_access 29 = .ok (.athrow, 1) := by decide +kernel
theorem dX6_access_30 : decode cX6_access 30 = .ok (.aload_n 3, 1) := by decide +kernel
theorem dX6_access_31 : decode cX6_access 31 = .ok (.getfield 251, 3) := by decide +kernel
theorem dX6_access_34 : decode cX6_access 34 = .ok (.ifCond .eq 12, 3) := by decide +kernel
theorem dX6_access_37 : decode cX6_access 37 = .ok (.aload 4, 2) := by decide +kernel
theorem dX6_access_39 : decode cX6_access 39 = .ok (.getfield 240, 3) := by decide +kernel
theorem dX6_access_42 : decode cX6_access 42 = .ok (.aload_n 3, 1) := by decide +kernel
theorem dX6_access_43 : decode cX6_access 43 = .ok (.if_acmp .eq 15, 3) := by decide +kernel
theorem dX6_access_46 : decode cX6_access 46 = .ok (.aload_n 0, 1) := by decide +kernel
theorem dX6_access_47 : decode cX6_access 47 = .ok (.dup, 1) := by decide +kernel
theorem dX6_access_48 : decode cX6_access 48 = .ok (.getfield 254, 3) := by decide +kernel
theorem dX6_access_51 : decode cX6_access 51 = .ok (.iconst 1, 1) := by decide +kernel
theorem dX6_access_52 : decode cX6_access 52 = .ok (.iadd, 1) := by decide +kernel
theorem dX6_access_53 : decode cX6_access 53 = .ok (.putfield 254, 3) := by decide +kernel
theorem dX6_access_56 : decode cX6_access 56 = .ok (.iconst (-1), 1) := by decide +kernel
theorem dX6_access_57 : decode cX6_access 57 = .ok (.ireturn, 1) := by decide +kernel
theorem dX6_access_58 : decode cX6_access 58 = .ok (.aload 4, 2) := by decide +kernel
theorem dX6_access_60 : decode cX6_access 60 = .ok (.getfield 243, 3) := by decide +kernel
theorem dX6_access_63 : decode cX6_access 63 = .ok (.ireturn, 1) := by decide +kernel
theorem dX6_pass_0 : decode cX6_pass 0 = .ok (.iload_n 1, 1) := by decide +kernel
theorem dX6_pass_1 : decode cX6_pass 1 = .ok (.iconst 1, 1) := by decide +kernel
theorem dX6_pass_2 : decode cX6_pass 2 = .ok (.bipush 50, 2) := by decide +kernel
theorem dX6_pass_4 : decode cX6_pass 4 = .ok (.invokestatic 53, 3) := by decide +kernel
theorem dX6_pass_7 : decode cX6_pass 7 = .ok (.ifCond .ne 13, 3) := by decide +kernel
theorem dX6_pass_10 : decode cX6_pass 10 = .ok (.new 61, 3) := by decide +kernel
theorem dX6_pass_13 : decode cX6_pass 13 = .ok (.dup, 1) := by decide +kernel
theorem dX6_pass_14 : decode cX6_pass 14 = .ok (.ldc 205, 2) := by decide +kernel
theorem dX6_pass_16 : decode cX6_pass 16 = .ok (.invokespecial 65, 3) := by decide +kernel
theorem dX6_pass_19 : decode cX6_pass 19 = .ok (.athrow, 1) := by decide +kernel
theorem dX6_pass_20 : decode cX6_pass 20 = .ok (.aload_n 0, 1) := by decide +kernel
theorem dX6_pass_21 : decode cX6_pass 21 = .ok (.getfield 160, 3) := by decide +kernel
theorem dX6_pass_24 : decode cX6_pass 24 = .ok (.ifCond .eq 14, 3) := by decide +kernel
theorem dX6_pass_27 : decode cX6_pass 27 = .ok (.new 74, 3) := by decide +kernel
theorem dX6_pass_30 : decode cX6_pass 30 = .ok (.dup, 1) := by decide +kernel
theorem dX6_pass_31 : decode cX6_pass 31 = .ok (.ldc_w 257, 3) := by decide +kernel
theorem dX6_pass_34 : decode cX6_pass 34 = .ok (.invokespecial 78, 3) := by decide +kernel
theorem dX6_pass_37 : decode cX6_pass 37 = .ok (.athrow, 1) := by decide +kernel
theorem dX6_pass_38 : decode cX6_pass 38 = .ok (.iconst 0, 1) := by decide +kernel
theorem dX6_pass_39 : decode cX6_pass 39 = .ok (.istore_n 2, 1) := by decide +kernel
theorem dX6_pass_40 : decode cX6_pass 40 = .ok (.iload_n 2, 1) := by decide +kernel
theorem dX6_pass_41 : decode cX6_pass 41 = .ok (.iload_n 1, 1) := by decide +kernel
theorem dX6_pass_42 : decode cX6_pass 42 = .ok (.if_icmp .ge 31, 3) := by decide +kernel
theorem dX6_pass_45 : decode cX6_pass 45 = .ok (.aload_n 0, 1) := by decide +kernel
theorem dX6_pass_46 : decode cX6_pass 46 = .ok (.dup, 1) := by decide +kernel
theorem dX6_pass_47 : decode cX6_pass 47 = .ok (.getfield 219, 3) := by decide +kernel
theorem dX6_pass_50 : decode cX6_pass 50 = .ok (.iconst 1, 1) := by decide +kernel
theorem dX6_pass_51 : decode cX6_pass 51 = .ok (.iadd, 1) := by decide +kernel
theorem dX6_pass_52 : decode cX6_pass 52 = .ok (.putfield 219, 3) := by decide +kernel
theorem dX6_pass_55 : decode cX6_pass 55 = .ok (.aload_n 0, 1) := by decide +kernel
theorem dX6_pass_56 : decode cX6_pass 56 = .ok (.invokevirtual 259, 3) := by decide +kernel
theorem dX6_pass_59 : decode cX6_pass 59 = .ok (.aload_n 0, 1) := by decide +kernel
theorem dX6_pass_60 : decode cX6_pass 60 = .ok (.invokevirtual 262, 3) := by decide +kernel
theorem dX6_pass_63 : decode cX6_pass 63 = .ok (.aload_n 0, 1) := by decide +kernel
theorem dX6_pass_64 : decode cX6_pass 64 = .ok (.invokevirtual 265, 3) := by decide +kernel
theorem dX6_pass_67 : decode cX6_pass 67 = .ok (.iinc 2 1, 3) := by decide +kernel
theorem dX6_pass_70 : decode cX6_pass 70 = .ok (.goto (-30), 3) := by decide +kernel
theorem dX6_pass_73 : decode cX6_pass 73 = .ok (.aload_n 0, 1) := by decide +kernel
theorem dX6_pass_74 : decode cX6_pass 74 = .ok (.getfield 219, 3) := by decide +kernel
theorem dX6_pass_77 : decode cX6_pass 77 = .ok (.ireturn, 1) := by decide +kernel
theorem dX6_suspend_0 : decode cX6_suspend 0 = .ok (.aload_n 0, 1) := by decide +kernel
theorem dX6_suspend_1 : decode cX6_suspend 1 = .ok (.getfield 160, 3) := by decide +kernel
theorem dX6_suspend_4 : decode cX6_suspend 4 = .ok (.ifCond .eq 14, 3) := by decide +kernel
theorem dX6_suspend_7 : decode cX6_suspend 7 = .ok (.new 74, 3) := by decide +kernel
theorem dX6_suspend_10 : decode cX6_suspend 10 = .ok (.dup, 1) := by decide +kernel
theorem dX6_suspend_11 : decode cX6_suspend 11 = .ok (.ldc_w 257, 3) := by decide +kernel
theorem dX6_suspend_14 : decode cX6_suspend 14 = .ok (.invokespecial 78, 3) := by decide +kernel
theorem dX6_suspend_17 : decode cX6_suspend 17 = .ok (.athrow, 1) := by decide +kernel
theorem dX6_suspend_18 : decode cX6_suspend 18 = .ok (.aload_n 0, 1) := by decide +kernel
theorem dX6_suspend_19 : decode cX6_suspend 19 = .ok (.getfield 16, 3) := by decide +kernel
theorem dX6_suspend_22 : decode cX6_suspend 22 = .ok (.invokevirtual 70, 3) := by decide +kernel
theorem dX6_suspend_25 : decode cX6_suspend 25 = .ok (.iconst 1, 1) := by decide +kernel
theorem dX6_suspend_26 : decode cX6_suspend 26 = .ok (.isub, 1) := by decide +kernel
theorem dX6_suspend_27 : decode cX6_suspend 27 = .ok (.istore_n 1, 1) := by decide +kernel
theorem dX6_suspend_28 : decode cX6_suspend 28 = .ok (.iload_n 1, 1) := by decide +kernel
theorem dX6_suspend_29 : decode cX6_suspend 29 = .ok (.ifCond .lt 63, 3) := by decide +kernel
theorem dX6_suspend_32 : decode cX6_suspend 32 = .ok (.aload_n 0, 1) := by decide +kernel
theorem dX6_suspend_33 : decode cX6_suspend 33 = .ok (.getfield 16, 3) := by decide +kernel
theorem dX6_suspend_36 : decode cX6_suspend 36 = .ok (.iload_n 1, 1) := by decide +kernel
theorem dX6_suspend_37 : decode cX6_suspend 37 = .ok (.invokevirtual 110, 3) := by decide +kernel
theorem dX6_suspend_40 : decode cX6_suspend 40 = .ok (.checkcast 79, 3) := by decide +kernel
theorem dX6_suspend_43 : decode cX6_suspend 43 = .ok (.astore_n 2, 1) := by decide +kernel
theorem dX6_suspend_44 : decode cX6_suspend 44 = .ok (.aload_n 2, 1) := by decide +kernel
theorem dX6_suspend_45 : decode cX6_suspend 45 = .ok (.getfield 251, 3) := by decide +kernel
theorem dX6_suspend_48 : decode cX6_suspend 48 = .ok (.ifCond .eq 21, 3) := by decide +kernel
theorem dX6_suspend_51 : decode cX6_suspend 51 = .ok (.aload_n 0, 1) := by decide +kernel
theorem dX6_suspend_52 : decode cX6_suspend 52 = .ok (.aload_n 2, 1) := by decide +kernel
theorem dX6_suspend_53 : decode cX6_suspend 53 = .ok (.invokevirtual 268, 3) := by decide +kernel
theorem dX6_suspend_56 : decode cX6_suspend 56 = .ok (.ifCond .eq 13, 3) := by decide +kernel
theorem dX6_suspend_59 : decode cX6_suspend 59 = .ok (.aload_n 0, 1) := by decide +kernel
theorem dX6_suspend_60 : decode cX6_suspend 60 = .ok (.invokevirtual 271, 3) := by decide +kernel
theorem dX6_suspend_63 : decode cX6_suspend 63 = .ok (.pop, 1) := by decide +kernel
theorem dX6_suspend_64 : decode cX6_suspend 64 = .ok (.aload_n 2, 1) := by decide +kernel
theorem dX6_suspend_65 : decode cX6_suspend 65 = .ok (.getfield 97, 3) := by decide +kernel
theorem dX6_suspend_68 : decode cX6_suspend 68 = .ok (.ireturn, 1) := by decide +kernel
theorem dX6_suspend_69 : decode cX6_suspend 69 = .ok (.aload_n 2, 1) := by decide +kernel
theorem dX6_suspend_70 : decode cX6_suspend 70 = .ok (.getfield 251, 3) := by decide +kernel
theorem dX6_suspend_73 : decode cX6_suspend 73 = .ok (.ifCond .eq 13, 3) := by decide +kernel
theorem dX6_suspend_76 : decode cX6_suspend 76 = .ok (.aload_n 0, 1) := by decide +kernel
theorem dX6_suspend_77 : decode cX6_suspend 77 = .ok (.aload_n 2, 1) := by decide +kernel
theorem dX6_suspend_78 : decode cX6_suspend 78 = .ok (.invokevirtual 274, 3) := by decide +kernel
theorem dX6_suspend_81 : decode cX6_suspend 81 = .ok (.aload_n 2, 1) := by decide +kernel
theorem dX6_suspend_82 : decode cX6_suspend 82 = .ok (.iconst 1, 1) := by decide +kernel
theorem dX6_suspend_83 : decode cX6_suspend 83 = .ok (.putfield 277, 3) := by decide +kernel
theorem dX6_suspend_86 : decode cX6_suspend 86 = .ok (.iinc 1 (-1), 3) := by decide +kernel
theorem dX6_suspend_89 : decode cX6_suspend 89 = .ok (.goto (-61), 3) := by decide +kernel
theorem dX6_suspend_92 : decode cX6_suspend 92 = .ok (.aload_n 0, 1) := by decide +kernel
theorem dX6_suspend_93 : decode cX6_suspend 93 = .ok (.iconst 1, 1) := by decide +kernel
theorem dX6_suspend_94 : decode cX6_suspend 94 = .ok (.putfield 160, 3) := by decide +kernel
theorem dX6_suspend_97 : decode cX6_suspend 97 = .ok (.iconst (-1), 1) := by decide +kernel
theorem dX6_suspend_98 : decode cX6_suspend 98 = .ok (.ireturn, 1) := by decide +kernel
theorem dX6_resume_0 : decode cX6_resume 0 = .ok (.aload_n 0, 1) := by decide +kernel
theorem dX6_resume_1 : decode cX6_resume 1 = .ok (.getfield 160, 3) := by decide +kernel
theorem dX6_resume_4 : decode cX6_resume 4 = .ok (.ifCond .ne 14, 3) := by decide +kernel
theorem dX6_resume_7 : decode cX6_resume 7 = .ok (.new 74, 3) := by decide +kernel
theorem dX6_resume_10 : decode cX6_resume 10 = .ok (.dup, 1) := by decide +kernel
theorem dX6_resume_11 : decode cX6_resume 11 = .ok (.ldc_w 280, 3) := by decide +kernel
theorem dX6_resume_14 : decode cX6_resume 14 = .ok (.invokespecial 78, 3) := by decide +kernel
theorem dX6_resume_17 : decode cX6_resume 17 = .ok (.athrow, 1) := by decide +kernel
theorem dX6_resume_18 : decode cX6_resume 18 = .ok (.aload_n 0, 1) := by decide +kernel
theorem dX6_resume_19 : decode cX6_resume 19 = .ok (.iconst 0, 1) := by decide +kernel
theorem dX6_resume_20 : decode cX6_resume 20 = .ok (.putfield 160, 3) := by decide +kernel
theorem dX6_resume_23 : decode cX6_resume 23 = .ok (.aload_n 0, 1) := by decide +kernel
theorem dX6_resume_24 : decode cX6_resume 24 = .ok (.invokevirtual 271, 3) := by decide +kernel
theorem dX6_resume_27 : decode cX6_resume 27 = .ok (.istore_n 1, 1) := by decide +kernel
theorem dX6_resume_28 : decode cX6_resume 28 = .ok (.iconst 0, 1) := by decide +kernel
theorem dX6_resume_29 : decode cX6_resume 29 = .ok (.istore_n 2, 1) := by decide +kernel
theorem dX6_resume_30 : decode cX6_resume 30 = .ok (.iload_n 2, 1) := by decide +kernel
theorem dX6_resume_31 : decode cX6_resume 31 = .ok (.bipush 8, 2) := by decide +kernel
theorem dX6_resume_33 : decode cX6_resume 33 = .ok (.if_icmp .ge 23, 3) := by decide +kernel
theorem dX6_resume_36 : decode cX6_resume 36 = .ok (.aload_n 0, 1) := by decide +kernel
theorem dX6_resume_37 : decode cX6_resume 37 = .ok (.iload_n 2, 1) := by decide +kernel
theorem dX6_resume_38 : decode cX6_resume 38 = .ok (.invokevirtual 282, 3) := by decide +kernel
theorem dX6_resume_41 : decode cX6_resume 41 = .ok (.ifCond .ne 9, 3) := by decide +kernel
theorem dX6_resume_44 : decode cX6_resume 44 = .ok (.aload_n 0, 1) := by decide +kernel
theorem dX6_resume_45 : decode cX6_resume 45 = .ok (.iload_n 2, 1) := by decide +kernel
theorem dX6_resume_46 : decode cX6_resume 46 = .ok (.invokevirtual 285, 3) := by decide +kernel
theorem dX6_resume_49 : decode cX6_resume 49 = .ok (.pop, 1) := by decide +kernel
theorem dX6_resume_50 : decode cX6_resume 50 = .ok (.iinc 2 1, 3) := by decide +kernel
theorem dX6_resume_53 : decode cX6_resume 53 = .ok (.goto (-23), 3) := by decide +kernel
theorem dX6_resume_56 : decode cX6_resume 56 = .ok (.aload_n 0, 1) := by decide +kernel
theorem dX6_resume_57 : decode cX6_resume 57 = .ok (.invokevirtual 94, 3) := by decide +kernel
theorem dX6_resume_60 : decode cX6_resume 60 = .ok (.iload_n 1, 1) := by decide +kernel
theorem dX6_resume_61 : decode cX6_resume 61 = .ok (.ireturn, 1) := by decide +kernel
theorem dX6_raise_0 : decode cX6_raise 0 = .ok (.aload_n 0, 1) := by decide +kernel
theorem dX6_raise_1 : decode cX6_raise 1 = .ok (.iload_n 1, 1) := by decide +kernel
theorem dX6_raise_2 : decode cX6_raise 2 = .ok (.invokevirtual 101, 3) := by decide +kernel
theorem dX6_raise_5 : decode cX6_raise 5 = .ok (.astore_n 2, 1) := by decide +kernel
theorem dX6_raise_6 : decode cX6_raise 6 = .ok (.aload_n 2, 1) := by decide +kernel
theorem dX6_raise_7 : decode cX6_raise 7 = .ok (.getfield 104, 3) := by decide +kernel
theorem dX6_raise_10 : decode cX6_raise 10 = .ok (.ifCond .eq 11, 3) := by decide +kernel
theorem dX6_raise_13 : decode cX6_raise 13 = .ok (.aload_n 2, 1) := by decide +kernel
theorem dX6_raise_14 : decode cX6_raise 14 = .ok (.getfield 289, 3) := by decide +kernel
theorem dX6_raise_17 : decode cX6_raise 17 = .ok (.iconst (-1), 1) := by decide +kernel
theorem dX6_raise_18 : decode cX6_raise 18 = .ok (.if_icmp .ne 14, 3) := by decide +kernel
theorem dX6_raise_21 : decode cX6_raise 21 = .ok (.new 74, 3) := by decide +kernel
theorem dX6_raise_24 : decode cX6_raise 24 = .ok (.dup, 1) := by decide +kernel
theorem dX6_raise_25 : decode cX6_raise 25 = .ok (.ldc_w 292, 3) := by decide +kernel
theorem dX6_raise_28 : decode cX6_raise 28 = .ok (.invokespecial 78, 3) := by decide +kernel
theorem dX6_raise_31 : decode cX6_raise 31 = .ok (.athrow, 1) := by decide +kernel
theorem dX6_raise_32 : decode cX6_raise 32 = .ok (.aload_n 2, 1) := by decide +kernel
theorem dX6_raise_33 : decode cX6_raise 33 = .ok (.iconst 1, 1) := by decide +kernel
theorem dX6_raise_34 : decode cX6_raise 34 = .ok (.putfield 175, 3) := by decide +kernel
theorem dX6_raise_37 : decode cX6_raise 37 = .ok (.aload_n 0, 1) := by decide +kernel
theorem dX6_raise_38 : decode cX6_raise 38 = .ok (.getfield 160, 3) := by decide +kernel
theorem dX6_raise_41 : decode cX6_raise 41 = .ok (.ifCond .ne 14, 3) := by decide +kernel
theorem dX6_raise_44 : decode cX6_raise 44 = .ok (.aload_n 0, 1) := by decide +kernel
theorem dX6_raise_45 : decode cX6_raise 45 = .ok (.aload_n 2, 1) := by decide +kernel
theorem dX6_raise_46 : decode cX6_raise 46 = .ok (.getfield 289, 3) := by decide +kernel
theorem dX6_raise_49 : decode cX6_raise 49 = .ok (.invokevirtual 282, 3) := by decide +kernel
theorem dX6_raise_52 : decode cX6_raise 52 = .ok (.ifCond .eq 5, 3) := by decide +kernel
theorem dX6_raise_55 : decode cX6_raise 55 = .ok (.iconst 0, 1) := by decide +kernel
theorem dX6_raise_56 : decode cX6_raise 56 = .ok (.ireturn, 1) := by decide +kernel
theorem dX6_raise_57 : decode cX6_raise 57 = .ok (.aload_n 0, 1) := by decide +kernel
theorem dX6_raise_58 : decode cX6_raise 58 = .ok (.aload_n 2, 1) := by decide +kernel
theorem dX6_raise_59 : decode cX6_raise 59 = .ok (.getfield 289, 3) := by decide +kernel
theorem dX6_raise_62 : decode cX6_raise 62 = .ok (.invokevirtual 285, 3) := by decide +kernel
theorem dX6_raise_65 : decode cX6_raise 65 = .ok (.istore_n 3, 1) := by decide +kernel
theorem dX6_raise_66 : decode cX6_raise 66 = .ok (.aload_n 0, 1) := by decide +kernel
theorem dX6_raise_67 : decode cX6_raise 67 = .ok (.aload_n 2, 1) := by decide +kernel
theorem dX6_raise_68 : decode cX6_raise 68 = .ok (.getfield 289, 3) := by decide +kernel
theorem dX6_raise_71 : decode cX6_raise 71 = .ok (.iload_n 3, 1) := by decide +kernel
theorem dX6_raise_72 : decode cX6_raise 72 = .ok (.ifCond .le 7, 3) := by decide +kernel
theorem dX6_raise_75 : decode cX6_raise 75 = .ok (.iconst 1, 1) := by decide +kernel
theorem dX6_raise_76 : decode cX6_raise 76 = .ok (.goto 4, 3) := by decide +kernel
theorem dX6_raise_79 : decode cX6_raise 79 = .ok (.iconst 0, 1) := by decide +kernel
theorem dX6_raise_80 : decode cX6_raise 80 = .ok (.invokevirtual 294, 3) := by decide +kernel
theorem dX6_raise_83 : decode cX6_raise 83 = .ok (.iload_n 3, 1) := by decide +kernel
theorem dX6_raise_84 : decode cX6_raise 84 = .ok (.ireturn, 1) := by decide +kernel
theorem dX6_openLine_0 : decode cX6_openLine 0 = .ok (.iload_n 1, 1) := by decide +kernel
theorem dX6_openLine_1 : decode cX6_openLine 1 = .ok (.invokestatic 298, 3) := by decide +kernel
theorem dX6_openLine_4 : decode cX6_openLine 4 = .ok (.aload_n 0, 1) := by decide +kernel
theorem dX6_openLine_5 : decode cX6_openLine 5 = .ok (.getfield 31, 3) := by decide +kernel
theorem dX6_openLine_8 : decode cX6_openLine 8 = .ok (.iload_n 1, 1) := by decide +kernel
theorem dX6_openLine_9 : decode cX6_openLine 9 = .ok (.iconst 0, 1) := by decide +kernel
theorem dX6_openLine_10 : decode cX6_openLine 10 = .ok (.iastore, 1) := by decide +kernel
theorem dX6_openLine_11 : decode cX6_openLine 11 = .ok (.aload_n 0, 1) := by decide +kernel
theorem dX6_openLine_12 : decode cX6_openLine 12 = .ok (.getfield 160, 3) := by decide +kernel
theorem dX6_openLine_15 : decode cX6_openLine 15 = .ok (.ifCond .eq 7, 3) := by decide +kernel
theorem dX6_openLine_18 : decode cX6_openLine 18 = .ok (.iconst 0, 1) := by decide +kernel
theorem dX6_openLine_19 : decode cX6_openLine 19 = .ok (.goto 8, 3) := by decide +kernel
theorem dX6_openLine_22 : decode cX6_openLine 22 = .ok (.aload_n 0, 1) := by decide +kernel
theorem dX6_openLine_23 : decode cX6_openLine 23 = .ok (.iload_n 1, 1) := by decide +kernel
theorem dX6_openLine_24 : decode cX6_openLine 24 = .ok (.invokevirtual 285, 3) := by decide +kernel
theorem dX6_openLine_27 : decode cX6_openLine 27 = .ok (.ireturn, 1) := by decide +kernel
theorem dX6_isThere_0 : decode cX6_isThere 0 = .ok (.aload_n 0, 1) := by decide +kernel
theorem dX6_isThere_1 : decode cX6_isThere 1 = .ok (.iload_n 1, 1) := by decide +kernel
theorem dX6_isThere_2 : decode cX6_isThere 2 = .ok (.invokevirtual 101, 3) := by decide +kernel
theorem dX6_isThere_5 : decode cX6_isThere 5 = .ok (.getfield 104, 3) := by decide +kernel
theorem dX6_isThere_8 : decode cX6_isThere 8 = .ok (.ireturn, 1) := by decide +kernel
theorem dX6_reason_0 : decode cX6_reason 0 = .ok (.aload_n 0, 1) := by decide +kernel
theorem dX6_reason_1 : decode cX6_reason 1 = .ok (.iload_n 1, 1) := by decide +kernel
theorem dX6_reason_2 : decode cX6_reason 2 = .ok (.invokevirtual 101, 3) := by decide +kernel
theorem dX6_reason_5 : decode cX6_reason 5 = .ok (.astore_n 2, 1) := by decide +kernel
theorem dX6_reason_6 : decode cX6_reason 6 = .ok (.aload_n 2, 1) := by decide +kernel
theorem dX6_reason_7 : decode cX6_reason 7 = .ok (.getfield 104, 3) := by decide +kernel
theorem dX6_reason_10 : decode cX6_reason 10 = .ok (.ifCond .ne 6, 3) := by decide +kernel
theorem dX6_reason_13 : decode cX6_reason 13 = .ok (.bipush 8, 2) := by decide +kernel
theorem dX6_reason_15 : decode cX6_reason 15 = .ok (.ireturn, 1) := by decide +kernel
theorem dX6_reason_16 : decode cX6_reason 16 = .ok (.aload_n 2, 1) := by decide +kernel
theorem dX6_reason_17 : decode cX6_reason 17 = .ok (.invokevirtual 146, 3) := by decide +kernel
theorem dX6_reason_20 : decode cX6_reason 20 = .ok (.ifCond .eq 5, 3) := by decide +kernel
theorem dX6_reason_23 : decode cX6_reason 23 = .ok (.iconst 0, 1) := by decide +kernel
theorem dX6_reason_24 : decode cX6_reason 24 = .ok (.ireturn, 1) := by decide +kernel
theorem dX6_reason_25 : decode cX6_reason 25 = .ok (.aload_n 0, 1) := by decide +kernel
theorem dX6_reason_26 : decode cX6_reason 26 = .ok (.aload_n 2, 1) := by decide +kernel
theorem dX6_reason_27 : decode cX6_reason 27 = .ok (.invokevirtual 157, 3) := by decide +kernel
theorem dX6_reason_30 : decode cX6_reason 30 = .ok (.istore_n 3, 1) := by decide +kernel
theorem dX6_reason_31 : decode cX6_reason 31 = .ok (.iload_n 3, 1) := by decide +kernel
theorem dX6_reason_32 : decode cX6_reason 32 = .ok (.ifCond .ne 7, 3) := by decide +kernel
theorem dX6_reason_35 : decode cX6_reason 35 = .ok (.iconst (-1), 1) := by decide +kernel
theorem dX6_reason_36 : decode cX6_reason 36 = .ok (.goto 4, 3) := by decide +kernel
theorem dX6_reason_39 : decode cX6_reason 39 = .ok (.iload_n 3, 1) := by decide +kernel
theorem dX6_reason_40 : decode cX6_reason 40 = .ok (.ireturn, 1) := by decide +kernel
theorem dX6_driverOf_0 : decode cX6_driverOf 0 = .ok (.aload_n 0, 1) := by decide +kernel
theorem dX6_driverOf_1 : decode cX6_driverOf 1 = .ok (.iload_n 1, 1) := by decide +kernel
theorem dX6_driverOf_2 : decode cX6_driverOf 2 = .ok (.invokevirtual 101, 3) := by decide +kernel
theorem dX6_driverOf_5 : decode cX6_driverOf 5 = .ok (.astore_n 2, 1) := by decide +kernel
theorem dX6_driverOf_6 : decode cX6_driverOf 6 = .ok (.aload_n 2, 1) := by decide +kernel
theorem dX6_driverOf_7 : decode cX6_driverOf 7 = .ok (.getfield 104, 3) := by decide +kernel
theorem dX6_driverOf_10 : decode cX6_driverOf 10 = .ok (.ifCond .ne 5, 3) := by decide +kernel
theorem dX6_driverOf_13 : decode cX6_driverOf 13 = .ok (.iconst (-1), 1) := by decide +kernel
theorem dX6_driverOf_14 : decode cX6_driverOf 14 = .ok (.ireturn, 1) := by decide +kernel
theorem dX6_driverOf_15 : decode cX6_driverOf 15 = .ok (.aload_n 2, 1) := by decide +kernel
theorem dX6_driverOf_16 : decode cX6_driverOf 16 = .ok (.invokevirtual 146, 3) := by decide +kernel
theorem dX6_driverOf_19 : decode cX6_driverOf 19 = .ok (.ifCond .eq 10, 3) := by decide +kernel
theorem dX6_driverOf_22 : decode cX6_driverOf 22 = .ok (.aload_n 2, 1) := by decide +kernel
theorem dX6_driverOf_23 : decode cX6_driverOf 23 = .ok (.getfield 302, 3) := by decide +kernel
theorem dX6_driverOf_26 : decode cX6_driverOf 26 = .ok (.goto 11, 3) := by decide +kernel
theorem dX6_driverOf_29 : decode cX6_driverOf 29 = .ok (.aload_n 0, 1) := by decide +kernel
theorem dX6_driverOf_30 : decode cX6_driverOf 30 = .ok (.aload_n 2, 1) := by decide +kernel
theorem dX6_driverOf_31 : decode cX6_driverOf 31 = .ok (.getfield 306, 3) := by decide +kernel
theorem dX6_driverOf_34 : decode cX6_driverOf 34 = .ok (.invokevirtual 309, 3) := by decide +kernel
theorem dX6_driverOf_37 : decode cX6_driverOf 37 = .ok (.astore_n 3, 1) := by decide +kernel
theorem dX6_driverOf_38 : decode cX6_driverOf 38 = .ok (.aload_n 3, 1) := by decide +kernel
theorem dX6_driverOf_39 : decode cX6_driverOf 39 = .ok (.ifnonnull 7, 3) := by decide +kernel
theorem dX6_driverOf_42 : decode cX6_driverOf 42 = .ok (.iconst (-1), 1) := by decide +kernel
theorem dX6_driverOf_43 : decode cX6_driverOf 43 = .ok (.goto 7, 3) := by decide +kernel
theorem dX6_driverOf_46 : decode cX6_driverOf 46 = .ok (.aload_n 3, 1) := by decide +kernel
theorem dX6_driverOf_47 : decode cX6_driverOf 47 = .ok (.getfield 135, 3) := by decide +kernel
theorem dX6_driverOf_50 : decode cX6_driverOf 50 = .ok (.ireturn, 1) := by decide +kernel
theorem dX6_window_0 : decode cX6_window 0 = .ok (.aload_n 0, 1) := by decide +kernel
theorem dX6_window_1 : decode cX6_window 1 = .ok (.iload_n 1, 1) := by decide +kernel
theorem dX6_window_2 : decode cX6_window 2 = .ok (.invokevirtual 101, 3) := by decide +kernel
theorem dX6_window_5 : decode cX6_window 5 = .ok (.getfield 313, 3) := by decide +kernel
theorem dX6_window_8 : decode cX6_window 8 = .ok (.ireturn, 1) := by decide +kernel
theorem dX6_isOn_0 : decode cX6_isOn 0 = .ok (.aload_n 0, 1) := by decide +kernel
theorem dX6_isOn_1 : decode cX6_isOn 1 = .ok (.iload_n 1, 1) := by decide +kernel
theorem dX6_isOn_2 : decode cX6_isOn 2 = .ok (.invokevirtual 101, 3) := by decide +kernel
theorem dX6_isOn_5 : decode cX6_isOn 5 = .ok (.getfield 251, 3) := by decide +kernel
theorem dX6_isOn_8 : decode cX6_isOn 8 = .ok (.ireturn, 1) := by decide +kernel
theorem dX6_isPending_0 : decode cX6_isPending 0 = .ok (.aload_n 0, 1) := by decide +kernel
theorem dX6_isPending_1 : decode cX6_isPending 1 = .ok (.iload_n 1, 1) := by decide +kernel
theorem dX6_isPending_2 : decode cX6_isPending 2 = .ok (.invokevirtual 101, 3) := by decide +kernel
theorem dX6_isPending_5 : decode cX6_isPending 5 = .ok (.getfield 175, 3) := by decide +kernel
theorem dX6_isPending_8 : decode cX6_isPending 8 = .ok (.ireturn, 1) := by decide +kernel
theorem dX6_strikes_0 : decode cX6_strikes 0 = .ok (.iload_n 1, 1) := by decide +kernel
theorem dX6_strikes_1 : decode cX6_strikes 1 = .ok (.invokestatic 298, 3) := by decide +kernel
theorem dX6_strikes_4 : decode cX6_strikes 4 = .ok (.aload_n 0, 1) := by decide +kernel
theorem dX6_strikes_5 : decode cX6_strikes 5 = .ok (.getfield 31, 3) := by decide +kernel
theorem dX6_strikes_8 : decode cX6_strikes 8 = .ok (.iload_n 1, 1) := by decide +kernel
theorem dX6_strikes_9 : decode cX6_strikes 9 = .ok (.iaload, 1) := by decide +kernel
theorem dX6_strikes_10 : decode cX6_strikes 10 = .ok (.ireturn, 1) := by decide +kernel
theorem dX6_handles_0 : decode cX6_handles 0 = .ok (.aload_n 0, 1) := by decide +kernel
theorem dX6_handles_1 : decode cX6_handles 1 = .ok (.iload_n 1, 1) := by decide +kernel
theorem dX6_handles_2 : decode cX6_handles 2 = .ok (.invokevirtual 101, 3) := by decide +kernel
theorem dX6_handles_5 : decode cX6_handles 5 = .ok (.astore_n 2, 1) := by decide +kernel
theorem dX6_handles_6 : decode cX6_handles 6 = .ok (.iconst 0, 1) := by decide +kernel
theorem dX6_handles_7 : decode cX6_handles 7 = .ok (.istore_n 3, 1) := by decide +kernel
theorem dX6_handles_8 : decode cX6_handles 8 = .ok (.iconst 0, 1) := by decide +kernel
theorem dX6_handles_9 : decode cX6_handles 9 = .ok (.istore 4, 2) := by decide +kernel
theorem dX6_handles_11 : decode cX6_handles 11 = .ok (.iload 4, 2) := by decide +kernel
theorem dX6_handles_13 : decode cX6_handles 13 = .ok (.aload_n 0, 1) := by decide +kernel
theorem dX6_handles_14 : decode cX6_handles 14 = .ok (.getfield 22, 3) := by decide +kernel
theorem dX6_handles_17 : decode cX6_handles 17 = .ok (.invokevirtual 70, 3) := by decide +kernel
theorem dX6_handles_20 : decode cX6_handles 20 = .ok (.if_icmp .ge 43, 3) := by decide +kernel
theorem dX6_handles_23 : decode cX6_handles 23 = .ok (.aload_n 0, 1) := by decide +kernel
theorem dX6_handles_24 : decode cX6_handles 24 = .ok (.getfield 22, 3) := by decide +kernel
theorem dX6_handles_27 : decode cX6_handles 27 = .ok (.iload 4, 2) := by decide +kernel
theorem dX6_handles_29 : decode cX6_handles 29 = .ok (.invokevirtual 110, 3) := by decide +kernel
theorem dX6_handles_32 : decode cX6_handles 32 = .ok (.checkcast 180, 3) := by decide +kernel
theorem dX6_handles_35 : decode cX6_handles 35 = .ok (.astore 5, 2) := by decide +kernel
theorem dX6_handles_37 : decode cX6_handles 37 = .ok (.aload 5, 2) := by decide +kernel
theorem dX6_handles_39 : decode cX6_handles 39 = .ok (.getfield 188, 3) := by decide +kernel
theorem dX6_handles_42 : decode cX6_handles 42 = .ok (.ifCond .eq 15, 3) := by decide +kernel
theorem dX6_handles_45 : decode cX6_handles 45 = .ok (.aload 5, 2) := by decide +kernel
theorem dX6_handles_47 : decode cX6_handles 47 = .ok (.getfield 213, 3) := by decide +kernel
theorem dX6_handles_50 : decode cX6_handles 50 = .ok (.aload_n 2, 1) := by decide +kernel
theorem dX6_handles_51 : decode cX6_handles 51 = .ok (.if_acmp .ne 6, 3) := by decide +kernel
theorem dX6_handles_54 : decode cX6_handles 54 = .ok (.iinc 3 1, 3) := by decide +kernel
theorem dX6_handles_57 : decode cX6_handles 57 = .ok (.iinc 4 1, 3) := by decide +kernel
theorem dX6_handles_60 : decode cX6_handles 60 = .ok (.goto (-49), 3) := by decide +kernel
theorem dX6_handles_63 : decode cX6_handles 63 = .ok (.iload_n 3, 1) := by decide +kernel
theorem dX6_handles_64 : decode cX6_handles 64 = .ok (.ireturn, 1) := by decide +kernel
theorem dX6_callState_0 : decode cX6_callState 0 = .ok (.iload_n 1, 1) := by decide +kernel
theorem dX6_callState_1 : decode cX6_callState 1 = .ok (.ifCond .lt 14, 3) := by decide +kernel
theorem dX6_callState_4 : decode cX6_callState 4 = .ok (.iload_n 1, 1) := by decide +kernel
theorem dX6_callState_5 : decode cX6_callState 5 = .ok (.aload_n 0, 1) := by decide +kernel
theorem dX6_callState_6 : decode cX6_callState 6 = .ok (.getfield 25, 3) := by decide +kernel
theorem dX6_callState_9 : decode cX6_callState 9 = .ok (.invokevirtual 70, 3) := by decide +kernel
theorem dX6_callState_12 : decode cX6_callState 12 = .ok (.if_icmp .lt 14, 3) := by decide +kernel
theorem dX6_callState_15 : decode cX6_callState 15 = .ok (.new 136, 3) := by decide +kernel
theorem dX6_callState_18 : decode cX6_callState 18 = .ok (.dup, 1) := by decide +kernel
theorem dX6_callState_19 : decode cX6_callState 19 = .ok (.ldc_w 316, 3) := by decide +kernel
theorem dX6_callState_22 : decode cX6_callState 22 = .ok (.invokespecial 140, 3) := by decide +kernel
theorem dX6_callState_25 : decode cX6_callState 25 = .ok (.athrow, 1) := by decide +kernel
theorem dX6_callState_26 : decode cX6_callState 26 = .ok (.aload_n 0, 1) := by decide +kernel
theorem dX6_callState_27 : decode cX6_callState 27 = .ok (.getfield 25, 3) := by decide +kernel
theorem dX6_callState_30 : decode cX6_callState 30 = .ok (.iload_n 1, 1) := by decide +kernel
theorem dX6_callState_31 : decode cX6_callState 31 = .ok (.invokevirtual 110, 3) := by decide +kernel
theorem dX6_callState_34 : decode cX6_callState 34 = .ok (.checkcast 193, 3) := by decide +kernel
theorem dX6_callState_37 : decode cX6_callState 37 = .ok (.getfield 318, 3) := by decide +kernel
theorem dX6_callState_40 : decode cX6_callState 40 = .ok (.ireturn, 1) := by decide +kernel
theorem dX6_faults_0 : decode cX6_faults 0 = .ok (.aload_n 0, 1) := by decide +kernel
theorem dX6_faults_1 : decode cX6_faults 1 = .ok (.getfield 254, 3) := by decide +kernel
theorem dX6_faults_4 : decode cX6_faults 4 = .ok (.ireturn, 1) := by decide +kernel
theorem dX6_given_0 : decode cX6_given 0 = .ok (.iload_n 1, 1) := by decide +kernel
theorem dX6_given_1 : decode cX6_given 1 = .ok (.tableswitch 54 0 3 #[31, 36, 41, 46], 31) := by decide +kernel
theorem dX6_given_32 : decode cX6_given 32 = .ok (.aload_n 0, 1) := by decide +kernel
theorem dX6_given_33 : decode cX6_given 33 = .ok (.invokevirtual 321, 3) := by decide +kernel
theorem dX6_given_36 : decode cX6_given 36 = .ok (.ireturn, 1) := by decide +kernel
theorem dX6_given_37 : decode cX6_given 37 = .ok (.aload_n 0, 1) := by decide +kernel
theorem dX6_given_38 : decode cX6_given 38 = .ok (.invokevirtual 324, 3) := by decide +kernel
theorem dX6_given_41 : decode cX6_given 41 = .ok (.ireturn, 1) := by decide +kernel
theorem dX6_given_42 : decode cX6_given 42 = .ok (.aload_n 0, 1) := by decide +kernel
theorem dX6_given_43 : decode cX6_given 43 = .ok (.invokevirtual 327, 3) := by decide +kernel
theorem dX6_given_46 : decode cX6_given 46 = .ok (.ireturn, 1) := by decide +kernel
theorem dX6_given_47 : decode cX6_given 47 = .ok (.aload_n 0, 1) := by decide +kernel
theorem dX6_given_48 : decode cX6_given 48 = .ok (.getfield 16, 3) := by decide +kernel
theorem dX6_given_51 : decode cX6_given 51 = .ok (.invokevirtual 70, 3) := by decide +kernel
theorem dX6_given_54 : decode cX6_given 54 = .ok (.ireturn, 1) := by decide +kernel
theorem dX6_given_55 : decode cX6_given 55 = .ok (.new 61, 3) := by decide +kernel
theorem dX6_given_58 : decode cX6_given 58 = .ok (.dup, 1) := by decide +kernel
theorem dX6_given_59 : decode cX6_given 59 = .ok (.ldc_w 330, 3) := by decide +kernel
theorem dX6_given_62 : decode cX6_given 62 = .ok (.invokespecial 65, 3) := by decide +kernel
theorem dX6_given_65 : decode cX6_given 65 = .ok (.athrow, 1) := by decide +kernel
theorem dX6_events_0 : decode cX6_events 0 = .ok (.aload_n 0, 1) := by decide +kernel
theorem dX6_events_1 : decode cX6_events 1 = .ok (.getfield 38, 3) := by decide +kernel
theorem dX6_events_4 : decode cX6_events 4 = .ok (.getfield 332, 3) := by decide +kernel
theorem dX6_events_7 : decode cX6_events 7 = .ok (.ireturn, 1) := by decide +kernel
theorem dX6_eventKind_0 : decode cX6_eventKind 0 = .ok (.aload_n 0, 1) := by decide +kernel
theorem dX6_eventKind_1 : decode cX6_eventKind 1 = .ok (.getfield 38, 3) := by decide +kernel
theorem dX6_eventKind_4 : decode cX6_eventKind 4 = .ok (.iload_n 1, 1) := by decide +kernel
theorem dX6_eventKind_5 : decode cX6_eventKind 5 = .ok (.invokevirtual 335, 3) := by decide +kernel
theorem dX6_eventKind_8 : decode cX6_eventKind 8 = .ok (.ifCond .ne 14, 3) := by decide +kernel
theorem dX6_eventKind_11 : decode cX6_eventKind 11 = .ok (.new 136, 3) := by decide +kernel
theorem dX6_eventKind_14 : decode cX6_eventKind 14 = .ok (.dup, 1) := by decide +kernel
theorem dX6_eventKind_15 : decode cX6_eventKind 15 = .ok (.ldc_w 338, 3) := by decide +kernel
theorem dX6_eventKind_18 : decode cX6_eventKind 18 = .ok (.invokespecial 140, 3) := by decide +kernel
theorem dX6_eventKind_21 : decode cX6_eventKind 21 = .ok (.athrow, 1) := by decide +kernel
theorem dX6_eventKind_22 : decode cX6_eventKind 22 = .ok (.aload_n 0, 1) := by decide +kernel
theorem dX6_eventKind_23 : decode cX6_eventKind 23 = .ok (.getfield 38, 3) := by decide +kernel
theorem dX6_eventKind_26 : decode cX6_eventKind 26 = .ok (.iload_n 1, 1) := by decide +kernel
theorem dX6_eventKind_27 : decode cX6_eventKind 27 = .ok (.invokevirtual 340, 3) := by decide +kernel
theorem dX6_eventKind_30 : decode cX6_eventKind 30 = .ok (.ireturn, 1) := by decide +kernel
theorem dX6_eventOf_0 : decode cX6_eventOf 0 = .ok (.aload_n 0, 1) := by decide +kernel
theorem dX6_eventOf_1 : decode cX6_eventOf 1 = .ok (.getfield 38, 3) := by decide +kernel
theorem dX6_eventOf_4 : decode cX6_eventOf 4 = .ok (.iload_n 1, 1) := by decide +kernel
theorem dX6_eventOf_5 : decode cX6_eventOf 5 = .ok (.invokevirtual 335, 3) := by decide +kernel
theorem dX6_eventOf_8 : decode cX6_eventOf 8 = .ok (.ifCond .ne 14, 3) := by decide +kernel
theorem dX6_eventOf_11 : decode cX6_eventOf 11 = .ok (.new 136, 3) := by decide +kernel
theorem dX6_eventOf_14 : decode cX6_eventOf 14 = .ok (.dup, 1) := by decide +kernel
theorem dX6_eventOf_15 : decode cX6_eventOf 15 = .ok (.ldc_w 338, 3) := by decide +kernel
theorem dX6_eventOf_18 : decode cX6_eventOf 18 = .ok (.invokespecial 140, 3) := by decide +kernel
theorem dX6_eventOf_21 : decode cX6_eventOf 21 = .ok (.athrow, 1) := by decide +kernel
theorem dX6_eventOf_22 : decode cX6_eventOf 22 = .ok (.aload_n 0, 1) := by decide +kernel
theorem dX6_eventOf_23 : decode cX6_eventOf 23 = .ok (.getfield 38, 3) := by decide +kernel
theorem dX6_eventOf_26 : decode cX6_eventOf 26 = .ok (.iload_n 1, 1) := by decide +kernel
theorem dX6_eventOf_27 : decode cX6_eventOf 27 = .ok (.invokevirtual 343, 3) := by decide +kernel
theorem dX6_eventOf_30 : decode cX6_eventOf 30 = .ok (.ireturn, 1) := by decide +kernel
theorem dX6_isWithin_0 : decode cX6_isWithin 0 = .ok (.iload_n 0, 1) := by decide +kernel
theorem dX6_isWithin_1 : decode cX6_isWithin 1 = .ok (.iload_n 1, 1) := by decide +kernel
theorem dX6_isWithin_2 : decode cX6_isWithin 2 = .ok (.if_icmp .lt 12, 3) := by decide +kernel
theorem dX6_isWithin_5 : decode cX6_isWithin 5 = .ok (.iload_n 0, 1) := by decide +kernel
theorem dX6_isWithin_6 : decode cX6_isWithin 6 = .ok (.iload_n 2, 1) := by decide +kernel
theorem dX6_isWithin_7 : decode cX6_isWithin 7 = .ok (.if_icmp .gt 7, 3) := by decide +kernel
theorem dX6_isWithin_10 : decode cX6_isWithin 10 = .ok (.iconst 1, 1) := by decide +kernel
theorem dX6_isWithin_11 : decode cX6_isWithin 11 = .ok (.goto 4, 3) := by decide +kernel
theorem dX6_isWithin_14 : decode cX6_isWithin 14 = .ok (.iconst 0, 1) := by decide +kernel
theorem dX6_isWithin_15 : decode cX6_isWithin 15 = .ok (.ireturn, 1) := by decide +kernel
theorem dX6_isSize_0 : decode cX6_isSize 0 = .ok (.iload_n 0, 1) := by decide +kernel
theorem dX6_isSize_1 : decode cX6_isSize 1 = .ok (.ifCond .eq 24, 3) := by decide +kernel
theorem dX6_isSize_4 : decode cX6_isSize 4 = .ok (.iload_n 0, 1) := by decide +kernel
theorem dX6_isSize_5 : decode cX6_isSize 5 = .ok (.iconst 1, 1) := by decide +kernel
theorem dX6_isSize_6 : decode cX6_isSize 6 = .ok (.if_icmp .eq 19, 3) := by decide +kernel
theorem dX6_isSize_9 : decode cX6_isSize 9 = .ok (.iload_n 0, 1) := by decide +kernel
theorem dX6_isSize_10 : decode cX6_isSize 10 = .ok (.iconst 2, 1) := by decide +kernel
theorem dX6_isSize_11 : decode cX6_isSize 11 = .ok (.if_icmp .eq 14, 3) := by decide +kernel
theorem dX6_isSize_14 : decode cX6_isSize 14 = .ok (.iload_n 0, 1) := by decide +kernel
theorem dX6_isSize_15 : decode cX6_isSize 15 = .ok (.iconst 4, 1) := by decide +kernel
theorem dX6_isSize_16 : decode cX6_isSize 16 = .ok (.if_icmp .eq 9, 3) := by decide +kernel
theorem dX6_isSize_19 : decode cX6_isSize 19 = .ok (.iload_n 0, 1) := by decide +kernel
theorem dX6_isSize_20 : decode cX6_isSize 20 = .ok (.bipush 8, 2) := by decide +kernel
theorem dX6_isSize_22 : decode cX6_isSize 22 = .ok (.if_icmp .ne 7, 3) := by decide +kernel
theorem dX6_isSize_25 : decode cX6_isSize 25 = .ok (.iconst 1, 1) := by decide +kernel
theorem dX6_isSize_26 : decode cX6_isSize 26 = .ok (.goto 4, 3) := by decide +kernel
theorem dX6_isSize_29 : decode cX6_isSize 29 = .ok (.iconst 0, 1) := by decide +kernel
theorem dX6_isSize_30 : decode cX6_isSize 30 = .ok (.ireturn, 1) := by decide +kernel
theorem dX6_checkLine_0 : decode cX6_checkLine 0 = .ok (.iload_n 0, 1) := by decide +kernel
theorem dX6_checkLine_1 : decode cX6_checkLine 1 = .ok (.ifCond .lt 9, 3) := by decide +kernel
theorem dX6_checkLine_4 : decode cX6_checkLine 4 = .ok (.iload_n 0, 1) := by decide +kernel
theorem dX6_checkLine_5 : decode cX6_checkLine 5 = .ok (.bipush 8, 2) := by decide +kernel
theorem dX6_checkLine_7 : decode cX6_checkLine 7 = .ok (.if_icmp .lt 14, 3) := by decide +kernel
theorem dX6_checkLine_10 : decode cX6_checkLine 10 = .ok (.new 136, 3) := by decide +kernel
theorem dX6_checkLine_13 : decode cX6_checkLine 13 = .ok (.dup, 1) := by decide +kernel
theorem dX6_checkLine_14 : decode cX6_checkLine 14 = .ok (.ldc_w 346, 3) := by decide +kernel
theorem dX6_checkLine_17 : decode cX6_checkLine 17 = .ok (.invokespecial 140, 3) := by decide +kernel
theorem dX6_checkLine_20 : decode cX6_checkLine 20 = .ok (.athrow, 1) := by decide +kernel
theorem dX6_checkLine_21 : decode cX6_checkLine 21 = .ok (.return_, 1) := by decide +kernel
theorem dX6_known_0 : decode cX6_known 0 = .ok (.iload_n 1, 1) := by decide +kernel
theorem dX6_known_1 : decode cX6_known 1 = .ok (.ifCond .lt 14, 3) := by decide +kernel
theorem dX6_known_4 : decode cX6_known 4 = .ok (.iload_n 1, 1) := by decide +kernel
theorem dX6_known_5 : decode cX6_known 5 = .ok (.aload_n 0, 1) := by decide +kernel
theorem dX6_known_6 : decode cX6_known 6 = .ok (.getfield 10, 3) := by decide +kernel
theorem dX6_known_9 : decode cX6_known 9 = .ok (.invokevirtual 70, 3) := by decide +kernel
theorem dX6_known_12 : decode cX6_known 12 = .ok (.if_icmp .lt 14, 3) := by decide +kernel
theorem dX6_known_15 : decode cX6_known 15 = .ok (.new 136, 3) := by decide +kernel
theorem dX6_known_18 : decode cX6_known 18 = .ok (.dup, 1) := by decide +kernel
theorem dX6_known_19 : decode cX6_known 19 = .ok (.ldc_w 348, 3) := by decide +kernel
theorem dX6_known_22 : decode cX6_known 22 = .ok (.invokespecial 140, 3) := by decide +kernel
theorem dX6_known_25 : decode cX6_known 25 = .ok (.athrow, 1) := by decide +kernel
theorem dX6_known_26 : decode cX6_known 26 = .ok (.aload_n 0, 1) := by decide +kernel
theorem dX6_known_27 : decode cX6_known 27 = .ok (.getfield 10, 3) := by decide +kernel
theorem dX6_known_30 : decode cX6_known 30 = .ok (.iload_n 1, 1) := by decide +kernel
theorem dX6_known_31 : decode cX6_known 31 = .ok (.invokevirtual 110, 3) := by decide +kernel
theorem dX6_known_34 : decode cX6_known 34 = .ok (.checkcast 79, 3) := by decide +kernel
theorem dX6_known_37 : decode cX6_known 37 = .ok (.areturn, 1) := by decide +kernel
theorem dX6_presentOrNone_0 : decode cX6_presentOrNone 0 = .ok (.iload_n 1, 1) := by decide +kernel
theorem dX6_presentOrNone_1 : decode cX6_presentOrNone 1 = .ok (.iconst (-1), 1) := by decide +kernel
theorem dX6_presentOrNone_2 : decode cX6_presentOrNone 2 = .ok (.if_icmp .ne 5, 3) := by decide +kernel
theorem dX6_presentOrNone_5 : decode cX6_presentOrNone 5 = .ok (.aconst_null, 1) := by decide +kernel
theorem dX6_presentOrNone_6 : decode cX6_presentOrNone 6 = .ok (.areturn, 1) := by decide +kernel
theorem dX6_presentOrNone_7 : decode cX6_presentOrNone 7 = .ok (.aload_n 0, 1) := by decide +kernel
theorem dX6_presentOrNone_8 : decode cX6_presentOrNone 8 = .ok (.iload_n 1, 1) := by decide +kernel
theorem dX6_presentOrNone_9 : decode cX6_presentOrNone 9 = .ok (.invokevirtual 101, 3) := by decide +kernel
theorem dX6_presentOrNone_12 : decode cX6_presentOrNone 12 = .ok (.astore_n 2, 1) := by decide +kernel
theorem dX6_presentOrNone_13 : decode cX6_presentOrNone 13 = .ok (.aload_n 2, 1) := by decide +kernel
theorem dX6_presentOrNone_14 : decode cX6_presentOrNone 14 = .ok (.getfield 104, 3) := by decide +kernel
theorem dX6_presentOrNone_17 : decode cX6_presentOrNone 17 = .ok (.ifCond .ne 13, 3) := by decide +kernel
theorem dX6_presentOrNone_20 : decode cX6_presentOrNone 20 = .ok (.new 136, 3) := by decide +kernel
theorem dX6_presentOrNone_23 : decode cX6_presentOrNone 23 = .ok (.dup, 1) := by decide +kernel
theorem dX6_presentOrNone_24 : decode cX6_presentOrNone 24 = .ok (.ldc 108, 2) := by decide +kernel
theorem dX6_presentOrNone_26 : decode cX6_presentOrNone 26 = .ok (.invokespecial 140, 3) := by decide +kernel
theorem dX6_presentOrNone_29 : decode cX6_presentOrNone 29 = .ok (.athrow, 1) := by decide +kernel
theorem dX6_presentOrNone_30 : decode cX6_presentOrNone 30 = .ok (.aload_n 2, 1) := by decide +kernel
theorem dX6_presentOrNone_31 : decode cX6_presentOrNone 31 = .ok (.areturn, 1) := by decide +kernel
theorem dX6_knownHandle_0 : decode cX6_knownHandle 0 = .ok (.iload_n 1, 1) := by decide +kernel
theorem dX6_knownHandle_1 : decode cX6_knownHandle 1 = .ok (.ifCond .lt 14, 3) := by decide +kernel
theorem dX6_knownHandle_4 : decode cX6_knownHandle 4 = .ok (.iload_n 1, 1) := by decide +kernel
theorem dX6_knownHandle_5 : decode cX6_knownHandle 5 = .ok (.aload_n 0, 1) := by decide +kernel
theorem dX6_knownHandle_6 : decode cX6_knownHandle 6 = .ok (.getfield 22, 3) := by decide +kernel
theorem dX6_knownHandle_9 : decode cX6_knownHandle 9 = .ok (.invokevirtual 70, 3) := by decide +kernel
theorem dX6_knownHandle_12 : decode cX6_knownHandle 12 = .ok (.if_icmp .lt 14, 3) := by decide +kernel
theorem dX6_knownHandle_15 : decode cX6_knownHandle 15 = .ok (.new 136, 3) := by decide +kernel
theorem dX6_knownHandle_18 : decode cX6_knownHandle 18 = .ok (.dup, 1) := by decide +kernel
theorem dX6_knownHandle_19 : decode cX6_knownHandle 19 = .ok (.ldc_w 350, 3) := by decide +kernel
theorem dX6_knownHandle_22 : decode cX6_knownHandle 22 = .ok (.invokespecial 140, 3) := by decide +kernel
theorem dX6_knownHandle_25 : decode cX6_knownHandle 25 = .ok (.athrow, 1) := by decide +kernel
theorem dX6_knownHandle_26 : decode cX6_knownHandle 26 = .ok (.aload_n 0, 1) := by decide +kernel
theorem dX6_knownHandle_27 : decode cX6_knownHandle 27 = .ok (.getfield 22, 3) := by decide +kernel
theorem dX6_knownHandle_30 : decode cX6_knownHandle 30 = .ok (.iload_n 1, 1) := by decide +kernel
theorem dX6_knownHandle_31 : decode cX6_knownHandle 31 = .ok (.invokevirtual 110, 3) := by decide +kernel
theorem dX6_knownHandle_34 : decode cX6_knownHandle 34 = .ok (.checkcast 180, 3) := by decide +kernel
theorem dX6_knownHandle_37 : decode cX6_knownHandle 37 = .ok (.areturn, 1) := by decide +kernel
theorem dX6_knownSlot_0 : decode cX6_knownSlot 0 = .ok (.iload_n 1, 1) := by decide +kernel
theorem dX6_knownSlot_1 : decode cX6_knownSlot 1 = .ok (.ifCond .lt 14, 3) := by decide +kernel
theorem dX6_knownSlot_4 : decode cX6_knownSlot 4 = .ok (.iload_n 1, 1) := by decide +kernel
theorem dX6_knownSlot_5 : decode cX6_knownSlot 5 = .ok (.aload_n 0, 1) := by decide +kernel
theorem dX6_knownSlot_6 : decode cX6_knownSlot 6 = .ok (.getfield 28, 3) := by decide +kernel
theorem dX6_knownSlot_9 : decode cX6_knownSlot 9 = .ok (.invokevirtual 70, 3) := by decide +kernel
theorem dX6_knownSlot_12 : decode cX6_knownSlot 12 = .ok (.if_icmp .lt 14, 3) := by decide +kernel
theorem dX6_knownSlot_15 : decode cX6_knownSlot 15 = .ok (.new 136, 3) := by decide +kernel
theorem dX6_knownSlot_18 : decode cX6_knownSlot 18 = .ok (.dup, 1) := by decide +kernel
theorem dX6_knownSlot_19 : decode cX6_knownSlot 19 = .ok (.ldc_w 352, 3) := by decide +kernel
theorem dX6_knownSlot_22 : decode cX6_knownSlot 22 = .ok (.invokespecial 140, 3) := by decide +kernel
theorem dX6_knownSlot_25 : decode cX6_knownSlot 25 = .ok (.athrow, 1) := by decide +kernel
theorem dX6_knownSlot_26 : decode cX6_knownSlot 26 = .ok (.aload_n 0, 1) := by decide +kernel
theorem dX6_knownSlot_27 : decode cX6_knownSlot 27 = .ok (.getfield 28, 3) := by decide +kernel
theorem dX6_knownSlot_30 : decode cX6_knownSlot 30 = .ok (.iload_n 1, 1) := by decide +kernel
theorem dX6_knownSlot_31 : decode cX6_knownSlot 31 = .ok (.invokevirtual 110, 3) := by decide +kernel
theorem dX6_knownSlot_34 : decode cX6_knownSlot 34 = .ok (.checkcast 42, 3) := by decide +kernel
theorem dX6_knownSlot_37 : decode cX6_knownSlot 37 = .ok (.areturn, 1) := by decide +kernel
theorem dX6_canUse_0 : decode cX6_canUse 0 = .ok (.aload_n 1, 1) := by decide +kernel
theorem dX6_canUse_1 : decode cX6_canUse 1 = .ok (.invokevirtual 246, 3) := by decide +kernel
theorem dX6_canUse_4 : decode cX6_canUse 4 = .ok (.ifCond .eq 14, 3) := by decide +kernel
theorem dX6_canUse_7 : decode cX6_canUse 7 = .ok (.aload_n 0, 1) := by decide +kernel
theorem dX6_canUse_8 : decode cX6_canUse 8 = .ok (.getfield 160, 3) := by decide +kernel
theorem dX6_canUse_11 : decode cX6_canUse 11 = .ok (.ifCond .ne 7, 3) := by decide +kernel
theorem dX6_canUse_14 : decode cX6_canUse 14 = .ok (.iconst 1, 1) := by decide +kernel
theorem dX6_canUse_15 : decode cX6_canUse 15 = .ok (.goto 4, 3) := by decide +kernel
theorem dX6_canUse_18 : decode cX6_canUse 18 = .ok (.iconst 0, 1) := by decide +kernel
theorem dX6_canUse_19 : decode cX6_canUse 19 = .ok (.ireturn, 1) := by decide +kernel
theorem dX6_bindWhatCanBe_0 : decode cX6_bindWhatCanBe 0 = .ok (.iconst 0, 1) := by decide +kernel
theorem dX6_bindWhatCanBe_1 : decode cX6_bindWhatCanBe 1 = .ok (.istore_n 1, 1) := by decide +kernel
theorem dX6_bindWhatCanBe_2 : decode cX6_bindWhatCanBe 2 = .ok (.iload_n 1, 1) := by decide +kernel
theorem dX6_bindWhatCanBe_3 : decode cX6_bindWhatCanBe 3 = .ok (.bipush 24, 2) := by decide +kernel
theorem dX6_bindWhatCanBe_5 : decode cX6_bindWhatCanBe 5 = .ok (.if_icmp .ge 31, 3) := by decide +kernel
theorem dX6_bindWhatCanBe_8 : decode cX6_bindWhatCanBe 8 = .ok (.aload_n 0, 1) := by decide +kernel
theorem dX6_bindWhatCanBe_9 : decode cX6_bindWhatCanBe 9 = .ok (.getfield 160, 3) := by decide +kernel
theorem dX6_bindWhatCanBe_12 : decode cX6_bindWhatCanBe 12 = .ok (.ifCond .ne 24, 3) := by decide +kernel
theorem dX6_bindWhatCanBe_15 : decode cX6_bindWhatCanBe 15 = .ok (.aload_n 0, 1) := by decide +kernel
theorem dX6_bindWhatCanBe_16 : decode cX6_bindWhatCanBe 16 = .ok (.invokevirtual 354, 3) := by decide +kernel
theorem dX6_bindWhatCanBe_19 : decode cX6_bindWhatCanBe 19 = .ok (.astore_n 2, 1) := by decide +kernel
theorem dX6_bindWhatCanBe_20 : decode cX6_bindWhatCanBe 20 = .ok (.aload_n 2, 1) := by decide +kernel
theorem dX6_bindWhatCanBe_21 : decode cX6_bindWhatCanBe 21 = .ok (.ifnonnull 4, 3) := by decide +kernel
theorem dX6_bindWhatCanBe_24 : decode cX6_bindWhatCanBe 24 = .ok (.return_, 1) := by decide +kernel
theorem dX6_bindWhatCanBe_25 : decode cX6_bindWhatCanBe 25 = .ok (.aload_n 0, 1) := by decide +kernel
theorem dX6_bindWhatCanBe_26 : decode cX6_bindWhatCanBe 26 = .ok (.aload_n 2, 1) := by decide +kernel
theorem dX6_bindWhatCanBe_27 : decode cX6_bindWhatCanBe 27 = .ok (.invokevirtual 358, 3) := by decide +kernel
theorem dX6_bindWhatCanBe_30 : decode cX6_bindWhatCanBe 30 = .ok (.iinc 1 1, 3) := by decide +kernel
theorem dX6_bindWhatCanBe_33 : decode cX6_bindWhatCanBe 33 = .ok (.goto (-31), 3) := by decide +kernel
theorem dX6_bindWhatCanBe_36 : decode cX6_bindWhatCanBe 36 = .ok (.return_, 1) := by decide +kernel
theorem dX6_lowestNotRefused_0 : decode cX6_lowestNotRefused 0 = .ok (.iconst 0, 1) := by decide +kernel
theorem dX6_lowestNotRefused_1 : decode cX6_lowestNotRefused 1 = .ok (.istore_n 1, 1) := by decide +kernel
theorem dX6_lowestNotRefused_2 : decode cX6_lowestNotRefused 2 = .ok (.iload_n 1, 1) := by decide +kernel
theorem dX6_lowestNotRefused_3 : decode cX6_lowestNotRefused 3 = .ok (.aload_n 0, 1) := by decide +kernel
theorem dX6_lowestNotRefused_4 : decode cX6_lowestNotRefused 4 = .ok (.getfield 10, 3) := by decide +kernel
theorem dX6_lowestNotRefused_7 : decode cX6_lowestNotRefused 7 = .ok (.invokevirtual 70, 3) := by decide +kernel
theorem dX6_lowestNotRefused_10 : decode cX6_lowestNotRefused 10 = .ok (.if_icmp .ge 45, 3) := by decide +kernel
theorem dX6_lowestNotRefused_13 : decode cX6_lowestNotRefused 13 = .ok (.aload_n 0, 1) := by decide +kernel
theorem dX6_lowestNotRefused_14 : decode cX6_lowestNotRefused 14 = .ok (.getfield 10, 3) := by decide +kernel
theorem dX6_lowestNotRefused_17 : decode cX6_lowestNotRefused 17 = .ok (.iload_n 1, 1) := by decide +kernel
theorem dX6_lowestNotRefused_18 : decode cX6_lowestNotRefused 18 = .ok (.invokevirtual 110, 3) := by decide +kernel
theorem dX6_lowestNotRefused_21 : decode cX6_lowestNotRefused 21 = .ok (.checkcast 79, 3) := by decide +kernel
theorem dX6_lowestNotRefused_24 : decode cX6_lowestNotRefused 24 = .ok (.astore_n 2, 1) := by decide +kernel
theorem dX6_lowestNotRefused_25 : decode cX6_lowestNotRefused 25 = .ok (.aload_n 2, 1) := by decide +kernel
theorem dX6_lowestNotRefused_26 : decode cX6_lowestNotRefused 26 = .ok (.getfield 104, 3) := by decide +kernel
theorem dX6_lowestNotRefused_29 : decode cX6_lowestNotRefused 29 = .ok (.ifCond .eq 20, 3) := by decide +kernel
theorem dX6_lowestNotRefused_32 : decode cX6_lowestNotRefused 32 = .ok (.aload_n 2, 1) := by decide +kernel
theorem dX6_lowestNotRefused_33 : decode cX6_lowestNotRefused 33 = .ok (.invokevirtual 146, 3) := by decide +kernel
theorem dX6_lowestNotRefused_36 : decode cX6_lowestNotRefused 36 = .ok (.ifCond .ne 13, 3) := by decide +kernel
theorem dX6_lowestNotRefused_39 : decode cX6_lowestNotRefused 39 = .ok (.aload_n 0, 1) := by decide +kernel
theorem dX6_lowestNotRefused_40 : decode cX6_lowestNotRefused 40 = .ok (.aload_n 2, 1) := by decide +kernel
theorem dX6_lowestNotRefused_41 : decode cX6_lowestNotRefused 41 = .ok (.invokevirtual 157, 3) := by decide +kernel
theorem dX6_lowestNotRefused_44 : decode cX6_lowestNotRefused 44 = .ok (.ifCond .ne 5, 3) := by decide +kernel
theorem dX6_lowestNotRefused_47 : decode cX6_lowestNotRefused 47 = .ok (.aload_n 2, 1) := by decide +kernel
theorem dX6_lowestNotRefused_48 : decode cX6_lowestNotRefused 48 = .ok (.areturn, 1) := by decide +kernel
theorem dX6_lowestNotRefused_49 : decode cX6_lowestNotRefused 49 = .ok (.iinc 1 1, 3) := by decide +kernel
theorem dX6_lowestNotRefused_52 : decode cX6_lowestNotRefused 52 = .ok (.goto (-50), 3) := by decide +kernel
theorem dX6_lowestNotRefused_55 : decode cX6_lowestNotRefused 55 = .ok (.aconst_null, 1) := by decide +kernel
theorem dX6_lowestNotRefused_56 : decode cX6_lowestNotRefused 56 = .ok (.areturn, 1) := by decide +kernel
theorem dX6_refusalOf_0 : decode cX6_refusalOf 0 = .ok (.aload_n 0, 1) := by decide +kernel
theorem dX6_refusalOf_1 : decode cX6_refusalOf 1 = .ok (.aload_n 1, 1) := by decide +kernel
theorem dX6_refusalOf_2 : decode cX6_refusalOf 2 = .ok (.getfield 306, 3) := by decide +kernel
theorem dX6_refusalOf_5 : decode cX6_refusalOf 5 = .ok (.invokevirtual 309, 3) := by decide +kernel
theorem dX6_refusalOf_8 : decode cX6_refusalOf 8 = .ok (.astore_n 2, 1) := by decide +kernel
theorem dX6_refusalOf_9 : decode cX6_refusalOf 9 = .ok (.aload_n 2, 1) := by decide +kernel
theorem dX6_refusalOf_10 : decode cX6_refusalOf 10 = .ok (.ifnonnull 5, 3) := by decide +kernel
theorem dX6_refusalOf_13 : decode cX6_refusalOf 13 = .ok (.iconst 1, 1) := by decide +kernel
theorem dX6_refusalOf_14 : decode cX6_refusalOf 14 = .ok (.ireturn, 1) := by decide +kernel
theorem dX6_refusalOf_15 : decode cX6_refusalOf 15 = .ok (.aload_n 1, 1) := by decide +kernel
theorem dX6_refusalOf_16 : decode cX6_refusalOf 16 = .ok (.getfield 84, 3) := by decide +kernel
theorem dX6_refusalOf_19 : decode cX6_refusalOf 19 = .ok (.invokestatic 361, 3) := by decide +kernel
theorem dX6_refusalOf_22 : decode cX6_refusalOf 22 = .ok (.ifCond .eq 5, 3) := by decide +kernel
theorem dX6_refusalOf_25 : decode cX6_refusalOf 25 = .ok (.iconst 2, 1) := by decide +kernel
theorem dX6_refusalOf_26 : decode cX6_refusalOf 26 = .ok (.ireturn, 1) := by decide +kernel
theorem dX6_refusalOf_27 : decode cX6_refusalOf 27 = .ok (.aload_n 1, 1) := by decide +kernel
theorem dX6_refusalOf_28 : decode cX6_refusalOf 28 = .ok (.getfield 88, 3) := by decide +kernel
theorem dX6_refusalOf_31 : decode cX6_refusalOf 31 = .ok (.invokestatic 361, 3) := by decide +kernel
theorem dX6_refusalOf_34 : decode cX6_refusalOf 34 = .ok (.ifCond .ne 13, 3) := by decide +kernel
theorem dX6_refusalOf_37 : decode cX6_refusalOf 37 = .ok (.aload_n 1, 1) := by decide +kernel
theorem dX6_refusalOf_38 : decode cX6_refusalOf 38 = .ok (.getfield 91, 3) := by decide +kernel
theorem dX6_refusalOf_41 : decode cX6_refusalOf 41 = .ok (.invokestatic 361, 3) := by decide +kernel
theorem dX6_refusalOf_44 : decode cX6_refusalOf 44 = .ok (.ifCond .eq 5, 3) := by decide +kernel
theorem dX6_refusalOf_47 : decode cX6_refusalOf 47 = .ok (.iconst 3, 1) := by decide +kernel
theorem dX6_refusalOf_48 : decode cX6_refusalOf 48 = .ok (.ireturn, 1) := by decide +kernel
theorem dX6_refusalOf_49 : decode cX6_refusalOf 49 = .ok (.aload_n 2, 1) := by decide +kernel
theorem dX6_refusalOf_50 : decode cX6_refusalOf 50 = .ok (.getfield 143, 3) := by decide +kernel
theorem dX6_refusalOf_53 : decode cX6_refusalOf 53 = .ok (.aload_n 2, 1) := by decide +kernel
theorem dX6_refusalOf_54 : decode cX6_refusalOf 54 = .ok (.getfield 364, 3) := by decide +kernel
theorem dX6_refusalOf_57 : decode cX6_refusalOf 57 = .ok (.if_icmp .ge 5, 3) := by decide +kernel
theorem dX6_refusalOf_60 : decode cX6_refusalOf 60 = .ok (.iconst 4, 1) := by decide +kernel
theorem dX6_refusalOf_61 : decode cX6_refusalOf 61 = .ok (.ireturn, 1) := by decide +kernel
theorem dX6_refusalOf_62 : decode cX6_refusalOf 62 = .ok (.aload_n 1, 1) := by decide +kernel
theorem dX6_refusalOf_63 : decode cX6_refusalOf 63 = .ok (.getfield 367, 3) := by decide +kernel
theorem dX6_refusalOf_66 : decode cX6_refusalOf 66 = .ok (.ifCond .le 14, 3) := by decide +kernel
theorem dX6_refusalOf_69 : decode cX6_refusalOf 69 = .ok (.aload_n 0, 1) := by decide +kernel
theorem dX6_refusalOf_70 : decode cX6_refusalOf 70 = .ok (.aload_n 1, 1) := by decide +kernel
theorem dX6_refusalOf_71 : decode cX6_refusalOf 71 = .ok (.invokevirtual 369, 3) := by decide +kernel
theorem dX6_refusalOf_74 : decode cX6_refusalOf 74 = .ok (.iconst (-1), 1) := by decide +kernel
theorem dX6_refusalOf_75 : decode cX6_refusalOf 75 = .ok (.if_icmp .ne 5, 3) := by decide +kernel
theorem dX6_refusalOf_78 : decode cX6_refusalOf 78 = .ok (.iconst 5, 1) := by decide +kernel
theorem dX6_refusalOf_79 : decode cX6_refusalOf 79 = .ok (.ireturn, 1) := by decide +kernel
theorem dX6_refusalOf_80 : decode cX6_refusalOf 80 = .ok (.aload_n 1, 1) := by decide +kernel
theorem dX6_refusalOf_81 : decode cX6_refusalOf 81 = .ok (.getfield 289, 3) := by decide +kernel
theorem dX6_refusalOf_84 : decode cX6_refusalOf 84 = .ok (.iconst (-1), 1) := by decide +kernel
theorem dX6_refusalOf_85 : decode cX6_refusalOf 85 = .ok (.if_icmp .eq 14, 3) := by decide +kernel
theorem dX6_refusalOf_88 : decode cX6_refusalOf 88 = .ok (.aload_n 0, 1) := by decide +kernel
theorem dX6_refusalOf_89 : decode cX6_refusalOf 89 = .ok (.aload_n 1, 1) := by decide +kernel
theorem dX6_refusalOf_90 : decode cX6_refusalOf 90 = .ok (.invokevirtual 372, 3) := by decide +kernel
theorem dX6_refusalOf_93 : decode cX6_refusalOf 93 = .ok (.ifCond .ne 6, 3) := by decide +kernel
theorem dX6_refusalOf_96 : decode cX6_refusalOf 96 = .ok (.bipush 6, 2) := by decide +kernel
theorem dX6_refusalOf_98 : decode cX6_refusalOf 98 = .ok (.ireturn, 1) := by decide +kernel
theorem dX6_refusalOf_99 : decode cX6_refusalOf 99 = .ok (.aload_n 1, 1) := by decide +kernel
theorem dX6_refusalOf_100 : decode cX6_refusalOf 100 = .ok (.getfield 152, 3) := by decide +kernel
theorem dX6_refusalOf_103 : decode cX6_refusalOf 103 = .ok (.ifCond .eq 8, 3) := by decide +kernel
theorem dX6_refusalOf_106 : decode cX6_refusalOf 106 = .ok (.bipush 7, 2) := by decide +kernel
theorem dX6_refusalOf_108 : decode cX6_refusalOf 108 = .ok (.goto 4, 3) := by decide +kernel
theorem dX6_refusalOf_111 : decode cX6_refusalOf 111 = .ok (.iconst 0, 1) := by decide +kernel
theorem dX6_refusalOf_112 : decode cX6_refusalOf 112 = .ok (.ireturn, 1) := by decide +kernel
theorem dX6_isLacking_0 : decode cX6_isLacking 0 = .ok (.aload_n 0, 1) := by decide +kernel
theorem dX6_isLacking_1 : decode cX6_isLacking 1 = .ok (.ifnull 14, 3) := by decide +kernel
theorem dX6_isLacking_4 : decode cX6_isLacking 4 = .ok (.aload_n 0, 1) := by decide +kernel
theorem dX6_isLacking_5 : decode cX6_isLacking 5 = .ok (.invokevirtual 146, 3) := by decide +kernel
theorem dX6_isLacking_8 : decode cX6_isLacking 8 = .ok (.ifCond .ne 7, 3) := by decide +kernel
theorem dX6_isLacking_11 : decode cX6_isLacking 11 = .ok (.iconst 1, 1) := by decide +kernel
theorem dX6_isLacking_12 : decode cX6_isLacking 12 = .ok (.goto 4, 3) := by decide +kernel
theorem dX6_isLacking_15 : decode cX6_isLacking 15 = .ok (.iconst 0, 1) := by decide +kernel
theorem dX6_isLacking_16 : decode cX6_isLacking 16 = .ok (.ireturn, 1) := by decide +kernel
theorem dX6_bestDriver_0 : decode cX6_bestDriver 0 = .ok (.aconst_null, 1) := by decide +kernel
theorem dX6_bestDriver_1 : decode cX6_bestDriver 1 = .ok (.astore_n 2, 1) := by decide +kernel
theorem dX6_bestDriver_2 : decode cX6_bestDriver 2 = .ok (.iconst 0, 1) := by decide +kernel
theorem dX6_bestDriver_3 : decode cX6_bestDriver 3 = .ok (.istore_n 3, 1) := by decide +kernel
theorem dX6_bestDriver_4 : decode cX6_bestDriver 4 = .ok (.iload_n 3, 1) := by decide +kernel
theorem dX6_bestDriver_5 : decode cX6_bestDriver 5 = .ok (.aload_n 0, 1) := by decide +kernel
theorem dX6_bestDriver_6 : decode cX6_bestDriver 6 = .ok (.getfield 19, 3) := by decide +kernel
theorem dX6_bestDriver_9 : decode cX6_bestDriver 9 = .ok (.invokevirtual 70, 3) := by decide +kernel
theorem dX6_bestDriver_12 : decode cX6_bestDriver 12 = .ok (.if_icmp .ge 50, 3) := by decide +kernel
theorem dX6_bestDriver_15 : decode cX6_bestDriver 15 = .ok (.aload_n 0, 1) := by decide +kernel
theorem dX6_bestDriver_16 : decode cX6_bestDriver 16 = .ok (.getfield 19, 3) := by decide +kernel
theorem dX6_bestDriver_19 : decode cX6_bestDriver 19 = .ok (.iload_n 3, 1) := by decide +kernel
theorem dX6_bestDriver_20 : decode cX6_bestDriver 20 = .ok (.invokevirtual 110, 3) := by decide +kernel
theorem dX6_bestDriver_23 : decode cX6_bestDriver 23 = .ok (.checkcast 132, 3) := by decide +kernel
theorem dX6_bestDriver_26 : decode cX6_bestDriver 26 = .ok (.astore 4, 2) := by decide +kernel
theorem dX6_bestDriver_28 : decode cX6_bestDriver 28 = .ok (.aload 4, 2) := by decide +kernel
theorem dX6_bestDriver_30 : decode cX6_bestDriver 30 = .ok (.iload_n 1, 1) := by decide +kernel
theorem dX6_bestDriver_31 : decode cX6_bestDriver 31 = .ok (.invokevirtual 375, 3) := by decide +kernel
theorem dX6_bestDriver_34 : decode cX6_bestDriver 34 = .ok (.ifCond .eq 22, 3) := by decide +kernel
theorem dX6_bestDriver_37 : decode cX6_bestDriver 37 = .ok (.aload_n 2, 1) := by decide +kernel
theorem dX6_bestDriver_38 : decode cX6_bestDriver 38 = .ok (.ifnull 15, 3) := by decide +kernel
theorem dX6_bestDriver_41 : decode cX6_bestDriver 41 = .ok (.aload 4, 2) := by decide +kernel
theorem dX6_bestDriver_43 : decode cX6_bestDriver 43 = .ok (.getfield 378, 3) := by decide +kernel
theorem dX6_bestDriver_46 : decode cX6_bestDriver 46 = .ok (.aload_n 2, 1) := by decide +kernel
theorem dX6_bestDriver_47 : decode cX6_bestDriver 47 = .ok (.getfield 378, 3) := by decide +kernel
theorem dX6_bestDriver_50 : decode cX6_bestDriver 50 = .ok (.if_icmp .le 6, 3) := by decide +kernel
theorem dX6_bestDriver_53 : decode cX6_bestDriver 53 = .ok (.aload 4, 2) := by decide +kernel
theorem dX6_bestDriver_55 : decode cX6_bestDriver 55 = .ok (.astore_n 2, 1) := by decide +kernel
theorem dX6_bestDriver_56 : decode cX6_bestDriver 56 = .ok (.iinc 3 1, 3) := by decide +kernel
theorem dX6_bestDriver_59 : decode cX6_bestDriver 59 = .ok (.goto (-55), 3) := by decide +kernel
theorem dX6_bestDriver_62 : decode cX6_bestDriver 62 = .ok (.aload_n 2, 1) := by decide +kernel
theorem dX6_bestDriver_63 : decode cX6_bestDriver 63 = .ok (.areturn, 1) := by decide +kernel
theorem dX6_freePlace_0 : decode cX6_freePlace 0 = .ok (.aload_n 1, 1) := by decide +kernel
theorem dX6_freePlace_1 : decode cX6_freePlace 1 = .ok (.invokevirtual 381, 3) := by decide +kernel
theorem dX6_freePlace_4 : decode cX6_freePlace 4 = .ok (.astore_n 2, 1) := by decide +kernel
theorem dX6_freePlace_5 : decode cX6_freePlace 5 = .ok (.aload_n 2, 1) := by decide +kernel
theorem dX6_freePlace_6 : decode cX6_freePlace 6 = .ok (.ifnonnull 7, 3) := by decide +kernel
theorem dX6_freePlace_9 : decode cX6_freePlace 9 = .ok (.iconst 0, 1) := by decide +kernel
theorem dX6_freePlace_10 : decode cX6_freePlace 10 = .ok (.goto 7, 3) := by decide +kernel
theorem dX6_freePlace_13 : decode cX6_freePlace 13 = .ok (.aload_n 2, 1) := by decide +kernel
theorem dX6_freePlace_14 : decode cX6_freePlace 14 = .ok (.getfield 313, 3) := by decide +kernel
theorem dX6_freePlace_17 : decode cX6_freePlace 17 = .ok (.istore_n 3, 1) := by decide +kernel
theorem dX6_freePlace_18 : decode cX6_freePlace 18 = .ok (.aload_n 2, 1) := by decide +kernel
theorem dX6_freePlace_19 : decode cX6_freePlace 19 = .ok (.ifnonnull 8, 3) := by decide +kernel
theorem dX6_freePlace_22 : decode cX6_freePlace 22 = .ok (.bipush 64, 2) := by decide +kernel
theorem dX6_freePlace_24 : decode cX6_freePlace 24 = .ok (.goto 12, 3) := by decide +kernel
theorem dX6_freePlace_27 : decode cX6_freePlace 27 = .ok (.aload_n 2, 1) := by decide +kernel
theorem dX6_freePlace_28 : decode cX6_freePlace 28 = .ok (.getfield 313, 3) := by decide +kernel
theorem dX6_freePlace_31 : decode cX6_freePlace 31 = .ok (.aload_n 2, 1) := by decide +kernel
theorem dX6_freePlace_32 : decode cX6_freePlace 32 = .ok (.getfield 367, 3) := by decide +kernel
theorem dX6_freePlace_35 : decode cX6_freePlace 35 = .ok (.iadd, 1) := by decide +kernel
theorem dX6_freePlace_36 : decode cX6_freePlace 36 = .ok (.istore 4, 2) := by decide +kernel
theorem dX6_freePlace_38 : decode cX6_freePlace 38 = .ok (.iload_n 3, 1) := by decide +kernel
theorem dX6_freePlace_39 : decode cX6_freePlace 39 = .ok (.istore 5, 2) := by decide +kernel
theorem dX6_freePlace_41 : decode cX6_freePlace 41 = .ok (.iload 5, 2) := by decide +kernel
theorem dX6_freePlace_43 : decode cX6_freePlace 43 = .ok (.aload_n 1, 1) := by decide +kernel
theorem dX6_freePlace_44 : decode cX6_freePlace 44 = .ok (.getfield 367, 3) := by decide +kernel
theorem dX6_freePlace_47 : decode cX6_freePlace 47 = .ok (.iadd, 1) := by decide +kernel
theorem dX6_freePlace_48 : decode cX6_freePlace 48 = .ok (.iload 4, 2) := by decide +kernel
theorem dX6_freePlace_50 : decode cX6_freePlace 50 = .ok (.if_icmp .gt 38, 3) := by decide +kernel
theorem dX6_freePlace_53 : decode cX6_freePlace 53 = .ok (.iload 5, 2) := by decide +kernel
theorem dX6_freePlace_55 : decode cX6_freePlace 55 = .ok (.aload_n 1, 1) := by decide +kernel
theorem dX6_freePlace_56 : decode cX6_freePlace 56 = .ok (.getfield 367, 3) := by decide +kernel
theorem dX6_freePlace_59 : decode cX6_freePlace 59 = .ok (.iconst 1, 1) := by decide +kernel
theorem dX6_freePlace_60 : decode cX6_freePlace 60 = .ok (.isub, 1) := by decide +kernel
theorem dX6_freePlace_61 : decode cX6_freePlace 61 = .ok (.iand, 1) := by decide +kernel
theorem dX6_freePlace_62 : decode cX6_freePlace 62 = .ok (.ifCond .ne 20, 3) := by decide +kernel
theorem dX6_freePlace_65 : decode cX6_freePlace 65 = .ok (.aload_n 0, 1) := by decide +kernel
theorem dX6_freePlace_66 : decode cX6_freePlace 66 = .ok (.iload 5, 2) := by decide +kernel
theorem dX6_freePlace_68 : decode cX6_freePlace 68 = .ok (.aload_n 1, 1) := by decide +kernel
theorem dX6_freePlace_69 : decode cX6_freePlace 69 = .ok (.getfield 367, 3) := by decide +kernel
theorem dX6_freePlace_72 : decode cX6_freePlace 72 = .ok (.aload_n 2, 1) := by decide +kernel
theorem dX6_freePlace_73 : decode cX6_freePlace 73 = .ok (.invokevirtual 384, 3) := by decide +kernel
theorem dX6_freePlace_76 : decode cX6_freePlace 76 = .ok (.ifCond .eq 6, 3) := by decide +kernel
theorem dX6_freePlace_79 : decode cX6_freePlace 79 = .ok (.iload 5, 2) := by decide +kernel
theorem dX6_freePlace_81 : decode cX6_freePlace 81 = .ok (.ireturn, 1) := by decide +kernel
theorem dX6_freePlace_82 : decode cX6_freePlace 82 = .ok (.iinc 5 1, 3) := by decide +kernel
theorem dX6_freePlace_85 : decode cX6_freePlace 85 = .ok (.goto (-44), 3) := by decide +kernel
theorem dX6_freePlace_88 : decode cX6_freePlace 88 = .ok (.iconst (-1), 1) := by decide +kernel
theorem dX6_freePlace_89 : decode cX6_freePlace 89 = .ok (.ireturn, 1) := by decide +kernel
theorem dX6_isRoomAt_0 : decode cX6_isRoomAt 0 = .ok (.iconst 0, 1) := by decide +kernel
theorem dX6_isRoomAt_1 : decode cX6_isRoomAt 1 = .ok (.istore 4, 2) := by decide +kernel
theorem dX6_isRoomAt_3 : decode cX6_isRoomAt 3 = .ok (.iload 4, 2) := by decide +kernel
theorem dX6_isRoomAt_5 : decode cX6_isRoomAt 5 = .ok (.aload_n 0, 1) := by decide +kernel
theorem dX6_isRoomAt_6 : decode cX6_isRoomAt 6 = .ok (.getfield 16, 3) := by decide +kernel
theorem dX6_isRoomAt_9 : decode cX6_isRoomAt 9 = .ok (.invokevirtual 70, 3) := by decide +kernel
theorem dX6_isRoomAt_12 : decode cX6_isRoomAt 12 = .ok (.if_icmp .ge 80, 3) := by decide +kernel
theorem dX6_isRoomAt_15 : decode cX6_isRoomAt 15 = .ok (.aload_n 0, 1) := by decide +kernel
theorem dX6_isRoomAt_16 : decode cX6_isRoomAt 16 = .ok (.getfield 16, 3) := by decide +kernel
theorem dX6_isRoomAt_19 : decode cX6_isRoomAt 19 = .ok (.iload 4, 2) := by decide +kernel
theorem dX6_isRoomAt_21 : decode cX6_isRoomAt 21 = .ok (.invokevirtual 110, 3) := by decide +kernel
theorem dX6_isRoomAt_24 : decode cX6_isRoomAt 24 = .ok (.checkcast 79, 3) := by decide +kernel
theorem dX6_isRoomAt_27 : decode cX6_isRoomAt 27 = .ok (.astore 5, 2) := by decide +kernel
theorem dX6_isRoomAt_29 : decode cX6_isRoomAt 29 = .ok (.aload 5, 2) := by decide +kernel
theorem dX6_isRoomAt_31 : decode cX6_isRoomAt 31 = .ok (.getfield 313, 3) := by decide +kernel
theorem dX6_isRoomAt_34 : decode cX6_isRoomAt 34 = .ok (.iload_n 1, 1) := by decide +kernel
theorem dX6_isRoomAt_35 : decode cX6_isRoomAt 35 = .ok (.iload_n 2, 1) := by decide +kernel
theorem dX6_isRoomAt_36 : decode cX6_isRoomAt 36 = .ok (.iadd, 1) := by decide +kernel
theorem dX6_isRoomAt_37 : decode cX6_isRoomAt 37 = .ok (.if_icmp .ge 22, 3) := by decide +kernel
theorem dX6_isRoomAt_40 : decode cX6_isRoomAt 40 = .ok (.iload_n 1, 1) := by decide +kernel
theorem dX6_isRoomAt_41 : decode cX6_isRoomAt 41 = .ok (.aload 5, 2) := by decide +kernel
theorem dX6_isRoomAt_43 : decode cX6_isRoomAt 43 = .ok (.getfield 313, 3) := by decide +kernel
theorem dX6_isRoomAt_46 : decode cX6_isRoomAt 46 = .ok (.aload 5, 2) := by decide +kernel
theorem dX6_isRoomAt_48 : decode cX6_isRoomAt 48 = .ok (.getfield 367, 3) := by decide +kernel
theorem dX6_isRoomAt_51 : decode cX6_isRoomAt 51 = .ok (.iadd, 1) := by decide +kernel
theorem dX6_isRoomAt_52 : decode cX6_isRoomAt 52 = .ok (.if_icmp .ge 7, 3) := by decide +kernel
theorem dX6_isRoomAt_55 : decode cX6_isRoomAt 55 = .ok (.iconst 1, 1) := by decide +kernel
theorem dX6_isRoomAt_56 : decode cX6_isRoomAt 56 = .ok (.goto 4, 3) := by decide +kernel
theorem dX6_isRoomAt_59 : decode cX6_isRoomAt 59 = .ok (.iconst 0, 1) := by decide +kernel
theorem dX6_isRoomAt_60 : decode cX6_isRoomAt 60 = .ok (.istore 6, 2) := by decide +kernel
theorem dX6_isRoomAt_62 : decode cX6_isRoomAt 62 = .ok (.aload 5, 2) := by decide +kernel
theorem dX6_isRoomAt_64 : decode cX6_isRoomAt 64 = .ok (.getfield 367, 3) := by decide +kernel
theorem dX6_isRoomAt_67 : decode cX6_isRoomAt 67 = .ok (.ifCond .le 19, 3) := by decide +kernel
theorem dX6_isRoomAt_70 : decode cX6_isRoomAt 70 = .ok (.iload 6, 2) := by decide +kernel
theorem dX6_isRoomAt_72 : decode cX6_isRoomAt 72 = .ok (.ifCond .eq 14, 3) := by decide +kernel
theorem dX6_isRoomAt_75 : decode cX6_isRoomAt 75 = .ok (.aload 5, 2) := by decide +kernel
theorem dX6_isRoomAt_77 : decode cX6_isRoomAt 77 = .ok (.invokevirtual 381, 3) := by decide +kernel
theorem dX6_isRoomAt_80 : decode cX6_isRoomAt 80 = .ok (.aload_n 3, 1) := by decide +kernel
theorem dX6_isRoomAt_81 : decode cX6_isRoomAt 81 = .ok (.if_acmp .ne 5, 3) := by decide +kernel
theorem dX6_isRoomAt_84 : decode cX6_isRoomAt 84 = .ok (.iconst 0, 1) := by decide +kernel
theorem dX6_isRoomAt_85 : decode cX6_isRoomAt 85 = .ok (.ireturn, 1) := by decide +kernel
theorem dX6_isRoomAt_86 : decode cX6_isRoomAt 86 = .ok (.iinc 4 1, 3) := by decide +kernel
theorem dX6_isRoomAt_89 : decode cX6_isRoomAt 89 = .ok (.goto (-86), 3) := by decide +kernel
theorem dX6_isRoomAt_92 : decode cX6_isRoomAt 92 = .ok (.iconst 1, 1) := by decide +kernel
theorem dX6_isRoomAt_93 : decode cX6_isRoomAt 93 = .ok (.ireturn, 1) := by decide +kernel
theorem dX6_isLineFree_0 : decode cX6_isLineFree 0 = .ok (.iconst 0, 1) := by decide +kernel
theorem dX6_isLineFree_1 : decode cX6_isLineFree 1 = .ok (.istore_n 2, 1) := by decide +kernel
theorem dX6_isLineFree_2 : decode cX6_isLineFree 2 = .ok (.iload_n 2, 1) := by decide +kernel
theorem dX6_isLineFree_3 : decode cX6_isLineFree 3 = .ok (.aload_n 0, 1) := by decide +kernel
theorem dX6_isLineFree_4 : decode cX6_isLineFree 4 = .ok (.getfield 16, 3) := by decide +kernel
theorem dX6_isLineFree_7 : decode cX6_isLineFree 7 = .ok (.invokevirtual 70, 3) := by decide +kernel
theorem dX6_isLineFree_10 : decode cX6_isLineFree 10 = .ok (.if_icmp .ge 48, 3) := by decide +kernel
theorem dX6_isLineFree_13 : decode cX6_isLineFree 13 = .ok (.aload_n 0, 1) := by decide +kernel
theorem dX6_isLineFree_14 : decode cX6_isLineFree 14 = .ok (.getfield 16, 3) := by decide +kernel
theorem dX6_isLineFree_17 : decode cX6_isLineFree 17 = .ok (.iload_n 2, 1) := by decide +kernel
theorem dX6_isLineFree_18 : decode cX6_isLineFree 18 = .ok (.invokevirtual 110, 3) := by decide +kernel
theorem dX6_isLineFree_21 : decode cX6_isLineFree 21 = .ok (.checkcast 79, 3) := by decide +kernel
theorem dX6_isLineFree_24 : decode cX6_isLineFree 24 = .ok (.astore_n 3, 1) := by decide +kernel
theorem dX6_isLineFree_25 : decode cX6_isLineFree 25 = .ok (.aload_n 3, 1) := by decide +kernel
theorem dX6_isLineFree_26 : decode cX6_isLineFree 26 = .ok (.getfield 289, 3) := by decide +kernel
theorem dX6_isLineFree_29 : decode cX6_isLineFree 29 = .ok (.aload_n 1, 1) := by decide +kernel
theorem dX6_isLineFree_30 : decode cX6_isLineFree 30 = .ok (.getfield 289, 3) := by decide +kernel
theorem dX6_isLineFree_33 : decode cX6_isLineFree 33 = .ok (.if_icmp .ne 19, 3) := by decide +kernel
theorem dX6_isLineFree_36 : decode cX6_isLineFree 36 = .ok (.aload_n 3, 1) := by decide +kernel
theorem dX6_isLineFree_37 : decode cX6_isLineFree 37 = .ok (.getfield 388, 3) := by decide +kernel
theorem dX6_isLineFree_40 : decode cX6_isLineFree 40 = .ok (.ifCond .eq 10, 3) := by decide +kernel
theorem dX6_isLineFree_43 : decode cX6_isLineFree 43 = .ok (.aload_n 1, 1) := by decide +kernel
theorem dX6_isLineFree_44 : decode cX6_isLineFree 44 = .ok (.getfield 388, 3) := by decide +kernel
theorem dX6_isLineFree_47 : decode cX6_isLineFree 47 = .ok (.ifCond .ne 5, 3) := by decide +kernel
theorem dX6_isLineFree_50 : decode cX6_isLineFree 50 = .ok (.iconst 0, 1) := by decide +kernel
theorem dX6_isLineFree_51 : decode cX6_isLineFree 51 = .ok (.ireturn, 1) := by decide +kernel
theorem dX6_isLineFree_52 : decode cX6_isLineFree 52 = .ok (.iinc 2 1, 3) := by decide +kernel
theorem dX6_isLineFree_55 : decode cX6_isLineFree 55 = .ok (.goto (-53), 3) := by decide +kernel
theorem dX6_isLineFree_58 : decode cX6_isLineFree 58 = .ok (.iconst 1, 1) := by decide +kernel
theorem dX6_isLineFree_59 : decode cX6_isLineFree 59 = .ok (.ireturn, 1) := by decide +kernel
theorem dX6_attach_0 : decode cX6_attach 0 = .ok (.aload_n 0, 1) := by decide +kernel
theorem dX6_attach_1 : decode cX6_attach 1 = .ok (.aload_n 1, 1) := by decide +kernel
theorem dX6_attach_2 : decode cX6_attach 2 = .ok (.iconst 1, 1) := by decide +kernel
theorem dX6_attach_3 : decode cX6_attach 3 = .ok (.invokevirtual 391, 3) := by decide +kernel
theorem dX6_attach_6 : decode cX6_attach 6 = .ok (.aload_n 1, 1) := by decide +kernel
theorem dX6_attach_7 : decode cX6_attach 7 = .ok (.aload_n 1, 1) := by decide +kernel
theorem dX6_attach_8 : decode cX6_attach 8 = .ok (.getfield 367, 3) := by decide +kernel
theorem dX6_attach_11 : decode cX6_attach 11 = .ok (.ifCond .le 11, 3) := by decide +kernel
theorem dX6_attach_14 : decode cX6_attach 14 = .ok (.aload_n 0, 1) := by decide +kernel
theorem dX6_attach_15 : decode cX6_attach 15 = .ok (.aload_n 1, 1) := by decide +kernel
theorem dX6_attach_16 : decode cX6_attach 16 = .ok (.invokevirtual 369, 3) := by decide +kernel
theorem dX6_attach_19 : decode cX6_attach 19 = .ok (.goto 4, 3) := by decide +kernel
theorem dX6_attach_22 : decode cX6_attach 22 = .ok (.iconst (-1), 1) := by decide +kernel
theorem dX6_attach_23 : decode cX6_attach 23 = .ok (.putfield 313, 3) := by decide +kernel
theorem dX6_attach_26 : decode cX6_attach 26 = .ok (.aload_n 1, 1) := by decide +kernel
theorem dX6_attach_27 : decode cX6_attach 27 = .ok (.aload_n 0, 1) := by decide +kernel
theorem dX6_attach_28 : decode cX6_attach 28 = .ok (.aload_n 1, 1) := by decide +kernel
theorem dX6_attach_29 : decode cX6_attach 29 = .ok (.getfield 306, 3) := by decide +kernel
theorem dX6_attach_32 : decode cX6_attach 32 = .ok (.invokevirtual 309, 3) := by decide +kernel
theorem dX6_attach_35 : decode cX6_attach 35 = .ok (.putfield 302, 3) := by decide +kernel
theorem dX6_attach_38 : decode cX6_attach 38 = .ok (.aload_n 1, 1) := by decide +kernel
theorem dX6_attach_39 : decode cX6_attach 39 = .ok (.iconst 1, 1) := by decide +kernel
theorem dX6_attach_40 : decode cX6_attach 40 = .ok (.putfield 251, 3) := by decide +kernel
theorem dX6_attach_43 : decode cX6_attach 43 = .ok (.aload_n 1, 1) := by decide +kernel
theorem dX6_attach_44 : decode cX6_attach 44 = .ok (.iconst 0, 1) := by decide +kernel
theorem dX6_attach_45 : decode cX6_attach 45 = .ok (.putfield 172, 3) := by decide +kernel
theorem dX6_attach_48 : decode cX6_attach 48 = .ok (.aload_n 1, 1) := by decide +kernel
theorem dX6_attach_49 : decode cX6_attach 49 = .ok (.iconst 0, 1) := by decide +kernel
theorem dX6_attach_50 : decode cX6_attach 50 = .ok (.putfield 175, 3) := by decide +kernel
theorem dX6_attach_53 : decode cX6_attach 53 = .ok (.aload_n 1, 1) := by decide +kernel
theorem dX6_attach_54 : decode cX6_attach 54 = .ok (.aload_n 0, 1) := by decide +kernel
theorem dX6_attach_55 : decode cX6_attach 55 = .ok (.getfield 219, 3) := by decide +kernel
theorem dX6_attach_58 : decode cX6_attach 58 = .ok (.putfield 395, 3) := by decide +kernel
theorem dX6_attach_61 : decode cX6_attach 61 = .ok (.aload_n 0, 1) := by decide +kernel
theorem dX6_attach_62 : decode cX6_attach 62 = .ok (.getfield 16, 3) := by decide +kernel
theorem dX6_attach_65 : decode cX6_attach 65 = .ok (.aload_n 1, 1) := by decide +kernel
theorem dX6_attach_66 : decode cX6_attach 66 = .ok (.invokevirtual 45, 3) := by decide +kernel
theorem dX6_attach_69 : decode cX6_attach 69 = .ok (.pop, 1) := by decide +kernel
theorem dX6_attach_70 : decode cX6_attach 70 = .ok (.aload_n 0, 1) := by decide +kernel
theorem dX6_attach_71 : decode cX6_attach 71 = .ok (.getfield 38, 3) := by decide +kernel
theorem dX6_attach_74 : decode cX6_attach 74 = .ok (.iconst 0, 1) := by decide +kernel
theorem dX6_attach_75 : decode cX6_attach 75 = .ok (.aload_n 1, 1) := by decide +kernel
theorem dX6_attach_76 : decode cX6_attach 76 = .ok (.getfield 97, 3) := by decide +kernel
theorem dX6_attach_79 : decode cX6_attach 79 = .ok (.invokevirtual 398, 3) := by decide +kernel
theorem dX6_attach_82 : decode cX6_attach 82 = .ok (.return_, 1) := by decide +kernel
theorem dX6_unbindTheLeaving_0 : decode cX6_unbindTheLeaving 0 = .ok (.iconst 0, 1) := by decide +kernel
theorem dX6_unbindTheLeaving_1 : decode cX6_unbindTheLeaving 1 = .ok (.istore_n 1, 1) := by decide +kernel
theorem dX6_unbindTheLeaving_2 : decode cX6_unbindTheLeaving 2 = .ok (.iload_n 1, 1) := by decide +kernel
theorem dX6_unbindTheLeaving_3 : decode cX6_unbindTheLeaving 3 = .ok (.aload_n 0, 1) := by decide +kernel
theorem dX6_unbindTheLeaving_4 : decode cX6_unbindTheLeaving 4 = .ok (.getfield 16, 3) := by decide +kernel
theorem dX6_unbindTheLeaving_7 : decode cX6_unbindTheLeaving 7 = .ok (.invokevirtual 70, 3) := by decide +kernel
theorem dX6_unbindTheLeaving_10 : decode cX6_unbindTheLeaving 10 = .ok (.if_icmp .ge 44, 3) := by decide +kernel
theorem dX6_unbindTheLeaving_13 : decode cX6_unbindTheLeaving 13 = .ok (.aload_n 0, 1) := by decide +kernel
theorem dX6_unbindTheLeaving_14 : decode cX6_unbindTheLeaving 14 = .ok (.getfield 16, 3) := by decide +kernel
theorem dX6_unbindTheLeaving_17 : decode cX6_unbindTheLeaving 17 = .ok (.iload_n 1, 1) := by decide +kernel
theorem dX6_unbindTheLeaving_18 : decode cX6_unbindTheLeaving 18 = .ok (.invokevirtual 110, 3) := by decide +kernel
theorem dX6_unbindTheLeaving_21 : decode cX6_unbindTheLeaving 21 = .ok (.checkcast 79, 3) := by decide +kernel
theorem dX6_unbindTheLeaving_24 : decode cX6_unbindTheLeaving 24 = .ok (.astore_n 2, 1) := by decide +kernel
theorem dX6_unbindTheLeaving_25 : decode cX6_unbindTheLeaving 25 = .ok (.aload_n 2, 1) := by decide +kernel
theorem dX6_unbindTheLeaving_26 : decode cX6_unbindTheLeaving 26 = .ok (.aload_n 2, 1) := by decide +kernel
theorem dX6_unbindTheLeaving_27 : decode cX6_unbindTheLeaving 27 = .ok (.getfield 118, 3) := by decide +kernel
theorem dX6_unbindTheLeaving_30 : decode cX6_unbindTheLeaving 30 = .ok (.ifCond .ne 10, 3) := by decide +kernel
theorem dX6_unbindTheLeaving_33 : decode cX6_unbindTheLeaving 33 = .ok (.aload_n 2, 1) := by decide +kernel
theorem dX6_unbindTheLeaving_34 : decode cX6_unbindTheLeaving 34 = .ok (.invokevirtual 402, 3) := by decide +kernel
theorem dX6_unbindTheLeaving_37 : decode cX6_unbindTheLeaving 37 = .ok (.ifCond .eq 7, 3) := by decide +kernel
theorem dX6_unbindTheLeaving_40 : decode cX6_unbindTheLeaving 40 = .ok (.iconst 1, 1) := by decide +kernel
theorem dX6_unbindTheLeaving_41 : decode cX6_unbindTheLeaving 41 = .ok (.goto 4, 3) := by decide +kernel
theorem dX6_unbindTheLeaving_44 : decode cX6_unbindTheLeaving 44 = .ok (.iconst 0, 1) := by decide +kernel
theorem dX6_unbindTheLeaving_45 : decode cX6_unbindTheLeaving 45 = .ok (.putfield 118, 3) := by decide +kernel
theorem dX6_unbindTheLeaving_48 : decode cX6_unbindTheLeaving 48 = .ok (.iinc 1 1, 3) := by decide +kernel
theorem dX6_unbindTheLeaving_51 : decode cX6_unbindTheLeaving 51 = .ok (.goto (-49), 3) := by decide +kernel
theorem dX6_unbindTheLeaving_54 : decode cX6_unbindTheLeaving 54 = .ok (.iconst 0, 1) := by decide +kernel
theorem dX6_unbindTheLeaving_55 : decode cX6_unbindTheLeaving 55 = .ok (.istore_n 1, 1) := by decide +kernel
theorem dX6_unbindTheLeaving_56 : decode cX6_unbindTheLeaving 56 = .ok (.aload_n 0, 1) := by decide +kernel
theorem dX6_unbindTheLeaving_57 : decode cX6_unbindTheLeaving 57 = .ok (.getfield 16, 3) := by decide +kernel
theorem dX6_unbindTheLeaving_60 : decode cX6_unbindTheLeaving 60 = .ok (.invokevirtual 70, 3) := by decide +kernel
theorem dX6_unbindTheLeaving_63 : decode cX6_unbindTheLeaving 63 = .ok (.iconst 1, 1) := by decide +kernel
theorem dX6_unbindTheLeaving_64 : decode cX6_unbindTheLeaving 64 = .ok (.isub, 1) := by decide +kernel
theorem dX6_unbindTheLeaving_65 : decode cX6_unbindTheLeaving 65 = .ok (.istore_n 2, 1) := by decide +kernel
theorem dX6_unbindTheLeaving_66 : decode cX6_unbindTheLeaving 66 = .ok (.iload_n 2, 1) := by decide +kernel
theorem dX6_unbindTheLeaving_67 : decode cX6_unbindTheLeaving 67 = .ok (.ifCond .lt 45, 3) := by decide +kernel
theorem dX6_unbindTheLeaving_70 : decode cX6_unbindTheLeaving 70 = .ok (.aload_n 0, 1) := by decide +kernel
theorem dX6_unbindTheLeaving_71 : decode cX6_unbindTheLeaving 71 = .ok (.getfield 16, 3) := by decide +kernel
theorem dX6_unbindTheLeaving_74 : decode cX6_unbindTheLeaving 74 = .ok (.iload_n 2, 1) := by decide +kernel
theorem dX6_unbindTheLeaving_75 : decode cX6_unbindTheLeaving 75 = .ok (.invokevirtual 110, 3) := by decide +kernel
theorem dX6_unbindTheLeaving_78 : decode cX6_unbindTheLeaving 78 = .ok (.checkcast 79, 3) := by decide +kernel
theorem dX6_unbindTheLeaving_81 : decode cX6_unbindTheLeaving 81 = .ok (.astore_n 3, 1) := by decide +kernel
theorem dX6_unbindTheLeaving_82 : decode cX6_unbindTheLeaving 82 = .ok (.aload_n 3, 1) := by decide +kernel
theorem dX6_unbindTheLeaving_83 : decode cX6_unbindTheLeaving 83 = .ok (.getfield 118, 3) := by decide +kernel
theorem dX6_unbindTheLeaving_86 : decode cX6_unbindTheLeaving 86 = .ok (.ifCond .eq 20, 3) := by decide +kernel
theorem dX6_unbindTheLeaving_89 : decode cX6_unbindTheLeaving 89 = .ok (.aload_n 0, 1) := by decide +kernel
theorem dX6_unbindTheLeaving_90 : decode cX6_unbindTheLeaving 90 = .ok (.getfield 16, 3) := by decide +kernel
theorem dX6_unbindTheLeaving_93 : decode cX6_unbindTheLeaving 93 = .ok (.iload_n 2, 1) := by decide +kernel
theorem dX6_unbindTheLeaving_94 : decode cX6_unbindTheLeaving 94 = .ok (.invokevirtual 405, 3) := by decide +kernel
theorem dX6_unbindTheLeaving_97 : decode cX6_unbindTheLeaving 97 = .ok (.pop, 1) := by decide +kernel
theorem dX6_unbindTheLeaving_98 : decode cX6_unbindTheLeaving 98 = .ok (.aload_n 0, 1) := by decide +kernel
theorem dX6_unbindTheLeaving_99 : decode cX6_unbindTheLeaving 99 = .ok (.aload_n 3, 1) := by decide +kernel
theorem dX6_unbindTheLeaving_100 : decode cX6_unbindTheLeaving 100 = .ok (.invokevirtual 408, 3) := by decide +kernel
theorem dX6_unbindTheLeaving_103 : decode cX6_unbindTheLeaving 103 = .ok (.iinc 1 1, 3) := by decide +kernel
theorem dX6_unbindTheLeaving_106 : decode cX6_unbindTheLeaving 106 = .ok (.iinc 2 (-1), 3) := by decide +kernel
theorem dX6_unbindTheLeaving_109 : decode cX6_unbindTheLeaving 109 = .ok (.goto (-43), 3) := by decide +kernel
theorem dX6_unbindTheLeaving_112 : decode cX6_unbindTheLeaving 112 = .ok (.iload_n 1, 1) := by decide +kernel
theorem dX6_unbindTheLeaving_113 : decode cX6_unbindTheLeaving 113 = .ok (.ireturn, 1) := by decide +kernel
theorem dX6_detach_0 : decode cX6_detach 0 = .ok (.aload_n 0, 1) := by decide +kernel
theorem dX6_detach_1 : decode cX6_detach 1 = .ok (.aload_n 1, 1) := by decide +kernel
theorem dX6_detach_2 : decode cX6_detach 2 = .ok (.invokevirtual 165, 3) := by decide +kernel
theorem dX6_detach_5 : decode cX6_detach 5 = .ok (.pop, 1) := by decide +kernel
theorem dX6_detach_6 : decode cX6_detach 6 = .ok (.aload_n 0, 1) := by decide +kernel
theorem dX6_detach_7 : decode cX6_detach 7 = .ok (.aload_n 1, 1) := by decide +kernel
theorem dX6_detach_8 : decode cX6_detach 8 = .ok (.invokevirtual 168, 3) := by decide +kernel
theorem dX6_detach_11 : decode cX6_detach 11 = .ok (.iconst 0, 1) := by decide +kernel
theorem dX6_detach_12 : decode cX6_detach 12 = .ok (.istore_n 2, 1) := by decide +kernel
theorem dX6_detach_13 : decode cX6_detach 13 = .ok (.iload_n 2, 1) := by decide +kernel
theorem dX6_detach_14 : decode cX6_detach 14 = .ok (.aload_n 0, 1) := by decide +kernel
theorem dX6_detach_15 : decode cX6_detach 15 = .ok (.getfield 22, 3) := by decide +kernel
theorem dX6_detach_18 : decode cX6_detach 18 = .ok (.invokevirtual 70, 3) := by decide +kernel
theorem dX6_detach_21 : decode cX6_detach 21 = .ok (.if_icmp .ge 34, 3) := by decide +kernel
theorem dX6_detach_24 : decode cX6_detach 24 = .ok (.aload_n 0, 1) := by decide +kernel
theorem dX6_detach_25 : decode cX6_detach 25 = .ok (.getfield 22, 3) := by decide +kernel
theorem dX6_detach_28 : decode cX6_detach 28 = .ok (.iload_n 2, 1) := by decide +kernel
theorem dX6_detach_29 : decode cX6_detach 29 = .ok (.invokevirtual 110, 3) := by decide +kernel
theorem dX6_detach_32 : decode cX6_detach 32 = .ok (.checkcast 180, 3) := by decide +kernel
theorem dX6_detach_35 : decode cX6_detach 35 = .ok (.astore_n 3, 1) := by decide +kernel
theorem dX6_detach_36 : decode cX6_detach 36 = .ok (.aload_n 3, 1) := by decide +kernel
theorem dX6_detach_37 : decode cX6_detach 37 = .ok (.getfield 213, 3) := by decide +kernel
theorem dX6_detach_40 : decode cX6_detach 40 = .ok (.aload_n 1, 1) := by decide +kernel
theorem dX6_detach_41 : decode cX6_detach 41 = .ok (.if_acmp .ne 8, 3) := by decide +kernel
theorem dX6_detach_44 : decode cX6_detach 44 = .ok (.aload_n 3, 1) := by decide +kernel
theorem dX6_detach_45 : decode cX6_detach 45 = .ok (.iconst 1, 1) := by decide +kernel
theorem dX6_detach_46 : decode cX6_detach 46 = .ok (.putfield 202, 3) := by decide +kernel
theorem dX6_detach_49 : decode cX6_detach 49 = .ok (.iinc 2 1, 3) := by decide +kernel
theorem dX6_detach_52 : decode cX6_detach 52 = .ok (.goto (-39), 3) := by decide +kernel
theorem dX6_detach_55 : decode cX6_detach 55 = .ok (.aload_n 1, 1) := by decide +kernel
theorem dX6_detach_56 : decode cX6_detach 56 = .ok (.aconst_null, 1) := by decide +kernel
theorem dX6_detach_57 : decode cX6_detach 57 = .ok (.putfield 302, 3) := by decide +kernel
theorem dX6_detach_60 : decode cX6_detach 60 = .ok (.aload_n 1, 1) := by decide +kernel
theorem dX6_detach_61 : decode cX6_detach 61 = .ok (.iconst (-1), 1) := by decide +kernel
theorem dX6_detach_62 : decode cX6_detach 62 = .ok (.putfield 313, 3) := by decide +kernel
theorem dX6_detach_65 : decode cX6_detach 65 = .ok (.aload_n 1, 1) := by decide +kernel
theorem dX6_detach_66 : decode cX6_detach 66 = .ok (.iconst 0, 1) := by decide +kernel
theorem dX6_detach_67 : decode cX6_detach 67 = .ok (.putfield 251, 3) := by decide +kernel
theorem dX6_detach_70 : decode cX6_detach 70 = .ok (.aload_n 1, 1) := by decide +kernel
theorem dX6_detach_71 : decode cX6_detach 71 = .ok (.iconst 0, 1) := by decide +kernel
theorem dX6_detach_72 : decode cX6_detach 72 = .ok (.putfield 175, 3) := by decide +kernel
theorem dX6_detach_75 : decode cX6_detach 75 = .ok (.aload_n 1, 1) := by decide +kernel
theorem dX6_detach_76 : decode cX6_detach 76 = .ok (.iconst 0, 1) := by decide +kernel
theorem dX6_detach_77 : decode cX6_detach 77 = .ok (.putfield 277, 3) := by decide +kernel
theorem dX6_detach_80 : decode cX6_detach 80 = .ok (.aload_n 1, 1) := by decide +kernel
theorem dX6_detach_81 : decode cX6_detach 81 = .ok (.iconst 0, 1) := by decide +kernel
theorem dX6_detach_82 : decode cX6_detach 82 = .ok (.putfield 118, 3) := by decide +kernel
theorem dX6_detach_85 : decode cX6_detach 85 = .ok (.aload_n 0, 1) := by decide +kernel
theorem dX6_detach_86 : decode cX6_detach 86 = .ok (.getfield 38, 3) := by decide +kernel
theorem dX6_detach_89 : decode cX6_detach 89 = .ok (.iconst 1, 1) := by decide +kernel
theorem dX6_detach_90 : decode cX6_detach 90 = .ok (.aload_n 1, 1) := by decide +kernel
theorem dX6_detach_91 : decode cX6_detach 91 = .ok (.getfield 97, 3) := by decide +kernel
theorem dX6_detach_94 : decode cX6_detach 94 = .ok (.invokevirtual 398, 3) := by decide +kernel
theorem dX6_detach_97 : decode cX6_detach 97 = .ok (.return_, 1) := by decide +kernel
theorem dX6_takeAway_0 : decode cX6_takeAway 0 = .ok (.iconst 0, 1) := by decide +kernel
theorem dX6_takeAway_1 : decode cX6_takeAway 1 = .ok (.istore_n 2, 1) := by decide +kernel
theorem dX6_takeAway_2 : decode cX6_takeAway 2 = .ok (.aload_n 0, 1) := by decide +kernel
theorem dX6_takeAway_3 : decode cX6_takeAway 3 = .ok (.getfield 10, 3) := by decide +kernel
theorem dX6_takeAway_6 : decode cX6_takeAway 6 = .ok (.invokevirtual 70, 3) := by decide +kernel
theorem dX6_takeAway_9 : decode cX6_takeAway 9 = .ok (.iconst 1, 1) := by decide +kernel
theorem dX6_takeAway_10 : decode cX6_takeAway 10 = .ok (.isub, 1) := by decide +kernel
theorem dX6_takeAway_11 : decode cX6_takeAway 11 = .ok (.istore_n 3, 1) := by decide +kernel
theorem dX6_takeAway_12 : decode cX6_takeAway 12 = .ok (.iload_n 3, 1) := by decide +kernel
theorem dX6_takeAway_13 : decode cX6_takeAway 13 = .ok (.ifCond .lt 67, 3) := by decide +kernel
theorem dX6_takeAway_16 : decode cX6_takeAway 16 = .ok (.aload_n 0, 1) := by decide +kernel
theorem dX6_takeAway_17 : decode cX6_takeAway 17 = .ok (.getfield 10, 3) := by decide +kernel
theorem dX6_takeAway_20 : decode cX6_takeAway 20 = .ok (.iload_n 3, 1) := by decide +kernel
theorem dX6_takeAway_21 : decode cX6_takeAway 21 = .ok (.invokevirtual 110, 3) := by decide +kernel
theorem dX6_takeAway_24 : decode cX6_takeAway 24 = .ok (.checkcast 79, 3) := by decide +kernel
theorem dX6_takeAway_27 : decode cX6_takeAway 27 = .ok (.astore 4, 2) := by decide +kernel
theorem dX6_takeAway_29 : decode cX6_takeAway 29 = .ok (.aload 4, 2) := by decide +kernel
theorem dX6_takeAway_31 : decode cX6_takeAway 31 = .ok (.getfield 104, 3) := by decide +kernel
theorem dX6_takeAway_34 : decode cX6_takeAway 34 = .ok (.ifCond .eq 40, 3) := by decide +kernel
theorem dX6_takeAway_37 : decode cX6_takeAway 37 = .ok (.aload 4, 2) := by decide +kernel
theorem dX6_takeAway_39 : decode cX6_takeAway 39 = .ok (.aload_n 1, 1) := by decide +kernel
theorem dX6_takeAway_40 : decode cX6_takeAway 40 = .ok (.invokevirtual 114, 3) := by decide +kernel
theorem dX6_takeAway_43 : decode cX6_takeAway 43 = .ok (.ifCond .eq 31, 3) := by decide +kernel
theorem dX6_takeAway_46 : decode cX6_takeAway 46 = .ok (.aload 4, 2) := by decide +kernel
theorem dX6_takeAway_48 : decode cX6_takeAway 48 = .ok (.iconst 0, 1) := by decide +kernel
theorem dX6_takeAway_49 : decode cX6_takeAway 49 = .ok (.putfield 104, 3) := by decide +kernel
theorem dX6_takeAway_52 : decode cX6_takeAway 52 = .ok (.aload 4, 2) := by decide +kernel
theorem dX6_takeAway_54 : decode cX6_takeAway 54 = .ok (.iconst 0, 1) := by decide +kernel
theorem dX6_takeAway_55 : decode cX6_takeAway 55 = .ok (.putfield 175, 3) := by decide +kernel
theorem dX6_takeAway_58 : decode cX6_takeAway 58 = .ok (.aload_n 0, 1) := by decide +kernel
theorem dX6_takeAway_59 : decode cX6_takeAway 59 = .ok (.getfield 38, 3) := by decide +kernel
theorem dX6_takeAway_62 : decode cX6_takeAway 62 = .ok (.iconst 2, 1) := by decide +kernel
theorem dX6_takeAway_63 : decode cX6_takeAway 63 = .ok (.aload 4, 2) := by decide +kernel
theorem dX6_takeAway_65 : decode cX6_takeAway 65 = .ok (.getfield 97, 3) := by decide +kernel
theorem dX6_takeAway_68 : decode cX6_takeAway 68 = .ok (.invokevirtual 398, 3) := by decide +kernel
theorem dX6_takeAway_71 : decode cX6_takeAway 71 = .ok (.iinc 2 1, 3) := by decide +kernel
theorem dX6_takeAway_74 : decode cX6_takeAway 74 = .ok (.iinc 3 (-1), 3) := by decide +kernel
theorem dX6_takeAway_77 : decode cX6_takeAway 77 = .ok (.goto (-65), 3) := by decide +kernel
theorem dX6_takeAway_80 : decode cX6_takeAway 80 = .ok (.iload_n 2, 1) := by decide +kernel
theorem dX6_takeAway_81 : decode cX6_takeAway 81 = .ok (.ireturn, 1) := by decide +kernel
theorem dX6_abortCallsOf_0 : decode cX6_abortCallsOf 0 = .ok (.iconst 0, 1) := by decide +kernel
theorem dX6_abortCallsOf_1 : decode cX6_abortCallsOf 1 = .ok (.istore_n 2, 1) := by decide +kernel
theorem dX6_abortCallsOf_2 : decode cX6_abortCallsOf 2 = .ok (.iconst 0, 1) := by decide +kernel
theorem dX6_abortCallsOf_3 : decode cX6_abortCallsOf 3 = .ok (.istore_n 3, 1) := by decide +kernel
theorem dX6_abortCallsOf_4 : decode cX6_abortCallsOf 4 = .ok (.iload_n 3, 1) := by decide +kernel
theorem dX6_abortCallsOf_5 : decode cX6_abortCallsOf 5 = .ok (.aload_n 0, 1) := by decide +kernel
theorem dX6_abortCallsOf_6 : decode cX6_abortCallsOf 6 = .ok (.getfield 25, 3) := by decide +kernel
theorem dX6_abortCallsOf_9 : decode cX6_abortCallsOf 9 = .ok (.invokevirtual 70, 3) := by decide +kernel
theorem dX6_abortCallsOf_12 : decode cX6_abortCallsOf 12 = .ok (.if_icmp .ge 45, 3) := by decide +kernel
theorem dX6_abortCallsOf_15 : decode cX6_abortCallsOf 15 = .ok (.aload_n 0, 1) := by decide +kernel
theorem dX6_abortCallsOf_16 : decode cX6_abortCallsOf 16 = .ok (.getfield 25, 3) := by decide +kernel
theorem dX6_abortCallsOf_19 : decode cX6_abortCallsOf 19 = .ok (.iload_n 3, 1) := by decide +kernel
theorem dX6_abortCallsOf_20 : decode cX6_abortCallsOf 20 = .ok (.invokevirtual 110, 3) := by decide +kernel
theorem dX6_abortCallsOf_23 : decode cX6_abortCallsOf 23 = .ok (.checkcast 193, 3) := by decide +kernel
theorem dX6_abortCallsOf_26 : decode cX6_abortCallsOf 26 = .ok (.astore 4, 2) := by decide +kernel
theorem dX6_abortCallsOf_28 : decode cX6_abortCallsOf 28 = .ok (.aload 4, 2) := by decide +kernel
theorem dX6_abortCallsOf_30 : decode cX6_abortCallsOf 30 = .ok (.getfield 195, 3) := by decide +kernel
theorem dX6_abortCallsOf_33 : decode cX6_abortCallsOf 33 = .ok (.getfield 213, 3) := by decide +kernel
theorem dX6_abortCallsOf_36 : decode cX6_abortCallsOf 36 = .ok (.aload_n 1, 1) := by decide +kernel
theorem dX6_abortCallsOf_37 : decode cX6_abortCallsOf 37 = .ok (.if_acmp .ne 14, 3) := by decide +kernel
theorem dX6_abortCallsOf_40 : decode cX6_abortCallsOf 40 = .ok (.aload 4, 2) := by decide +kernel
theorem dX6_abortCallsOf_42 : decode cX6_abortCallsOf 42 = .ok (.invokevirtual 199, 3) := by decide +kernel
theorem dX6_abortCallsOf_45 : decode cX6_abortCallsOf 45 = .ok (.ifCond .eq 6, 3) := by decide +kernel
theorem dX6_abortCallsOf_48 : decode cX6_abortCallsOf 48 = .ok (.iinc 2 1, 3) := by decide +kernel
theorem dX6_abortCallsOf_51 : decode cX6_abortCallsOf 51 = .ok (.iinc 3 1, 3) := by decide +kernel
theorem dX6_abortCallsOf_54 : decode cX6_abortCallsOf 54 = .ok (.goto (-50), 3) := by decide +kernel
theorem dX6_abortCallsOf_57 : decode cX6_abortCallsOf 57 = .ok (.iload_n 2, 1) := by decide +kernel
theorem dX6_abortCallsOf_58 : decode cX6_abortCallsOf 58 = .ok (.ireturn, 1) := by decide +kernel
theorem dX6_hasCallGoing_0 : decode cX6_hasCallGoing 0 = .ok (.iconst 0, 1) := by decide +kernel
theorem dX6_hasCallGoing_1 : decode cX6_hasCallGoing 1 = .ok (.istore_n 2, 1) := by decide +kernel
theorem dX6_hasCallGoing_2 : decode cX6_hasCallGoing 2 = .ok (.iload_n 2, 1) := by decide +kernel
theorem dX6_hasCallGoing_3 : decode cX6_hasCallGoing 3 = .ok (.aload_n 0, 1) := by decide +kernel
theorem dX6_hasCallGoing_4 : decode cX6_hasCallGoing 4 = .ok (.getfield 25, 3) := by decide +kernel
theorem dX6_hasCallGoing_7 : decode cX6_hasCallGoing 7 = .ok (.invokevirtual 70, 3) := by decide +kernel
theorem dX6_hasCallGoing_10 : decode cX6_hasCallGoing 10 = .ok (.if_icmp .ge 41, 3) := by decide +kernel
theorem dX6_hasCallGoing_13 : decode cX6_hasCallGoing 13 = .ok (.aload_n 0, 1) := by decide +kernel
theorem dX6_hasCallGoing_14 : decode cX6_hasCallGoing 14 = .ok (.getfield 25, 3) := by decide +kernel
theorem dX6_hasCallGoing_17 : decode cX6_hasCallGoing 17 = .ok (.iload_n 2, 1) := by decide +kernel
theorem dX6_hasCallGoing_18 : decode cX6_hasCallGoing 18 = .ok (.invokevirtual 110, 3) := by decide +kernel
theorem dX6_hasCallGoing_21 : decode cX6_hasCallGoing 21 = .ok (.checkcast 193, 3) := by decide +kernel
theorem dX6_hasCallGoing_24 : decode cX6_hasCallGoing 24 = .ok (.astore_n 3, 1) := by decide +kernel
theorem dX6_hasCallGoing_25 : decode cX6_hasCallGoing 25 = .ok (.aload_n 3, 1) := by decide +kernel
theorem dX6_hasCallGoing_26 : decode cX6_hasCallGoing 26 = .ok (.getfield 318, 3) := by decide +kernel
theorem dX6_hasCallGoing_29 : decode cX6_hasCallGoing 29 = .ok (.ifCond .ne 16, 3) := by decide +kernel
theorem dX6_hasCallGoing_32 : decode cX6_hasCallGoing 32 = .ok (.aload_n 3, 1) := by decide +kernel
theorem dX6_hasCallGoing_33 : decode cX6_hasCallGoing 33 = .ok (.getfield 195, 3) := by decide +kernel
theorem dX6_hasCallGoing_36 : decode cX6_hasCallGoing 36 = .ok (.getfield 213, 3) := by decide +kernel
theorem dX6_hasCallGoing_39 : decode cX6_hasCallGoing 39 = .ok (.aload_n 1, 1) := by decide +kernel
theorem dX6_hasCallGoing_40 : decode cX6_hasCallGoing 40 = .ok (.if_acmp .ne 5, 3) := by decide +kernel
theorem dX6_hasCallGoing_43 : decode cX6_hasCallGoing 43 = .ok (.iconst 1, 1) := by decide +kernel
theorem dX6_hasCallGoing_44 : decode cX6_hasCallGoing 44 = .ok (.ireturn, 1) := by decide +kernel
theorem dX6_hasCallGoing_45 : decode cX6_hasCallGoing 45 = .ok (.iinc 2 1, 3) := by decide +kernel
theorem dX6_hasCallGoing_48 : decode cX6_hasCallGoing 48 = .ok (.goto (-46), 3) := by decide +kernel
theorem dX6_hasCallGoing_51 : decode cX6_hasCallGoing 51 = .ok (.iconst 0, 1) := by decide +kernel
theorem dX6_hasCallGoing_52 : decode cX6_hasCallGoing 52 = .ok (.ireturn, 1) := by decide +kernel
theorem dX6_letMapsGo_0 : decode cX6_letMapsGo 0 = .ok (.iconst 0, 1) := by decide +kernel
theorem dX6_letMapsGo_1 : decode cX6_letMapsGo 1 = .ok (.istore_n 2, 1) := by decide +kernel
theorem dX6_letMapsGo_2 : decode cX6_letMapsGo 2 = .ok (.iload_n 2, 1) := by decide +kernel
theorem dX6_letMapsGo_3 : decode cX6_letMapsGo 3 = .ok (.aload_n 0, 1) := by decide +kernel
theorem dX6_letMapsGo_4 : decode cX6_letMapsGo 4 = .ok (.getfield 28, 3) := by decide +kernel
theorem dX6_letMapsGo_7 : decode cX6_letMapsGo 7 = .ok (.invokevirtual 70, 3) := by decide +kernel
theorem dX6_letMapsGo_10 : decode cX6_letMapsGo 10 = .ok (.if_icmp .ge 34, 3) := by decide +kernel
theorem dX6_letMapsGo_13 : decode cX6_letMapsGo 13 = .ok (.aload_n 0, 1) := by decide +kernel
theorem dX6_letMapsGo_14 : decode cX6_letMapsGo 14 = .ok (.getfield 28, 3) := by decide +kernel
theorem dX6_letMapsGo_17 : decode cX6_letMapsGo 17 = .ok (.iload_n 2, 1) := by decide +kernel
theorem dX6_letMapsGo_18 : decode cX6_letMapsGo 18 = .ok (.invokevirtual 110, 3) := by decide +kernel
theorem dX6_letMapsGo_21 : decode cX6_letMapsGo 21 = .ok (.checkcast 42, 3) := by decide +kernel
theorem dX6_letMapsGo_24 : decode cX6_letMapsGo 24 = .ok (.astore_n 3, 1) := by decide +kernel
theorem dX6_letMapsGo_25 : decode cX6_letMapsGo 25 = .ok (.aload_n 3, 1) := by decide +kernel
theorem dX6_letMapsGo_26 : decode cX6_letMapsGo 26 = .ok (.getfield 240, 3) := by decide +kernel
theorem dX6_letMapsGo_29 : decode cX6_letMapsGo 29 = .ok (.aload_n 1, 1) := by decide +kernel
theorem dX6_letMapsGo_30 : decode cX6_letMapsGo 30 = .ok (.if_acmp .ne 8, 3) := by decide +kernel
theorem dX6_letMapsGo_33 : decode cX6_letMapsGo 33 = .ok (.aload_n 3, 1) := by decide +kernel
theorem dX6_letMapsGo_34 : decode cX6_letMapsGo 34 = .ok (.aconst_null, 1) := by decide +kernel
theorem dX6_letMapsGo_35 : decode cX6_letMapsGo 35 = .ok (.putfield 240, 3) := by decide +kernel
theorem dX6_letMapsGo_38 : decode cX6_letMapsGo 38 = .ok (.iinc 2 1, 3) := by decide +kernel
theorem dX6_letMapsGo_41 : decode cX6_letMapsGo 41 = .ok (.goto (-39), 3) := by decide +kernel
theorem dX6_letMapsGo_44 : decode cX6_letMapsGo 44 = .ok (.return_, 1) := by decide +kernel
theorem dX6_lowestFreeSlot_0 : decode cX6_lowestFreeSlot 0 = .ok (.iconst 0, 1) := by decide +kernel
theorem dX6_lowestFreeSlot_1 : decode cX6_lowestFreeSlot 1 = .ok (.istore_n 1, 1) := by decide +kernel
theorem dX6_lowestFreeSlot_2 : decode cX6_lowestFreeSlot 2 = .ok (.iload_n 1, 1) := by decide +kernel
theorem dX6_lowestFreeSlot_3 : decode cX6_lowestFreeSlot 3 = .ok (.aload_n 0, 1) := by decide +kernel
theorem dX6_lowestFreeSlot_4 : decode cX6_lowestFreeSlot 4 = .ok (.getfield 28, 3) := by decide +kernel
theorem dX6_lowestFreeSlot_7 : decode cX6_lowestFreeSlot 7 = .ok (.invokevirtual 70, 3) := by decide +kernel
theorem dX6_lowestFreeSlot_10 : decode cX6_lowestFreeSlot 10 = .ok (.if_icmp .ge 28, 3) := by decide +kernel
theorem dX6_lowestFreeSlot_13 : decode cX6_lowestFreeSlot 13 = .ok (.aload_n 0, 1) := by decide +kernel
theorem dX6_lowestFreeSlot_14 : decode cX6_lowestFreeSlot 14 = .ok (.getfield 28, 3) := by decide +kernel
theorem dX6_lowestFreeSlot_17 : decode cX6_lowestFreeSlot 17 = .ok (.iload_n 1, 1) := by decide +kernel
theorem dX6_lowestFreeSlot_18 : decode cX6_lowestFreeSlot 18 = .ok (.invokevirtual 110, 3) := by decide +kernel
theorem dX6_lowestFreeSlot_21 : decode cX6_lowestFreeSlot 21 = .ok (.checkcast 42, 3) := by decide +kernel
theorem dX6_lowestFreeSlot_24 : decode cX6_lowestFreeSlot 24 = .ok (.getfield 240, 3) := by decide +kernel
theorem dX6_lowestFreeSlot_27 : decode cX6_lowestFreeSlot 27 = .ok (.ifnonnull 5, 3) := by decide +kernel
theorem dX6_lowestFreeSlot_30 : decode cX6_lowestFreeSlot 30 = .ok (.iload_n 1, 1) := by decide +kernel
theorem dX6_lowestFreeSlot_31 : decode cX6_lowestFreeSlot 31 = .ok (.ireturn, 1) := by decide +kernel
theorem dX6_lowestFreeSlot_32 : decode cX6_lowestFreeSlot 32 = .ok (.iinc 1 1, 3) := by decide +kernel
theorem dX6_lowestFreeSlot_35 : decode cX6_lowestFreeSlot 35 = .ok (.goto (-33), 3) := by decide +kernel
theorem dX6_lowestFreeSlot_38 : decode cX6_lowestFreeSlot 38 = .ok (.iconst (-1), 1) := by decide +kernel
theorem dX6_lowestFreeSlot_39 : decode cX6_lowestFreeSlot 39 = .ok (.ireturn, 1) := by decide +kernel
theorem dX6_wakeForUse_0 : decode cX6_wakeForUse 0 = .ok (.aload_n 0, 1) := by decide +kernel
theorem dX6_wakeForUse_1 : decode cX6_wakeForUse 1 = .ok (.aload_n 1, 1) := by decide +kernel
theorem dX6_wakeForUse_2 : decode cX6_wakeForUse 2 = .ok (.iconst 0, 1) := by decide +kernel
theorem dX6_wakeForUse_3 : decode cX6_wakeForUse 3 = .ok (.invokevirtual 411, 3) := by decide +kernel
theorem dX6_wakeForUse_6 : decode cX6_wakeForUse 6 = .ok (.aload_n 1, 1) := by decide +kernel
theorem dX6_wakeForUse_7 : decode cX6_wakeForUse 7 = .ok (.aload_n 0, 1) := by decide +kernel
theorem dX6_wakeForUse_8 : decode cX6_wakeForUse 8 = .ok (.getfield 219, 3) := by decide +kernel
theorem dX6_wakeForUse_11 : decode cX6_wakeForUse 11 = .ok (.putfield 395, 3) := by decide +kernel
theorem dX6_wakeForUse_14 : decode cX6_wakeForUse 14 = .ok (.return_, 1) := by decide +kernel
theorem dX6_wake_0 : decode cX6_wake 0 = .ok (.aload_n 1, 1) := by decide +kernel
theorem dX6_wake_1 : decode cX6_wake 1 = .ok (.ifnull 16, 3) := by decide +kernel
theorem dX6_wake_4 : decode cX6_wake 4 = .ok (.aload_n 1, 1) := by decide +kernel
theorem dX6_wake_5 : decode cX6_wake 5 = .ok (.getfield 251, 3) := by decide +kernel
theorem dX6_wake_8 : decode cX6_wake 8 = .ok (.ifCond .ne 9, 3) := by decide +kernel
theorem dX6_wake_11 : decode cX6_wake 11 = .ok (.iload_n 2, 1) := by decide +kernel
theorem dX6_wake_12 : decode cX6_wake 12 = .ok (.bipush 24, 2) := by decide +kernel
theorem dX6_wake_14 : decode cX6_wake 14 = .ok (.if_icmp .le 4, 3) := by decide +kernel
theorem dX6_wake_17 : decode cX6_wake 17 = .ok (.return_, 1) := by decide +kernel
theorem dX6_wake_18 : decode cX6_wake 18 = .ok (.aload_n 0, 1) := by decide +kernel
theorem dX6_wake_19 : decode cX6_wake 19 = .ok (.aload_n 1, 1) := by decide +kernel
theorem dX6_wake_20 : decode cX6_wake 20 = .ok (.iload_n 2, 1) := by decide +kernel
theorem dX6_wake_21 : decode cX6_wake 21 = .ok (.iconst 1, 1) := by decide +kernel
theorem dX6_wake_22 : decode cX6_wake 22 = .ok (.iadd, 1) := by decide +kernel
theorem dX6_wake_23 : decode cX6_wake 23 = .ok (.invokevirtual 391, 3) := by decide +kernel
theorem dX6_wake_26 : decode cX6_wake 26 = .ok (.aload_n 1, 1) := by decide +kernel
theorem dX6_wake_27 : decode cX6_wake 27 = .ok (.iconst 1, 1) := by decide +kernel
theorem dX6_wake_28 : decode cX6_wake 28 = .ok (.putfield 251, 3) := by decide +kernel
theorem dX6_wake_31 : decode cX6_wake 31 = .ok (.aload_n 1, 1) := by decide +kernel
theorem dX6_wake_32 : decode cX6_wake 32 = .ok (.aload_n 0, 1) := by decide +kernel
theorem dX6_wake_33 : decode cX6_wake 33 = .ok (.getfield 219, 3) := by decide +kernel
theorem dX6_wake_36 : decode cX6_wake 36 = .ok (.putfield 395, 3) := by decide +kernel
theorem dX6_wake_39 : decode cX6_wake 39 = .ok (.aload_n 1, 1) := by decide +kernel
theorem dX6_wake_40 : decode cX6_wake 40 = .ok (.invokevirtual 414, 3) := by decide +kernel
theorem dX6_wake_43 : decode cX6_wake 43 = .ok (.ifCond .ne 8, 3) := by decide +kernel
theorem dX6_wake_46 : decode cX6_wake 46 = .ok (.aload_n 1, 1) := by decide +kernel
theorem dX6_wake_47 : decode cX6_wake 47 = .ok (.iconst 0, 1) := by decide +kernel
theorem dX6_wake_48 : decode cX6_wake 48 = .ok (.putfield 172, 3) := by decide +kernel
theorem dX6_wake_51 : decode cX6_wake 51 = .ok (.aload_n 0, 1) := by decide +kernel
theorem dX6_wake_52 : decode cX6_wake 52 = .ok (.getfield 38, 3) := by decide +kernel
theorem dX6_wake_55 : decode cX6_wake 55 = .ok (.iconst 4, 1) := by decide +kernel
theorem dX6_wake_56 : decode cX6_wake 56 = .ok (.aload_n 1, 1) := by decide +kernel
theorem dX6_wake_57 : decode cX6_wake 57 = .ok (.getfield 97, 3) := by decide +kernel
theorem dX6_wake_60 : decode cX6_wake 60 = .ok (.invokevirtual 398, 3) := by decide +kernel
theorem dX6_wake_63 : decode cX6_wake 63 = .ok (.return_, 1) := by decide +kernel
theorem dX6_wakeNeeds_0 : decode cX6_wakeNeeds 0 = .ok (.aload_n 0, 1) := by decide +kernel
theorem dX6_wakeNeeds_1 : decode cX6_wakeNeeds 1 = .ok (.aload_n 1, 1) := by decide +kernel
theorem dX6_wakeNeeds_2 : decode cX6_wakeNeeds 2 = .ok (.getfield 84, 3) := by decide +kernel
theorem dX6_wakeNeeds_5 : decode cX6_wakeNeeds 5 = .ok (.iload_n 2, 1) := by decide +kernel
theorem dX6_wakeNeeds_6 : decode cX6_wakeNeeds 6 = .ok (.invokevirtual 411, 3) := by decide +kernel
theorem dX6_wakeNeeds_9 : decode cX6_wakeNeeds 9 = .ok (.aload_n 0, 1) := by decide +kernel
theorem dX6_wakeNeeds_10 : decode cX6_wakeNeeds 10 = .ok (.aload_n 1, 1) := by decide +kernel
theorem dX6_wakeNeeds_11 : decode cX6_wakeNeeds 11 = .ok (.getfield 88, 3) := by decide +kernel
theorem dX6_wakeNeeds_14 : decode cX6_wakeNeeds 14 = .ok (.iload_n 2, 1) := by decide +kernel
theorem dX6_wakeNeeds_15 : decode cX6_wakeNeeds 15 = .ok (.invokevirtual 411, 3) := by decide +kernel
theorem dX6_wakeNeeds_18 : decode cX6_wakeNeeds 18 = .ok (.aload_n 0, 1) := by decide +kernel
theorem dX6_wakeNeeds_19 : decode cX6_wakeNeeds 19 = .ok (.aload_n 1, 1) := by decide +kernel
theorem dX6_wakeNeeds_20 : decode cX6_wakeNeeds 20 = .ok (.getfield 91, 3) := by decide +kernel
theorem dX6_wakeNeeds_23 : decode cX6_wakeNeeds 23 = .ok (.iload_n 2, 1) := by decide +kernel
theorem dX6_wakeNeeds_24 : decode cX6_wakeNeeds 24 = .ok (.invokevirtual 411, 3) := by decide +kernel
theorem dX6_wakeNeeds_27 : decode cX6_wakeNeeds 27 = .ok (.return_, 1) := by decide +kernel
theorem dX6_fallAsleep_0 : decode cX6_fallAsleep 0 = .ok (.aload_n 1, 1) := by decide +kernel
theorem dX6_fallAsleep_1 : decode cX6_fallAsleep 1 = .ok (.iconst 0, 1) := by decide +kernel
theorem dX6_fallAsleep_2 : decode cX6_fallAsleep 2 = .ok (.putfield 251, 3) := by decide +kernel
theorem dX6_fallAsleep_5 : decode cX6_fallAsleep 5 = .ok (.aload_n 0, 1) := by decide +kernel
theorem dX6_fallAsleep_6 : decode cX6_fallAsleep 6 = .ok (.getfield 38, 3) := by decide +kernel
theorem dX6_fallAsleep_9 : decode cX6_fallAsleep 9 = .ok (.iconst 3, 1) := by decide +kernel
theorem dX6_fallAsleep_10 : decode cX6_fallAsleep 10 = .ok (.aload_n 1, 1) := by decide +kernel
theorem dX6_fallAsleep_11 : decode cX6_fallAsleep 11 = .ok (.getfield 97, 3) := by decide +kernel
theorem dX6_fallAsleep_14 : decode cX6_fallAsleep 14 = .ok (.invokevirtual 398, 3) := by decide +kernel
theorem dX6_fallAsleep_17 : decode cX6_fallAsleep 17 = .ok (.return_, 1) := by decide +kernel
theorem dX6_wakeTheSuspended_0 : decode cX6_wakeTheSuspended 0 = .ok (.iconst 0, 1) := by decide +kernel
theorem dX6_wakeTheSuspended_1 : decode cX6_wakeTheSuspended 1 = .ok (.istore_n 1, 1) := by decide +kernel
theorem dX6_wakeTheSuspended_2 : decode cX6_wakeTheSuspended 2 = .ok (.iconst 0, 1) := by decide +kernel
theorem dX6_wakeTheSuspended_3 : decode cX6_wakeTheSuspended 3 = .ok (.istore_n 2, 1) := by decide +kernel
theorem dX6_wakeTheSuspended_4 : decode cX6_wakeTheSuspended 4 = .ok (.iload_n 2, 1) := by decide +kernel
theorem dX6_wakeTheSuspended_5 : decode cX6_wakeTheSuspended 5 = .ok (.aload_n 0, 1) := by decide +kernel
theorem dX6_wakeTheSuspended_6 : decode cX6_wakeTheSuspended 6 = .ok (.getfield 16, 3) := by decide +kernel
theorem dX6_wakeTheSuspended_9 : decode cX6_wakeTheSuspended 9 = .ok (.invokevirtual 70, 3) := by decide +kernel
theorem dX6_wakeTheSuspended_12 : decode cX6_wakeTheSuspended 12 = .ok (.if_icmp .ge 42, 3) := by decide +kernel
theorem dX6_wakeTheSuspended_15 : decode cX6_wakeTheSuspended 15 = .ok (.aload_n 0, 1) := by decide +kernel
theorem dX6_wakeTheSuspended_16 : decode cX6_wakeTheSuspended 16 = .ok (.getfield 16, 3) := by decide +kernel
theorem dX6_wakeTheSuspended_19 : decode cX6_wakeTheSuspended 19 = .ok (.iload_n 2, 1) := by decide +kernel
theorem dX6_wakeTheSuspended_20 : decode cX6_wakeTheSuspended 20 = .ok (.invokevirtual 110, 3) := by decide +kernel
theorem dX6_wakeTheSuspended_23 : decode cX6_wakeTheSuspended 23 = .ok (.checkcast 79, 3) := by decide +kernel
theorem dX6_wakeTheSuspended_26 : decode cX6_wakeTheSuspended 26 = .ok (.astore_n 3, 1) := by decide +kernel
theorem dX6_wakeTheSuspended_27 : decode cX6_wakeTheSuspended 27 = .ok (.aload_n 3, 1) := by decide +kernel
theorem dX6_wakeTheSuspended_28 : decode cX6_wakeTheSuspended 28 = .ok (.getfield 277, 3) := by decide +kernel
theorem dX6_wakeTheSuspended_31 : decode cX6_wakeTheSuspended 31 = .ok (.ifCond .eq 17, 3) := by decide +kernel
theorem dX6_wakeTheSuspended_34 : decode cX6_wakeTheSuspended 34 = .ok (.aload_n 3, 1) := by decide +kernel
theorem dX6_wakeTheSuspended_35 : decode cX6_wakeTheSuspended 35 = .ok (.iconst 0, 1) := by decide +kernel
theorem dX6_wakeTheSuspended_36 : decode cX6_wakeTheSuspended 36 = .ok (.putfield 277, 3) := by decide +kernel
theorem dX6_wakeTheSuspended_39 : decode cX6_wakeTheSuspended 39 = .ok (.aload_n 0, 1) := by decide +kernel
theorem dX6_wakeTheSuspended_40 : decode cX6_wakeTheSuspended 40 = .ok (.aload_n 3, 1) := by decide +kernel
theorem dX6_wakeTheSuspended_41 : decode cX6_wakeTheSuspended 41 = .ok (.iconst 0, 1) := by decide +kernel
theorem dX6_wakeTheSuspended_42 : decode cX6_wakeTheSuspended 42 = .ok (.invokevirtual 411, 3) := by decide +kernel
theorem dX6_wakeTheSuspended_45 : decode cX6_wakeTheSuspended 45 = .ok (.iinc 1 1, 3) := by decide +kernel
theorem dX6_wakeTheSuspended_48 : decode cX6_wakeTheSuspended 48 = .ok (.iinc 2 1, 3) := by decide +kernel
theorem dX6_wakeTheSuspended_51 : decode cX6_wakeTheSuspended 51 = .ok (.goto (-47), 3) := by decide +kernel
theorem dX6_wakeTheSuspended_54 : decode cX6_wakeTheSuspended 54 = .ok (.iload_n 1, 1) := by decide +kernel
theorem dX6_wakeTheSuspended_55 : decode cX6_wakeTheSuspended 55 = .ok (.ireturn, 1) := by decide +kernel
theorem dX6_finishCalls_0 : decode cX6_finishCalls 0 = .ok (.iconst 0, 1) := by decide +kernel
theorem dX6_finishCalls_1 : decode cX6_finishCalls 1 = .ok (.istore_n 1, 1) := by decide +kernel
theorem dX6_finishCalls_2 : decode cX6_finishCalls 2 = .ok (.iload_n 1, 1) := by decide +kernel
theorem dX6_finishCalls_3 : decode cX6_finishCalls 3 = .ok (.aload_n 0, 1) := by decide +kernel
theorem dX6_finishCalls_4 : decode cX6_finishCalls 4 = .ok (.getfield 25, 3) := by decide +kernel
theorem dX6_finishCalls_7 : decode cX6_finishCalls 7 = .ok (.invokevirtual 70, 3) := by decide +kernel
theorem dX6_finishCalls_10 : decode cX6_finishCalls 10 = .ok (.if_icmp .ge 44, 3) := by decide +kernel
theorem dX6_finishCalls_13 : decode cX6_finishCalls 13 = .ok (.aload_n 0, 1) := by decide +kernel
theorem dX6_finishCalls_14 : decode cX6_finishCalls 14 = .ok (.getfield 25, 3) := by decide +kernel
theorem dX6_finishCalls_17 : decode cX6_finishCalls 17 = .ok (.iload_n 1, 1) := by decide +kernel
theorem dX6_finishCalls_18 : decode cX6_finishCalls 18 = .ok (.invokevirtual 110, 3) := by decide +kernel
theorem dX6_finishCalls_21 : decode cX6_finishCalls 21 = .ok (.checkcast 193, 3) := by decide +kernel
theorem dX6_finishCalls_24 : decode cX6_finishCalls 24 = .ok (.astore_n 2, 1) := by decide +kernel
theorem dX6_finishCalls_25 : decode cX6_finishCalls 25 = .ok (.aload_n 2, 1) := by decide +kernel
theorem dX6_finishCalls_26 : decode cX6_finishCalls 26 = .ok (.getfield 318, 3) := by decide +kernel
theorem dX6_finishCalls_29 : decode cX6_finishCalls 29 = .ok (.ifCond .ne 19, 3) := by decide +kernel
theorem dX6_finishCalls_32 : decode cX6_finishCalls 32 = .ok (.aload_n 2, 1) := by decide +kernel
theorem dX6_finishCalls_33 : decode cX6_finishCalls 33 = .ok (.getfield 417, 3) := by decide +kernel
theorem dX6_finishCalls_36 : decode cX6_finishCalls 36 = .ok (.aload_n 0, 1) := by decide +kernel
theorem dX6_finishCalls_37 : decode cX6_finishCalls 37 = .ok (.getfield 219, 3) := by decide +kernel
theorem dX6_finishCalls_40 : decode cX6_finishCalls 40 = .ok (.if_icmp .gt 8, 3) := by decide +kernel
theorem dX6_finishCalls_43 : decode cX6_finishCalls 43 = .ok (.aload_n 2, 1) := by decide +kernel
theorem dX6_finishCalls_44 : decode cX6_finishCalls 44 = .ok (.iconst 1, 1) := by decide +kernel
theorem dX6_finishCalls_45 : decode cX6_finishCalls 45 = .ok (.putfield 318, 3) := by decide +kernel
theorem dX6_finishCalls_48 : decode cX6_finishCalls 48 = .ok (.iinc 1 1, 3) := by decide +kernel
theorem dX6_finishCalls_51 : decode cX6_finishCalls 51 = .ok (.goto (-49), 3) := by decide +kernel
theorem dX6_finishCalls_54 : decode cX6_finishCalls 54 = .ok (.return_, 1) := by decide +kernel
theorem dX6_touchTheHeld_0 : decode cX6_touchTheHeld 0 = .ok (.iconst 0, 1) := by decide +kernel
theorem dX6_touchTheHeld_1 : decode cX6_touchTheHeld 1 = .ok (.istore_n 1, 1) := by decide +kernel
theorem dX6_touchTheHeld_2 : decode cX6_touchTheHeld 2 = .ok (.iload_n 1, 1) := by decide +kernel
theorem dX6_touchTheHeld_3 : decode cX6_touchTheHeld 3 = .ok (.aload_n 0, 1) := by decide +kernel
theorem dX6_touchTheHeld_4 : decode cX6_touchTheHeld 4 = .ok (.getfield 25, 3) := by decide +kernel
theorem dX6_touchTheHeld_7 : decode cX6_touchTheHeld 7 = .ok (.invokevirtual 70, 3) := by decide +kernel
theorem dX6_touchTheHeld_10 : decode cX6_touchTheHeld 10 = .ok (.if_icmp .ge 42, 3) := by decide +kernel
theorem dX6_touchTheHeld_13 : decode cX6_touchTheHeld 13 = .ok (.aload_n 0, 1) := by decide +kernel
theorem dX6_touchTheHeld_14 : decode cX6_touchTheHeld 14 = .ok (.getfield 25, 3) := by decide +kernel
theorem dX6_touchTheHeld_17 : decode cX6_touchTheHeld 17 = .ok (.iload_n 1, 1) := by decide +kernel
theorem dX6_touchTheHeld_18 : decode cX6_touchTheHeld 18 = .ok (.invokevirtual 110, 3) := by decide +kernel
theorem dX6_touchTheHeld_21 : decode cX6_touchTheHeld 21 = .ok (.checkcast 193, 3) := by decide +kernel
theorem dX6_touchTheHeld_24 : decode cX6_touchTheHeld 24 = .ok (.astore_n 2, 1) := by decide +kernel
theorem dX6_touchTheHeld_25 : decode cX6_touchTheHeld 25 = .ok (.aload_n 2, 1) := by decide +kernel
theorem dX6_touchTheHeld_26 : decode cX6_touchTheHeld 26 = .ok (.getfield 318, 3) := by decide +kernel
theorem dX6_touchTheHeld_29 : decode cX6_touchTheHeld 29 = .ok (.ifCond .ne 17, 3) := by decide +kernel
theorem dX6_touchTheHeld_32 : decode cX6_touchTheHeld 32 = .ok (.aload_n 2, 1) := by decide +kernel
theorem dX6_touchTheHeld_33 : decode cX6_touchTheHeld 33 = .ok (.getfield 195, 3) := by decide +kernel
theorem dX6_touchTheHeld_36 : decode cX6_touchTheHeld 36 = .ok (.getfield 213, 3) := by decide +kernel
theorem dX6_touchTheHeld_39 : decode cX6_touchTheHeld 39 = .ok (.aload_n 0, 1) := by decide +kernel
theorem dX6_touchTheHeld_40 : decode cX6_touchTheHeld 40 = .ok (.getfield 219, 3) := by decide +kernel
theorem dX6_touchTheHeld_43 : decode cX6_touchTheHeld 43 = .ok (.putfield 395, 3) := by decide +kernel
theorem dX6_touchTheHeld_46 : decode cX6_touchTheHeld 46 = .ok (.iinc 1 1, 3) := by decide +kernel
theorem dX6_touchTheHeld_49 : decode cX6_touchTheHeld 49 = .ok (.goto (-47), 3) := by decide +kernel
theorem dX6_touchTheHeld_52 : decode cX6_touchTheHeld 52 = .ok (.iconst 0, 1) := by decide +kernel
theorem dX6_touchTheHeld_53 : decode cX6_touchTheHeld 53 = .ok (.istore_n 1, 1) := by decide +kernel
theorem dX6_touchTheHeld_54 : decode cX6_touchTheHeld 54 = .ok (.iload_n 1, 1) := by decide +kernel
theorem dX6_touchTheHeld_55 : decode cX6_touchTheHeld 55 = .ok (.aload_n 0, 1) := by decide +kernel
theorem dX6_touchTheHeld_56 : decode cX6_touchTheHeld 56 = .ok (.getfield 16, 3) := by decide +kernel
theorem dX6_touchTheHeld_59 : decode cX6_touchTheHeld 59 = .ok (.invokevirtual 70, 3) := by decide +kernel
theorem dX6_touchTheHeld_62 : decode cX6_touchTheHeld 62 = .ok (.if_icmp .ge 52, 3) := by decide +kernel
theorem dX6_touchTheHeld_65 : decode cX6_touchTheHeld 65 = .ok (.aload_n 0, 1) := by decide +kernel
theorem dX6_touchTheHeld_66 : decode cX6_touchTheHeld 66 = .ok (.getfield 16, 3) := by decide +kernel
theorem dX6_touchTheHeld_69 : decode cX6_touchTheHeld 69 = .ok (.iload_n 1, 1) := by decide +kernel
theorem dX6_touchTheHeld_70 : decode cX6_touchTheHeld 70 = .ok (.invokevirtual 110, 3) := by decide +kernel
theorem dX6_touchTheHeld_73 : decode cX6_touchTheHeld 73 = .ok (.checkcast 79, 3) := by decide +kernel
theorem dX6_touchTheHeld_76 : decode cX6_touchTheHeld 76 = .ok (.astore_n 2, 1) := by decide +kernel
theorem dX6_touchTheHeld_77 : decode cX6_touchTheHeld 77 = .ok (.aload_n 2, 1) := by decide +kernel
theorem dX6_touchTheHeld_78 : decode cX6_touchTheHeld 78 = .ok (.getfield 251, 3) := by decide +kernel
theorem dX6_touchTheHeld_81 : decode cX6_touchTheHeld 81 = .ok (.ifCond .eq 27, 3) := by decide +kernel
theorem dX6_touchTheHeld_84 : decode cX6_touchTheHeld 84 = .ok (.aload_n 0, 1) := by decide +kernel
theorem dX6_touchTheHeld_85 : decode cX6_touchTheHeld 85 = .ok (.aload_n 2, 1) := by decide +kernel
theorem dX6_touchTheHeld_86 : decode cX6_touchTheHeld 86 = .ok (.getfield 84, 3) := by decide +kernel
theorem dX6_touchTheHeld_89 : decode cX6_touchTheHeld 89 = .ok (.invokevirtual 420, 3) := by decide +kernel
theorem dX6_touchTheHeld_92 : decode cX6_touchTheHeld 92 = .ok (.aload_n 0, 1) := by decide +kernel
theorem dX6_touchTheHeld_93 : decode cX6_touchTheHeld 93 = .ok (.aload_n 2, 1) := by decide +kernel
theorem dX6_touchTheHeld_94 : decode cX6_touchTheHeld 94 = .ok (.getfield 88, 3) := by decide +kernel
theorem dX6_touchTheHeld_97 : decode cX6_touchTheHeld 97 = .ok (.invokevirtual 420, 3) := by decide +kernel
theorem dX6_touchTheHeld_100 : decode cX6_touchTheHeld 100 = .ok (.aload_n 0, 1) := by decide +kernel
theorem dX6_touchTheHeld_101 : decode cX6_touchTheHeld 101 = .ok (.aload_n 2, 1) := by decide +kernel
theorem dX6_touchTheHeld_102 : decode cX6_touchTheHeld 102 = .ok (.getfield 91, 3) := by decide +kernel
theorem dX6_touchTheHeld_105 : decode cX6_touchTheHeld 105 = .ok (.invokevirtual 420, 3) := by decide +kernel
theorem dX6_touchTheHeld_108 : decode cX6_touchTheHeld 108 = .ok (.iinc 1 1, 3) := by decide +kernel
theorem dX6_touchTheHeld_111 : decode cX6_touchTheHeld 111 = .ok (.goto (-57), 3) := by decide +kernel
theorem dX6_touchTheHeld_114 : decode cX6_touchTheHeld 114 = .ok (.return_, 1) := by decide +kernel
theorem dX6_touch_0 : decode cX6_touch 0 = .ok (.aload_n 1, 1) := by decide +kernel
theorem dX6_touch_1 : decode cX6_touch 1 = .ok (.ifnull 11, 3) := by decide +kernel
theorem dX6_touch_4 : decode cX6_touch 4 = .ok (.aload_n 1, 1) := by decide +kernel
theorem dX6_touch_5 : decode cX6_touch 5 = .ok (.aload_n 0, 1) := by decide +kernel
theorem dX6_touch_6 : decode cX6_touch 6 = .ok (.getfield 219, 3) := by decide +kernel
theorem dX6_touch_9 : decode cX6_touch 9 = .ok (.putfield 395, 3) := by decide +kernel
theorem dX6_touch_12 : decode cX6_touch 12 = .ok (.return_, 1) := by decide +kernel
theorem dX6_putIdleToSleep_0 : decode cX6_putIdleToSleep 0 = .ok (.aload_n 0, 1) := by decide +kernel
theorem dX6_putIdleToSleep_1 : decode cX6_putIdleToSleep 1 = .ok (.getfield 16, 3) := by decide +kernel
theorem dX6_putIdleToSleep_4 : decode cX6_putIdleToSleep 4 = .ok (.invokevirtual 70, 3) := by decide +kernel
theorem dX6_putIdleToSleep_7 : decode cX6_putIdleToSleep 7 = .ok (.iconst 1, 1) := by decide +kernel
theorem dX6_putIdleToSleep_8 : decode cX6_putIdleToSleep 8 = .ok (.isub, 1) := by decide +kernel
theorem dX6_putIdleToSleep_9 : decode cX6_putIdleToSleep 9 = .ok (.istore_n 1, 1) := by decide +kernel
theorem dX6_putIdleToSleep_10 : decode cX6_putIdleToSleep 10 = .ok (.iload_n 1, 1) := by decide +kernel
theorem dX6_putIdleToSleep_11 : decode cX6_putIdleToSleep 11 = .ok (.ifCond .lt 46, 3) := by decide +kernel
theorem dX6_putIdleToSleep_14 : decode cX6_putIdleToSleep 14 = .ok (.aload_n 0, 1) := by decide +kernel
theorem dX6_putIdleToSleep_15 : decode cX6_putIdleToSleep 15 = .ok (.getfield 16, 3) := by decide +kernel
theorem dX6_putIdleToSleep_18 : decode cX6_putIdleToSleep 18 = .ok (.iload_n 1, 1) := by decide +kernel
theorem dX6_putIdleToSleep_19 : decode cX6_putIdleToSleep 19 = .ok (.invokevirtual 110, 3) := by decide +kernel
theorem dX6_putIdleToSleep_22 : decode cX6_putIdleToSleep 22 = .ok (.checkcast 79, 3) := by decide +kernel
theorem dX6_putIdleToSleep_25 : decode cX6_putIdleToSleep 25 = .ok (.astore_n 2, 1) := by decide +kernel
theorem dX6_putIdleToSleep_26 : decode cX6_putIdleToSleep 26 = .ok (.aload_n 2, 1) := by decide +kernel
theorem dX6_putIdleToSleep_27 : decode cX6_putIdleToSleep 27 = .ok (.getfield 251, 3) := by decide +kernel
theorem dX6_putIdleToSleep_30 : decode cX6_putIdleToSleep 30 = .ok (.ifCond .eq 21, 3) := by decide +kernel
theorem dX6_putIdleToSleep_33 : decode cX6_putIdleToSleep 33 = .ok (.aload_n 0, 1) := by decide +kernel
theorem dX6_putIdleToSleep_34 : decode cX6_putIdleToSleep 34 = .ok (.getfield 219, 3) := by decide +kernel
theorem dX6_putIdleToSleep_37 : decode cX6_putIdleToSleep 37 = .ok (.aload_n 2, 1) := by decide +kernel
theorem dX6_putIdleToSleep_38 : decode cX6_putIdleToSleep 38 = .ok (.getfield 395, 3) := by decide +kernel
theorem dX6_putIdleToSleep_41 : decode cX6_putIdleToSleep 41 = .ok (.isub, 1) := by decide +kernel
theorem dX6_putIdleToSleep_42 : decode cX6_putIdleToSleep 42 = .ok (.iconst 5, 1) := by decide +kernel
theorem dX6_putIdleToSleep_43 : decode cX6_putIdleToSleep 43 = .ok (.if_icmp .lt 8, 3) := by decide +kernel
theorem dX6_putIdleToSleep_46 : decode cX6_putIdleToSleep 46 = .ok (.aload_n 0, 1) := by decide +kernel
theorem dX6_putIdleToSleep_47 : decode cX6_putIdleToSleep 47 = .ok (.aload_n 2, 1) := by decide +kernel
theorem dX6_putIdleToSleep_48 : decode cX6_putIdleToSleep 48 = .ok (.invokevirtual 274, 3) := by decide +kernel
theorem dX6_putIdleToSleep_51 : decode cX6_putIdleToSleep 51 = .ok (.iinc 1 (-1), 3) := by decide +kernel
theorem dX6_putIdleToSleep_54 : decode cX6_putIdleToSleep 54 = .ok (.goto (-44), 3) := by decide +kernel
theorem dX6_putIdleToSleep_57 : decode cX6_putIdleToSleep 57 = .ok (.return_, 1) := by decide +kernel
theorem dX6_isShut_0 : decode cX6_isShut 0 = .ok (.aload_n 0, 1) := by decide +kernel
theorem dX6_isShut_1 : decode cX6_isShut 1 = .ok (.iload_n 1, 1) := by decide +kernel
theorem dX6_isShut_2 : decode cX6_isShut 2 = .ok (.invokevirtual 423, 3) := by decide +kernel
theorem dX6_isShut_5 : decode cX6_isShut 5 = .ok (.iconst 3, 1) := by decide +kernel
theorem dX6_isShut_6 : decode cX6_isShut 6 = .ok (.if_icmp .lt 7, 3) := by decide +kernel
theorem dX6_isShut_9 : decode cX6_isShut 9 = .ok (.iconst 1, 1) := by decide +kernel
theorem dX6_isShut_10 : decode cX6_isShut 10 = .ok (.goto 4, 3) := by decide +kernel
theorem dX6_isShut_13 : decode cX6_isShut 13 = .ok (.iconst 0, 1) := by decide +kernel
theorem dX6_isShut_14 : decode cX6_isShut 14 = .ok (.ireturn, 1) := by decide +kernel
theorem dX6_ask_0 : decode cX6_ask 0 = .ok (.iconst 0, 1) := by decide +kernel
theorem dX6_ask_1 : decode cX6_ask 1 = .ok (.istore_n 2, 1) := by decide +kernel
theorem dX6_ask_2 : decode cX6_ask 2 = .ok (.iconst 0, 1) := by decide +kernel
theorem dX6_ask_3 : decode cX6_ask 3 = .ok (.istore_n 3, 1) := by decide +kernel
theorem dX6_ask_4 : decode cX6_ask 4 = .ok (.iload_n 3, 1) := by decide +kernel
theorem dX6_ask_5 : decode cX6_ask 5 = .ok (.aload_n 0, 1) := by decide +kernel
theorem dX6_ask_6 : decode cX6_ask 6 = .ok (.getfield 16, 3) := by decide +kernel
theorem dX6_ask_9 : decode cX6_ask 9 = .ok (.invokevirtual 70, 3) := by decide +kernel
theorem dX6_ask_12 : decode cX6_ask 12 = .ok (.if_icmp .ge 71, 3) := by decide +kernel
theorem dX6_ask_15 : decode cX6_ask 15 = .ok (.aload_n 0, 1) := by decide +kernel
theorem dX6_ask_16 : decode cX6_ask 16 = .ok (.getfield 16, 3) := by decide +kernel
theorem dX6_ask_19 : decode cX6_ask 19 = .ok (.iload_n 3, 1) := by decide +kernel
theorem dX6_ask_20 : decode cX6_ask 20 = .ok (.invokevirtual 110, 3) := by decide +kernel
theorem dX6_ask_23 : decode cX6_ask 23 = .ok (.checkcast 79, 3) := by decide +kernel
theorem dX6_ask_26 : decode cX6_ask 26 = .ok (.astore 4, 2) := by decide +kernel
theorem dX6_ask_28 : decode cX6_ask 28 = .ok (.aload 4, 2) := by decide +kernel
theorem dX6_ask_30 : decode cX6_ask 30 = .ok (.getfield 289, 3) := by decide +kernel
theorem dX6_ask_33 : decode cX6_ask 33 = .ok (.iload_n 1, 1) := by decide +kernel
theorem dX6_ask_34 : decode cX6_ask 34 = .ok (.if_icmp .ne 43, 3) := by decide +kernel
theorem dX6_ask_37 : decode cX6_ask 37 = .ok (.aload 4, 2) := by decide +kernel
theorem dX6_ask_39 : decode cX6_ask 39 = .ok (.getfield 175, 3) := by decide +kernel
theorem dX6_ask_42 : decode cX6_ask 42 = .ok (.ifCond .eq 35, 3) := by decide +kernel
theorem dX6_ask_45 : decode cX6_ask 45 = .ok (.aload 4, 2) := by decide +kernel
theorem dX6_ask_47 : decode cX6_ask 47 = .ok (.getfield 251, 3) := by decide +kernel
theorem dX6_ask_50 : decode cX6_ask 50 = .ok (.ifCond .ne 11, 3) := by decide +kernel
theorem dX6_ask_53 : decode cX6_ask 53 = .ok (.aload 4, 2) := by decide +kernel
theorem dX6_ask_55 : decode cX6_ask 55 = .ok (.invokevirtual 414, 3) := by decide +kernel
theorem dX6_ask_58 : decode cX6_ask 58 = .ok (.ifCond .eq 19, 3) := by decide +kernel
theorem dX6_ask_61 : decode cX6_ask 61 = .ok (.aload_n 0, 1) := by decide +kernel
theorem dX6_ask_62 : decode cX6_ask 62 = .ok (.aload 4, 2) := by decide +kernel
theorem dX6_ask_64 : decode cX6_ask 64 = .ok (.iconst 0, 1) := by decide +kernel
theorem dX6_ask_65 : decode cX6_ask 65 = .ok (.invokevirtual 411, 3) := by decide +kernel
theorem dX6_ask_68 : decode cX6_ask 68 = .ok (.aload 4, 2) := by decide +kernel
theorem dX6_ask_70 : decode cX6_ask 70 = .ok (.iconst 0, 1) := by decide +kernel
theorem dX6_ask_71 : decode cX6_ask 71 = .ok (.putfield 175, 3) := by decide +kernel
theorem dX6_ask_74 : decode cX6_ask 74 = .ok (.iinc 2 1, 3) := by decide +kernel
theorem dX6_ask_77 : decode cX6_ask 77 = .ok (.iinc 3 1, 3) := by decide +kernel
theorem dX6_ask_80 : decode cX6_ask 80 = .ok (.goto (-76), 3) := by decide +kernel
theorem dX6_ask_83 : decode cX6_ask 83 = .ok (.iload_n 2, 1) := by decide +kernel
theorem dX6_ask_84 : decode cX6_ask 84 = .ok (.ireturn, 1) := by decide +kernel
theorem dX6_countStrike_0 : decode cX6_countStrike 0 = .ok (.iload_n 1, 1) := by decide +kernel
theorem dX6_countStrike_1 : decode cX6_countStrike 1 = .ok (.invokestatic 298, 3) := by decide +kernel
theorem dX6_countStrike_4 : decode cX6_countStrike 4 = .ok (.iload_n 2, 1) := by decide +kernel
theorem dX6_countStrike_5 : decode cX6_countStrike 5 = .ok (.ifCond .eq 11, 3) := by decide +kernel
theorem dX6_countStrike_8 : decode cX6_countStrike 8 = .ok (.aload_n 0, 1) := by decide +kernel
theorem dX6_countStrike_9 : decode cX6_countStrike 9 = .ok (.getfield 31, 3) := by decide +kernel
theorem dX6_countStrike_12 : decode cX6_countStrike 12 = .ok (.iload_n 1, 1) := by decide +kernel
theorem dX6_countStrike_13 : decode cX6_countStrike 13 = .ok (.iconst 0, 1) := by decide +kernel
theorem dX6_countStrike_14 : decode cX6_countStrike 14 = .ok (.iastore, 1) := by decide +kernel
theorem dX6_countStrike_15 : decode cX6_countStrike 15 = .ok (.return_, 1) := by decide +kernel
theorem dX6_countStrike_16 : decode cX6_countStrike 16 = .ok (.aload_n 0, 1) := by decide +kernel
theorem dX6_countStrike_17 : decode cX6_countStrike 17 = .ok (.getfield 31, 3) := by decide +kernel
theorem dX6_countStrike_20 : decode cX6_countStrike 20 = .ok (.iload_n 1, 1) := by decide +kernel
theorem dX6_countStrike_21 : decode cX6_countStrike 21 = .ok (.dup2, 1) := by decide +kernel
theorem dX6_countStrike_22 : decode cX6_countStrike 22 = .ok (.iaload, 1) := by decide +kernel
theorem dX6_countStrike_23 : decode cX6_countStrike 23 = .ok (.iconst 1, 1) := by decide +kernel
theorem dX6_countStrike_24 : decode cX6_countStrike 24 = .ok (.iadd, 1) := by decide +kernel
theorem dX6_countStrike_25 : decode cX6_countStrike 25 = .ok (.iastore, 1) := by decide +kernel
theorem dX6_countStrike_26 : decode cX6_countStrike 26 = .ok (.aload_n 0, 1) := by decide +kernel
theorem dX6_countStrike_27 : decode cX6_countStrike 27 = .ok (.iload_n 1, 1) := by decide +kernel
theorem dX6_countStrike_28 : decode cX6_countStrike 28 = .ok (.invokevirtual 282, 3) := by decide +kernel
theorem dX6_countStrike_31 : decode cX6_countStrike 31 = .ok (.ifCond .eq 12, 3) := by decide +kernel
theorem dX6_countStrike_34 : decode cX6_countStrike 34 = .ok (.aload_n 0, 1) := by decide +kernel
theorem dX6_countStrike_35 : decode cX6_countStrike 35 = .ok (.getfield 38, 3) := by decide +kernel
theorem dX6_countStrike_38 : decode cX6_countStrike 38 = .ok (.iconst 5, 1) := by decide +kernel
theorem dX6_countStrike_39 : decode cX6_countStrike 39 = .ok (.iload_n 1, 1) := by decide +kernel
theorem dX6_countStrike_40 : decode cX6_countStrike 40 = .ok (.invokevirtual 398, 3) := by decide +kernel
theorem dX6_countStrike_43 : decode cX6_countStrike 43 = .ok (.return_, 1) := by decide +kernel
theorem dX6_countPlaces_0 : decode cX6_countPlaces 0 = .ok (.iconst 0, 1) := by decide +kernel
theorem dX6_countPlaces_1 : decode cX6_countPlaces 1 = .ok (.istore_n 1, 1) := by decide +kernel
theorem dX6_countPlaces_2 : decode cX6_countPlaces 2 = .ok (.iconst 0, 1) := by decide +kernel
theorem dX6_countPlaces_3 : decode cX6_countPlaces 3 = .ok (.istore_n 2, 1) := by decide +kernel
theorem dX6_countPlaces_4 : decode cX6_countPlaces 4 = .ok (.iload_n 2, 1) := by decide +kernel
theorem dX6_countPlaces_5 : decode cX6_countPlaces 5 = .ok (.aload_n 0, 1) := by decide +kernel
theorem dX6_countPlaces_6 : decode cX6_countPlaces 6 = .ok (.getfield 16, 3) := by decide +kernel
theorem dX6_countPlaces_9 : decode cX6_countPlaces 9 = .ok (.invokevirtual 70, 3) := by decide +kernel
theorem dX6_countPlaces_12 : decode cX6_countPlaces 12 = .ok (.if_icmp .ge 35, 3) := by decide +kernel
theorem dX6_countPlaces_15 : decode cX6_countPlaces 15 = .ok (.aload_n 0, 1) := by decide +kernel
theorem dX6_countPlaces_16 : decode cX6_countPlaces 16 = .ok (.getfield 16, 3) := by decide +kernel
theorem dX6_countPlaces_19 : decode cX6_countPlaces 19 = .ok (.iload_n 2, 1) := by decide +kernel
theorem dX6_countPlaces_20 : decode cX6_countPlaces 20 = .ok (.invokevirtual 110, 3) := by decide +kernel
theorem dX6_countPlaces_23 : decode cX6_countPlaces 23 = .ok (.checkcast 79, 3) := by decide +kernel
theorem dX6_countPlaces_26 : decode cX6_countPlaces 26 = .ok (.astore_n 3, 1) := by decide +kernel
theorem dX6_countPlaces_27 : decode cX6_countPlaces 27 = .ok (.aload_n 3, 1) := by decide +kernel
theorem dX6_countPlaces_28 : decode cX6_countPlaces 28 = .ok (.invokevirtual 381, 3) := by decide +kernel
theorem dX6_countPlaces_31 : decode cX6_countPlaces 31 = .ok (.ifnonnull 10, 3) := by decide +kernel
theorem dX6_countPlaces_34 : decode cX6_countPlaces 34 = .ok (.iload_n 1, 1) := by decide +kernel
theorem dX6_countPlaces_35 : decode cX6_countPlaces 35 = .ok (.aload_n 3, 1) := by decide +kernel
theorem dX6_countPlaces_36 : decode cX6_countPlaces 36 = .ok (.getfield 367, 3) := by decide +kernel
theorem dX6_countPlaces_39 : decode cX6_countPlaces 39 = .ok (.iadd, 1) := by decide +kernel
theorem dX6_countPlaces_40 : decode cX6_countPlaces 40 = .ok (.istore_n 1, 1) := by decide +kernel
theorem dX6_countPlaces_41 : decode cX6_countPlaces 41 = .ok (.iinc 2 1, 3) := by decide +kernel
theorem dX6_countPlaces_44 : decode cX6_countPlaces 44 = .ok (.goto (-40), 3) := by decide +kernel
theorem dX6_countPlaces_47 : decode cX6_countPlaces 47 = .ok (.iload_n 1, 1) := by decide +kernel
theorem dX6_countPlaces_48 : decode cX6_countPlaces 48 = .ok (.ireturn, 1) := by decide +kernel
theorem dX6_countLines_0 : decode cX6_countLines 0 = .ok (.iconst 0, 1) := by decide +kernel
theorem dX6_countLines_1 : decode cX6_countLines 1 = .ok (.istore_n 1, 1) := by decide +kernel
theorem dX6_countLines_2 : decode cX6_countLines 2 = .ok (.iconst 0, 1) := by decide +kernel
theorem dX6_countLines_3 : decode cX6_countLines 3 = .ok (.istore_n 2, 1) := by decide +kernel
theorem dX6_countLines_4 : decode cX6_countLines 4 = .ok (.iload_n 2, 1) := by decide +kernel
theorem dX6_countLines_5 : decode cX6_countLines 5 = .ok (.aload_n 0, 1) := by decide +kernel
theorem dX6_countLines_6 : decode cX6_countLines 6 = .ok (.getfield 16, 3) := by decide +kernel
theorem dX6_countLines_9 : decode cX6_countLines 9 = .ok (.invokevirtual 70, 3) := by decide +kernel
theorem dX6_countLines_12 : decode cX6_countLines 12 = .ok (.if_icmp .ge 35, 3) := by decide +kernel
theorem dX6_countLines_15 : decode cX6_countLines 15 = .ok (.aload_n 0, 1) := by decide +kernel
theorem dX6_countLines_16 : decode cX6_countLines 16 = .ok (.getfield 16, 3) := by decide +kernel
theorem dX6_countLines_19 : decode cX6_countLines 19 = .ok (.iload_n 2, 1) := by decide +kernel
theorem dX6_countLines_20 : decode cX6_countLines 20 = .ok (.invokevirtual 110, 3) := by decide +kernel
theorem dX6_countLines_23 : decode cX6_countLines 23 = .ok (.checkcast 79, 3) := by decide +kernel
theorem dX6_countLines_26 : decode cX6_countLines 26 = .ok (.getfield 289, 3) := by decide +kernel
theorem dX6_countLines_29 : decode cX6_countLines 29 = .ok (.istore_n 3, 1) := by decide +kernel
theorem dX6_countLines_30 : decode cX6_countLines 30 = .ok (.iload_n 3, 1) := by decide +kernel
theorem dX6_countLines_31 : decode cX6_countLines 31 = .ok (.iconst (-1), 1) := by decide +kernel
theorem dX6_countLines_32 : decode cX6_countLines 32 = .ok (.if_icmp .eq 9, 3) := by decide +kernel
theorem dX6_countLines_35 : decode cX6_countLines 35 = .ok (.iload_n 1, 1) := by decide +kernel
theorem dX6_countLines_36 : decode cX6_countLines 36 = .ok (.iconst 1, 1) := by decide +kernel
theorem dX6_countLines_37 : decode cX6_countLines 37 = .ok (.iload_n 3, 1) := by decide +kernel
theorem dX6_countLines_38 : decode cX6_countLines 38 = .ok (.ishl, 1) := by decide +kernel
theorem dX6_countLines_39 : decode cX6_countLines 39 = .ok (.ior, 1) := by decide +kernel
theorem dX6_countLines_40 : decode cX6_countLines 40 = .ok (.istore_n 1, 1) := by decide +kernel
theorem dX6_countLines_41 : decode cX6_countLines 41 = .ok (.iinc 2 1, 3) := by decide +kernel
theorem dX6_countLines_44 : decode cX6_countLines 44 = .ok (.goto (-40), 3) := by decide +kernel
theorem dX6_countLines_47 : decode cX6_countLines 47 = .ok (.iload_n 1, 1) := by decide +kernel
theorem dX6_countLines_48 : decode cX6_countLines 48 = .ok (.invokestatic 426, 3) := by decide +kernel
theorem dX6_countLines_51 : decode cX6_countLines 51 = .ok (.ireturn, 1) := by decide +kernel
theorem dX6_countSlots_0 : decode cX6_countSlots 0 = .ok (.iconst 0, 1) := by decide +kernel
theorem dX6_countSlots_1 : decode cX6_countSlots 1 = .ok (.istore_n 1, 1) := by decide +kernel
theorem dX6_countSlots_2 : decode cX6_countSlots 2 = .ok (.iconst 0, 1) := by decide +kernel
theorem dX6_countSlots_3 : decode cX6_countSlots 3 = .ok (.istore_n 2, 1) := by decide +kernel
theorem dX6_countSlots_4 : decode cX6_countSlots 4 = .ok (.iload_n 2, 1) := by decide +kernel
theorem dX6_countSlots_5 : decode cX6_countSlots 5 = .ok (.aload_n 0, 1) := by decide +kernel
theorem dX6_countSlots_6 : decode cX6_countSlots 6 = .ok (.getfield 28, 3) := by decide +kernel
theorem dX6_countSlots_9 : decode cX6_countSlots 9 = .ok (.invokevirtual 70, 3) := by decide +kernel
theorem dX6_countSlots_12 : decode cX6_countSlots 12 = .ok (.if_icmp .ge 29, 3) := by decide +kernel
theorem dX6_countSlots_15 : decode cX6_countSlots 15 = .ok (.aload_n 0, 1) := by decide +kernel
theorem dX6_countSlots_16 : decode cX6_countSlots 16 = .ok (.getfield 28, 3) := by decide +kernel
theorem dX6_countSlots_19 : decode cX6_countSlots 19 = .ok (.iload_n 2, 1) := by decide +kernel
theorem dX6_countSlots_20 : decode cX6_countSlots 20 = .ok (.invokevirtual 110, 3) := by decide +kernel
theorem dX6_countSlots_23 : decode cX6_countSlots 23 = .ok (.checkcast 42, 3) := by decide +kernel
theorem dX6_countSlots_26 : decode cX6_countSlots 26 = .ok (.getfield 240, 3) := by decide +kernel
theorem dX6_countSlots_29 : decode cX6_countSlots 29 = .ok (.ifnull 6, 3) := by decide +kernel
theorem dX6_countSlots_32 : decode cX6_countSlots 32 = .ok (.iinc 1 1, 3) := by decide +kernel
theorem dX6_countSlots_35 : decode cX6_countSlots 35 = .ok (.iinc 2 1, 3) := by decide +kernel
theorem dX6_countSlots_38 : decode cX6_countSlots 38 = .ok (.goto (-34), 3) := by decide +kernel
theorem dX6_countSlots_41 : decode cX6_countSlots 41 = .ok (.iload_n 1, 1) := by decide +kernel
theorem dX6_countSlots_42 : decode cX6_countSlots 42 = .ok (.ireturn, 1) := by decide +kernel
