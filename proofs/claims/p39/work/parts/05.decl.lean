theorem dL_come_0 : decode cL_come 0 = .ok (.aload_n 0, 1) := by decide +kernel
theorem dL_come_1 : decode cL_come 1 = .ok (.iload_n 1, 1) := by decide +kernel
theorem dL_come_2 : decode cL_come 2 = .ok (.iload_n 2, 1) := by decide +kernel
theorem dL_come_3 : decode cL_come 3 = .ok (.invokevirtual 7, 3) := by decide +kernel
theorem dL_come_6 : decode cL_come 6 = .ok (.i2l, 1) := by decide +kernel
theorem dL_come_7 : decode cL_come 7 = .ok (.lreturn, 1) := by decide +kernel
theorem dL_withdraw_0 : decode cL_withdraw 0 = .ok (.aload_n 0, 1) := by decide +kernel
theorem dL_withdraw_1 : decode cL_withdraw 1 = .ok (.iload_n 1, 1) := by decide +kernel
theorem dL_withdraw_2 : decode cL_withdraw 2 = .ok (.invokevirtual 13, 3) := by decide +kernel
theorem dL_withdraw_5 : decode cL_withdraw 5 = .ok (.i2l, 1) := by decide +kernel
theorem dL_withdraw_6 : decode cL_withdraw 6 = .ok (.lreturn, 1) := by decide +kernel
theorem dL_voice_0 : decode cL_voice 0 = .ok (.aload_n 0, 1) := by decide +kernel
theorem dL_voice_1 : decode cL_voice 1 = .ok (.iload_n 1, 1) := by decide +kernel
theorem dL_voice_2 : decode cL_voice 2 = .ok (.iload_n 2, 1) := by decide +kernel
theorem dL_voice_3 : decode cL_voice 3 = .ok (.invokevirtual 17, 3) := by decide +kernel
theorem dL_voice_6 : decode cL_voice 6 = .ok (.i2l, 1) := by decide +kernel
theorem dL_voice_7 : decode cL_voice 7 = .ok (.lreturn, 1) := by decide +kernel
theorem dL_choose_0 : decode cL_choose 0 = .ok (.aload_n 0, 1) := by decide +kernel
theorem dL_choose_1 : decode cL_choose 1 = .ok (.iload_n 1, 1) := by decide +kernel
theorem dL_choose_2 : decode cL_choose 2 = .ok (.invokevirtual 21, 3) := by decide +kernel
theorem dL_choose_5 : decode cL_choose 5 = .ok (.i2l, 1) := by decide +kernel
theorem dL_choose_6 : decode cL_choose 6 = .ok (.lreturn, 1) := by decide +kernel
theorem dL_leave_0 : decode cL_leave 0 = .ok (.aload_n 0, 1) := by decide +kernel
theorem dL_leave_1 : decode cL_leave 1 = .ok (.iload_n 1, 1) := by decide +kernel
theorem dL_leave_2 : decode cL_leave 2 = .ok (.invokevirtual 24, 3) := by decide +kernel
theorem dL_leave_5 : decode cL_leave 5 = .ok (.i2l, 1) := by decide +kernel
theorem dL_leave_6 : decode cL_leave 6 = .ok (.lreturn, 1) := by decide +kernel
theorem dL_feast_0 : decode cL_feast 0 = .ok (.aload_n 0, 1) := by decide +kernel
theorem dL_feast_1 : decode cL_feast 1 = .ok (.iload_n 1, 1) := by decide +kernel
theorem dL_feast_2 : decode cL_feast 2 = .ok (.iload_n 2, 1) := by decide +kernel
theorem dL_feast_3 : decode cL_feast 3 = .ok (.invokevirtual 27, 3) := by decide +kernel
theorem dL_feast_6 : decode cL_feast 6 = .ok (.i2l, 1) := by decide +kernel
theorem dL_feast_7 : decode cL_feast 7 = .ok (.lreturn, 1) := by decide +kernel
theorem dL_breach_0 : decode cL_breach 0 = .ok (.aload_n 0, 1) := by decide +kernel
theorem dL_breach_1 : decode cL_breach 1 = .ok (.iload_n 1, 1) := by decide +kernel
theorem dL_breach_2 : decode cL_breach 2 = .ok (.iload_n 2, 1) := by decide +kernel
theorem dL_breach_3 : decode cL_breach 3 = .ok (.invokevirtual 30, 3) := by decide +kernel
theorem dL_breach_6 : decode cL_breach 6 = .ok (.i2l, 1) := by decide +kernel
theorem dL_breach_7 : decode cL_breach 7 = .ok (.lreturn, 1) := by decide +kernel
theorem dL_pardon_0 : decode cL_pardon 0 = .ok (.aload_n 0, 1) := by decide +kernel
theorem dL_pardon_1 : decode cL_pardon 1 = .ok (.iload_n 1, 1) := by decide +kernel
theorem dL_pardon_2 : decode cL_pardon 2 = .ok (.invokevirtual 33, 3) := by decide +kernel
theorem dL_pardon_5 : decode cL_pardon 5 = .ok (.i2l, 1) := by decide +kernel
theorem dL_pardon_6 : decode cL_pardon 6 = .ok (.lreturn, 1) := by decide +kernel
theorem dL_gift_0 : decode cL_gift 0 = .ok (.aload_n 0, 1) := by decide +kernel
theorem dL_gift_1 : decode cL_gift 1 = .ok (.iload_n 1, 1) := by decide +kernel
theorem dL_gift_2 : decode cL_gift 2 = .ok (.invokevirtual 36, 3) := by decide +kernel
theorem dL_gift_5 : decode cL_gift 5 = .ok (.i2l, 1) := by decide +kernel
theorem dL_gift_6 : decode cL_gift 6 = .ok (.lreturn, 1) := by decide +kernel
theorem dL_weeks_0 : decode cL_weeks 0 = .ok (.aload_n 0, 1) := by decide +kernel
theorem dL_weeks_1 : decode cL_weeks 1 = .ok (.iload_n 1, 1) := by decide +kernel
theorem dL_weeks_2 : decode cL_weeks 2 = .ok (.invokevirtual 39, 3) := by decide +kernel
theorem dL_weeks_5 : decode cL_weeks 5 = .ok (.i2l, 1) := by decide +kernel
theorem dL_weeks_6 : decode cL_weeks 6 = .ok (.lreturn, 1) := by decide +kernel
theorem dL_brotherOf_0 : decode cL_brotherOf 0 = .ok (.aload_n 0, 1) := by decide +kernel
theorem dL_brotherOf_1 : decode cL_brotherOf 1 = .ok (.iload_n 1, 1) := by decide +kernel
theorem dL_brotherOf_2 : decode cL_brotherOf 2 = .ok (.iload_n 2, 1) := by decide +kernel
theorem dL_brotherOf_3 : decode cL_brotherOf 3 = .ok (.invokevirtual 42, 3) := by decide +kernel
theorem dL_brotherOf_6 : decode cL_brotherOf 6 = .ok (.i2l, 1) := by decide +kernel
theorem dL_brotherOf_7 : decode cL_brotherOf 7 = .ok (.lreturn, 1) := by decide +kernel
theorem dL_broke_0 : decode cL_broke 0 = .ok (.aload_n 0, 1) := by decide +kernel
theorem dL_broke_1 : decode cL_broke 1 = .ok (.iload_n 1, 1) := by decide +kernel
theorem dL_broke_2 : decode cL_broke 2 = .ok (.iload_n 2, 1) := by decide +kernel
theorem dL_broke_3 : decode cL_broke 3 = .ok (.invokevirtual 45, 3) := by decide +kernel
theorem dL_broke_6 : decode cL_broke 6 = .ok (.i2l, 1) := by decide +kernel
theorem dL_broke_7 : decode cL_broke 7 = .ok (.lreturn, 1) := by decide +kernel
theorem dL_inCell_0 : decode cL_inCell 0 = .ok (.aload_n 0, 1) := by decide +kernel
theorem dL_inCell_1 : decode cL_inCell 1 = .ok (.iload_n 1, 1) := by decide +kernel
theorem dL_inCell_2 : decode cL_inCell 2 = .ok (.invokevirtual 48, 3) := by decide +kernel
theorem dL_inCell_5 : decode cL_inCell 5 = .ok (.i2l, 1) := by decide +kernel
theorem dL_inCell_6 : decode cL_inCell 6 = .ok (.lreturn, 1) := by decide +kernel
theorem dL_entitled_0 : decode cL_entitled 0 = .ok (.aload_n 0, 1) := by decide +kernel
theorem dL_entitled_1 : decode cL_entitled 1 = .ok (.invokevirtual 51, 3) := by decide +kernel
theorem dL_entitled_4 : decode cL_entitled 4 = .ok (.i2l, 1) := by decide +kernel
theorem dL_entitled_5 : decode cL_entitled 5 = .ok (.lreturn, 1) := by decide +kernel
theorem dL_entitledAgain_0 : decode cL_entitledAgain 0 = .ok (.aload_n 0, 1) := by decide +kernel
theorem dL_entitledAgain_1 : decode cL_entitledAgain 1 = .ok (.invokevirtual 55, 3) := by decide +kernel
theorem dL_entitledAgain_4 : decode cL_entitledAgain 4 = .ok (.i2l, 1) := by decide +kernel
theorem dL_entitledAgain_5 : decode cL_entitledAgain 5 = .ok (.lreturn, 1) := by decide +kernel
theorem dL_voices_0 : decode cL_voices 0 = .ok (.aload_n 0, 1) := by decide +kernel
theorem dL_voices_1 : decode cL_voices 1 = .ok (.iload_n 1, 1) := by decide +kernel
theorem dL_voices_2 : decode cL_voices 2 = .ok (.invokevirtual 58, 3) := by decide +kernel
theorem dL_voices_5 : decode cL_voices 5 = .ok (.i2l, 1) := by decide +kernel
theorem dL_voices_6 : decode cL_voices 6 = .ok (.lreturn, 1) := by decide +kernel
theorem dL_voicesAgain_0 : decode cL_voicesAgain 0 = .ok (.aload_n 0, 1) := by decide +kernel
theorem dL_voicesAgain_1 : decode cL_voicesAgain 1 = .ok (.iload_n 1, 1) := by decide +kernel
theorem dL_voicesAgain_2 : decode cL_voicesAgain 2 = .ok (.invokevirtual 61, 3) := by decide +kernel
theorem dL_voicesAgain_5 : decode cL_voicesAgain 5 = .ok (.i2l, 1) := by decide +kernel
theorem dL_voicesAgain_6 : decode cL_voicesAgain 6 = .ok (.lreturn, 1) := by decide +kernel
theorem dL_ranked_0 : decode cL_ranked 0 = .ok (.aload_n 0, 1) := by decide +kernel
theorem dL_ranked_1 : decode cL_ranked 1 = .ok (.iload_n 1, 1) := by decide +kernel
theorem dL_ranked_2 : decode cL_ranked 2 = .ok (.invokevirtual 64, 3) := by decide +kernel
theorem dL_ranked_5 : decode cL_ranked 5 = .ok (.i2l, 1) := by decide +kernel
theorem dL_ranked_6 : decode cL_ranked 6 = .ok (.lreturn, 1) := by decide +kernel
theorem dL_senior_0 : decode cL_senior 0 = .ok (.aload_n 0, 1) := by decide +kernel
theorem dL_senior_1 : decode cL_senior 1 = .ok (.iload_n 1, 1) := by decide +kernel
theorem dL_senior_2 : decode cL_senior 2 = .ok (.invokevirtual 67, 3) := by decide +kernel
theorem dL_senior_5 : decode cL_senior 5 = .ok (.i2l, 1) := by decide +kernel
theorem dL_senior_6 : decode cL_senior 6 = .ok (.lreturn, 1) := by decide +kernel
theorem dL_shabby_0 : decode cL_shabby 0 = .ok (.aload_n 0, 1) := by decide +kernel
theorem dL_shabby_1 : decode cL_shabby 1 = .ok (.iload_n 1, 1) := by decide +kernel
theorem dL_shabby_2 : decode cL_shabby 2 = .ok (.invokevirtual 70, 3) := by decide +kernel
theorem dL_shabby_5 : decode cL_shabby 5 = .ok (.i2l, 1) := by decide +kernel
theorem dL_shabby_6 : decode cL_shabby 6 = .ok (.lreturn, 1) := by decide +kernel
theorem dL_nextFeast_0 : decode cL_nextFeast 0 = .ok (.aload_n 0, 1) := by decide +kernel
theorem dL_nextFeast_1 : decode cL_nextFeast 1 = .ok (.invokevirtual 73, 3) := by decide +kernel
theorem dL_nextFeast_4 : decode cL_nextFeast 4 = .ok (.i2l, 1) := by decide +kernel
theorem dL_nextFeast_5 : decode cL_nextFeast 5 = .ok (.lreturn, 1) := by decide +kernel
theorem dL_wouldGet_0 : decode cL_wouldGet 0 = .ok (.aload_n 0, 1) := by decide +kernel
theorem dL_wouldGet_1 : decode cL_wouldGet 1 = .ok (.iload_n 1, 1) := by decide +kernel
theorem dL_wouldGet_2 : decode cL_wouldGet 2 = .ok (.iload_n 2, 1) := by decide +kernel
theorem dL_wouldGet_3 : decode cL_wouldGet 3 = .ok (.invokevirtual 76, 3) := by decide +kernel
theorem dL_wouldGet_6 : decode cL_wouldGet 6 = .ok (.i2l, 1) := by decide +kernel
theorem dL_wouldGet_7 : decode cL_wouldGet 7 = .ok (.lreturn, 1) := by decide +kernel
theorem dL_chestIn_0 : decode cL_chestIn 0 = .ok (.aload_n 0, 1) := by decide +kernel
theorem dL_chestIn_1 : decode cL_chestIn 1 = .ok (.iload_n 1, 1) := by decide +kernel
theorem dL_chestIn_2 : decode cL_chestIn 2 = .ok (.invokevirtual 79, 3) := by decide +kernel
theorem dL_chestIn_5 : decode cL_chestIn 5 = .ok (.i2l, 1) := by decide +kernel
theorem dL_chestIn_6 : decode cL_chestIn 6 = .ok (.lreturn, 1) := by decide +kernel
theorem dL_run_0 : decode cL_run 0 = .ok (.aload_n 0, 1) := by decide +kernel
theorem dL_run_1 : decode cL_run 1 = .ok (.invokevirtual 85, 3) := by decide +kernel
theorem dL_run_4 : decode cL_run 4 = .ok (.i2l, 1) := by decide +kernel
theorem dL_run_5 : decode cL_run 5 = .ok (.lreturn, 1) := by decide +kernel
theorem dL_account_0 : decode cL_account 0 = .ok (.aload_n 0, 1) := by decide +kernel
theorem dL_account_1 : decode cL_account 1 = .ok (.iload_n 1, 1) := by decide +kernel
theorem dL_account_2 : decode cL_account 2 = .ok (.invokevirtual 101, 3) := by decide +kernel
theorem dL_account_5 : decode cL_account 5 = .ok (.i2l, 1) := by decide +kernel
theorem dL_account_6 : decode cL_account 6 = .ok (.lreturn, 1) := by decide +kernel
theorem dL_isBalanced_0 : decode cL_isBalanced 0 = .ok (.aload_n 0, 1) := by decide +kernel
theorem dL_isBalanced_1 : decode cL_isBalanced 1 = .ok (.invokevirtual 104, 3) := by decide +kernel
theorem dL_isBalanced_4 : decode cL_isBalanced 4 = .ok (.i2l, 1) := by decide +kernel
theorem dL_isBalanced_5 : decode cL_isBalanced 5 = .ok (.lreturn, 1) := by decide +kernel
theorem dL_undo_0 : decode cL_undo 0 = .ok (.aload_n 0, 1) := by decide +kernel
theorem dL_undo_1 : decode cL_undo 1 = .ok (.invokevirtual 127, 3) := by decide +kernel
theorem dL_undo_4 : decode cL_undo 4 = .ok (.i2l, 1) := by decide +kernel
theorem dL_undo_5 : decode cL_undo 5 = .ok (.lreturn, 1) := by decide +kernel
theorem dL_save_0 : decode cL_save 0 = .ok (.aload_n 0, 1) := by decide +kernel
theorem dL_save_1 : decode cL_save 1 = .ok (.invokevirtual 130, 3) := by decide +kernel
theorem dL_save_4 : decode cL_save 4 = .ok (.i2l, 1) := by decide +kernel
theorem dL_save_5 : decode cL_save 5 = .ok (.lreturn, 1) := by decide +kernel
theorem dL_restore_0 : decode cL_restore 0 = .ok (.aload_n 0, 1) := by decide +kernel
theorem dL_restore_1 : decode cL_restore 1 = .ok (.invokevirtual 133, 3) := by decide +kernel
theorem dL_restore_4 : decode cL_restore 4 = .ok (.i2l, 1) := by decide +kernel
theorem dL_restore_5 : decode cL_restore 5 = .ok (.lreturn, 1) := by decide +kernel
theorem dL_cell_0 : decode cL_cell 0 = .ok (.iload_n 1, 1) := by decide +kernel
theorem dL_cell_1 : decode cL_cell 1 = .ok (.aload_n 0, 1) := by decide +kernel
theorem dL_cell_2 : decode cL_cell 2 = .ok (.arraylength, 1) := by decide +kernel
theorem dL_cell_3 : decode cL_cell 3 = .ok (.if_icmp .ge 9, 3) := by decide +kernel
theorem dL_cell_6 : decode cL_cell 6 = .ok (.aload_n 0, 1) := by decide +kernel
theorem dL_cell_7 : decode cL_cell 7 = .ok (.iload_n 1, 1) := by decide +kernel
theorem dL_cell_8 : decode cL_cell 8 = .ok (.iaload, 1) := by decide +kernel
theorem dL_cell_9 : decode cL_cell 9 = .ok (.goto 11, 3) := by decide +kernel
theorem dL_cell_12 : decode cL_cell 12 = .ok (.sipush 7919, 3) := by decide +kernel
theorem dL_cell_15 : decode cL_cell 15 = .ok (.iload_n 1, 1) := by decide +kernel
theorem dL_cell_16 : decode cL_cell 16 = .ok (.imul, 1) := by decide +kernel
theorem dL_cell_17 : decode cL_cell 17 = .ok (.bipush 12, 2) := by decide +kernel
theorem dL_cell_19 : decode cL_cell 19 = .ok (.iadd, 1) := by decide +kernel
theorem dL_cell_20 : decode cL_cell 20 = .ok (.ireturn, 1) := by decide +kernel
theorem dL_pick_0 : decode cL_pick 0 = .ok (.iload_n 0, 1) := by decide +kernel
theorem dL_pick_1 : decode cL_pick 1 = .ok (.ldc 136, 2) := by decide +kernel
theorem dL_pick_3 : decode cL_pick 3 = .ok (.iand, 1) := by decide +kernel
theorem dL_pick_4 : decode cL_pick 4 = .ok (.iload_n 1, 1) := by decide +kernel
theorem dL_pick_5 : decode cL_pick 5 = .ok (.irem, 1) := by decide +kernel
theorem dL_pick_6 : decode cL_pick 6 = .ok (.ireturn, 1) := by decide +kernel
theorem dL_told_0 : decode cL_told 0 = .ok (.iconst 0, 1) := by decide +kernel
theorem dL_told_1 : decode cL_told 1 = .ok (.istore_n 2, 1) := by decide +kernel
theorem dL_told_2 : decode cL_told 2 = .ok (.iload_n 2, 1) := by decide +kernel
theorem dL_told_3 : decode cL_told 3 = .ok (.aload_n 1, 1) := by decide +kernel
theorem dL_told_4 : decode cL_told 4 = .ok (.invokevirtual 137, 3) := by decide +kernel
theorem dL_told_7 : decode cL_told 7 = .ok (.if_icmp .ge 19, 3) := by decide +kernel
theorem dL_told_10 : decode cL_told 10 = .ok (.aload_n 0, 1) := by decide +kernel
theorem dL_told_11 : decode cL_told 11 = .ok (.aload_n 1, 1) := by decide +kernel
theorem dL_told_12 : decode cL_told 12 = .ok (.iload_n 2, 1) := by decide +kernel
theorem dL_told_13 : decode cL_told 13 = .ok (.invokevirtual 142, 3) := by decide +kernel
theorem dL_told_16 : decode cL_told 16 = .ok (.invokevirtual 82, 3) := by decide +kernel
theorem dL_told_19 : decode cL_told 19 = .ok (.pop, 1) := by decide +kernel
theorem dL_told_20 : decode cL_told 20 = .ok (.iinc 2 1, 3) := by decide +kernel
theorem dL_told_23 : decode cL_told 23 = .ok (.goto (-21), 3) := by decide +kernel
theorem dL_told_26 : decode cL_told 26 = .ok (.aload_n 0, 1) := by decide +kernel
theorem dL_told_27 : decode cL_told 27 = .ok (.invokestatic 146, 3) := by decide +kernel
theorem dL_told_30 : decode cL_told 30 = .ok (.lreturn, 1) := by decide +kernel
theorem dL_mark_0 : decode cL_mark 0 = .ok (.ldc2_w 151, 3) := by decide +kernel
theorem dL_mark_3 : decode cL_mark 3 = .ok (.lstore_n 1, 1) := by decide +kernel
theorem dL_mark_4 : decode cL_mark 4 = .ok (.iconst 0, 1) := by decide +kernel
theorem dL_mark_5 : decode cL_mark 5 = .ok (.istore_n 3, 1) := by decide +kernel
theorem dL_mark_6 : decode cL_mark 6 = .ok (.iload_n 3, 1) := by decide +kernel
theorem dL_mark_7 : decode cL_mark 7 = .ok (.bipush 15, 2) := by decide +kernel
theorem dL_mark_9 : decode cL_mark 9 = .ok (.if_icmp .ge 21, 3) := by decide +kernel
theorem dL_mark_12 : decode cL_mark 12 = .ok (.ldc2_w 153, 3) := by decide +kernel
theorem dL_mark_15 : decode cL_mark 15 = .ok (.lload_n 1, 1) := by decide +kernel
theorem dL_mark_16 : decode cL_mark 16 = .ok (.lmul, 1) := by decide +kernel
theorem dL_mark_17 : decode cL_mark 17 = .ok (.aload_n 0, 1) := by decide +kernel
theorem dL_mark_18 : decode cL_mark 18 = .ok (.iload_n 3, 1) := by decide +kernel
theorem dL_mark_19 : decode cL_mark 19 = .ok (.invokestatic 155, 3) := by decide +kernel
theorem dL_mark_22 : decode cL_mark 22 = .ok (.ladd, 1) := by decide +kernel
theorem dL_mark_23 : decode cL_mark 23 = .ok (.lstore_n 1, 1) := by decide +kernel
theorem dL_mark_24 : decode cL_mark 24 = .ok (.iinc 3 1, 3) := by decide +kernel
theorem dL_mark_27 : decode cL_mark 27 = .ok (.goto (-21), 3) := by decide +kernel
theorem dL_mark_30 : decode cL_mark 30 = .ok (.iconst 0, 1) := by decide +kernel
theorem dL_mark_31 : decode cL_mark 31 = .ok (.istore_n 3, 1) := by decide +kernel
theorem dL_mark_32 : decode cL_mark 32 = .ok (.iload_n 3, 1) := by decide +kernel
theorem dL_mark_33 : decode cL_mark 33 = .ok (.i2l, 1) := by decide +kernel
theorem dL_mark_34 : decode cL_mark 34 = .ok (.ldc2_w 158, 3) := by decide +kernel
theorem dL_mark_37 : decode cL_mark 37 = .ok (.aload_n 0, 1) := by decide +kernel
theorem dL_mark_38 : decode cL_mark 38 = .ok (.iconst 2, 1) := by decide +kernel
theorem dL_mark_39 : decode cL_mark 39 = .ok (.invokestatic 155, 3) := by decide +kernel
theorem dL_mark_42 : decode cL_mark 42 = .ok (.lmul, 1) := by decide +kernel
theorem dL_mark_43 : decode cL_mark 43 = .ok (.lcmp, 1) := by decide +kernel
theorem dL_mark_44 : decode cL_mark 44 = .ok (.ifCond .ge 28, 3) := by decide +kernel
theorem dL_mark_47 : decode cL_mark 47 = .ok (.ldc2_w 153, 3) := by decide +kernel
theorem dL_mark_50 : decode cL_mark 50 = .ok (.lload_n 1, 1) := by decide +kernel
theorem dL_mark_51 : decode cL_mark 51 = .ok (.lmul, 1) := by decide +kernel
theorem dL_mark_52 : decode cL_mark 52 = .ok (.aload_n 0, 1) := by decide +kernel
theorem dL_mark_53 : decode cL_mark 53 = .ok (.iload_n 3, 1) := by decide +kernel
theorem dL_mark_54 : decode cL_mark 54 = .ok (.bipush 10, 2) := by decide +kernel
theorem dL_mark_56 : decode cL_mark 56 = .ok (.idiv, 1) := by decide +kernel
theorem dL_mark_57 : decode cL_mark 57 = .ok (.iload_n 3, 1) := by decide +kernel
theorem dL_mark_58 : decode cL_mark 58 = .ok (.bipush 10, 2) := by decide +kernel
theorem dL_mark_60 : decode cL_mark 60 = .ok (.irem, 1) := by decide +kernel
theorem dL_mark_61 : decode cL_mark 61 = .ok (.invokestatic 160, 3) := by decide +kernel
theorem dL_mark_64 : decode cL_mark 64 = .ok (.ladd, 1) := by decide +kernel
theorem dL_mark_65 : decode cL_mark 65 = .ok (.lstore_n 1, 1) := by decide +kernel
theorem dL_mark_66 : decode cL_mark 66 = .ok (.iinc 3 1, 3) := by decide +kernel
theorem dL_mark_69 : decode cL_mark 69 = .ok (.goto (-37), 3) := by decide +kernel
theorem dL_mark_72 : decode cL_mark 72 = .ok (.iconst 0, 1) := by decide +kernel
theorem dL_mark_73 : decode cL_mark 73 = .ok (.istore_n 3, 1) := by decide +kernel
theorem dL_mark_74 : decode cL_mark 74 = .ok (.iload_n 3, 1) := by decide +kernel
theorem dL_mark_75 : decode cL_mark 75 = .ok (.i2l, 1) := by decide +kernel
theorem dL_mark_76 : decode cL_mark 76 = .ok (.ldc2_w 163, 3) := by decide +kernel
theorem dL_mark_79 : decode cL_mark 79 = .ok (.aload_n 0, 1) := by decide +kernel
theorem dL_mark_80 : decode cL_mark 80 = .ok (.iconst 2, 1) := by decide +kernel
theorem dL_mark_81 : decode cL_mark 81 = .ok (.invokestatic 155, 3) := by decide +kernel
theorem dL_mark_84 : decode cL_mark 84 = .ok (.lmul, 1) := by decide +kernel
theorem dL_mark_85 : decode cL_mark 85 = .ok (.lcmp, 1) := by decide +kernel
theorem dL_mark_86 : decode cL_mark 86 = .ok (.ifCond .ge 26, 3) := by decide +kernel
theorem dL_mark_89 : decode cL_mark 89 = .ok (.ldc2_w 153, 3) := by decide +kernel
theorem dL_mark_92 : decode cL_mark 92 = .ok (.lload_n 1, 1) := by decide +kernel
theorem dL_mark_93 : decode cL_mark 93 = .ok (.lmul, 1) := by decide +kernel
theorem dL_mark_94 : decode cL_mark 94 = .ok (.aload_n 0, 1) := by decide +kernel
theorem dL_mark_95 : decode cL_mark 95 = .ok (.iload_n 3, 1) := by decide +kernel
theorem dL_mark_96 : decode cL_mark 96 = .ok (.iconst 5, 1) := by decide +kernel
theorem dL_mark_97 : decode cL_mark 97 = .ok (.idiv, 1) := by decide +kernel
theorem dL_mark_98 : decode cL_mark 98 = .ok (.iload_n 3, 1) := by decide +kernel
theorem dL_mark_99 : decode cL_mark 99 = .ok (.iconst 5, 1) := by decide +kernel
theorem dL_mark_100 : decode cL_mark 100 = .ok (.irem, 1) := by decide +kernel
theorem dL_mark_101 : decode cL_mark 101 = .ok (.invokestatic 165, 3) := by decide +kernel
theorem dL_mark_104 : decode cL_mark 104 = .ok (.ladd, 1) := by decide +kernel
theorem dL_mark_105 : decode cL_mark 105 = .ok (.lstore_n 1, 1) := by decide +kernel
theorem dL_mark_106 : decode cL_mark 106 = .ok (.iinc 3 1, 3) := by decide +kernel
theorem dL_mark_109 : decode cL_mark 109 = .ok (.goto (-35), 3) := by decide +kernel
theorem dL_mark_112 : decode cL_mark 112 = .ok (.iconst 0, 1) := by decide +kernel
theorem dL_mark_113 : decode cL_mark 113 = .ok (.istore_n 3, 1) := by decide +kernel
theorem dL_mark_114 : decode cL_mark 114 = .ok (.iload_n 3, 1) := by decide +kernel
theorem dL_mark_115 : decode cL_mark 115 = .ok (.bipush 8, 2) := by decide +kernel
theorem dL_mark_117 : decode cL_mark 117 = .ok (.if_icmp .ge 21, 3) := by decide +kernel
theorem dL_mark_120 : decode cL_mark 120 = .ok (.ldc2_w 153, 3) := by decide +kernel
theorem dL_mark_123 : decode cL_mark 123 = .ok (.lload_n 1, 1) := by decide +kernel
theorem dL_mark_124 : decode cL_mark 124 = .ok (.lmul, 1) := by decide +kernel
theorem dL_mark_125 : decode cL_mark 125 = .ok (.aload_n 0, 1) := by decide +kernel
theorem dL_mark_126 : decode cL_mark 126 = .ok (.iload_n 3, 1) := by decide +kernel
theorem dL_mark_127 : decode cL_mark 127 = .ok (.invokestatic 167, 3) := by decide +kernel
theorem dL_mark_130 : decode cL_mark 130 = .ok (.ladd, 1) := by decide +kernel
theorem dL_mark_131 : decode cL_mark 131 = .ok (.lstore_n 1, 1) := by decide +kernel
theorem dL_mark_132 : decode cL_mark 132 = .ok (.iinc 3 1, 3) := by decide +kernel
theorem dL_mark_135 : decode cL_mark 135 = .ok (.goto (-21), 3) := by decide +kernel
theorem dL_mark_138 : decode cL_mark 138 = .ok (.ldc2_w 153, 3) := by decide +kernel
theorem dL_mark_141 : decode cL_mark 141 = .ok (.lload_n 1, 1) := by decide +kernel
theorem dL_mark_142 : decode cL_mark 142 = .ok (.lmul, 1) := by decide +kernel
theorem dL_mark_143 : decode cL_mark 143 = .ok (.aload_n 0, 1) := by decide +kernel
theorem dL_mark_144 : decode cL_mark 144 = .ok (.invokestatic 169, 3) := by decide +kernel
theorem dL_mark_147 : decode cL_mark 147 = .ok (.ladd, 1) := by decide +kernel
theorem dL_mark_148 : decode cL_mark 148 = .ok (.lreturn, 1) := by decide +kernel
theorem dL_acts_0 : decode cL_acts 0 = .ok (.iload_n 1, 1) := by decide +kernel
theorem dL_acts_1 : decode cL_acts 1 = .ok (.bipush 8, 2) := by decide +kernel
theorem dL_acts_3 : decode cL_acts 3 = .ok (.ishr, 1) := by decide +kernel
theorem dL_acts_4 : decode cL_acts 4 = .ok (.sipush 4000, 3) := by decide +kernel
theorem dL_acts_7 : decode cL_acts 7 = .ok (.invokestatic 171, 3) := by decide +kernel
theorem dL_acts_10 : decode cL_acts 10 = .ok (.istore_n 2, 1) := by decide +kernel
theorem dL_acts_11 : decode cL_acts 11 = .ok (.iload_n 1, 1) := by decide +kernel
theorem dL_acts_12 : decode cL_acts 12 = .ok (.bipush 22, 2) := by decide +kernel
theorem dL_acts_14 : decode cL_acts 14 = .ok (.invokestatic 171, 3) := by decide +kernel
theorem dL_acts_17 : decode cL_acts 17 = .ok (.tableswitch 215 0 16 #[83, 106, 115, 115, 115, 131, 131, 131, 140, 149, 167, 167, 182, 191, 202, 202, 202], 83) := by decide +kernel
theorem dL_acts_100 : decode cL_acts 100 = .ok (.aload_n 0, 1) := by decide +kernel
theorem dL_acts_101 : decode cL_acts 101 = .ok (.bipush 50, 2) := by decide +kernel
theorem dL_acts_103 : decode cL_acts 103 = .ok (.iload_n 2, 1) := by decide +kernel
theorem dL_acts_104 : decode cL_acts 104 = .ok (.bipush 41, 2) := by decide +kernel
theorem dL_acts_106 : decode cL_acts 106 = .ok (.irem, 1) := by decide +kernel
theorem dL_acts_107 : decode cL_acts 107 = .ok (.iadd, 1) := by decide +kernel
theorem dL_acts_108 : decode cL_acts 108 = .ok (.iload_n 2, 1) := by decide +kernel
theorem dL_acts_109 : decode cL_acts 109 = .ok (.iconst 2, 1) := by decide +kernel
theorem dL_acts_110 : decode cL_acts 110 = .ok (.irem, 1) := by decide +kernel
theorem dL_acts_111 : decode cL_acts 111 = .ok (.ifCond .ne 7, 3) := by decide +kernel
theorem dL_acts_114 : decode cL_acts 114 = .ok (.iconst 1, 1) := by decide +kernel
theorem dL_acts_115 : decode cL_acts 115 = .ok (.goto 4, 3) := by decide +kernel
theorem dL_acts_118 : decode cL_acts 118 = .ok (.iconst 0, 1) := by decide +kernel
theorem dL_acts_119 : decode cL_acts 119 = .ok (.invokestatic 174, 3) := by decide +kernel
theorem dL_acts_122 : decode cL_acts 122 = .ok (.lreturn, 1) := by decide +kernel
theorem dL_acts_123 : decode cL_acts 123 = .ok (.aload_n 0, 1) := by decide +kernel
theorem dL_acts_124 : decode cL_acts 124 = .ok (.iload_n 2, 1) := by decide +kernel
theorem dL_acts_125 : decode cL_acts 125 = .ok (.bipush 9, 2) := by decide +kernel
theorem dL_acts_127 : decode cL_acts 127 = .ok (.irem, 1) := by decide +kernel
theorem dL_acts_128 : decode cL_acts 128 = .ok (.invokestatic 177, 3) := by decide +kernel
theorem dL_acts_131 : decode cL_acts 131 = .ok (.lreturn, 1) := by decide +kernel
theorem dL_acts_132 : decode cL_acts 132 = .ok (.aload_n 0, 1) := by decide +kernel
theorem dL_acts_133 : decode cL_acts 133 = .ok (.iload_n 2, 1) := by decide +kernel
theorem dL_acts_134 : decode cL_acts 134 = .ok (.iconst 5, 1) := by decide +kernel
theorem dL_acts_135 : decode cL_acts 135 = .ok (.irem, 1) := by decide +kernel
theorem dL_acts_136 : decode cL_acts 136 = .ok (.iconst 2, 1) := by decide +kernel
theorem dL_acts_137 : decode cL_acts 137 = .ok (.iload_n 2, 1) := by decide +kernel
theorem dL_acts_138 : decode cL_acts 138 = .ok (.iconst 5, 1) := by decide +kernel
theorem dL_acts_139 : decode cL_acts 139 = .ok (.idiv, 1) := by decide +kernel
theorem dL_acts_140 : decode cL_acts 140 = .ok (.bipush 7, 2) := by decide +kernel
theorem dL_acts_142 : decode cL_acts 142 = .ok (.irem, 1) := by decide +kernel
theorem dL_acts_143 : decode cL_acts 143 = .ok (.iadd, 1) := by decide +kernel
theorem dL_acts_144 : decode cL_acts 144 = .ok (.invokestatic 179, 3) := by decide +kernel
theorem dL_acts_147 : decode cL_acts 147 = .ok (.lreturn, 1) := by decide +kernel
theorem dL_acts_148 : decode cL_acts 148 = .ok (.aload_n 0, 1) := by decide +kernel
theorem dL_acts_149 : decode cL_acts 149 = .ok (.iload_n 2, 1) := by decide +kernel
theorem dL_acts_150 : decode cL_acts 150 = .ok (.bipush 8, 2) := by decide +kernel
theorem dL_acts_152 : decode cL_acts 152 = .ok (.irem, 1) := by decide +kernel
theorem dL_acts_153 : decode cL_acts 153 = .ok (.invokestatic 181, 3) := by decide +kernel
theorem dL_acts_156 : decode cL_acts 156 = .ok (.lreturn, 1) := by decide +kernel
theorem dL_acts_157 : decode cL_acts 157 = .ok (.aload_n 0, 1) := by decide +kernel
theorem dL_acts_158 : decode cL_acts 158 = .ok (.iload_n 2, 1) := by decide +kernel
theorem dL_acts_159 : decode cL_acts 159 = .ok (.bipush 8, 2) := by decide +kernel
theorem dL_acts_161 : decode cL_acts 161 = .ok (.irem, 1) := by decide +kernel
theorem dL_acts_162 : decode cL_acts 162 = .ok (.invokestatic 183, 3) := by decide +kernel
theorem dL_acts_165 : decode cL_acts 165 = .ok (.lreturn, 1) := by decide +kernel
theorem dL_acts_166 : decode cL_acts 166 = .ok (.aload_n 0, 1) := by decide +kernel
theorem dL_acts_167 : decode cL_acts 167 = .ok (.iload_n 2, 1) := by decide +kernel
theorem dL_acts_168 : decode cL_acts 168 = .ok (.bipush 12, 2) := by decide +kernel
theorem dL_acts_170 : decode cL_acts 170 = .ok (.irem, 1) := by decide +kernel
theorem dL_acts_171 : decode cL_acts 171 = .ok (.iconst 1, 1) := by decide +kernel
theorem dL_acts_172 : decode cL_acts 172 = .ok (.iload_n 2, 1) := by decide +kernel
theorem dL_acts_173 : decode cL_acts 173 = .ok (.bipush 12, 2) := by decide +kernel
theorem dL_acts_175 : decode cL_acts 175 = .ok (.idiv, 1) := by decide +kernel
theorem dL_acts_176 : decode cL_acts 176 = .ok (.bipush 9, 2) := by decide +kernel
theorem dL_acts_178 : decode cL_acts 178 = .ok (.irem, 1) := by decide +kernel
theorem dL_acts_179 : decode cL_acts 179 = .ok (.iadd, 1) := by decide +kernel
theorem dL_acts_180 : decode cL_acts 180 = .ok (.invokestatic 185, 3) := by decide +kernel
theorem dL_acts_183 : decode cL_acts 183 = .ok (.lreturn, 1) := by decide +kernel
theorem dL_acts_184 : decode cL_acts 184 = .ok (.aload_n 0, 1) := by decide +kernel
theorem dL_acts_185 : decode cL_acts 185 = .ok (.iload_n 2, 1) := by decide +kernel
theorem dL_acts_186 : decode cL_acts 186 = .ok (.bipush 6, 2) := by decide +kernel
theorem dL_acts_188 : decode cL_acts 188 = .ok (.irem, 1) := by decide +kernel
theorem dL_acts_189 : decode cL_acts 189 = .ok (.iload_n 2, 1) := by decide +kernel
theorem dL_acts_190 : decode cL_acts 190 = .ok (.bipush 6, 2) := by decide +kernel
theorem dL_acts_192 : decode cL_acts 192 = .ok (.idiv, 1) := by decide +kernel
theorem dL_acts_193 : decode cL_acts 193 = .ok (.iconst 5, 1) := by decide +kernel
theorem dL_acts_194 : decode cL_acts 194 = .ok (.irem, 1) := by decide +kernel
theorem dL_acts_195 : decode cL_acts 195 = .ok (.invokestatic 187, 3) := by decide +kernel
theorem dL_acts_198 : decode cL_acts 198 = .ok (.lreturn, 1) := by decide +kernel
theorem dL_acts_199 : decode cL_acts 199 = .ok (.aload_n 0, 1) := by decide +kernel
theorem dL_acts_200 : decode cL_acts 200 = .ok (.iload_n 2, 1) := by decide +kernel
theorem dL_acts_201 : decode cL_acts 201 = .ok (.bipush 6, 2) := by decide +kernel
theorem dL_acts_203 : decode cL_acts 203 = .ok (.irem, 1) := by decide +kernel
theorem dL_acts_204 : decode cL_acts 204 = .ok (.invokestatic 189, 3) := by decide +kernel
theorem dL_acts_207 : decode cL_acts 207 = .ok (.lreturn, 1) := by decide +kernel
theorem dL_acts_208 : decode cL_acts 208 = .ok (.aload_n 0, 1) := by decide +kernel
theorem dL_acts_209 : decode cL_acts 209 = .ok (.iconst 1, 1) := by decide +kernel
theorem dL_acts_210 : decode cL_acts 210 = .ok (.iload_n 2, 1) := by decide +kernel
theorem dL_acts_211 : decode cL_acts 211 = .ok (.bipush 60, 2) := by decide +kernel
theorem dL_acts_213 : decode cL_acts 213 = .ok (.irem, 1) := by decide +kernel
theorem dL_acts_214 : decode cL_acts 214 = .ok (.iadd, 1) := by decide +kernel
theorem dL_acts_215 : decode cL_acts 215 = .ok (.invokestatic 191, 3) := by decide +kernel
theorem dL_acts_218 : decode cL_acts 218 = .ok (.lreturn, 1) := by decide +kernel
theorem dL_acts_219 : decode cL_acts 219 = .ok (.aload_n 0, 1) := by decide +kernel
theorem dL_acts_220 : decode cL_acts 220 = .ok (.getstatic 193, 3) := by decide +kernel
theorem dL_acts_223 : decode cL_acts 223 = .ok (.iload_n 2, 1) := by decide +kernel
theorem dL_acts_224 : decode cL_acts 224 = .ok (.bipush 8, 2) := by decide +kernel
theorem dL_acts_226 : decode cL_acts 226 = .ok (.irem, 1) := by decide +kernel
theorem dL_acts_227 : decode cL_acts 227 = .ok (.aaload, 1) := by decide +kernel
theorem dL_acts_228 : decode cL_acts 228 = .ok (.invokestatic 197, 3) := by decide +kernel
theorem dL_acts_231 : decode cL_acts 231 = .ok (.lreturn, 1) := by decide +kernel
theorem dL_acts_232 : decode cL_acts 232 = .ok (.aload_n 0, 1) := by decide +kernel
theorem dL_acts_233 : decode cL_acts 233 = .ok (.iconst 1, 1) := by decide +kernel
theorem dL_acts_234 : decode cL_acts 234 = .ok (.iload_n 2, 1) := by decide +kernel
theorem dL_acts_235 : decode cL_acts 235 = .ok (.bipush 9, 2) := by decide +kernel
theorem dL_acts_237 : decode cL_acts 237 = .ok (.irem, 1) := by decide +kernel
theorem dL_acts_238 : decode cL_acts 238 = .ok (.iadd, 1) := by decide +kernel
theorem dL_acts_239 : decode cL_acts 239 = .ok (.invokestatic 201, 3) := by decide +kernel
theorem dL_acts_242 : decode cL_acts 242 = .ok (.lreturn, 1) := by decide +kernel
theorem dL_ahead_0 : decode cL_ahead 0 = .ok (.aload_n 0, 1) := by decide +kernel
theorem dL_ahead_1 : decode cL_ahead 1 = .ok (.invokestatic 203, 3) := by decide +kernel
theorem dL_ahead_4 : decode cL_ahead 4 = .ok (.lstore_n 2, 1) := by decide +kernel
theorem dL_ahead_5 : decode cL_ahead 5 = .ok (.iconst 1, 1) := by decide +kernel
theorem dL_ahead_6 : decode cL_ahead 6 = .ok (.iload_n 1, 1) := by decide +kernel
theorem dL_ahead_7 : decode cL_ahead 7 = .ok (.bipush 60, 2) := by decide +kernel
theorem dL_ahead_9 : decode cL_ahead 9 = .ok (.invokestatic 171, 3) := by decide +kernel
theorem dL_ahead_12 : decode cL_ahead 12 = .ok (.iadd, 1) := by decide +kernel
theorem dL_ahead_13 : decode cL_ahead 13 = .ok (.istore 4, 2) := by decide +kernel
theorem dL_ahead_15 : decode cL_ahead 15 = .ok (.iload_n 1, 1) := by decide +kernel
theorem dL_ahead_16 : decode cL_ahead 16 = .ok (.bipush 6, 2) := by decide +kernel
theorem dL_ahead_18 : decode cL_ahead 18 = .ok (.ishr, 1) := by decide +kernel
theorem dL_ahead_19 : decode cL_ahead 19 = .ok (.aload_n 0, 1) := by decide +kernel
theorem dL_ahead_20 : decode cL_ahead 20 = .ok (.iconst 2, 1) := by decide +kernel
theorem dL_ahead_21 : decode cL_ahead 21 = .ok (.invokestatic 155, 3) := by decide +kernel
theorem dL_ahead_24 : decode cL_ahead 24 = .ok (.l2i, 1) := by decide +kernel
theorem dL_ahead_25 : decode cL_ahead 25 = .ok (.invokestatic 171, 3) := by decide +kernel
theorem dL_ahead_28 : decode cL_ahead 28 = .ok (.istore 5, 2) := by decide +kernel
theorem dL_ahead_30 : decode cL_ahead 30 = .ok (.aload_n 0, 1) := by decide +kernel
theorem dL_ahead_31 : decode cL_ahead 31 = .ok (.iload 5, 2) := by decide +kernel
theorem dL_ahead_33 : decode cL_ahead 33 = .ok (.iload 4, 2) := by decide +kernel
theorem dL_ahead_35 : decode cL_ahead 35 = .ok (.invokestatic 206, 3) := by decide +kernel
theorem dL_ahead_38 : decode cL_ahead 38 = .ok (.lstore 6, 2) := by decide +kernel
theorem dL_ahead_40 : decode cL_ahead 40 = .ok (.aload_n 0, 1) := by decide +kernel
theorem dL_ahead_41 : decode cL_ahead 41 = .ok (.iload 4, 2) := by decide +kernel
theorem dL_ahead_43 : decode cL_ahead 43 = .ok (.invokestatic 208, 3) := by decide +kernel
theorem dL_ahead_46 : decode cL_ahead 46 = .ok (.lstore 8, 2) := by decide +kernel
theorem dL_ahead_48 : decode cL_ahead 48 = .ok (.aload_n 0, 1) := by decide +kernel
theorem dL_ahead_49 : decode cL_ahead 49 = .ok (.iload 5, 2) := by decide +kernel
theorem dL_ahead_51 : decode cL_ahead 51 = .ok (.iconst 0, 1) := by decide +kernel
theorem dL_ahead_52 : decode cL_ahead 52 = .ok (.invokestatic 206, 3) := by decide +kernel
theorem dL_ahead_55 : decode cL_ahead 55 = .ok (.lconst 0, 1) := by decide +kernel
theorem dL_ahead_56 : decode cL_ahead 56 = .ok (.lcmp, 1) := by decide +kernel
theorem dL_ahead_57 : decode cL_ahead 57 = .ok (.ifCond .ne 27, 3) := by decide +kernel
theorem dL_ahead_60 : decode cL_ahead 60 = .ok (.aload_n 0, 1) := by decide +kernel
theorem dL_ahead_61 : decode cL_ahead 61 = .ok (.iconst 0, 1) := by decide +kernel
theorem dL_ahead_62 : decode cL_ahead 62 = .ok (.invokestatic 208, 3) := by decide +kernel
theorem dL_ahead_65 : decode cL_ahead 65 = .ok (.aload_n 0, 1) := by decide +kernel
theorem dL_ahead_66 : decode cL_ahead 66 = .ok (.bipush 9, 2) := by decide +kernel
theorem dL_ahead_68 : decode cL_ahead 68 = .ok (.invokestatic 155, 3) := by decide +kernel
theorem dL_ahead_71 : decode cL_ahead 71 = .ok (.lcmp, 1) := by decide +kernel
theorem dL_ahead_72 : decode cL_ahead 72 = .ok (.ifCond .ne 12, 3) := by decide +kernel
theorem dL_ahead_75 : decode cL_ahead 75 = .ok (.aload_n 0, 1) := by decide +kernel
theorem dL_ahead_76 : decode cL_ahead 76 = .ok (.invokestatic 203, 3) := by decide +kernel
theorem dL_ahead_79 : decode cL_ahead 79 = .ok (.lload_n 2, 1) := by decide +kernel
theorem dL_ahead_80 : decode cL_ahead 80 = .ok (.lcmp, 1) := by decide +kernel
theorem dL_ahead_81 : decode cL_ahead 81 = .ok (.ifCond .eq 5, 3) := by decide +kernel
theorem dL_ahead_84 : decode cL_ahead 84 = .ok (.iconst 0, 1) := by decide +kernel
theorem dL_ahead_85 : decode cL_ahead 85 = .ok (.ireturn, 1) := by decide +kernel
theorem dL_ahead_86 : decode cL_ahead 86 = .ok (.aload_n 0, 1) := by decide +kernel
theorem dL_ahead_87 : decode cL_ahead 87 = .ok (.iload 5, 2) := by decide +kernel
theorem dL_ahead_89 : decode cL_ahead 89 = .ok (.bipush 6, 2) := by decide +kernel
theorem dL_ahead_91 : decode cL_ahead 91 = .ok (.invokestatic 160, 3) := by decide +kernel
theorem dL_ahead_94 : decode cL_ahead 94 = .ok (.lstore 10, 2) := by decide +kernel
theorem dL_ahead_96 : decode cL_ahead 96 = .ok (.aload_n 0, 1) := by decide +kernel
theorem dL_ahead_97 : decode cL_ahead 97 = .ok (.bipush 11, 2) := by decide +kernel
theorem dL_ahead_99 : decode cL_ahead 99 = .ok (.invokestatic 155, 3) := by decide +kernel
theorem dL_ahead_102 : decode cL_ahead 102 = .ok (.lstore 12, 2) := by decide +kernel
theorem dL_ahead_104 : decode cL_ahead 104 = .ok (.aload_n 0, 1) := by decide +kernel
theorem dL_ahead_105 : decode cL_ahead 105 = .ok (.iload 4, 2) := by decide +kernel
theorem dL_ahead_107 : decode cL_ahead 107 = .ok (.invokestatic 201, 3) := by decide +kernel
theorem dL_ahead_110 : decode cL_ahead 110 = .ok (.lstore 14, 2) := by decide +kernel
theorem dL_ahead_112 : decode cL_ahead 112 = .ok (.aload_n 0, 1) := by decide +kernel
theorem dL_ahead_113 : decode cL_ahead 113 = .ok (.iload 5, 2) := by decide +kernel
theorem dL_ahead_115 : decode cL_ahead 115 = .ok (.bipush 6, 2) := by decide +kernel
theorem dL_ahead_117 : decode cL_ahead 117 = .ok (.invokestatic 160, 3) := by decide +kernel
theorem dL_ahead_120 : decode cL_ahead 120 = .ok (.lload 10, 2) := by decide +kernel
theorem dL_ahead_122 : decode cL_ahead 122 = .ok (.lsub, 1) := by decide +kernel
theorem dL_ahead_123 : decode cL_ahead 123 = .ok (.lload 6, 2) := by decide +kernel
theorem dL_ahead_125 : decode cL_ahead 125 = .ok (.lcmp, 1) := by decide +kernel
theorem dL_ahead_126 : decode cL_ahead 126 = .ok (.ifCond .ne 43, 3) := by decide +kernel
theorem dL_ahead_129 : decode cL_ahead 129 = .ok (.aload_n 0, 1) := by decide +kernel
theorem dL_ahead_130 : decode cL_ahead 130 = .ok (.bipush 9, 2) := by decide +kernel
theorem dL_ahead_132 : decode cL_ahead 132 = .ok (.invokestatic 155, 3) := by decide +kernel
theorem dL_ahead_135 : decode cL_ahead 135 = .ok (.lload 8, 2) := by decide +kernel
theorem dL_ahead_137 : decode cL_ahead 137 = .ok (.lcmp, 1) := by decide +kernel
theorem dL_ahead_138 : decode cL_ahead 138 = .ok (.ifCond .ne 31, 3) := by decide +kernel
theorem dL_ahead_141 : decode cL_ahead 141 = .ok (.aload_n 0, 1) := by decide +kernel
theorem dL_ahead_142 : decode cL_ahead 142 = .ok (.bipush 11, 2) := by decide +kernel
theorem dL_ahead_144 : decode cL_ahead 144 = .ok (.invokestatic 155, 3) := by decide +kernel
theorem dL_ahead_147 : decode cL_ahead 147 = .ok (.lload 12, 2) := by decide +kernel
theorem dL_ahead_149 : decode cL_ahead 149 = .ok (.lsub, 1) := by decide +kernel
theorem dL_ahead_150 : decode cL_ahead 150 = .ok (.lload 14, 2) := by decide +kernel
theorem dL_ahead_152 : decode cL_ahead 152 = .ok (.lcmp, 1) := by decide +kernel
theorem dL_ahead_153 : decode cL_ahead 153 = .ok (.ifCond .ne 16, 3) := by decide +kernel
theorem dL_ahead_156 : decode cL_ahead 156 = .ok (.aload_n 0, 1) := by decide +kernel
theorem dL_ahead_157 : decode cL_ahead 157 = .ok (.invokestatic 210, 3) := by decide +kernel
theorem dL_ahead_160 : decode cL_ahead 160 = .ok (.lconst 1, 1) := by decide +kernel
theorem dL_ahead_161 : decode cL_ahead 161 = .ok (.lcmp, 1) := by decide +kernel
theorem dL_ahead_162 : decode cL_ahead 162 = .ok (.ifCond .ne 7, 3) := by decide +kernel
theorem dL_ahead_165 : decode cL_ahead 165 = .ok (.iconst 1, 1) := by decide +kernel
theorem dL_ahead_166 : decode cL_ahead 166 = .ok (.goto 4, 3) := by decide +kernel
theorem dL_ahead_169 : decode cL_ahead 169 = .ok (.iconst 0, 1) := by decide +kernel
theorem dL_ahead_170 : decode cL_ahead 170 = .ok (.istore 16, 2) := by decide +kernel
theorem dL_ahead_172 : decode cL_ahead 172 = .ok (.aload_n 0, 1) := by decide +kernel
theorem dL_ahead_173 : decode cL_ahead 173 = .ok (.invokestatic 212, 3) := by decide +kernel
theorem dL_ahead_176 : decode cL_ahead 176 = .ok (.pop2, 1) := by decide +kernel
theorem dL_ahead_177 : decode cL_ahead 177 = .ok (.iload 16, 2) := by decide +kernel
theorem dL_ahead_179 : decode cL_ahead 179 = .ok (.ifCond .eq 16, 3) := by decide +kernel
theorem dL_ahead_182 : decode cL_ahead 182 = .ok (.aload_n 0, 1) := by decide +kernel
theorem dL_ahead_183 : decode cL_ahead 183 = .ok (.invokestatic 203, 3) := by decide +kernel
theorem dL_ahead_186 : decode cL_ahead 186 = .ok (.lload_n 2, 1) := by decide +kernel
theorem dL_ahead_187 : decode cL_ahead 187 = .ok (.lcmp, 1) := by decide +kernel
theorem dL_ahead_188 : decode cL_ahead 188 = .ok (.ifCond .ne 7, 3) := by decide +kernel
theorem dL_ahead_191 : decode cL_ahead 191 = .ok (.iconst 1, 1) := by decide +kernel
theorem dL_ahead_192 : decode cL_ahead 192 = .ok (.goto 4, 3) := by decide +kernel
theorem dL_ahead_195 : decode cL_ahead 195 = .ok (.iconst 0, 1) := by decide +kernel
theorem dL_ahead_196 : decode cL_ahead 196 = .ok (.ireturn, 1) := by decide +kernel
theorem dL_fits_0 : decode cL_fits 0 = .ok (.aload_n 0, 1) := by decide +kernel
theorem dL_fits_1 : decode cL_fits 1 = .ok (.invokestatic 210, 3) := by decide +kernel
theorem dL_fits_4 : decode cL_fits 4 = .ok (.lconst 1, 1) := by decide +kernel
theorem dL_fits_5 : decode cL_fits 5 = .ok (.lcmp, 1) := by decide +kernel
theorem dL_fits_6 : decode cL_fits 6 = .ok (.ifCond .ne 15, 3) := by decide +kernel
theorem dL_fits_9 : decode cL_fits 9 = .ok (.aload_n 0, 1) := by decide +kernel
theorem dL_fits_10 : decode cL_fits 10 = .ok (.invokestatic 214, 3) := by decide +kernel
theorem dL_fits_13 : decode cL_fits 13 = .ok (.aload_n 0, 1) := by decide +kernel
theorem dL_fits_14 : decode cL_fits 14 = .ok (.invokestatic 216, 3) := by decide +kernel
theorem dL_fits_17 : decode cL_fits 17 = .ok (.lcmp, 1) := by decide +kernel
theorem dL_fits_18 : decode cL_fits 18 = .ok (.ifCond .eq 5, 3) := by decide +kernel
theorem dL_fits_21 : decode cL_fits 21 = .ok (.iconst 0, 1) := by decide +kernel
theorem dL_fits_22 : decode cL_fits 22 = .ok (.ireturn, 1) := by decide +kernel
theorem dL_fits_23 : decode cL_fits 23 = .ok (.iconst 0, 1) := by decide +kernel
theorem dL_fits_24 : decode cL_fits 24 = .ok (.istore_n 2, 1) := by decide +kernel
theorem dL_fits_25 : decode cL_fits 25 = .ok (.iload_n 2, 1) := by decide +kernel
theorem dL_fits_26 : decode cL_fits 26 = .ok (.i2l, 1) := by decide +kernel
theorem dL_fits_27 : decode cL_fits 27 = .ok (.aload_n 0, 1) := by decide +kernel
theorem dL_fits_28 : decode cL_fits 28 = .ok (.iconst 2, 1) := by decide +kernel
theorem dL_fits_29 : decode cL_fits 29 = .ok (.invokestatic 155, 3) := by decide +kernel
theorem dL_fits_32 : decode cL_fits 32 = .ok (.lcmp, 1) := by decide +kernel
theorem dL_fits_33 : decode cL_fits 33 = .ok (.ifCond .ge 95, 3) := by decide +kernel
theorem dL_fits_36 : decode cL_fits 36 = .ok (.aload_n 0, 1) := by decide +kernel
theorem dL_fits_37 : decode cL_fits 37 = .ok (.iload_n 2, 1) := by decide +kernel
theorem dL_fits_38 : decode cL_fits 38 = .ok (.invokestatic 218, 3) := by decide +kernel
theorem dL_fits_41 : decode cL_fits 41 = .ok (.aload_n 0, 1) := by decide +kernel
theorem dL_fits_42 : decode cL_fits 42 = .ok (.iload_n 2, 1) := by decide +kernel
theorem dL_fits_43 : decode cL_fits 43 = .ok (.invokestatic 220, 3) := by decide +kernel
theorem dL_fits_46 : decode cL_fits 46 = .ok (.lcmp, 1) := by decide +kernel
theorem dL_fits_47 : decode cL_fits 47 = .ok (.ifCond .eq 5, 3) := by decide +kernel
theorem dL_fits_50 : decode cL_fits 50 = .ok (.iconst 0, 1) := by decide +kernel
theorem dL_fits_51 : decode cL_fits 51 = .ok (.ireturn, 1) := by decide +kernel
theorem dL_fits_52 : decode cL_fits 52 = .ok (.aload_n 0, 1) := by decide +kernel
theorem dL_fits_53 : decode cL_fits 53 = .ok (.iload_n 2, 1) := by decide +kernel
theorem dL_fits_54 : decode cL_fits 54 = .ok (.iconst 3, 1) := by decide +kernel
theorem dL_fits_55 : decode cL_fits 55 = .ok (.invokestatic 160, 3) := by decide +kernel
theorem dL_fits_58 : decode cL_fits 58 = .ok (.lstore_n 3, 1) := by decide +kernel
theorem dL_fits_59 : decode cL_fits 59 = .ok (.lload_n 3, 1) := by decide +kernel
theorem dL_fits_60 : decode cL_fits 60 = .ok (.lconst 0, 1) := by decide +kernel
theorem dL_fits_61 : decode cL_fits 61 = .ok (.lcmp, 1) := by decide +kernel
theorem dL_fits_62 : decode cL_fits 62 = .ok (.ifCond .lt 28, 3) := by decide +kernel
theorem dL_fits_65 : decode cL_fits 65 = .ok (.aload_n 0, 1) := by decide +kernel
theorem dL_fits_66 : decode cL_fits 66 = .ok (.lload_n 3, 1) := by decide +kernel
theorem dL_fits_67 : decode cL_fits 67 = .ok (.l2i, 1) := by decide +kernel
theorem dL_fits_68 : decode cL_fits 68 = .ok (.invokestatic 167, 3) := by decide +kernel
theorem dL_fits_71 : decode cL_fits 71 = .ok (.iload_n 2, 1) := by decide +kernel
theorem dL_fits_72 : decode cL_fits 72 = .ok (.i2l, 1) := by decide +kernel
theorem dL_fits_73 : decode cL_fits 73 = .ok (.lcmp, 1) := by decide +kernel
theorem dL_fits_74 : decode cL_fits 74 = .ok (.ifCond .ne 14, 3) := by decide +kernel
theorem dL_fits_77 : decode cL_fits 77 = .ok (.aload_n 0, 1) := by decide +kernel
theorem dL_fits_78 : decode cL_fits 78 = .ok (.iload_n 2, 1) := by decide +kernel
theorem dL_fits_79 : decode cL_fits 79 = .ok (.iconst 2, 1) := by decide +kernel
theorem dL_fits_80 : decode cL_fits 80 = .ok (.invokestatic 160, 3) := by decide +kernel
theorem dL_fits_83 : decode cL_fits 83 = .ok (.lconst 1, 1) := by decide +kernel
theorem dL_fits_84 : decode cL_fits 84 = .ok (.lcmp, 1) := by decide +kernel
theorem dL_fits_85 : decode cL_fits 85 = .ok (.ifCond .eq 5, 3) := by decide +kernel
theorem dL_fits_88 : decode cL_fits 88 = .ok (.iconst 0, 1) := by decide +kernel
theorem dL_fits_89 : decode cL_fits 89 = .ok (.ireturn, 1) := by decide +kernel
theorem dL_fits_90 : decode cL_fits 90 = .ok (.aload_n 0, 1) := by decide +kernel
theorem dL_fits_91 : decode cL_fits 91 = .ok (.invokestatic 214, 3) := by decide +kernel
theorem dL_fits_94 : decode cL_fits 94 = .ok (.iload_n 2, 1) := by decide +kernel
theorem dL_fits_95 : decode cL_fits 95 = .ok (.lshr, 1) := by decide +kernel
theorem dL_fits_96 : decode cL_fits 96 = .ok (.lconst 1, 1) := by decide +kernel
theorem dL_fits_97 : decode cL_fits 97 = .ok (.land, 1) := by decide +kernel
theorem dL_fits_98 : decode cL_fits 98 = .ok (.lconst 1, 1) := by decide +kernel
theorem dL_fits_99 : decode cL_fits 99 = .ok (.lcmp, 1) := by decide +kernel
theorem dL_fits_100 : decode cL_fits 100 = .ok (.ifCond .ne 22, 3) := by decide +kernel
theorem dL_fits_103 : decode cL_fits 103 = .ok (.aload_n 0, 1) := by decide +kernel
theorem dL_fits_104 : decode cL_fits 104 = .ok (.iload_n 2, 1) := by decide +kernel
theorem dL_fits_105 : decode cL_fits 105 = .ok (.iconst 5, 1) := by decide +kernel
theorem dL_fits_106 : decode cL_fits 106 = .ok (.invokestatic 160, 3) := by decide +kernel
theorem dL_fits_109 : decode cL_fits 109 = .ok (.lconst 0, 1) := by decide +kernel
theorem dL_fits_110 : decode cL_fits 110 = .ok (.lcmp, 1) := by decide +kernel
theorem dL_fits_111 : decode cL_fits 111 = .ok (.ifCond .ne 9, 3) := by decide +kernel
theorem dL_fits_114 : decode cL_fits 114 = .ok (.lload_n 3, 1) := by decide +kernel
theorem dL_fits_115 : decode cL_fits 115 = .ok (.lconst 0, 1) := by decide +kernel
theorem dL_fits_116 : decode cL_fits 116 = .ok (.lcmp, 1) := by decide +kernel
theorem dL_fits_117 : decode cL_fits 117 = .ok (.ifCond .ge 5, 3) := by decide +kernel
theorem dL_fits_120 : decode cL_fits 120 = .ok (.iconst 0, 1) := by decide +kernel
theorem dL_fits_121 : decode cL_fits 121 = .ok (.ireturn, 1) := by decide +kernel
theorem dL_fits_122 : decode cL_fits 122 = .ok (.iinc 2 1, 3) := by decide +kernel
theorem dL_fits_125 : decode cL_fits 125 = .ok (.goto (-100), 3) := by decide +kernel
theorem dL_fits_128 : decode cL_fits 128 = .ok (.iconst 0, 1) := by decide +kernel
theorem dL_fits_129 : decode cL_fits 129 = .ok (.istore_n 2, 1) := by decide +kernel
theorem dL_fits_130 : decode cL_fits 130 = .ok (.iload_n 2, 1) := by decide +kernel
theorem dL_fits_131 : decode cL_fits 131 = .ok (.iconst 1, 1) := by decide +kernel
theorem dL_fits_132 : decode cL_fits 132 = .ok (.iadd, 1) := by decide +kernel
theorem dL_fits_133 : decode cL_fits 133 = .ok (.i2l, 1) := by decide +kernel
theorem dL_fits_134 : decode cL_fits 134 = .ok (.aload_n 0, 1) := by decide +kernel
theorem dL_fits_135 : decode cL_fits 135 = .ok (.iconst 3, 1) := by decide +kernel
theorem dL_fits_136 : decode cL_fits 136 = .ok (.invokestatic 155, 3) := by decide +kernel
theorem dL_fits_139 : decode cL_fits 139 = .ok (.lcmp, 1) := by decide +kernel
theorem dL_fits_140 : decode cL_fits 140 = .ok (.ifCond .ge 37, 3) := by decide +kernel
theorem dL_fits_143 : decode cL_fits 143 = .ok (.aload_n 0, 1) := by decide +kernel
theorem dL_fits_144 : decode cL_fits 144 = .ok (.aload_n 0, 1) := by decide +kernel
theorem dL_fits_145 : decode cL_fits 145 = .ok (.iload_n 2, 1) := by decide +kernel
theorem dL_fits_146 : decode cL_fits 146 = .ok (.invokestatic 222, 3) := by decide +kernel
theorem dL_fits_149 : decode cL_fits 149 = .ok (.l2i, 1) := by decide +kernel
theorem dL_fits_150 : decode cL_fits 150 = .ok (.invokestatic 218, 3) := by decide +kernel
theorem dL_fits_153 : decode cL_fits 153 = .ok (.aload_n 0, 1) := by decide +kernel
theorem dL_fits_154 : decode cL_fits 154 = .ok (.aload_n 0, 1) := by decide +kernel
theorem dL_fits_155 : decode cL_fits 155 = .ok (.iload_n 2, 1) := by decide +kernel
theorem dL_fits_156 : decode cL_fits 156 = .ok (.iconst 1, 1) := by decide +kernel
theorem dL_fits_157 : decode cL_fits 157 = .ok (.iadd, 1) := by decide +kernel
theorem dL_fits_158 : decode cL_fits 158 = .ok (.invokestatic 222, 3) := by decide +kernel
theorem dL_fits_161 : decode cL_fits 161 = .ok (.l2i, 1) := by decide +kernel
theorem dL_fits_162 : decode cL_fits 162 = .ok (.invokestatic 218, 3) := by decide +kernel
theorem dL_fits_165 : decode cL_fits 165 = .ok (.lcmp, 1) := by decide +kernel
theorem dL_fits_166 : decode cL_fits 166 = .ok (.ifCond .ge 5, 3) := by decide +kernel
theorem dL_fits_169 : decode cL_fits 169 = .ok (.iconst 0, 1) := by decide +kernel
theorem dL_fits_170 : decode cL_fits 170 = .ok (.ireturn, 1) := by decide +kernel
theorem dL_fits_171 : decode cL_fits 171 = .ok (.iinc 2 1, 3) := by decide +kernel
theorem dL_fits_174 : decode cL_fits 174 = .ok (.goto (-44), 3) := by decide +kernel
theorem dL_fits_177 : decode cL_fits 177 = .ok (.iconst 0, 1) := by decide +kernel
theorem dL_fits_178 : decode cL_fits 178 = .ok (.istore_n 2, 1) := by decide +kernel
theorem dL_fits_179 : decode cL_fits 179 = .ok (.iload_n 2, 1) := by decide +kernel
theorem dL_fits_180 : decode cL_fits 180 = .ok (.iconst 1, 1) := by decide +kernel
theorem dL_fits_181 : decode cL_fits 181 = .ok (.iadd, 1) := by decide +kernel
theorem dL_fits_182 : decode cL_fits 182 = .ok (.i2l, 1) := by decide +kernel
theorem dL_fits_183 : decode cL_fits 183 = .ok (.aload_n 0, 1) := by decide +kernel
theorem dL_fits_184 : decode cL_fits 184 = .ok (.iconst 4, 1) := by decide +kernel
theorem dL_fits_185 : decode cL_fits 185 = .ok (.invokestatic 155, 3) := by decide +kernel
theorem dL_fits_188 : decode cL_fits 188 = .ok (.lcmp, 1) := by decide +kernel
theorem dL_fits_189 : decode cL_fits 189 = .ok (.ifCond .ge 39, 3) := by decide +kernel
theorem dL_fits_192 : decode cL_fits 192 = .ok (.aload_n 0, 1) := by decide +kernel
theorem dL_fits_193 : decode cL_fits 193 = .ok (.aload_n 0, 1) := by decide +kernel
theorem dL_fits_194 : decode cL_fits 194 = .ok (.iload_n 2, 1) := by decide +kernel
theorem dL_fits_195 : decode cL_fits 195 = .ok (.invokestatic 224, 3) := by decide +kernel
theorem dL_fits_198 : decode cL_fits 198 = .ok (.l2i, 1) := by decide +kernel
theorem dL_fits_199 : decode cL_fits 199 = .ok (.iconst 4, 1) := by decide +kernel
theorem dL_fits_200 : decode cL_fits 200 = .ok (.invokestatic 160, 3) := by decide +kernel
theorem dL_fits_203 : decode cL_fits 203 = .ok (.aload_n 0, 1) := by decide +kernel
theorem dL_fits_204 : decode cL_fits 204 = .ok (.aload_n 0, 1) := by decide +kernel
theorem dL_fits_205 : decode cL_fits 205 = .ok (.iload_n 2, 1) := by decide +kernel
theorem dL_fits_206 : decode cL_fits 206 = .ok (.iconst 1, 1) := by decide +kernel
theorem dL_fits_207 : decode cL_fits 207 = .ok (.iadd, 1) := by decide +kernel
theorem dL_fits_208 : decode cL_fits 208 = .ok (.invokestatic 224, 3) := by decide +kernel
theorem dL_fits_211 : decode cL_fits 211 = .ok (.l2i, 1) := by decide +kernel
theorem dL_fits_212 : decode cL_fits 212 = .ok (.iconst 4, 1) := by decide +kernel
theorem dL_fits_213 : decode cL_fits 213 = .ok (.invokestatic 160, 3) := by decide +kernel
theorem dL_fits_216 : decode cL_fits 216 = .ok (.lcmp, 1) := by decide +kernel
theorem dL_fits_217 : decode cL_fits 217 = .ok (.ifCond .ge 5, 3) := by decide +kernel
theorem dL_fits_220 : decode cL_fits 220 = .ok (.iconst 0, 1) := by decide +kernel
theorem dL_fits_221 : decode cL_fits 221 = .ok (.ireturn, 1) := by decide +kernel
theorem dL_fits_222 : decode cL_fits 222 = .ok (.iinc 2 1, 3) := by decide +kernel
theorem dL_fits_225 : decode cL_fits 225 = .ok (.goto (-46), 3) := by decide +kernel
theorem dL_fits_228 : decode cL_fits 228 = .ok (.aload_n 0, 1) := by decide +kernel
theorem dL_fits_229 : decode cL_fits 229 = .ok (.iconst 3, 1) := by decide +kernel
theorem dL_fits_230 : decode cL_fits 230 = .ok (.invokestatic 155, 3) := by decide +kernel
theorem dL_fits_233 : decode cL_fits 233 = .ok (.aload_n 0, 1) := by decide +kernel
theorem dL_fits_234 : decode cL_fits 234 = .ok (.iconst 4, 1) := by decide +kernel
theorem dL_fits_235 : decode cL_fits 235 = .ok (.invokestatic 155, 3) := by decide +kernel
theorem dL_fits_238 : decode cL_fits 238 = .ok (.ladd, 1) := by decide +kernel
theorem dL_fits_239 : decode cL_fits 239 = .ok (.aload_n 0, 1) := by decide +kernel
theorem dL_fits_240 : decode cL_fits 240 = .ok (.iconst 5, 1) := by decide +kernel
theorem dL_fits_241 : decode cL_fits 241 = .ok (.invokestatic 155, 3) := by decide +kernel
theorem dL_fits_244 : decode cL_fits 244 = .ok (.ladd, 1) := by decide +kernel
theorem dL_fits_245 : decode cL_fits 245 = .ok (.aload_n 0, 1) := by decide +kernel
theorem dL_fits_246 : decode cL_fits 246 = .ok (.bipush 6, 2) := by decide +kernel
theorem dL_fits_248 : decode cL_fits 248 = .ok (.invokestatic 155, 3) := by decide +kernel
theorem dL_fits_251 : decode cL_fits 251 = .ok (.ladd, 1) := by decide +kernel
theorem dL_fits_252 : decode cL_fits 252 = .ok (.aload_n 0, 1) := by decide +kernel
theorem dL_fits_253 : decode cL_fits 253 = .ok (.iconst 2, 1) := by decide +kernel
theorem dL_fits_254 : decode cL_fits 254 = .ok (.invokestatic 155, 3) := by decide +kernel
theorem dL_fits_257 : decode cL_fits 257 = .ok (.lcmp, 1) := by decide +kernel
theorem dL_fits_258 : decode cL_fits 258 = .ok (.ifCond .ne 34, 3) := by decide +kernel
theorem dL_fits_261 : decode cL_fits 261 = .ok (.aload_n 0, 1) := by decide +kernel
theorem dL_fits_262 : decode cL_fits 262 = .ok (.aload_n 0, 1) := by decide +kernel
theorem dL_fits_263 : decode cL_fits 263 = .ok (.iconst 4, 1) := by decide +kernel
theorem dL_fits_264 : decode cL_fits 264 = .ok (.invokestatic 155, 3) := by decide +kernel
theorem dL_fits_267 : decode cL_fits 267 = .ok (.l2i, 1) := by decide +kernel
theorem dL_fits_268 : decode cL_fits 268 = .ok (.invokestatic 226, 3) := by decide +kernel
theorem dL_fits_271 : decode cL_fits 271 = .ok (.ldc2_w 228, 3) := by decide +kernel
theorem dL_fits_274 : decode cL_fits 274 = .ok (.lcmp, 1) := by decide +kernel
theorem dL_fits_275 : decode cL_fits 275 = .ok (.ifCond .ne 17, 3) := by decide +kernel
theorem dL_fits_278 : decode cL_fits 278 = .ok (.aload_n 0, 1) := by decide +kernel
theorem dL_fits_279 : decode cL_fits 279 = .ok (.iload_n 1, 1) := by decide +kernel
theorem dL_fits_280 : decode cL_fits 280 = .ok (.iconst 3, 1) := by decide +kernel
theorem dL_fits_281 : decode cL_fits 281 = .ok (.ishr, 1) := by decide +kernel
theorem dL_fits_282 : decode cL_fits 282 = .ok (.invokestatic 230, 3) := by decide +kernel
theorem dL_fits_285 : decode cL_fits 285 = .ok (.ifCond .eq 7, 3) := by decide +kernel
theorem dL_fits_288 : decode cL_fits 288 = .ok (.iconst 1, 1) := by decide +kernel
theorem dL_fits_289 : decode cL_fits 289 = .ok (.goto 4, 3) := by decide +kernel
theorem dL_fits_292 : decode cL_fits 292 = .ok (.iconst 0, 1) := by decide +kernel
theorem dL_fits_293 : decode cL_fits 293 = .ok (.ireturn, 1) := by decide +kernel
theorem dL_law_0 : decode cL_law 0 = .ok (.new 8, 3) := by decide +kernel
theorem dL_law_3 : decode cL_law 3 = .ok (.dup, 1) := by decide +kernel
theorem dL_law_4 : decode cL_law 4 = .ok (.invokespecial 234, 3) := by decide +kernel
theorem dL_law_7 : decode cL_law 7 = .ok (.astore_n 1, 1) := by decide +kernel
theorem dL_law_8 : decode cL_law 8 = .ok (.iconst 0, 1) := by decide +kernel
theorem dL_law_9 : decode cL_law 9 = .ok (.istore_n 2, 1) := by decide +kernel
theorem dL_law_10 : decode cL_law 10 = .ok (.iload_n 2, 1) := by decide +kernel
theorem dL_law_11 : decode cL_law 11 = .ok (.bipush 6, 2) := by decide +kernel
theorem dL_law_13 : decode cL_law 13 = .ok (.if_icmp .ge 48, 3) := by decide +kernel
theorem dL_law_16 : decode cL_law 16 = .ok (.aload_n 1, 1) := by decide +kernel
theorem dL_law_17 : decode cL_law 17 = .ok (.bipush 50, 2) := by decide +kernel
theorem dL_law_19 : decode cL_law 19 = .ok (.aload_n 0, 1) := by decide +kernel
theorem dL_law_20 : decode cL_law 20 = .ok (.iconst 0, 1) := by decide +kernel
theorem dL_law_21 : decode cL_law 21 = .ok (.invokestatic 235, 3) := by decide +kernel
theorem dL_law_24 : decode cL_law 24 = .ok (.iload_n 2, 1) := by decide +kernel
theorem dL_law_25 : decode cL_law 25 = .ok (.ishr, 1) := by decide +kernel
theorem dL_law_26 : decode cL_law 26 = .ok (.bipush 41, 2) := by decide +kernel
theorem dL_law_28 : decode cL_law 28 = .ok (.invokestatic 171, 3) := by decide +kernel
theorem dL_law_31 : decode cL_law 31 = .ok (.iadd, 1) := by decide +kernel
theorem dL_law_32 : decode cL_law 32 = .ok (.aload_n 0, 1) := by decide +kernel
theorem dL_law_33 : decode cL_law 33 = .ok (.iconst 1, 1) := by decide +kernel
theorem dL_law_34 : decode cL_law 34 = .ok (.invokestatic 235, 3) := by decide +kernel
theorem dL_law_37 : decode cL_law 37 = .ok (.iload_n 2, 1) := by decide +kernel
theorem dL_law_38 : decode cL_law 38 = .ok (.ishr, 1) := by decide +kernel
theorem dL_law_39 : decode cL_law 39 = .ok (.iconst 2, 1) := by decide +kernel
theorem dL_law_40 : decode cL_law 40 = .ok (.invokestatic 171, 3) := by decide +kernel
theorem dL_law_43 : decode cL_law 43 = .ok (.ifCond .ne 7, 3) := by decide +kernel
theorem dL_law_46 : decode cL_law 46 = .ok (.iconst 1, 1) := by decide +kernel
theorem dL_law_47 : decode cL_law 47 = .ok (.goto 4, 3) := by decide +kernel
theorem dL_law_50 : decode cL_law 50 = .ok (.iconst 0, 1) := by decide +kernel
theorem dL_law_51 : decode cL_law 51 = .ok (.invokestatic 174, 3) := by decide +kernel
theorem dL_law_54 : decode cL_law 54 = .ok (.pop2, 1) := by decide +kernel
theorem dL_law_55 : decode cL_law 55 = .ok (.iinc 2 1, 3) := by decide +kernel
theorem dL_law_58 : decode cL_law 58 = .ok (.goto (-48), 3) := by decide +kernel
theorem dL_law_61 : decode cL_law 61 = .ok (.aload_n 1, 1) := by decide +kernel
theorem dL_law_62 : decode cL_law 62 = .ok (.iconst 0, 1) := by decide +kernel
theorem dL_law_63 : decode cL_law 63 = .ok (.invokestatic 181, 3) := by decide +kernel
theorem dL_law_66 : decode cL_law 66 = .ok (.pop2, 1) := by decide +kernel
theorem dL_law_67 : decode cL_law 67 = .ok (.aload_n 1, 1) := by decide +kernel
theorem dL_law_68 : decode cL_law 68 = .ok (.iconst 1, 1) := by decide +kernel
theorem dL_law_69 : decode cL_law 69 = .ok (.invokestatic 181, 3) := by decide +kernel
theorem dL_law_72 : decode cL_law 72 = .ok (.pop2, 1) := by decide +kernel
theorem dL_law_73 : decode cL_law 73 = .ok (.aload_n 1, 1) := by decide +kernel
theorem dL_law_74 : decode cL_law 74 = .ok (.aload_n 0, 1) := by decide +kernel
theorem dL_law_75 : decode cL_law 75 = .ok (.iconst 2, 1) := by decide +kernel
theorem dL_law_76 : decode cL_law 76 = .ok (.invokestatic 235, 3) := by decide +kernel
theorem dL_law_79 : decode cL_law 79 = .ok (.bipush 20, 2) := by decide +kernel
theorem dL_law_81 : decode cL_law 81 = .ok (.invokestatic 171, 3) := by decide +kernel
theorem dL_law_84 : decode cL_law 84 = .ok (.iconst 1, 1) := by decide +kernel
theorem dL_law_85 : decode cL_law 85 = .ok (.aload_n 0, 1) := by decide +kernel
theorem dL_law_86 : decode cL_law 86 = .ok (.iconst 2, 1) := by decide +kernel
theorem dL_law_87 : decode cL_law 87 = .ok (.invokestatic 235, 3) := by decide +kernel
theorem dL_law_90 : decode cL_law 90 = .ok (.iconst 5, 1) := by decide +kernel
theorem dL_law_91 : decode cL_law 91 = .ok (.ishr, 1) := by decide +kernel
theorem dL_law_92 : decode cL_law 92 = .ok (.bipush 9, 2) := by decide +kernel
theorem dL_law_94 : decode cL_law 94 = .ok (.invokestatic 171, 3) := by decide +kernel
theorem dL_law_97 : decode cL_law 97 = .ok (.iadd, 1) := by decide +kernel
theorem dL_law_98 : decode cL_law 98 = .ok (.invokestatic 185, 3) := by decide +kernel
theorem dL_law_101 : decode cL_law 101 = .ok (.pop2, 1) := by decide +kernel
theorem dL_law_102 : decode cL_law 102 = .ok (.iconst 3, 1) := by decide +kernel
theorem dL_law_103 : decode cL_law 103 = .ok (.istore_n 2, 1) := by decide +kernel
theorem dL_law_104 : decode cL_law 104 = .ok (.iload_n 2, 1) := by decide +kernel
theorem dL_law_105 : decode cL_law 105 = .ok (.bipush 30, 2) := by decide +kernel
theorem dL_law_107 : decode cL_law 107 = .ok (.if_icmp .ge 203, 3) := by decide +kernel
theorem dL_law_110 : decode cL_law 110 = .ok (.aload_n 0, 1) := by decide +kernel
theorem dL_law_111 : decode cL_law 111 = .ok (.iload_n 2, 1) := by decide +kernel
theorem dL_law_112 : decode cL_law 112 = .ok (.invokestatic 235, 3) := by decide +kernel
theorem dL_law_115 : decode cL_law 115 = .ok (.istore_n 3, 1) := by decide +kernel
theorem dL_law_116 : decode cL_law 116 = .ok (.aload_n 1, 1) := by decide +kernel
theorem dL_law_117 : decode cL_law 117 = .ok (.invokestatic 203, 3) := by decide +kernel
theorem dL_law_120 : decode cL_law 120 = .ok (.lstore 4, 2) := by decide +kernel
theorem dL_law_122 : decode cL_law 122 = .ok (.aload_n 1, 1) := by decide +kernel
theorem dL_law_123 : decode cL_law 123 = .ok (.bipush 16, 2) := by decide +kernel
theorem dL_law_125 : decode cL_law 125 = .ok (.invokestatic 155, 3) := by decide +kernel
theorem dL_law_128 : decode cL_law 128 = .ok (.lstore 6, 2) := by decide +kernel
theorem dL_law_130 : decode cL_law 130 = .ok (.aload_n 1, 1) := by decide +kernel
theorem dL_law_131 : decode cL_law 131 = .ok (.iload_n 3, 1) := by decide +kernel
theorem dL_law_132 : decode cL_law 132 = .ok (.invokestatic 239, 3) := by decide +kernel
theorem dL_law_135 : decode cL_law 135 = .ok (.lstore 8, 2) := by decide +kernel
theorem dL_law_137 : decode cL_law 137 = .ok (.lload 8, 2) := by decide +kernel
theorem dL_law_139 : decode cL_law 139 = .ok (.lconst 0, 1) := by decide +kernel
theorem dL_law_140 : decode cL_law 140 = .ok (.lcmp, 1) := by decide +kernel
theorem dL_law_141 : decode cL_law 141 = .ok (.ifCond .ge 13, 3) := by decide +kernel
theorem dL_law_144 : decode cL_law 144 = .ok (.aload_n 1, 1) := by decide +kernel
theorem dL_law_145 : decode cL_law 145 = .ok (.invokestatic 203, 3) := by decide +kernel
theorem dL_law_148 : decode cL_law 148 = .ok (.lload 4, 2) := by decide +kernel
theorem dL_law_150 : decode cL_law 150 = .ok (.lcmp, 1) := by decide +kernel
theorem dL_law_151 : decode cL_law 151 = .ok (.ifCond .ne 14, 3) := by decide +kernel
theorem dL_law_154 : decode cL_law 154 = .ok (.aload_n 1, 1) := by decide +kernel
theorem dL_law_155 : decode cL_law 155 = .ok (.bipush 15, 2) := by decide +kernel
theorem dL_law_157 : decode cL_law 157 = .ok (.invokestatic 155, 3) := by decide +kernel
theorem dL_law_160 : decode cL_law 160 = .ok (.lconst 0, 1) := by decide +kernel
theorem dL_law_161 : decode cL_law 161 = .ok (.lcmp, 1) := by decide +kernel
theorem dL_law_162 : decode cL_law 162 = .ok (.ifCond .eq 5, 3) := by decide +kernel
theorem dL_law_165 : decode cL_law 165 = .ok (.iconst 0, 1) := by decide +kernel
theorem dL_law_166 : decode cL_law 166 = .ok (.ireturn, 1) := by decide +kernel
theorem dL_law_167 : decode cL_law 167 = .ok (.lload 8, 2) := by decide +kernel
theorem dL_law_169 : decode cL_law 169 = .ok (.lconst 0, 1) := by decide +kernel
theorem dL_law_170 : decode cL_law 170 = .ok (.lcmp, 1) := by decide +kernel
theorem dL_law_171 : decode cL_law 171 = .ok (.ifCond .lt 43, 3) := by decide +kernel
theorem dL_law_174 : decode cL_law 174 = .ok (.iload_n 2, 1) := by decide +kernel
theorem dL_law_175 : decode cL_law 175 = .ok (.iconst 3, 1) := by decide +kernel
theorem dL_law_176 : decode cL_law 176 = .ok (.irem, 1) := by decide +kernel
theorem dL_law_177 : decode cL_law 177 = .ok (.ifCond .ne 37, 3) := by decide +kernel
theorem dL_law_180 : decode cL_law 180 = .ok (.aload_n 1, 1) := by decide +kernel
theorem dL_law_181 : decode cL_law 181 = .ok (.invokestatic 212, 3) := by decide +kernel
theorem dL_law_184 : decode cL_law 184 = .ok (.lload 6, 2) := by decide +kernel
theorem dL_law_186 : decode cL_law 186 = .ok (.ldc2_w 242, 3) := by decide +kernel
theorem dL_law_189 : decode cL_law 189 = .ok (.invokestatic 244, 3) := by decide +kernel
theorem dL_law_192 : decode cL_law 192 = .ok (.lcmp, 1) := by decide +kernel
theorem dL_law_193 : decode cL_law 193 = .ok (.ifCond .ne 13, 3) := by decide +kernel
theorem dL_law_196 : decode cL_law 196 = .ok (.aload_n 1, 1) := by decide +kernel
theorem dL_law_197 : decode cL_law 197 = .ok (.invokestatic 203, 3) := by decide +kernel
theorem dL_law_200 : decode cL_law 200 = .ok (.lload 4, 2) := by decide +kernel
theorem dL_law_202 : decode cL_law 202 = .ok (.lcmp, 1) := by decide +kernel
theorem dL_law_203 : decode cL_law 203 = .ok (.ifCond .eq 5, 3) := by decide +kernel
theorem dL_law_206 : decode cL_law 206 = .ok (.iconst 0, 1) := by decide +kernel
theorem dL_law_207 : decode cL_law 207 = .ok (.ireturn, 1) := by decide +kernel
theorem dL_law_208 : decode cL_law 208 = .ok (.aload_n 1, 1) := by decide +kernel
theorem dL_law_209 : decode cL_law 209 = .ok (.iload_n 3, 1) := by decide +kernel
theorem dL_law_210 : decode cL_law 210 = .ok (.invokestatic 239, 3) := by decide +kernel
theorem dL_law_213 : decode cL_law 213 = .ok (.pop2, 1) := by decide +kernel
theorem dL_law_214 : decode cL_law 214 = .ok (.iload_n 2, 1) := by decide +kernel
theorem dL_law_215 : decode cL_law 215 = .ok (.iconst 5, 1) := by decide +kernel
theorem dL_law_216 : decode cL_law 216 = .ok (.irem, 1) := by decide +kernel
theorem dL_law_217 : decode cL_law 217 = .ok (.ifCond .ne 68, 3) := by decide +kernel
theorem dL_law_220 : decode cL_law 220 = .ok (.aload_n 1, 1) := by decide +kernel
theorem dL_law_221 : decode cL_law 221 = .ok (.invokestatic 203, 3) := by decide +kernel
theorem dL_law_224 : decode cL_law 224 = .ok (.lstore 10, 2) := by decide +kernel
theorem dL_law_226 : decode cL_law 226 = .ok (.aload_n 1, 1) := by decide +kernel
theorem dL_law_227 : decode cL_law 227 = .ok (.invokestatic 250, 3) := by decide +kernel
theorem dL_law_230 : decode cL_law 230 = .ok (.aload_n 1, 1) := by decide +kernel
theorem dL_law_231 : decode cL_law 231 = .ok (.iconst 2, 1) := by decide +kernel
theorem dL_law_232 : decode cL_law 232 = .ok (.invokestatic 155, 3) := by decide +kernel
theorem dL_law_235 : decode cL_law 235 = .ok (.lcmp, 1) := by decide +kernel
theorem dL_law_236 : decode cL_law 236 = .ok (.ifCond .eq 5, 3) := by decide +kernel
theorem dL_law_239 : decode cL_law 239 = .ok (.iconst 0, 1) := by decide +kernel
theorem dL_law_240 : decode cL_law 240 = .ok (.ireturn, 1) := by decide +kernel
theorem dL_law_241 : decode cL_law 241 = .ok (.aload_n 1, 1) := by decide +kernel
theorem dL_law_242 : decode cL_law 242 = .ok (.iload_n 3, 1) := by decide +kernel
theorem dL_law_243 : decode cL_law 243 = .ok (.iconst 1, 1) := by decide +kernel
theorem dL_law_244 : decode cL_law 244 = .ok (.iadd, 1) := by decide +kernel
theorem dL_law_245 : decode cL_law 245 = .ok (.invokestatic 239, 3) := by decide +kernel
theorem dL_law_248 : decode cL_law 248 = .ok (.pop2, 1) := by decide +kernel
theorem dL_law_249 : decode cL_law 249 = .ok (.aload_n 1, 1) := by decide +kernel
theorem dL_law_250 : decode cL_law 250 = .ok (.invokestatic 252, 3) := by decide +kernel
theorem dL_law_253 : decode cL_law 253 = .ok (.aload_n 1, 1) := by decide +kernel
theorem dL_law_254 : decode cL_law 254 = .ok (.iconst 2, 1) := by decide +kernel
theorem dL_law_255 : decode cL_law 255 = .ok (.invokestatic 155, 3) := by decide +kernel
theorem dL_law_258 : decode cL_law 258 = .ok (.lcmp, 1) := by decide +kernel
theorem dL_law_259 : decode cL_law 259 = .ok (.ifCond .ne 24, 3) := by decide +kernel
theorem dL_law_262 : decode cL_law 262 = .ok (.aload_n 1, 1) := by decide +kernel
theorem dL_law_263 : decode cL_law 263 = .ok (.invokestatic 203, 3) := by decide +kernel
theorem dL_law_266 : decode cL_law 266 = .ok (.lload 10, 2) := by decide +kernel
theorem dL_law_268 : decode cL_law 268 = .ok (.lcmp, 1) := by decide +kernel
theorem dL_law_269 : decode cL_law 269 = .ok (.ifCond .ne 14, 3) := by decide +kernel
theorem dL_law_272 : decode cL_law 272 = .ok (.aload_n 1, 1) := by decide +kernel
theorem dL_law_273 : decode cL_law 273 = .ok (.invokestatic 212, 3) := by decide +kernel
theorem dL_law_276 : decode cL_law 276 = .ok (.ldc2_w 254, 3) := by decide +kernel
theorem dL_law_279 : decode cL_law 279 = .ok (.lcmp, 1) := by decide +kernel
theorem dL_law_280 : decode cL_law 280 = .ok (.ifCond .eq 5, 3) := by decide +kernel
theorem dL_law_283 : decode cL_law 283 = .ok (.iconst 0, 1) := by decide +kernel
theorem dL_law_284 : decode cL_law 284 = .ok (.ireturn, 1) := by decide +kernel
theorem dL_law_285 : decode cL_law 285 = .ok (.iload_n 2, 1) := by decide +kernel
theorem dL_law_286 : decode cL_law 286 = .ok (.iconst 4, 1) := by decide +kernel
theorem dL_law_287 : decode cL_law 287 = .ok (.irem, 1) := by decide +kernel
theorem dL_law_288 : decode cL_law 288 = .ok (.iconst 1, 1) := by decide +kernel
theorem dL_law_289 : decode cL_law 289 = .ok (.if_icmp .ne 15, 3) := by decide +kernel
theorem dL_law_292 : decode cL_law 292 = .ok (.aload_n 1, 1) := by decide +kernel
theorem dL_law_293 : decode cL_law 293 = .ok (.iload_n 3, 1) := by decide +kernel
theorem dL_law_294 : decode cL_law 294 = .ok (.iconst 3, 1) := by decide +kernel
theorem dL_law_295 : decode cL_law 295 = .ok (.ishr, 1) := by decide +kernel
theorem dL_law_296 : decode cL_law 296 = .ok (.invokestatic 256, 3) := by decide +kernel
theorem dL_law_299 : decode cL_law 299 = .ok (.ifCond .ne 5, 3) := by decide +kernel
theorem dL_law_302 : decode cL_law 302 = .ok (.iconst 0, 1) := by decide +kernel
theorem dL_law_303 : decode cL_law 303 = .ok (.ireturn, 1) := by decide +kernel
theorem dL_law_304 : decode cL_law 304 = .ok (.iinc 2 1, 3) := by decide +kernel
theorem dL_law_307 : decode cL_law 307 = .ok (.goto (-203), 3) := by decide +kernel
theorem dL_law_310 : decode cL_law 310 = .ok (.iconst 1, 1) := by decide +kernel
theorem dL_law_311 : decode cL_law 311 = .ok (.ireturn, 1) := by decide +kernel
