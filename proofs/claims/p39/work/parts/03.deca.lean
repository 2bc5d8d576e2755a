theorem dX0_init_0 : decode cX0_init 0 = .ok (.aload_n 0, 1) := by decide +kernel
theorem dX0_init_1 : decode cX0_init 1 = .ok (.invokespecial 3, 3) := by decide +kernel
theorem dX0_init_4 : decode cX0_init 4 = .ok (.aload_n 0, 1) := by decide +kernel
theorem dX0_init_5 : decode cX0_init 5 = .ok (.new 9, 3) := by decide +kernel
theorem dX0_init_8 : decode cX0_init 8 = .ok (.dup, 1) := by decide +kernel
theorem dX0_init_9 : decode cX0_init 9 = .ok (.invokespecial 11, 3) := by decide +kernel
theorem dX0_init_12 : decode cX0_init 12 = .ok (.putfield 12, 3) := by decide +kernel
theorem dX0_init_15 : decode cX0_init 15 = .ok (.aload_n 0, 1) := by decide +kernel
theorem dX0_init_16 : decode cX0_init 16 = .ok (.new 18, 3) := by decide +kernel
theorem dX0_init_19 : decode cX0_init 19 = .ok (.dup, 1) := by decide +kernel
theorem dX0_init_20 : decode cX0_init 20 = .ok (.invokespecial 20, 3) := by decide +kernel
theorem dX0_init_23 : decode cX0_init 23 = .ok (.putfield 21, 3) := by decide +kernel
theorem dX0_init_26 : decode cX0_init 26 = .ok (.aload_n 0, 1) := by decide +kernel
theorem dX0_init_27 : decode cX0_init 27 = .ok (.iconst 0, 1) := by decide +kernel
theorem dX0_init_28 : decode cX0_init 28 = .ok (.putfield 25, 3) := by decide +kernel
theorem dX0_init_31 : decode cX0_init 31 = .ok (.aload_n 0, 1) := by decide +kernel
theorem dX0_init_32 : decode cX0_init 32 = .ok (.iconst 0, 1) := by decide +kernel
theorem dX0_init_33 : decode cX0_init 33 = .ok (.putfield 29, 3) := by decide +kernel
theorem dX0_init_36 : decode cX0_init 36 = .ok (.return_, 1) := by decide +kernel
theorem dX0_beginFrom_0 : decode cX0_beginFrom 0 = .ok (.aload_n 0, 1) := by decide +kernel
theorem dX0_beginFrom_1 : decode cX0_beginFrom 1 = .ok (.getfield 12, 3) := by decide +kernel
theorem dX0_beginFrom_4 : decode cX0_beginFrom 4 = .ok (.aload_n 1, 1) := by decide +kernel
theorem dX0_beginFrom_5 : decode cX0_beginFrom 5 = .ok (.invokevirtual 32, 3) := by decide +kernel
theorem dX0_beginFrom_8 : decode cX0_beginFrom 8 = .ok (.return_, 1) := by decide +kernel
theorem dX0_result_0 : decode cX0_result 0 = .ok (.aload_n 0, 1) := by decide +kernel
theorem dX0_result_1 : decode cX0_result 1 = .ok (.getfield 12, 3) := by decide +kernel
theorem dX0_result_4 : decode cX0_result 4 = .ok (.areturn, 1) := by decide +kernel
theorem dX0_refusedFor_0 : decode cX0_refusedFor 0 = .ok (.aload_n 0, 1) := by decide +kernel
theorem dX0_refusedFor_1 : decode cX0_refusedFor 1 = .ok (.getfield 25, 3) := by decide +kernel
theorem dX0_refusedFor_4 : decode cX0_refusedFor 4 = .ok (.ireturn, 1) := by decide +kernel
theorem dX0_refusedDetail_0 : decode cX0_refusedDetail 0 = .ok (.aload_n 0, 1) := by decide +kernel
theorem dX0_refusedDetail_1 : decode cX0_refusedDetail 1 = .ok (.getfield 29, 3) := by decide +kernel
theorem dX0_refusedDetail_4 : decode cX0_refusedDetail 4 = .ok (.ireturn, 1) := by decide +kernel
theorem dX0_refuse_0 : decode cX0_refuse 0 = .ok (.aload_n 0, 1) := by decide +kernel
theorem dX0_refuse_1 : decode cX0_refuse 1 = .ok (.iload_n 1, 1) := by decide +kernel
theorem dX0_refuse_2 : decode cX0_refuse 2 = .ok (.putfield 25, 3) := by decide +kernel
theorem dX0_refuse_5 : decode cX0_refuse 5 = .ok (.aload_n 0, 1) := by decide +kernel
theorem dX0_refuse_6 : decode cX0_refuse 6 = .ok (.iload_n 2, 1) := by decide +kernel
theorem dX0_refuse_7 : decode cX0_refuse 7 = .ok (.putfield 29, 3) := by decide +kernel
theorem dX0_refuse_10 : decode cX0_refuse 10 = .ok (.bipush (-14), 2) := by decide +kernel
theorem dX0_refuse_12 : decode cX0_refuse 12 = .ok (.ireturn, 1) := by decide +kernel
theorem dX0_admit_0 : decode cX0_admit 0 = .ok (.iload_n 1, 1) := by decide +kernel
theorem dX0_admit_1 : decode cX0_admit 1 = .ok (.bipush 50, 2) := by decide +kernel
theorem dX0_admit_3 : decode cX0_admit 3 = .ok (.if_icmp .lt 9, 3) := by decide +kernel
theorem dX0_admit_6 : decode cX0_admit 6 = .ok (.iload_n 1, 1) := by decide +kernel
theorem dX0_admit_7 : decode cX0_admit 7 = .ok (.bipush 90, 2) := by decide +kernel
theorem dX0_admit_9 : decode cX0_admit 9 = .ok (.if_icmp .le 6, 3) := by decide +kernel
theorem dX0_admit_12 : decode cX0_admit 12 = .ok (.bipush (-12), 2) := by decide +kernel
theorem dX0_admit_14 : decode cX0_admit 14 = .ok (.ireturn, 1) := by decide +kernel
theorem dX0_admit_15 : decode cX0_admit 15 = .ok (.aload_n 0, 1) := by decide +kernel
theorem dX0_admit_16 : decode cX0_admit 16 = .ok (.getfield 12, 3) := by decide +kernel
theorem dX0_admit_19 : decode cX0_admit 19 = .ok (.sipush 284, 3) := by decide +kernel
theorem dX0_admit_22 : decode cX0_admit 22 = .ok (.invokevirtual 36, 3) := by decide +kernel
theorem dX0_admit_25 : decode cX0_admit 25 = .ok (.istore_n 3, 1) := by decide +kernel
theorem dX0_admit_26 : decode cX0_admit 26 = .ok (.iload_n 3, 1) := by decide +kernel
theorem dX0_admit_27 : decode cX0_admit 27 = .ok (.bipush 16, 2) := by decide +kernel
theorem dX0_admit_29 : decode cX0_admit 29 = .ok (.if_icmp .lt 11, 3) := by decide +kernel
theorem dX0_admit_32 : decode cX0_admit 32 = .ok (.aload_n 0, 1) := by decide +kernel
theorem dX0_admit_33 : decode cX0_admit 33 = .ok (.iconst 1, 1) := by decide +kernel
theorem dX0_admit_34 : decode cX0_admit 34 = .ok (.bipush 16, 2) := by decide +kernel
theorem dX0_admit_36 : decode cX0_admit 36 = .ok (.invokevirtual 40, 3) := by decide +kernel
theorem dX0_admit_39 : decode cX0_admit 39 = .ok (.ireturn, 1) := by decide +kernel
theorem dX0_admit_40 : decode cX0_admit 40 = .ok (.aload_n 0, 1) := by decide +kernel
theorem dX0_admit_41 : decode cX0_admit 41 = .ok (.getfield 12, 3) := by decide +kernel
theorem dX0_admit_44 : decode cX0_admit 44 = .ok (.sipush 284, 3) := by decide +kernel
theorem dX0_admit_47 : decode cX0_admit 47 = .ok (.iload_n 3, 1) := by decide +kernel
theorem dX0_admit_48 : decode cX0_admit 48 = .ok (.iconst 1, 1) := by decide +kernel
theorem dX0_admit_49 : decode cX0_admit 49 = .ok (.iadd, 1) := by decide +kernel
theorem dX0_admit_50 : decode cX0_admit 50 = .ok (.invokevirtual 44, 3) := by decide +kernel
theorem dX0_admit_53 : decode cX0_admit 53 = .ok (.aload_n 0, 1) := by decide +kernel
theorem dX0_admit_54 : decode cX0_admit 54 = .ok (.getfield 12, 3) := by decide +kernel
theorem dX0_admit_57 : decode cX0_admit 57 = .ok (.iconst 0, 1) := by decide +kernel
theorem dX0_admit_58 : decode cX0_admit 58 = .ok (.iload_n 3, 1) := by decide +kernel
theorem dX0_admit_59 : decode cX0_admit 59 = .ok (.iload_n 1, 1) := by decide +kernel
theorem dX0_admit_60 : decode cX0_admit 60 = .ok (.invokevirtual 48, 3) := by decide +kernel
theorem dX0_admit_63 : decode cX0_admit 63 = .ok (.aload_n 0, 1) := by decide +kernel
theorem dX0_admit_64 : decode cX0_admit 64 = .ok (.getfield 12, 3) := by decide +kernel
theorem dX0_admit_67 : decode cX0_admit 67 = .ok (.iconst 1, 1) := by decide +kernel
theorem dX0_admit_68 : decode cX0_admit 68 = .ok (.iload_n 3, 1) := by decide +kernel
theorem dX0_admit_69 : decode cX0_admit 69 = .ok (.iload_n 2, 1) := by decide +kernel
theorem dX0_admit_70 : decode cX0_admit 70 = .ok (.ifCond .eq 7, 3) := by decide +kernel
theorem dX0_admit_73 : decode cX0_admit 73 = .ok (.iconst 1, 1) := by decide +kernel
theorem dX0_admit_74 : decode cX0_admit 74 = .ok (.goto 4, 3) := by decide +kernel
theorem dX0_admit_77 : decode cX0_admit 77 = .ok (.iconst 0, 1) := by decide +kernel
theorem dX0_admit_78 : decode cX0_admit 78 = .ok (.invokevirtual 48, 3) := by decide +kernel
theorem dX0_admit_81 : decode cX0_admit 81 = .ok (.aload_n 0, 1) := by decide +kernel
theorem dX0_admit_82 : decode cX0_admit 82 = .ok (.getfield 12, 3) := by decide +kernel
theorem dX0_admit_85 : decode cX0_admit 85 = .ok (.iconst 2, 1) := by decide +kernel
theorem dX0_admit_86 : decode cX0_admit 86 = .ok (.iload_n 3, 1) := by decide +kernel
theorem dX0_admit_87 : decode cX0_admit 87 = .ok (.iconst 0, 1) := by decide +kernel
theorem dX0_admit_88 : decode cX0_admit 88 = .ok (.invokevirtual 48, 3) := by decide +kernel
theorem dX0_admit_91 : decode cX0_admit 91 = .ok (.iload_n 3, 1) := by decide +kernel
theorem dX0_admit_92 : decode cX0_admit 92 = .ok (.ireturn, 1) := by decide +kernel
theorem dX0_dropFromLine_0 : decode cX0_dropFromLine 0 = .ok (.aload_n 0, 1) := by decide +kernel
theorem dX0_dropFromLine_1 : decode cX0_dropFromLine 1 = .ok (.getfield 12, 3) := by decide +kernel
theorem dX0_dropFromLine_4 : decode cX0_dropFromLine 4 = .ok (.iload_n 1, 1) := by decide +kernel
theorem dX0_dropFromLine_5 : decode cX0_dropFromLine 5 = .ok (.invokevirtual 52, 3) := by decide +kernel
theorem dX0_dropFromLine_8 : decode cX0_dropFromLine 8 = .ok (.ifCond .ne 6, 3) := by decide +kernel
theorem dX0_dropFromLine_11 : decode cX0_dropFromLine 11 = .ok (.bipush (-11), 2) := by decide +kernel
theorem dX0_dropFromLine_13 : decode cX0_dropFromLine 13 = .ok (.ireturn, 1) := by decide +kernel
theorem dX0_dropFromLine_14 : decode cX0_dropFromLine 14 = .ok (.aload_n 0, 1) := by decide +kernel
theorem dX0_dropFromLine_15 : decode cX0_dropFromLine 15 = .ok (.getfield 12, 3) := by decide +kernel
theorem dX0_dropFromLine_18 : decode cX0_dropFromLine 18 = .ok (.iconst 0, 1) := by decide +kernel
theorem dX0_dropFromLine_19 : decode cX0_dropFromLine 19 = .ok (.iload_n 1, 1) := by decide +kernel
theorem dX0_dropFromLine_20 : decode cX0_dropFromLine 20 = .ok (.invokevirtual 56, 3) := by decide +kernel
theorem dX0_dropFromLine_23 : decode cX0_dropFromLine 23 = .ok (.ifCond .ne 18, 3) := by decide +kernel
theorem dX0_dropFromLine_26 : decode cX0_dropFromLine 26 = .ok (.aload_n 0, 1) := by decide +kernel
theorem dX0_dropFromLine_27 : decode cX0_dropFromLine 27 = .ok (.iconst 2, 1) := by decide +kernel
theorem dX0_dropFromLine_28 : decode cX0_dropFromLine 28 = .ok (.aload_n 0, 1) := by decide +kernel
theorem dX0_dropFromLine_29 : decode cX0_dropFromLine 29 = .ok (.getfield 12, 3) := by decide +kernel
theorem dX0_dropFromLine_32 : decode cX0_dropFromLine 32 = .ok (.iconst 2, 1) := by decide +kernel
theorem dX0_dropFromLine_33 : decode cX0_dropFromLine 33 = .ok (.iload_n 1, 1) := by decide +kernel
theorem dX0_dropFromLine_34 : decode cX0_dropFromLine 34 = .ok (.invokevirtual 60, 3) := by decide +kernel
theorem dX0_dropFromLine_37 : decode cX0_dropFromLine 37 = .ok (.invokevirtual 40, 3) := by decide +kernel
theorem dX0_dropFromLine_40 : decode cX0_dropFromLine 40 = .ok (.ireturn, 1) := by decide +kernel
theorem dX0_dropFromLine_41 : decode cX0_dropFromLine 41 = .ok (.aload_n 0, 1) := by decide +kernel
theorem dX0_dropFromLine_42 : decode cX0_dropFromLine 42 = .ok (.getfield 12, 3) := by decide +kernel
theorem dX0_dropFromLine_45 : decode cX0_dropFromLine 45 = .ok (.iconst 2, 1) := by decide +kernel
theorem dX0_dropFromLine_46 : decode cX0_dropFromLine 46 = .ok (.iload_n 1, 1) := by decide +kernel
theorem dX0_dropFromLine_47 : decode cX0_dropFromLine 47 = .ok (.iconst 3, 1) := by decide +kernel
theorem dX0_dropFromLine_48 : decode cX0_dropFromLine 48 = .ok (.invokevirtual 48, 3) := by decide +kernel
theorem dX0_dropFromLine_51 : decode cX0_dropFromLine 51 = .ok (.aload_n 0, 1) := by decide +kernel
theorem dX0_dropFromLine_52 : decode cX0_dropFromLine 52 = .ok (.iload_n 1, 1) := by decide +kernel
theorem dX0_dropFromLine_53 : decode cX0_dropFromLine 53 = .ok (.invokevirtual 63, 3) := by decide +kernel
theorem dX0_dropFromLine_56 : decode cX0_dropFromLine 56 = .ok (.aload_n 0, 1) := by decide +kernel
theorem dX0_dropFromLine_57 : decode cX0_dropFromLine 57 = .ok (.getfield 12, 3) := by decide +kernel
theorem dX0_dropFromLine_60 : decode cX0_dropFromLine 60 = .ok (.iconst 0, 1) := by decide +kernel
theorem dX0_dropFromLine_61 : decode cX0_dropFromLine 61 = .ok (.invokevirtual 67, 3) := by decide +kernel
theorem dX0_dropFromLine_64 : decode cX0_dropFromLine 64 = .ok (.ireturn, 1) := by decide +kernel
theorem dX0_giveVoice_0 : decode cX0_giveVoice 0 = .ok (.aload_n 0, 1) := by decide +kernel
theorem dX0_giveVoice_1 : decode cX0_giveVoice 1 = .ok (.getfield 12, 3) := by decide +kernel
theorem dX0_giveVoice_4 : decode cX0_giveVoice 4 = .ok (.iload_n 1, 1) := by decide +kernel
theorem dX0_giveVoice_5 : decode cX0_giveVoice 5 = .ok (.invokevirtual 52, 3) := by decide +kernel
theorem dX0_giveVoice_8 : decode cX0_giveVoice 8 = .ok (.ifCond .eq 14, 3) := by decide +kernel
theorem dX0_giveVoice_11 : decode cX0_giveVoice 11 = .ok (.aload_n 0, 1) := by decide +kernel
theorem dX0_giveVoice_12 : decode cX0_giveVoice 12 = .ok (.getfield 12, 3) := by decide +kernel
theorem dX0_giveVoice_15 : decode cX0_giveVoice 15 = .ok (.iload_n 2, 1) := by decide +kernel
theorem dX0_giveVoice_16 : decode cX0_giveVoice 16 = .ok (.invokevirtual 52, 3) := by decide +kernel
theorem dX0_giveVoice_19 : decode cX0_giveVoice 19 = .ok (.ifCond .ne 6, 3) := by decide +kernel
theorem dX0_giveVoice_22 : decode cX0_giveVoice 22 = .ok (.bipush (-11), 2) := by decide +kernel
theorem dX0_giveVoice_24 : decode cX0_giveVoice 24 = .ok (.ireturn, 1) := by decide +kernel
theorem dX0_giveVoice_25 : decode cX0_giveVoice 25 = .ok (.aload_n 0, 1) := by decide +kernel
theorem dX0_giveVoice_26 : decode cX0_giveVoice 26 = .ok (.getfield 12, 3) := by decide +kernel
theorem dX0_giveVoice_29 : decode cX0_giveVoice 29 = .ok (.iconst 1, 1) := by decide +kernel
theorem dX0_giveVoice_30 : decode cX0_giveVoice 30 = .ok (.iload_n 1, 1) := by decide +kernel
theorem dX0_giveVoice_31 : decode cX0_giveVoice 31 = .ok (.invokevirtual 56, 3) := by decide +kernel
theorem dX0_giveVoice_34 : decode cX0_giveVoice 34 = .ok (.ifCond .ne 18, 3) := by decide +kernel
theorem dX0_giveVoice_37 : decode cX0_giveVoice 37 = .ok (.aload_n 0, 1) := by decide +kernel
theorem dX0_giveVoice_38 : decode cX0_giveVoice 38 = .ok (.iconst 3, 1) := by decide +kernel
theorem dX0_giveVoice_39 : decode cX0_giveVoice 39 = .ok (.aload_n 0, 1) := by decide +kernel
theorem dX0_giveVoice_40 : decode cX0_giveVoice 40 = .ok (.getfield 12, 3) := by decide +kernel
theorem dX0_giveVoice_43 : decode cX0_giveVoice 43 = .ok (.iconst 2, 1) := by decide +kernel
theorem dX0_giveVoice_44 : decode cX0_giveVoice 44 = .ok (.iload_n 1, 1) := by decide +kernel
theorem dX0_giveVoice_45 : decode cX0_giveVoice 45 = .ok (.invokevirtual 60, 3) := by decide +kernel
theorem dX0_giveVoice_48 : decode cX0_giveVoice 48 = .ok (.invokevirtual 40, 3) := by decide +kernel
theorem dX0_giveVoice_51 : decode cX0_giveVoice 51 = .ok (.ireturn, 1) := by decide +kernel
theorem dX0_giveVoice_52 : decode cX0_giveVoice 52 = .ok (.aload_n 0, 1) := by decide +kernel
theorem dX0_giveVoice_53 : decode cX0_giveVoice 53 = .ok (.getfield 12, 3) := by decide +kernel
theorem dX0_giveVoice_56 : decode cX0_giveVoice 56 = .ok (.iconst 5, 1) := by decide +kernel
theorem dX0_giveVoice_57 : decode cX0_giveVoice 57 = .ok (.iload_n 1, 1) := by decide +kernel
theorem dX0_giveVoice_58 : decode cX0_giveVoice 58 = .ok (.invokevirtual 60, 3) := by decide +kernel
theorem dX0_giveVoice_61 : decode cX0_giveVoice 61 = .ok (.ifCond .le 18, 3) := by decide +kernel
theorem dX0_giveVoice_64 : decode cX0_giveVoice 64 = .ok (.aload_n 0, 1) := by decide +kernel
theorem dX0_giveVoice_65 : decode cX0_giveVoice 65 = .ok (.iconst 4, 1) := by decide +kernel
theorem dX0_giveVoice_66 : decode cX0_giveVoice 66 = .ok (.aload_n 0, 1) := by decide +kernel
theorem dX0_giveVoice_67 : decode cX0_giveVoice 67 = .ok (.getfield 12, 3) := by decide +kernel
theorem dX0_giveVoice_70 : decode cX0_giveVoice 70 = .ok (.iconst 5, 1) := by decide +kernel
theorem dX0_giveVoice_71 : decode cX0_giveVoice 71 = .ok (.iload_n 1, 1) := by decide +kernel
theorem dX0_giveVoice_72 : decode cX0_giveVoice 72 = .ok (.invokevirtual 60, 3) := by decide +kernel
theorem dX0_giveVoice_75 : decode cX0_giveVoice 75 = .ok (.invokevirtual 40, 3) := by decide +kernel
theorem dX0_giveVoice_78 : decode cX0_giveVoice 78 = .ok (.ireturn, 1) := by decide +kernel
theorem dX0_giveVoice_79 : decode cX0_giveVoice 79 = .ok (.aload_n 0, 1) := by decide +kernel
theorem dX0_giveVoice_80 : decode cX0_giveVoice 80 = .ok (.getfield 12, 3) := by decide +kernel
theorem dX0_giveVoice_83 : decode cX0_giveVoice 83 = .ok (.iconst 0, 1) := by decide +kernel
theorem dX0_giveVoice_84 : decode cX0_giveVoice 84 = .ok (.iload_n 2, 1) := by decide +kernel
theorem dX0_giveVoice_85 : decode cX0_giveVoice 85 = .ok (.invokevirtual 56, 3) := by decide +kernel
theorem dX0_giveVoice_88 : decode cX0_giveVoice 88 = .ok (.ifCond .ne 18, 3) := by decide +kernel
theorem dX0_giveVoice_91 : decode cX0_giveVoice 91 = .ok (.aload_n 0, 1) := by decide +kernel
theorem dX0_giveVoice_92 : decode cX0_giveVoice 92 = .ok (.iconst 2, 1) := by decide +kernel
theorem dX0_giveVoice_93 : decode cX0_giveVoice 93 = .ok (.aload_n 0, 1) := by decide +kernel
theorem dX0_giveVoice_94 : decode cX0_giveVoice 94 = .ok (.getfield 12, 3) := by decide +kernel
theorem dX0_giveVoice_97 : decode cX0_giveVoice 97 = .ok (.iconst 2, 1) := by decide +kernel
theorem dX0_giveVoice_98 : decode cX0_giveVoice 98 = .ok (.iload_n 2, 1) := by decide +kernel
theorem dX0_giveVoice_99 : decode cX0_giveVoice 99 = .ok (.invokevirtual 60, 3) := by decide +kernel
theorem dX0_giveVoice_102 : decode cX0_giveVoice 102 = .ok (.invokevirtual 40, 3) := by decide +kernel
theorem dX0_giveVoice_105 : decode cX0_giveVoice 105 = .ok (.ireturn, 1) := by decide +kernel
theorem dX0_giveVoice_106 : decode cX0_giveVoice 106 = .ok (.aload_n 0, 1) := by decide +kernel
theorem dX0_giveVoice_107 : decode cX0_giveVoice 107 = .ok (.getfield 12, 3) := by decide +kernel
theorem dX0_giveVoice_110 : decode cX0_giveVoice 110 = .ok (.bipush 7, 2) := by decide +kernel
theorem dX0_giveVoice_112 : decode cX0_giveVoice 112 = .ok (.iload_n 1, 1) := by decide +kernel
theorem dX0_giveVoice_113 : decode cX0_giveVoice 113 = .ok (.iload_n 2, 1) := by decide +kernel
theorem dX0_giveVoice_114 : decode cX0_giveVoice 114 = .ok (.invokevirtual 48, 3) := by decide +kernel
theorem dX0_giveVoice_117 : decode cX0_giveVoice 117 = .ok (.aload_n 0, 1) := by decide +kernel
theorem dX0_giveVoice_118 : decode cX0_giveVoice 118 = .ok (.getfield 12, 3) := by decide +kernel
theorem dX0_giveVoice_121 : decode cX0_giveVoice 121 = .ok (.iload_n 2, 1) := by decide +kernel
theorem dX0_giveVoice_122 : decode cX0_giveVoice 122 = .ok (.invokevirtual 70, 3) := by decide +kernel
theorem dX0_giveVoice_125 : decode cX0_giveVoice 125 = .ok (.ireturn, 1) := by decide +kernel
theorem dX0_fillCell_0 : decode cX0_fillCell 0 = .ok (.iload_n 1, 1) := by decide +kernel
theorem dX0_fillCell_1 : decode cX0_fillCell 1 = .ok (.invokestatic 73, 3) := by decide +kernel
theorem dX0_fillCell_4 : decode cX0_fillCell 4 = .ok (.ifCond .ne 6, 3) := by decide +kernel
theorem dX0_fillCell_7 : decode cX0_fillCell 7 = .ok (.bipush (-11), 2) := by decide +kernel
theorem dX0_fillCell_9 : decode cX0_fillCell 9 = .ok (.ireturn, 1) := by decide +kernel
theorem dX0_fillCell_10 : decode cX0_fillCell 10 = .ok (.aload_n 0, 1) := by decide +kernel
theorem dX0_fillCell_11 : decode cX0_fillCell 11 = .ok (.getfield 12, 3) := by decide +kernel
theorem dX0_fillCell_14 : decode cX0_fillCell 14 = .ok (.aload_n 0, 1) := by decide +kernel
theorem dX0_fillCell_15 : decode cX0_fillCell 15 = .ok (.getfield 12, 3) := by decide +kernel
theorem dX0_fillCell_18 : decode cX0_fillCell 18 = .ok (.sipush 224, 3) := by decide +kernel
theorem dX0_fillCell_21 : decode cX0_fillCell 21 = .ok (.iload_n 1, 1) := by decide +kernel
theorem dX0_fillCell_22 : decode cX0_fillCell 22 = .ok (.iadd, 1) := by decide +kernel
theorem dX0_fillCell_23 : decode cX0_fillCell 23 = .ok (.invokevirtual 36, 3) := by decide +kernel
theorem dX0_fillCell_26 : decode cX0_fillCell 26 = .ok (.invokevirtual 52, 3) := by decide +kernel
theorem dX0_fillCell_29 : decode cX0_fillCell 29 = .ok (.ifCond .eq 21, 3) := by decide +kernel
theorem dX0_fillCell_32 : decode cX0_fillCell 32 = .ok (.aload_n 0, 1) := by decide +kernel
theorem dX0_fillCell_33 : decode cX0_fillCell 33 = .ok (.iconst 5, 1) := by decide +kernel
theorem dX0_fillCell_34 : decode cX0_fillCell 34 = .ok (.aload_n 0, 1) := by decide +kernel
theorem dX0_fillCell_35 : decode cX0_fillCell 35 = .ok (.getfield 12, 3) := by decide +kernel
theorem dX0_fillCell_38 : decode cX0_fillCell 38 = .ok (.sipush 224, 3) := by decide +kernel
theorem dX0_fillCell_41 : decode cX0_fillCell 41 = .ok (.iload_n 1, 1) := by decide +kernel
theorem dX0_fillCell_42 : decode cX0_fillCell 42 = .ok (.iadd, 1) := by decide +kernel
theorem dX0_fillCell_43 : decode cX0_fillCell 43 = .ok (.invokevirtual 36, 3) := by decide +kernel
theorem dX0_fillCell_46 : decode cX0_fillCell 46 = .ok (.invokevirtual 40, 3) := by decide +kernel
theorem dX0_fillCell_49 : decode cX0_fillCell 49 = .ok (.ireturn, 1) := by decide +kernel
theorem dX0_fillCell_50 : decode cX0_fillCell 50 = .ok (.aload_n 0, 1) := by decide +kernel
theorem dX0_fillCell_51 : decode cX0_fillCell 51 = .ok (.getfield 21, 3) := by decide +kernel
theorem dX0_fillCell_54 : decode cX0_fillCell 54 = .ok (.aload_n 0, 1) := by decide +kernel
theorem dX0_fillCell_55 : decode cX0_fillCell 55 = .ok (.getfield 12, 3) := by decide +kernel
theorem dX0_fillCell_58 : decode cX0_fillCell 58 = .ok (.iconst 0, 1) := by decide +kernel
theorem dX0_fillCell_59 : decode cX0_fillCell 59 = .ok (.invokevirtual 76, 3) := by decide +kernel
theorem dX0_fillCell_62 : decode cX0_fillCell 62 = .ok (.istore_n 2, 1) := by decide +kernel
theorem dX0_fillCell_63 : decode cX0_fillCell 63 = .ok (.aload_n 0, 1) := by decide +kernel
theorem dX0_fillCell_64 : decode cX0_fillCell 64 = .ok (.getfield 12, 3) := by decide +kernel
theorem dX0_fillCell_67 : decode cX0_fillCell 67 = .ok (.iload_n 2, 1) := by decide +kernel
theorem dX0_fillCell_68 : decode cX0_fillCell 68 = .ok (.invokevirtual 52, 3) := by decide +kernel
theorem dX0_fillCell_71 : decode cX0_fillCell 71 = .ok (.ifCond .ne 11, 3) := by decide +kernel
theorem dX0_fillCell_74 : decode cX0_fillCell 74 = .ok (.aload_n 0, 1) := by decide +kernel
theorem dX0_fillCell_75 : decode cX0_fillCell 75 = .ok (.bipush 6, 2) := by decide +kernel
theorem dX0_fillCell_77 : decode cX0_fillCell 77 = .ok (.iload_n 1, 1) := by decide +kernel
theorem dX0_fillCell_78 : decode cX0_fillCell 78 = .ok (.invokevirtual 40, 3) := by decide +kernel
theorem dX0_fillCell_81 : decode cX0_fillCell 81 = .ok (.ireturn, 1) := by decide +kernel
theorem dX0_fillCell_82 : decode cX0_fillCell 82 = .ok (.aload_n 0, 1) := by decide +kernel
theorem dX0_fillCell_83 : decode cX0_fillCell 83 = .ok (.getfield 12, 3) := by decide +kernel
theorem dX0_fillCell_86 : decode cX0_fillCell 86 = .ok (.iconst 2, 1) := by decide +kernel
theorem dX0_fillCell_87 : decode cX0_fillCell 87 = .ok (.iload_n 2, 1) := by decide +kernel
theorem dX0_fillCell_88 : decode cX0_fillCell 88 = .ok (.iconst 1, 1) := by decide +kernel
theorem dX0_fillCell_89 : decode cX0_fillCell 89 = .ok (.invokevirtual 48, 3) := by decide +kernel
theorem dX0_fillCell_92 : decode cX0_fillCell 92 = .ok (.aload_n 0, 1) := by decide +kernel
theorem dX0_fillCell_93 : decode cX0_fillCell 93 = .ok (.getfield 12, 3) := by decide +kernel
theorem dX0_fillCell_96 : decode cX0_fillCell 96 = .ok (.iconst 3, 1) := by decide +kernel
theorem dX0_fillCell_97 : decode cX0_fillCell 97 = .ok (.iload_n 2, 1) := by decide +kernel
theorem dX0_fillCell_98 : decode cX0_fillCell 98 = .ok (.iload_n 1, 1) := by decide +kernel
theorem dX0_fillCell_99 : decode cX0_fillCell 99 = .ok (.invokevirtual 48, 3) := by decide +kernel
theorem dX0_fillCell_102 : decode cX0_fillCell 102 = .ok (.aload_n 0, 1) := by decide +kernel
theorem dX0_fillCell_103 : decode cX0_fillCell 103 = .ok (.getfield 12, 3) := by decide +kernel
theorem dX0_fillCell_106 : decode cX0_fillCell 106 = .ok (.iconst 4, 1) := by decide +kernel
theorem dX0_fillCell_107 : decode cX0_fillCell 107 = .ok (.iload_n 2, 1) := by decide +kernel
theorem dX0_fillCell_108 : decode cX0_fillCell 108 = .ok (.iconst 0, 1) := by decide +kernel
theorem dX0_fillCell_109 : decode cX0_fillCell 109 = .ok (.invokevirtual 48, 3) := by decide +kernel
theorem dX0_fillCell_112 : decode cX0_fillCell 112 = .ok (.aload_n 0, 1) := by decide +kernel
theorem dX0_fillCell_113 : decode cX0_fillCell 113 = .ok (.getfield 12, 3) := by decide +kernel
theorem dX0_fillCell_116 : decode cX0_fillCell 116 = .ok (.bipush 8, 2) := by decide +kernel
theorem dX0_fillCell_118 : decode cX0_fillCell 118 = .ok (.iload_n 2, 1) := by decide +kernel
theorem dX0_fillCell_119 : decode cX0_fillCell 119 = .ok (.aload_n 0, 1) := by decide +kernel
theorem dX0_fillCell_120 : decode cX0_fillCell 120 = .ok (.getfield 12, 3) := by decide +kernel
theorem dX0_fillCell_123 : decode cX0_fillCell 123 = .ok (.sipush 285, 3) := by decide +kernel
theorem dX0_fillCell_126 : decode cX0_fillCell 126 = .ok (.invokevirtual 36, 3) := by decide +kernel
theorem dX0_fillCell_129 : decode cX0_fillCell 129 = .ok (.invokevirtual 48, 3) := by decide +kernel
theorem dX0_fillCell_132 : decode cX0_fillCell 132 = .ok (.aload_n 0, 1) := by decide +kernel
theorem dX0_fillCell_133 : decode cX0_fillCell 133 = .ok (.getfield 12, 3) := by decide +kernel
theorem dX0_fillCell_136 : decode cX0_fillCell 136 = .ok (.sipush 285, 3) := by decide +kernel
theorem dX0_fillCell_139 : decode cX0_fillCell 139 = .ok (.aload_n 0, 1) := by decide +kernel
theorem dX0_fillCell_140 : decode cX0_fillCell 140 = .ok (.getfield 12, 3) := by decide +kernel
theorem dX0_fillCell_143 : decode cX0_fillCell 143 = .ok (.sipush 285, 3) := by decide +kernel
theorem dX0_fillCell_146 : decode cX0_fillCell 146 = .ok (.invokevirtual 36, 3) := by decide +kernel
theorem dX0_fillCell_149 : decode cX0_fillCell 149 = .ok (.iconst 1, 1) := by decide +kernel
theorem dX0_fillCell_150 : decode cX0_fillCell 150 = .ok (.iadd, 1) := by decide +kernel
theorem dX0_fillCell_151 : decode cX0_fillCell 151 = .ok (.invokevirtual 44, 3) := by decide +kernel
theorem dX0_fillCell_154 : decode cX0_fillCell 154 = .ok (.aload_n 0, 1) := by decide +kernel
theorem dX0_fillCell_155 : decode cX0_fillCell 155 = .ok (.getfield 12, 3) := by decide +kernel
theorem dX0_fillCell_158 : decode cX0_fillCell 158 = .ok (.sipush 224, 3) := by decide +kernel
theorem dX0_fillCell_161 : decode cX0_fillCell 161 = .ok (.iload_n 1, 1) := by decide +kernel
theorem dX0_fillCell_162 : decode cX0_fillCell 162 = .ok (.iadd, 1) := by decide +kernel
theorem dX0_fillCell_163 : decode cX0_fillCell 163 = .ok (.iload_n 2, 1) := by decide +kernel
theorem dX0_fillCell_164 : decode cX0_fillCell 164 = .ok (.invokevirtual 44, 3) := by decide +kernel
theorem dX0_fillCell_167 : decode cX0_fillCell 167 = .ok (.aload_n 0, 1) := by decide +kernel
theorem dX0_fillCell_168 : decode cX0_fillCell 168 = .ok (.iload_n 2, 1) := by decide +kernel
theorem dX0_fillCell_169 : decode cX0_fillCell 169 = .ok (.invokevirtual 63, 3) := by decide +kernel
theorem dX0_fillCell_172 : decode cX0_fillCell 172 = .ok (.iload_n 2, 1) := by decide +kernel
theorem dX0_fillCell_173 : decode cX0_fillCell 173 = .ok (.ireturn, 1) := by decide +kernel
theorem dX0_emptyCell_0 : decode cX0_emptyCell 0 = .ok (.iload_n 1, 1) := by decide +kernel
theorem dX0_emptyCell_1 : decode cX0_emptyCell 1 = .ok (.invokestatic 73, 3) := by decide +kernel
theorem dX0_emptyCell_4 : decode cX0_emptyCell 4 = .ok (.ifCond .ne 6, 3) := by decide +kernel
theorem dX0_emptyCell_7 : decode cX0_emptyCell 7 = .ok (.bipush (-11), 2) := by decide +kernel
theorem dX0_emptyCell_9 : decode cX0_emptyCell 9 = .ok (.ireturn, 1) := by decide +kernel
theorem dX0_emptyCell_10 : decode cX0_emptyCell 10 = .ok (.aload_n 0, 1) := by decide +kernel
theorem dX0_emptyCell_11 : decode cX0_emptyCell 11 = .ok (.getfield 12, 3) := by decide +kernel
theorem dX0_emptyCell_14 : decode cX0_emptyCell 14 = .ok (.sipush 224, 3) := by decide +kernel
theorem dX0_emptyCell_17 : decode cX0_emptyCell 17 = .ok (.iload_n 1, 1) := by decide +kernel
theorem dX0_emptyCell_18 : decode cX0_emptyCell 18 = .ok (.iadd, 1) := by decide +kernel
theorem dX0_emptyCell_19 : decode cX0_emptyCell 19 = .ok (.invokevirtual 36, 3) := by decide +kernel
theorem dX0_emptyCell_22 : decode cX0_emptyCell 22 = .ok (.istore_n 2, 1) := by decide +kernel
theorem dX0_emptyCell_23 : decode cX0_emptyCell 23 = .ok (.aload_n 0, 1) := by decide +kernel
theorem dX0_emptyCell_24 : decode cX0_emptyCell 24 = .ok (.getfield 12, 3) := by decide +kernel
theorem dX0_emptyCell_27 : decode cX0_emptyCell 27 = .ok (.iload_n 2, 1) := by decide +kernel
theorem dX0_emptyCell_28 : decode cX0_emptyCell 28 = .ok (.invokevirtual 52, 3) := by decide +kernel
theorem dX0_emptyCell_31 : decode cX0_emptyCell 31 = .ok (.ifCond .ne 11, 3) := by decide +kernel
theorem dX0_emptyCell_34 : decode cX0_emptyCell 34 = .ok (.aload_n 0, 1) := by decide +kernel
theorem dX0_emptyCell_35 : decode cX0_emptyCell 35 = .ok (.bipush 7, 2) := by decide +kernel
theorem dX0_emptyCell_37 : decode cX0_emptyCell 37 = .ok (.iload_n 1, 1) := by decide +kernel
theorem dX0_emptyCell_38 : decode cX0_emptyCell 38 = .ok (.invokevirtual 40, 3) := by decide +kernel
theorem dX0_emptyCell_41 : decode cX0_emptyCell 41 = .ok (.ireturn, 1) := by decide +kernel
theorem dX0_emptyCell_42 : decode cX0_emptyCell 42 = .ok (.aload_n 0, 1) := by decide +kernel
theorem dX0_emptyCell_43 : decode cX0_emptyCell 43 = .ok (.iload_n 2, 1) := by decide +kernel
theorem dX0_emptyCell_44 : decode cX0_emptyCell 44 = .ok (.iconst 3, 1) := by decide +kernel
theorem dX0_emptyCell_45 : decode cX0_emptyCell 45 = .ok (.invokevirtual 80, 3) := by decide +kernel
theorem dX0_emptyCell_48 : decode cX0_emptyCell 48 = .ok (.iload_n 2, 1) := by decide +kernel
theorem dX0_emptyCell_49 : decode cX0_emptyCell 49 = .ok (.ireturn, 1) := by decide +kernel
theorem dX0_setFeast_0 : decode cX0_setFeast 0 = .ok (.iload_n 1, 1) := by decide +kernel
theorem dX0_setFeast_1 : decode cX0_setFeast 1 = .ok (.ifCond .lt 20, 3) := by decide +kernel
theorem dX0_setFeast_4 : decode cX0_setFeast 4 = .ok (.iload_n 1, 1) := by decide +kernel
theorem dX0_setFeast_5 : decode cX0_setFeast 5 = .ok (.bipush 52, 2) := by decide +kernel
theorem dX0_setFeast_7 : decode cX0_setFeast 7 = .ok (.if_icmp .ge 14, 3) := by decide +kernel
theorem dX0_setFeast_10 : decode cX0_setFeast 10 = .ok (.iload_n 2, 1) := by decide +kernel
theorem dX0_setFeast_11 : decode cX0_setFeast 11 = .ok (.iconst 1, 1) := by decide +kernel
theorem dX0_setFeast_12 : decode cX0_setFeast 12 = .ok (.if_icmp .lt 9, 3) := by decide +kernel
theorem dX0_setFeast_15 : decode cX0_setFeast 15 = .ok (.iload_n 2, 1) := by decide +kernel
theorem dX0_setFeast_16 : decode cX0_setFeast 16 = .ok (.bipush 9, 2) := by decide +kernel
theorem dX0_setFeast_18 : decode cX0_setFeast 18 = .ok (.if_icmp .le 6, 3) := by decide +kernel
theorem dX0_setFeast_21 : decode cX0_setFeast 21 = .ok (.bipush (-12), 2) := by decide +kernel
theorem dX0_setFeast_23 : decode cX0_setFeast 23 = .ok (.ireturn, 1) := by decide +kernel
theorem dX0_setFeast_24 : decode cX0_setFeast 24 = .ok (.aload_n 0, 1) := by decide +kernel
theorem dX0_setFeast_25 : decode cX0_setFeast 25 = .ok (.getfield 12, 3) := by decide +kernel
theorem dX0_setFeast_28 : decode cX0_setFeast 28 = .ok (.iload_n 1, 1) := by decide +kernel
theorem dX0_setFeast_29 : decode cX0_setFeast 29 = .ok (.invokevirtual 83, 3) := by decide +kernel
theorem dX0_setFeast_32 : decode cX0_setFeast 32 = .ok (.ifCond .ne 24, 3) := by decide +kernel
theorem dX0_setFeast_35 : decode cX0_setFeast 35 = .ok (.aload_n 0, 1) := by decide +kernel
theorem dX0_setFeast_36 : decode cX0_setFeast 36 = .ok (.getfield 12, 3) := by decide +kernel
theorem dX0_setFeast_39 : decode cX0_setFeast 39 = .ok (.invokevirtual 86, 3) := by decide +kernel
theorem dX0_setFeast_42 : decode cX0_setFeast 42 = .ok (.bipush 6, 2) := by decide +kernel
theorem dX0_setFeast_44 : decode cX0_setFeast 44 = .ok (.if_icmp .lt 12, 3) := by decide +kernel
theorem dX0_setFeast_47 : decode cX0_setFeast 47 = .ok (.aload_n 0, 1) := by decide +kernel
theorem dX0_setFeast_48 : decode cX0_setFeast 48 = .ok (.bipush 8, 2) := by decide +kernel
theorem dX0_setFeast_50 : decode cX0_setFeast 50 = .ok (.bipush 6, 2) := by decide +kernel
theorem dX0_setFeast_52 : decode cX0_setFeast 52 = .ok (.invokevirtual 40, 3) := by decide +kernel
theorem dX0_setFeast_55 : decode cX0_setFeast 55 = .ok (.ireturn, 1) := by decide +kernel
theorem dX0_setFeast_56 : decode cX0_setFeast 56 = .ok (.aload_n 0, 1) := by decide +kernel
theorem dX0_setFeast_57 : decode cX0_setFeast 57 = .ok (.getfield 12, 3) := by decide +kernel
theorem dX0_setFeast_60 : decode cX0_setFeast 60 = .ok (.sipush 232, 3) := by decide +kernel
theorem dX0_setFeast_63 : decode cX0_setFeast 63 = .ok (.iload_n 1, 1) := by decide +kernel
theorem dX0_setFeast_64 : decode cX0_setFeast 64 = .ok (.iadd, 1) := by decide +kernel
theorem dX0_setFeast_65 : decode cX0_setFeast 65 = .ok (.iload_n 2, 1) := by decide +kernel
theorem dX0_setFeast_66 : decode cX0_setFeast 66 = .ok (.invokevirtual 44, 3) := by decide +kernel
theorem dX0_setFeast_69 : decode cX0_setFeast 69 = .ok (.aload_n 0, 1) := by decide +kernel
theorem dX0_setFeast_70 : decode cX0_setFeast 70 = .ok (.getfield 12, 3) := by decide +kernel
theorem dX0_setFeast_73 : decode cX0_setFeast 73 = .ok (.invokevirtual 86, 3) := by decide +kernel
theorem dX0_setFeast_76 : decode cX0_setFeast 76 = .ok (.ireturn, 1) := by decide +kernel
theorem dX0_breakRule_0 : decode cX0_breakRule 0 = .ok (.aload_n 0, 1) := by decide +kernel
theorem dX0_breakRule_1 : decode cX0_breakRule 1 = .ok (.getfield 12, 3) := by decide +kernel
theorem dX0_breakRule_4 : decode cX0_breakRule 4 = .ok (.iload_n 1, 1) := by decide +kernel
theorem dX0_breakRule_5 : decode cX0_breakRule 5 = .ok (.invokevirtual 52, 3) := by decide +kernel
theorem dX0_breakRule_8 : decode cX0_breakRule 8 = .ok (.ifCond .eq 10, 3) := by decide +kernel
theorem dX0_breakRule_11 : decode cX0_breakRule 11 = .ok (.iload_n 2, 1) := by decide +kernel
theorem dX0_breakRule_12 : decode cX0_breakRule 12 = .ok (.invokestatic 90, 3) := by decide +kernel
theorem dX0_breakRule_15 : decode cX0_breakRule 15 = .ok (.ifCond .ne 6, 3) := by decide +kernel
theorem dX0_breakRule_18 : decode cX0_breakRule 18 = .ok (.bipush (-11), 2) := by decide +kernel
theorem dX0_breakRule_20 : decode cX0_breakRule 20 = .ok (.ireturn, 1) := by decide +kernel
theorem dX0_breakRule_21 : decode cX0_breakRule 21 = .ok (.aload_n 0, 1) := by decide +kernel
theorem dX0_breakRule_22 : decode cX0_breakRule 22 = .ok (.getfield 12, 3) := by decide +kernel
theorem dX0_breakRule_25 : decode cX0_breakRule 25 = .ok (.iconst 1, 1) := by decide +kernel
theorem dX0_breakRule_26 : decode cX0_breakRule 26 = .ok (.iload_n 1, 1) := by decide +kernel
theorem dX0_breakRule_27 : decode cX0_breakRule 27 = .ok (.invokevirtual 56, 3) := by decide +kernel
theorem dX0_breakRule_30 : decode cX0_breakRule 30 = .ok (.ifCond .ne 18, 3) := by decide +kernel
theorem dX0_breakRule_33 : decode cX0_breakRule 33 = .ok (.aload_n 0, 1) := by decide +kernel
theorem dX0_breakRule_34 : decode cX0_breakRule 34 = .ok (.iconst 3, 1) := by decide +kernel
theorem dX0_breakRule_35 : decode cX0_breakRule 35 = .ok (.aload_n 0, 1) := by decide +kernel
theorem dX0_breakRule_36 : decode cX0_breakRule 36 = .ok (.getfield 12, 3) := by decide +kernel
theorem dX0_breakRule_39 : decode cX0_breakRule 39 = .ok (.iconst 2, 1) := by decide +kernel
theorem dX0_breakRule_40 : decode cX0_breakRule 40 = .ok (.iload_n 1, 1) := by decide +kernel
theorem dX0_breakRule_41 : decode cX0_breakRule 41 = .ok (.invokevirtual 60, 3) := by decide +kernel
theorem dX0_breakRule_44 : decode cX0_breakRule 44 = .ok (.invokevirtual 40, 3) := by decide +kernel
theorem dX0_breakRule_47 : decode cX0_breakRule 47 = .ok (.ireturn, 1) := by decide +kernel
theorem dX0_breakRule_48 : decode cX0_breakRule 48 = .ok (.aload_n 0, 1) := by decide +kernel
theorem dX0_breakRule_49 : decode cX0_breakRule 49 = .ok (.getfield 12, 3) := by decide +kernel
theorem dX0_breakRule_52 : decode cX0_breakRule 52 = .ok (.bipush 9, 2) := by decide +kernel
theorem dX0_breakRule_54 : decode cX0_breakRule 54 = .ok (.iload_n 2, 1) := by decide +kernel
theorem dX0_breakRule_55 : decode cX0_breakRule 55 = .ok (.iadd, 1) := by decide +kernel
theorem dX0_breakRule_56 : decode cX0_breakRule 56 = .ok (.iload_n 1, 1) := by decide +kernel
theorem dX0_breakRule_57 : decode cX0_breakRule 57 = .ok (.invokevirtual 60, 3) := by decide +kernel
theorem dX0_breakRule_60 : decode cX0_breakRule 60 = .ok (.iconst 1, 1) := by decide +kernel
theorem dX0_breakRule_61 : decode cX0_breakRule 61 = .ok (.iadd, 1) := by decide +kernel
theorem dX0_breakRule_62 : decode cX0_breakRule 62 = .ok (.istore_n 3, 1) := by decide +kernel
theorem dX0_breakRule_63 : decode cX0_breakRule 63 = .ok (.aload_n 0, 1) := by decide +kernel
theorem dX0_breakRule_64 : decode cX0_breakRule 64 = .ok (.getfield 12, 3) := by decide +kernel
theorem dX0_breakRule_67 : decode cX0_breakRule 67 = .ok (.bipush 9, 2) := by decide +kernel
theorem dX0_breakRule_69 : decode cX0_breakRule 69 = .ok (.iload_n 2, 1) := by decide +kernel
theorem dX0_breakRule_70 : decode cX0_breakRule 70 = .ok (.iadd, 1) := by decide +kernel
theorem dX0_breakRule_71 : decode cX0_breakRule 71 = .ok (.iload_n 1, 1) := by decide +kernel
theorem dX0_breakRule_72 : decode cX0_breakRule 72 = .ok (.iload_n 3, 1) := by decide +kernel
theorem dX0_breakRule_73 : decode cX0_breakRule 73 = .ok (.invokevirtual 48, 3) := by decide +kernel
theorem dX0_breakRule_76 : decode cX0_breakRule 76 = .ok (.iload_n 3, 1) := by decide +kernel
theorem dX0_breakRule_77 : decode cX0_breakRule 77 = .ok (.iconst 3, 1) := by decide +kernel
theorem dX0_breakRule_78 : decode cX0_breakRule 78 = .ok (.if_icmp .lt 12, 3) := by decide +kernel
theorem dX0_breakRule_81 : decode cX0_breakRule 81 = .ok (.aload_n 0, 1) := by decide +kernel
theorem dX0_breakRule_82 : decode cX0_breakRule 82 = .ok (.iload_n 1, 1) := by decide +kernel
theorem dX0_breakRule_83 : decode cX0_breakRule 83 = .ok (.iconst 2, 1) := by decide +kernel
theorem dX0_breakRule_84 : decode cX0_breakRule 84 = .ok (.invokevirtual 80, 3) := by decide +kernel
theorem dX0_breakRule_87 : decode cX0_breakRule 87 = .ok (.goto 23, 3) := by decide +kernel
theorem dX0_breakRule_90 : decode cX0_breakRule 90 = .ok (.aload_n 0, 1) := by decide +kernel
theorem dX0_breakRule_91 : decode cX0_breakRule 91 = .ok (.getfield 12, 3) := by decide +kernel
theorem dX0_breakRule_94 : decode cX0_breakRule 94 = .ok (.iconst 5, 1) := by decide +kernel
theorem dX0_breakRule_95 : decode cX0_breakRule 95 = .ok (.iload_n 1, 1) := by decide +kernel
theorem dX0_breakRule_96 : decode cX0_breakRule 96 = .ok (.aload_n 0, 1) := by decide +kernel
theorem dX0_breakRule_97 : decode cX0_breakRule 97 = .ok (.getfield 12, 3) := by decide +kernel
theorem dX0_breakRule_100 : decode cX0_breakRule 100 = .ok (.iconst 5, 1) := by decide +kernel
theorem dX0_breakRule_101 : decode cX0_breakRule 101 = .ok (.iload_n 1, 1) := by decide +kernel
theorem dX0_breakRule_102 : decode cX0_breakRule 102 = .ok (.invokevirtual 60, 3) := by decide +kernel
theorem dX0_breakRule_105 : decode cX0_breakRule 105 = .ok (.iload_n 3, 1) := by decide +kernel
theorem dX0_breakRule_106 : decode cX0_breakRule 106 = .ok (.iadd, 1) := by decide +kernel
theorem dX0_breakRule_107 : decode cX0_breakRule 107 = .ok (.invokevirtual 48, 3) := by decide +kernel
theorem dX0_breakRule_110 : decode cX0_breakRule 110 = .ok (.aload_n 0, 1) := by decide +kernel
theorem dX0_breakRule_111 : decode cX0_breakRule 111 = .ok (.getfield 12, 3) := by decide +kernel
theorem dX0_breakRule_114 : decode cX0_breakRule 114 = .ok (.iconst 5, 1) := by decide +kernel
theorem dX0_breakRule_115 : decode cX0_breakRule 115 = .ok (.iload_n 1, 1) := by decide +kernel
theorem dX0_breakRule_116 : decode cX0_breakRule 116 = .ok (.invokevirtual 60, 3) := by decide +kernel
theorem dX0_breakRule_119 : decode cX0_breakRule 119 = .ok (.ireturn, 1) := by decide +kernel
theorem dX0_endBan_0 : decode cX0_endBan 0 = .ok (.aload_n 0, 1) := by decide +kernel
theorem dX0_endBan_1 : decode cX0_endBan 1 = .ok (.getfield 12, 3) := by decide +kernel
theorem dX0_endBan_4 : decode cX0_endBan 4 = .ok (.iload_n 1, 1) := by decide +kernel
theorem dX0_endBan_5 : decode cX0_endBan 5 = .ok (.invokevirtual 52, 3) := by decide +kernel
theorem dX0_endBan_8 : decode cX0_endBan 8 = .ok (.ifCond .ne 6, 3) := by decide +kernel
theorem dX0_endBan_11 : decode cX0_endBan 11 = .ok (.bipush (-11), 2) := by decide +kernel
theorem dX0_endBan_13 : decode cX0_endBan 13 = .ok (.ireturn, 1) := by decide +kernel
theorem dX0_endBan_14 : decode cX0_endBan 14 = .ok (.aload_n 0, 1) := by decide +kernel
theorem dX0_endBan_15 : decode cX0_endBan 15 = .ok (.getfield 12, 3) := by decide +kernel
theorem dX0_endBan_18 : decode cX0_endBan 18 = .ok (.iconst 1, 1) := by decide +kernel
theorem dX0_endBan_19 : decode cX0_endBan 19 = .ok (.iload_n 1, 1) := by decide +kernel
theorem dX0_endBan_20 : decode cX0_endBan 20 = .ok (.invokevirtual 56, 3) := by decide +kernel
theorem dX0_endBan_23 : decode cX0_endBan 23 = .ok (.ifCond .ne 18, 3) := by decide +kernel
theorem dX0_endBan_26 : decode cX0_endBan 26 = .ok (.aload_n 0, 1) := by decide +kernel
theorem dX0_endBan_27 : decode cX0_endBan 27 = .ok (.iconst 3, 1) := by decide +kernel
theorem dX0_endBan_28 : decode cX0_endBan 28 = .ok (.aload_n 0, 1) := by decide +kernel
theorem dX0_endBan_29 : decode cX0_endBan 29 = .ok (.getfield 12, 3) := by decide +kernel
theorem dX0_endBan_32 : decode cX0_endBan 32 = .ok (.iconst 2, 1) := by decide +kernel
theorem dX0_endBan_33 : decode cX0_endBan 33 = .ok (.iload_n 1, 1) := by decide +kernel
theorem dX0_endBan_34 : decode cX0_endBan 34 = .ok (.invokevirtual 60, 3) := by decide +kernel
theorem dX0_endBan_37 : decode cX0_endBan 37 = .ok (.invokevirtual 40, 3) := by decide +kernel
theorem dX0_endBan_40 : decode cX0_endBan 40 = .ok (.ireturn, 1) := by decide +kernel
theorem dX0_endBan_41 : decode cX0_endBan 41 = .ok (.aload_n 0, 1) := by decide +kernel
theorem dX0_endBan_42 : decode cX0_endBan 42 = .ok (.getfield 12, 3) := by decide +kernel
theorem dX0_endBan_45 : decode cX0_endBan 45 = .ok (.iconst 5, 1) := by decide +kernel
theorem dX0_endBan_46 : decode cX0_endBan 46 = .ok (.iload_n 1, 1) := by decide +kernel
theorem dX0_endBan_47 : decode cX0_endBan 47 = .ok (.invokevirtual 60, 3) := by decide +kernel
theorem dX0_endBan_50 : decode cX0_endBan 50 = .ok (.istore_n 2, 1) := by decide +kernel
theorem dX0_endBan_51 : decode cX0_endBan 51 = .ok (.iload_n 2, 1) := by decide +kernel
theorem dX0_endBan_52 : decode cX0_endBan 52 = .ok (.ifCond .ne 11, 3) := by decide +kernel
theorem dX0_endBan_55 : decode cX0_endBan 55 = .ok (.aload_n 0, 1) := by decide +kernel
theorem dX0_endBan_56 : decode cX0_endBan 56 = .ok (.bipush 10, 2) := by decide +kernel
theorem dX0_endBan_58 : decode cX0_endBan 58 = .ok (.iload_n 1, 1) := by decide +kernel
theorem dX0_endBan_59 : decode cX0_endBan 59 = .ok (.invokevirtual 40, 3) := by decide +kernel
theorem dX0_endBan_62 : decode cX0_endBan 62 = .ok (.ireturn, 1) := by decide +kernel
theorem dX0_endBan_63 : decode cX0_endBan 63 = .ok (.aload_n 0, 1) := by decide +kernel
theorem dX0_endBan_64 : decode cX0_endBan 64 = .ok (.getfield 12, 3) := by decide +kernel
theorem dX0_endBan_67 : decode cX0_endBan 67 = .ok (.sipush 293, 3) := by decide +kernel
theorem dX0_endBan_70 : decode cX0_endBan 70 = .ok (.invokevirtual 36, 3) := by decide +kernel
theorem dX0_endBan_73 : decode cX0_endBan 73 = .ok (.iconst 2, 1) := by decide +kernel
theorem dX0_endBan_74 : decode cX0_endBan 74 = .ok (.if_icmp .lt 11, 3) := by decide +kernel
theorem dX0_endBan_77 : decode cX0_endBan 77 = .ok (.aload_n 0, 1) := by decide +kernel
theorem dX0_endBan_78 : decode cX0_endBan 78 = .ok (.bipush 9, 2) := by decide +kernel
theorem dX0_endBan_80 : decode cX0_endBan 80 = .ok (.iconst 2, 1) := by decide +kernel
theorem dX0_endBan_81 : decode cX0_endBan 81 = .ok (.invokevirtual 40, 3) := by decide +kernel
theorem dX0_endBan_84 : decode cX0_endBan 84 = .ok (.ireturn, 1) := by decide +kernel
theorem dX0_endBan_85 : decode cX0_endBan 85 = .ok (.aload_n 0, 1) := by decide +kernel
theorem dX0_endBan_86 : decode cX0_endBan 86 = .ok (.getfield 12, 3) := by decide +kernel
theorem dX0_endBan_89 : decode cX0_endBan 89 = .ok (.iconst 5, 1) := by decide +kernel
theorem dX0_endBan_90 : decode cX0_endBan 90 = .ok (.iload_n 1, 1) := by decide +kernel
theorem dX0_endBan_91 : decode cX0_endBan 91 = .ok (.iconst 0, 1) := by decide +kernel
theorem dX0_endBan_92 : decode cX0_endBan 92 = .ok (.invokevirtual 48, 3) := by decide +kernel
theorem dX0_endBan_95 : decode cX0_endBan 95 = .ok (.aload_n 0, 1) := by decide +kernel
theorem dX0_endBan_96 : decode cX0_endBan 96 = .ok (.getfield 12, 3) := by decide +kernel
theorem dX0_endBan_99 : decode cX0_endBan 99 = .ok (.sipush 293, 3) := by decide +kernel
theorem dX0_endBan_102 : decode cX0_endBan 102 = .ok (.aload_n 0, 1) := by decide +kernel
theorem dX0_endBan_103 : decode cX0_endBan 103 = .ok (.getfield 12, 3) := by decide +kernel
theorem dX0_endBan_106 : decode cX0_endBan 106 = .ok (.sipush 293, 3) := by decide +kernel
theorem dX0_endBan_109 : decode cX0_endBan 109 = .ok (.invokevirtual 36, 3) := by decide +kernel
theorem dX0_endBan_112 : decode cX0_endBan 112 = .ok (.iconst 1, 1) := by decide +kernel
theorem dX0_endBan_113 : decode cX0_endBan 113 = .ok (.iadd, 1) := by decide +kernel
theorem dX0_endBan_114 : decode cX0_endBan 114 = .ok (.invokevirtual 44, 3) := by decide +kernel
theorem dX0_endBan_117 : decode cX0_endBan 117 = .ok (.iload_n 2, 1) := by decide +kernel
theorem dX0_endBan_118 : decode cX0_endBan 118 = .ok (.ireturn, 1) := by decide +kernel
theorem dX0_takeGift_0 : decode cX0_takeGift 0 = .ok (.iload_n 1, 1) := by decide +kernel
theorem dX0_takeGift_1 : decode cX0_takeGift 1 = .ok (.iconst 1, 1) := by decide +kernel
theorem dX0_takeGift_2 : decode cX0_takeGift 2 = .ok (.if_icmp .lt 10, 3) := by decide +kernel
theorem dX0_takeGift_5 : decode cX0_takeGift 5 = .ok (.iload_n 1, 1) := by decide +kernel
theorem dX0_takeGift_6 : decode cX0_takeGift 6 = .ok (.sipush 500, 3) := by decide +kernel
theorem dX0_takeGift_9 : decode cX0_takeGift 9 = .ok (.if_icmp .le 6, 3) := by decide +kernel
theorem dX0_takeGift_12 : decode cX0_takeGift 12 = .ok (.bipush (-12), 2) := by decide +kernel
theorem dX0_takeGift_14 : decode cX0_takeGift 14 = .ok (.ireturn, 1) := by decide +kernel
theorem dX0_takeGift_15 : decode cX0_takeGift 15 = .ok (.aload_n 0, 1) := by decide +kernel
theorem dX0_takeGift_16 : decode cX0_takeGift 16 = .ok (.getfield 12, 3) := by decide +kernel
theorem dX0_takeGift_19 : decode cX0_takeGift 19 = .ok (.iload_n 1, 1) := by decide +kernel
theorem dX0_takeGift_20 : decode cX0_takeGift 20 = .ok (.invokevirtual 93, 3) := by decide +kernel
theorem dX0_takeGift_23 : decode cX0_takeGift 23 = .ok (.aload_n 0, 1) := by decide +kernel
theorem dX0_takeGift_24 : decode cX0_takeGift 24 = .ok (.getfield 12, 3) := by decide +kernel
theorem dX0_takeGift_27 : decode cX0_takeGift 27 = .ok (.sipush 288, 3) := by decide +kernel
theorem dX0_takeGift_30 : decode cX0_takeGift 30 = .ok (.invokevirtual 36, 3) := by decide +kernel
theorem dX0_takeGift_33 : decode cX0_takeGift 33 = .ok (.ireturn, 1) := by decide +kernel
theorem dX0_spendWeeks_0 : decode cX0_spendWeeks 0 = .ok (.iload_n 1, 1) := by decide +kernel
theorem dX0_spendWeeks_1 : decode cX0_spendWeeks 1 = .ok (.iconst 1, 1) := by decide +kernel
theorem dX0_spendWeeks_2 : decode cX0_spendWeeks 2 = .ok (.if_icmp .lt 9, 3) := by decide +kernel
theorem dX0_spendWeeks_5 : decode cX0_spendWeeks 5 = .ok (.iload_n 1, 1) := by decide +kernel
theorem dX0_spendWeeks_6 : decode cX0_spendWeeks 6 = .ok (.bipush 60, 2) := by decide +kernel
theorem dX0_spendWeeks_8 : decode cX0_spendWeeks 8 = .ok (.if_icmp .le 6, 3) := by decide +kernel
theorem dX0_spendWeeks_11 : decode cX0_spendWeeks 11 = .ok (.bipush (-12), 2) := by decide +kernel
theorem dX0_spendWeeks_13 : decode cX0_spendWeeks 13 = .ok (.ireturn, 1) := by decide +kernel
theorem dX0_spendWeeks_14 : decode cX0_spendWeeks 14 = .ok (.aload_n 0, 1) := by decide +kernel
theorem dX0_spendWeeks_15 : decode cX0_spendWeeks 15 = .ok (.getfield 12, 3) := by decide +kernel
theorem dX0_spendWeeks_18 : decode cX0_spendWeeks 18 = .ok (.sipush 290, 3) := by decide +kernel
theorem dX0_spendWeeks_21 : decode cX0_spendWeeks 21 = .ok (.invokevirtual 36, 3) := by decide +kernel
theorem dX0_spendWeeks_24 : decode cX0_spendWeeks 24 = .ok (.istore_n 2, 1) := by decide +kernel
theorem dX0_spendWeeks_25 : decode cX0_spendWeeks 25 = .ok (.aload_n 0, 1) := by decide +kernel
theorem dX0_spendWeeks_26 : decode cX0_spendWeeks 26 = .ok (.iload_n 1, 1) := by decide +kernel
theorem dX0_spendWeeks_27 : decode cX0_spendWeeks 27 = .ok (.invokevirtual 96, 3) := by decide +kernel
theorem dX0_spendWeeks_30 : decode cX0_spendWeeks 30 = .ok (.sipush 290, 3) := by decide +kernel
theorem dX0_spendWeeks_33 : decode cX0_spendWeeks 33 = .ok (.invokevirtual 36, 3) := by decide +kernel
theorem dX0_spendWeeks_36 : decode cX0_spendWeeks 36 = .ok (.iload_n 2, 1) := by decide +kernel
theorem dX0_spendWeeks_37 : decode cX0_spendWeeks 37 = .ok (.isub, 1) := by decide +kernel
theorem dX0_spendWeeks_38 : decode cX0_spendWeeks 38 = .ok (.ireturn, 1) := by decide +kernel
theorem dX0_after_0 : decode cX0_after 0 = .ok (.iconst 0, 1) := by decide +kernel
theorem dX0_after_1 : decode cX0_after 1 = .ok (.istore_n 2, 1) := by decide +kernel
theorem dX0_after_2 : decode cX0_after 2 = .ok (.iload_n 2, 1) := by decide +kernel
theorem dX0_after_3 : decode cX0_after 3 = .ok (.iload_n 1, 1) := by decide +kernel
theorem dX0_after_4 : decode cX0_after 4 = .ok (.if_icmp .ge 107, 3) := by decide +kernel
theorem dX0_after_7 : decode cX0_after 7 = .ok (.aload_n 0, 1) := by decide +kernel
theorem dX0_after_8 : decode cX0_after 8 = .ok (.aload_n 0, 1) := by decide +kernel
theorem dX0_after_9 : decode cX0_after 9 = .ok (.getfield 12, 3) := by decide +kernel
theorem dX0_after_12 : decode cX0_after 12 = .ok (.aload_n 0, 1) := by decide +kernel
theorem dX0_after_13 : decode cX0_after 13 = .ok (.getfield 12, 3) := by decide +kernel
theorem dX0_after_16 : decode cX0_after 16 = .ok (.sipush 287, 3) := by decide +kernel
theorem dX0_after_19 : decode cX0_after 19 = .ok (.invokevirtual 36, 3) := by decide +kernel
theorem dX0_after_22 : decode cX0_after 22 = .ok (.invokevirtual 83, 3) := by decide +kernel
theorem dX0_after_25 : decode cX0_after 25 = .ok (.aload_n 0, 1) := by decide +kernel
theorem dX0_after_26 : decode cX0_after 26 = .ok (.getfield 12, 3) := by decide +kernel
theorem dX0_after_29 : decode cX0_after 29 = .ok (.invokevirtual 100, 3) := by decide +kernel
theorem dX0_after_32 : decode cX0_after 32 = .ok (.invokevirtual 103, 3) := by decide +kernel
theorem dX0_after_35 : decode cX0_after 35 = .ok (.aload_n 0, 1) := by decide +kernel
theorem dX0_after_36 : decode cX0_after 36 = .ok (.invokevirtual 106, 3) := by decide +kernel
theorem dX0_after_39 : decode cX0_after 39 = .ok (.aload_n 0, 1) := by decide +kernel
theorem dX0_after_40 : decode cX0_after 40 = .ok (.getfield 12, 3) := by decide +kernel
theorem dX0_after_43 : decode cX0_after 43 = .ok (.iconst 2, 1) := by decide +kernel
theorem dX0_after_44 : decode cX0_after 44 = .ok (.bipush 8, 2) := by decide +kernel
theorem dX0_after_46 : decode cX0_after 46 = .ok (.aload_n 0, 1) := by decide +kernel
theorem dX0_after_47 : decode cX0_after 47 = .ok (.getfield 12, 3) := by decide +kernel
theorem dX0_after_50 : decode cX0_after 50 = .ok (.iconst 1, 1) := by decide +kernel
theorem dX0_after_51 : decode cX0_after 51 = .ok (.invokevirtual 67, 3) := by decide +kernel
theorem dX0_after_54 : decode cX0_after 54 = .ok (.isub, 1) := by decide +kernel
theorem dX0_after_55 : decode cX0_after 55 = .ok (.imul, 1) := by decide +kernel
theorem dX0_after_56 : decode cX0_after 56 = .ok (.invokevirtual 93, 3) := by decide +kernel
theorem dX0_after_59 : decode cX0_after 59 = .ok (.aload_n 0, 1) := by decide +kernel
theorem dX0_after_60 : decode cX0_after 60 = .ok (.getfield 12, 3) := by decide +kernel
theorem dX0_after_63 : decode cX0_after 63 = .ok (.sipush 287, 3) := by decide +kernel
theorem dX0_after_66 : decode cX0_after 66 = .ok (.aload_n 0, 1) := by decide +kernel
theorem dX0_after_67 : decode cX0_after 67 = .ok (.getfield 12, 3) := by decide +kernel
theorem dX0_after_70 : decode cX0_after 70 = .ok (.sipush 287, 3) := by decide +kernel
theorem dX0_after_73 : decode cX0_after 73 = .ok (.invokevirtual 36, 3) := by decide +kernel
theorem dX0_after_76 : decode cX0_after 76 = .ok (.iconst 1, 1) := by decide +kernel
theorem dX0_after_77 : decode cX0_after 77 = .ok (.iadd, 1) := by decide +kernel
theorem dX0_after_78 : decode cX0_after 78 = .ok (.bipush 52, 2) := by decide +kernel
theorem dX0_after_80 : decode cX0_after 80 = .ok (.irem, 1) := by decide +kernel
theorem dX0_after_81 : decode cX0_after 81 = .ok (.invokevirtual 44, 3) := by decide +kernel
theorem dX0_after_84 : decode cX0_after 84 = .ok (.aload_n 0, 1) := by decide +kernel
theorem dX0_after_85 : decode cX0_after 85 = .ok (.getfield 12, 3) := by decide +kernel
theorem dX0_after_88 : decode cX0_after 88 = .ok (.sipush 287, 3) := by decide +kernel
theorem dX0_after_91 : decode cX0_after 91 = .ok (.invokevirtual 36, 3) := by decide +kernel
theorem dX0_after_94 : decode cX0_after 94 = .ok (.ifCond .ne 11, 3) := by decide +kernel
theorem dX0_after_97 : decode cX0_after 97 = .ok (.aload_n 0, 1) := by decide +kernel
theorem dX0_after_98 : decode cX0_after 98 = .ok (.invokevirtual 109, 3) := by decide +kernel
theorem dX0_after_101 : decode cX0_after 101 = .ok (.aload_n 0, 1) := by decide +kernel
theorem dX0_after_102 : decode cX0_after 102 = .ok (.invokevirtual 112, 3) := by decide +kernel
theorem dX0_after_105 : decode cX0_after 105 = .ok (.iinc 2 1, 3) := by decide +kernel
theorem dX0_after_108 : decode cX0_after 108 = .ok (.goto (-106), 3) := by decide +kernel
theorem dX0_after_111 : decode cX0_after 111 = .ok (.aload_n 0, 1) := by decide +kernel
theorem dX0_after_112 : decode cX0_after 112 = .ok (.getfield 12, 3) := by decide +kernel
theorem dX0_after_115 : decode cX0_after 115 = .ok (.areturn, 1) := by decide +kernel
theorem dX0_perform_0 : decode cX0_perform 0 = .ok (.iload_n 1, 1) := by decide +kernel
theorem dX0_perform_1 : decode cX0_perform 1 = .ok (.tableswitch 98 0 7 #[47, 54, 60, 66, 73, 79, 86, 92], 47) := by decide +kernel
theorem dX0_perform_48 : decode cX0_perform 48 = .ok (.aload_n 0, 1) := by decide +kernel
theorem dX0_perform_49 : decode cX0_perform 49 = .ok (.iload_n 2, 1) := by decide +kernel
theorem dX0_perform_50 : decode cX0_perform 50 = .ok (.iload_n 3, 1) := by decide +kernel
theorem dX0_perform_51 : decode cX0_perform 51 = .ok (.invokevirtual 115, 3) := by decide +kernel
theorem dX0_perform_54 : decode cX0_perform 54 = .ok (.ireturn, 1) := by decide +kernel
theorem dX0_perform_55 : decode cX0_perform 55 = .ok (.aload_n 0, 1) := by decide +kernel
theorem dX0_perform_56 : decode cX0_perform 56 = .ok (.iload_n 2, 1) := by decide +kernel
theorem dX0_perform_57 : decode cX0_perform 57 = .ok (.invokevirtual 118, 3) := by decide +kernel
theorem dX0_perform_60 : decode cX0_perform 60 = .ok (.ireturn, 1) := by decide +kernel
theorem dX0_perform_61 : decode cX0_perform 61 = .ok (.aload_n 0, 1) := by decide +kernel
theorem dX0_perform_62 : decode cX0_perform 62 = .ok (.iload_n 2, 1) := by decide +kernel
theorem dX0_perform_63 : decode cX0_perform 63 = .ok (.invokevirtual 121, 3) := by decide +kernel
theorem dX0_perform_66 : decode cX0_perform 66 = .ok (.ireturn, 1) := by decide +kernel
theorem dX0_perform_67 : decode cX0_perform 67 = .ok (.aload_n 0, 1) := by decide +kernel
theorem dX0_perform_68 : decode cX0_perform 68 = .ok (.iload_n 2, 1) := by decide +kernel
theorem dX0_perform_69 : decode cX0_perform 69 = .ok (.iload_n 3, 1) := by decide +kernel
theorem dX0_perform_70 : decode cX0_perform 70 = .ok (.invokevirtual 124, 3) := by decide +kernel
theorem dX0_perform_73 : decode cX0_perform 73 = .ok (.ireturn, 1) := by decide +kernel
theorem dX0_perform_74 : decode cX0_perform 74 = .ok (.aload_n 0, 1) := by decide +kernel
theorem dX0_perform_75 : decode cX0_perform 75 = .ok (.iload_n 2, 1) := by decide +kernel
theorem dX0_perform_76 : decode cX0_perform 76 = .ok (.invokevirtual 127, 3) := by decide +kernel
theorem dX0_perform_79 : decode cX0_perform 79 = .ok (.ireturn, 1) := by decide +kernel
theorem dX0_perform_80 : decode cX0_perform 80 = .ok (.aload_n 0, 1) := by decide +kernel
theorem dX0_perform_81 : decode cX0_perform 81 = .ok (.iload_n 2, 1) := by decide +kernel
theorem dX0_perform_82 : decode cX0_perform 82 = .ok (.iload_n 3, 1) := by decide +kernel
theorem dX0_perform_83 : decode cX0_perform 83 = .ok (.invokevirtual 130, 3) := by decide +kernel
theorem dX0_perform_86 : decode cX0_perform 86 = .ok (.ireturn, 1) := by decide +kernel
theorem dX0_perform_87 : decode cX0_perform 87 = .ok (.aload_n 0, 1) := by decide +kernel
theorem dX0_perform_88 : decode cX0_perform 88 = .ok (.iload_n 2, 1) := by decide +kernel
theorem dX0_perform_89 : decode cX0_perform 89 = .ok (.invokevirtual 133, 3) := by decide +kernel
theorem dX0_perform_92 : decode cX0_perform 92 = .ok (.ireturn, 1) := by decide +kernel
theorem dX0_perform_93 : decode cX0_perform 93 = .ok (.aload_n 0, 1) := by decide +kernel
theorem dX0_perform_94 : decode cX0_perform 94 = .ok (.iload_n 2, 1) := by decide +kernel
theorem dX0_perform_95 : decode cX0_perform 95 = .ok (.invokevirtual 136, 3) := by decide +kernel
theorem dX0_perform_98 : decode cX0_perform 98 = .ok (.ireturn, 1) := by decide +kernel
theorem dX0_perform_99 : decode cX0_perform 99 = .ok (.bipush (-12), 2) := by decide +kernel
theorem dX0_perform_101 : decode cX0_perform 101 = .ok (.ireturn, 1) := by decide +kernel
theorem dX0_dropVoicesFor_0 : decode cX0_dropVoicesFor 0 = .ok (.iconst 0, 1) := by decide +kernel
theorem dX0_dropVoicesFor_1 : decode cX0_dropVoicesFor 1 = .ok (.istore_n 2, 1) := by decide +kernel
theorem dX0_dropVoicesFor_2 : decode cX0_dropVoicesFor 2 = .ok (.iload_n 2, 1) := by decide +kernel
theorem dX0_dropVoicesFor_3 : decode cX0_dropVoicesFor 3 = .ok (.bipush 16, 2) := by decide +kernel
theorem dX0_dropVoicesFor_5 : decode cX0_dropVoicesFor 5 = .ok (.if_icmp .ge 35, 3) := by decide +kernel
theorem dX0_dropVoicesFor_8 : decode cX0_dropVoicesFor 8 = .ok (.aload_n 0, 1) := by decide +kernel
theorem dX0_dropVoicesFor_9 : decode cX0_dropVoicesFor 9 = .ok (.getfield 12, 3) := by decide +kernel
theorem dX0_dropVoicesFor_12 : decode cX0_dropVoicesFor 12 = .ok (.bipush 7, 2) := by decide +kernel
theorem dX0_dropVoicesFor_14 : decode cX0_dropVoicesFor 14 = .ok (.iload_n 2, 1) := by decide +kernel
theorem dX0_dropVoicesFor_15 : decode cX0_dropVoicesFor 15 = .ok (.invokevirtual 60, 3) := by decide +kernel
theorem dX0_dropVoicesFor_18 : decode cX0_dropVoicesFor 18 = .ok (.iload_n 1, 1) := by decide +kernel
theorem dX0_dropVoicesFor_19 : decode cX0_dropVoicesFor 19 = .ok (.if_icmp .ne 15, 3) := by decide +kernel
theorem dX0_dropVoicesFor_22 : decode cX0_dropVoicesFor 22 = .ok (.aload_n 0, 1) := by decide +kernel
theorem dX0_dropVoicesFor_23 : decode cX0_dropVoicesFor 23 = .ok (.getfield 12, 3) := by decide +kernel
theorem dX0_dropVoicesFor_26 : decode cX0_dropVoicesFor 26 = .ok (.bipush 7, 2) := by decide +kernel
theorem dX0_dropVoicesFor_28 : decode cX0_dropVoicesFor 28 = .ok (.iload_n 2, 1) := by decide +kernel
theorem dX0_dropVoicesFor_29 : decode cX0_dropVoicesFor 29 = .ok (.bipush (-15), 2) := by decide +kernel
theorem dX0_dropVoicesFor_31 : decode cX0_dropVoicesFor 31 = .ok (.invokevirtual 48, 3) := by decide +kernel
theorem dX0_dropVoicesFor_34 : decode cX0_dropVoicesFor 34 = .ok (.iinc 2 1, 3) := by decide +kernel
theorem dX0_dropVoicesFor_37 : decode cX0_dropVoicesFor 37 = .ok (.goto (-35), 3) := by decide +kernel
theorem dX0_dropVoicesFor_40 : decode cX0_dropVoicesFor 40 = .ok (.return_, 1) := by decide +kernel
theorem dX0_moveOut_0 : decode cX0_moveOut 0 = .ok (.aload_n 0, 1) := by decide +kernel
theorem dX0_moveOut_1 : decode cX0_moveOut 1 = .ok (.getfield 12, 3) := by decide +kernel
theorem dX0_moveOut_4 : decode cX0_moveOut 4 = .ok (.sipush 224, 3) := by decide +kernel
theorem dX0_moveOut_7 : decode cX0_moveOut 7 = .ok (.aload_n 0, 1) := by decide +kernel
theorem dX0_moveOut_8 : decode cX0_moveOut 8 = .ok (.getfield 12, 3) := by decide +kernel
theorem dX0_moveOut_11 : decode cX0_moveOut 11 = .ok (.iconst 3, 1) := by decide +kernel
theorem dX0_moveOut_12 : decode cX0_moveOut 12 = .ok (.iload_n 1, 1) := by decide +kernel
theorem dX0_moveOut_13 : decode cX0_moveOut 13 = .ok (.invokevirtual 60, 3) := by decide +kernel
theorem dX0_moveOut_16 : decode cX0_moveOut 16 = .ok (.iadd, 1) := by decide +kernel
theorem dX0_moveOut_17 : decode cX0_moveOut 17 = .ok (.bipush (-15), 2) := by decide +kernel
theorem dX0_moveOut_19 : decode cX0_moveOut 19 = .ok (.invokevirtual 44, 3) := by decide +kernel
theorem dX0_moveOut_22 : decode cX0_moveOut 22 = .ok (.aload_n 0, 1) := by decide +kernel
theorem dX0_moveOut_23 : decode cX0_moveOut 23 = .ok (.getfield 12, 3) := by decide +kernel
theorem dX0_moveOut_26 : decode cX0_moveOut 26 = .ok (.iconst 2, 1) := by decide +kernel
theorem dX0_moveOut_27 : decode cX0_moveOut 27 = .ok (.iload_n 1, 1) := by decide +kernel
theorem dX0_moveOut_28 : decode cX0_moveOut 28 = .ok (.iload_n 2, 1) := by decide +kernel
theorem dX0_moveOut_29 : decode cX0_moveOut 29 = .ok (.invokevirtual 48, 3) := by decide +kernel
theorem dX0_moveOut_32 : decode cX0_moveOut 32 = .ok (.aload_n 0, 1) := by decide +kernel
theorem dX0_moveOut_33 : decode cX0_moveOut 33 = .ok (.getfield 12, 3) := by decide +kernel
theorem dX0_moveOut_36 : decode cX0_moveOut 36 = .ok (.iconst 3, 1) := by decide +kernel
theorem dX0_moveOut_37 : decode cX0_moveOut 37 = .ok (.iload_n 1, 1) := by decide +kernel
theorem dX0_moveOut_38 : decode cX0_moveOut 38 = .ok (.bipush (-15), 2) := by decide +kernel
theorem dX0_moveOut_40 : decode cX0_moveOut 40 = .ok (.invokevirtual 48, 3) := by decide +kernel
theorem dX0_moveOut_43 : decode cX0_moveOut 43 = .ok (.aload_n 0, 1) := by decide +kernel
theorem dX0_moveOut_44 : decode cX0_moveOut 44 = .ok (.getfield 12, 3) := by decide +kernel
theorem dX0_moveOut_47 : decode cX0_moveOut 47 = .ok (.iconst 5, 1) := by decide +kernel
theorem dX0_moveOut_48 : decode cX0_moveOut 48 = .ok (.iload_n 1, 1) := by decide +kernel
theorem dX0_moveOut_49 : decode cX0_moveOut 49 = .ok (.iconst 0, 1) := by decide +kernel
theorem dX0_moveOut_50 : decode cX0_moveOut 50 = .ok (.invokevirtual 48, 3) := by decide +kernel
theorem dX0_moveOut_53 : decode cX0_moveOut 53 = .ok (.aload_n 0, 1) := by decide +kernel
theorem dX0_moveOut_54 : decode cX0_moveOut 54 = .ok (.getfield 12, 3) := by decide +kernel
theorem dX0_moveOut_57 : decode cX0_moveOut 57 = .ok (.bipush 7, 2) := by decide +kernel
theorem dX0_moveOut_59 : decode cX0_moveOut 59 = .ok (.iload_n 1, 1) := by decide +kernel
theorem dX0_moveOut_60 : decode cX0_moveOut 60 = .ok (.bipush (-15), 2) := by decide +kernel
theorem dX0_moveOut_62 : decode cX0_moveOut 62 = .ok (.invokevirtual 48, 3) := by decide +kernel
theorem dX0_moveOut_65 : decode cX0_moveOut 65 = .ok (.return_, 1) := by decide +kernel
theorem dX0_payFeast_0 : decode cX0_payFeast 0 = .ok (.iload_n 1, 1) := by decide +kernel
theorem dX0_payFeast_1 : decode cX0_payFeast 1 = .ok (.ifCond .eq 7, 3) := by decide +kernel
theorem dX0_payFeast_4 : decode cX0_payFeast 4 = .ok (.iload_n 2, 1) := by decide +kernel
theorem dX0_payFeast_5 : decode cX0_payFeast 5 = .ok (.ifCond .ne 4, 3) := by decide +kernel
theorem dX0_payFeast_8 : decode cX0_payFeast 8 = .ok (.return_, 1) := by decide +kernel
theorem dX0_payFeast_9 : decode cX0_payFeast 9 = .ok (.iload_n 1, 1) := by decide +kernel
theorem dX0_payFeast_10 : decode cX0_payFeast 10 = .ok (.aload_n 0, 1) := by decide +kernel
theorem dX0_payFeast_11 : decode cX0_payFeast 11 = .ok (.getfield 12, 3) := by decide +kernel
theorem dX0_payFeast_14 : decode cX0_payFeast 14 = .ok (.sipush 288, 3) := by decide +kernel
theorem dX0_payFeast_17 : decode cX0_payFeast 17 = .ok (.invokevirtual 36, 3) := by decide +kernel
theorem dX0_payFeast_20 : decode cX0_payFeast 20 = .ok (.iload_n 2, 1) := by decide +kernel
theorem dX0_payFeast_21 : decode cX0_payFeast 21 = .ok (.idiv, 1) := by decide +kernel
theorem dX0_payFeast_22 : decode cX0_payFeast 22 = .ok (.invokestatic 139, 3) := by decide +kernel
theorem dX0_payFeast_25 : decode cX0_payFeast 25 = .ok (.istore_n 3, 1) := by decide +kernel
theorem dX0_payFeast_26 : decode cX0_payFeast 26 = .ok (.iconst 0, 1) := by decide +kernel
theorem dX0_payFeast_27 : decode cX0_payFeast 27 = .ok (.istore 4, 2) := by decide +kernel
theorem dX0_payFeast_29 : decode cX0_payFeast 29 = .ok (.iload 4, 2) := by decide +kernel
theorem dX0_payFeast_31 : decode cX0_payFeast 31 = .ok (.bipush 16, 2) := by decide +kernel
theorem dX0_payFeast_33 : decode cX0_payFeast 33 = .ok (.if_icmp .ge 45, 3) := by decide +kernel
theorem dX0_payFeast_36 : decode cX0_payFeast 36 = .ok (.aload_n 0, 1) := by decide +kernel
theorem dX0_payFeast_37 : decode cX0_payFeast 37 = .ok (.getfield 12, 3) := by decide +kernel
theorem dX0_payFeast_40 : decode cX0_payFeast 40 = .ok (.iload 4, 2) := by decide +kernel
theorem dX0_payFeast_42 : decode cX0_payFeast 42 = .ok (.invokevirtual 144, 3) := by decide +kernel
theorem dX0_payFeast_45 : decode cX0_payFeast 45 = .ok (.ifCond .eq 27, 3) := by decide +kernel
theorem dX0_payFeast_48 : decode cX0_payFeast 48 = .ok (.aload_n 0, 1) := by decide +kernel
theorem dX0_payFeast_49 : decode cX0_payFeast 49 = .ok (.getfield 12, 3) := by decide +kernel
theorem dX0_payFeast_52 : decode cX0_payFeast 52 = .ok (.bipush 6, 2) := by decide +kernel
theorem dX0_payFeast_54 : decode cX0_payFeast 54 = .ok (.iload 4, 2) := by decide +kernel
theorem dX0_payFeast_56 : decode cX0_payFeast 56 = .ok (.aload_n 0, 1) := by decide +kernel
theorem dX0_payFeast_57 : decode cX0_payFeast 57 = .ok (.getfield 12, 3) := by decide +kernel
theorem dX0_payFeast_60 : decode cX0_payFeast 60 = .ok (.bipush 6, 2) := by decide +kernel
theorem dX0_payFeast_62 : decode cX0_payFeast 62 = .ok (.iload 4, 2) := by decide +kernel
theorem dX0_payFeast_64 : decode cX0_payFeast 64 = .ok (.invokevirtual 60, 3) := by decide +kernel
theorem dX0_payFeast_67 : decode cX0_payFeast 67 = .ok (.iload_n 3, 1) := by decide +kernel
theorem dX0_payFeast_68 : decode cX0_payFeast 68 = .ok (.iadd, 1) := by decide +kernel
theorem dX0_payFeast_69 : decode cX0_payFeast 69 = .ok (.invokevirtual 48, 3) := by decide +kernel
theorem dX0_payFeast_72 : decode cX0_payFeast 72 = .ok (.iinc 4 1, 3) := by decide +kernel
theorem dX0_payFeast_75 : decode cX0_payFeast 75 = .ok (.goto (-46), 3) := by decide +kernel
theorem dX0_payFeast_78 : decode cX0_payFeast 78 = .ok (.aload_n 0, 1) := by decide +kernel
theorem dX0_payFeast_79 : decode cX0_payFeast 79 = .ok (.getfield 12, 3) := by decide +kernel
theorem dX0_payFeast_82 : decode cX0_payFeast 82 = .ok (.sipush 288, 3) := by decide +kernel
theorem dX0_payFeast_85 : decode cX0_payFeast 85 = .ok (.aload_n 0, 1) := by decide +kernel
theorem dX0_payFeast_86 : decode cX0_payFeast 86 = .ok (.getfield 12, 3) := by decide +kernel
theorem dX0_payFeast_89 : decode cX0_payFeast 89 = .ok (.sipush 288, 3) := by decide +kernel
theorem dX0_payFeast_92 : decode cX0_payFeast 92 = .ok (.invokevirtual 36, 3) := by decide +kernel
theorem dX0_payFeast_95 : decode cX0_payFeast 95 = .ok (.iload_n 3, 1) := by decide +kernel
theorem dX0_payFeast_96 : decode cX0_payFeast 96 = .ok (.iload_n 2, 1) := by decide +kernel
theorem dX0_payFeast_97 : decode cX0_payFeast 97 = .ok (.imul, 1) := by decide +kernel
theorem dX0_payFeast_98 : decode cX0_payFeast 98 = .ok (.isub, 1) := by decide +kernel
theorem dX0_payFeast_99 : decode cX0_payFeast 99 = .ok (.invokevirtual 44, 3) := by decide +kernel
theorem dX0_payFeast_102 : decode cX0_payFeast 102 = .ok (.aload_n 0, 1) := by decide +kernel
theorem dX0_payFeast_103 : decode cX0_payFeast 103 = .ok (.getfield 12, 3) := by decide +kernel
theorem dX0_payFeast_106 : decode cX0_payFeast 106 = .ok (.sipush 290, 3) := by decide +kernel
theorem dX0_payFeast_109 : decode cX0_payFeast 109 = .ok (.aload_n 0, 1) := by decide +kernel
theorem dX0_payFeast_110 : decode cX0_payFeast 110 = .ok (.getfield 12, 3) := by decide +kernel
theorem dX0_payFeast_113 : decode cX0_payFeast 113 = .ok (.sipush 290, 3) := by decide +kernel
theorem dX0_payFeast_116 : decode cX0_payFeast 116 = .ok (.invokevirtual 36, 3) := by decide +kernel
theorem dX0_payFeast_119 : decode cX0_payFeast 119 = .ok (.iload_n 3, 1) := by decide +kernel
theorem dX0_payFeast_120 : decode cX0_payFeast 120 = .ok (.iload_n 2, 1) := by decide +kernel
theorem dX0_payFeast_121 : decode cX0_payFeast 121 = .ok (.imul, 1) := by decide +kernel
theorem dX0_payFeast_122 : decode cX0_payFeast 122 = .ok (.iadd, 1) := by decide +kernel
theorem dX0_payFeast_123 : decode cX0_payFeast 123 = .ok (.invokevirtual 44, 3) := by decide +kernel
theorem dX0_payFeast_126 : decode cX0_payFeast 126 = .ok (.return_, 1) := by decide +kernel
theorem dX0_shortenBans_0 : decode cX0_shortenBans 0 = .ok (.iconst 0, 1) := by decide +kernel
theorem dX0_shortenBans_1 : decode cX0_shortenBans 1 = .ok (.istore_n 1, 1) := by decide +kernel
theorem dX0_shortenBans_2 : decode cX0_shortenBans 2 = .ok (.iload_n 1, 1) := by decide +kernel
theorem dX0_shortenBans_3 : decode cX0_shortenBans 3 = .ok (.bipush 16, 2) := by decide +kernel
theorem dX0_shortenBans_5 : decode cX0_shortenBans 5 = .ok (.if_icmp .ge 41, 3) := by decide +kernel
theorem dX0_shortenBans_8 : decode cX0_shortenBans 8 = .ok (.aload_n 0, 1) := by decide +kernel
theorem dX0_shortenBans_9 : decode cX0_shortenBans 9 = .ok (.getfield 12, 3) := by decide +kernel
theorem dX0_shortenBans_12 : decode cX0_shortenBans 12 = .ok (.iconst 5, 1) := by decide +kernel
theorem dX0_shortenBans_13 : decode cX0_shortenBans 13 = .ok (.iload_n 1, 1) := by decide +kernel
theorem dX0_shortenBans_14 : decode cX0_shortenBans 14 = .ok (.invokevirtual 60, 3) := by decide +kernel
theorem dX0_shortenBans_17 : decode cX0_shortenBans 17 = .ok (.ifCond .le 23, 3) := by decide +kernel
theorem dX0_shortenBans_20 : decode cX0_shortenBans 20 = .ok (.aload_n 0, 1) := by decide +kernel
theorem dX0_shortenBans_21 : decode cX0_shortenBans 21 = .ok (.getfield 12, 3) := by decide +kernel
theorem dX0_shortenBans_24 : decode cX0_shortenBans 24 = .ok (.iconst 5, 1) := by decide +kernel
theorem dX0_shortenBans_25 : decode cX0_shortenBans 25 = .ok (.iload_n 1, 1) := by decide +kernel
theorem dX0_shortenBans_26 : decode cX0_shortenBans 26 = .ok (.aload_n 0, 1) := by decide +kernel
theorem dX0_shortenBans_27 : decode cX0_shortenBans 27 = .ok (.getfield 12, 3) := by decide +kernel
theorem dX0_shortenBans_30 : decode cX0_shortenBans 30 = .ok (.iconst 5, 1) := by decide +kernel
theorem dX0_shortenBans_31 : decode cX0_shortenBans 31 = .ok (.iload_n 1, 1) := by decide +kernel
theorem dX0_shortenBans_32 : decode cX0_shortenBans 32 = .ok (.invokevirtual 60, 3) := by decide +kernel
theorem dX0_shortenBans_35 : decode cX0_shortenBans 35 = .ok (.iconst 1, 1) := by decide +kernel
theorem dX0_shortenBans_36 : decode cX0_shortenBans 36 = .ok (.isub, 1) := by decide +kernel
theorem dX0_shortenBans_37 : decode cX0_shortenBans 37 = .ok (.invokevirtual 48, 3) := by decide +kernel
theorem dX0_shortenBans_40 : decode cX0_shortenBans 40 = .ok (.iinc 1 1, 3) := by decide +kernel
theorem dX0_shortenBans_43 : decode cX0_shortenBans 43 = .ok (.goto (-41), 3) := by decide +kernel
theorem dX0_shortenBans_46 : decode cX0_shortenBans 46 = .ok (.return_, 1) := by decide +kernel
theorem dX0_beginYear_0 : decode cX0_beginYear 0 = .ok (.aload_n 0, 1) := by decide +kernel
theorem dX0_beginYear_1 : decode cX0_beginYear 1 = .ok (.getfield 12, 3) := by decide +kernel
theorem dX0_beginYear_4 : decode cX0_beginYear 4 = .ok (.sipush 286, 3) := by decide +kernel
theorem dX0_beginYear_7 : decode cX0_beginYear 7 = .ok (.aload_n 0, 1) := by decide +kernel
theorem dX0_beginYear_8 : decode cX0_beginYear 8 = .ok (.getfield 12, 3) := by decide +kernel
theorem dX0_beginYear_11 : decode cX0_beginYear 11 = .ok (.sipush 286, 3) := by decide +kernel
theorem dX0_beginYear_14 : decode cX0_beginYear 14 = .ok (.invokevirtual 36, 3) := by decide +kernel
theorem dX0_beginYear_17 : decode cX0_beginYear 17 = .ok (.iconst 1, 1) := by decide +kernel
theorem dX0_beginYear_18 : decode cX0_beginYear 18 = .ok (.iadd, 1) := by decide +kernel
theorem dX0_beginYear_19 : decode cX0_beginYear 19 = .ok (.invokevirtual 44, 3) := by decide +kernel
theorem dX0_beginYear_22 : decode cX0_beginYear 22 = .ok (.aload_n 0, 1) := by decide +kernel
theorem dX0_beginYear_23 : decode cX0_beginYear 23 = .ok (.getfield 12, 3) := by decide +kernel
theorem dX0_beginYear_26 : decode cX0_beginYear 26 = .ok (.sipush 293, 3) := by decide +kernel
theorem dX0_beginYear_29 : decode cX0_beginYear 29 = .ok (.iconst 0, 1) := by decide +kernel
theorem dX0_beginYear_30 : decode cX0_beginYear 30 = .ok (.invokevirtual 44, 3) := by decide +kernel
theorem dX0_beginYear_33 : decode cX0_beginYear 33 = .ok (.iconst 0, 1) := by decide +kernel
theorem dX0_beginYear_34 : decode cX0_beginYear 34 = .ok (.istore_n 1, 1) := by decide +kernel
theorem dX0_beginYear_35 : decode cX0_beginYear 35 = .ok (.iload_n 1, 1) := by decide +kernel
theorem dX0_beginYear_36 : decode cX0_beginYear 36 = .ok (.bipush 16, 2) := by decide +kernel
theorem dX0_beginYear_38 : decode cX0_beginYear 38 = .ok (.if_icmp .ge 79, 3) := by decide +kernel
theorem dX0_beginYear_41 : decode cX0_beginYear 41 = .ok (.aload_n 0, 1) := by decide +kernel
theorem dX0_beginYear_42 : decode cX0_beginYear 42 = .ok (.getfield 12, 3) := by decide +kernel
theorem dX0_beginYear_45 : decode cX0_beginYear 45 = .ok (.iconst 1, 1) := by decide +kernel
theorem dX0_beginYear_46 : decode cX0_beginYear 46 = .ok (.iload_n 1, 1) := by decide +kernel
theorem dX0_beginYear_47 : decode cX0_beginYear 47 = .ok (.invokevirtual 56, 3) := by decide +kernel
theorem dX0_beginYear_50 : decode cX0_beginYear 50 = .ok (.istore_n 2, 1) := by decide +kernel
theorem dX0_beginYear_51 : decode cX0_beginYear 51 = .ok (.iload_n 2, 1) := by decide +kernel
theorem dX0_beginYear_52 : decode cX0_beginYear 52 = .ok (.ifCond .ne 15, 3) := by decide +kernel
theorem dX0_beginYear_55 : decode cX0_beginYear 55 = .ok (.aload_n 0, 1) := by decide +kernel
theorem dX0_beginYear_56 : decode cX0_beginYear 56 = .ok (.getfield 12, 3) := by decide +kernel
theorem dX0_beginYear_59 : decode cX0_beginYear 59 = .ok (.iconst 0, 1) := by decide +kernel
theorem dX0_beginYear_60 : decode cX0_beginYear 60 = .ok (.iload_n 1, 1) := by decide +kernel
theorem dX0_beginYear_61 : decode cX0_beginYear 61 = .ok (.invokevirtual 56, 3) := by decide +kernel
theorem dX0_beginYear_64 : decode cX0_beginYear 64 = .ok (.ifCond .eq 23, 3) := by decide +kernel
theorem dX0_beginYear_67 : decode cX0_beginYear 67 = .ok (.aload_n 0, 1) := by decide +kernel
theorem dX0_beginYear_68 : decode cX0_beginYear 68 = .ok (.getfield 12, 3) := by decide +kernel
theorem dX0_beginYear_71 : decode cX0_beginYear 71 = .ok (.iconst 0, 1) := by decide +kernel
theorem dX0_beginYear_72 : decode cX0_beginYear 72 = .ok (.iload_n 1, 1) := by decide +kernel
theorem dX0_beginYear_73 : decode cX0_beginYear 73 = .ok (.aload_n 0, 1) := by decide +kernel
theorem dX0_beginYear_74 : decode cX0_beginYear 74 = .ok (.getfield 12, 3) := by decide +kernel
theorem dX0_beginYear_77 : decode cX0_beginYear 77 = .ok (.iconst 0, 1) := by decide +kernel
theorem dX0_beginYear_78 : decode cX0_beginYear 78 = .ok (.iload_n 1, 1) := by decide +kernel
theorem dX0_beginYear_79 : decode cX0_beginYear 79 = .ok (.invokevirtual 60, 3) := by decide +kernel
theorem dX0_beginYear_82 : decode cX0_beginYear 82 = .ok (.iconst 1, 1) := by decide +kernel
theorem dX0_beginYear_83 : decode cX0_beginYear 83 = .ok (.iadd, 1) := by decide +kernel
theorem dX0_beginYear_84 : decode cX0_beginYear 84 = .ok (.invokevirtual 48, 3) := by decide +kernel
theorem dX0_beginYear_87 : decode cX0_beginYear 87 = .ok (.iload_n 2, 1) := by decide +kernel
theorem dX0_beginYear_88 : decode cX0_beginYear 88 = .ok (.ifCond .eq 23, 3) := by decide +kernel
theorem dX0_beginYear_91 : decode cX0_beginYear 91 = .ok (.aload_n 0, 1) := by decide +kernel
theorem dX0_beginYear_92 : decode cX0_beginYear 92 = .ok (.getfield 12, 3) := by decide +kernel
theorem dX0_beginYear_95 : decode cX0_beginYear 95 = .ok (.iconst 4, 1) := by decide +kernel
theorem dX0_beginYear_96 : decode cX0_beginYear 96 = .ok (.iload_n 1, 1) := by decide +kernel
theorem dX0_beginYear_97 : decode cX0_beginYear 97 = .ok (.aload_n 0, 1) := by decide +kernel
theorem dX0_beginYear_98 : decode cX0_beginYear 98 = .ok (.getfield 12, 3) := by decide +kernel
theorem dX0_beginYear_101 : decode cX0_beginYear 101 = .ok (.iconst 4, 1) := by decide +kernel
theorem dX0_beginYear_102 : decode cX0_beginYear 102 = .ok (.iload_n 1, 1) := by decide +kernel
theorem dX0_beginYear_103 : decode cX0_beginYear 103 = .ok (.invokevirtual 60, 3) := by decide +kernel
theorem dX0_beginYear_106 : decode cX0_beginYear 106 = .ok (.iconst 1, 1) := by decide +kernel
theorem dX0_beginYear_107 : decode cX0_beginYear 107 = .ok (.iadd, 1) := by decide +kernel
theorem dX0_beginYear_108 : decode cX0_beginYear 108 = .ok (.invokevirtual 48, 3) := by decide +kernel
theorem dX0_beginYear_111 : decode cX0_beginYear 111 = .ok (.iinc 1 1, 3) := by decide +kernel
theorem dX0_beginYear_114 : decode cX0_beginYear 114 = .ok (.goto (-79), 3) := by decide +kernel
theorem dX0_beginYear_117 : decode cX0_beginYear 117 = .ok (.return_, 1) := by decide +kernel
theorem dX0_buyGowns_0 : decode cX0_buyGowns 0 = .ok (.iconst 0, 1) := by decide +kernel
theorem dX0_buyGowns_1 : decode cX0_buyGowns 1 = .ok (.istore_n 1, 1) := by decide +kernel
theorem dX0_buyGowns_2 : decode cX0_buyGowns 2 = .ok (.iload_n 1, 1) := by decide +kernel
theorem dX0_buyGowns_3 : decode cX0_buyGowns 3 = .ok (.bipush 8, 2) := by decide +kernel
theorem dX0_buyGowns_5 : decode cX0_buyGowns 5 = .ok (.if_icmp .ge 150, 3) := by decide +kernel
theorem dX0_buyGowns_8 : decode cX0_buyGowns 8 = .ok (.aload_n 0, 1) := by decide +kernel
theorem dX0_buyGowns_9 : decode cX0_buyGowns 9 = .ok (.getfield 21, 3) := by decide +kernel
theorem dX0_buyGowns_12 : decode cX0_buyGowns 12 = .ok (.aload_n 0, 1) := by decide +kernel
theorem dX0_buyGowns_13 : decode cX0_buyGowns 13 = .ok (.getfield 12, 3) := by decide +kernel
theorem dX0_buyGowns_16 : decode cX0_buyGowns 16 = .ok (.iconst 0, 1) := by decide +kernel
theorem dX0_buyGowns_17 : decode cX0_buyGowns 17 = .ok (.invokevirtual 147, 3) := by decide +kernel
theorem dX0_buyGowns_20 : decode cX0_buyGowns 20 = .ok (.istore_n 2, 1) := by decide +kernel
theorem dX0_buyGowns_21 : decode cX0_buyGowns 21 = .ok (.aload_n 0, 1) := by decide +kernel
theorem dX0_buyGowns_22 : decode cX0_buyGowns 22 = .ok (.getfield 12, 3) := by decide +kernel
theorem dX0_buyGowns_25 : decode cX0_buyGowns 25 = .ok (.iload_n 2, 1) := by decide +kernel
theorem dX0_buyGowns_26 : decode cX0_buyGowns 26 = .ok (.invokevirtual 52, 3) := by decide +kernel
theorem dX0_buyGowns_29 : decode cX0_buyGowns 29 = .ok (.ifCond .eq 20, 3) := by decide +kernel
theorem dX0_buyGowns_32 : decode cX0_buyGowns 32 = .ok (.aload_n 0, 1) := by decide +kernel
theorem dX0_buyGowns_33 : decode cX0_buyGowns 33 = .ok (.getfield 12, 3) := by decide +kernel
theorem dX0_buyGowns_36 : decode cX0_buyGowns 36 = .ok (.iconst 4, 1) := by decide +kernel
theorem dX0_buyGowns_37 : decode cX0_buyGowns 37 = .ok (.iload_n 2, 1) := by decide +kernel
theorem dX0_buyGowns_38 : decode cX0_buyGowns 38 = .ok (.invokevirtual 60, 3) := by decide +kernel
theorem dX0_buyGowns_41 : decode cX0_buyGowns 41 = .ok (.iconst 2, 1) := by decide +kernel
theorem dX0_buyGowns_42 : decode cX0_buyGowns 42 = .ok (.if_icmp .lt 7, 3) := by decide +kernel
theorem dX0_buyGowns_45 : decode cX0_buyGowns 45 = .ok (.iconst 1, 1) := by decide +kernel
theorem dX0_buyGowns_46 : decode cX0_buyGowns 46 = .ok (.goto 4, 3) := by decide +kernel
theorem dX0_buyGowns_49 : decode cX0_buyGowns 49 = .ok (.iconst 0, 1) := by decide +kernel
theorem dX0_buyGowns_50 : decode cX0_buyGowns 50 = .ok (.istore_n 3, 1) := by decide +kernel
theorem dX0_buyGowns_51 : decode cX0_buyGowns 51 = .ok (.iload_n 3, 1) := by decide +kernel
theorem dX0_buyGowns_52 : decode cX0_buyGowns 52 = .ok (.ifCond .eq 18, 3) := by decide +kernel
theorem dX0_buyGowns_55 : decode cX0_buyGowns 55 = .ok (.aload_n 0, 1) := by decide +kernel
theorem dX0_buyGowns_56 : decode cX0_buyGowns 56 = .ok (.getfield 12, 3) := by decide +kernel
theorem dX0_buyGowns_59 : decode cX0_buyGowns 59 = .ok (.sipush 288, 3) := by decide +kernel
theorem dX0_buyGowns_62 : decode cX0_buyGowns 62 = .ok (.invokevirtual 36, 3) := by decide +kernel
theorem dX0_buyGowns_65 : decode cX0_buyGowns 65 = .ok (.bipush 8, 2) := by decide +kernel
theorem dX0_buyGowns_67 : decode cX0_buyGowns 67 = .ok (.if_icmp .ge 4, 3) := by decide +kernel
theorem dX0_buyGowns_70 : decode cX0_buyGowns 70 = .ok (.return_, 1) := by decide +kernel
theorem dX0_buyGowns_71 : decode cX0_buyGowns 71 = .ok (.aload_n 0, 1) := by decide +kernel
theorem dX0_buyGowns_72 : decode cX0_buyGowns 72 = .ok (.getfield 12, 3) := by decide +kernel
theorem dX0_buyGowns_75 : decode cX0_buyGowns 75 = .ok (.iconst 4, 1) := by decide +kernel
theorem dX0_buyGowns_76 : decode cX0_buyGowns 76 = .ok (.iload_n 2, 1) := by decide +kernel
theorem dX0_buyGowns_77 : decode cX0_buyGowns 77 = .ok (.iconst 0, 1) := by decide +kernel
theorem dX0_buyGowns_78 : decode cX0_buyGowns 78 = .ok (.invokevirtual 48, 3) := by decide +kernel
theorem dX0_buyGowns_81 : decode cX0_buyGowns 81 = .ok (.aload_n 0, 1) := by decide +kernel
theorem dX0_buyGowns_82 : decode cX0_buyGowns 82 = .ok (.getfield 12, 3) := by decide +kernel
theorem dX0_buyGowns_85 : decode cX0_buyGowns 85 = .ok (.sipush 288, 3) := by decide +kernel
theorem dX0_buyGowns_88 : decode cX0_buyGowns 88 = .ok (.aload_n 0, 1) := by decide +kernel
theorem dX0_buyGowns_89 : decode cX0_buyGowns 89 = .ok (.getfield 12, 3) := by decide +kernel
theorem dX0_buyGowns_92 : decode cX0_buyGowns 92 = .ok (.sipush 288, 3) := by decide +kernel
theorem dX0_buyGowns_95 : decode cX0_buyGowns 95 = .ok (.invokevirtual 36, 3) := by decide +kernel
theorem dX0_buyGowns_98 : decode cX0_buyGowns 98 = .ok (.bipush 8, 2) := by decide +kernel
theorem dX0_buyGowns_100 : decode cX0_buyGowns 100 = .ok (.isub, 1) := by decide +kernel
theorem dX0_buyGowns_101 : decode cX0_buyGowns 101 = .ok (.invokevirtual 44, 3) := by decide +kernel
theorem dX0_buyGowns_104 : decode cX0_buyGowns 104 = .ok (.aload_n 0, 1) := by decide +kernel
theorem dX0_buyGowns_105 : decode cX0_buyGowns 105 = .ok (.getfield 12, 3) := by decide +kernel
theorem dX0_buyGowns_108 : decode cX0_buyGowns 108 = .ok (.sipush 291, 3) := by decide +kernel
theorem dX0_buyGowns_111 : decode cX0_buyGowns 111 = .ok (.aload_n 0, 1) := by decide +kernel
theorem dX0_buyGowns_112 : decode cX0_buyGowns 112 = .ok (.getfield 12, 3) := by decide +kernel
theorem dX0_buyGowns_115 : decode cX0_buyGowns 115 = .ok (.sipush 291, 3) := by decide +kernel
theorem dX0_buyGowns_118 : decode cX0_buyGowns 118 = .ok (.invokevirtual 36, 3) := by decide +kernel
theorem dX0_buyGowns_121 : decode cX0_buyGowns 121 = .ok (.bipush 8, 2) := by decide +kernel
theorem dX0_buyGowns_123 : decode cX0_buyGowns 123 = .ok (.iadd, 1) := by decide +kernel
theorem dX0_buyGowns_124 : decode cX0_buyGowns 124 = .ok (.invokevirtual 44, 3) := by decide +kernel
theorem dX0_buyGowns_127 : decode cX0_buyGowns 127 = .ok (.aload_n 0, 1) := by decide +kernel
theorem dX0_buyGowns_128 : decode cX0_buyGowns 128 = .ok (.getfield 12, 3) := by decide +kernel
theorem dX0_buyGowns_131 : decode cX0_buyGowns 131 = .ok (.sipush 292, 3) := by decide +kernel
theorem dX0_buyGowns_134 : decode cX0_buyGowns 134 = .ok (.aload_n 0, 1) := by decide +kernel
theorem dX0_buyGowns_135 : decode cX0_buyGowns 135 = .ok (.getfield 12, 3) := by decide +kernel
theorem dX0_buyGowns_138 : decode cX0_buyGowns 138 = .ok (.sipush 292, 3) := by decide +kernel
theorem dX0_buyGowns_141 : decode cX0_buyGowns 141 = .ok (.invokevirtual 36, 3) := by decide +kernel
theorem dX0_buyGowns_144 : decode cX0_buyGowns 144 = .ok (.iconst 1, 1) := by decide +kernel
theorem dX0_buyGowns_145 : decode cX0_buyGowns 145 = .ok (.iadd, 1) := by decide +kernel
theorem dX0_buyGowns_146 : decode cX0_buyGowns 146 = .ok (.invokevirtual 44, 3) := by decide +kernel
theorem dX0_buyGowns_149 : decode cX0_buyGowns 149 = .ok (.iinc 1 1, 3) := by decide +kernel
theorem dX0_buyGowns_152 : decode cX0_buyGowns 152 = .ok (.goto (-150), 3) := by decide +kernel
theorem dX0_buyGowns_155 : decode cX0_buyGowns 155 = .ok (.return_, 1) := by decide +kernel
theorem dX1_init_0 : decode cX1_init 0 = .ok (.aload_n 0, 1) := by decide +kernel
theorem dX1_init_1 : decode cX1_init 1 = .ok (.invokespecial 3, 3) := by decide +kernel
theorem dX1_init_4 : decode cX1_init 4 = .ok (.aload_n 0, 1) := by decide +kernel
theorem dX1_init_5 : decode cX1_init 5 = .ok (.sipush 2352, 3) := by decide +kernel
theorem dX1_init_8 : decode cX1_init 8 = .ok (.newarray .int, 2) := by decide +kernel
theorem dX1_init_10 : decode cX1_init 10 = .ok (.putfield 9, 3) := by decide +kernel
theorem dX1_init_13 : decode cX1_init 13 = .ok (.aload_n 0, 1) := by decide +kernel
theorem dX1_init_14 : decode cX1_init 14 = .ok (.iconst 0, 1) := by decide +kernel
theorem dX1_init_15 : decode cX1_init 15 = .ok (.putfield 15, 3) := by decide +kernel
theorem dX1_init_18 : decode cX1_init 18 = .ok (.aload_n 0, 1) := by decide +kernel
theorem dX1_init_19 : decode cX1_init 19 = .ok (.iconst 0, 1) := by decide +kernel
theorem dX1_init_20 : decode cX1_init 20 = .ok (.putfield 19, 3) := by decide +kernel
theorem dX1_init_23 : decode cX1_init 23 = .ok (.return_, 1) := by decide +kernel
theorem dX1_size_0 : decode cX1_size 0 = .ok (.aload_n 0, 1) := by decide +kernel
theorem dX1_size_1 : decode cX1_size 1 = .ok (.getfield 19, 3) := by decide +kernel
theorem dX1_size_4 : decode cX1_size 4 = .ok (.ireturn, 1) := by decide +kernel
theorem dX1_keep_0 : decode cX1_keep 0 = .ok (.aload_n 1, 1) := by decide +kernel
theorem dX1_keep_1 : decode cX1_keep 1 = .ok (.aload_n 0, 1) := by decide +kernel
theorem dX1_keep_2 : decode cX1_keep 2 = .ok (.getfield 9, 3) := by decide +kernel
theorem dX1_keep_5 : decode cX1_keep 5 = .ok (.aload_n 0, 1) := by decide +kernel
theorem dX1_keep_6 : decode cX1_keep 6 = .ok (.getfield 15, 3) := by decide +kernel
theorem dX1_keep_9 : decode cX1_keep 9 = .ok (.sipush 294, 3) := by decide +kernel
theorem dX1_keep_12 : decode cX1_keep 12 = .ok (.imul, 1) := by decide +kernel
theorem dX1_keep_13 : decode cX1_keep 13 = .ok (.invokevirtual 22, 3) := by decide +kernel
theorem dX1_keep_16 : decode cX1_keep 16 = .ok (.aload_n 0, 1) := by decide +kernel
theorem dX1_keep_17 : decode cX1_keep 17 = .ok (.aload_n 0, 1) := by decide +kernel
theorem dX1_keep_18 : decode cX1_keep 18 = .ok (.getfield 15, 3) := by decide +kernel
theorem dX1_keep_21 : decode cX1_keep 21 = .ok (.iconst 1, 1) := by decide +kernel
theorem dX1_keep_22 : decode cX1_keep 22 = .ok (.iadd, 1) := by decide +kernel
theorem dX1_keep_23 : decode cX1_keep 23 = .ok (.bipush 8, 2) := by decide +kernel
theorem dX1_keep_25 : decode cX1_keep 25 = .ok (.irem, 1) := by decide +kernel
theorem dX1_keep_26 : decode cX1_keep 26 = .ok (.putfield 15, 3) := by decide +kernel
theorem dX1_keep_29 : decode cX1_keep 29 = .ok (.aload_n 0, 1) := by decide +kernel
theorem dX1_keep_30 : decode cX1_keep 30 = .ok (.aload_n 0, 1) := by decide +kernel
theorem dX1_keep_31 : decode cX1_keep 31 = .ok (.getfield 19, 3) := by decide +kernel
theorem dX1_keep_34 : decode cX1_keep 34 = .ok (.iconst 1, 1) := by decide +kernel
theorem dX1_keep_35 : decode cX1_keep 35 = .ok (.iadd, 1) := by decide +kernel
theorem dX1_keep_36 : decode cX1_keep 36 = .ok (.bipush 8, 2) := by decide +kernel
theorem dX1_keep_38 : decode cX1_keep 38 = .ok (.invokestatic 28, 3) := by decide +kernel
theorem dX1_keep_41 : decode cX1_keep 41 = .ok (.putfield 19, 3) := by decide +kernel
theorem dX1_keep_44 : decode cX1_keep 44 = .ok (.return_, 1) := by decide +kernel
theorem dX1_giveBack_0 : decode cX1_giveBack 0 = .ok (.aload_n 0, 1) := by decide +kernel
theorem dX1_giveBack_1 : decode cX1_giveBack 1 = .ok (.getfield 19, 3) := by decide +kernel
theorem dX1_giveBack_4 : decode cX1_giveBack 4 = .ok (.ifCond .ne 5, 3) := by decide +kernel
theorem dX1_giveBack_7 : decode cX1_giveBack 7 = .ok (.iconst 0, 1) := by decide +kernel
theorem dX1_giveBack_8 : decode cX1_giveBack 8 = .ok (.ireturn, 1) := by decide +kernel
theorem dX1_giveBack_9 : decode cX1_giveBack 9 = .ok (.aload_n 0, 1) := by decide +kernel
theorem dX1_giveBack_10 : decode cX1_giveBack 10 = .ok (.dup, 1) := by decide +kernel
theorem dX1_giveBack_11 : decode cX1_giveBack 11 = .ok (.getfield 19, 3) := by decide +kernel
theorem dX1_giveBack_14 : decode cX1_giveBack 14 = .ok (.iconst 1, 1) := by decide +kernel
theorem dX1_giveBack_15 : decode cX1_giveBack 15 = .ok (.isub, 1) := by decide +kernel
theorem dX1_giveBack_16 : decode cX1_giveBack 16 = .ok (.putfield 19, 3) := by decide +kernel
theorem dX1_giveBack_19 : decode cX1_giveBack 19 = .ok (.aload_n 0, 1) := by decide +kernel
theorem dX1_giveBack_20 : decode cX1_giveBack 20 = .ok (.aload_n 0, 1) := by decide +kernel
theorem dX1_giveBack_21 : decode cX1_giveBack 21 = .ok (.getfield 15, 3) := by decide +kernel
theorem dX1_giveBack_24 : decode cX1_giveBack 24 = .ok (.bipush 8, 2) := by decide +kernel
theorem dX1_giveBack_26 : decode cX1_giveBack 26 = .ok (.iadd, 1) := by decide +kernel
theorem dX1_giveBack_27 : decode cX1_giveBack 27 = .ok (.iconst 1, 1) := by decide +kernel
theorem dX1_giveBack_28 : decode cX1_giveBack 28 = .ok (.isub, 1) := by decide +kernel
theorem dX1_giveBack_29 : decode cX1_giveBack 29 = .ok (.bipush 8, 2) := by decide +kernel
theorem dX1_giveBack_31 : decode cX1_giveBack 31 = .ok (.irem, 1) := by decide +kernel
theorem dX1_giveBack_32 : decode cX1_giveBack 32 = .ok (.putfield 15, 3) := by decide +kernel
theorem dX1_giveBack_35 : decode cX1_giveBack 35 = .ok (.aload_n 1, 1) := by decide +kernel
theorem dX1_giveBack_36 : decode cX1_giveBack 36 = .ok (.aload_n 0, 1) := by decide +kernel
theorem dX1_giveBack_37 : decode cX1_giveBack 37 = .ok (.getfield 9, 3) := by decide +kernel
theorem dX1_giveBack_40 : decode cX1_giveBack 40 = .ok (.aload_n 0, 1) := by decide +kernel
theorem dX1_giveBack_41 : decode cX1_giveBack 41 = .ok (.getfield 15, 3) := by decide +kernel
theorem dX1_giveBack_44 : decode cX1_giveBack 44 = .ok (.sipush 294, 3) := by decide +kernel
theorem dX1_giveBack_47 : decode cX1_giveBack 47 = .ok (.imul, 1) := by decide +kernel
theorem dX1_giveBack_48 : decode cX1_giveBack 48 = .ok (.invokevirtual 34, 3) := by decide +kernel
theorem dX1_giveBack_51 : decode cX1_giveBack 51 = .ok (.iconst 1, 1) := by decide +kernel
theorem dX1_giveBack_52 : decode cX1_giveBack 52 = .ok (.ireturn, 1) := by decide +kernel
theorem dX1_forget_0 : decode cX1_forget 0 = .ok (.aload_n 0, 1) := by decide +kernel
theorem dX1_forget_1 : decode cX1_forget 1 = .ok (.iconst 0, 1) := by decide +kernel
theorem dX1_forget_2 : decode cX1_forget 2 = .ok (.putfield 19, 3) := by decide +kernel
theorem dX1_forget_5 : decode cX1_forget 5 = .ok (.return_, 1) := by decide +kernel
theorem dX2_init_0 : decode cX2_init 0 = .ok (.aload_n 0, 1) := by decide +kernel
theorem dX2_init_1 : decode cX2_init 1 = .ok (.invokespecial 3, 3) := by decide +kernel
theorem dX2_init_4 : decode cX2_init 4 = .ok (.aload_n 0, 1) := by decide +kernel
theorem dX2_init_5 : decode cX2_init 5 = .ok (.bipush 10, 2) := by decide +kernel
theorem dX2_init_7 : decode cX2_init 7 = .ok (.newarray .int, 2) := by decide +kernel
theorem dX2_init_9 : decode cX2_init 9 = .ok (.putfield 9, 3) := by decide +kernel
theorem dX2_init_12 : decode cX2_init 12 = .ok (.aload_n 0, 1) := by decide +kernel
theorem dX2_init_13 : decode cX2_init 13 = .ok (.bipush 10, 2) := by decide +kernel
theorem dX2_init_15 : decode cX2_init 15 = .ok (.newarray .int, 2) := by decide +kernel
theorem dX2_init_17 : decode cX2_init 17 = .ok (.putfield 15, 3) := by decide +kernel
theorem dX2_init_20 : decode cX2_init 20 = .ok (.aload_n 0, 1) := by decide +kernel
theorem dX2_init_21 : decode cX2_init 21 = .ok (.bipush 10, 2) := by decide +kernel
theorem dX2_init_23 : decode cX2_init 23 = .ok (.newarray .int, 2) := by decide +kernel
theorem dX2_init_25 : decode cX2_init 25 = .ok (.putfield 18, 3) := by decide +kernel
theorem dX2_init_28 : decode cX2_init 28 = .ok (.aload_n 0, 1) := by decide +kernel
theorem dX2_init_29 : decode cX2_init 29 = .ok (.iconst 0, 1) := by decide +kernel
theorem dX2_init_30 : decode cX2_init 30 = .ok (.putfield 21, 3) := by decide +kernel
theorem dX2_init_33 : decode cX2_init 33 = .ok (.aload_n 0, 1) := by decide +kernel
theorem dX2_init_34 : decode cX2_init 34 = .ok (.iconst 0, 1) := by decide +kernel
theorem dX2_init_35 : decode cX2_init 35 = .ok (.putfield 25, 3) := by decide +kernel
theorem dX2_init_38 : decode cX2_init 38 = .ok (.aload_n 0, 1) := by decide +kernel
theorem dX2_init_39 : decode cX2_init 39 = .ok (.iconst 0, 1) := by decide +kernel
theorem dX2_init_40 : decode cX2_init 40 = .ok (.putfield 28, 3) := by decide +kernel
theorem dX2_init_43 : decode cX2_init 43 = .ok (.return_, 1) := by decide +kernel
theorem dX2_size_0 : decode cX2_size 0 = .ok (.aload_n 0, 1) := by decide +kernel
theorem dX2_size_1 : decode cX2_size 1 = .ok (.getfield 21, 3) := by decide +kernel
theorem dX2_size_4 : decode cX2_size 4 = .ok (.ireturn, 1) := by decide +kernel
theorem dX2_kindOf_0 : decode cX2_kindOf 0 = .ok (.iload_n 1, 1) := by decide +kernel
theorem dX2_kindOf_1 : decode cX2_kindOf 1 = .ok (.ifCond .lt 21, 3) := by decide +kernel
theorem dX2_kindOf_4 : decode cX2_kindOf 4 = .ok (.iload_n 1, 1) := by decide +kernel
theorem dX2_kindOf_5 : decode cX2_kindOf 5 = .ok (.aload_n 0, 1) := by decide +kernel
theorem dX2_kindOf_6 : decode cX2_kindOf 6 = .ok (.getfield 9, 3) := by decide +kernel
theorem dX2_kindOf_9 : decode cX2_kindOf 9 = .ok (.arraylength, 1) := by decide +kernel
theorem dX2_kindOf_10 : decode cX2_kindOf 10 = .ok (.if_icmp .ge 12, 3) := by decide +kernel
theorem dX2_kindOf_13 : decode cX2_kindOf 13 = .ok (.aload_n 0, 1) := by decide +kernel
theorem dX2_kindOf_14 : decode cX2_kindOf 14 = .ok (.getfield 9, 3) := by decide +kernel
theorem dX2_kindOf_17 : decode cX2_kindOf 17 = .ok (.iload_n 1, 1) := by decide +kernel
theorem dX2_kindOf_18 : decode cX2_kindOf 18 = .ok (.iaload, 1) := by decide +kernel
theorem dX2_kindOf_19 : decode cX2_kindOf 19 = .ok (.goto 4, 3) := by decide +kernel
theorem dX2_kindOf_22 : decode cX2_kindOf 22 = .ok (.iconst (-1), 1) := by decide +kernel
theorem dX2_kindOf_23 : decode cX2_kindOf 23 = .ok (.ireturn, 1) := by decide +kernel
theorem dX2_firstOf_0 : decode cX2_firstOf 0 = .ok (.iload_n 1, 1) := by decide +kernel
theorem dX2_firstOf_1 : decode cX2_firstOf 1 = .ok (.ifCond .lt 21, 3) := by decide +kernel
theorem dX2_firstOf_4 : decode cX2_firstOf 4 = .ok (.iload_n 1, 1) := by decide +kernel
theorem dX2_firstOf_5 : decode cX2_firstOf 5 = .ok (.aload_n 0, 1) := by decide +kernel
theorem dX2_firstOf_6 : decode cX2_firstOf 6 = .ok (.getfield 15, 3) := by decide +kernel
theorem dX2_firstOf_9 : decode cX2_firstOf 9 = .ok (.arraylength, 1) := by decide +kernel
theorem dX2_firstOf_10 : decode cX2_firstOf 10 = .ok (.if_icmp .ge 12, 3) := by decide +kernel
theorem dX2_firstOf_13 : decode cX2_firstOf 13 = .ok (.aload_n 0, 1) := by decide +kernel
theorem dX2_firstOf_14 : decode cX2_firstOf 14 = .ok (.getfield 15, 3) := by decide +kernel
theorem dX2_firstOf_17 : decode cX2_firstOf 17 = .ok (.iload_n 1, 1) := by decide +kernel
theorem dX2_firstOf_18 : decode cX2_firstOf 18 = .ok (.iaload, 1) := by decide +kernel
theorem dX2_firstOf_19 : decode cX2_firstOf 19 = .ok (.goto 4, 3) := by decide +kernel
theorem dX2_firstOf_22 : decode cX2_firstOf 22 = .ok (.iconst 0, 1) := by decide +kernel
theorem dX2_firstOf_23 : decode cX2_firstOf 23 = .ok (.ireturn, 1) := by decide +kernel
theorem dX2_secondOf_0 : decode cX2_secondOf 0 = .ok (.iload_n 1, 1) := by decide +kernel
theorem dX2_secondOf_1 : decode cX2_secondOf 1 = .ok (.ifCond .lt 21, 3) := by decide +kernel
theorem dX2_secondOf_4 : decode cX2_secondOf 4 = .ok (.iload_n 1, 1) := by decide +kernel
theorem dX2_secondOf_5 : decode cX2_secondOf 5 = .ok (.aload_n 0, 1) := by decide +kernel
theorem dX2_secondOf_6 : decode cX2_secondOf 6 = .ok (.getfield 18, 3) := by decide +kernel
theorem dX2_secondOf_9 : decode cX2_secondOf 9 = .ok (.arraylength, 1) := by decide +kernel
theorem dX2_secondOf_10 : decode cX2_secondOf 10 = .ok (.if_icmp .ge 12, 3) := by decide +kernel
theorem dX2_secondOf_13 : decode cX2_secondOf 13 = .ok (.aload_n 0, 1) := by decide +kernel
theorem dX2_secondOf_14 : decode cX2_secondOf 14 = .ok (.getfield 18, 3) := by decide +kernel
theorem dX2_secondOf_17 : decode cX2_secondOf 17 = .ok (.iload_n 1, 1) := by decide +kernel
theorem dX2_secondOf_18 : decode cX2_secondOf 18 = .ok (.iaload, 1) := by decide +kernel
theorem dX2_secondOf_19 : decode cX2_secondOf 19 = .ok (.goto 4, 3) := by decide +kernel
theorem dX2_secondOf_22 : decode cX2_secondOf 22 = .ok (.iconst 0, 1) := by decide +kernel
theorem dX2_secondOf_23 : decode cX2_secondOf 23 = .ok (.ireturn, 1) := by decide +kernel
theorem dX2_read_0 : decode cX2_read 0 = .ok (.aload_n 0, 1) := by decide +kernel
theorem dX2_read_1 : decode cX2_read 1 = .ok (.iconst 0, 1) := by decide +kernel
theorem dX2_read_2 : decode cX2_read 2 = .ok (.putfield 21, 3) := by decide +kernel
theorem dX2_read_5 : decode cX2_read 5 = .ok (.aload_n 0, 1) := by decide +kernel
theorem dX2_read_6 : decode cX2_read 6 = .ok (.iconst 0, 1) := by decide +kernel
theorem dX2_read_7 : decode cX2_read 7 = .ok (.putfield 25, 3) := by decide +kernel
theorem dX2_read_10 : decode cX2_read 10 = .ok (.iconst 0, 1) := by decide +kernel
theorem dX2_read_11 : decode cX2_read 11 = .ok (.istore_n 2, 1) := by decide +kernel
theorem dX2_read_12 : decode cX2_read 12 = .ok (.iload_n 2, 1) := by decide +kernel
theorem dX2_read_13 : decode cX2_read 13 = .ok (.bipush 10, 2) := by decide +kernel
theorem dX2_read_15 : decode cX2_read 15 = .ok (.if_icmp .ge 50, 3) := by decide +kernel
theorem dX2_read_18 : decode cX2_read 18 = .ok (.aload_n 0, 1) := by decide +kernel
theorem dX2_read_19 : decode cX2_read 19 = .ok (.aload_n 1, 1) := by decide +kernel
theorem dX2_read_20 : decode cX2_read 20 = .ok (.invokevirtual 31, 3) := by decide +kernel
theorem dX2_read_23 : decode cX2_read 23 = .ok (.ifCond .ne 8, 3) := by decide +kernel
theorem dX2_read_26 : decode cX2_read 26 = .ok (.aload_n 0, 1) := by decide +kernel
theorem dX2_read_27 : decode cX2_read 27 = .ok (.getfield 25, 3) := by decide +kernel
theorem dX2_read_30 : decode cX2_read 30 = .ok (.ireturn, 1) := by decide +kernel
theorem dX2_read_31 : decode cX2_read 31 = .ok (.aload_n 0, 1) := by decide +kernel
theorem dX2_read_32 : decode cX2_read 32 = .ok (.getfield 25, 3) := by decide +kernel
theorem dX2_read_35 : decode cX2_read 35 = .ok (.aload_n 1, 1) := by decide +kernel
theorem dX2_read_36 : decode cX2_read 36 = .ok (.invokevirtual 35, 3) := by decide +kernel
theorem dX2_read_39 : decode cX2_read 39 = .ok (.if_icmp .lt 5, 3) := by decide +kernel
theorem dX2_read_42 : decode cX2_read 42 = .ok (.iconst (-1), 1) := by decide +kernel
theorem dX2_read_43 : decode cX2_read 43 = .ok (.ireturn, 1) := by decide +kernel
theorem dX2_read_44 : decode cX2_read 44 = .ok (.aload_n 0, 1) := by decide +kernel
theorem dX2_read_45 : decode cX2_read 45 = .ok (.aload_n 1, 1) := by decide +kernel
theorem dX2_read_46 : decode cX2_read 46 = .ok (.bipush 59, 2) := by decide +kernel
theorem dX2_read_48 : decode cX2_read 48 = .ok (.invokevirtual 41, 3) := by decide +kernel
theorem dX2_read_51 : decode cX2_read 51 = .ok (.ifCond .ne 8, 3) := by decide +kernel
theorem dX2_read_54 : decode cX2_read 54 = .ok (.aload_n 0, 1) := by decide +kernel
theorem dX2_read_55 : decode cX2_read 55 = .ok (.getfield 25, 3) := by decide +kernel
theorem dX2_read_58 : decode cX2_read 58 = .ok (.ireturn, 1) := by decide +kernel
theorem dX2_read_59 : decode cX2_read 59 = .ok (.iinc 2 1, 3) := by decide +kernel
theorem dX2_read_62 : decode cX2_read 62 = .ok (.goto (-50), 3) := by decide +kernel
theorem dX2_read_65 : decode cX2_read 65 = .ok (.aload_n 0, 1) := by decide +kernel
theorem dX2_read_66 : decode cX2_read 66 = .ok (.getfield 25, 3) := by decide +kernel
theorem dX2_read_69 : decode cX2_read 69 = .ok (.ireturn, 1) := by decide +kernel
theorem dX2_readOrder_0 : decode cX2_readOrder 0 = .ok (.aload_n 1, 1) := by decide +kernel
theorem dX2_readOrder_1 : decode cX2_readOrder 1 = .ok (.aload_n 0, 1) := by decide +kernel
theorem dX2_readOrder_2 : decode cX2_readOrder 2 = .ok (.getfield 25, 3) := by decide +kernel
theorem dX2_readOrder_5 : decode cX2_readOrder 5 = .ok (.invokevirtual 45, 3) := by decide +kernel
theorem dX2_readOrder_8 : decode cX2_readOrder 8 = .ok (.invokestatic 49, 3) := by decide +kernel
theorem dX2_readOrder_11 : decode cX2_readOrder 11 = .ok (.istore_n 2, 1) := by decide +kernel
theorem dX2_readOrder_12 : decode cX2_readOrder 12 = .ok (.iload_n 2, 1) := by decide +kernel
theorem dX2_readOrder_13 : decode cX2_readOrder 13 = .ok (.ifCond .lt 27, 3) := by decide +kernel
theorem dX2_readOrder_16 : decode cX2_readOrder 16 = .ok (.aload_n 0, 1) := by decide +kernel
theorem dX2_readOrder_17 : decode cX2_readOrder 17 = .ok (.aload_n 1, 1) := by decide +kernel
theorem dX2_readOrder_18 : decode cX2_readOrder 18 = .ok (.iload_n 2, 1) := by decide +kernel
theorem dX2_readOrder_19 : decode cX2_readOrder 19 = .ok (.invokestatic 52, 3) := by decide +kernel
theorem dX2_readOrder_22 : decode cX2_readOrder 22 = .ok (.invokevirtual 56, 3) := by decide +kernel
theorem dX2_readOrder_25 : decode cX2_readOrder 25 = .ok (.ifCond .eq 15, 3) := by decide +kernel
theorem dX2_readOrder_28 : decode cX2_readOrder 28 = .ok (.aload_n 0, 1) := by decide +kernel
theorem dX2_readOrder_29 : decode cX2_readOrder 29 = .ok (.aload_n 1, 1) := by decide +kernel
theorem dX2_readOrder_30 : decode cX2_readOrder 30 = .ok (.iload_n 2, 1) := by decide +kernel
theorem dX2_readOrder_31 : decode cX2_readOrder 31 = .ok (.invokestatic 60, 3) := by decide +kernel
theorem dX2_readOrder_34 : decode cX2_readOrder 34 = .ok (.invokevirtual 63, 3) := by decide +kernel
theorem dX2_readOrder_37 : decode cX2_readOrder 37 = .ok (.ifCond .ne 5, 3) := by decide +kernel
theorem dX2_readOrder_40 : decode cX2_readOrder 40 = .ok (.iconst 0, 1) := by decide +kernel
theorem dX2_readOrder_41 : decode cX2_readOrder 41 = .ok (.ireturn, 1) := by decide +kernel
theorem dX2_readOrder_42 : decode cX2_readOrder 42 = .ok (.aload_n 0, 1) := by decide +kernel
theorem dX2_readOrder_43 : decode cX2_readOrder 43 = .ok (.getfield 28, 3) := by decide +kernel
theorem dX2_readOrder_46 : decode cX2_readOrder 46 = .ok (.istore_n 3, 1) := by decide +kernel
theorem dX2_readOrder_47 : decode cX2_readOrder 47 = .ok (.iconst 0, 1) := by decide +kernel
theorem dX2_readOrder_48 : decode cX2_readOrder 48 = .ok (.istore 4, 2) := by decide +kernel
theorem dX2_readOrder_50 : decode cX2_readOrder 50 = .ok (.iload_n 2, 1) := by decide +kernel
theorem dX2_readOrder_51 : decode cX2_readOrder 51 = .ok (.invokestatic 66, 3) := by decide +kernel
theorem dX2_readOrder_54 : decode cX2_readOrder 54 = .ok (.ifCond .le 33, 3) := by decide +kernel
theorem dX2_readOrder_57 : decode cX2_readOrder 57 = .ok (.aload_n 0, 1) := by decide +kernel
theorem dX2_readOrder_58 : decode cX2_readOrder 58 = .ok (.aload_n 1, 1) := by decide +kernel
theorem dX2_readOrder_59 : decode cX2_readOrder 59 = .ok (.bipush 32, 2) := by decide +kernel
theorem dX2_readOrder_61 : decode cX2_readOrder 61 = .ok (.invokevirtual 41, 3) := by decide +kernel
theorem dX2_readOrder_64 : decode cX2_readOrder 64 = .ok (.ifCond .eq 15, 3) := by decide +kernel
theorem dX2_readOrder_67 : decode cX2_readOrder 67 = .ok (.aload_n 0, 1) := by decide +kernel
theorem dX2_readOrder_68 : decode cX2_readOrder 68 = .ok (.aload_n 1, 1) := by decide +kernel
theorem dX2_readOrder_69 : decode cX2_readOrder 69 = .ok (.iload_n 2, 1) := by decide +kernel
theorem dX2_readOrder_70 : decode cX2_readOrder 70 = .ok (.invokestatic 66, 3) := by decide +kernel
theorem dX2_readOrder_73 : decode cX2_readOrder 73 = .ok (.invokevirtual 63, 3) := by decide +kernel
theorem dX2_readOrder_76 : decode cX2_readOrder 76 = .ok (.ifCond .ne 5, 3) := by decide +kernel
theorem dX2_readOrder_79 : decode cX2_readOrder 79 = .ok (.iconst 0, 1) := by decide +kernel
theorem dX2_readOrder_80 : decode cX2_readOrder 80 = .ok (.ireturn, 1) := by decide +kernel
theorem dX2_readOrder_81 : decode cX2_readOrder 81 = .ok (.aload_n 0, 1) := by decide +kernel
theorem dX2_readOrder_82 : decode cX2_readOrder 82 = .ok (.getfield 28, 3) := by decide +kernel
theorem dX2_readOrder_85 : decode cX2_readOrder 85 = .ok (.istore 4, 2) := by decide +kernel
theorem dX2_readOrder_87 : decode cX2_readOrder 87 = .ok (.aload_n 0, 1) := by decide +kernel
theorem dX2_readOrder_88 : decode cX2_readOrder 88 = .ok (.iload_n 2, 1) := by decide +kernel
theorem dX2_readOrder_89 : decode cX2_readOrder 89 = .ok (.iload_n 3, 1) := by decide +kernel
theorem dX2_readOrder_90 : decode cX2_readOrder 90 = .ok (.iload 4, 2) := by decide +kernel
theorem dX2_readOrder_92 : decode cX2_readOrder 92 = .ok (.invokevirtual 69, 3) := by decide +kernel
theorem dX2_readOrder_95 : decode cX2_readOrder 95 = .ok (.iconst 1, 1) := by decide +kernel
theorem dX2_readOrder_96 : decode cX2_readOrder 96 = .ok (.ireturn, 1) := by decide +kernel
theorem dX2_keep_0 : decode cX2_keep 0 = .ok (.aload_n 0, 1) := by decide +kernel
theorem dX2_keep_1 : decode cX2_keep 1 = .ok (.getfield 21, 3) := by decide +kernel
theorem dX2_keep_4 : decode cX2_keep 4 = .ok (.ifCond .lt 79, 3) := by decide +kernel
theorem dX2_keep_7 : decode cX2_keep 7 = .ok (.aload_n 0, 1) := by decide +kernel
theorem dX2_keep_8 : decode cX2_keep 8 = .ok (.getfield 21, 3) := by decide +kernel
theorem dX2_keep_11 : decode cX2_keep 11 = .ok (.aload_n 0, 1) := by decide +kernel
theorem dX2_keep_12 : decode cX2_keep 12 = .ok (.getfield 9, 3) := by decide +kernel
theorem dX2_keep_15 : decode cX2_keep 15 = .ok (.arraylength, 1) := by decide +kernel
theorem dX2_keep_16 : decode cX2_keep 16 = .ok (.if_icmp .ge 67, 3) := by decide +kernel
theorem dX2_keep_19 : decode cX2_keep 19 = .ok (.aload_n 0, 1) := by decide +kernel
theorem dX2_keep_20 : decode cX2_keep 20 = .ok (.getfield 21, 3) := by decide +kernel
theorem dX2_keep_23 : decode cX2_keep 23 = .ok (.aload_n 0, 1) := by decide +kernel
theorem dX2_keep_24 : decode cX2_keep 24 = .ok (.getfield 15, 3) := by decide +kernel
theorem dX2_keep_27 : decode cX2_keep 27 = .ok (.arraylength, 1) := by decide +kernel
theorem dX2_keep_28 : decode cX2_keep 28 = .ok (.if_icmp .ge 55, 3) := by decide +kernel
theorem dX2_keep_31 : decode cX2_keep 31 = .ok (.aload_n 0, 1) := by decide +kernel
theorem dX2_keep_32 : decode cX2_keep 32 = .ok (.getfield 21, 3) := by decide +kernel
theorem dX2_keep_35 : decode cX2_keep 35 = .ok (.aload_n 0, 1) := by decide +kernel
theorem dX2_keep_36 : decode cX2_keep 36 = .ok (.getfield 18, 3) := by decide +kernel
theorem dX2_keep_39 : decode cX2_keep 39 = .ok (.arraylength, 1) := by decide +kernel
theorem dX2_keep_40 : decode cX2_keep 40 = .ok (.if_icmp .ge 43, 3) := by decide +kernel
theorem dX2_keep_43 : decode cX2_keep 43 = .ok (.aload_n 0, 1) := by decide +kernel
theorem dX2_keep_44 : decode cX2_keep 44 = .ok (.getfield 9, 3) := by decide +kernel
theorem dX2_keep_47 : decode cX2_keep 47 = .ok (.aload_n 0, 1) := by decide +kernel
theorem dX2_keep_48 : decode cX2_keep 48 = .ok (.getfield 21, 3) := by decide +kernel
theorem dX2_keep_51 : decode cX2_keep 51 = .ok (.iload_n 1, 1) := by decide +kernel
theorem dX2_keep_52 : decode cX2_keep 52 = .ok (.iastore, 1) := by decide +kernel
theorem dX2_keep_53 : decode cX2_keep 53 = .ok (.aload_n 0, 1) := by decide +kernel
theorem dX2_keep_54 : decode cX2_keep 54 = .ok (.getfield 15, 3) := by decide +kernel
theorem dX2_keep_57 : decode cX2_keep 57 = .ok (.aload_n 0, 1) := by decide +kernel
theorem dX2_keep_58 : decode cX2_keep 58 = .ok (.getfield 21, 3) := by decide +kernel
theorem dX2_keep_61 : decode cX2_keep 61 = .ok (.iload_n 2, 1) := by decide +kernel
theorem dX2_keep_62 : decode cX2_keep 62 = .ok (.iastore, 1) := by decide +kernel
theorem dX2_keep_63 : decode cX2_keep 63 = .ok (.aload_n 0, 1) := by decide +kernel
theorem dX2_keep_64 : decode cX2_keep 64 = .ok (.getfield 18, 3) := by decide +kernel
theorem dX2_keep_67 : decode cX2_keep 67 = .ok (.aload_n 0, 1) := by decide +kernel
theorem dX2_keep_68 : decode cX2_keep 68 = .ok (.getfield 21, 3) := by decide +kernel
theorem dX2_keep_71 : decode cX2_keep 71 = .ok (.iload_n 3, 1) := by decide +kernel
theorem dX2_keep_72 : decode cX2_keep 72 = .ok (.iastore, 1) := by decide +kernel
theorem dX2_keep_73 : decode cX2_keep 73 = .ok (.aload_n 0, 1) := by decide +kernel
theorem dX2_keep_74 : decode cX2_keep 74 = .ok (.dup, 1) := by decide +kernel
theorem dX2_keep_75 : decode cX2_keep 75 = .ok (.getfield 21, 3) := by decide +kernel
theorem dX2_keep_78 : decode cX2_keep 78 = .ok (.iconst 1, 1) := by decide +kernel
theorem dX2_keep_79 : decode cX2_keep 79 = .ok (.iadd, 1) := by decide +kernel
theorem dX2_keep_80 : decode cX2_keep 80 = .ok (.putfield 21, 3) := by decide +kernel
theorem dX2_keep_83 : decode cX2_keep 83 = .ok (.return_, 1) := by decide +kernel
theorem dX2_readWord_0 : decode cX2_readWord 0 = .ok (.iconst 0, 1) := by decide +kernel
theorem dX2_readWord_1 : decode cX2_readWord 1 = .ok (.istore_n 3, 1) := by decide +kernel
theorem dX2_readWord_2 : decode cX2_readWord 2 = .ok (.iload_n 3, 1) := by decide +kernel
theorem dX2_readWord_3 : decode cX2_readWord 3 = .ok (.aload_n 2, 1) := by decide +kernel
theorem dX2_readWord_4 : decode cX2_readWord 4 = .ok (.invokevirtual 73, 3) := by decide +kernel
theorem dX2_readWord_7 : decode cX2_readWord 7 = .ok (.if_icmp .ge 24, 3) := by decide +kernel
theorem dX2_readWord_10 : decode cX2_readWord 10 = .ok (.aload_n 0, 1) := by decide +kernel
theorem dX2_readWord_11 : decode cX2_readWord 11 = .ok (.aload_n 1, 1) := by decide +kernel
theorem dX2_readWord_12 : decode cX2_readWord 12 = .ok (.aload_n 2, 1) := by decide +kernel
theorem dX2_readWord_13 : decode cX2_readWord 13 = .ok (.iload_n 3, 1) := by decide +kernel
theorem dX2_readWord_14 : decode cX2_readWord 14 = .ok (.invokevirtual 78, 3) := by decide +kernel
theorem dX2_readWord_17 : decode cX2_readWord 17 = .ok (.invokevirtual 41, 3) := by decide +kernel
theorem dX2_readWord_20 : decode cX2_readWord 20 = .ok (.ifCond .ne 5, 3) := by decide +kernel
theorem dX2_readWord_23 : decode cX2_readWord 23 = .ok (.iconst 0, 1) := by decide +kernel
theorem dX2_readWord_24 : decode cX2_readWord 24 = .ok (.ireturn, 1) := by decide +kernel
theorem dX2_readWord_25 : decode cX2_readWord 25 = .ok (.iinc 3 1, 3) := by decide +kernel
theorem dX2_readWord_28 : decode cX2_readWord 28 = .ok (.goto (-26), 3) := by decide +kernel
theorem dX2_readWord_31 : decode cX2_readWord 31 = .ok (.iconst 1, 1) := by decide +kernel
theorem dX2_readWord_32 : decode cX2_readWord 32 = .ok (.ireturn, 1) := by decide +kernel
theorem dX2_readSign_0 : decode cX2_readSign 0 = .ok (.aload_n 1, 1) := by decide +kernel
theorem dX2_readSign_1 : decode cX2_readSign 1 = .ok (.aload_n 0, 1) := by decide +kernel
theorem dX2_readSign_2 : decode cX2_readSign 2 = .ok (.getfield 25, 3) := by decide +kernel
theorem dX2_readSign_5 : decode cX2_readSign 5 = .ok (.invokevirtual 45, 3) := by decide +kernel
theorem dX2_readSign_8 : decode cX2_readSign 8 = .ok (.iload_n 2, 1) := by decide +kernel
theorem dX2_readSign_9 : decode cX2_readSign 9 = .ok (.if_icmp .eq 5, 3) := by decide +kernel
theorem dX2_readSign_12 : decode cX2_readSign 12 = .ok (.iconst 0, 1) := by decide +kernel
theorem dX2_readSign_13 : decode cX2_readSign 13 = .ok (.ireturn, 1) := by decide +kernel
theorem dX2_readSign_14 : decode cX2_readSign 14 = .ok (.aload_n 0, 1) := by decide +kernel
theorem dX2_readSign_15 : decode cX2_readSign 15 = .ok (.dup, 1) := by decide +kernel
theorem dX2_readSign_16 : decode cX2_readSign 16 = .ok (.getfield 25, 3) := by decide +kernel
theorem dX2_readSign_19 : decode cX2_readSign 19 = .ok (.iconst 1, 1) := by decide +kernel
theorem dX2_readSign_20 : decode cX2_readSign 20 = .ok (.iadd, 1) := by decide +kernel
theorem dX2_readSign_21 : decode cX2_readSign 21 = .ok (.putfield 25, 3) := by decide +kernel
theorem dX2_readSign_24 : decode cX2_readSign 24 = .ok (.iconst 1, 1) := by decide +kernel
theorem dX2_readSign_25 : decode cX2_readSign 25 = .ok (.ireturn, 1) := by decide +kernel
theorem dX2_readNumber_0 : decode cX2_readNumber 0 = .ok (.iconst 0, 1) := by decide +kernel
theorem dX2_readNumber_1 : decode cX2_readNumber 1 = .ok (.istore_n 3, 1) := by decide +kernel
theorem dX2_readNumber_2 : decode cX2_readNumber 2 = .ok (.iconst 0, 1) := by decide +kernel
theorem dX2_readNumber_3 : decode cX2_readNumber 3 = .ok (.istore 4, 2) := by decide +kernel
theorem dX2_readNumber_5 : decode cX2_readNumber 5 = .ok (.iload 4, 2) := by decide +kernel
theorem dX2_readNumber_7 : decode cX2_readNumber 7 = .ok (.iload_n 2, 1) := by decide +kernel
theorem dX2_readNumber_8 : decode cX2_readNumber 8 = .ok (.if_icmp .ge 62, 3) := by decide +kernel
theorem dX2_readNumber_11 : decode cX2_readNumber 11 = .ok (.aload_n 1, 1) := by decide +kernel
theorem dX2_readNumber_12 : decode cX2_readNumber 12 = .ok (.aload_n 0, 1) := by decide +kernel
theorem dX2_readNumber_13 : decode cX2_readNumber 13 = .ok (.getfield 25, 3) := by decide +kernel
theorem dX2_readNumber_16 : decode cX2_readNumber 16 = .ok (.invokevirtual 45, 3) := by decide +kernel
theorem dX2_readNumber_19 : decode cX2_readNumber 19 = .ok (.bipush 48, 2) := by decide +kernel
theorem dX2_readNumber_21 : decode cX2_readNumber 21 = .ok (.if_icmp .lt 49, 3) := by decide +kernel
theorem dX2_readNumber_24 : decode cX2_readNumber 24 = .ok (.aload_n 1, 1) := by decide +kernel
theorem dX2_readNumber_25 : decode cX2_readNumber 25 = .ok (.aload_n 0, 1) := by decide +kernel
theorem dX2_readNumber_26 : decode cX2_readNumber 26 = .ok (.getfield 25, 3) := by decide +kernel
theorem dX2_readNumber_29 : decode cX2_readNumber 29 = .ok (.invokevirtual 45, 3) := by decide +kernel
theorem dX2_readNumber_32 : decode cX2_readNumber 32 = .ok (.bipush 57, 2) := by decide +kernel
theorem dX2_readNumber_34 : decode cX2_readNumber 34 = .ok (.if_icmp .gt 36, 3) := by decide +kernel
theorem dX2_readNumber_37 : decode cX2_readNumber 37 = .ok (.iload_n 3, 1) := by decide +kernel
theorem dX2_readNumber_38 : decode cX2_readNumber 38 = .ok (.bipush 10, 2) := by decide +kernel
theorem dX2_readNumber_40 : decode cX2_readNumber 40 = .ok (.imul, 1) := by decide +kernel
theorem dX2_readNumber_41 : decode cX2_readNumber 41 = .ok (.aload_n 1, 1) := by decide +kernel
theorem dX2_readNumber_42 : decode cX2_readNumber 42 = .ok (.aload_n 0, 1) := by decide +kernel
theorem dX2_readNumber_43 : decode cX2_readNumber 43 = .ok (.getfield 25, 3) := by decide +kernel
theorem dX2_readNumber_46 : decode cX2_readNumber 46 = .ok (.invokevirtual 45, 3) := by decide +kernel
theorem dX2_readNumber_49 : decode cX2_readNumber 49 = .ok (.iadd, 1) := by decide +kernel
theorem dX2_readNumber_50 : decode cX2_readNumber 50 = .ok (.bipush 48, 2) := by decide +kernel
theorem dX2_readNumber_52 : decode cX2_readNumber 52 = .ok (.isub, 1) := by decide +kernel
theorem dX2_readNumber_53 : decode cX2_readNumber 53 = .ok (.istore_n 3, 1) := by decide +kernel
theorem dX2_readNumber_54 : decode cX2_readNumber 54 = .ok (.aload_n 0, 1) := by decide +kernel
theorem dX2_readNumber_55 : decode cX2_readNumber 55 = .ok (.dup, 1) := by decide +kernel
theorem dX2_readNumber_56 : decode cX2_readNumber 56 = .ok (.getfield 25, 3) := by decide +kernel
theorem dX2_readNumber_59 : decode cX2_readNumber 59 = .ok (.iconst 1, 1) := by decide +kernel
theorem dX2_readNumber_60 : decode cX2_readNumber 60 = .ok (.iadd, 1) := by decide +kernel
theorem dX2_readNumber_61 : decode cX2_readNumber 61 = .ok (.putfield 25, 3) := by decide +kernel
theorem dX2_readNumber_64 : decode cX2_readNumber 64 = .ok (.iinc 4 1, 3) := by decide +kernel
theorem dX2_readNumber_67 : decode cX2_readNumber 67 = .ok (.goto (-62), 3) := by decide +kernel
theorem dX2_readNumber_70 : decode cX2_readNumber 70 = .ok (.aload_n 0, 1) := by decide +kernel
theorem dX2_readNumber_71 : decode cX2_readNumber 71 = .ok (.iload_n 3, 1) := by decide +kernel
theorem dX2_readNumber_72 : decode cX2_readNumber 72 = .ok (.putfield 28, 3) := by decide +kernel
theorem dX2_readNumber_75 : decode cX2_readNumber 75 = .ok (.iload 4, 2) := by decide +kernel
theorem dX2_readNumber_77 : decode cX2_readNumber 77 = .ok (.ifCond .le 7, 3) := by decide +kernel
theorem dX2_readNumber_80 : decode cX2_readNumber 80 = .ok (.iconst 1, 1) := by decide +kernel
theorem dX2_readNumber_81 : decode cX2_readNumber 81 = .ok (.goto 4, 3) := by decide +kernel
theorem dX2_readNumber_84 : decode cX2_readNumber 84 = .ok (.iconst 0, 1) := by decide +kernel
theorem dX2_readNumber_85 : decode cX2_readNumber 85 = .ok (.ireturn, 1) := by decide +kernel
theorem dX2_kindWith_0 : decode cX2_kindWith 0 = .ok (.iload_n 0, 1) := by decide +kernel
theorem dX2_kindWith_1 : decode cX2_kindWith 1 = .ok (.tableswitch 121 98 119 #[109, 105, 121, 121, 113, 115, 121, 121, 121, 121, 107, 121, 121, 121, 111, 121, 121, 121, 121, 121, 103, 118], 103) := by decide +kernel
theorem dX2_kindWith_104 : decode cX2_kindWith 104 = .ok (.iconst 0, 1) := by decide +kernel
theorem dX2_kindWith_105 : decode cX2_kindWith 105 = .ok (.ireturn, 1) := by decide +kernel
theorem dX2_kindWith_106 : decode cX2_kindWith 106 = .ok (.iconst 1, 1) := by decide +kernel
theorem dX2_kindWith_107 : decode cX2_kindWith 107 = .ok (.ireturn, 1) := by decide +kernel
theorem dX2_kindWith_108 : decode cX2_kindWith 108 = .ok (.iconst 2, 1) := by decide +kernel
theorem dX2_kindWith_109 : decode cX2_kindWith 109 = .ok (.ireturn, 1) := by decide +kernel
theorem dX2_kindWith_110 : decode cX2_kindWith 110 = .ok (.iconst 3, 1) := by decide +kernel
theorem dX2_kindWith_111 : decode cX2_kindWith 111 = .ok (.ireturn, 1) := by decide +kernel
theorem dX2_kindWith_112 : decode cX2_kindWith 112 = .ok (.iconst 4, 1) := by decide +kernel
theorem dX2_kindWith_113 : decode cX2_kindWith 113 = .ok (.ireturn, 1) := by decide +kernel
theorem dX2_kindWith_114 : decode cX2_kindWith 114 = .ok (.iconst 5, 1) := by decide +kernel
theorem dX2_kindWith_115 : decode cX2_kindWith 115 = .ok (.ireturn, 1) := by decide +kernel
theorem dX2_kindWith_116 : decode cX2_kindWith 116 = .ok (.bipush 6, 2) := by decide +kernel
theorem dX2_kindWith_118 : decode cX2_kindWith 118 = .ok (.ireturn, 1) := by decide +kernel
theorem dX2_kindWith_119 : decode cX2_kindWith 119 = .ok (.bipush 7, 2) := by decide +kernel
theorem dX2_kindWith_121 : decode cX2_kindWith 121 = .ok (.ireturn, 1) := by decide +kernel
theorem dX2_kindWith_122 : decode cX2_kindWith 122 = .ok (.iconst (-1), 1) := by decide +kernel
theorem dX2_kindWith_123 : decode cX2_kindWith 123 = .ok (.ireturn, 1) := by decide +kernel
theorem dX2_wordOf_0 : decode cX2_wordOf 0 = .ok (.iload_n 0, 1) := by decide +kernel
theorem dX2_wordOf_1 : decode cX2_wordOf 1 = .ok (.tableswitch 64 0 6 #[43, 46, 49, 52, 55, 58, 61], 43) := by decide +kernel
theorem dX2_wordOf_44 : decode cX2_wordOf 44 = .ok (.ldc 82, 2) := by decide +kernel
theorem dX2_wordOf_46 : decode cX2_wordOf 46 = .ok (.areturn, 1) := by decide +kernel
theorem dX2_wordOf_47 : decode cX2_wordOf 47 = .ok (.ldc 84, 2) := by decide +kernel
theorem dX2_wordOf_49 : decode cX2_wordOf 49 = .ok (.areturn, 1) := by decide +kernel
theorem dX2_wordOf_50 : decode cX2_wordOf 50 = .ok (.ldc 86, 2) := by decide +kernel
theorem dX2_wordOf_52 : decode cX2_wordOf 52 = .ok (.areturn, 1) := by decide +kernel
theorem dX2_wordOf_53 : decode cX2_wordOf 53 = .ok (.ldc 88, 2) := by decide +kernel
theorem dX2_wordOf_55 : decode cX2_wordOf 55 = .ok (.areturn, 1) := by decide +kernel
theorem dX2_wordOf_56 : decode cX2_wordOf 56 = .ok (.ldc 90, 2) := by decide +kernel
theorem dX2_wordOf_58 : decode cX2_wordOf 58 = .ok (.areturn, 1) := by decide +kernel
theorem dX2_wordOf_59 : decode cX2_wordOf 59 = .ok (.ldc 92, 2) := by decide +kernel
theorem dX2_wordOf_61 : decode cX2_wordOf 61 = .ok (.areturn, 1) := by decide +kernel
theorem dX2_wordOf_62 : decode cX2_wordOf 62 = .ok (.ldc 94, 2) := by decide +kernel
theorem dX2_wordOf_64 : decode cX2_wordOf 64 = .ok (.areturn, 1) := by decide +kernel
theorem dX2_wordOf_65 : decode cX2_wordOf 65 = .ok (.ldc 96, 2) := by decide +kernel
theorem dX2_wordOf_67 : decode cX2_wordOf 67 = .ok (.areturn, 1) := by decide +kernel
theorem dX2_firstDigits_0 : decode cX2_firstDigits 0 = .ok (.iload_n 0, 1) := by decide +kernel
theorem dX2_firstDigits_1 : decode cX2_firstDigits 1 = .ok (.lookupswitch 39 #[(1, 35), (2, 35), (6, 37)], 35) := by decide +kernel
theorem dX2_firstDigits_36 : decode cX2_firstDigits 36 = .ok (.iconst 1, 1) := by decide +kernel
theorem dX2_firstDigits_37 : decode cX2_firstDigits 37 = .ok (.ireturn, 1) := by decide +kernel
theorem dX2_firstDigits_38 : decode cX2_firstDigits 38 = .ok (.iconst 3, 1) := by decide +kernel
theorem dX2_firstDigits_39 : decode cX2_firstDigits 39 = .ok (.ireturn, 1) := by decide +kernel
theorem dX2_firstDigits_40 : decode cX2_firstDigits 40 = .ok (.iconst 2, 1) := by decide +kernel
theorem dX2_firstDigits_41 : decode cX2_firstDigits 41 = .ok (.ireturn, 1) := by decide +kernel
theorem dX2_secondDigits_0 : decode cX2_secondDigits 0 = .ok (.iload_n 0, 1) := by decide +kernel
theorem dX2_secondDigits_1 : decode cX2_secondDigits 1 = .ok (.lookupswitch 39 #[(0, 35), (3, 37), (5, 37)], 35) := by decide +kernel
theorem dX2_secondDigits_36 : decode cX2_secondDigits 36 = .ok (.iconst 2, 1) := by decide +kernel
theorem dX2_secondDigits_37 : decode cX2_secondDigits 37 = .ok (.ireturn, 1) := by decide +kernel
theorem dX2_secondDigits_38 : decode cX2_secondDigits 38 = .ok (.iconst 1, 1) := by decide +kernel
theorem dX2_secondDigits_39 : decode cX2_secondDigits 39 = .ok (.ireturn, 1) := by decide +kernel
theorem dX2_secondDigits_40 : decode cX2_secondDigits 40 = .ok (.iconst 0, 1) := by decide +kernel
theorem dX2_secondDigits_41 : decode cX2_secondDigits 41 = .ok (.ireturn, 1) := by decide +kernel
theorem dX3_init_0 : decode cX3_init 0 = .ok (.aload_n 0, 1) := by decide +kernel
theorem dX3_init_1 : decode cX3_init 1 = .ok (.invokespecial 3, 3) := by decide +kernel
theorem dX3_init_4 : decode cX3_init 4 = .ok (.aload_n 0, 1) := by decide +kernel
theorem dX3_init_5 : decode cX3_init 5 = .ok (.bipush 16, 2) := by decide +kernel
theorem dX3_init_7 : decode cX3_init 7 = .ok (.newarray .int, 2) := by decide +kernel
theorem dX3_init_9 : decode cX3_init 9 = .ok (.putfield 9, 3) := by decide +kernel
theorem dX3_init_12 : decode cX3_init 12 = .ok (.return_, 1) := by decide +kernel
theorem dX3_byVoices_0 : decode cX3_byVoices 0 = .ok (.iconst 0, 1) := by decide +kernel
theorem dX3_byVoices_1 : decode cX3_byVoices 1 = .ok (.istore_n 3, 1) := by decide +kernel
theorem dX3_byVoices_2 : decode cX3_byVoices 2 = .ok (.iload_n 3, 1) := by decide +kernel
theorem dX3_byVoices_3 : decode cX3_byVoices 3 = .ok (.aload_n 0, 1) := by decide +kernel
theorem dX3_byVoices_4 : decode cX3_byVoices 4 = .ok (.getfield 9, 3) := by decide +kernel
theorem dX3_byVoices_7 : decode cX3_byVoices 7 = .ok (.arraylength, 1) := by decide +kernel
theorem dX3_byVoices_8 : decode cX3_byVoices 8 = .ok (.if_icmp .ge 55, 3) := by decide +kernel
theorem dX3_byVoices_11 : decode cX3_byVoices 11 = .ok (.aload_n 1, 1) := by decide +kernel
theorem dX3_byVoices_12 : decode cX3_byVoices 12 = .ok (.iconst 2, 1) := by decide +kernel
theorem dX3_byVoices_13 : decode cX3_byVoices 13 = .ok (.iload_n 3, 1) := by decide +kernel
theorem dX3_byVoices_14 : decode cX3_byVoices 14 = .ok (.invokevirtual 15, 3) := by decide +kernel
theorem dX3_byVoices_17 : decode cX3_byVoices 17 = .ok (.ifCond .ne 7, 3) := by decide +kernel
theorem dX3_byVoices_20 : decode cX3_byVoices 20 = .ok (.iconst 1, 1) := by decide +kernel
theorem dX3_byVoices_21 : decode cX3_byVoices 21 = .ok (.goto 4, 3) := by decide +kernel
theorem dX3_byVoices_24 : decode cX3_byVoices 24 = .ok (.iconst 0, 1) := by decide +kernel
theorem dX3_byVoices_25 : decode cX3_byVoices 25 = .ok (.istore 4, 2) := by decide +kernel
theorem dX3_byVoices_27 : decode cX3_byVoices 27 = .ok (.aload_n 0, 1) := by decide +kernel
theorem dX3_byVoices_28 : decode cX3_byVoices 28 = .ok (.getfield 9, 3) := by decide +kernel
theorem dX3_byVoices_31 : decode cX3_byVoices 31 = .ok (.iload_n 3, 1) := by decide +kernel
theorem dX3_byVoices_32 : decode cX3_byVoices 32 = .ok (.iload 4, 2) := by decide +kernel
theorem dX3_byVoices_34 : decode cX3_byVoices 34 = .ok (.ifCond .eq 21, 3) := by decide +kernel
theorem dX3_byVoices_37 : decode cX3_byVoices 37 = .ok (.aload_n 1, 1) := by decide +kernel
theorem dX3_byVoices_38 : decode cX3_byVoices 38 = .ok (.iload_n 3, 1) := by decide +kernel
theorem dX3_byVoices_39 : decode cX3_byVoices 39 = .ok (.invokevirtual 21, 3) := by decide +kernel
theorem dX3_byVoices_42 : decode cX3_byVoices 42 = .ok (.bipush 16, 2) := by decide +kernel
theorem dX3_byVoices_44 : decode cX3_byVoices 44 = .ok (.imul, 1) := by decide +kernel
theorem dX3_byVoices_45 : decode cX3_byVoices 45 = .ok (.bipush 16, 2) := by decide +kernel
theorem dX3_byVoices_47 : decode cX3_byVoices 47 = .ok (.iadd, 1) := by decide +kernel
theorem dX3_byVoices_48 : decode cX3_byVoices 48 = .ok (.iconst 1, 1) := by decide +kernel
theorem dX3_byVoices_49 : decode cX3_byVoices 49 = .ok (.isub, 1) := by decide +kernel
theorem dX3_byVoices_50 : decode cX3_byVoices 50 = .ok (.iload_n 3, 1) := by decide +kernel
theorem dX3_byVoices_51 : decode cX3_byVoices 51 = .ok (.isub, 1) := by decide +kernel
theorem dX3_byVoices_52 : decode cX3_byVoices 52 = .ok (.goto 4, 3) := by decide +kernel
theorem dX3_byVoices_55 : decode cX3_byVoices 55 = .ok (.iconst (-1), 1) := by decide +kernel
theorem dX3_byVoices_56 : decode cX3_byVoices 56 = .ok (.iastore, 1) := by decide +kernel
theorem dX3_byVoices_57 : decode cX3_byVoices 57 = .ok (.iinc 3 1, 3) := by decide +kernel
theorem dX3_byVoices_60 : decode cX3_byVoices 60 = .ok (.goto (-58), 3) := by decide +kernel
theorem dX3_byVoices_63 : decode cX3_byVoices 63 = .ok (.aload_n 0, 1) := by decide +kernel
theorem dX3_byVoices_64 : decode cX3_byVoices 64 = .ok (.iload_n 2, 1) := by decide +kernel
theorem dX3_byVoices_65 : decode cX3_byVoices 65 = .ok (.invokevirtual 25, 3) := by decide +kernel
theorem dX3_byVoices_68 : decode cX3_byVoices 68 = .ok (.ireturn, 1) := by decide +kernel
theorem dX3_byTime_0 : decode cX3_byTime 0 = .ok (.iconst 0, 1) := by decide +kernel
theorem dX3_byTime_1 : decode cX3_byTime 1 = .ok (.istore_n 3, 1) := by decide +kernel
theorem dX3_byTime_2 : decode cX3_byTime 2 = .ok (.iload_n 3, 1) := by decide +kernel
theorem dX3_byTime_3 : decode cX3_byTime 3 = .ok (.aload_n 0, 1) := by decide +kernel
theorem dX3_byTime_4 : decode cX3_byTime 4 = .ok (.getfield 9, 3) := by decide +kernel
theorem dX3_byTime_7 : decode cX3_byTime 7 = .ok (.arraylength, 1) := by decide +kernel
theorem dX3_byTime_8 : decode cX3_byTime 8 = .ok (.if_icmp .ge 51, 3) := by decide +kernel
theorem dX3_byTime_11 : decode cX3_byTime 11 = .ok (.aload_n 1, 1) := by decide +kernel
theorem dX3_byTime_12 : decode cX3_byTime 12 = .ok (.iconst 2, 1) := by decide +kernel
theorem dX3_byTime_13 : decode cX3_byTime 13 = .ok (.iload_n 3, 1) := by decide +kernel
theorem dX3_byTime_14 : decode cX3_byTime 14 = .ok (.invokevirtual 15, 3) := by decide +kernel
theorem dX3_byTime_17 : decode cX3_byTime 17 = .ok (.iconst 1, 1) := by decide +kernel
theorem dX3_byTime_18 : decode cX3_byTime 18 = .ok (.if_icmp .ne 7, 3) := by decide +kernel
theorem dX3_byTime_21 : decode cX3_byTime 21 = .ok (.iconst 1, 1) := by decide +kernel
theorem dX3_byTime_22 : decode cX3_byTime 22 = .ok (.goto 4, 3) := by decide +kernel
theorem dX3_byTime_25 : decode cX3_byTime 25 = .ok (.iconst 0, 1) := by decide +kernel
theorem dX3_byTime_26 : decode cX3_byTime 26 = .ok (.istore 4, 2) := by decide +kernel
theorem dX3_byTime_28 : decode cX3_byTime 28 = .ok (.aload_n 0, 1) := by decide +kernel
theorem dX3_byTime_29 : decode cX3_byTime 29 = .ok (.getfield 9, 3) := by decide +kernel
theorem dX3_byTime_32 : decode cX3_byTime 32 = .ok (.iload_n 3, 1) := by decide +kernel
theorem dX3_byTime_33 : decode cX3_byTime 33 = .ok (.iload 4, 2) := by decide +kernel
theorem dX3_byTime_35 : decode cX3_byTime 35 = .ok (.ifCond .eq 16, 3) := by decide +kernel
theorem dX3_byTime_38 : decode cX3_byTime 38 = .ok (.bipush 15, 2) := by decide +kernel
theorem dX3_byTime_40 : decode cX3_byTime 40 = .ok (.aload_n 1, 1) := by decide +kernel
theorem dX3_byTime_41 : decode cX3_byTime 41 = .ok (.bipush 8, 2) := by decide +kernel
theorem dX3_byTime_43 : decode cX3_byTime 43 = .ok (.iload_n 3, 1) := by decide +kernel
theorem dX3_byTime_44 : decode cX3_byTime 44 = .ok (.invokevirtual 15, 3) := by decide +kernel
theorem dX3_byTime_47 : decode cX3_byTime 47 = .ok (.isub, 1) := by decide +kernel
theorem dX3_byTime_48 : decode cX3_byTime 48 = .ok (.goto 4, 3) := by decide +kernel
theorem dX3_byTime_51 : decode cX3_byTime 51 = .ok (.iconst (-1), 1) := by decide +kernel
theorem dX3_byTime_52 : decode cX3_byTime 52 = .ok (.iastore, 1) := by decide +kernel
theorem dX3_byTime_53 : decode cX3_byTime 53 = .ok (.iinc 3 1, 3) := by decide +kernel
theorem dX3_byTime_56 : decode cX3_byTime 56 = .ok (.goto (-54), 3) := by decide +kernel
theorem dX3_byTime_59 : decode cX3_byTime 59 = .ok (.aload_n 0, 1) := by decide +kernel
theorem dX3_byTime_60 : decode cX3_byTime 60 = .ok (.iload_n 2, 1) := by decide +kernel
theorem dX3_byTime_61 : decode cX3_byTime 61 = .ok (.invokevirtual 25, 3) := by decide +kernel
theorem dX3_byTime_64 : decode cX3_byTime 64 = .ok (.ireturn, 1) := by decide +kernel
theorem dX3_byGown_0 : decode cX3_byGown 0 = .ok (.iconst 0, 1) := by decide +kernel
theorem dX3_byGown_1 : decode cX3_byGown 1 = .ok (.istore_n 3, 1) := by decide +kernel
theorem dX3_byGown_2 : decode cX3_byGown 2 = .ok (.iload_n 3, 1) := by decide +kernel
theorem dX3_byGown_3 : decode cX3_byGown 3 = .ok (.aload_n 0, 1) := by decide +kernel
theorem dX3_byGown_4 : decode cX3_byGown 4 = .ok (.getfield 9, 3) := by decide +kernel
theorem dX3_byGown_7 : decode cX3_byGown 7 = .ok (.arraylength, 1) := by decide +kernel
theorem dX3_byGown_8 : decode cX3_byGown 8 = .ok (.if_icmp .ge 62, 3) := by decide +kernel
theorem dX3_byGown_11 : decode cX3_byGown 11 = .ok (.aload_n 1, 1) := by decide +kernel
theorem dX3_byGown_12 : decode cX3_byGown 12 = .ok (.iconst 2, 1) := by decide +kernel
theorem dX3_byGown_13 : decode cX3_byGown 13 = .ok (.iload_n 3, 1) := by decide +kernel
theorem dX3_byGown_14 : decode cX3_byGown 14 = .ok (.invokevirtual 15, 3) := by decide +kernel
theorem dX3_byGown_17 : decode cX3_byGown 17 = .ok (.iconst 1, 1) := by decide +kernel
theorem dX3_byGown_18 : decode cX3_byGown 18 = .ok (.if_icmp .ne 7, 3) := by decide +kernel
theorem dX3_byGown_21 : decode cX3_byGown 21 = .ok (.iconst 1, 1) := by decide +kernel
theorem dX3_byGown_22 : decode cX3_byGown 22 = .ok (.goto 4, 3) := by decide +kernel
theorem dX3_byGown_25 : decode cX3_byGown 25 = .ok (.iconst 0, 1) := by decide +kernel
theorem dX3_byGown_26 : decode cX3_byGown 26 = .ok (.istore 4, 2) := by decide +kernel
theorem dX3_byGown_28 : decode cX3_byGown 28 = .ok (.aload_n 0, 1) := by decide +kernel
theorem dX3_byGown_29 : decode cX3_byGown 29 = .ok (.getfield 9, 3) := by decide +kernel
theorem dX3_byGown_32 : decode cX3_byGown 32 = .ok (.iload_n 3, 1) := by decide +kernel
theorem dX3_byGown_33 : decode cX3_byGown 33 = .ok (.iload 4, 2) := by decide +kernel
theorem dX3_byGown_35 : decode cX3_byGown 35 = .ok (.ifCond .eq 27, 3) := by decide +kernel
theorem dX3_byGown_38 : decode cX3_byGown 38 = .ok (.aload_n 1, 1) := by decide +kernel
theorem dX3_byGown_39 : decode cX3_byGown 39 = .ok (.iconst 4, 1) := by decide +kernel
theorem dX3_byGown_40 : decode cX3_byGown 40 = .ok (.iload_n 3, 1) := by decide +kernel
theorem dX3_byGown_41 : decode cX3_byGown 41 = .ok (.invokevirtual 15, 3) := by decide +kernel
theorem dX3_byGown_44 : decode cX3_byGown 44 = .ok (.iconst 1, 1) := by decide +kernel
theorem dX3_byGown_45 : decode cX3_byGown 45 = .ok (.iadd, 1) := by decide +kernel
theorem dX3_byGown_46 : decode cX3_byGown 46 = .ok (.bipush 16, 2) := by decide +kernel
theorem dX3_byGown_48 : decode cX3_byGown 48 = .ok (.imul, 1) := by decide +kernel
theorem dX3_byGown_49 : decode cX3_byGown 49 = .ok (.iconst 1, 1) := by decide +kernel
theorem dX3_byGown_50 : decode cX3_byGown 50 = .ok (.isub, 1) := by decide +kernel
theorem dX3_byGown_51 : decode cX3_byGown 51 = .ok (.aload_n 1, 1) := by decide +kernel
theorem dX3_byGown_52 : decode cX3_byGown 52 = .ok (.bipush 8, 2) := by decide +kernel
theorem dX3_byGown_54 : decode cX3_byGown 54 = .ok (.iload_n 3, 1) := by decide +kernel
theorem dX3_byGown_55 : decode cX3_byGown 55 = .ok (.invokevirtual 15, 3) := by decide +kernel
theorem dX3_byGown_58 : decode cX3_byGown 58 = .ok (.isub, 1) := by decide +kernel
theorem dX3_byGown_59 : decode cX3_byGown 59 = .ok (.goto 4, 3) := by decide +kernel
theorem dX3_byGown_62 : decode cX3_byGown 62 = .ok (.iconst (-1), 1) := by decide +kernel
theorem dX3_byGown_63 : decode cX3_byGown 63 = .ok (.iastore, 1) := by decide +kernel
theorem dX3_byGown_64 : decode cX3_byGown 64 = .ok (.iinc 3 1, 3) := by decide +kernel
theorem dX3_byGown_67 : decode cX3_byGown 67 = .ok (.goto (-65), 3) := by decide +kernel
theorem dX3_byGown_70 : decode cX3_byGown 70 = .ok (.aload_n 0, 1) := by decide +kernel
theorem dX3_byGown_71 : decode cX3_byGown 71 = .ok (.iload_n 2, 1) := by decide +kernel
theorem dX3_byGown_72 : decode cX3_byGown 72 = .ok (.invokevirtual 25, 3) := by decide +kernel
theorem dX3_byGown_75 : decode cX3_byGown 75 = .ok (.ireturn, 1) := by decide +kernel
theorem dX3_withPlace_0 : decode cX3_withPlace 0 = .ok (.iconst 0, 1) := by decide +kernel
theorem dX3_withPlace_1 : decode cX3_withPlace 1 = .ok (.istore_n 2, 1) := by decide +kernel
theorem dX3_withPlace_2 : decode cX3_withPlace 2 = .ok (.iload_n 2, 1) := by decide +kernel
theorem dX3_withPlace_3 : decode cX3_withPlace 3 = .ok (.aload_n 0, 1) := by decide +kernel
theorem dX3_withPlace_4 : decode cX3_withPlace 4 = .ok (.getfield 9, 3) := by decide +kernel
theorem dX3_withPlace_7 : decode cX3_withPlace 7 = .ok (.arraylength, 1) := by decide +kernel
theorem dX3_withPlace_8 : decode cX3_withPlace 8 = .ok (.if_icmp .ge 75, 3) := by decide +kernel
theorem dX3_withPlace_11 : decode cX3_withPlace 11 = .ok (.iconst 0, 1) := by decide +kernel
theorem dX3_withPlace_12 : decode cX3_withPlace 12 = .ok (.istore_n 3, 1) := by decide +kernel
theorem dX3_withPlace_13 : decode cX3_withPlace 13 = .ok (.aload_n 0, 1) := by decide +kernel
theorem dX3_withPlace_14 : decode cX3_withPlace 14 = .ok (.getfield 9, 3) := by decide +kernel
theorem dX3_withPlace_17 : decode cX3_withPlace 17 = .ok (.astore 4, 2) := by decide +kernel
theorem dX3_withPlace_19 : decode cX3_withPlace 19 = .ok (.aload 4, 2) := by decide +kernel
theorem dX3_withPlace_21 : decode cX3_withPlace 21 = .ok (.arraylength, 1) := by decide +kernel
theorem dX3_withPlace_22 : decode cX3_withPlace 22 = .ok (.istore 5, 2) := by decide +kernel
theorem dX3_withPlace_24 : decode cX3_withPlace 24 = .ok (.iconst 0, 1) := by decide +kernel
theorem dX3_withPlace_25 : decode cX3_withPlace 25 = .ok (.istore 6, 2) := by decide +kernel
theorem dX3_withPlace_27 : decode cX3_withPlace 27 = .ok (.iload 6, 2) := by decide +kernel
theorem dX3_withPlace_29 : decode cX3_withPlace 29 = .ok (.iload 5, 2) := by decide +kernel
theorem dX3_withPlace_31 : decode cX3_withPlace 31 = .ok (.if_icmp .ge 30, 3) := by decide +kernel
theorem dX3_withPlace_34 : decode cX3_withPlace 34 = .ok (.aload 4, 2) := by decide +kernel
theorem dX3_withPlace_36 : decode cX3_withPlace 36 = .ok (.iload 6, 2) := by decide +kernel
theorem dX3_withPlace_38 : decode cX3_withPlace 38 = .ok (.iaload, 1) := by decide +kernel
theorem dX3_withPlace_39 : decode cX3_withPlace 39 = .ok (.istore 7, 2) := by decide +kernel
theorem dX3_withPlace_41 : decode cX3_withPlace 41 = .ok (.iload 7, 2) := by decide +kernel
theorem dX3_withPlace_43 : decode cX3_withPlace 43 = .ok (.aload_n 0, 1) := by decide +kernel
theorem dX3_withPlace_44 : decode cX3_withPlace 44 = .ok (.getfield 9, 3) := by decide +kernel
theorem dX3_withPlace_47 : decode cX3_withPlace 47 = .ok (.iload_n 2, 1) := by decide +kernel
theorem dX3_withPlace_48 : decode cX3_withPlace 48 = .ok (.iaload, 1) := by decide +kernel
theorem dX3_withPlace_49 : decode cX3_withPlace 49 = .ok (.if_icmp .le 6, 3) := by decide +kernel
theorem dX3_withPlace_52 : decode cX3_withPlace 52 = .ok (.iinc 3 1, 3) := by decide +kernel
theorem dX3_withPlace_55 : decode cX3_withPlace 55 = .ok (.iinc 6 1, 3) := by decide +kernel
theorem dX3_withPlace_58 : decode cX3_withPlace 58 = .ok (.goto (-31), 3) := by decide +kernel
theorem dX3_withPlace_61 : decode cX3_withPlace 61 = .ok (.aload_n 0, 1) := by decide +kernel
theorem dX3_withPlace_62 : decode cX3_withPlace 62 = .ok (.getfield 9, 3) := by decide +kernel
theorem dX3_withPlace_65 : decode cX3_withPlace 65 = .ok (.iload_n 2, 1) := by decide +kernel
theorem dX3_withPlace_66 : decode cX3_withPlace 66 = .ok (.iaload, 1) := by decide +kernel
theorem dX3_withPlace_67 : decode cX3_withPlace 67 = .ok (.ifCond .lt 10, 3) := by decide +kernel
theorem dX3_withPlace_70 : decode cX3_withPlace 70 = .ok (.iload_n 3, 1) := by decide +kernel
theorem dX3_withPlace_71 : decode cX3_withPlace 71 = .ok (.iload_n 1, 1) := by decide +kernel
theorem dX3_withPlace_72 : decode cX3_withPlace 72 = .ok (.if_icmp .ne 5, 3) := by decide +kernel
theorem dX3_withPlace_75 : decode cX3_withPlace 75 = .ok (.iload_n 2, 1) := by decide +kernel
theorem dX3_withPlace_76 : decode cX3_withPlace 76 = .ok (.ireturn, 1) := by decide +kernel
theorem dX3_withPlace_77 : decode cX3_withPlace 77 = .ok (.iinc 2 1, 3) := by decide +kernel
theorem dX3_withPlace_80 : decode cX3_withPlace 80 = .ok (.goto (-78), 3) := by decide +kernel
theorem dX3_withPlace_83 : decode cX3_withPlace 83 = .ok (.bipush (-11), 2) := by decide +kernel
theorem dX3_withPlace_85 : decode cX3_withPlace 85 = .ok (.ireturn, 1) := by decide +kernel
theorem dX4_init_0 : decode cX4_init 0 = .ok (.aload_n 0, 1) := by decide +kernel
theorem dX4_init_1 : decode cX4_init 1 = .ok (.invokespecial 1, 3) := by decide +kernel
theorem dX4_init_4 : decode cX4_init 4 = .ok (.aload_n 0, 1) := by decide +kernel
theorem dX4_init_5 : decode cX4_init 5 = .ok (.iconst 0, 1) := by decide +kernel
theorem dX4_init_6 : decode cX4_init 6 = .ok (.putfield 7, 3) := by decide +kernel
theorem dX4_init_9 : decode cX4_init 9 = .ok (.aload_n 0, 1) := by decide +kernel
theorem dX4_init_10 : decode cX4_init 10 = .ok (.iload_n 1, 1) := by decide +kernel
theorem dX4_init_11 : decode cX4_init 11 = .ok (.iconst 0, 1) := by decide +kernel
theorem dX4_init_12 : decode cX4_init 12 = .ok (.invokestatic 13, 3) := by decide +kernel
theorem dX4_init_15 : decode cX4_init 15 = .ok (.newarray .int, 2) := by decide +kernel
theorem dX4_init_17 : decode cX4_init 17 = .ok (.putfield 19, 3) := by decide +kernel
theorem dX4_init_20 : decode cX4_init 20 = .ok (.return_, 1) := by decide +kernel
theorem dX4_size_0 : decode cX4_size 0 = .ok (.aload_n 0, 1) := by decide +kernel
theorem dX4_size_1 : decode cX4_size 1 = .ok (.getfield 7, 3) := by decide +kernel
theorem dX4_size_4 : decode cX4_size 4 = .ok (.ireturn, 1) := by decide +kernel
theorem dX4_at_0 : decode cX4_at 0 = .ok (.iload_n 1, 1) := by decide +kernel
theorem dX4_at_1 : decode cX4_at 1 = .ok (.ifCond .lt 29, 3) := by decide +kernel
theorem dX4_at_4 : decode cX4_at 4 = .ok (.iload_n 1, 1) := by decide +kernel
theorem dX4_at_5 : decode cX4_at 5 = .ok (.aload_n 0, 1) := by decide +kernel
theorem dX4_at_6 : decode cX4_at 6 = .ok (.getfield 7, 3) := by decide +kernel
theorem dX4_at_9 : decode cX4_at 9 = .ok (.if_icmp .ge 21, 3) := by decide +kernel
theorem dX4_at_12 : decode cX4_at 12 = .ok (.iload_n 1, 1) := by decide +kernel
theorem dX4_at_13 : decode cX4_at 13 = .ok (.aload_n 0, 1) := by decide +kernel
theorem dX4_at_14 : decode cX4_at 14 = .ok (.getfield 19, 3) := by decide +kernel
theorem dX4_at_17 : decode cX4_at 17 = .ok (.arraylength, 1) := by decide +kernel
theorem dX4_at_18 : decode cX4_at 18 = .ok (.if_icmp .ge 12, 3) := by decide +kernel
theorem dX4_at_21 : decode cX4_at 21 = .ok (.aload_n 0, 1) := by decide +kernel
theorem dX4_at_22 : decode cX4_at 22 = .ok (.getfield 19, 3) := by decide +kernel
theorem dX4_at_25 : decode cX4_at 25 = .ok (.iload_n 1, 1) := by decide +kernel
theorem dX4_at_26 : decode cX4_at 26 = .ok (.iaload, 1) := by decide +kernel
theorem dX4_at_27 : decode cX4_at 27 = .ok (.goto 4, 3) := by decide +kernel
theorem dX4_at_30 : decode cX4_at 30 = .ok (.iconst (-1), 1) := by decide +kernel
theorem dX4_at_31 : decode cX4_at 31 = .ok (.ireturn, 1) := by decide +kernel
theorem dX4_clear_0 : decode cX4_clear 0 = .ok (.aload_n 0, 1) := by decide +kernel
theorem dX4_clear_1 : decode cX4_clear 1 = .ok (.iconst 0, 1) := by decide +kernel
theorem dX4_clear_2 : decode cX4_clear 2 = .ok (.putfield 7, 3) := by decide +kernel
theorem dX4_clear_5 : decode cX4_clear 5 = .ok (.return_, 1) := by decide +kernel
theorem dX4_add_0 : decode cX4_add 0 = .ok (.aload_n 0, 1) := by decide +kernel
theorem dX4_add_1 : decode cX4_add 1 = .ok (.getfield 7, 3) := by decide +kernel
theorem dX4_add_4 : decode cX4_add 4 = .ok (.ifCond .lt 35, 3) := by decide +kernel
theorem dX4_add_7 : decode cX4_add 7 = .ok (.aload_n 0, 1) := by decide +kernel
theorem dX4_add_8 : decode cX4_add 8 = .ok (.getfield 7, 3) := by decide +kernel
theorem dX4_add_11 : decode cX4_add 11 = .ok (.aload_n 0, 1) := by decide +kernel
theorem dX4_add_12 : decode cX4_add 12 = .ok (.getfield 19, 3) := by decide +kernel
theorem dX4_add_15 : decode cX4_add 15 = .ok (.arraylength, 1) := by decide +kernel
theorem dX4_add_16 : decode cX4_add 16 = .ok (.if_icmp .ge 23, 3) := by decide +kernel
theorem dX4_add_19 : decode cX4_add 19 = .ok (.aload_n 0, 1) := by decide +kernel
theorem dX4_add_20 : decode cX4_add 20 = .ok (.getfield 19, 3) := by decide +kernel
theorem dX4_add_23 : decode cX4_add 23 = .ok (.aload_n 0, 1) := by decide +kernel
theorem dX4_add_24 : decode cX4_add 24 = .ok (.getfield 7, 3) := by decide +kernel
theorem dX4_add_27 : decode cX4_add 27 = .ok (.iload_n 1, 1) := by decide +kernel
theorem dX4_add_28 : decode cX4_add 28 = .ok (.iastore, 1) := by decide +kernel
theorem dX4_add_29 : decode cX4_add 29 = .ok (.aload_n 0, 1) := by decide +kernel
theorem dX4_add_30 : decode cX4_add 30 = .ok (.dup, 1) := by decide +kernel
theorem dX4_add_31 : decode cX4_add 31 = .ok (.getfield 7, 3) := by decide +kernel
theorem dX4_add_34 : decode cX4_add 34 = .ok (.iconst 1, 1) := by decide +kernel
theorem dX4_add_35 : decode cX4_add 35 = .ok (.iadd, 1) := by decide +kernel
theorem dX4_add_36 : decode cX4_add 36 = .ok (.putfield 7, 3) := by decide +kernel
theorem dX4_add_39 : decode cX4_add 39 = .ok (.return_, 1) := by decide +kernel
theorem dX5_init_0 : decode cX5_init 0 = .ok (.aload_n 0, 1) := by decide +kernel
theorem dX5_init_1 : decode cX5_init 1 = .ok (.invokespecial 3, 3) := by decide +kernel
theorem dX5_init_4 : decode cX5_init 4 = .ok (.aload_n 0, 1) := by decide +kernel
theorem dX5_init_5 : decode cX5_init 5 = .ok (.sipush 294, 3) := by decide +kernel
theorem dX5_init_8 : decode cX5_init 8 = .ok (.newarray .int, 2) := by decide +kernel
theorem dX5_init_10 : decode cX5_init 10 = .ok (.putfield 9, 3) := by decide +kernel
theorem dX5_init_13 : decode cX5_init 13 = .ok (.iconst 0, 1) := by decide +kernel
theorem dX5_init_14 : decode cX5_init 14 = .ok (.istore_n 1, 1) := by decide +kernel
theorem dX5_init_15 : decode cX5_init 15 = .ok (.iload_n 1, 1) := by decide +kernel
theorem dX5_init_16 : decode cX5_init 16 = .ok (.bipush 16, 2) := by decide +kernel
theorem dX5_init_18 : decode cX5_init 18 = .ok (.if_icmp .ge 33, 3) := by decide +kernel
theorem dX5_init_21 : decode cX5_init 21 = .ok (.aload_n 0, 1) := by decide +kernel
theorem dX5_init_22 : decode cX5_init 22 = .ok (.iconst 2, 1) := by decide +kernel
theorem dX5_init_23 : decode cX5_init 23 = .ok (.iload_n 1, 1) := by decide +kernel
theorem dX5_init_24 : decode cX5_init 24 = .ok (.iconst (-1), 1) := by decide +kernel
theorem dX5_init_25 : decode cX5_init 25 = .ok (.invokevirtual 15, 3) := by decide +kernel
theorem dX5_init_28 : decode cX5_init 28 = .ok (.aload_n 0, 1) := by decide +kernel
theorem dX5_init_29 : decode cX5_init 29 = .ok (.iconst 3, 1) := by decide +kernel
theorem dX5_init_30 : decode cX5_init 30 = .ok (.iload_n 1, 1) := by decide +kernel
theorem dX5_init_31 : decode cX5_init 31 = .ok (.bipush (-15), 2) := by decide +kernel
theorem dX5_init_33 : decode cX5_init 33 = .ok (.invokevirtual 15, 3) := by decide +kernel
theorem dX5_init_36 : decode cX5_init 36 = .ok (.aload_n 0, 1) := by decide +kernel
theorem dX5_init_37 : decode cX5_init 37 = .ok (.bipush 7, 2) := by decide +kernel
theorem dX5_init_39 : decode cX5_init 39 = .ok (.iload_n 1, 1) := by decide +kernel
theorem dX5_init_40 : decode cX5_init 40 = .ok (.bipush (-15), 2) := by decide +kernel
theorem dX5_init_42 : decode cX5_init 42 = .ok (.invokevirtual 15, 3) := by decide +kernel
theorem dX5_init_45 : decode cX5_init 45 = .ok (.iinc 1 1, 3) := by decide +kernel
theorem dX5_init_48 : decode cX5_init 48 = .ok (.goto (-33), 3) := by decide +kernel
theorem dX5_init_51 : decode cX5_init 51 = .ok (.iconst 0, 1) := by decide +kernel
theorem dX5_init_52 : decode cX5_init 52 = .ok (.istore_n 1, 1) := by decide +kernel
theorem dX5_init_53 : decode cX5_init 53 = .ok (.iload_n 1, 1) := by decide +kernel
theorem dX5_init_54 : decode cX5_init 54 = .ok (.bipush 8, 2) := by decide +kernel
theorem dX5_init_56 : decode cX5_init 56 = .ok (.if_icmp .ge 20, 3) := by decide +kernel
theorem dX5_init_59 : decode cX5_init 59 = .ok (.aload_n 0, 1) := by decide +kernel
theorem dX5_init_60 : decode cX5_init 60 = .ok (.sipush 224, 3) := by decide +kernel
theorem dX5_init_63 : decode cX5_init 63 = .ok (.iload_n 1, 1) := by decide +kernel
theorem dX5_init_64 : decode cX5_init 64 = .ok (.iadd, 1) := by decide +kernel
theorem dX5_init_65 : decode cX5_init 65 = .ok (.bipush (-15), 2) := by decide +kernel
theorem dX5_init_67 : decode cX5_init 67 = .ok (.invokevirtual 19, 3) := by decide +kernel
theorem dX5_init_70 : decode cX5_init 70 = .ok (.iinc 1 1, 3) := by decide +kernel
theorem dX5_init_73 : decode cX5_init 73 = .ok (.goto (-20), 3) := by decide +kernel
theorem dX5_init_76 : decode cX5_init 76 = .ok (.aload_n 0, 1) := by decide +kernel
theorem dX5_init_77 : decode cX5_init 77 = .ok (.sipush 288, 3) := by decide +kernel
theorem dX5_init_80 : decode cX5_init 80 = .ok (.bipush 100, 2) := by decide +kernel
theorem dX5_init_82 : decode cX5_init 82 = .ok (.invokevirtual 19, 3) := by decide +kernel
theorem dX5_init_85 : decode cX5_init 85 = .ok (.return_, 1) := by decide +kernel
theorem dX5_get_0 : decode cX5_get 0 = .ok (.iload_n 1, 1) := by decide +kernel
theorem dX5_get_1 : decode cX5_get 1 = .ok (.ifCond .lt 21, 3) := by decide +kernel
theorem dX5_get_4 : decode cX5_get 4 = .ok (.iload_n 1, 1) := by decide +kernel
theorem dX5_get_5 : decode cX5_get 5 = .ok (.aload_n 0, 1) := by decide +kernel
theorem dX5_get_6 : decode cX5_get 6 = .ok (.getfield 9, 3) := by decide +kernel
theorem dX5_get_9 : decode cX5_get 9 = .ok (.arraylength, 1) := by decide +kernel
theorem dX5_get_10 : decode cX5_get 10 = .ok (.if_icmp .ge 12, 3) := by decide +kernel
theorem dX5_get_13 : decode cX5_get 13 = .ok (.aload_n 0, 1) := by decide +kernel
theorem dX5_get_14 : decode cX5_get 14 = .ok (.getfield 9, 3) := by decide +kernel
theorem dX5_get_17 : decode cX5_get 17 = .ok (.iload_n 1, 1) := by decide +kernel
theorem dX5_get_18 : decode cX5_get 18 = .ok (.iaload, 1) := by decide +kernel
theorem dX5_get_19 : decode cX5_get 19 = .ok (.goto 4, 3) := by decide +kernel
theorem dX5_get_22 : decode cX5_get 22 = .ok (.iconst 0, 1) := by decide +kernel
theorem dX5_get_23 : decode cX5_get 23 = .ok (.ireturn, 1) := by decide +kernel
theorem dX5_set_0 : decode cX5_set 0 = .ok (.iload_n 1, 1) := by decide +kernel
theorem dX5_set_1 : decode cX5_set 1 = .ok (.ifCond .lt 19, 3) := by decide +kernel
theorem dX5_set_4 : decode cX5_set 4 = .ok (.iload_n 1, 1) := by decide +kernel
theorem dX5_set_5 : decode cX5_set 5 = .ok (.aload_n 0, 1) := by decide +kernel
theorem dX5_set_6 : decode cX5_set 6 = .ok (.getfield 9, 3) := by decide +kernel
theorem dX5_set_9 : decode cX5_set 9 = .ok (.arraylength, 1) := by decide +kernel
theorem dX5_set_10 : decode cX5_set 10 = .ok (.if_icmp .ge 10, 3) := by decide +kernel
theorem dX5_set_13 : decode cX5_set 13 = .ok (.aload_n 0, 1) := by decide +kernel
theorem dX5_set_14 : decode cX5_set 14 = .ok (.getfield 9, 3) := by decide +kernel
theorem dX5_set_17 : decode cX5_set 17 = .ok (.iload_n 1, 1) := by decide +kernel
theorem dX5_set_18 : decode cX5_set 18 = .ok (.iload_n 2, 1) := by decide +kernel
theorem dX5_set_19 : decode cX5_set 19 = .ok (.iastore, 1) := by decide +kernel
theorem dX5_set_20 : decode cX5_set 20 = .ok (.return_, 1) := by decide +kernel
theorem dX5_of_0 : decode cX5_of 0 = .ok (.iload_n 1, 1) := by decide +kernel
theorem dX5_of_1 : decode cX5_of 1 = .ok (.bipush 16, 2) := by decide +kernel
theorem dX5_of_3 : decode cX5_of 3 = .ok (.imul, 1) := by decide +kernel
theorem dX5_of_4 : decode cX5_of 4 = .ok (.iload_n 2, 1) := by decide +kernel
theorem dX5_of_5 : decode cX5_of 5 = .ok (.iadd, 1) := by decide +kernel
theorem dX5_of_6 : decode cX5_of 6 = .ok (.istore_n 3, 1) := by decide +kernel
theorem dX5_of_7 : decode cX5_of 7 = .ok (.iload_n 3, 1) := by decide +kernel
theorem dX5_of_8 : decode cX5_of 8 = .ok (.ifCond .lt 21, 3) := by decide +kernel
theorem dX5_of_11 : decode cX5_of 11 = .ok (.iload_n 3, 1) := by decide +kernel
theorem dX5_of_12 : decode cX5_of 12 = .ok (.aload_n 0, 1) := by decide +kernel
theorem dX5_of_13 : decode cX5_of 13 = .ok (.getfield 9, 3) := by decide +kernel
theorem dX5_of_16 : decode cX5_of 16 = .ok (.arraylength, 1) := by decide +kernel
theorem dX5_of_17 : decode cX5_of 17 = .ok (.if_icmp .ge 12, 3) := by decide +kernel
theorem dX5_of_20 : decode cX5_of 20 = .ok (.aload_n 0, 1) := by decide +kernel
theorem dX5_of_21 : decode cX5_of 21 = .ok (.getfield 9, 3) := by decide +kernel
theorem dX5_of_24 : decode cX5_of 24 = .ok (.iload_n 3, 1) := by decide +kernel
theorem dX5_of_25 : decode cX5_of 25 = .ok (.iaload, 1) := by decide +kernel
theorem dX5_of_26 : decode cX5_of 26 = .ok (.goto 4, 3) := by decide +kernel
theorem dX5_of_29 : decode cX5_of 29 = .ok (.iconst 0, 1) := by decide +kernel
theorem dX5_of_30 : decode cX5_of 30 = .ok (.ireturn, 1) := by decide +kernel
theorem dX5_setOf_0 : decode cX5_setOf 0 = .ok (.aload_n 0, 1) := by decide +kernel
theorem dX5_setOf_1 : decode cX5_setOf 1 = .ok (.iload_n 1, 1) := by decide +kernel
theorem dX5_setOf_2 : decode cX5_setOf 2 = .ok (.bipush 16, 2) := by decide +kernel
theorem dX5_setOf_4 : decode cX5_setOf 4 = .ok (.imul, 1) := by decide +kernel
theorem dX5_setOf_5 : decode cX5_setOf 5 = .ok (.iload_n 2, 1) := by decide +kernel
theorem dX5_setOf_6 : decode cX5_setOf 6 = .ok (.iadd, 1) := by decide +kernel
theorem dX5_setOf_7 : decode cX5_setOf 7 = .ok (.iload_n 3, 1) := by decide +kernel
theorem dX5_setOf_8 : decode cX5_setOf 8 = .ok (.invokevirtual 19, 3) := by decide +kernel
theorem dX5_setOf_11 : decode cX5_setOf 11 = .ok (.return_, 1) := by decide +kernel
theorem dX5_copyFrom_0 : decode cX5_copyFrom 0 = .ok (.aload_n 1, 1) := by decide +kernel
theorem dX5_copyFrom_1 : decode cX5_copyFrom 1 = .ok (.getfield 9, 3) := by decide +kernel
theorem dX5_copyFrom_4 : decode cX5_copyFrom 4 = .ok (.iconst 0, 1) := by decide +kernel
theorem dX5_copyFrom_5 : decode cX5_copyFrom 5 = .ok (.aload_n 0, 1) := by decide +kernel
theorem dX5_copyFrom_6 : decode cX5_copyFrom 6 = .ok (.getfield 9, 3) := by decide +kernel
theorem dX5_copyFrom_9 : decode cX5_copyFrom 9 = .ok (.iconst 0, 1) := by decide +kernel
theorem dX5_copyFrom_10 : decode cX5_copyFrom 10 = .ok (.aload_n 0, 1) := by decide +kernel
theorem dX5_copyFrom_11 : decode cX5_copyFrom 11 = .ok (.getfield 9, 3) := by decide +kernel
theorem dX5_copyFrom_14 : decode cX5_copyFrom 14 = .ok (.arraylength, 1) := by decide +kernel
theorem dX5_copyFrom_15 : decode cX5_copyFrom 15 = .ok (.aload_n 1, 1) := by decide +kernel
theorem dX5_copyFrom_16 : decode cX5_copyFrom 16 = .ok (.getfield 9, 3) := by decide +kernel
theorem dX5_copyFrom_19 : decode cX5_copyFrom 19 = .ok (.arraylength, 1) := by decide +kernel
theorem dX5_copyFrom_20 : decode cX5_copyFrom 20 = .ok (.invokestatic 23, 3) := by decide +kernel
theorem dX5_copyFrom_23 : decode cX5_copyFrom 23 = .ok (.invokestatic 29, 3) := by decide +kernel
theorem dX5_copyFrom_26 : decode cX5_copyFrom 26 = .ok (.return_, 1) := by decide +kernel
theorem dX5_copyTo_0 : decode cX5_copyTo 0 = .ok (.iload_n 2, 1) := by decide +kernel
theorem dX5_copyTo_1 : decode cX5_copyTo 1 = .ok (.ifCond .lt 30, 3) := by decide +kernel
theorem dX5_copyTo_4 : decode cX5_copyTo 4 = .ok (.iload_n 2, 1) := by decide +kernel
theorem dX5_copyTo_5 : decode cX5_copyTo 5 = .ok (.aload_n 1, 1) := by decide +kernel
theorem dX5_copyTo_6 : decode cX5_copyTo 6 = .ok (.arraylength, 1) := by decide +kernel
theorem dX5_copyTo_7 : decode cX5_copyTo 7 = .ok (.aload_n 0, 1) := by decide +kernel
theorem dX5_copyTo_8 : decode cX5_copyTo 8 = .ok (.getfield 9, 3) := by decide +kernel
theorem dX5_copyTo_11 : decode cX5_copyTo 11 = .ok (.arraylength, 1) := by decide +kernel
theorem dX5_copyTo_12 : decode cX5_copyTo 12 = .ok (.isub, 1) := by decide +kernel
theorem dX5_copyTo_13 : decode cX5_copyTo 13 = .ok (.if_icmp .gt 18, 3) := by decide +kernel
theorem dX5_copyTo_16 : decode cX5_copyTo 16 = .ok (.aload_n 0, 1) := by decide +kernel
theorem dX5_copyTo_17 : decode cX5_copyTo 17 = .ok (.getfield 9, 3) := by decide +kernel
theorem dX5_copyTo_20 : decode cX5_copyTo 20 = .ok (.iconst 0, 1) := by decide +kernel
theorem dX5_copyTo_21 : decode cX5_copyTo 21 = .ok (.aload_n 1, 1) := by decide +kernel
theorem dX5_copyTo_22 : decode cX5_copyTo 22 = .ok (.iload_n 2, 1) := by decide +kernel
theorem dX5_copyTo_23 : decode cX5_copyTo 23 = .ok (.aload_n 0, 1) := by decide +kernel
theorem dX5_copyTo_24 : decode cX5_copyTo 24 = .ok (.getfield 9, 3) := by decide +kernel
theorem dX5_copyTo_27 : decode cX5_copyTo 27 = .ok (.arraylength, 1) := by decide +kernel
theorem dX5_copyTo_28 : decode cX5_copyTo 28 = .ok (.invokestatic 29, 3) := by decide +kernel
theorem dX5_copyTo_31 : decode cX5_copyTo 31 = .ok (.return_, 1) := by decide +kernel
theorem dX5_copyBack_0 : decode cX5_copyBack 0 = .ok (.iload_n 2, 1) := by decide +kernel
theorem dX5_copyBack_1 : decode cX5_copyBack 1 = .ok (.ifCond .lt 30, 3) := by decide +kernel
theorem dX5_copyBack_4 : decode cX5_copyBack 4 = .ok (.iload_n 2, 1) := by decide +kernel
theorem dX5_copyBack_5 : decode cX5_copyBack 5 = .ok (.aload_n 1, 1) := by decide +kernel
theorem dX5_copyBack_6 : decode cX5_copyBack 6 = .ok (.arraylength, 1) := by decide +kernel
theorem dX5_copyBack_7 : decode cX5_copyBack 7 = .ok (.aload_n 0, 1) := by decide +kernel
theorem dX5_copyBack_8 : decode cX5_copyBack 8 = .ok (.getfield 9, 3) := by decide +kernel
theorem dX5_copyBack_11 : decode cX5_copyBack 11 = .ok (.arraylength, 1) := by decide +kernel
theorem dX5_copyBack_12 : decode cX5_copyBack 12 = .ok (.isub, 1) := by decide +kernel
theorem dX5_copyBack_13 : decode cX5_copyBack 13 = .ok (.if_icmp .gt 18, 3) := by decide +kernel
theorem dX5_copyBack_16 : decode cX5_copyBack 16 = .ok (.aload_n 1, 1) := by decide +kernel
theorem dX5_copyBack_17 : decode cX5_copyBack 17 = .ok (.iload_n 2, 1) := by decide +kernel
theorem dX5_copyBack_18 : decode cX5_copyBack 18 = .ok (.aload_n 0, 1) := by decide +kernel
theorem dX5_copyBack_19 : decode cX5_copyBack 19 = .ok (.getfield 9, 3) := by decide +kernel
theorem dX5_copyBack_22 : decode cX5_copyBack 22 = .ok (.iconst 0, 1) := by decide +kernel
theorem dX5_copyBack_23 : decode cX5_copyBack 23 = .ok (.aload_n 0, 1) := by decide +kernel
theorem dX5_copyBack_24 : decode cX5_copyBack 24 = .ok (.getfield 9, 3) := by decide +kernel
theorem dX5_copyBack_27 : decode cX5_copyBack 27 = .ok (.arraylength, 1) := by decide +kernel
theorem dX5_copyBack_28 : decode cX5_copyBack 28 = .ok (.invokestatic 29, 3) := by decide +kernel
theorem dX5_copyBack_31 : decode cX5_copyBack 31 = .ok (.return_, 1) := by decide +kernel
theorem dX5_isBrother_0 : decode cX5_isBrother 0 = .ok (.iload_n 1, 1) := by decide +kernel
theorem dX5_isBrother_1 : decode cX5_isBrother 1 = .ok (.ifCond .lt 18, 3) := by decide +kernel
theorem dX5_isBrother_4 : decode cX5_isBrother 4 = .ok (.iload_n 1, 1) := by decide +kernel
theorem dX5_isBrother_5 : decode cX5_isBrother 5 = .ok (.aload_n 0, 1) := by decide +kernel
theorem dX5_isBrother_6 : decode cX5_isBrother 6 = .ok (.sipush 284, 3) := by decide +kernel
theorem dX5_isBrother_9 : decode cX5_isBrother 9 = .ok (.invokevirtual 35, 3) := by decide +kernel
theorem dX5_isBrother_12 : decode cX5_isBrother 12 = .ok (.if_icmp .ge 7, 3) := by decide +kernel
theorem dX5_isBrother_15 : decode cX5_isBrother 15 = .ok (.iconst 1, 1) := by decide +kernel
theorem dX5_isBrother_16 : decode cX5_isBrother 16 = .ok (.goto 4, 3) := by decide +kernel
theorem dX5_isBrother_19 : decode cX5_isBrother 19 = .ok (.iconst 0, 1) := by decide +kernel
theorem dX5_isBrother_20 : decode cX5_isBrother 20 = .ok (.ireturn, 1) := by decide +kernel
theorem dX5_is_0 : decode cX5_is 0 = .ok (.aload_n 0, 1) := by decide +kernel
theorem dX5_is_1 : decode cX5_is 1 = .ok (.iconst 2, 1) := by decide +kernel
theorem dX5_is_2 : decode cX5_is 2 = .ok (.iload_n 2, 1) := by decide +kernel
theorem dX5_is_3 : decode cX5_is 3 = .ok (.invokevirtual 39, 3) := by decide +kernel
theorem dX5_is_6 : decode cX5_is 6 = .ok (.iload_n 1, 1) := by decide +kernel
theorem dX5_is_7 : decode cX5_is 7 = .ok (.if_icmp .ne 7, 3) := by decide +kernel
theorem dX5_is_10 : decode cX5_is 10 = .ok (.iconst 1, 1) := by decide +kernel
theorem dX5_is_11 : decode cX5_is 11 = .ok (.goto 4, 3) := by decide +kernel
theorem dX5_is_14 : decode cX5_is 14 = .ok (.iconst 0, 1) := by decide +kernel
theorem dX5_is_15 : decode cX5_is 15 = .ok (.ireturn, 1) := by decide +kernel
theorem dX5_isEntitled_0 : decode cX5_isEntitled 0 = .ok (.aload_n 0, 1) := by decide +kernel
theorem dX5_isEntitled_1 : decode cX5_isEntitled 1 = .ok (.iconst 2, 1) := by decide +kernel
theorem dX5_isEntitled_2 : decode cX5_isEntitled 2 = .ok (.iload_n 1, 1) := by decide +kernel
theorem dX5_isEntitled_3 : decode cX5_isEntitled 3 = .ok (.invokevirtual 39, 3) := by decide +kernel
theorem dX5_isEntitled_6 : decode cX5_isEntitled 6 = .ok (.iconst 1, 1) := by decide +kernel
theorem dX5_isEntitled_7 : decode cX5_isEntitled 7 = .ok (.if_icmp .ne 16, 3) := by decide +kernel
theorem dX5_isEntitled_10 : decode cX5_isEntitled 10 = .ok (.aload_n 0, 1) := by decide +kernel
theorem dX5_isEntitled_11 : decode cX5_isEntitled 11 = .ok (.iconst 5, 1) := by decide +kernel
theorem dX5_isEntitled_12 : decode cX5_isEntitled 12 = .ok (.iload_n 1, 1) := by decide +kernel
theorem dX5_isEntitled_13 : decode cX5_isEntitled 13 = .ok (.invokevirtual 39, 3) := by decide +kernel
theorem dX5_isEntitled_16 : decode cX5_isEntitled 16 = .ok (.ifCond .ne 7, 3) := by decide +kernel
theorem dX5_isEntitled_19 : decode cX5_isEntitled 19 = .ok (.iconst 1, 1) := by decide +kernel
theorem dX5_isEntitled_20 : decode cX5_isEntitled 20 = .ok (.goto 4, 3) := by decide +kernel
theorem dX5_isEntitled_23 : decode cX5_isEntitled 23 = .ok (.iconst 0, 1) := by decide +kernel
theorem dX5_isEntitled_24 : decode cX5_isEntitled 24 = .ok (.ireturn, 1) := by decide +kernel
theorem dX5_howMany_0 : decode cX5_howMany 0 = .ok (.iconst 0, 1) := by decide +kernel
theorem dX5_howMany_1 : decode cX5_howMany 1 = .ok (.istore_n 2, 1) := by decide +kernel
theorem dX5_howMany_2 : decode cX5_howMany 2 = .ok (.iconst 0, 1) := by decide +kernel
theorem dX5_howMany_3 : decode cX5_howMany 3 = .ok (.istore_n 3, 1) := by decide +kernel
theorem dX5_howMany_4 : decode cX5_howMany 4 = .ok (.iload_n 3, 1) := by decide +kernel
theorem dX5_howMany_5 : decode cX5_howMany 5 = .ok (.bipush 16, 2) := by decide +kernel
theorem dX5_howMany_7 : decode cX5_howMany 7 = .ok (.if_icmp .ge 21, 3) := by decide +kernel
theorem dX5_howMany_10 : decode cX5_howMany 10 = .ok (.aload_n 0, 1) := by decide +kernel
theorem dX5_howMany_11 : decode cX5_howMany 11 = .ok (.iload_n 1, 1) := by decide +kernel
theorem dX5_howMany_12 : decode cX5_howMany 12 = .ok (.iload_n 3, 1) := by decide +kernel
theorem dX5_howMany_13 : decode cX5_howMany 13 = .ok (.invokevirtual 42, 3) := by decide +kernel
theorem dX5_howMany_16 : decode cX5_howMany 16 = .ok (.ifCond .eq 6, 3) := by decide +kernel
theorem dX5_howMany_19 : decode cX5_howMany 19 = .ok (.iinc 2 1, 3) := by decide +kernel
theorem dX5_howMany_22 : decode cX5_howMany 22 = .ok (.iinc 3 1, 3) := by decide +kernel
theorem dX5_howMany_25 : decode cX5_howMany 25 = .ok (.goto (-21), 3) := by decide +kernel
theorem dX5_howMany_28 : decode cX5_howMany 28 = .ok (.iload_n 2, 1) := by decide +kernel
theorem dX5_howMany_29 : decode cX5_howMany 29 = .ok (.ireturn, 1) := by decide +kernel
theorem dX5_entitledMany_0 : decode cX5_entitledMany 0 = .ok (.iconst 0, 1) := by decide +kernel
theorem dX5_entitledMany_1 : decode cX5_entitledMany 1 = .ok (.istore_n 1, 1) := by decide +kernel
theorem dX5_entitledMany_2 : decode cX5_entitledMany 2 = .ok (.iconst 0, 1) := by decide +kernel
theorem dX5_entitledMany_3 : decode cX5_entitledMany 3 = .ok (.istore_n 2, 1) := by decide +kernel
theorem dX5_entitledMany_4 : decode cX5_entitledMany 4 = .ok (.iload_n 2, 1) := by decide +kernel
theorem dX5_entitledMany_5 : decode cX5_entitledMany 5 = .ok (.bipush 16, 2) := by decide +kernel
theorem dX5_entitledMany_7 : decode cX5_entitledMany 7 = .ok (.if_icmp .ge 20, 3) := by decide +kernel
theorem dX5_entitledMany_10 : decode cX5_entitledMany 10 = .ok (.aload_n 0, 1) := by decide +kernel
theorem dX5_entitledMany_11 : decode cX5_entitledMany 11 = .ok (.iload_n 2, 1) := by decide +kernel
theorem dX5_entitledMany_12 : decode cX5_entitledMany 12 = .ok (.invokevirtual 46, 3) := by decide +kernel
theorem dX5_entitledMany_15 : decode cX5_entitledMany 15 = .ok (.ifCond .eq 6, 3) := by decide +kernel
theorem dX5_entitledMany_18 : decode cX5_entitledMany 18 = .ok (.iinc 1 1, 3) := by decide +kernel
theorem dX5_entitledMany_21 : decode cX5_entitledMany 21 = .ok (.iinc 2 1, 3) := by decide +kernel
theorem dX5_entitledMany_24 : decode cX5_entitledMany 24 = .ok (.goto (-20), 3) := by decide +kernel
theorem dX5_entitledMany_27 : decode cX5_entitledMany 27 = .ok (.iload_n 1, 1) := by decide +kernel
theorem dX5_entitledMany_28 : decode cX5_entitledMany 28 = .ok (.ireturn, 1) := by decide +kernel
theorem dX5_voicesFor_0 : decode cX5_voicesFor 0 = .ok (.iconst 0, 1) := by decide +kernel
theorem dX5_voicesFor_1 : decode cX5_voicesFor 1 = .ok (.istore_n 2, 1) := by decide +kernel
theorem dX5_voicesFor_2 : decode cX5_voicesFor 2 = .ok (.iconst 0, 1) := by decide +kernel
theorem dX5_voicesFor_3 : decode cX5_voicesFor 3 = .ok (.istore_n 3, 1) := by decide +kernel
theorem dX5_voicesFor_4 : decode cX5_voicesFor 4 = .ok (.iload_n 3, 1) := by decide +kernel
theorem dX5_voicesFor_5 : decode cX5_voicesFor 5 = .ok (.bipush 16, 2) := by decide +kernel
theorem dX5_voicesFor_7 : decode cX5_voicesFor 7 = .ok (.if_icmp .ge 23, 3) := by decide +kernel
theorem dX5_voicesFor_10 : decode cX5_voicesFor 10 = .ok (.aload_n 0, 1) := by decide +kernel
theorem dX5_voicesFor_11 : decode cX5_voicesFor 11 = .ok (.bipush 7, 2) := by decide +kernel
theorem dX5_voicesFor_13 : decode cX5_voicesFor 13 = .ok (.iload_n 3, 1) := by decide +kernel
theorem dX5_voicesFor_14 : decode cX5_voicesFor 14 = .ok (.invokevirtual 39, 3) := by decide +kernel
theorem dX5_voicesFor_17 : decode cX5_voicesFor 17 = .ok (.iload_n 1, 1) := by decide +kernel
theorem dX5_voicesFor_18 : decode cX5_voicesFor 18 = .ok (.if_icmp .ne 6, 3) := by decide +kernel
theorem dX5_voicesFor_21 : decode cX5_voicesFor 21 = .ok (.iinc 2 1, 3) := by decide +kernel
theorem dX5_voicesFor_24 : decode cX5_voicesFor 24 = .ok (.iinc 3 1, 3) := by decide +kernel
theorem dX5_voicesFor_27 : decode cX5_voicesFor 27 = .ok (.goto (-23), 3) := by decide +kernel
theorem dX5_voicesFor_30 : decode cX5_voicesFor 30 = .ok (.aload_n 0, 1) := by decide +kernel
theorem dX5_voicesFor_31 : decode cX5_voicesFor 31 = .ok (.iconst 1, 1) := by decide +kernel
theorem dX5_voicesFor_32 : decode cX5_voicesFor 32 = .ok (.iload_n 1, 1) := by decide +kernel
theorem dX5_voicesFor_33 : decode cX5_voicesFor 33 = .ok (.invokevirtual 39, 3) := by decide +kernel
theorem dX5_voicesFor_36 : decode cX5_voicesFor 36 = .ok (.iconst 1, 1) := by decide +kernel
theorem dX5_voicesFor_37 : decode cX5_voicesFor 37 = .ok (.if_icmp .ne 9, 3) := by decide +kernel
theorem dX5_voicesFor_40 : decode cX5_voicesFor 40 = .ok (.iconst 2, 1) := by decide +kernel
theorem dX5_voicesFor_41 : decode cX5_voicesFor 41 = .ok (.iload_n 2, 1) := by decide +kernel
theorem dX5_voicesFor_42 : decode cX5_voicesFor 42 = .ok (.imul, 1) := by decide +kernel
theorem dX5_voicesFor_43 : decode cX5_voicesFor 43 = .ok (.goto 4, 3) := by decide +kernel
theorem dX5_voicesFor_46 : decode cX5_voicesFor 46 = .ok (.iload_n 2, 1) := by decide +kernel
theorem dX5_voicesFor_47 : decode cX5_voicesFor 47 = .ok (.ireturn, 1) := by decide +kernel
theorem dX5_pittanceIn_0 : decode cX5_pittanceIn 0 = .ok (.iload_n 1, 1) := by decide +kernel
theorem dX5_pittanceIn_1 : decode cX5_pittanceIn 1 = .ok (.ifCond .lt 21, 3) := by decide +kernel
theorem dX5_pittanceIn_4 : decode cX5_pittanceIn 4 = .ok (.iload_n 1, 1) := by decide +kernel
theorem dX5_pittanceIn_5 : decode cX5_pittanceIn 5 = .ok (.bipush 52, 2) := by decide +kernel
theorem dX5_pittanceIn_7 : decode cX5_pittanceIn 7 = .ok (.if_icmp .ge 15, 3) := by decide +kernel
theorem dX5_pittanceIn_10 : decode cX5_pittanceIn 10 = .ok (.aload_n 0, 1) := by decide +kernel
theorem dX5_pittanceIn_11 : decode cX5_pittanceIn 11 = .ok (.sipush 232, 3) := by decide +kernel
theorem dX5_pittanceIn_14 : decode cX5_pittanceIn 14 = .ok (.iload_n 1, 1) := by decide +kernel
theorem dX5_pittanceIn_15 : decode cX5_pittanceIn 15 = .ok (.iadd, 1) := by decide +kernel
theorem dX5_pittanceIn_16 : decode cX5_pittanceIn 16 = .ok (.invokevirtual 35, 3) := by decide +kernel
theorem dX5_pittanceIn_19 : decode cX5_pittanceIn 19 = .ok (.goto 4, 3) := by decide +kernel
theorem dX5_pittanceIn_22 : decode cX5_pittanceIn 22 = .ok (.iconst 0, 1) := by decide +kernel
theorem dX5_pittanceIn_23 : decode cX5_pittanceIn 23 = .ok (.ireturn, 1) := by decide +kernel
theorem dX5_feastsTold_0 : decode cX5_feastsTold 0 = .ok (.iconst 0, 1) := by decide +kernel
theorem dX5_feastsTold_1 : decode cX5_feastsTold 1 = .ok (.istore_n 1, 1) := by decide +kernel
theorem dX5_feastsTold_2 : decode cX5_feastsTold 2 = .ok (.iconst 0, 1) := by decide +kernel
theorem dX5_feastsTold_3 : decode cX5_feastsTold 3 = .ok (.istore_n 2, 1) := by decide +kernel
theorem dX5_feastsTold_4 : decode cX5_feastsTold 4 = .ok (.iload_n 2, 1) := by decide +kernel
theorem dX5_feastsTold_5 : decode cX5_feastsTold 5 = .ok (.bipush 52, 2) := by decide +kernel
theorem dX5_feastsTold_7 : decode cX5_feastsTold 7 = .ok (.if_icmp .ge 20, 3) := by decide +kernel
theorem dX5_feastsTold_10 : decode cX5_feastsTold 10 = .ok (.aload_n 0, 1) := by decide +kernel
theorem dX5_feastsTold_11 : decode cX5_feastsTold 11 = .ok (.iload_n 2, 1) := by decide +kernel
theorem dX5_feastsTold_12 : decode cX5_feastsTold 12 = .ok (.invokevirtual 50, 3) := by decide +kernel
theorem dX5_feastsTold_15 : decode cX5_feastsTold 15 = .ok (.ifCond .le 6, 3) := by decide +kernel
theorem dX5_feastsTold_18 : decode cX5_feastsTold 18 = .ok (.iinc 1 1, 3) := by decide +kernel
theorem dX5_feastsTold_21 : decode cX5_feastsTold 21 = .ok (.iinc 2 1, 3) := by decide +kernel
theorem dX5_feastsTold_24 : decode cX5_feastsTold 24 = .ok (.goto (-20), 3) := by decide +kernel
theorem dX5_feastsTold_27 : decode cX5_feastsTold 27 = .ok (.iload_n 1, 1) := by decide +kernel
theorem dX5_feastsTold_28 : decode cX5_feastsTold 28 = .ok (.ireturn, 1) := by decide +kernel
theorem dX5_takeIn_0 : decode cX5_takeIn 0 = .ok (.iload_n 1, 1) := by decide +kernel
theorem dX5_takeIn_1 : decode cX5_takeIn 1 = .ok (.sipush 9999, 3) := by decide +kernel
theorem dX5_takeIn_4 : decode cX5_takeIn 4 = .ok (.aload_n 0, 1) := by decide +kernel
theorem dX5_takeIn_5 : decode cX5_takeIn 5 = .ok (.sipush 288, 3) := by decide +kernel
theorem dX5_takeIn_8 : decode cX5_takeIn 8 = .ok (.invokevirtual 35, 3) := by decide +kernel
theorem dX5_takeIn_11 : decode cX5_takeIn 11 = .ok (.isub, 1) := by decide +kernel
theorem dX5_takeIn_12 : decode cX5_takeIn 12 = .ok (.invokestatic 23, 3) := by decide +kernel
theorem dX5_takeIn_15 : decode cX5_takeIn 15 = .ok (.istore_n 2, 1) := by decide +kernel
theorem dX5_takeIn_16 : decode cX5_takeIn 16 = .ok (.aload_n 0, 1) := by decide +kernel
theorem dX5_takeIn_17 : decode cX5_takeIn 17 = .ok (.sipush 288, 3) := by decide +kernel
theorem dX5_takeIn_20 : decode cX5_takeIn 20 = .ok (.aload_n 0, 1) := by decide +kernel
theorem dX5_takeIn_21 : decode cX5_takeIn 21 = .ok (.sipush 288, 3) := by decide +kernel
theorem dX5_takeIn_24 : decode cX5_takeIn 24 = .ok (.invokevirtual 35, 3) := by decide +kernel
theorem dX5_takeIn_27 : decode cX5_takeIn 27 = .ok (.iload_n 2, 1) := by decide +kernel
theorem dX5_takeIn_28 : decode cX5_takeIn 28 = .ok (.iadd, 1) := by decide +kernel
theorem dX5_takeIn_29 : decode cX5_takeIn 29 = .ok (.invokevirtual 19, 3) := by decide +kernel
theorem dX5_takeIn_32 : decode cX5_takeIn 32 = .ok (.aload_n 0, 1) := by decide +kernel
theorem dX5_takeIn_33 : decode cX5_takeIn 33 = .ok (.sipush 289, 3) := by decide +kernel
theorem dX5_takeIn_36 : decode cX5_takeIn 36 = .ok (.aload_n 0, 1) := by decide +kernel
theorem dX5_takeIn_37 : decode cX5_takeIn 37 = .ok (.sipush 289, 3) := by decide +kernel
theorem dX5_takeIn_40 : decode cX5_takeIn 40 = .ok (.invokevirtual 35, 3) := by decide +kernel
theorem dX5_takeIn_43 : decode cX5_takeIn 43 = .ok (.iload_n 2, 1) := by decide +kernel
theorem dX5_takeIn_44 : decode cX5_takeIn 44 = .ok (.iadd, 1) := by decide +kernel
theorem dX5_takeIn_45 : decode cX5_takeIn 45 = .ok (.invokevirtual 19, 3) := by decide +kernel
theorem dX5_takeIn_48 : decode cX5_takeIn 48 = .ok (.return_, 1) := by decide +kernel
theorem dX6_init_0 : decode cX6_init 0 = .ok (.aload_n 0, 1) := by decide +kernel
theorem dX6_init_1 : decode cX6_init 1 = .ok (.invokespecial 3, 3) := by decide +kernel
theorem dX6_init_4 : decode cX6_init 4 = .ok (.aload_n 0, 1) := by decide +kernel
theorem dX6_init_5 : decode cX6_init 5 = .ok (.new 9, 3) := by decide +kernel
theorem dX6_init_8 : decode cX6_init 8 = .ok (.dup, 1) := by decide +kernel
theorem dX6_init_9 : decode cX6_init 9 = .ok (.invokespecial 11, 3) := by decide +kernel
theorem dX6_init_12 : decode cX6_init 12 = .ok (.putfield 12, 3) := by decide +kernel
theorem dX6_init_15 : decode cX6_init 15 = .ok (.aload_n 0, 1) := by decide +kernel
theorem dX6_init_16 : decode cX6_init 16 = .ok (.new 9, 3) := by decide +kernel
theorem dX6_init_19 : decode cX6_init 19 = .ok (.dup, 1) := by decide +kernel
theorem dX6_init_20 : decode cX6_init 20 = .ok (.invokespecial 11, 3) := by decide +kernel
theorem dX6_init_23 : decode cX6_init 23 = .ok (.putfield 16, 3) := by decide +kernel
theorem dX6_init_26 : decode cX6_init 26 = .ok (.aload_n 0, 1) := by decide +kernel
theorem dX6_init_27 : decode cX6_init 27 = .ok (.new 19, 3) := by decide +kernel
theorem dX6_init_30 : decode cX6_init 30 = .ok (.dup, 1) := by decide +kernel
theorem dX6_init_31 : decode cX6_init 31 = .ok (.invokespecial 21, 3) := by decide +kernel
theorem dX6_init_34 : decode cX6_init 34 = .ok (.putfield 22, 3) := by decide +kernel
theorem dX6_init_37 : decode cX6_init 37 = .ok (.aload_n 0, 1) := by decide +kernel
theorem dX6_init_38 : decode cX6_init 38 = .ok (.new 26, 3) := by decide +kernel
theorem dX6_init_41 : decode cX6_init 41 = .ok (.dup, 1) := by decide +kernel
theorem dX6_init_42 : decode cX6_init 42 = .ok (.invokespecial 28, 3) := by decide +kernel
theorem dX6_init_45 : decode cX6_init 45 = .ok (.putfield 29, 3) := by decide +kernel
theorem dX6_init_48 : decode cX6_init 48 = .ok (.aload_n 0, 1) := by decide +kernel
theorem dX6_init_49 : decode cX6_init 49 = .ok (.new 33, 3) := by decide +kernel
theorem dX6_init_52 : decode cX6_init 52 = .ok (.dup, 1) := by decide +kernel
theorem dX6_init_53 : decode cX6_init 53 = .ok (.invokespecial 35, 3) := by decide +kernel
theorem dX6_init_56 : decode cX6_init 56 = .ok (.putfield 36, 3) := by decide +kernel
theorem dX6_init_59 : decode cX6_init 59 = .ok (.aload_n 0, 1) := by decide +kernel
theorem dX6_init_60 : decode cX6_init 60 = .ok (.new 40, 3) := by decide +kernel
theorem dX6_init_63 : decode cX6_init 63 = .ok (.dup, 1) := by decide +kernel
theorem dX6_init_64 : decode cX6_init 64 = .ok (.invokespecial 42, 3) := by decide +kernel
theorem dX6_init_67 : decode cX6_init 67 = .ok (.putfield 43, 3) := by decide +kernel
theorem dX6_init_70 : decode cX6_init 70 = .ok (.aload_n 0, 1) := by decide +kernel
theorem dX6_init_71 : decode cX6_init 71 = .ok (.new 47, 3) := by decide +kernel
theorem dX6_init_74 : decode cX6_init 74 = .ok (.dup, 1) := by decide +kernel
theorem dX6_init_75 : decode cX6_init 75 = .ok (.bipush 60, 2) := by decide +kernel
theorem dX6_init_77 : decode cX6_init 77 = .ok (.invokespecial 49, 3) := by decide +kernel
theorem dX6_init_80 : decode cX6_init 80 = .ok (.putfield 52, 3) := by decide +kernel
theorem dX6_init_83 : decode cX6_init 83 = .ok (.aload_n 0, 1) := by decide +kernel
theorem dX6_init_84 : decode cX6_init 84 = .ok (.new 47, 3) := by decide +kernel
theorem dX6_init_87 : decode cX6_init 87 = .ok (.dup, 1) := by decide +kernel
theorem dX6_init_88 : decode cX6_init 88 = .ok (.sipush 128, 3) := by decide +kernel
theorem dX6_init_91 : decode cX6_init 91 = .ok (.invokespecial 49, 3) := by decide +kernel
theorem dX6_init_94 : decode cX6_init 94 = .ok (.putfield 56, 3) := by decide +kernel
theorem dX6_init_97 : decode cX6_init 97 = .ok (.aload_n 0, 1) := by decide +kernel
theorem dX6_init_98 : decode cX6_init 98 = .ok (.bipush 16, 2) := by decide +kernel
theorem dX6_init_100 : decode cX6_init 100 = .ok (.newarray .int, 2) := by decide +kernel
theorem dX6_init_102 : decode cX6_init 102 = .ok (.putfield 59, 3) := by decide +kernel
theorem dX6_init_105 : decode cX6_init 105 = .ok (.aload_n 0, 1) := by decide +kernel
theorem dX6_init_106 : decode cX6_init 106 = .ok (.iconst 0, 1) := by decide +kernel
theorem dX6_init_107 : decode cX6_init 107 = .ok (.putfield 63, 3) := by decide +kernel
theorem dX6_init_110 : decode cX6_init 110 = .ok (.aload_n 0, 1) := by decide +kernel
theorem dX6_init_111 : decode cX6_init 111 = .ok (.iconst 0, 1) := by decide +kernel
theorem dX6_init_112 : decode cX6_init 112 = .ok (.putfield 67, 3) := by decide +kernel
theorem dX6_init_115 : decode cX6_init 115 = .ok (.aload_n 0, 1) := by decide +kernel
theorem dX6_init_116 : decode cX6_init 116 = .ok (.iconst 0, 1) := by decide +kernel
theorem dX6_init_117 : decode cX6_init 117 = .ok (.putfield 71, 3) := by decide +kernel
theorem dX6_init_120 : decode cX6_init 120 = .ok (.return_, 1) := by decide +kernel
theorem dX6_come_0 : decode cX6_come 0 = .ok (.aload_n 0, 1) := by decide +kernel
theorem dX6_come_1 : decode cX6_come 1 = .ok (.aload_n 0, 1) := by decide +kernel
theorem dX6_come_2 : decode cX6_come 2 = .ok (.invokevirtual 74, 3) := by decide +kernel
theorem dX6_come_5 : decode cX6_come 5 = .ok (.iload_n 1, 1) := by decide +kernel
theorem dX6_come_6 : decode cX6_come 6 = .ok (.iload_n 2, 1) := by decide +kernel
theorem dX6_come_7 : decode cX6_come 7 = .ok (.invokevirtual 78, 3) := by decide +kernel
theorem dX6_come_10 : decode cX6_come 10 = .ok (.invokevirtual 82, 3) := by decide +kernel
theorem dX6_come_13 : decode cX6_come 13 = .ok (.ireturn, 1) := by decide +kernel
theorem dX6_withdraw_0 : decode cX6_withdraw 0 = .ok (.aload_n 0, 1) := by decide +kernel
theorem dX6_withdraw_1 : decode cX6_withdraw 1 = .ok (.aload_n 0, 1) := by decide +kernel
theorem dX6_withdraw_2 : decode cX6_withdraw 2 = .ok (.invokevirtual 74, 3) := by decide +kernel
theorem dX6_withdraw_5 : decode cX6_withdraw 5 = .ok (.iload_n 1, 1) := by decide +kernel
theorem dX6_withdraw_6 : decode cX6_withdraw 6 = .ok (.invokevirtual 86, 3) := by decide +kernel
theorem dX6_withdraw_9 : decode cX6_withdraw 9 = .ok (.invokevirtual 82, 3) := by decide +kernel
theorem dX6_withdraw_12 : decode cX6_withdraw 12 = .ok (.ireturn, 1) := by decide +kernel
theorem dX6_voice_0 : decode cX6_voice 0 = .ok (.aload_n 0, 1) := by decide +kernel
theorem dX6_voice_1 : decode cX6_voice 1 = .ok (.aload_n 0, 1) := by decide +kernel
theorem dX6_voice_2 : decode cX6_voice 2 = .ok (.invokevirtual 74, 3) := by decide +kernel
theorem dX6_voice_5 : decode cX6_voice 5 = .ok (.iload_n 1, 1) := by decide +kernel
theorem dX6_voice_6 : decode cX6_voice 6 = .ok (.iload_n 2, 1) := by decide +kernel
theorem dX6_voice_7 : decode cX6_voice 7 = .ok (.invokevirtual 89, 3) := by decide +kernel
theorem dX6_voice_10 : decode cX6_voice 10 = .ok (.invokevirtual 82, 3) := by decide +kernel
theorem dX6_voice_13 : decode cX6_voice 13 = .ok (.ireturn, 1) := by decide +kernel
theorem dX6_choose_0 : decode cX6_choose 0 = .ok (.aload_n 0, 1) := by decide +kernel
theorem dX6_choose_1 : decode cX6_choose 1 = .ok (.aload_n 0, 1) := by decide +kernel
theorem dX6_choose_2 : decode cX6_choose 2 = .ok (.invokevirtual 74, 3) := by decide +kernel
theorem dX6_choose_5 : decode cX6_choose 5 = .ok (.iload_n 1, 1) := by decide +kernel
theorem dX6_choose_6 : decode cX6_choose 6 = .ok (.invokevirtual 93, 3) := by decide +kernel
theorem dX6_choose_9 : decode cX6_choose 9 = .ok (.invokevirtual 82, 3) := by decide +kernel
theorem dX6_choose_12 : decode cX6_choose 12 = .ok (.ireturn, 1) := by decide +kernel
theorem dX6_leave_0 : decode cX6_leave 0 = .ok (.aload_n 0, 1) := by decide +kernel
theorem dX6_leave_1 : decode cX6_leave 1 = .ok (.aload_n 0, 1) := by decide +kernel
theorem dX6_leave_2 : decode cX6_leave 2 = .ok (.invokevirtual 74, 3) := by decide +kernel
theorem dX6_leave_5 : decode cX6_leave 5 = .ok (.iload_n 1, 1) := by decide +kernel
theorem dX6_leave_6 : decode cX6_leave 6 = .ok (.invokevirtual 96, 3) := by decide +kernel
theorem dX6_leave_9 : decode cX6_leave 9 = .ok (.invokevirtual 82, 3) := by decide +kernel
theorem dX6_leave_12 : decode cX6_leave 12 = .ok (.ireturn, 1) := by decide +kernel
theorem dX6_feast_0 : decode cX6_feast 0 = .ok (.aload_n 0, 1) := by decide +kernel
theorem dX6_feast_1 : decode cX6_feast 1 = .ok (.aload_n 0, 1) := by decide +kernel
theorem dX6_feast_2 : decode cX6_feast 2 = .ok (.invokevirtual 74, 3) := by decide +kernel
theorem dX6_feast_5 : decode cX6_feast 5 = .ok (.iload_n 1, 1) := by decide +kernel
theorem dX6_feast_6 : decode cX6_feast 6 = .ok (.iload_n 2, 1) := by decide +kernel
theorem dX6_feast_7 : decode cX6_feast 7 = .ok (.invokevirtual 99, 3) := by decide +kernel
theorem dX6_feast_10 : decode cX6_feast 10 = .ok (.invokevirtual 82, 3) := by decide +kernel
theorem dX6_feast_13 : decode cX6_feast 13 = .ok (.ireturn, 1) := by decide +kernel
theorem dX6_breach_0 : decode cX6_breach 0 = .ok (.aload_n 0, 1) := by decide +kernel
theorem dX6_breach_1 : decode cX6_breach 1 = .ok (.aload_n 0, 1) := by decide +kernel
theorem dX6_breach_2 : decode cX6_breach 2 = .ok (.invokevirtual 74, 3) := by decide +kernel
theorem dX6_breach_5 : decode cX6_breach 5 = .ok (.iload_n 1, 1) := by decide +kernel
theorem dX6_breach_6 : decode cX6_breach 6 = .ok (.iload_n 2, 1) := by decide +kernel
theorem dX6_breach_7 : decode cX6_breach 7 = .ok (.invokevirtual 102, 3) := by decide +kernel
theorem dX6_breach_10 : decode cX6_breach 10 = .ok (.invokevirtual 82, 3) := by decide +kernel
theorem dX6_breach_13 : decode cX6_breach 13 = .ok (.ireturn, 1) := by decide +kernel
theorem dX6_pardon_0 : decode cX6_pardon 0 = .ok (.aload_n 0, 1) := by decide +kernel
theorem dX6_pardon_1 : decode cX6_pardon 1 = .ok (.aload_n 0, 1) := by decide +kernel
theorem dX6_pardon_2 : decode cX6_pardon 2 = .ok (.invokevirtual 74, 3) := by decide +kernel
theorem dX6_pardon_5 : decode cX6_pardon 5 = .ok (.iload_n 1, 1) := by decide +kernel
theorem dX6_pardon_6 : decode cX6_pardon 6 = .ok (.invokevirtual 105, 3) := by decide +kernel
theorem dX6_pardon_9 : decode cX6_pardon 9 = .ok (.invokevirtual 82, 3) := by decide +kernel
theorem dX6_pardon_12 : decode cX6_pardon 12 = .ok (.ireturn, 1) := by decide +kernel
theorem dX6_gift_0 : decode cX6_gift 0 = .ok (.aload_n 0, 1) := by decide +kernel
theorem dX6_gift_1 : decode cX6_gift 1 = .ok (.aload_n 0, 1) := by decide +kernel
theorem dX6_gift_2 : decode cX6_gift 2 = .ok (.invokevirtual 74, 3) := by decide +kernel
theorem dX6_gift_5 : decode cX6_gift 5 = .ok (.iload_n 1, 1) := by decide +kernel
theorem dX6_gift_6 : decode cX6_gift 6 = .ok (.invokevirtual 108, 3) := by decide +kernel
theorem dX6_gift_9 : decode cX6_gift 9 = .ok (.invokevirtual 82, 3) := by decide +kernel
theorem dX6_gift_12 : decode cX6_gift 12 = .ok (.ireturn, 1) := by decide +kernel
theorem dX6_weeks_0 : decode cX6_weeks 0 = .ok (.aload_n 0, 1) := by decide +kernel
theorem dX6_weeks_1 : decode cX6_weeks 1 = .ok (.aload_n 0, 1) := by decide +kernel
theorem dX6_weeks_2 : decode cX6_weeks 2 = .ok (.invokevirtual 74, 3) := by decide +kernel
theorem dX6_weeks_5 : decode cX6_weeks 5 = .ok (.iload_n 1, 1) := by decide +kernel
theorem dX6_weeks_6 : decode cX6_weeks 6 = .ok (.invokevirtual 111, 3) := by decide +kernel
theorem dX6_weeks_9 : decode cX6_weeks 9 = .ok (.invokevirtual 82, 3) := by decide +kernel
theorem dX6_weeks_12 : decode cX6_weeks 12 = .ok (.ireturn, 1) := by decide +kernel
theorem dX6_brotherOf_0 : decode cX6_brotherOf 0 = .ok (.aload_n 0, 1) := by decide +kernel
theorem dX6_brotherOf_1 : decode cX6_brotherOf 1 = .ok (.getfield 12, 3) := by decide +kernel
theorem dX6_brotherOf_4 : decode cX6_brotherOf 4 = .ok (.iload_n 1, 1) := by decide +kernel
theorem dX6_brotherOf_5 : decode cX6_brotherOf 5 = .ok (.invokevirtual 114, 3) := by decide +kernel
theorem dX6_brotherOf_8 : decode cX6_brotherOf 8 = .ok (.ifCond .ne 6, 3) := by decide +kernel
theorem dX6_brotherOf_11 : decode cX6_brotherOf 11 = .ok (.bipush (-11), 2) := by decide +kernel
theorem dX6_brotherOf_13 : decode cX6_brotherOf 13 = .ok (.ireturn, 1) := by decide +kernel
theorem dX6_brotherOf_14 : decode cX6_brotherOf 14 = .ok (.iload_n 2, 1) := by decide +kernel
theorem dX6_brotherOf_15 : decode cX6_brotherOf 15 = .ok (.tableswitch 164 0 9 #[53, 63, 73, 83, 93, 120, 130, 141, 147, 158], 53) := by decide +kernel
theorem dX6_brotherOf_68 : decode cX6_brotherOf 68 = .ok (.aload_n 0, 1) := by decide +kernel
theorem dX6_brotherOf_69 : decode cX6_brotherOf 69 = .ok (.getfield 12, 3) := by decide +kernel
theorem dX6_brotherOf_72 : decode cX6_brotherOf 72 = .ok (.iconst 0, 1) := by decide +kernel
theorem dX6_brotherOf_73 : decode cX6_brotherOf 73 = .ok (.iload_n 1, 1) := by decide +kernel
theorem dX6_brotherOf_74 : decode cX6_brotherOf 74 = .ok (.invokevirtual 118, 3) := by decide +kernel
theorem dX6_brotherOf_77 : decode cX6_brotherOf 77 = .ok (.ireturn, 1) := by decide +kernel
theorem dX6_brotherOf_78 : decode cX6_brotherOf 78 = .ok (.aload_n 0, 1) := by decide +kernel
theorem dX6_brotherOf_79 : decode cX6_brotherOf 79 = .ok (.getfield 12, 3) := by decide +kernel
theorem dX6_brotherOf_82 : decode cX6_brotherOf 82 = .ok (.iconst 1, 1) := by decide +kernel
theorem dX6_brotherOf_83 : decode cX6_brotherOf 83 = .ok (.iload_n 1, 1) := by decide +kernel
theorem dX6_brotherOf_84 : decode cX6_brotherOf 84 = .ok (.invokevirtual 118, 3) := by decide +kernel
theorem dX6_brotherOf_87 : decode cX6_brotherOf 87 = .ok (.ireturn, 1) := by decide +kernel
theorem dX6_brotherOf_88 : decode cX6_brotherOf 88 = .ok (.aload_n 0, 1) := by decide +kernel
theorem dX6_brotherOf_89 : decode cX6_brotherOf 89 = .ok (.getfield 12, 3) := by decide +kernel
theorem dX6_brotherOf_92 : decode cX6_brotherOf 92 = .ok (.iconst 2, 1) := by decide +kernel
theorem dX6_brotherOf_93 : decode cX6_brotherOf 93 = .ok (.iload_n 1, 1) := by decide +kernel
theorem dX6_brotherOf_94 : decode cX6_brotherOf 94 = .ok (.invokevirtual 118, 3) := by decide +kernel
theorem dX6_brotherOf_97 : decode cX6_brotherOf 97 = .ok (.ireturn, 1) := by decide +kernel
theorem dX6_brotherOf_98 : decode cX6_brotherOf 98 = .ok (.aload_n 0, 1) := by decide +kernel
theorem dX6_brotherOf_99 : decode cX6_brotherOf 99 = .ok (.getfield 12, 3) := by decide +kernel
theorem dX6_brotherOf_102 : decode cX6_brotherOf 102 = .ok (.iconst 3, 1) := by decide +kernel
theorem dX6_brotherOf_103 : decode cX6_brotherOf 103 = .ok (.iload_n 1, 1) := by decide +kernel
theorem dX6_brotherOf_104 : decode cX6_brotherOf 104 = .ok (.invokevirtual 118, 3) := by decide +kernel
theorem dX6_brotherOf_107 : decode cX6_brotherOf 107 = .ok (.ireturn, 1) := by decide +kernel
theorem dX6_brotherOf_108 : decode cX6_brotherOf 108 = .ok (.aload_n 0, 1) := by decide +kernel
theorem dX6_brotherOf_109 : decode cX6_brotherOf 109 = .ok (.getfield 12, 3) := by decide +kernel
theorem dX6_brotherOf_112 : decode cX6_brotherOf 112 = .ok (.iconst 1, 1) := by decide +kernel
theorem dX6_brotherOf_113 : decode cX6_brotherOf 113 = .ok (.iload_n 1, 1) := by decide +kernel
theorem dX6_brotherOf_114 : decode cX6_brotherOf 114 = .ok (.invokevirtual 121, 3) := by decide +kernel
theorem dX6_brotherOf_117 : decode cX6_brotherOf 117 = .ok (.ifCond .eq 15, 3) := by decide +kernel
theorem dX6_brotherOf_120 : decode cX6_brotherOf 120 = .ok (.aload_n 0, 1) := by decide +kernel
theorem dX6_brotherOf_121 : decode cX6_brotherOf 121 = .ok (.getfield 12, 3) := by decide +kernel
theorem dX6_brotherOf_124 : decode cX6_brotherOf 124 = .ok (.iconst 4, 1) := by decide +kernel
theorem dX6_brotherOf_125 : decode cX6_brotherOf 125 = .ok (.iload_n 1, 1) := by decide +kernel
theorem dX6_brotherOf_126 : decode cX6_brotherOf 126 = .ok (.invokevirtual 118, 3) := by decide +kernel
theorem dX6_brotherOf_129 : decode cX6_brotherOf 129 = .ok (.goto 5, 3) := by decide +kernel
theorem dX6_brotherOf_132 : decode cX6_brotherOf 132 = .ok (.bipush (-15), 2) := by decide +kernel
theorem dX6_brotherOf_134 : decode cX6_brotherOf 134 = .ok (.ireturn, 1) := by decide +kernel
theorem dX6_brotherOf_135 : decode cX6_brotherOf 135 = .ok (.aload_n 0, 1) := by decide +kernel
theorem dX6_brotherOf_136 : decode cX6_brotherOf 136 = .ok (.getfield 12, 3) := by decide +kernel
theorem dX6_brotherOf_139 : decode cX6_brotherOf 139 = .ok (.iconst 5, 1) := by decide +kernel
theorem dX6_brotherOf_140 : decode cX6_brotherOf 140 = .ok (.iload_n 1, 1) := by decide +kernel
theorem dX6_brotherOf_141 : decode cX6_brotherOf 141 = .ok (.invokevirtual 118, 3) := by decide +kernel
theorem dX6_brotherOf_144 : decode cX6_brotherOf 144 = .ok (.ireturn, 1) := by decide +kernel
theorem dX6_brotherOf_145 : decode cX6_brotherOf 145 = .ok (.aload_n 0, 1) := by decide +kernel
theorem dX6_brotherOf_146 : decode cX6_brotherOf 146 = .ok (.getfield 12, 3) := by decide +kernel
theorem dX6_brotherOf_149 : decode cX6_brotherOf 149 = .ok (.bipush 6, 2) := by decide +kernel
theorem dX6_brotherOf_151 : decode cX6_brotherOf 151 = .ok (.iload_n 1, 1) := by decide +kernel
theorem dX6_brotherOf_152 : decode cX6_brotherOf 152 = .ok (.invokevirtual 118, 3) := by decide +kernel
theorem dX6_brotherOf_155 : decode cX6_brotherOf 155 = .ok (.ireturn, 1) := by decide +kernel
theorem dX6_brotherOf_156 : decode cX6_brotherOf 156 = .ok (.aload_n 0, 1) := by decide +kernel
theorem dX6_brotherOf_157 : decode cX6_brotherOf 157 = .ok (.iload_n 1, 1) := by decide +kernel
theorem dX6_brotherOf_158 : decode cX6_brotherOf 158 = .ok (.invokevirtual 125, 3) := by decide +kernel
theorem dX6_brotherOf_161 : decode cX6_brotherOf 161 = .ok (.ireturn, 1) := by decide +kernel
theorem dX6_brotherOf_162 : decode cX6_brotherOf 162 = .ok (.aload_n 0, 1) := by decide +kernel
theorem dX6_brotherOf_163 : decode cX6_brotherOf 163 = .ok (.getfield 12, 3) := by decide +kernel
theorem dX6_brotherOf_166 : decode cX6_brotherOf 166 = .ok (.bipush 7, 2) := by decide +kernel
theorem dX6_brotherOf_168 : decode cX6_brotherOf 168 = .ok (.iload_n 1, 1) := by decide +kernel
theorem dX6_brotherOf_169 : decode cX6_brotherOf 169 = .ok (.invokevirtual 118, 3) := by decide +kernel
theorem dX6_brotherOf_172 : decode cX6_brotherOf 172 = .ok (.ireturn, 1) := by decide +kernel
theorem dX6_brotherOf_173 : decode cX6_brotherOf 173 = .ok (.aload_n 0, 1) := by decide +kernel
theorem dX6_brotherOf_174 : decode cX6_brotherOf 174 = .ok (.iload_n 1, 1) := by decide +kernel
theorem dX6_brotherOf_175 : decode cX6_brotherOf 175 = .ok (.invokevirtual 128, 3) := by decide +kernel
theorem dX6_brotherOf_178 : decode cX6_brotherOf 178 = .ok (.ireturn, 1) := by decide +kernel
theorem dX6_brotherOf_179 : decode cX6_brotherOf 179 = .ok (.bipush (-12), 2) := by decide +kernel
theorem dX6_brotherOf_181 : decode cX6_brotherOf 181 = .ok (.ireturn, 1) := by decide +kernel
theorem dX6_broke_0 : decode cX6_broke 0 = .ok (.aload_n 0, 1) := by decide +kernel
theorem dX6_broke_1 : decode cX6_broke 1 = .ok (.getfield 12, 3) := by decide +kernel
theorem dX6_broke_4 : decode cX6_broke 4 = .ok (.iload_n 1, 1) := by decide +kernel
theorem dX6_broke_5 : decode cX6_broke 5 = .ok (.invokevirtual 114, 3) := by decide +kernel
theorem dX6_broke_8 : decode cX6_broke 8 = .ok (.ifCond .eq 25, 3) := by decide +kernel
theorem dX6_broke_11 : decode cX6_broke 11 = .ok (.iload_n 2, 1) := by decide +kernel
theorem dX6_broke_12 : decode cX6_broke 12 = .ok (.invokestatic 131, 3) := by decide +kernel
theorem dX6_broke_15 : decode cX6_broke 15 = .ok (.ifCond .eq 18, 3) := by decide +kernel
theorem dX6_broke_18 : decode cX6_broke 18 = .ok (.aload_n 0, 1) := by decide +kernel
theorem dX6_broke_19 : decode cX6_broke 19 = .ok (.getfield 12, 3) := by decide +kernel
theorem dX6_broke_22 : decode cX6_broke 22 = .ok (.bipush 9, 2) := by decide +kernel
theorem dX6_broke_24 : decode cX6_broke 24 = .ok (.iload_n 2, 1) := by decide +kernel
theorem dX6_broke_25 : decode cX6_broke 25 = .ok (.iadd, 1) := by decide +kernel
theorem dX6_broke_26 : decode cX6_broke 26 = .ok (.iload_n 1, 1) := by decide +kernel
theorem dX6_broke_27 : decode cX6_broke 27 = .ok (.invokevirtual 118, 3) := by decide +kernel
theorem dX6_broke_30 : decode cX6_broke 30 = .ok (.goto 5, 3) := by decide +kernel
theorem dX6_broke_33 : decode cX6_broke 33 = .ok (.bipush (-11), 2) := by decide +kernel
theorem dX6_broke_35 : decode cX6_broke 35 = .ok (.ireturn, 1) := by decide +kernel
theorem dX6_inCell_0 : decode cX6_inCell 0 = .ok (.iload_n 1, 1) := by decide +kernel
theorem dX6_inCell_1 : decode cX6_inCell 1 = .ok (.invokestatic 134, 3) := by decide +kernel
theorem dX6_inCell_4 : decode cX6_inCell 4 = .ok (.ifCond .eq 18, 3) := by decide +kernel
theorem dX6_inCell_7 : decode cX6_inCell 7 = .ok (.aload_n 0, 1) := by decide +kernel
theorem dX6_inCell_8 : decode cX6_inCell 8 = .ok (.getfield 12, 3) := by decide +kernel
theorem dX6_inCell_11 : decode cX6_inCell 11 = .ok (.sipush 224, 3) := by decide +kernel
theorem dX6_inCell_14 : decode cX6_inCell 14 = .ok (.iload_n 1, 1) := by decide +kernel
theorem dX6_inCell_15 : decode cX6_inCell 15 = .ok (.iadd, 1) := by decide +kernel
theorem dX6_inCell_16 : decode cX6_inCell 16 = .ok (.invokevirtual 137, 3) := by decide +kernel
theorem dX6_inCell_19 : decode cX6_inCell 19 = .ok (.goto 5, 3) := by decide +kernel
theorem dX6_inCell_22 : decode cX6_inCell 22 = .ok (.bipush (-11), 2) := by decide +kernel
theorem dX6_inCell_24 : decode cX6_inCell 24 = .ok (.ireturn, 1) := by decide +kernel
theorem dX6_entitled_0 : decode cX6_entitled 0 = .ok (.iconst 0, 1) := by decide +kernel
theorem dX6_entitled_1 : decode cX6_entitled 1 = .ok (.istore_n 1, 1) := by decide +kernel
theorem dX6_entitled_2 : decode cX6_entitled 2 = .ok (.iconst 0, 1) := by decide +kernel
theorem dX6_entitled_3 : decode cX6_entitled 3 = .ok (.istore_n 2, 1) := by decide +kernel
theorem dX6_entitled_4 : decode cX6_entitled 4 = .ok (.iload_n 2, 1) := by decide +kernel
theorem dX6_entitled_5 : decode cX6_entitled 5 = .ok (.bipush 16, 2) := by decide +kernel
theorem dX6_entitled_7 : decode cX6_entitled 7 = .ok (.if_icmp .ge 26, 3) := by decide +kernel
theorem dX6_entitled_10 : decode cX6_entitled 10 = .ok (.aload_n 0, 1) := by decide +kernel
theorem dX6_entitled_11 : decode cX6_entitled 11 = .ok (.getfield 12, 3) := by decide +kernel
theorem dX6_entitled_14 : decode cX6_entitled 14 = .ok (.iload_n 2, 1) := by decide +kernel
theorem dX6_entitled_15 : decode cX6_entitled 15 = .ok (.invokevirtual 140, 3) := by decide +kernel
theorem dX6_entitled_18 : decode cX6_entitled 18 = .ok (.ifCond .eq 9, 3) := by decide +kernel
theorem dX6_entitled_21 : decode cX6_entitled 21 = .ok (.iload_n 1, 1) := by decide +kernel
theorem dX6_entitled_22 : decode cX6_entitled 22 = .ok (.iconst 1, 1) := by decide +kernel
theorem dX6_entitled_23 : decode cX6_entitled 23 = .ok (.iload_n 2, 1) := by decide +kernel
theorem dX6_entitled_24 : decode cX6_entitled 24 = .ok (.ishl, 1) := by decide +kernel
theorem dX6_entitled_25 : decode cX6_entitled 25 = .ok (.ior, 1) := by decide +kernel
theorem dX6_entitled_26 : decode cX6_entitled 26 = .ok (.istore_n 1, 1) := by decide +kernel
theorem dX6_entitled_27 : decode cX6_entitled 27 = .ok (.iinc 2 1, 3) := by decide +kernel
theorem dX6_entitled_30 : decode cX6_entitled 30 = .ok (.goto (-26), 3) := by decide +kernel
theorem dX6_entitled_33 : decode cX6_entitled 33 = .ok (.iload_n 1, 1) := by decide +kernel
theorem dX6_entitled_34 : decode cX6_entitled 34 = .ok (.ireturn, 1) := by decide +kernel
theorem dX6_entitledAgain_0 : decode cX6_entitledAgain 0 = .ok (.iconst 0, 1) := by decide +kernel
theorem dX6_entitledAgain_1 : decode cX6_entitledAgain 1 = .ok (.istore_n 1, 1) := by decide +kernel
theorem dX6_entitledAgain_2 : decode cX6_entitledAgain 2 = .ok (.iconst 0, 1) := by decide +kernel
theorem dX6_entitledAgain_3 : decode cX6_entitledAgain 3 = .ok (.istore_n 2, 1) := by decide +kernel
theorem dX6_entitledAgain_4 : decode cX6_entitledAgain 4 = .ok (.iload_n 2, 1) := by decide +kernel
theorem dX6_entitledAgain_5 : decode cX6_entitledAgain 5 = .ok (.bipush 8, 2) := by decide +kernel
theorem dX6_entitledAgain_7 : decode cX6_entitledAgain 7 = .ok (.if_icmp .ge 51, 3) := by decide +kernel
theorem dX6_entitledAgain_10 : decode cX6_entitledAgain 10 = .ok (.aload_n 0, 1) := by decide +kernel
theorem dX6_entitledAgain_11 : decode cX6_entitledAgain 11 = .ok (.getfield 12, 3) := by decide +kernel
theorem dX6_entitledAgain_14 : decode cX6_entitledAgain 14 = .ok (.sipush 224, 3) := by decide +kernel
theorem dX6_entitledAgain_17 : decode cX6_entitledAgain 17 = .ok (.iload_n 2, 1) := by decide +kernel
theorem dX6_entitledAgain_18 : decode cX6_entitledAgain 18 = .ok (.iadd, 1) := by decide +kernel
theorem dX6_entitledAgain_19 : decode cX6_entitledAgain 19 = .ok (.invokevirtual 137, 3) := by decide +kernel
theorem dX6_entitledAgain_22 : decode cX6_entitledAgain 22 = .ok (.istore_n 3, 1) := by decide +kernel
theorem dX6_entitledAgain_23 : decode cX6_entitledAgain 23 = .ok (.aload_n 0, 1) := by decide +kernel
theorem dX6_entitledAgain_24 : decode cX6_entitledAgain 24 = .ok (.getfield 12, 3) := by decide +kernel
theorem dX6_entitledAgain_27 : decode cX6_entitledAgain 27 = .ok (.iload_n 3, 1) := by decide +kernel
theorem dX6_entitledAgain_28 : decode cX6_entitledAgain 28 = .ok (.invokevirtual 114, 3) := by decide +kernel
theorem dX6_entitledAgain_31 : decode cX6_entitledAgain 31 = .ok (.ifCond .eq 21, 3) := by decide +kernel
theorem dX6_entitledAgain_34 : decode cX6_entitledAgain 34 = .ok (.aload_n 0, 1) := by decide +kernel
theorem dX6_entitledAgain_35 : decode cX6_entitledAgain 35 = .ok (.getfield 12, 3) := by decide +kernel
theorem dX6_entitledAgain_38 : decode cX6_entitledAgain 38 = .ok (.iconst 5, 1) := by decide +kernel
theorem dX6_entitledAgain_39 : decode cX6_entitledAgain 39 = .ok (.iload_n 3, 1) := by decide +kernel
theorem dX6_entitledAgain_40 : decode cX6_entitledAgain 40 = .ok (.invokevirtual 118, 3) := by decide +kernel
theorem dX6_entitledAgain_43 : decode cX6_entitledAgain 43 = .ok (.ifCond .ne 9, 3) := by decide +kernel
theorem dX6_entitledAgain_46 : decode cX6_entitledAgain 46 = .ok (.iload_n 1, 1) := by decide +kernel
theorem dX6_entitledAgain_47 : decode cX6_entitledAgain 47 = .ok (.iconst 1, 1) := by decide +kernel
theorem dX6_entitledAgain_48 : decode cX6_entitledAgain 48 = .ok (.iload_n 3, 1) := by decide +kernel
theorem dX6_entitledAgain_49 : decode cX6_entitledAgain 49 = .ok (.ishl, 1) := by decide +kernel
theorem dX6_entitledAgain_50 : decode cX6_entitledAgain 50 = .ok (.ior, 1) := by decide +kernel
theorem dX6_entitledAgain_51 : decode cX6_entitledAgain 51 = .ok (.istore_n 1, 1) := by decide +kernel
theorem dX6_entitledAgain_52 : decode cX6_entitledAgain 52 = .ok (.iinc 2 1, 3) := by decide +kernel
theorem dX6_entitledAgain_55 : decode cX6_entitledAgain 55 = .ok (.goto (-51), 3) := by decide +kernel
theorem dX6_entitledAgain_58 : decode cX6_entitledAgain 58 = .ok (.iload_n 1, 1) := by decide +kernel
theorem dX6_entitledAgain_59 : decode cX6_entitledAgain 59 = .ok (.ireturn, 1) := by decide +kernel
theorem dX6_voices_0 : decode cX6_voices 0 = .ok (.aload_n 0, 1) := by decide +kernel
theorem dX6_voices_1 : decode cX6_voices 1 = .ok (.getfield 12, 3) := by decide +kernel
theorem dX6_voices_4 : decode cX6_voices 4 = .ok (.iload_n 1, 1) := by decide +kernel
theorem dX6_voices_5 : decode cX6_voices 5 = .ok (.invokevirtual 114, 3) := by decide +kernel
theorem dX6_voices_8 : decode cX6_voices 8 = .ok (.ifCond .eq 14, 3) := by decide +kernel
theorem dX6_voices_11 : decode cX6_voices 11 = .ok (.aload_n 0, 1) := by decide +kernel
theorem dX6_voices_12 : decode cX6_voices 12 = .ok (.getfield 12, 3) := by decide +kernel
theorem dX6_voices_15 : decode cX6_voices 15 = .ok (.iload_n 1, 1) := by decide +kernel
theorem dX6_voices_16 : decode cX6_voices 16 = .ok (.invokevirtual 143, 3) := by decide +kernel
theorem dX6_voices_19 : decode cX6_voices 19 = .ok (.goto 5, 3) := by decide +kernel
theorem dX6_voices_22 : decode cX6_voices 22 = .ok (.bipush (-11), 2) := by decide +kernel
theorem dX6_voices_24 : decode cX6_voices 24 = .ok (.ireturn, 1) := by decide +kernel
theorem dX6_voicesAgain_0 : decode cX6_voicesAgain 0 = .ok (.aload_n 0, 1) := by decide +kernel
theorem dX6_voicesAgain_1 : decode cX6_voicesAgain 1 = .ok (.getfield 12, 3) := by decide +kernel
theorem dX6_voicesAgain_4 : decode cX6_voicesAgain 4 = .ok (.iload_n 1, 1) := by decide +kernel
theorem dX6_voicesAgain_5 : decode cX6_voicesAgain 5 = .ok (.invokevirtual 114, 3) := by decide +kernel
theorem dX6_voicesAgain_8 : decode cX6_voicesAgain 8 = .ok (.ifCond .ne 6, 3) := by decide +kernel
theorem dX6_voicesAgain_11 : decode cX6_voicesAgain 11 = .ok (.bipush (-11), 2) := by decide +kernel
theorem dX6_voicesAgain_13 : decode cX6_voicesAgain 13 = .ok (.ireturn, 1) := by decide +kernel
theorem dX6_voicesAgain_14 : decode cX6_voicesAgain 14 = .ok (.aload_n 0, 1) := by decide +kernel
theorem dX6_voicesAgain_15 : decode cX6_voicesAgain 15 = .ok (.invokevirtual 146, 3) := by decide +kernel
theorem dX6_voicesAgain_18 : decode cX6_voicesAgain 18 = .ok (.iload_n 1, 1) := by decide +kernel
theorem dX6_voicesAgain_19 : decode cX6_voicesAgain 19 = .ok (.ifCond .lt 21, 3) := by decide +kernel
theorem dX6_voicesAgain_22 : decode cX6_voicesAgain 22 = .ok (.iload_n 1, 1) := by decide +kernel
theorem dX6_voicesAgain_23 : decode cX6_voicesAgain 23 = .ok (.aload_n 0, 1) := by decide +kernel
theorem dX6_voicesAgain_24 : decode cX6_voicesAgain 24 = .ok (.getfield 59, 3) := by decide +kernel
theorem dX6_voicesAgain_27 : decode cX6_voicesAgain 27 = .ok (.arraylength, 1) := by decide +kernel
theorem dX6_voicesAgain_28 : decode cX6_voicesAgain 28 = .ok (.if_icmp .ge 12, 3) := by decide +kernel
theorem dX6_voicesAgain_31 : decode cX6_voicesAgain 31 = .ok (.aload_n 0, 1) := by decide +kernel
theorem dX6_voicesAgain_32 : decode cX6_voicesAgain 32 = .ok (.getfield 59, 3) := by decide +kernel
theorem dX6_voicesAgain_35 : decode cX6_voicesAgain 35 = .ok (.iload_n 1, 1) := by decide +kernel
theorem dX6_voicesAgain_36 : decode cX6_voicesAgain 36 = .ok (.iaload, 1) := by decide +kernel
theorem dX6_voicesAgain_37 : decode cX6_voicesAgain 37 = .ok (.goto 4, 3) := by decide +kernel
theorem dX6_voicesAgain_40 : decode cX6_voicesAgain 40 = .ok (.iconst 0, 1) := by decide +kernel
theorem dX6_voicesAgain_41 : decode cX6_voicesAgain 41 = .ok (.ireturn, 1) := by decide +kernel
theorem dX6_ranked_0 : decode cX6_ranked 0 = .ok (.aload_n 0, 1) := by decide +kernel
theorem dX6_ranked_1 : decode cX6_ranked 1 = .ok (.getfield 29, 3) := by decide +kernel
theorem dX6_ranked_4 : decode cX6_ranked 4 = .ok (.aload_n 0, 1) := by decide +kernel
theorem dX6_ranked_5 : decode cX6_ranked 5 = .ok (.getfield 12, 3) := by decide +kernel
theorem dX6_ranked_8 : decode cX6_ranked 8 = .ok (.iload_n 1, 1) := by decide +kernel
theorem dX6_ranked_9 : decode cX6_ranked 9 = .ok (.invokevirtual 149, 3) := by decide +kernel
theorem dX6_ranked_12 : decode cX6_ranked 12 = .ok (.ireturn, 1) := by decide +kernel
theorem dX6_senior_0 : decode cX6_senior 0 = .ok (.aload_n 0, 1) := by decide +kernel
theorem dX6_senior_1 : decode cX6_senior 1 = .ok (.getfield 29, 3) := by decide +kernel
theorem dX6_senior_4 : decode cX6_senior 4 = .ok (.aload_n 0, 1) := by decide +kernel
theorem dX6_senior_5 : decode cX6_senior 5 = .ok (.getfield 12, 3) := by decide +kernel
theorem dX6_senior_8 : decode cX6_senior 8 = .ok (.iload_n 1, 1) := by decide +kernel
theorem dX6_senior_9 : decode cX6_senior 9 = .ok (.invokevirtual 153, 3) := by decide +kernel
theorem dX6_senior_12 : decode cX6_senior 12 = .ok (.ireturn, 1) := by decide +kernel
theorem dX6_shabby_0 : decode cX6_shabby 0 = .ok (.aload_n 0, 1) := by decide +kernel
theorem dX6_shabby_1 : decode cX6_shabby 1 = .ok (.getfield 29, 3) := by decide +kernel
theorem dX6_shabby_4 : decode cX6_shabby 4 = .ok (.aload_n 0, 1) := by decide +kernel
theorem dX6_shabby_5 : decode cX6_shabby 5 = .ok (.getfield 12, 3) := by decide +kernel
theorem dX6_shabby_8 : decode cX6_shabby 8 = .ok (.iload_n 1, 1) := by decide +kernel
theorem dX6_shabby_9 : decode cX6_shabby 9 = .ok (.invokevirtual 156, 3) := by decide +kernel
theorem dX6_shabby_12 : decode cX6_shabby 12 = .ok (.ireturn, 1) := by decide +kernel
theorem dX6_nextFeast_0 : decode cX6_nextFeast 0 = .ok (.iconst 0, 1) := by decide +kernel
theorem dX6_nextFeast_1 : decode cX6_nextFeast 1 = .ok (.istore_n 1, 1) := by decide +kernel
theorem dX6_nextFeast_2 : decode cX6_nextFeast 2 = .ok (.iload_n 1, 1) := by decide +kernel
theorem dX6_nextFeast_3 : decode cX6_nextFeast 3 = .ok (.bipush 52, 2) := by decide +kernel
theorem dX6_nextFeast_5 : decode cX6_nextFeast 5 = .ok (.if_icmp .ge 36, 3) := by decide +kernel
theorem dX6_nextFeast_8 : decode cX6_nextFeast 8 = .ok (.aload_n 0, 1) := by decide +kernel
theorem dX6_nextFeast_9 : decode cX6_nextFeast 9 = .ok (.getfield 12, 3) := by decide +kernel
theorem dX6_nextFeast_12 : decode cX6_nextFeast 12 = .ok (.aload_n 0, 1) := by decide +kernel
theorem dX6_nextFeast_13 : decode cX6_nextFeast 13 = .ok (.getfield 12, 3) := by decide +kernel
theorem dX6_nextFeast_16 : decode cX6_nextFeast 16 = .ok (.sipush 287, 3) := by decide +kernel
theorem dX6_nextFeast_19 : decode cX6_nextFeast 19 = .ok (.invokevirtual 137, 3) := by decide +kernel
theorem dX6_nextFeast_22 : decode cX6_nextFeast 22 = .ok (.iload_n 1, 1) := by decide +kernel
theorem dX6_nextFeast_23 : decode cX6_nextFeast 23 = .ok (.iadd, 1) := by decide +kernel
theorem dX6_nextFeast_24 : decode cX6_nextFeast 24 = .ok (.bipush 52, 2) := by decide +kernel
theorem dX6_nextFeast_26 : decode cX6_nextFeast 26 = .ok (.irem, 1) := by decide +kernel
theorem dX6_nextFeast_27 : decode cX6_nextFeast 27 = .ok (.invokevirtual 159, 3) := by decide +kernel
theorem dX6_nextFeast_30 : decode cX6_nextFeast 30 = .ok (.ifCond .le 5, 3) := by decide +kernel
theorem dX6_nextFeast_33 : decode cX6_nextFeast 33 = .ok (.iload_n 1, 1) := by decide +kernel
theorem dX6_nextFeast_34 : decode cX6_nextFeast 34 = .ok (.ireturn, 1) := by decide +kernel
theorem dX6_nextFeast_35 : decode cX6_nextFeast 35 = .ok (.iinc 1 1, 3) := by decide +kernel
theorem dX6_nextFeast_38 : decode cX6_nextFeast 38 = .ok (.goto (-36), 3) := by decide +kernel
theorem dX6_nextFeast_41 : decode cX6_nextFeast 41 = .ok (.bipush (-15), 2) := by decide +kernel
theorem dX6_nextFeast_43 : decode cX6_nextFeast 43 = .ok (.ireturn, 1) := by decide +kernel
theorem dX6_wouldGet_0 : decode cX6_wouldGet 0 = .ok (.aload_n 0, 1) := by decide +kernel
theorem dX6_wouldGet_1 : decode cX6_wouldGet 1 = .ok (.getfield 12, 3) := by decide +kernel
theorem dX6_wouldGet_4 : decode cX6_wouldGet 4 = .ok (.iload_n 1, 1) := by decide +kernel
theorem dX6_wouldGet_5 : decode cX6_wouldGet 5 = .ok (.invokevirtual 114, 3) := by decide +kernel
theorem dX6_wouldGet_8 : decode cX6_wouldGet 8 = .ok (.ifCond .ne 6, 3) := by decide +kernel
theorem dX6_wouldGet_11 : decode cX6_wouldGet 11 = .ok (.bipush (-11), 2) := by decide +kernel
theorem dX6_wouldGet_13 : decode cX6_wouldGet 13 = .ok (.ireturn, 1) := by decide +kernel
theorem dX6_wouldGet_14 : decode cX6_wouldGet 14 = .ok (.iload_n 2, 1) := by decide +kernel
theorem dX6_wouldGet_15 : decode cX6_wouldGet 15 = .ok (.ifCond .lt 9, 3) := by decide +kernel
theorem dX6_wouldGet_18 : decode cX6_wouldGet 18 = .ok (.iload_n 2, 1) := by decide +kernel
theorem dX6_wouldGet_19 : decode cX6_wouldGet 19 = .ok (.bipush 60, 2) := by decide +kernel
theorem dX6_wouldGet_21 : decode cX6_wouldGet 21 = .ok (.if_icmp .le 6, 3) := by decide +kernel
theorem dX6_wouldGet_24 : decode cX6_wouldGet 24 = .ok (.bipush (-12), 2) := by decide +kernel
theorem dX6_wouldGet_26 : decode cX6_wouldGet 26 = .ok (.ireturn, 1) := by decide +kernel
theorem dX6_wouldGet_27 : decode cX6_wouldGet 27 = .ok (.aload_n 0, 1) := by decide +kernel
theorem dX6_wouldGet_28 : decode cX6_wouldGet 28 = .ok (.invokevirtual 74, 3) := by decide +kernel
theorem dX6_wouldGet_31 : decode cX6_wouldGet 31 = .ok (.iload_n 2, 1) := by decide +kernel
theorem dX6_wouldGet_32 : decode cX6_wouldGet 32 = .ok (.invokevirtual 162, 3) := by decide +kernel
theorem dX6_wouldGet_35 : decode cX6_wouldGet 35 = .ok (.bipush 6, 2) := by decide +kernel
theorem dX6_wouldGet_37 : decode cX6_wouldGet 37 = .ok (.iload_n 1, 1) := by decide +kernel
theorem dX6_wouldGet_38 : decode cX6_wouldGet 38 = .ok (.invokevirtual 118, 3) := by decide +kernel
theorem dX6_wouldGet_41 : decode cX6_wouldGet 41 = .ok (.aload_n 0, 1) := by decide +kernel
theorem dX6_wouldGet_42 : decode cX6_wouldGet 42 = .ok (.getfield 12, 3) := by decide +kernel
theorem dX6_wouldGet_45 : decode cX6_wouldGet 45 = .ok (.bipush 6, 2) := by decide +kernel
theorem dX6_wouldGet_47 : decode cX6_wouldGet 47 = .ok (.iload_n 1, 1) := by decide +kernel
theorem dX6_wouldGet_48 : decode cX6_wouldGet 48 = .ok (.invokevirtual 118, 3) := by decide +kernel
theorem dX6_wouldGet_51 : decode cX6_wouldGet 51 = .ok (.isub, 1) := by decide +kernel
theorem dX6_wouldGet_52 : decode cX6_wouldGet 52 = .ok (.ireturn, 1) := by decide +kernel
theorem dX6_chestIn_0 : decode cX6_chestIn 0 = .ok (.iload_n 1, 1) := by decide +kernel
theorem dX6_chestIn_1 : decode cX6_chestIn 1 = .ok (.ifCond .lt 9, 3) := by decide +kernel
theorem dX6_chestIn_4 : decode cX6_chestIn 4 = .ok (.iload_n 1, 1) := by decide +kernel
theorem dX6_chestIn_5 : decode cX6_chestIn 5 = .ok (.bipush 60, 2) := by decide +kernel
theorem dX6_chestIn_7 : decode cX6_chestIn 7 = .ok (.if_icmp .le 8, 3) := by decide +kernel
theorem dX6_chestIn_10 : decode cX6_chestIn 10 = .ok (.bipush (-12), 2) := by decide +kernel
theorem dX6_chestIn_12 : decode cX6_chestIn 12 = .ok (.goto 17, 3) := by decide +kernel
theorem dX6_chestIn_15 : decode cX6_chestIn 15 = .ok (.aload_n 0, 1) := by decide +kernel
theorem dX6_chestIn_16 : decode cX6_chestIn 16 = .ok (.invokevirtual 74, 3) := by decide +kernel
theorem dX6_chestIn_19 : decode cX6_chestIn 19 = .ok (.iload_n 1, 1) := by decide +kernel
theorem dX6_chestIn_20 : decode cX6_chestIn 20 = .ok (.invokevirtual 162, 3) := by decide +kernel
theorem dX6_chestIn_23 : decode cX6_chestIn 23 = .ok (.sipush 288, 3) := by decide +kernel
theorem dX6_chestIn_26 : decode cX6_chestIn 26 = .ok (.invokevirtual 137, 3) := by decide +kernel
theorem dX6_chestIn_29 : decode cX6_chestIn 29 = .ok (.ireturn, 1) := by decide +kernel
theorem dX6_append_0 : decode cX6_append 0 = .ok (.iload_n 1, 1) := by decide +kernel
theorem dX6_append_1 : decode cX6_append 1 = .ok (.bipush 32, 2) := by decide +kernel
theorem dX6_append_3 : decode cX6_append 3 = .ok (.if_icmp .lt 9, 3) := by decide +kernel
theorem dX6_append_6 : decode cX6_append 6 = .ok (.iload_n 1, 1) := by decide +kernel
theorem dX6_append_7 : decode cX6_append 7 = .ok (.bipush 126, 2) := by decide +kernel
theorem dX6_append_9 : decode cX6_append 9 = .ok (.if_icmp .le 6, 3) := by decide +kernel
theorem dX6_append_12 : decode cX6_append 12 = .ok (.bipush (-12), 2) := by decide +kernel
theorem dX6_append_14 : decode cX6_append 14 = .ok (.ireturn, 1) := by decide +kernel
theorem dX6_append_15 : decode cX6_append 15 = .ok (.aload_n 0, 1) := by decide +kernel
theorem dX6_append_16 : decode cX6_append 16 = .ok (.getfield 52, 3) := by decide +kernel
theorem dX6_append_19 : decode cX6_append 19 = .ok (.invokevirtual 166, 3) := by decide +kernel
theorem dX6_append_22 : decode cX6_append 22 = .ok (.bipush 60, 2) := by decide +kernel
theorem dX6_append_24 : decode cX6_append 24 = .ok (.if_icmp .lt 6, 3) := by decide +kernel
theorem dX6_append_27 : decode cX6_append 27 = .ok (.bipush (-13), 2) := by decide +kernel
theorem dX6_append_29 : decode cX6_append 29 = .ok (.ireturn, 1) := by decide +kernel
theorem dX6_append_30 : decode cX6_append 30 = .ok (.aload_n 0, 1) := by decide +kernel
theorem dX6_append_31 : decode cX6_append 31 = .ok (.getfield 52, 3) := by decide +kernel
theorem dX6_append_34 : decode cX6_append 34 = .ok (.iload_n 1, 1) := by decide +kernel
theorem dX6_append_35 : decode cX6_append 35 = .ok (.invokevirtual 170, 3) := by decide +kernel
theorem dX6_append_38 : decode cX6_append 38 = .ok (.aload_n 0, 1) := by decide +kernel
theorem dX6_append_39 : decode cX6_append 39 = .ok (.getfield 52, 3) := by decide +kernel
theorem dX6_append_42 : decode cX6_append 42 = .ok (.invokevirtual 166, 3) := by decide +kernel
theorem dX6_append_45 : decode cX6_append 45 = .ok (.ireturn, 1) := by decide +kernel
theorem dX6_run_0 : decode cX6_run 0 = .ok (.aload_n 0, 1) := by decide +kernel
theorem dX6_run_1 : decode cX6_run 1 = .ok (.getfield 43, 3) := by decide +kernel
theorem dX6_run_4 : decode cX6_run 4 = .ok (.aload_n 0, 1) := by decide +kernel
theorem dX6_run_5 : decode cX6_run 5 = .ok (.getfield 52, 3) := by decide +kernel
theorem dX6_run_8 : decode cX6_run 8 = .ok (.invokevirtual 173, 3) := by decide +kernel
theorem dX6_run_11 : decode cX6_run 11 = .ok (.istore_n 1, 1) := by decide +kernel
theorem dX6_run_12 : decode cX6_run 12 = .ok (.aload_n 0, 1) := by decide +kernel
theorem dX6_run_13 : decode cX6_run 13 = .ok (.getfield 52, 3) := by decide +kernel
theorem dX6_run_16 : decode cX6_run 16 = .ok (.invokevirtual 177, 3) := by decide +kernel
theorem dX6_run_19 : decode cX6_run 19 = .ok (.iload_n 1, 1) := by decide +kernel
theorem dX6_run_20 : decode cX6_run 20 = .ok (.ifCond .lt 9, 3) := by decide +kernel
theorem dX6_run_23 : decode cX6_run 23 = .ok (.sipush (-1000), 3) := by decide +kernel
theorem dX6_run_26 : decode cX6_run 26 = .ok (.iload_n 1, 1) := by decide +kernel
theorem dX6_run_27 : decode cX6_run 27 = .ok (.isub, 1) := by decide +kernel
theorem dX6_run_28 : decode cX6_run 28 = .ok (.ireturn, 1) := by decide +kernel
theorem dX6_run_29 : decode cX6_run 29 = .ok (.aload_n 0, 1) := by decide +kernel
theorem dX6_run_30 : decode cX6_run 30 = .ok (.invokevirtual 74, 3) := by decide +kernel
theorem dX6_run_33 : decode cX6_run 33 = .ok (.astore_n 2, 1) := by decide +kernel
theorem dX6_run_34 : decode cX6_run 34 = .ok (.iconst 0, 1) := by decide +kernel
theorem dX6_run_35 : decode cX6_run 35 = .ok (.istore_n 3, 1) := by decide +kernel
theorem dX6_run_36 : decode cX6_run 36 = .ok (.iload_n 3, 1) := by decide +kernel
theorem dX6_run_37 : decode cX6_run 37 = .ok (.aload_n 0, 1) := by decide +kernel
theorem dX6_run_38 : decode cX6_run 38 = .ok (.getfield 43, 3) := by decide +kernel
theorem dX6_run_41 : decode cX6_run 41 = .ok (.invokevirtual 180, 3) := by decide +kernel
theorem dX6_run_44 : decode cX6_run 44 = .ok (.if_icmp .ge 52, 3) := by decide +kernel
theorem dX6_run_47 : decode cX6_run 47 = .ok (.aload_n 2, 1) := by decide +kernel
theorem dX6_run_48 : decode cX6_run 48 = .ok (.aload_n 0, 1) := by decide +kernel
theorem dX6_run_49 : decode cX6_run 49 = .ok (.getfield 43, 3) := by decide +kernel
theorem dX6_run_52 : decode cX6_run 52 = .ok (.iload_n 3, 1) := by decide +kernel
theorem dX6_run_53 : decode cX6_run 53 = .ok (.invokevirtual 181, 3) := by decide +kernel
theorem dX6_run_56 : decode cX6_run 56 = .ok (.aload_n 0, 1) := by decide +kernel
theorem dX6_run_57 : decode cX6_run 57 = .ok (.getfield 43, 3) := by decide +kernel
theorem dX6_run_60 : decode cX6_run 60 = .ok (.iload_n 3, 1) := by decide +kernel
theorem dX6_run_61 : decode cX6_run 61 = .ok (.invokevirtual 184, 3) := by decide +kernel
theorem dX6_run_64 : decode cX6_run 64 = .ok (.aload_n 0, 1) := by decide +kernel
theorem dX6_run_65 : decode cX6_run 65 = .ok (.getfield 43, 3) := by decide +kernel
theorem dX6_run_68 : decode cX6_run 68 = .ok (.iload_n 3, 1) := by decide +kernel
theorem dX6_run_69 : decode cX6_run 69 = .ok (.invokevirtual 187, 3) := by decide +kernel
theorem dX6_run_72 : decode cX6_run 72 = .ok (.invokevirtual 190, 3) := by decide +kernel
theorem dX6_run_75 : decode cX6_run 75 = .ok (.ifCond .ge 15, 3) := by decide +kernel
theorem dX6_run_78 : decode cX6_run 78 = .ok (.aload_n 0, 1) := by decide +kernel
theorem dX6_run_79 : decode cX6_run 79 = .ok (.aload_n 2, 1) := by decide +kernel
theorem dX6_run_80 : decode cX6_run 80 = .ok (.bipush 11, 2) := by decide +kernel
theorem dX6_run_82 : decode cX6_run 82 = .ok (.iload_n 3, 1) := by decide +kernel
theorem dX6_run_83 : decode cX6_run 83 = .ok (.invokevirtual 194, 3) := by decide +kernel
theorem dX6_run_86 : decode cX6_run 86 = .ok (.invokevirtual 82, 3) := by decide +kernel
theorem dX6_run_89 : decode cX6_run 89 = .ok (.ireturn, 1) := by decide +kernel
theorem dX6_run_90 : decode cX6_run 90 = .ok (.iinc 3 1, 3) := by decide +kernel
theorem dX6_run_93 : decode cX6_run 93 = .ok (.goto (-57), 3) := by decide +kernel
theorem dX6_run_96 : decode cX6_run 96 = .ok (.aload_n 0, 1) := by decide +kernel
theorem dX6_run_97 : decode cX6_run 97 = .ok (.aload_n 0, 1) := by decide +kernel
theorem dX6_run_98 : decode cX6_run 98 = .ok (.getfield 43, 3) := by decide +kernel
theorem dX6_run_101 : decode cX6_run 101 = .ok (.invokevirtual 180, 3) := by decide +kernel
theorem dX6_run_104 : decode cX6_run 104 = .ok (.invokevirtual 82, 3) := by decide +kernel
theorem dX6_run_107 : decode cX6_run 107 = .ok (.ireturn, 1) := by decide +kernel
theorem dX6_account_0 : decode cX6_account 0 = .ok (.iload_n 1, 1) := by decide +kernel
theorem dX6_account_1 : decode cX6_account 1 = .ok (.tableswitch 247 0 16 #[83, 94, 105, 116, 125, 134, 143, 152, 157, 165, 176, 187, 198, 209, 220, 231, 239], 83) := by decide +kernel
theorem dX6_account_84 : decode cX6_account 84 = .ok (.aload_n 0, 1) := by decide +kernel
theorem dX6_account_85 : decode cX6_account 85 = .ok (.getfield 12, 3) := by decide +kernel
theorem dX6_account_88 : decode cX6_account 88 = .ok (.sipush 286, 3) := by decide +kernel
theorem dX6_account_91 : decode cX6_account 91 = .ok (.invokevirtual 137, 3) := by decide +kernel
theorem dX6_account_94 : decode cX6_account 94 = .ok (.ireturn, 1) := by decide +kernel
theorem dX6_account_95 : decode cX6_account 95 = .ok (.aload_n 0, 1) := by decide +kernel
theorem dX6_account_96 : decode cX6_account 96 = .ok (.getfield 12, 3) := by decide +kernel
theorem dX6_account_99 : decode cX6_account 99 = .ok (.sipush 287, 3) := by decide +kernel
theorem dX6_account_102 : decode cX6_account 102 = .ok (.invokevirtual 137, 3) := by decide +kernel
theorem dX6_account_105 : decode cX6_account 105 = .ok (.ireturn, 1) := by decide +kernel
theorem dX6_account_106 : decode cX6_account 106 = .ok (.aload_n 0, 1) := by decide +kernel
theorem dX6_account_107 : decode cX6_account 107 = .ok (.getfield 12, 3) := by decide +kernel
theorem dX6_account_110 : decode cX6_account 110 = .ok (.sipush 284, 3) := by decide +kernel
theorem dX6_account_113 : decode cX6_account 113 = .ok (.invokevirtual 137, 3) := by decide +kernel
theorem dX6_account_116 : decode cX6_account 116 = .ok (.ireturn, 1) := by decide +kernel
theorem dX6_account_117 : decode cX6_account 117 = .ok (.aload_n 0, 1) := by decide +kernel
theorem dX6_account_118 : decode cX6_account 118 = .ok (.getfield 12, 3) := by decide +kernel
theorem dX6_account_121 : decode cX6_account 121 = .ok (.iconst 0, 1) := by decide +kernel
theorem dX6_account_122 : decode cX6_account 122 = .ok (.invokevirtual 206, 3) := by decide +kernel
theorem dX6_account_125 : decode cX6_account 125 = .ok (.ireturn, 1) := by decide +kernel
theorem dX6_account_126 : decode cX6_account 126 = .ok (.aload_n 0, 1) := by decide +kernel
theorem dX6_account_127 : decode cX6_account 127 = .ok (.getfield 12, 3) := by decide +kernel
theorem dX6_account_130 : decode cX6_account 130 = .ok (.iconst 1, 1) := by decide +kernel
theorem dX6_account_131 : decode cX6_account 131 = .ok (.invokevirtual 206, 3) := by decide +kernel
theorem dX6_account_134 : decode cX6_account 134 = .ok (.ireturn, 1) := by decide +kernel
theorem dX6_account_135 : decode cX6_account 135 = .ok (.aload_n 0, 1) := by decide +kernel
theorem dX6_account_136 : decode cX6_account 136 = .ok (.getfield 12, 3) := by decide +kernel
theorem dX6_account_139 : decode cX6_account 139 = .ok (.iconst 2, 1) := by decide +kernel
theorem dX6_account_140 : decode cX6_account 140 = .ok (.invokevirtual 206, 3) := by decide +kernel
theorem dX6_account_143 : decode cX6_account 143 = .ok (.ireturn, 1) := by decide +kernel
theorem dX6_account_144 : decode cX6_account 144 = .ok (.aload_n 0, 1) := by decide +kernel
theorem dX6_account_145 : decode cX6_account 145 = .ok (.getfield 12, 3) := by decide +kernel
theorem dX6_account_148 : decode cX6_account 148 = .ok (.iconst 3, 1) := by decide +kernel
theorem dX6_account_149 : decode cX6_account 149 = .ok (.invokevirtual 206, 3) := by decide +kernel
theorem dX6_account_152 : decode cX6_account 152 = .ok (.ireturn, 1) := by decide +kernel
theorem dX6_account_153 : decode cX6_account 153 = .ok (.aload_n 0, 1) := by decide +kernel
theorem dX6_account_154 : decode cX6_account 154 = .ok (.invokevirtual 209, 3) := by decide +kernel
theorem dX6_account_157 : decode cX6_account 157 = .ok (.ireturn, 1) := by decide +kernel
theorem dX6_account_158 : decode cX6_account 158 = .ok (.aload_n 0, 1) := by decide +kernel
theorem dX6_account_159 : decode cX6_account 159 = .ok (.getfield 12, 3) := by decide +kernel
theorem dX6_account_162 : decode cX6_account 162 = .ok (.invokevirtual 212, 3) := by decide +kernel
theorem dX6_account_165 : decode cX6_account 165 = .ok (.ireturn, 1) := by decide +kernel
theorem dX6_account_166 : decode cX6_account 166 = .ok (.aload_n 0, 1) := by decide +kernel
theorem dX6_account_167 : decode cX6_account 167 = .ok (.getfield 12, 3) := by decide +kernel
theorem dX6_account_170 : decode cX6_account 170 = .ok (.sipush 288, 3) := by decide +kernel
theorem dX6_account_173 : decode cX6_account 173 = .ok (.invokevirtual 137, 3) := by decide +kernel
theorem dX6_account_176 : decode cX6_account 176 = .ok (.ireturn, 1) := by decide +kernel
theorem dX6_account_177 : decode cX6_account 177 = .ok (.aload_n 0, 1) := by decide +kernel
theorem dX6_account_178 : decode cX6_account 178 = .ok (.getfield 12, 3) := by decide +kernel
theorem dX6_account_181 : decode cX6_account 181 = .ok (.sipush 289, 3) := by decide +kernel
theorem dX6_account_184 : decode cX6_account 184 = .ok (.invokevirtual 137, 3) := by decide +kernel
theorem dX6_account_187 : decode cX6_account 187 = .ok (.ireturn, 1) := by decide +kernel
theorem dX6_account_188 : decode cX6_account 188 = .ok (.aload_n 0, 1) := by decide +kernel
theorem dX6_account_189 : decode cX6_account 189 = .ok (.getfield 12, 3) := by decide +kernel
theorem dX6_account_192 : decode cX6_account 192 = .ok (.sipush 290, 3) := by decide +kernel
theorem dX6_account_195 : decode cX6_account 195 = .ok (.invokevirtual 137, 3) := by decide +kernel
theorem dX6_account_198 : decode cX6_account 198 = .ok (.ireturn, 1) := by decide +kernel
theorem dX6_account_199 : decode cX6_account 199 = .ok (.aload_n 0, 1) := by decide +kernel
theorem dX6_account_200 : decode cX6_account 200 = .ok (.getfield 12, 3) := by decide +kernel
theorem dX6_account_203 : decode cX6_account 203 = .ok (.sipush 291, 3) := by decide +kernel
theorem dX6_account_206 : decode cX6_account 206 = .ok (.invokevirtual 137, 3) := by decide +kernel
theorem dX6_account_209 : decode cX6_account 209 = .ok (.ireturn, 1) := by decide +kernel
theorem dX6_account_210 : decode cX6_account 210 = .ok (.aload_n 0, 1) := by decide +kernel
theorem dX6_account_211 : decode cX6_account 211 = .ok (.getfield 12, 3) := by decide +kernel
theorem dX6_account_214 : decode cX6_account 214 = .ok (.sipush 292, 3) := by decide +kernel
theorem dX6_account_217 : decode cX6_account 217 = .ok (.invokevirtual 137, 3) := by decide +kernel
theorem dX6_account_220 : decode cX6_account 220 = .ok (.ireturn, 1) := by decide +kernel
theorem dX6_account_221 : decode cX6_account 221 = .ok (.aload_n 0, 1) := by decide +kernel
theorem dX6_account_222 : decode cX6_account 222 = .ok (.getfield 12, 3) := by decide +kernel
theorem dX6_account_225 : decode cX6_account 225 = .ok (.sipush 293, 3) := by decide +kernel
theorem dX6_account_228 : decode cX6_account 228 = .ok (.invokevirtual 137, 3) := by decide +kernel
theorem dX6_account_231 : decode cX6_account 231 = .ok (.ireturn, 1) := by decide +kernel
theorem dX6_account_232 : decode cX6_account 232 = .ok (.aload_n 0, 1) := by decide +kernel
theorem dX6_account_233 : decode cX6_account 233 = .ok (.getfield 52, 3) := by decide +kernel
theorem dX6_account_236 : decode cX6_account 236 = .ok (.invokevirtual 166, 3) := by decide +kernel
theorem dX6_account_239 : decode cX6_account 239 = .ok (.ireturn, 1) := by decide +kernel
theorem dX6_account_240 : decode cX6_account 240 = .ok (.aload_n 0, 1) := by decide +kernel
theorem dX6_account_241 : decode cX6_account 241 = .ok (.getfield 36, 3) := by decide +kernel
theorem dX6_account_244 : decode cX6_account 244 = .ok (.invokevirtual 215, 3) := by decide +kernel
theorem dX6_account_247 : decode cX6_account 247 = .ok (.ireturn, 1) := by decide +kernel
theorem dX6_account_248 : decode cX6_account 248 = .ok (.bipush (-12), 2) := by decide +kernel
theorem dX6_account_250 : decode cX6_account 250 = .ok (.ireturn, 1) := by decide +kernel
theorem dX6_isBalanced_0 : decode cX6_isBalanced 0 = .ok (.bipush 100, 2) := by decide +kernel
theorem dX6_isBalanced_2 : decode cX6_isBalanced 2 = .ok (.aload_n 0, 1) := by decide +kernel
theorem dX6_isBalanced_3 : decode cX6_isBalanced 3 = .ok (.getfield 12, 3) := by decide +kernel
theorem dX6_isBalanced_6 : decode cX6_isBalanced 6 = .ok (.sipush 289, 3) := by decide +kernel
theorem dX6_isBalanced_9 : decode cX6_isBalanced 9 = .ok (.invokevirtual 137, 3) := by decide +kernel
theorem dX6_isBalanced_12 : decode cX6_isBalanced 12 = .ok (.iadd, 1) := by decide +kernel
theorem dX6_isBalanced_13 : decode cX6_isBalanced 13 = .ok (.aload_n 0, 1) := by decide +kernel
theorem dX6_isBalanced_14 : decode cX6_isBalanced 14 = .ok (.getfield 12, 3) := by decide +kernel
theorem dX6_isBalanced_17 : decode cX6_isBalanced 17 = .ok (.sipush 290, 3) := by decide +kernel
theorem dX6_isBalanced_20 : decode cX6_isBalanced 20 = .ok (.invokevirtual 137, 3) := by decide +kernel
theorem dX6_isBalanced_23 : decode cX6_isBalanced 23 = .ok (.isub, 1) := by decide +kernel
theorem dX6_isBalanced_24 : decode cX6_isBalanced 24 = .ok (.aload_n 0, 1) := by decide +kernel
theorem dX6_isBalanced_25 : decode cX6_isBalanced 25 = .ok (.getfield 12, 3) := by decide +kernel
theorem dX6_isBalanced_28 : decode cX6_isBalanced 28 = .ok (.sipush 291, 3) := by decide +kernel
theorem dX6_isBalanced_31 : decode cX6_isBalanced 31 = .ok (.invokevirtual 137, 3) := by decide +kernel
theorem dX6_isBalanced_34 : decode cX6_isBalanced 34 = .ok (.isub, 1) := by decide +kernel
theorem dX6_isBalanced_35 : decode cX6_isBalanced 35 = .ok (.istore_n 1, 1) := by decide +kernel
theorem dX6_isBalanced_36 : decode cX6_isBalanced 36 = .ok (.iconst 0, 1) := by decide +kernel
theorem dX6_isBalanced_37 : decode cX6_isBalanced 37 = .ok (.istore_n 2, 1) := by decide +kernel
theorem dX6_isBalanced_38 : decode cX6_isBalanced 38 = .ok (.iconst 1, 1) := by decide +kernel
theorem dX6_isBalanced_39 : decode cX6_isBalanced 39 = .ok (.istore_n 3, 1) := by decide +kernel
theorem dX6_isBalanced_40 : decode cX6_isBalanced 40 = .ok (.iconst 0, 1) := by decide +kernel
theorem dX6_isBalanced_41 : decode cX6_isBalanced 41 = .ok (.istore 4, 2) := by decide +kernel
theorem dX6_isBalanced_43 : decode cX6_isBalanced 43 = .ok (.iload 4, 2) := by decide +kernel
theorem dX6_isBalanced_45 : decode cX6_isBalanced 45 = .ok (.bipush 16, 2) := by decide +kernel
theorem dX6_isBalanced_47 : decode cX6_isBalanced 47 = .ok (.if_icmp .ge 60, 3) := by decide +kernel
theorem dX6_isBalanced_50 : decode cX6_isBalanced 50 = .ok (.iload_n 2, 1) := by decide +kernel
theorem dX6_isBalanced_51 : decode cX6_isBalanced 51 = .ok (.aload_n 0, 1) := by decide +kernel
theorem dX6_isBalanced_52 : decode cX6_isBalanced 52 = .ok (.getfield 12, 3) := by decide +kernel
theorem dX6_isBalanced_55 : decode cX6_isBalanced 55 = .ok (.bipush 6, 2) := by decide +kernel
theorem dX6_isBalanced_57 : decode cX6_isBalanced 57 = .ok (.iload 4, 2) := by decide +kernel
theorem dX6_isBalanced_59 : decode cX6_isBalanced 59 = .ok (.invokevirtual 118, 3) := by decide +kernel
theorem dX6_isBalanced_62 : decode cX6_isBalanced 62 = .ok (.iadd, 1) := by decide +kernel
theorem dX6_isBalanced_63 : decode cX6_isBalanced 63 = .ok (.istore_n 2, 1) := by decide +kernel
theorem dX6_isBalanced_64 : decode cX6_isBalanced 64 = .ok (.iload_n 3, 1) := by decide +kernel
theorem dX6_isBalanced_65 : decode cX6_isBalanced 65 = .ok (.ifCond .eq 34, 3) := by decide +kernel
theorem dX6_isBalanced_68 : decode cX6_isBalanced 68 = .ok (.aload_n 0, 1) := by decide +kernel
theorem dX6_isBalanced_69 : decode cX6_isBalanced 69 = .ok (.iload 4, 2) := by decide +kernel
theorem dX6_isBalanced_71 : decode cX6_isBalanced 71 = .ok (.invokevirtual 216, 3) := by decide +kernel
theorem dX6_isBalanced_74 : decode cX6_isBalanced 74 = .ok (.aload_n 0, 1) := by decide +kernel
theorem dX6_isBalanced_75 : decode cX6_isBalanced 75 = .ok (.getfield 12, 3) := by decide +kernel
theorem dX6_isBalanced_78 : decode cX6_isBalanced 78 = .ok (.iconst 1, 1) := by decide +kernel
theorem dX6_isBalanced_79 : decode cX6_isBalanced 79 = .ok (.iload 4, 2) := by decide +kernel
theorem dX6_isBalanced_81 : decode cX6_isBalanced 81 = .ok (.invokevirtual 121, 3) := by decide +kernel
theorem dX6_isBalanced_84 : decode cX6_isBalanced 84 = .ok (.ifCond .eq 7, 3) := by decide +kernel
theorem dX6_isBalanced_87 : decode cX6_isBalanced 87 = .ok (.iconst 1, 1) := by decide +kernel
theorem dX6_isBalanced_88 : decode cX6_isBalanced 88 = .ok (.goto 4, 3) := by decide +kernel
theorem dX6_isBalanced_91 : decode cX6_isBalanced 91 = .ok (.iconst 0, 1) := by decide +kernel
theorem dX6_isBalanced_92 : decode cX6_isBalanced 92 = .ok (.if_icmp .ne 7, 3) := by decide +kernel
theorem dX6_isBalanced_95 : decode cX6_isBalanced 95 = .ok (.iconst 1, 1) := by decide +kernel
theorem dX6_isBalanced_96 : decode cX6_isBalanced 96 = .ok (.goto 4, 3) := by decide +kernel
theorem dX6_isBalanced_99 : decode cX6_isBalanced 99 = .ok (.iconst 0, 1) := by decide +kernel
theorem dX6_isBalanced_100 : decode cX6_isBalanced 100 = .ok (.istore_n 3, 1) := by decide +kernel
theorem dX6_isBalanced_101 : decode cX6_isBalanced 101 = .ok (.iinc 4 1, 3) := by decide +kernel
theorem dX6_isBalanced_104 : decode cX6_isBalanced 104 = .ok (.goto (-61), 3) := by decide +kernel
theorem dX6_isBalanced_107 : decode cX6_isBalanced 107 = .ok (.iload_n 3, 1) := by decide +kernel
theorem dX6_isBalanced_108 : decode cX6_isBalanced 108 = .ok (.ifCond .eq 35, 3) := by decide +kernel
theorem dX6_isBalanced_111 : decode cX6_isBalanced 111 = .ok (.aload_n 0, 1) := by decide +kernel
theorem dX6_isBalanced_112 : decode cX6_isBalanced 112 = .ok (.getfield 12, 3) := by decide +kernel
theorem dX6_isBalanced_115 : decode cX6_isBalanced 115 = .ok (.sipush 288, 3) := by decide +kernel
theorem dX6_isBalanced_118 : decode cX6_isBalanced 118 = .ok (.invokevirtual 137, 3) := by decide +kernel
theorem dX6_isBalanced_121 : decode cX6_isBalanced 121 = .ok (.iload_n 1, 1) := by decide +kernel
theorem dX6_isBalanced_122 : decode cX6_isBalanced 122 = .ok (.if_icmp .ne 21, 3) := by decide +kernel
theorem dX6_isBalanced_125 : decode cX6_isBalanced 125 = .ok (.aload_n 0, 1) := by decide +kernel
theorem dX6_isBalanced_126 : decode cX6_isBalanced 126 = .ok (.getfield 12, 3) := by decide +kernel
theorem dX6_isBalanced_129 : decode cX6_isBalanced 129 = .ok (.sipush 290, 3) := by decide +kernel
theorem dX6_isBalanced_132 : decode cX6_isBalanced 132 = .ok (.invokevirtual 137, 3) := by decide +kernel
theorem dX6_isBalanced_135 : decode cX6_isBalanced 135 = .ok (.iload_n 2, 1) := by decide +kernel
theorem dX6_isBalanced_136 : decode cX6_isBalanced 136 = .ok (.if_icmp .ne 7, 3) := by decide +kernel
theorem dX6_isBalanced_139 : decode cX6_isBalanced 139 = .ok (.iconst 1, 1) := by decide +kernel
theorem dX6_isBalanced_140 : decode cX6_isBalanced 140 = .ok (.goto 4, 3) := by decide +kernel
theorem dX6_isBalanced_143 : decode cX6_isBalanced 143 = .ok (.iconst 0, 1) := by decide +kernel
theorem dX6_isBalanced_144 : decode cX6_isBalanced 144 = .ok (.ireturn, 1) := by decide +kernel
theorem dX6_undo_0 : decode cX6_undo 0 = .ok (.aload_n 0, 1) := by decide +kernel
theorem dX6_undo_1 : decode cX6_undo 1 = .ok (.getfield 36, 3) := by decide +kernel
theorem dX6_undo_4 : decode cX6_undo 4 = .ok (.aload_n 0, 1) := by decide +kernel
theorem dX6_undo_5 : decode cX6_undo 5 = .ok (.getfield 12, 3) := by decide +kernel
theorem dX6_undo_8 : decode cX6_undo 8 = .ok (.invokevirtual 222, 3) := by decide +kernel
theorem dX6_undo_11 : decode cX6_undo 11 = .ok (.ifCond .eq 13, 3) := by decide +kernel
theorem dX6_undo_14 : decode cX6_undo 14 = .ok (.aload_n 0, 1) := by decide +kernel
theorem dX6_undo_15 : decode cX6_undo 15 = .ok (.getfield 36, 3) := by decide +kernel
theorem dX6_undo_18 : decode cX6_undo 18 = .ok (.invokevirtual 215, 3) := by decide +kernel
theorem dX6_undo_21 : decode cX6_undo 21 = .ok (.goto 5, 3) := by decide +kernel
theorem dX6_undo_24 : decode cX6_undo 24 = .ok (.bipush (-15), 2) := by decide +kernel
theorem dX6_undo_26 : decode cX6_undo 26 = .ok (.ireturn, 1) := by decide +kernel
theorem dX6_save_0 : decode cX6_save 0 = .ok (.aload_n 0, 1) := by decide +kernel
theorem dX6_save_1 : decode cX6_save 1 = .ok (.getfield 16, 3) := by decide +kernel
theorem dX6_save_4 : decode cX6_save 4 = .ok (.aload_n 0, 1) := by decide +kernel
theorem dX6_save_5 : decode cX6_save 5 = .ok (.getfield 12, 3) := by decide +kernel
theorem dX6_save_8 : decode cX6_save 8 = .ok (.invokevirtual 226, 3) := by decide +kernel
theorem dX6_save_11 : decode cX6_save 11 = .ok (.aload_n 0, 1) := by decide +kernel
theorem dX6_save_12 : decode cX6_save 12 = .ok (.iconst 1, 1) := by decide +kernel
theorem dX6_save_13 : decode cX6_save 13 = .ok (.putfield 63, 3) := by decide +kernel
theorem dX6_save_16 : decode cX6_save 16 = .ok (.aload_n 0, 1) := by decide +kernel
theorem dX6_save_17 : decode cX6_save 17 = .ok (.getfield 12, 3) := by decide +kernel
theorem dX6_save_20 : decode cX6_save 20 = .ok (.sipush 284, 3) := by decide +kernel
theorem dX6_save_23 : decode cX6_save 23 = .ok (.invokevirtual 137, 3) := by decide +kernel
theorem dX6_save_26 : decode cX6_save 26 = .ok (.ireturn, 1) := by decide +kernel
theorem dX6_restore_0 : decode cX6_restore 0 = .ok (.aload_n 0, 1) := by decide +kernel
theorem dX6_restore_1 : decode cX6_restore 1 = .ok (.getfield 63, 3) := by decide +kernel
theorem dX6_restore_4 : decode cX6_restore 4 = .ok (.ifCond .ne 6, 3) := by decide +kernel
theorem dX6_restore_7 : decode cX6_restore 7 = .ok (.bipush (-15), 2) := by decide +kernel
theorem dX6_restore_9 : decode cX6_restore 9 = .ok (.ireturn, 1) := by decide +kernel
theorem dX6_restore_10 : decode cX6_restore 10 = .ok (.aload_n 0, 1) := by decide +kernel
theorem dX6_restore_11 : decode cX6_restore 11 = .ok (.getfield 12, 3) := by decide +kernel
theorem dX6_restore_14 : decode cX6_restore 14 = .ok (.aload_n 0, 1) := by decide +kernel
theorem dX6_restore_15 : decode cX6_restore 15 = .ok (.getfield 16, 3) := by decide +kernel
theorem dX6_restore_18 : decode cX6_restore 18 = .ok (.invokevirtual 226, 3) := by decide +kernel
theorem dX6_restore_21 : decode cX6_restore 21 = .ok (.aload_n 0, 1) := by decide +kernel
theorem dX6_restore_22 : decode cX6_restore 22 = .ok (.getfield 36, 3) := by decide +kernel
theorem dX6_restore_25 : decode cX6_restore 25 = .ok (.invokevirtual 230, 3) := by decide +kernel
theorem dX6_restore_28 : decode cX6_restore 28 = .ok (.aload_n 0, 1) := by decide +kernel
theorem dX6_restore_29 : decode cX6_restore 29 = .ok (.getfield 12, 3) := by decide +kernel
theorem dX6_restore_32 : decode cX6_restore 32 = .ok (.sipush 284, 3) := by decide +kernel
theorem dX6_restore_35 : decode cX6_restore 35 = .ok (.invokevirtual 137, 3) := by decide +kernel
theorem dX6_restore_38 : decode cX6_restore 38 = .ok (.ireturn, 1) := by decide +kernel
theorem dX6_onTrial_0 : decode cX6_onTrial 0 = .ok (.aload_n 0, 1) := by decide +kernel
theorem dX6_onTrial_1 : decode cX6_onTrial 1 = .ok (.getfield 22, 3) := by decide +kernel
theorem dX6_onTrial_4 : decode cX6_onTrial 4 = .ok (.aload_n 0, 1) := by decide +kernel
theorem dX6_onTrial_5 : decode cX6_onTrial 5 = .ok (.getfield 12, 3) := by decide +kernel
theorem dX6_onTrial_8 : decode cX6_onTrial 8 = .ok (.invokevirtual 233, 3) := by decide +kernel
theorem dX6_onTrial_11 : decode cX6_onTrial 11 = .ok (.aload_n 0, 1) := by decide +kernel
theorem dX6_onTrial_12 : decode cX6_onTrial 12 = .ok (.getfield 22, 3) := by decide +kernel
theorem dX6_onTrial_15 : decode cX6_onTrial 15 = .ok (.areturn, 1) := by decide +kernel
theorem dX6_settle_0 : decode cX6_settle 0 = .ok (.iload_n 1, 1) := by decide +kernel
theorem dX6_settle_1 : decode cX6_settle 1 = .ok (.ifCond .lt 31, 3) := by decide +kernel
theorem dX6_settle_4 : decode cX6_settle 4 = .ok (.aload_n 0, 1) := by decide +kernel
theorem dX6_settle_5 : decode cX6_settle 5 = .ok (.getfield 36, 3) := by decide +kernel
theorem dX6_settle_8 : decode cX6_settle 8 = .ok (.aload_n 0, 1) := by decide +kernel
theorem dX6_settle_9 : decode cX6_settle 9 = .ok (.getfield 12, 3) := by decide +kernel
theorem dX6_settle_12 : decode cX6_settle 12 = .ok (.invokevirtual 236, 3) := by decide +kernel
theorem dX6_settle_15 : decode cX6_settle 15 = .ok (.aload_n 0, 1) := by decide +kernel
theorem dX6_settle_16 : decode cX6_settle 16 = .ok (.getfield 12, 3) := by decide +kernel
theorem dX6_settle_19 : decode cX6_settle 19 = .ok (.aload_n 0, 1) := by decide +kernel
theorem dX6_settle_20 : decode cX6_settle 20 = .ok (.getfield 22, 3) := by decide +kernel
theorem dX6_settle_23 : decode cX6_settle 23 = .ok (.invokevirtual 239, 3) := by decide +kernel
theorem dX6_settle_26 : decode cX6_settle 26 = .ok (.invokevirtual 226, 3) := by decide +kernel
theorem dX6_settle_29 : decode cX6_settle 29 = .ok (.goto 31, 3) := by decide +kernel
theorem dX6_settle_32 : decode cX6_settle 32 = .ok (.iload_n 1, 1) := by decide +kernel
theorem dX6_settle_33 : decode cX6_settle 33 = .ok (.bipush (-14), 2) := by decide +kernel
theorem dX6_settle_35 : decode cX6_settle 35 = .ok (.if_icmp .ne 25, 3) := by decide +kernel
theorem dX6_settle_38 : decode cX6_settle 38 = .ok (.aload_n 0, 1) := by decide +kernel
theorem dX6_settle_39 : decode cX6_settle 39 = .ok (.aload_n 0, 1) := by decide +kernel
theorem dX6_settle_40 : decode cX6_settle 40 = .ok (.getfield 22, 3) := by decide +kernel
theorem dX6_settle_43 : decode cX6_settle 43 = .ok (.invokevirtual 243, 3) := by decide +kernel
theorem dX6_settle_46 : decode cX6_settle 46 = .ok (.putfield 67, 3) := by decide +kernel
theorem dX6_settle_49 : decode cX6_settle 49 = .ok (.aload_n 0, 1) := by decide +kernel
theorem dX6_settle_50 : decode cX6_settle 50 = .ok (.aload_n 0, 1) := by decide +kernel
theorem dX6_settle_51 : decode cX6_settle 51 = .ok (.getfield 22, 3) := by decide +kernel
theorem dX6_settle_54 : decode cX6_settle 54 = .ok (.invokevirtual 246, 3) := by decide +kernel
theorem dX6_settle_57 : decode cX6_settle 57 = .ok (.putfield 71, 3) := by decide +kernel
theorem dX6_settle_60 : decode cX6_settle 60 = .ok (.iload_n 1, 1) := by decide +kernel
theorem dX6_settle_61 : decode cX6_settle 61 = .ok (.ireturn, 1) := by decide +kernel
theorem dX6_isCell_0 : decode cX6_isCell 0 = .ok (.iload_n 0, 1) := by decide +kernel
theorem dX6_isCell_1 : decode cX6_isCell 1 = .ok (.ifCond .lt 13, 3) := by decide +kernel
theorem dX6_isCell_4 : decode cX6_isCell 4 = .ok (.iload_n 0, 1) := by decide +kernel
theorem dX6_isCell_5 : decode cX6_isCell 5 = .ok (.bipush 8, 2) := by decide +kernel
theorem dX6_isCell_7 : decode cX6_isCell 7 = .ok (.if_icmp .ge 7, 3) := by decide +kernel
theorem dX6_isCell_10 : decode cX6_isCell 10 = .ok (.iconst 1, 1) := by decide +kernel
theorem dX6_isCell_11 : decode cX6_isCell 11 = .ok (.goto 4, 3) := by decide +kernel
theorem dX6_isCell_14 : decode cX6_isCell 14 = .ok (.iconst 0, 1) := by decide +kernel
theorem dX6_isCell_15 : decode cX6_isCell 15 = .ok (.ireturn, 1) := by decide +kernel
theorem dX6_isRule_0 : decode cX6_isRule 0 = .ok (.iload_n 0, 1) := by decide +kernel
theorem dX6_isRule_1 : decode cX6_isRule 1 = .ok (.ifCond .lt 12, 3) := by decide +kernel
theorem dX6_isRule_4 : decode cX6_isRule 4 = .ok (.iload_n 0, 1) := by decide +kernel
theorem dX6_isRule_5 : decode cX6_isRule 5 = .ok (.iconst 5, 1) := by decide +kernel
theorem dX6_isRule_6 : decode cX6_isRule 6 = .ok (.if_icmp .ge 7, 3) := by decide +kernel
theorem dX6_isRule_9 : decode cX6_isRule 9 = .ok (.iconst 1, 1) := by decide +kernel
theorem dX6_isRule_10 : decode cX6_isRule 10 = .ok (.goto 4, 3) := by decide +kernel
theorem dX6_isRule_13 : decode cX6_isRule 13 = .ok (.iconst 0, 1) := by decide +kernel
theorem dX6_isRule_14 : decode cX6_isRule 14 = .ok (.ireturn, 1) := by decide +kernel
theorem dX6_breachesOf_0 : decode cX6_breachesOf 0 = .ok (.iconst 0, 1) := by decide +kernel
theorem dX6_breachesOf_1 : decode cX6_breachesOf 1 = .ok (.istore_n 2, 1) := by decide +kernel
theorem dX6_breachesOf_2 : decode cX6_breachesOf 2 = .ok (.iconst 0, 1) := by decide +kernel
theorem dX6_breachesOf_3 : decode cX6_breachesOf 3 = .ok (.istore_n 3, 1) := by decide +kernel
theorem dX6_breachesOf_4 : decode cX6_breachesOf 4 = .ok (.iload_n 3, 1) := by decide +kernel
theorem dX6_breachesOf_5 : decode cX6_breachesOf 5 = .ok (.iconst 5, 1) := by decide +kernel
theorem dX6_breachesOf_6 : decode cX6_breachesOf 6 = .ok (.if_icmp .ge 24, 3) := by decide +kernel
theorem dX6_breachesOf_9 : decode cX6_breachesOf 9 = .ok (.iload_n 2, 1) := by decide +kernel
theorem dX6_breachesOf_10 : decode cX6_breachesOf 10 = .ok (.aload_n 0, 1) := by decide +kernel
theorem dX6_breachesOf_11 : decode cX6_breachesOf 11 = .ok (.getfield 12, 3) := by decide +kernel
theorem dX6_breachesOf_14 : decode cX6_breachesOf 14 = .ok (.bipush 9, 2) := by decide +kernel
theorem dX6_breachesOf_16 : decode cX6_breachesOf 16 = .ok (.iload_n 3, 1) := by decide +kernel
theorem dX6_breachesOf_17 : decode cX6_breachesOf 17 = .ok (.iadd, 1) := by decide +kernel
theorem dX6_breachesOf_18 : decode cX6_breachesOf 18 = .ok (.iload_n 1, 1) := by decide +kernel
theorem dX6_breachesOf_19 : decode cX6_breachesOf 19 = .ok (.invokevirtual 118, 3) := by decide +kernel
theorem dX6_breachesOf_22 : decode cX6_breachesOf 22 = .ok (.iadd, 1) := by decide +kernel
theorem dX6_breachesOf_23 : decode cX6_breachesOf 23 = .ok (.istore_n 2, 1) := by decide +kernel
theorem dX6_breachesOf_24 : decode cX6_breachesOf 24 = .ok (.iinc 3 1, 3) := by decide +kernel
theorem dX6_breachesOf_27 : decode cX6_breachesOf 27 = .ok (.goto (-23), 3) := by decide +kernel
theorem dX6_breachesOf_30 : decode cX6_breachesOf 30 = .ok (.iload_n 2, 1) := by decide +kernel
theorem dX6_breachesOf_31 : decode cX6_breachesOf 31 = .ok (.ireturn, 1) := by decide +kernel
theorem dX6_placeInLine_0 : decode cX6_placeInLine 0 = .ok (.aload_n 0, 1) := by decide +kernel
theorem dX6_placeInLine_1 : decode cX6_placeInLine 1 = .ok (.getfield 12, 3) := by decide +kernel
theorem dX6_placeInLine_4 : decode cX6_placeInLine 4 = .ok (.iconst 0, 1) := by decide +kernel
theorem dX6_placeInLine_5 : decode cX6_placeInLine 5 = .ok (.iload_n 1, 1) := by decide +kernel
theorem dX6_placeInLine_6 : decode cX6_placeInLine 6 = .ok (.invokevirtual 121, 3) := by decide +kernel
theorem dX6_placeInLine_9 : decode cX6_placeInLine 9 = .ok (.ifCond .ne 6, 3) := by decide +kernel
theorem dX6_placeInLine_12 : decode cX6_placeInLine 12 = .ok (.bipush (-15), 2) := by decide +kernel
theorem dX6_placeInLine_14 : decode cX6_placeInLine 14 = .ok (.ireturn, 1) := by decide +kernel
theorem dX6_placeInLine_15 : decode cX6_placeInLine 15 = .ok (.iconst 0, 1) := by decide +kernel
theorem dX6_placeInLine_16 : decode cX6_placeInLine 16 = .ok (.istore_n 2, 1) := by decide +kernel
theorem dX6_placeInLine_17 : decode cX6_placeInLine 17 = .ok (.iconst 0, 1) := by decide +kernel
theorem dX6_placeInLine_18 : decode cX6_placeInLine 18 = .ok (.istore_n 3, 1) := by decide +kernel
theorem dX6_placeInLine_19 : decode cX6_placeInLine 19 = .ok (.iload_n 3, 1) := by decide +kernel
theorem dX6_placeInLine_20 : decode cX6_placeInLine 20 = .ok (.iload_n 1, 1) := by decide +kernel
theorem dX6_placeInLine_21 : decode cX6_placeInLine 21 = .ok (.if_icmp .ge 30, 3) := by decide +kernel
theorem dX6_placeInLine_24 : decode cX6_placeInLine 24 = .ok (.iload_n 3, 1) := by decide +kernel
theorem dX6_placeInLine_25 : decode cX6_placeInLine 25 = .ok (.bipush 16, 2) := by decide +kernel
theorem dX6_placeInLine_27 : decode cX6_placeInLine 27 = .ok (.if_icmp .ge 24, 3) := by decide +kernel
theorem dX6_placeInLine_30 : decode cX6_placeInLine 30 = .ok (.aload_n 0, 1) := by decide +kernel
theorem dX6_placeInLine_31 : decode cX6_placeInLine 31 = .ok (.getfield 12, 3) := by decide +kernel
theorem dX6_placeInLine_34 : decode cX6_placeInLine 34 = .ok (.iconst 0, 1) := by decide +kernel
theorem dX6_placeInLine_35 : decode cX6_placeInLine 35 = .ok (.iload_n 3, 1) := by decide +kernel
theorem dX6_placeInLine_36 : decode cX6_placeInLine 36 = .ok (.invokevirtual 121, 3) := by decide +kernel
theorem dX6_placeInLine_39 : decode cX6_placeInLine 39 = .ok (.ifCond .eq 6, 3) := by decide +kernel
theorem dX6_placeInLine_42 : decode cX6_placeInLine 42 = .ok (.iinc 2 1, 3) := by decide +kernel
theorem dX6_placeInLine_45 : decode cX6_placeInLine 45 = .ok (.iinc 3 1, 3) := by decide +kernel
theorem dX6_placeInLine_48 : decode cX6_placeInLine 48 = .ok (.goto (-29), 3) := by decide +kernel
theorem dX6_placeInLine_51 : decode cX6_placeInLine 51 = .ok (.iload_n 2, 1) := by decide +kernel
theorem dX6_placeInLine_52 : decode cX6_placeInLine 52 = .ok (.ireturn, 1) := by decide +kernel
theorem dX6_tallyVoices_0 : decode cX6_tallyVoices 0 = .ok (.iconst 0, 1) := by decide +kernel
theorem dX6_tallyVoices_1 : decode cX6_tallyVoices 1 = .ok (.istore_n 1, 1) := by decide +kernel
theorem dX6_tallyVoices_2 : decode cX6_tallyVoices 2 = .ok (.iload_n 1, 1) := by decide +kernel
theorem dX6_tallyVoices_3 : decode cX6_tallyVoices 3 = .ok (.aload_n 0, 1) := by decide +kernel
theorem dX6_tallyVoices_4 : decode cX6_tallyVoices 4 = .ok (.getfield 59, 3) := by decide +kernel
theorem dX6_tallyVoices_7 : decode cX6_tallyVoices 7 = .ok (.arraylength, 1) := by decide +kernel
theorem dX6_tallyVoices_8 : decode cX6_tallyVoices 8 = .ok (.if_icmp .ge 16, 3) := by decide +kernel
theorem dX6_tallyVoices_11 : decode cX6_tallyVoices 11 = .ok (.aload_n 0, 1) := by decide +kernel
theorem dX6_tallyVoices_12 : decode cX6_tallyVoices 12 = .ok (.getfield 59, 3) := by decide +kernel
theorem dX6_tallyVoices_15 : decode cX6_tallyVoices 15 = .ok (.iload_n 1, 1) := by decide +kernel
theorem dX6_tallyVoices_16 : decode cX6_tallyVoices 16 = .ok (.iconst 0, 1) := by decide +kernel
theorem dX6_tallyVoices_17 : decode cX6_tallyVoices 17 = .ok (.iastore, 1) := by decide +kernel
theorem dX6_tallyVoices_18 : decode cX6_tallyVoices 18 = .ok (.iinc 1 1, 3) := by decide +kernel
theorem dX6_tallyVoices_21 : decode cX6_tallyVoices 21 = .ok (.goto (-19), 3) := by decide +kernel
theorem dX6_tallyVoices_24 : decode cX6_tallyVoices 24 = .ok (.iconst 0, 1) := by decide +kernel
theorem dX6_tallyVoices_25 : decode cX6_tallyVoices 25 = .ok (.istore_n 1, 1) := by decide +kernel
theorem dX6_tallyVoices_26 : decode cX6_tallyVoices 26 = .ok (.iload_n 1, 1) := by decide +kernel
theorem dX6_tallyVoices_27 : decode cX6_tallyVoices 27 = .ok (.bipush 8, 2) := by decide +kernel
theorem dX6_tallyVoices_29 : decode cX6_tallyVoices 29 = .ok (.if_icmp .ge 89, 3) := by decide +kernel
theorem dX6_tallyVoices_32 : decode cX6_tallyVoices 32 = .ok (.aload_n 0, 1) := by decide +kernel
theorem dX6_tallyVoices_33 : decode cX6_tallyVoices 33 = .ok (.getfield 12, 3) := by decide +kernel
theorem dX6_tallyVoices_36 : decode cX6_tallyVoices 36 = .ok (.sipush 224, 3) := by decide +kernel
theorem dX6_tallyVoices_39 : decode cX6_tallyVoices 39 = .ok (.iload_n 1, 1) := by decide +kernel
theorem dX6_tallyVoices_40 : decode cX6_tallyVoices 40 = .ok (.iadd, 1) := by decide +kernel
theorem dX6_tallyVoices_41 : decode cX6_tallyVoices 41 = .ok (.invokevirtual 137, 3) := by decide +kernel
theorem dX6_tallyVoices_44 : decode cX6_tallyVoices 44 = .ok (.istore_n 2, 1) := by decide +kernel
theorem dX6_tallyVoices_45 : decode cX6_tallyVoices 45 = .ok (.aload_n 0, 1) := by decide +kernel
theorem dX6_tallyVoices_46 : decode cX6_tallyVoices 46 = .ok (.getfield 12, 3) := by decide +kernel
theorem dX6_tallyVoices_49 : decode cX6_tallyVoices 49 = .ok (.iload_n 2, 1) := by decide +kernel
theorem dX6_tallyVoices_50 : decode cX6_tallyVoices 50 = .ok (.invokevirtual 114, 3) := by decide +kernel
theorem dX6_tallyVoices_53 : decode cX6_tallyVoices 53 = .ok (.ifCond .eq 16, 3) := by decide +kernel
theorem dX6_tallyVoices_56 : decode cX6_tallyVoices 56 = .ok (.aload_n 0, 1) := by decide +kernel
theorem dX6_tallyVoices_57 : decode cX6_tallyVoices 57 = .ok (.getfield 12, 3) := by decide +kernel
theorem dX6_tallyVoices_60 : decode cX6_tallyVoices 60 = .ok (.bipush 7, 2) := by decide +kernel
theorem dX6_tallyVoices_62 : decode cX6_tallyVoices 62 = .ok (.iload_n 2, 1) := by decide +kernel
theorem dX6_tallyVoices_63 : decode cX6_tallyVoices 63 = .ok (.invokevirtual 118, 3) := by decide +kernel
theorem dX6_tallyVoices_66 : decode cX6_tallyVoices 66 = .ok (.goto 5, 3) := by decide +kernel
theorem dX6_tallyVoices_69 : decode cX6_tallyVoices 69 = .ok (.bipush (-15), 2) := by decide +kernel
theorem dX6_tallyVoices_71 : decode cX6_tallyVoices 71 = .ok (.istore_n 3, 1) := by decide +kernel
theorem dX6_tallyVoices_72 : decode cX6_tallyVoices 72 = .ok (.iload_n 3, 1) := by decide +kernel
theorem dX6_tallyVoices_73 : decode cX6_tallyVoices 73 = .ok (.ifCond .lt 39, 3) := by decide +kernel
theorem dX6_tallyVoices_76 : decode cX6_tallyVoices 76 = .ok (.iload_n 3, 1) := by decide +kernel
theorem dX6_tallyVoices_77 : decode cX6_tallyVoices 77 = .ok (.aload_n 0, 1) := by decide +kernel
theorem dX6_tallyVoices_78 : decode cX6_tallyVoices 78 = .ok (.getfield 59, 3) := by decide +kernel
theorem dX6_tallyVoices_81 : decode cX6_tallyVoices 81 = .ok (.arraylength, 1) := by decide +kernel
theorem dX6_tallyVoices_82 : decode cX6_tallyVoices 82 = .ok (.if_icmp .ge 30, 3) := by decide +kernel
theorem dX6_tallyVoices_85 : decode cX6_tallyVoices 85 = .ok (.aload_n 0, 1) := by decide +kernel
theorem dX6_tallyVoices_86 : decode cX6_tallyVoices 86 = .ok (.getfield 59, 3) := by decide +kernel
theorem dX6_tallyVoices_89 : decode cX6_tallyVoices 89 = .ok (.iload_n 3, 1) := by decide +kernel
theorem dX6_tallyVoices_90 : decode cX6_tallyVoices 90 = .ok (.dup2, 1) := by decide +kernel
theorem dX6_tallyVoices_91 : decode cX6_tallyVoices 91 = .ok (.iaload, 1) := by decide +kernel
theorem dX6_tallyVoices_92 : decode cX6_tallyVoices 92 = .ok (.aload_n 0, 1) := by decide +kernel
theorem dX6_tallyVoices_93 : decode cX6_tallyVoices 93 = .ok (.getfield 12, 3) := by decide +kernel
theorem dX6_tallyVoices_96 : decode cX6_tallyVoices 96 = .ok (.iconst 1, 1) := by decide +kernel
theorem dX6_tallyVoices_97 : decode cX6_tallyVoices 97 = .ok (.iload_n 3, 1) := by decide +kernel
theorem dX6_tallyVoices_98 : decode cX6_tallyVoices 98 = .ok (.invokevirtual 118, 3) := by decide +kernel
theorem dX6_tallyVoices_101 : decode cX6_tallyVoices 101 = .ok (.iconst 1, 1) := by decide +kernel
theorem dX6_tallyVoices_102 : decode cX6_tallyVoices 102 = .ok (.if_icmp .ne 7, 3) := by decide +kernel
theorem dX6_tallyVoices_105 : decode cX6_tallyVoices 105 = .ok (.iconst 2, 1) := by decide +kernel
theorem dX6_tallyVoices_106 : decode cX6_tallyVoices 106 = .ok (.goto 4, 3) := by decide +kernel
theorem dX6_tallyVoices_109 : decode cX6_tallyVoices 109 = .ok (.iconst 1, 1) := by decide +kernel
theorem dX6_tallyVoices_110 : decode cX6_tallyVoices 110 = .ok (.iadd, 1) := by decide +kernel
theorem dX6_tallyVoices_111 : decode cX6_tallyVoices 111 = .ok (.iastore, 1) := by decide +kernel
theorem dX6_tallyVoices_112 : decode cX6_tallyVoices 112 = .ok (.iinc 1 1, 3) := by decide +kernel
theorem dX6_tallyVoices_115 : decode cX6_tallyVoices 115 = .ok (.goto (-89), 3) := by decide +kernel
theorem dX6_tallyVoices_118 : decode cX6_tallyVoices 118 = .ok (.return_, 1) := by decide +kernel
theorem dX6_brethrenUnderBan_0 : decode cX6_brethrenUnderBan 0 = .ok (.iconst 0, 1) := by decide +kernel
theorem dX6_brethrenUnderBan_1 : decode cX6_brethrenUnderBan 1 = .ok (.istore_n 1, 1) := by decide +kernel
theorem dX6_brethrenUnderBan_2 : decode cX6_brethrenUnderBan 2 = .ok (.iconst 0, 1) := by decide +kernel
theorem dX6_brethrenUnderBan_3 : decode cX6_brethrenUnderBan 3 = .ok (.istore_n 2, 1) := by decide +kernel
theorem dX6_brethrenUnderBan_4 : decode cX6_brethrenUnderBan 4 = .ok (.iload_n 2, 1) := by decide +kernel
theorem dX6_brethrenUnderBan_5 : decode cX6_brethrenUnderBan 5 = .ok (.bipush 16, 2) := by decide +kernel
theorem dX6_brethrenUnderBan_7 : decode cX6_brethrenUnderBan 7 = .ok (.if_icmp .ge 24, 3) := by decide +kernel
theorem dX6_brethrenUnderBan_10 : decode cX6_brethrenUnderBan 10 = .ok (.aload_n 0, 1) := by decide +kernel
theorem dX6_brethrenUnderBan_11 : decode cX6_brethrenUnderBan 11 = .ok (.getfield 12, 3) := by decide +kernel
theorem dX6_brethrenUnderBan_14 : decode cX6_brethrenUnderBan 14 = .ok (.iconst 5, 1) := by decide +kernel
theorem dX6_brethrenUnderBan_15 : decode cX6_brethrenUnderBan 15 = .ok (.iload_n 2, 1) := by decide +kernel
theorem dX6_brethrenUnderBan_16 : decode cX6_brethrenUnderBan 16 = .ok (.invokevirtual 118, 3) := by decide +kernel
theorem dX6_brethrenUnderBan_19 : decode cX6_brethrenUnderBan 19 = .ok (.ifCond .le 6, 3) := by decide +kernel
theorem dX6_brethrenUnderBan_22 : decode cX6_brethrenUnderBan 22 = .ok (.iinc 1 1, 3) := by decide +kernel
theorem dX6_brethrenUnderBan_25 : decode cX6_brethrenUnderBan 25 = .ok (.iinc 2 1, 3) := by decide +kernel
theorem dX6_brethrenUnderBan_28 : decode cX6_brethrenUnderBan 28 = .ok (.goto (-24), 3) := by decide +kernel
theorem dX6_brethrenUnderBan_31 : decode cX6_brethrenUnderBan 31 = .ok (.iload_n 1, 1) := by decide +kernel
theorem dX6_brethrenUnderBan_32 : decode cX6_brethrenUnderBan 32 = .ok (.ireturn, 1) := by decide +kernel
theorem dX6_cellsWith_0 : decode cX6_cellsWith 0 = .ok (.iconst 0, 1) := by decide +kernel
theorem dX6_cellsWith_1 : decode cX6_cellsWith 1 = .ok (.istore_n 2, 1) := by decide +kernel
theorem dX6_cellsWith_2 : decode cX6_cellsWith 2 = .ok (.iconst 0, 1) := by decide +kernel
theorem dX6_cellsWith_3 : decode cX6_cellsWith 3 = .ok (.istore_n 3, 1) := by decide +kernel
theorem dX6_cellsWith_4 : decode cX6_cellsWith 4 = .ok (.iload_n 3, 1) := by decide +kernel
theorem dX6_cellsWith_5 : decode cX6_cellsWith 5 = .ok (.bipush 8, 2) := by decide +kernel
theorem dX6_cellsWith_7 : decode cX6_cellsWith 7 = .ok (.if_icmp .ge 28, 3) := by decide +kernel
theorem dX6_cellsWith_10 : decode cX6_cellsWith 10 = .ok (.aload_n 0, 1) := by decide +kernel
theorem dX6_cellsWith_11 : decode cX6_cellsWith 11 = .ok (.getfield 12, 3) := by decide +kernel
theorem dX6_cellsWith_14 : decode cX6_cellsWith 14 = .ok (.sipush 224, 3) := by decide +kernel
theorem dX6_cellsWith_17 : decode cX6_cellsWith 17 = .ok (.iload_n 3, 1) := by decide +kernel
theorem dX6_cellsWith_18 : decode cX6_cellsWith 18 = .ok (.iadd, 1) := by decide +kernel
theorem dX6_cellsWith_19 : decode cX6_cellsWith 19 = .ok (.invokevirtual 137, 3) := by decide +kernel
theorem dX6_cellsWith_22 : decode cX6_cellsWith 22 = .ok (.iload_n 1, 1) := by decide +kernel
theorem dX6_cellsWith_23 : decode cX6_cellsWith 23 = .ok (.if_icmp .ne 6, 3) := by decide +kernel
theorem dX6_cellsWith_26 : decode cX6_cellsWith 26 = .ok (.iinc 2 1, 3) := by decide +kernel
theorem dX6_cellsWith_29 : decode cX6_cellsWith 29 = .ok (.iinc 3 1, 3) := by decide +kernel
theorem dX6_cellsWith_32 : decode cX6_cellsWith 32 = .ok (.goto (-28), 3) := by decide +kernel
theorem dX6_cellsWith_35 : decode cX6_cellsWith 35 = .ok (.iload_n 2, 1) := by decide +kernel
theorem dX6_cellsWith_36 : decode cX6_cellsWith 36 = .ok (.ireturn, 1) := by decide +kernel
theorem dJ9_max_7cf53_0 : decode cJ9_max_7cf53 0 = .ok (.iload_n 0, 1) := by decide +kernel
theorem dJ9_max_7cf53_1 : decode cJ9_max_7cf53 1 = .ok (.iload_n 1, 1) := by decide +kernel
theorem dJ9_max_7cf53_2 : decode cJ9_max_7cf53 2 = .ok (.if_icmp .lt 7, 3) := by decide +kernel
theorem dJ9_max_7cf53_5 : decode cJ9_max_7cf53 5 = .ok (.iload_n 0, 1) := by decide +kernel
theorem dJ9_max_7cf53_6 : decode cJ9_max_7cf53 6 = .ok (.goto 4, 3) := by decide +kernel
theorem dJ9_max_7cf53_9 : decode cJ9_max_7cf53 9 = .ok (.iload_n 1, 1) := by decide +kernel
theorem dJ9_max_7cf53_10 : decode cJ9_max_7cf53 10 = .ok (.ireturn, 1) := by decide +kernel
theorem dJ9_min_7cf53_0 : decode cJ9_min_7cf53 0 = .ok (.iload_n 0, 1) := by decide +kernel
theorem dJ9_min_7cf53_1 : decode cJ9_min_7cf53 1 = .ok (.iload_n 1, 1) := by decide +kernel
theorem dJ9_min_7cf53_2 : decode cJ9_min_7cf53 2 = .ok (.if_icmp .gt 7, 3) := by decide +kernel
theorem dJ9_min_7cf53_5 : decode cJ9_min_7cf53 5 = .ok (.iload_n 0, 1) := by decide +kernel
theorem dJ9_min_7cf53_6 : decode cJ9_min_7cf53 6 = .ok (.goto 4, 3) := by decide +kernel
theorem dJ9_min_7cf53_9 : decode cJ9_min_7cf53 9 = .ok (.iload_n 1, 1) := by decide +kernel
theorem dJ9_min_7cf53_10 : decode cJ9_min_7cf53 10 = .ok (.ireturn, 1) := by decide +kernel
theorem dJ9_min_f86c9_0 : decode cJ9_min_f86c9 0 = .ok (.lload_n 0, 1) := by decide +kernel
theorem dJ9_min_f86c9_1 : decode cJ9_min_f86c9 1 = .ok (.lload_n 2, 1) := by decide +kernel
theorem dJ9_min_f86c9_2 : decode cJ9_min_f86c9 2 = .ok (.lcmp, 1) := by decide +kernel
theorem dJ9_min_f86c9_3 : decode cJ9_min_f86c9 3 = .ok (.ifCond .gt 7, 3) := by decide +kernel
theorem dJ9_min_f86c9_6 : decode cJ9_min_f86c9 6 = .ok (.lload_n 0, 1) := by decide +kernel
theorem dJ9_min_f86c9_7 : decode cJ9_min_f86c9 7 = .ok (.goto 4, 3) := by decide +kernel
theorem dJ9_min_f86c9_10 : decode cJ9_min_f86c9 10 = .ok (.lload_n 2, 1) := by decide +kernel
theorem dJ9_min_f86c9_11 : decode cJ9_min_f86c9 11 = .ok (.lreturn, 1) := by decide +kernel
theorem dJ0_length_8abf5_0 : decode cJ0_length_8abf5 0 = .ok (.aload_n 0, 1) := by decide +kernel
theorem dJ0_length_8abf5_1 : decode cJ0_length_8abf5 1 = .ok (.getfield 9, 3) := by decide +kernel
theorem dJ0_length_8abf5_4 : decode cJ0_length_8abf5 4 = .ok (.arraylength, 1) := by decide +kernel
theorem dJ0_length_8abf5_5 : decode cJ0_length_8abf5 5 = .ok (.aload_n 0, 1) := by decide +kernel
theorem dJ0_length_8abf5_6 : decode cJ0_length_8abf5 6 = .ok (.invokevirtual 335, 3) := by decide +kernel
theorem dJ0_length_8abf5_9 : decode cJ0_length_8abf5 9 = .ok (.ishr, 1) := by decide +kernel
theorem dJ0_length_8abf5_10 : decode cJ0_length_8abf5 10 = .ok (.ireturn, 1) := by decide +kernel
theorem dJ0_charAt_5068e_0 : decode cJ0_charAt_5068e 0 = .ok (.aload_n 0, 1) := by decide +kernel
theorem dJ0_charAt_5068e_1 : decode cJ0_charAt_5068e 1 = .ok (.invokevirtual 492, 3) := by decide +kernel
theorem dJ0_charAt_5068e_4 : decode cJ0_charAt_5068e 4 = .ok (.ifCond .eq 12, 3) := by decide +kernel
theorem dJ0_charAt_5068e_7 : decode cJ0_charAt_5068e 7 = .ok (.aload_n 0, 1) := by decide +kernel
theorem dJ0_charAt_5068e_8 : decode cJ0_charAt_5068e 8 = .ok (.getfield 9, 3) := by decide +kernel
theorem dJ0_charAt_5068e_11 : decode cJ0_charAt_5068e 11 = .ok (.iload_n 1, 1) := by decide +kernel
theorem dJ0_charAt_5068e_12 : decode cJ0_charAt_5068e 12 = .ok (.invokestatic 495, 3) := by decide +kernel
theorem dJ0_charAt_5068e_15 : decode cJ0_charAt_5068e 15 = .ok (.ireturn, 1) := by decide +kernel
theorem dJ0_charAt_5068e_16 : decode cJ0_charAt_5068e 16 = .ok (.aload_n 0, 1) := by decide +kernel
theorem dJ0_charAt_5068e_17 : decode cJ0_charAt_5068e 17 = .ok (.getfield 9, 3) := by decide +kernel
theorem dJ0_charAt_5068e_20 : decode cJ0_charAt_5068e 20 = .ok (.iload_n 1, 1) := by decide +kernel
theorem dJ0_charAt_5068e_21 : decode cJ0_charAt_5068e 21 = .ok (.invokestatic 498, 3) := by decide +kernel
theorem dJ0_charAt_5068e_24 : decode cJ0_charAt_5068e 24 = .ok (.ireturn, 1) := by decide +kernel
theorem dJ0_coder_7d493_0 : decode cJ0_coder_7d493 0 = .ok (.getstatic 38, 3) := by decide +kernel
theorem dJ0_coder_7d493_3 : decode cJ0_coder_7d493 3 = .ok (.ifCond .eq 10, 3) := by decide +kernel
theorem dJ0_coder_7d493_6 : decode cJ0_coder_7d493 6 = .ok (.aload_n 0, 1) := by decide +kernel
theorem dJ0_coder_7d493_7 : decode cJ0_coder_7d493 7 = .ok (.getfield 15, 3) := by decide +kernel
theorem dJ0_coder_7d493_10 : decode cJ0_coder_7d493 10 = .ok (.goto 4, 3) := by decide +kernel
theorem dJ0_coder_7d493_13 : decode cJ0_coder_7d493 13 = .ok (.iconst 1, 1) := by decide +kernel
theorem dJ0_coder_7d493_14 : decode cJ0_coder_7d493 14 = .ok (.ireturn, 1) := by decide +kernel
theorem dJ0_isLatin1_aae02_0 : decode cJ0_isLatin1_aae02 0 = .ok (.getstatic 38, 3) := by decide +kernel
theorem dJ0_isLatin1_aae02_3 : decode cJ0_isLatin1_aae02 3 = .ok (.ifCond .eq 14, 3) := by decide +kernel
theorem dJ0_isLatin1_aae02_6 : decode cJ0_isLatin1_aae02 6 = .ok (.aload_n 0, 1) := by decide +kernel
theorem dJ0_isLatin1_aae02_7 : decode cJ0_isLatin1_aae02 7 = .ok (.getfield 15, 3) := by decide +kernel
theorem dJ0_isLatin1_aae02_10 : decode cJ0_isLatin1_aae02 10 = .ok (.ifCond .ne 7, 3) := by decide +kernel
theorem dJ0_isLatin1_aae02_13 : decode cJ0_isLatin1_aae02 13 = .ok (.iconst 1, 1) := by decide +kernel
theorem dJ0_isLatin1_aae02_14 : decode cJ0_isLatin1_aae02 14 = .ok (.goto 4, 3) := by decide +kernel
theorem dJ0_isLatin1_aae02_17 : decode cJ0_isLatin1_aae02 17 = .ok (.iconst 0, 1) := by decide +kernel
theorem dJ0_isLatin1_aae02_18 : decode cJ0_isLatin1_aae02 18 = .ok (.ireturn, 1) := by decide +kernel
theorem dJ0_checkIndex_df160_0 : decode cJ0_checkIndex_df160 0 = .ok (.iload_n 0, 1) := by decide +kernel
theorem dJ0_checkIndex_df160_1 : decode cJ0_checkIndex_df160 1 = .ok (.iload_n 1, 1) := by decide +kernel
theorem dJ0_checkIndex_df160_2 : decode cJ0_checkIndex_df160 2 = .ok (.getstatic 1053, 3) := by decide +kernel
theorem dJ0_checkIndex_df160_5 : decode cJ0_checkIndex_df160 5 = .ok (.invokestatic 1059, 3) := by decide +kernel
theorem dJ0_checkIndex_df160_8 : decode cJ0_checkIndex_df160 8 = .ok (.pop, 1) := by decide +kernel
theorem dJ0_checkIndex_df160_9 : decode cJ0_checkIndex_df160 9 = .ok (.return_, 1) := by decide +kernel
theorem dJ1_charAt_3b067_0 : decode cJ1_charAt_3b067 0 = .ok (.iload_n 1, 1) := by decide +kernel
theorem dJ1_charAt_3b067_1 : decode cJ1_charAt_3b067 1 = .ok (.aload_n 0, 1) := by decide +kernel
theorem dJ1_charAt_3b067_2 : decode cJ1_charAt_3b067 2 = .ok (.arraylength, 1) := by decide +kernel
theorem dJ1_charAt_3b067_3 : decode cJ1_charAt_3b067 3 = .ok (.invokestatic 9, 3) := by decide +kernel
theorem dJ1_charAt_3b067_6 : decode cJ1_charAt_3b067 6 = .ok (.aload_n 0, 1) := by decide +kernel
theorem dJ1_charAt_3b067_7 : decode cJ1_charAt_3b067 7 = .ok (.iload_n 1, 1) := by decide +kernel
theorem dJ1_charAt_3b067_8 : decode cJ1_charAt_3b067 8 = .ok (.baload, 1) := by decide +kernel
theorem dJ1_charAt_3b067_9 : decode cJ1_charAt_3b067 9 = .ok (.sipush 255, 3) := by decide +kernel
theorem dJ1_charAt_3b067_12 : decode cJ1_charAt_3b067 12 = .ok (.iand, 1) := by decide +kernel
theorem dJ1_charAt_3b067_13 : decode cJ1_charAt_3b067 13 = .ok (.i2c, 1) := by decide +kernel
theorem dJ1_charAt_3b067_14 : decode cJ1_charAt_3b067 14 = .ok (.ireturn, 1) := by decide +kernel
theorem dJ2_getChar_3b067_0 : decode cJ2_getChar_3b067 0 = .ok (.getstatic 44, 3) := by decide +kernel
theorem dJ2_getChar_3b067_3 : decode cJ2_getChar_3b067 3 = .ok (.ifCond .ne 25, 3) := by decide +kernel
theorem dJ2_getChar_3b067_6 : decode cJ2_getChar_3b067 6 = .ok (.iload_n 1, 1) := by decide +kernel
theorem dJ2_getChar_3b067_7 : decode cJ2_getChar_3b067 7 = .ok (.ifCond .lt 11, 3) := by decide +kernel
theorem dJ2_getChar_3b067_10 : decode cJ2_getChar_3b067 10 = .ok (.iload_n 1, 1) := by decide +kernel
theorem dJ2_getChar_3b067_11 : decode cJ2_getChar_3b067 11 = .ok (.aload_n 0, 1) := by decide +kernel
theorem dJ2_getChar_3b067_12 : decode cJ2_getChar_3b067 12 = .ok (.invokestatic 48, 3) := by decide +kernel
theorem dJ2_getChar_3b067_15 : decode cJ2_getChar_3b067 15 = .ok (.if_icmp .lt 13, 3) := by decide +kernel
theorem dJ2_getChar_3b067_18 : decode cJ2_getChar_3b067 18 = .ok (.new 52, 3) := by decide +kernel
theorem dJ2_getChar_3b067_21 : decode cJ2_getChar_3b067 21 = .ok (.dup, 1) := by decide +kernel
theorem dJ2_getChar_3b067_22 : decode cJ2_getChar_3b067 22 = .ok (.ldc 54, 2) := by decide +kernel
theorem dJ2_getChar_3b067_24 : decode cJ2_getChar_3b067 24 = .ok (.invokespecial 56, 3) := by decide +kernel
theorem dJ2_getChar_3b067_27 : decode cJ2_getChar_3b067 27 = .ok (.athrow, 1) := by decide +kernel
theorem dJ2_getChar_3b067_28 : decode cJ2_getChar_3b067 28 = .ok (.iload_n 1, 1) := by decide +kernel
theorem dJ2_getChar_3b067_29 : decode cJ2_getChar_3b067 29 = .ok (.iconst 1, 1) := by decide +kernel
theorem dJ2_getChar_3b067_30 : decode cJ2_getChar_3b067 30 = .ok (.ishl, 1) := by decide +kernel
theorem dJ2_getChar_3b067_31 : decode cJ2_getChar_3b067 31 = .ok (.istore_n 1, 1) := by decide +kernel
theorem dJ2_getChar_3b067_32 : decode cJ2_getChar_3b067 32 = .ok (.aload_n 0, 1) := by decide +kernel
theorem dJ2_getChar_3b067_33 : decode cJ2_getChar_3b067 33 = .ok (.iload_n 1, 1) := by decide +kernel
theorem dJ2_getChar_3b067_34 : decode cJ2_getChar_3b067 34 = .ok (.iinc 1 1, 3) := by decide +kernel
theorem dJ2_getChar_3b067_37 : decode cJ2_getChar_3b067 37 = .ok (.baload, 1) := by decide +kernel
theorem dJ2_getChar_3b067_38 : decode cJ2_getChar_3b067 38 = .ok (.sipush 255, 3) := by decide +kernel
theorem dJ2_getChar_3b067_41 : decode cJ2_getChar_3b067 41 = .ok (.iand, 1) := by decide +kernel
theorem dJ2_getChar_3b067_42 : decode cJ2_getChar_3b067 42 = .ok (.getstatic 59, 3) := by decide +kernel
theorem dJ2_getChar_3b067_45 : decode cJ2_getChar_3b067 45 = .ok (.ishl, 1) := by decide +kernel
theorem dJ2_getChar_3b067_46 : decode cJ2_getChar_3b067 46 = .ok (.aload_n 0, 1) := by decide +kernel
theorem dJ2_getChar_3b067_47 : decode cJ2_getChar_3b067 47 = .ok (.iload_n 1, 1) := by decide +kernel
theorem dJ2_getChar_3b067_48 : decode cJ2_getChar_3b067 48 = .ok (.baload, 1) := by decide +kernel
theorem dJ2_getChar_3b067_49 : decode cJ2_getChar_3b067 49 = .ok (.sipush 255, 3) := by decide +kernel
theorem dJ2_getChar_3b067_52 : decode cJ2_getChar_3b067 52 = .ok (.iand, 1) := by decide +kernel
theorem dJ2_getChar_3b067_53 : decode cJ2_getChar_3b067 53 = .ok (.getstatic 63, 3) := by decide +kernel
theorem dJ2_getChar_3b067_56 : decode cJ2_getChar_3b067 56 = .ok (.ishl, 1) := by decide +kernel
theorem dJ2_getChar_3b067_57 : decode cJ2_getChar_3b067 57 = .ok (.ior, 1) := by decide +kernel
theorem dJ2_getChar_3b067_58 : decode cJ2_getChar_3b067 58 = .ok (.i2c, 1) := by decide +kernel
theorem dJ2_getChar_3b067_59 : decode cJ2_getChar_3b067 59 = .ok (.ireturn, 1) := by decide +kernel
theorem dJ2_length_9d52b_0 : decode cJ2_length_9d52b 0 = .ok (.aload_n 0, 1) := by decide +kernel
theorem dJ2_length_9d52b_1 : decode cJ2_length_9d52b 1 = .ok (.arraylength, 1) := by decide +kernel
theorem dJ2_length_9d52b_2 : decode cJ2_length_9d52b 2 = .ok (.iconst 1, 1) := by decide +kernel
theorem dJ2_length_9d52b_3 : decode cJ2_length_9d52b 3 = .ok (.ishr, 1) := by decide +kernel
theorem dJ2_length_9d52b_4 : decode cJ2_length_9d52b 4 = .ok (.ireturn, 1) := by decide +kernel
theorem dJ2_charAt_3b067_0 : decode cJ2_charAt_3b067 0 = .ok (.iload_n 1, 1) := by decide +kernel
theorem dJ2_charAt_3b067_1 : decode cJ2_charAt_3b067 1 = .ok (.aload_n 0, 1) := by decide +kernel
theorem dJ2_charAt_3b067_2 : decode cJ2_charAt_3b067 2 = .ok (.invokestatic 67, 3) := by decide +kernel
theorem dJ2_charAt_3b067_5 : decode cJ2_charAt_3b067 5 = .ok (.aload_n 0, 1) := by decide +kernel
theorem dJ2_charAt_3b067_6 : decode cJ2_charAt_3b067 6 = .ok (.iload_n 1, 1) := by decide +kernel
theorem dJ2_charAt_3b067_7 : decode cJ2_charAt_3b067 7 = .ok (.invokestatic 71, 3) := by decide +kernel
theorem dJ2_charAt_3b067_10 : decode cJ2_charAt_3b067 10 = .ok (.ireturn, 1) := by decide +kernel
theorem dJ2_checkIndex_2214a_0 : decode cJ2_checkIndex_2214a 0 = .ok (.iload_n 0, 1) := by decide +kernel
theorem dJ2_checkIndex_2214a_1 : decode cJ2_checkIndex_2214a 1 = .ok (.aload_n 1, 1) := by decide +kernel
theorem dJ2_checkIndex_2214a_2 : decode cJ2_checkIndex_2214a 2 = .ok (.invokestatic 48, 3) := by decide +kernel
theorem dJ2_checkIndex_2214a_5 : decode cJ2_checkIndex_2214a 5 = .ok (.invokestatic 414, 3) := by decide +kernel
theorem dJ2_checkIndex_2214a_8 : decode cJ2_checkIndex_2214a 8 = .ok (.return_, 1) := by decide +kernel
theorem dJ3_checkIndex_8e157_0 : decode cJ3_checkIndex_8e157 0 = .ok (.iload_n 0, 1) := by decide +kernel
theorem dJ3_checkIndex_8e157_1 : decode cJ3_checkIndex_8e157 1 = .ok (.ifCond .lt 8, 3) := by decide +kernel
theorem dJ3_checkIndex_8e157_4 : decode cJ3_checkIndex_8e157 4 = .ok (.iload_n 0, 1) := by decide +kernel
theorem dJ3_checkIndex_8e157_5 : decode cJ3_checkIndex_8e157 5 = .ok (.iload_n 1, 1) := by decide +kernel
theorem dJ3_checkIndex_8e157_6 : decode cJ3_checkIndex_8e157 6 = .ok (.if_icmp .lt 10, 3) := by decide +kernel
theorem dJ3_checkIndex_8e157_9 : decode cJ3_checkIndex_8e157 9 = .ok (.aload_n 2, 1) := by decide +kernel
theorem dJ3_checkIndex_8e157_10 : decode cJ3_checkIndex_8e157 10 = .ok (.iload_n 0, 1) := by decide +kernel
theorem dJ3_checkIndex_8e157_11 : decode cJ3_checkIndex_8e157 11 = .ok (.iload_n 1, 1) := by decide +kernel
theorem dJ3_checkIndex_8e157_12 : decode cJ3_checkIndex_8e157 12 = .ok (.invokestatic 95, 3) := by decide +kernel
theorem dJ3_checkIndex_8e157_15 : decode cJ3_checkIndex_8e157 15 = .ok (.athrow, 1) := by decide +kernel
theorem dJ3_checkIndex_8e157_16 : decode cJ3_checkIndex_8e157 16 = .ok (.iload_n 0, 1) := by decide +kernel
theorem dJ3_checkIndex_8e157_17 : decode cJ3_checkIndex_8e157 17 = .ok (.ireturn, 1) := by decide +kernel
