theorem dX7_init_0 : decode cX7_init 0 = .ok (.aload_n 0, 1) := by decide +kernel
theorem dX7_init_1 : decode cX7_init 1 = .ok (.invokespecial 1, 3) := by decide +kernel
theorem dX7_init_4 : decode cX7_init 4 = .ok (.aload_n 0, 1) := by decide +kernel
theorem dX7_init_5 : decode cX7_init 5 = .ok (.sipush 320, 3) := by decide +kernel
theorem dX7_init_8 : decode cX7_init 8 = .ok (.newarray .int, 2) := by decide +kernel
theorem dX7_init_10 : decode cX7_init 10 = .ok (.putfield 7, 3) := by decide +kernel
theorem dX7_init_13 : decode cX7_init 13 = .ok (.aload_n 0, 1) := by decide +kernel
theorem dX7_init_14 : decode cX7_init 14 = .ok (.sipush 2560, 3) := by decide +kernel
theorem dX7_init_17 : decode cX7_init 17 = .ok (.newarray .int, 2) := by decide +kernel
theorem dX7_init_19 : decode cX7_init 19 = .ok (.putfield 13, 3) := by decide +kernel
theorem dX7_init_22 : decode cX7_init 22 = .ok (.aload_n 0, 1) := by decide +kernel
theorem dX7_init_23 : decode cX7_init 23 = .ok (.sipush 320, 3) := by decide +kernel
theorem dX7_init_26 : decode cX7_init 26 = .ok (.newarray .int, 2) := by decide +kernel
theorem dX7_init_28 : decode cX7_init 28 = .ok (.putfield 16, 3) := by decide +kernel
theorem dX7_init_31 : decode cX7_init 31 = .ok (.aload_n 0, 1) := by decide +kernel
theorem dX7_init_32 : decode cX7_init 32 = .ok (.sipush 320, 3) := by decide +kernel
theorem dX7_init_35 : decode cX7_init 35 = .ok (.newarray .int, 2) := by decide +kernel
theorem dX7_init_37 : decode cX7_init 37 = .ok (.putfield 19, 3) := by decide +kernel
theorem dX7_init_40 : decode cX7_init 40 = .ok (.aload_n 0, 1) := by decide +kernel
theorem dX7_init_41 : decode cX7_init 41 = .ok (.bipush 16, 2) := by decide +kernel
theorem dX7_init_43 : decode cX7_init 43 = .ok (.newarray .int, 2) := by decide +kernel
theorem dX7_init_45 : decode cX7_init 45 = .ok (.putfield 22, 3) := by decide +kernel
theorem dX7_init_48 : decode cX7_init 48 = .ok (.aload_n 0, 1) := by decide +kernel
theorem dX7_init_49 : decode cX7_init 49 = .ok (.bipush 60, 2) := by decide +kernel
theorem dX7_init_51 : decode cX7_init 51 = .ok (.newarray .char, 2) := by decide +kernel
theorem dX7_init_53 : decode cX7_init 53 = .ok (.putfield 25, 3) := by decide +kernel
theorem dX7_init_56 : decode cX7_init 56 = .ok (.aload_n 0, 1) := by decide +kernel
theorem dX7_init_57 : decode cX7_init 57 = .ok (.iconst 2, 1) := by decide +kernel
theorem dX7_init_58 : decode cX7_init 58 = .ok (.newarray .int, 2) := by decide +kernel
theorem dX7_init_60 : decode cX7_init 60 = .ok (.putfield 29, 3) := by decide +kernel
theorem dX7_init_63 : decode cX7_init 63 = .ok (.aload_n 0, 1) := by decide +kernel
theorem dX7_init_64 : decode cX7_init 64 = .ok (.sipush 160, 3) := by decide +kernel
theorem dX7_init_67 : decode cX7_init 67 = .ok (.newarray .char, 2) := by decide +kernel
theorem dX7_init_69 : decode cX7_init 69 = .ok (.putfield 32, 3) := by decide +kernel
theorem dX7_init_72 : decode cX7_init 72 = .ok (.aload_n 0, 1) := by decide +kernel
theorem dX7_init_73 : decode cX7_init 73 = .ok (.getfield 7, 3) := by decide +kernel
theorem dX7_init_76 : decode cX7_init 76 = .ok (.iconst 3, 1) := by decide +kernel
theorem dX7_init_77 : decode cX7_init 77 = .ok (.bipush 100, 2) := by decide +kernel
theorem dX7_init_79 : decode cX7_init 79 = .ok (.iastore, 1) := by decide +kernel
theorem dX7_init_80 : decode cX7_init 80 = .ok (.return_, 1) := by decide +kernel
theorem dX7_isBetween_0 : decode cX7_isBetween 0 = .ok (.iload_n 1, 1) := by decide +kernel
theorem dX7_isBetween_1 : decode cX7_isBetween 1 = .ok (.iload_n 0, 1) := by decide +kernel
theorem dX7_isBetween_2 : decode cX7_isBetween 2 = .ok (.if_icmp .gt 12, 3) := by decide +kernel
theorem dX7_isBetween_5 : decode cX7_isBetween 5 = .ok (.iload_n 0, 1) := by decide +kernel
theorem dX7_isBetween_6 : decode cX7_isBetween 6 = .ok (.iload_n 2, 1) := by decide +kernel
theorem dX7_isBetween_7 : decode cX7_isBetween 7 = .ok (.if_icmp .gt 7, 3) := by decide +kernel
theorem dX7_isBetween_10 : decode cX7_isBetween 10 = .ok (.iconst 1, 1) := by decide +kernel
theorem dX7_isBetween_11 : decode cX7_isBetween 11 = .ok (.goto 4, 3) := by decide +kernel
theorem dX7_isBetween_14 : decode cX7_isBetween 14 = .ok (.iconst 0, 1) := by decide +kernel
theorem dX7_isBetween_15 : decode cX7_isBetween 15 = .ok (.ireturn, 1) := by decide +kernel
theorem dX7_lesser_0 : decode cX7_lesser 0 = .ok (.iload_n 0, 1) := by decide +kernel
theorem dX7_lesser_1 : decode cX7_lesser 1 = .ok (.iload_n 1, 1) := by decide +kernel
theorem dX7_lesser_2 : decode cX7_lesser 2 = .ok (.if_icmp .ge 7, 3) := by decide +kernel
theorem dX7_lesser_5 : decode cX7_lesser 5 = .ok (.iload_n 0, 1) := by decide +kernel
theorem dX7_lesser_6 : decode cX7_lesser 6 = .ok (.goto 4, 3) := by decide +kernel
theorem dX7_lesser_9 : decode cX7_lesser 9 = .ok (.iload_n 1, 1) := by decide +kernel
theorem dX7_lesser_10 : decode cX7_lesser 10 = .ok (.ireturn, 1) := by decide +kernel
theorem dX7_isNot_0 : decode cX7_isNot 0 = .ok (.aload_n 0, 1) := by decide +kernel
theorem dX7_isNot_1 : decode cX7_isNot 1 = .ok (.iload_n 1, 1) := by decide +kernel
theorem dX7_isNot_2 : decode cX7_isNot 2 = .ok (.putfield 35, 3) := by decide +kernel
theorem dX7_isNot_5 : decode cX7_isNot 5 = .ok (.aload_n 0, 1) := by decide +kernel
theorem dX7_isNot_6 : decode cX7_isNot 6 = .ok (.iload_n 2, 1) := by decide +kernel
theorem dX7_isNot_7 : decode cX7_isNot 7 = .ok (.putfield 39, 3) := by decide +kernel
theorem dX7_isNot_10 : decode cX7_isNot 10 = .ok (.bipush (-14), 2) := by decide +kernel
theorem dX7_isNot_12 : decode cX7_isNot 12 = .ok (.ireturn, 1) := by decide +kernel
theorem dX7_refuses_0 : decode cX7_refuses 0 = .ok (.iload_n 1, 1) := by decide +kernel
theorem dX7_refuses_1 : decode cX7_refuses 1 = .ok (.bipush (-14), 2) := by decide +kernel
theorem dX7_refuses_3 : decode cX7_refuses 3 = .ok (.if_icmp .ne 19, 3) := by decide +kernel
theorem dX7_refuses_6 : decode cX7_refuses 6 = .ok (.aload_n 0, 1) := by decide +kernel
theorem dX7_refuses_7 : decode cX7_refuses 7 = .ok (.aload_n 0, 1) := by decide +kernel
theorem dX7_refuses_8 : decode cX7_refuses 8 = .ok (.getfield 35, 3) := by decide +kernel
theorem dX7_refuses_11 : decode cX7_refuses 11 = .ok (.putfield 42, 3) := by decide +kernel
theorem dX7_refuses_14 : decode cX7_refuses 14 = .ok (.aload_n 0, 1) := by decide +kernel
theorem dX7_refuses_15 : decode cX7_refuses 15 = .ok (.aload_n 0, 1) := by decide +kernel
theorem dX7_refuses_16 : decode cX7_refuses 16 = .ok (.getfield 39, 3) := by decide +kernel
theorem dX7_refuses_19 : decode cX7_refuses 19 = .ok (.putfield 45, 3) := by decide +kernel
theorem dX7_refuses_22 : decode cX7_refuses 22 = .ok (.iload_n 1, 1) := by decide +kernel
theorem dX7_refuses_23 : decode cX7_refuses 23 = .ok (.ireturn, 1) := by decide +kernel
theorem dX7_reason_0 : decode cX7_reason 0 = .ok (.aload_n 0, 1) := by decide +kernel
theorem dX7_reason_1 : decode cX7_reason 1 = .ok (.getfield 42, 3) := by decide +kernel
theorem dX7_reason_4 : decode cX7_reason 4 = .ok (.ifCond .ne 8, 3) := by decide +kernel
theorem dX7_reason_7 : decode cX7_reason 7 = .ok (.bipush (-15), 2) := by decide +kernel
theorem dX7_reason_9 : decode cX7_reason 9 = .ok (.goto 18, 3) := by decide +kernel
theorem dX7_reason_12 : decode cX7_reason 12 = .ok (.iload_n 1, 1) := by decide +kernel
theorem dX7_reason_13 : decode cX7_reason 13 = .ok (.ifCond .eq 10, 3) := by decide +kernel
theorem dX7_reason_16 : decode cX7_reason 16 = .ok (.aload_n 0, 1) := by decide +kernel
theorem dX7_reason_17 : decode cX7_reason 17 = .ok (.getfield 45, 3) := by decide +kernel
theorem dX7_reason_20 : decode cX7_reason 20 = .ok (.goto 7, 3) := by decide +kernel
theorem dX7_reason_23 : decode cX7_reason 23 = .ok (.aload_n 0, 1) := by decide +kernel
theorem dX7_reason_24 : decode cX7_reason 24 = .ok (.getfield 42, 3) := by decide +kernel
theorem dX7_reason_27 : decode cX7_reason 27 = .ok (.ireturn, 1) := by decide +kernel
theorem dX7_thinks_0 : decode cX7_thinks 0 = .ok (.iconst 0, 1) := by decide +kernel
theorem dX7_thinks_1 : decode cX7_thinks 1 = .ok (.istore_n 1, 1) := by decide +kernel
theorem dX7_thinks_2 : decode cX7_thinks 2 = .ok (.iload_n 1, 1) := by decide +kernel
theorem dX7_thinks_3 : decode cX7_thinks 3 = .ok (.sipush 320, 3) := by decide +kernel
theorem dX7_thinks_6 : decode cX7_thinks 6 = .ok (.if_icmp .ge 21, 3) := by decide +kernel
theorem dX7_thinks_9 : decode cX7_thinks 9 = .ok (.aload_n 0, 1) := by decide +kernel
theorem dX7_thinks_10 : decode cX7_thinks 10 = .ok (.getfield 19, 3) := by decide +kernel
theorem dX7_thinks_13 : decode cX7_thinks 13 = .ok (.iload_n 1, 1) := by decide +kernel
theorem dX7_thinks_14 : decode cX7_thinks 14 = .ok (.aload_n 0, 1) := by decide +kernel
theorem dX7_thinks_15 : decode cX7_thinks 15 = .ok (.getfield 7, 3) := by decide +kernel
theorem dX7_thinks_18 : decode cX7_thinks 18 = .ok (.iload_n 1, 1) := by decide +kernel
theorem dX7_thinks_19 : decode cX7_thinks 19 = .ok (.iaload, 1) := by decide +kernel
theorem dX7_thinks_20 : decode cX7_thinks 20 = .ok (.iastore, 1) := by decide +kernel
theorem dX7_thinks_21 : decode cX7_thinks 21 = .ok (.iinc 1 1, 3) := by decide +kernel
theorem dX7_thinks_24 : decode cX7_thinks 24 = .ok (.goto (-22), 3) := by decide +kernel
theorem dX7_thinks_27 : decode cX7_thinks 27 = .ok (.return_, 1) := by decide +kernel
theorem dX7_forgets_0 : decode cX7_forgets 0 = .ok (.iconst 0, 1) := by decide +kernel
theorem dX7_forgets_1 : decode cX7_forgets 1 = .ok (.istore_n 1, 1) := by decide +kernel
theorem dX7_forgets_2 : decode cX7_forgets 2 = .ok (.iload_n 1, 1) := by decide +kernel
theorem dX7_forgets_3 : decode cX7_forgets 3 = .ok (.sipush 320, 3) := by decide +kernel
theorem dX7_forgets_6 : decode cX7_forgets 6 = .ok (.if_icmp .ge 21, 3) := by decide +kernel
theorem dX7_forgets_9 : decode cX7_forgets 9 = .ok (.aload_n 0, 1) := by decide +kernel
theorem dX7_forgets_10 : decode cX7_forgets 10 = .ok (.getfield 7, 3) := by decide +kernel
theorem dX7_forgets_13 : decode cX7_forgets 13 = .ok (.iload_n 1, 1) := by decide +kernel
theorem dX7_forgets_14 : decode cX7_forgets 14 = .ok (.aload_n 0, 1) := by decide +kernel
theorem dX7_forgets_15 : decode cX7_forgets 15 = .ok (.getfield 19, 3) := by decide +kernel
theorem dX7_forgets_18 : decode cX7_forgets 18 = .ok (.iload_n 1, 1) := by decide +kernel
theorem dX7_forgets_19 : decode cX7_forgets 19 = .ok (.iaload, 1) := by decide +kernel
theorem dX7_forgets_20 : decode cX7_forgets 20 = .ok (.iastore, 1) := by decide +kernel
theorem dX7_forgets_21 : decode cX7_forgets 21 = .ok (.iinc 1 1, 3) := by decide +kernel
theorem dX7_forgets_24 : decode cX7_forgets 24 = .ok (.goto (-22), 3) := by decide +kernel
theorem dX7_forgets_27 : decode cX7_forgets 27 = .ok (.return_, 1) := by decide +kernel
theorem dX7_keepsMind_0 : decode cX7_keepsMind 0 = .ok (.aload_n 0, 1) := by decide +kernel
theorem dX7_keepsMind_1 : decode cX7_keepsMind 1 = .ok (.getfield 48, 3) := by decide +kernel
theorem dX7_keepsMind_4 : decode cX7_keepsMind 4 = .ok (.bipush 8, 2) := by decide +kernel
theorem dX7_keepsMind_6 : decode cX7_keepsMind 6 = .ok (.if_icmp .ne 26, 3) := by decide +kernel
theorem dX7_keepsMind_9 : decode cX7_keepsMind 9 = .ok (.aload_n 0, 1) := by decide +kernel
theorem dX7_keepsMind_10 : decode cX7_keepsMind 10 = .ok (.aload_n 0, 1) := by decide +kernel
theorem dX7_keepsMind_11 : decode cX7_keepsMind 11 = .ok (.getfield 51, 3) := by decide +kernel
theorem dX7_keepsMind_14 : decode cX7_keepsMind 14 = .ok (.iconst 1, 1) := by decide +kernel
theorem dX7_keepsMind_15 : decode cX7_keepsMind 15 = .ok (.iadd, 1) := by decide +kernel
theorem dX7_keepsMind_16 : decode cX7_keepsMind 16 = .ok (.bipush 8, 2) := by decide +kernel
theorem dX7_keepsMind_18 : decode cX7_keepsMind 18 = .ok (.irem, 1) := by decide +kernel
theorem dX7_keepsMind_19 : decode cX7_keepsMind 19 = .ok (.putfield 51, 3) := by decide +kernel
theorem dX7_keepsMind_22 : decode cX7_keepsMind 22 = .ok (.aload_n 0, 1) := by decide +kernel
theorem dX7_keepsMind_23 : decode cX7_keepsMind 23 = .ok (.dup, 1) := by decide +kernel
theorem dX7_keepsMind_24 : decode cX7_keepsMind 24 = .ok (.getfield 48, 3) := by decide +kernel
theorem dX7_keepsMind_27 : decode cX7_keepsMind 27 = .ok (.iconst 1, 1) := by decide +kernel
theorem dX7_keepsMind_28 : decode cX7_keepsMind 28 = .ok (.isub, 1) := by decide +kernel
theorem dX7_keepsMind_29 : decode cX7_keepsMind 29 = .ok (.putfield 48, 3) := by decide +kernel
theorem dX7_keepsMind_32 : decode cX7_keepsMind 32 = .ok (.aload_n 0, 1) := by decide +kernel
theorem dX7_keepsMind_33 : decode cX7_keepsMind 33 = .ok (.getfield 51, 3) := by decide +kernel
theorem dX7_keepsMind_36 : decode cX7_keepsMind 36 = .ok (.aload_n 0, 1) := by decide +kernel
theorem dX7_keepsMind_37 : decode cX7_keepsMind 37 = .ok (.getfield 48, 3) := by decide +kernel
theorem dX7_keepsMind_40 : decode cX7_keepsMind 40 = .ok (.iadd, 1) := by decide +kernel
theorem dX7_keepsMind_41 : decode cX7_keepsMind 41 = .ok (.bipush 8, 2) := by decide +kernel
theorem dX7_keepsMind_43 : decode cX7_keepsMind 43 = .ok (.irem, 1) := by decide +kernel
theorem dX7_keepsMind_44 : decode cX7_keepsMind 44 = .ok (.istore_n 1, 1) := by decide +kernel
theorem dX7_keepsMind_45 : decode cX7_keepsMind 45 = .ok (.iconst 0, 1) := by decide +kernel
theorem dX7_keepsMind_46 : decode cX7_keepsMind 46 = .ok (.istore_n 2, 1) := by decide +kernel
theorem dX7_keepsMind_47 : decode cX7_keepsMind 47 = .ok (.iload_n 2, 1) := by decide +kernel
theorem dX7_keepsMind_48 : decode cX7_keepsMind 48 = .ok (.sipush 320, 3) := by decide +kernel
theorem dX7_keepsMind_51 : decode cX7_keepsMind 51 = .ok (.if_icmp .ge 27, 3) := by decide +kernel
theorem dX7_keepsMind_54 : decode cX7_keepsMind 54 = .ok (.aload_n 0, 1) := by decide +kernel
theorem dX7_keepsMind_55 : decode cX7_keepsMind 55 = .ok (.getfield 13, 3) := by decide +kernel
theorem dX7_keepsMind_58 : decode cX7_keepsMind 58 = .ok (.sipush 320, 3) := by decide +kernel
theorem dX7_keepsMind_61 : decode cX7_keepsMind 61 = .ok (.iload_n 1, 1) := by decide +kernel
theorem dX7_keepsMind_62 : decode cX7_keepsMind 62 = .ok (.imul, 1) := by decide +kernel
theorem dX7_keepsMind_63 : decode cX7_keepsMind 63 = .ok (.iload_n 2, 1) := by decide +kernel
theorem dX7_keepsMind_64 : decode cX7_keepsMind 64 = .ok (.iadd, 1) := by decide +kernel
theorem dX7_keepsMind_65 : decode cX7_keepsMind 65 = .ok (.aload_n 0, 1) := by decide +kernel
theorem dX7_keepsMind_66 : decode cX7_keepsMind 66 = .ok (.getfield 19, 3) := by decide +kernel
theorem dX7_keepsMind_69 : decode cX7_keepsMind 69 = .ok (.iload_n 2, 1) := by decide +kernel
theorem dX7_keepsMind_70 : decode cX7_keepsMind 70 = .ok (.iaload, 1) := by decide +kernel
theorem dX7_keepsMind_71 : decode cX7_keepsMind 71 = .ok (.iastore, 1) := by decide +kernel
theorem dX7_keepsMind_72 : decode cX7_keepsMind 72 = .ok (.iinc 2 1, 3) := by decide +kernel
theorem dX7_keepsMind_75 : decode cX7_keepsMind 75 = .ok (.goto (-28), 3) := by decide +kernel
theorem dX7_keepsMind_78 : decode cX7_keepsMind 78 = .ok (.aload_n 0, 1) := by decide +kernel
theorem dX7_keepsMind_79 : decode cX7_keepsMind 79 = .ok (.dup, 1) := by decide +kernel
theorem dX7_keepsMind_80 : decode cX7_keepsMind 80 = .ok (.getfield 48, 3) := by decide +kernel
theorem dX7_keepsMind_83 : decode cX7_keepsMind 83 = .ok (.iconst 1, 1) := by decide +kernel
theorem dX7_keepsMind_84 : decode cX7_keepsMind 84 = .ok (.iadd, 1) := by decide +kernel
theorem dX7_keepsMind_85 : decode cX7_keepsMind 85 = .ok (.putfield 48, 3) := by decide +kernel
theorem dX7_keepsMind_88 : decode cX7_keepsMind 88 = .ok (.return_, 1) := by decide +kernel
theorem dX7_remembers_0 : decode cX7_remembers 0 = .ok (.aload_n 0, 1) := by decide +kernel
theorem dX7_remembers_1 : decode cX7_remembers 1 = .ok (.invokevirtual 54, 3) := by decide +kernel
theorem dX7_remembers_4 : decode cX7_remembers 4 = .ok (.aload_n 0, 1) := by decide +kernel
theorem dX7_remembers_5 : decode cX7_remembers 5 = .ok (.invokevirtual 57, 3) := by decide +kernel
theorem dX7_remembers_8 : decode cX7_remembers 8 = .ok (.return_, 1) := by decide +kernel
theorem dX7_of_0 : decode cX7_of 0 = .ok (.aload_n 0, 1) := by decide +kernel
theorem dX7_of_1 : decode cX7_of 1 = .ok (.getfield 7, 3) := by decide +kernel
theorem dX7_of_4 : decode cX7_of 4 = .ok (.bipush 64, 2) := by decide +kernel
theorem dX7_of_6 : decode cX7_of 6 = .ok (.bipush 16, 2) := by decide +kernel
theorem dX7_of_8 : decode cX7_of 8 = .ok (.iload_n 1, 1) := by decide +kernel
theorem dX7_of_9 : decode cX7_of 9 = .ok (.imul, 1) := by decide +kernel
theorem dX7_of_10 : decode cX7_of 10 = .ok (.iadd, 1) := by decide +kernel
theorem dX7_of_11 : decode cX7_of 11 = .ok (.iload_n 2, 1) := by decide +kernel
theorem dX7_of_12 : decode cX7_of 12 = .ok (.iadd, 1) := by decide +kernel
theorem dX7_of_13 : decode cX7_of 13 = .ok (.iaload, 1) := by decide +kernel
theorem dX7_of_14 : decode cX7_of 14 = .ok (.ireturn, 1) := by decide +kernel
theorem dX7_sets_0 : decode cX7_sets 0 = .ok (.aload_n 0, 1) := by decide +kernel
theorem dX7_sets_1 : decode cX7_sets 1 = .ok (.getfield 7, 3) := by decide +kernel
theorem dX7_sets_4 : decode cX7_sets 4 = .ok (.bipush 64, 2) := by decide +kernel
theorem dX7_sets_6 : decode cX7_sets 6 = .ok (.bipush 16, 2) := by decide +kernel
theorem dX7_sets_8 : decode cX7_sets 8 = .ok (.iload_n 1, 1) := by decide +kernel
theorem dX7_sets_9 : decode cX7_sets 9 = .ok (.imul, 1) := by decide +kernel
theorem dX7_sets_10 : decode cX7_sets 10 = .ok (.iadd, 1) := by decide +kernel
theorem dX7_sets_11 : decode cX7_sets 11 = .ok (.iload_n 2, 1) := by decide +kernel
theorem dX7_sets_12 : decode cX7_sets 12 = .ok (.iadd, 1) := by decide +kernel
theorem dX7_sets_13 : decode cX7_sets 13 = .ok (.iload_n 3, 1) := by decide +kernel
theorem dX7_sets_14 : decode cX7_sets 14 = .ok (.iastore, 1) := by decide +kernel
theorem dX7_sets_15 : decode cX7_sets 15 = .ok (.return_, 1) := by decide +kernel
theorem dX7_isBrother_0 : decode cX7_isBrother 0 = .ok (.iload_n 1, 1) := by decide +kernel
theorem dX7_isBrother_1 : decode cX7_isBrother 1 = .ok (.iconst 0, 1) := by decide +kernel
theorem dX7_isBrother_2 : decode cX7_isBrother 2 = .ok (.aload_n 0, 1) := by decide +kernel
theorem dX7_isBrother_3 : decode cX7_isBrother 3 = .ok (.getfield 7, 3) := by decide +kernel
theorem dX7_isBrother_6 : decode cX7_isBrother 6 = .ok (.iconst 2, 1) := by decide +kernel
theorem dX7_isBrother_7 : decode cX7_isBrother 7 = .ok (.iaload, 1) := by decide +kernel
theorem dX7_isBrother_8 : decode cX7_isBrother 8 = .ok (.iconst 1, 1) := by decide +kernel
theorem dX7_isBrother_9 : decode cX7_isBrother 9 = .ok (.isub, 1) := by decide +kernel
theorem dX7_isBrother_10 : decode cX7_isBrother 10 = .ok (.invokestatic 60, 3) := by decide +kernel
theorem dX7_isBrother_13 : decode cX7_isBrother 13 = .ok (.ireturn, 1) := by decide +kernel
theorem dX7_isCell_0 : decode cX7_isCell 0 = .ok (.iload_n 0, 1) := by decide +kernel
theorem dX7_isCell_1 : decode cX7_isCell 1 = .ok (.iconst 0, 1) := by decide +kernel
theorem dX7_isCell_2 : decode cX7_isCell 2 = .ok (.bipush 7, 2) := by decide +kernel
theorem dX7_isCell_4 : decode cX7_isCell 4 = .ok (.invokestatic 60, 3) := by decide +kernel
theorem dX7_isCell_7 : decode cX7_isCell 7 = .ok (.ireturn, 1) := by decide +kernel
theorem dX7_isSo_0 : decode cX7_isSo 0 = .ok (.aload_n 0, 1) := by decide +kernel
theorem dX7_isSo_1 : decode cX7_isSo 1 = .ok (.iload_n 1, 1) := by decide +kernel
theorem dX7_isSo_2 : decode cX7_isSo 2 = .ok (.iconst 2, 1) := by decide +kernel
theorem dX7_isSo_3 : decode cX7_isSo 3 = .ok (.invokevirtual 64, 3) := by decide +kernel
theorem dX7_isSo_6 : decode cX7_isSo 6 = .ok (.iload_n 2, 1) := by decide +kernel
theorem dX7_isSo_7 : decode cX7_isSo 7 = .ok (.if_icmp .ne 7, 3) := by decide +kernel
theorem dX7_isSo_10 : decode cX7_isSo 10 = .ok (.iconst 1, 1) := by decide +kernel
theorem dX7_isSo_11 : decode cX7_isSo 11 = .ok (.goto 4, 3) := by decide +kernel
theorem dX7_isSo_14 : decode cX7_isSo 14 = .ok (.iconst 0, 1) := by decide +kernel
theorem dX7_isSo_15 : decode cX7_isSo 15 = .ok (.ireturn, 1) := by decide +kernel
theorem dX7_brethrenThat_0 : decode cX7_brethrenThat 0 = .ok (.iconst 0, 1) := by decide +kernel
theorem dX7_brethrenThat_1 : decode cX7_brethrenThat 1 = .ok (.istore_n 2, 1) := by decide +kernel
theorem dX7_brethrenThat_2 : decode cX7_brethrenThat 2 = .ok (.iconst 0, 1) := by decide +kernel
theorem dX7_brethrenThat_3 : decode cX7_brethrenThat 3 = .ok (.istore_n 3, 1) := by decide +kernel
theorem dX7_brethrenThat_4 : decode cX7_brethrenThat 4 = .ok (.iload_n 3, 1) := by decide +kernel
theorem dX7_brethrenThat_5 : decode cX7_brethrenThat 5 = .ok (.aload_n 0, 1) := by decide +kernel
theorem dX7_brethrenThat_6 : decode cX7_brethrenThat 6 = .ok (.getfield 7, 3) := by decide +kernel
theorem dX7_brethrenThat_9 : decode cX7_brethrenThat 9 = .ok (.iconst 2, 1) := by decide +kernel
theorem dX7_brethrenThat_10 : decode cX7_brethrenThat 10 = .ok (.iaload, 1) := by decide +kernel
theorem dX7_brethrenThat_11 : decode cX7_brethrenThat 11 = .ok (.if_icmp .ge 26, 3) := by decide +kernel
theorem dX7_brethrenThat_14 : decode cX7_brethrenThat 14 = .ok (.iload_n 2, 1) := by decide +kernel
theorem dX7_brethrenThat_15 : decode cX7_brethrenThat 15 = .ok (.aload_n 0, 1) := by decide +kernel
theorem dX7_brethrenThat_16 : decode cX7_brethrenThat 16 = .ok (.iload_n 3, 1) := by decide +kernel
theorem dX7_brethrenThat_17 : decode cX7_brethrenThat 17 = .ok (.iload_n 1, 1) := by decide +kernel
theorem dX7_brethrenThat_18 : decode cX7_brethrenThat 18 = .ok (.invokevirtual 68, 3) := by decide +kernel
theorem dX7_brethrenThat_21 : decode cX7_brethrenThat 21 = .ok (.ifCond .eq 7, 3) := by decide +kernel
theorem dX7_brethrenThat_24 : decode cX7_brethrenThat 24 = .ok (.iconst 1, 1) := by decide +kernel
theorem dX7_brethrenThat_25 : decode cX7_brethrenThat 25 = .ok (.goto 4, 3) := by decide +kernel
theorem dX7_brethrenThat_28 : decode cX7_brethrenThat 28 = .ok (.iconst 0, 1) := by decide +kernel
theorem dX7_brethrenThat_29 : decode cX7_brethrenThat 29 = .ok (.iadd, 1) := by decide +kernel
theorem dX7_brethrenThat_30 : decode cX7_brethrenThat 30 = .ok (.istore_n 2, 1) := by decide +kernel
theorem dX7_brethrenThat_31 : decode cX7_brethrenThat 31 = .ok (.iinc 3 1, 3) := by decide +kernel
theorem dX7_brethrenThat_34 : decode cX7_brethrenThat 34 = .ok (.goto (-30), 3) := by decide +kernel
theorem dX7_brethrenThat_37 : decode cX7_brethrenThat 37 = .ok (.iload_n 2, 1) := by decide +kernel
theorem dX7_brethrenThat_38 : decode cX7_brethrenThat 38 = .ok (.ireturn, 1) := by decide +kernel
theorem dX7_brotherIn_0 : decode cX7_brotherIn 0 = .ok (.iconst 0, 1) := by decide +kernel
theorem dX7_brotherIn_1 : decode cX7_brotherIn 1 = .ok (.istore_n 2, 1) := by decide +kernel
theorem dX7_brotherIn_2 : decode cX7_brotherIn 2 = .ok (.iload_n 2, 1) := by decide +kernel
theorem dX7_brotherIn_3 : decode cX7_brotherIn 3 = .ok (.aload_n 0, 1) := by decide +kernel
theorem dX7_brotherIn_4 : decode cX7_brotherIn 4 = .ok (.getfield 7, 3) := by decide +kernel
theorem dX7_brotherIn_7 : decode cX7_brotherIn 7 = .ok (.iconst 2, 1) := by decide +kernel
theorem dX7_brotherIn_8 : decode cX7_brotherIn 8 = .ok (.iaload, 1) := by decide +kernel
theorem dX7_brotherIn_9 : decode cX7_brotherIn 9 = .ok (.if_icmp .ge 30, 3) := by decide +kernel
theorem dX7_brotherIn_12 : decode cX7_brotherIn 12 = .ok (.aload_n 0, 1) := by decide +kernel
theorem dX7_brotherIn_13 : decode cX7_brotherIn 13 = .ok (.iload_n 2, 1) := by decide +kernel
theorem dX7_brotherIn_14 : decode cX7_brotherIn 14 = .ok (.iconst 1, 1) := by decide +kernel
theorem dX7_brotherIn_15 : decode cX7_brotherIn 15 = .ok (.invokevirtual 68, 3) := by decide +kernel
theorem dX7_brotherIn_18 : decode cX7_brotherIn 18 = .ok (.ifCond .eq 15, 3) := by decide +kernel
theorem dX7_brotherIn_21 : decode cX7_brotherIn 21 = .ok (.aload_n 0, 1) := by decide +kernel
theorem dX7_brotherIn_22 : decode cX7_brotherIn 22 = .ok (.iload_n 2, 1) := by decide +kernel
theorem dX7_brotherIn_23 : decode cX7_brotherIn 23 = .ok (.iconst 3, 1) := by decide +kernel
theorem dX7_brotherIn_24 : decode cX7_brotherIn 24 = .ok (.invokevirtual 64, 3) := by decide +kernel
theorem dX7_brotherIn_27 : decode cX7_brotherIn 27 = .ok (.iload_n 1, 1) := by decide +kernel
theorem dX7_brotherIn_28 : decode cX7_brotherIn 28 = .ok (.if_icmp .ne 5, 3) := by decide +kernel
theorem dX7_brotherIn_31 : decode cX7_brotherIn 31 = .ok (.iload_n 2, 1) := by decide +kernel
theorem dX7_brotherIn_32 : decode cX7_brotherIn 32 = .ok (.ireturn, 1) := by decide +kernel
theorem dX7_brotherIn_33 : decode cX7_brotherIn 33 = .ok (.iinc 2 1, 3) := by decide +kernel
theorem dX7_brotherIn_36 : decode cX7_brotherIn 36 = .ok (.goto (-34), 3) := by decide +kernel
theorem dX7_brotherIn_39 : decode cX7_brotherIn 39 = .ok (.bipush (-15), 2) := by decide +kernel
theorem dX7_brotherIn_41 : decode cX7_brotherIn 41 = .ok (.ireturn, 1) := by decide +kernel
theorem dX7_countsFor_0 : decode cX7_countsFor 0 = .ok (.aload_n 0, 1) := by decide +kernel
theorem dX7_countsFor_1 : decode cX7_countsFor 1 = .ok (.iload_n 1, 1) := by decide +kernel
theorem dX7_countsFor_2 : decode cX7_countsFor 2 = .ok (.iconst 1, 1) := by decide +kernel
theorem dX7_countsFor_3 : decode cX7_countsFor 3 = .ok (.invokevirtual 64, 3) := by decide +kernel
theorem dX7_countsFor_6 : decode cX7_countsFor 6 = .ok (.iconst 1, 1) := by decide +kernel
theorem dX7_countsFor_7 : decode cX7_countsFor 7 = .ok (.if_icmp .ne 7, 3) := by decide +kernel
theorem dX7_countsFor_10 : decode cX7_countsFor 10 = .ok (.iconst 2, 1) := by decide +kernel
theorem dX7_countsFor_11 : decode cX7_countsFor 11 = .ok (.goto 4, 3) := by decide +kernel
theorem dX7_countsFor_14 : decode cX7_countsFor 14 = .ok (.iconst 1, 1) := by decide +kernel
theorem dX7_countsFor_15 : decode cX7_countsFor 15 = .ok (.ireturn, 1) := by decide +kernel
theorem dX7_voicesFor_0 : decode cX7_voicesFor 0 = .ok (.aload_n 0, 1) := by decide +kernel
theorem dX7_voicesFor_1 : decode cX7_voicesFor 1 = .ok (.iload_n 1, 1) := by decide +kernel
theorem dX7_voicesFor_2 : decode cX7_voicesFor 2 = .ok (.iconst 0, 1) := by decide +kernel
theorem dX7_voicesFor_3 : decode cX7_voicesFor 3 = .ok (.invokevirtual 68, 3) := by decide +kernel
theorem dX7_voicesFor_6 : decode cX7_voicesFor 6 = .ok (.ifCond .ne 5, 3) := by decide +kernel
theorem dX7_voicesFor_9 : decode cX7_voicesFor 9 = .ok (.iconst 0, 1) := by decide +kernel
theorem dX7_voicesFor_10 : decode cX7_voicesFor 10 = .ok (.ireturn, 1) := by decide +kernel
theorem dX7_voicesFor_11 : decode cX7_voicesFor 11 = .ok (.iconst 0, 1) := by decide +kernel
theorem dX7_voicesFor_12 : decode cX7_voicesFor 12 = .ok (.istore_n 2, 1) := by decide +kernel
theorem dX7_voicesFor_13 : decode cX7_voicesFor 13 = .ok (.iconst 0, 1) := by decide +kernel
theorem dX7_voicesFor_14 : decode cX7_voicesFor 14 = .ok (.istore_n 3, 1) := by decide +kernel
theorem dX7_voicesFor_15 : decode cX7_voicesFor 15 = .ok (.iload_n 3, 1) := by decide +kernel
theorem dX7_voicesFor_16 : decode cX7_voicesFor 16 = .ok (.aload_n 0, 1) := by decide +kernel
theorem dX7_voicesFor_17 : decode cX7_voicesFor 17 = .ok (.getfield 7, 3) := by decide +kernel
theorem dX7_voicesFor_20 : decode cX7_voicesFor 20 = .ok (.iconst 2, 1) := by decide +kernel
theorem dX7_voicesFor_21 : decode cX7_voicesFor 21 = .ok (.iaload, 1) := by decide +kernel
theorem dX7_voicesFor_22 : decode cX7_voicesFor 22 = .ok (.if_icmp .ge 34, 3) := by decide +kernel
theorem dX7_voicesFor_25 : decode cX7_voicesFor 25 = .ok (.iload_n 2, 1) := by decide +kernel
theorem dX7_voicesFor_26 : decode cX7_voicesFor 26 = .ok (.aload_n 0, 1) := by decide +kernel
theorem dX7_voicesFor_27 : decode cX7_voicesFor 27 = .ok (.iload_n 3, 1) := by decide +kernel
theorem dX7_voicesFor_28 : decode cX7_voicesFor 28 = .ok (.bipush 7, 2) := by decide +kernel
theorem dX7_voicesFor_30 : decode cX7_voicesFor 30 = .ok (.invokevirtual 64, 3) := by decide +kernel
theorem dX7_voicesFor_33 : decode cX7_voicesFor 33 = .ok (.iload_n 1, 1) := by decide +kernel
theorem dX7_voicesFor_34 : decode cX7_voicesFor 34 = .ok (.iconst 1, 1) := by decide +kernel
theorem dX7_voicesFor_35 : decode cX7_voicesFor 35 = .ok (.iadd, 1) := by decide +kernel
theorem dX7_voicesFor_36 : decode cX7_voicesFor 36 = .ok (.if_icmp .ne 11, 3) := by decide +kernel
theorem dX7_voicesFor_39 : decode cX7_voicesFor 39 = .ok (.aload_n 0, 1) := by decide +kernel
theorem dX7_voicesFor_40 : decode cX7_voicesFor 40 = .ok (.iload_n 1, 1) := by decide +kernel
theorem dX7_voicesFor_41 : decode cX7_voicesFor 41 = .ok (.invokevirtual 72, 3) := by decide +kernel
theorem dX7_voicesFor_44 : decode cX7_voicesFor 44 = .ok (.goto 4, 3) := by decide +kernel
theorem dX7_voicesFor_47 : decode cX7_voicesFor 47 = .ok (.iconst 0, 1) := by decide +kernel
theorem dX7_voicesFor_48 : decode cX7_voicesFor 48 = .ok (.iadd, 1) := by decide +kernel
theorem dX7_voicesFor_49 : decode cX7_voicesFor 49 = .ok (.istore_n 2, 1) := by decide +kernel
theorem dX7_voicesFor_50 : decode cX7_voicesFor 50 = .ok (.iinc 3 1, 3) := by decide +kernel
theorem dX7_voicesFor_53 : decode cX7_voicesFor 53 = .ok (.goto (-38), 3) := by decide +kernel
theorem dX7_voicesFor_56 : decode cX7_voicesFor 56 = .ok (.iload_n 2, 1) := by decide +kernel
theorem dX7_voicesFor_57 : decode cX7_voicesFor 57 = .ok (.ireturn, 1) := by decide +kernel
theorem dX7_voicesGo_0 : decode cX7_voicesGo 0 = .ok (.aload_n 0, 1) := by decide +kernel
theorem dX7_voicesGo_1 : decode cX7_voicesGo 1 = .ok (.iload_n 1, 1) := by decide +kernel
theorem dX7_voicesGo_2 : decode cX7_voicesGo 2 = .ok (.iconst 1, 1) := by decide +kernel
theorem dX7_voicesGo_3 : decode cX7_voicesGo 3 = .ok (.invokevirtual 68, 3) := by decide +kernel
theorem dX7_voicesGo_6 : decode cX7_voicesGo 6 = .ok (.ifCond .ne 11, 3) := by decide +kernel
theorem dX7_voicesGo_9 : decode cX7_voicesGo 9 = .ok (.aload_n 0, 1) := by decide +kernel
theorem dX7_voicesGo_10 : decode cX7_voicesGo 10 = .ok (.iload_n 1, 1) := by decide +kernel
theorem dX7_voicesGo_11 : decode cX7_voicesGo 11 = .ok (.bipush 7, 2) := by decide +kernel
theorem dX7_voicesGo_13 : decode cX7_voicesGo 13 = .ok (.iconst 0, 1) := by decide +kernel
theorem dX7_voicesGo_14 : decode cX7_voicesGo 14 = .ok (.invokevirtual 76, 3) := by decide +kernel
theorem dX7_voicesGo_17 : decode cX7_voicesGo 17 = .ok (.aload_n 0, 1) := by decide +kernel
theorem dX7_voicesGo_18 : decode cX7_voicesGo 18 = .ok (.iload_n 1, 1) := by decide +kernel
theorem dX7_voicesGo_19 : decode cX7_voicesGo 19 = .ok (.iconst 0, 1) := by decide +kernel
theorem dX7_voicesGo_20 : decode cX7_voicesGo 20 = .ok (.invokevirtual 68, 3) := by decide +kernel
theorem dX7_voicesGo_23 : decode cX7_voicesGo 23 = .ok (.ifCond .eq 4, 3) := by decide +kernel
theorem dX7_voicesGo_26 : decode cX7_voicesGo 26 = .ok (.return_, 1) := by decide +kernel
theorem dX7_voicesGo_27 : decode cX7_voicesGo 27 = .ok (.iconst 0, 1) := by decide +kernel
theorem dX7_voicesGo_28 : decode cX7_voicesGo 28 = .ok (.istore_n 2, 1) := by decide +kernel
theorem dX7_voicesGo_29 : decode cX7_voicesGo 29 = .ok (.iload_n 2, 1) := by decide +kernel
theorem dX7_voicesGo_30 : decode cX7_voicesGo 30 = .ok (.aload_n 0, 1) := by decide +kernel
theorem dX7_voicesGo_31 : decode cX7_voicesGo 31 = .ok (.getfield 7, 3) := by decide +kernel
theorem dX7_voicesGo_34 : decode cX7_voicesGo 34 = .ok (.iconst 2, 1) := by decide +kernel
theorem dX7_voicesGo_35 : decode cX7_voicesGo 35 = .ok (.iaload, 1) := by decide +kernel
theorem dX7_voicesGo_36 : decode cX7_voicesGo 36 = .ok (.if_icmp .ge 30, 3) := by decide +kernel
theorem dX7_voicesGo_39 : decode cX7_voicesGo 39 = .ok (.aload_n 0, 1) := by decide +kernel
theorem dX7_voicesGo_40 : decode cX7_voicesGo 40 = .ok (.iload_n 2, 1) := by decide +kernel
theorem dX7_voicesGo_41 : decode cX7_voicesGo 41 = .ok (.bipush 7, 2) := by decide +kernel
theorem dX7_voicesGo_43 : decode cX7_voicesGo 43 = .ok (.invokevirtual 64, 3) := by decide +kernel
theorem dX7_voicesGo_46 : decode cX7_voicesGo 46 = .ok (.iload_n 1, 1) := by decide +kernel
theorem dX7_voicesGo_47 : decode cX7_voicesGo 47 = .ok (.iconst 1, 1) := by decide +kernel
theorem dX7_voicesGo_48 : decode cX7_voicesGo 48 = .ok (.iadd, 1) := by decide +kernel
theorem dX7_voicesGo_49 : decode cX7_voicesGo 49 = .ok (.if_icmp .ne 11, 3) := by decide +kernel
theorem dX7_voicesGo_52 : decode cX7_voicesGo 52 = .ok (.aload_n 0, 1) := by decide +kernel
theorem dX7_voicesGo_53 : decode cX7_voicesGo 53 = .ok (.iload_n 2, 1) := by decide +kernel
theorem dX7_voicesGo_54 : decode cX7_voicesGo 54 = .ok (.bipush 7, 2) := by decide +kernel
theorem dX7_voicesGo_56 : decode cX7_voicesGo 56 = .ok (.iconst 0, 1) := by decide +kernel
theorem dX7_voicesGo_57 : decode cX7_voicesGo 57 = .ok (.invokevirtual 76, 3) := by decide +kernel
theorem dX7_voicesGo_60 : decode cX7_voicesGo 60 = .ok (.iinc 2 1, 3) := by decide +kernel
theorem dX7_voicesGo_63 : decode cX7_voicesGo 63 = .ok (.goto (-34), 3) := by decide +kernel
theorem dX7_voicesGo_66 : decode cX7_voicesGo 66 = .ok (.return_, 1) := by decide +kernel
theorem dX7_stamps_0 : decode cX7_stamps 0 = .ok (.aload_n 0, 1) := by decide +kernel
theorem dX7_stamps_1 : decode cX7_stamps 1 = .ok (.getfield 7, 3) := by decide +kernel
theorem dX7_stamps_4 : decode cX7_stamps 4 = .ok (.bipush 10, 2) := by decide +kernel
theorem dX7_stamps_6 : decode cX7_stamps 6 = .ok (.dup2, 1) := by decide +kernel
theorem dX7_stamps_7 : decode cX7_stamps 7 = .ok (.iaload, 1) := by decide +kernel
theorem dX7_stamps_8 : decode cX7_stamps 8 = .ok (.iconst 1, 1) := by decide +kernel
theorem dX7_stamps_9 : decode cX7_stamps 9 = .ok (.iadd, 1) := by decide +kernel
theorem dX7_stamps_10 : decode cX7_stamps 10 = .ok (.iastore, 1) := by decide +kernel
theorem dX7_stamps_11 : decode cX7_stamps 11 = .ok (.aload_n 0, 1) := by decide +kernel
theorem dX7_stamps_12 : decode cX7_stamps 12 = .ok (.iload_n 1, 1) := by decide +kernel
theorem dX7_stamps_13 : decode cX7_stamps 13 = .ok (.bipush 8, 2) := by decide +kernel
theorem dX7_stamps_15 : decode cX7_stamps 15 = .ok (.aload_n 0, 1) := by decide +kernel
theorem dX7_stamps_16 : decode cX7_stamps 16 = .ok (.getfield 7, 3) := by decide +kernel
theorem dX7_stamps_19 : decode cX7_stamps 19 = .ok (.bipush 10, 2) := by decide +kernel
theorem dX7_stamps_21 : decode cX7_stamps 21 = .ok (.iaload, 1) := by decide +kernel
theorem dX7_stamps_22 : decode cX7_stamps 22 = .ok (.invokevirtual 76, 3) := by decide +kernel
theorem dX7_stamps_25 : decode cX7_stamps 25 = .ok (.return_, 1) := by decide +kernel
theorem dX7_becomes_0 : decode cX7_becomes 0 = .ok (.aload_n 0, 1) := by decide +kernel
theorem dX7_becomes_1 : decode cX7_becomes 1 = .ok (.iload_n 1, 1) := by decide +kernel
theorem dX7_becomes_2 : decode cX7_becomes 2 = .ok (.iconst 2, 1) := by decide +kernel
theorem dX7_becomes_3 : decode cX7_becomes 3 = .ok (.iload_n 2, 1) := by decide +kernel
theorem dX7_becomes_4 : decode cX7_becomes 4 = .ok (.invokevirtual 76, 3) := by decide +kernel
theorem dX7_becomes_7 : decode cX7_becomes 7 = .ok (.aload_n 0, 1) := by decide +kernel
theorem dX7_becomes_8 : decode cX7_becomes 8 = .ok (.iload_n 1, 1) := by decide +kernel
theorem dX7_becomes_9 : decode cX7_becomes 9 = .ok (.iconst 5, 1) := by decide +kernel
theorem dX7_becomes_10 : decode cX7_becomes 10 = .ok (.iconst 0, 1) := by decide +kernel
theorem dX7_becomes_11 : decode cX7_becomes 11 = .ok (.invokevirtual 76, 3) := by decide +kernel
theorem dX7_becomes_14 : decode cX7_becomes 14 = .ok (.aload_n 0, 1) := by decide +kernel
theorem dX7_becomes_15 : decode cX7_becomes 15 = .ok (.iload_n 1, 1) := by decide +kernel
theorem dX7_becomes_16 : decode cX7_becomes 16 = .ok (.invokevirtual 80, 3) := by decide +kernel
theorem dX7_becomes_19 : decode cX7_becomes 19 = .ok (.return_, 1) := by decide +kernel
theorem dX7_come_0 : decode cX7_come 0 = .ok (.iload_n 1, 1) := by decide +kernel
theorem dX7_come_1 : decode cX7_come 1 = .ok (.bipush 50, 2) := by decide +kernel
theorem dX7_come_3 : decode cX7_come 3 = .ok (.bipush 90, 2) := by decide +kernel
theorem dX7_come_5 : decode cX7_come 5 = .ok (.invokestatic 60, 3) := by decide +kernel
theorem dX7_come_8 : decode cX7_come 8 = .ok (.ifCond .ne 6, 3) := by decide +kernel
theorem dX7_come_11 : decode cX7_come 11 = .ok (.bipush (-12), 2) := by decide +kernel
theorem dX7_come_13 : decode cX7_come 13 = .ok (.ireturn, 1) := by decide +kernel
theorem dX7_come_14 : decode cX7_come 14 = .ok (.aload_n 0, 1) := by decide +kernel
theorem dX7_come_15 : decode cX7_come 15 = .ok (.getfield 7, 3) := by decide +kernel
theorem dX7_come_18 : decode cX7_come 18 = .ok (.iconst 2, 1) := by decide +kernel
theorem dX7_come_19 : decode cX7_come 19 = .ok (.iaload, 1) := by decide +kernel
theorem dX7_come_20 : decode cX7_come 20 = .ok (.bipush 16, 2) := by decide +kernel
theorem dX7_come_22 : decode cX7_come 22 = .ok (.if_icmp .ne 15, 3) := by decide +kernel
theorem dX7_come_25 : decode cX7_come 25 = .ok (.aload_n 0, 1) := by decide +kernel
theorem dX7_come_26 : decode cX7_come 26 = .ok (.aload_n 0, 1) := by decide +kernel
theorem dX7_come_27 : decode cX7_come 27 = .ok (.iconst 1, 1) := by decide +kernel
theorem dX7_come_28 : decode cX7_come 28 = .ok (.bipush 16, 2) := by decide +kernel
theorem dX7_come_30 : decode cX7_come 30 = .ok (.invokevirtual 84, 3) := by decide +kernel
theorem dX7_come_33 : decode cX7_come 33 = .ok (.invokevirtual 87, 3) := by decide +kernel
theorem dX7_come_36 : decode cX7_come 36 = .ok (.ireturn, 1) := by decide +kernel
theorem dX7_come_37 : decode cX7_come 37 = .ok (.aload_n 0, 1) := by decide +kernel
theorem dX7_come_38 : decode cX7_come 38 = .ok (.invokevirtual 90, 3) := by decide +kernel
theorem dX7_come_41 : decode cX7_come 41 = .ok (.aload_n 0, 1) := by decide +kernel
theorem dX7_come_42 : decode cX7_come 42 = .ok (.getfield 7, 3) := by decide +kernel
theorem dX7_come_45 : decode cX7_come 45 = .ok (.iconst 2, 1) := by decide +kernel
theorem dX7_come_46 : decode cX7_come 46 = .ok (.iaload, 1) := by decide +kernel
theorem dX7_come_47 : decode cX7_come 47 = .ok (.istore_n 3, 1) := by decide +kernel
theorem dX7_come_48 : decode cX7_come 48 = .ok (.aload_n 0, 1) := by decide +kernel
theorem dX7_come_49 : decode cX7_come 49 = .ok (.getfield 7, 3) := by decide +kernel
theorem dX7_come_52 : decode cX7_come 52 = .ok (.iconst 2, 1) := by decide +kernel
theorem dX7_come_53 : decode cX7_come 53 = .ok (.dup2, 1) := by decide +kernel
theorem dX7_come_54 : decode cX7_come 54 = .ok (.iaload, 1) := by decide +kernel
theorem dX7_come_55 : decode cX7_come 55 = .ok (.iconst 1, 1) := by decide +kernel
theorem dX7_come_56 : decode cX7_come 56 = .ok (.iadd, 1) := by decide +kernel
theorem dX7_come_57 : decode cX7_come 57 = .ok (.iastore, 1) := by decide +kernel
theorem dX7_come_58 : decode cX7_come 58 = .ok (.aload_n 0, 1) := by decide +kernel
theorem dX7_come_59 : decode cX7_come 59 = .ok (.iload_n 3, 1) := by decide +kernel
theorem dX7_come_60 : decode cX7_come 60 = .ok (.iconst 0, 1) := by decide +kernel
theorem dX7_come_61 : decode cX7_come 61 = .ok (.iload_n 1, 1) := by decide +kernel
theorem dX7_come_62 : decode cX7_come 62 = .ok (.invokevirtual 76, 3) := by decide +kernel
theorem dX7_come_65 : decode cX7_come 65 = .ok (.aload_n 0, 1) := by decide +kernel
theorem dX7_come_66 : decode cX7_come 66 = .ok (.iload_n 3, 1) := by decide +kernel
theorem dX7_come_67 : decode cX7_come 67 = .ok (.iconst 1, 1) := by decide +kernel
theorem dX7_come_68 : decode cX7_come 68 = .ok (.iload_n 2, 1) := by decide +kernel
theorem dX7_come_69 : decode cX7_come 69 = .ok (.ifCond .eq 7, 3) := by decide +kernel
theorem dX7_come_72 : decode cX7_come 72 = .ok (.iconst 1, 1) := by decide +kernel
theorem dX7_come_73 : decode cX7_come 73 = .ok (.goto 4, 3) := by decide +kernel
theorem dX7_come_76 : decode cX7_come 76 = .ok (.iconst 0, 1) := by decide +kernel
theorem dX7_come_77 : decode cX7_come 77 = .ok (.invokevirtual 76, 3) := by decide +kernel
theorem dX7_come_80 : decode cX7_come 80 = .ok (.aload_n 0, 1) := by decide +kernel
theorem dX7_come_81 : decode cX7_come 81 = .ok (.iload_n 3, 1) := by decide +kernel
theorem dX7_come_82 : decode cX7_come 82 = .ok (.invokevirtual 93, 3) := by decide +kernel
theorem dX7_come_85 : decode cX7_come 85 = .ok (.iload_n 3, 1) := by decide +kernel
theorem dX7_come_86 : decode cX7_come 86 = .ok (.ireturn, 1) := by decide +kernel
theorem dX7_withdraw_0 : decode cX7_withdraw 0 = .ok (.aload_n 0, 1) := by decide +kernel
theorem dX7_withdraw_1 : decode cX7_withdraw 1 = .ok (.iload_n 1, 1) := by decide +kernel
theorem dX7_withdraw_2 : decode cX7_withdraw 2 = .ok (.invokevirtual 96, 3) := by decide +kernel
theorem dX7_withdraw_5 : decode cX7_withdraw 5 = .ok (.ifCond .ne 6, 3) := by decide +kernel
theorem dX7_withdraw_8 : decode cX7_withdraw 8 = .ok (.bipush (-11), 2) := by decide +kernel
theorem dX7_withdraw_10 : decode cX7_withdraw 10 = .ok (.ireturn, 1) := by decide +kernel
theorem dX7_withdraw_11 : decode cX7_withdraw 11 = .ok (.aload_n 0, 1) := by decide +kernel
theorem dX7_withdraw_12 : decode cX7_withdraw 12 = .ok (.iload_n 1, 1) := by decide +kernel
theorem dX7_withdraw_13 : decode cX7_withdraw 13 = .ok (.iconst 0, 1) := by decide +kernel
theorem dX7_withdraw_14 : decode cX7_withdraw 14 = .ok (.invokevirtual 68, 3) := by decide +kernel
theorem dX7_withdraw_17 : decode cX7_withdraw 17 = .ok (.ifCond .ne 19, 3) := by decide +kernel
theorem dX7_withdraw_20 : decode cX7_withdraw 20 = .ok (.aload_n 0, 1) := by decide +kernel
theorem dX7_withdraw_21 : decode cX7_withdraw 21 = .ok (.aload_n 0, 1) := by decide +kernel
theorem dX7_withdraw_22 : decode cX7_withdraw 22 = .ok (.iconst 2, 1) := by decide +kernel
theorem dX7_withdraw_23 : decode cX7_withdraw 23 = .ok (.aload_n 0, 1) := by decide +kernel
theorem dX7_withdraw_24 : decode cX7_withdraw 24 = .ok (.iload_n 1, 1) := by decide +kernel
theorem dX7_withdraw_25 : decode cX7_withdraw 25 = .ok (.iconst 2, 1) := by decide +kernel
theorem dX7_withdraw_26 : decode cX7_withdraw 26 = .ok (.invokevirtual 64, 3) := by decide +kernel
theorem dX7_withdraw_29 : decode cX7_withdraw 29 = .ok (.invokevirtual 84, 3) := by decide +kernel
theorem dX7_withdraw_32 : decode cX7_withdraw 32 = .ok (.invokevirtual 87, 3) := by decide +kernel
theorem dX7_withdraw_35 : decode cX7_withdraw 35 = .ok (.ireturn, 1) := by decide +kernel
theorem dX7_withdraw_36 : decode cX7_withdraw 36 = .ok (.aload_n 0, 1) := by decide +kernel
theorem dX7_withdraw_37 : decode cX7_withdraw 37 = .ok (.invokevirtual 90, 3) := by decide +kernel
theorem dX7_withdraw_40 : decode cX7_withdraw 40 = .ok (.aload_n 0, 1) := by decide +kernel
theorem dX7_withdraw_41 : decode cX7_withdraw 41 = .ok (.iload_n 1, 1) := by decide +kernel
theorem dX7_withdraw_42 : decode cX7_withdraw 42 = .ok (.iconst 3, 1) := by decide +kernel
theorem dX7_withdraw_43 : decode cX7_withdraw 43 = .ok (.invokevirtual 100, 3) := by decide +kernel
theorem dX7_withdraw_46 : decode cX7_withdraw 46 = .ok (.aload_n 0, 1) := by decide +kernel
theorem dX7_withdraw_47 : decode cX7_withdraw 47 = .ok (.iconst 0, 1) := by decide +kernel
theorem dX7_withdraw_48 : decode cX7_withdraw 48 = .ok (.invokevirtual 104, 3) := by decide +kernel
theorem dX7_withdraw_51 : decode cX7_withdraw 51 = .ok (.ireturn, 1) := by decide +kernel
theorem dX7_notVoice_0 : decode cX7_notVoice 0 = .ok (.aload_n 0, 1) := by decide +kernel
theorem dX7_notVoice_1 : decode cX7_notVoice 1 = .ok (.iload_n 1, 1) := by decide +kernel
theorem dX7_notVoice_2 : decode cX7_notVoice 2 = .ok (.invokevirtual 96, 3) := by decide +kernel
theorem dX7_notVoice_5 : decode cX7_notVoice 5 = .ok (.ifCond .eq 11, 3) := by decide +kernel
theorem dX7_notVoice_8 : decode cX7_notVoice 8 = .ok (.aload_n 0, 1) := by decide +kernel
theorem dX7_notVoice_9 : decode cX7_notVoice 9 = .ok (.iload_n 2, 1) := by decide +kernel
theorem dX7_notVoice_10 : decode cX7_notVoice 10 = .ok (.invokevirtual 96, 3) := by decide +kernel
theorem dX7_notVoice_13 : decode cX7_notVoice 13 = .ok (.ifCond .ne 6, 3) := by decide +kernel
theorem dX7_notVoice_16 : decode cX7_notVoice 16 = .ok (.bipush (-11), 2) := by decide +kernel
theorem dX7_notVoice_18 : decode cX7_notVoice 18 = .ok (.ireturn, 1) := by decide +kernel
theorem dX7_notVoice_19 : decode cX7_notVoice 19 = .ok (.aload_n 0, 1) := by decide +kernel
theorem dX7_notVoice_20 : decode cX7_notVoice 20 = .ok (.iload_n 1, 1) := by decide +kernel
theorem dX7_notVoice_21 : decode cX7_notVoice 21 = .ok (.iconst 1, 1) := by decide +kernel
theorem dX7_notVoice_22 : decode cX7_notVoice 22 = .ok (.invokevirtual 68, 3) := by decide +kernel
theorem dX7_notVoice_25 : decode cX7_notVoice 25 = .ok (.ifCond .ne 15, 3) := by decide +kernel
theorem dX7_notVoice_28 : decode cX7_notVoice 28 = .ok (.aload_n 0, 1) := by decide +kernel
theorem dX7_notVoice_29 : decode cX7_notVoice 29 = .ok (.iconst 3, 1) := by decide +kernel
theorem dX7_notVoice_30 : decode cX7_notVoice 30 = .ok (.aload_n 0, 1) := by decide +kernel
theorem dX7_notVoice_31 : decode cX7_notVoice 31 = .ok (.iload_n 1, 1) := by decide +kernel
theorem dX7_notVoice_32 : decode cX7_notVoice 32 = .ok (.iconst 2, 1) := by decide +kernel
theorem dX7_notVoice_33 : decode cX7_notVoice 33 = .ok (.invokevirtual 64, 3) := by decide +kernel
theorem dX7_notVoice_36 : decode cX7_notVoice 36 = .ok (.invokevirtual 84, 3) := by decide +kernel
theorem dX7_notVoice_39 : decode cX7_notVoice 39 = .ok (.ireturn, 1) := by decide +kernel
theorem dX7_notVoice_40 : decode cX7_notVoice 40 = .ok (.aload_n 0, 1) := by decide +kernel
theorem dX7_notVoice_41 : decode cX7_notVoice 41 = .ok (.iload_n 1, 1) := by decide +kernel
theorem dX7_notVoice_42 : decode cX7_notVoice 42 = .ok (.iconst 5, 1) := by decide +kernel
theorem dX7_notVoice_43 : decode cX7_notVoice 43 = .ok (.invokevirtual 64, 3) := by decide +kernel
theorem dX7_notVoice_46 : decode cX7_notVoice 46 = .ok (.ifCond .le 15, 3) := by decide +kernel
theorem dX7_notVoice_49 : decode cX7_notVoice 49 = .ok (.aload_n 0, 1) := by decide +kernel
theorem dX7_notVoice_50 : decode cX7_notVoice 50 = .ok (.iconst 4, 1) := by decide +kernel
theorem dX7_notVoice_51 : decode cX7_notVoice 51 = .ok (.aload_n 0, 1) := by decide +kernel
theorem dX7_notVoice_52 : decode cX7_notVoice 52 = .ok (.iload_n 1, 1) := by decide +kernel
theorem dX7_notVoice_53 : decode cX7_notVoice 53 = .ok (.iconst 5, 1) := by decide +kernel
theorem dX7_notVoice_54 : decode cX7_notVoice 54 = .ok (.invokevirtual 64, 3) := by decide +kernel
theorem dX7_notVoice_57 : decode cX7_notVoice 57 = .ok (.invokevirtual 84, 3) := by decide +kernel
theorem dX7_notVoice_60 : decode cX7_notVoice 60 = .ok (.ireturn, 1) := by decide +kernel
theorem dX7_notVoice_61 : decode cX7_notVoice 61 = .ok (.aload_n 0, 1) := by decide +kernel
theorem dX7_notVoice_62 : decode cX7_notVoice 62 = .ok (.iload_n 2, 1) := by decide +kernel
theorem dX7_notVoice_63 : decode cX7_notVoice 63 = .ok (.iconst 0, 1) := by decide +kernel
theorem dX7_notVoice_64 : decode cX7_notVoice 64 = .ok (.invokevirtual 68, 3) := by decide +kernel
theorem dX7_notVoice_67 : decode cX7_notVoice 67 = .ok (.ifCond .eq 7, 3) := by decide +kernel
theorem dX7_notVoice_70 : decode cX7_notVoice 70 = .ok (.iconst 0, 1) := by decide +kernel
theorem dX7_notVoice_71 : decode cX7_notVoice 71 = .ok (.goto 14, 3) := by decide +kernel
theorem dX7_notVoice_74 : decode cX7_notVoice 74 = .ok (.aload_n 0, 1) := by decide +kernel
theorem dX7_notVoice_75 : decode cX7_notVoice 75 = .ok (.iconst 2, 1) := by decide +kernel
theorem dX7_notVoice_76 : decode cX7_notVoice 76 = .ok (.aload_n 0, 1) := by decide +kernel
theorem dX7_notVoice_77 : decode cX7_notVoice 77 = .ok (.iload_n 2, 1) := by decide +kernel
theorem dX7_notVoice_78 : decode cX7_notVoice 78 = .ok (.iconst 2, 1) := by decide +kernel
theorem dX7_notVoice_79 : decode cX7_notVoice 79 = .ok (.invokevirtual 64, 3) := by decide +kernel
theorem dX7_notVoice_82 : decode cX7_notVoice 82 = .ok (.invokevirtual 84, 3) := by decide +kernel
theorem dX7_notVoice_85 : decode cX7_notVoice 85 = .ok (.ireturn, 1) := by decide +kernel
theorem dX7_gives_0 : decode cX7_gives 0 = .ok (.aload_n 0, 1) := by decide +kernel
theorem dX7_gives_1 : decode cX7_gives 1 = .ok (.iload_n 1, 1) := by decide +kernel
theorem dX7_gives_2 : decode cX7_gives 2 = .ok (.bipush 7, 2) := by decide +kernel
theorem dX7_gives_4 : decode cX7_gives 4 = .ok (.iload_n 2, 1) := by decide +kernel
theorem dX7_gives_5 : decode cX7_gives 5 = .ok (.iconst 1, 1) := by decide +kernel
theorem dX7_gives_6 : decode cX7_gives 6 = .ok (.iadd, 1) := by decide +kernel
theorem dX7_gives_7 : decode cX7_gives 7 = .ok (.invokevirtual 76, 3) := by decide +kernel
theorem dX7_gives_10 : decode cX7_gives 10 = .ok (.aload_n 0, 1) := by decide +kernel
theorem dX7_gives_11 : decode cX7_gives 11 = .ok (.iload_n 2, 1) := by decide +kernel
theorem dX7_gives_12 : decode cX7_gives 12 = .ok (.invokevirtual 107, 3) := by decide +kernel
theorem dX7_gives_15 : decode cX7_gives 15 = .ok (.ireturn, 1) := by decide +kernel
theorem dX7_voice_0 : decode cX7_voice 0 = .ok (.aload_n 0, 1) := by decide +kernel
theorem dX7_voice_1 : decode cX7_voice 1 = .ok (.iload_n 1, 1) := by decide +kernel
theorem dX7_voice_2 : decode cX7_voice 2 = .ok (.iload_n 2, 1) := by decide +kernel
theorem dX7_voice_3 : decode cX7_voice 3 = .ok (.invokevirtual 110, 3) := by decide +kernel
theorem dX7_voice_6 : decode cX7_voice 6 = .ok (.istore_n 3, 1) := by decide +kernel
theorem dX7_voice_7 : decode cX7_voice 7 = .ok (.iload_n 3, 1) := by decide +kernel
theorem dX7_voice_8 : decode cX7_voice 8 = .ok (.ifCond .eq 9, 3) := by decide +kernel
theorem dX7_voice_11 : decode cX7_voice 11 = .ok (.aload_n 0, 1) := by decide +kernel
theorem dX7_voice_12 : decode cX7_voice 12 = .ok (.iload_n 3, 1) := by decide +kernel
theorem dX7_voice_13 : decode cX7_voice 13 = .ok (.invokevirtual 87, 3) := by decide +kernel
theorem dX7_voice_16 : decode cX7_voice 16 = .ok (.ireturn, 1) := by decide +kernel
theorem dX7_voice_17 : decode cX7_voice 17 = .ok (.aload_n 0, 1) := by decide +kernel
theorem dX7_voice_18 : decode cX7_voice 18 = .ok (.invokevirtual 90, 3) := by decide +kernel
theorem dX7_voice_21 : decode cX7_voice 21 = .ok (.aload_n 0, 1) := by decide +kernel
theorem dX7_voice_22 : decode cX7_voice 22 = .ok (.iload_n 1, 1) := by decide +kernel
theorem dX7_voice_23 : decode cX7_voice 23 = .ok (.iload_n 2, 1) := by decide +kernel
theorem dX7_voice_24 : decode cX7_voice 24 = .ok (.invokevirtual 113, 3) := by decide +kernel
theorem dX7_voice_27 : decode cX7_voice 27 = .ok (.ireturn, 1) := by decide +kernel
theorem dX7_isChosenAhead_0 : decode cX7_isChosenAhead 0 = .ok (.aload_n 0, 1) := by decide +kernel
theorem dX7_isChosenAhead_1 : decode cX7_isChosenAhead 1 = .ok (.iload_n 1, 1) := by decide +kernel
theorem dX7_isChosenAhead_2 : decode cX7_isChosenAhead 2 = .ok (.invokevirtual 107, 3) := by decide +kernel
theorem dX7_isChosenAhead_5 : decode cX7_isChosenAhead 5 = .ok (.aload_n 0, 1) := by decide +kernel
theorem dX7_isChosenAhead_6 : decode cX7_isChosenAhead 6 = .ok (.iload_n 2, 1) := by decide +kernel
theorem dX7_isChosenAhead_7 : decode cX7_isChosenAhead 7 = .ok (.invokevirtual 107, 3) := by decide +kernel
theorem dX7_isChosenAhead_10 : decode cX7_isChosenAhead 10 = .ok (.if_icmp .eq 24, 3) := by decide +kernel
theorem dX7_isChosenAhead_13 : decode cX7_isChosenAhead 13 = .ok (.aload_n 0, 1) := by decide +kernel
theorem dX7_isChosenAhead_14 : decode cX7_isChosenAhead 14 = .ok (.iload_n 1, 1) := by decide +kernel
theorem dX7_isChosenAhead_15 : decode cX7_isChosenAhead 15 = .ok (.invokevirtual 107, 3) := by decide +kernel
theorem dX7_isChosenAhead_18 : decode cX7_isChosenAhead 18 = .ok (.aload_n 0, 1) := by decide +kernel
theorem dX7_isChosenAhead_19 : decode cX7_isChosenAhead 19 = .ok (.iload_n 2, 1) := by decide +kernel
theorem dX7_isChosenAhead_20 : decode cX7_isChosenAhead 20 = .ok (.invokevirtual 107, 3) := by decide +kernel
theorem dX7_isChosenAhead_23 : decode cX7_isChosenAhead 23 = .ok (.if_icmp .le 7, 3) := by decide +kernel
theorem dX7_isChosenAhead_26 : decode cX7_isChosenAhead 26 = .ok (.iconst 1, 1) := by decide +kernel
theorem dX7_isChosenAhead_27 : decode cX7_isChosenAhead 27 = .ok (.goto 29, 3) := by decide +kernel
theorem dX7_isChosenAhead_30 : decode cX7_isChosenAhead 30 = .ok (.iconst 0, 1) := by decide +kernel
theorem dX7_isChosenAhead_31 : decode cX7_isChosenAhead 31 = .ok (.goto 25, 3) := by decide +kernel
theorem dX7_isChosenAhead_34 : decode cX7_isChosenAhead 34 = .ok (.aload_n 0, 1) := by decide +kernel
theorem dX7_isChosenAhead_35 : decode cX7_isChosenAhead 35 = .ok (.iload_n 1, 1) := by decide +kernel
theorem dX7_isChosenAhead_36 : decode cX7_isChosenAhead 36 = .ok (.bipush 8, 2) := by decide +kernel
theorem dX7_isChosenAhead_38 : decode cX7_isChosenAhead 38 = .ok (.invokevirtual 64, 3) := by decide +kernel
theorem dX7_isChosenAhead_41 : decode cX7_isChosenAhead 41 = .ok (.aload_n 0, 1) := by decide +kernel
theorem dX7_isChosenAhead_42 : decode cX7_isChosenAhead 42 = .ok (.iload_n 2, 1) := by decide +kernel
theorem dX7_isChosenAhead_43 : decode cX7_isChosenAhead 43 = .ok (.bipush 8, 2) := by decide +kernel
theorem dX7_isChosenAhead_45 : decode cX7_isChosenAhead 45 = .ok (.invokevirtual 64, 3) := by decide +kernel
theorem dX7_isChosenAhead_48 : decode cX7_isChosenAhead 48 = .ok (.if_icmp .ge 7, 3) := by decide +kernel
theorem dX7_isChosenAhead_51 : decode cX7_isChosenAhead 51 = .ok (.iconst 1, 1) := by decide +kernel
theorem dX7_isChosenAhead_52 : decode cX7_isChosenAhead 52 = .ok (.goto 4, 3) := by decide +kernel
theorem dX7_isChosenAhead_55 : decode cX7_isChosenAhead 55 = .ok (.iconst 0, 1) := by decide +kernel
theorem dX7_isChosenAhead_56 : decode cX7_isChosenAhead 56 = .ok (.ireturn, 1) := by decide +kernel
theorem dX7_rankedAt_0 : decode cX7_rankedAt 0 = .ok (.iconst 0, 1) := by decide +kernel
theorem dX7_rankedAt_1 : decode cX7_rankedAt 1 = .ok (.istore_n 2, 1) := by decide +kernel
theorem dX7_rankedAt_2 : decode cX7_rankedAt 2 = .ok (.iload_n 2, 1) := by decide +kernel
theorem dX7_rankedAt_3 : decode cX7_rankedAt 3 = .ok (.aload_n 0, 1) := by decide +kernel
theorem dX7_rankedAt_4 : decode cX7_rankedAt 4 = .ok (.getfield 7, 3) := by decide +kernel
theorem dX7_rankedAt_7 : decode cX7_rankedAt 7 = .ok (.iconst 2, 1) := by decide +kernel
theorem dX7_rankedAt_8 : decode cX7_rankedAt 8 = .ok (.iaload, 1) := by decide +kernel
theorem dX7_rankedAt_9 : decode cX7_rankedAt 9 = .ok (.if_icmp .ge 78, 3) := by decide +kernel
theorem dX7_rankedAt_12 : decode cX7_rankedAt 12 = .ok (.aload_n 0, 1) := by decide +kernel
theorem dX7_rankedAt_13 : decode cX7_rankedAt 13 = .ok (.iload_n 2, 1) := by decide +kernel
theorem dX7_rankedAt_14 : decode cX7_rankedAt 14 = .ok (.iconst 0, 1) := by decide +kernel
theorem dX7_rankedAt_15 : decode cX7_rankedAt 15 = .ok (.invokevirtual 68, 3) := by decide +kernel
theorem dX7_rankedAt_18 : decode cX7_rankedAt 18 = .ok (.ifCond .ne 6, 3) := by decide +kernel
theorem dX7_rankedAt_21 : decode cX7_rankedAt 21 = .ok (.goto 60, 3) := by decide +kernel
theorem dX7_rankedAt_24 : decode cX7_rankedAt 24 = .ok (.iconst 0, 1) := by decide +kernel
theorem dX7_rankedAt_25 : decode cX7_rankedAt 25 = .ok (.istore_n 3, 1) := by decide +kernel
theorem dX7_rankedAt_26 : decode cX7_rankedAt 26 = .ok (.iconst 0, 1) := by decide +kernel
theorem dX7_rankedAt_27 : decode cX7_rankedAt 27 = .ok (.istore 4, 2) := by decide +kernel
theorem dX7_rankedAt_29 : decode cX7_rankedAt 29 = .ok (.iload 4, 2) := by decide +kernel
theorem dX7_rankedAt_31 : decode cX7_rankedAt 31 = .ok (.aload_n 0, 1) := by decide +kernel
theorem dX7_rankedAt_32 : decode cX7_rankedAt 32 = .ok (.getfield 7, 3) := by decide +kernel
theorem dX7_rankedAt_35 : decode cX7_rankedAt 35 = .ok (.iconst 2, 1) := by decide +kernel
theorem dX7_rankedAt_36 : decode cX7_rankedAt 36 = .ok (.iaload, 1) := by decide +kernel
theorem dX7_rankedAt_37 : decode cX7_rankedAt 37 = .ok (.if_icmp .ge 37, 3) := by decide +kernel
theorem dX7_rankedAt_40 : decode cX7_rankedAt 40 = .ok (.iload_n 3, 1) := by decide +kernel
theorem dX7_rankedAt_41 : decode cX7_rankedAt 41 = .ok (.aload_n 0, 1) := by decide +kernel
theorem dX7_rankedAt_42 : decode cX7_rankedAt 42 = .ok (.iload 4, 2) := by decide +kernel
theorem dX7_rankedAt_44 : decode cX7_rankedAt 44 = .ok (.iconst 0, 1) := by decide +kernel
theorem dX7_rankedAt_45 : decode cX7_rankedAt 45 = .ok (.invokevirtual 68, 3) := by decide +kernel
theorem dX7_rankedAt_48 : decode cX7_rankedAt 48 = .ok (.ifCond .eq 17, 3) := by decide +kernel
theorem dX7_rankedAt_51 : decode cX7_rankedAt 51 = .ok (.aload_n 0, 1) := by decide +kernel
theorem dX7_rankedAt_52 : decode cX7_rankedAt 52 = .ok (.iload 4, 2) := by decide +kernel
theorem dX7_rankedAt_54 : decode cX7_rankedAt 54 = .ok (.iload_n 2, 1) := by decide +kernel
theorem dX7_rankedAt_55 : decode cX7_rankedAt 55 = .ok (.invokevirtual 116, 3) := by decide +kernel
theorem dX7_rankedAt_58 : decode cX7_rankedAt 58 = .ok (.ifCond .eq 7, 3) := by decide +kernel
theorem dX7_rankedAt_61 : decode cX7_rankedAt 61 = .ok (.iconst 1, 1) := by decide +kernel
theorem dX7_rankedAt_62 : decode cX7_rankedAt 62 = .ok (.goto 4, 3) := by decide +kernel
theorem dX7_rankedAt_65 : decode cX7_rankedAt 65 = .ok (.iconst 0, 1) := by decide +kernel
theorem dX7_rankedAt_66 : decode cX7_rankedAt 66 = .ok (.iadd, 1) := by decide +kernel
theorem dX7_rankedAt_67 : decode cX7_rankedAt 67 = .ok (.istore_n 3, 1) := by decide +kernel
theorem dX7_rankedAt_68 : decode cX7_rankedAt 68 = .ok (.iinc 4 1, 3) := by decide +kernel
theorem dX7_rankedAt_71 : decode cX7_rankedAt 71 = .ok (.goto (-42), 3) := by decide +kernel
theorem dX7_rankedAt_74 : decode cX7_rankedAt 74 = .ok (.iload_n 3, 1) := by decide +kernel
theorem dX7_rankedAt_75 : decode cX7_rankedAt 75 = .ok (.iload_n 1, 1) := by decide +kernel
theorem dX7_rankedAt_76 : decode cX7_rankedAt 76 = .ok (.if_icmp .ne 5, 3) := by decide +kernel
theorem dX7_rankedAt_79 : decode cX7_rankedAt 79 = .ok (.iload_n 2, 1) := by decide +kernel
theorem dX7_rankedAt_80 : decode cX7_rankedAt 80 = .ok (.ireturn, 1) := by decide +kernel
theorem dX7_rankedAt_81 : decode cX7_rankedAt 81 = .ok (.iinc 2 1, 3) := by decide +kernel
theorem dX7_rankedAt_84 : decode cX7_rankedAt 84 = .ok (.goto (-82), 3) := by decide +kernel
theorem dX7_rankedAt_87 : decode cX7_rankedAt 87 = .ok (.bipush (-11), 2) := by decide +kernel
theorem dX7_rankedAt_89 : decode cX7_rankedAt 89 = .ok (.ireturn, 1) := by decide +kernel
theorem dX7_notChoose_0 : decode cX7_notChoose 0 = .ok (.iload_n 1, 1) := by decide +kernel
theorem dX7_notChoose_1 : decode cX7_notChoose 1 = .ok (.invokestatic 119, 3) := by decide +kernel
theorem dX7_notChoose_4 : decode cX7_notChoose 4 = .ok (.ifCond .ne 6, 3) := by decide +kernel
theorem dX7_notChoose_7 : decode cX7_notChoose 7 = .ok (.bipush (-11), 2) := by decide +kernel
theorem dX7_notChoose_9 : decode cX7_notChoose 9 = .ok (.ireturn, 1) := by decide +kernel
theorem dX7_notChoose_10 : decode cX7_notChoose 10 = .ok (.aload_n 0, 1) := by decide +kernel
theorem dX7_notChoose_11 : decode cX7_notChoose 11 = .ok (.iload_n 1, 1) := by decide +kernel
theorem dX7_notChoose_12 : decode cX7_notChoose 12 = .ok (.invokevirtual 122, 3) := by decide +kernel
theorem dX7_notChoose_15 : decode cX7_notChoose 15 = .ok (.ifCond .lt 14, 3) := by decide +kernel
theorem dX7_notChoose_18 : decode cX7_notChoose 18 = .ok (.aload_n 0, 1) := by decide +kernel
theorem dX7_notChoose_19 : decode cX7_notChoose 19 = .ok (.iconst 5, 1) := by decide +kernel
theorem dX7_notChoose_20 : decode cX7_notChoose 20 = .ok (.aload_n 0, 1) := by decide +kernel
theorem dX7_notChoose_21 : decode cX7_notChoose 21 = .ok (.iload_n 1, 1) := by decide +kernel
theorem dX7_notChoose_22 : decode cX7_notChoose 22 = .ok (.invokevirtual 122, 3) := by decide +kernel
theorem dX7_notChoose_25 : decode cX7_notChoose 25 = .ok (.invokevirtual 84, 3) := by decide +kernel
theorem dX7_notChoose_28 : decode cX7_notChoose 28 = .ok (.ireturn, 1) := by decide +kernel
theorem dX7_notChoose_29 : decode cX7_notChoose 29 = .ok (.aload_n 0, 1) := by decide +kernel
theorem dX7_notChoose_30 : decode cX7_notChoose 30 = .ok (.iconst 0, 1) := by decide +kernel
theorem dX7_notChoose_31 : decode cX7_notChoose 31 = .ok (.invokevirtual 104, 3) := by decide +kernel
theorem dX7_notChoose_34 : decode cX7_notChoose 34 = .ok (.ifCond .ne 13, 3) := by decide +kernel
theorem dX7_notChoose_37 : decode cX7_notChoose 37 = .ok (.aload_n 0, 1) := by decide +kernel
theorem dX7_notChoose_38 : decode cX7_notChoose 38 = .ok (.bipush 6, 2) := by decide +kernel
theorem dX7_notChoose_40 : decode cX7_notChoose 40 = .ok (.iload_n 1, 1) := by decide +kernel
theorem dX7_notChoose_41 : decode cX7_notChoose 41 = .ok (.invokevirtual 84, 3) := by decide +kernel
theorem dX7_notChoose_44 : decode cX7_notChoose 44 = .ok (.goto 4, 3) := by decide +kernel
theorem dX7_notChoose_47 : decode cX7_notChoose 47 = .ok (.iconst 0, 1) := by decide +kernel
theorem dX7_notChoose_48 : decode cX7_notChoose 48 = .ok (.ireturn, 1) := by decide +kernel
theorem dX7_chooses_0 : decode cX7_chooses 0 = .ok (.aload_n 0, 1) := by decide +kernel
theorem dX7_chooses_1 : decode cX7_chooses 1 = .ok (.iconst 0, 1) := by decide +kernel
theorem dX7_chooses_2 : decode cX7_chooses 2 = .ok (.invokevirtual 125, 3) := by decide +kernel
theorem dX7_chooses_5 : decode cX7_chooses 5 = .ok (.istore_n 2, 1) := by decide +kernel
theorem dX7_chooses_6 : decode cX7_chooses 6 = .ok (.aload_n 0, 1) := by decide +kernel
theorem dX7_chooses_7 : decode cX7_chooses 7 = .ok (.iload_n 2, 1) := by decide +kernel
theorem dX7_chooses_8 : decode cX7_chooses 8 = .ok (.iconst 1, 1) := by decide +kernel
theorem dX7_chooses_9 : decode cX7_chooses 9 = .ok (.invokevirtual 100, 3) := by decide +kernel
theorem dX7_chooses_12 : decode cX7_chooses 12 = .ok (.aload_n 0, 1) := by decide +kernel
theorem dX7_chooses_13 : decode cX7_chooses 13 = .ok (.iload_n 2, 1) := by decide +kernel
theorem dX7_chooses_14 : decode cX7_chooses 14 = .ok (.iconst 3, 1) := by decide +kernel
theorem dX7_chooses_15 : decode cX7_chooses 15 = .ok (.iload_n 1, 1) := by decide +kernel
theorem dX7_chooses_16 : decode cX7_chooses 16 = .ok (.invokevirtual 76, 3) := by decide +kernel
theorem dX7_chooses_19 : decode cX7_chooses 19 = .ok (.aload_n 0, 1) := by decide +kernel
theorem dX7_chooses_20 : decode cX7_chooses 20 = .ok (.iload_n 2, 1) := by decide +kernel
theorem dX7_chooses_21 : decode cX7_chooses 21 = .ok (.iconst 4, 1) := by decide +kernel
theorem dX7_chooses_22 : decode cX7_chooses 22 = .ok (.iconst 0, 1) := by decide +kernel
theorem dX7_chooses_23 : decode cX7_chooses 23 = .ok (.invokevirtual 76, 3) := by decide +kernel
theorem dX7_chooses_26 : decode cX7_chooses 26 = .ok (.aload_n 0, 1) := by decide +kernel
theorem dX7_chooses_27 : decode cX7_chooses 27 = .ok (.iload_n 2, 1) := by decide +kernel
theorem dX7_chooses_28 : decode cX7_chooses 28 = .ok (.invokevirtual 93, 3) := by decide +kernel
theorem dX7_chooses_31 : decode cX7_chooses 31 = .ok (.iload_n 2, 1) := by decide +kernel
theorem dX7_chooses_32 : decode cX7_chooses 32 = .ok (.ireturn, 1) := by decide +kernel
theorem dX7_choose_0 : decode cX7_choose 0 = .ok (.aload_n 0, 1) := by decide +kernel
theorem dX7_choose_1 : decode cX7_choose 1 = .ok (.iload_n 1, 1) := by decide +kernel
theorem dX7_choose_2 : decode cX7_choose 2 = .ok (.invokevirtual 128, 3) := by decide +kernel
theorem dX7_choose_5 : decode cX7_choose 5 = .ok (.istore_n 2, 1) := by decide +kernel
theorem dX7_choose_6 : decode cX7_choose 6 = .ok (.iload_n 2, 1) := by decide +kernel
theorem dX7_choose_7 : decode cX7_choose 7 = .ok (.ifCond .eq 9, 3) := by decide +kernel
theorem dX7_choose_10 : decode cX7_choose 10 = .ok (.aload_n 0, 1) := by decide +kernel
theorem dX7_choose_11 : decode cX7_choose 11 = .ok (.iload_n 2, 1) := by decide +kernel
theorem dX7_choose_12 : decode cX7_choose 12 = .ok (.invokevirtual 87, 3) := by decide +kernel
theorem dX7_choose_15 : decode cX7_choose 15 = .ok (.ireturn, 1) := by decide +kernel
theorem dX7_choose_16 : decode cX7_choose 16 = .ok (.aload_n 0, 1) := by decide +kernel
theorem dX7_choose_17 : decode cX7_choose 17 = .ok (.invokevirtual 90, 3) := by decide +kernel
theorem dX7_choose_20 : decode cX7_choose 20 = .ok (.aload_n 0, 1) := by decide +kernel
theorem dX7_choose_21 : decode cX7_choose 21 = .ok (.iload_n 1, 1) := by decide +kernel
theorem dX7_choose_22 : decode cX7_choose 22 = .ok (.invokevirtual 131, 3) := by decide +kernel
theorem dX7_choose_25 : decode cX7_choose 25 = .ok (.ireturn, 1) := by decide +kernel
theorem dX7_notLeave_0 : decode cX7_notLeave 0 = .ok (.iload_n 1, 1) := by decide +kernel
theorem dX7_notLeave_1 : decode cX7_notLeave 1 = .ok (.invokestatic 119, 3) := by decide +kernel
theorem dX7_notLeave_4 : decode cX7_notLeave 4 = .ok (.ifCond .ne 6, 3) := by decide +kernel
theorem dX7_notLeave_7 : decode cX7_notLeave 7 = .ok (.bipush (-11), 2) := by decide +kernel
theorem dX7_notLeave_9 : decode cX7_notLeave 9 = .ok (.ireturn, 1) := by decide +kernel
theorem dX7_notLeave_10 : decode cX7_notLeave 10 = .ok (.aload_n 0, 1) := by decide +kernel
theorem dX7_notLeave_11 : decode cX7_notLeave 11 = .ok (.iload_n 1, 1) := by decide +kernel
theorem dX7_notLeave_12 : decode cX7_notLeave 12 = .ok (.invokevirtual 122, 3) := by decide +kernel
theorem dX7_notLeave_15 : decode cX7_notLeave 15 = .ok (.ifCond .ge 13, 3) := by decide +kernel
theorem dX7_notLeave_18 : decode cX7_notLeave 18 = .ok (.aload_n 0, 1) := by decide +kernel
theorem dX7_notLeave_19 : decode cX7_notLeave 19 = .ok (.bipush 7, 2) := by decide +kernel
theorem dX7_notLeave_21 : decode cX7_notLeave 21 = .ok (.iload_n 1, 1) := by decide +kernel
theorem dX7_notLeave_22 : decode cX7_notLeave 22 = .ok (.invokevirtual 84, 3) := by decide +kernel
theorem dX7_notLeave_25 : decode cX7_notLeave 25 = .ok (.goto 4, 3) := by decide +kernel
theorem dX7_notLeave_28 : decode cX7_notLeave 28 = .ok (.iconst 0, 1) := by decide +kernel
theorem dX7_notLeave_29 : decode cX7_notLeave 29 = .ok (.ireturn, 1) := by decide +kernel
theorem dX7_leaves_0 : decode cX7_leaves 0 = .ok (.aload_n 0, 1) := by decide +kernel
theorem dX7_leaves_1 : decode cX7_leaves 1 = .ok (.iload_n 1, 1) := by decide +kernel
theorem dX7_leaves_2 : decode cX7_leaves 2 = .ok (.invokevirtual 122, 3) := by decide +kernel
theorem dX7_leaves_5 : decode cX7_leaves 5 = .ok (.istore_n 2, 1) := by decide +kernel
theorem dX7_leaves_6 : decode cX7_leaves 6 = .ok (.aload_n 0, 1) := by decide +kernel
theorem dX7_leaves_7 : decode cX7_leaves 7 = .ok (.iload_n 2, 1) := by decide +kernel
theorem dX7_leaves_8 : decode cX7_leaves 8 = .ok (.iconst 3, 1) := by decide +kernel
theorem dX7_leaves_9 : decode cX7_leaves 9 = .ok (.invokevirtual 100, 3) := by decide +kernel
theorem dX7_leaves_12 : decode cX7_leaves 12 = .ok (.iload_n 2, 1) := by decide +kernel
theorem dX7_leaves_13 : decode cX7_leaves 13 = .ok (.ireturn, 1) := by decide +kernel
theorem dX7_leave_0 : decode cX7_leave 0 = .ok (.aload_n 0, 1) := by decide +kernel
theorem dX7_leave_1 : decode cX7_leave 1 = .ok (.iload_n 1, 1) := by decide +kernel
theorem dX7_leave_2 : decode cX7_leave 2 = .ok (.invokevirtual 134, 3) := by decide +kernel
theorem dX7_leave_5 : decode cX7_leave 5 = .ok (.istore_n 2, 1) := by decide +kernel
theorem dX7_leave_6 : decode cX7_leave 6 = .ok (.iload_n 2, 1) := by decide +kernel
theorem dX7_leave_7 : decode cX7_leave 7 = .ok (.ifCond .eq 9, 3) := by decide +kernel
theorem dX7_leave_10 : decode cX7_leave 10 = .ok (.aload_n 0, 1) := by decide +kernel
theorem dX7_leave_11 : decode cX7_leave 11 = .ok (.iload_n 2, 1) := by decide +kernel
theorem dX7_leave_12 : decode cX7_leave 12 = .ok (.invokevirtual 87, 3) := by decide +kernel
theorem dX7_leave_15 : decode cX7_leave 15 = .ok (.ireturn, 1) := by decide +kernel
theorem dX7_leave_16 : decode cX7_leave 16 = .ok (.aload_n 0, 1) := by decide +kernel
theorem dX7_leave_17 : decode cX7_leave 17 = .ok (.invokevirtual 90, 3) := by decide +kernel
theorem dX7_leave_20 : decode cX7_leave 20 = .ok (.aload_n 0, 1) := by decide +kernel
theorem dX7_leave_21 : decode cX7_leave 21 = .ok (.iload_n 1, 1) := by decide +kernel
theorem dX7_leave_22 : decode cX7_leave 22 = .ok (.invokevirtual 137, 3) := by decide +kernel
theorem dX7_leave_25 : decode cX7_leave 25 = .ok (.ireturn, 1) := by decide +kernel
theorem dX7_notFeast_0 : decode cX7_notFeast 0 = .ok (.iload_n 1, 1) := by decide +kernel
theorem dX7_notFeast_1 : decode cX7_notFeast 1 = .ok (.iconst 0, 1) := by decide +kernel
theorem dX7_notFeast_2 : decode cX7_notFeast 2 = .ok (.bipush 51, 2) := by decide +kernel
theorem dX7_notFeast_4 : decode cX7_notFeast 4 = .ok (.invokestatic 60, 3) := by decide +kernel
theorem dX7_notFeast_7 : decode cX7_notFeast 7 = .ok (.ifCond .eq 13, 3) := by decide +kernel
theorem dX7_notFeast_10 : decode cX7_notFeast 10 = .ok (.iload_n 2, 1) := by decide +kernel
theorem dX7_notFeast_11 : decode cX7_notFeast 11 = .ok (.iconst 1, 1) := by decide +kernel
theorem dX7_notFeast_12 : decode cX7_notFeast 12 = .ok (.bipush 9, 2) := by decide +kernel
theorem dX7_notFeast_14 : decode cX7_notFeast 14 = .ok (.invokestatic 60, 3) := by decide +kernel
theorem dX7_notFeast_17 : decode cX7_notFeast 17 = .ok (.ifCond .ne 6, 3) := by decide +kernel
theorem dX7_notFeast_20 : decode cX7_notFeast 20 = .ok (.bipush (-12), 2) := by decide +kernel
theorem dX7_notFeast_22 : decode cX7_notFeast 22 = .ok (.ireturn, 1) := by decide +kernel
theorem dX7_notFeast_23 : decode cX7_notFeast 23 = .ok (.aload_n 0, 1) := by decide +kernel
theorem dX7_notFeast_24 : decode cX7_notFeast 24 = .ok (.getfield 7, 3) := by decide +kernel
theorem dX7_notFeast_27 : decode cX7_notFeast 27 = .ok (.bipush 12, 2) := by decide +kernel
theorem dX7_notFeast_29 : decode cX7_notFeast 29 = .ok (.iload_n 1, 1) := by decide +kernel
theorem dX7_notFeast_30 : decode cX7_notFeast 30 = .ok (.iadd, 1) := by decide +kernel
theorem dX7_notFeast_31 : decode cX7_notFeast 31 = .ok (.iaload, 1) := by decide +kernel
theorem dX7_notFeast_32 : decode cX7_notFeast 32 = .ok (.ifCond .ne 26, 3) := by decide +kernel
theorem dX7_notFeast_35 : decode cX7_notFeast 35 = .ok (.aload_n 0, 1) := by decide +kernel
theorem dX7_notFeast_36 : decode cX7_notFeast 36 = .ok (.getfield 7, 3) := by decide +kernel
theorem dX7_notFeast_39 : decode cX7_notFeast 39 = .ok (.bipush 9, 2) := by decide +kernel
theorem dX7_notFeast_41 : decode cX7_notFeast 41 = .ok (.iaload, 1) := by decide +kernel
theorem dX7_notFeast_42 : decode cX7_notFeast 42 = .ok (.bipush 6, 2) := by decide +kernel
theorem dX7_notFeast_44 : decode cX7_notFeast 44 = .ok (.if_icmp .ne 14, 3) := by decide +kernel
theorem dX7_notFeast_47 : decode cX7_notFeast 47 = .ok (.aload_n 0, 1) := by decide +kernel
theorem dX7_notFeast_48 : decode cX7_notFeast 48 = .ok (.bipush 8, 2) := by decide +kernel
theorem dX7_notFeast_50 : decode cX7_notFeast 50 = .ok (.bipush 6, 2) := by decide +kernel
theorem dX7_notFeast_52 : decode cX7_notFeast 52 = .ok (.invokevirtual 84, 3) := by decide +kernel
theorem dX7_notFeast_55 : decode cX7_notFeast 55 = .ok (.goto 4, 3) := by decide +kernel
theorem dX7_notFeast_58 : decode cX7_notFeast 58 = .ok (.iconst 0, 1) := by decide +kernel
theorem dX7_notFeast_59 : decode cX7_notFeast 59 = .ok (.ireturn, 1) := by decide +kernel
theorem dX7_tells_0 : decode cX7_tells 0 = .ok (.aload_n 0, 1) := by decide +kernel
theorem dX7_tells_1 : decode cX7_tells 1 = .ok (.getfield 7, 3) := by decide +kernel
theorem dX7_tells_4 : decode cX7_tells 4 = .ok (.bipush 12, 2) := by decide +kernel
theorem dX7_tells_6 : decode cX7_tells 6 = .ok (.iload_n 1, 1) := by decide +kernel
theorem dX7_tells_7 : decode cX7_tells 7 = .ok (.iadd, 1) := by decide +kernel
theorem dX7_tells_8 : decode cX7_tells 8 = .ok (.iaload, 1) := by decide +kernel
theorem dX7_tells_9 : decode cX7_tells 9 = .ok (.ifCond .ne 14, 3) := by decide +kernel
theorem dX7_tells_12 : decode cX7_tells 12 = .ok (.aload_n 0, 1) := by decide +kernel
theorem dX7_tells_13 : decode cX7_tells 13 = .ok (.getfield 7, 3) := by decide +kernel
theorem dX7_tells_16 : decode cX7_tells 16 = .ok (.bipush 9, 2) := by decide +kernel
theorem dX7_tells_18 : decode cX7_tells 18 = .ok (.dup2, 1) := by decide +kernel
theorem dX7_tells_19 : decode cX7_tells 19 = .ok (.iaload, 1) := by decide +kernel
theorem dX7_tells_20 : decode cX7_tells 20 = .ok (.iconst 1, 1) := by decide +kernel
theorem dX7_tells_21 : decode cX7_tells 21 = .ok (.iadd, 1) := by decide +kernel
theorem dX7_tells_22 : decode cX7_tells 22 = .ok (.iastore, 1) := by decide +kernel
theorem dX7_tells_23 : decode cX7_tells 23 = .ok (.aload_n 0, 1) := by decide +kernel
theorem dX7_tells_24 : decode cX7_tells 24 = .ok (.getfield 7, 3) := by decide +kernel
theorem dX7_tells_27 : decode cX7_tells 27 = .ok (.bipush 12, 2) := by decide +kernel
theorem dX7_tells_29 : decode cX7_tells 29 = .ok (.iload_n 1, 1) := by decide +kernel
theorem dX7_tells_30 : decode cX7_tells 30 = .ok (.iadd, 1) := by decide +kernel
theorem dX7_tells_31 : decode cX7_tells 31 = .ok (.iload_n 2, 1) := by decide +kernel
theorem dX7_tells_32 : decode cX7_tells 32 = .ok (.iastore, 1) := by decide +kernel
theorem dX7_tells_33 : decode cX7_tells 33 = .ok (.aload_n 0, 1) := by decide +kernel
theorem dX7_tells_34 : decode cX7_tells 34 = .ok (.getfield 7, 3) := by decide +kernel
theorem dX7_tells_37 : decode cX7_tells 37 = .ok (.bipush 9, 2) := by decide +kernel
theorem dX7_tells_39 : decode cX7_tells 39 = .ok (.iaload, 1) := by decide +kernel
theorem dX7_tells_40 : decode cX7_tells 40 = .ok (.ireturn, 1) := by decide +kernel
theorem dX7_feast_0 : decode cX7_feast 0 = .ok (.aload_n 0, 1) := by decide +kernel
theorem dX7_feast_1 : decode cX7_feast 1 = .ok (.iload_n 1, 1) := by decide +kernel
theorem dX7_feast_2 : decode cX7_feast 2 = .ok (.iload_n 2, 1) := by decide +kernel
theorem dX7_feast_3 : decode cX7_feast 3 = .ok (.invokevirtual 140, 3) := by decide +kernel
theorem dX7_feast_6 : decode cX7_feast 6 = .ok (.istore_n 3, 1) := by decide +kernel
theorem dX7_feast_7 : decode cX7_feast 7 = .ok (.iload_n 3, 1) := by decide +kernel
theorem dX7_feast_8 : decode cX7_feast 8 = .ok (.ifCond .eq 9, 3) := by decide +kernel
theorem dX7_feast_11 : decode cX7_feast 11 = .ok (.aload_n 0, 1) := by decide +kernel
theorem dX7_feast_12 : decode cX7_feast 12 = .ok (.iload_n 3, 1) := by decide +kernel
theorem dX7_feast_13 : decode cX7_feast 13 = .ok (.invokevirtual 87, 3) := by decide +kernel
theorem dX7_feast_16 : decode cX7_feast 16 = .ok (.ireturn, 1) := by decide +kernel
theorem dX7_feast_17 : decode cX7_feast 17 = .ok (.aload_n 0, 1) := by decide +kernel
theorem dX7_feast_18 : decode cX7_feast 18 = .ok (.invokevirtual 90, 3) := by decide +kernel
theorem dX7_feast_21 : decode cX7_feast 21 = .ok (.aload_n 0, 1) := by decide +kernel
theorem dX7_feast_22 : decode cX7_feast 22 = .ok (.iload_n 1, 1) := by decide +kernel
theorem dX7_feast_23 : decode cX7_feast 23 = .ok (.iload_n 2, 1) := by decide +kernel
theorem dX7_feast_24 : decode cX7_feast 24 = .ok (.invokevirtual 143, 3) := by decide +kernel
theorem dX7_feast_27 : decode cX7_feast 27 = .ok (.ireturn, 1) := by decide +kernel
theorem dX7_notBreach_0 : decode cX7_notBreach 0 = .ok (.aload_n 0, 1) := by decide +kernel
theorem dX7_notBreach_1 : decode cX7_notBreach 1 = .ok (.iload_n 1, 1) := by decide +kernel
theorem dX7_notBreach_2 : decode cX7_notBreach 2 = .ok (.invokevirtual 96, 3) := by decide +kernel
theorem dX7_notBreach_5 : decode cX7_notBreach 5 = .ok (.ifCond .eq 12, 3) := by decide +kernel
theorem dX7_notBreach_8 : decode cX7_notBreach 8 = .ok (.iload_n 2, 1) := by decide +kernel
theorem dX7_notBreach_9 : decode cX7_notBreach 9 = .ok (.iconst 0, 1) := by decide +kernel
theorem dX7_notBreach_10 : decode cX7_notBreach 10 = .ok (.iconst 4, 1) := by decide +kernel
theorem dX7_notBreach_11 : decode cX7_notBreach 11 = .ok (.invokestatic 60, 3) := by decide +kernel
theorem dX7_notBreach_14 : decode cX7_notBreach 14 = .ok (.ifCond .ne 6, 3) := by decide +kernel
theorem dX7_notBreach_17 : decode cX7_notBreach 17 = .ok (.bipush (-11), 2) := by decide +kernel
theorem dX7_notBreach_19 : decode cX7_notBreach 19 = .ok (.ireturn, 1) := by decide +kernel
theorem dX7_notBreach_20 : decode cX7_notBreach 20 = .ok (.aload_n 0, 1) := by decide +kernel
theorem dX7_notBreach_21 : decode cX7_notBreach 21 = .ok (.iload_n 1, 1) := by decide +kernel
theorem dX7_notBreach_22 : decode cX7_notBreach 22 = .ok (.iconst 1, 1) := by decide +kernel
theorem dX7_notBreach_23 : decode cX7_notBreach 23 = .ok (.invokevirtual 68, 3) := by decide +kernel
theorem dX7_notBreach_26 : decode cX7_notBreach 26 = .ok (.ifCond .eq 7, 3) := by decide +kernel
theorem dX7_notBreach_29 : decode cX7_notBreach 29 = .ok (.iconst 0, 1) := by decide +kernel
theorem dX7_notBreach_30 : decode cX7_notBreach 30 = .ok (.goto 14, 3) := by decide +kernel
theorem dX7_notBreach_33 : decode cX7_notBreach 33 = .ok (.aload_n 0, 1) := by decide +kernel
theorem dX7_notBreach_34 : decode cX7_notBreach 34 = .ok (.iconst 3, 1) := by decide +kernel
theorem dX7_notBreach_35 : decode cX7_notBreach 35 = .ok (.aload_n 0, 1) := by decide +kernel
theorem dX7_notBreach_36 : decode cX7_notBreach 36 = .ok (.iload_n 1, 1) := by decide +kernel
theorem dX7_notBreach_37 : decode cX7_notBreach 37 = .ok (.iconst 2, 1) := by decide +kernel
theorem dX7_notBreach_38 : decode cX7_notBreach 38 = .ok (.invokevirtual 64, 3) := by decide +kernel
theorem dX7_notBreach_41 : decode cX7_notBreach 41 = .ok (.invokevirtual 84, 3) := by decide +kernel
theorem dX7_notBreach_44 : decode cX7_notBreach 44 = .ok (.ireturn, 1) := by decide +kernel
theorem dX7_breaks_0 : decode cX7_breaks 0 = .ok (.aload_n 0, 1) := by decide +kernel
theorem dX7_breaks_1 : decode cX7_breaks 1 = .ok (.iload_n 1, 1) := by decide +kernel
theorem dX7_breaks_2 : decode cX7_breaks 2 = .ok (.bipush 9, 2) := by decide +kernel
theorem dX7_breaks_4 : decode cX7_breaks 4 = .ok (.iload_n 2, 1) := by decide +kernel
theorem dX7_breaks_5 : decode cX7_breaks 5 = .ok (.iadd, 1) := by decide +kernel
theorem dX7_breaks_6 : decode cX7_breaks 6 = .ok (.invokevirtual 64, 3) := by decide +kernel
theorem dX7_breaks_9 : decode cX7_breaks 9 = .ok (.iconst 1, 1) := by decide +kernel
theorem dX7_breaks_10 : decode cX7_breaks 10 = .ok (.iadd, 1) := by decide +kernel
theorem dX7_breaks_11 : decode cX7_breaks 11 = .ok (.istore_n 3, 1) := by decide +kernel
theorem dX7_breaks_12 : decode cX7_breaks 12 = .ok (.aload_n 0, 1) := by decide +kernel
theorem dX7_breaks_13 : decode cX7_breaks 13 = .ok (.iload_n 1, 1) := by decide +kernel
theorem dX7_breaks_14 : decode cX7_breaks 14 = .ok (.bipush 9, 2) := by decide +kernel
theorem dX7_breaks_16 : decode cX7_breaks 16 = .ok (.iload_n 2, 1) := by decide +kernel
theorem dX7_breaks_17 : decode cX7_breaks 17 = .ok (.iadd, 1) := by decide +kernel
theorem dX7_breaks_18 : decode cX7_breaks 18 = .ok (.iload_n 3, 1) := by decide +kernel
theorem dX7_breaks_19 : decode cX7_breaks 19 = .ok (.invokevirtual 76, 3) := by decide +kernel
theorem dX7_breaks_22 : decode cX7_breaks 22 = .ok (.iload_n 3, 1) := by decide +kernel
theorem dX7_breaks_23 : decode cX7_breaks 23 = .ok (.iconst 3, 1) := by decide +kernel
theorem dX7_breaks_24 : decode cX7_breaks 24 = .ok (.if_icmp .ne 12, 3) := by decide +kernel
theorem dX7_breaks_27 : decode cX7_breaks 27 = .ok (.aload_n 0, 1) := by decide +kernel
theorem dX7_breaks_28 : decode cX7_breaks 28 = .ok (.iload_n 1, 1) := by decide +kernel
theorem dX7_breaks_29 : decode cX7_breaks 29 = .ok (.iconst 2, 1) := by decide +kernel
theorem dX7_breaks_30 : decode cX7_breaks 30 = .ok (.invokevirtual 100, 3) := by decide +kernel
theorem dX7_breaks_33 : decode cX7_breaks 33 = .ok (.goto 17, 3) := by decide +kernel
theorem dX7_breaks_36 : decode cX7_breaks 36 = .ok (.aload_n 0, 1) := by decide +kernel
theorem dX7_breaks_37 : decode cX7_breaks 37 = .ok (.iload_n 1, 1) := by decide +kernel
theorem dX7_breaks_38 : decode cX7_breaks 38 = .ok (.iconst 5, 1) := by decide +kernel
theorem dX7_breaks_39 : decode cX7_breaks 39 = .ok (.aload_n 0, 1) := by decide +kernel
theorem dX7_breaks_40 : decode cX7_breaks 40 = .ok (.iload_n 1, 1) := by decide +kernel
theorem dX7_breaks_41 : decode cX7_breaks 41 = .ok (.iconst 5, 1) := by decide +kernel
theorem dX7_breaks_42 : decode cX7_breaks 42 = .ok (.invokevirtual 64, 3) := by decide +kernel
theorem dX7_breaks_45 : decode cX7_breaks 45 = .ok (.iload_n 3, 1) := by decide +kernel
theorem dX7_breaks_46 : decode cX7_breaks 46 = .ok (.iadd, 1) := by decide +kernel
theorem dX7_breaks_47 : decode cX7_breaks 47 = .ok (.invokevirtual 76, 3) := by decide +kernel
theorem dX7_breaks_50 : decode cX7_breaks 50 = .ok (.aload_n 0, 1) := by decide +kernel
theorem dX7_breaks_51 : decode cX7_breaks 51 = .ok (.iload_n 1, 1) := by decide +kernel
theorem dX7_breaks_52 : decode cX7_breaks 52 = .ok (.iconst 5, 1) := by decide +kernel
theorem dX7_breaks_53 : decode cX7_breaks 53 = .ok (.invokevirtual 64, 3) := by decide +kernel
theorem dX7_breaks_56 : decode cX7_breaks 56 = .ok (.ireturn, 1) := by decide +kernel
theorem dX7_breach_0 : decode cX7_breach 0 = .ok (.aload_n 0, 1) := by decide +kernel
theorem dX7_breach_1 : decode cX7_breach 1 = .ok (.iload_n 1, 1) := by decide +kernel
theorem dX7_breach_2 : decode cX7_breach 2 = .ok (.iload_n 2, 1) := by decide +kernel
theorem dX7_breach_3 : decode cX7_breach 3 = .ok (.invokevirtual 146, 3) := by decide +kernel
theorem dX7_breach_6 : decode cX7_breach 6 = .ok (.istore_n 3, 1) := by decide +kernel
theorem dX7_breach_7 : decode cX7_breach 7 = .ok (.iload_n 3, 1) := by decide +kernel
theorem dX7_breach_8 : decode cX7_breach 8 = .ok (.ifCond .eq 9, 3) := by decide +kernel
theorem dX7_breach_11 : decode cX7_breach 11 = .ok (.aload_n 0, 1) := by decide +kernel
theorem dX7_breach_12 : decode cX7_breach 12 = .ok (.iload_n 3, 1) := by decide +kernel
theorem dX7_breach_13 : decode cX7_breach 13 = .ok (.invokevirtual 87, 3) := by decide +kernel
theorem dX7_breach_16 : decode cX7_breach 16 = .ok (.ireturn, 1) := by decide +kernel
theorem dX7_breach_17 : decode cX7_breach 17 = .ok (.aload_n 0, 1) := by decide +kernel
theorem dX7_breach_18 : decode cX7_breach 18 = .ok (.invokevirtual 90, 3) := by decide +kernel
theorem dX7_breach_21 : decode cX7_breach 21 = .ok (.aload_n 0, 1) := by decide +kernel
theorem dX7_breach_22 : decode cX7_breach 22 = .ok (.iload_n 1, 1) := by decide +kernel
theorem dX7_breach_23 : decode cX7_breach 23 = .ok (.iload_n 2, 1) := by decide +kernel
theorem dX7_breach_24 : decode cX7_breach 24 = .ok (.invokevirtual 149, 3) := by decide +kernel
theorem dX7_breach_27 : decode cX7_breach 27 = .ok (.ireturn, 1) := by decide +kernel
theorem dX7_notPardon_0 : decode cX7_notPardon 0 = .ok (.aload_n 0, 1) := by decide +kernel
theorem dX7_notPardon_1 : decode cX7_notPardon 1 = .ok (.iload_n 1, 1) := by decide +kernel
theorem dX7_notPardon_2 : decode cX7_notPardon 2 = .ok (.invokevirtual 96, 3) := by decide +kernel
theorem dX7_notPardon_5 : decode cX7_notPardon 5 = .ok (.ifCond .ne 6, 3) := by decide +kernel
theorem dX7_notPardon_8 : decode cX7_notPardon 8 = .ok (.bipush (-11), 2) := by decide +kernel
theorem dX7_notPardon_10 : decode cX7_notPardon 10 = .ok (.ireturn, 1) := by decide +kernel
theorem dX7_notPardon_11 : decode cX7_notPardon 11 = .ok (.aload_n 0, 1) := by decide +kernel
theorem dX7_notPardon_12 : decode cX7_notPardon 12 = .ok (.iload_n 1, 1) := by decide +kernel
theorem dX7_notPardon_13 : decode cX7_notPardon 13 = .ok (.iconst 1, 1) := by decide +kernel
theorem dX7_notPardon_14 : decode cX7_notPardon 14 = .ok (.invokevirtual 68, 3) := by decide +kernel
theorem dX7_notPardon_17 : decode cX7_notPardon 17 = .ok (.ifCond .ne 15, 3) := by decide +kernel
theorem dX7_notPardon_20 : decode cX7_notPardon 20 = .ok (.aload_n 0, 1) := by decide +kernel
theorem dX7_notPardon_21 : decode cX7_notPardon 21 = .ok (.iconst 3, 1) := by decide +kernel
theorem dX7_notPardon_22 : decode cX7_notPardon 22 = .ok (.aload_n 0, 1) := by decide +kernel
theorem dX7_notPardon_23 : decode cX7_notPardon 23 = .ok (.iload_n 1, 1) := by decide +kernel
theorem dX7_notPardon_24 : decode cX7_notPardon 24 = .ok (.iconst 2, 1) := by decide +kernel
theorem dX7_notPardon_25 : decode cX7_notPardon 25 = .ok (.invokevirtual 64, 3) := by decide +kernel
theorem dX7_notPardon_28 : decode cX7_notPardon 28 = .ok (.invokevirtual 84, 3) := by decide +kernel
theorem dX7_notPardon_31 : decode cX7_notPardon 31 = .ok (.ireturn, 1) := by decide +kernel
theorem dX7_notPardon_32 : decode cX7_notPardon 32 = .ok (.aload_n 0, 1) := by decide +kernel
theorem dX7_notPardon_33 : decode cX7_notPardon 33 = .ok (.iload_n 1, 1) := by decide +kernel
theorem dX7_notPardon_34 : decode cX7_notPardon 34 = .ok (.iconst 5, 1) := by decide +kernel
theorem dX7_notPardon_35 : decode cX7_notPardon 35 = .ok (.invokevirtual 64, 3) := by decide +kernel
theorem dX7_notPardon_38 : decode cX7_notPardon 38 = .ok (.ifCond .ne 11, 3) := by decide +kernel
theorem dX7_notPardon_41 : decode cX7_notPardon 41 = .ok (.aload_n 0, 1) := by decide +kernel
theorem dX7_notPardon_42 : decode cX7_notPardon 42 = .ok (.bipush 10, 2) := by decide +kernel
theorem dX7_notPardon_44 : decode cX7_notPardon 44 = .ok (.iload_n 1, 1) := by decide +kernel
theorem dX7_notPardon_45 : decode cX7_notPardon 45 = .ok (.invokevirtual 84, 3) := by decide +kernel
theorem dX7_notPardon_48 : decode cX7_notPardon 48 = .ok (.ireturn, 1) := by decide +kernel
theorem dX7_notPardon_49 : decode cX7_notPardon 49 = .ok (.aload_n 0, 1) := by decide +kernel
theorem dX7_notPardon_50 : decode cX7_notPardon 50 = .ok (.getfield 7, 3) := by decide +kernel
theorem dX7_notPardon_53 : decode cX7_notPardon 53 = .ok (.bipush 8, 2) := by decide +kernel
theorem dX7_notPardon_55 : decode cX7_notPardon 55 = .ok (.iaload, 1) := by decide +kernel
theorem dX7_notPardon_56 : decode cX7_notPardon 56 = .ok (.iconst 2, 1) := by decide +kernel
theorem dX7_notPardon_57 : decode cX7_notPardon 57 = .ok (.if_icmp .ne 13, 3) := by decide +kernel
theorem dX7_notPardon_60 : decode cX7_notPardon 60 = .ok (.aload_n 0, 1) := by decide +kernel
theorem dX7_notPardon_61 : decode cX7_notPardon 61 = .ok (.bipush 9, 2) := by decide +kernel
theorem dX7_notPardon_63 : decode cX7_notPardon 63 = .ok (.iconst 2, 1) := by decide +kernel
theorem dX7_notPardon_64 : decode cX7_notPardon 64 = .ok (.invokevirtual 84, 3) := by decide +kernel
theorem dX7_notPardon_67 : decode cX7_notPardon 67 = .ok (.goto 4, 3) := by decide +kernel
theorem dX7_notPardon_70 : decode cX7_notPardon 70 = .ok (.iconst 0, 1) := by decide +kernel
theorem dX7_notPardon_71 : decode cX7_notPardon 71 = .ok (.ireturn, 1) := by decide +kernel
theorem dX7_pardons_0 : decode cX7_pardons 0 = .ok (.aload_n 0, 1) := by decide +kernel
theorem dX7_pardons_1 : decode cX7_pardons 1 = .ok (.iload_n 1, 1) := by decide +kernel
theorem dX7_pardons_2 : decode cX7_pardons 2 = .ok (.iconst 5, 1) := by decide +kernel
theorem dX7_pardons_3 : decode cX7_pardons 3 = .ok (.invokevirtual 64, 3) := by decide +kernel
theorem dX7_pardons_6 : decode cX7_pardons 6 = .ok (.istore_n 2, 1) := by decide +kernel
theorem dX7_pardons_7 : decode cX7_pardons 7 = .ok (.aload_n 0, 1) := by decide +kernel
theorem dX7_pardons_8 : decode cX7_pardons 8 = .ok (.iload_n 1, 1) := by decide +kernel
theorem dX7_pardons_9 : decode cX7_pardons 9 = .ok (.iconst 5, 1) := by decide +kernel
theorem dX7_pardons_10 : decode cX7_pardons 10 = .ok (.iconst 0, 1) := by decide +kernel
theorem dX7_pardons_11 : decode cX7_pardons 11 = .ok (.invokevirtual 76, 3) := by decide +kernel
theorem dX7_pardons_14 : decode cX7_pardons 14 = .ok (.aload_n 0, 1) := by decide +kernel
theorem dX7_pardons_15 : decode cX7_pardons 15 = .ok (.getfield 7, 3) := by decide +kernel
theorem dX7_pardons_18 : decode cX7_pardons 18 = .ok (.bipush 8, 2) := by decide +kernel
theorem dX7_pardons_20 : decode cX7_pardons 20 = .ok (.dup2, 1) := by decide +kernel
theorem dX7_pardons_21 : decode cX7_pardons 21 = .ok (.iaload, 1) := by decide +kernel
theorem dX7_pardons_22 : decode cX7_pardons 22 = .ok (.iconst 1, 1) := by decide +kernel
theorem dX7_pardons_23 : decode cX7_pardons 23 = .ok (.iadd, 1) := by decide +kernel
theorem dX7_pardons_24 : decode cX7_pardons 24 = .ok (.iastore, 1) := by decide +kernel
theorem dX7_pardons_25 : decode cX7_pardons 25 = .ok (.iload_n 2, 1) := by decide +kernel
theorem dX7_pardons_26 : decode cX7_pardons 26 = .ok (.ireturn, 1) := by decide +kernel
theorem dX7_pardon_0 : decode cX7_pardon 0 = .ok (.aload_n 0, 1) := by decide +kernel
theorem dX7_pardon_1 : decode cX7_pardon 1 = .ok (.iload_n 1, 1) := by decide +kernel
theorem dX7_pardon_2 : decode cX7_pardon 2 = .ok (.invokevirtual 152, 3) := by decide +kernel
theorem dX7_pardon_5 : decode cX7_pardon 5 = .ok (.istore_n 2, 1) := by decide +kernel
theorem dX7_pardon_6 : decode cX7_pardon 6 = .ok (.iload_n 2, 1) := by decide +kernel
theorem dX7_pardon_7 : decode cX7_pardon 7 = .ok (.ifCond .eq 9, 3) := by decide +kernel
theorem dX7_pardon_10 : decode cX7_pardon 10 = .ok (.aload_n 0, 1) := by decide +kernel
theorem dX7_pardon_11 : decode cX7_pardon 11 = .ok (.iload_n 2, 1) := by decide +kernel
theorem dX7_pardon_12 : decode cX7_pardon 12 = .ok (.invokevirtual 87, 3) := by decide +kernel
theorem dX7_pardon_15 : decode cX7_pardon 15 = .ok (.ireturn, 1) := by decide +kernel
theorem dX7_pardon_16 : decode cX7_pardon 16 = .ok (.aload_n 0, 1) := by decide +kernel
theorem dX7_pardon_17 : decode cX7_pardon 17 = .ok (.invokevirtual 90, 3) := by decide +kernel
theorem dX7_pardon_20 : decode cX7_pardon 20 = .ok (.aload_n 0, 1) := by decide +kernel
theorem dX7_pardon_21 : decode cX7_pardon 21 = .ok (.iload_n 1, 1) := by decide +kernel
theorem dX7_pardon_22 : decode cX7_pardon 22 = .ok (.invokevirtual 155, 3) := by decide +kernel
theorem dX7_pardon_25 : decode cX7_pardon 25 = .ok (.ireturn, 1) := by decide +kernel
theorem dX7_comesIn_0 : decode cX7_comesIn 0 = .ok (.iload_n 1, 1) := by decide +kernel
theorem dX7_comesIn_1 : decode cX7_comesIn 1 = .ok (.sipush 9999, 3) := by decide +kernel
theorem dX7_comesIn_4 : decode cX7_comesIn 4 = .ok (.aload_n 0, 1) := by decide +kernel
theorem dX7_comesIn_5 : decode cX7_comesIn 5 = .ok (.getfield 7, 3) := by decide +kernel
theorem dX7_comesIn_8 : decode cX7_comesIn 8 = .ok (.iconst 3, 1) := by decide +kernel
theorem dX7_comesIn_9 : decode cX7_comesIn 9 = .ok (.iaload, 1) := by decide +kernel
theorem dX7_comesIn_10 : decode cX7_comesIn 10 = .ok (.isub, 1) := by decide +kernel
theorem dX7_comesIn_11 : decode cX7_comesIn 11 = .ok (.invokestatic 158, 3) := by decide +kernel
theorem dX7_comesIn_14 : decode cX7_comesIn 14 = .ok (.istore_n 2, 1) := by decide +kernel
theorem dX7_comesIn_15 : decode cX7_comesIn 15 = .ok (.aload_n 0, 1) := by decide +kernel
theorem dX7_comesIn_16 : decode cX7_comesIn 16 = .ok (.getfield 7, 3) := by decide +kernel
theorem dX7_comesIn_19 : decode cX7_comesIn 19 = .ok (.iconst 3, 1) := by decide +kernel
theorem dX7_comesIn_20 : decode cX7_comesIn 20 = .ok (.dup2, 1) := by decide +kernel
theorem dX7_comesIn_21 : decode cX7_comesIn 21 = .ok (.iaload, 1) := by decide +kernel
theorem dX7_comesIn_22 : decode cX7_comesIn 22 = .ok (.iload_n 2, 1) := by decide +kernel
theorem dX7_comesIn_23 : decode cX7_comesIn 23 = .ok (.iadd, 1) := by decide +kernel
theorem dX7_comesIn_24 : decode cX7_comesIn 24 = .ok (.iastore, 1) := by decide +kernel
theorem dX7_comesIn_25 : decode cX7_comesIn 25 = .ok (.aload_n 0, 1) := by decide +kernel
theorem dX7_comesIn_26 : decode cX7_comesIn 26 = .ok (.getfield 7, 3) := by decide +kernel
theorem dX7_comesIn_29 : decode cX7_comesIn 29 = .ok (.iconst 4, 1) := by decide +kernel
theorem dX7_comesIn_30 : decode cX7_comesIn 30 = .ok (.dup2, 1) := by decide +kernel
theorem dX7_comesIn_31 : decode cX7_comesIn 31 = .ok (.iaload, 1) := by decide +kernel
theorem dX7_comesIn_32 : decode cX7_comesIn 32 = .ok (.iload_n 2, 1) := by decide +kernel
theorem dX7_comesIn_33 : decode cX7_comesIn 33 = .ok (.iadd, 1) := by decide +kernel
theorem dX7_comesIn_34 : decode cX7_comesIn 34 = .ok (.iastore, 1) := by decide +kernel
theorem dX7_comesIn_35 : decode cX7_comesIn 35 = .ok (.return_, 1) := by decide +kernel
theorem dX7_puts_0 : decode cX7_puts 0 = .ok (.aload_n 0, 1) := by decide +kernel
theorem dX7_puts_1 : decode cX7_puts 1 = .ok (.iload_n 1, 1) := by decide +kernel
theorem dX7_puts_2 : decode cX7_puts 2 = .ok (.invokevirtual 161, 3) := by decide +kernel
theorem dX7_puts_5 : decode cX7_puts 5 = .ok (.aload_n 0, 1) := by decide +kernel
theorem dX7_puts_6 : decode cX7_puts 6 = .ok (.getfield 7, 3) := by decide +kernel
theorem dX7_puts_9 : decode cX7_puts 9 = .ok (.iconst 3, 1) := by decide +kernel
theorem dX7_puts_10 : decode cX7_puts 10 = .ok (.iaload, 1) := by decide +kernel
theorem dX7_puts_11 : decode cX7_puts 11 = .ok (.ireturn, 1) := by decide +kernel
theorem dX7_gift_0 : decode cX7_gift 0 = .ok (.iload_n 1, 1) := by decide +kernel
theorem dX7_gift_1 : decode cX7_gift 1 = .ok (.iconst 1, 1) := by decide +kernel
theorem dX7_gift_2 : decode cX7_gift 2 = .ok (.sipush 500, 3) := by decide +kernel
theorem dX7_gift_5 : decode cX7_gift 5 = .ok (.invokestatic 60, 3) := by decide +kernel
theorem dX7_gift_8 : decode cX7_gift 8 = .ok (.ifCond .ne 6, 3) := by decide +kernel
theorem dX7_gift_11 : decode cX7_gift 11 = .ok (.bipush (-12), 2) := by decide +kernel
theorem dX7_gift_13 : decode cX7_gift 13 = .ok (.ireturn, 1) := by decide +kernel
theorem dX7_gift_14 : decode cX7_gift 14 = .ok (.aload_n 0, 1) := by decide +kernel
theorem dX7_gift_15 : decode cX7_gift 15 = .ok (.invokevirtual 90, 3) := by decide +kernel
theorem dX7_gift_18 : decode cX7_gift 18 = .ok (.aload_n 0, 1) := by decide +kernel
theorem dX7_gift_19 : decode cX7_gift 19 = .ok (.iload_n 1, 1) := by decide +kernel
theorem dX7_gift_20 : decode cX7_gift 20 = .ok (.invokevirtual 164, 3) := by decide +kernel
theorem dX7_gift_23 : decode cX7_gift 23 = .ok (.ireturn, 1) := by decide +kernel
theorem dX7_isEntitled_0 : decode cX7_isEntitled 0 = .ok (.aload_n 0, 1) := by decide +kernel
theorem dX7_isEntitled_1 : decode cX7_isEntitled 1 = .ok (.iload_n 1, 1) := by decide +kernel
theorem dX7_isEntitled_2 : decode cX7_isEntitled 2 = .ok (.iconst 1, 1) := by decide +kernel
theorem dX7_isEntitled_3 : decode cX7_isEntitled 3 = .ok (.invokevirtual 68, 3) := by decide +kernel
theorem dX7_isEntitled_6 : decode cX7_isEntitled 6 = .ok (.ifCond .eq 16, 3) := by decide +kernel
theorem dX7_isEntitled_9 : decode cX7_isEntitled 9 = .ok (.aload_n 0, 1) := by decide +kernel
theorem dX7_isEntitled_10 : decode cX7_isEntitled 10 = .ok (.iload_n 1, 1) := by decide +kernel
theorem dX7_isEntitled_11 : decode cX7_isEntitled 11 = .ok (.iconst 5, 1) := by decide +kernel
theorem dX7_isEntitled_12 : decode cX7_isEntitled 12 = .ok (.invokevirtual 64, 3) := by decide +kernel
theorem dX7_isEntitled_15 : decode cX7_isEntitled 15 = .ok (.ifCond .ne 7, 3) := by decide +kernel
theorem dX7_isEntitled_18 : decode cX7_isEntitled 18 = .ok (.iconst 1, 1) := by decide +kernel
theorem dX7_isEntitled_19 : decode cX7_isEntitled 19 = .ok (.goto 4, 3) := by decide +kernel
theorem dX7_isEntitled_22 : decode cX7_isEntitled 22 = .ok (.iconst 0, 1) := by decide +kernel
theorem dX7_isEntitled_23 : decode cX7_isEntitled 23 = .ok (.ireturn, 1) := by decide +kernel
theorem dX7_entitledMany_0 : decode cX7_entitledMany 0 = .ok (.iconst 0, 1) := by decide +kernel
theorem dX7_entitledMany_1 : decode cX7_entitledMany 1 = .ok (.istore_n 1, 1) := by decide +kernel
theorem dX7_entitledMany_2 : decode cX7_entitledMany 2 = .ok (.iconst 0, 1) := by decide +kernel
theorem dX7_entitledMany_3 : decode cX7_entitledMany 3 = .ok (.istore_n 2, 1) := by decide +kernel
theorem dX7_entitledMany_4 : decode cX7_entitledMany 4 = .ok (.iload_n 2, 1) := by decide +kernel
theorem dX7_entitledMany_5 : decode cX7_entitledMany 5 = .ok (.aload_n 0, 1) := by decide +kernel
theorem dX7_entitledMany_6 : decode cX7_entitledMany 6 = .ok (.getfield 7, 3) := by decide +kernel
theorem dX7_entitledMany_9 : decode cX7_entitledMany 9 = .ok (.iconst 2, 1) := by decide +kernel
theorem dX7_entitledMany_10 : decode cX7_entitledMany 10 = .ok (.iaload, 1) := by decide +kernel
theorem dX7_entitledMany_11 : decode cX7_entitledMany 11 = .ok (.if_icmp .ge 25, 3) := by decide +kernel
theorem dX7_entitledMany_14 : decode cX7_entitledMany 14 = .ok (.iload_n 1, 1) := by decide +kernel
theorem dX7_entitledMany_15 : decode cX7_entitledMany 15 = .ok (.aload_n 0, 1) := by decide +kernel
theorem dX7_entitledMany_16 : decode cX7_entitledMany 16 = .ok (.iload_n 2, 1) := by decide +kernel
theorem dX7_entitledMany_17 : decode cX7_entitledMany 17 = .ok (.invokevirtual 167, 3) := by decide +kernel
theorem dX7_entitledMany_20 : decode cX7_entitledMany 20 = .ok (.ifCond .eq 7, 3) := by decide +kernel
theorem dX7_entitledMany_23 : decode cX7_entitledMany 23 = .ok (.iconst 1, 1) := by decide +kernel
theorem dX7_entitledMany_24 : decode cX7_entitledMany 24 = .ok (.goto 4, 3) := by decide +kernel
theorem dX7_entitledMany_27 : decode cX7_entitledMany 27 = .ok (.iconst 0, 1) := by decide +kernel
theorem dX7_entitledMany_28 : decode cX7_entitledMany 28 = .ok (.iadd, 1) := by decide +kernel
theorem dX7_entitledMany_29 : decode cX7_entitledMany 29 = .ok (.istore_n 1, 1) := by decide +kernel
theorem dX7_entitledMany_30 : decode cX7_entitledMany 30 = .ok (.iinc 2 1, 3) := by decide +kernel
theorem dX7_entitledMany_33 : decode cX7_entitledMany 33 = .ok (.goto (-29), 3) := by decide +kernel
theorem dX7_entitledMany_36 : decode cX7_entitledMany 36 = .ok (.iload_n 1, 1) := by decide +kernel
theorem dX7_entitledMany_37 : decode cX7_entitledMany 37 = .ok (.ireturn, 1) := by decide +kernel
theorem dX7_feastComes_0 : decode cX7_feastComes 0 = .ok (.aload_n 0, 1) := by decide +kernel
theorem dX7_feastComes_1 : decode cX7_feastComes 1 = .ok (.invokevirtual 170, 3) := by decide +kernel
theorem dX7_feastComes_4 : decode cX7_feastComes 4 = .ok (.istore_n 1, 1) := by decide +kernel
theorem dX7_feastComes_5 : decode cX7_feastComes 5 = .ok (.aload_n 0, 1) := by decide +kernel
theorem dX7_feastComes_6 : decode cX7_feastComes 6 = .ok (.getfield 7, 3) := by decide +kernel
theorem dX7_feastComes_9 : decode cX7_feastComes 9 = .ok (.bipush 12, 2) := by decide +kernel
theorem dX7_feastComes_11 : decode cX7_feastComes 11 = .ok (.aload_n 0, 1) := by decide +kernel
theorem dX7_feastComes_12 : decode cX7_feastComes 12 = .ok (.getfield 7, 3) := by decide +kernel
theorem dX7_feastComes_15 : decode cX7_feastComes 15 = .ok (.iconst 1, 1) := by decide +kernel
theorem dX7_feastComes_16 : decode cX7_feastComes 16 = .ok (.iaload, 1) := by decide +kernel
theorem dX7_feastComes_17 : decode cX7_feastComes 17 = .ok (.iadd, 1) := by decide +kernel
theorem dX7_feastComes_18 : decode cX7_feastComes 18 = .ok (.iaload, 1) := by decide +kernel
theorem dX7_feastComes_19 : decode cX7_feastComes 19 = .ok (.istore_n 2, 1) := by decide +kernel
theorem dX7_feastComes_20 : decode cX7_feastComes 20 = .ok (.iload_n 1, 1) := by decide +kernel
theorem dX7_feastComes_21 : decode cX7_feastComes 21 = .ok (.ifCond .eq 7, 3) := by decide +kernel
theorem dX7_feastComes_24 : decode cX7_feastComes 24 = .ok (.iload_n 2, 1) := by decide +kernel
theorem dX7_feastComes_25 : decode cX7_feastComes 25 = .ok (.ifCond .ne 5, 3) := by decide +kernel
theorem dX7_feastComes_28 : decode cX7_feastComes 28 = .ok (.iconst 0, 1) := by decide +kernel
theorem dX7_feastComes_29 : decode cX7_feastComes 29 = .ok (.ireturn, 1) := by decide +kernel
theorem dX7_feastComes_30 : decode cX7_feastComes 30 = .ok (.iload_n 2, 1) := by decide +kernel
theorem dX7_feastComes_31 : decode cX7_feastComes 31 = .ok (.aload_n 0, 1) := by decide +kernel
theorem dX7_feastComes_32 : decode cX7_feastComes 32 = .ok (.getfield 7, 3) := by decide +kernel
theorem dX7_feastComes_35 : decode cX7_feastComes 35 = .ok (.iconst 3, 1) := by decide +kernel
theorem dX7_feastComes_36 : decode cX7_feastComes 36 = .ok (.iaload, 1) := by decide +kernel
theorem dX7_feastComes_37 : decode cX7_feastComes 37 = .ok (.iload_n 1, 1) := by decide +kernel
theorem dX7_feastComes_38 : decode cX7_feastComes 38 = .ok (.idiv, 1) := by decide +kernel
theorem dX7_feastComes_39 : decode cX7_feastComes 39 = .ok (.invokestatic 158, 3) := by decide +kernel
theorem dX7_feastComes_42 : decode cX7_feastComes 42 = .ok (.istore_n 3, 1) := by decide +kernel
theorem dX7_feastComes_43 : decode cX7_feastComes 43 = .ok (.iconst 0, 1) := by decide +kernel
theorem dX7_feastComes_44 : decode cX7_feastComes 44 = .ok (.istore 4, 2) := by decide +kernel
theorem dX7_feastComes_46 : decode cX7_feastComes 46 = .ok (.iload 4, 2) := by decide +kernel
theorem dX7_feastComes_48 : decode cX7_feastComes 48 = .ok (.aload_n 0, 1) := by decide +kernel
theorem dX7_feastComes_49 : decode cX7_feastComes 49 = .ok (.getfield 7, 3) := by decide +kernel
theorem dX7_feastComes_52 : decode cX7_feastComes 52 = .ok (.iconst 2, 1) := by decide +kernel
theorem dX7_feastComes_53 : decode cX7_feastComes 53 = .ok (.iaload, 1) := by decide +kernel
theorem dX7_feastComes_54 : decode cX7_feastComes 54 = .ok (.if_icmp .ge 36, 3) := by decide +kernel
theorem dX7_feastComes_57 : decode cX7_feastComes 57 = .ok (.aload_n 0, 1) := by decide +kernel
theorem dX7_feastComes_58 : decode cX7_feastComes 58 = .ok (.iload 4, 2) := by decide +kernel
theorem dX7_feastComes_60 : decode cX7_feastComes 60 = .ok (.invokevirtual 167, 3) := by decide +kernel
theorem dX7_feastComes_63 : decode cX7_feastComes 63 = .ok (.ifCond .eq 21, 3) := by decide +kernel
theorem dX7_feastComes_66 : decode cX7_feastComes 66 = .ok (.aload_n 0, 1) := by decide +kernel
theorem dX7_feastComes_67 : decode cX7_feastComes 67 = .ok (.iload 4, 2) := by decide +kernel
theorem dX7_feastComes_69 : decode cX7_feastComes 69 = .ok (.bipush 6, 2) := by decide +kernel
theorem dX7_feastComes_71 : decode cX7_feastComes 71 = .ok (.aload_n 0, 1) := by decide +kernel
theorem dX7_feastComes_72 : decode cX7_feastComes 72 = .ok (.iload 4, 2) := by decide +kernel
theorem dX7_feastComes_74 : decode cX7_feastComes 74 = .ok (.bipush 6, 2) := by decide +kernel
theorem dX7_feastComes_76 : decode cX7_feastComes 76 = .ok (.invokevirtual 64, 3) := by decide +kernel
theorem dX7_feastComes_79 : decode cX7_feastComes 79 = .ok (.iload_n 3, 1) := by decide +kernel
theorem dX7_feastComes_80 : decode cX7_feastComes 80 = .ok (.iadd, 1) := by decide +kernel
theorem dX7_feastComes_81 : decode cX7_feastComes 81 = .ok (.invokevirtual 76, 3) := by decide +kernel
theorem dX7_feastComes_84 : decode cX7_feastComes 84 = .ok (.iinc 4 1, 3) := by decide +kernel
theorem dX7_feastComes_87 : decode cX7_feastComes 87 = .ok (.goto (-41), 3) := by decide +kernel
theorem dX7_feastComes_90 : decode cX7_feastComes 90 = .ok (.aload_n 0, 1) := by decide +kernel
theorem dX7_feastComes_91 : decode cX7_feastComes 91 = .ok (.getfield 7, 3) := by decide +kernel
theorem dX7_feastComes_94 : decode cX7_feastComes 94 = .ok (.iconst 3, 1) := by decide +kernel
theorem dX7_feastComes_95 : decode cX7_feastComes 95 = .ok (.dup2, 1) := by decide +kernel
theorem dX7_feastComes_96 : decode cX7_feastComes 96 = .ok (.iaload, 1) := by decide +kernel
theorem dX7_feastComes_97 : decode cX7_feastComes 97 = .ok (.iload_n 3, 1) := by decide +kernel
theorem dX7_feastComes_98 : decode cX7_feastComes 98 = .ok (.iload_n 1, 1) := by decide +kernel
theorem dX7_feastComes_99 : decode cX7_feastComes 99 = .ok (.imul, 1) := by decide +kernel
theorem dX7_feastComes_100 : decode cX7_feastComes 100 = .ok (.isub, 1) := by decide +kernel
theorem dX7_feastComes_101 : decode cX7_feastComes 101 = .ok (.iastore, 1) := by decide +kernel
theorem dX7_feastComes_102 : decode cX7_feastComes 102 = .ok (.aload_n 0, 1) := by decide +kernel
theorem dX7_feastComes_103 : decode cX7_feastComes 103 = .ok (.getfield 7, 3) := by decide +kernel
theorem dX7_feastComes_106 : decode cX7_feastComes 106 = .ok (.iconst 5, 1) := by decide +kernel
theorem dX7_feastComes_107 : decode cX7_feastComes 107 = .ok (.dup2, 1) := by decide +kernel
theorem dX7_feastComes_108 : decode cX7_feastComes 108 = .ok (.iaload, 1) := by decide +kernel
theorem dX7_feastComes_109 : decode cX7_feastComes 109 = .ok (.iload_n 3, 1) := by decide +kernel
theorem dX7_feastComes_110 : decode cX7_feastComes 110 = .ok (.iload_n 1, 1) := by decide +kernel
theorem dX7_feastComes_111 : decode cX7_feastComes 111 = .ok (.imul, 1) := by decide +kernel
theorem dX7_feastComes_112 : decode cX7_feastComes 112 = .ok (.iadd, 1) := by decide +kernel
theorem dX7_feastComes_113 : decode cX7_feastComes 113 = .ok (.iastore, 1) := by decide +kernel
theorem dX7_feastComes_114 : decode cX7_feastComes 114 = .ok (.iload_n 3, 1) := by decide +kernel
theorem dX7_feastComes_115 : decode cX7_feastComes 115 = .ok (.iload_n 1, 1) := by decide +kernel
theorem dX7_feastComes_116 : decode cX7_feastComes 116 = .ok (.imul, 1) := by decide +kernel
theorem dX7_feastComes_117 : decode cX7_feastComes 117 = .ok (.ireturn, 1) := by decide +kernel
theorem dX7_isSeniorTo_0 : decode cX7_isSeniorTo 0 = .ok (.aload_n 0, 1) := by decide +kernel
theorem dX7_isSeniorTo_1 : decode cX7_isSeniorTo 1 = .ok (.iload_n 1, 1) := by decide +kernel
theorem dX7_isSeniorTo_2 : decode cX7_isSeniorTo 2 = .ok (.bipush 8, 2) := by decide +kernel
theorem dX7_isSeniorTo_4 : decode cX7_isSeniorTo 4 = .ok (.invokevirtual 64, 3) := by decide +kernel
theorem dX7_isSeniorTo_7 : decode cX7_isSeniorTo 7 = .ok (.aload_n 0, 1) := by decide +kernel
theorem dX7_isSeniorTo_8 : decode cX7_isSeniorTo 8 = .ok (.iload_n 2, 1) := by decide +kernel
theorem dX7_isSeniorTo_9 : decode cX7_isSeniorTo 9 = .ok (.bipush 8, 2) := by decide +kernel
theorem dX7_isSeniorTo_11 : decode cX7_isSeniorTo 11 = .ok (.invokevirtual 64, 3) := by decide +kernel
theorem dX7_isSeniorTo_14 : decode cX7_isSeniorTo 14 = .ok (.if_icmp .ge 7, 3) := by decide +kernel
theorem dX7_isSeniorTo_17 : decode cX7_isSeniorTo 17 = .ok (.iconst 1, 1) := by decide +kernel
theorem dX7_isSeniorTo_18 : decode cX7_isSeniorTo 18 = .ok (.goto 4, 3) := by decide +kernel
theorem dX7_isSeniorTo_21 : decode cX7_isSeniorTo 21 = .ok (.iconst 0, 1) := by decide +kernel
theorem dX7_isSeniorTo_22 : decode cX7_isSeniorTo 22 = .ok (.ireturn, 1) := by decide +kernel
theorem dX7_isShabbier_0 : decode cX7_isShabbier 0 = .ok (.aload_n 0, 1) := by decide +kernel
theorem dX7_isShabbier_1 : decode cX7_isShabbier 1 = .ok (.iload_n 1, 1) := by decide +kernel
theorem dX7_isShabbier_2 : decode cX7_isShabbier 2 = .ok (.iconst 4, 1) := by decide +kernel
theorem dX7_isShabbier_3 : decode cX7_isShabbier 3 = .ok (.invokevirtual 64, 3) := by decide +kernel
theorem dX7_isShabbier_6 : decode cX7_isShabbier 6 = .ok (.aload_n 0, 1) := by decide +kernel
theorem dX7_isShabbier_7 : decode cX7_isShabbier 7 = .ok (.iload_n 2, 1) := by decide +kernel
theorem dX7_isShabbier_8 : decode cX7_isShabbier 8 = .ok (.iconst 4, 1) := by decide +kernel
theorem dX7_isShabbier_9 : decode cX7_isShabbier 9 = .ok (.invokevirtual 64, 3) := by decide +kernel
theorem dX7_isShabbier_12 : decode cX7_isShabbier 12 = .ok (.if_icmp .eq 26, 3) := by decide +kernel
theorem dX7_isShabbier_15 : decode cX7_isShabbier 15 = .ok (.aload_n 0, 1) := by decide +kernel
theorem dX7_isShabbier_16 : decode cX7_isShabbier 16 = .ok (.iload_n 1, 1) := by decide +kernel
theorem dX7_isShabbier_17 : decode cX7_isShabbier 17 = .ok (.iconst 4, 1) := by decide +kernel
theorem dX7_isShabbier_18 : decode cX7_isShabbier 18 = .ok (.invokevirtual 64, 3) := by decide +kernel
theorem dX7_isShabbier_21 : decode cX7_isShabbier 21 = .ok (.aload_n 0, 1) := by decide +kernel
theorem dX7_isShabbier_22 : decode cX7_isShabbier 22 = .ok (.iload_n 2, 1) := by decide +kernel
theorem dX7_isShabbier_23 : decode cX7_isShabbier 23 = .ok (.iconst 4, 1) := by decide +kernel
theorem dX7_isShabbier_24 : decode cX7_isShabbier 24 = .ok (.invokevirtual 64, 3) := by decide +kernel
theorem dX7_isShabbier_27 : decode cX7_isShabbier 27 = .ok (.if_icmp .le 7, 3) := by decide +kernel
theorem dX7_isShabbier_30 : decode cX7_isShabbier 30 = .ok (.iconst 1, 1) := by decide +kernel
theorem dX7_isShabbier_31 : decode cX7_isShabbier 31 = .ok (.goto 13, 3) := by decide +kernel
theorem dX7_isShabbier_34 : decode cX7_isShabbier 34 = .ok (.iconst 0, 1) := by decide +kernel
theorem dX7_isShabbier_35 : decode cX7_isShabbier 35 = .ok (.goto 9, 3) := by decide +kernel
theorem dX7_isShabbier_38 : decode cX7_isShabbier 38 = .ok (.aload_n 0, 1) := by decide +kernel
theorem dX7_isShabbier_39 : decode cX7_isShabbier 39 = .ok (.iload_n 1, 1) := by decide +kernel
theorem dX7_isShabbier_40 : decode cX7_isShabbier 40 = .ok (.iload_n 2, 1) := by decide +kernel
theorem dX7_isShabbier_41 : decode cX7_isShabbier 41 = .ok (.invokevirtual 174, 3) := by decide +kernel
theorem dX7_isShabbier_44 : decode cX7_isShabbier 44 = .ok (.ireturn, 1) := by decide +kernel
theorem dX7_shabbyAt_0 : decode cX7_shabbyAt 0 = .ok (.iconst 0, 1) := by decide +kernel
theorem dX7_shabbyAt_1 : decode cX7_shabbyAt 1 = .ok (.istore_n 2, 1) := by decide +kernel
theorem dX7_shabbyAt_2 : decode cX7_shabbyAt 2 = .ok (.iload_n 2, 1) := by decide +kernel
theorem dX7_shabbyAt_3 : decode cX7_shabbyAt 3 = .ok (.aload_n 0, 1) := by decide +kernel
theorem dX7_shabbyAt_4 : decode cX7_shabbyAt 4 = .ok (.getfield 7, 3) := by decide +kernel
theorem dX7_shabbyAt_7 : decode cX7_shabbyAt 7 = .ok (.iconst 2, 1) := by decide +kernel
theorem dX7_shabbyAt_8 : decode cX7_shabbyAt 8 = .ok (.iaload, 1) := by decide +kernel
theorem dX7_shabbyAt_9 : decode cX7_shabbyAt 9 = .ok (.if_icmp .ge 78, 3) := by decide +kernel
theorem dX7_shabbyAt_12 : decode cX7_shabbyAt 12 = .ok (.aload_n 0, 1) := by decide +kernel
theorem dX7_shabbyAt_13 : decode cX7_shabbyAt 13 = .ok (.iload_n 2, 1) := by decide +kernel
theorem dX7_shabbyAt_14 : decode cX7_shabbyAt 14 = .ok (.iconst 1, 1) := by decide +kernel
theorem dX7_shabbyAt_15 : decode cX7_shabbyAt 15 = .ok (.invokevirtual 68, 3) := by decide +kernel
theorem dX7_shabbyAt_18 : decode cX7_shabbyAt 18 = .ok (.ifCond .ne 6, 3) := by decide +kernel
theorem dX7_shabbyAt_21 : decode cX7_shabbyAt 21 = .ok (.goto 60, 3) := by decide +kernel
theorem dX7_shabbyAt_24 : decode cX7_shabbyAt 24 = .ok (.iconst 0, 1) := by decide +kernel
theorem dX7_shabbyAt_25 : decode cX7_shabbyAt 25 = .ok (.istore_n 3, 1) := by decide +kernel
theorem dX7_shabbyAt_26 : decode cX7_shabbyAt 26 = .ok (.iconst 0, 1) := by decide +kernel
theorem dX7_shabbyAt_27 : decode cX7_shabbyAt 27 = .ok (.istore 4, 2) := by decide +kernel
theorem dX7_shabbyAt_29 : decode cX7_shabbyAt 29 = .ok (.iload 4, 2) := by decide +kernel
theorem dX7_shabbyAt_31 : decode cX7_shabbyAt 31 = .ok (.aload_n 0, 1) := by decide +kernel
theorem dX7_shabbyAt_32 : decode cX7_shabbyAt 32 = .ok (.getfield 7, 3) := by decide +kernel
theorem dX7_shabbyAt_35 : decode cX7_shabbyAt 35 = .ok (.iconst 2, 1) := by decide +kernel
theorem dX7_shabbyAt_36 : decode cX7_shabbyAt 36 = .ok (.iaload, 1) := by decide +kernel
theorem dX7_shabbyAt_37 : decode cX7_shabbyAt 37 = .ok (.if_icmp .ge 37, 3) := by decide +kernel
theorem dX7_shabbyAt_40 : decode cX7_shabbyAt 40 = .ok (.iload_n 3, 1) := by decide +kernel
theorem dX7_shabbyAt_41 : decode cX7_shabbyAt 41 = .ok (.aload_n 0, 1) := by decide +kernel
theorem dX7_shabbyAt_42 : decode cX7_shabbyAt 42 = .ok (.iload 4, 2) := by decide +kernel
theorem dX7_shabbyAt_44 : decode cX7_shabbyAt 44 = .ok (.iconst 1, 1) := by decide +kernel
theorem dX7_shabbyAt_45 : decode cX7_shabbyAt 45 = .ok (.invokevirtual 68, 3) := by decide +kernel
theorem dX7_shabbyAt_48 : decode cX7_shabbyAt 48 = .ok (.ifCond .eq 17, 3) := by decide +kernel
theorem dX7_shabbyAt_51 : decode cX7_shabbyAt 51 = .ok (.aload_n 0, 1) := by decide +kernel
theorem dX7_shabbyAt_52 : decode cX7_shabbyAt 52 = .ok (.iload 4, 2) := by decide +kernel
theorem dX7_shabbyAt_54 : decode cX7_shabbyAt 54 = .ok (.iload_n 2, 1) := by decide +kernel
theorem dX7_shabbyAt_55 : decode cX7_shabbyAt 55 = .ok (.invokevirtual 177, 3) := by decide +kernel
theorem dX7_shabbyAt_58 : decode cX7_shabbyAt 58 = .ok (.ifCond .eq 7, 3) := by decide +kernel
theorem dX7_shabbyAt_61 : decode cX7_shabbyAt 61 = .ok (.iconst 1, 1) := by decide +kernel
theorem dX7_shabbyAt_62 : decode cX7_shabbyAt 62 = .ok (.goto 4, 3) := by decide +kernel
theorem dX7_shabbyAt_65 : decode cX7_shabbyAt 65 = .ok (.iconst 0, 1) := by decide +kernel
theorem dX7_shabbyAt_66 : decode cX7_shabbyAt 66 = .ok (.iadd, 1) := by decide +kernel
theorem dX7_shabbyAt_67 : decode cX7_shabbyAt 67 = .ok (.istore_n 3, 1) := by decide +kernel
theorem dX7_shabbyAt_68 : decode cX7_shabbyAt 68 = .ok (.iinc 4 1, 3) := by decide +kernel
theorem dX7_shabbyAt_71 : decode cX7_shabbyAt 71 = .ok (.goto (-42), 3) := by decide +kernel
theorem dX7_shabbyAt_74 : decode cX7_shabbyAt 74 = .ok (.iload_n 3, 1) := by decide +kernel
theorem dX7_shabbyAt_75 : decode cX7_shabbyAt 75 = .ok (.iload_n 1, 1) := by decide +kernel
theorem dX7_shabbyAt_76 : decode cX7_shabbyAt 76 = .ok (.if_icmp .ne 5, 3) := by decide +kernel
theorem dX7_shabbyAt_79 : decode cX7_shabbyAt 79 = .ok (.iload_n 2, 1) := by decide +kernel
theorem dX7_shabbyAt_80 : decode cX7_shabbyAt 80 = .ok (.ireturn, 1) := by decide +kernel
theorem dX7_shabbyAt_81 : decode cX7_shabbyAt 81 = .ok (.iinc 2 1, 3) := by decide +kernel
theorem dX7_shabbyAt_84 : decode cX7_shabbyAt 84 = .ok (.goto (-82), 3) := by decide +kernel
theorem dX7_shabbyAt_87 : decode cX7_shabbyAt 87 = .ok (.bipush (-11), 2) := by decide +kernel
theorem dX7_shabbyAt_89 : decode cX7_shabbyAt 89 = .ok (.ireturn, 1) := by decide +kernel
theorem dX7_yearBegins_0 : decode cX7_yearBegins 0 = .ok (.aload_n 0, 1) := by decide +kernel
theorem dX7_yearBegins_1 : decode cX7_yearBegins 1 = .ok (.getfield 7, 3) := by decide +kernel
theorem dX7_yearBegins_4 : decode cX7_yearBegins 4 = .ok (.iconst 1, 1) := by decide +kernel
theorem dX7_yearBegins_5 : decode cX7_yearBegins 5 = .ok (.iconst 0, 1) := by decide +kernel
theorem dX7_yearBegins_6 : decode cX7_yearBegins 6 = .ok (.iastore, 1) := by decide +kernel
theorem dX7_yearBegins_7 : decode cX7_yearBegins 7 = .ok (.aload_n 0, 1) := by decide +kernel
theorem dX7_yearBegins_8 : decode cX7_yearBegins 8 = .ok (.getfield 7, 3) := by decide +kernel
theorem dX7_yearBegins_11 : decode cX7_yearBegins 11 = .ok (.iconst 0, 1) := by decide +kernel
theorem dX7_yearBegins_12 : decode cX7_yearBegins 12 = .ok (.dup2, 1) := by decide +kernel
theorem dX7_yearBegins_13 : decode cX7_yearBegins 13 = .ok (.iaload, 1) := by decide +kernel
theorem dX7_yearBegins_14 : decode cX7_yearBegins 14 = .ok (.iconst 1, 1) := by decide +kernel
theorem dX7_yearBegins_15 : decode cX7_yearBegins 15 = .ok (.iadd, 1) := by decide +kernel
theorem dX7_yearBegins_16 : decode cX7_yearBegins 16 = .ok (.iastore, 1) := by decide +kernel
theorem dX7_yearBegins_17 : decode cX7_yearBegins 17 = .ok (.aload_n 0, 1) := by decide +kernel
theorem dX7_yearBegins_18 : decode cX7_yearBegins 18 = .ok (.getfield 7, 3) := by decide +kernel
theorem dX7_yearBegins_21 : decode cX7_yearBegins 21 = .ok (.bipush 8, 2) := by decide +kernel
theorem dX7_yearBegins_23 : decode cX7_yearBegins 23 = .ok (.iconst 0, 1) := by decide +kernel
theorem dX7_yearBegins_24 : decode cX7_yearBegins 24 = .ok (.iastore, 1) := by decide +kernel
theorem dX7_yearBegins_25 : decode cX7_yearBegins 25 = .ok (.iconst 0, 1) := by decide +kernel
theorem dX7_yearBegins_26 : decode cX7_yearBegins 26 = .ok (.istore_n 1, 1) := by decide +kernel
theorem dX7_yearBegins_27 : decode cX7_yearBegins 27 = .ok (.iload_n 1, 1) := by decide +kernel
theorem dX7_yearBegins_28 : decode cX7_yearBegins 28 = .ok (.aload_n 0, 1) := by decide +kernel
theorem dX7_yearBegins_29 : decode cX7_yearBegins 29 = .ok (.getfield 7, 3) := by decide +kernel
theorem dX7_yearBegins_32 : decode cX7_yearBegins 32 = .ok (.iconst 2, 1) := by decide +kernel
theorem dX7_yearBegins_33 : decode cX7_yearBegins 33 = .ok (.iaload, 1) := by decide +kernel
theorem dX7_yearBegins_34 : decode cX7_yearBegins 34 = .ok (.if_icmp .ge 72, 3) := by decide +kernel
theorem dX7_yearBegins_37 : decode cX7_yearBegins 37 = .ok (.aload_n 0, 1) := by decide +kernel
theorem dX7_yearBegins_38 : decode cX7_yearBegins 38 = .ok (.iload_n 1, 1) := by decide +kernel
theorem dX7_yearBegins_39 : decode cX7_yearBegins 39 = .ok (.iconst 0, 1) := by decide +kernel
theorem dX7_yearBegins_40 : decode cX7_yearBegins 40 = .ok (.aload_n 0, 1) := by decide +kernel
theorem dX7_yearBegins_41 : decode cX7_yearBegins 41 = .ok (.iload_n 1, 1) := by decide +kernel
theorem dX7_yearBegins_42 : decode cX7_yearBegins 42 = .ok (.iconst 0, 1) := by decide +kernel
theorem dX7_yearBegins_43 : decode cX7_yearBegins 43 = .ok (.invokevirtual 64, 3) := by decide +kernel
theorem dX7_yearBegins_46 : decode cX7_yearBegins 46 = .ok (.aload_n 0, 1) := by decide +kernel
theorem dX7_yearBegins_47 : decode cX7_yearBegins 47 = .ok (.iload_n 1, 1) := by decide +kernel
theorem dX7_yearBegins_48 : decode cX7_yearBegins 48 = .ok (.iconst 0, 1) := by decide +kernel
theorem dX7_yearBegins_49 : decode cX7_yearBegins 49 = .ok (.invokevirtual 68, 3) := by decide +kernel
theorem dX7_yearBegins_52 : decode cX7_yearBegins 52 = .ok (.ifCond .ne 12, 3) := by decide +kernel
theorem dX7_yearBegins_55 : decode cX7_yearBegins 55 = .ok (.aload_n 0, 1) := by decide +kernel
theorem dX7_yearBegins_56 : decode cX7_yearBegins 56 = .ok (.iload_n 1, 1) := by decide +kernel
theorem dX7_yearBegins_57 : decode cX7_yearBegins 57 = .ok (.iconst 1, 1) := by decide +kernel
theorem dX7_yearBegins_58 : decode cX7_yearBegins 58 = .ok (.invokevirtual 68, 3) := by decide +kernel
theorem dX7_yearBegins_61 : decode cX7_yearBegins 61 = .ok (.ifCond .eq 7, 3) := by decide +kernel
theorem dX7_yearBegins_64 : decode cX7_yearBegins 64 = .ok (.iconst 1, 1) := by decide +kernel
theorem dX7_yearBegins_65 : decode cX7_yearBegins 65 = .ok (.goto 4, 3) := by decide +kernel
theorem dX7_yearBegins_68 : decode cX7_yearBegins 68 = .ok (.iconst 0, 1) := by decide +kernel
theorem dX7_yearBegins_69 : decode cX7_yearBegins 69 = .ok (.iadd, 1) := by decide +kernel
theorem dX7_yearBegins_70 : decode cX7_yearBegins 70 = .ok (.invokevirtual 76, 3) := by decide +kernel
theorem dX7_yearBegins_73 : decode cX7_yearBegins 73 = .ok (.aload_n 0, 1) := by decide +kernel
theorem dX7_yearBegins_74 : decode cX7_yearBegins 74 = .ok (.iload_n 1, 1) := by decide +kernel
theorem dX7_yearBegins_75 : decode cX7_yearBegins 75 = .ok (.iconst 4, 1) := by decide +kernel
theorem dX7_yearBegins_76 : decode cX7_yearBegins 76 = .ok (.aload_n 0, 1) := by decide +kernel
theorem dX7_yearBegins_77 : decode cX7_yearBegins 77 = .ok (.iload_n 1, 1) := by decide +kernel
theorem dX7_yearBegins_78 : decode cX7_yearBegins 78 = .ok (.iconst 4, 1) := by decide +kernel
theorem dX7_yearBegins_79 : decode cX7_yearBegins 79 = .ok (.invokevirtual 64, 3) := by decide +kernel
theorem dX7_yearBegins_82 : decode cX7_yearBegins 82 = .ok (.aload_n 0, 1) := by decide +kernel
theorem dX7_yearBegins_83 : decode cX7_yearBegins 83 = .ok (.iload_n 1, 1) := by decide +kernel
theorem dX7_yearBegins_84 : decode cX7_yearBegins 84 = .ok (.iconst 1, 1) := by decide +kernel
theorem dX7_yearBegins_85 : decode cX7_yearBegins 85 = .ok (.invokevirtual 68, 3) := by decide +kernel
theorem dX7_yearBegins_88 : decode cX7_yearBegins 88 = .ok (.ifCond .eq 7, 3) := by decide +kernel
theorem dX7_yearBegins_91 : decode cX7_yearBegins 91 = .ok (.iconst 1, 1) := by decide +kernel
theorem dX7_yearBegins_92 : decode cX7_yearBegins 92 = .ok (.goto 4, 3) := by decide +kernel
theorem dX7_yearBegins_95 : decode cX7_yearBegins 95 = .ok (.iconst 0, 1) := by decide +kernel
theorem dX7_yearBegins_96 : decode cX7_yearBegins 96 = .ok (.iadd, 1) := by decide +kernel
theorem dX7_yearBegins_97 : decode cX7_yearBegins 97 = .ok (.invokevirtual 76, 3) := by decide +kernel
theorem dX7_yearBegins_100 : decode cX7_yearBegins 100 = .ok (.iinc 1 1, 3) := by decide +kernel
theorem dX7_yearBegins_103 : decode cX7_yearBegins 103 = .ok (.goto (-76), 3) := by decide +kernel
theorem dX7_yearBegins_106 : decode cX7_yearBegins 106 = .ok (.aload_n 0, 1) := by decide +kernel
theorem dX7_yearBegins_107 : decode cX7_yearBegins 107 = .ok (.iconst 0, 1) := by decide +kernel
theorem dX7_yearBegins_108 : decode cX7_yearBegins 108 = .ok (.invokevirtual 180, 3) := by decide +kernel
theorem dX7_yearBegins_111 : decode cX7_yearBegins 111 = .ok (.istore_n 1, 1) := by decide +kernel
theorem dX7_yearBegins_112 : decode cX7_yearBegins 112 = .ok (.iload_n 1, 1) := by decide +kernel
theorem dX7_yearBegins_113 : decode cX7_yearBegins 113 = .ok (.ifCond .lt 74, 3) := by decide +kernel
theorem dX7_yearBegins_116 : decode cX7_yearBegins 116 = .ok (.aload_n 0, 1) := by decide +kernel
theorem dX7_yearBegins_117 : decode cX7_yearBegins 117 = .ok (.iload_n 1, 1) := by decide +kernel
theorem dX7_yearBegins_118 : decode cX7_yearBegins 118 = .ok (.iconst 4, 1) := by decide +kernel
theorem dX7_yearBegins_119 : decode cX7_yearBegins 119 = .ok (.invokevirtual 64, 3) := by decide +kernel
theorem dX7_yearBegins_122 : decode cX7_yearBegins 122 = .ok (.iconst 2, 1) := by decide +kernel
theorem dX7_yearBegins_123 : decode cX7_yearBegins 123 = .ok (.if_icmp .lt 64, 3) := by decide +kernel
theorem dX7_yearBegins_126 : decode cX7_yearBegins 126 = .ok (.aload_n 0, 1) := by decide +kernel
theorem dX7_yearBegins_127 : decode cX7_yearBegins 127 = .ok (.getfield 7, 3) := by decide +kernel
theorem dX7_yearBegins_130 : decode cX7_yearBegins 130 = .ok (.iconst 3, 1) := by decide +kernel
theorem dX7_yearBegins_131 : decode cX7_yearBegins 131 = .ok (.iaload, 1) := by decide +kernel
theorem dX7_yearBegins_132 : decode cX7_yearBegins 132 = .ok (.bipush 8, 2) := by decide +kernel
theorem dX7_yearBegins_134 : decode cX7_yearBegins 134 = .ok (.if_icmp .lt 53, 3) := by decide +kernel
theorem dX7_yearBegins_137 : decode cX7_yearBegins 137 = .ok (.aload_n 0, 1) := by decide +kernel
theorem dX7_yearBegins_138 : decode cX7_yearBegins 138 = .ok (.iload_n 1, 1) := by decide +kernel
theorem dX7_yearBegins_139 : decode cX7_yearBegins 139 = .ok (.iconst 4, 1) := by decide +kernel
theorem dX7_yearBegins_140 : decode cX7_yearBegins 140 = .ok (.iconst 0, 1) := by decide +kernel
theorem dX7_yearBegins_141 : decode cX7_yearBegins 141 = .ok (.invokevirtual 76, 3) := by decide +kernel
theorem dX7_yearBegins_144 : decode cX7_yearBegins 144 = .ok (.aload_n 0, 1) := by decide +kernel
theorem dX7_yearBegins_145 : decode cX7_yearBegins 145 = .ok (.getfield 7, 3) := by decide +kernel
theorem dX7_yearBegins_148 : decode cX7_yearBegins 148 = .ok (.iconst 3, 1) := by decide +kernel
theorem dX7_yearBegins_149 : decode cX7_yearBegins 149 = .ok (.dup2, 1) := by decide +kernel
theorem dX7_yearBegins_150 : decode cX7_yearBegins 150 = .ok (.iaload, 1) := by decide +kernel
theorem dX7_yearBegins_151 : decode cX7_yearBegins 151 = .ok (.bipush 8, 2) := by decide +kernel
theorem dX7_yearBegins_153 : decode cX7_yearBegins 153 = .ok (.isub, 1) := by decide +kernel
theorem dX7_yearBegins_154 : decode cX7_yearBegins 154 = .ok (.iastore, 1) := by decide +kernel
theorem dX7_yearBegins_155 : decode cX7_yearBegins 155 = .ok (.aload_n 0, 1) := by decide +kernel
theorem dX7_yearBegins_156 : decode cX7_yearBegins 156 = .ok (.getfield 7, 3) := by decide +kernel
theorem dX7_yearBegins_159 : decode cX7_yearBegins 159 = .ok (.bipush 6, 2) := by decide +kernel
theorem dX7_yearBegins_161 : decode cX7_yearBegins 161 = .ok (.dup2, 1) := by decide +kernel
theorem dX7_yearBegins_162 : decode cX7_yearBegins 162 = .ok (.iaload, 1) := by decide +kernel
theorem dX7_yearBegins_163 : decode cX7_yearBegins 163 = .ok (.bipush 8, 2) := by decide +kernel
theorem dX7_yearBegins_165 : decode cX7_yearBegins 165 = .ok (.iadd, 1) := by decide +kernel
theorem dX7_yearBegins_166 : decode cX7_yearBegins 166 = .ok (.iastore, 1) := by decide +kernel
theorem dX7_yearBegins_167 : decode cX7_yearBegins 167 = .ok (.aload_n 0, 1) := by decide +kernel
theorem dX7_yearBegins_168 : decode cX7_yearBegins 168 = .ok (.getfield 7, 3) := by decide +kernel
theorem dX7_yearBegins_171 : decode cX7_yearBegins 171 = .ok (.bipush 7, 2) := by decide +kernel
theorem dX7_yearBegins_173 : decode cX7_yearBegins 173 = .ok (.dup2, 1) := by decide +kernel
theorem dX7_yearBegins_174 : decode cX7_yearBegins 174 = .ok (.iaload, 1) := by decide +kernel
theorem dX7_yearBegins_175 : decode cX7_yearBegins 175 = .ok (.iconst 1, 1) := by decide +kernel
theorem dX7_yearBegins_176 : decode cX7_yearBegins 176 = .ok (.iadd, 1) := by decide +kernel
theorem dX7_yearBegins_177 : decode cX7_yearBegins 177 = .ok (.iastore, 1) := by decide +kernel
theorem dX7_yearBegins_178 : decode cX7_yearBegins 178 = .ok (.aload_n 0, 1) := by decide +kernel
theorem dX7_yearBegins_179 : decode cX7_yearBegins 179 = .ok (.iconst 0, 1) := by decide +kernel
theorem dX7_yearBegins_180 : decode cX7_yearBegins 180 = .ok (.invokevirtual 180, 3) := by decide +kernel
theorem dX7_yearBegins_183 : decode cX7_yearBegins 183 = .ok (.istore_n 1, 1) := by decide +kernel
theorem dX7_yearBegins_184 : decode cX7_yearBegins 184 = .ok (.goto (-72), 3) := by decide +kernel
theorem dX7_yearBegins_187 : decode cX7_yearBegins 187 = .ok (.return_, 1) := by decide +kernel
theorem dX7_weekGoes_0 : decode cX7_weekGoes 0 = .ok (.aload_n 0, 1) := by decide +kernel
theorem dX7_weekGoes_1 : decode cX7_weekGoes 1 = .ok (.invokevirtual 183, 3) := by decide +kernel
theorem dX7_weekGoes_4 : decode cX7_weekGoes 4 = .ok (.istore_n 1, 1) := by decide +kernel
theorem dX7_weekGoes_5 : decode cX7_weekGoes 5 = .ok (.iconst 0, 1) := by decide +kernel
theorem dX7_weekGoes_6 : decode cX7_weekGoes 6 = .ok (.istore_n 2, 1) := by decide +kernel
theorem dX7_weekGoes_7 : decode cX7_weekGoes 7 = .ok (.iload_n 2, 1) := by decide +kernel
theorem dX7_weekGoes_8 : decode cX7_weekGoes 8 = .ok (.aload_n 0, 1) := by decide +kernel
theorem dX7_weekGoes_9 : decode cX7_weekGoes 9 = .ok (.getfield 7, 3) := by decide +kernel
theorem dX7_weekGoes_12 : decode cX7_weekGoes 12 = .ok (.iconst 2, 1) := by decide +kernel
theorem dX7_weekGoes_13 : decode cX7_weekGoes 13 = .ok (.iaload, 1) := by decide +kernel
theorem dX7_weekGoes_14 : decode cX7_weekGoes 14 = .ok (.if_icmp .ge 36, 3) := by decide +kernel
theorem dX7_weekGoes_17 : decode cX7_weekGoes 17 = .ok (.aload_n 0, 1) := by decide +kernel
theorem dX7_weekGoes_18 : decode cX7_weekGoes 18 = .ok (.iload_n 2, 1) := by decide +kernel
theorem dX7_weekGoes_19 : decode cX7_weekGoes 19 = .ok (.iconst 5, 1) := by decide +kernel
theorem dX7_weekGoes_20 : decode cX7_weekGoes 20 = .ok (.aload_n 0, 1) := by decide +kernel
theorem dX7_weekGoes_21 : decode cX7_weekGoes 21 = .ok (.iload_n 2, 1) := by decide +kernel
theorem dX7_weekGoes_22 : decode cX7_weekGoes 22 = .ok (.iconst 5, 1) := by decide +kernel
theorem dX7_weekGoes_23 : decode cX7_weekGoes 23 = .ok (.invokevirtual 64, 3) := by decide +kernel
theorem dX7_weekGoes_26 : decode cX7_weekGoes 26 = .ok (.ifCond .le 14, 3) := by decide +kernel
theorem dX7_weekGoes_29 : decode cX7_weekGoes 29 = .ok (.aload_n 0, 1) := by decide +kernel
theorem dX7_weekGoes_30 : decode cX7_weekGoes 30 = .ok (.iload_n 2, 1) := by decide +kernel
theorem dX7_weekGoes_31 : decode cX7_weekGoes 31 = .ok (.iconst 5, 1) := by decide +kernel
theorem dX7_weekGoes_32 : decode cX7_weekGoes 32 = .ok (.invokevirtual 64, 3) := by decide +kernel
theorem dX7_weekGoes_35 : decode cX7_weekGoes 35 = .ok (.iconst 1, 1) := by decide +kernel
theorem dX7_weekGoes_36 : decode cX7_weekGoes 36 = .ok (.isub, 1) := by decide +kernel
theorem dX7_weekGoes_37 : decode cX7_weekGoes 37 = .ok (.goto 4, 3) := by decide +kernel
theorem dX7_weekGoes_40 : decode cX7_weekGoes 40 = .ok (.iconst 0, 1) := by decide +kernel
theorem dX7_weekGoes_41 : decode cX7_weekGoes 41 = .ok (.invokevirtual 76, 3) := by decide +kernel
theorem dX7_weekGoes_44 : decode cX7_weekGoes 44 = .ok (.iinc 2 1, 3) := by decide +kernel
theorem dX7_weekGoes_47 : decode cX7_weekGoes 47 = .ok (.goto (-40), 3) := by decide +kernel
theorem dX7_weekGoes_50 : decode cX7_weekGoes 50 = .ok (.iconst 0, 1) := by decide +kernel
theorem dX7_weekGoes_51 : decode cX7_weekGoes 51 = .ok (.istore_n 2, 1) := by decide +kernel
theorem dX7_weekGoes_52 : decode cX7_weekGoes 52 = .ok (.iload_n 2, 1) := by decide +kernel
theorem dX7_weekGoes_53 : decode cX7_weekGoes 53 = .ok (.bipush 8, 2) := by decide +kernel
theorem dX7_weekGoes_55 : decode cX7_weekGoes 55 = .ok (.if_icmp .ge 22, 3) := by decide +kernel
theorem dX7_weekGoes_58 : decode cX7_weekGoes 58 = .ok (.aload_n 0, 1) := by decide +kernel
theorem dX7_weekGoes_59 : decode cX7_weekGoes 59 = .ok (.iload_n 2, 1) := by decide +kernel
theorem dX7_weekGoes_60 : decode cX7_weekGoes 60 = .ok (.invokevirtual 122, 3) := by decide +kernel
theorem dX7_weekGoes_63 : decode cX7_weekGoes 63 = .ok (.ifCond .ge 8, 3) := by decide +kernel
theorem dX7_weekGoes_66 : decode cX7_weekGoes 66 = .ok (.aload_n 0, 1) := by decide +kernel
theorem dX7_weekGoes_67 : decode cX7_weekGoes 67 = .ok (.iconst 2, 1) := by decide +kernel
theorem dX7_weekGoes_68 : decode cX7_weekGoes 68 = .ok (.invokevirtual 161, 3) := by decide +kernel
theorem dX7_weekGoes_71 : decode cX7_weekGoes 71 = .ok (.iinc 2 1, 3) := by decide +kernel
theorem dX7_weekGoes_74 : decode cX7_weekGoes 74 = .ok (.goto (-22), 3) := by decide +kernel
theorem dX7_weekGoes_77 : decode cX7_weekGoes 77 = .ok (.aload_n 0, 1) := by decide +kernel
theorem dX7_weekGoes_78 : decode cX7_weekGoes 78 = .ok (.getfield 7, 3) := by decide +kernel
theorem dX7_weekGoes_81 : decode cX7_weekGoes 81 = .ok (.iconst 1, 1) := by decide +kernel
theorem dX7_weekGoes_82 : decode cX7_weekGoes 82 = .ok (.dup2, 1) := by decide +kernel
theorem dX7_weekGoes_83 : decode cX7_weekGoes 83 = .ok (.iaload, 1) := by decide +kernel
theorem dX7_weekGoes_84 : decode cX7_weekGoes 84 = .ok (.iconst 1, 1) := by decide +kernel
theorem dX7_weekGoes_85 : decode cX7_weekGoes 85 = .ok (.iadd, 1) := by decide +kernel
theorem dX7_weekGoes_86 : decode cX7_weekGoes 86 = .ok (.iastore, 1) := by decide +kernel
theorem dX7_weekGoes_87 : decode cX7_weekGoes 87 = .ok (.aload_n 0, 1) := by decide +kernel
theorem dX7_weekGoes_88 : decode cX7_weekGoes 88 = .ok (.getfield 7, 3) := by decide +kernel
theorem dX7_weekGoes_91 : decode cX7_weekGoes 91 = .ok (.iconst 1, 1) := by decide +kernel
theorem dX7_weekGoes_92 : decode cX7_weekGoes 92 = .ok (.iaload, 1) := by decide +kernel
theorem dX7_weekGoes_93 : decode cX7_weekGoes 93 = .ok (.bipush 52, 2) := by decide +kernel
theorem dX7_weekGoes_95 : decode cX7_weekGoes 95 = .ok (.if_icmp .ne 7, 3) := by decide +kernel
theorem dX7_weekGoes_98 : decode cX7_weekGoes 98 = .ok (.aload_n 0, 1) := by decide +kernel
theorem dX7_weekGoes_99 : decode cX7_weekGoes 99 = .ok (.invokevirtual 186, 3) := by decide +kernel
theorem dX7_weekGoes_102 : decode cX7_weekGoes 102 = .ok (.iload_n 1, 1) := by decide +kernel
theorem dX7_weekGoes_103 : decode cX7_weekGoes 103 = .ok (.ireturn, 1) := by decide +kernel
theorem dX7_weeksGo_0 : decode cX7_weeksGo 0 = .ok (.iconst 0, 1) := by decide +kernel
theorem dX7_weeksGo_1 : decode cX7_weeksGo 1 = .ok (.istore_n 2, 1) := by decide +kernel
theorem dX7_weeksGo_2 : decode cX7_weeksGo 2 = .ok (.iconst 0, 1) := by decide +kernel
theorem dX7_weeksGo_3 : decode cX7_weeksGo 3 = .ok (.istore_n 3, 1) := by decide +kernel
theorem dX7_weeksGo_4 : decode cX7_weeksGo 4 = .ok (.iload_n 3, 1) := by decide +kernel
theorem dX7_weeksGo_5 : decode cX7_weeksGo 5 = .ok (.iload_n 1, 1) := by decide +kernel
theorem dX7_weeksGo_6 : decode cX7_weeksGo 6 = .ok (.if_icmp .ge 16, 3) := by decide +kernel
theorem dX7_weeksGo_9 : decode cX7_weeksGo 9 = .ok (.iload_n 2, 1) := by decide +kernel
theorem dX7_weeksGo_10 : decode cX7_weeksGo 10 = .ok (.aload_n 0, 1) := by decide +kernel
theorem dX7_weeksGo_11 : decode cX7_weeksGo 11 = .ok (.invokevirtual 189, 3) := by decide +kernel
theorem dX7_weeksGo_14 : decode cX7_weeksGo 14 = .ok (.iadd, 1) := by decide +kernel
theorem dX7_weeksGo_15 : decode cX7_weeksGo 15 = .ok (.istore_n 2, 1) := by decide +kernel
theorem dX7_weeksGo_16 : decode cX7_weeksGo 16 = .ok (.iinc 3 1, 3) := by decide +kernel
theorem dX7_weeksGo_19 : decode cX7_weeksGo 19 = .ok (.goto (-15), 3) := by decide +kernel
theorem dX7_weeksGo_22 : decode cX7_weeksGo 22 = .ok (.iload_n 2, 1) := by decide +kernel
theorem dX7_weeksGo_23 : decode cX7_weeksGo 23 = .ok (.ireturn, 1) := by decide +kernel
theorem dX7_weeks_0 : decode cX7_weeks 0 = .ok (.iload_n 1, 1) := by decide +kernel
theorem dX7_weeks_1 : decode cX7_weeks 1 = .ok (.iconst 1, 1) := by decide +kernel
theorem dX7_weeks_2 : decode cX7_weeks 2 = .ok (.bipush 60, 2) := by decide +kernel
theorem dX7_weeks_4 : decode cX7_weeks 4 = .ok (.invokestatic 60, 3) := by decide +kernel
theorem dX7_weeks_7 : decode cX7_weeks 7 = .ok (.ifCond .ne 6, 3) := by decide +kernel
theorem dX7_weeks_10 : decode cX7_weeks 10 = .ok (.bipush (-12), 2) := by decide +kernel
theorem dX7_weeks_12 : decode cX7_weeks 12 = .ok (.ireturn, 1) := by decide +kernel
theorem dX7_weeks_13 : decode cX7_weeks 13 = .ok (.aload_n 0, 1) := by decide +kernel
theorem dX7_weeks_14 : decode cX7_weeks 14 = .ok (.invokevirtual 90, 3) := by decide +kernel
theorem dX7_weeks_17 : decode cX7_weeks 17 = .ok (.aload_n 0, 1) := by decide +kernel
theorem dX7_weeks_18 : decode cX7_weeks 18 = .ok (.iload_n 1, 1) := by decide +kernel
theorem dX7_weeks_19 : decode cX7_weeks 19 = .ok (.invokevirtual 192, 3) := by decide +kernel
theorem dX7_weeks_22 : decode cX7_weeks 22 = .ok (.ireturn, 1) := by decide +kernel
theorem dX7_wouldGet_0 : decode cX7_wouldGet 0 = .ok (.aload_n 0, 1) := by decide +kernel
theorem dX7_wouldGet_1 : decode cX7_wouldGet 1 = .ok (.iload_n 1, 1) := by decide +kernel
theorem dX7_wouldGet_2 : decode cX7_wouldGet 2 = .ok (.invokevirtual 96, 3) := by decide +kernel
theorem dX7_wouldGet_5 : decode cX7_wouldGet 5 = .ok (.ifCond .ne 6, 3) := by decide +kernel
theorem dX7_wouldGet_8 : decode cX7_wouldGet 8 = .ok (.bipush (-11), 2) := by decide +kernel
theorem dX7_wouldGet_10 : decode cX7_wouldGet 10 = .ok (.ireturn, 1) := by decide +kernel
theorem dX7_wouldGet_11 : decode cX7_wouldGet 11 = .ok (.iload_n 2, 1) := by decide +kernel
theorem dX7_wouldGet_12 : decode cX7_wouldGet 12 = .ok (.iconst 0, 1) := by decide +kernel
theorem dX7_wouldGet_13 : decode cX7_wouldGet 13 = .ok (.bipush 60, 2) := by decide +kernel
theorem dX7_wouldGet_15 : decode cX7_wouldGet 15 = .ok (.invokestatic 60, 3) := by decide +kernel
theorem dX7_wouldGet_18 : decode cX7_wouldGet 18 = .ok (.ifCond .ne 6, 3) := by decide +kernel
theorem dX7_wouldGet_21 : decode cX7_wouldGet 21 = .ok (.bipush (-12), 2) := by decide +kernel
theorem dX7_wouldGet_23 : decode cX7_wouldGet 23 = .ok (.ireturn, 1) := by decide +kernel
theorem dX7_wouldGet_24 : decode cX7_wouldGet 24 = .ok (.aload_n 0, 1) := by decide +kernel
theorem dX7_wouldGet_25 : decode cX7_wouldGet 25 = .ok (.invokevirtual 54, 3) := by decide +kernel
theorem dX7_wouldGet_28 : decode cX7_wouldGet 28 = .ok (.aload_n 0, 1) := by decide +kernel
theorem dX7_wouldGet_29 : decode cX7_wouldGet 29 = .ok (.iload_n 1, 1) := by decide +kernel
theorem dX7_wouldGet_30 : decode cX7_wouldGet 30 = .ok (.bipush 6, 2) := by decide +kernel
theorem dX7_wouldGet_32 : decode cX7_wouldGet 32 = .ok (.invokevirtual 64, 3) := by decide +kernel
theorem dX7_wouldGet_35 : decode cX7_wouldGet 35 = .ok (.istore_n 3, 1) := by decide +kernel
theorem dX7_wouldGet_36 : decode cX7_wouldGet 36 = .ok (.aload_n 0, 1) := by decide +kernel
theorem dX7_wouldGet_37 : decode cX7_wouldGet 37 = .ok (.iload_n 2, 1) := by decide +kernel
theorem dX7_wouldGet_38 : decode cX7_wouldGet 38 = .ok (.invokevirtual 192, 3) := by decide +kernel
theorem dX7_wouldGet_41 : decode cX7_wouldGet 41 = .ok (.pop, 1) := by decide +kernel
theorem dX7_wouldGet_42 : decode cX7_wouldGet 42 = .ok (.aload_n 0, 1) := by decide +kernel
theorem dX7_wouldGet_43 : decode cX7_wouldGet 43 = .ok (.iload_n 1, 1) := by decide +kernel
theorem dX7_wouldGet_44 : decode cX7_wouldGet 44 = .ok (.bipush 6, 2) := by decide +kernel
theorem dX7_wouldGet_46 : decode cX7_wouldGet 46 = .ok (.invokevirtual 64, 3) := by decide +kernel
theorem dX7_wouldGet_49 : decode cX7_wouldGet 49 = .ok (.iload_n 3, 1) := by decide +kernel
theorem dX7_wouldGet_50 : decode cX7_wouldGet 50 = .ok (.isub, 1) := by decide +kernel
theorem dX7_wouldGet_51 : decode cX7_wouldGet 51 = .ok (.istore 4, 2) := by decide +kernel
theorem dX7_wouldGet_53 : decode cX7_wouldGet 53 = .ok (.aload_n 0, 1) := by decide +kernel
theorem dX7_wouldGet_54 : decode cX7_wouldGet 54 = .ok (.invokevirtual 195, 3) := by decide +kernel
theorem dX7_wouldGet_57 : decode cX7_wouldGet 57 = .ok (.iload 4, 2) := by decide +kernel
theorem dX7_wouldGet_59 : decode cX7_wouldGet 59 = .ok (.ireturn, 1) := by decide +kernel
theorem dX7_chestIn_0 : decode cX7_chestIn 0 = .ok (.iload_n 1, 1) := by decide +kernel
theorem dX7_chestIn_1 : decode cX7_chestIn 1 = .ok (.iconst 0, 1) := by decide +kernel
theorem dX7_chestIn_2 : decode cX7_chestIn 2 = .ok (.bipush 60, 2) := by decide +kernel
theorem dX7_chestIn_4 : decode cX7_chestIn 4 = .ok (.invokestatic 60, 3) := by decide +kernel
theorem dX7_chestIn_7 : decode cX7_chestIn 7 = .ok (.ifCond .ne 6, 3) := by decide +kernel
theorem dX7_chestIn_10 : decode cX7_chestIn 10 = .ok (.bipush (-12), 2) := by decide +kernel
theorem dX7_chestIn_12 : decode cX7_chestIn 12 = .ok (.ireturn, 1) := by decide +kernel
theorem dX7_chestIn_13 : decode cX7_chestIn 13 = .ok (.aload_n 0, 1) := by decide +kernel
theorem dX7_chestIn_14 : decode cX7_chestIn 14 = .ok (.invokevirtual 54, 3) := by decide +kernel
theorem dX7_chestIn_17 : decode cX7_chestIn 17 = .ok (.aload_n 0, 1) := by decide +kernel
theorem dX7_chestIn_18 : decode cX7_chestIn 18 = .ok (.iload_n 1, 1) := by decide +kernel
theorem dX7_chestIn_19 : decode cX7_chestIn 19 = .ok (.invokevirtual 192, 3) := by decide +kernel
theorem dX7_chestIn_22 : decode cX7_chestIn 22 = .ok (.pop, 1) := by decide +kernel
theorem dX7_chestIn_23 : decode cX7_chestIn 23 = .ok (.aload_n 0, 1) := by decide +kernel
theorem dX7_chestIn_24 : decode cX7_chestIn 24 = .ok (.getfield 7, 3) := by decide +kernel
theorem dX7_chestIn_27 : decode cX7_chestIn 27 = .ok (.iconst 3, 1) := by decide +kernel
theorem dX7_chestIn_28 : decode cX7_chestIn 28 = .ok (.iaload, 1) := by decide +kernel
theorem dX7_chestIn_29 : decode cX7_chestIn 29 = .ok (.istore_n 2, 1) := by decide +kernel
theorem dX7_chestIn_30 : decode cX7_chestIn 30 = .ok (.aload_n 0, 1) := by decide +kernel
theorem dX7_chestIn_31 : decode cX7_chestIn 31 = .ok (.invokevirtual 195, 3) := by decide +kernel
theorem dX7_chestIn_34 : decode cX7_chestIn 34 = .ok (.iload_n 2, 1) := by decide +kernel
theorem dX7_chestIn_35 : decode cX7_chestIn 35 = .ok (.ireturn, 1) := by decide +kernel
theorem dX7_placeInLine_0 : decode cX7_placeInLine 0 = .ok (.iconst 0, 1) := by decide +kernel
theorem dX7_placeInLine_1 : decode cX7_placeInLine 1 = .ok (.istore_n 2, 1) := by decide +kernel
theorem dX7_placeInLine_2 : decode cX7_placeInLine 2 = .ok (.iconst 0, 1) := by decide +kernel
theorem dX7_placeInLine_3 : decode cX7_placeInLine 3 = .ok (.istore_n 3, 1) := by decide +kernel
theorem dX7_placeInLine_4 : decode cX7_placeInLine 4 = .ok (.iload_n 3, 1) := by decide +kernel
theorem dX7_placeInLine_5 : decode cX7_placeInLine 5 = .ok (.aload_n 0, 1) := by decide +kernel
theorem dX7_placeInLine_6 : decode cX7_placeInLine 6 = .ok (.getfield 7, 3) := by decide +kernel
theorem dX7_placeInLine_9 : decode cX7_placeInLine 9 = .ok (.iconst 2, 1) := by decide +kernel
theorem dX7_placeInLine_10 : decode cX7_placeInLine 10 = .ok (.iaload, 1) := by decide +kernel
theorem dX7_placeInLine_11 : decode cX7_placeInLine 11 = .ok (.if_icmp .ge 43, 3) := by decide +kernel
theorem dX7_placeInLine_14 : decode cX7_placeInLine 14 = .ok (.iload_n 2, 1) := by decide +kernel
theorem dX7_placeInLine_15 : decode cX7_placeInLine 15 = .ok (.aload_n 0, 1) := by decide +kernel
theorem dX7_placeInLine_16 : decode cX7_placeInLine 16 = .ok (.iload_n 3, 1) := by decide +kernel
theorem dX7_placeInLine_17 : decode cX7_placeInLine 17 = .ok (.iconst 0, 1) := by decide +kernel
theorem dX7_placeInLine_18 : decode cX7_placeInLine 18 = .ok (.invokevirtual 68, 3) := by decide +kernel
theorem dX7_placeInLine_21 : decode cX7_placeInLine 21 = .ok (.ifCond .eq 24, 3) := by decide +kernel
theorem dX7_placeInLine_24 : decode cX7_placeInLine 24 = .ok (.aload_n 0, 1) := by decide +kernel
theorem dX7_placeInLine_25 : decode cX7_placeInLine 25 = .ok (.iload_n 3, 1) := by decide +kernel
theorem dX7_placeInLine_26 : decode cX7_placeInLine 26 = .ok (.bipush 8, 2) := by decide +kernel
theorem dX7_placeInLine_28 : decode cX7_placeInLine 28 = .ok (.invokevirtual 64, 3) := by decide +kernel
theorem dX7_placeInLine_31 : decode cX7_placeInLine 31 = .ok (.aload_n 0, 1) := by decide +kernel
theorem dX7_placeInLine_32 : decode cX7_placeInLine 32 = .ok (.iload_n 1, 1) := by decide +kernel
theorem dX7_placeInLine_33 : decode cX7_placeInLine 33 = .ok (.bipush 8, 2) := by decide +kernel
theorem dX7_placeInLine_35 : decode cX7_placeInLine 35 = .ok (.invokevirtual 64, 3) := by decide +kernel
theorem dX7_placeInLine_38 : decode cX7_placeInLine 38 = .ok (.if_icmp .ge 7, 3) := by decide +kernel
theorem dX7_placeInLine_41 : decode cX7_placeInLine 41 = .ok (.iconst 1, 1) := by decide +kernel
theorem dX7_placeInLine_42 : decode cX7_placeInLine 42 = .ok (.goto 4, 3) := by decide +kernel
theorem dX7_placeInLine_45 : decode cX7_placeInLine 45 = .ok (.iconst 0, 1) := by decide +kernel
theorem dX7_placeInLine_46 : decode cX7_placeInLine 46 = .ok (.iadd, 1) := by decide +kernel
theorem dX7_placeInLine_47 : decode cX7_placeInLine 47 = .ok (.istore_n 2, 1) := by decide +kernel
theorem dX7_placeInLine_48 : decode cX7_placeInLine 48 = .ok (.iinc 3 1, 3) := by decide +kernel
theorem dX7_placeInLine_51 : decode cX7_placeInLine 51 = .ok (.goto (-47), 3) := by decide +kernel
theorem dX7_placeInLine_54 : decode cX7_placeInLine 54 = .ok (.iload_n 2, 1) := by decide +kernel
theorem dX7_placeInLine_55 : decode cX7_placeInLine 55 = .ok (.ireturn, 1) := by decide +kernel
theorem dX7_brokeAll_0 : decode cX7_brokeAll 0 = .ok (.iconst 0, 1) := by decide +kernel
theorem dX7_brokeAll_1 : decode cX7_brokeAll 1 = .ok (.istore_n 2, 1) := by decide +kernel
theorem dX7_brokeAll_2 : decode cX7_brokeAll 2 = .ok (.iconst 0, 1) := by decide +kernel
theorem dX7_brokeAll_3 : decode cX7_brokeAll 3 = .ok (.istore_n 3, 1) := by decide +kernel
theorem dX7_brokeAll_4 : decode cX7_brokeAll 4 = .ok (.iload_n 3, 1) := by decide +kernel
theorem dX7_brokeAll_5 : decode cX7_brokeAll 5 = .ok (.iconst 5, 1) := by decide +kernel
theorem dX7_brokeAll_6 : decode cX7_brokeAll 6 = .ok (.if_icmp .ge 21, 3) := by decide +kernel
theorem dX7_brokeAll_9 : decode cX7_brokeAll 9 = .ok (.iload_n 2, 1) := by decide +kernel
theorem dX7_brokeAll_10 : decode cX7_brokeAll 10 = .ok (.aload_n 0, 1) := by decide +kernel
theorem dX7_brokeAll_11 : decode cX7_brokeAll 11 = .ok (.iload_n 1, 1) := by decide +kernel
theorem dX7_brokeAll_12 : decode cX7_brokeAll 12 = .ok (.bipush 9, 2) := by decide +kernel
theorem dX7_brokeAll_14 : decode cX7_brokeAll 14 = .ok (.iload_n 3, 1) := by decide +kernel
theorem dX7_brokeAll_15 : decode cX7_brokeAll 15 = .ok (.iadd, 1) := by decide +kernel
theorem dX7_brokeAll_16 : decode cX7_brokeAll 16 = .ok (.invokevirtual 64, 3) := by decide +kernel
theorem dX7_brokeAll_19 : decode cX7_brokeAll 19 = .ok (.iadd, 1) := by decide +kernel
theorem dX7_brokeAll_20 : decode cX7_brokeAll 20 = .ok (.istore_n 2, 1) := by decide +kernel
theorem dX7_brokeAll_21 : decode cX7_brokeAll 21 = .ok (.iinc 3 1, 3) := by decide +kernel
theorem dX7_brokeAll_24 : decode cX7_brokeAll 24 = .ok (.goto (-20), 3) := by decide +kernel
theorem dX7_brokeAll_27 : decode cX7_brokeAll 27 = .ok (.iload_n 2, 1) := by decide +kernel
theorem dX7_brokeAll_28 : decode cX7_brokeAll 28 = .ok (.ireturn, 1) := by decide +kernel
theorem dX7_brotherOf_0 : decode cX7_brotherOf 0 = .ok (.aload_n 0, 1) := by decide +kernel
theorem dX7_brotherOf_1 : decode cX7_brotherOf 1 = .ok (.iload_n 1, 1) := by decide +kernel
theorem dX7_brotherOf_2 : decode cX7_brotherOf 2 = .ok (.invokevirtual 96, 3) := by decide +kernel
theorem dX7_brotherOf_5 : decode cX7_brotherOf 5 = .ok (.ifCond .ne 6, 3) := by decide +kernel
theorem dX7_brotherOf_8 : decode cX7_brotherOf 8 = .ok (.bipush (-11), 2) := by decide +kernel
theorem dX7_brotherOf_10 : decode cX7_brotherOf 10 = .ok (.ireturn, 1) := by decide +kernel
theorem dX7_brotherOf_11 : decode cX7_brotherOf 11 = .ok (.iload_n 2, 1) := by decide +kernel
theorem dX7_brotherOf_12 : decode cX7_brotherOf 12 = .ok (.tableswitch 142 0 9 #[56, 56, 56, 63, 63, 84, 84, 91, 97, 122], 56) := by decide +kernel
theorem dX7_brotherOf_68 : decode cX7_brotherOf 68 = .ok (.aload_n 0, 1) := by decide +kernel
theorem dX7_brotherOf_69 : decode cX7_brotherOf 69 = .ok (.iload_n 1, 1) := by decide +kernel
theorem dX7_brotherOf_70 : decode cX7_brotherOf 70 = .ok (.iload_n 2, 1) := by decide +kernel
theorem dX7_brotherOf_71 : decode cX7_brotherOf 71 = .ok (.invokevirtual 64, 3) := by decide +kernel
theorem dX7_brotherOf_74 : decode cX7_brotherOf 74 = .ok (.ireturn, 1) := by decide +kernel
theorem dX7_brotherOf_75 : decode cX7_brotherOf 75 = .ok (.aload_n 0, 1) := by decide +kernel
theorem dX7_brotherOf_76 : decode cX7_brotherOf 76 = .ok (.iload_n 1, 1) := by decide +kernel
theorem dX7_brotherOf_77 : decode cX7_brotherOf 77 = .ok (.iconst 1, 1) := by decide +kernel
theorem dX7_brotherOf_78 : decode cX7_brotherOf 78 = .ok (.invokevirtual 68, 3) := by decide +kernel
theorem dX7_brotherOf_81 : decode cX7_brotherOf 81 = .ok (.ifCond .eq 12, 3) := by decide +kernel
theorem dX7_brotherOf_84 : decode cX7_brotherOf 84 = .ok (.aload_n 0, 1) := by decide +kernel
theorem dX7_brotherOf_85 : decode cX7_brotherOf 85 = .ok (.iload_n 1, 1) := by decide +kernel
theorem dX7_brotherOf_86 : decode cX7_brotherOf 86 = .ok (.iload_n 2, 1) := by decide +kernel
theorem dX7_brotherOf_87 : decode cX7_brotherOf 87 = .ok (.invokevirtual 64, 3) := by decide +kernel
theorem dX7_brotherOf_90 : decode cX7_brotherOf 90 = .ok (.goto 5, 3) := by decide +kernel
theorem dX7_brotherOf_93 : decode cX7_brotherOf 93 = .ok (.bipush (-15), 2) := by decide +kernel
theorem dX7_brotherOf_95 : decode cX7_brotherOf 95 = .ok (.ireturn, 1) := by decide +kernel
theorem dX7_brotherOf_96 : decode cX7_brotherOf 96 = .ok (.aload_n 0, 1) := by decide +kernel
theorem dX7_brotherOf_97 : decode cX7_brotherOf 97 = .ok (.iload_n 1, 1) := by decide +kernel
theorem dX7_brotherOf_98 : decode cX7_brotherOf 98 = .ok (.iload_n 2, 1) := by decide +kernel
theorem dX7_brotherOf_99 : decode cX7_brotherOf 99 = .ok (.invokevirtual 64, 3) := by decide +kernel
theorem dX7_brotherOf_102 : decode cX7_brotherOf 102 = .ok (.ireturn, 1) := by decide +kernel
theorem dX7_brotherOf_103 : decode cX7_brotherOf 103 = .ok (.aload_n 0, 1) := by decide +kernel
theorem dX7_brotherOf_104 : decode cX7_brotherOf 104 = .ok (.iload_n 1, 1) := by decide +kernel
theorem dX7_brotherOf_105 : decode cX7_brotherOf 105 = .ok (.invokevirtual 198, 3) := by decide +kernel
theorem dX7_brotherOf_108 : decode cX7_brotherOf 108 = .ok (.ireturn, 1) := by decide +kernel
theorem dX7_brotherOf_109 : decode cX7_brotherOf 109 = .ok (.aload_n 0, 1) := by decide +kernel
theorem dX7_brotherOf_110 : decode cX7_brotherOf 110 = .ok (.iload_n 1, 1) := by decide +kernel
theorem dX7_brotherOf_111 : decode cX7_brotherOf 111 = .ok (.bipush 7, 2) := by decide +kernel
theorem dX7_brotherOf_113 : decode cX7_brotherOf 113 = .ok (.invokevirtual 64, 3) := by decide +kernel
theorem dX7_brotherOf_116 : decode cX7_brotherOf 116 = .ok (.ifCond .ne 8, 3) := by decide +kernel
theorem dX7_brotherOf_119 : decode cX7_brotherOf 119 = .ok (.bipush (-15), 2) := by decide +kernel
theorem dX7_brotherOf_121 : decode cX7_brotherOf 121 = .ok (.goto 12, 3) := by decide +kernel
theorem dX7_brotherOf_124 : decode cX7_brotherOf 124 = .ok (.aload_n 0, 1) := by decide +kernel
theorem dX7_brotherOf_125 : decode cX7_brotherOf 125 = .ok (.iload_n 1, 1) := by decide +kernel
theorem dX7_brotherOf_126 : decode cX7_brotherOf 126 = .ok (.bipush 7, 2) := by decide +kernel
theorem dX7_brotherOf_128 : decode cX7_brotherOf 128 = .ok (.invokevirtual 64, 3) := by decide +kernel
theorem dX7_brotherOf_131 : decode cX7_brotherOf 131 = .ok (.iconst 1, 1) := by decide +kernel
theorem dX7_brotherOf_132 : decode cX7_brotherOf 132 = .ok (.isub, 1) := by decide +kernel
theorem dX7_brotherOf_133 : decode cX7_brotherOf 133 = .ok (.ireturn, 1) := by decide +kernel
theorem dX7_brotherOf_134 : decode cX7_brotherOf 134 = .ok (.aload_n 0, 1) := by decide +kernel
theorem dX7_brotherOf_135 : decode cX7_brotherOf 135 = .ok (.iload_n 1, 1) := by decide +kernel
theorem dX7_brotherOf_136 : decode cX7_brotherOf 136 = .ok (.iconst 0, 1) := by decide +kernel
theorem dX7_brotherOf_137 : decode cX7_brotherOf 137 = .ok (.invokevirtual 68, 3) := by decide +kernel
theorem dX7_brotherOf_140 : decode cX7_brotherOf 140 = .ok (.ifCond .eq 11, 3) := by decide +kernel
theorem dX7_brotherOf_143 : decode cX7_brotherOf 143 = .ok (.aload_n 0, 1) := by decide +kernel
theorem dX7_brotherOf_144 : decode cX7_brotherOf 144 = .ok (.iload_n 1, 1) := by decide +kernel
theorem dX7_brotherOf_145 : decode cX7_brotherOf 145 = .ok (.invokevirtual 201, 3) := by decide +kernel
theorem dX7_brotherOf_148 : decode cX7_brotherOf 148 = .ok (.goto 5, 3) := by decide +kernel
theorem dX7_brotherOf_151 : decode cX7_brotherOf 151 = .ok (.bipush (-15), 2) := by decide +kernel
theorem dX7_brotherOf_153 : decode cX7_brotherOf 153 = .ok (.ireturn, 1) := by decide +kernel
theorem dX7_brotherOf_154 : decode cX7_brotherOf 154 = .ok (.bipush (-12), 2) := by decide +kernel
theorem dX7_brotherOf_156 : decode cX7_brotherOf 156 = .ok (.ireturn, 1) := by decide +kernel
theorem dX7_broke_0 : decode cX7_broke 0 = .ok (.aload_n 0, 1) := by decide +kernel
theorem dX7_broke_1 : decode cX7_broke 1 = .ok (.iload_n 1, 1) := by decide +kernel
theorem dX7_broke_2 : decode cX7_broke 2 = .ok (.invokevirtual 96, 3) := by decide +kernel
theorem dX7_broke_5 : decode cX7_broke 5 = .ok (.ifCond .eq 24, 3) := by decide +kernel
theorem dX7_broke_8 : decode cX7_broke 8 = .ok (.iload_n 2, 1) := by decide +kernel
theorem dX7_broke_9 : decode cX7_broke 9 = .ok (.iconst 0, 1) := by decide +kernel
theorem dX7_broke_10 : decode cX7_broke 10 = .ok (.iconst 4, 1) := by decide +kernel
theorem dX7_broke_11 : decode cX7_broke 11 = .ok (.invokestatic 60, 3) := by decide +kernel
theorem dX7_broke_14 : decode cX7_broke 14 = .ok (.ifCond .eq 15, 3) := by decide +kernel
theorem dX7_broke_17 : decode cX7_broke 17 = .ok (.aload_n 0, 1) := by decide +kernel
theorem dX7_broke_18 : decode cX7_broke 18 = .ok (.iload_n 1, 1) := by decide +kernel
theorem dX7_broke_19 : decode cX7_broke 19 = .ok (.bipush 9, 2) := by decide +kernel
theorem dX7_broke_21 : decode cX7_broke 21 = .ok (.iload_n 2, 1) := by decide +kernel
theorem dX7_broke_22 : decode cX7_broke 22 = .ok (.iadd, 1) := by decide +kernel
theorem dX7_broke_23 : decode cX7_broke 23 = .ok (.invokevirtual 64, 3) := by decide +kernel
theorem dX7_broke_26 : decode cX7_broke 26 = .ok (.goto 5, 3) := by decide +kernel
theorem dX7_broke_29 : decode cX7_broke 29 = .ok (.bipush (-11), 2) := by decide +kernel
theorem dX7_broke_31 : decode cX7_broke 31 = .ok (.ireturn, 1) := by decide +kernel
theorem dX7_inCell_0 : decode cX7_inCell 0 = .ok (.iload_n 1, 1) := by decide +kernel
theorem dX7_inCell_1 : decode cX7_inCell 1 = .ok (.invokestatic 119, 3) := by decide +kernel
theorem dX7_inCell_4 : decode cX7_inCell 4 = .ok (.ifCond .eq 11, 3) := by decide +kernel
theorem dX7_inCell_7 : decode cX7_inCell 7 = .ok (.aload_n 0, 1) := by decide +kernel
theorem dX7_inCell_8 : decode cX7_inCell 8 = .ok (.iload_n 1, 1) := by decide +kernel
theorem dX7_inCell_9 : decode cX7_inCell 9 = .ok (.invokevirtual 122, 3) := by decide +kernel
theorem dX7_inCell_12 : decode cX7_inCell 12 = .ok (.goto 5, 3) := by decide +kernel
theorem dX7_inCell_15 : decode cX7_inCell 15 = .ok (.bipush (-11), 2) := by decide +kernel
theorem dX7_inCell_17 : decode cX7_inCell 17 = .ok (.ireturn, 1) := by decide +kernel
theorem dX7_entitled_0 : decode cX7_entitled 0 = .ok (.iconst 0, 1) := by decide +kernel
theorem dX7_entitled_1 : decode cX7_entitled 1 = .ok (.istore_n 1, 1) := by decide +kernel
theorem dX7_entitled_2 : decode cX7_entitled 2 = .ok (.iconst 0, 1) := by decide +kernel
theorem dX7_entitled_3 : decode cX7_entitled 3 = .ok (.istore_n 2, 1) := by decide +kernel
theorem dX7_entitled_4 : decode cX7_entitled 4 = .ok (.iload_n 2, 1) := by decide +kernel
theorem dX7_entitled_5 : decode cX7_entitled 5 = .ok (.aload_n 0, 1) := by decide +kernel
theorem dX7_entitled_6 : decode cX7_entitled 6 = .ok (.getfield 7, 3) := by decide +kernel
theorem dX7_entitled_9 : decode cX7_entitled 9 = .ok (.iconst 2, 1) := by decide +kernel
theorem dX7_entitled_10 : decode cX7_entitled 10 = .ok (.iaload, 1) := by decide +kernel
theorem dX7_entitled_11 : decode cX7_entitled 11 = .ok (.if_icmp .ge 27, 3) := by decide +kernel
theorem dX7_entitled_14 : decode cX7_entitled 14 = .ok (.iload_n 1, 1) := by decide +kernel
theorem dX7_entitled_15 : decode cX7_entitled 15 = .ok (.aload_n 0, 1) := by decide +kernel
theorem dX7_entitled_16 : decode cX7_entitled 16 = .ok (.iload_n 2, 1) := by decide +kernel
theorem dX7_entitled_17 : decode cX7_entitled 17 = .ok (.invokevirtual 167, 3) := by decide +kernel
theorem dX7_entitled_20 : decode cX7_entitled 20 = .ok (.ifCond .eq 9, 3) := by decide +kernel
theorem dX7_entitled_23 : decode cX7_entitled 23 = .ok (.iconst 1, 1) := by decide +kernel
theorem dX7_entitled_24 : decode cX7_entitled 24 = .ok (.iload_n 2, 1) := by decide +kernel
theorem dX7_entitled_25 : decode cX7_entitled 25 = .ok (.ishl, 1) := by decide +kernel
theorem dX7_entitled_26 : decode cX7_entitled 26 = .ok (.goto 4, 3) := by decide +kernel
theorem dX7_entitled_29 : decode cX7_entitled 29 = .ok (.iconst 0, 1) := by decide +kernel
theorem dX7_entitled_30 : decode cX7_entitled 30 = .ok (.ior, 1) := by decide +kernel
theorem dX7_entitled_31 : decode cX7_entitled 31 = .ok (.istore_n 1, 1) := by decide +kernel
theorem dX7_entitled_32 : decode cX7_entitled 32 = .ok (.iinc 2 1, 3) := by decide +kernel
theorem dX7_entitled_35 : decode cX7_entitled 35 = .ok (.goto (-31), 3) := by decide +kernel
theorem dX7_entitled_38 : decode cX7_entitled 38 = .ok (.iload_n 1, 1) := by decide +kernel
theorem dX7_entitled_39 : decode cX7_entitled 39 = .ok (.ireturn, 1) := by decide +kernel
theorem dX7_entitledAgain_0 : decode cX7_entitledAgain 0 = .ok (.iconst 0, 1) := by decide +kernel
theorem dX7_entitledAgain_1 : decode cX7_entitledAgain 1 = .ok (.istore_n 1, 1) := by decide +kernel
theorem dX7_entitledAgain_2 : decode cX7_entitledAgain 2 = .ok (.iconst 0, 1) := by decide +kernel
theorem dX7_entitledAgain_3 : decode cX7_entitledAgain 3 = .ok (.istore_n 2, 1) := by decide +kernel
theorem dX7_entitledAgain_4 : decode cX7_entitledAgain 4 = .ok (.iload_n 2, 1) := by decide +kernel
theorem dX7_entitledAgain_5 : decode cX7_entitledAgain 5 = .ok (.bipush 8, 2) := by decide +kernel
theorem dX7_entitledAgain_7 : decode cX7_entitledAgain 7 = .ok (.if_icmp .ge 38, 3) := by decide +kernel
theorem dX7_entitledAgain_10 : decode cX7_entitledAgain 10 = .ok (.aload_n 0, 1) := by decide +kernel
theorem dX7_entitledAgain_11 : decode cX7_entitledAgain 11 = .ok (.iload_n 2, 1) := by decide +kernel
theorem dX7_entitledAgain_12 : decode cX7_entitledAgain 12 = .ok (.invokevirtual 122, 3) := by decide +kernel
theorem dX7_entitledAgain_15 : decode cX7_entitledAgain 15 = .ok (.istore_n 3, 1) := by decide +kernel
theorem dX7_entitledAgain_16 : decode cX7_entitledAgain 16 = .ok (.iload_n 1, 1) := by decide +kernel
theorem dX7_entitledAgain_17 : decode cX7_entitledAgain 17 = .ok (.iload_n 3, 1) := by decide +kernel
theorem dX7_entitledAgain_18 : decode cX7_entitledAgain 18 = .ok (.ifCond .lt 18, 3) := by decide +kernel
theorem dX7_entitledAgain_21 : decode cX7_entitledAgain 21 = .ok (.aload_n 0, 1) := by decide +kernel
theorem dX7_entitledAgain_22 : decode cX7_entitledAgain 22 = .ok (.iload_n 3, 1) := by decide +kernel
theorem dX7_entitledAgain_23 : decode cX7_entitledAgain 23 = .ok (.iconst 5, 1) := by decide +kernel
theorem dX7_entitledAgain_24 : decode cX7_entitledAgain 24 = .ok (.invokevirtual 64, 3) := by decide +kernel
theorem dX7_entitledAgain_27 : decode cX7_entitledAgain 27 = .ok (.ifCond .ne 9, 3) := by decide +kernel
theorem dX7_entitledAgain_30 : decode cX7_entitledAgain 30 = .ok (.iconst 1, 1) := by decide +kernel
theorem dX7_entitledAgain_31 : decode cX7_entitledAgain 31 = .ok (.iload_n 3, 1) := by decide +kernel
theorem dX7_entitledAgain_32 : decode cX7_entitledAgain 32 = .ok (.ishl, 1) := by decide +kernel
theorem dX7_entitledAgain_33 : decode cX7_entitledAgain 33 = .ok (.goto 4, 3) := by decide +kernel
theorem dX7_entitledAgain_36 : decode cX7_entitledAgain 36 = .ok (.iconst 0, 1) := by decide +kernel
theorem dX7_entitledAgain_37 : decode cX7_entitledAgain 37 = .ok (.ior, 1) := by decide +kernel
theorem dX7_entitledAgain_38 : decode cX7_entitledAgain 38 = .ok (.istore_n 1, 1) := by decide +kernel
theorem dX7_entitledAgain_39 : decode cX7_entitledAgain 39 = .ok (.iinc 2 1, 3) := by decide +kernel
theorem dX7_entitledAgain_42 : decode cX7_entitledAgain 42 = .ok (.goto (-38), 3) := by decide +kernel
theorem dX7_entitledAgain_45 : decode cX7_entitledAgain 45 = .ok (.iload_n 1, 1) := by decide +kernel
theorem dX7_entitledAgain_46 : decode cX7_entitledAgain 46 = .ok (.ireturn, 1) := by decide +kernel
theorem dX7_voices_0 : decode cX7_voices 0 = .ok (.aload_n 0, 1) := by decide +kernel
theorem dX7_voices_1 : decode cX7_voices 1 = .ok (.iload_n 1, 1) := by decide +kernel
theorem dX7_voices_2 : decode cX7_voices 2 = .ok (.invokevirtual 96, 3) := by decide +kernel
theorem dX7_voices_5 : decode cX7_voices 5 = .ok (.ifCond .eq 11, 3) := by decide +kernel
theorem dX7_voices_8 : decode cX7_voices 8 = .ok (.aload_n 0, 1) := by decide +kernel
theorem dX7_voices_9 : decode cX7_voices 9 = .ok (.iload_n 1, 1) := by decide +kernel
theorem dX7_voices_10 : decode cX7_voices 10 = .ok (.invokevirtual 107, 3) := by decide +kernel
theorem dX7_voices_13 : decode cX7_voices 13 = .ok (.goto 5, 3) := by decide +kernel
theorem dX7_voices_16 : decode cX7_voices 16 = .ok (.bipush (-11), 2) := by decide +kernel
theorem dX7_voices_18 : decode cX7_voices 18 = .ok (.ireturn, 1) := by decide +kernel
theorem dX7_voicesAgain_0 : decode cX7_voicesAgain 0 = .ok (.aload_n 0, 1) := by decide +kernel
theorem dX7_voicesAgain_1 : decode cX7_voicesAgain 1 = .ok (.iload_n 1, 1) := by decide +kernel
theorem dX7_voicesAgain_2 : decode cX7_voicesAgain 2 = .ok (.invokevirtual 96, 3) := by decide +kernel
theorem dX7_voicesAgain_5 : decode cX7_voicesAgain 5 = .ok (.ifCond .ne 6, 3) := by decide +kernel
theorem dX7_voicesAgain_8 : decode cX7_voicesAgain 8 = .ok (.bipush (-11), 2) := by decide +kernel
theorem dX7_voicesAgain_10 : decode cX7_voicesAgain 10 = .ok (.ireturn, 1) := by decide +kernel
theorem dX7_voicesAgain_11 : decode cX7_voicesAgain 11 = .ok (.iconst 0, 1) := by decide +kernel
theorem dX7_voicesAgain_12 : decode cX7_voicesAgain 12 = .ok (.istore_n 2, 1) := by decide +kernel
theorem dX7_voicesAgain_13 : decode cX7_voicesAgain 13 = .ok (.iload_n 2, 1) := by decide +kernel
theorem dX7_voicesAgain_14 : decode cX7_voicesAgain 14 = .ok (.bipush 16, 2) := by decide +kernel
theorem dX7_voicesAgain_16 : decode cX7_voicesAgain 16 = .ok (.if_icmp .ge 16, 3) := by decide +kernel
theorem dX7_voicesAgain_19 : decode cX7_voicesAgain 19 = .ok (.aload_n 0, 1) := by decide +kernel
theorem dX7_voicesAgain_20 : decode cX7_voicesAgain 20 = .ok (.getfield 22, 3) := by decide +kernel
theorem dX7_voicesAgain_23 : decode cX7_voicesAgain 23 = .ok (.iload_n 2, 1) := by decide +kernel
theorem dX7_voicesAgain_24 : decode cX7_voicesAgain 24 = .ok (.iconst 0, 1) := by decide +kernel
theorem dX7_voicesAgain_25 : decode cX7_voicesAgain 25 = .ok (.iastore, 1) := by decide +kernel
theorem dX7_voicesAgain_26 : decode cX7_voicesAgain 26 = .ok (.iinc 2 1, 3) := by decide +kernel
theorem dX7_voicesAgain_29 : decode cX7_voicesAgain 29 = .ok (.goto (-16), 3) := by decide +kernel
theorem dX7_voicesAgain_32 : decode cX7_voicesAgain 32 = .ok (.iconst 0, 1) := by decide +kernel
theorem dX7_voicesAgain_33 : decode cX7_voicesAgain 33 = .ok (.istore_n 2, 1) := by decide +kernel
theorem dX7_voicesAgain_34 : decode cX7_voicesAgain 34 = .ok (.iload_n 2, 1) := by decide +kernel
theorem dX7_voicesAgain_35 : decode cX7_voicesAgain 35 = .ok (.aload_n 0, 1) := by decide +kernel
theorem dX7_voicesAgain_36 : decode cX7_voicesAgain 36 = .ok (.getfield 7, 3) := by decide +kernel
theorem dX7_voicesAgain_39 : decode cX7_voicesAgain 39 = .ok (.iconst 2, 1) := by decide +kernel
theorem dX7_voicesAgain_40 : decode cX7_voicesAgain 40 = .ok (.iaload, 1) := by decide +kernel
theorem dX7_voicesAgain_41 : decode cX7_voicesAgain 41 = .ok (.if_icmp .ge 37, 3) := by decide +kernel
theorem dX7_voicesAgain_44 : decode cX7_voicesAgain 44 = .ok (.aload_n 0, 1) := by decide +kernel
theorem dX7_voicesAgain_45 : decode cX7_voicesAgain 45 = .ok (.iload_n 2, 1) := by decide +kernel
theorem dX7_voicesAgain_46 : decode cX7_voicesAgain 46 = .ok (.bipush 7, 2) := by decide +kernel
theorem dX7_voicesAgain_48 : decode cX7_voicesAgain 48 = .ok (.invokevirtual 64, 3) := by decide +kernel
theorem dX7_voicesAgain_51 : decode cX7_voicesAgain 51 = .ok (.iconst 1, 1) := by decide +kernel
theorem dX7_voicesAgain_52 : decode cX7_voicesAgain 52 = .ok (.isub, 1) := by decide +kernel
theorem dX7_voicesAgain_53 : decode cX7_voicesAgain 53 = .ok (.istore_n 3, 1) := by decide +kernel
theorem dX7_voicesAgain_54 : decode cX7_voicesAgain 54 = .ok (.iload_n 3, 1) := by decide +kernel
theorem dX7_voicesAgain_55 : decode cX7_voicesAgain 55 = .ok (.ifCond .lt 17, 3) := by decide +kernel
theorem dX7_voicesAgain_58 : decode cX7_voicesAgain 58 = .ok (.aload_n 0, 1) := by decide +kernel
theorem dX7_voicesAgain_59 : decode cX7_voicesAgain 59 = .ok (.getfield 22, 3) := by decide +kernel
theorem dX7_voicesAgain_62 : decode cX7_voicesAgain 62 = .ok (.iload_n 3, 1) := by decide +kernel
theorem dX7_voicesAgain_63 : decode cX7_voicesAgain 63 = .ok (.dup2, 1) := by decide +kernel
theorem dX7_voicesAgain_64 : decode cX7_voicesAgain 64 = .ok (.iaload, 1) := by decide +kernel
theorem dX7_voicesAgain_65 : decode cX7_voicesAgain 65 = .ok (.aload_n 0, 1) := by decide +kernel
theorem dX7_voicesAgain_66 : decode cX7_voicesAgain 66 = .ok (.iload_n 3, 1) := by decide +kernel
theorem dX7_voicesAgain_67 : decode cX7_voicesAgain 67 = .ok (.invokevirtual 72, 3) := by decide +kernel
theorem dX7_voicesAgain_70 : decode cX7_voicesAgain 70 = .ok (.iadd, 1) := by decide +kernel
theorem dX7_voicesAgain_71 : decode cX7_voicesAgain 71 = .ok (.iastore, 1) := by decide +kernel
theorem dX7_voicesAgain_72 : decode cX7_voicesAgain 72 = .ok (.iinc 2 1, 3) := by decide +kernel
theorem dX7_voicesAgain_75 : decode cX7_voicesAgain 75 = .ok (.goto (-41), 3) := by decide +kernel
theorem dX7_voicesAgain_78 : decode cX7_voicesAgain 78 = .ok (.aload_n 0, 1) := by decide +kernel
theorem dX7_voicesAgain_79 : decode cX7_voicesAgain 79 = .ok (.getfield 22, 3) := by decide +kernel
theorem dX7_voicesAgain_82 : decode cX7_voicesAgain 82 = .ok (.iload_n 1, 1) := by decide +kernel
theorem dX7_voicesAgain_83 : decode cX7_voicesAgain 83 = .ok (.iaload, 1) := by decide +kernel
theorem dX7_voicesAgain_84 : decode cX7_voicesAgain 84 = .ok (.ireturn, 1) := by decide +kernel
theorem dX7_ranked_0 : decode cX7_ranked 0 = .ok (.aload_n 0, 1) := by decide +kernel
theorem dX7_ranked_1 : decode cX7_ranked 1 = .ok (.iload_n 1, 1) := by decide +kernel
theorem dX7_ranked_2 : decode cX7_ranked 2 = .ok (.invokevirtual 125, 3) := by decide +kernel
theorem dX7_ranked_5 : decode cX7_ranked 5 = .ok (.ireturn, 1) := by decide +kernel
theorem dX7_senior_0 : decode cX7_senior 0 = .ok (.iconst 0, 1) := by decide +kernel
theorem dX7_senior_1 : decode cX7_senior 1 = .ok (.istore_n 2, 1) := by decide +kernel
theorem dX7_senior_2 : decode cX7_senior 2 = .ok (.iload_n 2, 1) := by decide +kernel
theorem dX7_senior_3 : decode cX7_senior 3 = .ok (.aload_n 0, 1) := by decide +kernel
theorem dX7_senior_4 : decode cX7_senior 4 = .ok (.getfield 7, 3) := by decide +kernel
theorem dX7_senior_7 : decode cX7_senior 7 = .ok (.iconst 2, 1) := by decide +kernel
theorem dX7_senior_8 : decode cX7_senior 8 = .ok (.iaload, 1) := by decide +kernel
theorem dX7_senior_9 : decode cX7_senior 9 = .ok (.if_icmp .ge 78, 3) := by decide +kernel
theorem dX7_senior_12 : decode cX7_senior 12 = .ok (.aload_n 0, 1) := by decide +kernel
theorem dX7_senior_13 : decode cX7_senior 13 = .ok (.iload_n 2, 1) := by decide +kernel
theorem dX7_senior_14 : decode cX7_senior 14 = .ok (.iconst 1, 1) := by decide +kernel
theorem dX7_senior_15 : decode cX7_senior 15 = .ok (.invokevirtual 68, 3) := by decide +kernel
theorem dX7_senior_18 : decode cX7_senior 18 = .ok (.ifCond .ne 6, 3) := by decide +kernel
theorem dX7_senior_21 : decode cX7_senior 21 = .ok (.goto 60, 3) := by decide +kernel
theorem dX7_senior_24 : decode cX7_senior 24 = .ok (.iconst 0, 1) := by decide +kernel
theorem dX7_senior_25 : decode cX7_senior 25 = .ok (.istore_n 3, 1) := by decide +kernel
theorem dX7_senior_26 : decode cX7_senior 26 = .ok (.iconst 0, 1) := by decide +kernel
theorem dX7_senior_27 : decode cX7_senior 27 = .ok (.istore 4, 2) := by decide +kernel
theorem dX7_senior_29 : decode cX7_senior 29 = .ok (.iload 4, 2) := by decide +kernel
theorem dX7_senior_31 : decode cX7_senior 31 = .ok (.aload_n 0, 1) := by decide +kernel
theorem dX7_senior_32 : decode cX7_senior 32 = .ok (.getfield 7, 3) := by decide +kernel
theorem dX7_senior_35 : decode cX7_senior 35 = .ok (.iconst 2, 1) := by decide +kernel
theorem dX7_senior_36 : decode cX7_senior 36 = .ok (.iaload, 1) := by decide +kernel
theorem dX7_senior_37 : decode cX7_senior 37 = .ok (.if_icmp .ge 37, 3) := by decide +kernel
theorem dX7_senior_40 : decode cX7_senior 40 = .ok (.iload_n 3, 1) := by decide +kernel
theorem dX7_senior_41 : decode cX7_senior 41 = .ok (.aload_n 0, 1) := by decide +kernel
theorem dX7_senior_42 : decode cX7_senior 42 = .ok (.iload 4, 2) := by decide +kernel
theorem dX7_senior_44 : decode cX7_senior 44 = .ok (.iconst 1, 1) := by decide +kernel
theorem dX7_senior_45 : decode cX7_senior 45 = .ok (.invokevirtual 68, 3) := by decide +kernel
theorem dX7_senior_48 : decode cX7_senior 48 = .ok (.ifCond .eq 17, 3) := by decide +kernel
theorem dX7_senior_51 : decode cX7_senior 51 = .ok (.aload_n 0, 1) := by decide +kernel
theorem dX7_senior_52 : decode cX7_senior 52 = .ok (.iload 4, 2) := by decide +kernel
theorem dX7_senior_54 : decode cX7_senior 54 = .ok (.iload_n 2, 1) := by decide +kernel
theorem dX7_senior_55 : decode cX7_senior 55 = .ok (.invokevirtual 174, 3) := by decide +kernel
theorem dX7_senior_58 : decode cX7_senior 58 = .ok (.ifCond .eq 7, 3) := by decide +kernel
theorem dX7_senior_61 : decode cX7_senior 61 = .ok (.iconst 1, 1) := by decide +kernel
theorem dX7_senior_62 : decode cX7_senior 62 = .ok (.goto 4, 3) := by decide +kernel
theorem dX7_senior_65 : decode cX7_senior 65 = .ok (.iconst 0, 1) := by decide +kernel
theorem dX7_senior_66 : decode cX7_senior 66 = .ok (.iadd, 1) := by decide +kernel
theorem dX7_senior_67 : decode cX7_senior 67 = .ok (.istore_n 3, 1) := by decide +kernel
theorem dX7_senior_68 : decode cX7_senior 68 = .ok (.iinc 4 1, 3) := by decide +kernel
theorem dX7_senior_71 : decode cX7_senior 71 = .ok (.goto (-42), 3) := by decide +kernel
theorem dX7_senior_74 : decode cX7_senior 74 = .ok (.iload_n 3, 1) := by decide +kernel
theorem dX7_senior_75 : decode cX7_senior 75 = .ok (.iload_n 1, 1) := by decide +kernel
theorem dX7_senior_76 : decode cX7_senior 76 = .ok (.if_icmp .ne 5, 3) := by decide +kernel
theorem dX7_senior_79 : decode cX7_senior 79 = .ok (.iload_n 2, 1) := by decide +kernel
theorem dX7_senior_80 : decode cX7_senior 80 = .ok (.ireturn, 1) := by decide +kernel
theorem dX7_senior_81 : decode cX7_senior 81 = .ok (.iinc 2 1, 3) := by decide +kernel
theorem dX7_senior_84 : decode cX7_senior 84 = .ok (.goto (-82), 3) := by decide +kernel
theorem dX7_senior_87 : decode cX7_senior 87 = .ok (.bipush (-11), 2) := by decide +kernel
theorem dX7_senior_89 : decode cX7_senior 89 = .ok (.ireturn, 1) := by decide +kernel
theorem dX7_shabby_0 : decode cX7_shabby 0 = .ok (.aload_n 0, 1) := by decide +kernel
theorem dX7_shabby_1 : decode cX7_shabby 1 = .ok (.iload_n 1, 1) := by decide +kernel
theorem dX7_shabby_2 : decode cX7_shabby 2 = .ok (.invokevirtual 180, 3) := by decide +kernel
theorem dX7_shabby_5 : decode cX7_shabby 5 = .ok (.ireturn, 1) := by decide +kernel
theorem dX7_nextFeast_0 : decode cX7_nextFeast 0 = .ok (.iconst 0, 1) := by decide +kernel
theorem dX7_nextFeast_1 : decode cX7_nextFeast 1 = .ok (.istore_n 1, 1) := by decide +kernel
theorem dX7_nextFeast_2 : decode cX7_nextFeast 2 = .ok (.iload_n 1, 1) := by decide +kernel
theorem dX7_nextFeast_3 : decode cX7_nextFeast 3 = .ok (.bipush 52, 2) := by decide +kernel
theorem dX7_nextFeast_5 : decode cX7_nextFeast 5 = .ok (.if_icmp .ge 33, 3) := by decide +kernel
theorem dX7_nextFeast_8 : decode cX7_nextFeast 8 = .ok (.aload_n 0, 1) := by decide +kernel
theorem dX7_nextFeast_9 : decode cX7_nextFeast 9 = .ok (.getfield 7, 3) := by decide +kernel
theorem dX7_nextFeast_12 : decode cX7_nextFeast 12 = .ok (.bipush 12, 2) := by decide +kernel
theorem dX7_nextFeast_14 : decode cX7_nextFeast 14 = .ok (.aload_n 0, 1) := by decide +kernel
theorem dX7_nextFeast_15 : decode cX7_nextFeast 15 = .ok (.getfield 7, 3) := by decide +kernel
theorem dX7_nextFeast_18 : decode cX7_nextFeast 18 = .ok (.iconst 1, 1) := by decide +kernel
theorem dX7_nextFeast_19 : decode cX7_nextFeast 19 = .ok (.iaload, 1) := by decide +kernel
theorem dX7_nextFeast_20 : decode cX7_nextFeast 20 = .ok (.iload_n 1, 1) := by decide +kernel
theorem dX7_nextFeast_21 : decode cX7_nextFeast 21 = .ok (.iadd, 1) := by decide +kernel
theorem dX7_nextFeast_22 : decode cX7_nextFeast 22 = .ok (.bipush 52, 2) := by decide +kernel
theorem dX7_nextFeast_24 : decode cX7_nextFeast 24 = .ok (.irem, 1) := by decide +kernel
theorem dX7_nextFeast_25 : decode cX7_nextFeast 25 = .ok (.iadd, 1) := by decide +kernel
theorem dX7_nextFeast_26 : decode cX7_nextFeast 26 = .ok (.iaload, 1) := by decide +kernel
theorem dX7_nextFeast_27 : decode cX7_nextFeast 27 = .ok (.ifCond .le 5, 3) := by decide +kernel
theorem dX7_nextFeast_30 : decode cX7_nextFeast 30 = .ok (.iload_n 1, 1) := by decide +kernel
theorem dX7_nextFeast_31 : decode cX7_nextFeast 31 = .ok (.ireturn, 1) := by decide +kernel
theorem dX7_nextFeast_32 : decode cX7_nextFeast 32 = .ok (.iinc 1 1, 3) := by decide +kernel
theorem dX7_nextFeast_35 : decode cX7_nextFeast 35 = .ok (.goto (-33), 3) := by decide +kernel
theorem dX7_nextFeast_38 : decode cX7_nextFeast 38 = .ok (.bipush (-15), 2) := by decide +kernel
theorem dX7_nextFeast_40 : decode cX7_nextFeast 40 = .ok (.ireturn, 1) := by decide +kernel
theorem dX7_append_0 : decode cX7_append 0 = .ok (.iload_n 1, 1) := by decide +kernel
theorem dX7_append_1 : decode cX7_append 1 = .ok (.bipush 32, 2) := by decide +kernel
theorem dX7_append_3 : decode cX7_append 3 = .ok (.bipush 126, 2) := by decide +kernel
theorem dX7_append_5 : decode cX7_append 5 = .ok (.invokestatic 60, 3) := by decide +kernel
theorem dX7_append_8 : decode cX7_append 8 = .ok (.ifCond .ne 6, 3) := by decide +kernel
theorem dX7_append_11 : decode cX7_append 11 = .ok (.bipush (-12), 2) := by decide +kernel
theorem dX7_append_13 : decode cX7_append 13 = .ok (.ireturn, 1) := by decide +kernel
theorem dX7_append_14 : decode cX7_append 14 = .ok (.aload_n 0, 1) := by decide +kernel
theorem dX7_append_15 : decode cX7_append 15 = .ok (.getfield 204, 3) := by decide +kernel
theorem dX7_append_18 : decode cX7_append 18 = .ok (.bipush 60, 2) := by decide +kernel
theorem dX7_append_20 : decode cX7_append 20 = .ok (.if_icmp .ne 6, 3) := by decide +kernel
theorem dX7_append_23 : decode cX7_append 23 = .ok (.bipush (-13), 2) := by decide +kernel
theorem dX7_append_25 : decode cX7_append 25 = .ok (.ireturn, 1) := by decide +kernel
theorem dX7_append_26 : decode cX7_append 26 = .ok (.aload_n 0, 1) := by decide +kernel
theorem dX7_append_27 : decode cX7_append 27 = .ok (.getfield 25, 3) := by decide +kernel
theorem dX7_append_30 : decode cX7_append 30 = .ok (.aload_n 0, 1) := by decide +kernel
theorem dX7_append_31 : decode cX7_append 31 = .ok (.getfield 204, 3) := by decide +kernel
theorem dX7_append_34 : decode cX7_append 34 = .ok (.iload_n 1, 1) := by decide +kernel
theorem dX7_append_35 : decode cX7_append 35 = .ok (.i2c, 1) := by decide +kernel
theorem dX7_append_36 : decode cX7_append 36 = .ok (.castore, 1) := by decide +kernel
theorem dX7_append_37 : decode cX7_append 37 = .ok (.aload_n 0, 1) := by decide +kernel
theorem dX7_append_38 : decode cX7_append 38 = .ok (.dup, 1) := by decide +kernel
theorem dX7_append_39 : decode cX7_append 39 = .ok (.getfield 204, 3) := by decide +kernel
theorem dX7_append_42 : decode cX7_append 42 = .ok (.iconst 1, 1) := by decide +kernel
theorem dX7_append_43 : decode cX7_append 43 = .ok (.iadd, 1) := by decide +kernel
theorem dX7_append_44 : decode cX7_append 44 = .ok (.putfield 204, 3) := by decide +kernel
theorem dX7_append_47 : decode cX7_append 47 = .ok (.aload_n 0, 1) := by decide +kernel
theorem dX7_append_48 : decode cX7_append 48 = .ok (.getfield 204, 3) := by decide +kernel
theorem dX7_append_51 : decode cX7_append 51 = .ok (.ireturn, 1) := by decide +kernel
theorem dX7_sign_0 : decode cX7_sign 0 = .ok (.aload_n 0, 1) := by decide +kernel
theorem dX7_sign_1 : decode cX7_sign 1 = .ok (.getfield 207, 3) := by decide +kernel
theorem dX7_sign_4 : decode cX7_sign 4 = .ok (.aload_n 0, 1) := by decide +kernel
theorem dX7_sign_5 : decode cX7_sign 5 = .ok (.getfield 204, 3) := by decide +kernel
theorem dX7_sign_8 : decode cX7_sign 8 = .ok (.if_icmp .ge 15, 3) := by decide +kernel
theorem dX7_sign_11 : decode cX7_sign 11 = .ok (.aload_n 0, 1) := by decide +kernel
theorem dX7_sign_12 : decode cX7_sign 12 = .ok (.getfield 25, 3) := by decide +kernel
theorem dX7_sign_15 : decode cX7_sign 15 = .ok (.aload_n 0, 1) := by decide +kernel
theorem dX7_sign_16 : decode cX7_sign 16 = .ok (.getfield 207, 3) := by decide +kernel
theorem dX7_sign_19 : decode cX7_sign 19 = .ok (.caload, 1) := by decide +kernel
theorem dX7_sign_20 : decode cX7_sign 20 = .ok (.goto 4, 3) := by decide +kernel
theorem dX7_sign_23 : decode cX7_sign 23 = .ok (.iconst (-1), 1) := by decide +kernel
theorem dX7_sign_24 : decode cX7_sign 24 = .ok (.ireturn, 1) := by decide +kernel
theorem dX7_reads_0 : decode cX7_reads 0 = .ok (.aload_n 0, 1) := by decide +kernel
theorem dX7_reads_1 : decode cX7_reads 1 = .ok (.invokevirtual 210, 3) := by decide +kernel
theorem dX7_reads_4 : decode cX7_reads 4 = .ok (.iload_n 1, 1) := by decide +kernel
theorem dX7_reads_5 : decode cX7_reads 5 = .ok (.if_icmp .eq 5, 3) := by decide +kernel
theorem dX7_reads_8 : decode cX7_reads 8 = .ok (.iconst 0, 1) := by decide +kernel
theorem dX7_reads_9 : decode cX7_reads 9 = .ok (.ireturn, 1) := by decide +kernel
theorem dX7_reads_10 : decode cX7_reads 10 = .ok (.aload_n 0, 1) := by decide +kernel
theorem dX7_reads_11 : decode cX7_reads 11 = .ok (.dup, 1) := by decide +kernel
theorem dX7_reads_12 : decode cX7_reads 12 = .ok (.getfield 207, 3) := by decide +kernel
theorem dX7_reads_15 : decode cX7_reads 15 = .ok (.iconst 1, 1) := by decide +kernel
theorem dX7_reads_16 : decode cX7_reads 16 = .ok (.iadd, 1) := by decide +kernel
theorem dX7_reads_17 : decode cX7_reads 17 = .ok (.putfield 207, 3) := by decide +kernel
theorem dX7_reads_20 : decode cX7_reads 20 = .ok (.iconst 1, 1) := by decide +kernel
theorem dX7_reads_21 : decode cX7_reads 21 = .ok (.ireturn, 1) := by decide +kernel
theorem dX7_readsNumber_0 : decode cX7_readsNumber 0 = .ok (.aload_n 0, 1) := by decide +kernel
theorem dX7_readsNumber_1 : decode cX7_readsNumber 1 = .ok (.bipush 32, 2) := by decide +kernel
theorem dX7_readsNumber_3 : decode cX7_readsNumber 3 = .ok (.invokevirtual 213, 3) := by decide +kernel
theorem dX7_readsNumber_6 : decode cX7_readsNumber 6 = .ok (.ifCond .eq 17, 3) := by decide +kernel
theorem dX7_readsNumber_9 : decode cX7_readsNumber 9 = .ok (.aload_n 0, 1) := by decide +kernel
theorem dX7_readsNumber_10 : decode cX7_readsNumber 10 = .ok (.invokevirtual 210, 3) := by decide +kernel
theorem dX7_readsNumber_13 : decode cX7_readsNumber 13 = .ok (.bipush 48, 2) := by decide +kernel
theorem dX7_readsNumber_15 : decode cX7_readsNumber 15 = .ok (.bipush 57, 2) := by decide +kernel
theorem dX7_readsNumber_17 : decode cX7_readsNumber 17 = .ok (.invokestatic 60, 3) := by decide +kernel
theorem dX7_readsNumber_20 : decode cX7_readsNumber 20 = .ok (.ifCond .ne 5, 3) := by decide +kernel
theorem dX7_readsNumber_23 : decode cX7_readsNumber 23 = .ok (.iconst 0, 1) := by decide +kernel
theorem dX7_readsNumber_24 : decode cX7_readsNumber 24 = .ok (.ireturn, 1) := by decide +kernel
theorem dX7_readsNumber_25 : decode cX7_readsNumber 25 = .ok (.aload_n 0, 1) := by decide +kernel
theorem dX7_readsNumber_26 : decode cX7_readsNumber 26 = .ok (.getfield 29, 3) := by decide +kernel
theorem dX7_readsNumber_29 : decode cX7_readsNumber 29 = .ok (.iload_n 1, 1) := by decide +kernel
theorem dX7_readsNumber_30 : decode cX7_readsNumber 30 = .ok (.iconst 0, 1) := by decide +kernel
theorem dX7_readsNumber_31 : decode cX7_readsNumber 31 = .ok (.iastore, 1) := by decide +kernel
theorem dX7_readsNumber_32 : decode cX7_readsNumber 32 = .ok (.iconst 0, 1) := by decide +kernel
theorem dX7_readsNumber_33 : decode cX7_readsNumber 33 = .ok (.istore_n 3, 1) := by decide +kernel
theorem dX7_readsNumber_34 : decode cX7_readsNumber 34 = .ok (.iload_n 3, 1) := by decide +kernel
theorem dX7_readsNumber_35 : decode cX7_readsNumber 35 = .ok (.iload_n 2, 1) := by decide +kernel
theorem dX7_readsNumber_36 : decode cX7_readsNumber 36 = .ok (.if_icmp .ge 56, 3) := by decide +kernel
theorem dX7_readsNumber_39 : decode cX7_readsNumber 39 = .ok (.aload_n 0, 1) := by decide +kernel
theorem dX7_readsNumber_40 : decode cX7_readsNumber 40 = .ok (.invokevirtual 210, 3) := by decide +kernel
theorem dX7_readsNumber_43 : decode cX7_readsNumber 43 = .ok (.bipush 48, 2) := by decide +kernel
theorem dX7_readsNumber_45 : decode cX7_readsNumber 45 = .ok (.bipush 57, 2) := by decide +kernel
theorem dX7_readsNumber_47 : decode cX7_readsNumber 47 = .ok (.invokestatic 60, 3) := by decide +kernel
theorem dX7_readsNumber_50 : decode cX7_readsNumber 50 = .ok (.ifCond .eq 42, 3) := by decide +kernel
theorem dX7_readsNumber_53 : decode cX7_readsNumber 53 = .ok (.aload_n 0, 1) := by decide +kernel
theorem dX7_readsNumber_54 : decode cX7_readsNumber 54 = .ok (.getfield 29, 3) := by decide +kernel
theorem dX7_readsNumber_57 : decode cX7_readsNumber 57 = .ok (.iload_n 1, 1) := by decide +kernel
theorem dX7_readsNumber_58 : decode cX7_readsNumber 58 = .ok (.bipush 10, 2) := by decide +kernel
theorem dX7_readsNumber_60 : decode cX7_readsNumber 60 = .ok (.aload_n 0, 1) := by decide +kernel
theorem dX7_readsNumber_61 : decode cX7_readsNumber 61 = .ok (.getfield 29, 3) := by decide +kernel
theorem dX7_readsNumber_64 : decode cX7_readsNumber 64 = .ok (.iload_n 1, 1) := by decide +kernel
theorem dX7_readsNumber_65 : decode cX7_readsNumber 65 = .ok (.iaload, 1) := by decide +kernel
theorem dX7_readsNumber_66 : decode cX7_readsNumber 66 = .ok (.imul, 1) := by decide +kernel
theorem dX7_readsNumber_67 : decode cX7_readsNumber 67 = .ok (.aload_n 0, 1) := by decide +kernel
theorem dX7_readsNumber_68 : decode cX7_readsNumber 68 = .ok (.invokevirtual 210, 3) := by decide +kernel
theorem dX7_readsNumber_71 : decode cX7_readsNumber 71 = .ok (.iadd, 1) := by decide +kernel
theorem dX7_readsNumber_72 : decode cX7_readsNumber 72 = .ok (.bipush 48, 2) := by decide +kernel
theorem dX7_readsNumber_74 : decode cX7_readsNumber 74 = .ok (.isub, 1) := by decide +kernel
theorem dX7_readsNumber_75 : decode cX7_readsNumber 75 = .ok (.iastore, 1) := by decide +kernel
theorem dX7_readsNumber_76 : decode cX7_readsNumber 76 = .ok (.aload_n 0, 1) := by decide +kernel
theorem dX7_readsNumber_77 : decode cX7_readsNumber 77 = .ok (.dup, 1) := by decide +kernel
theorem dX7_readsNumber_78 : decode cX7_readsNumber 78 = .ok (.getfield 207, 3) := by decide +kernel
theorem dX7_readsNumber_81 : decode cX7_readsNumber 81 = .ok (.iconst 1, 1) := by decide +kernel
theorem dX7_readsNumber_82 : decode cX7_readsNumber 82 = .ok (.iadd, 1) := by decide +kernel
theorem dX7_readsNumber_83 : decode cX7_readsNumber 83 = .ok (.putfield 207, 3) := by decide +kernel
theorem dX7_readsNumber_86 : decode cX7_readsNumber 86 = .ok (.iinc 3 1, 3) := by decide +kernel
theorem dX7_readsNumber_89 : decode cX7_readsNumber 89 = .ok (.goto (-55), 3) := by decide +kernel
theorem dX7_readsNumber_92 : decode cX7_readsNumber 92 = .ok (.iconst 1, 1) := by decide +kernel
theorem dX7_readsNumber_93 : decode cX7_readsNumber 93 = .ok (.ireturn, 1) := by decide +kernel
theorem dX7_readsTwo_0 : decode cX7_readsTwo 0 = .ok (.aload_n 0, 1) := by decide +kernel
theorem dX7_readsTwo_1 : decode cX7_readsTwo 1 = .ok (.iload_n 1, 1) := by decide +kernel
theorem dX7_readsTwo_2 : decode cX7_readsTwo 2 = .ok (.putfield 216, 3) := by decide +kernel
theorem dX7_readsTwo_5 : decode cX7_readsTwo 5 = .ok (.aload_n 0, 1) := by decide +kernel
theorem dX7_readsTwo_6 : decode cX7_readsTwo 6 = .ok (.iconst 0, 1) := by decide +kernel
theorem dX7_readsTwo_7 : decode cX7_readsTwo 7 = .ok (.iload_n 2, 1) := by decide +kernel
theorem dX7_readsTwo_8 : decode cX7_readsTwo 8 = .ok (.invokevirtual 219, 3) := by decide +kernel
theorem dX7_readsTwo_11 : decode cX7_readsTwo 11 = .ok (.ifCond .eq 20, 3) := by decide +kernel
theorem dX7_readsTwo_14 : decode cX7_readsTwo 14 = .ok (.iload_n 3, 1) := by decide +kernel
theorem dX7_readsTwo_15 : decode cX7_readsTwo 15 = .ok (.ifCond .eq 12, 3) := by decide +kernel
theorem dX7_readsTwo_18 : decode cX7_readsTwo 18 = .ok (.aload_n 0, 1) := by decide +kernel
theorem dX7_readsTwo_19 : decode cX7_readsTwo 19 = .ok (.iconst 1, 1) := by decide +kernel
theorem dX7_readsTwo_20 : decode cX7_readsTwo 20 = .ok (.iload_n 3, 1) := by decide +kernel
theorem dX7_readsTwo_21 : decode cX7_readsTwo 21 = .ok (.invokevirtual 219, 3) := by decide +kernel
theorem dX7_readsTwo_24 : decode cX7_readsTwo 24 = .ok (.ifCond .eq 7, 3) := by decide +kernel
theorem dX7_readsTwo_27 : decode cX7_readsTwo 27 = .ok (.iconst 1, 1) := by decide +kernel
theorem dX7_readsTwo_28 : decode cX7_readsTwo 28 = .ok (.goto 4, 3) := by decide +kernel
theorem dX7_readsTwo_31 : decode cX7_readsTwo 31 = .ok (.iconst 0, 1) := by decide +kernel
theorem dX7_readsTwo_32 : decode cX7_readsTwo 32 = .ok (.ireturn, 1) := by decide +kernel
theorem dX7_readsOrder_0 : decode cX7_readsOrder 0 = .ok (.aload_n 0, 1) := by decide +kernel
theorem dX7_readsOrder_1 : decode cX7_readsOrder 1 = .ok (.bipush 118, 2) := by decide +kernel
theorem dX7_readsOrder_3 : decode cX7_readsOrder 3 = .ok (.invokevirtual 213, 3) := by decide +kernel
theorem dX7_readsOrder_6 : decode cX7_readsOrder 6 = .ok (.ifCond .eq 55, 3) := by decide +kernel
theorem dX7_readsOrder_9 : decode cX7_readsOrder 9 = .ok (.aload_n 0, 1) := by decide +kernel
theorem dX7_readsOrder_10 : decode cX7_readsOrder 10 = .ok (.bipush 111, 2) := by decide +kernel
theorem dX7_readsOrder_12 : decode cX7_readsOrder 12 = .ok (.invokevirtual 213, 3) := by decide +kernel
theorem dX7_readsOrder_15 : decode cX7_readsOrder 15 = .ok (.ifCond .eq 44, 3) := by decide +kernel
theorem dX7_readsOrder_18 : decode cX7_readsOrder 18 = .ok (.aload_n 0, 1) := by decide +kernel
theorem dX7_readsOrder_19 : decode cX7_readsOrder 19 = .ok (.bipush 105, 2) := by decide +kernel
theorem dX7_readsOrder_21 : decode cX7_readsOrder 21 = .ok (.invokevirtual 213, 3) := by decide +kernel
theorem dX7_readsOrder_24 : decode cX7_readsOrder 24 = .ok (.ifCond .eq 35, 3) := by decide +kernel
theorem dX7_readsOrder_27 : decode cX7_readsOrder 27 = .ok (.aload_n 0, 1) := by decide +kernel
theorem dX7_readsOrder_28 : decode cX7_readsOrder 28 = .ok (.bipush 99, 2) := by decide +kernel
theorem dX7_readsOrder_30 : decode cX7_readsOrder 30 = .ok (.invokevirtual 213, 3) := by decide +kernel
theorem dX7_readsOrder_33 : decode cX7_readsOrder 33 = .ok (.ifCond .eq 26, 3) := by decide +kernel
theorem dX7_readsOrder_36 : decode cX7_readsOrder 36 = .ok (.aload_n 0, 1) := by decide +kernel
theorem dX7_readsOrder_37 : decode cX7_readsOrder 37 = .ok (.bipush 101, 2) := by decide +kernel
theorem dX7_readsOrder_39 : decode cX7_readsOrder 39 = .ok (.invokevirtual 213, 3) := by decide +kernel
theorem dX7_readsOrder_42 : decode cX7_readsOrder 42 = .ok (.ifCond .eq 17, 3) := by decide +kernel
theorem dX7_readsOrder_45 : decode cX7_readsOrder 45 = .ok (.aload_n 0, 1) := by decide +kernel
theorem dX7_readsOrder_46 : decode cX7_readsOrder 46 = .ok (.iconst 0, 1) := by decide +kernel
theorem dX7_readsOrder_47 : decode cX7_readsOrder 47 = .ok (.iconst 2, 1) := by decide +kernel
theorem dX7_readsOrder_48 : decode cX7_readsOrder 48 = .ok (.iconst 2, 1) := by decide +kernel
theorem dX7_readsOrder_49 : decode cX7_readsOrder 49 = .ok (.invokevirtual 222, 3) := by decide +kernel
theorem dX7_readsOrder_52 : decode cX7_readsOrder 52 = .ok (.ifCond .eq 7, 3) := by decide +kernel
theorem dX7_readsOrder_55 : decode cX7_readsOrder 55 = .ok (.iconst 1, 1) := by decide +kernel
theorem dX7_readsOrder_56 : decode cX7_readsOrder 56 = .ok (.goto 4, 3) := by decide +kernel
theorem dX7_readsOrder_59 : decode cX7_readsOrder 59 = .ok (.iconst 0, 1) := by decide +kernel
theorem dX7_readsOrder_60 : decode cX7_readsOrder 60 = .ok (.ireturn, 1) := by decide +kernel
theorem dX7_readsOrder_61 : decode cX7_readsOrder 61 = .ok (.aload_n 0, 1) := by decide +kernel
theorem dX7_readsOrder_62 : decode cX7_readsOrder 62 = .ok (.bipush 99, 2) := by decide +kernel
theorem dX7_readsOrder_64 : decode cX7_readsOrder 64 = .ok (.invokevirtual 213, 3) := by decide +kernel
theorem dX7_readsOrder_67 : decode cX7_readsOrder 67 = .ok (.ifCond .eq 64, 3) := by decide +kernel
theorem dX7_readsOrder_70 : decode cX7_readsOrder 70 = .ok (.aload_n 0, 1) := by decide +kernel
theorem dX7_readsOrder_71 : decode cX7_readsOrder 71 = .ok (.bipush 104, 2) := by decide +kernel
theorem dX7_readsOrder_73 : decode cX7_readsOrder 73 = .ok (.invokevirtual 213, 3) := by decide +kernel
theorem dX7_readsOrder_76 : decode cX7_readsOrder 76 = .ok (.ifCond .eq 53, 3) := by decide +kernel
theorem dX7_readsOrder_79 : decode cX7_readsOrder 79 = .ok (.aload_n 0, 1) := by decide +kernel
theorem dX7_readsOrder_80 : decode cX7_readsOrder 80 = .ok (.bipush 111, 2) := by decide +kernel
theorem dX7_readsOrder_82 : decode cX7_readsOrder 82 = .ok (.invokevirtual 213, 3) := by decide +kernel
theorem dX7_readsOrder_85 : decode cX7_readsOrder 85 = .ok (.ifCond .eq 44, 3) := by decide +kernel
theorem dX7_readsOrder_88 : decode cX7_readsOrder 88 = .ok (.aload_n 0, 1) := by decide +kernel
theorem dX7_readsOrder_89 : decode cX7_readsOrder 89 = .ok (.bipush 111, 2) := by decide +kernel
theorem dX7_readsOrder_91 : decode cX7_readsOrder 91 = .ok (.invokevirtual 213, 3) := by decide +kernel
theorem dX7_readsOrder_94 : decode cX7_readsOrder 94 = .ok (.ifCond .eq 35, 3) := by decide +kernel
theorem dX7_readsOrder_97 : decode cX7_readsOrder 97 = .ok (.aload_n 0, 1) := by decide +kernel
theorem dX7_readsOrder_98 : decode cX7_readsOrder 98 = .ok (.bipush 115, 2) := by decide +kernel
theorem dX7_readsOrder_100 : decode cX7_readsOrder 100 = .ok (.invokevirtual 213, 3) := by decide +kernel
theorem dX7_readsOrder_103 : decode cX7_readsOrder 103 = .ok (.ifCond .eq 26, 3) := by decide +kernel
theorem dX7_readsOrder_106 : decode cX7_readsOrder 106 = .ok (.aload_n 0, 1) := by decide +kernel
theorem dX7_readsOrder_107 : decode cX7_readsOrder 107 = .ok (.bipush 101, 2) := by decide +kernel
theorem dX7_readsOrder_109 : decode cX7_readsOrder 109 = .ok (.invokevirtual 213, 3) := by decide +kernel
theorem dX7_readsOrder_112 : decode cX7_readsOrder 112 = .ok (.ifCond .eq 17, 3) := by decide +kernel
theorem dX7_readsOrder_115 : decode cX7_readsOrder 115 = .ok (.aload_n 0, 1) := by decide +kernel
theorem dX7_readsOrder_116 : decode cX7_readsOrder 116 = .ok (.iconst 1, 1) := by decide +kernel
theorem dX7_readsOrder_117 : decode cX7_readsOrder 117 = .ok (.iconst 1, 1) := by decide +kernel
theorem dX7_readsOrder_118 : decode cX7_readsOrder 118 = .ok (.iconst 0, 1) := by decide +kernel
theorem dX7_readsOrder_119 : decode cX7_readsOrder 119 = .ok (.invokevirtual 222, 3) := by decide +kernel
theorem dX7_readsOrder_122 : decode cX7_readsOrder 122 = .ok (.ifCond .eq 7, 3) := by decide +kernel
theorem dX7_readsOrder_125 : decode cX7_readsOrder 125 = .ok (.iconst 1, 1) := by decide +kernel
theorem dX7_readsOrder_126 : decode cX7_readsOrder 126 = .ok (.goto 4, 3) := by decide +kernel
theorem dX7_readsOrder_129 : decode cX7_readsOrder 129 = .ok (.iconst 0, 1) := by decide +kernel
theorem dX7_readsOrder_130 : decode cX7_readsOrder 130 = .ok (.ireturn, 1) := by decide +kernel
theorem dX7_readsOrder_131 : decode cX7_readsOrder 131 = .ok (.aload_n 0, 1) := by decide +kernel
theorem dX7_readsOrder_132 : decode cX7_readsOrder 132 = .ok (.bipush 108, 2) := by decide +kernel
theorem dX7_readsOrder_134 : decode cX7_readsOrder 134 = .ok (.invokevirtual 213, 3) := by decide +kernel
theorem dX7_readsOrder_137 : decode cX7_readsOrder 137 = .ok (.ifCond .eq 55, 3) := by decide +kernel
theorem dX7_readsOrder_140 : decode cX7_readsOrder 140 = .ok (.aload_n 0, 1) := by decide +kernel
theorem dX7_readsOrder_141 : decode cX7_readsOrder 141 = .ok (.bipush 101, 2) := by decide +kernel
theorem dX7_readsOrder_143 : decode cX7_readsOrder 143 = .ok (.invokevirtual 213, 3) := by decide +kernel
theorem dX7_readsOrder_146 : decode cX7_readsOrder 146 = .ok (.ifCond .eq 44, 3) := by decide +kernel
theorem dX7_readsOrder_149 : decode cX7_readsOrder 149 = .ok (.aload_n 0, 1) := by decide +kernel
theorem dX7_readsOrder_150 : decode cX7_readsOrder 150 = .ok (.bipush 97, 2) := by decide +kernel
theorem dX7_readsOrder_152 : decode cX7_readsOrder 152 = .ok (.invokevirtual 213, 3) := by decide +kernel
theorem dX7_readsOrder_155 : decode cX7_readsOrder 155 = .ok (.ifCond .eq 35, 3) := by decide +kernel
theorem dX7_readsOrder_158 : decode cX7_readsOrder 158 = .ok (.aload_n 0, 1) := by decide +kernel
theorem dX7_readsOrder_159 : decode cX7_readsOrder 159 = .ok (.bipush 118, 2) := by decide +kernel
theorem dX7_readsOrder_161 : decode cX7_readsOrder 161 = .ok (.invokevirtual 213, 3) := by decide +kernel
theorem dX7_readsOrder_164 : decode cX7_readsOrder 164 = .ok (.ifCond .eq 26, 3) := by decide +kernel
theorem dX7_readsOrder_167 : decode cX7_readsOrder 167 = .ok (.aload_n 0, 1) := by decide +kernel
theorem dX7_readsOrder_168 : decode cX7_readsOrder 168 = .ok (.bipush 101, 2) := by decide +kernel
theorem dX7_readsOrder_170 : decode cX7_readsOrder 170 = .ok (.invokevirtual 213, 3) := by decide +kernel
theorem dX7_readsOrder_173 : decode cX7_readsOrder 173 = .ok (.ifCond .eq 17, 3) := by decide +kernel
theorem dX7_readsOrder_176 : decode cX7_readsOrder 176 = .ok (.aload_n 0, 1) := by decide +kernel
theorem dX7_readsOrder_177 : decode cX7_readsOrder 177 = .ok (.iconst 2, 1) := by decide +kernel
theorem dX7_readsOrder_178 : decode cX7_readsOrder 178 = .ok (.iconst 1, 1) := by decide +kernel
theorem dX7_readsOrder_179 : decode cX7_readsOrder 179 = .ok (.iconst 0, 1) := by decide +kernel
theorem dX7_readsOrder_180 : decode cX7_readsOrder 180 = .ok (.invokevirtual 222, 3) := by decide +kernel
theorem dX7_readsOrder_183 : decode cX7_readsOrder 183 = .ok (.ifCond .eq 7, 3) := by decide +kernel
theorem dX7_readsOrder_186 : decode cX7_readsOrder 186 = .ok (.iconst 1, 1) := by decide +kernel
theorem dX7_readsOrder_187 : decode cX7_readsOrder 187 = .ok (.goto 4, 3) := by decide +kernel
theorem dX7_readsOrder_190 : decode cX7_readsOrder 190 = .ok (.iconst 0, 1) := by decide +kernel
theorem dX7_readsOrder_191 : decode cX7_readsOrder 191 = .ok (.ireturn, 1) := by decide +kernel
theorem dX7_readsOrder_192 : decode cX7_readsOrder 192 = .ok (.aload_n 0, 1) := by decide +kernel
theorem dX7_readsOrder_193 : decode cX7_readsOrder 193 = .ok (.bipush 98, 2) := by decide +kernel
theorem dX7_readsOrder_195 : decode cX7_readsOrder 195 = .ok (.invokevirtual 213, 3) := by decide +kernel
theorem dX7_readsOrder_198 : decode cX7_readsOrder 198 = .ok (.ifCond .eq 64, 3) := by decide +kernel
theorem dX7_readsOrder_201 : decode cX7_readsOrder 201 = .ok (.aload_n 0, 1) := by decide +kernel
theorem dX7_readsOrder_202 : decode cX7_readsOrder 202 = .ok (.bipush 114, 2) := by decide +kernel
theorem dX7_readsOrder_204 : decode cX7_readsOrder 204 = .ok (.invokevirtual 213, 3) := by decide +kernel
theorem dX7_readsOrder_207 : decode cX7_readsOrder 207 = .ok (.ifCond .eq 53, 3) := by decide +kernel
theorem dX7_readsOrder_210 : decode cX7_readsOrder 210 = .ok (.aload_n 0, 1) := by decide +kernel
theorem dX7_readsOrder_211 : decode cX7_readsOrder 211 = .ok (.bipush 101, 2) := by decide +kernel
theorem dX7_readsOrder_213 : decode cX7_readsOrder 213 = .ok (.invokevirtual 213, 3) := by decide +kernel
theorem dX7_readsOrder_216 : decode cX7_readsOrder 216 = .ok (.ifCond .eq 44, 3) := by decide +kernel
theorem dX7_readsOrder_219 : decode cX7_readsOrder 219 = .ok (.aload_n 0, 1) := by decide +kernel
theorem dX7_readsOrder_220 : decode cX7_readsOrder 220 = .ok (.bipush 97, 2) := by decide +kernel
theorem dX7_readsOrder_222 : decode cX7_readsOrder 222 = .ok (.invokevirtual 213, 3) := by decide +kernel
theorem dX7_readsOrder_225 : decode cX7_readsOrder 225 = .ok (.ifCond .eq 35, 3) := by decide +kernel
theorem dX7_readsOrder_228 : decode cX7_readsOrder 228 = .ok (.aload_n 0, 1) := by decide +kernel
theorem dX7_readsOrder_229 : decode cX7_readsOrder 229 = .ok (.bipush 99, 2) := by decide +kernel
theorem dX7_readsOrder_231 : decode cX7_readsOrder 231 = .ok (.invokevirtual 213, 3) := by decide +kernel
theorem dX7_readsOrder_234 : decode cX7_readsOrder 234 = .ok (.ifCond .eq 26, 3) := by decide +kernel
theorem dX7_readsOrder_237 : decode cX7_readsOrder 237 = .ok (.aload_n 0, 1) := by decide +kernel
theorem dX7_readsOrder_238 : decode cX7_readsOrder 238 = .ok (.bipush 104, 2) := by decide +kernel
theorem dX7_readsOrder_240 : decode cX7_readsOrder 240 = .ok (.invokevirtual 213, 3) := by decide +kernel
theorem dX7_readsOrder_243 : decode cX7_readsOrder 243 = .ok (.ifCond .eq 17, 3) := by decide +kernel
theorem dX7_readsOrder_246 : decode cX7_readsOrder 246 = .ok (.aload_n 0, 1) := by decide +kernel
theorem dX7_readsOrder_247 : decode cX7_readsOrder 247 = .ok (.iconst 3, 1) := by decide +kernel
theorem dX7_readsOrder_248 : decode cX7_readsOrder 248 = .ok (.iconst 2, 1) := by decide +kernel
theorem dX7_readsOrder_249 : decode cX7_readsOrder 249 = .ok (.iconst 1, 1) := by decide +kernel
theorem dX7_readsOrder_250 : decode cX7_readsOrder 250 = .ok (.invokevirtual 222, 3) := by decide +kernel
theorem dX7_readsOrder_253 : decode cX7_readsOrder 253 = .ok (.ifCond .eq 7, 3) := by decide +kernel
theorem dX7_readsOrder_256 : decode cX7_readsOrder 256 = .ok (.iconst 1, 1) := by decide +kernel
theorem dX7_readsOrder_257 : decode cX7_readsOrder 257 = .ok (.goto 4, 3) := by decide +kernel
theorem dX7_readsOrder_260 : decode cX7_readsOrder 260 = .ok (.iconst 0, 1) := by decide +kernel
theorem dX7_readsOrder_261 : decode cX7_readsOrder 261 = .ok (.ireturn, 1) := by decide +kernel
theorem dX7_readsOrder_262 : decode cX7_readsOrder 262 = .ok (.aload_n 0, 1) := by decide +kernel
theorem dX7_readsOrder_263 : decode cX7_readsOrder 263 = .ok (.bipush 112, 2) := by decide +kernel
theorem dX7_readsOrder_265 : decode cX7_readsOrder 265 = .ok (.invokevirtual 213, 3) := by decide +kernel
theorem dX7_readsOrder_268 : decode cX7_readsOrder 268 = .ok (.ifCond .eq 64, 3) := by decide +kernel
theorem dX7_readsOrder_271 : decode cX7_readsOrder 271 = .ok (.aload_n 0, 1) := by decide +kernel
theorem dX7_readsOrder_272 : decode cX7_readsOrder 272 = .ok (.bipush 97, 2) := by decide +kernel
theorem dX7_readsOrder_274 : decode cX7_readsOrder 274 = .ok (.invokevirtual 213, 3) := by decide +kernel
theorem dX7_readsOrder_277 : decode cX7_readsOrder 277 = .ok (.ifCond .eq 53, 3) := by decide +kernel
theorem dX7_readsOrder_280 : decode cX7_readsOrder 280 = .ok (.aload_n 0, 1) := by decide +kernel
theorem dX7_readsOrder_281 : decode cX7_readsOrder 281 = .ok (.bipush 114, 2) := by decide +kernel
theorem dX7_readsOrder_283 : decode cX7_readsOrder 283 = .ok (.invokevirtual 213, 3) := by decide +kernel
theorem dX7_readsOrder_286 : decode cX7_readsOrder 286 = .ok (.ifCond .eq 44, 3) := by decide +kernel
theorem dX7_readsOrder_289 : decode cX7_readsOrder 289 = .ok (.aload_n 0, 1) := by decide +kernel
theorem dX7_readsOrder_290 : decode cX7_readsOrder 290 = .ok (.bipush 100, 2) := by decide +kernel
theorem dX7_readsOrder_292 : decode cX7_readsOrder 292 = .ok (.invokevirtual 213, 3) := by decide +kernel
theorem dX7_readsOrder_295 : decode cX7_readsOrder 295 = .ok (.ifCond .eq 35, 3) := by decide +kernel
theorem dX7_readsOrder_298 : decode cX7_readsOrder 298 = .ok (.aload_n 0, 1) := by decide +kernel
theorem dX7_readsOrder_299 : decode cX7_readsOrder 299 = .ok (.bipush 111, 2) := by decide +kernel
theorem dX7_readsOrder_301 : decode cX7_readsOrder 301 = .ok (.invokevirtual 213, 3) := by decide +kernel
theorem dX7_readsOrder_304 : decode cX7_readsOrder 304 = .ok (.ifCond .eq 26, 3) := by decide +kernel
theorem dX7_readsOrder_307 : decode cX7_readsOrder 307 = .ok (.aload_n 0, 1) := by decide +kernel
theorem dX7_readsOrder_308 : decode cX7_readsOrder 308 = .ok (.bipush 110, 2) := by decide +kernel
theorem dX7_readsOrder_310 : decode cX7_readsOrder 310 = .ok (.invokevirtual 213, 3) := by decide +kernel
theorem dX7_readsOrder_313 : decode cX7_readsOrder 313 = .ok (.ifCond .eq 17, 3) := by decide +kernel
theorem dX7_readsOrder_316 : decode cX7_readsOrder 316 = .ok (.aload_n 0, 1) := by decide +kernel
theorem dX7_readsOrder_317 : decode cX7_readsOrder 317 = .ok (.iconst 4, 1) := by decide +kernel
theorem dX7_readsOrder_318 : decode cX7_readsOrder 318 = .ok (.iconst 2, 1) := by decide +kernel
theorem dX7_readsOrder_319 : decode cX7_readsOrder 319 = .ok (.iconst 0, 1) := by decide +kernel
theorem dX7_readsOrder_320 : decode cX7_readsOrder 320 = .ok (.invokevirtual 222, 3) := by decide +kernel
theorem dX7_readsOrder_323 : decode cX7_readsOrder 323 = .ok (.ifCond .eq 7, 3) := by decide +kernel
theorem dX7_readsOrder_326 : decode cX7_readsOrder 326 = .ok (.iconst 1, 1) := by decide +kernel
theorem dX7_readsOrder_327 : decode cX7_readsOrder 327 = .ok (.goto 4, 3) := by decide +kernel
theorem dX7_readsOrder_330 : decode cX7_readsOrder 330 = .ok (.iconst 0, 1) := by decide +kernel
theorem dX7_readsOrder_331 : decode cX7_readsOrder 331 = .ok (.ireturn, 1) := by decide +kernel
theorem dX7_readsOrder_332 : decode cX7_readsOrder 332 = .ok (.aload_n 0, 1) := by decide +kernel
theorem dX7_readsOrder_333 : decode cX7_readsOrder 333 = .ok (.bipush 102, 2) := by decide +kernel
theorem dX7_readsOrder_335 : decode cX7_readsOrder 335 = .ok (.invokevirtual 213, 3) := by decide +kernel
theorem dX7_readsOrder_338 : decode cX7_readsOrder 338 = .ok (.ifCond .eq 55, 3) := by decide +kernel
theorem dX7_readsOrder_341 : decode cX7_readsOrder 341 = .ok (.aload_n 0, 1) := by decide +kernel
theorem dX7_readsOrder_342 : decode cX7_readsOrder 342 = .ok (.bipush 101, 2) := by decide +kernel
theorem dX7_readsOrder_344 : decode cX7_readsOrder 344 = .ok (.invokevirtual 213, 3) := by decide +kernel
theorem dX7_readsOrder_347 : decode cX7_readsOrder 347 = .ok (.ifCond .eq 44, 3) := by decide +kernel
theorem dX7_readsOrder_350 : decode cX7_readsOrder 350 = .ok (.aload_n 0, 1) := by decide +kernel
theorem dX7_readsOrder_351 : decode cX7_readsOrder 351 = .ok (.bipush 97, 2) := by decide +kernel
theorem dX7_readsOrder_353 : decode cX7_readsOrder 353 = .ok (.invokevirtual 213, 3) := by decide +kernel
theorem dX7_readsOrder_356 : decode cX7_readsOrder 356 = .ok (.ifCond .eq 35, 3) := by decide +kernel
theorem dX7_readsOrder_359 : decode cX7_readsOrder 359 = .ok (.aload_n 0, 1) := by decide +kernel
theorem dX7_readsOrder_360 : decode cX7_readsOrder 360 = .ok (.bipush 115, 2) := by decide +kernel
theorem dX7_readsOrder_362 : decode cX7_readsOrder 362 = .ok (.invokevirtual 213, 3) := by decide +kernel
theorem dX7_readsOrder_365 : decode cX7_readsOrder 365 = .ok (.ifCond .eq 26, 3) := by decide +kernel
theorem dX7_readsOrder_368 : decode cX7_readsOrder 368 = .ok (.aload_n 0, 1) := by decide +kernel
theorem dX7_readsOrder_369 : decode cX7_readsOrder 369 = .ok (.bipush 116, 2) := by decide +kernel
theorem dX7_readsOrder_371 : decode cX7_readsOrder 371 = .ok (.invokevirtual 213, 3) := by decide +kernel
theorem dX7_readsOrder_374 : decode cX7_readsOrder 374 = .ok (.ifCond .eq 17, 3) := by decide +kernel
theorem dX7_readsOrder_377 : decode cX7_readsOrder 377 = .ok (.aload_n 0, 1) := by decide +kernel
theorem dX7_readsOrder_378 : decode cX7_readsOrder 378 = .ok (.iconst 5, 1) := by decide +kernel
theorem dX7_readsOrder_379 : decode cX7_readsOrder 379 = .ok (.iconst 2, 1) := by decide +kernel
theorem dX7_readsOrder_380 : decode cX7_readsOrder 380 = .ok (.iconst 1, 1) := by decide +kernel
theorem dX7_readsOrder_381 : decode cX7_readsOrder 381 = .ok (.invokevirtual 222, 3) := by decide +kernel
theorem dX7_readsOrder_384 : decode cX7_readsOrder 384 = .ok (.ifCond .eq 7, 3) := by decide +kernel
theorem dX7_readsOrder_387 : decode cX7_readsOrder 387 = .ok (.iconst 1, 1) := by decide +kernel
theorem dX7_readsOrder_388 : decode cX7_readsOrder 388 = .ok (.goto 4, 3) := by decide +kernel
theorem dX7_readsOrder_391 : decode cX7_readsOrder 391 = .ok (.iconst 0, 1) := by decide +kernel
theorem dX7_readsOrder_392 : decode cX7_readsOrder 392 = .ok (.ireturn, 1) := by decide +kernel
theorem dX7_readsOrder_393 : decode cX7_readsOrder 393 = .ok (.aload_n 0, 1) := by decide +kernel
theorem dX7_readsOrder_394 : decode cX7_readsOrder 394 = .ok (.bipush 103, 2) := by decide +kernel
theorem dX7_readsOrder_396 : decode cX7_readsOrder 396 = .ok (.invokevirtual 213, 3) := by decide +kernel
theorem dX7_readsOrder_399 : decode cX7_readsOrder 399 = .ok (.ifCond .eq 47, 3) := by decide +kernel
theorem dX7_readsOrder_402 : decode cX7_readsOrder 402 = .ok (.aload_n 0, 1) := by decide +kernel
theorem dX7_readsOrder_403 : decode cX7_readsOrder 403 = .ok (.bipush 105, 2) := by decide +kernel
theorem dX7_readsOrder_405 : decode cX7_readsOrder 405 = .ok (.invokevirtual 213, 3) := by decide +kernel
theorem dX7_readsOrder_408 : decode cX7_readsOrder 408 = .ok (.ifCond .eq 36, 3) := by decide +kernel
theorem dX7_readsOrder_411 : decode cX7_readsOrder 411 = .ok (.aload_n 0, 1) := by decide +kernel
theorem dX7_readsOrder_412 : decode cX7_readsOrder 412 = .ok (.bipush 102, 2) := by decide +kernel
theorem dX7_readsOrder_414 : decode cX7_readsOrder 414 = .ok (.invokevirtual 213, 3) := by decide +kernel
theorem dX7_readsOrder_417 : decode cX7_readsOrder 417 = .ok (.ifCond .eq 27, 3) := by decide +kernel
theorem dX7_readsOrder_420 : decode cX7_readsOrder 420 = .ok (.aload_n 0, 1) := by decide +kernel
theorem dX7_readsOrder_421 : decode cX7_readsOrder 421 = .ok (.bipush 116, 2) := by decide +kernel
theorem dX7_readsOrder_423 : decode cX7_readsOrder 423 = .ok (.invokevirtual 213, 3) := by decide +kernel
theorem dX7_readsOrder_426 : decode cX7_readsOrder 426 = .ok (.ifCond .eq 18, 3) := by decide +kernel
theorem dX7_readsOrder_429 : decode cX7_readsOrder 429 = .ok (.aload_n 0, 1) := by decide +kernel
theorem dX7_readsOrder_430 : decode cX7_readsOrder 430 = .ok (.bipush 6, 2) := by decide +kernel
theorem dX7_readsOrder_432 : decode cX7_readsOrder 432 = .ok (.iconst 3, 1) := by decide +kernel
theorem dX7_readsOrder_433 : decode cX7_readsOrder 433 = .ok (.iconst 0, 1) := by decide +kernel
theorem dX7_readsOrder_434 : decode cX7_readsOrder 434 = .ok (.invokevirtual 222, 3) := by decide +kernel
theorem dX7_readsOrder_437 : decode cX7_readsOrder 437 = .ok (.ifCond .eq 7, 3) := by decide +kernel
theorem dX7_readsOrder_440 : decode cX7_readsOrder 440 = .ok (.iconst 1, 1) := by decide +kernel
theorem dX7_readsOrder_441 : decode cX7_readsOrder 441 = .ok (.goto 4, 3) := by decide +kernel
theorem dX7_readsOrder_444 : decode cX7_readsOrder 444 = .ok (.iconst 0, 1) := by decide +kernel
theorem dX7_readsOrder_445 : decode cX7_readsOrder 445 = .ok (.ireturn, 1) := by decide +kernel
theorem dX7_readsOrder_446 : decode cX7_readsOrder 446 = .ok (.aload_n 0, 1) := by decide +kernel
theorem dX7_readsOrder_447 : decode cX7_readsOrder 447 = .ok (.bipush 119, 2) := by decide +kernel
theorem dX7_readsOrder_449 : decode cX7_readsOrder 449 = .ok (.invokevirtual 213, 3) := by decide +kernel
theorem dX7_readsOrder_452 : decode cX7_readsOrder 452 = .ok (.ifCond .eq 54, 3) := by decide +kernel
theorem dX7_readsOrder_455 : decode cX7_readsOrder 455 = .ok (.aload_n 0, 1) := by decide +kernel
theorem dX7_readsOrder_456 : decode cX7_readsOrder 456 = .ok (.bipush 101, 2) := by decide +kernel
theorem dX7_readsOrder_458 : decode cX7_readsOrder 458 = .ok (.invokevirtual 213, 3) := by decide +kernel
theorem dX7_readsOrder_461 : decode cX7_readsOrder 461 = .ok (.ifCond .eq 45, 3) := by decide +kernel
theorem dX7_readsOrder_464 : decode cX7_readsOrder 464 = .ok (.aload_n 0, 1) := by decide +kernel
theorem dX7_readsOrder_465 : decode cX7_readsOrder 465 = .ok (.bipush 101, 2) := by decide +kernel
theorem dX7_readsOrder_467 : decode cX7_readsOrder 467 = .ok (.invokevirtual 213, 3) := by decide +kernel
theorem dX7_readsOrder_470 : decode cX7_readsOrder 470 = .ok (.ifCond .eq 36, 3) := by decide +kernel
theorem dX7_readsOrder_473 : decode cX7_readsOrder 473 = .ok (.aload_n 0, 1) := by decide +kernel
theorem dX7_readsOrder_474 : decode cX7_readsOrder 474 = .ok (.bipush 107, 2) := by decide +kernel
theorem dX7_readsOrder_476 : decode cX7_readsOrder 476 = .ok (.invokevirtual 213, 3) := by decide +kernel
theorem dX7_readsOrder_479 : decode cX7_readsOrder 479 = .ok (.ifCond .eq 27, 3) := by decide +kernel
theorem dX7_readsOrder_482 : decode cX7_readsOrder 482 = .ok (.aload_n 0, 1) := by decide +kernel
theorem dX7_readsOrder_483 : decode cX7_readsOrder 483 = .ok (.bipush 115, 2) := by decide +kernel
theorem dX7_readsOrder_485 : decode cX7_readsOrder 485 = .ok (.invokevirtual 213, 3) := by decide +kernel
theorem dX7_readsOrder_488 : decode cX7_readsOrder 488 = .ok (.ifCond .eq 18, 3) := by decide +kernel
theorem dX7_readsOrder_491 : decode cX7_readsOrder 491 = .ok (.aload_n 0, 1) := by decide +kernel
theorem dX7_readsOrder_492 : decode cX7_readsOrder 492 = .ok (.bipush 7, 2) := by decide +kernel
theorem dX7_readsOrder_494 : decode cX7_readsOrder 494 = .ok (.iconst 2, 1) := by decide +kernel
theorem dX7_readsOrder_495 : decode cX7_readsOrder 495 = .ok (.iconst 0, 1) := by decide +kernel
theorem dX7_readsOrder_496 : decode cX7_readsOrder 496 = .ok (.invokevirtual 222, 3) := by decide +kernel
theorem dX7_readsOrder_499 : decode cX7_readsOrder 499 = .ok (.ifCond .eq 7, 3) := by decide +kernel
theorem dX7_readsOrder_502 : decode cX7_readsOrder 502 = .ok (.iconst 1, 1) := by decide +kernel
theorem dX7_readsOrder_503 : decode cX7_readsOrder 503 = .ok (.goto 4, 3) := by decide +kernel
theorem dX7_readsOrder_506 : decode cX7_readsOrder 506 = .ok (.iconst 0, 1) := by decide +kernel
theorem dX7_readsOrder_507 : decode cX7_readsOrder 507 = .ok (.ireturn, 1) := by decide +kernel
theorem dX7_readsAll_0 : decode cX7_readsAll 0 = .ok (.aload_n 0, 1) := by decide +kernel
theorem dX7_readsAll_1 : decode cX7_readsAll 1 = .ok (.iconst 0, 1) := by decide +kernel
theorem dX7_readsAll_2 : decode cX7_readsAll 2 = .ok (.putfield 207, 3) := by decide +kernel
theorem dX7_readsAll_5 : decode cX7_readsAll 5 = .ok (.iconst 1, 1) := by decide +kernel
theorem dX7_readsAll_6 : decode cX7_readsAll 6 = .ok (.istore_n 1, 1) := by decide +kernel
theorem dX7_readsAll_7 : decode cX7_readsAll 7 = .ok (.iload_n 1, 1) := by decide +kernel
theorem dX7_readsAll_8 : decode cX7_readsAll 8 = .ok (.ifCond .eq 22, 3) := by decide +kernel
theorem dX7_readsAll_11 : decode cX7_readsAll 11 = .ok (.aload_n 0, 1) := by decide +kernel
theorem dX7_readsAll_12 : decode cX7_readsAll 12 = .ok (.invokevirtual 225, 3) := by decide +kernel
theorem dX7_readsAll_15 : decode cX7_readsAll 15 = .ok (.ifCond .ne 5, 3) := by decide +kernel
theorem dX7_readsAll_18 : decode cX7_readsAll 18 = .ok (.iconst 0, 1) := by decide +kernel
theorem dX7_readsAll_19 : decode cX7_readsAll 19 = .ok (.ireturn, 1) := by decide +kernel
theorem dX7_readsAll_20 : decode cX7_readsAll 20 = .ok (.aload_n 0, 1) := by decide +kernel
theorem dX7_readsAll_21 : decode cX7_readsAll 21 = .ok (.bipush 59, 2) := by decide +kernel
theorem dX7_readsAll_23 : decode cX7_readsAll 23 = .ok (.invokevirtual 213, 3) := by decide +kernel
theorem dX7_readsAll_26 : decode cX7_readsAll 26 = .ok (.istore_n 1, 1) := by decide +kernel
theorem dX7_readsAll_27 : decode cX7_readsAll 27 = .ok (.goto (-20), 3) := by decide +kernel
theorem dX7_readsAll_30 : decode cX7_readsAll 30 = .ok (.aload_n 0, 1) := by decide +kernel
theorem dX7_readsAll_31 : decode cX7_readsAll 31 = .ok (.getfield 207, 3) := by decide +kernel
theorem dX7_readsAll_34 : decode cX7_readsAll 34 = .ok (.aload_n 0, 1) := by decide +kernel
theorem dX7_readsAll_35 : decode cX7_readsAll 35 = .ok (.getfield 204, 3) := by decide +kernel
theorem dX7_readsAll_38 : decode cX7_readsAll 38 = .ok (.if_icmp .ne 7, 3) := by decide +kernel
theorem dX7_readsAll_41 : decode cX7_readsAll 41 = .ok (.iconst 1, 1) := by decide +kernel
theorem dX7_readsAll_42 : decode cX7_readsAll 42 = .ok (.goto 4, 3) := by decide +kernel
theorem dX7_readsAll_45 : decode cX7_readsAll 45 = .ok (.iconst 0, 1) := by decide +kernel
theorem dX7_readsAll_46 : decode cX7_readsAll 46 = .ok (.ireturn, 1) := by decide +kernel
theorem dX7_notNow_0 : decode cX7_notNow 0 = .ok (.aload_n 0, 1) := by decide +kernel
theorem dX7_notNow_1 : decode cX7_notNow 1 = .ok (.getfield 29, 3) := by decide +kernel
theorem dX7_notNow_4 : decode cX7_notNow 4 = .ok (.iconst 0, 1) := by decide +kernel
theorem dX7_notNow_5 : decode cX7_notNow 5 = .ok (.iaload, 1) := by decide +kernel
theorem dX7_notNow_6 : decode cX7_notNow 6 = .ok (.istore_n 1, 1) := by decide +kernel
theorem dX7_notNow_7 : decode cX7_notNow 7 = .ok (.aload_n 0, 1) := by decide +kernel
theorem dX7_notNow_8 : decode cX7_notNow 8 = .ok (.getfield 29, 3) := by decide +kernel
theorem dX7_notNow_11 : decode cX7_notNow 11 = .ok (.iconst 1, 1) := by decide +kernel
theorem dX7_notNow_12 : decode cX7_notNow 12 = .ok (.iaload, 1) := by decide +kernel
theorem dX7_notNow_13 : decode cX7_notNow 13 = .ok (.istore_n 2, 1) := by decide +kernel
theorem dX7_notNow_14 : decode cX7_notNow 14 = .ok (.aload_n 0, 1) := by decide +kernel
theorem dX7_notNow_15 : decode cX7_notNow 15 = .ok (.getfield 216, 3) := by decide +kernel
theorem dX7_notNow_18 : decode cX7_notNow 18 = .ok (.tableswitch 99 0 6 #[42, 49, 55, 61, 68, 74, 81], 42) := by decide +kernel
theorem dX7_notNow_60 : decode cX7_notNow 60 = .ok (.aload_n 0, 1) := by decide +kernel
theorem dX7_notNow_61 : decode cX7_notNow 61 = .ok (.iload_n 1, 1) := by decide +kernel
theorem dX7_notNow_62 : decode cX7_notNow 62 = .ok (.iload_n 2, 1) := by decide +kernel
theorem dX7_notNow_63 : decode cX7_notNow 63 = .ok (.invokevirtual 110, 3) := by decide +kernel
theorem dX7_notNow_66 : decode cX7_notNow 66 = .ok (.ireturn, 1) := by decide +kernel
theorem dX7_notNow_67 : decode cX7_notNow 67 = .ok (.aload_n 0, 1) := by decide +kernel
theorem dX7_notNow_68 : decode cX7_notNow 68 = .ok (.iload_n 1, 1) := by decide +kernel
theorem dX7_notNow_69 : decode cX7_notNow 69 = .ok (.invokevirtual 128, 3) := by decide +kernel
theorem dX7_notNow_72 : decode cX7_notNow 72 = .ok (.ireturn, 1) := by decide +kernel
theorem dX7_notNow_73 : decode cX7_notNow 73 = .ok (.aload_n 0, 1) := by decide +kernel
theorem dX7_notNow_74 : decode cX7_notNow 74 = .ok (.iload_n 1, 1) := by decide +kernel
theorem dX7_notNow_75 : decode cX7_notNow 75 = .ok (.invokevirtual 134, 3) := by decide +kernel
theorem dX7_notNow_78 : decode cX7_notNow 78 = .ok (.ireturn, 1) := by decide +kernel
theorem dX7_notNow_79 : decode cX7_notNow 79 = .ok (.aload_n 0, 1) := by decide +kernel
theorem dX7_notNow_80 : decode cX7_notNow 80 = .ok (.iload_n 1, 1) := by decide +kernel
theorem dX7_notNow_81 : decode cX7_notNow 81 = .ok (.iload_n 2, 1) := by decide +kernel
theorem dX7_notNow_82 : decode cX7_notNow 82 = .ok (.invokevirtual 146, 3) := by decide +kernel
theorem dX7_notNow_85 : decode cX7_notNow 85 = .ok (.ireturn, 1) := by decide +kernel
theorem dX7_notNow_86 : decode cX7_notNow 86 = .ok (.aload_n 0, 1) := by decide +kernel
theorem dX7_notNow_87 : decode cX7_notNow 87 = .ok (.iload_n 1, 1) := by decide +kernel
theorem dX7_notNow_88 : decode cX7_notNow 88 = .ok (.invokevirtual 152, 3) := by decide +kernel
theorem dX7_notNow_91 : decode cX7_notNow 91 = .ok (.ireturn, 1) := by decide +kernel
theorem dX7_notNow_92 : decode cX7_notNow 92 = .ok (.aload_n 0, 1) := by decide +kernel
theorem dX7_notNow_93 : decode cX7_notNow 93 = .ok (.iload_n 1, 1) := by decide +kernel
theorem dX7_notNow_94 : decode cX7_notNow 94 = .ok (.iload_n 2, 1) := by decide +kernel
theorem dX7_notNow_95 : decode cX7_notNow 95 = .ok (.invokevirtual 140, 3) := by decide +kernel
theorem dX7_notNow_98 : decode cX7_notNow 98 = .ok (.ireturn, 1) := by decide +kernel
theorem dX7_notNow_99 : decode cX7_notNow 99 = .ok (.iload_n 1, 1) := by decide +kernel
theorem dX7_notNow_100 : decode cX7_notNow 100 = .ok (.iconst 1, 1) := by decide +kernel
theorem dX7_notNow_101 : decode cX7_notNow 101 = .ok (.sipush 500, 3) := by decide +kernel
theorem dX7_notNow_104 : decode cX7_notNow 104 = .ok (.invokestatic 60, 3) := by decide +kernel
theorem dX7_notNow_107 : decode cX7_notNow 107 = .ok (.ifCond .eq 7, 3) := by decide +kernel
theorem dX7_notNow_110 : decode cX7_notNow 110 = .ok (.iconst 0, 1) := by decide +kernel
theorem dX7_notNow_111 : decode cX7_notNow 111 = .ok (.goto 5, 3) := by decide +kernel
theorem dX7_notNow_114 : decode cX7_notNow 114 = .ok (.bipush (-12), 2) := by decide +kernel
theorem dX7_notNow_116 : decode cX7_notNow 116 = .ok (.ireturn, 1) := by decide +kernel
theorem dX7_notNow_117 : decode cX7_notNow 117 = .ok (.iload_n 1, 1) := by decide +kernel
theorem dX7_notNow_118 : decode cX7_notNow 118 = .ok (.iconst 1, 1) := by decide +kernel
theorem dX7_notNow_119 : decode cX7_notNow 119 = .ok (.bipush 60, 2) := by decide +kernel
theorem dX7_notNow_121 : decode cX7_notNow 121 = .ok (.invokestatic 60, 3) := by decide +kernel
theorem dX7_notNow_124 : decode cX7_notNow 124 = .ok (.ifCond .eq 7, 3) := by decide +kernel
theorem dX7_notNow_127 : decode cX7_notNow 127 = .ok (.iconst 0, 1) := by decide +kernel
theorem dX7_notNow_128 : decode cX7_notNow 128 = .ok (.goto 5, 3) := by decide +kernel
theorem dX7_notNow_131 : decode cX7_notNow 131 = .ok (.bipush (-12), 2) := by decide +kernel
theorem dX7_notNow_133 : decode cX7_notNow 133 = .ok (.ireturn, 1) := by decide +kernel
theorem dX7_doesNow_0 : decode cX7_doesNow 0 = .ok (.aload_n 0, 1) := by decide +kernel
theorem dX7_doesNow_1 : decode cX7_doesNow 1 = .ok (.getfield 29, 3) := by decide +kernel
theorem dX7_doesNow_4 : decode cX7_doesNow 4 = .ok (.iconst 0, 1) := by decide +kernel
theorem dX7_doesNow_5 : decode cX7_doesNow 5 = .ok (.iaload, 1) := by decide +kernel
theorem dX7_doesNow_6 : decode cX7_doesNow 6 = .ok (.istore_n 1, 1) := by decide +kernel
theorem dX7_doesNow_7 : decode cX7_doesNow 7 = .ok (.aload_n 0, 1) := by decide +kernel
theorem dX7_doesNow_8 : decode cX7_doesNow 8 = .ok (.getfield 29, 3) := by decide +kernel
theorem dX7_doesNow_11 : decode cX7_doesNow 11 = .ok (.iconst 1, 1) := by decide +kernel
theorem dX7_doesNow_12 : decode cX7_doesNow 12 = .ok (.iaload, 1) := by decide +kernel
theorem dX7_doesNow_13 : decode cX7_doesNow 13 = .ok (.istore_n 2, 1) := by decide +kernel
theorem dX7_doesNow_14 : decode cX7_doesNow 14 = .ok (.aload_n 0, 1) := by decide +kernel
theorem dX7_doesNow_15 : decode cX7_doesNow 15 = .ok (.getfield 216, 3) := by decide +kernel
theorem dX7_doesNow_18 : decode cX7_doesNow 18 = .ok (.tableswitch 87 0 6 #[42, 49, 55, 61, 68, 74, 81], 42) := by decide +kernel
theorem dX7_doesNow_60 : decode cX7_doesNow 60 = .ok (.aload_n 0, 1) := by decide +kernel
theorem dX7_doesNow_61 : decode cX7_doesNow 61 = .ok (.iload_n 1, 1) := by decide +kernel
theorem dX7_doesNow_62 : decode cX7_doesNow 62 = .ok (.iload_n 2, 1) := by decide +kernel
theorem dX7_doesNow_63 : decode cX7_doesNow 63 = .ok (.invokevirtual 113, 3) := by decide +kernel
theorem dX7_doesNow_66 : decode cX7_doesNow 66 = .ok (.ireturn, 1) := by decide +kernel
theorem dX7_doesNow_67 : decode cX7_doesNow 67 = .ok (.aload_n 0, 1) := by decide +kernel
theorem dX7_doesNow_68 : decode cX7_doesNow 68 = .ok (.iload_n 1, 1) := by decide +kernel
theorem dX7_doesNow_69 : decode cX7_doesNow 69 = .ok (.invokevirtual 131, 3) := by decide +kernel
theorem dX7_doesNow_72 : decode cX7_doesNow 72 = .ok (.ireturn, 1) := by decide +kernel
theorem dX7_doesNow_73 : decode cX7_doesNow 73 = .ok (.aload_n 0, 1) := by decide +kernel
theorem dX7_doesNow_74 : decode cX7_doesNow 74 = .ok (.iload_n 1, 1) := by decide +kernel
theorem dX7_doesNow_75 : decode cX7_doesNow 75 = .ok (.invokevirtual 137, 3) := by decide +kernel
theorem dX7_doesNow_78 : decode cX7_doesNow 78 = .ok (.ireturn, 1) := by decide +kernel
theorem dX7_doesNow_79 : decode cX7_doesNow 79 = .ok (.aload_n 0, 1) := by decide +kernel
theorem dX7_doesNow_80 : decode cX7_doesNow 80 = .ok (.iload_n 1, 1) := by decide +kernel
theorem dX7_doesNow_81 : decode cX7_doesNow 81 = .ok (.iload_n 2, 1) := by decide +kernel
theorem dX7_doesNow_82 : decode cX7_doesNow 82 = .ok (.invokevirtual 149, 3) := by decide +kernel
theorem dX7_doesNow_85 : decode cX7_doesNow 85 = .ok (.ireturn, 1) := by decide +kernel
theorem dX7_doesNow_86 : decode cX7_doesNow 86 = .ok (.aload_n 0, 1) := by decide +kernel
theorem dX7_doesNow_87 : decode cX7_doesNow 87 = .ok (.iload_n 1, 1) := by decide +kernel
theorem dX7_doesNow_88 : decode cX7_doesNow 88 = .ok (.invokevirtual 155, 3) := by decide +kernel
theorem dX7_doesNow_91 : decode cX7_doesNow 91 = .ok (.ireturn, 1) := by decide +kernel
theorem dX7_doesNow_92 : decode cX7_doesNow 92 = .ok (.aload_n 0, 1) := by decide +kernel
theorem dX7_doesNow_93 : decode cX7_doesNow 93 = .ok (.iload_n 1, 1) := by decide +kernel
theorem dX7_doesNow_94 : decode cX7_doesNow 94 = .ok (.iload_n 2, 1) := by decide +kernel
theorem dX7_doesNow_95 : decode cX7_doesNow 95 = .ok (.invokevirtual 143, 3) := by decide +kernel
theorem dX7_doesNow_98 : decode cX7_doesNow 98 = .ok (.ireturn, 1) := by decide +kernel
theorem dX7_doesNow_99 : decode cX7_doesNow 99 = .ok (.aload_n 0, 1) := by decide +kernel
theorem dX7_doesNow_100 : decode cX7_doesNow 100 = .ok (.iload_n 1, 1) := by decide +kernel
theorem dX7_doesNow_101 : decode cX7_doesNow 101 = .ok (.invokevirtual 164, 3) := by decide +kernel
theorem dX7_doesNow_104 : decode cX7_doesNow 104 = .ok (.ireturn, 1) := by decide +kernel
theorem dX7_doesNow_105 : decode cX7_doesNow 105 = .ok (.aload_n 0, 1) := by decide +kernel
theorem dX7_doesNow_106 : decode cX7_doesNow 106 = .ok (.iload_n 1, 1) := by decide +kernel
theorem dX7_doesNow_107 : decode cX7_doesNow 107 = .ok (.invokevirtual 192, 3) := by decide +kernel
theorem dX7_doesNow_110 : decode cX7_doesNow 110 = .ok (.ireturn, 1) := by decide +kernel
theorem dX7_doesAll_0 : decode cX7_doesAll 0 = .ok (.aload_n 0, 1) := by decide +kernel
theorem dX7_doesAll_1 : decode cX7_doesAll 1 = .ok (.iconst 0, 1) := by decide +kernel
theorem dX7_doesAll_2 : decode cX7_doesAll 2 = .ok (.putfield 229, 3) := by decide +kernel
theorem dX7_doesAll_5 : decode cX7_doesAll 5 = .ok (.aload_n 0, 1) := by decide +kernel
theorem dX7_doesAll_6 : decode cX7_doesAll 6 = .ok (.iconst 0, 1) := by decide +kernel
theorem dX7_doesAll_7 : decode cX7_doesAll 7 = .ok (.putfield 207, 3) := by decide +kernel
theorem dX7_doesAll_10 : decode cX7_doesAll 10 = .ok (.iconst 1, 1) := by decide +kernel
theorem dX7_doesAll_11 : decode cX7_doesAll 11 = .ok (.istore_n 1, 1) := by decide +kernel
theorem dX7_doesAll_12 : decode cX7_doesAll 12 = .ok (.iload_n 1, 1) := by decide +kernel
theorem dX7_doesAll_13 : decode cX7_doesAll 13 = .ok (.ifCond .eq 44, 3) := by decide +kernel
theorem dX7_doesAll_16 : decode cX7_doesAll 16 = .ok (.aload_n 0, 1) := by decide +kernel
theorem dX7_doesAll_17 : decode cX7_doesAll 17 = .ok (.invokevirtual 225, 3) := by decide +kernel
theorem dX7_doesAll_20 : decode cX7_doesAll 20 = .ok (.ifCond .eq 10, 3) := by decide +kernel
theorem dX7_doesAll_23 : decode cX7_doesAll 23 = .ok (.aload_n 0, 1) := by decide +kernel
theorem dX7_doesAll_24 : decode cX7_doesAll 24 = .ok (.invokevirtual 232, 3) := by decide +kernel
theorem dX7_doesAll_27 : decode cX7_doesAll 27 = .ok (.ifCond .eq 5, 3) := by decide +kernel
theorem dX7_doesAll_30 : decode cX7_doesAll 30 = .ok (.iconst 0, 1) := by decide +kernel
theorem dX7_doesAll_31 : decode cX7_doesAll 31 = .ok (.ireturn, 1) := by decide +kernel
theorem dX7_doesAll_32 : decode cX7_doesAll 32 = .ok (.aload_n 0, 1) := by decide +kernel
theorem dX7_doesAll_33 : decode cX7_doesAll 33 = .ok (.invokevirtual 235, 3) := by decide +kernel
theorem dX7_doesAll_36 : decode cX7_doesAll 36 = .ok (.pop, 1) := by decide +kernel
theorem dX7_doesAll_37 : decode cX7_doesAll 37 = .ok (.aload_n 0, 1) := by decide +kernel
theorem dX7_doesAll_38 : decode cX7_doesAll 38 = .ok (.dup, 1) := by decide +kernel
theorem dX7_doesAll_39 : decode cX7_doesAll 39 = .ok (.getfield 229, 3) := by decide +kernel
theorem dX7_doesAll_42 : decode cX7_doesAll 42 = .ok (.iconst 1, 1) := by decide +kernel
theorem dX7_doesAll_43 : decode cX7_doesAll 43 = .ok (.iadd, 1) := by decide +kernel
theorem dX7_doesAll_44 : decode cX7_doesAll 44 = .ok (.putfield 229, 3) := by decide +kernel
theorem dX7_doesAll_47 : decode cX7_doesAll 47 = .ok (.aload_n 0, 1) := by decide +kernel
theorem dX7_doesAll_48 : decode cX7_doesAll 48 = .ok (.bipush 59, 2) := by decide +kernel
theorem dX7_doesAll_50 : decode cX7_doesAll 50 = .ok (.invokevirtual 213, 3) := by decide +kernel
theorem dX7_doesAll_53 : decode cX7_doesAll 53 = .ok (.istore_n 1, 1) := by decide +kernel
theorem dX7_doesAll_54 : decode cX7_doesAll 54 = .ok (.goto (-42), 3) := by decide +kernel
theorem dX7_doesAll_57 : decode cX7_doesAll 57 = .ok (.iconst 1, 1) := by decide +kernel
theorem dX7_doesAll_58 : decode cX7_doesAll 58 = .ok (.ireturn, 1) := by decide +kernel
theorem dX7_run_0 : decode cX7_run 0 = .ok (.aload_n 0, 1) := by decide +kernel
theorem dX7_run_1 : decode cX7_run 1 = .ok (.invokevirtual 238, 3) := by decide +kernel
theorem dX7_run_4 : decode cX7_run 4 = .ok (.ifCond .ne 17, 3) := by decide +kernel
theorem dX7_run_7 : decode cX7_run 7 = .ok (.aload_n 0, 1) := by decide +kernel
theorem dX7_run_8 : decode cX7_run 8 = .ok (.iconst 0, 1) := by decide +kernel
theorem dX7_run_9 : decode cX7_run 9 = .ok (.putfield 204, 3) := by decide +kernel
theorem dX7_run_12 : decode cX7_run 12 = .ok (.sipush (-1000), 3) := by decide +kernel
theorem dX7_run_15 : decode cX7_run 15 = .ok (.aload_n 0, 1) := by decide +kernel
theorem dX7_run_16 : decode cX7_run 16 = .ok (.getfield 207, 3) := by decide +kernel
theorem dX7_run_19 : decode cX7_run 19 = .ok (.isub, 1) := by decide +kernel
theorem dX7_run_20 : decode cX7_run 20 = .ok (.ireturn, 1) := by decide +kernel
theorem dX7_run_21 : decode cX7_run 21 = .ok (.aload_n 0, 1) := by decide +kernel
theorem dX7_run_22 : decode cX7_run 22 = .ok (.invokevirtual 54, 3) := by decide +kernel
theorem dX7_run_25 : decode cX7_run 25 = .ok (.aload_n 0, 1) := by decide +kernel
theorem dX7_run_26 : decode cX7_run 26 = .ok (.invokevirtual 241, 3) := by decide +kernel
theorem dX7_run_29 : decode cX7_run 29 = .ok (.istore_n 1, 1) := by decide +kernel
theorem dX7_run_30 : decode cX7_run 30 = .ok (.aload_n 0, 1) := by decide +kernel
theorem dX7_run_31 : decode cX7_run 31 = .ok (.iconst 0, 1) := by decide +kernel
theorem dX7_run_32 : decode cX7_run 32 = .ok (.putfield 204, 3) := by decide +kernel
theorem dX7_run_35 : decode cX7_run 35 = .ok (.iload_n 1, 1) := by decide +kernel
theorem dX7_run_36 : decode cX7_run 36 = .ok (.ifCond .eq 12, 3) := by decide +kernel
theorem dX7_run_39 : decode cX7_run 39 = .ok (.aload_n 0, 1) := by decide +kernel
theorem dX7_run_40 : decode cX7_run 40 = .ok (.invokevirtual 57, 3) := by decide +kernel
theorem dX7_run_43 : decode cX7_run 43 = .ok (.aload_n 0, 1) := by decide +kernel
theorem dX7_run_44 : decode cX7_run 44 = .ok (.getfield 229, 3) := by decide +kernel
theorem dX7_run_47 : decode cX7_run 47 = .ok (.ireturn, 1) := by decide +kernel
theorem dX7_run_48 : decode cX7_run 48 = .ok (.aload_n 0, 1) := by decide +kernel
theorem dX7_run_49 : decode cX7_run 49 = .ok (.invokevirtual 195, 3) := by decide +kernel
theorem dX7_run_52 : decode cX7_run 52 = .ok (.aload_n 0, 1) := by decide +kernel
theorem dX7_run_53 : decode cX7_run 53 = .ok (.aload_n 0, 1) := by decide +kernel
theorem dX7_run_54 : decode cX7_run 54 = .ok (.bipush 11, 2) := by decide +kernel
theorem dX7_run_56 : decode cX7_run 56 = .ok (.aload_n 0, 1) := by decide +kernel
theorem dX7_run_57 : decode cX7_run 57 = .ok (.getfield 229, 3) := by decide +kernel
theorem dX7_run_60 : decode cX7_run 60 = .ok (.invokevirtual 84, 3) := by decide +kernel
theorem dX7_run_63 : decode cX7_run 63 = .ok (.invokevirtual 87, 3) := by decide +kernel
theorem dX7_run_66 : decode cX7_run 66 = .ok (.ireturn, 1) := by decide +kernel
theorem dX7_writes_0 : decode cX7_writes 0 = .ok (.aload_n 0, 1) := by decide +kernel
theorem dX7_writes_1 : decode cX7_writes 1 = .ok (.getfield 32, 3) := by decide +kernel
theorem dX7_writes_4 : decode cX7_writes 4 = .ok (.aload_n 0, 1) := by decide +kernel
theorem dX7_writes_5 : decode cX7_writes 5 = .ok (.getfield 244, 3) := by decide +kernel
theorem dX7_writes_8 : decode cX7_writes 8 = .ok (.iload_n 1, 1) := by decide +kernel
theorem dX7_writes_9 : decode cX7_writes 9 = .ok (.i2c, 1) := by decide +kernel
theorem dX7_writes_10 : decode cX7_writes 10 = .ok (.castore, 1) := by decide +kernel
theorem dX7_writes_11 : decode cX7_writes 11 = .ok (.aload_n 0, 1) := by decide +kernel
theorem dX7_writes_12 : decode cX7_writes 12 = .ok (.dup, 1) := by decide +kernel
theorem dX7_writes_13 : decode cX7_writes 13 = .ok (.getfield 244, 3) := by decide +kernel
theorem dX7_writes_16 : decode cX7_writes 16 = .ok (.iconst 1, 1) := by decide +kernel
theorem dX7_writes_17 : decode cX7_writes 17 = .ok (.iadd, 1) := by decide +kernel
theorem dX7_writes_18 : decode cX7_writes 18 = .ok (.putfield 244, 3) := by decide +kernel
theorem dX7_writes_21 : decode cX7_writes 21 = .ok (.return_, 1) := by decide +kernel
theorem dX7_writesNumber_0 : decode cX7_writesNumber 0 = .ok (.iload_n 1, 1) := by decide +kernel
theorem dX7_writesNumber_1 : decode cX7_writesNumber 1 = .ok (.bipush 9, 2) := by decide +kernel
theorem dX7_writesNumber_3 : decode cX7_writesNumber 3 = .ok (.if_icmp .le 14, 3) := by decide +kernel
theorem dX7_writesNumber_6 : decode cX7_writesNumber 6 = .ok (.aload_n 0, 1) := by decide +kernel
theorem dX7_writesNumber_7 : decode cX7_writesNumber 7 = .ok (.bipush 48, 2) := by decide +kernel
theorem dX7_writesNumber_9 : decode cX7_writesNumber 9 = .ok (.iload_n 1, 1) := by decide +kernel
theorem dX7_writesNumber_10 : decode cX7_writesNumber 10 = .ok (.bipush 10, 2) := by decide +kernel
theorem dX7_writesNumber_12 : decode cX7_writesNumber 12 = .ok (.idiv, 1) := by decide +kernel
theorem dX7_writesNumber_13 : decode cX7_writesNumber 13 = .ok (.iadd, 1) := by decide +kernel
theorem dX7_writesNumber_14 : decode cX7_writesNumber 14 = .ok (.invokevirtual 247, 3) := by decide +kernel
theorem dX7_writesNumber_17 : decode cX7_writesNumber 17 = .ok (.aload_n 0, 1) := by decide +kernel
theorem dX7_writesNumber_18 : decode cX7_writesNumber 18 = .ok (.bipush 48, 2) := by decide +kernel
theorem dX7_writesNumber_20 : decode cX7_writesNumber 20 = .ok (.iload_n 1, 1) := by decide +kernel
theorem dX7_writesNumber_21 : decode cX7_writesNumber 21 = .ok (.bipush 10, 2) := by decide +kernel
theorem dX7_writesNumber_23 : decode cX7_writesNumber 23 = .ok (.irem, 1) := by decide +kernel
theorem dX7_writesNumber_24 : decode cX7_writesNumber 24 = .ok (.iadd, 1) := by decide +kernel
theorem dX7_writesNumber_25 : decode cX7_writesNumber 25 = .ok (.invokevirtual 247, 3) := by decide +kernel
theorem dX7_writesNumber_28 : decode cX7_writesNumber 28 = .ok (.return_, 1) := by decide +kernel
theorem dX7_writesCell_0 : decode cX7_writesCell 0 = .ok (.aload_n 0, 1) := by decide +kernel
theorem dX7_writesCell_1 : decode cX7_writesCell 1 = .ok (.iload_n 1, 1) := by decide +kernel
theorem dX7_writesCell_2 : decode cX7_writesCell 2 = .ok (.invokevirtual 122, 3) := by decide +kernel
theorem dX7_writesCell_5 : decode cX7_writesCell 5 = .ok (.istore_n 2, 1) := by decide +kernel
theorem dX7_writesCell_6 : decode cX7_writesCell 6 = .ok (.iload_n 2, 1) := by decide +kernel
theorem dX7_writesCell_7 : decode cX7_writesCell 7 = .ok (.ifCond .ge 10, 3) := by decide +kernel
theorem dX7_writesCell_10 : decode cX7_writesCell 10 = .ok (.aload_n 0, 1) := by decide +kernel
theorem dX7_writesCell_11 : decode cX7_writesCell 11 = .ok (.bipush 45, 2) := by decide +kernel
theorem dX7_writesCell_13 : decode cX7_writesCell 13 = .ok (.invokevirtual 247, 3) := by decide +kernel
theorem dX7_writesCell_16 : decode cX7_writesCell 16 = .ok (.return_, 1) := by decide +kernel
theorem dX7_writesCell_17 : decode cX7_writesCell 17 = .ok (.aload_n 0, 1) := by decide +kernel
theorem dX7_writesCell_18 : decode cX7_writesCell 18 = .ok (.iload_n 2, 1) := by decide +kernel
theorem dX7_writesCell_19 : decode cX7_writesCell 19 = .ok (.invokevirtual 250, 3) := by decide +kernel
theorem dX7_writesCell_22 : decode cX7_writesCell 22 = .ok (.aload_n 0, 1) := by decide +kernel
theorem dX7_writesCell_23 : decode cX7_writesCell 23 = .ok (.iload_n 2, 1) := by decide +kernel
theorem dX7_writesCell_24 : decode cX7_writesCell 24 = .ok (.iconst 5, 1) := by decide +kernel
theorem dX7_writesCell_25 : decode cX7_writesCell 25 = .ok (.invokevirtual 64, 3) := by decide +kernel
theorem dX7_writesCell_28 : decode cX7_writesCell 28 = .ok (.ifCond .le 9, 3) := by decide +kernel
theorem dX7_writesCell_31 : decode cX7_writesCell 31 = .ok (.aload_n 0, 1) := by decide +kernel
theorem dX7_writesCell_32 : decode cX7_writesCell 32 = .ok (.bipush 33, 2) := by decide +kernel
theorem dX7_writesCell_34 : decode cX7_writesCell 34 = .ok (.invokevirtual 247, 3) := by decide +kernel
theorem dX7_writesCell_37 : decode cX7_writesCell 37 = .ok (.aload_n 0, 1) := by decide +kernel
theorem dX7_writesCell_38 : decode cX7_writesCell 38 = .ok (.iload_n 2, 1) := by decide +kernel
theorem dX7_writesCell_39 : decode cX7_writesCell 39 = .ok (.iconst 4, 1) := by decide +kernel
theorem dX7_writesCell_40 : decode cX7_writesCell 40 = .ok (.invokevirtual 64, 3) := by decide +kernel
theorem dX7_writesCell_43 : decode cX7_writesCell 43 = .ok (.iconst 2, 1) := by decide +kernel
theorem dX7_writesCell_44 : decode cX7_writesCell 44 = .ok (.if_icmp .lt 9, 3) := by decide +kernel
theorem dX7_writesCell_47 : decode cX7_writesCell 47 = .ok (.aload_n 0, 1) := by decide +kernel
theorem dX7_writesCell_48 : decode cX7_writesCell 48 = .ok (.bipush 42, 2) := by decide +kernel
theorem dX7_writesCell_50 : decode cX7_writesCell 50 = .ok (.invokevirtual 247, 3) := by decide +kernel
theorem dX7_writesCell_53 : decode cX7_writesCell 53 = .ok (.return_, 1) := by decide +kernel
theorem dX7_tell_0 : decode cX7_tell 0 = .ok (.aload_n 0, 1) := by decide +kernel
theorem dX7_tell_1 : decode cX7_tell 1 = .ok (.iconst 0, 1) := by decide +kernel
theorem dX7_tell_2 : decode cX7_tell 2 = .ok (.putfield 244, 3) := by decide +kernel
theorem dX7_tell_5 : decode cX7_tell 5 = .ok (.iconst 0, 1) := by decide +kernel
theorem dX7_tell_6 : decode cX7_tell 6 = .ok (.istore_n 1, 1) := by decide +kernel
theorem dX7_tell_7 : decode cX7_tell 7 = .ok (.iload_n 1, 1) := by decide +kernel
theorem dX7_tell_8 : decode cX7_tell 8 = .ok (.bipush 8, 2) := by decide +kernel
theorem dX7_tell_10 : decode cX7_tell 10 = .ok (.if_icmp .ge 24, 3) := by decide +kernel
theorem dX7_tell_13 : decode cX7_tell 13 = .ok (.iload_n 1, 1) := by decide +kernel
theorem dX7_tell_14 : decode cX7_tell 14 = .ok (.ifCond .le 9, 3) := by decide +kernel
theorem dX7_tell_17 : decode cX7_tell 17 = .ok (.aload_n 0, 1) := by decide +kernel
theorem dX7_tell_18 : decode cX7_tell 18 = .ok (.bipush 32, 2) := by decide +kernel
theorem dX7_tell_20 : decode cX7_tell 20 = .ok (.invokevirtual 247, 3) := by decide +kernel
theorem dX7_tell_23 : decode cX7_tell 23 = .ok (.aload_n 0, 1) := by decide +kernel
theorem dX7_tell_24 : decode cX7_tell 24 = .ok (.iload_n 1, 1) := by decide +kernel
theorem dX7_tell_25 : decode cX7_tell 25 = .ok (.invokevirtual 253, 3) := by decide +kernel
theorem dX7_tell_28 : decode cX7_tell 28 = .ok (.iinc 1 1, 3) := by decide +kernel
theorem dX7_tell_31 : decode cX7_tell 31 = .ok (.goto (-24), 3) := by decide +kernel
theorem dX7_tell_34 : decode cX7_tell 34 = .ok (.aload_n 0, 1) := by decide +kernel
theorem dX7_tell_35 : decode cX7_tell 35 = .ok (.getfield 244, 3) := by decide +kernel
theorem dX7_tell_38 : decode cX7_tell 38 = .ok (.ireturn, 1) := by decide +kernel
theorem dX7_inLine_0 : decode cX7_inLine 0 = .ok (.iconst 0, 1) := by decide +kernel
theorem dX7_inLine_1 : decode cX7_inLine 1 = .ok (.istore_n 2, 1) := by decide +kernel
theorem dX7_inLine_2 : decode cX7_inLine 2 = .ok (.iload_n 2, 1) := by decide +kernel
theorem dX7_inLine_3 : decode cX7_inLine 3 = .ok (.aload_n 0, 1) := by decide +kernel
theorem dX7_inLine_4 : decode cX7_inLine 4 = .ok (.getfield 7, 3) := by decide +kernel
theorem dX7_inLine_7 : decode cX7_inLine 7 = .ok (.iconst 2, 1) := by decide +kernel
theorem dX7_inLine_8 : decode cX7_inLine 8 = .ok (.iaload, 1) := by decide +kernel
theorem dX7_inLine_9 : decode cX7_inLine 9 = .ok (.if_icmp .ge 29, 3) := by decide +kernel
theorem dX7_inLine_12 : decode cX7_inLine 12 = .ok (.aload_n 0, 1) := by decide +kernel
theorem dX7_inLine_13 : decode cX7_inLine 13 = .ok (.iload_n 2, 1) := by decide +kernel
theorem dX7_inLine_14 : decode cX7_inLine 14 = .ok (.iconst 0, 1) := by decide +kernel
theorem dX7_inLine_15 : decode cX7_inLine 15 = .ok (.invokevirtual 68, 3) := by decide +kernel
theorem dX7_inLine_18 : decode cX7_inLine 18 = .ok (.ifCond .eq 14, 3) := by decide +kernel
theorem dX7_inLine_21 : decode cX7_inLine 21 = .ok (.aload_n 0, 1) := by decide +kernel
theorem dX7_inLine_22 : decode cX7_inLine 22 = .ok (.iload_n 2, 1) := by decide +kernel
theorem dX7_inLine_23 : decode cX7_inLine 23 = .ok (.invokevirtual 201, 3) := by decide +kernel
theorem dX7_inLine_26 : decode cX7_inLine 26 = .ok (.iload_n 1, 1) := by decide +kernel
theorem dX7_inLine_27 : decode cX7_inLine 27 = .ok (.if_icmp .ne 5, 3) := by decide +kernel
theorem dX7_inLine_30 : decode cX7_inLine 30 = .ok (.iload_n 2, 1) := by decide +kernel
theorem dX7_inLine_31 : decode cX7_inLine 31 = .ok (.ireturn, 1) := by decide +kernel
theorem dX7_inLine_32 : decode cX7_inLine 32 = .ok (.iinc 2 1, 3) := by decide +kernel
theorem dX7_inLine_35 : decode cX7_inLine 35 = .ok (.goto (-33), 3) := by decide +kernel
theorem dX7_inLine_38 : decode cX7_inLine 38 = .ok (.bipush (-11), 2) := by decide +kernel
theorem dX7_inLine_40 : decode cX7_inLine 40 = .ok (.ireturn, 1) := by decide +kernel
theorem dX7_tellWaiting_0 : decode cX7_tellWaiting 0 = .ok (.aload_n 0, 1) := by decide +kernel
theorem dX7_tellWaiting_1 : decode cX7_tellWaiting 1 = .ok (.iconst 0, 1) := by decide +kernel
theorem dX7_tellWaiting_2 : decode cX7_tellWaiting 2 = .ok (.putfield 244, 3) := by decide +kernel
theorem dX7_tellWaiting_5 : decode cX7_tellWaiting 5 = .ok (.iconst 0, 1) := by decide +kernel
theorem dX7_tellWaiting_6 : decode cX7_tellWaiting 6 = .ok (.istore_n 1, 1) := by decide +kernel
theorem dX7_tellWaiting_7 : decode cX7_tellWaiting 7 = .ok (.iload_n 1, 1) := by decide +kernel
theorem dX7_tellWaiting_8 : decode cX7_tellWaiting 8 = .ok (.aload_n 0, 1) := by decide +kernel
theorem dX7_tellWaiting_9 : decode cX7_tellWaiting 9 = .ok (.iconst 0, 1) := by decide +kernel
theorem dX7_tellWaiting_10 : decode cX7_tellWaiting 10 = .ok (.invokevirtual 104, 3) := by decide +kernel
theorem dX7_tellWaiting_13 : decode cX7_tellWaiting 13 = .ok (.if_icmp .ge 61, 3) := by decide +kernel
theorem dX7_tellWaiting_16 : decode cX7_tellWaiting 16 = .ok (.aload_n 0, 1) := by decide +kernel
theorem dX7_tellWaiting_17 : decode cX7_tellWaiting 17 = .ok (.iload_n 1, 1) := by decide +kernel
theorem dX7_tellWaiting_18 : decode cX7_tellWaiting 18 = .ok (.invokevirtual 256, 3) := by decide +kernel
theorem dX7_tellWaiting_21 : decode cX7_tellWaiting 21 = .ok (.istore_n 2, 1) := by decide +kernel
theorem dX7_tellWaiting_22 : decode cX7_tellWaiting 22 = .ok (.iload_n 1, 1) := by decide +kernel
theorem dX7_tellWaiting_23 : decode cX7_tellWaiting 23 = .ok (.ifCond .le 9, 3) := by decide +kernel
theorem dX7_tellWaiting_26 : decode cX7_tellWaiting 26 = .ok (.aload_n 0, 1) := by decide +kernel
theorem dX7_tellWaiting_27 : decode cX7_tellWaiting 27 = .ok (.bipush 44, 2) := by decide +kernel
theorem dX7_tellWaiting_29 : decode cX7_tellWaiting 29 = .ok (.invokevirtual 247, 3) := by decide +kernel
theorem dX7_tellWaiting_32 : decode cX7_tellWaiting 32 = .ok (.aload_n 0, 1) := by decide +kernel
theorem dX7_tellWaiting_33 : decode cX7_tellWaiting 33 = .ok (.iload_n 2, 1) := by decide +kernel
theorem dX7_tellWaiting_34 : decode cX7_tellWaiting 34 = .ok (.invokevirtual 250, 3) := by decide +kernel
theorem dX7_tellWaiting_37 : decode cX7_tellWaiting 37 = .ok (.aload_n 0, 1) := by decide +kernel
theorem dX7_tellWaiting_38 : decode cX7_tellWaiting 38 = .ok (.iload_n 2, 1) := by decide +kernel
theorem dX7_tellWaiting_39 : decode cX7_tellWaiting 39 = .ok (.iconst 1, 1) := by decide +kernel
theorem dX7_tellWaiting_40 : decode cX7_tellWaiting 40 = .ok (.invokevirtual 64, 3) := by decide +kernel
theorem dX7_tellWaiting_43 : decode cX7_tellWaiting 43 = .ok (.iconst 1, 1) := by decide +kernel
theorem dX7_tellWaiting_44 : decode cX7_tellWaiting 44 = .ok (.if_icmp .ne 9, 3) := by decide +kernel
theorem dX7_tellWaiting_47 : decode cX7_tellWaiting 47 = .ok (.aload_n 0, 1) := by decide +kernel
theorem dX7_tellWaiting_48 : decode cX7_tellWaiting 48 = .ok (.bipush 107, 2) := by decide +kernel
theorem dX7_tellWaiting_50 : decode cX7_tellWaiting 50 = .ok (.invokevirtual 247, 3) := by decide +kernel
theorem dX7_tellWaiting_53 : decode cX7_tellWaiting 53 = .ok (.aload_n 0, 1) := by decide +kernel
theorem dX7_tellWaiting_54 : decode cX7_tellWaiting 54 = .ok (.bipush 58, 2) := by decide +kernel
theorem dX7_tellWaiting_56 : decode cX7_tellWaiting 56 = .ok (.invokevirtual 247, 3) := by decide +kernel
theorem dX7_tellWaiting_59 : decode cX7_tellWaiting 59 = .ok (.aload_n 0, 1) := by decide +kernel
theorem dX7_tellWaiting_60 : decode cX7_tellWaiting 60 = .ok (.aload_n 0, 1) := by decide +kernel
theorem dX7_tellWaiting_61 : decode cX7_tellWaiting 61 = .ok (.iload_n 2, 1) := by decide +kernel
theorem dX7_tellWaiting_62 : decode cX7_tellWaiting 62 = .ok (.invokevirtual 107, 3) := by decide +kernel
theorem dX7_tellWaiting_65 : decode cX7_tellWaiting 65 = .ok (.invokevirtual 250, 3) := by decide +kernel
theorem dX7_tellWaiting_68 : decode cX7_tellWaiting 68 = .ok (.iinc 1 1, 3) := by decide +kernel
theorem dX7_tellWaiting_71 : decode cX7_tellWaiting 71 = .ok (.goto (-64), 3) := by decide +kernel
theorem dX7_tellWaiting_74 : decode cX7_tellWaiting 74 = .ok (.aload_n 0, 1) := by decide +kernel
theorem dX7_tellWaiting_75 : decode cX7_tellWaiting 75 = .ok (.getfield 244, 3) := by decide +kernel
theorem dX7_tellWaiting_78 : decode cX7_tellWaiting 78 = .ok (.ireturn, 1) := by decide +kernel
theorem dX7_character_0 : decode cX7_character 0 = .ok (.iload_n 1, 1) := by decide +kernel
theorem dX7_character_1 : decode cX7_character 1 = .ok (.iconst 0, 1) := by decide +kernel
theorem dX7_character_2 : decode cX7_character 2 = .ok (.aload_n 0, 1) := by decide +kernel
theorem dX7_character_3 : decode cX7_character 3 = .ok (.getfield 244, 3) := by decide +kernel
theorem dX7_character_6 : decode cX7_character 6 = .ok (.iconst 1, 1) := by decide +kernel
theorem dX7_character_7 : decode cX7_character 7 = .ok (.isub, 1) := by decide +kernel
theorem dX7_character_8 : decode cX7_character 8 = .ok (.invokestatic 60, 3) := by decide +kernel
theorem dX7_character_11 : decode cX7_character 11 = .ok (.ifCond .eq 12, 3) := by decide +kernel
theorem dX7_character_14 : decode cX7_character 14 = .ok (.aload_n 0, 1) := by decide +kernel
theorem dX7_character_15 : decode cX7_character 15 = .ok (.getfield 32, 3) := by decide +kernel
theorem dX7_character_18 : decode cX7_character 18 = .ok (.iload_n 1, 1) := by decide +kernel
theorem dX7_character_19 : decode cX7_character 19 = .ok (.caload, 1) := by decide +kernel
theorem dX7_character_20 : decode cX7_character 20 = .ok (.goto 5, 3) := by decide +kernel
theorem dX7_character_23 : decode cX7_character 23 = .ok (.bipush (-11), 2) := by decide +kernel
theorem dX7_character_25 : decode cX7_character 25 = .ok (.ireturn, 1) := by decide +kernel
theorem dX7_banned_0 : decode cX7_banned 0 = .ok (.iconst 0, 1) := by decide +kernel
theorem dX7_banned_1 : decode cX7_banned 1 = .ok (.istore_n 1, 1) := by decide +kernel
theorem dX7_banned_2 : decode cX7_banned 2 = .ok (.iconst 0, 1) := by decide +kernel
theorem dX7_banned_3 : decode cX7_banned 3 = .ok (.istore_n 2, 1) := by decide +kernel
theorem dX7_banned_4 : decode cX7_banned 4 = .ok (.iload_n 2, 1) := by decide +kernel
theorem dX7_banned_5 : decode cX7_banned 5 = .ok (.aload_n 0, 1) := by decide +kernel
theorem dX7_banned_6 : decode cX7_banned 6 = .ok (.getfield 7, 3) := by decide +kernel
theorem dX7_banned_9 : decode cX7_banned 9 = .ok (.iconst 2, 1) := by decide +kernel
theorem dX7_banned_10 : decode cX7_banned 10 = .ok (.iaload, 1) := by decide +kernel
theorem dX7_banned_11 : decode cX7_banned 11 = .ok (.if_icmp .ge 26, 3) := by decide +kernel
theorem dX7_banned_14 : decode cX7_banned 14 = .ok (.iload_n 1, 1) := by decide +kernel
theorem dX7_banned_15 : decode cX7_banned 15 = .ok (.aload_n 0, 1) := by decide +kernel
theorem dX7_banned_16 : decode cX7_banned 16 = .ok (.iload_n 2, 1) := by decide +kernel
theorem dX7_banned_17 : decode cX7_banned 17 = .ok (.iconst 5, 1) := by decide +kernel
theorem dX7_banned_18 : decode cX7_banned 18 = .ok (.invokevirtual 64, 3) := by decide +kernel
theorem dX7_banned_21 : decode cX7_banned 21 = .ok (.ifCond .le 7, 3) := by decide +kernel
theorem dX7_banned_24 : decode cX7_banned 24 = .ok (.iconst 1, 1) := by decide +kernel
theorem dX7_banned_25 : decode cX7_banned 25 = .ok (.goto 4, 3) := by decide +kernel
theorem dX7_banned_28 : decode cX7_banned 28 = .ok (.iconst 0, 1) := by decide +kernel
theorem dX7_banned_29 : decode cX7_banned 29 = .ok (.iadd, 1) := by decide +kernel
theorem dX7_banned_30 : decode cX7_banned 30 = .ok (.istore_n 1, 1) := by decide +kernel
theorem dX7_banned_31 : decode cX7_banned 31 = .ok (.iinc 2 1, 3) := by decide +kernel
theorem dX7_banned_34 : decode cX7_banned 34 = .ok (.goto (-30), 3) := by decide +kernel
theorem dX7_banned_37 : decode cX7_banned 37 = .ok (.iload_n 1, 1) := by decide +kernel
theorem dX7_banned_38 : decode cX7_banned 38 = .ok (.ireturn, 1) := by decide +kernel
theorem dX7_gotAll_0 : decode cX7_gotAll 0 = .ok (.iconst 0, 1) := by decide +kernel
theorem dX7_gotAll_1 : decode cX7_gotAll 1 = .ok (.istore_n 1, 1) := by decide +kernel
theorem dX7_gotAll_2 : decode cX7_gotAll 2 = .ok (.iconst 0, 1) := by decide +kernel
theorem dX7_gotAll_3 : decode cX7_gotAll 3 = .ok (.istore_n 2, 1) := by decide +kernel
theorem dX7_gotAll_4 : decode cX7_gotAll 4 = .ok (.iload_n 2, 1) := by decide +kernel
theorem dX7_gotAll_5 : decode cX7_gotAll 5 = .ok (.aload_n 0, 1) := by decide +kernel
theorem dX7_gotAll_6 : decode cX7_gotAll 6 = .ok (.getfield 7, 3) := by decide +kernel
theorem dX7_gotAll_9 : decode cX7_gotAll 9 = .ok (.iconst 2, 1) := by decide +kernel
theorem dX7_gotAll_10 : decode cX7_gotAll 10 = .ok (.iaload, 1) := by decide +kernel
theorem dX7_gotAll_11 : decode cX7_gotAll 11 = .ok (.if_icmp .ge 19, 3) := by decide +kernel
theorem dX7_gotAll_14 : decode cX7_gotAll 14 = .ok (.iload_n 1, 1) := by decide +kernel
theorem dX7_gotAll_15 : decode cX7_gotAll 15 = .ok (.aload_n 0, 1) := by decide +kernel
theorem dX7_gotAll_16 : decode cX7_gotAll 16 = .ok (.iload_n 2, 1) := by decide +kernel
theorem dX7_gotAll_17 : decode cX7_gotAll 17 = .ok (.bipush 6, 2) := by decide +kernel
theorem dX7_gotAll_19 : decode cX7_gotAll 19 = .ok (.invokevirtual 64, 3) := by decide +kernel
theorem dX7_gotAll_22 : decode cX7_gotAll 22 = .ok (.iadd, 1) := by decide +kernel
theorem dX7_gotAll_23 : decode cX7_gotAll 23 = .ok (.istore_n 1, 1) := by decide +kernel
theorem dX7_gotAll_24 : decode cX7_gotAll 24 = .ok (.iinc 2 1, 3) := by decide +kernel
theorem dX7_gotAll_27 : decode cX7_gotAll 27 = .ok (.goto (-23), 3) := by decide +kernel
theorem dX7_gotAll_30 : decode cX7_gotAll 30 = .ok (.iload_n 1, 1) := by decide +kernel
theorem dX7_gotAll_31 : decode cX7_gotAll 31 = .ok (.ireturn, 1) := by decide +kernel
theorem dX7_account_0 : decode cX7_account 0 = .ok (.iload_n 1, 1) := by decide +kernel
theorem dX7_account_1 : decode cX7_account 1 = .ok (.tableswitch 131 0 16 #[83, 83, 83, 90, 90, 90, 90, 98, 103, 111, 111, 111, 111, 111, 111, 121, 126], 83) := by decide +kernel
theorem dX7_account_84 : decode cX7_account 84 = .ok (.aload_n 0, 1) := by decide +kernel
theorem dX7_account_85 : decode cX7_account 85 = .ok (.getfield 7, 3) := by decide +kernel
theorem dX7_account_88 : decode cX7_account 88 = .ok (.iload_n 1, 1) := by decide +kernel
theorem dX7_account_89 : decode cX7_account 89 = .ok (.iaload, 1) := by decide +kernel
theorem dX7_account_90 : decode cX7_account 90 = .ok (.ireturn, 1) := by decide +kernel
theorem dX7_account_91 : decode cX7_account 91 = .ok (.aload_n 0, 1) := by decide +kernel
theorem dX7_account_92 : decode cX7_account 92 = .ok (.iload_n 1, 1) := by decide +kernel
theorem dX7_account_93 : decode cX7_account 93 = .ok (.iconst 3, 1) := by decide +kernel
theorem dX7_account_94 : decode cX7_account 94 = .ok (.isub, 1) := by decide +kernel
theorem dX7_account_95 : decode cX7_account 95 = .ok (.invokevirtual 104, 3) := by decide +kernel
theorem dX7_account_98 : decode cX7_account 98 = .ok (.ireturn, 1) := by decide +kernel
theorem dX7_account_99 : decode cX7_account 99 = .ok (.aload_n 0, 1) := by decide +kernel
theorem dX7_account_100 : decode cX7_account 100 = .ok (.invokevirtual 259, 3) := by decide +kernel
theorem dX7_account_103 : decode cX7_account 103 = .ok (.ireturn, 1) := by decide +kernel
theorem dX7_account_104 : decode cX7_account 104 = .ok (.aload_n 0, 1) := by decide +kernel
theorem dX7_account_105 : decode cX7_account 105 = .ok (.getfield 7, 3) := by decide +kernel
theorem dX7_account_108 : decode cX7_account 108 = .ok (.bipush 9, 2) := by decide +kernel
theorem dX7_account_110 : decode cX7_account 110 = .ok (.iaload, 1) := by decide +kernel
theorem dX7_account_111 : decode cX7_account 111 = .ok (.ireturn, 1) := by decide +kernel
theorem dX7_account_112 : decode cX7_account 112 = .ok (.aload_n 0, 1) := by decide +kernel
theorem dX7_account_113 : decode cX7_account 113 = .ok (.getfield 7, 3) := by decide +kernel
theorem dX7_account_116 : decode cX7_account 116 = .ok (.iload_n 1, 1) := by decide +kernel
theorem dX7_account_117 : decode cX7_account 117 = .ok (.bipush 6, 2) := by decide +kernel
theorem dX7_account_119 : decode cX7_account 119 = .ok (.isub, 1) := by decide +kernel
theorem dX7_account_120 : decode cX7_account 120 = .ok (.iaload, 1) := by decide +kernel
theorem dX7_account_121 : decode cX7_account 121 = .ok (.ireturn, 1) := by decide +kernel
theorem dX7_account_122 : decode cX7_account 122 = .ok (.aload_n 0, 1) := by decide +kernel
theorem dX7_account_123 : decode cX7_account 123 = .ok (.getfield 204, 3) := by decide +kernel
theorem dX7_account_126 : decode cX7_account 126 = .ok (.ireturn, 1) := by decide +kernel
theorem dX7_account_127 : decode cX7_account 127 = .ok (.aload_n 0, 1) := by decide +kernel
theorem dX7_account_128 : decode cX7_account 128 = .ok (.getfield 48, 3) := by decide +kernel
theorem dX7_account_131 : decode cX7_account 131 = .ok (.ireturn, 1) := by decide +kernel
theorem dX7_account_132 : decode cX7_account 132 = .ok (.bipush (-12), 2) := by decide +kernel
theorem dX7_account_134 : decode cX7_account 134 = .ok (.ireturn, 1) := by decide +kernel
theorem dX7_isBalanced_0 : decode cX7_isBalanced 0 = .ok (.aload_n 0, 1) := by decide +kernel
theorem dX7_isBalanced_1 : decode cX7_isBalanced 1 = .ok (.getfield 7, 3) := by decide +kernel
theorem dX7_isBalanced_4 : decode cX7_isBalanced 4 = .ok (.iconst 3, 1) := by decide +kernel
theorem dX7_isBalanced_5 : decode cX7_isBalanced 5 = .ok (.iaload, 1) := by decide +kernel
theorem dX7_isBalanced_6 : decode cX7_isBalanced 6 = .ok (.bipush 100, 2) := by decide +kernel
theorem dX7_isBalanced_8 : decode cX7_isBalanced 8 = .ok (.aload_n 0, 1) := by decide +kernel
theorem dX7_isBalanced_9 : decode cX7_isBalanced 9 = .ok (.getfield 7, 3) := by decide +kernel
theorem dX7_isBalanced_12 : decode cX7_isBalanced 12 = .ok (.iconst 4, 1) := by decide +kernel
theorem dX7_isBalanced_13 : decode cX7_isBalanced 13 = .ok (.iaload, 1) := by decide +kernel
theorem dX7_isBalanced_14 : decode cX7_isBalanced 14 = .ok (.iadd, 1) := by decide +kernel
theorem dX7_isBalanced_15 : decode cX7_isBalanced 15 = .ok (.aload_n 0, 1) := by decide +kernel
theorem dX7_isBalanced_16 : decode cX7_isBalanced 16 = .ok (.getfield 7, 3) := by decide +kernel
theorem dX7_isBalanced_19 : decode cX7_isBalanced 19 = .ok (.iconst 5, 1) := by decide +kernel
theorem dX7_isBalanced_20 : decode cX7_isBalanced 20 = .ok (.iaload, 1) := by decide +kernel
theorem dX7_isBalanced_21 : decode cX7_isBalanced 21 = .ok (.isub, 1) := by decide +kernel
theorem dX7_isBalanced_22 : decode cX7_isBalanced 22 = .ok (.aload_n 0, 1) := by decide +kernel
theorem dX7_isBalanced_23 : decode cX7_isBalanced 23 = .ok (.getfield 7, 3) := by decide +kernel
theorem dX7_isBalanced_26 : decode cX7_isBalanced 26 = .ok (.bipush 6, 2) := by decide +kernel
theorem dX7_isBalanced_28 : decode cX7_isBalanced 28 = .ok (.iaload, 1) := by decide +kernel
theorem dX7_isBalanced_29 : decode cX7_isBalanced 29 = .ok (.isub, 1) := by decide +kernel
theorem dX7_isBalanced_30 : decode cX7_isBalanced 30 = .ok (.if_icmp .ne 20, 3) := by decide +kernel
theorem dX7_isBalanced_33 : decode cX7_isBalanced 33 = .ok (.aload_n 0, 1) := by decide +kernel
theorem dX7_isBalanced_34 : decode cX7_isBalanced 34 = .ok (.getfield 7, 3) := by decide +kernel
theorem dX7_isBalanced_37 : decode cX7_isBalanced 37 = .ok (.iconst 5, 1) := by decide +kernel
theorem dX7_isBalanced_38 : decode cX7_isBalanced 38 = .ok (.iaload, 1) := by decide +kernel
theorem dX7_isBalanced_39 : decode cX7_isBalanced 39 = .ok (.aload_n 0, 1) := by decide +kernel
theorem dX7_isBalanced_40 : decode cX7_isBalanced 40 = .ok (.invokevirtual 262, 3) := by decide +kernel
theorem dX7_isBalanced_43 : decode cX7_isBalanced 43 = .ok (.if_icmp .ne 7, 3) := by decide +kernel
theorem dX7_isBalanced_46 : decode cX7_isBalanced 46 = .ok (.iconst 1, 1) := by decide +kernel
theorem dX7_isBalanced_47 : decode cX7_isBalanced 47 = .ok (.goto 4, 3) := by decide +kernel
theorem dX7_isBalanced_50 : decode cX7_isBalanced 50 = .ok (.iconst 0, 1) := by decide +kernel
theorem dX7_isBalanced_51 : decode cX7_isBalanced 51 = .ok (.istore_n 1, 1) := by decide +kernel
theorem dX7_isBalanced_52 : decode cX7_isBalanced 52 = .ok (.iconst 0, 1) := by decide +kernel
theorem dX7_isBalanced_53 : decode cX7_isBalanced 53 = .ok (.istore_n 2, 1) := by decide +kernel
theorem dX7_isBalanced_54 : decode cX7_isBalanced 54 = .ok (.iconst 0, 1) := by decide +kernel
theorem dX7_isBalanced_55 : decode cX7_isBalanced 55 = .ok (.istore_n 3, 1) := by decide +kernel
theorem dX7_isBalanced_56 : decode cX7_isBalanced 56 = .ok (.iload_n 3, 1) := by decide +kernel
theorem dX7_isBalanced_57 : decode cX7_isBalanced 57 = .ok (.bipush 8, 2) := by decide +kernel
theorem dX7_isBalanced_59 : decode cX7_isBalanced 59 = .ok (.if_icmp .ge 25, 3) := by decide +kernel
theorem dX7_isBalanced_62 : decode cX7_isBalanced 62 = .ok (.iload_n 2, 1) := by decide +kernel
theorem dX7_isBalanced_63 : decode cX7_isBalanced 63 = .ok (.aload_n 0, 1) := by decide +kernel
theorem dX7_isBalanced_64 : decode cX7_isBalanced 64 = .ok (.iload_n 3, 1) := by decide +kernel
theorem dX7_isBalanced_65 : decode cX7_isBalanced 65 = .ok (.invokevirtual 122, 3) := by decide +kernel
theorem dX7_isBalanced_68 : decode cX7_isBalanced 68 = .ok (.ifCond .lt 7, 3) := by decide +kernel
theorem dX7_isBalanced_71 : decode cX7_isBalanced 71 = .ok (.iconst 1, 1) := by decide +kernel
theorem dX7_isBalanced_72 : decode cX7_isBalanced 72 = .ok (.goto 4, 3) := by decide +kernel
theorem dX7_isBalanced_75 : decode cX7_isBalanced 75 = .ok (.iconst 0, 1) := by decide +kernel
theorem dX7_isBalanced_76 : decode cX7_isBalanced 76 = .ok (.iadd, 1) := by decide +kernel
theorem dX7_isBalanced_77 : decode cX7_isBalanced 77 = .ok (.istore_n 2, 1) := by decide +kernel
theorem dX7_isBalanced_78 : decode cX7_isBalanced 78 = .ok (.iinc 3 1, 3) := by decide +kernel
theorem dX7_isBalanced_81 : decode cX7_isBalanced 81 = .ok (.goto (-25), 3) := by decide +kernel
theorem dX7_isBalanced_84 : decode cX7_isBalanced 84 = .ok (.iload_n 1, 1) := by decide +kernel
theorem dX7_isBalanced_85 : decode cX7_isBalanced 85 = .ok (.ifCond .eq 16, 3) := by decide +kernel
theorem dX7_isBalanced_88 : decode cX7_isBalanced 88 = .ok (.iload_n 2, 1) := by decide +kernel
theorem dX7_isBalanced_89 : decode cX7_isBalanced 89 = .ok (.aload_n 0, 1) := by decide +kernel
theorem dX7_isBalanced_90 : decode cX7_isBalanced 90 = .ok (.iconst 1, 1) := by decide +kernel
theorem dX7_isBalanced_91 : decode cX7_isBalanced 91 = .ok (.invokevirtual 104, 3) := by decide +kernel
theorem dX7_isBalanced_94 : decode cX7_isBalanced 94 = .ok (.if_icmp .ne 7, 3) := by decide +kernel
theorem dX7_isBalanced_97 : decode cX7_isBalanced 97 = .ok (.iconst 1, 1) := by decide +kernel
theorem dX7_isBalanced_98 : decode cX7_isBalanced 98 = .ok (.goto 4, 3) := by decide +kernel
theorem dX7_isBalanced_101 : decode cX7_isBalanced 101 = .ok (.iconst 0, 1) := by decide +kernel
theorem dX7_isBalanced_102 : decode cX7_isBalanced 102 = .ok (.ireturn, 1) := by decide +kernel
theorem dX7_meanAge_0 : decode cX7_meanAge 0 = .ok (.aload_n 0, 1) := by decide +kernel
theorem dX7_meanAge_1 : decode cX7_meanAge 1 = .ok (.iconst 1, 1) := by decide +kernel
theorem dX7_meanAge_2 : decode cX7_meanAge 2 = .ok (.invokevirtual 104, 3) := by decide +kernel
theorem dX7_meanAge_5 : decode cX7_meanAge 5 = .ok (.istore_n 1, 1) := by decide +kernel
theorem dX7_meanAge_6 : decode cX7_meanAge 6 = .ok (.iconst 0, 1) := by decide +kernel
theorem dX7_meanAge_7 : decode cX7_meanAge 7 = .ok (.istore_n 2, 1) := by decide +kernel
theorem dX7_meanAge_8 : decode cX7_meanAge 8 = .ok (.iconst 0, 1) := by decide +kernel
theorem dX7_meanAge_9 : decode cX7_meanAge 9 = .ok (.istore_n 3, 1) := by decide +kernel
theorem dX7_meanAge_10 : decode cX7_meanAge 10 = .ok (.iload_n 3, 1) := by decide +kernel
theorem dX7_meanAge_11 : decode cX7_meanAge 11 = .ok (.aload_n 0, 1) := by decide +kernel
theorem dX7_meanAge_12 : decode cX7_meanAge 12 = .ok (.getfield 7, 3) := by decide +kernel
theorem dX7_meanAge_15 : decode cX7_meanAge 15 = .ok (.iconst 2, 1) := by decide +kernel
theorem dX7_meanAge_16 : decode cX7_meanAge 16 = .ok (.iaload, 1) := by decide +kernel
theorem dX7_meanAge_17 : decode cX7_meanAge 17 = .ok (.if_icmp .ge 31, 3) := by decide +kernel
theorem dX7_meanAge_20 : decode cX7_meanAge 20 = .ok (.iload_n 2, 1) := by decide +kernel
theorem dX7_meanAge_21 : decode cX7_meanAge 21 = .ok (.aload_n 0, 1) := by decide +kernel
theorem dX7_meanAge_22 : decode cX7_meanAge 22 = .ok (.iload_n 3, 1) := by decide +kernel
theorem dX7_meanAge_23 : decode cX7_meanAge 23 = .ok (.iconst 1, 1) := by decide +kernel
theorem dX7_meanAge_24 : decode cX7_meanAge 24 = .ok (.invokevirtual 68, 3) := by decide +kernel
theorem dX7_meanAge_27 : decode cX7_meanAge 27 = .ok (.ifCond .eq 12, 3) := by decide +kernel
theorem dX7_meanAge_30 : decode cX7_meanAge 30 = .ok (.aload_n 0, 1) := by decide +kernel
theorem dX7_meanAge_31 : decode cX7_meanAge 31 = .ok (.iload_n 3, 1) := by decide +kernel
theorem dX7_meanAge_32 : decode cX7_meanAge 32 = .ok (.iconst 0, 1) := by decide +kernel
theorem dX7_meanAge_33 : decode cX7_meanAge 33 = .ok (.invokevirtual 64, 3) := by decide +kernel
theorem dX7_meanAge_36 : decode cX7_meanAge 36 = .ok (.goto 4, 3) := by decide +kernel
theorem dX7_meanAge_39 : decode cX7_meanAge 39 = .ok (.iconst 0, 1) := by decide +kernel
theorem dX7_meanAge_40 : decode cX7_meanAge 40 = .ok (.iadd, 1) := by decide +kernel
theorem dX7_meanAge_41 : decode cX7_meanAge 41 = .ok (.istore_n 2, 1) := by decide +kernel
theorem dX7_meanAge_42 : decode cX7_meanAge 42 = .ok (.iinc 3 1, 3) := by decide +kernel
theorem dX7_meanAge_45 : decode cX7_meanAge 45 = .ok (.goto (-35), 3) := by decide +kernel
theorem dX7_meanAge_48 : decode cX7_meanAge 48 = .ok (.iload_n 1, 1) := by decide +kernel
theorem dX7_meanAge_49 : decode cX7_meanAge 49 = .ok (.ifCond .ne 7, 3) := by decide +kernel
theorem dX7_meanAge_52 : decode cX7_meanAge 52 = .ok (.dconst 0, 1) := by decide +kernel
theorem dX7_meanAge_53 : decode cX7_meanAge 53 = .ok (.goto 8, 3) := by decide +kernel
theorem dX7_meanAge_56 : decode cX7_meanAge 56 = .ok (.iload_n 2, 1) := by decide +kernel
theorem dX7_meanAge_57 : decode cX7_meanAge 57 = .ok (.i2d, 1) := by decide +kernel
theorem dX7_meanAge_58 : decode cX7_meanAge 58 = .ok (.iload_n 1, 1) := by decide +kernel
theorem dX7_meanAge_59 : decode cX7_meanAge 59 = .ok (.i2d, 1) := by decide +kernel
theorem dX7_meanAge_60 : decode cX7_meanAge 60 = .ok (.ddiv, 1) := by decide +kernel
theorem dX7_meanAge_61 : decode cX7_meanAge 61 = .ok (.dreturn, 1) := by decide +kernel
theorem dX7_entitledShare_0 : decode cX7_entitledShare 0 = .ok (.aload_n 0, 1) := by decide +kernel
theorem dX7_entitledShare_1 : decode cX7_entitledShare 1 = .ok (.iconst 1, 1) := by decide +kernel
theorem dX7_entitledShare_2 : decode cX7_entitledShare 2 = .ok (.invokevirtual 104, 3) := by decide +kernel
theorem dX7_entitledShare_5 : decode cX7_entitledShare 5 = .ok (.istore_n 1, 1) := by decide +kernel
theorem dX7_entitledShare_6 : decode cX7_entitledShare 6 = .ok (.iload_n 1, 1) := by decide +kernel
theorem dX7_entitledShare_7 : decode cX7_entitledShare 7 = .ok (.ifCond .ne 7, 3) := by decide +kernel
theorem dX7_entitledShare_10 : decode cX7_entitledShare 10 = .ok (.fconst 0, 1) := by decide +kernel
theorem dX7_entitledShare_11 : decode cX7_entitledShare 11 = .ok (.goto 11, 3) := by decide +kernel
theorem dX7_entitledShare_14 : decode cX7_entitledShare 14 = .ok (.aload_n 0, 1) := by decide +kernel
theorem dX7_entitledShare_15 : decode cX7_entitledShare 15 = .ok (.invokevirtual 170, 3) := by decide +kernel
theorem dX7_entitledShare_18 : decode cX7_entitledShare 18 = .ok (.i2f, 1) := by decide +kernel
theorem dX7_entitledShare_19 : decode cX7_entitledShare 19 = .ok (.iload_n 1, 1) := by decide +kernel
theorem dX7_entitledShare_20 : decode cX7_entitledShare 20 = .ok (.i2f, 1) := by decide +kernel
theorem dX7_entitledShare_21 : decode cX7_entitledShare 21 = .ok (.fdiv, 1) := by decide +kernel
theorem dX7_entitledShare_22 : decode cX7_entitledShare 22 = .ok (.freturn, 1) := by decide +kernel
theorem dX7_undo_0 : decode cX7_undo 0 = .ok (.aload_n 0, 1) := by decide +kernel
theorem dX7_undo_1 : decode cX7_undo 1 = .ok (.getfield 48, 3) := by decide +kernel
theorem dX7_undo_4 : decode cX7_undo 4 = .ok (.ifCond .ne 6, 3) := by decide +kernel
theorem dX7_undo_7 : decode cX7_undo 7 = .ok (.bipush (-15), 2) := by decide +kernel
theorem dX7_undo_9 : decode cX7_undo 9 = .ok (.ireturn, 1) := by decide +kernel
theorem dX7_undo_10 : decode cX7_undo 10 = .ok (.aload_n 0, 1) := by decide +kernel
theorem dX7_undo_11 : decode cX7_undo 11 = .ok (.dup, 1) := by decide +kernel
theorem dX7_undo_12 : decode cX7_undo 12 = .ok (.getfield 48, 3) := by decide +kernel
theorem dX7_undo_15 : decode cX7_undo 15 = .ok (.iconst 1, 1) := by decide +kernel
theorem dX7_undo_16 : decode cX7_undo 16 = .ok (.isub, 1) := by decide +kernel
theorem dX7_undo_17 : decode cX7_undo 17 = .ok (.putfield 48, 3) := by decide +kernel
theorem dX7_undo_20 : decode cX7_undo 20 = .ok (.aload_n 0, 1) := by decide +kernel
theorem dX7_undo_21 : decode cX7_undo 21 = .ok (.getfield 51, 3) := by decide +kernel
theorem dX7_undo_24 : decode cX7_undo 24 = .ok (.aload_n 0, 1) := by decide +kernel
theorem dX7_undo_25 : decode cX7_undo 25 = .ok (.getfield 48, 3) := by decide +kernel
theorem dX7_undo_28 : decode cX7_undo 28 = .ok (.iadd, 1) := by decide +kernel
theorem dX7_undo_29 : decode cX7_undo 29 = .ok (.bipush 8, 2) := by decide +kernel
theorem dX7_undo_31 : decode cX7_undo 31 = .ok (.irem, 1) := by decide +kernel
theorem dX7_undo_32 : decode cX7_undo 32 = .ok (.istore_n 1, 1) := by decide +kernel
theorem dX7_undo_33 : decode cX7_undo 33 = .ok (.iconst 0, 1) := by decide +kernel
theorem dX7_undo_34 : decode cX7_undo 34 = .ok (.istore_n 2, 1) := by decide +kernel
theorem dX7_undo_35 : decode cX7_undo 35 = .ok (.iload_n 2, 1) := by decide +kernel
theorem dX7_undo_36 : decode cX7_undo 36 = .ok (.sipush 320, 3) := by decide +kernel
theorem dX7_undo_39 : decode cX7_undo 39 = .ok (.if_icmp .ge 27, 3) := by decide +kernel
theorem dX7_undo_42 : decode cX7_undo 42 = .ok (.aload_n 0, 1) := by decide +kernel
theorem dX7_undo_43 : decode cX7_undo 43 = .ok (.getfield 7, 3) := by decide +kernel
theorem dX7_undo_46 : decode cX7_undo 46 = .ok (.iload_n 2, 1) := by decide +kernel
theorem dX7_undo_47 : decode cX7_undo 47 = .ok (.aload_n 0, 1) := by decide +kernel
theorem dX7_undo_48 : decode cX7_undo 48 = .ok (.getfield 13, 3) := by decide +kernel
theorem dX7_undo_51 : decode cX7_undo 51 = .ok (.sipush 320, 3) := by decide +kernel
theorem dX7_undo_54 : decode cX7_undo 54 = .ok (.iload_n 1, 1) := by decide +kernel
theorem dX7_undo_55 : decode cX7_undo 55 = .ok (.imul, 1) := by decide +kernel
theorem dX7_undo_56 : decode cX7_undo 56 = .ok (.iload_n 2, 1) := by decide +kernel
theorem dX7_undo_57 : decode cX7_undo 57 = .ok (.iadd, 1) := by decide +kernel
theorem dX7_undo_58 : decode cX7_undo 58 = .ok (.iaload, 1) := by decide +kernel
theorem dX7_undo_59 : decode cX7_undo 59 = .ok (.iastore, 1) := by decide +kernel
theorem dX7_undo_60 : decode cX7_undo 60 = .ok (.iinc 2 1, 3) := by decide +kernel
theorem dX7_undo_63 : decode cX7_undo 63 = .ok (.goto (-28), 3) := by decide +kernel
theorem dX7_undo_66 : decode cX7_undo 66 = .ok (.aload_n 0, 1) := by decide +kernel
theorem dX7_undo_67 : decode cX7_undo 67 = .ok (.getfield 48, 3) := by decide +kernel
theorem dX7_undo_70 : decode cX7_undo 70 = .ok (.ireturn, 1) := by decide +kernel
theorem dX7_save_0 : decode cX7_save 0 = .ok (.iconst 0, 1) := by decide +kernel
theorem dX7_save_1 : decode cX7_save 1 = .ok (.istore_n 1, 1) := by decide +kernel
theorem dX7_save_2 : decode cX7_save 2 = .ok (.iload_n 1, 1) := by decide +kernel
theorem dX7_save_3 : decode cX7_save 3 = .ok (.sipush 320, 3) := by decide +kernel
theorem dX7_save_6 : decode cX7_save 6 = .ok (.if_icmp .ge 21, 3) := by decide +kernel
theorem dX7_save_9 : decode cX7_save 9 = .ok (.aload_n 0, 1) := by decide +kernel
theorem dX7_save_10 : decode cX7_save 10 = .ok (.getfield 16, 3) := by decide +kernel
theorem dX7_save_13 : decode cX7_save 13 = .ok (.iload_n 1, 1) := by decide +kernel
theorem dX7_save_14 : decode cX7_save 14 = .ok (.aload_n 0, 1) := by decide +kernel
theorem dX7_save_15 : decode cX7_save 15 = .ok (.getfield 7, 3) := by decide +kernel
theorem dX7_save_18 : decode cX7_save 18 = .ok (.iload_n 1, 1) := by decide +kernel
theorem dX7_save_19 : decode cX7_save 19 = .ok (.iaload, 1) := by decide +kernel
theorem dX7_save_20 : decode cX7_save 20 = .ok (.iastore, 1) := by decide +kernel
theorem dX7_save_21 : decode cX7_save 21 = .ok (.iinc 1 1, 3) := by decide +kernel
theorem dX7_save_24 : decode cX7_save 24 = .ok (.goto (-22), 3) := by decide +kernel
theorem dX7_save_27 : decode cX7_save 27 = .ok (.aload_n 0, 1) := by decide +kernel
theorem dX7_save_28 : decode cX7_save 28 = .ok (.iconst 1, 1) := by decide +kernel
theorem dX7_save_29 : decode cX7_save 29 = .ok (.putfield 265, 3) := by decide +kernel
theorem dX7_save_32 : decode cX7_save 32 = .ok (.aload_n 0, 1) := by decide +kernel
theorem dX7_save_33 : decode cX7_save 33 = .ok (.getfield 7, 3) := by decide +kernel
theorem dX7_save_36 : decode cX7_save 36 = .ok (.iconst 2, 1) := by decide +kernel
theorem dX7_save_37 : decode cX7_save 37 = .ok (.iaload, 1) := by decide +kernel
theorem dX7_save_38 : decode cX7_save 38 = .ok (.ireturn, 1) := by decide +kernel
theorem dX7_restore_0 : decode cX7_restore 0 = .ok (.aload_n 0, 1) := by decide +kernel
theorem dX7_restore_1 : decode cX7_restore 1 = .ok (.getfield 265, 3) := by decide +kernel
theorem dX7_restore_4 : decode cX7_restore 4 = .ok (.ifCond .ne 6, 3) := by decide +kernel
theorem dX7_restore_7 : decode cX7_restore 7 = .ok (.bipush (-15), 2) := by decide +kernel
theorem dX7_restore_9 : decode cX7_restore 9 = .ok (.ireturn, 1) := by decide +kernel
theorem dX7_restore_10 : decode cX7_restore 10 = .ok (.iconst 0, 1) := by decide +kernel
theorem dX7_restore_11 : decode cX7_restore 11 = .ok (.istore_n 1, 1) := by decide +kernel
theorem dX7_restore_12 : decode cX7_restore 12 = .ok (.iload_n 1, 1) := by decide +kernel
theorem dX7_restore_13 : decode cX7_restore 13 = .ok (.sipush 320, 3) := by decide +kernel
theorem dX7_restore_16 : decode cX7_restore 16 = .ok (.if_icmp .ge 21, 3) := by decide +kernel
theorem dX7_restore_19 : decode cX7_restore 19 = .ok (.aload_n 0, 1) := by decide +kernel
theorem dX7_restore_20 : decode cX7_restore 20 = .ok (.getfield 7, 3) := by decide +kernel
theorem dX7_restore_23 : decode cX7_restore 23 = .ok (.iload_n 1, 1) := by decide +kernel
theorem dX7_restore_24 : decode cX7_restore 24 = .ok (.aload_n 0, 1) := by decide +kernel
theorem dX7_restore_25 : decode cX7_restore 25 = .ok (.getfield 16, 3) := by decide +kernel
theorem dX7_restore_28 : decode cX7_restore 28 = .ok (.iload_n 1, 1) := by decide +kernel
theorem dX7_restore_29 : decode cX7_restore 29 = .ok (.iaload, 1) := by decide +kernel
theorem dX7_restore_30 : decode cX7_restore 30 = .ok (.iastore, 1) := by decide +kernel
theorem dX7_restore_31 : decode cX7_restore 31 = .ok (.iinc 1 1, 3) := by decide +kernel
theorem dX7_restore_34 : decode cX7_restore 34 = .ok (.goto (-22), 3) := by decide +kernel
theorem dX7_restore_37 : decode cX7_restore 37 = .ok (.aload_n 0, 1) := by decide +kernel
theorem dX7_restore_38 : decode cX7_restore 38 = .ok (.iconst 0, 1) := by decide +kernel
theorem dX7_restore_39 : decode cX7_restore 39 = .ok (.putfield 48, 3) := by decide +kernel
theorem dX7_restore_42 : decode cX7_restore 42 = .ok (.aload_n 0, 1) := by decide +kernel
theorem dX7_restore_43 : decode cX7_restore 43 = .ok (.iconst 0, 1) := by decide +kernel
theorem dX7_restore_44 : decode cX7_restore 44 = .ok (.putfield 51, 3) := by decide +kernel
theorem dX7_restore_47 : decode cX7_restore 47 = .ok (.aload_n 0, 1) := by decide +kernel
theorem dX7_restore_48 : decode cX7_restore 48 = .ok (.getfield 7, 3) := by decide +kernel
theorem dX7_restore_51 : decode cX7_restore 51 = .ok (.iconst 2, 1) := by decide +kernel
theorem dX7_restore_52 : decode cX7_restore 52 = .ok (.iaload, 1) := by decide +kernel
theorem dX7_restore_53 : decode cX7_restore 53 = .ok (.ireturn, 1) := by decide +kernel
