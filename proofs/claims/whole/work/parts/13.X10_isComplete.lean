theorem dX10_isComplete_0 : decode cX10_isComplete 0 = .ok (.aload_n 0, 1) := by decide +kernel
theorem dX10_isComplete_1 : decode cX10_isComplete 1 = .ok (.aload_n 0, 1) := by decide +kernel
theorem dX10_isComplete_2 : decode cX10_isComplete 2 = .ok (.getfield 270, 3) := by decide +kernel
theorem dX10_isComplete_5 : decode cX10_isComplete 5 = .ok (.ifCond .eq 7, 3) := by decide +kernel
theorem dX10_isComplete_8 : decode cX10_isComplete 8 = .ok (.iconst 0, 1) := by decide +kernel
theorem dX10_isComplete_9 : decode cX10_isComplete 9 = .ok (.goto 4, 3) := by decide +kernel
theorem dX10_isComplete_12 : decode cX10_isComplete 12 = .ok (.iconst 1, 1) := by decide +kernel
theorem dX10_isComplete_13 : decode cX10_isComplete 13 = .ok (.putfield 143, 3) := by decide +kernel
theorem dX10_isComplete_16 : decode cX10_isComplete 16 = .ok (.aload_n 0, 1) := by decide +kernel
theorem dX10_isComplete_17 : decode cX10_isComplete 17 = .ok (.getfield 270, 3) := by decide +kernel
theorem dX10_isComplete_20 : decode cX10_isComplete 20 = .ok (.ifCond .eq 14, 3) := by decide +kernel
theorem dX10_isComplete_23 : decode cX10_isComplete 23 = .ok (.aload_n 0, 1) := by decide +kernel
theorem dX10_isComplete_24 : decode cX10_isComplete 24 = .ok (.getfield 352, 3) := by decide +kernel
theorem dX10_isComplete_27 : decode cX10_isComplete 27 = .ok (.ifCond .eq 7, 3) := by decide +kernel
theorem dX10_isComplete_30 : decode cX10_isComplete 30 = .ok (.iconst 1, 1) := by decide +kernel
theorem dX10_isComplete_31 : decode cX10_isComplete 31 = .ok (.goto 4, 3) := by decide +kernel
theorem dX10_isComplete_34 : decode cX10_isComplete 34 = .ok (.iconst 0, 1) := by decide +kernel
theorem dX10_isComplete_35 : decode cX10_isComplete 35 = .ok (.ireturn, 1) := by decide +kernel
theorem dX10_no_0 : decode cX10_no 0 = .ok (.iload_n 1, 1) := by decide +kernel
theorem dX10_no_1 : decode cX10_no 1 = .ok (.iconst 0, 1) := by decide +kernel
theorem dX10_no_2 : decode cX10_no 2 = .ok (.bipush 11, 2) := by decide +kernel
theorem dX10_no_4 : decode cX10_no 4 = .ok (.invokestatic 168, 3) := by decide +kernel
theorem dX10_no_7 : decode cX10_no 7 = .ok (.ifCond .ne 7, 3) := by decide +kernel
theorem dX10_no_10 : decode cX10_no 10 = .ok (.iconst 1, 1) := by decide +kernel
theorem dX10_no_11 : decode cX10_no 11 = .ok (.goto 15, 3) := by decide +kernel
theorem dX10_no_14 : decode cX10_no 14 = .ok (.aload_n 0, 1) := by decide +kernel
theorem dX10_no_15 : decode cX10_no 15 = .ok (.getfield 270, 3) := by decide +kernel
theorem dX10_no_18 : decode cX10_no 18 = .ok (.ifCond .ne 7, 3) := by decide +kernel
theorem dX10_no_21 : decode cX10_no 21 = .ok (.iconst 2, 1) := by decide +kernel
theorem dX10_no_22 : decode cX10_no 22 = .ok (.goto 4, 3) := by decide +kernel
theorem dX10_no_25 : decode cX10_no 25 = .ok (.iconst 0, 1) := by decide +kernel
theorem dX10_no_26 : decode cX10_no 26 = .ok (.ireturn, 1) := by decide +kernel
theorem dX10_farOf_0 : decode cX10_farOf 0 = .ok (.aload_n 0, 1) := by decide +kernel
theorem dX10_farOf_1 : decode cX10_farOf 1 = .ok (.getfield 107, 3) := by decide +kernel
theorem dX10_farOf_4 : decode cX10_farOf 4 = .ok (.iload_n 1, 1) := by decide +kernel
theorem dX10_farOf_5 : decode cX10_farOf 5 = .ok (.iaload, 1) := by decide +kernel
theorem dX10_farOf_6 : decode cX10_farOf 6 = .ok (.ifCond .ne 5, 3) := by decide +kernel
theorem dX10_farOf_9 : decode cX10_farOf 9 = .ok (.iconst (-1), 1) := by decide +kernel
theorem dX10_farOf_10 : decode cX10_farOf 10 = .ok (.ireturn, 1) := by decide +kernel
theorem dX10_farOf_11 : decode cX10_farOf 11 = .ok (.aload_n 0, 1) := by decide +kernel
theorem dX10_farOf_12 : decode cX10_farOf 12 = .ok (.getfield 110, 3) := by decide +kernel
theorem dX10_farOf_15 : decode cX10_farOf 15 = .ok (.iload_n 1, 1) := by decide +kernel
theorem dX10_farOf_16 : decode cX10_farOf 16 = .ok (.iaload, 1) := by decide +kernel
theorem dX10_farOf_17 : decode cX10_farOf 17 = .ok (.istore_n 2, 1) := by decide +kernel
theorem dX10_farOf_18 : decode cX10_farOf 18 = .ok (.iload_n 2, 1) := by decide +kernel
theorem dX10_farOf_19 : decode cX10_farOf 19 = .ok (.ifCond .ge 7, 3) := by decide +kernel
theorem dX10_farOf_22 : decode cX10_farOf 22 = .ok (.iconst 0, 1) := by decide +kernel
theorem dX10_farOf_23 : decode cX10_farOf 23 = .ok (.goto 17, 3) := by decide +kernel
theorem dX10_farOf_26 : decode cX10_farOf 26 = .ok (.aload_n 0, 1) := by decide +kernel
theorem dX10_farOf_27 : decode cX10_farOf 27 = .ok (.getfield 104, 3) := by decide +kernel
theorem dX10_farOf_30 : decode cX10_farOf 30 = .ok (.bipush 11, 2) := by decide +kernel
theorem dX10_farOf_32 : decode cX10_farOf 32 = .ok (.iload_n 2, 1) := by decide +kernel
theorem dX10_farOf_33 : decode cX10_farOf 33 = .ok (.imul, 1) := by decide +kernel
theorem dX10_farOf_34 : decode cX10_farOf 34 = .ok (.bipush 10, 2) := by decide +kernel
theorem dX10_farOf_36 : decode cX10_farOf 36 = .ok (.iadd, 1) := by decide +kernel
theorem dX10_farOf_37 : decode cX10_farOf 37 = .ok (.iaload, 1) := by decide +kernel
theorem dX10_farOf_38 : decode cX10_farOf 38 = .ok (.iconst 1, 1) := by decide +kernel
theorem dX10_farOf_39 : decode cX10_farOf 39 = .ok (.iadd, 1) := by decide +kernel
theorem dX10_farOf_40 : decode cX10_farOf 40 = .ok (.ireturn, 1) := by decide +kernel
theorem dX10_wayLength_0 : decode cX10_wayLength 0 = .ok (.aload_n 0, 1) := by decide +kernel
theorem dX10_wayLength_1 : decode cX10_wayLength 1 = .ok (.aload_n 0, 1) := by decide +kernel
theorem dX10_wayLength_2 : decode cX10_wayLength 2 = .ok (.iload_n 1, 1) := by decide +kernel
theorem dX10_wayLength_3 : decode cX10_wayLength 3 = .ok (.invokevirtual 365, 3) := by decide +kernel
theorem dX10_wayLength_6 : decode cX10_wayLength 6 = .ok (.putfield 143, 3) := by decide +kernel
theorem dX10_wayLength_9 : decode cX10_wayLength 9 = .ok (.aload_n 0, 1) := by decide +kernel
theorem dX10_wayLength_10 : decode cX10_wayLength 10 = .ok (.getfield 143, 3) := by decide +kernel
theorem dX10_wayLength_13 : decode cX10_wayLength 13 = .ok (.ifCond .le 7, 3) := by decide +kernel
theorem dX10_wayLength_16 : decode cX10_wayLength 16 = .ok (.iconst 0, 1) := by decide +kernel
theorem dX10_wayLength_17 : decode cX10_wayLength 17 = .ok (.goto 8, 3) := by decide +kernel
theorem dX10_wayLength_20 : decode cX10_wayLength 20 = .ok (.aload_n 0, 1) := by decide +kernel
theorem dX10_wayLength_21 : decode cX10_wayLength 21 = .ok (.iload_n 1, 1) := by decide +kernel
theorem dX10_wayLength_22 : decode cX10_wayLength 22 = .ok (.invokevirtual 368, 3) := by decide +kernel
theorem dX10_wayLength_25 : decode cX10_wayLength 25 = .ok (.ireturn, 1) := by decide +kernel
theorem dX10_way_0 : decode cX10_way 0 = .ok (.aload_n 0, 1) := by decide +kernel
theorem dX10_way_1 : decode cX10_way 1 = .ok (.aload_n 0, 1) := by decide +kernel
theorem dX10_way_2 : decode cX10_way 2 = .ok (.iload_n 1, 1) := by decide +kernel
theorem dX10_way_3 : decode cX10_way 3 = .ok (.invokevirtual 365, 3) := by decide +kernel
theorem dX10_way_6 : decode cX10_way 6 = .ok (.putfield 143, 3) := by decide +kernel
theorem dX10_way_9 : decode cX10_way 9 = .ok (.aload_n 0, 1) := by decide +kernel
theorem dX10_way_10 : decode cX10_way 10 = .ok (.getfield 143, 3) := by decide +kernel
theorem dX10_way_13 : decode cX10_way 13 = .ok (.ifCond .le 5, 3) := by decide +kernel
theorem dX10_way_16 : decode cX10_way 16 = .ok (.iconst 0, 1) := by decide +kernel
theorem dX10_way_17 : decode cX10_way 17 = .ok (.ireturn, 1) := by decide +kernel
theorem dX10_way_18 : decode cX10_way 18 = .ok (.aload_n 0, 1) := by decide +kernel
theorem dX10_way_19 : decode cX10_way 19 = .ok (.iload_n 1, 1) := by decide +kernel
theorem dX10_way_20 : decode cX10_way 20 = .ok (.invokevirtual 368, 3) := by decide +kernel
theorem dX10_way_23 : decode cX10_way 23 = .ok (.istore_n 3, 1) := by decide +kernel
theorem dX10_way_24 : decode cX10_way 24 = .ok (.iload_n 2, 1) := by decide +kernel
theorem dX10_way_25 : decode cX10_way 25 = .ok (.iconst 0, 1) := by decide +kernel
theorem dX10_way_26 : decode cX10_way 26 = .ok (.iload_n 3, 1) := by decide +kernel
theorem dX10_way_27 : decode cX10_way 27 = .ok (.iconst 1, 1) := by decide +kernel
theorem dX10_way_28 : decode cX10_way 28 = .ok (.isub, 1) := by decide +kernel
theorem dX10_way_29 : decode cX10_way 29 = .ok (.invokestatic 168, 3) := by decide +kernel
theorem dX10_way_32 : decode cX10_way 32 = .ok (.ifCond .ne 9, 3) := by decide +kernel
theorem dX10_way_35 : decode cX10_way 35 = .ok (.aload_n 0, 1) := by decide +kernel
theorem dX10_way_36 : decode cX10_way 36 = .ok (.iconst 3, 1) := by decide +kernel
theorem dX10_way_37 : decode cX10_way 37 = .ok (.invokevirtual 253, 3) := by decide +kernel
theorem dX10_way_40 : decode cX10_way 40 = .ok (.ireturn, 1) := by decide +kernel
theorem dX10_way_41 : decode cX10_way 41 = .ok (.aload_n 0, 1) := by decide +kernel
theorem dX10_way_42 : decode cX10_way 42 = .ok (.getfield 110, 3) := by decide +kernel
theorem dX10_way_45 : decode cX10_way 45 = .ok (.iload_n 1, 1) := by decide +kernel
theorem dX10_way_46 : decode cX10_way 46 = .ok (.iaload, 1) := by decide +kernel
theorem dX10_way_47 : decode cX10_way 47 = .ok (.istore 4, 2) := by decide +kernel
theorem dX10_way_49 : decode cX10_way 49 = .ok (.aload_n 0, 1) := by decide +kernel
theorem dX10_way_50 : decode cX10_way 50 = .ok (.getfield 113, 3) := by decide +kernel
theorem dX10_way_53 : decode cX10_way 53 = .ok (.iload_n 1, 1) := by decide +kernel
theorem dX10_way_54 : decode cX10_way 54 = .ok (.iaload, 1) := by decide +kernel
theorem dX10_way_55 : decode cX10_way 55 = .ok (.istore 5, 2) := by decide +kernel
theorem dX10_way_57 : decode cX10_way 57 = .ok (.iload_n 3, 1) := by decide +kernel
theorem dX10_way_58 : decode cX10_way 58 = .ok (.iconst 1, 1) := by decide +kernel
theorem dX10_way_59 : decode cX10_way 59 = .ok (.isub, 1) := by decide +kernel
theorem dX10_way_60 : decode cX10_way 60 = .ok (.istore 6, 2) := by decide +kernel
theorem dX10_way_62 : decode cX10_way 62 = .ok (.iload 6, 2) := by decide +kernel
theorem dX10_way_64 : decode cX10_way 64 = .ok (.iload_n 2, 1) := by decide +kernel
theorem dX10_way_65 : decode cX10_way 65 = .ok (.if_icmp .le 39, 3) := by decide +kernel
theorem dX10_way_68 : decode cX10_way 68 = .ok (.aload_n 0, 1) := by decide +kernel
theorem dX10_way_69 : decode cX10_way 69 = .ok (.getfield 104, 3) := by decide +kernel
theorem dX10_way_72 : decode cX10_way 72 = .ok (.bipush 11, 2) := by decide +kernel
theorem dX10_way_74 : decode cX10_way 74 = .ok (.iload 4, 2) := by decide +kernel
theorem dX10_way_76 : decode cX10_way 76 = .ok (.imul, 1) := by decide +kernel
theorem dX10_way_77 : decode cX10_way 77 = .ok (.bipush 9, 2) := by decide +kernel
theorem dX10_way_79 : decode cX10_way 79 = .ok (.iadd, 1) := by decide +kernel
theorem dX10_way_80 : decode cX10_way 80 = .ok (.iaload, 1) := by decide +kernel
theorem dX10_way_81 : decode cX10_way 81 = .ok (.istore 5, 2) := by decide +kernel
theorem dX10_way_83 : decode cX10_way 83 = .ok (.aload_n 0, 1) := by decide +kernel
theorem dX10_way_84 : decode cX10_way 84 = .ok (.getfield 104, 3) := by decide +kernel
theorem dX10_way_87 : decode cX10_way 87 = .ok (.bipush 11, 2) := by decide +kernel
theorem dX10_way_89 : decode cX10_way 89 = .ok (.iload 4, 2) := by decide +kernel
theorem dX10_way_91 : decode cX10_way 91 = .ok (.imul, 1) := by decide +kernel
theorem dX10_way_92 : decode cX10_way 92 = .ok (.bipush 8, 2) := by decide +kernel
theorem dX10_way_94 : decode cX10_way 94 = .ok (.iadd, 1) := by decide +kernel
theorem dX10_way_95 : decode cX10_way 95 = .ok (.iaload, 1) := by decide +kernel
theorem dX10_way_96 : decode cX10_way 96 = .ok (.istore 4, 2) := by decide +kernel
theorem dX10_way_98 : decode cX10_way 98 = .ok (.iinc 6 (-1), 3) := by decide +kernel
theorem dX10_way_101 : decode cX10_way 101 = .ok (.goto (-39), 3) := by decide +kernel
theorem dX10_way_104 : decode cX10_way 104 = .ok (.iload 5, 2) := by decide +kernel
theorem dX10_way_106 : decode cX10_way 106 = .ok (.ireturn, 1) := by decide +kernel
theorem dX10_outcomes_0 : decode cX10_outcomes 0 = .ok (.aload_n 0, 1) := by decide +kernel
theorem dX10_outcomes_1 : decode cX10_outcomes 1 = .ok (.aload_n 0, 1) := by decide +kernel
theorem dX10_outcomes_2 : decode cX10_outcomes 2 = .ok (.iload_n 1, 1) := by decide +kernel
theorem dX10_outcomes_3 : decode cX10_outcomes 3 = .ok (.invokevirtual 365, 3) := by decide +kernel
theorem dX10_outcomes_6 : decode cX10_outcomes 6 = .ok (.putfield 143, 3) := by decide +kernel
theorem dX10_outcomes_9 : decode cX10_outcomes 9 = .ok (.aload_n 0, 1) := by decide +kernel
theorem dX10_outcomes_10 : decode cX10_outcomes 10 = .ok (.getfield 143, 3) := by decide +kernel
theorem dX10_outcomes_13 : decode cX10_outcomes 13 = .ok (.ifCond .le 7, 3) := by decide +kernel
theorem dX10_outcomes_16 : decode cX10_outcomes 16 = .ok (.iconst 0, 1) := by decide +kernel
theorem dX10_outcomes_17 : decode cX10_outcomes 17 = .ok (.goto 9, 3) := by decide +kernel
theorem dX10_outcomes_20 : decode cX10_outcomes 20 = .ok (.aload_n 0, 1) := by decide +kernel
theorem dX10_outcomes_21 : decode cX10_outcomes 21 = .ok (.getfield 107, 3) := by decide +kernel
theorem dX10_outcomes_24 : decode cX10_outcomes 24 = .ok (.iload_n 1, 1) := by decide +kernel
theorem dX10_outcomes_25 : decode cX10_outcomes 25 = .ok (.iaload, 1) := by decide +kernel
theorem dX10_outcomes_26 : decode cX10_outcomes 26 = .ok (.ireturn, 1) := by decide +kernel
theorem dX10_occurred_0 : decode cX10_occurred 0 = .ok (.aload_n 0, 1) := by decide +kernel
theorem dX10_occurred_1 : decode cX10_occurred 1 = .ok (.iload_n 1, 1) := by decide +kernel
theorem dX10_occurred_2 : decode cX10_occurred 2 = .ok (.iconst 0, 1) := by decide +kernel
theorem dX10_occurred_3 : decode cX10_occurred 3 = .ok (.iconst 2, 1) := by decide +kernel
theorem dX10_occurred_4 : decode cX10_occurred 4 = .ok (.invokestatic 168, 3) := by decide +kernel
theorem dX10_occurred_7 : decode cX10_occurred 7 = .ok (.ifCond .ne 7, 3) := by decide +kernel
theorem dX10_occurred_10 : decode cX10_occurred 10 = .ok (.iconst 1, 1) := by decide +kernel
theorem dX10_occurred_11 : decode cX10_occurred 11 = .ok (.goto 56, 3) := by decide +kernel
theorem dX10_occurred_14 : decode cX10_occurred 14 = .ok (.aload_n 0, 1) := by decide +kernel
theorem dX10_occurred_15 : decode cX10_occurred 15 = .ok (.getfield 270, 3) := by decide +kernel
theorem dX10_occurred_18 : decode cX10_occurred 18 = .ok (.ifCond .ne 7, 3) := by decide +kernel
theorem dX10_occurred_21 : decode cX10_occurred 21 = .ok (.iconst 2, 1) := by decide +kernel
theorem dX10_occurred_22 : decode cX10_occurred 22 = .ok (.goto 45, 3) := by decide +kernel
theorem dX10_occurred_25 : decode cX10_occurred 25 = .ok (.iload_n 2, 1) := by decide +kernel
theorem dX10_occurred_26 : decode cX10_occurred 26 = .ok (.iconst 0, 1) := by decide +kernel
theorem dX10_occurred_27 : decode cX10_occurred 27 = .ok (.iload_n 1, 1) := by decide +kernel
theorem dX10_occurred_28 : decode cX10_occurred 28 = .ok (.ifCond .ne 8, 3) := by decide +kernel
theorem dX10_occurred_31 : decode cX10_occurred 31 = .ok (.bipush 99, 2) := by decide +kernel
theorem dX10_occurred_33 : decode cX10_occurred 33 = .ok (.goto 23, 3) := by decide +kernel
theorem dX10_occurred_36 : decode cX10_occurred 36 = .ok (.iload_n 1, 1) := by decide +kernel
theorem dX10_occurred_37 : decode cX10_occurred 37 = .ok (.iconst 1, 1) := by decide +kernel
theorem dX10_occurred_38 : decode cX10_occurred 38 = .ok (.if_icmp .ne 12, 3) := by decide +kernel
theorem dX10_occurred_41 : decode cX10_occurred 41 = .ok (.aload_n 0, 1) := by decide +kernel
theorem dX10_occurred_42 : decode cX10_occurred 42 = .ok (.getfield 195, 3) := by decide +kernel
theorem dX10_occurred_45 : decode cX10_occurred 45 = .ok (.iconst 1, 1) := by decide +kernel
theorem dX10_occurred_46 : decode cX10_occurred 46 = .ok (.isub, 1) := by decide +kernel
theorem dX10_occurred_47 : decode cX10_occurred 47 = .ok (.goto 9, 3) := by decide +kernel
theorem dX10_occurred_50 : decode cX10_occurred 50 = .ok (.aload_n 0, 1) := by decide +kernel
theorem dX10_occurred_51 : decode cX10_occurred 51 = .ok (.getfield 222, 3) := by decide +kernel
theorem dX10_occurred_54 : decode cX10_occurred 54 = .ok (.iconst 1, 1) := by decide +kernel
theorem dX10_occurred_55 : decode cX10_occurred 55 = .ok (.isub, 1) := by decide +kernel
theorem dX10_occurred_56 : decode cX10_occurred 56 = .ok (.invokestatic 168, 3) := by decide +kernel
theorem dX10_occurred_59 : decode cX10_occurred 59 = .ok (.ifCond .ne 7, 3) := by decide +kernel
theorem dX10_occurred_62 : decode cX10_occurred 62 = .ok (.iconst 3, 1) := by decide +kernel
theorem dX10_occurred_63 : decode cX10_occurred 63 = .ok (.goto 4, 3) := by decide +kernel
theorem dX10_occurred_66 : decode cX10_occurred 66 = .ok (.iconst 0, 1) := by decide +kernel
theorem dX10_occurred_67 : decode cX10_occurred 67 = .ok (.putfield 143, 3) := by decide +kernel
theorem dX10_occurred_70 : decode cX10_occurred 70 = .ok (.aload_n 0, 1) := by decide +kernel
theorem dX10_occurred_71 : decode cX10_occurred 71 = .ok (.getfield 143, 3) := by decide +kernel
theorem dX10_occurred_74 : decode cX10_occurred 74 = .ok (.ifCond .le 5, 3) := by decide +kernel
theorem dX10_occurred_77 : decode cX10_occurred 77 = .ok (.iconst 0, 1) := by decide +kernel
theorem dX10_occurred_78 : decode cX10_occurred 78 = .ok (.ireturn, 1) := by decide +kernel
theorem dX10_occurred_79 : decode cX10_occurred 79 = .ok (.iload_n 1, 1) := by decide +kernel
theorem dX10_occurred_80 : decode cX10_occurred 80 = .ok (.ifCond .ne 12, 3) := by decide +kernel
theorem dX10_occurred_83 : decode cX10_occurred 83 = .ok (.aload_n 0, 1) := by decide +kernel
theorem dX10_occurred_84 : decode cX10_occurred 84 = .ok (.getfield 95, 3) := by decide +kernel
theorem dX10_occurred_87 : decode cX10_occurred 87 = .ok (.iload_n 2, 1) := by decide +kernel
theorem dX10_occurred_88 : decode cX10_occurred 88 = .ok (.baload, 1) := by decide +kernel
theorem dX10_occurred_89 : decode cX10_occurred 89 = .ok (.goto 23, 3) := by decide +kernel
theorem dX10_occurred_92 : decode cX10_occurred 92 = .ok (.iload_n 1, 1) := by decide +kernel
theorem dX10_occurred_93 : decode cX10_occurred 93 = .ok (.iconst 1, 1) := by decide +kernel
theorem dX10_occurred_94 : decode cX10_occurred 94 = .ok (.if_icmp .ne 12, 3) := by decide +kernel
theorem dX10_occurred_97 : decode cX10_occurred 97 = .ok (.aload_n 0, 1) := by decide +kernel
theorem dX10_occurred_98 : decode cX10_occurred 98 = .ok (.getfield 98, 3) := by decide +kernel
theorem dX10_occurred_101 : decode cX10_occurred 101 = .ok (.iload_n 2, 1) := by decide +kernel
theorem dX10_occurred_102 : decode cX10_occurred 102 = .ok (.baload, 1) := by decide +kernel
theorem dX10_occurred_103 : decode cX10_occurred 103 = .ok (.goto 9, 3) := by decide +kernel
theorem dX10_occurred_106 : decode cX10_occurred 106 = .ok (.aload_n 0, 1) := by decide +kernel
theorem dX10_occurred_107 : decode cX10_occurred 107 = .ok (.getfield 101, 3) := by decide +kernel
theorem dX10_occurred_110 : decode cX10_occurred 110 = .ok (.iload_n 2, 1) := by decide +kernel
theorem dX10_occurred_111 : decode cX10_occurred 111 = .ok (.baload, 1) := by decide +kernel
theorem dX10_occurred_112 : decode cX10_occurred 112 = .ok (.ireturn, 1) := by decide +kernel
theorem dX10_copies_0 : decode cX10_copies 0 = .ok (.iconst 0, 1) := by decide +kernel
theorem dX10_copies_1 : decode cX10_copies 1 = .ok (.istore 4, 2) := by decide +kernel
theorem dX10_copies_3 : decode cX10_copies 3 = .ok (.iload 4, 2) := by decide +kernel
theorem dX10_copies_5 : decode cX10_copies 5 = .ok (.bipush 9, 2) := by decide +kernel
theorem dX10_copies_7 : decode cX10_copies 7 = .ok (.if_icmp .ge 21, 3) := by decide +kernel
theorem dX10_copies_10 : decode cX10_copies 10 = .ok (.aload_n 2, 1) := by decide +kernel
theorem dX10_copies_11 : decode cX10_copies 11 = .ok (.iload_n 3, 1) := by decide +kernel
theorem dX10_copies_12 : decode cX10_copies 12 = .ok (.iload 4, 2) := by decide +kernel
theorem dX10_copies_14 : decode cX10_copies 14 = .ok (.iadd, 1) := by decide +kernel
theorem dX10_copies_15 : decode cX10_copies 15 = .ok (.aload_n 0, 1) := by decide +kernel
theorem dX10_copies_16 : decode cX10_copies 16 = .ok (.iload_n 1, 1) := by decide +kernel
theorem dX10_copies_17 : decode cX10_copies 17 = .ok (.iload 4, 2) := by decide +kernel
theorem dX10_copies_19 : decode cX10_copies 19 = .ok (.iadd, 1) := by decide +kernel
theorem dX10_copies_20 : decode cX10_copies 20 = .ok (.iaload, 1) := by decide +kernel
theorem dX10_copies_21 : decode cX10_copies 21 = .ok (.iastore, 1) := by decide +kernel
theorem dX10_copies_22 : decode cX10_copies 22 = .ok (.iinc 4 1, 3) := by decide +kernel
theorem dX10_copies_25 : decode cX10_copies 25 = .ok (.goto (-22), 3) := by decide +kernel
theorem dX10_copies_28 : decode cX10_copies 28 = .ok (.return_, 1) := by decide +kernel
theorem dX10_joins_0 : decode cX10_joins 0 = .ok (.aload_n 2, 1) := by decide +kernel
theorem dX10_joins_1 : decode cX10_joins 1 = .ok (.iload_n 3, 1) := by decide +kernel
theorem dX10_joins_2 : decode cX10_joins 2 = .ok (.iconst 0, 1) := by decide +kernel
theorem dX10_joins_3 : decode cX10_joins 3 = .ok (.iadd, 1) := by decide +kernel
theorem dX10_joins_4 : decode cX10_joins 4 = .ok (.iaload, 1) := by decide +kernel
theorem dX10_joins_5 : decode cX10_joins 5 = .ok (.ifCond .ne 4, 3) := by decide +kernel
theorem dX10_joins_8 : decode cX10_joins 8 = .ok (.return_, 1) := by decide +kernel
theorem dX10_joins_9 : decode cX10_joins 9 = .ok (.aload_n 0, 1) := by decide +kernel
theorem dX10_joins_10 : decode cX10_joins 10 = .ok (.iload_n 1, 1) := by decide +kernel
theorem dX10_joins_11 : decode cX10_joins 11 = .ok (.iconst 0, 1) := by decide +kernel
theorem dX10_joins_12 : decode cX10_joins 12 = .ok (.iadd, 1) := by decide +kernel
theorem dX10_joins_13 : decode cX10_joins 13 = .ok (.iaload, 1) := by decide +kernel
theorem dX10_joins_14 : decode cX10_joins 14 = .ok (.ifCond .ne 11, 3) := by decide +kernel
theorem dX10_joins_17 : decode cX10_joins 17 = .ok (.aload_n 2, 1) := by decide +kernel
theorem dX10_joins_18 : decode cX10_joins 18 = .ok (.iload_n 3, 1) := by decide +kernel
theorem dX10_joins_19 : decode cX10_joins 19 = .ok (.aload_n 0, 1) := by decide +kernel
theorem dX10_joins_20 : decode cX10_joins 20 = .ok (.iload_n 1, 1) := by decide +kernel
theorem dX10_joins_21 : decode cX10_joins 21 = .ok (.invokestatic 371, 3) := by decide +kernel
theorem dX10_joins_24 : decode cX10_joins 24 = .ok (.return_, 1) := by decide +kernel
theorem dX10_joins_25 : decode cX10_joins 25 = .ok (.iconst 0, 1) := by decide +kernel
theorem dX10_joins_26 : decode cX10_joins 26 = .ok (.istore 4, 2) := by decide +kernel
theorem dX10_joins_28 : decode cX10_joins 28 = .ok (.iload 4, 2) := by decide +kernel
theorem dX10_joins_30 : decode cX10_joins 30 = .ok (.iconst 3, 1) := by decide +kernel
theorem dX10_joins_31 : decode cX10_joins 31 = .ok (.if_icmp .ge 101, 3) := by decide +kernel
theorem dX10_joins_34 : decode cX10_joins 34 = .ok (.aload_n 0, 1) := by decide +kernel
theorem dX10_joins_35 : decode cX10_joins 35 = .ok (.iload_n 1, 1) := by decide +kernel
theorem dX10_joins_36 : decode cX10_joins 36 = .ok (.iconst 1, 1) := by decide +kernel
theorem dX10_joins_37 : decode cX10_joins 37 = .ok (.iadd, 1) := by decide +kernel
theorem dX10_joins_38 : decode cX10_joins 38 = .ok (.iload 4, 2) := by decide +kernel
theorem dX10_joins_40 : decode cX10_joins 40 = .ok (.iadd, 1) := by decide +kernel
theorem dX10_joins_41 : decode cX10_joins 41 = .ok (.aload_n 2, 1) := by decide +kernel
theorem dX10_joins_42 : decode cX10_joins 42 = .ok (.iload_n 3, 1) := by decide +kernel
theorem dX10_joins_43 : decode cX10_joins 43 = .ok (.iconst 1, 1) := by decide +kernel
theorem dX10_joins_44 : decode cX10_joins 44 = .ok (.iadd, 1) := by decide +kernel
theorem dX10_joins_45 : decode cX10_joins 45 = .ok (.iload 4, 2) := by decide +kernel
theorem dX10_joins_47 : decode cX10_joins 47 = .ok (.iadd, 1) := by decide +kernel
theorem dX10_joins_48 : decode cX10_joins 48 = .ok (.iaload, 1) := by decide +kernel
theorem dX10_joins_49 : decode cX10_joins 49 = .ok (.aload_n 0, 1) := by decide +kernel
theorem dX10_joins_50 : decode cX10_joins 50 = .ok (.iload_n 1, 1) := by decide +kernel
theorem dX10_joins_51 : decode cX10_joins 51 = .ok (.iconst 1, 1) := by decide +kernel
theorem dX10_joins_52 : decode cX10_joins 52 = .ok (.iadd, 1) := by decide +kernel
theorem dX10_joins_53 : decode cX10_joins 53 = .ok (.iload 4, 2) := by decide +kernel
theorem dX10_joins_55 : decode cX10_joins 55 = .ok (.iadd, 1) := by decide +kernel
theorem dX10_joins_56 : decode cX10_joins 56 = .ok (.iaload, 1) := by decide +kernel
theorem dX10_joins_57 : decode cX10_joins 57 = .ok (.if_icmp .ge 14, 3) := by decide +kernel
theorem dX10_joins_60 : decode cX10_joins 60 = .ok (.aload_n 2, 1) := by decide +kernel
theorem dX10_joins_61 : decode cX10_joins 61 = .ok (.iload_n 3, 1) := by decide +kernel
theorem dX10_joins_62 : decode cX10_joins 62 = .ok (.iconst 1, 1) := by decide +kernel
theorem dX10_joins_63 : decode cX10_joins 63 = .ok (.iadd, 1) := by decide +kernel
theorem dX10_joins_64 : decode cX10_joins 64 = .ok (.iload 4, 2) := by decide +kernel
theorem dX10_joins_66 : decode cX10_joins 66 = .ok (.iadd, 1) := by decide +kernel
theorem dX10_joins_67 : decode cX10_joins 67 = .ok (.iaload, 1) := by decide +kernel
theorem dX10_joins_68 : decode cX10_joins 68 = .ok (.goto 11, 3) := by decide +kernel
theorem dX10_joins_71 : decode cX10_joins 71 = .ok (.aload_n 0, 1) := by decide +kernel
theorem dX10_joins_72 : decode cX10_joins 72 = .ok (.iload_n 1, 1) := by decide +kernel
theorem dX10_joins_73 : decode cX10_joins 73 = .ok (.iconst 1, 1) := by decide +kernel
theorem dX10_joins_74 : decode cX10_joins 74 = .ok (.iadd, 1) := by decide +kernel
theorem dX10_joins_75 : decode cX10_joins 75 = .ok (.iload 4, 2) := by decide +kernel
theorem dX10_joins_77 : decode cX10_joins 77 = .ok (.iadd, 1) := by decide +kernel
theorem dX10_joins_78 : decode cX10_joins 78 = .ok (.iaload, 1) := by decide +kernel
theorem dX10_joins_79 : decode cX10_joins 79 = .ok (.iastore, 1) := by decide +kernel
theorem dX10_joins_80 : decode cX10_joins 80 = .ok (.aload_n 0, 1) := by decide +kernel
theorem dX10_joins_81 : decode cX10_joins 81 = .ok (.iload_n 1, 1) := by decide +kernel
theorem dX10_joins_82 : decode cX10_joins 82 = .ok (.iconst 4, 1) := by decide +kernel
theorem dX10_joins_83 : decode cX10_joins 83 = .ok (.iadd, 1) := by decide +kernel
theorem dX10_joins_84 : decode cX10_joins 84 = .ok (.iload 4, 2) := by decide +kernel
theorem dX10_joins_86 : decode cX10_joins 86 = .ok (.iadd, 1) := by decide +kernel
theorem dX10_joins_87 : decode cX10_joins 87 = .ok (.aload_n 2, 1) := by decide +kernel
theorem dX10_joins_88 : decode cX10_joins 88 = .ok (.iload_n 3, 1) := by decide +kernel
theorem dX10_joins_89 : decode cX10_joins 89 = .ok (.iconst 4, 1) := by decide +kernel
theorem dX10_joins_90 : decode cX10_joins 90 = .ok (.iadd, 1) := by decide +kernel
theorem dX10_joins_91 : decode cX10_joins 91 = .ok (.iload 4, 2) := by decide +kernel
theorem dX10_joins_93 : decode cX10_joins 93 = .ok (.iadd, 1) := by decide +kernel
theorem dX10_joins_94 : decode cX10_joins 94 = .ok (.iaload, 1) := by decide +kernel
theorem dX10_joins_95 : decode cX10_joins 95 = .ok (.aload_n 0, 1) := by decide +kernel
theorem dX10_joins_96 : decode cX10_joins 96 = .ok (.iload_n 1, 1) := by decide +kernel
theorem dX10_joins_97 : decode cX10_joins 97 = .ok (.iconst 4, 1) := by decide +kernel
theorem dX10_joins_98 : decode cX10_joins 98 = .ok (.iadd, 1) := by decide +kernel
theorem dX10_joins_99 : decode cX10_joins 99 = .ok (.iload 4, 2) := by decide +kernel
theorem dX10_joins_101 : decode cX10_joins 101 = .ok (.iadd, 1) := by decide +kernel
theorem dX10_joins_102 : decode cX10_joins 102 = .ok (.iaload, 1) := by decide +kernel
theorem dX10_joins_103 : decode cX10_joins 103 = .ok (.if_icmp .le 14, 3) := by decide +kernel
theorem dX10_joins_106 : decode cX10_joins 106 = .ok (.aload_n 2, 1) := by decide +kernel
theorem dX10_joins_107 : decode cX10_joins 107 = .ok (.iload_n 3, 1) := by decide +kernel
theorem dX10_joins_108 : decode cX10_joins 108 = .ok (.iconst 4, 1) := by decide +kernel
theorem dX10_joins_109 : decode cX10_joins 109 = .ok (.iadd, 1) := by decide +kernel
theorem dX10_joins_110 : decode cX10_joins 110 = .ok (.iload 4, 2) := by decide +kernel
theorem dX10_joins_112 : decode cX10_joins 112 = .ok (.iadd, 1) := by decide +kernel
theorem dX10_joins_113 : decode cX10_joins 113 = .ok (.iaload, 1) := by decide +kernel
theorem dX10_joins_114 : decode cX10_joins 114 = .ok (.goto 11, 3) := by decide +kernel
theorem dX10_joins_117 : decode cX10_joins 117 = .ok (.aload_n 0, 1) := by decide +kernel
theorem dX10_joins_118 : decode cX10_joins 118 = .ok (.iload_n 1, 1) := by decide +kernel
theorem dX10_joins_119 : decode cX10_joins 119 = .ok (.iconst 4, 1) := by decide +kernel
theorem dX10_joins_120 : decode cX10_joins 120 = .ok (.iadd, 1) := by decide +kernel
theorem dX10_joins_121 : decode cX10_joins 121 = .ok (.iload 4, 2) := by decide +kernel
theorem dX10_joins_123 : decode cX10_joins 123 = .ok (.iadd, 1) := by decide +kernel
theorem dX10_joins_124 : decode cX10_joins 124 = .ok (.iaload, 1) := by decide +kernel
theorem dX10_joins_125 : decode cX10_joins 125 = .ok (.iastore, 1) := by decide +kernel
theorem dX10_joins_126 : decode cX10_joins 126 = .ok (.iinc 4 1, 3) := by decide +kernel
theorem dX10_joins_129 : decode cX10_joins 129 = .ok (.goto (-101), 3) := by decide +kernel
theorem dX10_joins_132 : decode cX10_joins 132 = .ok (.aload_n 0, 1) := by decide +kernel
theorem dX10_joins_133 : decode cX10_joins 133 = .ok (.iload_n 1, 1) := by decide +kernel
theorem dX10_joins_134 : decode cX10_joins 134 = .ok (.bipush 7, 2) := by decide +kernel
theorem dX10_joins_136 : decode cX10_joins 136 = .ok (.iadd, 1) := by decide +kernel
theorem dX10_joins_137 : decode cX10_joins 137 = .ok (.dup2, 1) := by decide +kernel
theorem dX10_joins_138 : decode cX10_joins 138 = .ok (.iaload, 1) := by decide +kernel
theorem dX10_joins_139 : decode cX10_joins 139 = .ok (.aload_n 2, 1) := by decide +kernel
theorem dX10_joins_140 : decode cX10_joins 140 = .ok (.iload_n 3, 1) := by decide +kernel
theorem dX10_joins_141 : decode cX10_joins 141 = .ok (.bipush 7, 2) := by decide +kernel
theorem dX10_joins_143 : decode cX10_joins 143 = .ok (.iadd, 1) := by decide +kernel
theorem dX10_joins_144 : decode cX10_joins 144 = .ok (.iaload, 1) := by decide +kernel
theorem dX10_joins_145 : decode cX10_joins 145 = .ok (.ior, 1) := by decide +kernel
theorem dX10_joins_146 : decode cX10_joins 146 = .ok (.iastore, 1) := by decide +kernel
theorem dX10_joins_147 : decode cX10_joins 147 = .ok (.aload_n 0, 1) := by decide +kernel
theorem dX10_joins_148 : decode cX10_joins 148 = .ok (.iload_n 1, 1) := by decide +kernel
theorem dX10_joins_149 : decode cX10_joins 149 = .ok (.bipush 8, 2) := by decide +kernel
theorem dX10_joins_151 : decode cX10_joins 151 = .ok (.iadd, 1) := by decide +kernel
theorem dX10_joins_152 : decode cX10_joins 152 = .ok (.dup2, 1) := by decide +kernel
theorem dX10_joins_153 : decode cX10_joins 153 = .ok (.iaload, 1) := by decide +kernel
theorem dX10_joins_154 : decode cX10_joins 154 = .ok (.aload_n 2, 1) := by decide +kernel
theorem dX10_joins_155 : decode cX10_joins 155 = .ok (.iload_n 3, 1) := by decide +kernel
theorem dX10_joins_156 : decode cX10_joins 156 = .ok (.bipush 8, 2) := by decide +kernel
theorem dX10_joins_158 : decode cX10_joins 158 = .ok (.iadd, 1) := by decide +kernel
theorem dX10_joins_159 : decode cX10_joins 159 = .ok (.iaload, 1) := by decide +kernel
theorem dX10_joins_160 : decode cX10_joins 160 = .ok (.ior, 1) := by decide +kernel
theorem dX10_joins_161 : decode cX10_joins 161 = .ok (.iastore, 1) := by decide +kernel
theorem dX10_joins_162 : decode cX10_joins 162 = .ok (.return_, 1) := by decide +kernel
theorem dX10_comesTo_0 : decode cX10_comesTo 0 = .ok (.iconst 1, 1) := by decide +kernel
theorem dX10_comesTo_1 : decode cX10_comesTo 1 = .ok (.istore_n 2, 1) := by decide +kernel
theorem dX10_comesTo_2 : decode cX10_comesTo 2 = .ok (.aload_n 0, 1) := by decide +kernel
theorem dX10_comesTo_3 : decode cX10_comesTo 3 = .ok (.getfield 116, 3) := by decide +kernel
theorem dX10_comesTo_6 : decode cX10_comesTo 6 = .ok (.bipush 9, 2) := by decide +kernel
theorem dX10_comesTo_8 : decode cX10_comesTo 8 = .ok (.iload_n 1, 1) := by decide +kernel
theorem dX10_comesTo_9 : decode cX10_comesTo 9 = .ok (.imul, 1) := by decide +kernel
theorem dX10_comesTo_10 : decode cX10_comesTo 10 = .ok (.aload_n 0, 1) := by decide +kernel
theorem dX10_comesTo_11 : decode cX10_comesTo 11 = .ok (.getfield 119, 3) := by decide +kernel
theorem dX10_comesTo_14 : decode cX10_comesTo 14 = .ok (.sipush 141, 3) := by decide +kernel
theorem dX10_comesTo_17 : decode cX10_comesTo 17 = .ok (.invokestatic 371, 3) := by decide +kernel
theorem dX10_comesTo_20 : decode cX10_comesTo 20 = .ok (.aload_n 0, 1) := by decide +kernel
theorem dX10_comesTo_21 : decode cX10_comesTo 21 = .ok (.getfield 116, 3) := by decide +kernel
theorem dX10_comesTo_24 : decode cX10_comesTo 24 = .ok (.bipush 9, 2) := by decide +kernel
theorem dX10_comesTo_26 : decode cX10_comesTo 26 = .ok (.iload_n 1, 1) := by decide +kernel
theorem dX10_comesTo_27 : decode cX10_comesTo 27 = .ok (.imul, 1) := by decide +kernel
theorem dX10_comesTo_28 : decode cX10_comesTo 28 = .ok (.aload_n 0, 1) := by decide +kernel
theorem dX10_comesTo_29 : decode cX10_comesTo 29 = .ok (.getfield 119, 3) := by decide +kernel
theorem dX10_comesTo_32 : decode cX10_comesTo 32 = .ok (.iconst 0, 1) := by decide +kernel
theorem dX10_comesTo_33 : decode cX10_comesTo 33 = .ok (.invokestatic 375, 3) := by decide +kernel
theorem dX10_comesTo_36 : decode cX10_comesTo 36 = .ok (.iconst 0, 1) := by decide +kernel
theorem dX10_comesTo_37 : decode cX10_comesTo 37 = .ok (.istore_n 3, 1) := by decide +kernel
theorem dX10_comesTo_38 : decode cX10_comesTo 38 = .ok (.iload_n 3, 1) := by decide +kernel
theorem dX10_comesTo_39 : decode cX10_comesTo 39 = .ok (.bipush 9, 2) := by decide +kernel
theorem dX10_comesTo_41 : decode cX10_comesTo 41 = .ok (.if_icmp .ge 43, 3) := by decide +kernel
theorem dX10_comesTo_44 : decode cX10_comesTo 44 = .ok (.iload_n 2, 1) := by decide +kernel
theorem dX10_comesTo_45 : decode cX10_comesTo 45 = .ok (.ifCond .eq 31, 3) := by decide +kernel
theorem dX10_comesTo_48 : decode cX10_comesTo 48 = .ok (.aload_n 0, 1) := by decide +kernel
theorem dX10_comesTo_49 : decode cX10_comesTo 49 = .ok (.getfield 116, 3) := by decide +kernel
theorem dX10_comesTo_52 : decode cX10_comesTo 52 = .ok (.bipush 9, 2) := by decide +kernel
theorem dX10_comesTo_54 : decode cX10_comesTo 54 = .ok (.iload_n 1, 1) := by decide +kernel
theorem dX10_comesTo_55 : decode cX10_comesTo 55 = .ok (.imul, 1) := by decide +kernel
theorem dX10_comesTo_56 : decode cX10_comesTo 56 = .ok (.iload_n 3, 1) := by decide +kernel
theorem dX10_comesTo_57 : decode cX10_comesTo 57 = .ok (.iadd, 1) := by decide +kernel
theorem dX10_comesTo_58 : decode cX10_comesTo 58 = .ok (.iaload, 1) := by decide +kernel
theorem dX10_comesTo_59 : decode cX10_comesTo 59 = .ok (.aload_n 0, 1) := by decide +kernel
theorem dX10_comesTo_60 : decode cX10_comesTo 60 = .ok (.getfield 119, 3) := by decide +kernel
theorem dX10_comesTo_63 : decode cX10_comesTo 63 = .ok (.sipush 141, 3) := by decide +kernel
theorem dX10_comesTo_66 : decode cX10_comesTo 66 = .ok (.iload_n 3, 1) := by decide +kernel
theorem dX10_comesTo_67 : decode cX10_comesTo 67 = .ok (.iadd, 1) := by decide +kernel
theorem dX10_comesTo_68 : decode cX10_comesTo 68 = .ok (.iaload, 1) := by decide +kernel
theorem dX10_comesTo_69 : decode cX10_comesTo 69 = .ok (.if_icmp .ne 7, 3) := by decide +kernel
theorem dX10_comesTo_72 : decode cX10_comesTo 72 = .ok (.iconst 1, 1) := by decide +kernel
theorem dX10_comesTo_73 : decode cX10_comesTo 73 = .ok (.goto 4, 3) := by decide +kernel
theorem dX10_comesTo_76 : decode cX10_comesTo 76 = .ok (.iconst 0, 1) := by decide +kernel
theorem dX10_comesTo_77 : decode cX10_comesTo 77 = .ok (.istore_n 2, 1) := by decide +kernel
theorem dX10_comesTo_78 : decode cX10_comesTo 78 = .ok (.iinc 3 1, 3) := by decide +kernel
theorem dX10_comesTo_81 : decode cX10_comesTo 81 = .ok (.goto (-43), 3) := by decide +kernel
theorem dX10_comesTo_84 : decode cX10_comesTo 84 = .ok (.aload_n 0, 1) := by decide +kernel
theorem dX10_comesTo_85 : decode cX10_comesTo 85 = .ok (.aload_n 0, 1) := by decide +kernel
theorem dX10_comesTo_86 : decode cX10_comesTo 86 = .ok (.getfield 378, 3) := by decide +kernel
theorem dX10_comesTo_89 : decode cX10_comesTo 89 = .ok (.ifCond .ne 7, 3) := by decide +kernel
theorem dX10_comesTo_92 : decode cX10_comesTo 92 = .ok (.iload_n 2, 1) := by decide +kernel
theorem dX10_comesTo_93 : decode cX10_comesTo 93 = .ok (.ifCond .ne 7, 3) := by decide +kernel
theorem dX10_comesTo_96 : decode cX10_comesTo 96 = .ok (.iconst 1, 1) := by decide +kernel
theorem dX10_comesTo_97 : decode cX10_comesTo 97 = .ok (.goto 4, 3) := by decide +kernel
theorem dX10_comesTo_100 : decode cX10_comesTo 100 = .ok (.iconst 0, 1) := by decide +kernel
theorem dX10_comesTo_101 : decode cX10_comesTo 101 = .ok (.putfield 378, 3) := by decide +kernel
theorem dX10_comesTo_104 : decode cX10_comesTo 104 = .ok (.return_, 1) := by decide +kernel
theorem dX10_checks_0 : decode cX10_checks 0 = .ok (.aload_n 0, 1) := by decide +kernel
theorem dX10_checks_1 : decode cX10_checks 1 = .ok (.getfield 119, 3) := by decide +kernel
theorem dX10_checks_4 : decode cX10_checks 4 = .ok (.iload_n 1, 1) := by decide +kernel
theorem dX10_checks_5 : decode cX10_checks 5 = .ok (.iconst 0, 1) := by decide +kernel
theorem dX10_checks_6 : decode cX10_checks 6 = .ok (.iadd, 1) := by decide +kernel
theorem dX10_checks_7 : decode cX10_checks 7 = .ok (.aload_n 0, 1) := by decide +kernel
theorem dX10_checks_8 : decode cX10_checks 8 = .ok (.getfield 119, 3) := by decide +kernel
theorem dX10_checks_11 : decode cX10_checks 11 = .ok (.iload_n 1, 1) := by decide +kernel
theorem dX10_checks_12 : decode cX10_checks 12 = .ok (.iconst 1, 1) := by decide +kernel
theorem dX10_checks_13 : decode cX10_checks 13 = .ok (.iadd, 1) := by decide +kernel
theorem dX10_checks_14 : decode cX10_checks 14 = .ok (.iload_n 2, 1) := by decide +kernel
theorem dX10_checks_15 : decode cX10_checks 15 = .ok (.iadd, 1) := by decide +kernel
theorem dX10_checks_16 : decode cX10_checks 16 = .ok (.iaload, 1) := by decide +kernel
theorem dX10_checks_17 : decode cX10_checks 17 = .ok (.aload_n 0, 1) := by decide +kernel
theorem dX10_checks_18 : decode cX10_checks 18 = .ok (.getfield 119, 3) := by decide +kernel
theorem dX10_checks_21 : decode cX10_checks 21 = .ok (.iload_n 1, 1) := by decide +kernel
theorem dX10_checks_22 : decode cX10_checks 22 = .ok (.iconst 4, 1) := by decide +kernel
theorem dX10_checks_23 : decode cX10_checks 23 = .ok (.iadd, 1) := by decide +kernel
theorem dX10_checks_24 : decode cX10_checks 24 = .ok (.iload_n 2, 1) := by decide +kernel
theorem dX10_checks_25 : decode cX10_checks 25 = .ok (.iadd, 1) := by decide +kernel
theorem dX10_checks_26 : decode cX10_checks 26 = .ok (.iaload, 1) := by decide +kernel
theorem dX10_checks_27 : decode cX10_checks 27 = .ok (.if_icmp .le 7, 3) := by decide +kernel
theorem dX10_checks_30 : decode cX10_checks 30 = .ok (.iconst 0, 1) := by decide +kernel
theorem dX10_checks_31 : decode cX10_checks 31 = .ok (.goto 11, 3) := by decide +kernel
theorem dX10_checks_34 : decode cX10_checks 34 = .ok (.aload_n 0, 1) := by decide +kernel
theorem dX10_checks_35 : decode cX10_checks 35 = .ok (.getfield 119, 3) := by decide +kernel
theorem dX10_checks_38 : decode cX10_checks 38 = .ok (.iload_n 1, 1) := by decide +kernel
theorem dX10_checks_39 : decode cX10_checks 39 = .ok (.iconst 0, 1) := by decide +kernel
theorem dX10_checks_40 : decode cX10_checks 40 = .ok (.iadd, 1) := by decide +kernel
theorem dX10_checks_41 : decode cX10_checks 41 = .ok (.iaload, 1) := by decide +kernel
theorem dX10_checks_42 : decode cX10_checks 42 = .ok (.iastore, 1) := by decide +kernel
theorem dX10_checks_43 : decode cX10_checks 43 = .ok (.return_, 1) := by decide +kernel
theorem dX10_narrows_0 : decode cX10_narrows 0 = .ok (.aload_n 0, 1) := by decide +kernel
theorem dX10_narrows_1 : decode cX10_narrows 1 = .ok (.getfield 46, 3) := by decide +kernel
theorem dX10_narrows_4 : decode cX10_narrows 4 = .ok (.iload_n 2, 1) := by decide +kernel
theorem dX10_narrows_5 : decode cX10_narrows 5 = .ok (.iaload, 1) := by decide +kernel
theorem dX10_narrows_6 : decode cX10_narrows 6 = .ok (.istore_n 3, 1) := by decide +kernel
theorem dX10_narrows_7 : decode cX10_narrows 7 = .ok (.aload_n 0, 1) := by decide +kernel
theorem dX10_narrows_8 : decode cX10_narrows 8 = .ok (.getfield 49, 3) := by decide +kernel
theorem dX10_narrows_11 : decode cX10_narrows 11 = .ok (.iload_n 2, 1) := by decide +kernel
theorem dX10_narrows_12 : decode cX10_narrows 12 = .ok (.iaload, 1) := by decide +kernel
theorem dX10_narrows_13 : decode cX10_narrows 13 = .ok (.istore 4, 2) := by decide +kernel
theorem dX10_narrows_15 : decode cX10_narrows 15 = .ok (.iload_n 1, 1) := by decide +kernel
theorem dX10_narrows_16 : decode cX10_narrows 16 = .ok (.iconst 1, 1) := by decide +kernel
theorem dX10_narrows_17 : decode cX10_narrows 17 = .ok (.iadd, 1) := by decide +kernel
theorem dX10_narrows_18 : decode cX10_narrows 18 = .ok (.iload_n 3, 1) := by decide +kernel
theorem dX10_narrows_19 : decode cX10_narrows 19 = .ok (.iadd, 1) := by decide +kernel
theorem dX10_narrows_20 : decode cX10_narrows 20 = .ok (.istore 5, 2) := by decide +kernel
theorem dX10_narrows_22 : decode cX10_narrows 22 = .ok (.iload_n 1, 1) := by decide +kernel
theorem dX10_narrows_23 : decode cX10_narrows 23 = .ok (.iconst 4, 1) := by decide +kernel
theorem dX10_narrows_24 : decode cX10_narrows 24 = .ok (.iadd, 1) := by decide +kernel
theorem dX10_narrows_25 : decode cX10_narrows 25 = .ok (.iload_n 3, 1) := by decide +kernel
theorem dX10_narrows_26 : decode cX10_narrows 26 = .ok (.iadd, 1) := by decide +kernel
theorem dX10_narrows_27 : decode cX10_narrows 27 = .ok (.istore 6, 2) := by decide +kernel
theorem dX10_narrows_29 : decode cX10_narrows 29 = .ok (.aload_n 0, 1) := by decide +kernel
theorem dX10_narrows_30 : decode cX10_narrows 30 = .ok (.getfield 43, 3) := by decide +kernel
theorem dX10_narrows_33 : decode cX10_narrows 33 = .ok (.iload_n 2, 1) := by decide +kernel
theorem dX10_narrows_34 : decode cX10_narrows 34 = .ok (.iaload, 1) := by decide +kernel
theorem dX10_narrows_35 : decode cX10_narrows 35 = .ok (.iconst 2, 1) := by decide +kernel
theorem dX10_narrows_36 : decode cX10_narrows 36 = .ok (.if_icmp .ge 76, 3) := by decide +kernel
theorem dX10_narrows_39 : decode cX10_narrows 39 = .ok (.aload_n 0, 1) := by decide +kernel
theorem dX10_narrows_40 : decode cX10_narrows 40 = .ok (.getfield 119, 3) := by decide +kernel
theorem dX10_narrows_43 : decode cX10_narrows 43 = .ok (.iload_n 1, 1) := by decide +kernel
theorem dX10_narrows_44 : decode cX10_narrows 44 = .ok (.bipush 7, 2) := by decide +kernel
theorem dX10_narrows_46 : decode cX10_narrows 46 = .ok (.iadd, 1) := by decide +kernel
theorem dX10_narrows_47 : decode cX10_narrows 47 = .ok (.dup2, 1) := by decide +kernel
theorem dX10_narrows_48 : decode cX10_narrows 48 = .ok (.iaload, 1) := by decide +kernel
theorem dX10_narrows_49 : decode cX10_narrows 49 = .ok (.iconst 1, 1) := by decide +kernel
theorem dX10_narrows_50 : decode cX10_narrows 50 = .ok (.iconst 2, 1) := by decide +kernel
theorem dX10_narrows_51 : decode cX10_narrows 51 = .ok (.iload_n 3, 1) := by decide +kernel
theorem dX10_narrows_52 : decode cX10_narrows 52 = .ok (.imul, 1) := by decide +kernel
theorem dX10_narrows_53 : decode cX10_narrows 53 = .ok (.aload_n 0, 1) := by decide +kernel
theorem dX10_narrows_54 : decode cX10_narrows 54 = .ok (.getfield 43, 3) := by decide +kernel
theorem dX10_narrows_57 : decode cX10_narrows 57 = .ok (.iload_n 2, 1) := by decide +kernel
theorem dX10_narrows_58 : decode cX10_narrows 58 = .ok (.iaload, 1) := by decide +kernel
theorem dX10_narrows_59 : decode cX10_narrows 59 = .ok (.ifCond .ne 7, 3) := by decide +kernel
theorem dX10_narrows_62 : decode cX10_narrows 62 = .ok (.iconst 0, 1) := by decide +kernel
theorem dX10_narrows_63 : decode cX10_narrows 63 = .ok (.goto 4, 3) := by decide +kernel
theorem dX10_narrows_66 : decode cX10_narrows 66 = .ok (.iconst 1, 1) := by decide +kernel
theorem dX10_narrows_67 : decode cX10_narrows 67 = .ok (.iadd, 1) := by decide +kernel
theorem dX10_narrows_68 : decode cX10_narrows 68 = .ok (.ishl, 1) := by decide +kernel
theorem dX10_narrows_69 : decode cX10_narrows 69 = .ok (.iconst (-1), 1) := by decide +kernel
theorem dX10_narrows_70 : decode cX10_narrows 70 = .ok (.ixor, 1) := by decide +kernel
theorem dX10_narrows_71 : decode cX10_narrows 71 = .ok (.iand, 1) := by decide +kernel
theorem dX10_narrows_72 : decode cX10_narrows 72 = .ok (.iastore, 1) := by decide +kernel
theorem dX10_narrows_73 : decode cX10_narrows 73 = .ok (.aload_n 0, 1) := by decide +kernel
theorem dX10_narrows_74 : decode cX10_narrows 74 = .ok (.getfield 119, 3) := by decide +kernel
theorem dX10_narrows_77 : decode cX10_narrows 77 = .ok (.iload_n 1, 1) := by decide +kernel
theorem dX10_narrows_78 : decode cX10_narrows 78 = .ok (.iconst 0, 1) := by decide +kernel
theorem dX10_narrows_79 : decode cX10_narrows 79 = .ok (.iadd, 1) := by decide +kernel
theorem dX10_narrows_80 : decode cX10_narrows 80 = .ok (.aload_n 0, 1) := by decide +kernel
theorem dX10_narrows_81 : decode cX10_narrows 81 = .ok (.getfield 119, 3) := by decide +kernel
theorem dX10_narrows_84 : decode cX10_narrows 84 = .ok (.iload_n 1, 1) := by decide +kernel
theorem dX10_narrows_85 : decode cX10_narrows 85 = .ok (.bipush 7, 2) := by decide +kernel
theorem dX10_narrows_87 : decode cX10_narrows 87 = .ok (.iadd, 1) := by decide +kernel
theorem dX10_narrows_88 : decode cX10_narrows 88 = .ok (.iaload, 1) := by decide +kernel
theorem dX10_narrows_89 : decode cX10_narrows 89 = .ok (.iconst 2, 1) := by decide +kernel
theorem dX10_narrows_90 : decode cX10_narrows 90 = .ok (.iload_n 3, 1) := by decide +kernel
theorem dX10_narrows_91 : decode cX10_narrows 91 = .ok (.imul, 1) := by decide +kernel
theorem dX10_narrows_92 : decode cX10_narrows 92 = .ok (.ishr, 1) := by decide +kernel
theorem dX10_narrows_93 : decode cX10_narrows 93 = .ok (.iconst 3, 1) := by decide +kernel
theorem dX10_narrows_94 : decode cX10_narrows 94 = .ok (.iand, 1) := by decide +kernel
theorem dX10_narrows_95 : decode cX10_narrows 95 = .ok (.ifCond .ne 7, 3) := by decide +kernel
theorem dX10_narrows_98 : decode cX10_narrows 98 = .ok (.iconst 0, 1) := by decide +kernel
theorem dX10_narrows_99 : decode cX10_narrows 99 = .ok (.goto 11, 3) := by decide +kernel
theorem dX10_narrows_102 : decode cX10_narrows 102 = .ok (.aload_n 0, 1) := by decide +kernel
theorem dX10_narrows_103 : decode cX10_narrows 103 = .ok (.getfield 119, 3) := by decide +kernel
theorem dX10_narrows_106 : decode cX10_narrows 106 = .ok (.iload_n 1, 1) := by decide +kernel
theorem dX10_narrows_107 : decode cX10_narrows 107 = .ok (.iconst 0, 1) := by decide +kernel
theorem dX10_narrows_108 : decode cX10_narrows 108 = .ok (.iadd, 1) := by decide +kernel
theorem dX10_narrows_109 : decode cX10_narrows 109 = .ok (.iaload, 1) := by decide +kernel
theorem dX10_narrows_110 : decode cX10_narrows 110 = .ok (.iastore, 1) := by decide +kernel
theorem dX10_narrows_111 : decode cX10_narrows 111 = .ok (.return_, 1) := by decide +kernel
theorem dX10_narrows_112 : decode cX10_narrows 112 = .ok (.aload_n 0, 1) := by decide +kernel
theorem dX10_narrows_113 : decode cX10_narrows 113 = .ok (.getfield 43, 3) := by decide +kernel
theorem dX10_narrows_116 : decode cX10_narrows 116 = .ok (.iload_n 2, 1) := by decide +kernel
theorem dX10_narrows_117 : decode cX10_narrows 117 = .ok (.iaload, 1) := by decide +kernel
theorem dX10_narrows_118 : decode cX10_narrows 118 = .ok (.iconst 3, 1) := by decide +kernel
theorem dX10_narrows_119 : decode cX10_narrows 119 = .ok (.if_icmp .eq 55, 3) := by decide +kernel
theorem dX10_narrows_122 : decode cX10_narrows 122 = .ok (.aload_n 0, 1) := by decide +kernel
theorem dX10_narrows_123 : decode cX10_narrows 123 = .ok (.getfield 43, 3) := by decide +kernel
theorem dX10_narrows_126 : decode cX10_narrows 126 = .ok (.iload_n 2, 1) := by decide +kernel
theorem dX10_narrows_127 : decode cX10_narrows 127 = .ok (.iaload, 1) := by decide +kernel
theorem dX10_narrows_128 : decode cX10_narrows 128 = .ok (.iconst 2, 1) := by decide +kernel
theorem dX10_narrows_129 : decode cX10_narrows 129 = .ok (.if_icmp .ne 10, 3) := by decide +kernel
theorem dX10_narrows_132 : decode cX10_narrows 132 = .ok (.iload 4, 2) := by decide +kernel
theorem dX10_narrows_134 : decode cX10_narrows 134 = .ok (.iconst 1, 1) := by decide +kernel
theorem dX10_narrows_135 : decode cX10_narrows 135 = .ok (.isub, 1) := by decide +kernel
theorem dX10_narrows_136 : decode cX10_narrows 136 = .ok (.goto 5, 3) := by decide +kernel
theorem dX10_narrows_139 : decode cX10_narrows 139 = .ok (.iload 4, 2) := by decide +kernel
theorem dX10_narrows_141 : decode cX10_narrows 141 = .ok (.istore 7, 2) := by decide +kernel
theorem dX10_narrows_143 : decode cX10_narrows 143 = .ok (.aload_n 0, 1) := by decide +kernel
theorem dX10_narrows_144 : decode cX10_narrows 144 = .ok (.getfield 119, 3) := by decide +kernel
theorem dX10_narrows_147 : decode cX10_narrows 147 = .ok (.iload 6, 2) := by decide +kernel
theorem dX10_narrows_149 : decode cX10_narrows 149 = .ok (.aload_n 0, 1) := by decide +kernel
theorem dX10_narrows_150 : decode cX10_narrows 150 = .ok (.getfield 119, 3) := by decide +kernel
theorem dX10_narrows_153 : decode cX10_narrows 153 = .ok (.iload 6, 2) := by decide +kernel
theorem dX10_narrows_155 : decode cX10_narrows 155 = .ok (.iaload, 1) := by decide +kernel
theorem dX10_narrows_156 : decode cX10_narrows 156 = .ok (.iload 7, 2) := by decide +kernel
theorem dX10_narrows_158 : decode cX10_narrows 158 = .ok (.if_icmp .le 8, 3) := by decide +kernel
theorem dX10_narrows_161 : decode cX10_narrows 161 = .ok (.iload 7, 2) := by decide +kernel
theorem dX10_narrows_163 : decode cX10_narrows 163 = .ok (.goto 10, 3) := by decide +kernel
theorem dX10_narrows_166 : decode cX10_narrows 166 = .ok (.aload_n 0, 1) := by decide +kernel
theorem dX10_narrows_167 : decode cX10_narrows 167 = .ok (.getfield 119, 3) := by decide +kernel
theorem dX10_narrows_170 : decode cX10_narrows 170 = .ok (.iload 6, 2) := by decide +kernel
theorem dX10_narrows_172 : decode cX10_narrows 172 = .ok (.iaload, 1) := by decide +kernel
theorem dX10_narrows_173 : decode cX10_narrows 173 = .ok (.iastore, 1) := by decide +kernel
theorem dX10_narrows_174 : decode cX10_narrows 174 = .ok (.aload_n 0, 1) := by decide +kernel
theorem dX10_narrows_175 : decode cX10_narrows 175 = .ok (.getfield 43, 3) := by decide +kernel
theorem dX10_narrows_178 : decode cX10_narrows 178 = .ok (.iload_n 2, 1) := by decide +kernel
theorem dX10_narrows_179 : decode cX10_narrows 179 = .ok (.iaload, 1) := by decide +kernel
theorem dX10_narrows_180 : decode cX10_narrows 180 = .ok (.iconst 2, 1) := by decide +kernel
theorem dX10_narrows_181 : decode cX10_narrows 181 = .ok (.if_icmp .eq 55, 3) := by decide +kernel
theorem dX10_narrows_184 : decode cX10_narrows 184 = .ok (.aload_n 0, 1) := by decide +kernel
theorem dX10_narrows_185 : decode cX10_narrows 185 = .ok (.getfield 43, 3) := by decide +kernel
theorem dX10_narrows_188 : decode cX10_narrows 188 = .ok (.iload_n 2, 1) := by decide +kernel
theorem dX10_narrows_189 : decode cX10_narrows 189 = .ok (.iaload, 1) := by decide +kernel
theorem dX10_narrows_190 : decode cX10_narrows 190 = .ok (.iconst 3, 1) := by decide +kernel
theorem dX10_narrows_191 : decode cX10_narrows 191 = .ok (.if_icmp .ne 10, 3) := by decide +kernel
theorem dX10_narrows_194 : decode cX10_narrows 194 = .ok (.iload 4, 2) := by decide +kernel
theorem dX10_narrows_196 : decode cX10_narrows 196 = .ok (.iconst 1, 1) := by decide +kernel
theorem dX10_narrows_197 : decode cX10_narrows 197 = .ok (.iadd, 1) := by decide +kernel
theorem dX10_narrows_198 : decode cX10_narrows 198 = .ok (.goto 5, 3) := by decide +kernel
theorem dX10_narrows_201 : decode cX10_narrows 201 = .ok (.iload 4, 2) := by decide +kernel
theorem dX10_narrows_203 : decode cX10_narrows 203 = .ok (.istore 7, 2) := by decide +kernel
theorem dX10_narrows_205 : decode cX10_narrows 205 = .ok (.aload_n 0, 1) := by decide +kernel
theorem dX10_narrows_206 : decode cX10_narrows 206 = .ok (.getfield 119, 3) := by decide +kernel
theorem dX10_narrows_209 : decode cX10_narrows 209 = .ok (.iload 5, 2) := by decide +kernel
theorem dX10_narrows_211 : decode cX10_narrows 211 = .ok (.aload_n 0, 1) := by decide +kernel
theorem dX10_narrows_212 : decode cX10_narrows 212 = .ok (.getfield 119, 3) := by decide +kernel
theorem dX10_narrows_215 : decode cX10_narrows 215 = .ok (.iload 5, 2) := by decide +kernel
theorem dX10_narrows_217 : decode cX10_narrows 217 = .ok (.iaload, 1) := by decide +kernel
theorem dX10_narrows_218 : decode cX10_narrows 218 = .ok (.iload 7, 2) := by decide +kernel
theorem dX10_narrows_220 : decode cX10_narrows 220 = .ok (.if_icmp .ge 8, 3) := by decide +kernel
theorem dX10_narrows_223 : decode cX10_narrows 223 = .ok (.iload 7, 2) := by decide +kernel
theorem dX10_narrows_225 : decode cX10_narrows 225 = .ok (.goto 10, 3) := by decide +kernel
theorem dX10_narrows_228 : decode cX10_narrows 228 = .ok (.aload_n 0, 1) := by decide +kernel
theorem dX10_narrows_229 : decode cX10_narrows 229 = .ok (.getfield 119, 3) := by decide +kernel
theorem dX10_narrows_232 : decode cX10_narrows 232 = .ok (.iload 5, 2) := by decide +kernel
theorem dX10_narrows_234 : decode cX10_narrows 234 = .ok (.iaload, 1) := by decide +kernel
theorem dX10_narrows_235 : decode cX10_narrows 235 = .ok (.iastore, 1) := by decide +kernel
theorem dX10_narrows_236 : decode cX10_narrows 236 = .ok (.aload_n 0, 1) := by decide +kernel
theorem dX10_narrows_237 : decode cX10_narrows 237 = .ok (.iload_n 1, 1) := by decide +kernel
theorem dX10_narrows_238 : decode cX10_narrows 238 = .ok (.iload_n 3, 1) := by decide +kernel
theorem dX10_narrows_239 : decode cX10_narrows 239 = .ok (.invokevirtual 381, 3) := by decide +kernel
theorem dX10_narrows_242 : decode cX10_narrows 242 = .ok (.return_, 1) := by decide +kernel
theorem dX10_widensNot_0 : decode cX10_widensNot 0 = .ok (.aload_n 0, 1) := by decide +kernel
theorem dX10_widensNot_1 : decode cX10_widensNot 1 = .ok (.getfield 46, 3) := by decide +kernel
theorem dX10_widensNot_4 : decode cX10_widensNot 4 = .ok (.iload_n 2, 1) := by decide +kernel
theorem dX10_widensNot_5 : decode cX10_widensNot 5 = .ok (.iaload, 1) := by decide +kernel
theorem dX10_widensNot_6 : decode cX10_widensNot 6 = .ok (.istore_n 3, 1) := by decide +kernel
theorem dX10_widensNot_7 : decode cX10_widensNot 7 = .ok (.aload_n 0, 1) := by decide +kernel
theorem dX10_widensNot_8 : decode cX10_widensNot 8 = .ok (.getfield 49, 3) := by decide +kernel
theorem dX10_widensNot_11 : decode cX10_widensNot 11 = .ok (.iload_n 2, 1) := by decide +kernel
theorem dX10_widensNot_12 : decode cX10_widensNot 12 = .ok (.iaload, 1) := by decide +kernel
theorem dX10_widensNot_13 : decode cX10_widensNot 13 = .ok (.istore 4, 2) := by decide +kernel
theorem dX10_widensNot_15 : decode cX10_widensNot 15 = .ok (.iload_n 1, 1) := by decide +kernel
theorem dX10_widensNot_16 : decode cX10_widensNot 16 = .ok (.iconst 1, 1) := by decide +kernel
theorem dX10_widensNot_17 : decode cX10_widensNot 17 = .ok (.iadd, 1) := by decide +kernel
theorem dX10_widensNot_18 : decode cX10_widensNot 18 = .ok (.iload_n 3, 1) := by decide +kernel
theorem dX10_widensNot_19 : decode cX10_widensNot 19 = .ok (.iadd, 1) := by decide +kernel
theorem dX10_widensNot_20 : decode cX10_widensNot 20 = .ok (.istore 5, 2) := by decide +kernel
theorem dX10_widensNot_22 : decode cX10_widensNot 22 = .ok (.iload_n 1, 1) := by decide +kernel
theorem dX10_widensNot_23 : decode cX10_widensNot 23 = .ok (.iconst 4, 1) := by decide +kernel
theorem dX10_widensNot_24 : decode cX10_widensNot 24 = .ok (.iadd, 1) := by decide +kernel
theorem dX10_widensNot_25 : decode cX10_widensNot 25 = .ok (.iload_n 3, 1) := by decide +kernel
theorem dX10_widensNot_26 : decode cX10_widensNot 26 = .ok (.iadd, 1) := by decide +kernel
theorem dX10_widensNot_27 : decode cX10_widensNot 27 = .ok (.istore 6, 2) := by decide +kernel
theorem dX10_widensNot_29 : decode cX10_widensNot 29 = .ok (.aload_n 0, 1) := by decide +kernel
theorem dX10_widensNot_30 : decode cX10_widensNot 30 = .ok (.getfield 43, 3) := by decide +kernel
theorem dX10_widensNot_33 : decode cX10_widensNot 33 = .ok (.iload_n 2, 1) := by decide +kernel
theorem dX10_widensNot_34 : decode cX10_widensNot 34 = .ok (.iaload, 1) := by decide +kernel
theorem dX10_widensNot_35 : decode cX10_widensNot 35 = .ok (.iconst 2, 1) := by decide +kernel
theorem dX10_widensNot_36 : decode cX10_widensNot 36 = .ok (.if_icmp .ge 76, 3) := by decide +kernel
theorem dX10_widensNot_39 : decode cX10_widensNot 39 = .ok (.aload_n 0, 1) := by decide +kernel
theorem dX10_widensNot_40 : decode cX10_widensNot 40 = .ok (.getfield 119, 3) := by decide +kernel
theorem dX10_widensNot_43 : decode cX10_widensNot 43 = .ok (.iload_n 1, 1) := by decide +kernel
theorem dX10_widensNot_44 : decode cX10_widensNot 44 = .ok (.bipush 7, 2) := by decide +kernel
theorem dX10_widensNot_46 : decode cX10_widensNot 46 = .ok (.iadd, 1) := by decide +kernel
theorem dX10_widensNot_47 : decode cX10_widensNot 47 = .ok (.dup2, 1) := by decide +kernel
theorem dX10_widensNot_48 : decode cX10_widensNot 48 = .ok (.iaload, 1) := by decide +kernel
theorem dX10_widensNot_49 : decode cX10_widensNot 49 = .ok (.iconst 1, 1) := by decide +kernel
theorem dX10_widensNot_50 : decode cX10_widensNot 50 = .ok (.iconst 2, 1) := by decide +kernel
theorem dX10_widensNot_51 : decode cX10_widensNot 51 = .ok (.iload_n 3, 1) := by decide +kernel
theorem dX10_widensNot_52 : decode cX10_widensNot 52 = .ok (.imul, 1) := by decide +kernel
theorem dX10_widensNot_53 : decode cX10_widensNot 53 = .ok (.aload_n 0, 1) := by decide +kernel
theorem dX10_widensNot_54 : decode cX10_widensNot 54 = .ok (.getfield 43, 3) := by decide +kernel
theorem dX10_widensNot_57 : decode cX10_widensNot 57 = .ok (.iload_n 2, 1) := by decide +kernel
theorem dX10_widensNot_58 : decode cX10_widensNot 58 = .ok (.iaload, 1) := by decide +kernel
theorem dX10_widensNot_59 : decode cX10_widensNot 59 = .ok (.ifCond .ne 7, 3) := by decide +kernel
theorem dX10_widensNot_62 : decode cX10_widensNot 62 = .ok (.iconst 1, 1) := by decide +kernel
theorem dX10_widensNot_63 : decode cX10_widensNot 63 = .ok (.goto 4, 3) := by decide +kernel
theorem dX10_widensNot_66 : decode cX10_widensNot 66 = .ok (.iconst 0, 1) := by decide +kernel
theorem dX10_widensNot_67 : decode cX10_widensNot 67 = .ok (.iadd, 1) := by decide +kernel
theorem dX10_widensNot_68 : decode cX10_widensNot 68 = .ok (.ishl, 1) := by decide +kernel
theorem dX10_widensNot_69 : decode cX10_widensNot 69 = .ok (.iconst (-1), 1) := by decide +kernel
theorem dX10_widensNot_70 : decode cX10_widensNot 70 = .ok (.ixor, 1) := by decide +kernel
theorem dX10_widensNot_71 : decode cX10_widensNot 71 = .ok (.iand, 1) := by decide +kernel
theorem dX10_widensNot_72 : decode cX10_widensNot 72 = .ok (.iastore, 1) := by decide +kernel
theorem dX10_widensNot_73 : decode cX10_widensNot 73 = .ok (.aload_n 0, 1) := by decide +kernel
theorem dX10_widensNot_74 : decode cX10_widensNot 74 = .ok (.getfield 119, 3) := by decide +kernel
theorem dX10_widensNot_77 : decode cX10_widensNot 77 = .ok (.iload_n 1, 1) := by decide +kernel
theorem dX10_widensNot_78 : decode cX10_widensNot 78 = .ok (.iconst 0, 1) := by decide +kernel
theorem dX10_widensNot_79 : decode cX10_widensNot 79 = .ok (.iadd, 1) := by decide +kernel
theorem dX10_widensNot_80 : decode cX10_widensNot 80 = .ok (.aload_n 0, 1) := by decide +kernel
theorem dX10_widensNot_81 : decode cX10_widensNot 81 = .ok (.getfield 119, 3) := by decide +kernel
theorem dX10_widensNot_84 : decode cX10_widensNot 84 = .ok (.iload_n 1, 1) := by decide +kernel
theorem dX10_widensNot_85 : decode cX10_widensNot 85 = .ok (.bipush 7, 2) := by decide +kernel
theorem dX10_widensNot_87 : decode cX10_widensNot 87 = .ok (.iadd, 1) := by decide +kernel
theorem dX10_widensNot_88 : decode cX10_widensNot 88 = .ok (.iaload, 1) := by decide +kernel
theorem dX10_widensNot_89 : decode cX10_widensNot 89 = .ok (.iconst 2, 1) := by decide +kernel
theorem dX10_widensNot_90 : decode cX10_widensNot 90 = .ok (.iload_n 3, 1) := by decide +kernel
theorem dX10_widensNot_91 : decode cX10_widensNot 91 = .ok (.imul, 1) := by decide +kernel
theorem dX10_widensNot_92 : decode cX10_widensNot 92 = .ok (.ishr, 1) := by decide +kernel
theorem dX10_widensNot_93 : decode cX10_widensNot 93 = .ok (.iconst 3, 1) := by decide +kernel
theorem dX10_widensNot_94 : decode cX10_widensNot 94 = .ok (.iand, 1) := by decide +kernel
theorem dX10_widensNot_95 : decode cX10_widensNot 95 = .ok (.ifCond .ne 7, 3) := by decide +kernel
theorem dX10_widensNot_98 : decode cX10_widensNot 98 = .ok (.iconst 0, 1) := by decide +kernel
theorem dX10_widensNot_99 : decode cX10_widensNot 99 = .ok (.goto 11, 3) := by decide +kernel
theorem dX10_widensNot_102 : decode cX10_widensNot 102 = .ok (.aload_n 0, 1) := by decide +kernel
theorem dX10_widensNot_103 : decode cX10_widensNot 103 = .ok (.getfield 119, 3) := by decide +kernel
theorem dX10_widensNot_106 : decode cX10_widensNot 106 = .ok (.iload_n 1, 1) := by decide +kernel
theorem dX10_widensNot_107 : decode cX10_widensNot 107 = .ok (.iconst 0, 1) := by decide +kernel
theorem dX10_widensNot_108 : decode cX10_widensNot 108 = .ok (.iadd, 1) := by decide +kernel
theorem dX10_widensNot_109 : decode cX10_widensNot 109 = .ok (.iaload, 1) := by decide +kernel
theorem dX10_widensNot_110 : decode cX10_widensNot 110 = .ok (.iastore, 1) := by decide +kernel
theorem dX10_widensNot_111 : decode cX10_widensNot 111 = .ok (.return_, 1) := by decide +kernel
theorem dX10_widensNot_112 : decode cX10_widensNot 112 = .ok (.aload_n 0, 1) := by decide +kernel
theorem dX10_widensNot_113 : decode cX10_widensNot 113 = .ok (.getfield 43, 3) := by decide +kernel
theorem dX10_widensNot_116 : decode cX10_widensNot 116 = .ok (.iload_n 2, 1) := by decide +kernel
theorem dX10_widensNot_117 : decode cX10_widensNot 117 = .ok (.iaload, 1) := by decide +kernel
theorem dX10_widensNot_118 : decode cX10_widensNot 118 = .ok (.iconst 2, 1) := by decide +kernel
theorem dX10_widensNot_119 : decode cX10_widensNot 119 = .ok (.if_icmp .ne 37, 3) := by decide +kernel
theorem dX10_widensNot_122 : decode cX10_widensNot 122 = .ok (.aload_n 0, 1) := by decide +kernel
theorem dX10_widensNot_123 : decode cX10_widensNot 123 = .ok (.getfield 119, 3) := by decide +kernel
theorem dX10_widensNot_126 : decode cX10_widensNot 126 = .ok (.iload 5, 2) := by decide +kernel
theorem dX10_widensNot_128 : decode cX10_widensNot 128 = .ok (.aload_n 0, 1) := by decide +kernel
theorem dX10_widensNot_129 : decode cX10_widensNot 129 = .ok (.getfield 119, 3) := by decide +kernel
theorem dX10_widensNot_132 : decode cX10_widensNot 132 = .ok (.iload 5, 2) := by decide +kernel
theorem dX10_widensNot_134 : decode cX10_widensNot 134 = .ok (.iaload, 1) := by decide +kernel
theorem dX10_widensNot_135 : decode cX10_widensNot 135 = .ok (.iload 4, 2) := by decide +kernel
theorem dX10_widensNot_137 : decode cX10_widensNot 137 = .ok (.if_icmp .ge 8, 3) := by decide +kernel
theorem dX10_widensNot_140 : decode cX10_widensNot 140 = .ok (.iload 4, 2) := by decide +kernel
theorem dX10_widensNot_142 : decode cX10_widensNot 142 = .ok (.goto 10, 3) := by decide +kernel
theorem dX10_widensNot_145 : decode cX10_widensNot 145 = .ok (.aload_n 0, 1) := by decide +kernel
theorem dX10_widensNot_146 : decode cX10_widensNot 146 = .ok (.getfield 119, 3) := by decide +kernel
theorem dX10_widensNot_149 : decode cX10_widensNot 149 = .ok (.iload 5, 2) := by decide +kernel
theorem dX10_widensNot_151 : decode cX10_widensNot 151 = .ok (.iaload, 1) := by decide +kernel
theorem dX10_widensNot_152 : decode cX10_widensNot 152 = .ok (.iastore, 1) := by decide +kernel
theorem dX10_widensNot_153 : decode cX10_widensNot 153 = .ok (.goto 101, 3) := by decide +kernel
theorem dX10_widensNot_156 : decode cX10_widensNot 156 = .ok (.aload_n 0, 1) := by decide +kernel
theorem dX10_widensNot_157 : decode cX10_widensNot 157 = .ok (.getfield 43, 3) := by decide +kernel
theorem dX10_widensNot_160 : decode cX10_widensNot 160 = .ok (.iload_n 2, 1) := by decide +kernel
theorem dX10_widensNot_161 : decode cX10_widensNot 161 = .ok (.iaload, 1) := by decide +kernel
theorem dX10_widensNot_162 : decode cX10_widensNot 162 = .ok (.iconst 3, 1) := by decide +kernel
theorem dX10_widensNot_163 : decode cX10_widensNot 163 = .ok (.if_icmp .ne 37, 3) := by decide +kernel
theorem dX10_widensNot_166 : decode cX10_widensNot 166 = .ok (.aload_n 0, 1) := by decide +kernel
theorem dX10_widensNot_167 : decode cX10_widensNot 167 = .ok (.getfield 119, 3) := by decide +kernel
theorem dX10_widensNot_170 : decode cX10_widensNot 170 = .ok (.iload 6, 2) := by decide +kernel
theorem dX10_widensNot_172 : decode cX10_widensNot 172 = .ok (.aload_n 0, 1) := by decide +kernel
theorem dX10_widensNot_173 : decode cX10_widensNot 173 = .ok (.getfield 119, 3) := by decide +kernel
theorem dX10_widensNot_176 : decode cX10_widensNot 176 = .ok (.iload 6, 2) := by decide +kernel
theorem dX10_widensNot_178 : decode cX10_widensNot 178 = .ok (.iaload, 1) := by decide +kernel
theorem dX10_widensNot_179 : decode cX10_widensNot 179 = .ok (.iload 4, 2) := by decide +kernel
theorem dX10_widensNot_181 : decode cX10_widensNot 181 = .ok (.if_icmp .le 8, 3) := by decide +kernel
theorem dX10_widensNot_184 : decode cX10_widensNot 184 = .ok (.iload 4, 2) := by decide +kernel
theorem dX10_widensNot_186 : decode cX10_widensNot 186 = .ok (.goto 10, 3) := by decide +kernel
theorem dX10_widensNot_189 : decode cX10_widensNot 189 = .ok (.aload_n 0, 1) := by decide +kernel
theorem dX10_widensNot_190 : decode cX10_widensNot 190 = .ok (.getfield 119, 3) := by decide +kernel
theorem dX10_widensNot_193 : decode cX10_widensNot 193 = .ok (.iload 6, 2) := by decide +kernel
theorem dX10_widensNot_195 : decode cX10_widensNot 195 = .ok (.iaload, 1) := by decide +kernel
theorem dX10_widensNot_196 : decode cX10_widensNot 196 = .ok (.iastore, 1) := by decide +kernel
theorem dX10_widensNot_197 : decode cX10_widensNot 197 = .ok (.goto 57, 3) := by decide +kernel
theorem dX10_widensNot_200 : decode cX10_widensNot 200 = .ok (.aload_n 0, 1) := by decide +kernel
theorem dX10_widensNot_201 : decode cX10_widensNot 201 = .ok (.getfield 119, 3) := by decide +kernel
theorem dX10_widensNot_204 : decode cX10_widensNot 204 = .ok (.iload 5, 2) := by decide +kernel
theorem dX10_widensNot_206 : decode cX10_widensNot 206 = .ok (.dup2, 1) := by decide +kernel
theorem dX10_widensNot_207 : decode cX10_widensNot 207 = .ok (.iaload, 1) := by decide +kernel
theorem dX10_widensNot_208 : decode cX10_widensNot 208 = .ok (.aload_n 0, 1) := by decide +kernel
theorem dX10_widensNot_209 : decode cX10_widensNot 209 = .ok (.getfield 119, 3) := by decide +kernel
theorem dX10_widensNot_212 : decode cX10_widensNot 212 = .ok (.iload 5, 2) := by decide +kernel
theorem dX10_widensNot_214 : decode cX10_widensNot 214 = .ok (.iaload, 1) := by decide +kernel
theorem dX10_widensNot_215 : decode cX10_widensNot 215 = .ok (.iload 4, 2) := by decide +kernel
theorem dX10_widensNot_217 : decode cX10_widensNot 217 = .ok (.if_icmp .ne 7, 3) := by decide +kernel
theorem dX10_widensNot_220 : decode cX10_widensNot 220 = .ok (.iconst 1, 1) := by decide +kernel
theorem dX10_widensNot_221 : decode cX10_widensNot 221 = .ok (.goto 4, 3) := by decide +kernel
theorem dX10_widensNot_224 : decode cX10_widensNot 224 = .ok (.iconst 0, 1) := by decide +kernel
theorem dX10_widensNot_225 : decode cX10_widensNot 225 = .ok (.iadd, 1) := by decide +kernel
theorem dX10_widensNot_226 : decode cX10_widensNot 226 = .ok (.iastore, 1) := by decide +kernel
theorem dX10_widensNot_227 : decode cX10_widensNot 227 = .ok (.aload_n 0, 1) := by decide +kernel
theorem dX10_widensNot_228 : decode cX10_widensNot 228 = .ok (.getfield 119, 3) := by decide +kernel
theorem dX10_widensNot_231 : decode cX10_widensNot 231 = .ok (.iload 6, 2) := by decide +kernel
theorem dX10_widensNot_233 : decode cX10_widensNot 233 = .ok (.dup2, 1) := by decide +kernel
theorem dX10_widensNot_234 : decode cX10_widensNot 234 = .ok (.iaload, 1) := by decide +kernel
theorem dX10_widensNot_235 : decode cX10_widensNot 235 = .ok (.aload_n 0, 1) := by decide +kernel
theorem dX10_widensNot_236 : decode cX10_widensNot 236 = .ok (.getfield 119, 3) := by decide +kernel
theorem dX10_widensNot_239 : decode cX10_widensNot 239 = .ok (.iload 6, 2) := by decide +kernel
theorem dX10_widensNot_241 : decode cX10_widensNot 241 = .ok (.iaload, 1) := by decide +kernel
theorem dX10_widensNot_242 : decode cX10_widensNot 242 = .ok (.iload 4, 2) := by decide +kernel
theorem dX10_widensNot_244 : decode cX10_widensNot 244 = .ok (.if_icmp .ne 7, 3) := by decide +kernel
theorem dX10_widensNot_247 : decode cX10_widensNot 247 = .ok (.iconst 1, 1) := by decide +kernel
theorem dX10_widensNot_248 : decode cX10_widensNot 248 = .ok (.goto 4, 3) := by decide +kernel
theorem dX10_widensNot_251 : decode cX10_widensNot 251 = .ok (.iconst 0, 1) := by decide +kernel
theorem dX10_widensNot_252 : decode cX10_widensNot 252 = .ok (.isub, 1) := by decide +kernel
theorem dX10_widensNot_253 : decode cX10_widensNot 253 = .ok (.iastore, 1) := by decide +kernel
theorem dX10_widensNot_254 : decode cX10_widensNot 254 = .ok (.aload_n 0, 1) := by decide +kernel
theorem dX10_widensNot_255 : decode cX10_widensNot 255 = .ok (.iload_n 1, 1) := by decide +kernel
theorem dX10_widensNot_256 : decode cX10_widensNot 256 = .ok (.iload_n 3, 1) := by decide +kernel
theorem dX10_widensNot_257 : decode cX10_widensNot 257 = .ok (.invokevirtual 381, 3) := by decide +kernel
theorem dX10_widensNot_260 : decode cX10_widensNot 260 = .ok (.return_, 1) := by decide +kernel
theorem dX10_truePart_0 : decode cX10_truePart 0 = .ok (.aload_n 0, 1) := by decide +kernel
theorem dX10_truePart_1 : decode cX10_truePart 1 = .ok (.getfield 119, 3) := by decide +kernel
theorem dX10_truePart_4 : decode cX10_truePart 4 = .ok (.iconst 0, 1) := by decide +kernel
theorem dX10_truePart_5 : decode cX10_truePart 5 = .ok (.aload_n 0, 1) := by decide +kernel
theorem dX10_truePart_6 : decode cX10_truePart 6 = .ok (.getfield 119, 3) := by decide +kernel
theorem dX10_truePart_9 : decode cX10_truePart 9 = .ok (.iload_n 2, 1) := by decide +kernel
theorem dX10_truePart_10 : decode cX10_truePart 10 = .ok (.invokestatic 371, 3) := by decide +kernel
theorem dX10_truePart_13 : decode cX10_truePart 13 = .ok (.aload_n 0, 1) := by decide +kernel
theorem dX10_truePart_14 : decode cX10_truePart 14 = .ok (.getfield 37, 3) := by decide +kernel
theorem dX10_truePart_17 : decode cX10_truePart 17 = .ok (.iload_n 1, 1) := by decide +kernel
theorem dX10_truePart_18 : decode cX10_truePart 18 = .ok (.iaload, 1) := by decide +kernel
theorem dX10_truePart_19 : decode cX10_truePart 19 = .ok (.istore_n 3, 1) := by decide +kernel
theorem dX10_truePart_20 : decode cX10_truePart 20 = .ok (.iload_n 3, 1) := by decide +kernel
theorem dX10_truePart_21 : decode cX10_truePart 21 = .ok (.aload_n 0, 1) := by decide +kernel
theorem dX10_truePart_22 : decode cX10_truePart 22 = .ok (.getfield 40, 3) := by decide +kernel
theorem dX10_truePart_25 : decode cX10_truePart 25 = .ok (.iload_n 1, 1) := by decide +kernel
theorem dX10_truePart_26 : decode cX10_truePart 26 = .ok (.iaload, 1) := by decide +kernel
theorem dX10_truePart_27 : decode cX10_truePart 27 = .ok (.if_icmp .ge 25, 3) := by decide +kernel
theorem dX10_truePart_30 : decode cX10_truePart 30 = .ok (.aload_n 0, 1) := by decide +kernel
theorem dX10_truePart_31 : decode cX10_truePart 31 = .ok (.getfield 119, 3) := by decide +kernel
theorem dX10_truePart_34 : decode cX10_truePart 34 = .ok (.iload_n 2, 1) := by decide +kernel
theorem dX10_truePart_35 : decode cX10_truePart 35 = .ok (.iaload, 1) := by decide +kernel
theorem dX10_truePart_36 : decode cX10_truePart 36 = .ok (.iconst 1, 1) := by decide +kernel
theorem dX10_truePart_37 : decode cX10_truePart 37 = .ok (.if_icmp .ne 15, 3) := by decide +kernel
theorem dX10_truePart_40 : decode cX10_truePart 40 = .ok (.aload_n 0, 1) := by decide +kernel
theorem dX10_truePart_41 : decode cX10_truePart 41 = .ok (.iload_n 2, 1) := by decide +kernel
theorem dX10_truePart_42 : decode cX10_truePart 42 = .ok (.iload_n 3, 1) := by decide +kernel
theorem dX10_truePart_43 : decode cX10_truePart 43 = .ok (.invokevirtual 384, 3) := by decide +kernel
theorem dX10_truePart_46 : decode cX10_truePart 46 = .ok (.iinc 3 1, 3) := by decide +kernel
theorem dX10_truePart_49 : decode cX10_truePart 49 = .ok (.goto (-29), 3) := by decide +kernel
theorem dX10_truePart_52 : decode cX10_truePart 52 = .ok (.return_, 1) := by decide +kernel
theorem dX10_falsePart_0 : decode cX10_falsePart 0 = .ok (.aload_n 0, 1) := by decide +kernel
theorem dX10_falsePart_1 : decode cX10_falsePart 1 = .ok (.getfield 119, 3) := by decide +kernel
theorem dX10_falsePart_4 : decode cX10_falsePart 4 = .ok (.iconst 0, 1) := by decide +kernel
theorem dX10_falsePart_5 : decode cX10_falsePart 5 = .ok (.aload_n 0, 1) := by decide +kernel
theorem dX10_falsePart_6 : decode cX10_falsePart 6 = .ok (.getfield 119, 3) := by decide +kernel
theorem dX10_falsePart_9 : decode cX10_falsePart 9 = .ok (.iload_n 2, 1) := by decide +kernel
theorem dX10_falsePart_10 : decode cX10_falsePart 10 = .ok (.invokestatic 371, 3) := by decide +kernel
theorem dX10_falsePart_13 : decode cX10_falsePart 13 = .ok (.aload_n 0, 1) := by decide +kernel
theorem dX10_falsePart_14 : decode cX10_falsePart 14 = .ok (.getfield 40, 3) := by decide +kernel
theorem dX10_falsePart_17 : decode cX10_falsePart 17 = .ok (.iload_n 1, 1) := by decide +kernel
theorem dX10_falsePart_18 : decode cX10_falsePart 18 = .ok (.iaload, 1) := by decide +kernel
theorem dX10_falsePart_19 : decode cX10_falsePart 19 = .ok (.aload_n 0, 1) := by decide +kernel
theorem dX10_falsePart_20 : decode cX10_falsePart 20 = .ok (.getfield 37, 3) := by decide +kernel
theorem dX10_falsePart_23 : decode cX10_falsePart 23 = .ok (.iload_n 1, 1) := by decide +kernel
theorem dX10_falsePart_24 : decode cX10_falsePart 24 = .ok (.iaload, 1) := by decide +kernel
theorem dX10_falsePart_25 : decode cX10_falsePart 25 = .ok (.isub, 1) := by decide +kernel
theorem dX10_falsePart_26 : decode cX10_falsePart 26 = .ok (.iconst 1, 1) := by decide +kernel
theorem dX10_falsePart_27 : decode cX10_falsePart 27 = .ok (.if_icmp .ne 14, 3) := by decide +kernel
theorem dX10_falsePart_30 : decode cX10_falsePart 30 = .ok (.aload_n 0, 1) := by decide +kernel
theorem dX10_falsePart_31 : decode cX10_falsePart 31 = .ok (.iload_n 2, 1) := by decide +kernel
theorem dX10_falsePart_32 : decode cX10_falsePart 32 = .ok (.aload_n 0, 1) := by decide +kernel
theorem dX10_falsePart_33 : decode cX10_falsePart 33 = .ok (.getfield 37, 3) := by decide +kernel
theorem dX10_falsePart_36 : decode cX10_falsePart 36 = .ok (.iload_n 1, 1) := by decide +kernel
theorem dX10_falsePart_37 : decode cX10_falsePart 37 = .ok (.iaload, 1) := by decide +kernel
theorem dX10_falsePart_38 : decode cX10_falsePart 38 = .ok (.invokevirtual 387, 3) := by decide +kernel
theorem dX10_falsePart_41 : decode cX10_falsePart 41 = .ok (.return_, 1) := by decide +kernel
theorem dX10_falseOf_0 : decode cX10_falseOf 0 = .ok (.bipush 9, 2) := by decide +kernel
theorem dX10_falseOf_2 : decode cX10_falseOf 2 = .ok (.bipush 18, 2) := by decide +kernel
theorem dX10_falseOf_4 : decode cX10_falseOf 4 = .ok (.iload_n 0, 1) := by decide +kernel
theorem dX10_falseOf_5 : decode cX10_falseOf 5 = .ok (.imul, 1) := by decide +kernel
theorem dX10_falseOf_6 : decode cX10_falseOf 6 = .ok (.iadd, 1) := by decide +kernel
theorem dX10_falseOf_7 : decode cX10_falseOf 7 = .ok (.ireturn, 1) := by decide +kernel
theorem dX10_firstOf_0 : decode cX10_firstOf 0 = .ok (.bipush 18, 2) := by decide +kernel
theorem dX10_firstOf_2 : decode cX10_firstOf 2 = .ok (.bipush 18, 2) := by decide +kernel
theorem dX10_firstOf_4 : decode cX10_firstOf 4 = .ok (.iload_n 0, 1) := by decide +kernel
theorem dX10_firstOf_5 : decode cX10_firstOf 5 = .ok (.imul, 1) := by decide +kernel
theorem dX10_firstOf_6 : decode cX10_firstOf 6 = .ok (.iadd, 1) := by decide +kernel
theorem dX10_firstOf_7 : decode cX10_firstOf 7 = .ok (.ireturn, 1) := by decide +kernel
theorem dX10_opensTest_0 : decode cX10_opensTest 0 = .ok (.aload_n 0, 1) := by decide +kernel
theorem dX10_opensTest_1 : decode cX10_opensTest 1 = .ok (.getfield 390, 3) := by decide +kernel
theorem dX10_opensTest_4 : decode cX10_opensTest 4 = .ok (.istore_n 2, 1) := by decide +kernel
theorem dX10_opensTest_5 : decode cX10_opensTest 5 = .ok (.aload_n 0, 1) := by decide +kernel
theorem dX10_opensTest_6 : decode cX10_opensTest 6 = .ok (.dup, 1) := by decide +kernel
theorem dX10_opensTest_7 : decode cX10_opensTest 7 = .ok (.getfield 390, 3) := by decide +kernel
theorem dX10_opensTest_10 : decode cX10_opensTest 10 = .ok (.iconst 1, 1) := by decide +kernel
theorem dX10_opensTest_11 : decode cX10_opensTest 11 = .ok (.iadd, 1) := by decide +kernel
theorem dX10_opensTest_12 : decode cX10_opensTest 12 = .ok (.putfield 390, 3) := by decide +kernel
theorem dX10_opensTest_15 : decode cX10_opensTest 15 = .ok (.aload_n 0, 1) := by decide +kernel
theorem dX10_opensTest_16 : decode cX10_opensTest 16 = .ok (.getfield 122, 3) := by decide +kernel
theorem dX10_opensTest_19 : decode cX10_opensTest 19 = .ok (.iload_n 2, 1) := by decide +kernel
theorem dX10_opensTest_20 : decode cX10_opensTest 20 = .ok (.iload_n 1, 1) := by decide +kernel
theorem dX10_opensTest_21 : decode cX10_opensTest 21 = .ok (.iastore, 1) := by decide +kernel
theorem dX10_opensTest_22 : decode cX10_opensTest 22 = .ok (.aload_n 0, 1) := by decide +kernel
theorem dX10_opensTest_23 : decode cX10_opensTest 23 = .ok (.getfield 137, 3) := by decide +kernel
theorem dX10_opensTest_26 : decode cX10_opensTest 26 = .ok (.iload_n 2, 1) := by decide +kernel
theorem dX10_opensTest_27 : decode cX10_opensTest 27 = .ok (.iconst 0, 1) := by decide +kernel
theorem dX10_opensTest_28 : decode cX10_opensTest 28 = .ok (.bastore, 1) := by decide +kernel
theorem dX10_opensTest_29 : decode cX10_opensTest 29 = .ok (.aload_n 0, 1) := by decide +kernel
theorem dX10_opensTest_30 : decode cX10_opensTest 30 = .ok (.getfield 125, 3) := by decide +kernel
theorem dX10_opensTest_33 : decode cX10_opensTest 33 = .ok (.iload_n 2, 1) := by decide +kernel
theorem dX10_opensTest_34 : decode cX10_opensTest 34 = .ok (.aload_n 0, 1) := by decide +kernel
theorem dX10_opensTest_35 : decode cX10_opensTest 35 = .ok (.getfield 393, 3) := by decide +kernel
theorem dX10_opensTest_38 : decode cX10_opensTest 38 = .ok (.iastore, 1) := by decide +kernel
theorem dX10_opensTest_39 : decode cX10_opensTest 39 = .ok (.aload_n 0, 1) := by decide +kernel
theorem dX10_opensTest_40 : decode cX10_opensTest 40 = .ok (.getfield 128, 3) := by decide +kernel
theorem dX10_opensTest_43 : decode cX10_opensTest 43 = .ok (.iload_n 2, 1) := by decide +kernel
theorem dX10_opensTest_44 : decode cX10_opensTest 44 = .ok (.aload_n 0, 1) := by decide +kernel
theorem dX10_opensTest_45 : decode cX10_opensTest 45 = .ok (.getfield 396, 3) := by decide +kernel
theorem dX10_opensTest_48 : decode cX10_opensTest 48 = .ok (.iastore, 1) := by decide +kernel
theorem dX10_opensTest_49 : decode cX10_opensTest 49 = .ok (.aload_n 0, 1) := by decide +kernel
theorem dX10_opensTest_50 : decode cX10_opensTest 50 = .ok (.iload_n 1, 1) := by decide +kernel
theorem dX10_opensTest_51 : decode cX10_opensTest 51 = .ok (.iload_n 2, 1) := by decide +kernel
theorem dX10_opensTest_52 : decode cX10_opensTest 52 = .ok (.invokestatic 399, 3) := by decide +kernel
theorem dX10_opensTest_55 : decode cX10_opensTest 55 = .ok (.invokevirtual 402, 3) := by decide +kernel
theorem dX10_opensTest_58 : decode cX10_opensTest 58 = .ok (.aload_n 0, 1) := by decide +kernel
theorem dX10_opensTest_59 : decode cX10_opensTest 59 = .ok (.iload_n 1, 1) := by decide +kernel
theorem dX10_opensTest_60 : decode cX10_opensTest 60 = .ok (.sipush 132, 3) := by decide +kernel
theorem dX10_opensTest_63 : decode cX10_opensTest 63 = .ok (.invokevirtual 405, 3) := by decide +kernel
theorem dX10_opensTest_66 : decode cX10_opensTest 66 = .ok (.aload_n 0, 1) := by decide +kernel
theorem dX10_opensTest_67 : decode cX10_opensTest 67 = .ok (.getfield 140, 3) := by decide +kernel
theorem dX10_opensTest_70 : decode cX10_opensTest 70 = .ok (.aload_n 0, 1) := by decide +kernel
theorem dX10_opensTest_71 : decode cX10_opensTest 71 = .ok (.getfield 19, 3) := by decide +kernel
theorem dX10_opensTest_74 : decode cX10_opensTest 74 = .ok (.iload_n 1, 1) := by decide +kernel
theorem dX10_opensTest_75 : decode cX10_opensTest 75 = .ok (.iaload, 1) := by decide +kernel
theorem dX10_opensTest_76 : decode cX10_opensTest 76 = .ok (.aload_n 0, 1) := by decide +kernel
theorem dX10_opensTest_77 : decode cX10_opensTest 77 = .ok (.getfield 119, 3) := by decide +kernel
theorem dX10_opensTest_80 : decode cX10_opensTest 80 = .ok (.sipush 132, 3) := by decide +kernel
theorem dX10_opensTest_83 : decode cX10_opensTest 83 = .ok (.iaload, 1) := by decide +kernel
theorem dX10_opensTest_84 : decode cX10_opensTest 84 = .ok (.iconst 2, 1) := by decide +kernel
theorem dX10_opensTest_85 : decode cX10_opensTest 85 = .ok (.aload_n 0, 1) := by decide +kernel
theorem dX10_opensTest_86 : decode cX10_opensTest 86 = .ok (.getfield 119, 3) := by decide +kernel
theorem dX10_opensTest_89 : decode cX10_opensTest 89 = .ok (.iload_n 2, 1) := by decide +kernel
theorem dX10_opensTest_90 : decode cX10_opensTest 90 = .ok (.invokestatic 399, 3) := by decide +kernel
theorem dX10_opensTest_93 : decode cX10_opensTest 93 = .ok (.iaload, 1) := by decide +kernel
theorem dX10_opensTest_94 : decode cX10_opensTest 94 = .ok (.imul, 1) := by decide +kernel
theorem dX10_opensTest_95 : decode cX10_opensTest 95 = .ok (.iadd, 1) := by decide +kernel
theorem dX10_opensTest_96 : decode cX10_opensTest 96 = .ok (.iastore, 1) := by decide +kernel
theorem dX10_opensTest_97 : decode cX10_opensTest 97 = .ok (.aload_n 0, 1) := by decide +kernel
theorem dX10_opensTest_98 : decode cX10_opensTest 98 = .ok (.getfield 119, 3) := by decide +kernel
theorem dX10_opensTest_101 : decode cX10_opensTest 101 = .ok (.sipush 132, 3) := by decide +kernel
theorem dX10_opensTest_104 : decode cX10_opensTest 104 = .ok (.aload_n 0, 1) := by decide +kernel
theorem dX10_opensTest_105 : decode cX10_opensTest 105 = .ok (.getfield 119, 3) := by decide +kernel
theorem dX10_opensTest_108 : decode cX10_opensTest 108 = .ok (.iconst 0, 1) := by decide +kernel
theorem dX10_opensTest_109 : decode cX10_opensTest 109 = .ok (.invokestatic 371, 3) := by decide +kernel
theorem dX10_opensTest_112 : decode cX10_opensTest 112 = .ok (.aload_n 0, 1) := by decide +kernel
theorem dX10_opensTest_113 : decode cX10_opensTest 113 = .ok (.aload_n 0, 1) := by decide +kernel
theorem dX10_opensTest_114 : decode cX10_opensTest 114 = .ok (.getfield 31, 3) := by decide +kernel
theorem dX10_opensTest_117 : decode cX10_opensTest 117 = .ok (.iload_n 1, 1) := by decide +kernel
theorem dX10_opensTest_118 : decode cX10_opensTest 118 = .ok (.iaload, 1) := by decide +kernel
theorem dX10_opensTest_119 : decode cX10_opensTest 119 = .ok (.putfield 289, 3) := by decide +kernel
theorem dX10_opensTest_122 : decode cX10_opensTest 122 = .ok (.aload_n 0, 1) := by decide +kernel
theorem dX10_opensTest_123 : decode cX10_opensTest 123 = .ok (.aload_n 0, 1) := by decide +kernel
theorem dX10_opensTest_124 : decode cX10_opensTest 124 = .ok (.getfield 58, 3) := by decide +kernel
theorem dX10_opensTest_127 : decode cX10_opensTest 127 = .ok (.aload_n 0, 1) := by decide +kernel
theorem dX10_opensTest_128 : decode cX10_opensTest 128 = .ok (.getfield 289, 3) := by decide +kernel
theorem dX10_opensTest_131 : decode cX10_opensTest 131 = .ok (.iaload, 1) := by decide +kernel
theorem dX10_opensTest_132 : decode cX10_opensTest 132 = .ok (.putfield 292, 3) := by decide +kernel
theorem dX10_opensTest_135 : decode cX10_opensTest 135 = .ok (.return_, 1) := by decide +kernel
theorem wt_1364 : (Jvm.Cond.fieldLink "BranchingStoryModel" (116 : Nat) "BranchingStoryModel" "entry" "[I") ∈ lw_tbl := in_tb 1364 (by decide +kernel)
theorem wt_1365 : (Jvm.Cond.fieldLink "BranchingStoryModel" (119 : Nat) "BranchingStoryModel" "know" "[I") ∈ lw_tbl := in_tb 1365 (by decide +kernel)
theorem wt_1366 : (Jvm.Cond.fieldLink "BranchingStoryModel" (122 : Nat) "BranchingStoryModel" "openTest" "[I") ∈ lw_tbl := in_tb 1366 (by decide +kernel)
theorem wt_1367 : (Jvm.Cond.fieldLink "BranchingStoryModel" (125 : Nat) "BranchingStoryModel" "beforeOffered" "[I") ∈ lw_tbl := in_tb 1367 (by decide +kernel)
theorem wt_1368 : (Jvm.Cond.fieldLink "BranchingStoryModel" (128 : Nat) "BranchingStoryModel" "beforeCertain" "[I") ∈ lw_tbl := in_tb 1368 (by decide +kernel)
theorem wt_1371 : (Jvm.Cond.fieldLink "BranchingStoryModel" (137 : Nat) "BranchingStoryModel" "inSecond" "[Z") ∈ lw_tbl := in_tb 1371 (by decide +kernel)
theorem wt_1372 : (Jvm.Cond.fieldLink "BranchingStoryModel" (390 : Nat) "BranchingStoryModel" "openTests" "I") ∈ lw_tbl := in_tb 1372 (by decide +kernel)
theorem wt_1373 : (Jvm.Cond.fieldLink "BranchingStoryModel" (393 : Nat) "BranchingStoryModel" "offeredSet" "I") ∈ lw_tbl := in_tb 1373 (by decide +kernel)
theorem wt_1374 : (Jvm.Cond.fieldLink "BranchingStoryModel" (396 : Nat) "BranchingStoryModel" "certainSet" "I") ∈ lw_tbl := in_tb 1374 (by decide +kernel)
theorem wt_1375 : (Jvm.Cond.fieldLink "BranchingStoryModel" (378 : Nat) "BranchingStoryModel" "changed" "Z") ∈ lw_tbl := in_tb 1375 (by decide +kernel)
theorem wt_1377 : (Jvm.Cond.fieldLink "BranchingStoryModel" (140 : Nat) "BranchingStoryModel" "verdicts" "[I") ∈ lw_tbl := in_tb 1377 (by decide +kernel)
theorem wt_1808 : (Jvm.Cond.methodLink "BranchingStoryModel" (365 : Nat) ({ cls := "BranchingStoryModel", name := "no", desc := "(I)I" } : Jvm.MethodName)) ∈ lw_tbl := in_tb 1808 (by decide +kernel)
theorem wt_1810 : (Jvm.Cond.instanceMethod ({ cls := "BranchingStoryModel", name := "no", desc := "(I)I" } : Jvm.MethodName)) ∈ lw_tbl := in_tb 1810 (by decide +kernel)
theorem wt_1811 : (Jvm.Cond.code ({ cls := "BranchingStoryModel", name := "no", desc := "(I)I" } : Jvm.MethodName) prog_12_method_71_code (2 : Nat) (Option.some Jvm.ClassFile.FieldType.int)) ∈ lw_tbl := in_tb 1811 (by decide +kernel)
theorem wt_1812 : (Jvm.Cond.methodLink "BranchingStoryModel" (368 : Nat) ({ cls := "BranchingStoryModel", name := "farOf", desc := "(I)I" } : Jvm.MethodName)) ∈ lw_tbl := in_tb 1812 (by decide +kernel)
theorem wt_1814 : (Jvm.Cond.instanceMethod ({ cls := "BranchingStoryModel", name := "farOf", desc := "(I)I" } : Jvm.MethodName)) ∈ lw_tbl := in_tb 1814 (by decide +kernel)
theorem wt_1815 : (Jvm.Cond.code ({ cls := "BranchingStoryModel", name := "farOf", desc := "(I)I" } : Jvm.MethodName) prog_12_method_72_code (3 : Nat) (Option.some Jvm.ClassFile.FieldType.int)) ∈ lw_tbl := in_tb 1815 (by decide +kernel)
theorem wt_1840 : (Jvm.Cond.methodLink "BranchingStoryModel" (371 : Nat) ({ cls := "BranchingStoryModel", name := "copies", desc := "([II[II)V" } : Jvm.MethodName)) ∈ lw_tbl := in_tb 1840 (by decide +kernel)
theorem wt_1841 : (Jvm.Cond.static ({ cls := "BranchingStoryModel", name := "copies", desc := "([II[II)V" } : Jvm.MethodName)) ∈ lw_tbl := in_tb 1841 (by decide +kernel)
theorem wt_1842 : (Jvm.Cond.code ({ cls := "BranchingStoryModel", name := "copies", desc := "([II[II)V" } : Jvm.MethodName) prog_12_method_77_code (5 : Nat) (Option.none : Option Jvm.ClassFile.FieldType)) ∈ lw_tbl := in_tb 1842 (by decide +kernel)
theorem wt_1850 : (Jvm.Cond.methodLink "BranchingStoryModel" (399 : Nat) ({ cls := "BranchingStoryModel", name := "falseOf", desc := "(I)I" } : Jvm.MethodName)) ∈ lw_tbl := in_tb 1850 (by decide +kernel)
theorem wt_1851 : (Jvm.Cond.static ({ cls := "BranchingStoryModel", name := "falseOf", desc := "(I)I" } : Jvm.MethodName)) ∈ lw_tbl := in_tb 1851 (by decide +kernel)
theorem wt_1852 : (Jvm.Cond.code ({ cls := "BranchingStoryModel", name := "falseOf", desc := "(I)I" } : Jvm.MethodName) prog_12_method_85_code (1 : Nat) (Option.some Jvm.ClassFile.FieldType.int)) ∈ lw_tbl := in_tb 1852 (by decide +kernel)
theorem wt_1853 : (Jvm.Cond.methodLink "BranchingStoryModel" (375 : Nat) ({ cls := "BranchingStoryModel", name := "joins", desc := "([II[II)V" } : Jvm.MethodName)) ∈ lw_tbl := in_tb 1853 (by decide +kernel)
theorem wt_1854 : (Jvm.Cond.static ({ cls := "BranchingStoryModel", name := "joins", desc := "([II[II)V" } : Jvm.MethodName)) ∈ lw_tbl := in_tb 1854 (by decide +kernel)
theorem wt_1855 : (Jvm.Cond.code ({ cls := "BranchingStoryModel", name := "joins", desc := "([II[II)V" } : Jvm.MethodName) prog_12_method_78_code (5 : Nat) (Option.none : Option Jvm.ClassFile.FieldType)) ∈ lw_tbl := in_tb 1855 (by decide +kernel)
theorem wt_1868 : (Jvm.Cond.methodLink "BranchingStoryModel" (402 : Nat) ({ cls := "BranchingStoryModel", name := "falsePart", desc := "(II)V" } : Jvm.MethodName)) ∈ lw_tbl := in_tb 1868 (by decide +kernel)
theorem wt_1870 : (Jvm.Cond.instanceMethod ({ cls := "BranchingStoryModel", name := "falsePart", desc := "(II)V" } : Jvm.MethodName)) ∈ lw_tbl := in_tb 1870 (by decide +kernel)
theorem wt_1871 : (Jvm.Cond.code ({ cls := "BranchingStoryModel", name := "falsePart", desc := "(II)V" } : Jvm.MethodName) prog_12_method_84_code (3 : Nat) (Option.none : Option Jvm.ClassFile.FieldType)) ∈ lw_tbl := in_tb 1871 (by decide +kernel)
theorem wt_1872 : (Jvm.Cond.methodLink "BranchingStoryModel" (387 : Nat) ({ cls := "BranchingStoryModel", name := "widensNot", desc := "(II)V" } : Jvm.MethodName)) ∈ lw_tbl := in_tb 1872 (by decide +kernel)
theorem wt_1874 : (Jvm.Cond.instanceMethod ({ cls := "BranchingStoryModel", name := "widensNot", desc := "(II)V" } : Jvm.MethodName)) ∈ lw_tbl := in_tb 1874 (by decide +kernel)
theorem wt_1875 : (Jvm.Cond.code ({ cls := "BranchingStoryModel", name := "widensNot", desc := "(II)V" } : Jvm.MethodName) prog_12_method_82_code (7 : Nat) (Option.none : Option Jvm.ClassFile.FieldType)) ∈ lw_tbl := in_tb 1875 (by decide +kernel)
theorem wt_1876 : (Jvm.Cond.methodLink "BranchingStoryModel" (381 : Nat) ({ cls := "BranchingStoryModel", name := "checks", desc := "(II)V" } : Jvm.MethodName)) ∈ lw_tbl := in_tb 1876 (by decide +kernel)
theorem wt_1878 : (Jvm.Cond.instanceMethod ({ cls := "BranchingStoryModel", name := "checks", desc := "(II)V" } : Jvm.MethodName)) ∈ lw_tbl := in_tb 1878 (by decide +kernel)
theorem wt_1879 : (Jvm.Cond.code ({ cls := "BranchingStoryModel", name := "checks", desc := "(II)V" } : Jvm.MethodName) prog_12_method_80_code (3 : Nat) (Option.none : Option Jvm.ClassFile.FieldType)) ∈ lw_tbl := in_tb 1879 (by decide +kernel)
theorem wt_1880 : (Jvm.Cond.methodLink "BranchingStoryModel" (405 : Nat) ({ cls := "BranchingStoryModel", name := "truePart", desc := "(II)V" } : Jvm.MethodName)) ∈ lw_tbl := in_tb 1880 (by decide +kernel)
theorem wt_1882 : (Jvm.Cond.instanceMethod ({ cls := "BranchingStoryModel", name := "truePart", desc := "(II)V" } : Jvm.MethodName)) ∈ lw_tbl := in_tb 1882 (by decide +kernel)
theorem wt_1883 : (Jvm.Cond.code ({ cls := "BranchingStoryModel", name := "truePart", desc := "(II)V" } : Jvm.MethodName) prog_12_method_83_code (4 : Nat) (Option.none : Option Jvm.ClassFile.FieldType)) ∈ lw_tbl := in_tb 1883 (by decide +kernel)
theorem wt_1884 : (Jvm.Cond.methodLink "BranchingStoryModel" (384 : Nat) ({ cls := "BranchingStoryModel", name := "narrows", desc := "(II)V" } : Jvm.MethodName)) ∈ lw_tbl := in_tb 1884 (by decide +kernel)
theorem wt_1886 : (Jvm.Cond.instanceMethod ({ cls := "BranchingStoryModel", name := "narrows", desc := "(II)V" } : Jvm.MethodName)) ∈ lw_tbl := in_tb 1886 (by decide +kernel)
theorem wt_1887 : (Jvm.Cond.code ({ cls := "BranchingStoryModel", name := "narrows", desc := "(II)V" } : Jvm.MethodName) prog_12_method_81_code (8 : Nat) (Option.none : Option Jvm.ClassFile.FieldType)) ∈ lw_tbl := in_tb 1887 (by decide +kernel)
theorem fl_X10_116 : FL RX10 116 9 58 := ⟨RX10, TX10, 74, rfl, by decide, inX10, Or.inl wt_1364⟩
theorem fl_X10_119 : FL RX10 119 9 59 := ⟨RX10, TX10, 74, rfl, by decide, inX10, Or.inl wt_1365⟩
theorem fl_X10_122 : FL RX10 122 9 60 := ⟨RX10, TX10, 74, rfl, by decide, inX10, Or.inl wt_1366⟩
theorem fl_X10_125 : FL RX10 125 9 61 := ⟨RX10, TX10, 74, rfl, by decide, inX10, Or.inl wt_1367⟩
theorem fl_X10_128 : FL RX10 128 9 62 := ⟨RX10, TX10, 74, rfl, by decide, inX10, Or.inl wt_1368⟩
theorem fl_X10_137 : FL RX10 137 9 65 := ⟨RX10, TX10, 74, rfl, by decide, inX10, Or.inl wt_1371⟩
theorem fl_X10_140 : FL RX10 140 9 71 := ⟨RX10, TX10, 74, rfl, by decide, inX10, Or.inl wt_1377⟩
theorem fl_X10_378 : FL RX10 378 9 69 := ⟨RX10, TX10, 74, rfl, by decide, inX10, Or.inl wt_1375⟩
theorem fl_X10_390 : FL RX10 390 9 66 := ⟨RX10, TX10, 74, rfl, by decide, inX10, Or.inl wt_1372⟩
theorem fl_X10_393 : FL RX10 393 9 67 := ⟨RX10, TX10, 74, rfl, by decide, inX10, Or.inl wt_1373⟩
theorem fl_X10_396 : FL RX10 396 9 68 := ⟨RX10, TX10, 74, rfl, by decide, inX10, Or.inl wt_1374⟩
theorem fp_X10_378 : FP RX10 378 9 69 .boolean := ⟨RX10, TX10, 74, tyX10, rfl, by decide, inX10, tyX10_ok, nmX10, rfl, by decide +kernel, Or.inl wt_1375⟩
theorem fp_X10_390 : FP RX10 390 9 66 .int := ⟨RX10, TX10, 74, tyX10, rfl, by decide, inX10, tyX10_ok, nmX10, rfl, by decide +kernel, Or.inl wt_1372⟩
theorem cs_X10_365 : CVw RX10 365 yX10_no cX10_no 2 (some .int) 1 := ⟨Or.inl wt_1808, wt_1810, in_sl (n := 74) 135 (by decide +kernel), wt_10, wt_1811, by decide, by decide, by decide +kernel⟩
theorem cs_X10_368 : CVw RX10 368 yX10_farOf cX10_farOf 3 (some .int) 1 := ⟨Or.inl wt_1812, wt_1814, in_sl (n := 74) 136 (by decide +kernel), wt_10, wt_1815, by decide, by decide, by decide +kernel⟩
theorem cs_X10_371 : CSw RX10 371 yX10_copies cX10_copies 5 none 4 := ⟨Or.inl wt_1840, wt_1841, wt_10, wt_1842, by decide, by decide, by decide +kernel⟩
theorem cs_X10_375 : CSw RX10 375 yX10_joins cX10_joins 5 none 4 := ⟨Or.inl wt_1853, wt_1854, wt_10, wt_1855, by decide, by decide, by decide +kernel⟩
theorem cs_X10_381 : CVw RX10 381 yX10_checks cX10_checks 3 none 2 := ⟨Or.inl wt_1876, wt_1878, in_sl (n := 74) 145 (by decide +kernel), wt_10, wt_1879, by decide, by decide, by decide +kernel⟩
theorem cs_X10_384 : CVw RX10 384 yX10_narrows cX10_narrows 8 none 2 := ⟨Or.inl wt_1884, wt_1886, in_sl (n := 74) 147 (by decide +kernel), wt_10, wt_1887, by decide, by decide, by decide +kernel⟩
theorem cs_X10_387 : CVw RX10 387 yX10_widensNot cX10_widensNot 7 none 2 := ⟨Or.inl wt_1872, wt_1874, in_sl (n := 74) 144 (by decide +kernel), wt_10, wt_1875, by decide, by decide, by decide +kernel⟩
theorem cs_X10_399 : CSw RX10 399 yX10_falseOf cX10_falseOf 1 (some .int) 1 := ⟨Or.inl wt_1850, wt_1851, wt_10, wt_1852, by decide, by decide, by decide +kernel⟩
theorem cs_X10_402 : CVw RX10 402 yX10_falsePart cX10_falsePart 3 none 2 := ⟨Or.inl wt_1868, wt_1870, in_sl (n := 74) 143 (by decide +kernel), wt_10, wt_1871, by decide, by decide, by decide +kernel⟩
theorem cs_X10_405 : CVw RX10 405 yX10_truePart cX10_truePart 4 none 2 := ⟨Or.inl wt_1880, wt_1882, in_sl (n := 74) 146 (by decide +kernel), wt_10, wt_1883, by decide, by decide, by decide +kernel⟩
/-! BranchingStoryModel.isComplete()Z -/
def f_X10_isComplete_J13 (Q : St → Int → Prop) (σ : St) (s1 : Int) : Prop :=
  ∀ σ1 : St, σ1 = sset σ 0 5 s1 → inR (σ1 0 53) ∧ (((σ1 0 53) = 0 → Q σ1 0) ∧ (¬ (σ1 0 53) = 0 → inR (σ1 0 54) ∧ (((σ1 0 54) = 0 → Q σ1 0) ∧ (¬ (σ1 0 54) = 0 → Q σ1 1))))
def f_X10_isComplete (σ : St) (Q : St → Int → Prop) : Prop :=
  inR (σ 0 53) ∧ (((σ 0 53) = 0 → f_X10_isComplete_J13 Q σ 1) ∧ (¬ (σ 0 53) = 0 → f_X10_isComplete_J13 Q σ 0))
set_option maxRecDepth 100000 in
set_option maxHeartbeats 4000000 in
theorem w_X10_isComplete_J13 {X : Cx} {Y : Cy} {Q : St → Int → Prop} (ok : Ok X Y KM cX10_isComplete 1 RX10 (rm0q 0 0) (some .boolean)) (σ : St) (s1 : Int) (h : f_X10_isComplete_J13 Q σ s1) : Wq X Y KM 1 (QF X Y (Qiq Y KM Q)) σ 13 [(0, .inr (.inr 0))] [.inl s1, .inr (.inr 0)] := by
  unfold f_X10_isComplete_J13 at h
  refine q_putI ok fp_X10_143 kM_0 fM_0_5 dX10_isComplete_13 (wq_s (fun σ1 eσ1 => ?_))
  have h := h σ1 eσ1
  refine q_aload_n ok dX10_isComplete_16 0 rfl ?_
  refine q_getI ok fl_X10_270 kM_0 fM_0_53 dX10_isComplete_17 ?_
  obtain ⟨g1, hT2a, hT2b⟩ := h
  refine q_if_eq (tgt := 34) ok dX10_isComplete_20 (by decide) g1 (fun c2 => ?_) (fun c2 => ?_)
  · have h := hT2a c2
    refine q_iconst ok dX10_isComplete_34 ?_
    exact q_zret ok dX10_isComplete_35 (by decide) h
  · have h := hT2b c2
    refine q_aload_n ok dX10_isComplete_23 0 rfl ?_
    refine q_getI ok fl_X10_352 kM_0 fM_0_54 dX10_isComplete_24 ?_
    obtain ⟨g2, hT1a, hT1b⟩ := h
    refine q_if_eq (tgt := 34) ok dX10_isComplete_27 (by decide) g2 (fun c1 => ?_) (fun c1 => ?_)
    · have h := hT1a c1
      refine q_iconst ok dX10_isComplete_34 ?_
      exact q_zret ok dX10_isComplete_35 (by decide) h
    · have h := hT1b c1
      refine q_iconst ok dX10_isComplete_30 ?_
      refine q_goto (tgt := 35) ok dX10_isComplete_31 (by decide) ?_
      exact q_zret ok dX10_isComplete_35 (by decide) h
set_option maxRecDepth 100000 in
set_option maxHeartbeats 4000000 in
theorem c_X10_isComplete (l : Launch) (Y : Cy) (hD : ∀ σ, va_D Y.2.2.2 (wsOf KM Y.2.1 Y.2.2.1 σ)) {σ : St} {Q : St → Int → Prop} (h : f_X10_isComplete  σ Q) : ConI l yX10_isComplete cX10_isComplete 1 .boolean (rm0q 0 0) Y KM σ [.inr (.inr 0)] Q := con_of (lv := [(0, .inr (.inr 0))]) (by decide) hD (Nat.le_of_ble_eq_true rfl) rfl (fun X _ ok => by
  have ok : Ok X Y KM cX10_isComplete 1 RX10 (rm0q 0 0) (some .boolean) := ok
  unfold f_X10_isComplete at h
  refine q_aload_n ok dX10_isComplete_0 0 rfl ?_
  refine q_aload_n ok dX10_isComplete_1 0 rfl ?_
  refine q_getI ok fl_X10_270 kM_0 fM_0_53 dX10_isComplete_2 ?_
  obtain ⟨g1, hT1a, hT1b⟩ := h
  refine q_if_eq (tgt := 12) ok dX10_isComplete_5 (by decide) g1 (fun c1 => ?_) (fun c1 => ?_)
  · have h := hT1a c1
    refine q_iconst ok dX10_isComplete_12 ?_
    exact w_X10_isComplete_J13 ok σ 1 h
  · have h := hT1b c1
    refine q_iconst ok dX10_isComplete_8 ?_
    refine q_goto (tgt := 13) ok dX10_isComplete_9 (by decide) ?_
    exact w_X10_isComplete_J13 ok σ 0 h)
/-! BranchingStoryModel.no(I)I -/
def f_X10_no (a0 : Int) (σ : St) (Q : St → Int → Prop) : Prop :=
  f_X10_in a0 0 11 σ (fun σ1 r1 => inR r1 ∧ ((¬ r1 = 0 → inR (σ1 0 53) ∧ ((¬ (σ1 0 53) = 0 → Q σ1 0) ∧ ((σ1 0 53) = 0 → Q σ1 2))) ∧ (r1 = 0 → Q σ1 1)))
set_option maxRecDepth 100000 in
set_option maxHeartbeats 4000000 in
theorem c_X10_no (l : Launch) (Y : Cy) (hD : ∀ σ, va_D Y.2.2.2 (wsOf KM Y.2.1 Y.2.2.1 σ)) {a0 : Int} {σ : St} {Q : St → Int → Prop} (h : f_X10_no a0 σ Q) : ConI l yX10_no cX10_no 2 .int (rm0q 1 22) Y KM σ [.inr (.inr 0), .inl a0] Q := con_of (lv := [(0, .inr (.inr 0)), (1, .inl a0)]) (by decide) hD (Nat.le_of_ble_eq_true rfl) rfl (fun X _ ok => by
  have ok : Ok X Y KM cX10_no 2 RX10 (rm0q 1 22) (some .int) := ok
  unfold f_X10_no at h
  refine q_iload_n ok dX10_no_0 1 rfl ?_
  refine q_iconst ok dX10_no_1 ?_
  refine q_bipush ok dX10_no_2 rfl ?_
  refine q_callSI (st := []) ok cs_X10_168 (c_X10_in X.2.1 Y ok.2.2.2.2.2.2.2.2 h) ⟨rfl, rfl, Nat.le_of_ble_eq_true rfl, Nat.le_of_ble_eq_true rfl⟩ rfl rfl (Nat.le_of_ble_eq_true rfl) dX10_no_4 (fun σ1 r1 h => ?_)
  obtain ⟨g1, hT2a, hT2b⟩ := h
  refine q_if_ne (tgt := 14) ok dX10_no_7 (by decide) g1 (fun c2 => ?_) (fun c2 => ?_)
  · have h := hT2a c2
    refine q_aload_n ok dX10_no_14 0 rfl ?_
    refine q_getI ok fl_X10_270 kM_0 fM_0_53 dX10_no_15 ?_
    obtain ⟨g2, hT1a, hT1b⟩ := h
    refine q_if_ne (tgt := 25) ok dX10_no_18 (by decide) g2 (fun c1 => ?_) (fun c1 => ?_)
    · have h := hT1a c1
      refine q_iconst ok dX10_no_25 ?_
      exact q_iret ok dX10_no_26 h
    · have h := hT1b c1
      refine q_iconst ok dX10_no_21 ?_
      refine q_goto (tgt := 26) ok dX10_no_22 (by decide) ?_
      exact q_iret ok dX10_no_26 h
  · have h := hT2b c2
    refine q_iconst ok dX10_no_10 ?_
    refine q_goto (tgt := 26) ok dX10_no_11 (by decide) ?_
    exact q_iret ok dX10_no_26 h)
/-! BranchingStoryModel.farOf(I)I -/
def f_X10_farOf (a0 : Int) (σ : St) (Q : St → Int → Prop) : Prop :=
  0 ≤ a0 ∧ a0 < 12 ∧ inR (σ 33 a0.toNat) ∧ ((¬ (σ 33 a0.toNat) = 0 → 0 ≤ a0 ∧ a0 < 12 ∧ ∀ x1 : Int, x1 = (σ 34 a0.toNat) → inR x1 ∧ ((0 ≤ x1 → 0 ≤ ((11 * x1) + 10) ∧ ((11 * x1) + 10) < 3300 ∧ Q σ ((σ 32 ((11 * x1) + 10).toNat) + 1)) ∧ (¬ 0 ≤ x1 → Q σ 0))) ∧ ((σ 33 a0.toNat) = 0 → Q σ (-1)))
set_option maxRecDepth 100000 in
set_option maxHeartbeats 4000000 in
theorem c_X10_farOf (l : Launch) (Y : Cy) (hD : ∀ σ, va_D Y.2.2.2 (wsOf KM Y.2.1 Y.2.2.1 σ)) {a0 : Int} {σ : St} {Q : St → Int → Prop} (h : f_X10_farOf a0 σ Q) : ConI l yX10_farOf cX10_farOf 3 .int (rm0q 0 0) Y KM σ [.inr (.inr 0), .inl a0] Q := con_of (lv := [(0, .inr (.inr 0)), (1, .inl a0)]) (by decide) hD (Nat.le_of_ble_eq_true rfl) rfl (fun X _ ok => by
  have ok : Ok X Y KM cX10_farOf 3 RX10 (rm0q 0 0) (some .int) := ok
  unfold f_X10_farOf at h
  refine q_aload_n ok dX10_farOf_0 0 rfl ?_
  refine q_getC ok fl_X10_107 kM_0 fM_0_55 dX10_farOf_1 ?_
  refine q_iload_n ok dX10_farOf_4 1 rfl ?_
  obtain ⟨g1, g2, h⟩ := h
  refine q_iald ok kM_ok kM_33 g1 g2 dX10_farOf_5 ?_
  obtain ⟨g3, hT2a, hT2b⟩ := h
  refine q_if_ne (tgt := 11) ok dX10_farOf_6 (by decide) g3 (fun c2 => ?_) (fun c2 => ?_)
  · have h := hT2a c2
    refine q_aload_n ok dX10_farOf_11 0 rfl ?_
    refine q_getC ok fl_X10_110 kM_0 fM_0_56 dX10_farOf_12 ?_
    refine q_iload_n ok dX10_farOf_15 1 rfl ?_
    obtain ⟨g4, g5, h⟩ := h
    refine q_iald ok kM_ok kM_34 g4 g5 dX10_farOf_16 ?_
    refine wq_i (fun x1 ex1 => ?_)
    have h := h x1 ex1
    refine q_istore_n (lv' := [(2, .inl x1), (0, .inr (.inr 0)), (1, .inl a0)]) ok dX10_farOf_17 (by decide) rfl ?_
    refine q_iload_n ok dX10_farOf_18 0 rfl ?_
    obtain ⟨g6, hT1a, hT1b⟩ := h
    refine q_if_ge (tgt := 26) ok dX10_farOf_19 (by decide) g6 (fun c1 => ?_) (fun c1 => ?_)
    · have h := hT1a c1
      refine q_aload_n ok dX10_farOf_26 1 rfl ?_
      refine q_getC ok fl_X10_104 kM_0 fM_0_50 dX10_farOf_27 ?_
      refine q_bipush ok dX10_farOf_30 rfl ?_
      refine q_iload_n ok dX10_farOf_32 0 rfl ?_
      refine q_imul ok dX10_farOf_33 ?_
      refine q_bipush ok dX10_farOf_34 rfl ?_
      refine q_iadd ok dX10_farOf_36 ?_
      obtain ⟨g7, g8, h⟩ := h
      refine q_iald ok kM_ok kM_32 g7 g8 dX10_farOf_37 ?_
      refine q_iconst ok dX10_farOf_38 ?_
      refine q_iadd ok dX10_farOf_39 ?_
      exact q_iret ok dX10_farOf_40 h
    · have h := hT1b c1
      refine q_iconst ok dX10_farOf_22 ?_
      refine q_goto (tgt := 40) ok dX10_farOf_23 (by decide) ?_
      exact q_iret ok dX10_farOf_40 h
  · have h := hT2b c2
    refine q_iconst ok dX10_farOf_9 ?_
    exact q_iret ok dX10_farOf_10 h)
/-! BranchingStoryModel.wayLength(I)I -/
def f_X10_wayLength (a0 : Int) (σ : St) (Q : St → Int → Prop) : Prop :=
  f_X10_no a0 σ (fun σ1 r1 => ∀ σ2 : St, σ2 = sset σ1 0 5 r1 → inR (σ2 0 5) ∧ (((σ2 0 5) ≤ 0 → f_X10_farOf a0 σ2 (fun σ3 r2 => Q σ3 r2)) ∧ (¬ (σ2 0 5) ≤ 0 → Q σ2 0)))
set_option maxRecDepth 100000 in
set_option maxHeartbeats 4000000 in
theorem c_X10_wayLength (l : Launch) (Y : Cy) (hD : ∀ σ, va_D Y.2.2.2 (wsOf KM Y.2.1 Y.2.2.1 σ)) {a0 : Int} {σ : St} {Q : St → Int → Prop} (h : f_X10_wayLength a0 σ Q) : ConI l yX10_wayLength cX10_wayLength 2 .int (rm0q 2 43) Y KM σ [.inr (.inr 0), .inl a0] Q := con_of (lv := [(0, .inr (.inr 0)), (1, .inl a0)]) (by decide) hD (Nat.le_of_ble_eq_true rfl) rfl (fun X _ ok => by
  have ok : Ok X Y KM cX10_wayLength 2 RX10 (rm0q 2 43) (some .int) := ok
  unfold f_X10_wayLength at h
  refine q_aload_n ok dX10_wayLength_0 0 rfl ?_
  refine q_aload_n ok dX10_wayLength_1 0 rfl ?_
  refine q_iload_n ok dX10_wayLength_2 1 rfl ?_
  refine q_callVI (st := [.inr (.inr 0)]) ok cs_X10_365 kM_0 rfl (c_X10_no X.2.1 Y ok.2.2.2.2.2.2.2.2 h) ⟨rfl, rfl, Nat.le_of_ble_eq_true rfl, Nat.le_of_ble_eq_true rfl⟩ rfl rfl (Nat.le_of_ble_eq_true rfl) dX10_wayLength_3 (fun σ1 r1 h => ?_)
  refine q_putI ok fp_X10_143 kM_0 fM_0_5 dX10_wayLength_6 (wq_s (fun σ2 eσ2 => ?_))
  have h := h σ2 eσ2
  refine q_aload_n ok dX10_wayLength_9 0 rfl ?_
  refine q_getI ok fl_X10_143 kM_0 fM_0_5 dX10_wayLength_10 ?_
  obtain ⟨g1, hT1a, hT1b⟩ := h
  refine q_if_le (tgt := 20) ok dX10_wayLength_13 (by decide) g1 (fun c1 => ?_) (fun c1 => ?_)
  · have h := hT1a c1
    refine q_aload_n ok dX10_wayLength_20 0 rfl ?_
    refine q_iload_n ok dX10_wayLength_21 1 rfl ?_
    refine q_callVI (st := []) ok cs_X10_368 kM_0 rfl (c_X10_farOf X.2.1 Y ok.2.2.2.2.2.2.2.2 h) ⟨rfl, rfl, Nat.le_of_ble_eq_true rfl, Nat.le_of_ble_eq_true rfl⟩ rfl rfl (Nat.le_of_ble_eq_true rfl) dX10_wayLength_22 (fun σ3 r2 h => ?_)
    exact q_iret ok dX10_wayLength_25 h
  · have h := hT1b c1
    refine q_iconst ok dX10_wayLength_16 ?_
    refine q_goto (tgt := 25) ok dX10_wayLength_17 (by decide) ?_
    exact q_iret ok dX10_wayLength_25 h)
/-! BranchingStoryModel.way(II)I -/
def f_X10_way_L62 (Q : St → Int → Prop) : Nat → St → Int → Int → Int → Int → Prop
  | 0, _, _, _, _, _ => False
  | n + 1, σ, v2, v4, v5, v6 => inR v6 ∧ inR v2 ∧ ((v6 ≤ v2 → Q σ v5) ∧ (¬ v6 ≤ v2 → 0 ≤ ((11 * v4) + 9) ∧ ((11 * v4) + 9) < 3300 ∧ ∀ x1 : Int, x1 = (σ 32 ((11 * v4) + 9).toNat) → 0 ≤ ((11 * v4) + 8) ∧ ((11 * v4) + 8) < 3300 ∧ ∀ x2 : Int, x2 = (σ 32 ((11 * v4) + 8).toNat) → f_X10_way_L62 Q n σ v2 x2 x1 (v6 + (-1))))
def f_X10_way (a0 : Int) (a1 : Int) (σ : St) (Q : St → Int → Prop) : Prop :=
  f_X10_no a0 σ (fun σ1 r1 => ∀ σ2 : St, σ2 = sset σ1 0 5 r1 → inR (σ2 0 5) ∧ (((σ2 0 5) ≤ 0 → f_X10_farOf a0 σ2 (fun σ3 r2 => f_X10_in a1 0 (r2 - 1) σ3 (fun σ4 r3 => inR r3 ∧ ((¬ r3 = 0 → 0 ≤ a0 ∧ a0 < 12 ∧ ∀ x1 : Int, x1 = (σ4 34 a0.toNat) → 0 ≤ a0 ∧ a0 < 12 ∧ ∀ x2 : Int, x2 = (σ4 35 a0.toNat) → ∀ x3 : Int, x3 = (r2 - 1) → f_X10_way_L62 Q FU σ4 a1 x1 x2 x3) ∧ (r3 = 0 → f_X10_fails 3 σ4 (fun σ5 r4 => Q σ5 r4)))))) ∧ (¬ (σ2 0 5) ≤ 0 → Q σ2 0)))
set_option maxRecDepth 100000 in
set_option maxHeartbeats 4000000 in
theorem w_X10_way_L62 {X : Cx} {Y : Cy} {Q : St → Int → Prop} (ok : Ok X Y KM cX10_way 7 RX10 (rm0q 2 43) (some .int)) : ∀ (n : Nat) (σ : St) (v2 : Int) (v4 : Int) (v5 : Int) (v6 : Int) , f_X10_way_L62 Q n σ v2 v4 v5 v6 → Wq X Y KM 7 (QF X Y (Qiq Y KM Q)) σ 62 [(0, .inr (.inr 0)), (2, .inl v2), (4, .inl v4), (5, .inl v5), (6, .inl v6)] [] := by
  intro n
  induction n with
  | zero => intro σ v2 v4 v5 v6 h; exact h.elim
  | succ n ih =>
    intro σ v2 v4 v5 v6 h
    rw [f_X10_way_L62] at h
    refine q_iload ok dX10_way_62 4 rfl ?_
    refine q_iload_n ok dX10_way_64 1 rfl ?_
    obtain ⟨g1, g2, hT1a, hT1b⟩ := h
    refine q_icmp_le (tgt := 104) ok dX10_way_65 (by decide) g1 g2 (fun c1 => ?_) (fun c1 => ?_)
    · have h := hT1a c1
      refine q_iload ok dX10_way_104 3 rfl ?_
      exact q_iret ok dX10_way_106 h
    · have h := hT1b c1
      refine q_aload_n ok dX10_way_68 0 rfl ?_
      refine q_getC ok fl_X10_104 kM_0 fM_0_50 dX10_way_69 ?_
      refine q_bipush ok dX10_way_72 rfl ?_
      refine q_iload ok dX10_way_74 2 rfl ?_
      refine q_imul ok dX10_way_76 ?_
      refine q_bipush ok dX10_way_77 rfl ?_
      refine q_iadd ok dX10_way_79 ?_
      obtain ⟨g3, g4, h⟩ := h
      refine q_iald ok kM_ok kM_32 g3 g4 dX10_way_80 ?_
      refine wq_i (fun x1 ex1 => ?_)
      have h := h x1 ex1
      refine q_istore (lv' := [(5, .inl x1), (0, .inr (.inr 0)), (2, .inl v2), (4, .inl v4), (6, .inl v6)]) ok dX10_way_81 (by decide) rfl ?_
      refine q_aload_n ok dX10_way_83 1 rfl ?_
      refine q_getC ok fl_X10_104 kM_0 fM_0_50 dX10_way_84 ?_
      refine q_bipush ok dX10_way_87 rfl ?_
      refine q_iload ok dX10_way_89 3 rfl ?_
      refine q_imul ok dX10_way_91 ?_
      refine q_bipush ok dX10_way_92 rfl ?_
      refine q_iadd ok dX10_way_94 ?_
      obtain ⟨g5, g6, h⟩ := h
      refine q_iald ok kM_ok kM_32 g5 g6 dX10_way_95 ?_
      refine wq_i (fun x2 ex2 => ?_)
      have h := h x2 ex2
      refine q_istore (lv' := [(4, .inl x2), (5, .inl x1), (0, .inr (.inr 0)), (2, .inl v2), (6, .inl v6)]) ok dX10_way_96 (by decide) rfl ?_
      refine q_iinc (lv' := [(6, .inl (v6 + (-1))), (4, .inl x2), (5, .inl x1), (0, .inr (.inr 0)), (2, .inl v2)]) ok dX10_way_98 4 rfl (by decide) rfl ?_
      refine q_goto (tgt := 62) ok dX10_way_101 (by decide) ?_
      refine q_sub [3, 4, 1, 2, 0] rfl ?_
      exact ih σ v2 x2 x1 (v6 + (-1)) h
set_option maxRecDepth 100000 in
set_option maxHeartbeats 4000000 in
theorem c_X10_way (l : Launch) (Y : Cy) (hD : ∀ σ, va_D Y.2.2.2 (wsOf KM Y.2.1 Y.2.2.1 σ)) {a0 : Int} {a1 : Int} {σ : St} {Q : St → Int → Prop} (h : f_X10_way a0 a1 σ Q) : ConI l yX10_way cX10_way 7 .int (rm0q 2 43) Y KM σ [.inr (.inr 0), .inl a0, .inl a1] Q := con_of (lv := [(0, .inr (.inr 0)), (1, .inl a0), (2, .inl a1)]) (by decide) hD (Nat.le_of_ble_eq_true rfl) rfl (fun X _ ok => by
  have ok : Ok X Y KM cX10_way 7 RX10 (rm0q 2 43) (some .int) := ok
  unfold f_X10_way at h
  refine q_aload_n ok dX10_way_0 0 rfl ?_
  refine q_aload_n ok dX10_way_1 0 rfl ?_
  refine q_iload_n ok dX10_way_2 1 rfl ?_
  refine q_callVI (st := [.inr (.inr 0)]) ok cs_X10_365 kM_0 rfl (c_X10_no X.2.1 Y ok.2.2.2.2.2.2.2.2 h) ⟨rfl, rfl, Nat.le_of_ble_eq_true rfl, Nat.le_of_ble_eq_true rfl⟩ rfl rfl (Nat.le_of_ble_eq_true rfl) dX10_way_3 (fun σ1 r1 h => ?_)
  refine q_putI ok fp_X10_143 kM_0 fM_0_5 dX10_way_6 (wq_s (fun σ2 eσ2 => ?_))
  have h := h σ2 eσ2
  refine q_aload_n ok dX10_way_9 0 rfl ?_
  refine q_getI ok fl_X10_143 kM_0 fM_0_5 dX10_way_10 ?_
  obtain ⟨g1, hT2a, hT2b⟩ := h
  refine q_if_le (tgt := 18) ok dX10_way_13 (by decide) g1 (fun c2 => ?_) (fun c2 => ?_)
  · have h := hT2a c2
    refine q_aload_n ok dX10_way_18 0 rfl ?_
    refine q_iload_n ok dX10_way_19 1 rfl ?_
    refine q_callVI (st := []) ok cs_X10_368 kM_0 rfl (c_X10_farOf X.2.1 Y ok.2.2.2.2.2.2.2.2 h) ⟨rfl, rfl, Nat.le_of_ble_eq_true rfl, Nat.le_of_ble_eq_true rfl⟩ rfl rfl (Nat.le_of_ble_eq_true rfl) dX10_way_20 (fun σ3 r2 h => ?_)
    refine q_istore_n (lv' := [(3, .inl r2), (0, .inr (.inr 0)), (1, .inl a0), (2, .inl a1)]) ok dX10_way_23 (by decide) rfl ?_
    refine q_iload_n ok dX10_way_24 3 rfl ?_
    refine q_iconst ok dX10_way_25 ?_
    refine q_iload_n ok dX10_way_26 0 rfl ?_
    refine q_iconst ok dX10_way_27 ?_
    refine q_isub ok dX10_way_28 ?_
    refine q_callSI (st := []) ok cs_X10_168 (c_X10_in X.2.1 Y ok.2.2.2.2.2.2.2.2 h) ⟨rfl, rfl, Nat.le_of_ble_eq_true rfl, Nat.le_of_ble_eq_true rfl⟩ rfl rfl (Nat.le_of_ble_eq_true rfl) dX10_way_29 (fun σ4 r3 h => ?_)
    obtain ⟨g2, hT1a, hT1b⟩ := h
    refine q_if_ne (tgt := 41) ok dX10_way_32 (by decide) g2 (fun c1 => ?_) (fun c1 => ?_)
    · have h := hT1a c1
      refine q_aload_n ok dX10_way_41 1 rfl ?_
      refine q_getC ok fl_X10_110 kM_0 fM_0_56 dX10_way_42 ?_
      refine q_iload_n ok dX10_way_45 2 rfl ?_
      obtain ⟨g3, g4, h⟩ := h
      refine q_iald ok kM_ok kM_34 g3 g4 dX10_way_46 ?_
      refine wq_i (fun x1 ex1 => ?_)
      have h := h x1 ex1
      refine q_istore (lv' := [(4, .inl x1), (3, .inl r2), (0, .inr (.inr 0)), (1, .inl a0), (2, .inl a1)]) ok dX10_way_47 (by decide) rfl ?_
      refine q_aload_n ok dX10_way_49 2 rfl ?_
      refine q_getC ok fl_X10_113 kM_0 fM_0_57 dX10_way_50 ?_
      refine q_iload_n ok dX10_way_53 3 rfl ?_
      obtain ⟨g5, g6, h⟩ := h
      refine q_iald ok kM_ok kM_35 g5 g6 dX10_way_54 ?_
      refine wq_i (fun x2 ex2 => ?_)
      have h := h x2 ex2
      refine q_istore (lv' := [(5, .inl x2), (4, .inl x1), (3, .inl r2), (0, .inr (.inr 0)), (1, .inl a0), (2, .inl a1)]) ok dX10_way_55 (by decide) rfl ?_
      refine q_iload_n ok dX10_way_57 2 rfl ?_
      refine q_iconst ok dX10_way_58 ?_
      refine q_isub ok dX10_way_59 ?_
      refine wq_i (fun x3 ex3 => ?_)
      have h := h x3 ex3
      refine q_istore (lv' := [(6, .inl x3), (5, .inl x2), (4, .inl x1), (3, .inl r2), (0, .inr (.inr 0)), (1, .inl a0), (2, .inl a1)]) ok dX10_way_60 (by decide) rfl ?_
      refine q_sub [4, 6, 2, 1, 0] rfl ?_
      exact w_X10_way_L62 ok FU σ4 a1 x1 x2 x3 h
    · have h := hT1b c1
      refine q_aload_n ok dX10_way_35 1 rfl ?_
      refine q_iconst ok dX10_way_36 ?_
      refine q_callVI (st := []) ok cs_X10_253 kM_0 rfl (c_X10_fails X.2.1 Y ok.2.2.2.2.2.2.2.2 h) ⟨rfl, rfl, Nat.le_of_ble_eq_true rfl, Nat.le_of_ble_eq_true rfl⟩ rfl rfl (Nat.le_of_ble_eq_true rfl) dX10_way_37 (fun σ5 r4 h => ?_)
      exact q_iret ok dX10_way_40 h
  · have h := hT2b c2
    refine q_iconst ok dX10_way_16 ?_
    exact q_iret ok dX10_way_17 h)
/-! BranchingStoryModel.outcomes(I)I -/
def f_X10_outcomes (a0 : Int) (σ : St) (Q : St → Int → Prop) : Prop :=
  f_X10_no a0 σ (fun σ1 r1 => ∀ σ2 : St, σ2 = sset σ1 0 5 r1 → inR (σ2 0 5) ∧ (((σ2 0 5) ≤ 0 → 0 ≤ a0 ∧ a0 < 12 ∧ Q σ2 (σ2 33 a0.toNat)) ∧ (¬ (σ2 0 5) ≤ 0 → Q σ2 0)))
set_option maxRecDepth 100000 in
set_option maxHeartbeats 4000000 in
theorem c_X10_outcomes (l : Launch) (Y : Cy) (hD : ∀ σ, va_D Y.2.2.2 (wsOf KM Y.2.1 Y.2.2.1 σ)) {a0 : Int} {σ : St} {Q : St → Int → Prop} (h : f_X10_outcomes a0 σ Q) : ConI l yX10_outcomes cX10_outcomes 2 .int (rm0q 2 43) Y KM σ [.inr (.inr 0), .inl a0] Q := con_of (lv := [(0, .inr (.inr 0)), (1, .inl a0)]) (by decide) hD (Nat.le_of_ble_eq_true rfl) rfl (fun X _ ok => by
  have ok : Ok X Y KM cX10_outcomes 2 RX10 (rm0q 2 43) (some .int) := ok
  unfold f_X10_outcomes at h
  refine q_aload_n ok dX10_outcomes_0 0 rfl ?_
  refine q_aload_n ok dX10_outcomes_1 0 rfl ?_
  refine q_iload_n ok dX10_outcomes_2 1 rfl ?_
  refine q_callVI (st := [.inr (.inr 0)]) ok cs_X10_365 kM_0 rfl (c_X10_no X.2.1 Y ok.2.2.2.2.2.2.2.2 h) ⟨rfl, rfl, Nat.le_of_ble_eq_true rfl, Nat.le_of_ble_eq_true rfl⟩ rfl rfl (Nat.le_of_ble_eq_true rfl) dX10_outcomes_3 (fun σ1 r1 h => ?_)
  refine q_putI ok fp_X10_143 kM_0 fM_0_5 dX10_outcomes_6 (wq_s (fun σ2 eσ2 => ?_))
  have h := h σ2 eσ2
  refine q_aload_n ok dX10_outcomes_9 0 rfl ?_
  refine q_getI ok fl_X10_143 kM_0 fM_0_5 dX10_outcomes_10 ?_
  obtain ⟨g1, hT1a, hT1b⟩ := h
  refine q_if_le (tgt := 20) ok dX10_outcomes_13 (by decide) g1 (fun c1 => ?_) (fun c1 => ?_)
  · have h := hT1a c1
    refine q_aload_n ok dX10_outcomes_20 0 rfl ?_
    refine q_getC ok fl_X10_107 kM_0 fM_0_55 dX10_outcomes_21 ?_
    refine q_iload_n ok dX10_outcomes_24 1 rfl ?_
    obtain ⟨g2, g3, h⟩ := h
    refine q_iald ok kM_ok kM_33 g2 g3 dX10_outcomes_25 ?_
    exact q_iret ok dX10_outcomes_26 h
  · have h := hT1b c1
    refine q_iconst ok dX10_outcomes_16 ?_
    refine q_goto (tgt := 26) ok dX10_outcomes_17 (by decide) ?_
    exact q_iret ok dX10_outcomes_26 h)
/-! BranchingStoryModel.occurred(II)Z -/
def f_X10_occurred_J67 (Q : St → Int → Prop) (σ : St) (v1 : Int) (v2 : Int) (s1 : Int) : Prop :=
  ∀ σ1 : St, σ1 = sset σ 0 5 s1 → inR (σ1 0 5) ∧ (((σ1 0 5) ≤ 0 → inR v1 ∧ ((¬ v1 = 0 → inR v1 ∧ ((¬ v1 = 1 → 0 ≤ v2 ∧ v2 < 16 ∧ ((σ1 31 v2.toNat) = 0 ∨ (σ1 31 v2.toNat) = 1) ∧ Q σ1 (σ1 31 v2.toNat)) ∧ (v1 = 1 → 0 ≤ v2 ∧ v2 < 12 ∧ ((σ1 30 v2.toNat) = 0 ∨ (σ1 30 v2.toNat) = 1) ∧ Q σ1 (σ1 30 v2.toNat)))) ∧ (v1 = 0 → 0 ≤ v2 ∧ v2 < 100 ∧ ((σ1 29 v2.toNat) = 0 ∨ (σ1 29 v2.toNat) = 1) ∧ Q σ1 (σ1 29 v2.toNat)))) ∧ (¬ (σ1 0 5) ≤ 0 → Q σ1 0))
def f_X10_occurred_J56 (Q : St → Int → Prop) (σ : St) (v1 : Int) (v2 : Int) (s1 : Int) (s2 : Int) (s3 : Int) : Prop :=
  f_X10_in s1 s2 s3 σ (fun σ1 r1 => inR r1 ∧ ((¬ r1 = 0 → f_X10_occurred_J67 Q σ1 v1 v2 0) ∧ (r1 = 0 → f_X10_occurred_J67 Q σ1 v1 v2 3)))
def f_X10_occurred (a0 : Int) (a1 : Int) (σ : St) (Q : St → Int → Prop) : Prop :=
  f_X10_in a0 0 2 σ (fun σ1 r1 => inR r1 ∧ ((¬ r1 = 0 → inR (σ1 0 53) ∧ ((¬ (σ1 0 53) = 0 → inR a0 ∧ ((¬ a0 = 0 → inR a0 ∧ ((¬ a0 = 1 → f_X10_occurred_J56 Q σ1 a0 a1 a1 0 ((σ1 0 32) - 1)) ∧ (a0 = 1 → f_X10_occurred_J56 Q σ1 a0 a1 a1 0 ((σ1 0 30) - 1)))) ∧ (a0 = 0 → f_X10_occurred_J56 Q σ1 a0 a1 a1 0 99))) ∧ ((σ1 0 53) = 0 → f_X10_occurred_J67 Q σ1 a0 a1 2))) ∧ (r1 = 0 → f_X10_occurred_J67 Q σ1 a0 a1 1)))
set_option maxRecDepth 100000 in
set_option maxHeartbeats 4000000 in
theorem w_X10_occurred_J67 {X : Cx} {Y : Cy} {Q : St → Int → Prop} (ok : Ok X Y KM cX10_occurred 3 RX10 (rm0q 1 22) (some .boolean)) (σ : St) (v1 : Int) (v2 : Int) (s1 : Int) (h : f_X10_occurred_J67 Q σ v1 v2 s1) : Wq X Y KM 3 (QF X Y (Qiq Y KM Q)) σ 67 [(0, .inr (.inr 0)), (1, .inl v1), (2, .inl v2)] [.inl s1, .inr (.inr 0)] := by
  unfold f_X10_occurred_J67 at h
  refine q_putI ok fp_X10_143 kM_0 fM_0_5 dX10_occurred_67 (wq_s (fun σ1 eσ1 => ?_))
  have h := h σ1 eσ1
  refine q_aload_n ok dX10_occurred_70 0 rfl ?_
  refine q_getI ok fl_X10_143 kM_0 fM_0_5 dX10_occurred_71 ?_
  obtain ⟨g1, hT3a, hT3b⟩ := h
  refine q_if_le (tgt := 79) ok dX10_occurred_74 (by decide) g1 (fun c3 => ?_) (fun c3 => ?_)
  · have h := hT3a c3
    refine q_iload_n ok dX10_occurred_79 1 rfl ?_
    obtain ⟨g2, hT2a, hT2b⟩ := h
    refine q_if_ne (tgt := 92) ok dX10_occurred_80 (by decide) g2 (fun c2 => ?_) (fun c2 => ?_)
    · have h := hT2a c2
      refine q_iload_n ok dX10_occurred_92 1 rfl ?_
      refine q_iconst ok dX10_occurred_93 ?_
      obtain ⟨g3, hT1a, hT1b⟩ := h
      refine q_icmp_ne (tgt := 106) ok dX10_occurred_94 (by decide) g3 (by unfold inR; decide) (fun c1 => ?_) (fun c1 => ?_)
      · have h := hT1a c1
        refine q_aload_n ok dX10_occurred_106 0 rfl ?_
        refine q_getC ok fl_X10_101 kM_0 fM_0_47 dX10_occurred_107 ?_
        refine q_iload_n ok dX10_occurred_110 2 rfl ?_
        obtain ⟨g4, g5, h⟩ := h
        refine q_zald ok kM_ok kM_31 g4 g5 dX10_occurred_111 ?_
        exact q_zret ok dX10_occurred_112 h.1 h.2
      · have h := hT1b c1
        refine q_aload_n ok dX10_occurred_97 0 rfl ?_
        refine q_getC ok fl_X10_98 kM_0 fM_0_46 dX10_occurred_98 ?_
        refine q_iload_n ok dX10_occurred_101 2 rfl ?_
        obtain ⟨g6, g7, h⟩ := h
        refine q_zald ok kM_ok kM_30 g6 g7 dX10_occurred_102 ?_
        refine q_goto (tgt := 112) ok dX10_occurred_103 (by decide) ?_
        exact q_zret ok dX10_occurred_112 h.1 h.2
    · have h := hT2b c2
      refine q_aload_n ok dX10_occurred_83 0 rfl ?_
      refine q_getC ok fl_X10_95 kM_0 fM_0_45 dX10_occurred_84 ?_
      refine q_iload_n ok dX10_occurred_87 2 rfl ?_
      obtain ⟨g8, g9, h⟩ := h
      refine q_zald ok kM_ok kM_29 g8 g9 dX10_occurred_88 ?_
      refine q_goto (tgt := 112) ok dX10_occurred_89 (by decide) ?_
      exact q_zret ok dX10_occurred_112 h.1 h.2
  · have h := hT3b c3
    refine q_iconst ok dX10_occurred_77 ?_
    exact q_zret ok dX10_occurred_78 (by decide) h
set_option maxRecDepth 100000 in
set_option maxHeartbeats 4000000 in
theorem w_X10_occurred_J56 {X : Cx} {Y : Cy} {Q : St → Int → Prop} (ok : Ok X Y KM cX10_occurred 3 RX10 (rm0q 1 22) (some .boolean)) (σ : St) (v1 : Int) (v2 : Int) (s1 : Int) (s2 : Int) (s3 : Int) (h : f_X10_occurred_J56 Q σ v1 v2 s1 s2 s3) : Wq X Y KM 3 (QF X Y (Qiq Y KM Q)) σ 56 [(0, .inr (.inr 0)), (1, .inl v1), (2, .inl v2)] [.inl s3, .inl s2, .inl s1, .inr (.inr 0)] := by
  unfold f_X10_occurred_J56 at h
  refine q_callSI (st := [.inr (.inr 0)]) ok cs_X10_168 (c_X10_in X.2.1 Y ok.2.2.2.2.2.2.2.2 h) ⟨rfl, rfl, Nat.le_of_ble_eq_true rfl, Nat.le_of_ble_eq_true rfl⟩ rfl rfl (Nat.le_of_ble_eq_true rfl) dX10_occurred_56 (fun σ1 r1 h => ?_)
  obtain ⟨g1, hT1a, hT1b⟩ := h
  refine q_if_ne (tgt := 66) ok dX10_occurred_59 (by decide) g1 (fun c1 => ?_) (fun c1 => ?_)
  · have h := hT1a c1
    refine q_iconst ok dX10_occurred_66 ?_
    exact w_X10_occurred_J67 ok σ1 v1 v2 0 h
  · have h := hT1b c1
    refine q_iconst ok dX10_occurred_62 ?_
    refine q_goto (tgt := 67) ok dX10_occurred_63 (by decide) ?_
    exact w_X10_occurred_J67 ok σ1 v1 v2 3 h
set_option maxRecDepth 100000 in
set_option maxHeartbeats 4000000 in
theorem c_X10_occurred (l : Launch) (Y : Cy) (hD : ∀ σ, va_D Y.2.2.2 (wsOf KM Y.2.1 Y.2.2.1 σ)) {a0 : Int} {a1 : Int} {σ : St} {Q : St → Int → Prop} (h : f_X10_occurred a0 a1 σ Q) : ConI l yX10_occurred cX10_occurred 3 .boolean (rm0q 1 22) Y KM σ [.inr (.inr 0), .inl a0, .inl a1] Q := con_of (lv := [(0, .inr (.inr 0)), (1, .inl a0), (2, .inl a1)]) (by decide) hD (Nat.le_of_ble_eq_true rfl) rfl (fun X _ ok => by
  have ok : Ok X Y KM cX10_occurred 3 RX10 (rm0q 1 22) (some .boolean) := ok
  unfold f_X10_occurred at h
  refine q_aload_n ok dX10_occurred_0 0 rfl ?_
  refine q_iload_n ok dX10_occurred_1 1 rfl ?_
  refine q_iconst ok dX10_occurred_2 ?_
  refine q_iconst ok dX10_occurred_3 ?_
  refine q_callSI (st := [.inr (.inr 0)]) ok cs_X10_168 (c_X10_in X.2.1 Y ok.2.2.2.2.2.2.2.2 h) ⟨rfl, rfl, Nat.le_of_ble_eq_true rfl, Nat.le_of_ble_eq_true rfl⟩ rfl rfl (Nat.le_of_ble_eq_true rfl) dX10_occurred_4 (fun σ1 r1 h => ?_)
  obtain ⟨g1, hT4a, hT4b⟩ := h
  refine q_if_ne (tgt := 14) ok dX10_occurred_7 (by decide) g1 (fun c4 => ?_) (fun c4 => ?_)
  · have h := hT4a c4
    refine q_aload_n ok dX10_occurred_14 0 rfl ?_
    refine q_getI ok fl_X10_270 kM_0 fM_0_53 dX10_occurred_15 ?_
    obtain ⟨g2, hT3a, hT3b⟩ := h
    refine q_if_ne (tgt := 25) ok dX10_occurred_18 (by decide) g2 (fun c3 => ?_) (fun c3 => ?_)
    · have h := hT3a c3
      refine q_iload_n ok dX10_occurred_25 2 rfl ?_
      refine q_iconst ok dX10_occurred_26 ?_
      refine q_iload_n ok dX10_occurred_27 1 rfl ?_
      obtain ⟨g3, hT2a, hT2b⟩ := h
      refine q_if_ne (tgt := 36) ok dX10_occurred_28 (by decide) g3 (fun c2 => ?_) (fun c2 => ?_)
      · have h := hT2a c2
        refine q_iload_n ok dX10_occurred_36 1 rfl ?_
        refine q_iconst ok dX10_occurred_37 ?_
        obtain ⟨g4, hT1a, hT1b⟩ := h
        refine q_icmp_ne (tgt := 50) ok dX10_occurred_38 (by decide) g4 (by unfold inR; decide) (fun c1 => ?_) (fun c1 => ?_)
        · have h := hT1a c1
          refine q_aload_n ok dX10_occurred_50 0 rfl ?_
          refine q_getI ok fl_X10_222 kM_0 fM_0_32 dX10_occurred_51 ?_
          refine q_iconst ok dX10_occurred_54 ?_
          refine q_isub ok dX10_occurred_55 ?_
          exact w_X10_occurred_J56 ok σ1 a0 a1 a1 0 ((σ1 0 32) - 1) h
        · have h := hT1b c1
          refine q_aload_n ok dX10_occurred_41 0 rfl ?_
          refine q_getI ok fl_X10_195 kM_0 fM_0_30 dX10_occurred_42 ?_
          refine q_iconst ok dX10_occurred_45 ?_
          refine q_isub ok dX10_occurred_46 ?_
          refine q_goto (tgt := 56) ok dX10_occurred_47 (by decide) ?_
          exact w_X10_occurred_J56 ok σ1 a0 a1 a1 0 ((σ1 0 30) - 1) h
      · have h := hT2b c2
        refine q_bipush ok dX10_occurred_31 rfl ?_
        refine q_goto (tgt := 56) ok dX10_occurred_33 (by decide) ?_
        exact w_X10_occurred_J56 ok σ1 a0 a1 a1 0 99 h
    · have h := hT3b c3
      refine q_iconst ok dX10_occurred_21 ?_
      refine q_goto (tgt := 67) ok dX10_occurred_22 (by decide) ?_
      exact w_X10_occurred_J67 ok σ1 a0 a1 2 h
  · have h := hT4b c4
    refine q_iconst ok dX10_occurred_10 ?_
    refine q_goto (tgt := 67) ok dX10_occurred_11 (by decide) ?_
    exact w_X10_occurred_J67 ok σ1 a0 a1 1 h)
/-! BranchingStoryModel.copies([II[II)V -/
def f_X10_copies_L3 (Q : St → Prop) : Nat → St → Nat → Int → Nat → Int → Int → Prop
  | 0, _, _, _, _, _, _ => False
  | n + 1, σ, v0, v1, v2, v3, v4 => inR v4 ∧ ((9 ≤ v4 → Q σ) ∧ (¬ 9 ≤ v4 → isIA KM v0 ∧ 0 ≤ (v1 + v4) ∧ (v1 + v4) < ((alen KM v0 : Nat) : Int) ∧ isIA KM v2 ∧ 0 ≤ (v3 + v4) ∧ (v3 + v4) < ((alen KM v2 : Nat) : Int) ∧ ∀ σ1 : St, σ1 = sset σ v2 (v3 + v4).toNat (σ v0 (v1 + v4).toNat) → f_X10_copies_L3 Q n σ1 v0 v1 v2 v3 (v4 + 1)))
def f_X10_copies (a0 : Nat) (a1 : Int) (a2 : Nat) (a3 : Int) (σ : St) (Q : St → Prop) : Prop :=
  f_X10_copies_L3 Q FU σ a0 a1 a2 a3 0
set_option maxRecDepth 100000 in
set_option maxHeartbeats 4000000 in
theorem w_X10_copies_L3 {X : Cx} {Y : Cy} {Q : St → Prop} (ok : Ok X Y KM cX10_copies 5 RX10 (rm0q 0 0) none) : ∀ (n : Nat) (σ : St) (v0 : Nat) (v1 : Int) (v2 : Nat) (v3 : Int) (v4 : Int) , f_X10_copies_L3 Q n σ v0 v1 v2 v3 v4 → Wq X Y KM 5 (QF X Y (Qvq Y KM Q)) σ 3 [(0, .inr (.inr v0)), (1, .inl v1), (2, .inr (.inr v2)), (3, .inl v3), (4, .inl v4)] [] := by
  intro n
  induction n with
  | zero => intro σ v0 v1 v2 v3 v4 h; exact h.elim
  | succ n ih =>
    intro σ v0 v1 v2 v3 v4 h
    rw [f_X10_copies_L3] at h
    refine q_iload ok dX10_copies_3 4 rfl ?_
    refine q_bipush ok dX10_copies_5 rfl ?_
    obtain ⟨g1, hT1a, hT1b⟩ := h
    refine q_icmp_ge (tgt := 28) ok dX10_copies_7 (by decide) g1 (by unfold inR; decide) (fun c1 => ?_) (fun c1 => ?_)
    · have h := hT1a c1
      exact q_vret ok dX10_copies_28 h
    · have h := hT1b c1
      refine q_aload_n ok dX10_copies_10 2 rfl ?_
      refine q_iload_n ok dX10_copies_11 3 rfl ?_
      refine q_iload ok dX10_copies_12 4 rfl ?_
      refine q_iadd ok dX10_copies_14 ?_
      refine q_aload_n ok dX10_copies_15 0 rfl ?_
      refine q_iload_n ok dX10_copies_16 1 rfl ?_
      refine q_iload ok dX10_copies_17 4 rfl ?_
      refine q_iadd ok dX10_copies_19 ?_
      obtain ⟨g2, h⟩ := h
      obtain ⟨g3, g4, h⟩ := h
      refine q_iald ok kM_ok g2 g3 g4 dX10_copies_20 ?_
      obtain ⟨g5, h⟩ := h
      obtain ⟨g6, g7, h⟩ := h
      refine q_iast ok kM_ok g5 g6 g7 dX10_copies_21 (wq_s (fun σ1 eσ1 => ?_))
      have h := h σ1 eσ1
      refine q_iinc (lv' := [(4, .inl (v4 + 1)), (0, .inr (.inr v0)), (1, .inl v1), (2, .inr (.inr v2)), (3, .inl v3)]) ok dX10_copies_22 4 rfl (by decide) rfl ?_
      refine q_goto (tgt := 3) ok dX10_copies_25 (by decide) ?_
      refine q_sub [1, 2, 3, 4, 0] rfl ?_
      exact ih σ1 v0 v1 v2 v3 (v4 + 1) h
set_option maxRecDepth 100000 in
set_option maxHeartbeats 4000000 in
theorem c_X10_copies (l : Launch) (Y : Cy) (hD : ∀ σ, va_D Y.2.2.2 (wsOf KM Y.2.1 Y.2.2.1 σ)) {a0 : Nat} {a1 : Int} {a2 : Nat} {a3 : Int} {σ : St} {Q : St → Prop} (h : f_X10_copies a0 a1 a2 a3 σ Q) : ConV l yX10_copies cX10_copies 5 (rm0q 0 0) Y KM σ [.inr (.inr a0), .inl a1, .inr (.inr a2), .inl a3] Q := con_of (lv := [(0, .inr (.inr a0)), (1, .inl a1), (2, .inr (.inr a2)), (3, .inl a3)]) (by decide) hD (Nat.le_of_ble_eq_true rfl) rfl (fun X _ ok => by
  have ok : Ok X Y KM cX10_copies 5 RX10 (rm0q 0 0) none := ok
  unfold f_X10_copies at h
  refine q_iconst ok dX10_copies_0 ?_
  refine q_istore (lv' := [(4, .inl 0), (0, .inr (.inr a0)), (1, .inl a1), (2, .inr (.inr a2)), (3, .inl a3)]) ok dX10_copies_1 (by decide) rfl ?_
  refine q_sub [1, 2, 3, 4, 0] rfl ?_
  exact w_X10_copies_L3 ok FU σ a0 a1 a2 a3 0 h)
/-! BranchingStoryModel.joins([II[II)V -/
def f_X10_joins_J79 (k28 : St → Nat → Int → Nat → Int → Int → Prop) (Q : St → Prop) (σ : St) (v0 : Nat) (v1 : Int) (v2 : Nat) (v3 : Int) (v4 : Int) (s0 : Nat) (s1 : Int) (s2 : Int) : Prop :=
  isIA KM s0 ∧ 0 ≤ s1 ∧ s1 < ((alen KM s0 : Nat) : Int) ∧ ∀ σ1 : St, σ1 = sset σ s0 s1.toNat s2 → isIA KM v2 ∧ 0 ≤ ((v3 + 4) + v4) ∧ ((v3 + 4) + v4) < ((alen KM v2 : Nat) : Int) ∧ isIA KM v0 ∧ 0 ≤ ((v1 + 4) + v4) ∧ ((v1 + 4) + v4) < ((alen KM v0 : Nat) : Int) ∧ inR (σ1 v2 ((v3 + 4) + v4).toNat) ∧ inR (σ1 v0 ((v1 + 4) + v4).toNat) ∧ (((σ1 v2 ((v3 + 4) + v4).toNat) ≤ (σ1 v0 ((v1 + 4) + v4).toNat) → 0 ≤ ((v1 + 4) + v4) ∧ ((v1 + 4) + v4) < ((alen KM v0 : Nat) : Int) ∧ 0 ≤ ((v1 + 4) + v4) ∧ ((v1 + 4) + v4) < ((alen KM v0 : Nat) : Int) ∧ ∀ σ2 : St, σ2 = sset σ1 v0 ((v1 + 4) + v4).toNat (σ1 v0 ((v1 + 4) + v4).toNat) → k28 σ2 v0 v1 v2 v3 (v4 + 1)) ∧ (¬ (σ1 v2 ((v3 + 4) + v4).toNat) ≤ (σ1 v0 ((v1 + 4) + v4).toNat) → 0 ≤ ((v3 + 4) + v4) ∧ ((v3 + 4) + v4) < ((alen KM v2 : Nat) : Int) ∧ 0 ≤ ((v1 + 4) + v4) ∧ ((v1 + 4) + v4) < ((alen KM v0 : Nat) : Int) ∧ ∀ σ3 : St, σ3 = sset σ1 v0 ((v1 + 4) + v4).toNat (σ1 v2 ((v3 + 4) + v4).toNat) → k28 σ3 v0 v1 v2 v3 (v4 + 1)))
def f_X10_joins_L28 (Q : St → Prop) : Nat → St → Nat → Int → Nat → Int → Int → Prop
  | 0, _, _, _, _, _, _ => False
  | n + 1, σ, v0, v1, v2, v3, v4 => inR v4 ∧ ((3 ≤ v4 → isIA KM v0 ∧ 0 ≤ (v1 + 7) ∧ (v1 + 7) < ((alen KM v0 : Nat) : Int) ∧ isIA KM v2 ∧ 0 ≤ (v3 + 7) ∧ (v3 + 7) < ((alen KM v2 : Nat) : Int) ∧ 0 ≤ (v1 + 7) ∧ (v1 + 7) < ((alen KM v0 : Nat) : Int) ∧ ∀ σ1 : St, σ1 = sset σ v0 (v1 + 7).toNat (ior32 (σ v0 (v1 + 7).toNat) (σ v2 (v3 + 7).toNat)) → 0 ≤ (v1 + 8) ∧ (v1 + 8) < ((alen KM v0 : Nat) : Int) ∧ 0 ≤ (v3 + 8) ∧ (v3 + 8) < ((alen KM v2 : Nat) : Int) ∧ 0 ≤ (v1 + 8) ∧ (v1 + 8) < ((alen KM v0 : Nat) : Int) ∧ ∀ σ2 : St, σ2 = sset σ1 v0 (v1 + 8).toNat (ior32 (σ1 v0 (v1 + 8).toNat) (σ1 v2 (v3 + 8).toNat)) → Q σ2) ∧ (¬ 3 ≤ v4 → isIA KM v2 ∧ 0 ≤ ((v3 + 1) + v4) ∧ ((v3 + 1) + v4) < ((alen KM v2 : Nat) : Int) ∧ isIA KM v0 ∧ 0 ≤ ((v1 + 1) + v4) ∧ ((v1 + 1) + v4) < ((alen KM v0 : Nat) : Int) ∧ inR (σ v2 ((v3 + 1) + v4).toNat) ∧ inR (σ v0 ((v1 + 1) + v4).toNat) ∧ (((σ v0 ((v1 + 1) + v4).toNat) ≤ (σ v2 ((v3 + 1) + v4).toNat) → 0 ≤ ((v1 + 1) + v4) ∧ ((v1 + 1) + v4) < ((alen KM v0 : Nat) : Int) ∧ f_X10_joins_J79 (fun σ' v0' v1' v2' v3' v4' => f_X10_joins_L28 Q n σ' v0' v1' v2' v3' v4') Q σ v0 v1 v2 v3 v4 v0 ((v1 + 1) + v4) (σ v0 ((v1 + 1) + v4).toNat)) ∧ (¬ (σ v0 ((v1 + 1) + v4).toNat) ≤ (σ v2 ((v3 + 1) + v4).toNat) → 0 ≤ ((v3 + 1) + v4) ∧ ((v3 + 1) + v4) < ((alen KM v2 : Nat) : Int) ∧ f_X10_joins_J79 (fun σ' v0' v1' v2' v3' v4' => f_X10_joins_L28 Q n σ' v0' v1' v2' v3' v4') Q σ v0 v1 v2 v3 v4 v0 ((v1 + 1) + v4) (σ v2 ((v3 + 1) + v4).toNat)))))
def f_X10_joins (a0 : Nat) (a1 : Int) (a2 : Nat) (a3 : Int) (σ : St) (Q : St → Prop) : Prop :=
  isIA KM a2 ∧ 0 ≤ (a3 + 0) ∧ (a3 + 0) < ((alen KM a2 : Nat) : Int) ∧ inR (σ a2 (a3 + 0).toNat) ∧ ((¬ (σ a2 (a3 + 0).toNat) = 0 → isIA KM a0 ∧ 0 ≤ (a1 + 0) ∧ (a1 + 0) < ((alen KM a0 : Nat) : Int) ∧ inR (σ a0 (a1 + 0).toNat) ∧ ((¬ (σ a0 (a1 + 0).toNat) = 0 → f_X10_joins_L28 Q FU σ a0 a1 a2 a3 0) ∧ ((σ a0 (a1 + 0).toNat) = 0 → f_X10_copies a2 a3 a0 a1 σ (fun σ1 => Q σ1)))) ∧ ((σ a2 (a3 + 0).toNat) = 0 → Q σ))
set_option maxRecDepth 100000 in
set_option maxHeartbeats 4000000 in
theorem w_X10_joins_J79 {X : Cx} {Y : Cy} {k28 : St → Nat → Int → Nat → Int → Int → Prop} {Q : St → Prop} (ok : Ok X Y KM cX10_joins 5 RX10 (rm0q 1 24) none) (hk28 : ∀ (σ : St) (v0 : Nat) (v1 : Int) (v2 : Nat) (v3 : Int) (v4 : Int) , k28 σ v0 v1 v2 v3 v4 → Wq X Y KM 5 (QF X Y (Qvq Y KM Q)) σ 28 [(0, .inr (.inr v0)), (1, .inl v1), (2, .inr (.inr v2)), (3, .inl v3), (4, .inl v4)] []) (σ : St) (v0 : Nat) (v1 : Int) (v2 : Nat) (v3 : Int) (v4 : Int) (s0 : Nat) (s1 : Int) (s2 : Int) (h : f_X10_joins_J79 k28 Q σ v0 v1 v2 v3 v4 s0 s1 s2) : Wq X Y KM 5 (QF X Y (Qvq Y KM Q)) σ 79 [(0, .inr (.inr v0)), (1, .inl v1), (2, .inr (.inr v2)), (3, .inl v3), (4, .inl v4)] [.inl s2, .inl s1, .inr (.inr s0)] := by
  unfold f_X10_joins_J79 at h
  obtain ⟨g1, h⟩ := h
  obtain ⟨g2, g3, h⟩ := h
  refine q_iast ok kM_ok g1 g2 g3 dX10_joins_79 (wq_s (fun σ1 eσ1 => ?_))
  have h := h σ1 eσ1
  refine q_aload_n ok dX10_joins_80 0 rfl ?_
  refine q_iload_n ok dX10_joins_81 1 rfl ?_
  refine q_iconst ok dX10_joins_82 ?_
  refine q_iadd ok dX10_joins_83 ?_
  refine q_iload ok dX10_joins_84 4 rfl ?_
  refine q_iadd ok dX10_joins_86 ?_
  refine q_aload_n ok dX10_joins_87 2 rfl ?_
  refine q_iload_n ok dX10_joins_88 3 rfl ?_
  refine q_iconst ok dX10_joins_89 ?_
  refine q_iadd ok dX10_joins_90 ?_
  refine q_iload ok dX10_joins_91 4 rfl ?_
  refine q_iadd ok dX10_joins_93 ?_
  obtain ⟨g4, h⟩ := h
  obtain ⟨g5, g6, h⟩ := h
  refine q_iald ok kM_ok g4 g5 g6 dX10_joins_94 ?_
  refine q_aload_n ok dX10_joins_95 0 rfl ?_
  refine q_iload_n ok dX10_joins_96 1 rfl ?_
  refine q_iconst ok dX10_joins_97 ?_
  refine q_iadd ok dX10_joins_98 ?_
  refine q_iload ok dX10_joins_99 4 rfl ?_
  refine q_iadd ok dX10_joins_101 ?_
  obtain ⟨g7, h⟩ := h
  obtain ⟨g8, g9, h⟩ := h
  refine q_iald ok kM_ok g7 g8 g9 dX10_joins_102 ?_
  obtain ⟨g10, g11, hT1a, hT1b⟩ := h
  refine q_icmp_le (tgt := 117) ok dX10_joins_103 (by decide) g10 g11 (fun c1 => ?_) (fun c1 => ?_)
  · have h := hT1a c1
    refine q_aload_n ok dX10_joins_117 0 rfl ?_
    refine q_iload_n ok dX10_joins_118 1 rfl ?_
    refine q_iconst ok dX10_joins_119 ?_
    refine q_iadd ok dX10_joins_120 ?_
    refine q_iload ok dX10_joins_121 4 rfl ?_
    refine q_iadd ok dX10_joins_123 ?_
    obtain ⟨g12, g13, h⟩ := h
    refine q_iald ok kM_ok g7 g12 g13 dX10_joins_124 ?_
    obtain ⟨g14, g15, h⟩ := h
    refine q_iast ok kM_ok g7 g14 g15 dX10_joins_125 (wq_s (fun σ2 eσ2 => ?_))
    have h := h σ2 eσ2
    refine q_iinc (lv' := [(4, .inl (v4 + 1)), (0, .inr (.inr v0)), (1, .inl v1), (2, .inr (.inr v2)), (3, .inl v3)]) ok dX10_joins_126 4 rfl (by decide) rfl ?_
    refine q_goto (tgt := 28) ok dX10_joins_129 (by decide) ?_
    refine q_sub [1, 2, 3, 4, 0] rfl ?_
    exact hk28 σ2 v0 v1 v2 v3 (v4 + 1) h
  · have h := hT1b c1
    refine q_aload_n ok dX10_joins_106 2 rfl ?_
    refine q_iload_n ok dX10_joins_107 3 rfl ?_
    refine q_iconst ok dX10_joins_108 ?_
    refine q_iadd ok dX10_joins_109 ?_
    refine q_iload ok dX10_joins_110 4 rfl ?_
    refine q_iadd ok dX10_joins_112 ?_
    obtain ⟨g16, g17, h⟩ := h
    refine q_iald ok kM_ok g4 g16 g17 dX10_joins_113 ?_
    refine q_goto (tgt := 125) ok dX10_joins_114 (by decide) ?_
    obtain ⟨g18, g19, h⟩ := h
    refine q_iast ok kM_ok g7 g18 g19 dX10_joins_125 (wq_s (fun σ3 eσ3 => ?_))
    have h := h σ3 eσ3
    refine q_iinc (lv' := [(4, .inl (v4 + 1)), (0, .inr (.inr v0)), (1, .inl v1), (2, .inr (.inr v2)), (3, .inl v3)]) ok dX10_joins_126 4 rfl (by decide) rfl ?_
    refine q_goto (tgt := 28) ok dX10_joins_129 (by decide) ?_
    refine q_sub [1, 2, 3, 4, 0] rfl ?_
    exact hk28 σ3 v0 v1 v2 v3 (v4 + 1) h
set_option maxRecDepth 100000 in
set_option maxHeartbeats 4000000 in
theorem w_X10_joins_L28 {X : Cx} {Y : Cy} {Q : St → Prop} (ok : Ok X Y KM cX10_joins 5 RX10 (rm0q 1 24) none) : ∀ (n : Nat) (σ : St) (v0 : Nat) (v1 : Int) (v2 : Nat) (v3 : Int) (v4 : Int) , f_X10_joins_L28 Q n σ v0 v1 v2 v3 v4 → Wq X Y KM 5 (QF X Y (Qvq Y KM Q)) σ 28 [(0, .inr (.inr v0)), (1, .inl v1), (2, .inr (.inr v2)), (3, .inl v3), (4, .inl v4)] [] := by
  intro n
  induction n with
  | zero => intro σ v0 v1 v2 v3 v4 h; exact h.elim
  | succ n ih =>
    intro σ v0 v1 v2 v3 v4 h
    rw [f_X10_joins_L28] at h
    refine q_iload ok dX10_joins_28 4 rfl ?_
    refine q_iconst ok dX10_joins_30 ?_
    obtain ⟨g1, hT2a, hT2b⟩ := h
    refine q_icmp_ge (tgt := 132) ok dX10_joins_31 (by decide) g1 (by unfold inR; decide) (fun c2 => ?_) (fun c2 => ?_)
    · have h := hT2a c2
      refine q_aload_n ok dX10_joins_132 0 rfl ?_
      refine q_iload_n ok dX10_joins_133 1 rfl ?_
      refine q_bipush ok dX10_joins_134 rfl ?_
      refine q_iadd ok dX10_joins_136 ?_
      refine q_dup2 ok dX10_joins_137 rfl rfl ?_
      obtain ⟨g2, h⟩ := h
      obtain ⟨g3, g4, h⟩ := h
      refine q_iald ok kM_ok g2 g3 g4 dX10_joins_138 ?_
      refine q_aload_n ok dX10_joins_139 2 rfl ?_
      refine q_iload_n ok dX10_joins_140 3 rfl ?_
      refine q_bipush ok dX10_joins_141 rfl ?_
      refine q_iadd ok dX10_joins_143 ?_
      obtain ⟨g5, h⟩ := h
      obtain ⟨g6, g7, h⟩ := h
      refine q_iald ok kM_ok g5 g6 g7 dX10_joins_144 ?_
      refine q_ior ok dX10_joins_145 ?_
      obtain ⟨g8, g9, h⟩ := h
      refine q_iast ok kM_ok g2 g8 g9 dX10_joins_146 (wq_s (fun σ1 eσ1 => ?_))
      have h := h σ1 eσ1
      refine q_aload_n ok dX10_joins_147 0 rfl ?_
      refine q_iload_n ok dX10_joins_148 1 rfl ?_
      refine q_bipush ok dX10_joins_149 rfl ?_
      refine q_iadd ok dX10_joins_151 ?_
      refine q_dup2 ok dX10_joins_152 rfl rfl ?_
      obtain ⟨g10, g11, h⟩ := h
      refine q_iald ok kM_ok g2 g10 g11 dX10_joins_153 ?_
      refine q_aload_n ok dX10_joins_154 2 rfl ?_
      refine q_iload_n ok dX10_joins_155 3 rfl ?_
      refine q_bipush ok dX10_joins_156 rfl ?_
      refine q_iadd ok dX10_joins_158 ?_
      obtain ⟨g12, g13, h⟩ := h
      refine q_iald ok kM_ok g5 g12 g13 dX10_joins_159 ?_
      refine q_ior ok dX10_joins_160 ?_
      obtain ⟨g14, g15, h⟩ := h
      refine q_iast ok kM_ok g2 g14 g15 dX10_joins_161 (wq_s (fun σ2 eσ2 => ?_))
      have h := h σ2 eσ2
      exact q_vret ok dX10_joins_162 h
    · have h := hT2b c2
      refine q_aload_n ok dX10_joins_34 0 rfl ?_
      refine q_iload_n ok dX10_joins_35 1 rfl ?_
      refine q_iconst ok dX10_joins_36 ?_
      refine q_iadd ok dX10_joins_37 ?_
      refine q_iload ok dX10_joins_38 4 rfl ?_
      refine q_iadd ok dX10_joins_40 ?_
      refine q_aload_n ok dX10_joins_41 2 rfl ?_
      refine q_iload_n ok dX10_joins_42 3 rfl ?_
      refine q_iconst ok dX10_joins_43 ?_
      refine q_iadd ok dX10_joins_44 ?_
      refine q_iload ok dX10_joins_45 4 rfl ?_
      refine q_iadd ok dX10_joins_47 ?_
      obtain ⟨g16, h⟩ := h
      obtain ⟨g17, g18, h⟩ := h
      refine q_iald ok kM_ok g16 g17 g18 dX10_joins_48 ?_
      refine q_aload_n ok dX10_joins_49 0 rfl ?_
      refine q_iload_n ok dX10_joins_50 1 rfl ?_
      refine q_iconst ok dX10_joins_51 ?_
      refine q_iadd ok dX10_joins_52 ?_
      refine q_iload ok dX10_joins_53 4 rfl ?_
      refine q_iadd ok dX10_joins_55 ?_
      obtain ⟨g19, h⟩ := h
      obtain ⟨g20, g21, h⟩ := h
      refine q_iald ok kM_ok g19 g20 g21 dX10_joins_56 ?_
      obtain ⟨g22, g23, hT1a, hT1b⟩ := h
      refine q_icmp_ge (tgt := 71) ok dX10_joins_57 (by decide) g22 g23 (fun c1 => ?_) (fun c1 => ?_)
      · have h := hT1a c1
        refine q_aload_n ok dX10_joins_71 0 rfl ?_
        refine q_iload_n ok dX10_joins_72 1 rfl ?_
        refine q_iconst ok dX10_joins_73 ?_
        refine q_iadd ok dX10_joins_74 ?_
        refine q_iload ok dX10_joins_75 4 rfl ?_
        refine q_iadd ok dX10_joins_77 ?_
        obtain ⟨g24, g25, h⟩ := h
        refine q_iald ok kM_ok g19 g24 g25 dX10_joins_78 ?_
        exact w_X10_joins_J79 ok ih σ v0 v1 v2 v3 v4 v0 ((v1 + 1) + v4) (σ v0 ((v1 + 1) + v4).toNat) h
      · have h := hT1b c1
        refine q_aload_n ok dX10_joins_60 2 rfl ?_
        refine q_iload_n ok dX10_joins_61 3 rfl ?_
        refine q_iconst ok dX10_joins_62 ?_
        refine q_iadd ok dX10_joins_63 ?_
        refine q_iload ok dX10_joins_64 4 rfl ?_
        refine q_iadd ok dX10_joins_66 ?_
        obtain ⟨g26, g27, h⟩ := h
        refine q_iald ok kM_ok g16 g26 g27 dX10_joins_67 ?_
        refine q_goto (tgt := 79) ok dX10_joins_68 (by decide) ?_
        exact w_X10_joins_J79 ok ih σ v0 v1 v2 v3 v4 v0 ((v1 + 1) + v4) (σ v2 ((v3 + 1) + v4).toNat) h
set_option maxRecDepth 100000 in
set_option maxHeartbeats 4000000 in
theorem c_X10_joins (l : Launch) (Y : Cy) (hD : ∀ σ, va_D Y.2.2.2 (wsOf KM Y.2.1 Y.2.2.1 σ)) {a0 : Nat} {a1 : Int} {a2 : Nat} {a3 : Int} {σ : St} {Q : St → Prop} (h : f_X10_joins a0 a1 a2 a3 σ Q) : ConV l yX10_joins cX10_joins 5 (rm0q 1 24) Y KM σ [.inr (.inr a0), .inl a1, .inr (.inr a2), .inl a3] Q := con_of (lv := [(0, .inr (.inr a0)), (1, .inl a1), (2, .inr (.inr a2)), (3, .inl a3)]) (by decide) hD (Nat.le_of_ble_eq_true rfl) rfl (fun X _ ok => by
  have ok : Ok X Y KM cX10_joins 5 RX10 (rm0q 1 24) none := ok
  unfold f_X10_joins at h
  refine q_aload_n ok dX10_joins_0 2 rfl ?_
  refine q_iload_n ok dX10_joins_1 3 rfl ?_
  refine q_iconst ok dX10_joins_2 ?_
  refine q_iadd ok dX10_joins_3 ?_
  obtain ⟨g1, h⟩ := h
  obtain ⟨g2, g3, h⟩ := h
  refine q_iald ok kM_ok g1 g2 g3 dX10_joins_4 ?_
  obtain ⟨g4, hT2a, hT2b⟩ := h
  refine q_if_ne (tgt := 9) ok dX10_joins_5 (by decide) g4 (fun c2 => ?_) (fun c2 => ?_)
  · have h := hT2a c2
    refine q_aload_n ok dX10_joins_9 0 rfl ?_
    refine q_iload_n ok dX10_joins_10 1 rfl ?_
    refine q_iconst ok dX10_joins_11 ?_
    refine q_iadd ok dX10_joins_12 ?_
    obtain ⟨g5, h⟩ := h
    obtain ⟨g6, g7, h⟩ := h
    refine q_iald ok kM_ok g5 g6 g7 dX10_joins_13 ?_
    obtain ⟨g8, hT1a, hT1b⟩ := h
    refine q_if_ne (tgt := 25) ok dX10_joins_14 (by decide) g8 (fun c1 => ?_) (fun c1 => ?_)
    · have h := hT1a c1
      refine q_iconst ok dX10_joins_25 ?_
      refine q_istore (lv' := [(4, .inl 0), (0, .inr (.inr a0)), (1, .inl a1), (2, .inr (.inr a2)), (3, .inl a3)]) ok dX10_joins_26 (by decide) rfl ?_
      refine q_sub [1, 2, 3, 4, 0] rfl ?_
      exact w_X10_joins_L28 ok FU σ a0 a1 a2 a3 0 h
    · have h := hT1b c1
      refine q_aload_n ok dX10_joins_17 2 rfl ?_
      refine q_iload_n ok dX10_joins_18 3 rfl ?_
      refine q_aload_n ok dX10_joins_19 0 rfl ?_
      refine q_iload_n ok dX10_joins_20 1 rfl ?_
      refine q_callSV (st := []) ok cs_X10_371 (c_X10_copies X.2.1 Y ok.2.2.2.2.2.2.2.2 h) ⟨rfl, rfl, Nat.le_of_ble_eq_true rfl, Nat.le_of_ble_eq_true rfl⟩ rfl rfl (Nat.le_of_ble_eq_true rfl) dX10_joins_21 (fun σ1 h => ?_)
      exact q_vret ok dX10_joins_24 h
  · have h := hT2b c2
    exact q_vret ok dX10_joins_8 h)
/-! BranchingStoryModel.comesTo(I)V -/
def f_X10_comesTo_J76 (k38 : St → Int → Int → Int → Prop) (Q : St → Prop) (σ : St) (v1 : Int) (v3 : Int) : Prop :=
  k38 σ v1 0 (v3 + 1)
def f_X10_comesTo_J96 (Q : St → Prop) (σ : St) : Prop :=
  ∀ σ1 : St, σ1 = sset σ 0 69 1 → Q σ1
def f_X10_comesTo_L38 (Q : St → Prop) : Nat → St → Int → Int → Int → Prop
  | 0, _, _, _, _ => False
  | n + 1, σ, v1, v2, v3 => inR v3 ∧ ((9 ≤ v3 → inR (σ 0 69) ∧ ((¬ (σ 0 69) = 0 → f_X10_comesTo_J96 Q σ) ∧ ((σ 0 69) = 0 → inR v2 ∧ ((¬ v2 = 0 → ∀ σ1 : St, σ1 = sset σ 0 69 0 → Q σ1) ∧ (v2 = 0 → f_X10_comesTo_J96 Q σ))))) ∧ (¬ 9 ≤ v3 → inR v2 ∧ ((v2 = 0 → f_X10_comesTo_J76 (fun σ' v1' v2' v3' => f_X10_comesTo_L38 Q n σ' v1' v2' v3') Q σ v1 v3) ∧ (¬ v2 = 0 → 0 ≤ ((9 * v1) + v3) ∧ ((9 * v1) + v3) < 252 ∧ 0 ≤ (141 + v3) ∧ (141 + v3) < 150 ∧ inR (σ 36 ((9 * v1) + v3).toNat) ∧ inR (σ 37 (141 + v3).toNat) ∧ ((¬ (σ 36 ((9 * v1) + v3).toNat) = (σ 37 (141 + v3).toNat) → f_X10_comesTo_J76 (fun σ' v1' v2' v3' => f_X10_comesTo_L38 Q n σ' v1' v2' v3') Q σ v1 v3) ∧ ((σ 36 ((9 * v1) + v3).toNat) = (σ 37 (141 + v3).toNat) → f_X10_comesTo_L38 Q n σ v1 1 (v3 + 1)))))))
def f_X10_comesTo (a0 : Int) (σ : St) (Q : St → Prop) : Prop :=
  f_X10_copies 36 (9 * a0) 37 141 σ (fun σ1 => f_X10_joins 36 (9 * a0) 37 0 σ1 (fun σ2 => f_X10_comesTo_L38 Q FU σ2 a0 1 0))
set_option maxRecDepth 100000 in
set_option maxHeartbeats 4000000 in
theorem w_X10_comesTo_J76 {X : Cx} {Y : Cy} {k38 : St → Int → Int → Int → Prop} {Q : St → Prop} (ok : Ok X Y KM cX10_comesTo 4 RX10 (rm0q 2 48) none) (hk38 : ∀ (σ : St) (v1 : Int) (v2 : Int) (v3 : Int) , k38 σ v1 v2 v3 → Wq X Y KM 4 (QF X Y (Qvq Y KM Q)) σ 38 [(0, .inr (.inr 0)), (1, .inl v1), (2, .inl v2), (3, .inl v3)] []) (σ : St) (v1 : Int) (v3 : Int) (h : f_X10_comesTo_J76 k38 Q σ v1 v3) : Wq X Y KM 4 (QF X Y (Qvq Y KM Q)) σ 76 [(0, .inr (.inr 0)), (1, .inl v1), (3, .inl v3)] [] := by
  unfold f_X10_comesTo_J76 at h
  refine q_iconst ok dX10_comesTo_76 ?_
  refine q_istore_n (lv' := [(2, .inl 0), (0, .inr (.inr 0)), (1, .inl v1), (3, .inl v3)]) ok dX10_comesTo_77 (by decide) rfl ?_
  refine q_iinc (lv' := [(3, .inl (v3 + 1)), (2, .inl 0), (0, .inr (.inr 0)), (1, .inl v1)]) ok dX10_comesTo_78 3 rfl (by decide) rfl ?_
  refine q_goto (tgt := 38) ok dX10_comesTo_81 (by decide) ?_
  refine q_sub [2, 3, 1, 0] rfl ?_
  exact hk38 σ v1 0 (v3 + 1) h
set_option maxRecDepth 100000 in
set_option maxHeartbeats 4000000 in
theorem w_X10_comesTo_J96 {X : Cx} {Y : Cy} {Q : St → Prop} (ok : Ok X Y KM cX10_comesTo 4 RX10 (rm0q 2 48) none) (σ : St) (h : f_X10_comesTo_J96 Q σ ) : Wq X Y KM 4 (QF X Y (Qvq Y KM Q)) σ 96 [] [.inr (.inr 0)] := by
  unfold f_X10_comesTo_J96 at h
  refine q_iconst ok dX10_comesTo_96 ?_
  refine q_goto (tgt := 101) ok dX10_comesTo_97 (by decide) ?_
  refine q_putZ ok fp_X10_378 kM_0 fM_0_69 dX10_comesTo_101 (by decide) (wq_s (fun σ1 eσ1 => ?_))
  have h := h σ1 eσ1
  exact q_vret ok dX10_comesTo_104 h
set_option maxRecDepth 100000 in
set_option maxHeartbeats 4000000 in
theorem w_X10_comesTo_L38 {X : Cx} {Y : Cy} {Q : St → Prop} (ok : Ok X Y KM cX10_comesTo 4 RX10 (rm0q 2 48) none) : ∀ (n : Nat) (σ : St) (v1 : Int) (v2 : Int) (v3 : Int) , f_X10_comesTo_L38 Q n σ v1 v2 v3 → Wq X Y KM 4 (QF X Y (Qvq Y KM Q)) σ 38 [(0, .inr (.inr 0)), (1, .inl v1), (2, .inl v2), (3, .inl v3)] [] := by
  intro n
  induction n with
  | zero => intro σ v1 v2 v3 h; exact h.elim
  | succ n ih =>
    intro σ v1 v2 v3 h
    rw [f_X10_comesTo_L38] at h
    refine q_iload_n ok dX10_comesTo_38 3 rfl ?_
    refine q_bipush ok dX10_comesTo_39 rfl ?_
    obtain ⟨g1, hT5a, hT5b⟩ := h
    refine q_icmp_ge (tgt := 84) ok dX10_comesTo_41 (by decide) g1 (by unfold inR; decide) (fun c5 => ?_) (fun c5 => ?_)
    · have h := hT5a c5
      refine q_aload_n ok dX10_comesTo_84 0 rfl ?_
      refine q_aload_n ok dX10_comesTo_85 0 rfl ?_
      refine q_getI ok fl_X10_378 kM_0 fM_0_69 dX10_comesTo_86 ?_
      obtain ⟨g2, hT2a, hT2b⟩ := h
      refine q_if_ne (tgt := 96) ok dX10_comesTo_89 (by decide) g2 (fun c2 => ?_) (fun c2 => ?_)
      · have h := hT2a c2
        refine q_sub [] rfl ?_
        exact w_X10_comesTo_J96 ok σ h
      · have h := hT2b c2
        refine q_iload_n ok dX10_comesTo_92 2 rfl ?_
        obtain ⟨g3, hT1a, hT1b⟩ := h
        refine q_if_ne (tgt := 100) ok dX10_comesTo_93 (by decide) g3 (fun c1 => ?_) (fun c1 => ?_)
        · have h := hT1a c1
          refine q_iconst ok dX10_comesTo_100 ?_
          refine q_putZ ok fp_X10_378 kM_0 fM_0_69 dX10_comesTo_101 (by decide) (wq_s (fun σ1 eσ1 => ?_))
          have h := h σ1 eσ1
          exact q_vret ok dX10_comesTo_104 h
        · have h := hT1b c1
          refine q_sub [] rfl ?_
          exact w_X10_comesTo_J96 ok σ h
    · have h := hT5b c5
      refine q_iload_n ok dX10_comesTo_44 2 rfl ?_
      obtain ⟨g4, hT4a, hT4b⟩ := h
      refine q_if_eq (tgt := 76) ok dX10_comesTo_45 (by decide) g4 (fun c4 => ?_) (fun c4 => ?_)
      · have h := hT4a c4
        refine q_sub [0, 1, 3] rfl ?_
        exact w_X10_comesTo_J76 ok ih σ v1 v3 h
      · have h := hT4b c4
        refine q_aload_n ok dX10_comesTo_48 0 rfl ?_
        refine q_getC ok fl_X10_116 kM_0 fM_0_58 dX10_comesTo_49 ?_
        refine q_bipush ok dX10_comesTo_52 rfl ?_
        refine q_iload_n ok dX10_comesTo_54 1 rfl ?_
        refine q_imul ok dX10_comesTo_55 ?_
        refine q_iload_n ok dX10_comesTo_56 3 rfl ?_
        refine q_iadd ok dX10_comesTo_57 ?_
        obtain ⟨g5, g6, h⟩ := h
        refine q_iald ok kM_ok kM_36 g5 g6 dX10_comesTo_58 ?_
        refine q_aload_n ok dX10_comesTo_59 0 rfl ?_
        refine q_getC ok fl_X10_119 kM_0 fM_0_59 dX10_comesTo_60 ?_
        refine q_sipush ok dX10_comesTo_63 rfl ?_
        refine q_iload_n ok dX10_comesTo_66 3 rfl ?_
        refine q_iadd ok dX10_comesTo_67 ?_
        obtain ⟨g7, g8, h⟩ := h
        refine q_iald ok kM_ok kM_37 g7 g8 dX10_comesTo_68 ?_
        obtain ⟨g9, g10, hT3a, hT3b⟩ := h
        refine q_icmp_ne (tgt := 76) ok dX10_comesTo_69 (by decide) g9 g10 (fun c3 => ?_) (fun c3 => ?_)
        · have h := hT3a c3
          refine q_sub [0, 1, 3] rfl ?_
          exact w_X10_comesTo_J76 ok ih σ v1 v3 h
        · have h := hT3b c3
          refine q_iconst ok dX10_comesTo_72 ?_
          refine q_goto (tgt := 77) ok dX10_comesTo_73 (by decide) ?_
          refine q_istore_n (lv' := [(2, .inl 1), (0, .inr (.inr 0)), (1, .inl v1), (3, .inl v3)]) ok dX10_comesTo_77 (by decide) rfl ?_
          refine q_iinc (lv' := [(3, .inl (v3 + 1)), (2, .inl 1), (0, .inr (.inr 0)), (1, .inl v1)]) ok dX10_comesTo_78 3 rfl (by decide) rfl ?_
          refine q_goto (tgt := 38) ok dX10_comesTo_81 (by decide) ?_
          refine q_sub [2, 3, 1, 0] rfl ?_
          exact ih σ v1 1 (v3 + 1) h
set_option maxRecDepth 100000 in
set_option maxHeartbeats 4000000 in
theorem c_X10_comesTo (l : Launch) (Y : Cy) (hD : ∀ σ, va_D Y.2.2.2 (wsOf KM Y.2.1 Y.2.2.1 σ)) {a0 : Int} {σ : St} {Q : St → Prop} (h : f_X10_comesTo a0 σ Q) : ConV l yX10_comesTo cX10_comesTo 4 (rm0q 2 48) Y KM σ [.inr (.inr 0), .inl a0] Q := con_of (lv := [(0, .inr (.inr 0)), (1, .inl a0)]) (by decide) hD (Nat.le_of_ble_eq_true rfl) rfl (fun X _ ok => by
  have ok : Ok X Y KM cX10_comesTo 4 RX10 (rm0q 2 48) none := ok
  unfold f_X10_comesTo at h
  refine q_iconst ok dX10_comesTo_0 ?_
  refine q_istore_n (lv' := [(2, .inl 1), (0, .inr (.inr 0)), (1, .inl a0)]) ok dX10_comesTo_1 (by decide) rfl ?_
  refine q_aload_n ok dX10_comesTo_2 1 rfl ?_
  refine q_getC ok fl_X10_116 kM_0 fM_0_58 dX10_comesTo_3 ?_
  refine q_bipush ok dX10_comesTo_6 rfl ?_
  refine q_iload_n ok dX10_comesTo_8 2 rfl ?_
  refine q_imul ok dX10_comesTo_9 ?_
  refine q_aload_n ok dX10_comesTo_10 1 rfl ?_
  refine q_getC ok fl_X10_119 kM_0 fM_0_59 dX10_comesTo_11 ?_
  refine q_sipush ok dX10_comesTo_14 rfl ?_
  refine q_callSV (st := []) ok cs_X10_371 (c_X10_copies X.2.1 Y ok.2.2.2.2.2.2.2.2 h) ⟨rfl, rfl, Nat.le_of_ble_eq_true rfl, Nat.le_of_ble_eq_true rfl⟩ rfl rfl (Nat.le_of_ble_eq_true rfl) dX10_comesTo_17 (fun σ1 h => ?_)
  refine q_aload_n ok dX10_comesTo_20 1 rfl ?_
  refine q_getC ok fl_X10_116 kM_0 fM_0_58 dX10_comesTo_21 ?_
  refine q_bipush ok dX10_comesTo_24 rfl ?_
  refine q_iload_n ok dX10_comesTo_26 2 rfl ?_
  refine q_imul ok dX10_comesTo_27 ?_
  refine q_aload_n ok dX10_comesTo_28 1 rfl ?_
  refine q_getC ok fl_X10_119 kM_0 fM_0_59 dX10_comesTo_29 ?_
  refine q_iconst ok dX10_comesTo_32 ?_
  refine q_callSV (st := []) ok cs_X10_375 (c_X10_joins X.2.1 Y ok.2.2.2.2.2.2.2.2 h) ⟨rfl, rfl, Nat.le_of_ble_eq_true rfl, Nat.le_of_ble_eq_true rfl⟩ rfl rfl (Nat.le_of_ble_eq_true rfl) dX10_comesTo_33 (fun σ2 h => ?_)
  refine q_iconst ok dX10_comesTo_36 ?_
  refine q_istore_n (lv' := [(3, .inl 0), (2, .inl 1), (0, .inr (.inr 0)), (1, .inl a0)]) ok dX10_comesTo_37 (by decide) rfl ?_
  refine q_sub [2, 3, 1, 0] rfl ?_
  exact w_X10_comesTo_L38 ok FU σ2 a0 1 0 h)
/-! BranchingStoryModel.checks(II)V -/
def f_X10_checks (a0 : Int) (a1 : Int) (σ : St) (Q : St → Prop) : Prop :=
  0 ≤ ((a0 + 1) + a1) ∧ ((a0 + 1) + a1) < 150 ∧ 0 ≤ ((a0 + 4) + a1) ∧ ((a0 + 4) + a1) < 150 ∧ inR (σ 37 ((a0 + 1) + a1).toNat) ∧ inR (σ 37 ((a0 + 4) + a1).toNat) ∧ (((σ 37 ((a0 + 1) + a1).toNat) ≤ (σ 37 ((a0 + 4) + a1).toNat) → 0 ≤ (a0 + 0) ∧ (a0 + 0) < 150 ∧ 0 ≤ (a0 + 0) ∧ (a0 + 0) < 150 ∧ ∀ σ1 : St, σ1 = sset σ 37 (a0 + 0).toNat (σ 37 (a0 + 0).toNat) → Q σ1) ∧ (¬ (σ 37 ((a0 + 1) + a1).toNat) ≤ (σ 37 ((a0 + 4) + a1).toNat) → 0 ≤ (a0 + 0) ∧ (a0 + 0) < 150 ∧ ∀ σ2 : St, σ2 = sset σ 37 (a0 + 0).toNat 0 → Q σ2))
set_option maxRecDepth 100000 in
set_option maxHeartbeats 4000000 in
theorem c_X10_checks (l : Launch) (Y : Cy) (hD : ∀ σ, va_D Y.2.2.2 (wsOf KM Y.2.1 Y.2.2.1 σ)) {a0 : Int} {a1 : Int} {σ : St} {Q : St → Prop} (h : f_X10_checks a0 a1 σ Q) : ConV l yX10_checks cX10_checks 3 (rm0q 0 0) Y KM σ [.inr (.inr 0), .inl a0, .inl a1] Q := con_of (lv := [(0, .inr (.inr 0)), (1, .inl a0), (2, .inl a1)]) (by decide) hD (Nat.le_of_ble_eq_true rfl) rfl (fun X _ ok => by
  have ok : Ok X Y KM cX10_checks 3 RX10 (rm0q 0 0) none := ok
  unfold f_X10_checks at h
  refine q_aload_n ok dX10_checks_0 0 rfl ?_
  refine q_getC ok fl_X10_119 kM_0 fM_0_59 dX10_checks_1 ?_
  refine q_iload_n ok dX10_checks_4 1 rfl ?_
  refine q_iconst ok dX10_checks_5 ?_
  refine q_iadd ok dX10_checks_6 ?_
  refine q_aload_n ok dX10_checks_7 0 rfl ?_
  refine q_getC ok fl_X10_119 kM_0 fM_0_59 dX10_checks_8 ?_
  refine q_iload_n ok dX10_checks_11 1 rfl ?_
  refine q_iconst ok dX10_checks_12 ?_
  refine q_iadd ok dX10_checks_13 ?_
  refine q_iload_n ok dX10_checks_14 2 rfl ?_
  refine q_iadd ok dX10_checks_15 ?_
  obtain ⟨g1, g2, h⟩ := h
  refine q_iald ok kM_ok kM_37 g1 g2 dX10_checks_16 ?_
  refine q_aload_n ok dX10_checks_17 0 rfl ?_
  refine q_getC ok fl_X10_119 kM_0 fM_0_59 dX10_checks_18 ?_
  refine q_iload_n ok dX10_checks_21 1 rfl ?_
  refine q_iconst ok dX10_checks_22 ?_
  refine q_iadd ok dX10_checks_23 ?_
  refine q_iload_n ok dX10_checks_24 2 rfl ?_
  refine q_iadd ok dX10_checks_25 ?_
  obtain ⟨g3, g4, h⟩ := h
  refine q_iald ok kM_ok kM_37 g3 g4 dX10_checks_26 ?_
  obtain ⟨g5, g6, hT1a, hT1b⟩ := h
  refine q_icmp_le (tgt := 34) ok dX10_checks_27 (by decide) g5 g6 (fun c1 => ?_) (fun c1 => ?_)
  · have h := hT1a c1
    refine q_aload_n ok dX10_checks_34 0 rfl ?_
    refine q_getC ok fl_X10_119 kM_0 fM_0_59 dX10_checks_35 ?_
    refine q_iload_n ok dX10_checks_38 1 rfl ?_
    refine q_iconst ok dX10_checks_39 ?_
    refine q_iadd ok dX10_checks_40 ?_
    obtain ⟨g7, g8, h⟩ := h
    refine q_iald ok kM_ok kM_37 g7 g8 dX10_checks_41 ?_
    obtain ⟨g9, g10, h⟩ := h
    refine q_iast ok kM_ok kM_37 g9 g10 dX10_checks_42 (wq_s (fun σ1 eσ1 => ?_))
    have h := h σ1 eσ1
    exact q_vret ok dX10_checks_43 h
  · have h := hT1b c1
    refine q_iconst ok dX10_checks_30 ?_
    refine q_goto (tgt := 42) ok dX10_checks_31 (by decide) ?_
    obtain ⟨g11, g12, h⟩ := h
    refine q_iast ok kM_ok kM_37 g11 g12 dX10_checks_42 (wq_s (fun σ2 eσ2 => ?_))
    have h := h σ2 eσ2
    exact q_vret ok dX10_checks_43 h)
/-! BranchingStoryModel.narrows(II)V -/
def f_X10_narrows_J67 (Q : St → Prop) (σ : St) (v1 : Int) (v3 : Int) (s1 : Int) (s2 : Int) (s3 : Int) (s4 : Int) (s5 : Int) : Prop :=
  0 ≤ s1 ∧ s1 < 150 ∧ ∀ σ1 : St, σ1 = sset σ 37 s1.toNat (iand32 s2 (ixor32 (ishl32 s3 (s4 + s5)) (-1))) → 0 ≤ (v1 + 7) ∧ (v1 + 7) < 150 ∧ inR (iand32 (ishr32 (σ1 37 (v1 + 7).toNat) (2 * v3)) 3) ∧ ((¬ (iand32 (ishr32 (σ1 37 (v1 + 7).toNat) (2 * v3)) 3) = 0 → 0 ≤ (v1 + 0) ∧ (v1 + 0) < 150 ∧ 0 ≤ (v1 + 0) ∧ (v1 + 0) < 150 ∧ ∀ σ2 : St, σ2 = sset σ1 37 (v1 + 0).toNat (σ1 37 (v1 + 0).toNat) → Q σ2) ∧ ((iand32 (ishr32 (σ1 37 (v1 + 7).toNat) (2 * v3)) 3) = 0 → 0 ≤ (v1 + 0) ∧ (v1 + 0) < 150 ∧ ∀ σ3 : St, σ3 = sset σ1 37 (v1 + 0).toNat 0 → Q σ3))
def f_X10_narrows_J236 (Q : St → Prop) (σ : St) (v1 : Int) (v3 : Int) : Prop :=
  f_X10_checks v1 v3 σ (fun σ1 => Q σ1)
def f_X10_narrows_J235 (Q : St → Prop) (σ : St) (v1 : Int) (v3 : Int) (s1 : Int) (s2 : Int) : Prop :=
  0 ≤ s1 ∧ s1 < 150 ∧ ∀ σ1 : St, σ1 = sset σ 37 s1.toNat s2 → f_X10_narrows_J236 Q σ1 v1 v3
def f_X10_narrows_J203 (Q : St → Prop) (σ : St) (v1 : Int) (v3 : Int) (v5 : Int) (s0 : Int) : Prop :=
  0 ≤ v5 ∧ v5 < 150 ∧ inR (σ 37 v5.toNat) ∧ inR s0 ∧ ((s0 ≤ (σ 37 v5.toNat) → 0 ≤ v5 ∧ v5 < 150 ∧ f_X10_narrows_J235 Q σ v1 v3 v5 (σ 37 v5.toNat)) ∧ (¬ s0 ≤ (σ 37 v5.toNat) → f_X10_narrows_J235 Q σ v1 v3 v5 s0))
def f_X10_narrows_J174 (Q : St → Prop) (σ : St) (v1 : Int) (v2 : Int) (v3 : Int) (v4 : Int) (v5 : Int) : Prop :=
  0 ≤ v2 ∧ v2 < 401 ∧ inR (σ 12 v2.toNat) ∧ (((σ 12 v2.toNat) = 2 → f_X10_narrows_J236 Q σ v1 v3) ∧ (¬ (σ 12 v2.toNat) = 2 → 0 ≤ v2 ∧ v2 < 401 ∧ inR (σ 12 v2.toNat) ∧ ((¬ (σ 12 v2.toNat) = 3 → f_X10_narrows_J203 Q σ v1 v3 v5 v4) ∧ ((σ 12 v2.toNat) = 3 → f_X10_narrows_J203 Q σ v1 v3 v5 (v4 + 1)))))
def f_X10_narrows_J173 (Q : St → Prop) (σ : St) (v1 : Int) (v2 : Int) (v3 : Int) (v4 : Int) (v5 : Int) (s1 : Int) (s2 : Int) : Prop :=
  0 ≤ s1 ∧ s1 < 150 ∧ ∀ σ1 : St, σ1 = sset σ 37 s1.toNat s2 → f_X10_narrows_J174 Q σ1 v1 v2 v3 v4 v5
def f_X10_narrows_J141 (Q : St → Prop) (σ : St) (v1 : Int) (v2 : Int) (v3 : Int) (v4 : Int) (v5 : Int) (v6 : Int) (s0 : Int) : Prop :=
  0 ≤ v6 ∧ v6 < 150 ∧ inR (σ 37 v6.toNat) ∧ inR s0 ∧ (((σ 37 v6.toNat) ≤ s0 → 0 ≤ v6 ∧ v6 < 150 ∧ f_X10_narrows_J173 Q σ v1 v2 v3 v4 v5 v6 (σ 37 v6.toNat)) ∧ (¬ (σ 37 v6.toNat) ≤ s0 → f_X10_narrows_J173 Q σ v1 v2 v3 v4 v5 v6 s0))
def f_X10_narrows (a0 : Int) (a1 : Int) (σ : St) (Q : St → Prop) : Prop :=
  0 ≤ a1 ∧ a1 < 401 ∧ ∀ x1 : Int, x1 = (σ 13 a1.toNat) → 0 ≤ a1 ∧ a1 < 401 ∧ ∀ x2 : Int, x2 = (σ 14 a1.toNat) → ∀ x3 : Int, x3 = ((a0 + 1) + x1) → ∀ x4 : Int, x4 = ((a0 + 4) + x1) → 0 ≤ a1 ∧ a1 < 401 ∧ inR (σ 12 a1.toNat) ∧ ((2 ≤ (σ 12 a1.toNat) → 0 ≤ a1 ∧ a1 < 401 ∧ inR (σ 12 a1.toNat) ∧ (((σ 12 a1.toNat) = 3 → f_X10_narrows_J174 Q σ a0 a1 x1 x2 x3) ∧ (¬ (σ 12 a1.toNat) = 3 → 0 ≤ a1 ∧ a1 < 401 ∧ inR (σ 12 a1.toNat) ∧ ((¬ (σ 12 a1.toNat) = 2 → f_X10_narrows_J141 Q σ a0 a1 x1 x2 x3 x4 x2) ∧ ((σ 12 a1.toNat) = 2 → f_X10_narrows_J141 Q σ a0 a1 x1 x2 x3 x4 (x2 - 1)))))) ∧ (¬ 2 ≤ (σ 12 a1.toNat) → 0 ≤ (a0 + 7) ∧ (a0 + 7) < 150 ∧ 0 ≤ a1 ∧ a1 < 401 ∧ inR (σ 12 a1.toNat) ∧ ((¬ (σ 12 a1.toNat) = 0 → f_X10_narrows_J67 Q σ a0 x1 (a0 + 7) (σ 37 (a0 + 7).toNat) 1 (2 * x1) 1) ∧ ((σ 12 a1.toNat) = 0 → f_X10_narrows_J67 Q σ a0 x1 (a0 + 7) (σ 37 (a0 + 7).toNat) 1 (2 * x1) 0))))
set_option maxRecDepth 100000 in
set_option maxHeartbeats 4000000 in
theorem w_X10_narrows_J67 {X : Cx} {Y : Cy} {Q : St → Prop} (ok : Ok X Y KM cX10_narrows 8 RX10 (rm0q 1 22) none) (σ : St) (v1 : Int) (v3 : Int) (s1 : Int) (s2 : Int) (s3 : Int) (s4 : Int) (s5 : Int) (h : f_X10_narrows_J67 Q σ v1 v3 s1 s2 s3 s4 s5) : Wq X Y KM 8 (QF X Y (Qvq Y KM Q)) σ 67 [(0, .inr (.inr 0)), (1, .inl v1), (3, .inl v3)] [.inl s5, .inl s4, .inl s3, .inl s2, .inl s1, .inr (.inr 37)] := by
  unfold f_X10_narrows_J67 at h
  refine q_iadd ok dX10_narrows_67 ?_
  refine q_ishl ok dX10_narrows_68 ?_
  refine q_iconst ok dX10_narrows_69 ?_
  refine q_ixor ok dX10_narrows_70 ?_
  refine q_iand ok dX10_narrows_71 ?_
  obtain ⟨g1, g2, h⟩ := h
  refine q_iast ok kM_ok kM_37 g1 g2 dX10_narrows_72 (wq_s (fun σ1 eσ1 => ?_))
  have h := h σ1 eσ1
  refine q_aload_n ok dX10_narrows_73 0 rfl ?_
  refine q_getC ok fl_X10_119 kM_0 fM_0_59 dX10_narrows_74 ?_
  refine q_iload_n ok dX10_narrows_77 1 rfl ?_
  refine q_iconst ok dX10_narrows_78 ?_
  refine q_iadd ok dX10_narrows_79 ?_
  refine q_aload_n ok dX10_narrows_80 0 rfl ?_
  refine q_getC ok fl_X10_119 kM_0 fM_0_59 dX10_narrows_81 ?_
  refine q_iload_n ok dX10_narrows_84 1 rfl ?_
  refine q_bipush ok dX10_narrows_85 rfl ?_
  refine q_iadd ok dX10_narrows_87 ?_
  obtain ⟨g3, g4, h⟩ := h
  refine q_iald ok kM_ok kM_37 g3 g4 dX10_narrows_88 ?_
  refine q_iconst ok dX10_narrows_89 ?_
  refine q_iload_n ok dX10_narrows_90 2 rfl ?_
  refine q_imul ok dX10_narrows_91 ?_
  refine q_ishr ok dX10_narrows_92 ?_
  refine q_iconst ok dX10_narrows_93 ?_
  refine q_iand ok dX10_narrows_94 ?_
  obtain ⟨g5, hT1a, hT1b⟩ := h
  refine q_if_ne (tgt := 102) ok dX10_narrows_95 (by decide) g5 (fun c1 => ?_) (fun c1 => ?_)
  · have h := hT1a c1
    refine q_aload_n ok dX10_narrows_102 0 rfl ?_
    refine q_getC ok fl_X10_119 kM_0 fM_0_59 dX10_narrows_103 ?_
    refine q_iload_n ok dX10_narrows_106 1 rfl ?_
    refine q_iconst ok dX10_narrows_107 ?_
    refine q_iadd ok dX10_narrows_108 ?_
    obtain ⟨g6, g7, h⟩ := h
    refine q_iald ok kM_ok kM_37 g6 g7 dX10_narrows_109 ?_
    obtain ⟨g8, g9, h⟩ := h
    refine q_iast ok kM_ok kM_37 g8 g9 dX10_narrows_110 (wq_s (fun σ2 eσ2 => ?_))
    have h := h σ2 eσ2
    exact q_vret ok dX10_narrows_111 h
  · have h := hT1b c1
    refine q_iconst ok dX10_narrows_98 ?_
    refine q_goto (tgt := 110) ok dX10_narrows_99 (by decide) ?_
    obtain ⟨g10, g11, h⟩ := h
    refine q_iast ok kM_ok kM_37 g10 g11 dX10_narrows_110 (wq_s (fun σ3 eσ3 => ?_))
    have h := h σ3 eσ3
    exact q_vret ok dX10_narrows_111 h
set_option maxRecDepth 100000 in
set_option maxHeartbeats 4000000 in
theorem w_X10_narrows_J236 {X : Cx} {Y : Cy} {Q : St → Prop} (ok : Ok X Y KM cX10_narrows 8 RX10 (rm0q 1 22) none) (σ : St) (v1 : Int) (v3 : Int) (h : f_X10_narrows_J236 Q σ v1 v3) : Wq X Y KM 8 (QF X Y (Qvq Y KM Q)) σ 236 [(0, .inr (.inr 0)), (1, .inl v1), (3, .inl v3)] [] := by
  unfold f_X10_narrows_J236 at h
  refine q_aload_n ok dX10_narrows_236 0 rfl ?_
  refine q_iload_n ok dX10_narrows_237 1 rfl ?_
  refine q_iload_n ok dX10_narrows_238 2 rfl ?_
  refine q_callVV (st := []) ok cs_X10_381 kM_0 rfl (c_X10_checks X.2.1 Y ok.2.2.2.2.2.2.2.2 h) ⟨rfl, rfl, Nat.le_of_ble_eq_true rfl, Nat.le_of_ble_eq_true rfl⟩ rfl rfl (Nat.le_of_ble_eq_true rfl) dX10_narrows_239 (fun σ1 h => ?_)
  exact q_vret ok dX10_narrows_242 h
set_option maxRecDepth 100000 in
set_option maxHeartbeats 4000000 in
theorem w_X10_narrows_J235 {X : Cx} {Y : Cy} {Q : St → Prop} (ok : Ok X Y KM cX10_narrows 8 RX10 (rm0q 1 22) none) (σ : St) (v1 : Int) (v3 : Int) (s1 : Int) (s2 : Int) (h : f_X10_narrows_J235 Q σ v1 v3 s1 s2) : Wq X Y KM 8 (QF X Y (Qvq Y KM Q)) σ 235 [(0, .inr (.inr 0)), (1, .inl v1), (3, .inl v3)] [.inl s2, .inl s1, .inr (.inr 37)] := by
  unfold f_X10_narrows_J235 at h
  obtain ⟨g1, g2, h⟩ := h
  refine q_iast ok kM_ok kM_37 g1 g2 dX10_narrows_235 (wq_s (fun σ1 eσ1 => ?_))
  have h := h σ1 eσ1
  exact w_X10_narrows_J236 ok σ1 v1 v3 h
set_option maxRecDepth 100000 in
set_option maxHeartbeats 4000000 in
theorem w_X10_narrows_J203 {X : Cx} {Y : Cy} {Q : St → Prop} (ok : Ok X Y KM cX10_narrows 8 RX10 (rm0q 1 22) none) (σ : St) (v1 : Int) (v3 : Int) (v5 : Int) (s0 : Int) (h : f_X10_narrows_J203 Q σ v1 v3 v5 s0) : Wq X Y KM 8 (QF X Y (Qvq Y KM Q)) σ 203 [(0, .inr (.inr 0)), (1, .inl v1), (3, .inl v3), (5, .inl v5)] [.inl s0] := by
  unfold f_X10_narrows_J203 at h
  refine q_istore (lv' := [(7, .inl s0), (0, .inr (.inr 0)), (1, .inl v1), (3, .inl v3), (5, .inl v5)]) ok dX10_narrows_203 (by decide) rfl ?_
  refine q_aload_n ok dX10_narrows_205 1 rfl ?_
  refine q_getC ok fl_X10_119 kM_0 fM_0_59 dX10_narrows_206 ?_
  refine q_iload ok dX10_narrows_209 4 rfl ?_
  refine q_aload_n ok dX10_narrows_211 1 rfl ?_
  refine q_getC ok fl_X10_119 kM_0 fM_0_59 dX10_narrows_212 ?_
  refine q_iload ok dX10_narrows_215 4 rfl ?_
  obtain ⟨g1, g2, h⟩ := h
  refine q_iald ok kM_ok kM_37 g1 g2 dX10_narrows_217 ?_
  refine q_iload ok dX10_narrows_218 0 rfl ?_
  obtain ⟨g3, g4, hT1a, hT1b⟩ := h
  refine q_icmp_ge (tgt := 228) ok dX10_narrows_220 (by decide) g3 g4 (fun c1 => ?_) (fun c1 => ?_)
  · have h := hT1a c1
    refine q_aload_n ok dX10_narrows_228 1 rfl ?_
    refine q_getC ok fl_X10_119 kM_0 fM_0_59 dX10_narrows_229 ?_
    refine q_iload ok dX10_narrows_232 4 rfl ?_
    obtain ⟨g5, g6, h⟩ := h
    refine q_iald ok kM_ok kM_37 g5 g6 dX10_narrows_234 ?_
    refine q_sub [1, 2, 3] rfl ?_
    exact w_X10_narrows_J235 ok σ v1 v3 v5 (σ 37 v5.toNat) h
  · have h := hT1b c1
    refine q_iload ok dX10_narrows_223 0 rfl ?_
    refine q_goto (tgt := 235) ok dX10_narrows_225 (by decide) ?_
    refine q_sub [1, 2, 3] rfl ?_
    exact w_X10_narrows_J235 ok σ v1 v3 v5 s0 h
set_option maxRecDepth 100000 in
set_option maxHeartbeats 4000000 in
theorem w_X10_narrows_J174 {X : Cx} {Y : Cy} {Q : St → Prop} (ok : Ok X Y KM cX10_narrows 8 RX10 (rm0q 1 22) none) (σ : St) (v1 : Int) (v2 : Int) (v3 : Int) (v4 : Int) (v5 : Int) (h : f_X10_narrows_J174 Q σ v1 v2 v3 v4 v5) : Wq X Y KM 8 (QF X Y (Qvq Y KM Q)) σ 174 [(0, .inr (.inr 0)), (1, .inl v1), (2, .inl v2), (3, .inl v3), (4, .inl v4), (5, .inl v5)] [] := by
  unfold f_X10_narrows_J174 at h
  refine q_aload_n ok dX10_narrows_174 0 rfl ?_
  refine q_getC ok fl_X10_43 kM_0 fM_0_16 dX10_narrows_175 ?_
  refine q_iload_n ok dX10_narrows_178 2 rfl ?_
  obtain ⟨g1, g2, h⟩ := h
  refine q_iald ok kM_ok kM_12 g1 g2 dX10_narrows_179 ?_
  refine q_iconst ok dX10_narrows_180 ?_
  obtain ⟨g3, hT2a, hT2b⟩ := h
  refine q_icmp_eq (tgt := 236) ok dX10_narrows_181 (by decide) g3 (by unfold inR; decide) (fun c2 => ?_) (fun c2 => ?_)
  · have h := hT2a c2
    refine q_sub [0, 1, 3] rfl ?_
    exact w_X10_narrows_J236 ok σ v1 v3 h
  · have h := hT2b c2
    refine q_aload_n ok dX10_narrows_184 0 rfl ?_
    refine q_getC ok fl_X10_43 kM_0 fM_0_16 dX10_narrows_185 ?_
    refine q_iload_n ok dX10_narrows_188 2 rfl ?_
    obtain ⟨g4, g5, h⟩ := h
    refine q_iald ok kM_ok kM_12 g4 g5 dX10_narrows_189 ?_
    refine q_iconst ok dX10_narrows_190 ?_
    obtain ⟨g6, hT1a, hT1b⟩ := h
    refine q_icmp_ne (tgt := 201) ok dX10_narrows_191 (by decide) g6 (by unfold inR; decide) (fun c1 => ?_) (fun c1 => ?_)
    · have h := hT1a c1
      refine q_iload ok dX10_narrows_201 4 rfl ?_
      refine q_sub [0, 1, 3, 5] rfl ?_
      exact w_X10_narrows_J203 ok σ v1 v3 v5 v4 h
    · have h := hT1b c1
      refine q_iload ok dX10_narrows_194 4 rfl ?_
      refine q_iconst ok dX10_narrows_196 ?_
      refine q_iadd ok dX10_narrows_197 ?_
      refine q_goto (tgt := 203) ok dX10_narrows_198 (by decide) ?_
      refine q_sub [0, 1, 3, 5] rfl ?_
      exact w_X10_narrows_J203 ok σ v1 v3 v5 (v4 + 1) h
set_option maxRecDepth 100000 in
set_option maxHeartbeats 4000000 in
theorem w_X10_narrows_J173 {X : Cx} {Y : Cy} {Q : St → Prop} (ok : Ok X Y KM cX10_narrows 8 RX10 (rm0q 1 22) none) (σ : St) (v1 : Int) (v2 : Int) (v3 : Int) (v4 : Int) (v5 : Int) (s1 : Int) (s2 : Int) (h : f_X10_narrows_J173 Q σ v1 v2 v3 v4 v5 s1 s2) : Wq X Y KM 8 (QF X Y (Qvq Y KM Q)) σ 173 [(0, .inr (.inr 0)), (1, .inl v1), (2, .inl v2), (3, .inl v3), (4, .inl v4), (5, .inl v5)] [.inl s2, .inl s1, .inr (.inr 37)] := by
  unfold f_X10_narrows_J173 at h
  obtain ⟨g1, g2, h⟩ := h
  refine q_iast ok kM_ok kM_37 g1 g2 dX10_narrows_173 (wq_s (fun σ1 eσ1 => ?_))
  have h := h σ1 eσ1
  exact w_X10_narrows_J174 ok σ1 v1 v2 v3 v4 v5 h
set_option maxRecDepth 100000 in
set_option maxHeartbeats 4000000 in
theorem w_X10_narrows_J141 {X : Cx} {Y : Cy} {Q : St → Prop} (ok : Ok X Y KM cX10_narrows 8 RX10 (rm0q 1 22) none) (σ : St) (v1 : Int) (v2 : Int) (v3 : Int) (v4 : Int) (v5 : Int) (v6 : Int) (s0 : Int) (h : f_X10_narrows_J141 Q σ v1 v2 v3 v4 v5 v6 s0) : Wq X Y KM 8 (QF X Y (Qvq Y KM Q)) σ 141 [(0, .inr (.inr 0)), (1, .inl v1), (2, .inl v2), (3, .inl v3), (4, .inl v4), (5, .inl v5), (6, .inl v6)] [.inl s0] := by
  unfold f_X10_narrows_J141 at h
  refine q_istore (lv' := [(7, .inl s0), (0, .inr (.inr 0)), (1, .inl v1), (2, .inl v2), (3, .inl v3), (4, .inl v4), (5, .inl v5), (6, .inl v6)]) ok dX10_narrows_141 (by decide) rfl ?_
  refine q_aload_n ok dX10_narrows_143 1 rfl ?_
  refine q_getC ok fl_X10_119 kM_0 fM_0_59 dX10_narrows_144 ?_
  refine q_iload ok dX10_narrows_147 7 rfl ?_
  refine q_aload_n ok dX10_narrows_149 1 rfl ?_
  refine q_getC ok fl_X10_119 kM_0 fM_0_59 dX10_narrows_150 ?_
  refine q_iload ok dX10_narrows_153 7 rfl ?_
  obtain ⟨g1, g2, h⟩ := h
  refine q_iald ok kM_ok kM_37 g1 g2 dX10_narrows_155 ?_
  refine q_iload ok dX10_narrows_156 0 rfl ?_
  obtain ⟨g3, g4, hT1a, hT1b⟩ := h
  refine q_icmp_le (tgt := 166) ok dX10_narrows_158 (by decide) g3 g4 (fun c1 => ?_) (fun c1 => ?_)
  · have h := hT1a c1
    refine q_aload_n ok dX10_narrows_166 1 rfl ?_
    refine q_getC ok fl_X10_119 kM_0 fM_0_59 dX10_narrows_167 ?_
    refine q_iload ok dX10_narrows_170 7 rfl ?_
    obtain ⟨g5, g6, h⟩ := h
    refine q_iald ok kM_ok kM_37 g5 g6 dX10_narrows_172 ?_
    refine q_sub [1, 2, 3, 4, 5, 6] rfl ?_
    exact w_X10_narrows_J173 ok σ v1 v2 v3 v4 v5 v6 (σ 37 v6.toNat) h
  · have h := hT1b c1
    refine q_iload ok dX10_narrows_161 0 rfl ?_
    refine q_goto (tgt := 173) ok dX10_narrows_163 (by decide) ?_
    refine q_sub [1, 2, 3, 4, 5, 6] rfl ?_
    exact w_X10_narrows_J173 ok σ v1 v2 v3 v4 v5 v6 s0 h
set_option maxRecDepth 100000 in
set_option maxHeartbeats 4000000 in
theorem c_X10_narrows (l : Launch) (Y : Cy) (hD : ∀ σ, va_D Y.2.2.2 (wsOf KM Y.2.1 Y.2.2.1 σ)) {a0 : Int} {a1 : Int} {σ : St} {Q : St → Prop} (h : f_X10_narrows a0 a1 σ Q) : ConV l yX10_narrows cX10_narrows 8 (rm0q 1 22) Y KM σ [.inr (.inr 0), .inl a0, .inl a1] Q := con_of (lv := [(0, .inr (.inr 0)), (1, .inl a0), (2, .inl a1)]) (by decide) hD (Nat.le_of_ble_eq_true rfl) rfl (fun X _ ok => by
  have ok : Ok X Y KM cX10_narrows 8 RX10 (rm0q 1 22) none := ok
  unfold f_X10_narrows at h
  refine q_aload_n ok dX10_narrows_0 0 rfl ?_
  refine q_getC ok fl_X10_46 kM_0 fM_0_17 dX10_narrows_1 ?_
  refine q_iload_n ok dX10_narrows_4 2 rfl ?_
  obtain ⟨g1, g2, h⟩ := h
  refine q_iald ok kM_ok kM_13 g1 g2 dX10_narrows_5 ?_
  refine wq_i (fun x1 ex1 => ?_)
  have h := h x1 ex1
  refine q_istore_n (lv' := [(3, .inl x1), (0, .inr (.inr 0)), (1, .inl a0), (2, .inl a1)]) ok dX10_narrows_6 (by decide) rfl ?_
  refine q_aload_n ok dX10_narrows_7 1 rfl ?_
  refine q_getC ok fl_X10_49 kM_0 fM_0_18 dX10_narrows_8 ?_
  refine q_iload_n ok dX10_narrows_11 3 rfl ?_
  obtain ⟨g3, g4, h⟩ := h
  refine q_iald ok kM_ok kM_14 g3 g4 dX10_narrows_12 ?_
  refine wq_i (fun x2 ex2 => ?_)
  have h := h x2 ex2
  refine q_istore (lv' := [(4, .inl x2), (3, .inl x1), (0, .inr (.inr 0)), (1, .inl a0), (2, .inl a1)]) ok dX10_narrows_13 (by decide) rfl ?_
  refine q_iload_n ok dX10_narrows_15 3 rfl ?_
  refine q_iconst ok dX10_narrows_16 ?_
  refine q_iadd ok dX10_narrows_17 ?_
  refine q_iload_n ok dX10_narrows_18 1 rfl ?_
  refine q_iadd ok dX10_narrows_19 ?_
  refine wq_i (fun x3 ex3 => ?_)
  have h := h x3 ex3
  refine q_istore (lv' := [(5, .inl x3), (4, .inl x2), (3, .inl x1), (0, .inr (.inr 0)), (1, .inl a0), (2, .inl a1)]) ok dX10_narrows_20 (by decide) rfl ?_
  refine q_iload_n ok dX10_narrows_22 4 rfl ?_
  refine q_iconst ok dX10_narrows_23 ?_
  refine q_iadd ok dX10_narrows_24 ?_
  refine q_iload_n ok dX10_narrows_25 2 rfl ?_
  refine q_iadd ok dX10_narrows_26 ?_
  refine wq_i (fun x4 ex4 => ?_)
  have h := h x4 ex4
  refine q_istore (lv' := [(6, .inl x4), (5, .inl x3), (4, .inl x2), (3, .inl x1), (0, .inr (.inr 0)), (1, .inl a0), (2, .inl a1)]) ok dX10_narrows_27 (by decide) rfl ?_
  refine q_aload_n ok dX10_narrows_29 4 rfl ?_
  refine q_getC ok fl_X10_43 kM_0 fM_0_16 dX10_narrows_30 ?_
  refine q_iload_n ok dX10_narrows_33 6 rfl ?_
  obtain ⟨g5, g6, h⟩ := h
  refine q_iald ok kM_ok kM_12 g5 g6 dX10_narrows_34 ?_
  refine q_iconst ok dX10_narrows_35 ?_
  obtain ⟨g7, hT4a, hT4b⟩ := h
  refine q_icmp_ge (tgt := 112) ok dX10_narrows_36 (by decide) g7 (by unfold inR; decide) (fun c4 => ?_) (fun c4 => ?_)
  · have h := hT4a c4
    refine q_aload_n ok dX10_narrows_112 4 rfl ?_
    refine q_getC ok fl_X10_43 kM_0 fM_0_16 dX10_narrows_113 ?_
    refine q_iload_n ok dX10_narrows_116 6 rfl ?_
    obtain ⟨g8, g9, h⟩ := h
    refine q_iald ok kM_ok kM_12 g8 g9 dX10_narrows_117 ?_
    refine q_iconst ok dX10_narrows_118 ?_
    obtain ⟨g10, hT2a, hT2b⟩ := h
    refine q_icmp_eq (tgt := 174) ok dX10_narrows_119 (by decide) g10 (by unfold inR; decide) (fun c2 => ?_) (fun c2 => ?_)
    · have h := hT2a c2
      refine q_sub [4, 5, 6, 3, 2, 1] rfl ?_
      exact w_X10_narrows_J174 ok σ a0 a1 x1 x2 x3 h
    · have h := hT2b c2
      refine q_aload_n ok dX10_narrows_122 4 rfl ?_
      refine q_getC ok fl_X10_43 kM_0 fM_0_16 dX10_narrows_123 ?_
      refine q_iload_n ok dX10_narrows_126 6 rfl ?_
      obtain ⟨g11, g12, h⟩ := h
      refine q_iald ok kM_ok kM_12 g11 g12 dX10_narrows_127 ?_
      refine q_iconst ok dX10_narrows_128 ?_
      obtain ⟨g13, hT1a, hT1b⟩ := h
      refine q_icmp_ne (tgt := 139) ok dX10_narrows_129 (by decide) g13 (by unfold inR; decide) (fun c1 => ?_) (fun c1 => ?_)
      · have h := hT1a c1
        refine q_iload ok dX10_narrows_139 2 rfl ?_
        refine q_sub [4, 5, 6, 3, 2, 1, 0] rfl ?_
        exact w_X10_narrows_J141 ok σ a0 a1 x1 x2 x3 x4 x2 h
      · have h := hT1b c1
        refine q_iload ok dX10_narrows_132 2 rfl ?_
        refine q_iconst ok dX10_narrows_134 ?_
        refine q_isub ok dX10_narrows_135 ?_
        refine q_goto (tgt := 141) ok dX10_narrows_136 (by decide) ?_
        refine q_sub [4, 5, 6, 3, 2, 1, 0] rfl ?_
        exact w_X10_narrows_J141 ok σ a0 a1 x1 x2 x3 x4 (x2 - 1) h
  · have h := hT4b c4
    refine q_aload_n ok dX10_narrows_39 4 rfl ?_
    refine q_getC ok fl_X10_119 kM_0 fM_0_59 dX10_narrows_40 ?_
    refine q_iload_n ok dX10_narrows_43 5 rfl ?_
    refine q_bipush ok dX10_narrows_44 rfl ?_
    refine q_iadd ok dX10_narrows_46 ?_
    refine q_dup2 ok dX10_narrows_47 rfl rfl ?_
    obtain ⟨g14, g15, h⟩ := h
    refine q_iald ok kM_ok kM_37 g14 g15 dX10_narrows_48 ?_
    refine q_iconst ok dX10_narrows_49 ?_
    refine q_iconst ok dX10_narrows_50 ?_
    refine q_iload_n ok dX10_narrows_51 3 rfl ?_
    refine q_imul ok dX10_narrows_52 ?_
    refine q_aload_n ok dX10_narrows_53 4 rfl ?_
    refine q_getC ok fl_X10_43 kM_0 fM_0_16 dX10_narrows_54 ?_
    refine q_iload_n ok dX10_narrows_57 6 rfl ?_
    obtain ⟨g16, g17, h⟩ := h
    refine q_iald ok kM_ok kM_12 g16 g17 dX10_narrows_58 ?_
    obtain ⟨g18, hT3a, hT3b⟩ := h
    refine q_if_ne (tgt := 66) ok dX10_narrows_59 (by decide) g18 (fun c3 => ?_) (fun c3 => ?_)
    · have h := hT3a c3
      refine q_iconst ok dX10_narrows_66 ?_
      refine q_sub [4, 5, 3] rfl ?_
      exact w_X10_narrows_J67 ok σ a0 x1 (a0 + 7) (σ 37 (a0 + 7).toNat) 1 (2 * x1) 1 h
    · have h := hT3b c3
      refine q_iconst ok dX10_narrows_62 ?_
      refine q_goto (tgt := 67) ok dX10_narrows_63 (by decide) ?_
      refine q_sub [4, 5, 3] rfl ?_
      exact w_X10_narrows_J67 ok σ a0 x1 (a0 + 7) (σ 37 (a0 + 7).toNat) 1 (2 * x1) 0 h)
/-! BranchingStoryModel.widensNot(II)V -/
def f_X10_widensNot_J67 (Q : St → Prop) (σ : St) (v1 : Int) (v3 : Int) (s1 : Int) (s2 : Int) (s3 : Int) (s4 : Int) (s5 : Int) : Prop :=
  0 ≤ s1 ∧ s1 < 150 ∧ ∀ σ1 : St, σ1 = sset σ 37 s1.toNat (iand32 s2 (ixor32 (ishl32 s3 (s4 + s5)) (-1))) → 0 ≤ (v1 + 7) ∧ (v1 + 7) < 150 ∧ inR (iand32 (ishr32 (σ1 37 (v1 + 7).toNat) (2 * v3)) 3) ∧ ((¬ (iand32 (ishr32 (σ1 37 (v1 + 7).toNat) (2 * v3)) 3) = 0 → 0 ≤ (v1 + 0) ∧ (v1 + 0) < 150 ∧ 0 ≤ (v1 + 0) ∧ (v1 + 0) < 150 ∧ ∀ σ2 : St, σ2 = sset σ1 37 (v1 + 0).toNat (σ1 37 (v1 + 0).toNat) → Q σ2) ∧ ((iand32 (ishr32 (σ1 37 (v1 + 7).toNat) (2 * v3)) 3) = 0 → 0 ≤ (v1 + 0) ∧ (v1 + 0) < 150 ∧ ∀ σ3 : St, σ3 = sset σ1 37 (v1 + 0).toNat 0 → Q σ3))
def f_X10_widensNot_J254 (Q : St → Prop) (σ : St) (v1 : Int) (v3 : Int) : Prop :=
  f_X10_checks v1 v3 σ (fun σ1 => Q σ1)
def f_X10_widensNot_J152 (Q : St → Prop) (σ : St) (v1 : Int) (v3 : Int) (s1 : Int) (s2 : Int) : Prop :=
  0 ≤ s1 ∧ s1 < 150 ∧ ∀ σ1 : St, σ1 = sset σ 37 s1.toNat s2 → f_X10_widensNot_J254 Q σ1 v1 v3
def f_X10_widensNot_J196 (Q : St → Prop) (σ : St) (v1 : Int) (v3 : Int) (s1 : Int) (s2 : Int) : Prop :=
  0 ≤ s1 ∧ s1 < 150 ∧ ∀ σ1 : St, σ1 = sset σ 37 s1.toNat s2 → f_X10_widensNot_J254 Q σ1 v1 v3
def f_X10_widensNot_J252 (Q : St → Prop) (σ : St) (v1 : Int) (v3 : Int) (s1 : Int) (s2 : Int) (s3 : Int) : Prop :=
  0 ≤ s1 ∧ s1 < 150 ∧ ∀ σ1 : St, σ1 = sset σ 37 s1.toNat (s2 - s3) → f_X10_widensNot_J254 Q σ1 v1 v3
def f_X10_widensNot_J225 (Q : St → Prop) (σ : St) (v1 : Int) (v3 : Int) (v4 : Int) (v6 : Int) (s1 : Int) (s2 : Int) (s3 : Int) : Prop :=
  0 ≤ s1 ∧ s1 < 150 ∧ ∀ σ1 : St, σ1 = sset σ 37 s1.toNat (s2 + s3) → 0 ≤ v6 ∧ v6 < 150 ∧ 0 ≤ v6 ∧ v6 < 150 ∧ inR (σ1 37 v6.toNat) ∧ inR v4 ∧ ((¬ (σ1 37 v6.toNat) = v4 → f_X10_widensNot_J252 Q σ1 v1 v3 v6 (σ1 37 v6.toNat) 0) ∧ ((σ1 37 v6.toNat) = v4 → f_X10_widensNot_J252 Q σ1 v1 v3 v6 (σ1 37 v6.toNat) 1))
def f_X10_widensNot (a0 : Int) (a1 : Int) (σ : St) (Q : St → Prop) : Prop :=
  0 ≤ a1 ∧ a1 < 401 ∧ ∀ x1 : Int, x1 = (σ 13 a1.toNat) → 0 ≤ a1 ∧ a1 < 401 ∧ ∀ x2 : Int, x2 = (σ 14 a1.toNat) → ∀ x3 : Int, x3 = ((a0 + 1) + x1) → ∀ x4 : Int, x4 = ((a0 + 4) + x1) → 0 ≤ a1 ∧ a1 < 401 ∧ inR (σ 12 a1.toNat) ∧ ((2 ≤ (σ 12 a1.toNat) → 0 ≤ a1 ∧ a1 < 401 ∧ inR (σ 12 a1.toNat) ∧ ((¬ (σ 12 a1.toNat) = 2 → 0 ≤ a1 ∧ a1 < 401 ∧ inR (σ 12 a1.toNat) ∧ ((¬ (σ 12 a1.toNat) = 3 → 0 ≤ x3 ∧ x3 < 150 ∧ 0 ≤ x3 ∧ x3 < 150 ∧ inR (σ 37 x3.toNat) ∧ inR x2 ∧ ((¬ (σ 37 x3.toNat) = x2 → f_X10_widensNot_J225 Q σ a0 x1 x2 x4 x3 (σ 37 x3.toNat) 0) ∧ ((σ 37 x3.toNat) = x2 → f_X10_widensNot_J225 Q σ a0 x1 x2 x4 x3 (σ 37 x3.toNat) 1))) ∧ ((σ 12 a1.toNat) = 3 → 0 ≤ x4 ∧ x4 < 150 ∧ inR (σ 37 x4.toNat) ∧ inR x2 ∧ (((σ 37 x4.toNat) ≤ x2 → 0 ≤ x4 ∧ x4 < 150 ∧ f_X10_widensNot_J196 Q σ a0 x1 x4 (σ 37 x4.toNat)) ∧ (¬ (σ 37 x4.toNat) ≤ x2 → f_X10_widensNot_J196 Q σ a0 x1 x4 x2))))) ∧ ((σ 12 a1.toNat) = 2 → 0 ≤ x3 ∧ x3 < 150 ∧ inR (σ 37 x3.toNat) ∧ inR x2 ∧ ((x2 ≤ (σ 37 x3.toNat) → 0 ≤ x3 ∧ x3 < 150 ∧ f_X10_widensNot_J152 Q σ a0 x1 x3 (σ 37 x3.toNat)) ∧ (¬ x2 ≤ (σ 37 x3.toNat) → f_X10_widensNot_J152 Q σ a0 x1 x3 x2))))) ∧ (¬ 2 ≤ (σ 12 a1.toNat) → 0 ≤ (a0 + 7) ∧ (a0 + 7) < 150 ∧ 0 ≤ a1 ∧ a1 < 401 ∧ inR (σ 12 a1.toNat) ∧ ((¬ (σ 12 a1.toNat) = 0 → f_X10_widensNot_J67 Q σ a0 x1 (a0 + 7) (σ 37 (a0 + 7).toNat) 1 (2 * x1) 0) ∧ ((σ 12 a1.toNat) = 0 → f_X10_widensNot_J67 Q σ a0 x1 (a0 + 7) (σ 37 (a0 + 7).toNat) 1 (2 * x1) 1))))
set_option maxRecDepth 100000 in
set_option maxHeartbeats 4000000 in
theorem w_X10_widensNot_J67 {X : Cx} {Y : Cy} {Q : St → Prop} (ok : Ok X Y KM cX10_widensNot 7 RX10 (rm0q 1 22) none) (σ : St) (v1 : Int) (v3 : Int) (s1 : Int) (s2 : Int) (s3 : Int) (s4 : Int) (s5 : Int) (h : f_X10_widensNot_J67 Q σ v1 v3 s1 s2 s3 s4 s5) : Wq X Y KM 7 (QF X Y (Qvq Y KM Q)) σ 67 [(0, .inr (.inr 0)), (1, .inl v1), (3, .inl v3)] [.inl s5, .inl s4, .inl s3, .inl s2, .inl s1, .inr (.inr 37)] := by
  unfold f_X10_widensNot_J67 at h
  refine q_iadd ok dX10_widensNot_67 ?_
  refine q_ishl ok dX10_widensNot_68 ?_
  refine q_iconst ok dX10_widensNot_69 ?_
  refine q_ixor ok dX10_widensNot_70 ?_
  refine q_iand ok dX10_widensNot_71 ?_
  obtain ⟨g1, g2, h⟩ := h
  refine q_iast ok kM_ok kM_37 g1 g2 dX10_widensNot_72 (wq_s (fun σ1 eσ1 => ?_))
  have h := h σ1 eσ1
  refine q_aload_n ok dX10_widensNot_73 0 rfl ?_
  refine q_getC ok fl_X10_119 kM_0 fM_0_59 dX10_widensNot_74 ?_
  refine q_iload_n ok dX10_widensNot_77 1 rfl ?_
  refine q_iconst ok dX10_widensNot_78 ?_
  refine q_iadd ok dX10_widensNot_79 ?_
  refine q_aload_n ok dX10_widensNot_80 0 rfl ?_
  refine q_getC ok fl_X10_119 kM_0 fM_0_59 dX10_widensNot_81 ?_
  refine q_iload_n ok dX10_widensNot_84 1 rfl ?_
  refine q_bipush ok dX10_widensNot_85 rfl ?_
  refine q_iadd ok dX10_widensNot_87 ?_
  obtain ⟨g3, g4, h⟩ := h
  refine q_iald ok kM_ok kM_37 g3 g4 dX10_widensNot_88 ?_
  refine q_iconst ok dX10_widensNot_89 ?_
  refine q_iload_n ok dX10_widensNot_90 2 rfl ?_
  refine q_imul ok dX10_widensNot_91 ?_
  refine q_ishr ok dX10_widensNot_92 ?_
  refine q_iconst ok dX10_widensNot_93 ?_
  refine q_iand ok dX10_widensNot_94 ?_
  obtain ⟨g5, hT1a, hT1b⟩ := h
  refine q_if_ne (tgt := 102) ok dX10_widensNot_95 (by decide) g5 (fun c1 => ?_) (fun c1 => ?_)
  · have h := hT1a c1
    refine q_aload_n ok dX10_widensNot_102 0 rfl ?_
    refine q_getC ok fl_X10_119 kM_0 fM_0_59 dX10_widensNot_103 ?_
    refine q_iload_n ok dX10_widensNot_106 1 rfl ?_
    refine q_iconst ok dX10_widensNot_107 ?_
    refine q_iadd ok dX10_widensNot_108 ?_
    obtain ⟨g6, g7, h⟩ := h
    refine q_iald ok kM_ok kM_37 g6 g7 dX10_widensNot_109 ?_
    obtain ⟨g8, g9, h⟩ := h
    refine q_iast ok kM_ok kM_37 g8 g9 dX10_widensNot_110 (wq_s (fun σ2 eσ2 => ?_))
    have h := h σ2 eσ2
    exact q_vret ok dX10_widensNot_111 h
  · have h := hT1b c1
    refine q_iconst ok dX10_widensNot_98 ?_
    refine q_goto (tgt := 110) ok dX10_widensNot_99 (by decide) ?_
    obtain ⟨g10, g11, h⟩ := h
    refine q_iast ok kM_ok kM_37 g10 g11 dX10_widensNot_110 (wq_s (fun σ3 eσ3 => ?_))
    have h := h σ3 eσ3
    exact q_vret ok dX10_widensNot_111 h
set_option maxRecDepth 100000 in
set_option maxHeartbeats 4000000 in
theorem w_X10_widensNot_J254 {X : Cx} {Y : Cy} {Q : St → Prop} (ok : Ok X Y KM cX10_widensNot 7 RX10 (rm0q 1 22) none) (σ : St) (v1 : Int) (v3 : Int) (h : f_X10_widensNot_J254 Q σ v1 v3) : Wq X Y KM 7 (QF X Y (Qvq Y KM Q)) σ 254 [(0, .inr (.inr 0)), (1, .inl v1), (3, .inl v3)] [] := by
  unfold f_X10_widensNot_J254 at h
  refine q_aload_n ok dX10_widensNot_254 0 rfl ?_
  refine q_iload_n ok dX10_widensNot_255 1 rfl ?_
  refine q_iload_n ok dX10_widensNot_256 2 rfl ?_
  refine q_callVV (st := []) ok cs_X10_381 kM_0 rfl (c_X10_checks X.2.1 Y ok.2.2.2.2.2.2.2.2 h) ⟨rfl, rfl, Nat.le_of_ble_eq_true rfl, Nat.le_of_ble_eq_true rfl⟩ rfl rfl (Nat.le_of_ble_eq_true rfl) dX10_widensNot_257 (fun σ1 h => ?_)
  exact q_vret ok dX10_widensNot_260 h
set_option maxRecDepth 100000 in
set_option maxHeartbeats 4000000 in
theorem w_X10_widensNot_J152 {X : Cx} {Y : Cy} {Q : St → Prop} (ok : Ok X Y KM cX10_widensNot 7 RX10 (rm0q 1 22) none) (σ : St) (v1 : Int) (v3 : Int) (s1 : Int) (s2 : Int) (h : f_X10_widensNot_J152 Q σ v1 v3 s1 s2) : Wq X Y KM 7 (QF X Y (Qvq Y KM Q)) σ 152 [(0, .inr (.inr 0)), (1, .inl v1), (3, .inl v3)] [.inl s2, .inl s1, .inr (.inr 37)] := by
  unfold f_X10_widensNot_J152 at h
  obtain ⟨g1, g2, h⟩ := h
  refine q_iast ok kM_ok kM_37 g1 g2 dX10_widensNot_152 (wq_s (fun σ1 eσ1 => ?_))
  have h := h σ1 eσ1
  refine q_goto (tgt := 254) ok dX10_widensNot_153 (by decide) ?_
  exact w_X10_widensNot_J254 ok σ1 v1 v3 h
set_option maxRecDepth 100000 in
set_option maxHeartbeats 4000000 in
theorem w_X10_widensNot_J196 {X : Cx} {Y : Cy} {Q : St → Prop} (ok : Ok X Y KM cX10_widensNot 7 RX10 (rm0q 1 22) none) (σ : St) (v1 : Int) (v3 : Int) (s1 : Int) (s2 : Int) (h : f_X10_widensNot_J196 Q σ v1 v3 s1 s2) : Wq X Y KM 7 (QF X Y (Qvq Y KM Q)) σ 196 [(0, .inr (.inr 0)), (1, .inl v1), (3, .inl v3)] [.inl s2, .inl s1, .inr (.inr 37)] := by
  unfold f_X10_widensNot_J196 at h
  obtain ⟨g1, g2, h⟩ := h
  refine q_iast ok kM_ok kM_37 g1 g2 dX10_widensNot_196 (wq_s (fun σ1 eσ1 => ?_))
  have h := h σ1 eσ1
  refine q_goto (tgt := 254) ok dX10_widensNot_197 (by decide) ?_
  exact w_X10_widensNot_J254 ok σ1 v1 v3 h
set_option maxRecDepth 100000 in
set_option maxHeartbeats 4000000 in
theorem w_X10_widensNot_J252 {X : Cx} {Y : Cy} {Q : St → Prop} (ok : Ok X Y KM cX10_widensNot 7 RX10 (rm0q 1 22) none) (σ : St) (v1 : Int) (v3 : Int) (s1 : Int) (s2 : Int) (s3 : Int) (h : f_X10_widensNot_J252 Q σ v1 v3 s1 s2 s3) : Wq X Y KM 7 (QF X Y (Qvq Y KM Q)) σ 252 [(0, .inr (.inr 0)), (1, .inl v1), (3, .inl v3)] [.inl s3, .inl s2, .inl s1, .inr (.inr 37)] := by
  unfold f_X10_widensNot_J252 at h
  refine q_isub ok dX10_widensNot_252 ?_
  obtain ⟨g1, g2, h⟩ := h
  refine q_iast ok kM_ok kM_37 g1 g2 dX10_widensNot_253 (wq_s (fun σ1 eσ1 => ?_))
  have h := h σ1 eσ1
  exact w_X10_widensNot_J254 ok σ1 v1 v3 h
set_option maxRecDepth 100000 in
set_option maxHeartbeats 4000000 in
theorem w_X10_widensNot_J225 {X : Cx} {Y : Cy} {Q : St → Prop} (ok : Ok X Y KM cX10_widensNot 7 RX10 (rm0q 1 22) none) (σ : St) (v1 : Int) (v3 : Int) (v4 : Int) (v6 : Int) (s1 : Int) (s2 : Int) (s3 : Int) (h : f_X10_widensNot_J225 Q σ v1 v3 v4 v6 s1 s2 s3) : Wq X Y KM 7 (QF X Y (Qvq Y KM Q)) σ 225 [(0, .inr (.inr 0)), (1, .inl v1), (3, .inl v3), (4, .inl v4), (6, .inl v6)] [.inl s3, .inl s2, .inl s1, .inr (.inr 37)] := by
  unfold f_X10_widensNot_J225 at h
  refine q_iadd ok dX10_widensNot_225 ?_
  obtain ⟨g1, g2, h⟩ := h
  refine q_iast ok kM_ok kM_37 g1 g2 dX10_widensNot_226 (wq_s (fun σ1 eσ1 => ?_))
  have h := h σ1 eσ1
  refine q_aload_n ok dX10_widensNot_227 0 rfl ?_
  refine q_getC ok fl_X10_119 kM_0 fM_0_59 dX10_widensNot_228 ?_
  refine q_iload ok dX10_widensNot_231 4 rfl ?_
  refine q_dup2 ok dX10_widensNot_233 rfl rfl ?_
  obtain ⟨g3, g4, h⟩ := h
  refine q_iald ok kM_ok kM_37 g3 g4 dX10_widensNot_234 ?_
  refine q_aload_n ok dX10_widensNot_235 0 rfl ?_
  refine q_getC ok fl_X10_119 kM_0 fM_0_59 dX10_widensNot_236 ?_
  refine q_iload ok dX10_widensNot_239 4 rfl ?_
  obtain ⟨g5, g6, h⟩ := h
  refine q_iald ok kM_ok kM_37 g5 g6 dX10_widensNot_241 ?_
  refine q_iload ok dX10_widensNot_242 3 rfl ?_
  obtain ⟨g7, g8, hT1a, hT1b⟩ := h
  refine q_icmp_ne (tgt := 251) ok dX10_widensNot_244 (by decide) g7 g8 (fun c1 => ?_) (fun c1 => ?_)
  · have h := hT1a c1
    refine q_iconst ok dX10_widensNot_251 ?_
    refine q_sub [0, 1, 2] rfl ?_
    exact w_X10_widensNot_J252 ok σ1 v1 v3 v6 (σ1 37 v6.toNat) 0 h
  · have h := hT1b c1
    refine q_iconst ok dX10_widensNot_247 ?_
    refine q_goto (tgt := 252) ok dX10_widensNot_248 (by decide) ?_
    refine q_sub [0, 1, 2] rfl ?_
    exact w_X10_widensNot_J252 ok σ1 v1 v3 v6 (σ1 37 v6.toNat) 1 h
set_option maxRecDepth 100000 in
set_option maxHeartbeats 4000000 in
theorem c_X10_widensNot (l : Launch) (Y : Cy) (hD : ∀ σ, va_D Y.2.2.2 (wsOf KM Y.2.1 Y.2.2.1 σ)) {a0 : Int} {a1 : Int} {σ : St} {Q : St → Prop} (h : f_X10_widensNot a0 a1 σ Q) : ConV l yX10_widensNot cX10_widensNot 7 (rm0q 1 22) Y KM σ [.inr (.inr 0), .inl a0, .inl a1] Q := con_of (lv := [(0, .inr (.inr 0)), (1, .inl a0), (2, .inl a1)]) (by decide) hD (Nat.le_of_ble_eq_true rfl) rfl (fun X _ ok => by
  have ok : Ok X Y KM cX10_widensNot 7 RX10 (rm0q 1 22) none := ok
  unfold f_X10_widensNot at h
  refine q_aload_n ok dX10_widensNot_0 0 rfl ?_
  refine q_getC ok fl_X10_46 kM_0 fM_0_17 dX10_widensNot_1 ?_
  refine q_iload_n ok dX10_widensNot_4 2 rfl ?_
  obtain ⟨g1, g2, h⟩ := h
  refine q_iald ok kM_ok kM_13 g1 g2 dX10_widensNot_5 ?_
  refine wq_i (fun x1 ex1 => ?_)
  have h := h x1 ex1
  refine q_istore_n (lv' := [(3, .inl x1), (0, .inr (.inr 0)), (1, .inl a0), (2, .inl a1)]) ok dX10_widensNot_6 (by decide) rfl ?_
  refine q_aload_n ok dX10_widensNot_7 1 rfl ?_
  refine q_getC ok fl_X10_49 kM_0 fM_0_18 dX10_widensNot_8 ?_
  refine q_iload_n ok dX10_widensNot_11 3 rfl ?_
  obtain ⟨g3, g4, h⟩ := h
  refine q_iald ok kM_ok kM_14 g3 g4 dX10_widensNot_12 ?_
  refine wq_i (fun x2 ex2 => ?_)
  have h := h x2 ex2
  refine q_istore (lv' := [(4, .inl x2), (3, .inl x1), (0, .inr (.inr 0)), (1, .inl a0), (2, .inl a1)]) ok dX10_widensNot_13 (by decide) rfl ?_
  refine q_iload_n ok dX10_widensNot_15 3 rfl ?_
  refine q_iconst ok dX10_widensNot_16 ?_
  refine q_iadd ok dX10_widensNot_17 ?_
  refine q_iload_n ok dX10_widensNot_18 1 rfl ?_
  refine q_iadd ok dX10_widensNot_19 ?_
  refine wq_i (fun x3 ex3 => ?_)
  have h := h x3 ex3
  refine q_istore (lv' := [(5, .inl x3), (4, .inl x2), (3, .inl x1), (0, .inr (.inr 0)), (1, .inl a0), (2, .inl a1)]) ok dX10_widensNot_20 (by decide) rfl ?_
  refine q_iload_n ok dX10_widensNot_22 4 rfl ?_
  refine q_iconst ok dX10_widensNot_23 ?_
  refine q_iadd ok dX10_widensNot_24 ?_
  refine q_iload_n ok dX10_widensNot_25 2 rfl ?_
  refine q_iadd ok dX10_widensNot_26 ?_
  refine wq_i (fun x4 ex4 => ?_)
  have h := h x4 ex4
  refine q_istore (lv' := [(6, .inl x4), (5, .inl x3), (4, .inl x2), (3, .inl x1), (0, .inr (.inr 0)), (1, .inl a0), (2, .inl a1)]) ok dX10_widensNot_27 (by decide) rfl ?_
  refine q_aload_n ok dX10_widensNot_29 4 rfl ?_
  refine q_getC ok fl_X10_43 kM_0 fM_0_16 dX10_widensNot_30 ?_
  refine q_iload_n ok dX10_widensNot_33 6 rfl ?_
  obtain ⟨g5, g6, h⟩ := h
  refine q_iald ok kM_ok kM_12 g5 g6 dX10_widensNot_34 ?_
  refine q_iconst ok dX10_widensNot_35 ?_
  obtain ⟨g7, hT7a, hT7b⟩ := h
  refine q_icmp_ge (tgt := 112) ok dX10_widensNot_36 (by decide) g7 (by unfold inR; decide) (fun c7 => ?_) (fun c7 => ?_)
  · have h := hT7a c7
    refine q_aload_n ok dX10_widensNot_112 4 rfl ?_
    refine q_getC ok fl_X10_43 kM_0 fM_0_16 dX10_widensNot_113 ?_
    refine q_iload_n ok dX10_widensNot_116 6 rfl ?_
    obtain ⟨g8, g9, h⟩ := h
    refine q_iald ok kM_ok kM_12 g8 g9 dX10_widensNot_117 ?_
    refine q_iconst ok dX10_widensNot_118 ?_
    obtain ⟨g10, hT5a, hT5b⟩ := h
    refine q_icmp_ne (tgt := 156) ok dX10_widensNot_119 (by decide) g10 (by unfold inR; decide) (fun c5 => ?_) (fun c5 => ?_)
    · have h := hT5a c5
      refine q_aload_n ok dX10_widensNot_156 4 rfl ?_
      refine q_getC ok fl_X10_43 kM_0 fM_0_16 dX10_widensNot_157 ?_
      refine q_iload_n ok dX10_widensNot_160 6 rfl ?_
      obtain ⟨g11, g12, h⟩ := h
      refine q_iald ok kM_ok kM_12 g11 g12 dX10_widensNot_161 ?_
      refine q_iconst ok dX10_widensNot_162 ?_
      obtain ⟨g13, hT3a, hT3b⟩ := h
      refine q_icmp_ne (tgt := 200) ok dX10_widensNot_163 (by decide) g13 (by unfold inR; decide) (fun c3 => ?_) (fun c3 => ?_)
      · have h := hT3a c3
        refine q_aload_n ok dX10_widensNot_200 4 rfl ?_
        refine q_getC ok fl_X10_119 kM_0 fM_0_59 dX10_widensNot_201 ?_
        refine q_iload ok dX10_widensNot_204 1 rfl ?_
        refine q_dup2 ok dX10_widensNot_206 rfl rfl ?_
        obtain ⟨g14, g15, h⟩ := h
        refine q_iald ok kM_ok kM_37 g14 g15 dX10_widensNot_207 ?_
        refine q_aload_n ok dX10_widensNot_208 4 rfl ?_
        refine q_getC ok fl_X10_119 kM_0 fM_0_59 dX10_widensNot_209 ?_
        refine q_iload ok dX10_widensNot_212 1 rfl ?_
        obtain ⟨g16, g17, h⟩ := h
        refine q_iald ok kM_ok kM_37 g16 g17 dX10_widensNot_214 ?_
        refine q_iload ok dX10_widensNot_215 2 rfl ?_
        obtain ⟨g18, g19, hT1a, hT1b⟩ := h
        refine q_icmp_ne (tgt := 224) ok dX10_widensNot_217 (by decide) g18 g19 (fun c1 => ?_) (fun c1 => ?_)
        · have h := hT1a c1
          refine q_iconst ok dX10_widensNot_224 ?_
          refine q_sub [4, 5, 3, 2, 0] rfl ?_
          exact w_X10_widensNot_J225 ok σ a0 x1 x2 x4 x3 (σ 37 x3.toNat) 0 h
        · have h := hT1b c1
          refine q_iconst ok dX10_widensNot_220 ?_
          refine q_goto (tgt := 225) ok dX10_widensNot_221 (by decide) ?_
          refine q_sub [4, 5, 3, 2, 0] rfl ?_
          exact w_X10_widensNot_J225 ok σ a0 x1 x2 x4 x3 (σ 37 x3.toNat) 1 h
      · have h := hT3b c3
        refine q_aload_n ok dX10_widensNot_166 4 rfl ?_
        refine q_getC ok fl_X10_119 kM_0 fM_0_59 dX10_widensNot_167 ?_
        refine q_iload ok dX10_widensNot_170 0 rfl ?_
        refine q_aload_n ok dX10_widensNot_172 4 rfl ?_
        refine q_getC ok fl_X10_119 kM_0 fM_0_59 dX10_widensNot_173 ?_
        refine q_iload ok dX10_widensNot_176 0 rfl ?_
        obtain ⟨g20, g21, h⟩ := h
        refine q_iald ok kM_ok kM_37 g20 g21 dX10_widensNot_178 ?_
        refine q_iload ok dX10_widensNot_179 2 rfl ?_
        obtain ⟨g22, g23, hT2a, hT2b⟩ := h
        refine q_icmp_le (tgt := 189) ok dX10_widensNot_181 (by decide) g22 g23 (fun c2 => ?_) (fun c2 => ?_)
        · have h := hT2a c2
          refine q_aload_n ok dX10_widensNot_189 4 rfl ?_
          refine q_getC ok fl_X10_119 kM_0 fM_0_59 dX10_widensNot_190 ?_
          refine q_iload ok dX10_widensNot_193 0 rfl ?_
          obtain ⟨g24, g25, h⟩ := h
          refine q_iald ok kM_ok kM_37 g24 g25 dX10_widensNot_195 ?_
          refine q_sub [4, 5, 3] rfl ?_
          exact w_X10_widensNot_J196 ok σ a0 x1 x4 (σ 37 x4.toNat) h
        · have h := hT2b c2
          refine q_iload ok dX10_widensNot_184 2 rfl ?_
          refine q_goto (tgt := 196) ok dX10_widensNot_186 (by decide) ?_
          refine q_sub [4, 5, 3] rfl ?_
          exact w_X10_widensNot_J196 ok σ a0 x1 x4 x2 h
    · have h := hT5b c5
      refine q_aload_n ok dX10_widensNot_122 4 rfl ?_
      refine q_getC ok fl_X10_119 kM_0 fM_0_59 dX10_widensNot_123 ?_
      refine q_iload ok dX10_widensNot_126 1 rfl ?_
      refine q_aload_n ok dX10_widensNot_128 4 rfl ?_
      refine q_getC ok fl_X10_119 kM_0 fM_0_59 dX10_widensNot_129 ?_
      refine q_iload ok dX10_widensNot_132 1 rfl ?_
      obtain ⟨g26, g27, h⟩ := h
      refine q_iald ok kM_ok kM_37 g26 g27 dX10_widensNot_134 ?_
      refine q_iload ok dX10_widensNot_135 2 rfl ?_
      obtain ⟨g28, g29, hT4a, hT4b⟩ := h
      refine q_icmp_ge (tgt := 145) ok dX10_widensNot_137 (by decide) g28 g29 (fun c4 => ?_) (fun c4 => ?_)
      · have h := hT4a c4
        refine q_aload_n ok dX10_widensNot_145 4 rfl ?_
        refine q_getC ok fl_X10_119 kM_0 fM_0_59 dX10_widensNot_146 ?_
        refine q_iload ok dX10_widensNot_149 1 rfl ?_
        obtain ⟨g30, g31, h⟩ := h
        refine q_iald ok kM_ok kM_37 g30 g31 dX10_widensNot_151 ?_
        refine q_sub [4, 5, 3] rfl ?_
        exact w_X10_widensNot_J152 ok σ a0 x1 x3 (σ 37 x3.toNat) h
      · have h := hT4b c4
        refine q_iload ok dX10_widensNot_140 2 rfl ?_
        refine q_goto (tgt := 152) ok dX10_widensNot_142 (by decide) ?_
        refine q_sub [4, 5, 3] rfl ?_
        exact w_X10_widensNot_J152 ok σ a0 x1 x3 x2 h
  · have h := hT7b c7
    refine q_aload_n ok dX10_widensNot_39 4 rfl ?_
    refine q_getC ok fl_X10_119 kM_0 fM_0_59 dX10_widensNot_40 ?_
    refine q_iload_n ok dX10_widensNot_43 5 rfl ?_
    refine q_bipush ok dX10_widensNot_44 rfl ?_
    refine q_iadd ok dX10_widensNot_46 ?_
    refine q_dup2 ok dX10_widensNot_47 rfl rfl ?_
    obtain ⟨g32, g33, h⟩ := h
    refine q_iald ok kM_ok kM_37 g32 g33 dX10_widensNot_48 ?_
    refine q_iconst ok dX10_widensNot_49 ?_
    refine q_iconst ok dX10_widensNot_50 ?_
    refine q_iload_n ok dX10_widensNot_51 3 rfl ?_
    refine q_imul ok dX10_widensNot_52 ?_
    refine q_aload_n ok dX10_widensNot_53 4 rfl ?_
    refine q_getC ok fl_X10_43 kM_0 fM_0_16 dX10_widensNot_54 ?_
    refine q_iload_n ok dX10_widensNot_57 6 rfl ?_
    obtain ⟨g34, g35, h⟩ := h
    refine q_iald ok kM_ok kM_12 g34 g35 dX10_widensNot_58 ?_
    obtain ⟨g36, hT6a, hT6b⟩ := h
    refine q_if_ne (tgt := 66) ok dX10_widensNot_59 (by decide) g36 (fun c6 => ?_) (fun c6 => ?_)
    · have h := hT6a c6
      refine q_iconst ok dX10_widensNot_66 ?_
      refine q_sub [4, 5, 3] rfl ?_
      exact w_X10_widensNot_J67 ok σ a0 x1 (a0 + 7) (σ 37 (a0 + 7).toNat) 1 (2 * x1) 0 h
    · have h := hT6b c6
      refine q_iconst ok dX10_widensNot_62 ?_
      refine q_goto (tgt := 67) ok dX10_widensNot_63 (by decide) ?_
      refine q_sub [4, 5, 3] rfl ?_
      exact w_X10_widensNot_J67 ok σ a0 x1 (a0 + 7) (σ 37 (a0 + 7).toNat) 1 (2 * x1) 1 h)
/-! BranchingStoryModel.truePart(II)V -/
def f_X10_truePart_L20 (Q : St → Prop) : Nat → St → Int → Int → Int → Prop
  | 0, _, _, _, _ => False
  | n + 1, σ, v1, v2, v3 => 0 ≤ v1 ∧ v1 < 401 ∧ inR v3 ∧ inR (σ 11 v1.toNat) ∧ (((σ 11 v1.toNat) ≤ v3 → Q σ) ∧ (¬ (σ 11 v1.toNat) ≤ v3 → 0 ≤ v2 ∧ v2 < 150 ∧ inR (σ 37 v2.toNat) ∧ ((¬ (σ 37 v2.toNat) = 1 → Q σ) ∧ ((σ 37 v2.toNat) = 1 → f_X10_narrows v2 v3 σ (fun σ1 => f_X10_truePart_L20 Q n σ1 v1 v2 (v3 + 1))))))
def f_X10_truePart (a0 : Int) (a1 : Int) (σ : St) (Q : St → Prop) : Prop :=
  f_X10_copies 37 0 37 a1 σ (fun σ1 => 0 ≤ a0 ∧ a0 < 401 ∧ ∀ x1 : Int, x1 = (σ1 10 a0.toNat) → f_X10_truePart_L20 Q FU σ1 a0 a1 x1)
set_option maxRecDepth 100000 in
set_option maxHeartbeats 4000000 in
theorem w_X10_truePart_L20 {X : Cx} {Y : Cy} {Q : St → Prop} (ok : Ok X Y KM cX10_truePart 4 RX10 (rm0q 2 49) none) : ∀ (n : Nat) (σ : St) (v1 : Int) (v2 : Int) (v3 : Int) , f_X10_truePart_L20 Q n σ v1 v2 v3 → Wq X Y KM 4 (QF X Y (Qvq Y KM Q)) σ 20 [(0, .inr (.inr 0)), (1, .inl v1), (2, .inl v2), (3, .inl v3)] [] := by
  intro n
  induction n with
  | zero => intro σ v1 v2 v3 h; exact h.elim
  | succ n ih =>
    intro σ v1 v2 v3 h
    rw [f_X10_truePart_L20] at h
    refine q_iload_n ok dX10_truePart_20 3 rfl ?_
    refine q_aload_n ok dX10_truePart_21 0 rfl ?_
    refine q_getC ok fl_X10_40 kM_0 fM_0_14 dX10_truePart_22 ?_
    refine q_iload_n ok dX10_truePart_25 1 rfl ?_
    obtain ⟨g1, g2, h⟩ := h
    refine q_iald ok kM_ok kM_11 g1 g2 dX10_truePart_26 ?_
    obtain ⟨g3, g4, hT2a, hT2b⟩ := h
    refine q_icmp_ge (tgt := 52) ok dX10_truePart_27 (by decide) g3 g4 (fun c2 => ?_) (fun c2 => ?_)
    · have h := hT2a c2
      exact q_vret ok dX10_truePart_52 h
    · have h := hT2b c2
      refine q_aload_n ok dX10_truePart_30 0 rfl ?_
      refine q_getC ok fl_X10_119 kM_0 fM_0_59 dX10_truePart_31 ?_
      refine q_iload_n ok dX10_truePart_34 2 rfl ?_
      obtain ⟨g5, g6, h⟩ := h
      refine q_iald ok kM_ok kM_37 g5 g6 dX10_truePart_35 ?_
      refine q_iconst ok dX10_truePart_36 ?_
      obtain ⟨g7, hT1a, hT1b⟩ := h
      refine q_icmp_ne (tgt := 52) ok dX10_truePart_37 (by decide) g7 (by unfold inR; decide) (fun c1 => ?_) (fun c1 => ?_)
      · have h := hT1a c1
        exact q_vret ok dX10_truePart_52 h
      · have h := hT1b c1
        refine q_aload_n ok dX10_truePart_40 0 rfl ?_
        refine q_iload_n ok dX10_truePart_41 2 rfl ?_
        refine q_iload_n ok dX10_truePart_42 3 rfl ?_
        refine q_callVV (st := []) ok cs_X10_384 kM_0 rfl (c_X10_narrows X.2.1 Y ok.2.2.2.2.2.2.2.2 h) ⟨rfl, rfl, Nat.le_of_ble_eq_true rfl, Nat.le_of_ble_eq_true rfl⟩ rfl rfl (Nat.le_of_ble_eq_true rfl) dX10_truePart_43 (fun σ1 h => ?_)
        refine q_iinc (lv' := [(3, .inl (v3 + 1)), (0, .inr (.inr 0)), (1, .inl v1), (2, .inl v2)]) ok dX10_truePart_46 3 rfl (by decide) rfl ?_
        refine q_goto (tgt := 20) ok dX10_truePart_49 (by decide) ?_
        refine q_sub [1, 2, 3, 0] rfl ?_
        exact ih σ1 v1 v2 (v3 + 1) h
set_option maxRecDepth 100000 in
set_option maxHeartbeats 4000000 in
theorem c_X10_truePart (l : Launch) (Y : Cy) (hD : ∀ σ, va_D Y.2.2.2 (wsOf KM Y.2.1 Y.2.2.1 σ)) {a0 : Int} {a1 : Int} {σ : St} {Q : St → Prop} (h : f_X10_truePart a0 a1 σ Q) : ConV l yX10_truePart cX10_truePart 4 (rm0q 2 49) Y KM σ [.inr (.inr 0), .inl a0, .inl a1] Q := con_of (lv := [(0, .inr (.inr 0)), (1, .inl a0), (2, .inl a1)]) (by decide) hD (Nat.le_of_ble_eq_true rfl) rfl (fun X _ ok => by
  have ok : Ok X Y KM cX10_truePart 4 RX10 (rm0q 2 49) none := ok
  unfold f_X10_truePart at h
  refine q_aload_n ok dX10_truePart_0 0 rfl ?_
  refine q_getC ok fl_X10_119 kM_0 fM_0_59 dX10_truePart_1 ?_
  refine q_iconst ok dX10_truePart_4 ?_
  refine q_aload_n ok dX10_truePart_5 0 rfl ?_
  refine q_getC ok fl_X10_119 kM_0 fM_0_59 dX10_truePart_6 ?_
  refine q_iload_n ok dX10_truePart_9 2 rfl ?_
  refine q_callSV (st := []) ok cs_X10_371 (c_X10_copies X.2.1 Y ok.2.2.2.2.2.2.2.2 h) ⟨rfl, rfl, Nat.le_of_ble_eq_true rfl, Nat.le_of_ble_eq_true rfl⟩ rfl rfl (Nat.le_of_ble_eq_true rfl) dX10_truePart_10 (fun σ1 h => ?_)
  refine q_aload_n ok dX10_truePart_13 0 rfl ?_
  refine q_getC ok fl_X10_37 kM_0 fM_0_13 dX10_truePart_14 ?_
  refine q_iload_n ok dX10_truePart_17 1 rfl ?_
  obtain ⟨g1, g2, h⟩ := h
  refine q_iald ok kM_ok kM_10 g1 g2 dX10_truePart_18 ?_
  refine wq_i (fun x1 ex1 => ?_)
  have h := h x1 ex1
  refine q_istore_n (lv' := [(3, .inl x1), (0, .inr (.inr 0)), (1, .inl a0), (2, .inl a1)]) ok dX10_truePart_19 (by decide) rfl ?_
  refine q_sub [1, 2, 3, 0] rfl ?_
  exact w_X10_truePart_L20 ok FU σ1 a0 a1 x1 h)
/-! BranchingStoryModel.falsePart(II)V -/
def f_X10_falsePart (a0 : Int) (a1 : Int) (σ : St) (Q : St → Prop) : Prop :=
  f_X10_copies 37 0 37 a1 σ (fun σ1 => 0 ≤ a0 ∧ a0 < 401 ∧ 0 ≤ a0 ∧ a0 < 401 ∧ inR ((σ1 11 a0.toNat) - (σ1 10 a0.toNat)) ∧ ((¬ ((σ1 11 a0.toNat) - (σ1 10 a0.toNat)) = 1 → Q σ1) ∧ (((σ1 11 a0.toNat) - (σ1 10 a0.toNat)) = 1 → 0 ≤ a0 ∧ a0 < 401 ∧ f_X10_widensNot a1 (σ1 10 a0.toNat) σ1 (fun σ2 => Q σ2))))
set_option maxRecDepth 100000 in
set_option maxHeartbeats 4000000 in
theorem c_X10_falsePart (l : Launch) (Y : Cy) (hD : ∀ σ, va_D Y.2.2.2 (wsOf KM Y.2.1 Y.2.2.1 σ)) {a0 : Int} {a1 : Int} {σ : St} {Q : St → Prop} (h : f_X10_falsePart a0 a1 σ Q) : ConV l yX10_falsePart cX10_falsePart 3 (rm0q 2 48) Y KM σ [.inr (.inr 0), .inl a0, .inl a1] Q := con_of (lv := [(0, .inr (.inr 0)), (1, .inl a0), (2, .inl a1)]) (by decide) hD (Nat.le_of_ble_eq_true rfl) rfl (fun X _ ok => by
  have ok : Ok X Y KM cX10_falsePart 3 RX10 (rm0q 2 48) none := ok
  unfold f_X10_falsePart at h
  refine q_aload_n ok dX10_falsePart_0 0 rfl ?_
  refine q_getC ok fl_X10_119 kM_0 fM_0_59 dX10_falsePart_1 ?_
  refine q_iconst ok dX10_falsePart_4 ?_
  refine q_aload_n ok dX10_falsePart_5 0 rfl ?_
  refine q_getC ok fl_X10_119 kM_0 fM_0_59 dX10_falsePart_6 ?_
  refine q_iload_n ok dX10_falsePart_9 2 rfl ?_
  refine q_callSV (st := []) ok cs_X10_371 (c_X10_copies X.2.1 Y ok.2.2.2.2.2.2.2.2 h) ⟨rfl, rfl, Nat.le_of_ble_eq_true rfl, Nat.le_of_ble_eq_true rfl⟩ rfl rfl (Nat.le_of_ble_eq_true rfl) dX10_falsePart_10 (fun σ1 h => ?_)
  refine q_aload_n ok dX10_falsePart_13 0 rfl ?_
  refine q_getC ok fl_X10_40 kM_0 fM_0_14 dX10_falsePart_14 ?_
  refine q_iload_n ok dX10_falsePart_17 1 rfl ?_
  obtain ⟨g1, g2, h⟩ := h
  refine q_iald ok kM_ok kM_11 g1 g2 dX10_falsePart_18 ?_
  refine q_aload_n ok dX10_falsePart_19 0 rfl ?_
  refine q_getC ok fl_X10_37 kM_0 fM_0_13 dX10_falsePart_20 ?_
  refine q_iload_n ok dX10_falsePart_23 1 rfl ?_
  obtain ⟨g3, g4, h⟩ := h
  refine q_iald ok kM_ok kM_10 g3 g4 dX10_falsePart_24 ?_
  refine q_isub ok dX10_falsePart_25 ?_
  refine q_iconst ok dX10_falsePart_26 ?_
  obtain ⟨g5, hT1a, hT1b⟩ := h
  refine q_icmp_ne (tgt := 41) ok dX10_falsePart_27 (by decide) g5 (by unfold inR; decide) (fun c1 => ?_) (fun c1 => ?_)
  · have h := hT1a c1
    exact q_vret ok dX10_falsePart_41 h
  · have h := hT1b c1
    refine q_aload_n ok dX10_falsePart_30 0 rfl ?_
    refine q_iload_n ok dX10_falsePart_31 2 rfl ?_
    refine q_aload_n ok dX10_falsePart_32 0 rfl ?_
    refine q_getC ok fl_X10_37 kM_0 fM_0_13 dX10_falsePart_33 ?_
    refine q_iload_n ok dX10_falsePart_36 1 rfl ?_
    obtain ⟨g6, g7, h⟩ := h
    refine q_iald ok kM_ok kM_10 g6 g7 dX10_falsePart_37 ?_
    refine q_callVV (st := []) ok cs_X10_387 kM_0 rfl (c_X10_widensNot X.2.1 Y ok.2.2.2.2.2.2.2.2 h) ⟨rfl, rfl, Nat.le_of_ble_eq_true rfl, Nat.le_of_ble_eq_true rfl⟩ rfl rfl (Nat.le_of_ble_eq_true rfl) dX10_falsePart_38 (fun σ2 h => ?_)
    exact q_vret ok dX10_falsePart_41 h)
/-! BranchingStoryModel.falseOf(I)I -/
def f_X10_falseOf (a0 : Int) (σ : St) (Q : St → Int → Prop) : Prop :=
  Q σ (9 + (18 * a0))
set_option maxRecDepth 100000 in
set_option maxHeartbeats 4000000 in
theorem c_X10_falseOf (l : Launch) (Y : Cy) (hD : ∀ σ, va_D Y.2.2.2 (wsOf KM Y.2.1 Y.2.2.1 σ)) {a0 : Int} {σ : St} {Q : St → Int → Prop} (h : f_X10_falseOf a0 σ Q) : ConI l yX10_falseOf cX10_falseOf 1 .int (rm0q 0 0) Y KM σ [.inl a0] Q := con_of (lv := [(0, .inl a0)]) (by decide) hD (Nat.le_of_ble_eq_true rfl) rfl (fun X _ ok => by
  have ok : Ok X Y KM cX10_falseOf 1 RX10 (rm0q 0 0) (some .int) := ok
  unfold f_X10_falseOf at h
  refine q_bipush ok dX10_falseOf_0 rfl ?_
  refine q_bipush ok dX10_falseOf_2 rfl ?_
  refine q_iload_n ok dX10_falseOf_4 0 rfl ?_
  refine q_imul ok dX10_falseOf_5 ?_
  refine q_iadd ok dX10_falseOf_6 ?_
  exact q_iret ok dX10_falseOf_7 h)
/-! BranchingStoryModel.firstOf(I)I -/
def f_X10_firstOf (a0 : Int) (σ : St) (Q : St → Int → Prop) : Prop :=
  Q σ (18 + (18 * a0))
set_option maxRecDepth 100000 in
set_option maxHeartbeats 4000000 in
theorem c_X10_firstOf (l : Launch) (Y : Cy) (hD : ∀ σ, va_D Y.2.2.2 (wsOf KM Y.2.1 Y.2.2.1 σ)) {a0 : Int} {σ : St} {Q : St → Int → Prop} (h : f_X10_firstOf a0 σ Q) : ConI l yX10_firstOf cX10_firstOf 1 .int (rm0q 0 0) Y KM σ [.inl a0] Q := con_of (lv := [(0, .inl a0)]) (by decide) hD (Nat.le_of_ble_eq_true rfl) rfl (fun X _ ok => by
  have ok : Ok X Y KM cX10_firstOf 1 RX10 (rm0q 0 0) (some .int) := ok
  unfold f_X10_firstOf at h
  refine q_bipush ok dX10_firstOf_0 rfl ?_
  refine q_bipush ok dX10_firstOf_2 rfl ?_
  refine q_iload_n ok dX10_firstOf_4 0 rfl ?_
  refine q_imul ok dX10_firstOf_5 ?_
  refine q_iadd ok dX10_firstOf_6 ?_
  exact q_iret ok dX10_firstOf_7 h)
/-! BranchingStoryModel.opensTest(I)V -/
def f_X10_opensTest (a0 : Int) (σ : St) (Q : St → Prop) : Prop :=
  ∀ x1 : Int, x1 = (σ 0 66) → ∀ σ1 : St, σ1 = sset σ 0 66 ((σ 0 66) + 1) → 0 ≤ x1 ∧ x1 < 8 ∧ ∀ σ2 : St, σ2 = sset σ1 38 x1.toNat a0 → 0 ≤ x1 ∧ x1 < 8 ∧ ∀ σ3 : St, σ3 = sset σ2 43 x1.toNat 0 → 0 ≤ x1 ∧ x1 < 8 ∧ ∀ σ4 : St, σ4 = sset σ3 39 x1.toNat (σ3 0 67) → 0 ≤ x1 ∧ x1 < 8 ∧ ∀ σ5 : St, σ5 = sset σ4 40 x1.toNat (σ4 0 68) → f_X10_falseOf x1 σ5 (fun σ6 r1 => f_X10_falsePart a0 r1 σ6 (fun σ7 => f_X10_truePart a0 132 σ7 (fun σ8 => 0 ≤ a0 ∧ a0 < 401 ∧ f_X10_falseOf x1 σ8 (fun σ9 r2 => 0 ≤ r2 ∧ r2 < 150 ∧ 0 ≤ (σ8 4 a0.toNat) ∧ (σ8 4 a0.toNat) < 16 ∧ ∀ σ10 : St, σ10 = sset σ9 44 (σ8 4 a0.toNat).toNat ((σ8 37 132) + (2 * (σ9 37 r2.toNat))) → f_X10_copies 37 132 37 0 σ10 (fun σ11 => 0 ≤ a0 ∧ a0 < 401 ∧ ∀ σ12 : St, σ12 = sset σ11 0 49 (σ11 8 a0.toNat) → 0 ≤ (σ12 0 49) ∧ (σ12 0 49) < 64 ∧ ∀ σ13 : St, σ13 = sset σ12 0 48 (σ12 17 (σ12 0 49).toNat) → Q σ13)))))
set_option maxRecDepth 100000 in
set_option maxHeartbeats 4000000 in
theorem c_X10_opensTest (l : Launch) (Y : Cy) (hD : ∀ σ, va_D Y.2.2.2 (wsOf KM Y.2.1 Y.2.2.1 σ)) {a0 : Int} {σ : St} {Q : St → Prop} (h : f_X10_opensTest a0 σ Q) : ConV l yX10_opensTest cX10_opensTest 3 (rm0q 3 72) Y KM σ [.inr (.inr 0), .inl a0] Q := con_of (lv := [(0, .inr (.inr 0)), (1, .inl a0)]) (by decide) hD (Nat.le_of_ble_eq_true rfl) rfl (fun X _ ok => by
  have ok : Ok X Y KM cX10_opensTest 3 RX10 (rm0q 3 72) none := ok
  unfold f_X10_opensTest at h
  refine q_aload_n ok dX10_opensTest_0 0 rfl ?_
  refine q_getI ok fl_X10_390 kM_0 fM_0_66 dX10_opensTest_1 ?_
  refine wq_i (fun x1 ex1 => ?_)
  have h := h x1 ex1
  refine q_istore_n (lv' := [(2, .inl x1), (0, .inr (.inr 0)), (1, .inl a0)]) ok dX10_opensTest_4 (by decide) rfl ?_
  refine q_aload_n ok dX10_opensTest_5 1 rfl ?_
  refine q_dup ok dX10_opensTest_6 rfl ?_
  refine q_getI ok fl_X10_390 kM_0 fM_0_66 dX10_opensTest_7 ?_
  refine q_iconst ok dX10_opensTest_10 ?_
  refine q_iadd ok dX10_opensTest_11 ?_
  refine q_putI ok fp_X10_390 kM_0 fM_0_66 dX10_opensTest_12 (wq_s (fun σ1 eσ1 => ?_))
  have h := h σ1 eσ1
  refine q_aload_n ok dX10_opensTest_15 1 rfl ?_
  refine q_getC ok fl_X10_122 kM_0 fM_0_60 dX10_opensTest_16 ?_
  refine q_iload_n ok dX10_opensTest_19 0 rfl ?_
  refine q_iload_n ok dX10_opensTest_20 2 rfl ?_
  obtain ⟨g1, g2, h⟩ := h
  refine q_iast ok kM_ok kM_38 g1 g2 dX10_opensTest_21 (wq_s (fun σ2 eσ2 => ?_))
  have h := h σ2 eσ2
  refine q_aload_n ok dX10_opensTest_22 1 rfl ?_
  refine q_getC ok fl_X10_137 kM_0 fM_0_65 dX10_opensTest_23 ?_
  refine q_iload_n ok dX10_opensTest_26 0 rfl ?_
  refine q_iconst ok dX10_opensTest_27 ?_
  obtain ⟨g3, g4, h⟩ := h
  refine q_zast ok kM_ok kM_43 g3 g4 (by decide) dX10_opensTest_28 (wq_s (fun σ3 eσ3 => ?_))
  have h := h σ3 eσ3
  refine q_aload_n ok dX10_opensTest_29 1 rfl ?_
  refine q_getC ok fl_X10_125 kM_0 fM_0_61 dX10_opensTest_30 ?_
  refine q_iload_n ok dX10_opensTest_33 0 rfl ?_
  refine q_aload_n ok dX10_opensTest_34 1 rfl ?_
  refine q_getI ok fl_X10_393 kM_0 fM_0_67 dX10_opensTest_35 ?_
  obtain ⟨g5, g6, h⟩ := h
  refine q_iast ok kM_ok kM_39 g5 g6 dX10_opensTest_38 (wq_s (fun σ4 eσ4 => ?_))
  have h := h σ4 eσ4
  refine q_aload_n ok dX10_opensTest_39 1 rfl ?_
  refine q_getC ok fl_X10_128 kM_0 fM_0_62 dX10_opensTest_40 ?_
  refine q_iload_n ok dX10_opensTest_43 0 rfl ?_
  refine q_aload_n ok dX10_opensTest_44 1 rfl ?_
  refine q_getI ok fl_X10_396 kM_0 fM_0_68 dX10_opensTest_45 ?_
  obtain ⟨g7, g8, h⟩ := h
  refine q_iast ok kM_ok kM_40 g7 g8 dX10_opensTest_48 (wq_s (fun σ5 eσ5 => ?_))
  have h := h σ5 eσ5
  refine q_aload_n ok dX10_opensTest_49 1 rfl ?_
  refine q_iload_n ok dX10_opensTest_50 2 rfl ?_
  refine q_iload_n ok dX10_opensTest_51 0 rfl ?_
  refine q_callSI (st := [.inl a0, .inr (.inr 0)]) ok cs_X10_399 (c_X10_falseOf X.2.1 Y ok.2.2.2.2.2.2.2.2 h) ⟨rfl, rfl, Nat.le_of_ble_eq_true rfl, Nat.le_of_ble_eq_true rfl⟩ rfl rfl (Nat.le_of_ble_eq_true rfl) dX10_opensTest_52 (fun σ6 r1 h => ?_)
  refine q_callVV (st := []) ok cs_X10_402 kM_0 rfl (c_X10_falsePart X.2.1 Y ok.2.2.2.2.2.2.2.2 h) ⟨rfl, rfl, Nat.le_of_ble_eq_true rfl, Nat.le_of_ble_eq_true rfl⟩ rfl rfl (Nat.le_of_ble_eq_true rfl) dX10_opensTest_55 (fun σ7 h => ?_)
  refine q_aload_n ok dX10_opensTest_58 1 rfl ?_
  refine q_iload_n ok dX10_opensTest_59 2 rfl ?_
  refine q_sipush ok dX10_opensTest_60 rfl ?_
  refine q_callVV (st := []) ok cs_X10_405 kM_0 rfl (c_X10_truePart X.2.1 Y ok.2.2.2.2.2.2.2.2 h) ⟨rfl, rfl, Nat.le_of_ble_eq_true rfl, Nat.le_of_ble_eq_true rfl⟩ rfl rfl (Nat.le_of_ble_eq_true rfl) dX10_opensTest_63 (fun σ8 h => ?_)
  refine q_aload_n ok dX10_opensTest_66 1 rfl ?_
  refine q_getC ok fl_X10_140 kM_0 fM_0_71 dX10_opensTest_67 ?_
  refine q_aload_n ok dX10_opensTest_70 1 rfl ?_
  refine q_getC ok fl_X10_19 kM_0 fM_0_7 dX10_opensTest_71 ?_
  refine q_iload_n ok dX10_opensTest_74 2 rfl ?_
  obtain ⟨g9, g10, h⟩ := h
  refine q_iald ok kM_ok kM_4 g9 g10 dX10_opensTest_75 ?_
  refine q_aload_n ok dX10_opensTest_76 1 rfl ?_
  refine q_getC ok fl_X10_119 kM_0 fM_0_59 dX10_opensTest_77 ?_
  refine q_sipush ok dX10_opensTest_80 rfl ?_
  refine q_iald ok kM_ok kM_37 (by decide) (by decide) dX10_opensTest_83 ?_
  refine q_iconst ok dX10_opensTest_84 ?_
  refine q_aload_n ok dX10_opensTest_85 1 rfl ?_
  refine q_getC ok fl_X10_119 kM_0 fM_0_59 dX10_opensTest_86 ?_
  refine q_iload_n ok dX10_opensTest_89 0 rfl ?_
  refine q_callSI (st := [.inr (.inr 37), .inl 2, .inl (σ8 37 132), .inl (σ8 4 a0.toNat), .inr (.inr 44)]) ok cs_X10_399 (c_X10_falseOf X.2.1 Y ok.2.2.2.2.2.2.2.2 h) ⟨rfl, rfl, Nat.le_of_ble_eq_true rfl, Nat.le_of_ble_eq_true rfl⟩ rfl rfl (Nat.le_of_ble_eq_true rfl) dX10_opensTest_90 (fun σ9 r2 h => ?_)
  obtain ⟨g11, g12, h⟩ := h
  refine q_iald ok kM_ok kM_37 g11 g12 dX10_opensTest_93 ?_
  refine q_imul ok dX10_opensTest_94 ?_
  refine q_iadd ok dX10_opensTest_95 ?_
  obtain ⟨g13, g14, h⟩ := h
  refine q_iast ok kM_ok kM_44 g13 g14 dX10_opensTest_96 (wq_s (fun σ10 eσ10 => ?_))
  have h := h σ10 eσ10
  refine q_aload_n ok dX10_opensTest_97 1 rfl ?_
  refine q_getC ok fl_X10_119 kM_0 fM_0_59 dX10_opensTest_98 ?_
  refine q_sipush ok dX10_opensTest_101 rfl ?_
  refine q_aload_n ok dX10_opensTest_104 1 rfl ?_
  refine q_getC ok fl_X10_119 kM_0 fM_0_59 dX10_opensTest_105 ?_
  refine q_iconst ok dX10_opensTest_108 ?_
  refine q_callSV (st := []) ok cs_X10_371 (c_X10_copies X.2.1 Y ok.2.2.2.2.2.2.2.2 h) ⟨rfl, rfl, Nat.le_of_ble_eq_true rfl, Nat.le_of_ble_eq_true rfl⟩ rfl rfl (Nat.le_of_ble_eq_true rfl) dX10_opensTest_109 (fun σ11 h => ?_)
  refine q_aload_n ok dX10_opensTest_112 1 rfl ?_
  refine q_aload_n ok dX10_opensTest_113 1 rfl ?_
  refine q_getC ok fl_X10_31 kM_0 fM_0_11 dX10_opensTest_114 ?_
  refine q_iload_n ok dX10_opensTest_117 2 rfl ?_
  obtain ⟨g15, g16, h⟩ := h
  refine q_iald ok kM_ok kM_8 g15 g16 dX10_opensTest_118 ?_
  refine q_putI ok fp_X10_289 kM_0 fM_0_49 dX10_opensTest_119 (wq_s (fun σ12 eσ12 => ?_))
  have h := h σ12 eσ12
  refine q_aload_n ok dX10_opensTest_122 1 rfl ?_
  refine q_aload_n ok dX10_opensTest_123 1 rfl ?_
  refine q_getC ok fl_X10_58 kM_0 fM_0_22 dX10_opensTest_124 ?_
  refine q_aload_n ok dX10_opensTest_127 1 rfl ?_
  refine q_getI ok fl_X10_289 kM_0 fM_0_49 dX10_opensTest_128 ?_
  obtain ⟨g17, g18, h⟩ := h
  refine q_iald ok kM_ok kM_17 g17 g18 dX10_opensTest_131 ?_
  refine q_putI ok fp_X10_292 kM_0 fM_0_48 dX10_opensTest_132 (wq_s (fun σ13 eσ13 => ?_))
  have h := h σ13 eσ13
  exact q_vret ok dX10_opensTest_135 h)
