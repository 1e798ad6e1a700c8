theorem dX10_thrown_0 : decode cX10_thrown 0 = .ok (.aload_n 0, 1) := by decide +kernel
theorem dX10_thrown_1 : decode cX10_thrown 1 = .ok (.getfield 143, 3) := by decide +kernel
theorem dX10_thrown_4 : decode cX10_thrown 4 = .ok (.ireturn, 1) := by decide +kernel
theorem dX10_fails_0 : decode cX10_fails 0 = .ok (.aload_n 0, 1) := by decide +kernel
theorem dX10_fails_1 : decode cX10_fails 1 = .ok (.iload_n 1, 1) := by decide +kernel
theorem dX10_fails_2 : decode cX10_fails 2 = .ok (.putfield 143, 3) := by decide +kernel
theorem dX10_fails_5 : decode cX10_fails 5 = .ok (.iconst 0, 1) := by decide +kernel
theorem dX10_fails_6 : decode cX10_fails 6 = .ok (.ireturn, 1) := by decide +kernel
theorem dX10_in_0 : decode cX10_in 0 = .ok (.iload_n 0, 1) := by decide +kernel
theorem dX10_in_1 : decode cX10_in 1 = .ok (.iload_n 1, 1) := by decide +kernel
theorem dX10_in_2 : decode cX10_in 2 = .ok (.if_icmp .lt 12, 3) := by decide +kernel
theorem dX10_in_5 : decode cX10_in 5 = .ok (.iload_n 0, 1) := by decide +kernel
theorem dX10_in_6 : decode cX10_in 6 = .ok (.iload_n 2, 1) := by decide +kernel
theorem dX10_in_7 : decode cX10_in 7 = .ok (.if_icmp .gt 7, 3) := by decide +kernel
theorem dX10_in_10 : decode cX10_in 10 = .ok (.iconst 1, 1) := by decide +kernel
theorem dX10_in_11 : decode cX10_in 11 = .ok (.goto 4, 3) := by decide +kernel
theorem dX10_in_14 : decode cX10_in 14 = .ok (.iconst 0, 1) := by decide +kernel
theorem dX10_in_15 : decode cX10_in 15 = .ok (.ireturn, 1) := by decide +kernel
theorem dX10_here_0 : decode cX10_here 0 = .ok (.aload_n 0, 1) := by decide +kernel
theorem dX10_here_1 : decode cX10_here 1 = .ok (.getfield 147, 3) := by decide +kernel
theorem dX10_here_4 : decode cX10_here 4 = .ok (.ifCond .eq 10, 3) := by decide +kernel
theorem dX10_here_7 : decode cX10_here 7 = .ok (.aload_n 0, 1) := by decide +kernel
theorem dX10_here_8 : decode cX10_here 8 = .ok (.getfield 13, 3) := by decide +kernel
theorem dX10_here_11 : decode cX10_here 11 = .ok (.goto 7, 3) := by decide +kernel
theorem dX10_here_14 : decode cX10_here 14 = .ok (.aload_n 0, 1) := by decide +kernel
theorem dX10_here_15 : decode cX10_here 15 = .ok (.getfield 7, 3) := by decide +kernel
theorem dX10_here_18 : decode cX10_here 18 = .ok (.astore_n 1, 1) := by decide +kernel
theorem dX10_here_19 : decode cX10_here 19 = .ok (.aload_n 0, 1) := by decide +kernel
theorem dX10_here_20 : decode cX10_here 20 = .ok (.getfield 151, 3) := by decide +kernel
theorem dX10_here_23 : decode cX10_here 23 = .ok (.aload_n 0, 1) := by decide +kernel
theorem dX10_here_24 : decode cX10_here 24 = .ok (.getfield 154, 3) := by decide +kernel
theorem dX10_here_27 : decode cX10_here 27 = .ok (.if_icmp .ge 27, 3) := by decide +kernel
theorem dX10_here_30 : decode cX10_here 30 = .ok (.aload_n 1, 1) := by decide +kernel
theorem dX10_here_31 : decode cX10_here 31 = .ok (.aload_n 0, 1) := by decide +kernel
theorem dX10_here_32 : decode cX10_here 32 = .ok (.getfield 151, 3) := by decide +kernel
theorem dX10_here_35 : decode cX10_here 35 = .ok (.iaload, 1) := by decide +kernel
theorem dX10_here_36 : decode cX10_here 36 = .ok (.bipush 32, 2) := by decide +kernel
theorem dX10_here_38 : decode cX10_here 38 = .ok (.if_icmp .ne 16, 3) := by decide +kernel
theorem dX10_here_41 : decode cX10_here 41 = .ok (.aload_n 0, 1) := by decide +kernel
theorem dX10_here_42 : decode cX10_here 42 = .ok (.dup, 1) := by decide +kernel
theorem dX10_here_43 : decode cX10_here 43 = .ok (.getfield 151, 3) := by decide +kernel
theorem dX10_here_46 : decode cX10_here 46 = .ok (.iconst 1, 1) := by decide +kernel
theorem dX10_here_47 : decode cX10_here 47 = .ok (.iadd, 1) := by decide +kernel
theorem dX10_here_48 : decode cX10_here 48 = .ok (.putfield 151, 3) := by decide +kernel
theorem dX10_here_51 : decode cX10_here 51 = .ok (.goto (-32), 3) := by decide +kernel
theorem dX10_here_54 : decode cX10_here 54 = .ok (.aload_n 0, 1) := by decide +kernel
theorem dX10_here_55 : decode cX10_here 55 = .ok (.getfield 151, 3) := by decide +kernel
theorem dX10_here_58 : decode cX10_here 58 = .ok (.aload_n 0, 1) := by decide +kernel
theorem dX10_here_59 : decode cX10_here 59 = .ok (.getfield 154, 3) := by decide +kernel
theorem dX10_here_62 : decode cX10_here 62 = .ok (.if_icmp .ge 12, 3) := by decide +kernel
theorem dX10_here_65 : decode cX10_here 65 = .ok (.aload_n 1, 1) := by decide +kernel
theorem dX10_here_66 : decode cX10_here 66 = .ok (.aload_n 0, 1) := by decide +kernel
theorem dX10_here_67 : decode cX10_here 67 = .ok (.getfield 151, 3) := by decide +kernel
theorem dX10_here_70 : decode cX10_here 70 = .ok (.iaload, 1) := by decide +kernel
theorem dX10_here_71 : decode cX10_here 71 = .ok (.goto 4, 3) := by decide +kernel
theorem dX10_here_74 : decode cX10_here 74 = .ok (.iconst (-1), 1) := by decide +kernel
theorem dX10_here_75 : decode cX10_here 75 = .ok (.ireturn, 1) := by decide +kernel
theorem dX10_raw_0 : decode cX10_raw 0 = .ok (.aload_n 0, 1) := by decide +kernel
theorem dX10_raw_1 : decode cX10_raw 1 = .ok (.getfield 147, 3) := by decide +kernel
theorem dX10_raw_4 : decode cX10_raw 4 = .ok (.ifCond .eq 10, 3) := by decide +kernel
theorem dX10_raw_7 : decode cX10_raw 7 = .ok (.aload_n 0, 1) := by decide +kernel
theorem dX10_raw_8 : decode cX10_raw 8 = .ok (.getfield 13, 3) := by decide +kernel
theorem dX10_raw_11 : decode cX10_raw 11 = .ok (.goto 7, 3) := by decide +kernel
theorem dX10_raw_14 : decode cX10_raw 14 = .ok (.aload_n 0, 1) := by decide +kernel
theorem dX10_raw_15 : decode cX10_raw 15 = .ok (.getfield 7, 3) := by decide +kernel
theorem dX10_raw_18 : decode cX10_raw 18 = .ok (.astore_n 1, 1) := by decide +kernel
theorem dX10_raw_19 : decode cX10_raw 19 = .ok (.aload_n 0, 1) := by decide +kernel
theorem dX10_raw_20 : decode cX10_raw 20 = .ok (.getfield 151, 3) := by decide +kernel
theorem dX10_raw_23 : decode cX10_raw 23 = .ok (.aload_n 0, 1) := by decide +kernel
theorem dX10_raw_24 : decode cX10_raw 24 = .ok (.getfield 154, 3) := by decide +kernel
theorem dX10_raw_27 : decode cX10_raw 27 = .ok (.if_icmp .ge 12, 3) := by decide +kernel
theorem dX10_raw_30 : decode cX10_raw 30 = .ok (.aload_n 1, 1) := by decide +kernel
theorem dX10_raw_31 : decode cX10_raw 31 = .ok (.aload_n 0, 1) := by decide +kernel
theorem dX10_raw_32 : decode cX10_raw 32 = .ok (.getfield 151, 3) := by decide +kernel
theorem dX10_raw_35 : decode cX10_raw 35 = .ok (.iaload, 1) := by decide +kernel
theorem dX10_raw_36 : decode cX10_raw 36 = .ok (.goto 4, 3) := by decide +kernel
theorem dX10_raw_39 : decode cX10_raw 39 = .ok (.iconst (-1), 1) := by decide +kernel
theorem dX10_raw_40 : decode cX10_raw 40 = .ok (.ireturn, 1) := by decide +kernel
theorem dX10_requires_0 : decode cX10_requires 0 = .ok (.aload_n 0, 1) := by decide +kernel
theorem dX10_requires_1 : decode cX10_requires 1 = .ok (.aload_n 0, 1) := by decide +kernel
theorem dX10_requires_2 : decode cX10_requires 2 = .ok (.getfield 157, 3) := by decide +kernel
theorem dX10_requires_5 : decode cX10_requires 5 = .ok (.ifCond .eq 11, 3) := by decide +kernel
theorem dX10_requires_8 : decode cX10_requires 8 = .ok (.iload_n 1, 1) := by decide +kernel
theorem dX10_requires_9 : decode cX10_requires 9 = .ok (.ifCond .eq 7, 3) := by decide +kernel
theorem dX10_requires_12 : decode cX10_requires 12 = .ok (.iconst 1, 1) := by decide +kernel
theorem dX10_requires_13 : decode cX10_requires 13 = .ok (.goto 4, 3) := by decide +kernel
theorem dX10_requires_16 : decode cX10_requires 16 = .ok (.iconst 0, 1) := by decide +kernel
theorem dX10_requires_17 : decode cX10_requires 17 = .ok (.putfield 157, 3) := by decide +kernel
theorem dX10_requires_20 : decode cX10_requires 20 = .ok (.return_, 1) := by decide +kernel
theorem dX10_reads_0 : decode cX10_reads 0 = .ok (.aload_n 0, 1) := by decide +kernel
theorem dX10_reads_1 : decode cX10_reads 1 = .ok (.aload_n 0, 1) := by decide +kernel
theorem dX10_reads_2 : decode cX10_reads 2 = .ok (.invokevirtual 160, 3) := by decide +kernel
theorem dX10_reads_5 : decode cX10_reads 5 = .ok (.iload_n 1, 1) := by decide +kernel
theorem dX10_reads_6 : decode cX10_reads 6 = .ok (.if_icmp .ne 7, 3) := by decide +kernel
theorem dX10_reads_9 : decode cX10_reads 9 = .ok (.iconst 1, 1) := by decide +kernel
theorem dX10_reads_10 : decode cX10_reads 10 = .ok (.goto 4, 3) := by decide +kernel
theorem dX10_reads_13 : decode cX10_reads 13 = .ok (.iconst 0, 1) := by decide +kernel
theorem dX10_reads_14 : decode cX10_reads 14 = .ok (.invokevirtual 164, 3) := by decide +kernel
theorem dX10_reads_17 : decode cX10_reads 17 = .ok (.aload_n 0, 1) := by decide +kernel
theorem dX10_reads_18 : decode cX10_reads 18 = .ok (.dup, 1) := by decide +kernel
theorem dX10_reads_19 : decode cX10_reads 19 = .ok (.getfield 151, 3) := by decide +kernel
theorem dX10_reads_22 : decode cX10_reads 22 = .ok (.aload_n 0, 1) := by decide +kernel
theorem dX10_reads_23 : decode cX10_reads 23 = .ok (.getfield 157, 3) := by decide +kernel
theorem dX10_reads_26 : decode cX10_reads 26 = .ok (.ifCond .eq 7, 3) := by decide +kernel
theorem dX10_reads_29 : decode cX10_reads 29 = .ok (.iconst 1, 1) := by decide +kernel
theorem dX10_reads_30 : decode cX10_reads 30 = .ok (.goto 4, 3) := by decide +kernel
theorem dX10_reads_33 : decode cX10_reads 33 = .ok (.iconst 0, 1) := by decide +kernel
theorem dX10_reads_34 : decode cX10_reads 34 = .ok (.iadd, 1) := by decide +kernel
theorem dX10_reads_35 : decode cX10_reads 35 = .ok (.putfield 151, 3) := by decide +kernel
theorem dX10_reads_38 : decode cX10_reads 38 = .ok (.return_, 1) := by decide +kernel
theorem dX10_readsOf_0 : decode cX10_readsOf 0 = .ok (.aload_n 0, 1) := by decide +kernel
theorem dX10_readsOf_1 : decode cX10_readsOf 1 = .ok (.invokevirtual 160, 3) := by decide +kernel
theorem dX10_readsOf_4 : decode cX10_readsOf 4 = .ok (.istore_n 3, 1) := by decide +kernel
theorem dX10_readsOf_5 : decode cX10_readsOf 5 = .ok (.aload_n 0, 1) := by decide +kernel
theorem dX10_readsOf_6 : decode cX10_readsOf 6 = .ok (.iload_n 3, 1) := by decide +kernel
theorem dX10_readsOf_7 : decode cX10_readsOf 7 = .ok (.iload_n 1, 1) := by decide +kernel
theorem dX10_readsOf_8 : decode cX10_readsOf 8 = .ok (.iload_n 2, 1) := by decide +kernel
theorem dX10_readsOf_9 : decode cX10_readsOf 9 = .ok (.invokestatic 168, 3) := by decide +kernel
theorem dX10_readsOf_12 : decode cX10_readsOf 12 = .ok (.invokevirtual 164, 3) := by decide +kernel
theorem dX10_readsOf_15 : decode cX10_readsOf 15 = .ok (.aload_n 0, 1) := by decide +kernel
theorem dX10_readsOf_16 : decode cX10_readsOf 16 = .ok (.dup, 1) := by decide +kernel
theorem dX10_readsOf_17 : decode cX10_readsOf 17 = .ok (.getfield 151, 3) := by decide +kernel
theorem dX10_readsOf_20 : decode cX10_readsOf 20 = .ok (.aload_n 0, 1) := by decide +kernel
theorem dX10_readsOf_21 : decode cX10_readsOf 21 = .ok (.getfield 157, 3) := by decide +kernel
theorem dX10_readsOf_24 : decode cX10_readsOf 24 = .ok (.ifCond .eq 7, 3) := by decide +kernel
theorem dX10_readsOf_27 : decode cX10_readsOf 27 = .ok (.iconst 1, 1) := by decide +kernel
theorem dX10_readsOf_28 : decode cX10_readsOf 28 = .ok (.goto 4, 3) := by decide +kernel
theorem dX10_readsOf_31 : decode cX10_readsOf 31 = .ok (.iconst 0, 1) := by decide +kernel
theorem dX10_readsOf_32 : decode cX10_readsOf 32 = .ok (.iadd, 1) := by decide +kernel
theorem dX10_readsOf_33 : decode cX10_readsOf 33 = .ok (.putfield 151, 3) := by decide +kernel
theorem dX10_readsOf_36 : decode cX10_readsOf 36 = .ok (.iload_n 3, 1) := by decide +kernel
theorem dX10_readsOf_37 : decode cX10_readsOf 37 = .ok (.iload_n 1, 1) := by decide +kernel
theorem dX10_readsOf_38 : decode cX10_readsOf 38 = .ok (.isub, 1) := by decide +kernel
theorem dX10_readsOf_39 : decode cX10_readsOf 39 = .ok (.ireturn, 1) := by decide +kernel
theorem dX10_readsNumber_0 : decode cX10_readsNumber 0 = .ok (.aload_n 0, 1) := by decide +kernel
theorem dX10_readsNumber_1 : decode cX10_readsNumber 1 = .ok (.aload_n 0, 1) := by decide +kernel
theorem dX10_readsNumber_2 : decode cX10_readsNumber 2 = .ok (.invokevirtual 160, 3) := by decide +kernel
theorem dX10_readsNumber_5 : decode cX10_readsNumber 5 = .ok (.bipush 48, 2) := by decide +kernel
theorem dX10_readsNumber_7 : decode cX10_readsNumber 7 = .ok (.bipush 57, 2) := by decide +kernel
theorem dX10_readsNumber_9 : decode cX10_readsNumber 9 = .ok (.invokestatic 168, 3) := by decide +kernel
theorem dX10_readsNumber_12 : decode cX10_readsNumber 12 = .ok (.invokevirtual 164, 3) := by decide +kernel
theorem dX10_readsNumber_15 : decode cX10_readsNumber 15 = .ok (.aload_n 0, 1) := by decide +kernel
theorem dX10_readsNumber_16 : decode cX10_readsNumber 16 = .ok (.getfield 151, 3) := by decide +kernel
theorem dX10_readsNumber_19 : decode cX10_readsNumber 19 = .ok (.istore_n 1, 1) := by decide +kernel
theorem dX10_readsNumber_20 : decode cX10_readsNumber 20 = .ok (.iconst 0, 1) := by decide +kernel
theorem dX10_readsNumber_21 : decode cX10_readsNumber 21 = .ok (.istore_n 2, 1) := by decide +kernel
theorem dX10_readsNumber_22 : decode cX10_readsNumber 22 = .ok (.aload_n 0, 1) := by decide +kernel
theorem dX10_readsNumber_23 : decode cX10_readsNumber 23 = .ok (.getfield 157, 3) := by decide +kernel
theorem dX10_readsNumber_26 : decode cX10_readsNumber 26 = .ok (.ifCond .eq 57, 3) := by decide +kernel
theorem dX10_readsNumber_29 : decode cX10_readsNumber 29 = .ok (.aload_n 0, 1) := by decide +kernel
theorem dX10_readsNumber_30 : decode cX10_readsNumber 30 = .ok (.invokevirtual 172, 3) := by decide +kernel
theorem dX10_readsNumber_33 : decode cX10_readsNumber 33 = .ok (.bipush 48, 2) := by decide +kernel
theorem dX10_readsNumber_35 : decode cX10_readsNumber 35 = .ok (.bipush 57, 2) := by decide +kernel
theorem dX10_readsNumber_37 : decode cX10_readsNumber 37 = .ok (.invokestatic 168, 3) := by decide +kernel
theorem dX10_readsNumber_40 : decode cX10_readsNumber 40 = .ok (.ifCond .eq 43, 3) := by decide +kernel
theorem dX10_readsNumber_43 : decode cX10_readsNumber 43 = .ok (.aload_n 0, 1) := by decide +kernel
theorem dX10_readsNumber_44 : decode cX10_readsNumber 44 = .ok (.getfield 151, 3) := by decide +kernel
theorem dX10_readsNumber_47 : decode cX10_readsNumber 47 = .ok (.iload_n 1, 1) := by decide +kernel
theorem dX10_readsNumber_48 : decode cX10_readsNumber 48 = .ok (.isub, 1) := by decide +kernel
theorem dX10_readsNumber_49 : decode cX10_readsNumber 49 = .ok (.iconst 3, 1) := by decide +kernel
theorem dX10_readsNumber_50 : decode cX10_readsNumber 50 = .ok (.if_icmp .ge 18, 3) := by decide +kernel
theorem dX10_readsNumber_53 : decode cX10_readsNumber 53 = .ok (.bipush 10, 2) := by decide +kernel
theorem dX10_readsNumber_55 : decode cX10_readsNumber 55 = .ok (.iload_n 2, 1) := by decide +kernel
theorem dX10_readsNumber_56 : decode cX10_readsNumber 56 = .ok (.imul, 1) := by decide +kernel
theorem dX10_readsNumber_57 : decode cX10_readsNumber 57 = .ok (.aload_n 0, 1) := by decide +kernel
theorem dX10_readsNumber_58 : decode cX10_readsNumber 58 = .ok (.invokevirtual 172, 3) := by decide +kernel
theorem dX10_readsNumber_61 : decode cX10_readsNumber 61 = .ok (.iadd, 1) := by decide +kernel
theorem dX10_readsNumber_62 : decode cX10_readsNumber 62 = .ok (.bipush 48, 2) := by decide +kernel
theorem dX10_readsNumber_64 : decode cX10_readsNumber 64 = .ok (.isub, 1) := by decide +kernel
theorem dX10_readsNumber_65 : decode cX10_readsNumber 65 = .ok (.goto 4, 3) := by decide +kernel
theorem dX10_readsNumber_68 : decode cX10_readsNumber 68 = .ok (.iload_n 2, 1) := by decide +kernel
theorem dX10_readsNumber_69 : decode cX10_readsNumber 69 = .ok (.istore_n 2, 1) := by decide +kernel
theorem dX10_readsNumber_70 : decode cX10_readsNumber 70 = .ok (.aload_n 0, 1) := by decide +kernel
theorem dX10_readsNumber_71 : decode cX10_readsNumber 71 = .ok (.dup, 1) := by decide +kernel
theorem dX10_readsNumber_72 : decode cX10_readsNumber 72 = .ok (.getfield 151, 3) := by decide +kernel
theorem dX10_readsNumber_75 : decode cX10_readsNumber 75 = .ok (.iconst 1, 1) := by decide +kernel
theorem dX10_readsNumber_76 : decode cX10_readsNumber 76 = .ok (.iadd, 1) := by decide +kernel
theorem dX10_readsNumber_77 : decode cX10_readsNumber 77 = .ok (.putfield 151, 3) := by decide +kernel
theorem dX10_readsNumber_80 : decode cX10_readsNumber 80 = .ok (.goto (-58), 3) := by decide +kernel
theorem dX10_readsNumber_83 : decode cX10_readsNumber 83 = .ok (.aload_n 0, 1) := by decide +kernel
theorem dX10_readsNumber_84 : decode cX10_readsNumber 84 = .ok (.getfield 151, 3) := by decide +kernel
theorem dX10_readsNumber_87 : decode cX10_readsNumber 87 = .ok (.iload_n 1, 1) := by decide +kernel
theorem dX10_readsNumber_88 : decode cX10_readsNumber 88 = .ok (.isub, 1) := by decide +kernel
theorem dX10_readsNumber_89 : decode cX10_readsNumber 89 = .ok (.iconst 2, 1) := by decide +kernel
theorem dX10_readsNumber_90 : decode cX10_readsNumber 90 = .ok (.if_icmp .le 13, 3) := by decide +kernel
theorem dX10_readsNumber_93 : decode cX10_readsNumber 93 = .ok (.aload_n 0, 1) := by decide +kernel
theorem dX10_readsNumber_94 : decode cX10_readsNumber 94 = .ok (.iconst 0, 1) := by decide +kernel
theorem dX10_readsNumber_95 : decode cX10_readsNumber 95 = .ok (.putfield 157, 3) := by decide +kernel
theorem dX10_readsNumber_98 : decode cX10_readsNumber 98 = .ok (.aload_n 0, 1) := by decide +kernel
theorem dX10_readsNumber_99 : decode cX10_readsNumber 99 = .ok (.iload_n 1, 1) := by decide +kernel
theorem dX10_readsNumber_100 : decode cX10_readsNumber 100 = .ok (.putfield 151, 3) := by decide +kernel
theorem dX10_readsNumber_103 : decode cX10_readsNumber 103 = .ok (.iload_n 2, 1) := by decide +kernel
theorem dX10_readsNumber_104 : decode cX10_readsNumber 104 = .ok (.ireturn, 1) := by decide +kernel
theorem dX10_newBlock_0 : decode cX10_newBlock 0 = .ok (.aload_n 0, 1) := by decide +kernel
theorem dX10_newBlock_1 : decode cX10_newBlock 1 = .ok (.getfield 52, 3) := by decide +kernel
theorem dX10_newBlock_4 : decode cX10_newBlock 4 = .ok (.aload_n 0, 1) := by decide +kernel
theorem dX10_newBlock_5 : decode cX10_newBlock 5 = .ok (.getfield 175, 3) := by decide +kernel
theorem dX10_newBlock_8 : decode cX10_newBlock 8 = .ok (.iload_n 1, 1) := by decide +kernel
theorem dX10_newBlock_9 : decode cX10_newBlock 9 = .ok (.iastore, 1) := by decide +kernel
theorem dX10_newBlock_10 : decode cX10_newBlock 10 = .ok (.aload_n 0, 1) := by decide +kernel
theorem dX10_newBlock_11 : decode cX10_newBlock 11 = .ok (.getfield 55, 3) := by decide +kernel
theorem dX10_newBlock_14 : decode cX10_newBlock 14 = .ok (.aload_n 0, 1) := by decide +kernel
theorem dX10_newBlock_15 : decode cX10_newBlock 15 = .ok (.getfield 175, 3) := by decide +kernel
theorem dX10_newBlock_18 : decode cX10_newBlock 18 = .ok (.iload_n 2, 1) := by decide +kernel
theorem dX10_newBlock_19 : decode cX10_newBlock 19 = .ok (.iastore, 1) := by decide +kernel
theorem dX10_newBlock_20 : decode cX10_newBlock 20 = .ok (.aload_n 0, 1) := by decide +kernel
theorem dX10_newBlock_21 : decode cX10_newBlock 21 = .ok (.getfield 58, 3) := by decide +kernel
theorem dX10_newBlock_24 : decode cX10_newBlock 24 = .ok (.aload_n 0, 1) := by decide +kernel
theorem dX10_newBlock_25 : decode cX10_newBlock 25 = .ok (.getfield 175, 3) := by decide +kernel
theorem dX10_newBlock_28 : decode cX10_newBlock 28 = .ok (.iconst (-1), 1) := by decide +kernel
theorem dX10_newBlock_29 : decode cX10_newBlock 29 = .ok (.iastore, 1) := by decide +kernel
theorem dX10_newBlock_30 : decode cX10_newBlock 30 = .ok (.aload_n 0, 1) := by decide +kernel
theorem dX10_newBlock_31 : decode cX10_newBlock 31 = .ok (.getfield 61, 3) := by decide +kernel
theorem dX10_newBlock_34 : decode cX10_newBlock 34 = .ok (.aload_n 0, 1) := by decide +kernel
theorem dX10_newBlock_35 : decode cX10_newBlock 35 = .ok (.getfield 175, 3) := by decide +kernel
theorem dX10_newBlock_38 : decode cX10_newBlock 38 = .ok (.iconst (-1), 1) := by decide +kernel
theorem dX10_newBlock_39 : decode cX10_newBlock 39 = .ok (.iastore, 1) := by decide +kernel
theorem dX10_newBlock_40 : decode cX10_newBlock 40 = .ok (.aload_n 0, 1) := by decide +kernel
theorem dX10_newBlock_41 : decode cX10_newBlock 41 = .ok (.getfield 64, 3) := by decide +kernel
theorem dX10_newBlock_44 : decode cX10_newBlock 44 = .ok (.aload_n 0, 1) := by decide +kernel
theorem dX10_newBlock_45 : decode cX10_newBlock 45 = .ok (.getfield 175, 3) := by decide +kernel
theorem dX10_newBlock_48 : decode cX10_newBlock 48 = .ok (.iload_n 3, 1) := by decide +kernel
theorem dX10_newBlock_49 : decode cX10_newBlock 49 = .ok (.iastore, 1) := by decide +kernel
theorem dX10_newBlock_50 : decode cX10_newBlock 50 = .ok (.aload_n 0, 1) := by decide +kernel
theorem dX10_newBlock_51 : decode cX10_newBlock 51 = .ok (.getfield 83, 3) := by decide +kernel
theorem dX10_newBlock_54 : decode cX10_newBlock 54 = .ok (.aload_n 0, 1) := by decide +kernel
theorem dX10_newBlock_55 : decode cX10_newBlock 55 = .ok (.getfield 178, 3) := by decide +kernel
theorem dX10_newBlock_58 : decode cX10_newBlock 58 = .ok (.aload_n 0, 1) := by decide +kernel
theorem dX10_newBlock_59 : decode cX10_newBlock 59 = .ok (.getfield 175, 3) := by decide +kernel
theorem dX10_newBlock_62 : decode cX10_newBlock 62 = .ok (.iastore, 1) := by decide +kernel
theorem dX10_newBlock_63 : decode cX10_newBlock 63 = .ok (.aload_n 0, 1) := by decide +kernel
theorem dX10_newBlock_64 : decode cX10_newBlock 64 = .ok (.dup, 1) := by decide +kernel
theorem dX10_newBlock_65 : decode cX10_newBlock 65 = .ok (.getfield 178, 3) := by decide +kernel
theorem dX10_newBlock_68 : decode cX10_newBlock 68 = .ok (.iconst 1, 1) := by decide +kernel
theorem dX10_newBlock_69 : decode cX10_newBlock 69 = .ok (.iadd, 1) := by decide +kernel
theorem dX10_newBlock_70 : decode cX10_newBlock 70 = .ok (.putfield 178, 3) := by decide +kernel
theorem dX10_newBlock_73 : decode cX10_newBlock 73 = .ok (.aload_n 0, 1) := by decide +kernel
theorem dX10_newBlock_74 : decode cX10_newBlock 74 = .ok (.dup, 1) := by decide +kernel
theorem dX10_newBlock_75 : decode cX10_newBlock 75 = .ok (.getfield 175, 3) := by decide +kernel
theorem dX10_newBlock_78 : decode cX10_newBlock 78 = .ok (.iconst 1, 1) := by decide +kernel
theorem dX10_newBlock_79 : decode cX10_newBlock 79 = .ok (.iadd, 1) := by decide +kernel
theorem dX10_newBlock_80 : decode cX10_newBlock 80 = .ok (.putfield 175, 3) := by decide +kernel
theorem dX10_newBlock_83 : decode cX10_newBlock 83 = .ok (.return_, 1) := by decide +kernel
theorem dX10_statement_0 : decode cX10_statement 0 = .ok (.aload_n 0, 1) := by decide +kernel
theorem dX10_statement_1 : decode cX10_statement 1 = .ok (.getfield 181, 3) := by decide +kernel
theorem dX10_statement_4 : decode cX10_statement 4 = .ok (.istore 4, 2) := by decide +kernel
theorem dX10_statement_6 : decode cX10_statement 6 = .ok (.aload_n 0, 1) := by decide +kernel
theorem dX10_statement_7 : decode cX10_statement 7 = .ok (.getfield 83, 3) := by decide +kernel
theorem dX10_statement_10 : decode cX10_statement 10 = .ok (.aload_n 0, 1) := by decide +kernel
theorem dX10_statement_11 : decode cX10_statement 11 = .ok (.getfield 178, 3) := by decide +kernel
theorem dX10_statement_14 : decode cX10_statement 14 = .ok (.iconst 1, 1) := by decide +kernel
theorem dX10_statement_15 : decode cX10_statement 15 = .ok (.isub, 1) := by decide +kernel
theorem dX10_statement_16 : decode cX10_statement 16 = .ok (.iaload, 1) := by decide +kernel
theorem dX10_statement_17 : decode cX10_statement 17 = .ok (.istore 5, 2) := by decide +kernel
theorem dX10_statement_19 : decode cX10_statement 19 = .ok (.aload_n 0, 1) := by decide +kernel
theorem dX10_statement_20 : decode cX10_statement 20 = .ok (.getfield 16, 3) := by decide +kernel
theorem dX10_statement_23 : decode cX10_statement 23 = .ok (.iload 4, 2) := by decide +kernel
theorem dX10_statement_25 : decode cX10_statement 25 = .ok (.iload_n 1, 1) := by decide +kernel
theorem dX10_statement_26 : decode cX10_statement 26 = .ok (.iastore, 1) := by decide +kernel
theorem dX10_statement_27 : decode cX10_statement 27 = .ok (.aload_n 0, 1) := by decide +kernel
theorem dX10_statement_28 : decode cX10_statement 28 = .ok (.getfield 19, 3) := by decide +kernel
theorem dX10_statement_31 : decode cX10_statement 31 = .ok (.iload 4, 2) := by decide +kernel
theorem dX10_statement_33 : decode cX10_statement 33 = .ok (.iload_n 2, 1) := by decide +kernel
theorem dX10_statement_34 : decode cX10_statement 34 = .ok (.iastore, 1) := by decide +kernel
theorem dX10_statement_35 : decode cX10_statement 35 = .ok (.aload_n 0, 1) := by decide +kernel
theorem dX10_statement_36 : decode cX10_statement 36 = .ok (.getfield 22, 3) := by decide +kernel
theorem dX10_statement_39 : decode cX10_statement 39 = .ok (.iload 4, 2) := by decide +kernel
theorem dX10_statement_41 : decode cX10_statement 41 = .ok (.iload_n 3, 1) := by decide +kernel
theorem dX10_statement_42 : decode cX10_statement 42 = .ok (.iastore, 1) := by decide +kernel
theorem dX10_statement_43 : decode cX10_statement 43 = .ok (.aload_n 0, 1) := by decide +kernel
theorem dX10_statement_44 : decode cX10_statement 44 = .ok (.getfield 25, 3) := by decide +kernel
theorem dX10_statement_47 : decode cX10_statement 47 = .ok (.iload 4, 2) := by decide +kernel
theorem dX10_statement_49 : decode cX10_statement 49 = .ok (.iconst (-1), 1) := by decide +kernel
theorem dX10_statement_50 : decode cX10_statement 50 = .ok (.iastore, 1) := by decide +kernel
theorem dX10_statement_51 : decode cX10_statement 51 = .ok (.aload_n 0, 1) := by decide +kernel
theorem dX10_statement_52 : decode cX10_statement 52 = .ok (.getfield 28, 3) := by decide +kernel
theorem dX10_statement_55 : decode cX10_statement 55 = .ok (.iload 4, 2) := by decide +kernel
theorem dX10_statement_57 : decode cX10_statement 57 = .ok (.iload 5, 2) := by decide +kernel
theorem dX10_statement_59 : decode cX10_statement 59 = .ok (.iastore, 1) := by decide +kernel
theorem dX10_statement_60 : decode cX10_statement 60 = .ok (.aload_n 0, 1) := by decide +kernel
theorem dX10_statement_61 : decode cX10_statement 61 = .ok (.getfield 31, 3) := by decide +kernel
theorem dX10_statement_64 : decode cX10_statement 64 = .ok (.iload 4, 2) := by decide +kernel
theorem dX10_statement_66 : decode cX10_statement 66 = .ok (.iconst (-1), 1) := by decide +kernel
theorem dX10_statement_67 : decode cX10_statement 67 = .ok (.iastore, 1) := by decide +kernel
theorem dX10_statement_68 : decode cX10_statement 68 = .ok (.aload_n 0, 1) := by decide +kernel
theorem dX10_statement_69 : decode cX10_statement 69 = .ok (.getfield 34, 3) := by decide +kernel
theorem dX10_statement_72 : decode cX10_statement 72 = .ok (.iload 4, 2) := by decide +kernel
theorem dX10_statement_74 : decode cX10_statement 74 = .ok (.iconst (-1), 1) := by decide +kernel
theorem dX10_statement_75 : decode cX10_statement 75 = .ok (.iastore, 1) := by decide +kernel
theorem dX10_statement_76 : decode cX10_statement 76 = .ok (.aload_n 0, 1) := by decide +kernel
theorem dX10_statement_77 : decode cX10_statement 77 = .ok (.getfield 37, 3) := by decide +kernel
theorem dX10_statement_80 : decode cX10_statement 80 = .ok (.iload 4, 2) := by decide +kernel
theorem dX10_statement_82 : decode cX10_statement 82 = .ok (.aload_n 0, 1) := by decide +kernel
theorem dX10_statement_83 : decode cX10_statement 83 = .ok (.getfield 184, 3) := by decide +kernel
theorem dX10_statement_86 : decode cX10_statement 86 = .ok (.iastore, 1) := by decide +kernel
theorem dX10_statement_87 : decode cX10_statement 87 = .ok (.aload_n 0, 1) := by decide +kernel
theorem dX10_statement_88 : decode cX10_statement 88 = .ok (.getfield 40, 3) := by decide +kernel
theorem dX10_statement_91 : decode cX10_statement 91 = .ok (.iload 4, 2) := by decide +kernel
theorem dX10_statement_93 : decode cX10_statement 93 = .ok (.aload_n 0, 1) := by decide +kernel
theorem dX10_statement_94 : decode cX10_statement 94 = .ok (.getfield 184, 3) := by decide +kernel
theorem dX10_statement_97 : decode cX10_statement 97 = .ok (.iastore, 1) := by decide +kernel
theorem dX10_statement_98 : decode cX10_statement 98 = .ok (.aload_n 0, 1) := by decide +kernel
theorem dX10_statement_99 : decode cX10_statement 99 = .ok (.getfield 61, 3) := by decide +kernel
theorem dX10_statement_102 : decode cX10_statement 102 = .ok (.iload 5, 2) := by decide +kernel
theorem dX10_statement_104 : decode cX10_statement 104 = .ok (.iaload, 1) := by decide +kernel
theorem dX10_statement_105 : decode cX10_statement 105 = .ok (.iconst (-1), 1) := by decide +kernel
theorem dX10_statement_106 : decode cX10_statement 106 = .ok (.if_icmp .ne 15, 3) := by decide +kernel
theorem dX10_statement_109 : decode cX10_statement 109 = .ok (.aload_n 0, 1) := by decide +kernel
theorem dX10_statement_110 : decode cX10_statement 110 = .ok (.getfield 58, 3) := by decide +kernel
theorem dX10_statement_113 : decode cX10_statement 113 = .ok (.iload 5, 2) := by decide +kernel
theorem dX10_statement_115 : decode cX10_statement 115 = .ok (.iload 4, 2) := by decide +kernel
theorem dX10_statement_117 : decode cX10_statement 117 = .ok (.iastore, 1) := by decide +kernel
theorem dX10_statement_118 : decode cX10_statement 118 = .ok (.goto 17, 3) := by decide +kernel
theorem dX10_statement_121 : decode cX10_statement 121 = .ok (.aload_n 0, 1) := by decide +kernel
theorem dX10_statement_122 : decode cX10_statement 122 = .ok (.getfield 25, 3) := by decide +kernel
theorem dX10_statement_125 : decode cX10_statement 125 = .ok (.aload_n 0, 1) := by decide +kernel
theorem dX10_statement_126 : decode cX10_statement 126 = .ok (.getfield 61, 3) := by decide +kernel
theorem dX10_statement_129 : decode cX10_statement 129 = .ok (.iload 5, 2) := by decide +kernel
theorem dX10_statement_131 : decode cX10_statement 131 = .ok (.iaload, 1) := by decide +kernel
theorem dX10_statement_132 : decode cX10_statement 132 = .ok (.iload 4, 2) := by decide +kernel
theorem dX10_statement_134 : decode cX10_statement 134 = .ok (.iastore, 1) := by decide +kernel
theorem dX10_statement_135 : decode cX10_statement 135 = .ok (.aload_n 0, 1) := by decide +kernel
theorem dX10_statement_136 : decode cX10_statement 136 = .ok (.getfield 61, 3) := by decide +kernel
theorem dX10_statement_139 : decode cX10_statement 139 = .ok (.iload 5, 2) := by decide +kernel
theorem dX10_statement_141 : decode cX10_statement 141 = .ok (.iload 4, 2) := by decide +kernel
theorem dX10_statement_143 : decode cX10_statement 143 = .ok (.iastore, 1) := by decide +kernel
theorem dX10_statement_144 : decode cX10_statement 144 = .ok (.aload_n 0, 1) := by decide +kernel
theorem dX10_statement_145 : decode cX10_statement 145 = .ok (.dup, 1) := by decide +kernel
theorem dX10_statement_146 : decode cX10_statement 146 = .ok (.getfield 181, 3) := by decide +kernel
theorem dX10_statement_149 : decode cX10_statement 149 = .ok (.iconst 1, 1) := by decide +kernel
theorem dX10_statement_150 : decode cX10_statement 150 = .ok (.iadd, 1) := by decide +kernel
theorem dX10_statement_151 : decode cX10_statement 151 = .ok (.putfield 181, 3) := by decide +kernel
theorem dX10_statement_154 : decode cX10_statement 154 = .ok (.iload 4, 2) := by decide +kernel
theorem dX10_statement_156 : decode cX10_statement 156 = .ok (.ireturn, 1) := by decide +kernel
theorem dX10_readsNode_0 : decode cX10_readsNode 0 = .ok (.aload_n 0, 1) := by decide +kernel
theorem dX10_readsNode_1 : decode cX10_readsNode 1 = .ok (.bipush 61, 2) := by decide +kernel
theorem dX10_readsNode_3 : decode cX10_readsNode 3 = .ok (.invokevirtual 187, 3) := by decide +kernel
theorem dX10_readsNode_6 : decode cX10_readsNode 6 = .ok (.aload_n 0, 1) := by decide +kernel
theorem dX10_readsNode_7 : decode cX10_readsNode 7 = .ok (.bipush 65, 2) := by decide +kernel
theorem dX10_readsNode_9 : decode cX10_readsNode 9 = .ok (.bipush 76, 2) := by decide +kernel
theorem dX10_readsNode_11 : decode cX10_readsNode 11 = .ok (.invokevirtual 191, 3) := by decide +kernel
theorem dX10_readsNode_14 : decode cX10_readsNode 14 = .ok (.istore_n 1, 1) := by decide +kernel
theorem dX10_readsNode_15 : decode cX10_readsNode 15 = .ok (.aload_n 0, 1) := by decide +kernel
theorem dX10_readsNode_16 : decode cX10_readsNode 16 = .ok (.getfield 157, 3) := by decide +kernel
theorem dX10_readsNode_19 : decode cX10_readsNode 19 = .ok (.ifCond .eq 28, 3) := by decide +kernel
theorem dX10_readsNode_22 : decode cX10_readsNode 22 = .ok (.aload_n 0, 1) := by decide +kernel
theorem dX10_readsNode_23 : decode cX10_readsNode 23 = .ok (.getfield 77, 3) := by decide +kernel
theorem dX10_readsNode_26 : decode cX10_readsNode 26 = .ok (.iload_n 1, 1) := by decide +kernel
theorem dX10_readsNode_27 : decode cX10_readsNode 27 = .ok (.iaload, 1) := by decide +kernel
theorem dX10_readsNode_28 : decode cX10_readsNode 28 = .ok (.iconst (-1), 1) := by decide +kernel
theorem dX10_readsNode_29 : decode cX10_readsNode 29 = .ok (.if_icmp .eq 18, 3) := by decide +kernel
theorem dX10_readsNode_32 : decode cX10_readsNode 32 = .ok (.aload_n 0, 1) := by decide +kernel
theorem dX10_readsNode_33 : decode cX10_readsNode 33 = .ok (.iconst 0, 1) := by decide +kernel
theorem dX10_readsNode_34 : decode cX10_readsNode 34 = .ok (.putfield 157, 3) := by decide +kernel
theorem dX10_readsNode_37 : decode cX10_readsNode 37 = .ok (.aload_n 0, 1) := by decide +kernel
theorem dX10_readsNode_38 : decode cX10_readsNode 38 = .ok (.dup, 1) := by decide +kernel
theorem dX10_readsNode_39 : decode cX10_readsNode 39 = .ok (.getfield 151, 3) := by decide +kernel
theorem dX10_readsNode_42 : decode cX10_readsNode 42 = .ok (.iconst 1, 1) := by decide +kernel
theorem dX10_readsNode_43 : decode cX10_readsNode 43 = .ok (.isub, 1) := by decide +kernel
theorem dX10_readsNode_44 : decode cX10_readsNode 44 = .ok (.putfield 151, 3) := by decide +kernel
theorem dX10_readsNode_47 : decode cX10_readsNode 47 = .ok (.aload_n 0, 1) := by decide +kernel
theorem dX10_readsNode_48 : decode cX10_readsNode 48 = .ok (.getfield 157, 3) := by decide +kernel
theorem dX10_readsNode_51 : decode cX10_readsNode 51 = .ok (.ifCond .ne 4, 3) := by decide +kernel
theorem dX10_readsNode_54 : decode cX10_readsNode 54 = .ok (.return_, 1) := by decide +kernel
theorem dX10_readsNode_55 : decode cX10_readsNode 55 = .ok (.aload_n 0, 1) := by decide +kernel
theorem dX10_readsNode_56 : decode cX10_readsNode 56 = .ok (.getfield 77, 3) := by decide +kernel
theorem dX10_readsNode_59 : decode cX10_readsNode 59 = .ok (.iload_n 1, 1) := by decide +kernel
theorem dX10_readsNode_60 : decode cX10_readsNode 60 = .ok (.aload_n 0, 1) := by decide +kernel
theorem dX10_readsNode_61 : decode cX10_readsNode 61 = .ok (.getfield 195, 3) := by decide +kernel
theorem dX10_readsNode_64 : decode cX10_readsNode 64 = .ok (.iastore, 1) := by decide +kernel
theorem dX10_readsNode_65 : decode cX10_readsNode 65 = .ok (.aload_n 0, 1) := by decide +kernel
theorem dX10_readsNode_66 : decode cX10_readsNode 66 = .ok (.getfield 77, 3) := by decide +kernel
theorem dX10_readsNode_69 : decode cX10_readsNode 69 = .ok (.iload_n 1, 1) := by decide +kernel
theorem dX10_readsNode_70 : decode cX10_readsNode 70 = .ok (.aload_n 0, 1) := by decide +kernel
theorem dX10_readsNode_71 : decode cX10_readsNode 71 = .ok (.getfield 195, 3) := by decide +kernel
theorem dX10_readsNode_74 : decode cX10_readsNode 74 = .ok (.iastore, 1) := by decide +kernel
theorem dX10_readsNode_75 : decode cX10_readsNode 75 = .ok (.aload_n 0, 1) := by decide +kernel
theorem dX10_readsNode_76 : decode cX10_readsNode 76 = .ok (.getfield 67, 3) := by decide +kernel
theorem dX10_readsNode_79 : decode cX10_readsNode 79 = .ok (.aload_n 0, 1) := by decide +kernel
theorem dX10_readsNode_80 : decode cX10_readsNode 80 = .ok (.getfield 195, 3) := by decide +kernel
theorem dX10_readsNode_83 : decode cX10_readsNode 83 = .ok (.bipush 65, 2) := by decide +kernel
theorem dX10_readsNode_85 : decode cX10_readsNode 85 = .ok (.iload_n 1, 1) := by decide +kernel
theorem dX10_readsNode_86 : decode cX10_readsNode 86 = .ok (.iadd, 1) := by decide +kernel
theorem dX10_readsNode_87 : decode cX10_readsNode 87 = .ok (.iastore, 1) := by decide +kernel
theorem dX10_readsNode_88 : decode cX10_readsNode 88 = .ok (.aload_n 0, 1) := by decide +kernel
theorem dX10_readsNode_89 : decode cX10_readsNode 89 = .ok (.getfield 70, 3) := by decide +kernel
theorem dX10_readsNode_92 : decode cX10_readsNode 92 = .ok (.aload_n 0, 1) := by decide +kernel
theorem dX10_readsNode_93 : decode cX10_readsNode 93 = .ok (.getfield 195, 3) := by decide +kernel
theorem dX10_readsNode_96 : decode cX10_readsNode 96 = .ok (.aload_n 0, 1) := by decide +kernel
theorem dX10_readsNode_97 : decode cX10_readsNode 97 = .ok (.invokevirtual 160, 3) := by decide +kernel
theorem dX10_readsNode_100 : decode cX10_readsNode 100 = .ok (.bipush 35, 2) := by decide +kernel
theorem dX10_readsNode_102 : decode cX10_readsNode 102 = .ok (.if_icmp .ne 7, 3) := by decide +kernel
theorem dX10_readsNode_105 : decode cX10_readsNode 105 = .ok (.iconst 1, 1) := by decide +kernel
theorem dX10_readsNode_106 : decode cX10_readsNode 106 = .ok (.goto 4, 3) := by decide +kernel
theorem dX10_readsNode_109 : decode cX10_readsNode 109 = .ok (.iconst 0, 1) := by decide +kernel
theorem dX10_readsNode_110 : decode cX10_readsNode 110 = .ok (.bastore, 1) := by decide +kernel
theorem dX10_readsNode_111 : decode cX10_readsNode 111 = .ok (.aload_n 0, 1) := by decide +kernel
theorem dX10_readsNode_112 : decode cX10_readsNode 112 = .ok (.dup, 1) := by decide +kernel
theorem dX10_readsNode_113 : decode cX10_readsNode 113 = .ok (.getfield 151, 3) := by decide +kernel
theorem dX10_readsNode_116 : decode cX10_readsNode 116 = .ok (.aload_n 0, 1) := by decide +kernel
theorem dX10_readsNode_117 : decode cX10_readsNode 117 = .ok (.getfield 70, 3) := by decide +kernel
theorem dX10_readsNode_120 : decode cX10_readsNode 120 = .ok (.aload_n 0, 1) := by decide +kernel
theorem dX10_readsNode_121 : decode cX10_readsNode 121 = .ok (.getfield 195, 3) := by decide +kernel
theorem dX10_readsNode_124 : decode cX10_readsNode 124 = .ok (.baload, 1) := by decide +kernel
theorem dX10_readsNode_125 : decode cX10_readsNode 125 = .ok (.ifCond .eq 7, 3) := by decide +kernel
theorem dX10_readsNode_128 : decode cX10_readsNode 128 = .ok (.iconst 1, 1) := by decide +kernel
theorem dX10_readsNode_129 : decode cX10_readsNode 129 = .ok (.goto 4, 3) := by decide +kernel
theorem dX10_readsNode_132 : decode cX10_readsNode 132 = .ok (.iconst 0, 1) := by decide +kernel
theorem dX10_readsNode_133 : decode cX10_readsNode 133 = .ok (.iadd, 1) := by decide +kernel
theorem dX10_readsNode_134 : decode cX10_readsNode 134 = .ok (.putfield 151, 3) := by decide +kernel
theorem dX10_readsNode_137 : decode cX10_readsNode 137 = .ok (.aload_n 0, 1) := by decide +kernel
theorem dX10_readsNode_138 : decode cX10_readsNode 138 = .ok (.getfield 74, 3) := by decide +kernel
theorem dX10_readsNode_141 : decode cX10_readsNode 141 = .ok (.aload_n 0, 1) := by decide +kernel
theorem dX10_readsNode_142 : decode cX10_readsNode 142 = .ok (.getfield 195, 3) := by decide +kernel
theorem dX10_readsNode_145 : decode cX10_readsNode 145 = .ok (.aload_n 0, 1) := by decide +kernel
theorem dX10_readsNode_146 : decode cX10_readsNode 146 = .ok (.getfield 175, 3) := by decide +kernel
theorem dX10_readsNode_149 : decode cX10_readsNode 149 = .ok (.iastore, 1) := by decide +kernel
theorem dX10_readsNode_150 : decode cX10_readsNode 150 = .ok (.aload_n 0, 1) := by decide +kernel
theorem dX10_readsNode_151 : decode cX10_readsNode 151 = .ok (.iconst 0, 1) := by decide +kernel
theorem dX10_readsNode_152 : decode cX10_readsNode 152 = .ok (.putfield 178, 3) := by decide +kernel
theorem dX10_readsNode_155 : decode cX10_readsNode 155 = .ok (.aload_n 0, 1) := by decide +kernel
theorem dX10_readsNode_156 : decode cX10_readsNode 156 = .ok (.iconst 0, 1) := by decide +kernel
theorem dX10_readsNode_157 : decode cX10_readsNode 157 = .ok (.aload_n 0, 1) := by decide +kernel
theorem dX10_readsNode_158 : decode cX10_readsNode 158 = .ok (.getfield 195, 3) := by decide +kernel
theorem dX10_readsNode_161 : decode cX10_readsNode 161 = .ok (.aload_n 0, 1) := by decide +kernel
theorem dX10_readsNode_162 : decode cX10_readsNode 162 = .ok (.getfield 195, 3) := by decide +kernel
theorem dX10_readsNode_165 : decode cX10_readsNode 165 = .ok (.invokevirtual 198, 3) := by decide +kernel
theorem dX10_readsNode_168 : decode cX10_readsNode 168 = .ok (.aload_n 0, 1) := by decide +kernel
theorem dX10_readsNode_169 : decode cX10_readsNode 169 = .ok (.dup, 1) := by decide +kernel
theorem dX10_readsNode_170 : decode cX10_readsNode 170 = .ok (.getfield 195, 3) := by decide +kernel
theorem dX10_readsNode_173 : decode cX10_readsNode 173 = .ok (.iconst 1, 1) := by decide +kernel
theorem dX10_readsNode_174 : decode cX10_readsNode 174 = .ok (.iadd, 1) := by decide +kernel
theorem dX10_readsNode_175 : decode cX10_readsNode 175 = .ok (.putfield 195, 3) := by decide +kernel
theorem dX10_readsNode_178 : decode cX10_readsNode 178 = .ok (.return_, 1) := by decide +kernel
theorem dX10_term_0 : decode cX10_term 0 = .ok (.aload_n 0, 1) := by decide +kernel
theorem dX10_term_1 : decode cX10_term 1 = .ok (.getfield 43, 3) := by decide +kernel
theorem dX10_term_4 : decode cX10_term 4 = .ok (.aload_n 0, 1) := by decide +kernel
theorem dX10_term_5 : decode cX10_term 5 = .ok (.getfield 184, 3) := by decide +kernel
theorem dX10_term_8 : decode cX10_term 8 = .ok (.iload_n 1, 1) := by decide +kernel
theorem dX10_term_9 : decode cX10_term 9 = .ok (.iastore, 1) := by decide +kernel
theorem dX10_term_10 : decode cX10_term 10 = .ok (.aload_n 0, 1) := by decide +kernel
theorem dX10_term_11 : decode cX10_term 11 = .ok (.getfield 46, 3) := by decide +kernel
theorem dX10_term_14 : decode cX10_term 14 = .ok (.aload_n 0, 1) := by decide +kernel
theorem dX10_term_15 : decode cX10_term 15 = .ok (.getfield 184, 3) := by decide +kernel
theorem dX10_term_18 : decode cX10_term 18 = .ok (.iload_n 2, 1) := by decide +kernel
theorem dX10_term_19 : decode cX10_term 19 = .ok (.iastore, 1) := by decide +kernel
theorem dX10_term_20 : decode cX10_term 20 = .ok (.aload_n 0, 1) := by decide +kernel
theorem dX10_term_21 : decode cX10_term 21 = .ok (.getfield 49, 3) := by decide +kernel
theorem dX10_term_24 : decode cX10_term 24 = .ok (.aload_n 0, 1) := by decide +kernel
theorem dX10_term_25 : decode cX10_term 25 = .ok (.getfield 184, 3) := by decide +kernel
theorem dX10_term_28 : decode cX10_term 28 = .ok (.iload_n 3, 1) := by decide +kernel
theorem dX10_term_29 : decode cX10_term 29 = .ok (.iastore, 1) := by decide +kernel
theorem dX10_term_30 : decode cX10_term 30 = .ok (.aload_n 0, 1) := by decide +kernel
theorem dX10_term_31 : decode cX10_term 31 = .ok (.dup, 1) := by decide +kernel
theorem dX10_term_32 : decode cX10_term 32 = .ok (.getfield 184, 3) := by decide +kernel
theorem dX10_term_35 : decode cX10_term 35 = .ok (.iconst 1, 1) := by decide +kernel
theorem dX10_term_36 : decode cX10_term 36 = .ok (.iadd, 1) := by decide +kernel
theorem dX10_term_37 : decode cX10_term 37 = .ok (.putfield 184, 3) := by decide +kernel
theorem dX10_term_40 : decode cX10_term 40 = .ok (.return_, 1) := by decide +kernel
theorem dX10_readsTerm_0 : decode cX10_readsTerm 0 = .ok (.aload_n 0, 1) := by decide +kernel
theorem dX10_readsTerm_1 : decode cX10_readsTerm 1 = .ok (.invokevirtual 160, 3) := by decide +kernel
theorem dX10_readsTerm_4 : decode cX10_readsTerm 4 = .ok (.istore_n 1, 1) := by decide +kernel
theorem dX10_readsTerm_5 : decode cX10_readsTerm 5 = .ok (.iload_n 1, 1) := by decide +kernel
theorem dX10_readsTerm_6 : decode cX10_readsTerm 6 = .ok (.bipush 33, 2) := by decide +kernel
theorem dX10_readsTerm_8 : decode cX10_readsTerm 8 = .ok (.if_icmp .ne 7, 3) := by decide +kernel
theorem dX10_readsTerm_11 : decode cX10_readsTerm 11 = .ok (.iconst 1, 1) := by decide +kernel
theorem dX10_readsTerm_12 : decode cX10_readsTerm 12 = .ok (.goto 4, 3) := by decide +kernel
theorem dX10_readsTerm_15 : decode cX10_readsTerm 15 = .ok (.iconst 0, 1) := by decide +kernel
theorem dX10_readsTerm_16 : decode cX10_readsTerm 16 = .ok (.istore_n 2, 1) := by decide +kernel
theorem dX10_readsTerm_17 : decode cX10_readsTerm 17 = .ok (.aload_n 0, 1) := by decide +kernel
theorem dX10_readsTerm_18 : decode cX10_readsTerm 18 = .ok (.dup, 1) := by decide +kernel
theorem dX10_readsTerm_19 : decode cX10_readsTerm 19 = .ok (.getfield 151, 3) := by decide +kernel
theorem dX10_readsTerm_22 : decode cX10_readsTerm 22 = .ok (.iload_n 2, 1) := by decide +kernel
theorem dX10_readsTerm_23 : decode cX10_readsTerm 23 = .ok (.ifCond .eq 7, 3) := by decide +kernel
theorem dX10_readsTerm_26 : decode cX10_readsTerm 26 = .ok (.iconst 1, 1) := by decide +kernel
theorem dX10_readsTerm_27 : decode cX10_readsTerm 27 = .ok (.goto 4, 3) := by decide +kernel
theorem dX10_readsTerm_30 : decode cX10_readsTerm 30 = .ok (.iconst 0, 1) := by decide +kernel
theorem dX10_readsTerm_31 : decode cX10_readsTerm 31 = .ok (.iadd, 1) := by decide +kernel
theorem dX10_readsTerm_32 : decode cX10_readsTerm 32 = .ok (.putfield 151, 3) := by decide +kernel
theorem dX10_readsTerm_35 : decode cX10_readsTerm 35 = .ok (.iload_n 2, 1) := by decide +kernel
theorem dX10_readsTerm_36 : decode cX10_readsTerm 36 = .ok (.ifCond .ne 117, 3) := by decide +kernel
theorem dX10_readsTerm_39 : decode cX10_readsTerm 39 = .ok (.iload_n 1, 1) := by decide +kernel
theorem dX10_readsTerm_40 : decode cX10_readsTerm 40 = .ok (.bipush 120, 2) := by decide +kernel
theorem dX10_readsTerm_42 : decode cX10_readsTerm 42 = .ok (.bipush 122, 2) := by decide +kernel
theorem dX10_readsTerm_44 : decode cX10_readsTerm 44 = .ok (.invokestatic 168, 3) := by decide +kernel
theorem dX10_readsTerm_47 : decode cX10_readsTerm 47 = .ok (.ifCond .eq 106, 3) := by decide +kernel
theorem dX10_readsTerm_50 : decode cX10_readsTerm 50 = .ok (.aload_n 0, 1) := by decide +kernel
theorem dX10_readsTerm_51 : decode cX10_readsTerm 51 = .ok (.dup, 1) := by decide +kernel
theorem dX10_readsTerm_52 : decode cX10_readsTerm 52 = .ok (.getfield 151, 3) := by decide +kernel
theorem dX10_readsTerm_55 : decode cX10_readsTerm 55 = .ok (.iconst 1, 1) := by decide +kernel
theorem dX10_readsTerm_56 : decode cX10_readsTerm 56 = .ok (.iadd, 1) := by decide +kernel
theorem dX10_readsTerm_57 : decode cX10_readsTerm 57 = .ok (.putfield 151, 3) := by decide +kernel
theorem dX10_readsTerm_60 : decode cX10_readsTerm 60 = .ok (.aload_n 0, 1) := by decide +kernel
theorem dX10_readsTerm_61 : decode cX10_readsTerm 61 = .ok (.invokevirtual 160, 3) := by decide +kernel
theorem dX10_readsTerm_64 : decode cX10_readsTerm 64 = .ok (.istore_n 3, 1) := by decide +kernel
theorem dX10_readsTerm_65 : decode cX10_readsTerm 65 = .ok (.aload_n 0, 1) := by decide +kernel
theorem dX10_readsTerm_66 : decode cX10_readsTerm 66 = .ok (.iload_n 3, 1) := by decide +kernel
theorem dX10_readsTerm_67 : decode cX10_readsTerm 67 = .ok (.bipush 60, 2) := by decide +kernel
theorem dX10_readsTerm_69 : decode cX10_readsTerm 69 = .ok (.if_icmp .eq 15, 3) := by decide +kernel
theorem dX10_readsTerm_72 : decode cX10_readsTerm 72 = .ok (.iload_n 3, 1) := by decide +kernel
theorem dX10_readsTerm_73 : decode cX10_readsTerm 73 = .ok (.bipush 62, 2) := by decide +kernel
theorem dX10_readsTerm_75 : decode cX10_readsTerm 75 = .ok (.if_icmp .eq 9, 3) := by decide +kernel
theorem dX10_readsTerm_78 : decode cX10_readsTerm 78 = .ok (.iload_n 3, 1) := by decide +kernel
theorem dX10_readsTerm_79 : decode cX10_readsTerm 79 = .ok (.bipush 61, 2) := by decide +kernel
theorem dX10_readsTerm_81 : decode cX10_readsTerm 81 = .ok (.if_icmp .ne 7, 3) := by decide +kernel
theorem dX10_readsTerm_84 : decode cX10_readsTerm 84 = .ok (.iconst 1, 1) := by decide +kernel
theorem dX10_readsTerm_85 : decode cX10_readsTerm 85 = .ok (.goto 4, 3) := by decide +kernel
theorem dX10_readsTerm_88 : decode cX10_readsTerm 88 = .ok (.iconst 0, 1) := by decide +kernel
theorem dX10_readsTerm_89 : decode cX10_readsTerm 89 = .ok (.invokevirtual 164, 3) := by decide +kernel
theorem dX10_readsTerm_92 : decode cX10_readsTerm 92 = .ok (.aload_n 0, 1) := by decide +kernel
theorem dX10_readsTerm_93 : decode cX10_readsTerm 93 = .ok (.dup, 1) := by decide +kernel
theorem dX10_readsTerm_94 : decode cX10_readsTerm 94 = .ok (.getfield 151, 3) := by decide +kernel
theorem dX10_readsTerm_97 : decode cX10_readsTerm 97 = .ok (.aload_n 0, 1) := by decide +kernel
theorem dX10_readsTerm_98 : decode cX10_readsTerm 98 = .ok (.getfield 157, 3) := by decide +kernel
theorem dX10_readsTerm_101 : decode cX10_readsTerm 101 = .ok (.ifCond .eq 7, 3) := by decide +kernel
theorem dX10_readsTerm_104 : decode cX10_readsTerm 104 = .ok (.iconst 1, 1) := by decide +kernel
theorem dX10_readsTerm_105 : decode cX10_readsTerm 105 = .ok (.goto 4, 3) := by decide +kernel
theorem dX10_readsTerm_108 : decode cX10_readsTerm 108 = .ok (.iconst 0, 1) := by decide +kernel
theorem dX10_readsTerm_109 : decode cX10_readsTerm 109 = .ok (.iadd, 1) := by decide +kernel
theorem dX10_readsTerm_110 : decode cX10_readsTerm 110 = .ok (.putfield 151, 3) := by decide +kernel
theorem dX10_readsTerm_113 : decode cX10_readsTerm 113 = .ok (.aload_n 0, 1) := by decide +kernel
theorem dX10_readsTerm_114 : decode cX10_readsTerm 114 = .ok (.iload_n 3, 1) := by decide +kernel
theorem dX10_readsTerm_115 : decode cX10_readsTerm 115 = .ok (.bipush 60, 2) := by decide +kernel
theorem dX10_readsTerm_117 : decode cX10_readsTerm 117 = .ok (.if_icmp .ne 7, 3) := by decide +kernel
theorem dX10_readsTerm_120 : decode cX10_readsTerm 120 = .ok (.iconst 2, 1) := by decide +kernel
theorem dX10_readsTerm_121 : decode cX10_readsTerm 121 = .ok (.goto 14, 3) := by decide +kernel
theorem dX10_readsTerm_124 : decode cX10_readsTerm 124 = .ok (.iload_n 3, 1) := by decide +kernel
theorem dX10_readsTerm_125 : decode cX10_readsTerm 125 = .ok (.bipush 62, 2) := by decide +kernel
theorem dX10_readsTerm_127 : decode cX10_readsTerm 127 = .ok (.if_icmp .ne 7, 3) := by decide +kernel
theorem dX10_readsTerm_130 : decode cX10_readsTerm 130 = .ok (.iconst 3, 1) := by decide +kernel
theorem dX10_readsTerm_131 : decode cX10_readsTerm 131 = .ok (.goto 4, 3) := by decide +kernel
theorem dX10_readsTerm_134 : decode cX10_readsTerm 134 = .ok (.iconst 4, 1) := by decide +kernel
theorem dX10_readsTerm_135 : decode cX10_readsTerm 135 = .ok (.iload_n 1, 1) := by decide +kernel
theorem dX10_readsTerm_136 : decode cX10_readsTerm 136 = .ok (.bipush 120, 2) := by decide +kernel
theorem dX10_readsTerm_138 : decode cX10_readsTerm 138 = .ok (.isub, 1) := by decide +kernel
theorem dX10_readsTerm_139 : decode cX10_readsTerm 139 = .ok (.aload_n 0, 1) := by decide +kernel
theorem dX10_readsTerm_140 : decode cX10_readsTerm 140 = .ok (.bipush 48, 2) := by decide +kernel
theorem dX10_readsTerm_142 : decode cX10_readsTerm 142 = .ok (.bipush 57, 2) := by decide +kernel
theorem dX10_readsTerm_144 : decode cX10_readsTerm 144 = .ok (.invokevirtual 191, 3) := by decide +kernel
theorem dX10_readsTerm_147 : decode cX10_readsTerm 147 = .ok (.invokevirtual 202, 3) := by decide +kernel
theorem dX10_readsTerm_150 : decode cX10_readsTerm 150 = .ok (.goto 25, 3) := by decide +kernel
theorem dX10_readsTerm_153 : decode cX10_readsTerm 153 = .ok (.aload_n 0, 1) := by decide +kernel
theorem dX10_readsTerm_154 : decode cX10_readsTerm 154 = .ok (.iload_n 2, 1) := by decide +kernel
theorem dX10_readsTerm_155 : decode cX10_readsTerm 155 = .ok (.ifCond .eq 7, 3) := by decide +kernel
theorem dX10_readsTerm_158 : decode cX10_readsTerm 158 = .ok (.iconst 1, 1) := by decide +kernel
theorem dX10_readsTerm_159 : decode cX10_readsTerm 159 = .ok (.goto 4, 3) := by decide +kernel
theorem dX10_readsTerm_162 : decode cX10_readsTerm 162 = .ok (.iconst 0, 1) := by decide +kernel
theorem dX10_readsTerm_163 : decode cX10_readsTerm 163 = .ok (.aload_n 0, 1) := by decide +kernel
theorem dX10_readsTerm_164 : decode cX10_readsTerm 164 = .ok (.bipush 97, 2) := by decide +kernel
theorem dX10_readsTerm_166 : decode cX10_readsTerm 166 = .ok (.bipush 102, 2) := by decide +kernel
theorem dX10_readsTerm_168 : decode cX10_readsTerm 168 = .ok (.invokevirtual 191, 3) := by decide +kernel
theorem dX10_readsTerm_171 : decode cX10_readsTerm 171 = .ok (.iconst 0, 1) := by decide +kernel
theorem dX10_readsTerm_172 : decode cX10_readsTerm 172 = .ok (.invokevirtual 202, 3) := by decide +kernel
theorem dX10_readsTerm_175 : decode cX10_readsTerm 175 = .ok (.return_, 1) := by decide +kernel
theorem dX10_readsCondition_0 : decode cX10_readsCondition 0 = .ok (.iconst 1, 1) := by decide +kernel
theorem dX10_readsCondition_1 : decode cX10_readsCondition 1 = .ok (.istore_n 2, 1) := by decide +kernel
theorem dX10_readsCondition_2 : decode cX10_readsCondition 2 = .ok (.iload_n 2, 1) := by decide +kernel
theorem dX10_readsCondition_3 : decode cX10_readsCondition 3 = .ok (.ifCond .eq 57, 3) := by decide +kernel
theorem dX10_readsCondition_6 : decode cX10_readsCondition 6 = .ok (.aload_n 0, 1) := by decide +kernel
theorem dX10_readsCondition_7 : decode cX10_readsCondition 7 = .ok (.getfield 157, 3) := by decide +kernel
theorem dX10_readsCondition_10 : decode cX10_readsCondition 10 = .ok (.ifCond .eq 50, 3) := by decide +kernel
theorem dX10_readsCondition_13 : decode cX10_readsCondition 13 = .ok (.aload_n 0, 1) := by decide +kernel
theorem dX10_readsCondition_14 : decode cX10_readsCondition 14 = .ok (.invokevirtual 205, 3) := by decide +kernel
theorem dX10_readsCondition_17 : decode cX10_readsCondition 17 = .ok (.aload_n 0, 1) := by decide +kernel
theorem dX10_readsCondition_18 : decode cX10_readsCondition 18 = .ok (.getfield 157, 3) := by decide +kernel
theorem dX10_readsCondition_21 : decode cX10_readsCondition 21 = .ok (.ifCond .eq 16, 3) := by decide +kernel
theorem dX10_readsCondition_24 : decode cX10_readsCondition 24 = .ok (.aload_n 0, 1) := by decide +kernel
theorem dX10_readsCondition_25 : decode cX10_readsCondition 25 = .ok (.invokevirtual 160, 3) := by decide +kernel
theorem dX10_readsCondition_28 : decode cX10_readsCondition 28 = .ok (.bipush 38, 2) := by decide +kernel
theorem dX10_readsCondition_30 : decode cX10_readsCondition 30 = .ok (.if_icmp .ne 7, 3) := by decide +kernel
theorem dX10_readsCondition_33 : decode cX10_readsCondition 33 = .ok (.iconst 1, 1) := by decide +kernel
theorem dX10_readsCondition_34 : decode cX10_readsCondition 34 = .ok (.goto 4, 3) := by decide +kernel
theorem dX10_readsCondition_37 : decode cX10_readsCondition 37 = .ok (.iconst 0, 1) := by decide +kernel
theorem dX10_readsCondition_38 : decode cX10_readsCondition 38 = .ok (.istore_n 2, 1) := by decide +kernel
theorem dX10_readsCondition_39 : decode cX10_readsCondition 39 = .ok (.aload_n 0, 1) := by decide +kernel
theorem dX10_readsCondition_40 : decode cX10_readsCondition 40 = .ok (.dup, 1) := by decide +kernel
theorem dX10_readsCondition_41 : decode cX10_readsCondition 41 = .ok (.getfield 151, 3) := by decide +kernel
theorem dX10_readsCondition_44 : decode cX10_readsCondition 44 = .ok (.iload_n 2, 1) := by decide +kernel
theorem dX10_readsCondition_45 : decode cX10_readsCondition 45 = .ok (.ifCond .eq 7, 3) := by decide +kernel
theorem dX10_readsCondition_48 : decode cX10_readsCondition 48 = .ok (.iconst 1, 1) := by decide +kernel
theorem dX10_readsCondition_49 : decode cX10_readsCondition 49 = .ok (.goto 4, 3) := by decide +kernel
theorem dX10_readsCondition_52 : decode cX10_readsCondition 52 = .ok (.iconst 0, 1) := by decide +kernel
theorem dX10_readsCondition_53 : decode cX10_readsCondition 53 = .ok (.iadd, 1) := by decide +kernel
theorem dX10_readsCondition_54 : decode cX10_readsCondition 54 = .ok (.putfield 151, 3) := by decide +kernel
theorem dX10_readsCondition_57 : decode cX10_readsCondition 57 = .ok (.goto (-55), 3) := by decide +kernel
theorem dX10_readsCondition_60 : decode cX10_readsCondition 60 = .ok (.aload_n 0, 1) := by decide +kernel
theorem dX10_readsCondition_61 : decode cX10_readsCondition 61 = .ok (.getfield 40, 3) := by decide +kernel
theorem dX10_readsCondition_64 : decode cX10_readsCondition 64 = .ok (.iload_n 1, 1) := by decide +kernel
theorem dX10_readsCondition_65 : decode cX10_readsCondition 65 = .ok (.aload_n 0, 1) := by decide +kernel
theorem dX10_readsCondition_66 : decode cX10_readsCondition 66 = .ok (.getfield 184, 3) := by decide +kernel
theorem dX10_readsCondition_69 : decode cX10_readsCondition 69 = .ok (.iastore, 1) := by decide +kernel
theorem dX10_readsCondition_70 : decode cX10_readsCondition 70 = .ok (.return_, 1) := by decide +kernel
theorem dX10_opens_0 : decode cX10_opens 0 = .ok (.aload_n 0, 1) := by decide +kernel
theorem dX10_opens_1 : decode cX10_opens 1 = .ok (.aload_n 0, 1) := by decide +kernel
theorem dX10_opens_2 : decode cX10_opens 2 = .ok (.invokevirtual 160, 3) := by decide +kernel
theorem dX10_opens_5 : decode cX10_opens 5 = .ok (.bipush 123, 2) := by decide +kernel
theorem dX10_opens_7 : decode cX10_opens 7 = .ok (.if_icmp .ne 16, 3) := by decide +kernel
theorem dX10_opens_10 : decode cX10_opens 10 = .ok (.aload_n 0, 1) := by decide +kernel
theorem dX10_opens_11 : decode cX10_opens 11 = .ok (.getfield 178, 3) := by decide +kernel
theorem dX10_opens_14 : decode cX10_opens 14 = .ok (.bipush 6, 2) := by decide +kernel
theorem dX10_opens_16 : decode cX10_opens 16 = .ok (.if_icmp .ge 7, 3) := by decide +kernel
theorem dX10_opens_19 : decode cX10_opens 19 = .ok (.iconst 1, 1) := by decide +kernel
theorem dX10_opens_20 : decode cX10_opens 20 = .ok (.goto 4, 3) := by decide +kernel
theorem dX10_opens_23 : decode cX10_opens 23 = .ok (.iconst 0, 1) := by decide +kernel
theorem dX10_opens_24 : decode cX10_opens 24 = .ok (.invokevirtual 164, 3) := by decide +kernel
theorem dX10_opens_27 : decode cX10_opens 27 = .ok (.aload_n 0, 1) := by decide +kernel
theorem dX10_opens_28 : decode cX10_opens 28 = .ok (.getfield 157, 3) := by decide +kernel
theorem dX10_opens_31 : decode cX10_opens 31 = .ok (.ifCond .ne 4, 3) := by decide +kernel
theorem dX10_opens_34 : decode cX10_opens 34 = .ok (.return_, 1) := by decide +kernel
theorem dX10_opens_35 : decode cX10_opens 35 = .ok (.aload_n 0, 1) := by decide +kernel
theorem dX10_opens_36 : decode cX10_opens 36 = .ok (.dup, 1) := by decide +kernel
theorem dX10_opens_37 : decode cX10_opens 37 = .ok (.getfield 151, 3) := by decide +kernel
theorem dX10_opens_40 : decode cX10_opens 40 = .ok (.iconst 1, 1) := by decide +kernel
theorem dX10_opens_41 : decode cX10_opens 41 = .ok (.iadd, 1) := by decide +kernel
theorem dX10_opens_42 : decode cX10_opens 42 = .ok (.putfield 151, 3) := by decide +kernel
theorem dX10_opens_45 : decode cX10_opens 45 = .ok (.iload 4, 2) := by decide +kernel
theorem dX10_opens_47 : decode cX10_opens 47 = .ok (.ifCond .eq 16, 3) := by decide +kernel
theorem dX10_opens_50 : decode cX10_opens 50 = .ok (.aload_n 0, 1) := by decide +kernel
theorem dX10_opens_51 : decode cX10_opens 51 = .ok (.getfield 34, 3) := by decide +kernel
theorem dX10_opens_54 : decode cX10_opens 54 = .ok (.iload_n 3, 1) := by decide +kernel
theorem dX10_opens_55 : decode cX10_opens 55 = .ok (.aload_n 0, 1) := by decide +kernel
theorem dX10_opens_56 : decode cX10_opens 56 = .ok (.getfield 175, 3) := by decide +kernel
theorem dX10_opens_59 : decode cX10_opens 59 = .ok (.iastore, 1) := by decide +kernel
theorem dX10_opens_60 : decode cX10_opens 60 = .ok (.goto 13, 3) := by decide +kernel
theorem dX10_opens_63 : decode cX10_opens 63 = .ok (.aload_n 0, 1) := by decide +kernel
theorem dX10_opens_64 : decode cX10_opens 64 = .ok (.getfield 31, 3) := by decide +kernel
theorem dX10_opens_67 : decode cX10_opens 67 = .ok (.iload_n 3, 1) := by decide +kernel
theorem dX10_opens_68 : decode cX10_opens 68 = .ok (.aload_n 0, 1) := by decide +kernel
theorem dX10_opens_69 : decode cX10_opens 69 = .ok (.getfield 175, 3) := by decide +kernel
theorem dX10_opens_72 : decode cX10_opens 72 = .ok (.iastore, 1) := by decide +kernel
theorem dX10_opens_73 : decode cX10_opens 73 = .ok (.aload_n 0, 1) := by decide +kernel
theorem dX10_opens_74 : decode cX10_opens 74 = .ok (.iload_n 1, 1) := by decide +kernel
theorem dX10_opens_75 : decode cX10_opens 75 = .ok (.iload_n 2, 1) := by decide +kernel
theorem dX10_opens_76 : decode cX10_opens 76 = .ok (.aload_n 0, 1) := by decide +kernel
theorem dX10_opens_77 : decode cX10_opens 77 = .ok (.getfield 64, 3) := by decide +kernel
theorem dX10_opens_80 : decode cX10_opens 80 = .ok (.aload_n 0, 1) := by decide +kernel
theorem dX10_opens_81 : decode cX10_opens 81 = .ok (.getfield 83, 3) := by decide +kernel
theorem dX10_opens_84 : decode cX10_opens 84 = .ok (.aload_n 0, 1) := by decide +kernel
theorem dX10_opens_85 : decode cX10_opens 85 = .ok (.getfield 178, 3) := by decide +kernel
theorem dX10_opens_88 : decode cX10_opens 88 = .ok (.iconst 1, 1) := by decide +kernel
theorem dX10_opens_89 : decode cX10_opens 89 = .ok (.isub, 1) := by decide +kernel
theorem dX10_opens_90 : decode cX10_opens 90 = .ok (.iaload, 1) := by decide +kernel
theorem dX10_opens_91 : decode cX10_opens 91 = .ok (.iaload, 1) := by decide +kernel
theorem dX10_opens_92 : decode cX10_opens 92 = .ok (.invokevirtual 198, 3) := by decide +kernel
theorem dX10_opens_95 : decode cX10_opens 95 = .ok (.return_, 1) := by decide +kernel
theorem dX10_readsTest_0 : decode cX10_readsTest 0 = .ok (.aload_n 0, 1) := by decide +kernel
theorem dX10_readsTest_1 : decode cX10_readsTest 1 = .ok (.aload_n 0, 1) := by decide +kernel
theorem dX10_readsTest_2 : decode cX10_readsTest 2 = .ok (.getfield 208, 3) := by decide +kernel
theorem dX10_readsTest_5 : decode cX10_readsTest 5 = .ok (.bipush 16, 2) := by decide +kernel
theorem dX10_readsTest_7 : decode cX10_readsTest 7 = .ok (.if_icmp .ge 7, 3) := by decide +kernel
theorem dX10_readsTest_10 : decode cX10_readsTest 10 = .ok (.iconst 1, 1) := by decide +kernel
theorem dX10_readsTest_11 : decode cX10_readsTest 11 = .ok (.goto 4, 3) := by decide +kernel
theorem dX10_readsTest_14 : decode cX10_readsTest 14 = .ok (.iconst 0, 1) := by decide +kernel
theorem dX10_readsTest_15 : decode cX10_readsTest 15 = .ok (.invokevirtual 164, 3) := by decide +kernel
theorem dX10_readsTest_18 : decode cX10_readsTest 18 = .ok (.aload_n 0, 1) := by decide +kernel
theorem dX10_readsTest_19 : decode cX10_readsTest 19 = .ok (.getfield 157, 3) := by decide +kernel
theorem dX10_readsTest_22 : decode cX10_readsTest 22 = .ok (.ifCond .ne 4, 3) := by decide +kernel
theorem dX10_readsTest_25 : decode cX10_readsTest 25 = .ok (.return_, 1) := by decide +kernel
theorem dX10_readsTest_26 : decode cX10_readsTest 26 = .ok (.aload_n 0, 1) := by decide +kernel
theorem dX10_readsTest_27 : decode cX10_readsTest 27 = .ok (.dup, 1) := by decide +kernel
theorem dX10_readsTest_28 : decode cX10_readsTest 28 = .ok (.getfield 151, 3) := by decide +kernel
theorem dX10_readsTest_31 : decode cX10_readsTest 31 = .ok (.iconst 1, 1) := by decide +kernel
theorem dX10_readsTest_32 : decode cX10_readsTest 32 = .ok (.iadd, 1) := by decide +kernel
theorem dX10_readsTest_33 : decode cX10_readsTest 33 = .ok (.putfield 151, 3) := by decide +kernel
theorem dX10_readsTest_36 : decode cX10_readsTest 36 = .ok (.aload_n 0, 1) := by decide +kernel
theorem dX10_readsTest_37 : decode cX10_readsTest 37 = .ok (.iconst 3, 1) := by decide +kernel
theorem dX10_readsTest_38 : decode cX10_readsTest 38 = .ok (.aload_n 0, 1) := by decide +kernel
theorem dX10_readsTest_39 : decode cX10_readsTest 39 = .ok (.getfield 208, 3) := by decide +kernel
theorem dX10_readsTest_42 : decode cX10_readsTest 42 = .ok (.iconst 0, 1) := by decide +kernel
theorem dX10_readsTest_43 : decode cX10_readsTest 43 = .ok (.invokevirtual 211, 3) := by decide +kernel
theorem dX10_readsTest_46 : decode cX10_readsTest 46 = .ok (.istore_n 1, 1) := by decide +kernel
theorem dX10_readsTest_47 : decode cX10_readsTest 47 = .ok (.aload_n 0, 1) := by decide +kernel
theorem dX10_readsTest_48 : decode cX10_readsTest 48 = .ok (.dup, 1) := by decide +kernel
theorem dX10_readsTest_49 : decode cX10_readsTest 49 = .ok (.getfield 208, 3) := by decide +kernel
theorem dX10_readsTest_52 : decode cX10_readsTest 52 = .ok (.iconst 1, 1) := by decide +kernel
theorem dX10_readsTest_53 : decode cX10_readsTest 53 = .ok (.iadd, 1) := by decide +kernel
theorem dX10_readsTest_54 : decode cX10_readsTest 54 = .ok (.putfield 208, 3) := by decide +kernel
theorem dX10_readsTest_57 : decode cX10_readsTest 57 = .ok (.aload_n 0, 1) := by decide +kernel
theorem dX10_readsTest_58 : decode cX10_readsTest 58 = .ok (.iload_n 1, 1) := by decide +kernel
theorem dX10_readsTest_59 : decode cX10_readsTest 59 = .ok (.invokevirtual 215, 3) := by decide +kernel
theorem dX10_readsTest_62 : decode cX10_readsTest 62 = .ok (.aload_n 0, 1) := by decide +kernel
theorem dX10_readsTest_63 : decode cX10_readsTest 63 = .ok (.iconst 2, 1) := by decide +kernel
theorem dX10_readsTest_64 : decode cX10_readsTest 64 = .ok (.iload_n 1, 1) := by decide +kernel
theorem dX10_readsTest_65 : decode cX10_readsTest 65 = .ok (.iload_n 1, 1) := by decide +kernel
theorem dX10_readsTest_66 : decode cX10_readsTest 66 = .ok (.iconst 0, 1) := by decide +kernel
theorem dX10_readsTest_67 : decode cX10_readsTest 67 = .ok (.invokevirtual 218, 3) := by decide +kernel
theorem dX10_readsTest_70 : decode cX10_readsTest 70 = .ok (.return_, 1) := by decide +kernel
theorem dX10_readsChoice_0 : decode cX10_readsChoice 0 = .ok (.aload_n 0, 1) := by decide +kernel
theorem dX10_readsChoice_1 : decode cX10_readsChoice 1 = .ok (.aload_n 0, 1) := by decide +kernel
theorem dX10_readsChoice_2 : decode cX10_readsChoice 2 = .ok (.getfield 222, 3) := by decide +kernel
theorem dX10_readsChoice_5 : decode cX10_readsChoice 5 = .ok (.bipush 16, 2) := by decide +kernel
theorem dX10_readsChoice_7 : decode cX10_readsChoice 7 = .ok (.if_icmp .ge 7, 3) := by decide +kernel
theorem dX10_readsChoice_10 : decode cX10_readsChoice 10 = .ok (.iconst 1, 1) := by decide +kernel
theorem dX10_readsChoice_11 : decode cX10_readsChoice 11 = .ok (.goto 4, 3) := by decide +kernel
theorem dX10_readsChoice_14 : decode cX10_readsChoice 14 = .ok (.iconst 0, 1) := by decide +kernel
theorem dX10_readsChoice_15 : decode cX10_readsChoice 15 = .ok (.invokevirtual 164, 3) := by decide +kernel
theorem dX10_readsChoice_18 : decode cX10_readsChoice 18 = .ok (.aload_n 0, 1) := by decide +kernel
theorem dX10_readsChoice_19 : decode cX10_readsChoice 19 = .ok (.getfield 157, 3) := by decide +kernel
theorem dX10_readsChoice_22 : decode cX10_readsChoice 22 = .ok (.ifCond .ne 4, 3) := by decide +kernel
theorem dX10_readsChoice_25 : decode cX10_readsChoice 25 = .ok (.return_, 1) := by decide +kernel
theorem dX10_readsChoice_26 : decode cX10_readsChoice 26 = .ok (.aload_n 0, 1) := by decide +kernel
theorem dX10_readsChoice_27 : decode cX10_readsChoice 27 = .ok (.dup, 1) := by decide +kernel
theorem dX10_readsChoice_28 : decode cX10_readsChoice 28 = .ok (.getfield 151, 3) := by decide +kernel
theorem dX10_readsChoice_31 : decode cX10_readsChoice 31 = .ok (.iconst 1, 1) := by decide +kernel
theorem dX10_readsChoice_32 : decode cX10_readsChoice 32 = .ok (.iadd, 1) := by decide +kernel
theorem dX10_readsChoice_33 : decode cX10_readsChoice 33 = .ok (.putfield 151, 3) := by decide +kernel
theorem dX10_readsChoice_36 : decode cX10_readsChoice 36 = .ok (.aload_n 0, 1) := by decide +kernel
theorem dX10_readsChoice_37 : decode cX10_readsChoice 37 = .ok (.iconst 4, 1) := by decide +kernel
theorem dX10_readsChoice_38 : decode cX10_readsChoice 38 = .ok (.aload_n 0, 1) := by decide +kernel
theorem dX10_readsChoice_39 : decode cX10_readsChoice 39 = .ok (.getfield 222, 3) := by decide +kernel
theorem dX10_readsChoice_42 : decode cX10_readsChoice 42 = .ok (.iconst 0, 1) := by decide +kernel
theorem dX10_readsChoice_43 : decode cX10_readsChoice 43 = .ok (.invokevirtual 211, 3) := by decide +kernel
theorem dX10_readsChoice_46 : decode cX10_readsChoice 46 = .ok (.istore_n 1, 1) := by decide +kernel
theorem dX10_readsChoice_47 : decode cX10_readsChoice 47 = .ok (.aload_n 0, 1) := by decide +kernel
theorem dX10_readsChoice_48 : decode cX10_readsChoice 48 = .ok (.getfield 80, 3) := by decide +kernel
theorem dX10_readsChoice_51 : decode cX10_readsChoice 51 = .ok (.aload_n 0, 1) := by decide +kernel
theorem dX10_readsChoice_52 : decode cX10_readsChoice 52 = .ok (.getfield 222, 3) := by decide +kernel
theorem dX10_readsChoice_55 : decode cX10_readsChoice 55 = .ok (.iload_n 1, 1) := by decide +kernel
theorem dX10_readsChoice_56 : decode cX10_readsChoice 56 = .ok (.iastore, 1) := by decide +kernel
theorem dX10_readsChoice_57 : decode cX10_readsChoice 57 = .ok (.aload_n 0, 1) := by decide +kernel
theorem dX10_readsChoice_58 : decode cX10_readsChoice 58 = .ok (.dup, 1) := by decide +kernel
theorem dX10_readsChoice_59 : decode cX10_readsChoice 59 = .ok (.getfield 222, 3) := by decide +kernel
theorem dX10_readsChoice_62 : decode cX10_readsChoice 62 = .ok (.iconst 1, 1) := by decide +kernel
theorem dX10_readsChoice_63 : decode cX10_readsChoice 63 = .ok (.iadd, 1) := by decide +kernel
theorem dX10_readsChoice_64 : decode cX10_readsChoice 64 = .ok (.putfield 222, 3) := by decide +kernel
theorem dX10_readsChoice_67 : decode cX10_readsChoice 67 = .ok (.aload_n 0, 1) := by decide +kernel
theorem dX10_readsChoice_68 : decode cX10_readsChoice 68 = .ok (.getfield 22, 3) := by decide +kernel
theorem dX10_readsChoice_71 : decode cX10_readsChoice 71 = .ok (.iload_n 1, 1) := by decide +kernel
theorem dX10_readsChoice_72 : decode cX10_readsChoice 72 = .ok (.aload_n 0, 1) := by decide +kernel
theorem dX10_readsChoice_73 : decode cX10_readsChoice 73 = .ok (.invokevirtual 225, 3) := by decide +kernel
theorem dX10_readsChoice_76 : decode cX10_readsChoice 76 = .ok (.iastore, 1) := by decide +kernel
theorem dX10_readsChoice_77 : decode cX10_readsChoice 77 = .ok (.aload_n 0, 1) := by decide +kernel
theorem dX10_readsChoice_78 : decode cX10_readsChoice 78 = .ok (.getfield 157, 3) := by decide +kernel
theorem dX10_readsChoice_81 : decode cX10_readsChoice 81 = .ok (.ifCond .eq 27, 3) := by decide +kernel
theorem dX10_readsChoice_84 : decode cX10_readsChoice 84 = .ok (.aload_n 0, 1) := by decide +kernel
theorem dX10_readsChoice_85 : decode cX10_readsChoice 85 = .ok (.invokevirtual 160, 3) := by decide +kernel
theorem dX10_readsChoice_88 : decode cX10_readsChoice 88 = .ok (.bipush 63, 2) := by decide +kernel
theorem dX10_readsChoice_90 : decode cX10_readsChoice 90 = .ok (.if_icmp .ne 18, 3) := by decide +kernel
theorem dX10_readsChoice_93 : decode cX10_readsChoice 93 = .ok (.aload_n 0, 1) := by decide +kernel
theorem dX10_readsChoice_94 : decode cX10_readsChoice 94 = .ok (.dup, 1) := by decide +kernel
theorem dX10_readsChoice_95 : decode cX10_readsChoice 95 = .ok (.getfield 151, 3) := by decide +kernel
theorem dX10_readsChoice_98 : decode cX10_readsChoice 98 = .ok (.iconst 1, 1) := by decide +kernel
theorem dX10_readsChoice_99 : decode cX10_readsChoice 99 = .ok (.iadd, 1) := by decide +kernel
theorem dX10_readsChoice_100 : decode cX10_readsChoice 100 = .ok (.putfield 151, 3) := by decide +kernel
theorem dX10_readsChoice_103 : decode cX10_readsChoice 103 = .ok (.aload_n 0, 1) := by decide +kernel
theorem dX10_readsChoice_104 : decode cX10_readsChoice 104 = .ok (.iload_n 1, 1) := by decide +kernel
theorem dX10_readsChoice_105 : decode cX10_readsChoice 105 = .ok (.invokevirtual 215, 3) := by decide +kernel
theorem dX10_readsChoice_108 : decode cX10_readsChoice 108 = .ok (.aload_n 0, 1) := by decide +kernel
theorem dX10_readsChoice_109 : decode cX10_readsChoice 109 = .ok (.bipush 93, 2) := by decide +kernel
theorem dX10_readsChoice_111 : decode cX10_readsChoice 111 = .ok (.invokevirtual 187, 3) := by decide +kernel
theorem dX10_readsChoice_114 : decode cX10_readsChoice 114 = .ok (.aload_n 0, 1) := by decide +kernel
theorem dX10_readsChoice_115 : decode cX10_readsChoice 115 = .ok (.iconst 1, 1) := by decide +kernel
theorem dX10_readsChoice_116 : decode cX10_readsChoice 116 = .ok (.aload_n 0, 1) := by decide +kernel
theorem dX10_readsChoice_117 : decode cX10_readsChoice 117 = .ok (.getfield 19, 3) := by decide +kernel
theorem dX10_readsChoice_120 : decode cX10_readsChoice 120 = .ok (.iload_n 1, 1) := by decide +kernel
theorem dX10_readsChoice_121 : decode cX10_readsChoice 121 = .ok (.iaload, 1) := by decide +kernel
theorem dX10_readsChoice_122 : decode cX10_readsChoice 122 = .ok (.iload_n 1, 1) := by decide +kernel
theorem dX10_readsChoice_123 : decode cX10_readsChoice 123 = .ok (.iconst 0, 1) := by decide +kernel
theorem dX10_readsChoice_124 : decode cX10_readsChoice 124 = .ok (.invokevirtual 218, 3) := by decide +kernel
theorem dX10_readsChoice_127 : decode cX10_readsChoice 127 = .ok (.return_, 1) := by decide +kernel
theorem dX10_closes_0 : decode cX10_closes 0 = .ok (.aload_n 0, 1) := by decide +kernel
theorem dX10_closes_1 : decode cX10_closes 1 = .ok (.aload_n 0, 1) := by decide +kernel
theorem dX10_closes_2 : decode cX10_closes 2 = .ok (.getfield 178, 3) := by decide +kernel
theorem dX10_closes_5 : decode cX10_closes 5 = .ok (.iconst 1, 1) := by decide +kernel
theorem dX10_closes_6 : decode cX10_closes 6 = .ok (.if_icmp .le 7, 3) := by decide +kernel
theorem dX10_closes_9 : decode cX10_closes 9 = .ok (.iconst 1, 1) := by decide +kernel
theorem dX10_closes_10 : decode cX10_closes 10 = .ok (.goto 4, 3) := by decide +kernel
theorem dX10_closes_13 : decode cX10_closes 13 = .ok (.iconst 0, 1) := by decide +kernel
theorem dX10_closes_14 : decode cX10_closes 14 = .ok (.invokevirtual 164, 3) := by decide +kernel
theorem dX10_closes_17 : decode cX10_closes 17 = .ok (.aload_n 0, 1) := by decide +kernel
theorem dX10_closes_18 : decode cX10_closes 18 = .ok (.getfield 157, 3) := by decide +kernel
theorem dX10_closes_21 : decode cX10_closes 21 = .ok (.ifCond .ne 4, 3) := by decide +kernel
theorem dX10_closes_24 : decode cX10_closes 24 = .ok (.return_, 1) := by decide +kernel
theorem dX10_closes_25 : decode cX10_closes 25 = .ok (.aload_n 0, 1) := by decide +kernel
theorem dX10_closes_26 : decode cX10_closes 26 = .ok (.dup, 1) := by decide +kernel
theorem dX10_closes_27 : decode cX10_closes 27 = .ok (.getfield 151, 3) := by decide +kernel
theorem dX10_closes_30 : decode cX10_closes 30 = .ok (.iconst 1, 1) := by decide +kernel
theorem dX10_closes_31 : decode cX10_closes 31 = .ok (.iadd, 1) := by decide +kernel
theorem dX10_closes_32 : decode cX10_closes 32 = .ok (.putfield 151, 3) := by decide +kernel
theorem dX10_closes_35 : decode cX10_closes 35 = .ok (.aload_n 0, 1) := by decide +kernel
theorem dX10_closes_36 : decode cX10_closes 36 = .ok (.getfield 83, 3) := by decide +kernel
theorem dX10_closes_39 : decode cX10_closes 39 = .ok (.aload_n 0, 1) := by decide +kernel
theorem dX10_closes_40 : decode cX10_closes 40 = .ok (.getfield 178, 3) := by decide +kernel
theorem dX10_closes_43 : decode cX10_closes 43 = .ok (.iconst 1, 1) := by decide +kernel
theorem dX10_closes_44 : decode cX10_closes 44 = .ok (.isub, 1) := by decide +kernel
theorem dX10_closes_45 : decode cX10_closes 45 = .ok (.iaload, 1) := by decide +kernel
theorem dX10_closes_46 : decode cX10_closes 46 = .ok (.istore_n 1, 1) := by decide +kernel
theorem dX10_closes_47 : decode cX10_closes 47 = .ok (.aload_n 0, 1) := by decide +kernel
theorem dX10_closes_48 : decode cX10_closes 48 = .ok (.dup, 1) := by decide +kernel
theorem dX10_closes_49 : decode cX10_closes 49 = .ok (.getfield 178, 3) := by decide +kernel
theorem dX10_closes_52 : decode cX10_closes 52 = .ok (.iconst 1, 1) := by decide +kernel
theorem dX10_closes_53 : decode cX10_closes 53 = .ok (.isub, 1) := by decide +kernel
theorem dX10_closes_54 : decode cX10_closes 54 = .ok (.putfield 178, 3) := by decide +kernel
theorem dX10_closes_57 : decode cX10_closes 57 = .ok (.aload_n 0, 1) := by decide +kernel
theorem dX10_closes_58 : decode cX10_closes 58 = .ok (.getfield 52, 3) := by decide +kernel
theorem dX10_closes_61 : decode cX10_closes 61 = .ok (.iload_n 1, 1) := by decide +kernel
theorem dX10_closes_62 : decode cX10_closes 62 = .ok (.iaload, 1) := by decide +kernel
theorem dX10_closes_63 : decode cX10_closes 63 = .ok (.iconst 2, 1) := by decide +kernel
theorem dX10_closes_64 : decode cX10_closes 64 = .ok (.if_icmp .ne 45, 3) := by decide +kernel
theorem dX10_closes_67 : decode cX10_closes 67 = .ok (.aload_n 0, 1) := by decide +kernel
theorem dX10_closes_68 : decode cX10_closes 68 = .ok (.getfield 31, 3) := by decide +kernel
theorem dX10_closes_71 : decode cX10_closes 71 = .ok (.aload_n 0, 1) := by decide +kernel
theorem dX10_closes_72 : decode cX10_closes 72 = .ok (.getfield 55, 3) := by decide +kernel
theorem dX10_closes_75 : decode cX10_closes 75 = .ok (.iload_n 1, 1) := by decide +kernel
theorem dX10_closes_76 : decode cX10_closes 76 = .ok (.iaload, 1) := by decide +kernel
theorem dX10_closes_77 : decode cX10_closes 77 = .ok (.iaload, 1) := by decide +kernel
theorem dX10_closes_78 : decode cX10_closes 78 = .ok (.iload_n 1, 1) := by decide +kernel
theorem dX10_closes_79 : decode cX10_closes 79 = .ok (.if_icmp .ne 30, 3) := by decide +kernel
theorem dX10_closes_82 : decode cX10_closes 82 = .ok (.aload_n 0, 1) := by decide +kernel
theorem dX10_closes_83 : decode cX10_closes 83 = .ok (.invokevirtual 160, 3) := by decide +kernel
theorem dX10_closes_86 : decode cX10_closes 86 = .ok (.bipush 123, 2) := by decide +kernel
theorem dX10_closes_88 : decode cX10_closes 88 = .ok (.if_icmp .ne 21, 3) := by decide +kernel
theorem dX10_closes_91 : decode cX10_closes 91 = .ok (.aload_n 0, 1) := by decide +kernel
theorem dX10_closes_92 : decode cX10_closes 92 = .ok (.iconst 2, 1) := by decide +kernel
theorem dX10_closes_93 : decode cX10_closes 93 = .ok (.aload_n 0, 1) := by decide +kernel
theorem dX10_closes_94 : decode cX10_closes 94 = .ok (.getfield 55, 3) := by decide +kernel
theorem dX10_closes_97 : decode cX10_closes 97 = .ok (.iload_n 1, 1) := by decide +kernel
theorem dX10_closes_98 : decode cX10_closes 98 = .ok (.iaload, 1) := by decide +kernel
theorem dX10_closes_99 : decode cX10_closes 99 = .ok (.aload_n 0, 1) := by decide +kernel
theorem dX10_closes_100 : decode cX10_closes 100 = .ok (.getfield 55, 3) := by decide +kernel
theorem dX10_closes_103 : decode cX10_closes 103 = .ok (.iload_n 1, 1) := by decide +kernel
theorem dX10_closes_104 : decode cX10_closes 104 = .ok (.iaload, 1) := by decide +kernel
theorem dX10_closes_105 : decode cX10_closes 105 = .ok (.iconst 1, 1) := by decide +kernel
theorem dX10_closes_106 : decode cX10_closes 106 = .ok (.invokevirtual 218, 3) := by decide +kernel
theorem dX10_closes_109 : decode cX10_closes 109 = .ok (.return_, 1) := by decide +kernel
theorem dX10_readsStatement_0 : decode cX10_readsStatement 0 = .ok (.iload_n 1, 1) := by decide +kernel
theorem dX10_readsStatement_1 : decode cX10_readsStatement 1 = .ok (.bipush 48, 2) := by decide +kernel
theorem dX10_readsStatement_3 : decode cX10_readsStatement 3 = .ok (.bipush 57, 2) := by decide +kernel
theorem dX10_readsStatement_5 : decode cX10_readsStatement 5 = .ok (.invokestatic 168, 3) := by decide +kernel
theorem dX10_readsStatement_8 : decode cX10_readsStatement 8 = .ok (.ifCond .eq 19, 3) := by decide +kernel
theorem dX10_readsStatement_11 : decode cX10_readsStatement 11 = .ok (.aload_n 0, 1) := by decide +kernel
theorem dX10_readsStatement_12 : decode cX10_readsStatement 12 = .ok (.invokevirtual 225, 3) := by decide +kernel
theorem dX10_readsStatement_15 : decode cX10_readsStatement 15 = .ok (.istore_n 2, 1) := by decide +kernel
theorem dX10_readsStatement_16 : decode cX10_readsStatement 16 = .ok (.aload_n 0, 1) := by decide +kernel
theorem dX10_readsStatement_17 : decode cX10_readsStatement 17 = .ok (.iconst 0, 1) := by decide +kernel
theorem dX10_readsStatement_18 : decode cX10_readsStatement 18 = .ok (.iload_n 2, 1) := by decide +kernel
theorem dX10_readsStatement_19 : decode cX10_readsStatement 19 = .ok (.iconst 0, 1) := by decide +kernel
theorem dX10_readsStatement_20 : decode cX10_readsStatement 20 = .ok (.invokevirtual 211, 3) := by decide +kernel
theorem dX10_readsStatement_23 : decode cX10_readsStatement 23 = .ok (.pop, 1) := by decide +kernel
theorem dX10_readsStatement_24 : decode cX10_readsStatement 24 = .ok (.goto 280, 3) := by decide +kernel
theorem dX10_readsStatement_27 : decode cX10_readsStatement 27 = .ok (.iload_n 1, 1) := by decide +kernel
theorem dX10_readsStatement_28 : decode cX10_readsStatement 28 = .ok (.bipush 43, 2) := by decide +kernel
theorem dX10_readsStatement_30 : decode cX10_readsStatement 30 = .ok (.if_icmp .eq 9, 3) := by decide +kernel
theorem dX10_readsStatement_33 : decode cX10_readsStatement 33 = .ok (.iload_n 1, 1) := by decide +kernel
theorem dX10_readsStatement_34 : decode cX10_readsStatement 34 = .ok (.bipush 45, 2) := by decide +kernel
theorem dX10_readsStatement_36 : decode cX10_readsStatement 36 = .ok (.if_icmp .ne 43, 3) := by decide +kernel
theorem dX10_readsStatement_39 : decode cX10_readsStatement 39 = .ok (.aload_n 0, 1) := by decide +kernel
theorem dX10_readsStatement_40 : decode cX10_readsStatement 40 = .ok (.dup, 1) := by decide +kernel
theorem dX10_readsStatement_41 : decode cX10_readsStatement 41 = .ok (.getfield 151, 3) := by decide +kernel
theorem dX10_readsStatement_44 : decode cX10_readsStatement 44 = .ok (.iconst 1, 1) := by decide +kernel
theorem dX10_readsStatement_45 : decode cX10_readsStatement 45 = .ok (.iadd, 1) := by decide +kernel
theorem dX10_readsStatement_46 : decode cX10_readsStatement 46 = .ok (.putfield 151, 3) := by decide +kernel
theorem dX10_readsStatement_49 : decode cX10_readsStatement 49 = .ok (.aload_n 0, 1) := by decide +kernel
theorem dX10_readsStatement_50 : decode cX10_readsStatement 50 = .ok (.bipush 97, 2) := by decide +kernel
theorem dX10_readsStatement_52 : decode cX10_readsStatement 52 = .ok (.bipush 102, 2) := by decide +kernel
theorem dX10_readsStatement_54 : decode cX10_readsStatement 54 = .ok (.invokevirtual 191, 3) := by decide +kernel
theorem dX10_readsStatement_57 : decode cX10_readsStatement 57 = .ok (.istore_n 2, 1) := by decide +kernel
theorem dX10_readsStatement_58 : decode cX10_readsStatement 58 = .ok (.aload_n 0, 1) := by decide +kernel
theorem dX10_readsStatement_59 : decode cX10_readsStatement 59 = .ok (.iconst 1, 1) := by decide +kernel
theorem dX10_readsStatement_60 : decode cX10_readsStatement 60 = .ok (.iload_n 2, 1) := by decide +kernel
theorem dX10_readsStatement_61 : decode cX10_readsStatement 61 = .ok (.iload_n 1, 1) := by decide +kernel
theorem dX10_readsStatement_62 : decode cX10_readsStatement 62 = .ok (.bipush 43, 2) := by decide +kernel
theorem dX10_readsStatement_64 : decode cX10_readsStatement 64 = .ok (.if_icmp .ne 7, 3) := by decide +kernel
theorem dX10_readsStatement_67 : decode cX10_readsStatement 67 = .ok (.iconst 1, 1) := by decide +kernel
theorem dX10_readsStatement_68 : decode cX10_readsStatement 68 = .ok (.goto 4, 3) := by decide +kernel
theorem dX10_readsStatement_71 : decode cX10_readsStatement 71 = .ok (.iconst 0, 1) := by decide +kernel
theorem dX10_readsStatement_72 : decode cX10_readsStatement 72 = .ok (.invokevirtual 211, 3) := by decide +kernel
theorem dX10_readsStatement_75 : decode cX10_readsStatement 75 = .ok (.pop, 1) := by decide +kernel
theorem dX10_readsStatement_76 : decode cX10_readsStatement 76 = .ok (.goto 228, 3) := by decide +kernel
theorem dX10_readsStatement_79 : decode cX10_readsStatement 79 = .ok (.iload_n 1, 1) := by decide +kernel
theorem dX10_readsStatement_80 : decode cX10_readsStatement 80 = .ok (.bipush 120, 2) := by decide +kernel
theorem dX10_readsStatement_82 : decode cX10_readsStatement 82 = .ok (.bipush 122, 2) := by decide +kernel
theorem dX10_readsStatement_84 : decode cX10_readsStatement 84 = .ok (.invokestatic 168, 3) := by decide +kernel
theorem dX10_readsStatement_87 : decode cX10_readsStatement 87 = .ok (.ifCond .eq 98, 3) := by decide +kernel
theorem dX10_readsStatement_90 : decode cX10_readsStatement 90 = .ok (.aload_n 0, 1) := by decide +kernel
theorem dX10_readsStatement_91 : decode cX10_readsStatement 91 = .ok (.dup, 1) := by decide +kernel
theorem dX10_readsStatement_92 : decode cX10_readsStatement 92 = .ok (.getfield 151, 3) := by decide +kernel
theorem dX10_readsStatement_95 : decode cX10_readsStatement 95 = .ok (.iconst 1, 1) := by decide +kernel
theorem dX10_readsStatement_96 : decode cX10_readsStatement 96 = .ok (.iadd, 1) := by decide +kernel
theorem dX10_readsStatement_97 : decode cX10_readsStatement 97 = .ok (.putfield 151, 3) := by decide +kernel
theorem dX10_readsStatement_100 : decode cX10_readsStatement 100 = .ok (.aload_n 0, 1) := by decide +kernel
theorem dX10_readsStatement_101 : decode cX10_readsStatement 101 = .ok (.invokevirtual 160, 3) := by decide +kernel
theorem dX10_readsStatement_104 : decode cX10_readsStatement 104 = .ok (.istore_n 2, 1) := by decide +kernel
theorem dX10_readsStatement_105 : decode cX10_readsStatement 105 = .ok (.aload_n 0, 1) := by decide +kernel
theorem dX10_readsStatement_106 : decode cX10_readsStatement 106 = .ok (.iload_n 2, 1) := by decide +kernel
theorem dX10_readsStatement_107 : decode cX10_readsStatement 107 = .ok (.bipush 61, 2) := by decide +kernel
theorem dX10_readsStatement_109 : decode cX10_readsStatement 109 = .ok (.if_icmp .eq 15, 3) := by decide +kernel
theorem dX10_readsStatement_112 : decode cX10_readsStatement 112 = .ok (.iload_n 2, 1) := by decide +kernel
theorem dX10_readsStatement_113 : decode cX10_readsStatement 113 = .ok (.bipush 43, 2) := by decide +kernel
theorem dX10_readsStatement_115 : decode cX10_readsStatement 115 = .ok (.if_icmp .eq 9, 3) := by decide +kernel
theorem dX10_readsStatement_118 : decode cX10_readsStatement 118 = .ok (.iload_n 2, 1) := by decide +kernel
theorem dX10_readsStatement_119 : decode cX10_readsStatement 119 = .ok (.bipush 45, 2) := by decide +kernel
theorem dX10_readsStatement_121 : decode cX10_readsStatement 121 = .ok (.if_icmp .ne 7, 3) := by decide +kernel
theorem dX10_readsStatement_124 : decode cX10_readsStatement 124 = .ok (.iconst 1, 1) := by decide +kernel
theorem dX10_readsStatement_125 : decode cX10_readsStatement 125 = .ok (.goto 4, 3) := by decide +kernel
theorem dX10_readsStatement_128 : decode cX10_readsStatement 128 = .ok (.iconst 0, 1) := by decide +kernel
theorem dX10_readsStatement_129 : decode cX10_readsStatement 129 = .ok (.invokevirtual 164, 3) := by decide +kernel
theorem dX10_readsStatement_132 : decode cX10_readsStatement 132 = .ok (.aload_n 0, 1) := by decide +kernel
theorem dX10_readsStatement_133 : decode cX10_readsStatement 133 = .ok (.dup, 1) := by decide +kernel
theorem dX10_readsStatement_134 : decode cX10_readsStatement 134 = .ok (.getfield 151, 3) := by decide +kernel
theorem dX10_readsStatement_137 : decode cX10_readsStatement 137 = .ok (.aload_n 0, 1) := by decide +kernel
theorem dX10_readsStatement_138 : decode cX10_readsStatement 138 = .ok (.getfield 157, 3) := by decide +kernel
theorem dX10_readsStatement_141 : decode cX10_readsStatement 141 = .ok (.ifCond .eq 7, 3) := by decide +kernel
theorem dX10_readsStatement_144 : decode cX10_readsStatement 144 = .ok (.iconst 1, 1) := by decide +kernel
theorem dX10_readsStatement_145 : decode cX10_readsStatement 145 = .ok (.goto 4, 3) := by decide +kernel
theorem dX10_readsStatement_148 : decode cX10_readsStatement 148 = .ok (.iconst 0, 1) := by decide +kernel
theorem dX10_readsStatement_149 : decode cX10_readsStatement 149 = .ok (.iadd, 1) := by decide +kernel
theorem dX10_readsStatement_150 : decode cX10_readsStatement 150 = .ok (.putfield 151, 3) := by decide +kernel
theorem dX10_readsStatement_153 : decode cX10_readsStatement 153 = .ok (.aload_n 0, 1) := by decide +kernel
theorem dX10_readsStatement_154 : decode cX10_readsStatement 154 = .ok (.bipush 48, 2) := by decide +kernel
theorem dX10_readsStatement_156 : decode cX10_readsStatement 156 = .ok (.bipush 57, 2) := by decide +kernel
theorem dX10_readsStatement_158 : decode cX10_readsStatement 158 = .ok (.invokevirtual 191, 3) := by decide +kernel
theorem dX10_readsStatement_161 : decode cX10_readsStatement 161 = .ok (.istore_n 3, 1) := by decide +kernel
theorem dX10_readsStatement_162 : decode cX10_readsStatement 162 = .ok (.aload_n 0, 1) := by decide +kernel
theorem dX10_readsStatement_163 : decode cX10_readsStatement 163 = .ok (.iconst 2, 1) := by decide +kernel
theorem dX10_readsStatement_164 : decode cX10_readsStatement 164 = .ok (.iload_n 1, 1) := by decide +kernel
theorem dX10_readsStatement_165 : decode cX10_readsStatement 165 = .ok (.bipush 120, 2) := by decide +kernel
theorem dX10_readsStatement_167 : decode cX10_readsStatement 167 = .ok (.isub, 1) := by decide +kernel
theorem dX10_readsStatement_168 : decode cX10_readsStatement 168 = .ok (.iload_n 3, 1) := by decide +kernel
theorem dX10_readsStatement_169 : decode cX10_readsStatement 169 = .ok (.invokevirtual 211, 3) := by decide +kernel
theorem dX10_readsStatement_172 : decode cX10_readsStatement 172 = .ok (.istore 4, 2) := by decide +kernel
theorem dX10_readsStatement_174 : decode cX10_readsStatement 174 = .ok (.aload_n 0, 1) := by decide +kernel
theorem dX10_readsStatement_175 : decode cX10_readsStatement 175 = .ok (.getfield 31, 3) := by decide +kernel
theorem dX10_readsStatement_178 : decode cX10_readsStatement 178 = .ok (.iload 4, 2) := by decide +kernel
theorem dX10_readsStatement_180 : decode cX10_readsStatement 180 = .ok (.iload_n 2, 1) := by decide +kernel
theorem dX10_readsStatement_181 : decode cX10_readsStatement 181 = .ok (.iastore, 1) := by decide +kernel
theorem dX10_readsStatement_182 : decode cX10_readsStatement 182 = .ok (.goto 122, 3) := by decide +kernel
theorem dX10_readsStatement_185 : decode cX10_readsStatement 185 = .ok (.iload_n 1, 1) := by decide +kernel
theorem dX10_readsStatement_186 : decode cX10_readsStatement 186 = .ok (.bipush 63, 2) := by decide +kernel
theorem dX10_readsStatement_188 : decode cX10_readsStatement 188 = .ok (.if_icmp .ne 10, 3) := by decide +kernel
theorem dX10_readsStatement_191 : decode cX10_readsStatement 191 = .ok (.aload_n 0, 1) := by decide +kernel
theorem dX10_readsStatement_192 : decode cX10_readsStatement 192 = .ok (.invokevirtual 228, 3) := by decide +kernel
theorem dX10_readsStatement_195 : decode cX10_readsStatement 195 = .ok (.goto 109, 3) := by decide +kernel
theorem dX10_readsStatement_198 : decode cX10_readsStatement 198 = .ok (.iload_n 1, 1) := by decide +kernel
theorem dX10_readsStatement_199 : decode cX10_readsStatement 199 = .ok (.bipush 91, 2) := by decide +kernel
theorem dX10_readsStatement_201 : decode cX10_readsStatement 201 = .ok (.if_icmp .ne 10, 3) := by decide +kernel
theorem dX10_readsStatement_204 : decode cX10_readsStatement 204 = .ok (.aload_n 0, 1) := by decide +kernel
theorem dX10_readsStatement_205 : decode cX10_readsStatement 205 = .ok (.invokevirtual 231, 3) := by decide +kernel
theorem dX10_readsStatement_208 : decode cX10_readsStatement 208 = .ok (.goto 96, 3) := by decide +kernel
theorem dX10_readsStatement_211 : decode cX10_readsStatement 211 = .ok (.iload_n 1, 1) := by decide +kernel
theorem dX10_readsStatement_212 : decode cX10_readsStatement 212 = .ok (.bipush 62, 2) := by decide +kernel
theorem dX10_readsStatement_214 : decode cX10_readsStatement 214 = .ok (.if_icmp .ne 38, 3) := by decide +kernel
theorem dX10_readsStatement_217 : decode cX10_readsStatement 217 = .ok (.aload_n 0, 1) := by decide +kernel
theorem dX10_readsStatement_218 : decode cX10_readsStatement 218 = .ok (.dup, 1) := by decide +kernel
theorem dX10_readsStatement_219 : decode cX10_readsStatement 219 = .ok (.getfield 151, 3) := by decide +kernel
theorem dX10_readsStatement_222 : decode cX10_readsStatement 222 = .ok (.iconst 1, 1) := by decide +kernel
theorem dX10_readsStatement_223 : decode cX10_readsStatement 223 = .ok (.iadd, 1) := by decide +kernel
theorem dX10_readsStatement_224 : decode cX10_readsStatement 224 = .ok (.putfield 151, 3) := by decide +kernel
theorem dX10_readsStatement_227 : decode cX10_readsStatement 227 = .ok (.aload_n 0, 1) := by decide +kernel
theorem dX10_readsStatement_228 : decode cX10_readsStatement 228 = .ok (.bipush 65, 2) := by decide +kernel
theorem dX10_readsStatement_230 : decode cX10_readsStatement 230 = .ok (.bipush 76, 2) := by decide +kernel
theorem dX10_readsStatement_232 : decode cX10_readsStatement 232 = .ok (.invokevirtual 191, 3) := by decide +kernel
theorem dX10_readsStatement_235 : decode cX10_readsStatement 235 = .ok (.istore_n 2, 1) := by decide +kernel
theorem dX10_readsStatement_236 : decode cX10_readsStatement 236 = .ok (.aload_n 0, 1) := by decide +kernel
theorem dX10_readsStatement_237 : decode cX10_readsStatement 237 = .ok (.iconst 5, 1) := by decide +kernel
theorem dX10_readsStatement_238 : decode cX10_readsStatement 238 = .ok (.iload_n 2, 1) := by decide +kernel
theorem dX10_readsStatement_239 : decode cX10_readsStatement 239 = .ok (.aload_n 0, 1) := by decide +kernel
theorem dX10_readsStatement_240 : decode cX10_readsStatement 240 = .ok (.getfield 151, 3) := by decide +kernel
theorem dX10_readsStatement_243 : decode cX10_readsStatement 243 = .ok (.iconst 1, 1) := by decide +kernel
theorem dX10_readsStatement_244 : decode cX10_readsStatement 244 = .ok (.isub, 1) := by decide +kernel
theorem dX10_readsStatement_245 : decode cX10_readsStatement 245 = .ok (.invokevirtual 211, 3) := by decide +kernel
theorem dX10_readsStatement_248 : decode cX10_readsStatement 248 = .ok (.istore_n 3, 1) := by decide +kernel
theorem dX10_readsStatement_249 : decode cX10_readsStatement 249 = .ok (.goto 55, 3) := by decide +kernel
theorem dX10_readsStatement_252 : decode cX10_readsStatement 252 = .ok (.iload_n 1, 1) := by decide +kernel
theorem dX10_readsStatement_253 : decode cX10_readsStatement 253 = .ok (.bipush 60, 2) := by decide +kernel
theorem dX10_readsStatement_255 : decode cX10_readsStatement 255 = .ok (.if_icmp .ne 25, 3) := by decide +kernel
theorem dX10_readsStatement_258 : decode cX10_readsStatement 258 = .ok (.aload_n 0, 1) := by decide +kernel
theorem dX10_readsStatement_259 : decode cX10_readsStatement 259 = .ok (.dup, 1) := by decide +kernel
theorem dX10_readsStatement_260 : decode cX10_readsStatement 260 = .ok (.getfield 151, 3) := by decide +kernel
theorem dX10_readsStatement_263 : decode cX10_readsStatement 263 = .ok (.iconst 1, 1) := by decide +kernel
theorem dX10_readsStatement_264 : decode cX10_readsStatement 264 = .ok (.iadd, 1) := by decide +kernel
theorem dX10_readsStatement_265 : decode cX10_readsStatement 265 = .ok (.putfield 151, 3) := by decide +kernel
theorem dX10_readsStatement_268 : decode cX10_readsStatement 268 = .ok (.aload_n 0, 1) := by decide +kernel
theorem dX10_readsStatement_269 : decode cX10_readsStatement 269 = .ok (.bipush 6, 2) := by decide +kernel
theorem dX10_readsStatement_271 : decode cX10_readsStatement 271 = .ok (.iconst 0, 1) := by decide +kernel
theorem dX10_readsStatement_272 : decode cX10_readsStatement 272 = .ok (.iconst 0, 1) := by decide +kernel
theorem dX10_readsStatement_273 : decode cX10_readsStatement 273 = .ok (.invokevirtual 211, 3) := by decide +kernel
theorem dX10_readsStatement_276 : decode cX10_readsStatement 276 = .ok (.pop, 1) := by decide +kernel
theorem dX10_readsStatement_277 : decode cX10_readsStatement 277 = .ok (.goto 27, 3) := by decide +kernel
theorem dX10_readsStatement_280 : decode cX10_readsStatement 280 = .ok (.aload_n 0, 1) := by decide +kernel
theorem dX10_readsStatement_281 : decode cX10_readsStatement 281 = .ok (.bipush 46, 2) := by decide +kernel
theorem dX10_readsStatement_283 : decode cX10_readsStatement 283 = .ok (.invokevirtual 187, 3) := by decide +kernel
theorem dX10_readsStatement_286 : decode cX10_readsStatement 286 = .ok (.aload_n 0, 1) := by decide +kernel
theorem dX10_readsStatement_287 : decode cX10_readsStatement 287 = .ok (.bipush 48, 2) := by decide +kernel
theorem dX10_readsStatement_289 : decode cX10_readsStatement 289 = .ok (.bipush 57, 2) := by decide +kernel
theorem dX10_readsStatement_291 : decode cX10_readsStatement 291 = .ok (.invokevirtual 191, 3) := by decide +kernel
theorem dX10_readsStatement_294 : decode cX10_readsStatement 294 = .ok (.istore_n 2, 1) := by decide +kernel
theorem dX10_readsStatement_295 : decode cX10_readsStatement 295 = .ok (.aload_n 0, 1) := by decide +kernel
theorem dX10_readsStatement_296 : decode cX10_readsStatement 296 = .ok (.bipush 7, 2) := by decide +kernel
theorem dX10_readsStatement_298 : decode cX10_readsStatement 298 = .ok (.iload_n 2, 1) := by decide +kernel
theorem dX10_readsStatement_299 : decode cX10_readsStatement 299 = .ok (.iconst 0, 1) := by decide +kernel
theorem dX10_readsStatement_300 : decode cX10_readsStatement 300 = .ok (.invokevirtual 211, 3) := by decide +kernel
theorem dX10_readsStatement_303 : decode cX10_readsStatement 303 = .ok (.pop, 1) := by decide +kernel
theorem dX10_readsStatement_304 : decode cX10_readsStatement 304 = .ok (.return_, 1) := by decide +kernel
theorem wt_10 : (Jvm.Cond.initialized "BranchingStoryModel") ∈ lw_tbl := in_tb 10 (by decide +kernel)
theorem wt_1306 : (Jvm.Cond.fieldLink "BranchingStoryModel" (7 : Nat) "BranchingStoryModel" "text" "[I") ∈ lw_tbl := in_tb 1306 (by decide +kernel)
theorem wt_1308 : (Jvm.Cond.fieldLink "BranchingStoryModel" (13 : Nat) "BranchingStoryModel" "told" "[I") ∈ lw_tbl := in_tb 1308 (by decide +kernel)
theorem wt_1311 : (Jvm.Cond.fieldLink "BranchingStoryModel" (143 : Nat) "BranchingStoryModel" "code" "I") ∈ lw_tbl := in_tb 1311 (by decide +kernel)
theorem wt_1312 : (Jvm.Cond.fieldLink "BranchingStoryModel" (16 : Nat) "BranchingStoryModel" "kind" "[I") ∈ lw_tbl := in_tb 1312 (by decide +kernel)
theorem wt_1313 : (Jvm.Cond.fieldLink "BranchingStoryModel" (19 : Nat) "BranchingStoryModel" "one" "[I") ∈ lw_tbl := in_tb 1313 (by decide +kernel)
theorem wt_1314 : (Jvm.Cond.fieldLink "BranchingStoryModel" (22 : Nat) "BranchingStoryModel" "two" "[I") ∈ lw_tbl := in_tb 1314 (by decide +kernel)
theorem wt_1315 : (Jvm.Cond.fieldLink "BranchingStoryModel" (25 : Nat) "BranchingStoryModel" "next" "[I") ∈ lw_tbl := in_tb 1315 (by decide +kernel)
theorem wt_1316 : (Jvm.Cond.fieldLink "BranchingStoryModel" (28 : Nat) "BranchingStoryModel" "inBlock" "[I") ∈ lw_tbl := in_tb 1316 (by decide +kernel)
theorem wt_1317 : (Jvm.Cond.fieldLink "BranchingStoryModel" (31 : Nat) "BranchingStoryModel" "first" "[I") ∈ lw_tbl := in_tb 1317 (by decide +kernel)
theorem wt_1318 : (Jvm.Cond.fieldLink "BranchingStoryModel" (34 : Nat) "BranchingStoryModel" "second" "[I") ∈ lw_tbl := in_tb 1318 (by decide +kernel)
theorem wt_1319 : (Jvm.Cond.fieldLink "BranchingStoryModel" (37 : Nat) "BranchingStoryModel" "termsFrom" "[I") ∈ lw_tbl := in_tb 1319 (by decide +kernel)
theorem wt_1320 : (Jvm.Cond.fieldLink "BranchingStoryModel" (40 : Nat) "BranchingStoryModel" "termsTo" "[I") ∈ lw_tbl := in_tb 1320 (by decide +kernel)
theorem wt_1321 : (Jvm.Cond.fieldLink "BranchingStoryModel" (181 : Nat) "BranchingStoryModel" "statements" "I") ∈ lw_tbl := in_tb 1321 (by decide +kernel)
theorem wt_1322 : (Jvm.Cond.fieldLink "BranchingStoryModel" (43 : Nat) "BranchingStoryModel" "termKind" "[I") ∈ lw_tbl := in_tb 1322 (by decide +kernel)
theorem wt_1323 : (Jvm.Cond.fieldLink "BranchingStoryModel" (46 : Nat) "BranchingStoryModel" "termOf" "[I") ∈ lw_tbl := in_tb 1323 (by decide +kernel)
theorem wt_1324 : (Jvm.Cond.fieldLink "BranchingStoryModel" (49 : Nat) "BranchingStoryModel" "termDigit" "[I") ∈ lw_tbl := in_tb 1324 (by decide +kernel)
theorem wt_1325 : (Jvm.Cond.fieldLink "BranchingStoryModel" (184 : Nat) "BranchingStoryModel" "terms" "I") ∈ lw_tbl := in_tb 1325 (by decide +kernel)
theorem wt_1326 : (Jvm.Cond.fieldLink "BranchingStoryModel" (52 : Nat) "BranchingStoryModel" "blockKind" "[I") ∈ lw_tbl := in_tb 1326 (by decide +kernel)
theorem wt_1327 : (Jvm.Cond.fieldLink "BranchingStoryModel" (55 : Nat) "BranchingStoryModel" "blockOf" "[I") ∈ lw_tbl := in_tb 1327 (by decide +kernel)
theorem wt_1328 : (Jvm.Cond.fieldLink "BranchingStoryModel" (58 : Nat) "BranchingStoryModel" "blockFirst" "[I") ∈ lw_tbl := in_tb 1328 (by decide +kernel)
theorem wt_1329 : (Jvm.Cond.fieldLink "BranchingStoryModel" (61 : Nat) "BranchingStoryModel" "blockLast" "[I") ∈ lw_tbl := in_tb 1329 (by decide +kernel)
theorem wt_1330 : (Jvm.Cond.fieldLink "BranchingStoryModel" (64 : Nat) "BranchingStoryModel" "blockNode" "[I") ∈ lw_tbl := in_tb 1330 (by decide +kernel)
theorem wt_1331 : (Jvm.Cond.fieldLink "BranchingStoryModel" (175 : Nat) "BranchingStoryModel" "blocks" "I") ∈ lw_tbl := in_tb 1331 (by decide +kernel)
theorem wt_1332 : (Jvm.Cond.fieldLink "BranchingStoryModel" (67 : Nat) "BranchingStoryModel" "nodeName" "[I") ∈ lw_tbl := in_tb 1332 (by decide +kernel)
theorem wt_1333 : (Jvm.Cond.fieldLink "BranchingStoryModel" (70 : Nat) "BranchingStoryModel" "nodeHub" "[Z") ∈ lw_tbl := in_tb 1333 (by decide +kernel)
theorem wt_1334 : (Jvm.Cond.fieldLink "BranchingStoryModel" (74 : Nat) "BranchingStoryModel" "nodeBlock" "[I") ∈ lw_tbl := in_tb 1334 (by decide +kernel)
theorem wt_1335 : (Jvm.Cond.fieldLink "BranchingStoryModel" (77 : Nat) "BranchingStoryModel" "named" "[I") ∈ lw_tbl := in_tb 1335 (by decide +kernel)
theorem wt_1336 : (Jvm.Cond.fieldLink "BranchingStoryModel" (195 : Nat) "BranchingStoryModel" "nodes" "I") ∈ lw_tbl := in_tb 1336 (by decide +kernel)
theorem wt_1337 : (Jvm.Cond.fieldLink "BranchingStoryModel" (80 : Nat) "BranchingStoryModel" "choiceStatement" "[I") ∈ lw_tbl := in_tb 1337 (by decide +kernel)
theorem wt_1338 : (Jvm.Cond.fieldLink "BranchingStoryModel" (222 : Nat) "BranchingStoryModel" "choices" "I") ∈ lw_tbl := in_tb 1338 (by decide +kernel)
theorem wt_1339 : (Jvm.Cond.fieldLink "BranchingStoryModel" (208 : Nat) "BranchingStoryModel" "tests" "I") ∈ lw_tbl := in_tb 1339 (by decide +kernel)
theorem wt_1340 : (Jvm.Cond.fieldLink "BranchingStoryModel" (147 : Nat) "BranchingStoryModel" "ofStory" "Z") ∈ lw_tbl := in_tb 1340 (by decide +kernel)
theorem wt_1341 : (Jvm.Cond.fieldLink "BranchingStoryModel" (154 : Nat) "BranchingStoryModel" "many" "I") ∈ lw_tbl := in_tb 1341 (by decide +kernel)
theorem wt_1342 : (Jvm.Cond.fieldLink "BranchingStoryModel" (151 : Nat) "BranchingStoryModel" "at" "I") ∈ lw_tbl := in_tb 1342 (by decide +kernel)
theorem wt_1343 : (Jvm.Cond.fieldLink "BranchingStoryModel" (157 : Nat) "BranchingStoryModel" "fine" "Z") ∈ lw_tbl := in_tb 1343 (by decide +kernel)
theorem wt_1344 : (Jvm.Cond.fieldLink "BranchingStoryModel" (83 : Nat) "BranchingStoryModel" "open" "[I") ∈ lw_tbl := in_tb 1344 (by decide +kernel)
theorem wt_1345 : (Jvm.Cond.fieldLink "BranchingStoryModel" (178 : Nat) "BranchingStoryModel" "depth" "I") ∈ lw_tbl := in_tb 1345 (by decide +kernel)
theorem wt_1537 : (Jvm.Cond.methodLink "BranchingStoryModel" (168 : Nat) ({ cls := "BranchingStoryModel", name := "in", desc := "(III)Z" } : Jvm.MethodName)) ∈ lw_tbl := in_tb 1537 (by decide +kernel)
theorem wt_1538 : (Jvm.Cond.static ({ cls := "BranchingStoryModel", name := "in", desc := "(III)Z" } : Jvm.MethodName)) ∈ lw_tbl := in_tb 1538 (by decide +kernel)
theorem wt_1539 : (Jvm.Cond.code ({ cls := "BranchingStoryModel", name := "in", desc := "(III)Z" } : Jvm.MethodName) prog_12_method_4_code (3 : Nat) (Option.some Jvm.ClassFile.FieldType.boolean)) ∈ lw_tbl := in_tb 1539 (by decide +kernel)
theorem wt_1560 : (Jvm.Cond.methodLink "BranchingStoryModel" (187 : Nat) ({ cls := "BranchingStoryModel", name := "reads", desc := "(I)V" } : Jvm.MethodName)) ∈ lw_tbl := in_tb 1560 (by decide +kernel)
theorem wt_1562 : (Jvm.Cond.instanceMethod ({ cls := "BranchingStoryModel", name := "reads", desc := "(I)V" } : Jvm.MethodName)) ∈ lw_tbl := in_tb 1562 (by decide +kernel)
theorem wt_1563 : (Jvm.Cond.code ({ cls := "BranchingStoryModel", name := "reads", desc := "(I)V" } : Jvm.MethodName) prog_12_method_8_code (2 : Nat) (Option.none : Option Jvm.ClassFile.FieldType)) ∈ lw_tbl := in_tb 1563 (by decide +kernel)
theorem wt_1564 : (Jvm.Cond.methodLink "BranchingStoryModel" (160 : Nat) ({ cls := "BranchingStoryModel", name := "here", desc := "()I" } : Jvm.MethodName)) ∈ lw_tbl := in_tb 1564 (by decide +kernel)
theorem wt_1566 : (Jvm.Cond.instanceMethod ({ cls := "BranchingStoryModel", name := "here", desc := "()I" } : Jvm.MethodName)) ∈ lw_tbl := in_tb 1566 (by decide +kernel)
theorem wt_1567 : (Jvm.Cond.code ({ cls := "BranchingStoryModel", name := "here", desc := "()I" } : Jvm.MethodName) prog_12_method_5_code (2 : Nat) (Option.some Jvm.ClassFile.FieldType.int)) ∈ lw_tbl := in_tb 1567 (by decide +kernel)
theorem wt_1568 : (Jvm.Cond.methodLink "BranchingStoryModel" (164 : Nat) ({ cls := "BranchingStoryModel", name := "requires", desc := "(Z)V" } : Jvm.MethodName)) ∈ lw_tbl := in_tb 1568 (by decide +kernel)
theorem wt_1570 : (Jvm.Cond.instanceMethod ({ cls := "BranchingStoryModel", name := "requires", desc := "(Z)V" } : Jvm.MethodName)) ∈ lw_tbl := in_tb 1570 (by decide +kernel)
theorem wt_1571 : (Jvm.Cond.code ({ cls := "BranchingStoryModel", name := "requires", desc := "(Z)V" } : Jvm.MethodName) prog_12_method_7_code (2 : Nat) (Option.none : Option Jvm.ClassFile.FieldType)) ∈ lw_tbl := in_tb 1571 (by decide +kernel)
theorem wt_1572 : (Jvm.Cond.methodLink "BranchingStoryModel" (191 : Nat) ({ cls := "BranchingStoryModel", name := "readsOf", desc := "(II)I" } : Jvm.MethodName)) ∈ lw_tbl := in_tb 1572 (by decide +kernel)
theorem wt_1574 : (Jvm.Cond.instanceMethod ({ cls := "BranchingStoryModel", name := "readsOf", desc := "(II)I" } : Jvm.MethodName)) ∈ lw_tbl := in_tb 1574 (by decide +kernel)
theorem wt_1575 : (Jvm.Cond.code ({ cls := "BranchingStoryModel", name := "readsOf", desc := "(II)I" } : Jvm.MethodName) prog_12_method_9_code (4 : Nat) (Option.some Jvm.ClassFile.FieldType.int)) ∈ lw_tbl := in_tb 1575 (by decide +kernel)
theorem wt_1576 : (Jvm.Cond.methodLink "BranchingStoryModel" (198 : Nat) ({ cls := "BranchingStoryModel", name := "newBlock", desc := "(III)V" } : Jvm.MethodName)) ∈ lw_tbl := in_tb 1576 (by decide +kernel)
theorem wt_1578 : (Jvm.Cond.instanceMethod ({ cls := "BranchingStoryModel", name := "newBlock", desc := "(III)V" } : Jvm.MethodName)) ∈ lw_tbl := in_tb 1578 (by decide +kernel)
theorem wt_1579 : (Jvm.Cond.code ({ cls := "BranchingStoryModel", name := "newBlock", desc := "(III)V" } : Jvm.MethodName) prog_12_method_11_code (4 : Nat) (Option.none : Option Jvm.ClassFile.FieldType)) ∈ lw_tbl := in_tb 1579 (by decide +kernel)
theorem wt_1584 : (Jvm.Cond.methodLink "BranchingStoryModel" (218 : Nat) ({ cls := "BranchingStoryModel", name := "opens", desc := "(IIIZ)V" } : Jvm.MethodName)) ∈ lw_tbl := in_tb 1584 (by decide +kernel)
theorem wt_1586 : (Jvm.Cond.instanceMethod ({ cls := "BranchingStoryModel", name := "opens", desc := "(IIIZ)V" } : Jvm.MethodName)) ∈ lw_tbl := in_tb 1586 (by decide +kernel)
theorem wt_1587 : (Jvm.Cond.code ({ cls := "BranchingStoryModel", name := "opens", desc := "(IIIZ)V" } : Jvm.MethodName) prog_12_method_17_code (5 : Nat) (Option.none : Option Jvm.ClassFile.FieldType)) ∈ lw_tbl := in_tb 1587 (by decide +kernel)
theorem wt_1592 : (Jvm.Cond.methodLink "BranchingStoryModel" (225 : Nat) ({ cls := "BranchingStoryModel", name := "readsNumber", desc := "()I" } : Jvm.MethodName)) ∈ lw_tbl := in_tb 1592 (by decide +kernel)
theorem wt_1594 : (Jvm.Cond.instanceMethod ({ cls := "BranchingStoryModel", name := "readsNumber", desc := "()I" } : Jvm.MethodName)) ∈ lw_tbl := in_tb 1594 (by decide +kernel)
theorem wt_1595 : (Jvm.Cond.code ({ cls := "BranchingStoryModel", name := "readsNumber", desc := "()I" } : Jvm.MethodName) prog_12_method_10_code (3 : Nat) (Option.some Jvm.ClassFile.FieldType.int)) ∈ lw_tbl := in_tb 1595 (by decide +kernel)
theorem wt_1596 : (Jvm.Cond.methodLink "BranchingStoryModel" (172 : Nat) ({ cls := "BranchingStoryModel", name := "raw", desc := "()I" } : Jvm.MethodName)) ∈ lw_tbl := in_tb 1596 (by decide +kernel)
theorem wt_1598 : (Jvm.Cond.instanceMethod ({ cls := "BranchingStoryModel", name := "raw", desc := "()I" } : Jvm.MethodName)) ∈ lw_tbl := in_tb 1598 (by decide +kernel)
theorem wt_1599 : (Jvm.Cond.code ({ cls := "BranchingStoryModel", name := "raw", desc := "()I" } : Jvm.MethodName) prog_12_method_6_code (2 : Nat) (Option.some Jvm.ClassFile.FieldType.int)) ∈ lw_tbl := in_tb 1599 (by decide +kernel)
theorem wt_1600 : (Jvm.Cond.methodLink "BranchingStoryModel" (211 : Nat) ({ cls := "BranchingStoryModel", name := "statement", desc := "(III)I" } : Jvm.MethodName)) ∈ lw_tbl := in_tb 1600 (by decide +kernel)
theorem wt_1602 : (Jvm.Cond.instanceMethod ({ cls := "BranchingStoryModel", name := "statement", desc := "(III)I" } : Jvm.MethodName)) ∈ lw_tbl := in_tb 1602 (by decide +kernel)
theorem wt_1603 : (Jvm.Cond.code ({ cls := "BranchingStoryModel", name := "statement", desc := "(III)I" } : Jvm.MethodName) prog_12_method_12_code (6 : Nat) (Option.some Jvm.ClassFile.FieldType.int)) ∈ lw_tbl := in_tb 1603 (by decide +kernel)
theorem wt_1604 : (Jvm.Cond.methodLink "BranchingStoryModel" (228 : Nat) ({ cls := "BranchingStoryModel", name := "readsTest", desc := "()V" } : Jvm.MethodName)) ∈ lw_tbl := in_tb 1604 (by decide +kernel)
theorem wt_1606 : (Jvm.Cond.instanceMethod ({ cls := "BranchingStoryModel", name := "readsTest", desc := "()V" } : Jvm.MethodName)) ∈ lw_tbl := in_tb 1606 (by decide +kernel)
theorem wt_1607 : (Jvm.Cond.code ({ cls := "BranchingStoryModel", name := "readsTest", desc := "()V" } : Jvm.MethodName) prog_12_method_18_code (2 : Nat) (Option.none : Option Jvm.ClassFile.FieldType)) ∈ lw_tbl := in_tb 1607 (by decide +kernel)
theorem wt_1608 : (Jvm.Cond.methodLink "BranchingStoryModel" (215 : Nat) ({ cls := "BranchingStoryModel", name := "readsCondition", desc := "(I)V" } : Jvm.MethodName)) ∈ lw_tbl := in_tb 1608 (by decide +kernel)
theorem wt_1610 : (Jvm.Cond.instanceMethod ({ cls := "BranchingStoryModel", name := "readsCondition", desc := "(I)V" } : Jvm.MethodName)) ∈ lw_tbl := in_tb 1610 (by decide +kernel)
theorem wt_1611 : (Jvm.Cond.code ({ cls := "BranchingStoryModel", name := "readsCondition", desc := "(I)V" } : Jvm.MethodName) prog_12_method_16_code (3 : Nat) (Option.none : Option Jvm.ClassFile.FieldType)) ∈ lw_tbl := in_tb 1611 (by decide +kernel)
theorem wt_1612 : (Jvm.Cond.methodLink "BranchingStoryModel" (205 : Nat) ({ cls := "BranchingStoryModel", name := "readsTerm", desc := "()V" } : Jvm.MethodName)) ∈ lw_tbl := in_tb 1612 (by decide +kernel)
theorem wt_1614 : (Jvm.Cond.instanceMethod ({ cls := "BranchingStoryModel", name := "readsTerm", desc := "()V" } : Jvm.MethodName)) ∈ lw_tbl := in_tb 1614 (by decide +kernel)
theorem wt_1615 : (Jvm.Cond.code ({ cls := "BranchingStoryModel", name := "readsTerm", desc := "()V" } : Jvm.MethodName) prog_12_method_14_code (4 : Nat) (Option.none : Option Jvm.ClassFile.FieldType)) ∈ lw_tbl := in_tb 1615 (by decide +kernel)
theorem wt_1616 : (Jvm.Cond.methodLink "BranchingStoryModel" (202 : Nat) ({ cls := "BranchingStoryModel", name := "term", desc := "(III)V" } : Jvm.MethodName)) ∈ lw_tbl := in_tb 1616 (by decide +kernel)
theorem wt_1618 : (Jvm.Cond.instanceMethod ({ cls := "BranchingStoryModel", name := "term", desc := "(III)V" } : Jvm.MethodName)) ∈ lw_tbl := in_tb 1618 (by decide +kernel)
theorem wt_1619 : (Jvm.Cond.code ({ cls := "BranchingStoryModel", name := "term", desc := "(III)V" } : Jvm.MethodName) prog_12_method_15_code (4 : Nat) (Option.none : Option Jvm.ClassFile.FieldType)) ∈ lw_tbl := in_tb 1619 (by decide +kernel)
theorem wt_1620 : (Jvm.Cond.methodLink "BranchingStoryModel" (231 : Nat) ({ cls := "BranchingStoryModel", name := "readsChoice", desc := "()V" } : Jvm.MethodName)) ∈ lw_tbl := in_tb 1620 (by decide +kernel)
theorem wt_1622 : (Jvm.Cond.instanceMethod ({ cls := "BranchingStoryModel", name := "readsChoice", desc := "()V" } : Jvm.MethodName)) ∈ lw_tbl := in_tb 1622 (by decide +kernel)
theorem wt_1623 : (Jvm.Cond.code ({ cls := "BranchingStoryModel", name := "readsChoice", desc := "()V" } : Jvm.MethodName) prog_12_method_19_code (2 : Nat) (Option.none : Option Jvm.ClassFile.FieldType)) ∈ lw_tbl := in_tb 1623 (by decide +kernel)
theorem fl_X10_7 : FL RX10 7 9 0 := ⟨RX10, TX10, 74, rfl, by decide, inX10, Or.inl wt_1306⟩
theorem fl_X10_13 : FL RX10 13 9 2 := ⟨RX10, TX10, 74, rfl, by decide, inX10, Or.inl wt_1308⟩
theorem fl_X10_16 : FL RX10 16 9 6 := ⟨RX10, TX10, 74, rfl, by decide, inX10, Or.inl wt_1312⟩
theorem fl_X10_19 : FL RX10 19 9 7 := ⟨RX10, TX10, 74, rfl, by decide, inX10, Or.inl wt_1313⟩
theorem fl_X10_22 : FL RX10 22 9 8 := ⟨RX10, TX10, 74, rfl, by decide, inX10, Or.inl wt_1314⟩
theorem fl_X10_25 : FL RX10 25 9 9 := ⟨RX10, TX10, 74, rfl, by decide, inX10, Or.inl wt_1315⟩
theorem fl_X10_28 : FL RX10 28 9 10 := ⟨RX10, TX10, 74, rfl, by decide, inX10, Or.inl wt_1316⟩
theorem fl_X10_31 : FL RX10 31 9 11 := ⟨RX10, TX10, 74, rfl, by decide, inX10, Or.inl wt_1317⟩
theorem fl_X10_34 : FL RX10 34 9 12 := ⟨RX10, TX10, 74, rfl, by decide, inX10, Or.inl wt_1318⟩
theorem fl_X10_37 : FL RX10 37 9 13 := ⟨RX10, TX10, 74, rfl, by decide, inX10, Or.inl wt_1319⟩
theorem fl_X10_40 : FL RX10 40 9 14 := ⟨RX10, TX10, 74, rfl, by decide, inX10, Or.inl wt_1320⟩
theorem fl_X10_43 : FL RX10 43 9 16 := ⟨RX10, TX10, 74, rfl, by decide, inX10, Or.inl wt_1322⟩
theorem fl_X10_46 : FL RX10 46 9 17 := ⟨RX10, TX10, 74, rfl, by decide, inX10, Or.inl wt_1323⟩
theorem fl_X10_49 : FL RX10 49 9 18 := ⟨RX10, TX10, 74, rfl, by decide, inX10, Or.inl wt_1324⟩
theorem fl_X10_52 : FL RX10 52 9 20 := ⟨RX10, TX10, 74, rfl, by decide, inX10, Or.inl wt_1326⟩
theorem fl_X10_55 : FL RX10 55 9 21 := ⟨RX10, TX10, 74, rfl, by decide, inX10, Or.inl wt_1327⟩
theorem fl_X10_58 : FL RX10 58 9 22 := ⟨RX10, TX10, 74, rfl, by decide, inX10, Or.inl wt_1328⟩
theorem fl_X10_61 : FL RX10 61 9 23 := ⟨RX10, TX10, 74, rfl, by decide, inX10, Or.inl wt_1329⟩
theorem fl_X10_64 : FL RX10 64 9 24 := ⟨RX10, TX10, 74, rfl, by decide, inX10, Or.inl wt_1330⟩
theorem fl_X10_67 : FL RX10 67 9 26 := ⟨RX10, TX10, 74, rfl, by decide, inX10, Or.inl wt_1332⟩
theorem fl_X10_70 : FL RX10 70 9 27 := ⟨RX10, TX10, 74, rfl, by decide, inX10, Or.inl wt_1333⟩
theorem fl_X10_74 : FL RX10 74 9 28 := ⟨RX10, TX10, 74, rfl, by decide, inX10, Or.inl wt_1334⟩
theorem fl_X10_77 : FL RX10 77 9 29 := ⟨RX10, TX10, 74, rfl, by decide, inX10, Or.inl wt_1335⟩
theorem fl_X10_80 : FL RX10 80 9 31 := ⟨RX10, TX10, 74, rfl, by decide, inX10, Or.inl wt_1337⟩
theorem fl_X10_83 : FL RX10 83 9 38 := ⟨RX10, TX10, 74, rfl, by decide, inX10, Or.inl wt_1344⟩
theorem fl_X10_143 : FL RX10 143 9 5 := ⟨RX10, TX10, 74, rfl, by decide, inX10, Or.inl wt_1311⟩
theorem fl_X10_147 : FL RX10 147 9 34 := ⟨RX10, TX10, 74, rfl, by decide, inX10, Or.inl wt_1340⟩
theorem fl_X10_151 : FL RX10 151 9 36 := ⟨RX10, TX10, 74, rfl, by decide, inX10, Or.inl wt_1342⟩
theorem fl_X10_154 : FL RX10 154 9 35 := ⟨RX10, TX10, 74, rfl, by decide, inX10, Or.inl wt_1341⟩
theorem fl_X10_157 : FL RX10 157 9 37 := ⟨RX10, TX10, 74, rfl, by decide, inX10, Or.inl wt_1343⟩
theorem fl_X10_175 : FL RX10 175 9 25 := ⟨RX10, TX10, 74, rfl, by decide, inX10, Or.inl wt_1331⟩
theorem fl_X10_178 : FL RX10 178 9 39 := ⟨RX10, TX10, 74, rfl, by decide, inX10, Or.inl wt_1345⟩
theorem fl_X10_181 : FL RX10 181 9 15 := ⟨RX10, TX10, 74, rfl, by decide, inX10, Or.inl wt_1321⟩
theorem fl_X10_184 : FL RX10 184 9 19 := ⟨RX10, TX10, 74, rfl, by decide, inX10, Or.inl wt_1325⟩
theorem fl_X10_195 : FL RX10 195 9 30 := ⟨RX10, TX10, 74, rfl, by decide, inX10, Or.inl wt_1336⟩
theorem fl_X10_208 : FL RX10 208 9 33 := ⟨RX10, TX10, 74, rfl, by decide, inX10, Or.inl wt_1339⟩
theorem fl_X10_222 : FL RX10 222 9 32 := ⟨RX10, TX10, 74, rfl, by decide, inX10, Or.inl wt_1338⟩
theorem fp_X10_143 : FP RX10 143 9 5 .int := ⟨RX10, TX10, 74, tyX10, rfl, by decide, inX10, tyX10_ok, nmX10, rfl, by decide +kernel, Or.inl wt_1311⟩
theorem fp_X10_151 : FP RX10 151 9 36 .int := ⟨RX10, TX10, 74, tyX10, rfl, by decide, inX10, tyX10_ok, nmX10, rfl, by decide +kernel, Or.inl wt_1342⟩
theorem fp_X10_157 : FP RX10 157 9 37 .boolean := ⟨RX10, TX10, 74, tyX10, rfl, by decide, inX10, tyX10_ok, nmX10, rfl, by decide +kernel, Or.inl wt_1343⟩
theorem fp_X10_175 : FP RX10 175 9 25 .int := ⟨RX10, TX10, 74, tyX10, rfl, by decide, inX10, tyX10_ok, nmX10, rfl, by decide +kernel, Or.inl wt_1331⟩
theorem fp_X10_178 : FP RX10 178 9 39 .int := ⟨RX10, TX10, 74, tyX10, rfl, by decide, inX10, tyX10_ok, nmX10, rfl, by decide +kernel, Or.inl wt_1345⟩
theorem fp_X10_181 : FP RX10 181 9 15 .int := ⟨RX10, TX10, 74, tyX10, rfl, by decide, inX10, tyX10_ok, nmX10, rfl, by decide +kernel, Or.inl wt_1321⟩
theorem fp_X10_184 : FP RX10 184 9 19 .int := ⟨RX10, TX10, 74, tyX10, rfl, by decide, inX10, tyX10_ok, nmX10, rfl, by decide +kernel, Or.inl wt_1325⟩
theorem fp_X10_195 : FP RX10 195 9 30 .int := ⟨RX10, TX10, 74, tyX10, rfl, by decide, inX10, tyX10_ok, nmX10, rfl, by decide +kernel, Or.inl wt_1336⟩
theorem fp_X10_208 : FP RX10 208 9 33 .int := ⟨RX10, TX10, 74, tyX10, rfl, by decide, inX10, tyX10_ok, nmX10, rfl, by decide +kernel, Or.inl wt_1339⟩
theorem fp_X10_222 : FP RX10 222 9 32 .int := ⟨RX10, TX10, 74, tyX10, rfl, by decide, inX10, tyX10_ok, nmX10, rfl, by decide +kernel, Or.inl wt_1338⟩
theorem cs_X10_160 : CVw RX10 160 yX10_here cX10_here 2 (some .int) 0 := ⟨Or.inl wt_1564, wt_1566, in_sl (n := 74) 97 (by decide +kernel), wt_10, wt_1567, by decide, by decide, by decide +kernel⟩
theorem cs_X10_164 : CVw RX10 164 yX10_requires cX10_requires 2 none 1 := ⟨Or.inl wt_1568, wt_1570, in_sl (n := 74) 98 (by decide +kernel), wt_10, wt_1571, by decide, by decide, by decide +kernel⟩
theorem cs_X10_168 : CSw RX10 168 yX10_in cX10_in 3 (some .boolean) 3 := ⟨Or.inl wt_1537, wt_1538, wt_10, wt_1539, by decide, by decide, by decide +kernel⟩
theorem cs_X10_172 : CVw RX10 172 yX10_raw cX10_raw 2 (some .int) 0 := ⟨Or.inl wt_1596, wt_1598, in_sl (n := 74) 105 (by decide +kernel), wt_10, wt_1599, by decide, by decide, by decide +kernel⟩
theorem cs_X10_187 : CVw RX10 187 yX10_reads cX10_reads 2 none 1 := ⟨Or.inl wt_1560, wt_1562, in_sl (n := 74) 96 (by decide +kernel), wt_10, wt_1563, by decide, by decide, by decide +kernel⟩
theorem cs_X10_191 : CVw RX10 191 yX10_readsOf cX10_readsOf 4 (some .int) 2 := ⟨Or.inl wt_1572, wt_1574, in_sl (n := 74) 99 (by decide +kernel), wt_10, wt_1575, by decide, by decide, by decide +kernel⟩
theorem cs_X10_198 : CVw RX10 198 yX10_newBlock cX10_newBlock 4 none 3 := ⟨Or.inl wt_1576, wt_1578, in_sl (n := 74) 100 (by decide +kernel), wt_10, wt_1579, by decide, by decide, by decide +kernel⟩
theorem cs_X10_202 : CVw RX10 202 yX10_term cX10_term 4 none 3 := ⟨Or.inl wt_1616, wt_1618, in_sl (n := 74) 110 (by decide +kernel), wt_10, wt_1619, by decide, by decide, by decide +kernel⟩
theorem cs_X10_205 : CVw RX10 205 yX10_readsTerm cX10_readsTerm 4 none 0 := ⟨Or.inl wt_1612, wt_1614, in_sl (n := 74) 109 (by decide +kernel), wt_10, wt_1615, by decide, by decide, by decide +kernel⟩
theorem cs_X10_211 : CVw RX10 211 yX10_statement cX10_statement 6 (some .int) 3 := ⟨Or.inl wt_1600, wt_1602, in_sl (n := 74) 106 (by decide +kernel), wt_10, wt_1603, by decide, by decide, by decide +kernel⟩
theorem cs_X10_215 : CVw RX10 215 yX10_readsCondition cX10_readsCondition 3 none 1 := ⟨Or.inl wt_1608, wt_1610, in_sl (n := 74) 108 (by decide +kernel), wt_10, wt_1611, by decide, by decide, by decide +kernel⟩
theorem cs_X10_218 : CVw RX10 218 yX10_opens cX10_opens 5 none 4 := ⟨Or.inl wt_1584, wt_1586, in_sl (n := 74) 102 (by decide +kernel), wt_10, wt_1587, by decide, by decide, by decide +kernel⟩
theorem cs_X10_225 : CVw RX10 225 yX10_readsNumber cX10_readsNumber 3 (some .int) 0 := ⟨Or.inl wt_1592, wt_1594, in_sl (n := 74) 104 (by decide +kernel), wt_10, wt_1595, by decide, by decide, by decide +kernel⟩
theorem cs_X10_228 : CVw RX10 228 yX10_readsTest cX10_readsTest 2 none 0 := ⟨Or.inl wt_1604, wt_1606, in_sl (n := 74) 107 (by decide +kernel), wt_10, wt_1607, by decide, by decide, by decide +kernel⟩
theorem cs_X10_231 : CVw RX10 231 yX10_readsChoice cX10_readsChoice 2 none 0 := ⟨Or.inl wt_1620, wt_1622, in_sl (n := 74) 111 (by decide +kernel), wt_10, wt_1623, by decide, by decide, by decide +kernel⟩
/-! BranchingStoryModel.thrown()I -/
def f_X10_thrown (σ : St) (Q : St → Int → Prop) : Prop :=
  Q σ (σ 0 5)
set_option maxRecDepth 100000 in
set_option maxHeartbeats 4000000 in
theorem c_X10_thrown (l : Launch) (Y : Cy) (hD : ∀ σ, va_D Y.2.2.2 (wsOf KM Y.2.1 Y.2.2.1 σ)) {σ : St} {Q : St → Int → Prop} (h : f_X10_thrown  σ Q) : ConI l yX10_thrown cX10_thrown 1 .int (rm0q 0 0) Y KM σ [.inr (.inr 0)] Q := con_of (lv := [(0, .inr (.inr 0))]) (by decide) hD (Nat.le_of_ble_eq_true rfl) rfl (fun X _ ok => by
  have ok : Ok X Y KM cX10_thrown 1 RX10 (rm0q 0 0) (some .int) := ok
  unfold f_X10_thrown at h
  refine q_aload_n ok dX10_thrown_0 0 rfl ?_
  refine q_getI ok fl_X10_143 kM_0 fM_0_5 dX10_thrown_1 ?_
  exact q_iret ok dX10_thrown_4 h)
/-! BranchingStoryModel.fails(I)I -/
def f_X10_fails (a0 : Int) (σ : St) (Q : St → Int → Prop) : Prop :=
  ∀ σ1 : St, σ1 = sset σ 0 5 a0 → Q σ1 0
set_option maxRecDepth 100000 in
set_option maxHeartbeats 4000000 in
theorem c_X10_fails (l : Launch) (Y : Cy) (hD : ∀ σ, va_D Y.2.2.2 (wsOf KM Y.2.1 Y.2.2.1 σ)) {a0 : Int} {σ : St} {Q : St → Int → Prop} (h : f_X10_fails a0 σ Q) : ConI l yX10_fails cX10_fails 2 .int (rm0q 0 0) Y KM σ [.inr (.inr 0), .inl a0] Q := con_of (lv := [(0, .inr (.inr 0)), (1, .inl a0)]) (by decide) hD (Nat.le_of_ble_eq_true rfl) rfl (fun X _ ok => by
  have ok : Ok X Y KM cX10_fails 2 RX10 (rm0q 0 0) (some .int) := ok
  unfold f_X10_fails at h
  refine q_aload_n ok dX10_fails_0 0 rfl ?_
  refine q_iload_n ok dX10_fails_1 1 rfl ?_
  refine q_putI ok fp_X10_143 kM_0 fM_0_5 dX10_fails_2 (wq_s (fun σ1 eσ1 => ?_))
  have h := h σ1 eσ1
  refine q_iconst ok dX10_fails_5 ?_
  exact q_iret ok dX10_fails_6 h)
/-! BranchingStoryModel.in(III)Z -/
def f_X10_in (a0 : Int) (a1 : Int) (a2 : Int) (σ : St) (Q : St → Int → Prop) : Prop :=
  inR a0 ∧ inR a1 ∧ ((a0 < a1 → Q σ 0) ∧ (¬ a0 < a1 → inR a0 ∧ inR a2 ∧ ((a2 < a0 → Q σ 0) ∧ (¬ a2 < a0 → Q σ 1))))
set_option maxRecDepth 100000 in
set_option maxHeartbeats 4000000 in
theorem c_X10_in (l : Launch) (Y : Cy) (hD : ∀ σ, va_D Y.2.2.2 (wsOf KM Y.2.1 Y.2.2.1 σ)) {a0 : Int} {a1 : Int} {a2 : Int} {σ : St} {Q : St → Int → Prop} (h : f_X10_in a0 a1 a2 σ Q) : ConI l yX10_in cX10_in 3 .boolean (rm0q 0 0) Y KM σ [.inl a0, .inl a1, .inl a2] Q := con_of (lv := [(0, .inl a0), (1, .inl a1), (2, .inl a2)]) (by decide) hD (Nat.le_of_ble_eq_true rfl) rfl (fun X _ ok => by
  have ok : Ok X Y KM cX10_in 3 RX10 (rm0q 0 0) (some .boolean) := ok
  unfold f_X10_in at h
  refine q_iload_n ok dX10_in_0 0 rfl ?_
  refine q_iload_n ok dX10_in_1 1 rfl ?_
  obtain ⟨g1, g2, hT2a, hT2b⟩ := h
  refine q_icmp_lt (tgt := 14) ok dX10_in_2 (by decide) g1 g2 (fun c2 => ?_) (fun c2 => ?_)
  · have h := hT2a c2
    refine q_iconst ok dX10_in_14 ?_
    exact q_zret ok dX10_in_15 (by decide) h
  · have h := hT2b c2
    refine q_iload_n ok dX10_in_5 0 rfl ?_
    refine q_iload_n ok dX10_in_6 2 rfl ?_
    obtain ⟨g3, g4, hT1a, hT1b⟩ := h
    refine q_icmp_gt (tgt := 14) ok dX10_in_7 (by decide) g3 g4 (fun c1 => ?_) (fun c1 => ?_)
    · have h := hT1a c1
      refine q_iconst ok dX10_in_14 ?_
      exact q_zret ok dX10_in_15 (by decide) h
    · have h := hT1b c1
      refine q_iconst ok dX10_in_10 ?_
      refine q_goto (tgt := 15) ok dX10_in_11 (by decide) ?_
      exact q_zret ok dX10_in_15 (by decide) h)
/-! BranchingStoryModel.here()I -/
def f_X10_here_J54 (Q : St → Int → Prop) (σ : St) (v1 : Nat) : Prop :=
  inR (σ 0 36) ∧ inR (σ 0 35) ∧ (((σ 0 35) ≤ (σ 0 36) → Q σ (-1)) ∧ (¬ (σ 0 35) ≤ (σ 0 36) → isIA KM v1 ∧ 0 ≤ (σ 0 36) ∧ (σ 0 36) < ((alen KM v1 : Nat) : Int) ∧ Q σ (σ v1 (σ 0 36).toNat)))
def f_X10_here_L19 (Q : St → Int → Prop) : Nat → St → Nat → Prop
  | 0, _, _ => False
  | n + 1, σ, v1 => inR (σ 0 36) ∧ inR (σ 0 35) ∧ (((σ 0 35) ≤ (σ 0 36) → f_X10_here_J54 Q σ v1) ∧ (¬ (σ 0 35) ≤ (σ 0 36) → isIA KM v1 ∧ 0 ≤ (σ 0 36) ∧ (σ 0 36) < ((alen KM v1 : Nat) : Int) ∧ inR (σ v1 (σ 0 36).toNat) ∧ ((¬ (σ v1 (σ 0 36).toNat) = 32 → f_X10_here_J54 Q σ v1) ∧ ((σ v1 (σ 0 36).toNat) = 32 → ∀ σ1 : St, σ1 = sset σ 0 36 ((σ 0 36) + 1) → f_X10_here_L19 Q n σ1 v1))))
def f_X10_here (σ : St) (Q : St → Int → Prop) : Prop :=
  inR (σ 0 34) ∧ (((σ 0 34) = 0 → f_X10_here_L19 Q FU σ 1) ∧ (¬ (σ 0 34) = 0 → f_X10_here_L19 Q FU σ 2))
set_option maxRecDepth 100000 in
set_option maxHeartbeats 4000000 in
theorem w_X10_here_J54 {X : Cx} {Y : Cy} {Q : St → Int → Prop} (ok : Ok X Y KM cX10_here 2 RX10 (rm0q 0 0) (some .int)) (σ : St) (v1 : Nat) (h : f_X10_here_J54 Q σ v1) : Wq X Y KM 2 (QF X Y (Qiq Y KM Q)) σ 54 [(0, .inr (.inr 0)), (1, .inr (.inr v1))] [] := by
  unfold f_X10_here_J54 at h
  refine q_aload_n ok dX10_here_54 0 rfl ?_
  refine q_getI ok fl_X10_151 kM_0 fM_0_36 dX10_here_55 ?_
  refine q_aload_n ok dX10_here_58 0 rfl ?_
  refine q_getI ok fl_X10_154 kM_0 fM_0_35 dX10_here_59 ?_
  obtain ⟨g1, g2, hT1a, hT1b⟩ := h
  refine q_icmp_ge (tgt := 74) ok dX10_here_62 (by decide) g1 g2 (fun c1 => ?_) (fun c1 => ?_)
  · have h := hT1a c1
    refine q_iconst ok dX10_here_74 ?_
    exact q_iret ok dX10_here_75 h
  · have h := hT1b c1
    refine q_aload_n ok dX10_here_65 1 rfl ?_
    refine q_aload_n ok dX10_here_66 0 rfl ?_
    refine q_getI ok fl_X10_151 kM_0 fM_0_36 dX10_here_67 ?_
    obtain ⟨g3, h⟩ := h
    obtain ⟨g4, g5, h⟩ := h
    refine q_iald ok kM_ok g3 g4 g5 dX10_here_70 ?_
    refine q_goto (tgt := 75) ok dX10_here_71 (by decide) ?_
    exact q_iret ok dX10_here_75 h
set_option maxRecDepth 100000 in
set_option maxHeartbeats 4000000 in
theorem w_X10_here_L19 {X : Cx} {Y : Cy} {Q : St → Int → Prop} (ok : Ok X Y KM cX10_here 2 RX10 (rm0q 0 0) (some .int)) : ∀ (n : Nat) (σ : St) (v1 : Nat) , f_X10_here_L19 Q n σ v1 → Wq X Y KM 2 (QF X Y (Qiq Y KM Q)) σ 19 [(0, .inr (.inr 0)), (1, .inr (.inr v1))] [] := by
  intro n
  induction n with
  | zero => intro σ v1 h; exact h.elim
  | succ n ih =>
    intro σ v1 h
    rw [f_X10_here_L19] at h
    refine q_aload_n ok dX10_here_19 0 rfl ?_
    refine q_getI ok fl_X10_151 kM_0 fM_0_36 dX10_here_20 ?_
    refine q_aload_n ok dX10_here_23 0 rfl ?_
    refine q_getI ok fl_X10_154 kM_0 fM_0_35 dX10_here_24 ?_
    obtain ⟨g1, g2, hT2a, hT2b⟩ := h
    refine q_icmp_ge (tgt := 54) ok dX10_here_27 (by decide) g1 g2 (fun c2 => ?_) (fun c2 => ?_)
    · have h := hT2a c2
      exact w_X10_here_J54 ok σ v1 h
    · have h := hT2b c2
      refine q_aload_n ok dX10_here_30 1 rfl ?_
      refine q_aload_n ok dX10_here_31 0 rfl ?_
      refine q_getI ok fl_X10_151 kM_0 fM_0_36 dX10_here_32 ?_
      obtain ⟨g3, h⟩ := h
      obtain ⟨g4, g5, h⟩ := h
      refine q_iald ok kM_ok g3 g4 g5 dX10_here_35 ?_
      refine q_bipush ok dX10_here_36 rfl ?_
      obtain ⟨g6, hT1a, hT1b⟩ := h
      refine q_icmp_ne (tgt := 54) ok dX10_here_38 (by decide) g6 (by unfold inR; decide) (fun c1 => ?_) (fun c1 => ?_)
      · have h := hT1a c1
        exact w_X10_here_J54 ok σ v1 h
      · have h := hT1b c1
        refine q_aload_n ok dX10_here_41 0 rfl ?_
        refine q_dup ok dX10_here_42 rfl ?_
        refine q_getI ok fl_X10_151 kM_0 fM_0_36 dX10_here_43 ?_
        refine q_iconst ok dX10_here_46 ?_
        refine q_iadd ok dX10_here_47 ?_
        refine q_putI ok fp_X10_151 kM_0 fM_0_36 dX10_here_48 (wq_s (fun σ1 eσ1 => ?_))
        have h := h σ1 eσ1
        refine q_goto (tgt := 19) ok dX10_here_51 (by decide) ?_
        exact ih σ1 v1 h
set_option maxRecDepth 100000 in
set_option maxHeartbeats 4000000 in
theorem c_X10_here (l : Launch) (Y : Cy) (hD : ∀ σ, va_D Y.2.2.2 (wsOf KM Y.2.1 Y.2.2.1 σ)) {σ : St} {Q : St → Int → Prop} (h : f_X10_here  σ Q) : ConI l yX10_here cX10_here 2 .int (rm0q 0 0) Y KM σ [.inr (.inr 0)] Q := con_of (lv := [(0, .inr (.inr 0))]) (by decide) hD (Nat.le_of_ble_eq_true rfl) rfl (fun X _ ok => by
  have ok : Ok X Y KM cX10_here 2 RX10 (rm0q 0 0) (some .int) := ok
  unfold f_X10_here at h
  refine q_aload_n ok dX10_here_0 0 rfl ?_
  refine q_getI ok fl_X10_147 kM_0 fM_0_34 dX10_here_1 ?_
  obtain ⟨g1, hT1a, hT1b⟩ := h
  refine q_if_eq (tgt := 14) ok dX10_here_4 (by decide) g1 (fun c1 => ?_) (fun c1 => ?_)
  · have h := hT1a c1
    refine q_aload_n ok dX10_here_14 0 rfl ?_
    refine q_getC ok fl_X10_7 kM_0 fM_0_0 dX10_here_15 ?_
    refine q_astore_n (lv' := [(1, .inr (.inr 1)), (0, .inr (.inr 0))]) ok dX10_here_18 (by decide) rfl ?_
    refine q_sub [1, 0] rfl ?_
    exact w_X10_here_L19 ok FU σ 1 h
  · have h := hT1b c1
    refine q_aload_n ok dX10_here_7 0 rfl ?_
    refine q_getC ok fl_X10_13 kM_0 fM_0_2 dX10_here_8 ?_
    refine q_goto (tgt := 18) ok dX10_here_11 (by decide) ?_
    refine q_astore_n (lv' := [(1, .inr (.inr 2)), (0, .inr (.inr 0))]) ok dX10_here_18 (by decide) rfl ?_
    refine q_sub [1, 0] rfl ?_
    exact w_X10_here_L19 ok FU σ 2 h)
/-! BranchingStoryModel.raw()I -/
def f_X10_raw_J18 (Q : St → Int → Prop) (σ : St) (s0 : Nat) : Prop :=
  inR (σ 0 36) ∧ inR (σ 0 35) ∧ (((σ 0 35) ≤ (σ 0 36) → Q σ (-1)) ∧ (¬ (σ 0 35) ≤ (σ 0 36) → isIA KM s0 ∧ 0 ≤ (σ 0 36) ∧ (σ 0 36) < ((alen KM s0 : Nat) : Int) ∧ Q σ (σ s0 (σ 0 36).toNat)))
def f_X10_raw (σ : St) (Q : St → Int → Prop) : Prop :=
  inR (σ 0 34) ∧ (((σ 0 34) = 0 → f_X10_raw_J18 Q σ 1) ∧ (¬ (σ 0 34) = 0 → f_X10_raw_J18 Q σ 2))
set_option maxRecDepth 100000 in
set_option maxHeartbeats 4000000 in
theorem w_X10_raw_J18 {X : Cx} {Y : Cy} {Q : St → Int → Prop} (ok : Ok X Y KM cX10_raw 2 RX10 (rm0q 0 0) (some .int)) (σ : St) (s0 : Nat) (h : f_X10_raw_J18 Q σ s0) : Wq X Y KM 2 (QF X Y (Qiq Y KM Q)) σ 18 [(0, .inr (.inr 0))] [.inr (.inr s0)] := by
  unfold f_X10_raw_J18 at h
  refine q_astore_n (lv' := [(1, .inr (.inr s0)), (0, .inr (.inr 0))]) ok dX10_raw_18 (by decide) rfl ?_
  refine q_aload_n ok dX10_raw_19 1 rfl ?_
  refine q_getI ok fl_X10_151 kM_0 fM_0_36 dX10_raw_20 ?_
  refine q_aload_n ok dX10_raw_23 1 rfl ?_
  refine q_getI ok fl_X10_154 kM_0 fM_0_35 dX10_raw_24 ?_
  obtain ⟨g1, g2, hT1a, hT1b⟩ := h
  refine q_icmp_ge (tgt := 39) ok dX10_raw_27 (by decide) g1 g2 (fun c1 => ?_) (fun c1 => ?_)
  · have h := hT1a c1
    refine q_iconst ok dX10_raw_39 ?_
    exact q_iret ok dX10_raw_40 h
  · have h := hT1b c1
    refine q_aload_n ok dX10_raw_30 0 rfl ?_
    refine q_aload_n ok dX10_raw_31 1 rfl ?_
    refine q_getI ok fl_X10_151 kM_0 fM_0_36 dX10_raw_32 ?_
    obtain ⟨g3, h⟩ := h
    obtain ⟨g4, g5, h⟩ := h
    refine q_iald ok kM_ok g3 g4 g5 dX10_raw_35 ?_
    refine q_goto (tgt := 40) ok dX10_raw_36 (by decide) ?_
    exact q_iret ok dX10_raw_40 h
set_option maxRecDepth 100000 in
set_option maxHeartbeats 4000000 in
theorem c_X10_raw (l : Launch) (Y : Cy) (hD : ∀ σ, va_D Y.2.2.2 (wsOf KM Y.2.1 Y.2.2.1 σ)) {σ : St} {Q : St → Int → Prop} (h : f_X10_raw  σ Q) : ConI l yX10_raw cX10_raw 2 .int (rm0q 0 0) Y KM σ [.inr (.inr 0)] Q := con_of (lv := [(0, .inr (.inr 0))]) (by decide) hD (Nat.le_of_ble_eq_true rfl) rfl (fun X _ ok => by
  have ok : Ok X Y KM cX10_raw 2 RX10 (rm0q 0 0) (some .int) := ok
  unfold f_X10_raw at h
  refine q_aload_n ok dX10_raw_0 0 rfl ?_
  refine q_getI ok fl_X10_147 kM_0 fM_0_34 dX10_raw_1 ?_
  obtain ⟨g1, hT1a, hT1b⟩ := h
  refine q_if_eq (tgt := 14) ok dX10_raw_4 (by decide) g1 (fun c1 => ?_) (fun c1 => ?_)
  · have h := hT1a c1
    refine q_aload_n ok dX10_raw_14 0 rfl ?_
    refine q_getC ok fl_X10_7 kM_0 fM_0_0 dX10_raw_15 ?_
    exact w_X10_raw_J18 ok σ 1 h
  · have h := hT1b c1
    refine q_aload_n ok dX10_raw_7 0 rfl ?_
    refine q_getC ok fl_X10_13 kM_0 fM_0_2 dX10_raw_8 ?_
    refine q_goto (tgt := 18) ok dX10_raw_11 (by decide) ?_
    exact w_X10_raw_J18 ok σ 2 h)
/-! BranchingStoryModel.requires(Z)V -/
def f_X10_requires_J16 (Q : St → Prop) (σ : St) : Prop :=
  ∀ σ1 : St, σ1 = sset σ 0 37 0 → Q σ1
def f_X10_requires (a0 : Int) (σ : St) (Q : St → Prop) : Prop :=
  inR (σ 0 37) ∧ (((σ 0 37) = 0 → f_X10_requires_J16 Q σ) ∧ (¬ (σ 0 37) = 0 → inR a0 ∧ ((a0 = 0 → f_X10_requires_J16 Q σ) ∧ (¬ a0 = 0 → ∀ σ1 : St, σ1 = sset σ 0 37 1 → Q σ1))))
set_option maxRecDepth 100000 in
set_option maxHeartbeats 4000000 in
theorem w_X10_requires_J16 {X : Cx} {Y : Cy} {Q : St → Prop} (ok : Ok X Y KM cX10_requires 2 RX10 (rm0q 0 0) none) (σ : St) (h : f_X10_requires_J16 Q σ ) : Wq X Y KM 2 (QF X Y (Qvq Y KM Q)) σ 16 [] [.inr (.inr 0)] := by
  unfold f_X10_requires_J16 at h
  refine q_iconst ok dX10_requires_16 ?_
  refine q_putZ ok fp_X10_157 kM_0 fM_0_37 dX10_requires_17 (by decide) (wq_s (fun σ1 eσ1 => ?_))
  have h := h σ1 eσ1
  exact q_vret ok dX10_requires_20 h
set_option maxRecDepth 100000 in
set_option maxHeartbeats 4000000 in
theorem c_X10_requires (l : Launch) (Y : Cy) (hD : ∀ σ, va_D Y.2.2.2 (wsOf KM Y.2.1 Y.2.2.1 σ)) {a0 : Int} {σ : St} {Q : St → Prop} (h : f_X10_requires a0 σ Q) : ConV l yX10_requires cX10_requires 2 (rm0q 0 0) Y KM σ [.inr (.inr 0), .inl a0] Q := con_of (lv := [(0, .inr (.inr 0)), (1, .inl a0)]) (by decide) hD (Nat.le_of_ble_eq_true rfl) rfl (fun X _ ok => by
  have ok : Ok X Y KM cX10_requires 2 RX10 (rm0q 0 0) none := ok
  unfold f_X10_requires at h
  refine q_aload_n ok dX10_requires_0 0 rfl ?_
  refine q_aload_n ok dX10_requires_1 0 rfl ?_
  refine q_getI ok fl_X10_157 kM_0 fM_0_37 dX10_requires_2 ?_
  obtain ⟨g1, hT2a, hT2b⟩ := h
  refine q_if_eq (tgt := 16) ok dX10_requires_5 (by decide) g1 (fun c2 => ?_) (fun c2 => ?_)
  · have h := hT2a c2
    refine q_sub [] rfl ?_
    exact w_X10_requires_J16 ok σ h
  · have h := hT2b c2
    refine q_iload_n ok dX10_requires_8 1 rfl ?_
    obtain ⟨g2, hT1a, hT1b⟩ := h
    refine q_if_eq (tgt := 16) ok dX10_requires_9 (by decide) g2 (fun c1 => ?_) (fun c1 => ?_)
    · have h := hT1a c1
      refine q_sub [] rfl ?_
      exact w_X10_requires_J16 ok σ h
    · have h := hT1b c1
      refine q_iconst ok dX10_requires_12 ?_
      refine q_goto (tgt := 17) ok dX10_requires_13 (by decide) ?_
      refine q_putZ ok fp_X10_157 kM_0 fM_0_37 dX10_requires_17 (by decide) (wq_s (fun σ1 eσ1 => ?_))
      have h := h σ1 eσ1
      exact q_vret ok dX10_requires_20 h)
/-! BranchingStoryModel.reads(I)V -/
def f_X10_reads_J14 (Q : St → Prop) (σ : St) (s1 : Int) : Prop :=
  f_X10_requires s1 σ (fun σ1 => inR (σ1 0 37) ∧ (((σ1 0 37) = 0 → ∀ σ2 : St, σ2 = sset σ1 0 36 ((σ1 0 36) + 0) → Q σ2) ∧ (¬ (σ1 0 37) = 0 → ∀ σ3 : St, σ3 = sset σ1 0 36 ((σ1 0 36) + 1) → Q σ3)))
def f_X10_reads (a0 : Int) (σ : St) (Q : St → Prop) : Prop :=
  f_X10_here σ (fun σ1 r1 => inR r1 ∧ inR a0 ∧ ((¬ r1 = a0 → f_X10_reads_J14 Q σ1 0) ∧ (r1 = a0 → f_X10_reads_J14 Q σ1 1)))
set_option maxRecDepth 100000 in
set_option maxHeartbeats 4000000 in
theorem w_X10_reads_J14 {X : Cx} {Y : Cy} {Q : St → Prop} (ok : Ok X Y KM cX10_reads 2 RX10 (rm0q 1 21) none) (σ : St) (s1 : Int) (h : f_X10_reads_J14 Q σ s1) : Wq X Y KM 2 (QF X Y (Qvq Y KM Q)) σ 14 [(0, .inr (.inr 0))] [.inl s1, .inr (.inr 0)] := by
  unfold f_X10_reads_J14 at h
  refine q_callVV (st := []) ok cs_X10_164 kM_0 rfl (c_X10_requires X.2.1 Y ok.2.2.2.2.2.2.2.2 h) ⟨rfl, rfl, Nat.le_of_ble_eq_true rfl, Nat.le_of_ble_eq_true rfl⟩ rfl rfl (Nat.le_of_ble_eq_true rfl) dX10_reads_14 (fun σ1 h => ?_)
  refine q_aload_n ok dX10_reads_17 0 rfl ?_
  refine q_dup ok dX10_reads_18 rfl ?_
  refine q_getI ok fl_X10_151 kM_0 fM_0_36 dX10_reads_19 ?_
  refine q_aload_n ok dX10_reads_22 0 rfl ?_
  refine q_getI ok fl_X10_157 kM_0 fM_0_37 dX10_reads_23 ?_
  obtain ⟨g1, hT1a, hT1b⟩ := h
  refine q_if_eq (tgt := 33) ok dX10_reads_26 (by decide) g1 (fun c1 => ?_) (fun c1 => ?_)
  · have h := hT1a c1
    refine q_iconst ok dX10_reads_33 ?_
    refine q_iadd ok dX10_reads_34 ?_
    refine q_putI ok fp_X10_151 kM_0 fM_0_36 dX10_reads_35 (wq_s (fun σ2 eσ2 => ?_))
    have h := h σ2 eσ2
    exact q_vret ok dX10_reads_38 h
  · have h := hT1b c1
    refine q_iconst ok dX10_reads_29 ?_
    refine q_goto (tgt := 34) ok dX10_reads_30 (by decide) ?_
    refine q_iadd ok dX10_reads_34 ?_
    refine q_putI ok fp_X10_151 kM_0 fM_0_36 dX10_reads_35 (wq_s (fun σ3 eσ3 => ?_))
    have h := h σ3 eσ3
    exact q_vret ok dX10_reads_38 h
set_option maxRecDepth 100000 in
set_option maxHeartbeats 4000000 in
theorem c_X10_reads (l : Launch) (Y : Cy) (hD : ∀ σ, va_D Y.2.2.2 (wsOf KM Y.2.1 Y.2.2.1 σ)) {a0 : Int} {σ : St} {Q : St → Prop} (h : f_X10_reads a0 σ Q) : ConV l yX10_reads cX10_reads 2 (rm0q 1 21) Y KM σ [.inr (.inr 0), .inl a0] Q := con_of (lv := [(0, .inr (.inr 0)), (1, .inl a0)]) (by decide) hD (Nat.le_of_ble_eq_true rfl) rfl (fun X _ ok => by
  have ok : Ok X Y KM cX10_reads 2 RX10 (rm0q 1 21) none := ok
  unfold f_X10_reads at h
  refine q_aload_n ok dX10_reads_0 0 rfl ?_
  refine q_aload_n ok dX10_reads_1 0 rfl ?_
  refine q_callVI (st := [.inr (.inr 0)]) ok cs_X10_160 kM_0 rfl (c_X10_here X.2.1 Y ok.2.2.2.2.2.2.2.2 h) ⟨rfl, rfl, Nat.le_of_ble_eq_true rfl, Nat.le_of_ble_eq_true rfl⟩ rfl rfl (Nat.le_of_ble_eq_true rfl) dX10_reads_2 (fun σ1 r1 h => ?_)
  refine q_iload_n ok dX10_reads_5 1 rfl ?_
  obtain ⟨g1, g2, hT1a, hT1b⟩ := h
  refine q_icmp_ne (tgt := 13) ok dX10_reads_6 (by decide) g1 g2 (fun c1 => ?_) (fun c1 => ?_)
  · have h := hT1a c1
    refine q_iconst ok dX10_reads_13 ?_
    refine q_sub [0] rfl ?_
    exact w_X10_reads_J14 ok σ1 0 h
  · have h := hT1b c1
    refine q_iconst ok dX10_reads_9 ?_
    refine q_goto (tgt := 14) ok dX10_reads_10 (by decide) ?_
    refine q_sub [0] rfl ?_
    exact w_X10_reads_J14 ok σ1 1 h)
/-! BranchingStoryModel.readsOf(II)I -/
def f_X10_readsOf (a0 : Int) (a1 : Int) (σ : St) (Q : St → Int → Prop) : Prop :=
  f_X10_here σ (fun σ1 r1 => f_X10_in r1 a0 a1 σ1 (fun σ2 r2 => f_X10_requires r2 σ2 (fun σ3 => inR (σ3 0 37) ∧ (((σ3 0 37) = 0 → ∀ σ4 : St, σ4 = sset σ3 0 36 ((σ3 0 36) + 0) → Q σ4 (r1 - a0)) ∧ (¬ (σ3 0 37) = 0 → ∀ σ5 : St, σ5 = sset σ3 0 36 ((σ3 0 36) + 1) → Q σ5 (r1 - a0))))))
set_option maxRecDepth 100000 in
set_option maxHeartbeats 4000000 in
theorem c_X10_readsOf (l : Launch) (Y : Cy) (hD : ∀ σ, va_D Y.2.2.2 (wsOf KM Y.2.1 Y.2.2.1 σ)) {a0 : Int} {a1 : Int} {σ : St} {Q : St → Int → Prop} (h : f_X10_readsOf a0 a1 σ Q) : ConI l yX10_readsOf cX10_readsOf 4 .int (rm0q 1 22) Y KM σ [.inr (.inr 0), .inl a0, .inl a1] Q := con_of (lv := [(0, .inr (.inr 0)), (1, .inl a0), (2, .inl a1)]) (by decide) hD (Nat.le_of_ble_eq_true rfl) rfl (fun X _ ok => by
  have ok : Ok X Y KM cX10_readsOf 4 RX10 (rm0q 1 22) (some .int) := ok
  unfold f_X10_readsOf at h
  refine q_aload_n ok dX10_readsOf_0 0 rfl ?_
  refine q_callVI (st := []) ok cs_X10_160 kM_0 rfl (c_X10_here X.2.1 Y ok.2.2.2.2.2.2.2.2 h) ⟨rfl, rfl, Nat.le_of_ble_eq_true rfl, Nat.le_of_ble_eq_true rfl⟩ rfl rfl (Nat.le_of_ble_eq_true rfl) dX10_readsOf_1 (fun σ1 r1 h => ?_)
  refine q_istore_n (lv' := [(3, .inl r1), (0, .inr (.inr 0)), (1, .inl a0), (2, .inl a1)]) ok dX10_readsOf_4 (by decide) rfl ?_
  refine q_aload_n ok dX10_readsOf_5 1 rfl ?_
  refine q_iload_n ok dX10_readsOf_6 0 rfl ?_
  refine q_iload_n ok dX10_readsOf_7 2 rfl ?_
  refine q_iload_n ok dX10_readsOf_8 3 rfl ?_
  refine q_callSI (st := [.inr (.inr 0)]) ok cs_X10_168 (c_X10_in X.2.1 Y ok.2.2.2.2.2.2.2.2 h) ⟨rfl, rfl, Nat.le_of_ble_eq_true rfl, Nat.le_of_ble_eq_true rfl⟩ rfl rfl (Nat.le_of_ble_eq_true rfl) dX10_readsOf_9 (fun σ2 r2 h => ?_)
  refine q_callVV (st := []) ok cs_X10_164 kM_0 rfl (c_X10_requires X.2.1 Y ok.2.2.2.2.2.2.2.2 h) ⟨rfl, rfl, Nat.le_of_ble_eq_true rfl, Nat.le_of_ble_eq_true rfl⟩ rfl rfl (Nat.le_of_ble_eq_true rfl) dX10_readsOf_12 (fun σ3 h => ?_)
  refine q_aload_n ok dX10_readsOf_15 1 rfl ?_
  refine q_dup ok dX10_readsOf_16 rfl ?_
  refine q_getI ok fl_X10_151 kM_0 fM_0_36 dX10_readsOf_17 ?_
  refine q_aload_n ok dX10_readsOf_20 1 rfl ?_
  refine q_getI ok fl_X10_157 kM_0 fM_0_37 dX10_readsOf_21 ?_
  obtain ⟨g1, hT1a, hT1b⟩ := h
  refine q_if_eq (tgt := 31) ok dX10_readsOf_24 (by decide) g1 (fun c1 => ?_) (fun c1 => ?_)
  · have h := hT1a c1
    refine q_iconst ok dX10_readsOf_31 ?_
    refine q_iadd ok dX10_readsOf_32 ?_
    refine q_putI ok fp_X10_151 kM_0 fM_0_36 dX10_readsOf_33 (wq_s (fun σ4 eσ4 => ?_))
    have h := h σ4 eσ4
    refine q_iload_n ok dX10_readsOf_36 0 rfl ?_
    refine q_iload_n ok dX10_readsOf_37 2 rfl ?_
    refine q_isub ok dX10_readsOf_38 ?_
    exact q_iret ok dX10_readsOf_39 h
  · have h := hT1b c1
    refine q_iconst ok dX10_readsOf_27 ?_
    refine q_goto (tgt := 32) ok dX10_readsOf_28 (by decide) ?_
    refine q_iadd ok dX10_readsOf_32 ?_
    refine q_putI ok fp_X10_151 kM_0 fM_0_36 dX10_readsOf_33 (wq_s (fun σ5 eσ5 => ?_))
    have h := h σ5 eσ5
    refine q_iload_n ok dX10_readsOf_36 0 rfl ?_
    refine q_iload_n ok dX10_readsOf_37 2 rfl ?_
    refine q_isub ok dX10_readsOf_38 ?_
    exact q_iret ok dX10_readsOf_39 h)
/-! BranchingStoryModel.readsNumber()I -/
def f_X10_readsNumber_J69 (k22 : St → Int → Int → Prop) (Q : St → Int → Prop) (σ : St) (v1 : Int) (s0 : Int) : Prop :=
  ∀ σ1 : St, σ1 = sset σ 0 36 ((σ 0 36) + 1) → k22 σ1 v1 s0
def f_X10_readsNumber_J83 (Q : St → Int → Prop) (σ : St) (v1 : Int) (v2 : Int) : Prop :=
  inR ((σ 0 36) - v1) ∧ ((((σ 0 36) - v1) ≤ 2 → Q σ v2) ∧ (¬ ((σ 0 36) - v1) ≤ 2 → ∀ σ1 : St, σ1 = sset σ 0 37 0 → ∀ σ2 : St, σ2 = sset σ1 0 36 v1 → Q σ2 v2))
def f_X10_readsNumber_L22 (Q : St → Int → Prop) : Nat → St → Int → Int → Prop
  | 0, _, _, _ => False
  | n + 1, σ, v1, v2 => inR (σ 0 37) ∧ (((σ 0 37) = 0 → f_X10_readsNumber_J83 Q σ v1 v2) ∧ (¬ (σ 0 37) = 0 → f_X10_raw σ (fun σ1 r1 => f_X10_in r1 48 57 σ1 (fun σ2 r2 => inR r2 ∧ ((r2 = 0 → f_X10_readsNumber_J83 Q σ2 v1 v2) ∧ (¬ r2 = 0 → inR ((σ2 0 36) - v1) ∧ ((3 ≤ ((σ2 0 36) - v1) → f_X10_readsNumber_J69 (fun σ' v1' v2' => f_X10_readsNumber_L22 Q n σ' v1' v2') Q σ2 v1 v2) ∧ (¬ 3 ≤ ((σ2 0 36) - v1) → f_X10_raw σ2 (fun σ3 r3 => f_X10_readsNumber_J69 (fun σ' v1' v2' => f_X10_readsNumber_L22 Q n σ' v1' v2') Q σ3 v1 (((10 * v2) + r3) - 48))))))))))
def f_X10_readsNumber (σ : St) (Q : St → Int → Prop) : Prop :=
  f_X10_here σ (fun σ1 r1 => f_X10_in r1 48 57 σ1 (fun σ2 r2 => f_X10_requires r2 σ2 (fun σ3 => ∀ x1 : Int, x1 = (σ3 0 36) → f_X10_readsNumber_L22 Q FU σ3 x1 0)))
set_option maxRecDepth 100000 in
set_option maxHeartbeats 4000000 in
theorem w_X10_readsNumber_J69 {X : Cx} {Y : Cy} {k22 : St → Int → Int → Prop} {Q : St → Int → Prop} (ok : Ok X Y KM cX10_readsNumber 3 RX10 (rm0q 1 22) (some .int)) (hk22 : ∀ (σ : St) (v1 : Int) (v2 : Int) , k22 σ v1 v2 → Wq X Y KM 3 (QF X Y (Qiq Y KM Q)) σ 22 [(0, .inr (.inr 0)), (1, .inl v1), (2, .inl v2)] []) (σ : St) (v1 : Int) (s0 : Int) (h : f_X10_readsNumber_J69 k22 Q σ v1 s0) : Wq X Y KM 3 (QF X Y (Qiq Y KM Q)) σ 69 [(0, .inr (.inr 0)), (1, .inl v1)] [.inl s0] := by
  unfold f_X10_readsNumber_J69 at h
  refine q_istore_n (lv' := [(2, .inl s0), (0, .inr (.inr 0)), (1, .inl v1)]) ok dX10_readsNumber_69 (by decide) rfl ?_
  refine q_aload_n ok dX10_readsNumber_70 1 rfl ?_
  refine q_dup ok dX10_readsNumber_71 rfl ?_
  refine q_getI ok fl_X10_151 kM_0 fM_0_36 dX10_readsNumber_72 ?_
  refine q_iconst ok dX10_readsNumber_75 ?_
  refine q_iadd ok dX10_readsNumber_76 ?_
  refine q_putI ok fp_X10_151 kM_0 fM_0_36 dX10_readsNumber_77 (wq_s (fun σ1 eσ1 => ?_))
  have h := h σ1 eσ1
  refine q_goto (tgt := 22) ok dX10_readsNumber_80 (by decide) ?_
  refine q_sub [1, 2, 0] rfl ?_
  exact hk22 σ1 v1 s0 h
set_option maxRecDepth 100000 in
set_option maxHeartbeats 4000000 in
theorem w_X10_readsNumber_J83 {X : Cx} {Y : Cy} {Q : St → Int → Prop} (ok : Ok X Y KM cX10_readsNumber 3 RX10 (rm0q 1 22) (some .int)) (σ : St) (v1 : Int) (v2 : Int) (h : f_X10_readsNumber_J83 Q σ v1 v2) : Wq X Y KM 3 (QF X Y (Qiq Y KM Q)) σ 83 [(0, .inr (.inr 0)), (1, .inl v1), (2, .inl v2)] [] := by
  unfold f_X10_readsNumber_J83 at h
  refine q_aload_n ok dX10_readsNumber_83 0 rfl ?_
  refine q_getI ok fl_X10_151 kM_0 fM_0_36 dX10_readsNumber_84 ?_
  refine q_iload_n ok dX10_readsNumber_87 1 rfl ?_
  refine q_isub ok dX10_readsNumber_88 ?_
  refine q_iconst ok dX10_readsNumber_89 ?_
  obtain ⟨g1, hT1a, hT1b⟩ := h
  refine q_icmp_le (tgt := 103) ok dX10_readsNumber_90 (by decide) g1 (by unfold inR; decide) (fun c1 => ?_) (fun c1 => ?_)
  · have h := hT1a c1
    refine q_iload_n ok dX10_readsNumber_103 2 rfl ?_
    exact q_iret ok dX10_readsNumber_104 h
  · have h := hT1b c1
    refine q_aload_n ok dX10_readsNumber_93 0 rfl ?_
    refine q_iconst ok dX10_readsNumber_94 ?_
    refine q_putZ ok fp_X10_157 kM_0 fM_0_37 dX10_readsNumber_95 (by decide) (wq_s (fun σ1 eσ1 => ?_))
    have h := h σ1 eσ1
    refine q_aload_n ok dX10_readsNumber_98 0 rfl ?_
    refine q_iload_n ok dX10_readsNumber_99 1 rfl ?_
    refine q_putI ok fp_X10_151 kM_0 fM_0_36 dX10_readsNumber_100 (wq_s (fun σ2 eσ2 => ?_))
    have h := h σ2 eσ2
    refine q_iload_n ok dX10_readsNumber_103 2 rfl ?_
    exact q_iret ok dX10_readsNumber_104 h
set_option maxRecDepth 100000 in
set_option maxHeartbeats 4000000 in
theorem w_X10_readsNumber_L22 {X : Cx} {Y : Cy} {Q : St → Int → Prop} (ok : Ok X Y KM cX10_readsNumber 3 RX10 (rm0q 1 22) (some .int)) : ∀ (n : Nat) (σ : St) (v1 : Int) (v2 : Int) , f_X10_readsNumber_L22 Q n σ v1 v2 → Wq X Y KM 3 (QF X Y (Qiq Y KM Q)) σ 22 [(0, .inr (.inr 0)), (1, .inl v1), (2, .inl v2)] [] := by
  intro n
  induction n with
  | zero => intro σ v1 v2 h; exact h.elim
  | succ n ih =>
    intro σ v1 v2 h
    rw [f_X10_readsNumber_L22] at h
    refine q_aload_n ok dX10_readsNumber_22 0 rfl ?_
    refine q_getI ok fl_X10_157 kM_0 fM_0_37 dX10_readsNumber_23 ?_
    obtain ⟨g1, hT3a, hT3b⟩ := h
    refine q_if_eq (tgt := 83) ok dX10_readsNumber_26 (by decide) g1 (fun c3 => ?_) (fun c3 => ?_)
    · have h := hT3a c3
      exact w_X10_readsNumber_J83 ok σ v1 v2 h
    · have h := hT3b c3
      refine q_aload_n ok dX10_readsNumber_29 0 rfl ?_
      refine q_callVI (st := []) ok cs_X10_172 kM_0 rfl (c_X10_raw X.2.1 Y ok.2.2.2.2.2.2.2.2 h) ⟨rfl, rfl, Nat.le_of_ble_eq_true rfl, Nat.le_of_ble_eq_true rfl⟩ rfl rfl (Nat.le_of_ble_eq_true rfl) dX10_readsNumber_30 (fun σ1 r1 h => ?_)
      refine q_bipush ok dX10_readsNumber_33 rfl ?_
      refine q_bipush ok dX10_readsNumber_35 rfl ?_
      refine q_callSI (st := []) ok cs_X10_168 (c_X10_in X.2.1 Y ok.2.2.2.2.2.2.2.2 h) ⟨rfl, rfl, Nat.le_of_ble_eq_true rfl, Nat.le_of_ble_eq_true rfl⟩ rfl rfl (Nat.le_of_ble_eq_true rfl) dX10_readsNumber_37 (fun σ2 r2 h => ?_)
      obtain ⟨g2, hT2a, hT2b⟩ := h
      refine q_if_eq (tgt := 83) ok dX10_readsNumber_40 (by decide) g2 (fun c2 => ?_) (fun c2 => ?_)
      · have h := hT2a c2
        exact w_X10_readsNumber_J83 ok σ2 v1 v2 h
      · have h := hT2b c2
        refine q_aload_n ok dX10_readsNumber_43 0 rfl ?_
        refine q_getI ok fl_X10_151 kM_0 fM_0_36 dX10_readsNumber_44 ?_
        refine q_iload_n ok dX10_readsNumber_47 1 rfl ?_
        refine q_isub ok dX10_readsNumber_48 ?_
        refine q_iconst ok dX10_readsNumber_49 ?_
        obtain ⟨g3, hT1a, hT1b⟩ := h
        refine q_icmp_ge (tgt := 68) ok dX10_readsNumber_50 (by decide) g3 (by unfold inR; decide) (fun c1 => ?_) (fun c1 => ?_)
        · have h := hT1a c1
          refine q_iload_n ok dX10_readsNumber_68 2 rfl ?_
          refine q_sub [0, 1] rfl ?_
          exact w_X10_readsNumber_J69 ok ih σ2 v1 v2 h
        · have h := hT1b c1
          refine q_bipush ok dX10_readsNumber_53 rfl ?_
          refine q_iload_n ok dX10_readsNumber_55 2 rfl ?_
          refine q_imul ok dX10_readsNumber_56 ?_
          refine q_aload_n ok dX10_readsNumber_57 0 rfl ?_
          refine q_callVI (st := [.inl (10 * v2)]) ok cs_X10_172 kM_0 rfl (c_X10_raw X.2.1 Y ok.2.2.2.2.2.2.2.2 h) ⟨rfl, rfl, Nat.le_of_ble_eq_true rfl, Nat.le_of_ble_eq_true rfl⟩ rfl rfl (Nat.le_of_ble_eq_true rfl) dX10_readsNumber_58 (fun σ3 r3 h => ?_)
          refine q_iadd ok dX10_readsNumber_61 ?_
          refine q_bipush ok dX10_readsNumber_62 rfl ?_
          refine q_isub ok dX10_readsNumber_64 ?_
          refine q_goto (tgt := 69) ok dX10_readsNumber_65 (by decide) ?_
          refine q_sub [0, 1] rfl ?_
          exact w_X10_readsNumber_J69 ok ih σ3 v1 (((10 * v2) + r3) - 48) h
set_option maxRecDepth 100000 in
set_option maxHeartbeats 4000000 in
theorem c_X10_readsNumber (l : Launch) (Y : Cy) (hD : ∀ σ, va_D Y.2.2.2 (wsOf KM Y.2.1 Y.2.2.1 σ)) {σ : St} {Q : St → Int → Prop} (h : f_X10_readsNumber  σ Q) : ConI l yX10_readsNumber cX10_readsNumber 3 .int (rm0q 1 22) Y KM σ [.inr (.inr 0)] Q := con_of (lv := [(0, .inr (.inr 0))]) (by decide) hD (Nat.le_of_ble_eq_true rfl) rfl (fun X _ ok => by
  have ok : Ok X Y KM cX10_readsNumber 3 RX10 (rm0q 1 22) (some .int) := ok
  unfold f_X10_readsNumber at h
  refine q_aload_n ok dX10_readsNumber_0 0 rfl ?_
  refine q_aload_n ok dX10_readsNumber_1 0 rfl ?_
  refine q_callVI (st := [.inr (.inr 0)]) ok cs_X10_160 kM_0 rfl (c_X10_here X.2.1 Y ok.2.2.2.2.2.2.2.2 h) ⟨rfl, rfl, Nat.le_of_ble_eq_true rfl, Nat.le_of_ble_eq_true rfl⟩ rfl rfl (Nat.le_of_ble_eq_true rfl) dX10_readsNumber_2 (fun σ1 r1 h => ?_)
  refine q_bipush ok dX10_readsNumber_5 rfl ?_
  refine q_bipush ok dX10_readsNumber_7 rfl ?_
  refine q_callSI (st := [.inr (.inr 0)]) ok cs_X10_168 (c_X10_in X.2.1 Y ok.2.2.2.2.2.2.2.2 h) ⟨rfl, rfl, Nat.le_of_ble_eq_true rfl, Nat.le_of_ble_eq_true rfl⟩ rfl rfl (Nat.le_of_ble_eq_true rfl) dX10_readsNumber_9 (fun σ2 r2 h => ?_)
  refine q_callVV (st := []) ok cs_X10_164 kM_0 rfl (c_X10_requires X.2.1 Y ok.2.2.2.2.2.2.2.2 h) ⟨rfl, rfl, Nat.le_of_ble_eq_true rfl, Nat.le_of_ble_eq_true rfl⟩ rfl rfl (Nat.le_of_ble_eq_true rfl) dX10_readsNumber_12 (fun σ3 h => ?_)
  refine q_aload_n ok dX10_readsNumber_15 0 rfl ?_
  refine q_getI ok fl_X10_151 kM_0 fM_0_36 dX10_readsNumber_16 ?_
  refine wq_i (fun x1 ex1 => ?_)
  have h := h x1 ex1
  refine q_istore_n (lv' := [(1, .inl x1), (0, .inr (.inr 0))]) ok dX10_readsNumber_19 (by decide) rfl ?_
  refine q_iconst ok dX10_readsNumber_20 ?_
  refine q_istore_n (lv' := [(2, .inl 0), (1, .inl x1), (0, .inr (.inr 0))]) ok dX10_readsNumber_21 (by decide) rfl ?_
  refine q_sub [2, 1, 0] rfl ?_
  exact w_X10_readsNumber_L22 ok FU σ3 x1 0 h)
/-! BranchingStoryModel.newBlock(III)V -/
def f_X10_newBlock (a0 : Int) (a1 : Int) (a2 : Int) (σ : St) (Q : St → Prop) : Prop :=
  0 ≤ (σ 0 25) ∧ (σ 0 25) < 64 ∧ ∀ σ1 : St, σ1 = sset σ 15 (σ 0 25).toNat a0 → 0 ≤ (σ1 0 25) ∧ (σ1 0 25) < 64 ∧ ∀ σ2 : St, σ2 = sset σ1 16 (σ1 0 25).toNat a1 → 0 ≤ (σ2 0 25) ∧ (σ2 0 25) < 64 ∧ ∀ σ3 : St, σ3 = sset σ2 17 (σ2 0 25).toNat (-1) → 0 ≤ (σ3 0 25) ∧ (σ3 0 25) < 64 ∧ ∀ σ4 : St, σ4 = sset σ3 18 (σ3 0 25).toNat (-1) → 0 ≤ (σ4 0 25) ∧ (σ4 0 25) < 64 ∧ ∀ σ5 : St, σ5 = sset σ4 19 (σ4 0 25).toNat a2 → 0 ≤ (σ5 0 39) ∧ (σ5 0 39) < 8 ∧ ∀ σ6 : St, σ6 = sset σ5 25 (σ5 0 39).toNat (σ5 0 25) → ∀ σ7 : St, σ7 = sset σ6 0 39 ((σ6 0 39) + 1) → ∀ σ8 : St, σ8 = sset σ7 0 25 ((σ7 0 25) + 1) → Q σ8
set_option maxRecDepth 100000 in
set_option maxHeartbeats 4000000 in
theorem c_X10_newBlock (l : Launch) (Y : Cy) (hD : ∀ σ, va_D Y.2.2.2 (wsOf KM Y.2.1 Y.2.2.1 σ)) {a0 : Int} {a1 : Int} {a2 : Int} {σ : St} {Q : St → Prop} (h : f_X10_newBlock a0 a1 a2 σ Q) : ConV l yX10_newBlock cX10_newBlock 4 (rm0q 0 0) Y KM σ [.inr (.inr 0), .inl a0, .inl a1, .inl a2] Q := con_of (lv := [(0, .inr (.inr 0)), (1, .inl a0), (2, .inl a1), (3, .inl a2)]) (by decide) hD (Nat.le_of_ble_eq_true rfl) rfl (fun X _ ok => by
  have ok : Ok X Y KM cX10_newBlock 4 RX10 (rm0q 0 0) none := ok
  unfold f_X10_newBlock at h
  refine q_aload_n ok dX10_newBlock_0 0 rfl ?_
  refine q_getC ok fl_X10_52 kM_0 fM_0_20 dX10_newBlock_1 ?_
  refine q_aload_n ok dX10_newBlock_4 0 rfl ?_
  refine q_getI ok fl_X10_175 kM_0 fM_0_25 dX10_newBlock_5 ?_
  refine q_iload_n ok dX10_newBlock_8 1 rfl ?_
  obtain ⟨g1, g2, h⟩ := h
  refine q_iast ok kM_ok kM_15 g1 g2 dX10_newBlock_9 (wq_s (fun σ1 eσ1 => ?_))
  have h := h σ1 eσ1
  refine q_aload_n ok dX10_newBlock_10 0 rfl ?_
  refine q_getC ok fl_X10_55 kM_0 fM_0_21 dX10_newBlock_11 ?_
  refine q_aload_n ok dX10_newBlock_14 0 rfl ?_
  refine q_getI ok fl_X10_175 kM_0 fM_0_25 dX10_newBlock_15 ?_
  refine q_iload_n ok dX10_newBlock_18 2 rfl ?_
  obtain ⟨g3, g4, h⟩ := h
  refine q_iast ok kM_ok kM_16 g3 g4 dX10_newBlock_19 (wq_s (fun σ2 eσ2 => ?_))
  have h := h σ2 eσ2
  refine q_aload_n ok dX10_newBlock_20 0 rfl ?_
  refine q_getC ok fl_X10_58 kM_0 fM_0_22 dX10_newBlock_21 ?_
  refine q_aload_n ok dX10_newBlock_24 0 rfl ?_
  refine q_getI ok fl_X10_175 kM_0 fM_0_25 dX10_newBlock_25 ?_
  refine q_iconst ok dX10_newBlock_28 ?_
  obtain ⟨g5, g6, h⟩ := h
  refine q_iast ok kM_ok kM_17 g5 g6 dX10_newBlock_29 (wq_s (fun σ3 eσ3 => ?_))
  have h := h σ3 eσ3
  refine q_aload_n ok dX10_newBlock_30 0 rfl ?_
  refine q_getC ok fl_X10_61 kM_0 fM_0_23 dX10_newBlock_31 ?_
  refine q_aload_n ok dX10_newBlock_34 0 rfl ?_
  refine q_getI ok fl_X10_175 kM_0 fM_0_25 dX10_newBlock_35 ?_
  refine q_iconst ok dX10_newBlock_38 ?_
  obtain ⟨g7, g8, h⟩ := h
  refine q_iast ok kM_ok kM_18 g7 g8 dX10_newBlock_39 (wq_s (fun σ4 eσ4 => ?_))
  have h := h σ4 eσ4
  refine q_aload_n ok dX10_newBlock_40 0 rfl ?_
  refine q_getC ok fl_X10_64 kM_0 fM_0_24 dX10_newBlock_41 ?_
  refine q_aload_n ok dX10_newBlock_44 0 rfl ?_
  refine q_getI ok fl_X10_175 kM_0 fM_0_25 dX10_newBlock_45 ?_
  refine q_iload_n ok dX10_newBlock_48 3 rfl ?_
  obtain ⟨g9, g10, h⟩ := h
  refine q_iast ok kM_ok kM_19 g9 g10 dX10_newBlock_49 (wq_s (fun σ5 eσ5 => ?_))
  have h := h σ5 eσ5
  refine q_aload_n ok dX10_newBlock_50 0 rfl ?_
  refine q_getC ok fl_X10_83 kM_0 fM_0_38 dX10_newBlock_51 ?_
  refine q_aload_n ok dX10_newBlock_54 0 rfl ?_
  refine q_getI ok fl_X10_178 kM_0 fM_0_39 dX10_newBlock_55 ?_
  refine q_aload_n ok dX10_newBlock_58 0 rfl ?_
  refine q_getI ok fl_X10_175 kM_0 fM_0_25 dX10_newBlock_59 ?_
  obtain ⟨g11, g12, h⟩ := h
  refine q_iast ok kM_ok kM_25 g11 g12 dX10_newBlock_62 (wq_s (fun σ6 eσ6 => ?_))
  have h := h σ6 eσ6
  refine q_aload_n ok dX10_newBlock_63 0 rfl ?_
  refine q_dup ok dX10_newBlock_64 rfl ?_
  refine q_getI ok fl_X10_178 kM_0 fM_0_39 dX10_newBlock_65 ?_
  refine q_iconst ok dX10_newBlock_68 ?_
  refine q_iadd ok dX10_newBlock_69 ?_
  refine q_putI ok fp_X10_178 kM_0 fM_0_39 dX10_newBlock_70 (wq_s (fun σ7 eσ7 => ?_))
  have h := h σ7 eσ7
  refine q_aload_n ok dX10_newBlock_73 0 rfl ?_
  refine q_dup ok dX10_newBlock_74 rfl ?_
  refine q_getI ok fl_X10_175 kM_0 fM_0_25 dX10_newBlock_75 ?_
  refine q_iconst ok dX10_newBlock_78 ?_
  refine q_iadd ok dX10_newBlock_79 ?_
  refine q_putI ok fp_X10_175 kM_0 fM_0_25 dX10_newBlock_80 (wq_s (fun σ8 eσ8 => ?_))
  have h := h σ8 eσ8
  exact q_vret ok dX10_newBlock_83 h)
/-! BranchingStoryModel.statement(III)I -/
def f_X10_statement_J135 (Q : St → Int → Prop) (σ : St) (v4 : Int) (v5 : Int) : Prop :=
  0 ≤ v5 ∧ v5 < 64 ∧ ∀ σ1 : St, σ1 = sset σ 18 v5.toNat v4 → ∀ σ2 : St, σ2 = sset σ1 0 15 ((σ1 0 15) + 1) → Q σ2 v4
def f_X10_statement (a0 : Int) (a1 : Int) (a2 : Int) (σ : St) (Q : St → Int → Prop) : Prop :=
  ∀ x1 : Int, x1 = (σ 0 15) → 0 ≤ ((σ 0 39) - 1) ∧ ((σ 0 39) - 1) < 8 ∧ ∀ x2 : Int, x2 = (σ 25 ((σ 0 39) - 1).toNat) → 0 ≤ x1 ∧ x1 < 401 ∧ ∀ σ1 : St, σ1 = sset σ 3 x1.toNat a0 → 0 ≤ x1 ∧ x1 < 401 ∧ ∀ σ2 : St, σ2 = sset σ1 4 x1.toNat a1 → 0 ≤ x1 ∧ x1 < 401 ∧ ∀ σ3 : St, σ3 = sset σ2 5 x1.toNat a2 → 0 ≤ x1 ∧ x1 < 401 ∧ ∀ σ4 : St, σ4 = sset σ3 6 x1.toNat (-1) → 0 ≤ x1 ∧ x1 < 401 ∧ ∀ σ5 : St, σ5 = sset σ4 7 x1.toNat x2 → 0 ≤ x1 ∧ x1 < 401 ∧ ∀ σ6 : St, σ6 = sset σ5 8 x1.toNat (-1) → 0 ≤ x1 ∧ x1 < 401 ∧ ∀ σ7 : St, σ7 = sset σ6 9 x1.toNat (-1) → 0 ≤ x1 ∧ x1 < 401 ∧ ∀ σ8 : St, σ8 = sset σ7 10 x1.toNat (σ7 0 19) → 0 ≤ x1 ∧ x1 < 401 ∧ ∀ σ9 : St, σ9 = sset σ8 11 x1.toNat (σ8 0 19) → 0 ≤ x2 ∧ x2 < 64 ∧ inR (σ9 18 x2.toNat) ∧ ((¬ (σ9 18 x2.toNat) = (-1) → 0 ≤ x2 ∧ x2 < 64 ∧ 0 ≤ (σ9 18 x2.toNat) ∧ (σ9 18 x2.toNat) < 401 ∧ ∀ σ10 : St, σ10 = sset σ9 6 (σ9 18 x2.toNat).toNat x1 → f_X10_statement_J135 Q σ10 x1 x2) ∧ ((σ9 18 x2.toNat) = (-1) → 0 ≤ x2 ∧ x2 < 64 ∧ ∀ σ11 : St, σ11 = sset σ9 17 x2.toNat x1 → f_X10_statement_J135 Q σ11 x1 x2))
set_option maxRecDepth 100000 in
set_option maxHeartbeats 4000000 in
theorem w_X10_statement_J135 {X : Cx} {Y : Cy} {Q : St → Int → Prop} (ok : Ok X Y KM cX10_statement 6 RX10 (rm0q 0 0) (some .int)) (σ : St) (v4 : Int) (v5 : Int) (h : f_X10_statement_J135 Q σ v4 v5) : Wq X Y KM 6 (QF X Y (Qiq Y KM Q)) σ 135 [(0, .inr (.inr 0)), (4, .inl v4), (5, .inl v5)] [] := by
  unfold f_X10_statement_J135 at h
  refine q_aload_n ok dX10_statement_135 0 rfl ?_
  refine q_getC ok fl_X10_61 kM_0 fM_0_23 dX10_statement_136 ?_
  refine q_iload ok dX10_statement_139 2 rfl ?_
  refine q_iload ok dX10_statement_141 1 rfl ?_
  obtain ⟨g1, g2, h⟩ := h
  refine q_iast ok kM_ok kM_18 g1 g2 dX10_statement_143 (wq_s (fun σ1 eσ1 => ?_))
  have h := h σ1 eσ1
  refine q_aload_n ok dX10_statement_144 0 rfl ?_
  refine q_dup ok dX10_statement_145 rfl ?_
  refine q_getI ok fl_X10_181 kM_0 fM_0_15 dX10_statement_146 ?_
  refine q_iconst ok dX10_statement_149 ?_
  refine q_iadd ok dX10_statement_150 ?_
  refine q_putI ok fp_X10_181 kM_0 fM_0_15 dX10_statement_151 (wq_s (fun σ2 eσ2 => ?_))
  have h := h σ2 eσ2
  refine q_iload ok dX10_statement_154 1 rfl ?_
  exact q_iret ok dX10_statement_156 h
set_option maxRecDepth 100000 in
set_option maxHeartbeats 4000000 in
theorem c_X10_statement (l : Launch) (Y : Cy) (hD : ∀ σ, va_D Y.2.2.2 (wsOf KM Y.2.1 Y.2.2.1 σ)) {a0 : Int} {a1 : Int} {a2 : Int} {σ : St} {Q : St → Int → Prop} (h : f_X10_statement a0 a1 a2 σ Q) : ConI l yX10_statement cX10_statement 6 .int (rm0q 0 0) Y KM σ [.inr (.inr 0), .inl a0, .inl a1, .inl a2] Q := con_of (lv := [(0, .inr (.inr 0)), (1, .inl a0), (2, .inl a1), (3, .inl a2)]) (by decide) hD (Nat.le_of_ble_eq_true rfl) rfl (fun X _ ok => by
  have ok : Ok X Y KM cX10_statement 6 RX10 (rm0q 0 0) (some .int) := ok
  unfold f_X10_statement at h
  refine q_aload_n ok dX10_statement_0 0 rfl ?_
  refine q_getI ok fl_X10_181 kM_0 fM_0_15 dX10_statement_1 ?_
  refine wq_i (fun x1 ex1 => ?_)
  have h := h x1 ex1
  refine q_istore (lv' := [(4, .inl x1), (0, .inr (.inr 0)), (1, .inl a0), (2, .inl a1), (3, .inl a2)]) ok dX10_statement_4 (by decide) rfl ?_
  refine q_aload_n ok dX10_statement_6 1 rfl ?_
  refine q_getC ok fl_X10_83 kM_0 fM_0_38 dX10_statement_7 ?_
  refine q_aload_n ok dX10_statement_10 1 rfl ?_
  refine q_getI ok fl_X10_178 kM_0 fM_0_39 dX10_statement_11 ?_
  refine q_iconst ok dX10_statement_14 ?_
  refine q_isub ok dX10_statement_15 ?_
  obtain ⟨g1, g2, h⟩ := h
  refine q_iald ok kM_ok kM_25 g1 g2 dX10_statement_16 ?_
  refine wq_i (fun x2 ex2 => ?_)
  have h := h x2 ex2
  refine q_istore (lv' := [(5, .inl x2), (4, .inl x1), (0, .inr (.inr 0)), (1, .inl a0), (2, .inl a1), (3, .inl a2)]) ok dX10_statement_17 (by decide) rfl ?_
  refine q_aload_n ok dX10_statement_19 2 rfl ?_
  refine q_getC ok fl_X10_16 kM_0 fM_0_6 dX10_statement_20 ?_
  refine q_iload ok dX10_statement_23 1 rfl ?_
  refine q_iload_n ok dX10_statement_25 3 rfl ?_
  obtain ⟨g3, g4, h⟩ := h
  refine q_iast ok kM_ok kM_3 g3 g4 dX10_statement_26 (wq_s (fun σ1 eσ1 => ?_))
  have h := h σ1 eσ1
  refine q_aload_n ok dX10_statement_27 2 rfl ?_
  refine q_getC ok fl_X10_19 kM_0 fM_0_7 dX10_statement_28 ?_
  refine q_iload ok dX10_statement_31 1 rfl ?_
  refine q_iload_n ok dX10_statement_33 4 rfl ?_
  obtain ⟨g5, g6, h⟩ := h
  refine q_iast ok kM_ok kM_4 g5 g6 dX10_statement_34 (wq_s (fun σ2 eσ2 => ?_))
  have h := h σ2 eσ2
  refine q_aload_n ok dX10_statement_35 2 rfl ?_
  refine q_getC ok fl_X10_22 kM_0 fM_0_8 dX10_statement_36 ?_
  refine q_iload ok dX10_statement_39 1 rfl ?_
  refine q_iload_n ok dX10_statement_41 5 rfl ?_
  obtain ⟨g7, g8, h⟩ := h
  refine q_iast ok kM_ok kM_5 g7 g8 dX10_statement_42 (wq_s (fun σ3 eσ3 => ?_))
  have h := h σ3 eσ3
  refine q_aload_n ok dX10_statement_43 2 rfl ?_
  refine q_getC ok fl_X10_25 kM_0 fM_0_9 dX10_statement_44 ?_
  refine q_iload ok dX10_statement_47 1 rfl ?_
  refine q_iconst ok dX10_statement_49 ?_
  obtain ⟨g9, g10, h⟩ := h
  refine q_iast ok kM_ok kM_6 g9 g10 dX10_statement_50 (wq_s (fun σ4 eσ4 => ?_))
  have h := h σ4 eσ4
  refine q_aload_n ok dX10_statement_51 2 rfl ?_
  refine q_getC ok fl_X10_28 kM_0 fM_0_10 dX10_statement_52 ?_
  refine q_iload ok dX10_statement_55 1 rfl ?_
  refine q_iload ok dX10_statement_57 0 rfl ?_
  obtain ⟨g11, g12, h⟩ := h
  refine q_iast ok kM_ok kM_7 g11 g12 dX10_statement_59 (wq_s (fun σ5 eσ5 => ?_))
  have h := h σ5 eσ5
  refine q_aload_n ok dX10_statement_60 2 rfl ?_
  refine q_getC ok fl_X10_31 kM_0 fM_0_11 dX10_statement_61 ?_
  refine q_iload ok dX10_statement_64 1 rfl ?_
  refine q_iconst ok dX10_statement_66 ?_
  obtain ⟨g13, g14, h⟩ := h
  refine q_iast ok kM_ok kM_8 g13 g14 dX10_statement_67 (wq_s (fun σ6 eσ6 => ?_))
  have h := h σ6 eσ6
  refine q_aload_n ok dX10_statement_68 2 rfl ?_
  refine q_getC ok fl_X10_34 kM_0 fM_0_12 dX10_statement_69 ?_
  refine q_iload ok dX10_statement_72 1 rfl ?_
  refine q_iconst ok dX10_statement_74 ?_
  obtain ⟨g15, g16, h⟩ := h
  refine q_iast ok kM_ok kM_9 g15 g16 dX10_statement_75 (wq_s (fun σ7 eσ7 => ?_))
  have h := h σ7 eσ7
  refine q_aload_n ok dX10_statement_76 2 rfl ?_
  refine q_getC ok fl_X10_37 kM_0 fM_0_13 dX10_statement_77 ?_
  refine q_iload ok dX10_statement_80 1 rfl ?_
  refine q_aload_n ok dX10_statement_82 2 rfl ?_
  refine q_getI ok fl_X10_184 kM_0 fM_0_19 dX10_statement_83 ?_
  obtain ⟨g17, g18, h⟩ := h
  refine q_iast ok kM_ok kM_10 g17 g18 dX10_statement_86 (wq_s (fun σ8 eσ8 => ?_))
  have h := h σ8 eσ8
  refine q_aload_n ok dX10_statement_87 2 rfl ?_
  refine q_getC ok fl_X10_40 kM_0 fM_0_14 dX10_statement_88 ?_
  refine q_iload ok dX10_statement_91 1 rfl ?_
  refine q_aload_n ok dX10_statement_93 2 rfl ?_
  refine q_getI ok fl_X10_184 kM_0 fM_0_19 dX10_statement_94 ?_
  obtain ⟨g19, g20, h⟩ := h
  refine q_iast ok kM_ok kM_11 g19 g20 dX10_statement_97 (wq_s (fun σ9 eσ9 => ?_))
  have h := h σ9 eσ9
  refine q_aload_n ok dX10_statement_98 2 rfl ?_
  refine q_getC ok fl_X10_61 kM_0 fM_0_23 dX10_statement_99 ?_
  refine q_iload ok dX10_statement_102 0 rfl ?_
  obtain ⟨g21, g22, h⟩ := h
  refine q_iald ok kM_ok kM_18 g21 g22 dX10_statement_104 ?_
  refine q_iconst ok dX10_statement_105 ?_
  obtain ⟨g23, hT1a, hT1b⟩ := h
  refine q_icmp_ne (tgt := 121) ok dX10_statement_106 (by decide) g23 (by unfold inR; decide) (fun c1 => ?_) (fun c1 => ?_)
  · have h := hT1a c1
    refine q_aload_n ok dX10_statement_121 2 rfl ?_
    refine q_getC ok fl_X10_25 kM_0 fM_0_9 dX10_statement_122 ?_
    refine q_aload_n ok dX10_statement_125 2 rfl ?_
    refine q_getC ok fl_X10_61 kM_0 fM_0_23 dX10_statement_126 ?_
    refine q_iload ok dX10_statement_129 0 rfl ?_
    obtain ⟨g24, g25, h⟩ := h
    refine q_iald ok kM_ok kM_18 g24 g25 dX10_statement_131 ?_
    refine q_iload ok dX10_statement_132 1 rfl ?_
    obtain ⟨g26, g27, h⟩ := h
    refine q_iast ok kM_ok kM_6 g26 g27 dX10_statement_134 (wq_s (fun σ10 eσ10 => ?_))
    have h := h σ10 eσ10
    refine q_sub [2, 1, 0] rfl ?_
    exact w_X10_statement_J135 ok σ10 x1 x2 h
  · have h := hT1b c1
    refine q_aload_n ok dX10_statement_109 2 rfl ?_
    refine q_getC ok fl_X10_58 kM_0 fM_0_22 dX10_statement_110 ?_
    refine q_iload ok dX10_statement_113 0 rfl ?_
    refine q_iload ok dX10_statement_115 1 rfl ?_
    obtain ⟨g28, g29, h⟩ := h
    refine q_iast ok kM_ok kM_17 g28 g29 dX10_statement_117 (wq_s (fun σ11 eσ11 => ?_))
    have h := h σ11 eσ11
    refine q_goto (tgt := 135) ok dX10_statement_118 (by decide) ?_
    refine q_sub [2, 1, 0] rfl ?_
    exact w_X10_statement_J135 ok σ11 x1 x2 h)
/-! BranchingStoryModel.readsNode()V -/
def f_X10_readsNode_J133 (Q : St → Prop) (σ : St) (s1 : Int) (s2 : Int) : Prop :=
  ∀ σ1 : St, σ1 = sset σ 0 36 (s1 + s2) → 0 ≤ (σ1 0 30) ∧ (σ1 0 30) < 12 ∧ ∀ σ2 : St, σ2 = sset σ1 22 (σ1 0 30).toNat (σ1 0 25) → ∀ σ3 : St, σ3 = sset σ2 0 39 0 → f_X10_newBlock 0 (σ3 0 30) (σ3 0 30) σ3 (fun σ4 => ∀ σ5 : St, σ5 = sset σ4 0 30 ((σ4 0 30) + 1) → Q σ5)
def f_X10_readsNode_J110 (Q : St → Prop) (σ : St) (s1 : Int) (s2 : Int) : Prop :=
  0 ≤ s1 ∧ s1 < 12 ∧ (s2 = 0 ∨ s2 = 1) ∧ ∀ σ1 : St, σ1 = sset σ 21 s1.toNat s2 → 0 ≤ (σ1 0 30) ∧ (σ1 0 30) < 12 ∧ inR (σ1 21 (σ1 0 30).toNat) ∧ (((σ1 21 (σ1 0 30).toNat) = 0 → f_X10_readsNode_J133 Q σ1 (σ1 0 36) 0) ∧ (¬ (σ1 21 (σ1 0 30).toNat) = 0 → f_X10_readsNode_J133 Q σ1 (σ1 0 36) 1))
def f_X10_readsNode_J47 (Q : St → Prop) (σ : St) (v1 : Int) : Prop :=
  inR (σ 0 37) ∧ ((¬ (σ 0 37) = 0 → 0 ≤ v1 ∧ v1 < 12 ∧ ∀ σ1 : St, σ1 = sset σ 23 v1.toNat (σ 0 30) → 0 ≤ v1 ∧ v1 < 12 ∧ ∀ σ2 : St, σ2 = sset σ1 23 v1.toNat (σ1 0 30) → 0 ≤ (σ2 0 30) ∧ (σ2 0 30) < 12 ∧ ∀ σ3 : St, σ3 = sset σ2 20 (σ2 0 30).toNat (65 + v1) → f_X10_here σ3 (fun σ4 r1 => inR r1 ∧ ((¬ r1 = 35 → f_X10_readsNode_J110 Q σ4 (σ3 0 30) 0) ∧ (r1 = 35 → f_X10_readsNode_J110 Q σ4 (σ3 0 30) 1)))) ∧ ((σ 0 37) = 0 → Q σ))
def f_X10_readsNode (σ : St) (Q : St → Prop) : Prop :=
  f_X10_reads 61 σ (fun σ1 => f_X10_readsOf 65 76 σ1 (fun σ2 r1 => inR (σ2 0 37) ∧ (((σ2 0 37) = 0 → f_X10_readsNode_J47 Q σ2 r1) ∧ (¬ (σ2 0 37) = 0 → 0 ≤ r1 ∧ r1 < 12 ∧ inR (σ2 23 r1.toNat) ∧ (((σ2 23 r1.toNat) = (-1) → f_X10_readsNode_J47 Q σ2 r1) ∧ (¬ (σ2 23 r1.toNat) = (-1) → ∀ σ3 : St, σ3 = sset σ2 0 37 0 → ∀ σ4 : St, σ4 = sset σ3 0 36 ((σ3 0 36) - 1) → f_X10_readsNode_J47 Q σ4 r1))))))
set_option maxRecDepth 100000 in
set_option maxHeartbeats 4000000 in
theorem w_X10_readsNode_J133 {X : Cx} {Y : Cy} {Q : St → Prop} (ok : Ok X Y KM cX10_readsNode 2 RX10 (rm0q 2 45) none) (σ : St) (s1 : Int) (s2 : Int) (h : f_X10_readsNode_J133 Q σ s1 s2) : Wq X Y KM 2 (QF X Y (Qvq Y KM Q)) σ 133 [(0, .inr (.inr 0))] [.inl s2, .inl s1, .inr (.inr 0)] := by
  unfold f_X10_readsNode_J133 at h
  refine q_iadd ok dX10_readsNode_133 ?_
  refine q_putI ok fp_X10_151 kM_0 fM_0_36 dX10_readsNode_134 (wq_s (fun σ1 eσ1 => ?_))
  have h := h σ1 eσ1
  refine q_aload_n ok dX10_readsNode_137 0 rfl ?_
  refine q_getC ok fl_X10_74 kM_0 fM_0_28 dX10_readsNode_138 ?_
  refine q_aload_n ok dX10_readsNode_141 0 rfl ?_
  refine q_getI ok fl_X10_195 kM_0 fM_0_30 dX10_readsNode_142 ?_
  refine q_aload_n ok dX10_readsNode_145 0 rfl ?_
  refine q_getI ok fl_X10_175 kM_0 fM_0_25 dX10_readsNode_146 ?_
  obtain ⟨g1, g2, h⟩ := h
  refine q_iast ok kM_ok kM_22 g1 g2 dX10_readsNode_149 (wq_s (fun σ2 eσ2 => ?_))
  have h := h σ2 eσ2
  refine q_aload_n ok dX10_readsNode_150 0 rfl ?_
  refine q_iconst ok dX10_readsNode_151 ?_
  refine q_putI ok fp_X10_178 kM_0 fM_0_39 dX10_readsNode_152 (wq_s (fun σ3 eσ3 => ?_))
  have h := h σ3 eσ3
  refine q_aload_n ok dX10_readsNode_155 0 rfl ?_
  refine q_iconst ok dX10_readsNode_156 ?_
  refine q_aload_n ok dX10_readsNode_157 0 rfl ?_
  refine q_getI ok fl_X10_195 kM_0 fM_0_30 dX10_readsNode_158 ?_
  refine q_aload_n ok dX10_readsNode_161 0 rfl ?_
  refine q_getI ok fl_X10_195 kM_0 fM_0_30 dX10_readsNode_162 ?_
  refine q_callVV (st := []) ok cs_X10_198 kM_0 rfl (c_X10_newBlock X.2.1 Y ok.2.2.2.2.2.2.2.2 h) ⟨rfl, rfl, Nat.le_of_ble_eq_true rfl, Nat.le_of_ble_eq_true rfl⟩ rfl rfl (Nat.le_of_ble_eq_true rfl) dX10_readsNode_165 (fun σ4 h => ?_)
  refine q_aload_n ok dX10_readsNode_168 0 rfl ?_
  refine q_dup ok dX10_readsNode_169 rfl ?_
  refine q_getI ok fl_X10_195 kM_0 fM_0_30 dX10_readsNode_170 ?_
  refine q_iconst ok dX10_readsNode_173 ?_
  refine q_iadd ok dX10_readsNode_174 ?_
  refine q_putI ok fp_X10_195 kM_0 fM_0_30 dX10_readsNode_175 (wq_s (fun σ5 eσ5 => ?_))
  have h := h σ5 eσ5
  exact q_vret ok dX10_readsNode_178 h
set_option maxRecDepth 100000 in
set_option maxHeartbeats 4000000 in
theorem w_X10_readsNode_J110 {X : Cx} {Y : Cy} {Q : St → Prop} (ok : Ok X Y KM cX10_readsNode 2 RX10 (rm0q 2 45) none) (σ : St) (s1 : Int) (s2 : Int) (h : f_X10_readsNode_J110 Q σ s1 s2) : Wq X Y KM 2 (QF X Y (Qvq Y KM Q)) σ 110 [(0, .inr (.inr 0))] [.inl s2, .inl s1, .inr (.inr 21)] := by
  unfold f_X10_readsNode_J110 at h
  obtain ⟨g1, g2, h⟩ := h
  obtain ⟨g3, h⟩ := h
  refine q_zast ok kM_ok kM_21 g1 g2 g3 dX10_readsNode_110 (wq_s (fun σ1 eσ1 => ?_))
  have h := h σ1 eσ1
  refine q_aload_n ok dX10_readsNode_111 0 rfl ?_
  refine q_dup ok dX10_readsNode_112 rfl ?_
  refine q_getI ok fl_X10_151 kM_0 fM_0_36 dX10_readsNode_113 ?_
  refine q_aload_n ok dX10_readsNode_116 0 rfl ?_
  refine q_getC ok fl_X10_70 kM_0 fM_0_27 dX10_readsNode_117 ?_
  refine q_aload_n ok dX10_readsNode_120 0 rfl ?_
  refine q_getI ok fl_X10_195 kM_0 fM_0_30 dX10_readsNode_121 ?_
  obtain ⟨g4, g5, h⟩ := h
  refine q_zald ok kM_ok kM_21 g4 g5 dX10_readsNode_124 ?_
  obtain ⟨g6, hT1a, hT1b⟩ := h
  refine q_if_eq (tgt := 132) ok dX10_readsNode_125 (by decide) g6 (fun c1 => ?_) (fun c1 => ?_)
  · have h := hT1a c1
    refine q_iconst ok dX10_readsNode_132 ?_
    exact w_X10_readsNode_J133 ok σ1 (σ1 0 36) 0 h
  · have h := hT1b c1
    refine q_iconst ok dX10_readsNode_128 ?_
    refine q_goto (tgt := 133) ok dX10_readsNode_129 (by decide) ?_
    exact w_X10_readsNode_J133 ok σ1 (σ1 0 36) 1 h
set_option maxRecDepth 100000 in
set_option maxHeartbeats 4000000 in
theorem w_X10_readsNode_J47 {X : Cx} {Y : Cy} {Q : St → Prop} (ok : Ok X Y KM cX10_readsNode 2 RX10 (rm0q 2 45) none) (σ : St) (v1 : Int) (h : f_X10_readsNode_J47 Q σ v1) : Wq X Y KM 2 (QF X Y (Qvq Y KM Q)) σ 47 [(0, .inr (.inr 0)), (1, .inl v1)] [] := by
  unfold f_X10_readsNode_J47 at h
  refine q_aload_n ok dX10_readsNode_47 0 rfl ?_
  refine q_getI ok fl_X10_157 kM_0 fM_0_37 dX10_readsNode_48 ?_
  obtain ⟨g1, hT2a, hT2b⟩ := h
  refine q_if_ne (tgt := 55) ok dX10_readsNode_51 (by decide) g1 (fun c2 => ?_) (fun c2 => ?_)
  · have h := hT2a c2
    refine q_aload_n ok dX10_readsNode_55 0 rfl ?_
    refine q_getC ok fl_X10_77 kM_0 fM_0_29 dX10_readsNode_56 ?_
    refine q_iload_n ok dX10_readsNode_59 1 rfl ?_
    refine q_aload_n ok dX10_readsNode_60 0 rfl ?_
    refine q_getI ok fl_X10_195 kM_0 fM_0_30 dX10_readsNode_61 ?_
    obtain ⟨g2, g3, h⟩ := h
    refine q_iast ok kM_ok kM_23 g2 g3 dX10_readsNode_64 (wq_s (fun σ1 eσ1 => ?_))
    have h := h σ1 eσ1
    refine q_aload_n ok dX10_readsNode_65 0 rfl ?_
    refine q_getC ok fl_X10_77 kM_0 fM_0_29 dX10_readsNode_66 ?_
    refine q_iload_n ok dX10_readsNode_69 1 rfl ?_
    refine q_aload_n ok dX10_readsNode_70 0 rfl ?_
    refine q_getI ok fl_X10_195 kM_0 fM_0_30 dX10_readsNode_71 ?_
    obtain ⟨g4, g5, h⟩ := h
    refine q_iast ok kM_ok kM_23 g4 g5 dX10_readsNode_74 (wq_s (fun σ2 eσ2 => ?_))
    have h := h σ2 eσ2
    refine q_aload_n ok dX10_readsNode_75 0 rfl ?_
    refine q_getC ok fl_X10_67 kM_0 fM_0_26 dX10_readsNode_76 ?_
    refine q_aload_n ok dX10_readsNode_79 0 rfl ?_
    refine q_getI ok fl_X10_195 kM_0 fM_0_30 dX10_readsNode_80 ?_
    refine q_bipush ok dX10_readsNode_83 rfl ?_
    refine q_iload_n ok dX10_readsNode_85 1 rfl ?_
    refine q_iadd ok dX10_readsNode_86 ?_
    obtain ⟨g6, g7, h⟩ := h
    refine q_iast ok kM_ok kM_20 g6 g7 dX10_readsNode_87 (wq_s (fun σ3 eσ3 => ?_))
    have h := h σ3 eσ3
    refine q_aload_n ok dX10_readsNode_88 0 rfl ?_
    refine q_getC ok fl_X10_70 kM_0 fM_0_27 dX10_readsNode_89 ?_
    refine q_aload_n ok dX10_readsNode_92 0 rfl ?_
    refine q_getI ok fl_X10_195 kM_0 fM_0_30 dX10_readsNode_93 ?_
    refine q_aload_n ok dX10_readsNode_96 0 rfl ?_
    refine q_callVI (st := [.inl (σ3 0 30), .inr (.inr 21)]) ok cs_X10_160 kM_0 rfl (c_X10_here X.2.1 Y ok.2.2.2.2.2.2.2.2 h) ⟨rfl, rfl, Nat.le_of_ble_eq_true rfl, Nat.le_of_ble_eq_true rfl⟩ rfl rfl (Nat.le_of_ble_eq_true rfl) dX10_readsNode_97 (fun σ4 r1 h => ?_)
    refine q_bipush ok dX10_readsNode_100 rfl ?_
    obtain ⟨g8, hT1a, hT1b⟩ := h
    refine q_icmp_ne (tgt := 109) ok dX10_readsNode_102 (by decide) g8 (by unfold inR; decide) (fun c1 => ?_) (fun c1 => ?_)
    · have h := hT1a c1
      refine q_iconst ok dX10_readsNode_109 ?_
      refine q_sub [0] rfl ?_
      exact w_X10_readsNode_J110 ok σ4 (σ3 0 30) 0 h
    · have h := hT1b c1
      refine q_iconst ok dX10_readsNode_105 ?_
      refine q_goto (tgt := 110) ok dX10_readsNode_106 (by decide) ?_
      refine q_sub [0] rfl ?_
      exact w_X10_readsNode_J110 ok σ4 (σ3 0 30) 1 h
  · have h := hT2b c2
    exact q_vret ok dX10_readsNode_54 h
set_option maxRecDepth 100000 in
set_option maxHeartbeats 4000000 in
theorem c_X10_readsNode (l : Launch) (Y : Cy) (hD : ∀ σ, va_D Y.2.2.2 (wsOf KM Y.2.1 Y.2.2.1 σ)) {σ : St} {Q : St → Prop} (h : f_X10_readsNode  σ Q) : ConV l yX10_readsNode cX10_readsNode 2 (rm0q 2 45) Y KM σ [.inr (.inr 0)] Q := con_of (lv := [(0, .inr (.inr 0))]) (by decide) hD (Nat.le_of_ble_eq_true rfl) rfl (fun X _ ok => by
  have ok : Ok X Y KM cX10_readsNode 2 RX10 (rm0q 2 45) none := ok
  unfold f_X10_readsNode at h
  refine q_aload_n ok dX10_readsNode_0 0 rfl ?_
  refine q_bipush ok dX10_readsNode_1 rfl ?_
  refine q_callVV (st := []) ok cs_X10_187 kM_0 rfl (c_X10_reads X.2.1 Y ok.2.2.2.2.2.2.2.2 h) ⟨rfl, rfl, Nat.le_of_ble_eq_true rfl, Nat.le_of_ble_eq_true rfl⟩ rfl rfl (Nat.le_of_ble_eq_true rfl) dX10_readsNode_3 (fun σ1 h => ?_)
  refine q_aload_n ok dX10_readsNode_6 0 rfl ?_
  refine q_bipush ok dX10_readsNode_7 rfl ?_
  refine q_bipush ok dX10_readsNode_9 rfl ?_
  refine q_callVI (st := []) ok cs_X10_191 kM_0 rfl (c_X10_readsOf X.2.1 Y ok.2.2.2.2.2.2.2.2 h) ⟨rfl, rfl, Nat.le_of_ble_eq_true rfl, Nat.le_of_ble_eq_true rfl⟩ rfl rfl (Nat.le_of_ble_eq_true rfl) dX10_readsNode_11 (fun σ2 r1 h => ?_)
  refine q_istore_n (lv' := [(1, .inl r1), (0, .inr (.inr 0))]) ok dX10_readsNode_14 (by decide) rfl ?_
  refine q_aload_n ok dX10_readsNode_15 1 rfl ?_
  refine q_getI ok fl_X10_157 kM_0 fM_0_37 dX10_readsNode_16 ?_
  obtain ⟨g1, hT2a, hT2b⟩ := h
  refine q_if_eq (tgt := 47) ok dX10_readsNode_19 (by decide) g1 (fun c2 => ?_) (fun c2 => ?_)
  · have h := hT2a c2
    refine q_sub [1, 0] rfl ?_
    exact w_X10_readsNode_J47 ok σ2 r1 h
  · have h := hT2b c2
    refine q_aload_n ok dX10_readsNode_22 1 rfl ?_
    refine q_getC ok fl_X10_77 kM_0 fM_0_29 dX10_readsNode_23 ?_
    refine q_iload_n ok dX10_readsNode_26 0 rfl ?_
    obtain ⟨g2, g3, h⟩ := h
    refine q_iald ok kM_ok kM_23 g2 g3 dX10_readsNode_27 ?_
    refine q_iconst ok dX10_readsNode_28 ?_
    obtain ⟨g4, hT1a, hT1b⟩ := h
    refine q_icmp_eq (tgt := 47) ok dX10_readsNode_29 (by decide) g4 (by unfold inR; decide) (fun c1 => ?_) (fun c1 => ?_)
    · have h := hT1a c1
      refine q_sub [1, 0] rfl ?_
      exact w_X10_readsNode_J47 ok σ2 r1 h
    · have h := hT1b c1
      refine q_aload_n ok dX10_readsNode_32 1 rfl ?_
      refine q_iconst ok dX10_readsNode_33 ?_
      refine q_putZ ok fp_X10_157 kM_0 fM_0_37 dX10_readsNode_34 (by decide) (wq_s (fun σ3 eσ3 => ?_))
      have h := h σ3 eσ3
      refine q_aload_n ok dX10_readsNode_37 1 rfl ?_
      refine q_dup ok dX10_readsNode_38 rfl ?_
      refine q_getI ok fl_X10_151 kM_0 fM_0_36 dX10_readsNode_39 ?_
      refine q_iconst ok dX10_readsNode_42 ?_
      refine q_isub ok dX10_readsNode_43 ?_
      refine q_putI ok fp_X10_151 kM_0 fM_0_36 dX10_readsNode_44 (wq_s (fun σ4 eσ4 => ?_))
      have h := h σ4 eσ4
      refine q_sub [1, 0] rfl ?_
      exact w_X10_readsNode_J47 ok σ4 r1 h)
/-! BranchingStoryModel.term(III)V -/
def f_X10_term (a0 : Int) (a1 : Int) (a2 : Int) (σ : St) (Q : St → Prop) : Prop :=
  0 ≤ (σ 0 19) ∧ (σ 0 19) < 401 ∧ ∀ σ1 : St, σ1 = sset σ 12 (σ 0 19).toNat a0 → 0 ≤ (σ1 0 19) ∧ (σ1 0 19) < 401 ∧ ∀ σ2 : St, σ2 = sset σ1 13 (σ1 0 19).toNat a1 → 0 ≤ (σ2 0 19) ∧ (σ2 0 19) < 401 ∧ ∀ σ3 : St, σ3 = sset σ2 14 (σ2 0 19).toNat a2 → ∀ σ4 : St, σ4 = sset σ3 0 19 ((σ3 0 19) + 1) → Q σ4
set_option maxRecDepth 100000 in
set_option maxHeartbeats 4000000 in
theorem c_X10_term (l : Launch) (Y : Cy) (hD : ∀ σ, va_D Y.2.2.2 (wsOf KM Y.2.1 Y.2.2.1 σ)) {a0 : Int} {a1 : Int} {a2 : Int} {σ : St} {Q : St → Prop} (h : f_X10_term a0 a1 a2 σ Q) : ConV l yX10_term cX10_term 4 (rm0q 0 0) Y KM σ [.inr (.inr 0), .inl a0, .inl a1, .inl a2] Q := con_of (lv := [(0, .inr (.inr 0)), (1, .inl a0), (2, .inl a1), (3, .inl a2)]) (by decide) hD (Nat.le_of_ble_eq_true rfl) rfl (fun X _ ok => by
  have ok : Ok X Y KM cX10_term 4 RX10 (rm0q 0 0) none := ok
  unfold f_X10_term at h
  refine q_aload_n ok dX10_term_0 0 rfl ?_
  refine q_getC ok fl_X10_43 kM_0 fM_0_16 dX10_term_1 ?_
  refine q_aload_n ok dX10_term_4 0 rfl ?_
  refine q_getI ok fl_X10_184 kM_0 fM_0_19 dX10_term_5 ?_
  refine q_iload_n ok dX10_term_8 1 rfl ?_
  obtain ⟨g1, g2, h⟩ := h
  refine q_iast ok kM_ok kM_12 g1 g2 dX10_term_9 (wq_s (fun σ1 eσ1 => ?_))
  have h := h σ1 eσ1
  refine q_aload_n ok dX10_term_10 0 rfl ?_
  refine q_getC ok fl_X10_46 kM_0 fM_0_17 dX10_term_11 ?_
  refine q_aload_n ok dX10_term_14 0 rfl ?_
  refine q_getI ok fl_X10_184 kM_0 fM_0_19 dX10_term_15 ?_
  refine q_iload_n ok dX10_term_18 2 rfl ?_
  obtain ⟨g3, g4, h⟩ := h
  refine q_iast ok kM_ok kM_13 g3 g4 dX10_term_19 (wq_s (fun σ2 eσ2 => ?_))
  have h := h σ2 eσ2
  refine q_aload_n ok dX10_term_20 0 rfl ?_
  refine q_getC ok fl_X10_49 kM_0 fM_0_18 dX10_term_21 ?_
  refine q_aload_n ok dX10_term_24 0 rfl ?_
  refine q_getI ok fl_X10_184 kM_0 fM_0_19 dX10_term_25 ?_
  refine q_iload_n ok dX10_term_28 3 rfl ?_
  obtain ⟨g5, g6, h⟩ := h
  refine q_iast ok kM_ok kM_14 g5 g6 dX10_term_29 (wq_s (fun σ3 eσ3 => ?_))
  have h := h σ3 eσ3
  refine q_aload_n ok dX10_term_30 0 rfl ?_
  refine q_dup ok dX10_term_31 rfl ?_
  refine q_getI ok fl_X10_184 kM_0 fM_0_19 dX10_term_32 ?_
  refine q_iconst ok dX10_term_35 ?_
  refine q_iadd ok dX10_term_36 ?_
  refine q_putI ok fp_X10_184 kM_0 fM_0_19 dX10_term_37 (wq_s (fun σ4 eσ4 => ?_))
  have h := h σ4 eσ4
  exact q_vret ok dX10_term_40 h)
/-! BranchingStoryModel.readsTerm()V -/
def f_X10_readsTerm_J135 (Q : St → Prop) (σ : St) (v1 : Int) (s1 : Int) : Prop :=
  f_X10_readsOf 48 57 σ (fun σ1 r1 => f_X10_term s1 (v1 - 120) r1 σ1 (fun σ2 => Q σ2))
def f_X10_readsTerm_J109 (Q : St → Prop) (σ : St) (v1 : Int) (v3 : Int) (s1 : Int) (s2 : Int) : Prop :=
  ∀ σ1 : St, σ1 = sset σ 0 36 (s1 + s2) → inR v3 ∧ ((¬ v3 = 60 → inR v3 ∧ ((¬ v3 = 62 → f_X10_readsTerm_J135 Q σ1 v1 4) ∧ (v3 = 62 → f_X10_readsTerm_J135 Q σ1 v1 3))) ∧ (v3 = 60 → f_X10_readsTerm_J135 Q σ1 v1 2))
def f_X10_readsTerm_J89 (Q : St → Prop) (σ : St) (v1 : Int) (v3 : Int) (s1 : Int) : Prop :=
  f_X10_requires s1 σ (fun σ1 => inR (σ1 0 37) ∧ (((σ1 0 37) = 0 → f_X10_readsTerm_J109 Q σ1 v1 v3 (σ1 0 36) 0) ∧ (¬ (σ1 0 37) = 0 → f_X10_readsTerm_J109 Q σ1 v1 v3 (σ1 0 36) 1)))
def f_X10_readsTerm_J84 (Q : St → Prop) (σ : St) (v1 : Int) (v3 : Int) : Prop :=
  f_X10_readsTerm_J89 Q σ v1 v3 1
def f_X10_readsTerm_J163 (Q : St → Prop) (σ : St) (s1 : Int) : Prop :=
  f_X10_readsOf 97 102 σ (fun σ1 r1 => f_X10_term s1 r1 0 σ1 (fun σ2 => Q σ2))
def f_X10_readsTerm_J153 (Q : St → Prop) (σ : St) (v2 : Int) : Prop :=
  inR v2 ∧ ((v2 = 0 → f_X10_readsTerm_J163 Q σ 0) ∧ (¬ v2 = 0 → f_X10_readsTerm_J163 Q σ 1))
def f_X10_readsTerm_J31 (Q : St → Prop) (σ : St) (v1 : Int) (v2 : Int) (s1 : Int) (s2 : Int) : Prop :=
  ∀ σ1 : St, σ1 = sset σ 0 36 (s1 + s2) → inR v2 ∧ ((¬ v2 = 0 → f_X10_readsTerm_J153 Q σ1 v2) ∧ (v2 = 0 → f_X10_in v1 120 122 σ1 (fun σ2 r1 => inR r1 ∧ ((r1 = 0 → f_X10_readsTerm_J153 Q σ2 v2) ∧ (¬ r1 = 0 → ∀ σ3 : St, σ3 = sset σ2 0 36 ((σ2 0 36) + 1) → f_X10_here σ3 (fun σ4 r2 => inR r2 ∧ ((r2 = 60 → f_X10_readsTerm_J84 Q σ4 v1 r2) ∧ (¬ r2 = 60 → inR r2 ∧ ((r2 = 62 → f_X10_readsTerm_J84 Q σ4 v1 r2) ∧ (¬ r2 = 62 → inR r2 ∧ ((¬ r2 = 61 → f_X10_readsTerm_J89 Q σ4 v1 r2 0) ∧ (r2 = 61 → f_X10_readsTerm_J84 Q σ4 v1 r2))))))))))))
def f_X10_readsTerm_J16 (Q : St → Prop) (σ : St) (v1 : Int) (s0 : Int) : Prop :=
  inR s0 ∧ ((s0 = 0 → f_X10_readsTerm_J31 Q σ v1 s0 (σ 0 36) 0) ∧ (¬ s0 = 0 → f_X10_readsTerm_J31 Q σ v1 s0 (σ 0 36) 1))
def f_X10_readsTerm (σ : St) (Q : St → Prop) : Prop :=
  f_X10_here σ (fun σ1 r1 => inR r1 ∧ ((¬ r1 = 33 → f_X10_readsTerm_J16 Q σ1 r1 0) ∧ (r1 = 33 → f_X10_readsTerm_J16 Q σ1 r1 1)))
set_option maxRecDepth 100000 in
set_option maxHeartbeats 4000000 in
theorem w_X10_readsTerm_J135 {X : Cx} {Y : Cy} {Q : St → Prop} (ok : Ok X Y KM cX10_readsTerm 4 RX10 (rm0q 2 45) none) (σ : St) (v1 : Int) (s1 : Int) (h : f_X10_readsTerm_J135 Q σ v1 s1) : Wq X Y KM 4 (QF X Y (Qvq Y KM Q)) σ 135 [(0, .inr (.inr 0)), (1, .inl v1)] [.inl s1, .inr (.inr 0)] := by
  unfold f_X10_readsTerm_J135 at h
  refine q_iload_n ok dX10_readsTerm_135 1 rfl ?_
  refine q_bipush ok dX10_readsTerm_136 rfl ?_
  refine q_isub ok dX10_readsTerm_138 ?_
  refine q_aload_n ok dX10_readsTerm_139 0 rfl ?_
  refine q_bipush ok dX10_readsTerm_140 rfl ?_
  refine q_bipush ok dX10_readsTerm_142 rfl ?_
  refine q_callVI (st := [.inl (v1 - 120), .inl s1, .inr (.inr 0)]) ok cs_X10_191 kM_0 rfl (c_X10_readsOf X.2.1 Y ok.2.2.2.2.2.2.2.2 h) ⟨rfl, rfl, Nat.le_of_ble_eq_true rfl, Nat.le_of_ble_eq_true rfl⟩ rfl rfl (Nat.le_of_ble_eq_true rfl) dX10_readsTerm_144 (fun σ1 r1 h => ?_)
  refine q_callVV (st := []) ok cs_X10_202 kM_0 rfl (c_X10_term X.2.1 Y ok.2.2.2.2.2.2.2.2 h) ⟨rfl, rfl, Nat.le_of_ble_eq_true rfl, Nat.le_of_ble_eq_true rfl⟩ rfl rfl (Nat.le_of_ble_eq_true rfl) dX10_readsTerm_147 (fun σ2 h => ?_)
  refine q_goto (tgt := 175) ok dX10_readsTerm_150 (by decide) ?_
  exact q_vret ok dX10_readsTerm_175 h
set_option maxRecDepth 100000 in
set_option maxHeartbeats 4000000 in
theorem w_X10_readsTerm_J109 {X : Cx} {Y : Cy} {Q : St → Prop} (ok : Ok X Y KM cX10_readsTerm 4 RX10 (rm0q 2 45) none) (σ : St) (v1 : Int) (v3 : Int) (s1 : Int) (s2 : Int) (h : f_X10_readsTerm_J109 Q σ v1 v3 s1 s2) : Wq X Y KM 4 (QF X Y (Qvq Y KM Q)) σ 109 [(0, .inr (.inr 0)), (1, .inl v1), (3, .inl v3)] [.inl s2, .inl s1, .inr (.inr 0)] := by
  unfold f_X10_readsTerm_J109 at h
  refine q_iadd ok dX10_readsTerm_109 ?_
  refine q_putI ok fp_X10_151 kM_0 fM_0_36 dX10_readsTerm_110 (wq_s (fun σ1 eσ1 => ?_))
  have h := h σ1 eσ1
  refine q_aload_n ok dX10_readsTerm_113 0 rfl ?_
  refine q_iload_n ok dX10_readsTerm_114 2 rfl ?_
  refine q_bipush ok dX10_readsTerm_115 rfl ?_
  obtain ⟨g1, hT2a, hT2b⟩ := h
  refine q_icmp_ne (tgt := 124) ok dX10_readsTerm_117 (by decide) g1 (by unfold inR; decide) (fun c2 => ?_) (fun c2 => ?_)
  · have h := hT2a c2
    refine q_iload_n ok dX10_readsTerm_124 2 rfl ?_
    refine q_bipush ok dX10_readsTerm_125 rfl ?_
    obtain ⟨g2, hT1a, hT1b⟩ := h
    refine q_icmp_ne (tgt := 134) ok dX10_readsTerm_127 (by decide) g2 (by unfold inR; decide) (fun c1 => ?_) (fun c1 => ?_)
    · have h := hT1a c1
      refine q_iconst ok dX10_readsTerm_134 ?_
      refine q_sub [0, 1] rfl ?_
      exact w_X10_readsTerm_J135 ok σ1 v1 4 h
    · have h := hT1b c1
      refine q_iconst ok dX10_readsTerm_130 ?_
      refine q_goto (tgt := 135) ok dX10_readsTerm_131 (by decide) ?_
      refine q_sub [0, 1] rfl ?_
      exact w_X10_readsTerm_J135 ok σ1 v1 3 h
  · have h := hT2b c2
    refine q_iconst ok dX10_readsTerm_120 ?_
    refine q_goto (tgt := 135) ok dX10_readsTerm_121 (by decide) ?_
    refine q_sub [0, 1] rfl ?_
    exact w_X10_readsTerm_J135 ok σ1 v1 2 h
set_option maxRecDepth 100000 in
set_option maxHeartbeats 4000000 in
theorem w_X10_readsTerm_J89 {X : Cx} {Y : Cy} {Q : St → Prop} (ok : Ok X Y KM cX10_readsTerm 4 RX10 (rm0q 2 45) none) (σ : St) (v1 : Int) (v3 : Int) (s1 : Int) (h : f_X10_readsTerm_J89 Q σ v1 v3 s1) : Wq X Y KM 4 (QF X Y (Qvq Y KM Q)) σ 89 [(0, .inr (.inr 0)), (1, .inl v1), (3, .inl v3)] [.inl s1, .inr (.inr 0)] := by
  unfold f_X10_readsTerm_J89 at h
  refine q_callVV (st := []) ok cs_X10_164 kM_0 rfl (c_X10_requires X.2.1 Y ok.2.2.2.2.2.2.2.2 h) ⟨rfl, rfl, Nat.le_of_ble_eq_true rfl, Nat.le_of_ble_eq_true rfl⟩ rfl rfl (Nat.le_of_ble_eq_true rfl) dX10_readsTerm_89 (fun σ1 h => ?_)
  refine q_aload_n ok dX10_readsTerm_92 0 rfl ?_
  refine q_dup ok dX10_readsTerm_93 rfl ?_
  refine q_getI ok fl_X10_151 kM_0 fM_0_36 dX10_readsTerm_94 ?_
  refine q_aload_n ok dX10_readsTerm_97 0 rfl ?_
  refine q_getI ok fl_X10_157 kM_0 fM_0_37 dX10_readsTerm_98 ?_
  obtain ⟨g1, hT1a, hT1b⟩ := h
  refine q_if_eq (tgt := 108) ok dX10_readsTerm_101 (by decide) g1 (fun c1 => ?_) (fun c1 => ?_)
  · have h := hT1a c1
    refine q_iconst ok dX10_readsTerm_108 ?_
    exact w_X10_readsTerm_J109 ok σ1 v1 v3 (σ1 0 36) 0 h
  · have h := hT1b c1
    refine q_iconst ok dX10_readsTerm_104 ?_
    refine q_goto (tgt := 109) ok dX10_readsTerm_105 (by decide) ?_
    exact w_X10_readsTerm_J109 ok σ1 v1 v3 (σ1 0 36) 1 h
set_option maxRecDepth 100000 in
set_option maxHeartbeats 4000000 in
theorem w_X10_readsTerm_J84 {X : Cx} {Y : Cy} {Q : St → Prop} (ok : Ok X Y KM cX10_readsTerm 4 RX10 (rm0q 2 45) none) (σ : St) (v1 : Int) (v3 : Int) (h : f_X10_readsTerm_J84 Q σ v1 v3) : Wq X Y KM 4 (QF X Y (Qvq Y KM Q)) σ 84 [(0, .inr (.inr 0)), (1, .inl v1), (3, .inl v3)] [.inr (.inr 0)] := by
  unfold f_X10_readsTerm_J84 at h
  refine q_iconst ok dX10_readsTerm_84 ?_
  refine q_goto (tgt := 89) ok dX10_readsTerm_85 (by decide) ?_
  exact w_X10_readsTerm_J89 ok σ v1 v3 1 h
set_option maxRecDepth 100000 in
set_option maxHeartbeats 4000000 in
theorem w_X10_readsTerm_J163 {X : Cx} {Y : Cy} {Q : St → Prop} (ok : Ok X Y KM cX10_readsTerm 4 RX10 (rm0q 2 45) none) (σ : St) (s1 : Int) (h : f_X10_readsTerm_J163 Q σ s1) : Wq X Y KM 4 (QF X Y (Qvq Y KM Q)) σ 163 [(0, .inr (.inr 0))] [.inl s1, .inr (.inr 0)] := by
  unfold f_X10_readsTerm_J163 at h
  refine q_aload_n ok dX10_readsTerm_163 0 rfl ?_
  refine q_bipush ok dX10_readsTerm_164 rfl ?_
  refine q_bipush ok dX10_readsTerm_166 rfl ?_
  refine q_callVI (st := [.inl s1, .inr (.inr 0)]) ok cs_X10_191 kM_0 rfl (c_X10_readsOf X.2.1 Y ok.2.2.2.2.2.2.2.2 h) ⟨rfl, rfl, Nat.le_of_ble_eq_true rfl, Nat.le_of_ble_eq_true rfl⟩ rfl rfl (Nat.le_of_ble_eq_true rfl) dX10_readsTerm_168 (fun σ1 r1 h => ?_)
  refine q_iconst ok dX10_readsTerm_171 ?_
  refine q_callVV (st := []) ok cs_X10_202 kM_0 rfl (c_X10_term X.2.1 Y ok.2.2.2.2.2.2.2.2 h) ⟨rfl, rfl, Nat.le_of_ble_eq_true rfl, Nat.le_of_ble_eq_true rfl⟩ rfl rfl (Nat.le_of_ble_eq_true rfl) dX10_readsTerm_172 (fun σ2 h => ?_)
  exact q_vret ok dX10_readsTerm_175 h
set_option maxRecDepth 100000 in
set_option maxHeartbeats 4000000 in
theorem w_X10_readsTerm_J153 {X : Cx} {Y : Cy} {Q : St → Prop} (ok : Ok X Y KM cX10_readsTerm 4 RX10 (rm0q 2 45) none) (σ : St) (v2 : Int) (h : f_X10_readsTerm_J153 Q σ v2) : Wq X Y KM 4 (QF X Y (Qvq Y KM Q)) σ 153 [(0, .inr (.inr 0)), (2, .inl v2)] [] := by
  unfold f_X10_readsTerm_J153 at h
  refine q_aload_n ok dX10_readsTerm_153 0 rfl ?_
  refine q_iload_n ok dX10_readsTerm_154 1 rfl ?_
  obtain ⟨g1, hT1a, hT1b⟩ := h
  refine q_if_eq (tgt := 162) ok dX10_readsTerm_155 (by decide) g1 (fun c1 => ?_) (fun c1 => ?_)
  · have h := hT1a c1
    refine q_iconst ok dX10_readsTerm_162 ?_
    refine q_sub [0] rfl ?_
    exact w_X10_readsTerm_J163 ok σ 0 h
  · have h := hT1b c1
    refine q_iconst ok dX10_readsTerm_158 ?_
    refine q_goto (tgt := 163) ok dX10_readsTerm_159 (by decide) ?_
    refine q_sub [0] rfl ?_
    exact w_X10_readsTerm_J163 ok σ 1 h
set_option maxRecDepth 100000 in
set_option maxHeartbeats 4000000 in
theorem w_X10_readsTerm_J31 {X : Cx} {Y : Cy} {Q : St → Prop} (ok : Ok X Y KM cX10_readsTerm 4 RX10 (rm0q 2 45) none) (σ : St) (v1 : Int) (v2 : Int) (s1 : Int) (s2 : Int) (h : f_X10_readsTerm_J31 Q σ v1 v2 s1 s2) : Wq X Y KM 4 (QF X Y (Qvq Y KM Q)) σ 31 [(0, .inr (.inr 0)), (1, .inl v1), (2, .inl v2)] [.inl s2, .inl s1, .inr (.inr 0)] := by
  unfold f_X10_readsTerm_J31 at h
  refine q_iadd ok dX10_readsTerm_31 ?_
  refine q_putI ok fp_X10_151 kM_0 fM_0_36 dX10_readsTerm_32 (wq_s (fun σ1 eσ1 => ?_))
  have h := h σ1 eσ1
  refine q_iload_n ok dX10_readsTerm_35 2 rfl ?_
  obtain ⟨g1, hT5a, hT5b⟩ := h
  refine q_if_ne (tgt := 153) ok dX10_readsTerm_36 (by decide) g1 (fun c5 => ?_) (fun c5 => ?_)
  · have h := hT5a c5
    refine q_sub [0, 2] rfl ?_
    exact w_X10_readsTerm_J153 ok σ1 v2 h
  · have h := hT5b c5
    refine q_iload_n ok dX10_readsTerm_39 1 rfl ?_
    refine q_bipush ok dX10_readsTerm_40 rfl ?_
    refine q_bipush ok dX10_readsTerm_42 rfl ?_
    refine q_callSI (st := []) ok cs_X10_168 (c_X10_in X.2.1 Y ok.2.2.2.2.2.2.2.2 h) ⟨rfl, rfl, Nat.le_of_ble_eq_true rfl, Nat.le_of_ble_eq_true rfl⟩ rfl rfl (Nat.le_of_ble_eq_true rfl) dX10_readsTerm_44 (fun σ2 r1 h => ?_)
    obtain ⟨g2, hT4a, hT4b⟩ := h
    refine q_if_eq (tgt := 153) ok dX10_readsTerm_47 (by decide) g2 (fun c4 => ?_) (fun c4 => ?_)
    · have h := hT4a c4
      refine q_sub [0, 2] rfl ?_
      exact w_X10_readsTerm_J153 ok σ2 v2 h
    · have h := hT4b c4
      refine q_aload_n ok dX10_readsTerm_50 0 rfl ?_
      refine q_dup ok dX10_readsTerm_51 rfl ?_
      refine q_getI ok fl_X10_151 kM_0 fM_0_36 dX10_readsTerm_52 ?_
      refine q_iconst ok dX10_readsTerm_55 ?_
      refine q_iadd ok dX10_readsTerm_56 ?_
      refine q_putI ok fp_X10_151 kM_0 fM_0_36 dX10_readsTerm_57 (wq_s (fun σ3 eσ3 => ?_))
      have h := h σ3 eσ3
      refine q_aload_n ok dX10_readsTerm_60 0 rfl ?_
      refine q_callVI (st := []) ok cs_X10_160 kM_0 rfl (c_X10_here X.2.1 Y ok.2.2.2.2.2.2.2.2 h) ⟨rfl, rfl, Nat.le_of_ble_eq_true rfl, Nat.le_of_ble_eq_true rfl⟩ rfl rfl (Nat.le_of_ble_eq_true rfl) dX10_readsTerm_61 (fun σ4 r2 h => ?_)
      refine q_istore_n (lv' := [(3, .inl r2), (0, .inr (.inr 0)), (1, .inl v1), (2, .inl v2)]) ok dX10_readsTerm_64 (by decide) rfl ?_
      refine q_aload_n ok dX10_readsTerm_65 1 rfl ?_
      refine q_iload_n ok dX10_readsTerm_66 0 rfl ?_
      refine q_bipush ok dX10_readsTerm_67 rfl ?_
      obtain ⟨g3, hT3a, hT3b⟩ := h
      refine q_icmp_eq (tgt := 84) ok dX10_readsTerm_69 (by decide) g3 (by unfold inR; decide) (fun c3 => ?_) (fun c3 => ?_)
      · have h := hT3a c3
        refine q_sub [1, 2, 0] rfl ?_
        exact w_X10_readsTerm_J84 ok σ4 v1 r2 h
      · have h := hT3b c3
        refine q_iload_n ok dX10_readsTerm_72 0 rfl ?_
        refine q_bipush ok dX10_readsTerm_73 rfl ?_
        obtain ⟨g4, hT2a, hT2b⟩ := h
        refine q_icmp_eq (tgt := 84) ok dX10_readsTerm_75 (by decide) g4 (by unfold inR; decide) (fun c2 => ?_) (fun c2 => ?_)
        · have h := hT2a c2
          refine q_sub [1, 2, 0] rfl ?_
          exact w_X10_readsTerm_J84 ok σ4 v1 r2 h
        · have h := hT2b c2
          refine q_iload_n ok dX10_readsTerm_78 0 rfl ?_
          refine q_bipush ok dX10_readsTerm_79 rfl ?_
          obtain ⟨g5, hT1a, hT1b⟩ := h
          refine q_icmp_ne (tgt := 88) ok dX10_readsTerm_81 (by decide) g5 (by unfold inR; decide) (fun c1 => ?_) (fun c1 => ?_)
          · have h := hT1a c1
            refine q_iconst ok dX10_readsTerm_88 ?_
            refine q_sub [1, 2, 0] rfl ?_
            exact w_X10_readsTerm_J89 ok σ4 v1 r2 0 h
          · have h := hT1b c1
            refine q_sub [1, 2, 0] rfl ?_
            exact w_X10_readsTerm_J84 ok σ4 v1 r2 h
set_option maxRecDepth 100000 in
set_option maxHeartbeats 4000000 in
theorem w_X10_readsTerm_J16 {X : Cx} {Y : Cy} {Q : St → Prop} (ok : Ok X Y KM cX10_readsTerm 4 RX10 (rm0q 2 45) none) (σ : St) (v1 : Int) (s0 : Int) (h : f_X10_readsTerm_J16 Q σ v1 s0) : Wq X Y KM 4 (QF X Y (Qvq Y KM Q)) σ 16 [(0, .inr (.inr 0)), (1, .inl v1)] [.inl s0] := by
  unfold f_X10_readsTerm_J16 at h
  refine q_istore_n (lv' := [(2, .inl s0), (0, .inr (.inr 0)), (1, .inl v1)]) ok dX10_readsTerm_16 (by decide) rfl ?_
  refine q_aload_n ok dX10_readsTerm_17 1 rfl ?_
  refine q_dup ok dX10_readsTerm_18 rfl ?_
  refine q_getI ok fl_X10_151 kM_0 fM_0_36 dX10_readsTerm_19 ?_
  refine q_iload_n ok dX10_readsTerm_22 0 rfl ?_
  obtain ⟨g1, hT1a, hT1b⟩ := h
  refine q_if_eq (tgt := 30) ok dX10_readsTerm_23 (by decide) g1 (fun c1 => ?_) (fun c1 => ?_)
  · have h := hT1a c1
    refine q_iconst ok dX10_readsTerm_30 ?_
    refine q_sub [1, 2, 0] rfl ?_
    exact w_X10_readsTerm_J31 ok σ v1 s0 (σ 0 36) 0 h
  · have h := hT1b c1
    refine q_iconst ok dX10_readsTerm_26 ?_
    refine q_goto (tgt := 31) ok dX10_readsTerm_27 (by decide) ?_
    refine q_sub [1, 2, 0] rfl ?_
    exact w_X10_readsTerm_J31 ok σ v1 s0 (σ 0 36) 1 h
set_option maxRecDepth 100000 in
set_option maxHeartbeats 4000000 in
theorem c_X10_readsTerm (l : Launch) (Y : Cy) (hD : ∀ σ, va_D Y.2.2.2 (wsOf KM Y.2.1 Y.2.2.1 σ)) {σ : St} {Q : St → Prop} (h : f_X10_readsTerm  σ Q) : ConV l yX10_readsTerm cX10_readsTerm 4 (rm0q 2 45) Y KM σ [.inr (.inr 0)] Q := con_of (lv := [(0, .inr (.inr 0))]) (by decide) hD (Nat.le_of_ble_eq_true rfl) rfl (fun X _ ok => by
  have ok : Ok X Y KM cX10_readsTerm 4 RX10 (rm0q 2 45) none := ok
  unfold f_X10_readsTerm at h
  refine q_aload_n ok dX10_readsTerm_0 0 rfl ?_
  refine q_callVI (st := []) ok cs_X10_160 kM_0 rfl (c_X10_here X.2.1 Y ok.2.2.2.2.2.2.2.2 h) ⟨rfl, rfl, Nat.le_of_ble_eq_true rfl, Nat.le_of_ble_eq_true rfl⟩ rfl rfl (Nat.le_of_ble_eq_true rfl) dX10_readsTerm_1 (fun σ1 r1 h => ?_)
  refine q_istore_n (lv' := [(1, .inl r1), (0, .inr (.inr 0))]) ok dX10_readsTerm_4 (by decide) rfl ?_
  refine q_iload_n ok dX10_readsTerm_5 0 rfl ?_
  refine q_bipush ok dX10_readsTerm_6 rfl ?_
  obtain ⟨g1, hT1a, hT1b⟩ := h
  refine q_icmp_ne (tgt := 15) ok dX10_readsTerm_8 (by decide) g1 (by unfold inR; decide) (fun c1 => ?_) (fun c1 => ?_)
  · have h := hT1a c1
    refine q_iconst ok dX10_readsTerm_15 ?_
    refine q_sub [1, 0] rfl ?_
    exact w_X10_readsTerm_J16 ok σ1 r1 0 h
  · have h := hT1b c1
    refine q_iconst ok dX10_readsTerm_11 ?_
    refine q_goto (tgt := 16) ok dX10_readsTerm_12 (by decide) ?_
    refine q_sub [1, 0] rfl ?_
    exact w_X10_readsTerm_J16 ok σ1 r1 1 h)
/-! BranchingStoryModel.readsCondition(I)V -/
def f_X10_readsCondition_J38 (k2 : St → Int → Int → Prop) (Q : St → Prop) (σ : St) (v1 : Int) (s0 : Int) : Prop :=
  inR s0 ∧ ((s0 = 0 → ∀ σ1 : St, σ1 = sset σ 0 36 ((σ 0 36) + 0) → k2 σ1 v1 s0) ∧ (¬ s0 = 0 → ∀ σ2 : St, σ2 = sset σ 0 36 ((σ 0 36) + 1) → k2 σ2 v1 s0))
def f_X10_readsCondition_J37 (k2 : St → Int → Int → Prop) (Q : St → Prop) (σ : St) (v1 : Int) : Prop :=
  f_X10_readsCondition_J38 k2 Q σ v1 0
def f_X10_readsCondition_J60 (Q : St → Prop) (σ : St) (v1 : Int) : Prop :=
  0 ≤ v1 ∧ v1 < 401 ∧ ∀ σ1 : St, σ1 = sset σ 11 v1.toNat (σ 0 19) → Q σ1
def f_X10_readsCondition_L2 (Q : St → Prop) : Nat → St → Int → Int → Prop
  | 0, _, _, _ => False
  | n + 1, σ, v1, v2 => inR v2 ∧ ((v2 = 0 → f_X10_readsCondition_J60 Q σ v1) ∧ (¬ v2 = 0 → inR (σ 0 37) ∧ (((σ 0 37) = 0 → f_X10_readsCondition_J60 Q σ v1) ∧ (¬ (σ 0 37) = 0 → f_X10_readsTerm σ (fun σ1 => inR (σ1 0 37) ∧ (((σ1 0 37) = 0 → f_X10_readsCondition_J37 (fun σ' v1' v2' => f_X10_readsCondition_L2 Q n σ' v1' v2') Q σ1 v1) ∧ (¬ (σ1 0 37) = 0 → f_X10_here σ1 (fun σ2 r1 => inR r1 ∧ ((¬ r1 = 38 → f_X10_readsCondition_J37 (fun σ' v1' v2' => f_X10_readsCondition_L2 Q n σ' v1' v2') Q σ2 v1) ∧ (r1 = 38 → f_X10_readsCondition_J38 (fun σ' v1' v2' => f_X10_readsCondition_L2 Q n σ' v1' v2') Q σ2 v1 1))))))))))
def f_X10_readsCondition (a0 : Int) (σ : St) (Q : St → Prop) : Prop :=
  f_X10_readsCondition_L2 Q FU σ a0 1
set_option maxRecDepth 100000 in
set_option maxHeartbeats 4000000 in
theorem w_X10_readsCondition_J38 {X : Cx} {Y : Cy} {k2 : St → Int → Int → Prop} {Q : St → Prop} (ok : Ok X Y KM cX10_readsCondition 3 RX10 (rm0q 3 68) none) (hk2 : ∀ (σ : St) (v1 : Int) (v2 : Int) , k2 σ v1 v2 → Wq X Y KM 3 (QF X Y (Qvq Y KM Q)) σ 2 [(0, .inr (.inr 0)), (1, .inl v1), (2, .inl v2)] []) (σ : St) (v1 : Int) (s0 : Int) (h : f_X10_readsCondition_J38 k2 Q σ v1 s0) : Wq X Y KM 3 (QF X Y (Qvq Y KM Q)) σ 38 [(0, .inr (.inr 0)), (1, .inl v1)] [.inl s0] := by
  unfold f_X10_readsCondition_J38 at h
  refine q_istore_n (lv' := [(2, .inl s0), (0, .inr (.inr 0)), (1, .inl v1)]) ok dX10_readsCondition_38 (by decide) rfl ?_
  refine q_aload_n ok dX10_readsCondition_39 1 rfl ?_
  refine q_dup ok dX10_readsCondition_40 rfl ?_
  refine q_getI ok fl_X10_151 kM_0 fM_0_36 dX10_readsCondition_41 ?_
  refine q_iload_n ok dX10_readsCondition_44 0 rfl ?_
  obtain ⟨g1, hT1a, hT1b⟩ := h
  refine q_if_eq (tgt := 52) ok dX10_readsCondition_45 (by decide) g1 (fun c1 => ?_) (fun c1 => ?_)
  · have h := hT1a c1
    refine q_iconst ok dX10_readsCondition_52 ?_
    refine q_iadd ok dX10_readsCondition_53 ?_
    refine q_putI ok fp_X10_151 kM_0 fM_0_36 dX10_readsCondition_54 (wq_s (fun σ1 eσ1 => ?_))
    have h := h σ1 eσ1
    refine q_goto (tgt := 2) ok dX10_readsCondition_57 (by decide) ?_
    refine q_sub [1, 2, 0] rfl ?_
    exact hk2 σ1 v1 s0 h
  · have h := hT1b c1
    refine q_iconst ok dX10_readsCondition_48 ?_
    refine q_goto (tgt := 53) ok dX10_readsCondition_49 (by decide) ?_
    refine q_iadd ok dX10_readsCondition_53 ?_
    refine q_putI ok fp_X10_151 kM_0 fM_0_36 dX10_readsCondition_54 (wq_s (fun σ2 eσ2 => ?_))
    have h := h σ2 eσ2
    refine q_goto (tgt := 2) ok dX10_readsCondition_57 (by decide) ?_
    refine q_sub [1, 2, 0] rfl ?_
    exact hk2 σ2 v1 s0 h
set_option maxRecDepth 100000 in
set_option maxHeartbeats 4000000 in
theorem w_X10_readsCondition_J37 {X : Cx} {Y : Cy} {k2 : St → Int → Int → Prop} {Q : St → Prop} (ok : Ok X Y KM cX10_readsCondition 3 RX10 (rm0q 3 68) none) (hk2 : ∀ (σ : St) (v1 : Int) (v2 : Int) , k2 σ v1 v2 → Wq X Y KM 3 (QF X Y (Qvq Y KM Q)) σ 2 [(0, .inr (.inr 0)), (1, .inl v1), (2, .inl v2)] []) (σ : St) (v1 : Int) (h : f_X10_readsCondition_J37 k2 Q σ v1) : Wq X Y KM 3 (QF X Y (Qvq Y KM Q)) σ 37 [(0, .inr (.inr 0)), (1, .inl v1)] [] := by
  unfold f_X10_readsCondition_J37 at h
  refine q_iconst ok dX10_readsCondition_37 ?_
  exact w_X10_readsCondition_J38 ok hk2 σ v1 0 h
set_option maxRecDepth 100000 in
set_option maxHeartbeats 4000000 in
theorem w_X10_readsCondition_J60 {X : Cx} {Y : Cy} {Q : St → Prop} (ok : Ok X Y KM cX10_readsCondition 3 RX10 (rm0q 3 68) none) (σ : St) (v1 : Int) (h : f_X10_readsCondition_J60 Q σ v1) : Wq X Y KM 3 (QF X Y (Qvq Y KM Q)) σ 60 [(0, .inr (.inr 0)), (1, .inl v1)] [] := by
  unfold f_X10_readsCondition_J60 at h
  refine q_aload_n ok dX10_readsCondition_60 0 rfl ?_
  refine q_getC ok fl_X10_40 kM_0 fM_0_14 dX10_readsCondition_61 ?_
  refine q_iload_n ok dX10_readsCondition_64 1 rfl ?_
  refine q_aload_n ok dX10_readsCondition_65 0 rfl ?_
  refine q_getI ok fl_X10_184 kM_0 fM_0_19 dX10_readsCondition_66 ?_
  obtain ⟨g1, g2, h⟩ := h
  refine q_iast ok kM_ok kM_11 g1 g2 dX10_readsCondition_69 (wq_s (fun σ1 eσ1 => ?_))
  have h := h σ1 eσ1
  exact q_vret ok dX10_readsCondition_70 h
set_option maxRecDepth 100000 in
set_option maxHeartbeats 4000000 in
theorem w_X10_readsCondition_L2 {X : Cx} {Y : Cy} {Q : St → Prop} (ok : Ok X Y KM cX10_readsCondition 3 RX10 (rm0q 3 68) none) : ∀ (n : Nat) (σ : St) (v1 : Int) (v2 : Int) , f_X10_readsCondition_L2 Q n σ v1 v2 → Wq X Y KM 3 (QF X Y (Qvq Y KM Q)) σ 2 [(0, .inr (.inr 0)), (1, .inl v1), (2, .inl v2)] [] := by
  intro n
  induction n with
  | zero => intro σ v1 v2 h; exact h.elim
  | succ n ih =>
    intro σ v1 v2 h
    rw [f_X10_readsCondition_L2] at h
    refine q_iload_n ok dX10_readsCondition_2 2 rfl ?_
    obtain ⟨g1, hT4a, hT4b⟩ := h
    refine q_if_eq (tgt := 60) ok dX10_readsCondition_3 (by decide) g1 (fun c4 => ?_) (fun c4 => ?_)
    · have h := hT4a c4
      refine q_sub [0, 1] rfl ?_
      exact w_X10_readsCondition_J60 ok σ v1 h
    · have h := hT4b c4
      refine q_aload_n ok dX10_readsCondition_6 0 rfl ?_
      refine q_getI ok fl_X10_157 kM_0 fM_0_37 dX10_readsCondition_7 ?_
      obtain ⟨g2, hT3a, hT3b⟩ := h
      refine q_if_eq (tgt := 60) ok dX10_readsCondition_10 (by decide) g2 (fun c3 => ?_) (fun c3 => ?_)
      · have h := hT3a c3
        refine q_sub [0, 1] rfl ?_
        exact w_X10_readsCondition_J60 ok σ v1 h
      · have h := hT3b c3
        refine q_aload_n ok dX10_readsCondition_13 0 rfl ?_
        refine q_callVV (st := []) ok cs_X10_205 kM_0 rfl (c_X10_readsTerm X.2.1 Y ok.2.2.2.2.2.2.2.2 h) ⟨rfl, rfl, Nat.le_of_ble_eq_true rfl, Nat.le_of_ble_eq_true rfl⟩ rfl rfl (Nat.le_of_ble_eq_true rfl) dX10_readsCondition_14 (fun σ1 h => ?_)
        refine q_aload_n ok dX10_readsCondition_17 0 rfl ?_
        refine q_getI ok fl_X10_157 kM_0 fM_0_37 dX10_readsCondition_18 ?_
        obtain ⟨g3, hT2a, hT2b⟩ := h
        refine q_if_eq (tgt := 37) ok dX10_readsCondition_21 (by decide) g3 (fun c2 => ?_) (fun c2 => ?_)
        · have h := hT2a c2
          refine q_sub [0, 1] rfl ?_
          exact w_X10_readsCondition_J37 ok ih σ1 v1 h
        · have h := hT2b c2
          refine q_aload_n ok dX10_readsCondition_24 0 rfl ?_
          refine q_callVI (st := []) ok cs_X10_160 kM_0 rfl (c_X10_here X.2.1 Y ok.2.2.2.2.2.2.2.2 h) ⟨rfl, rfl, Nat.le_of_ble_eq_true rfl, Nat.le_of_ble_eq_true rfl⟩ rfl rfl (Nat.le_of_ble_eq_true rfl) dX10_readsCondition_25 (fun σ2 r1 h => ?_)
          refine q_bipush ok dX10_readsCondition_28 rfl ?_
          obtain ⟨g4, hT1a, hT1b⟩ := h
          refine q_icmp_ne (tgt := 37) ok dX10_readsCondition_30 (by decide) g4 (by unfold inR; decide) (fun c1 => ?_) (fun c1 => ?_)
          · have h := hT1a c1
            refine q_sub [0, 1] rfl ?_
            exact w_X10_readsCondition_J37 ok ih σ2 v1 h
          · have h := hT1b c1
            refine q_iconst ok dX10_readsCondition_33 ?_
            refine q_goto (tgt := 38) ok dX10_readsCondition_34 (by decide) ?_
            refine q_sub [0, 1] rfl ?_
            exact w_X10_readsCondition_J38 ok ih σ2 v1 1 h
set_option maxRecDepth 100000 in
set_option maxHeartbeats 4000000 in
theorem c_X10_readsCondition (l : Launch) (Y : Cy) (hD : ∀ σ, va_D Y.2.2.2 (wsOf KM Y.2.1 Y.2.2.1 σ)) {a0 : Int} {σ : St} {Q : St → Prop} (h : f_X10_readsCondition a0 σ Q) : ConV l yX10_readsCondition cX10_readsCondition 3 (rm0q 3 68) Y KM σ [.inr (.inr 0), .inl a0] Q := con_of (lv := [(0, .inr (.inr 0)), (1, .inl a0)]) (by decide) hD (Nat.le_of_ble_eq_true rfl) rfl (fun X _ ok => by
  have ok : Ok X Y KM cX10_readsCondition 3 RX10 (rm0q 3 68) none := ok
  unfold f_X10_readsCondition at h
  refine q_iconst ok dX10_readsCondition_0 ?_
  refine q_istore_n (lv' := [(2, .inl 1), (0, .inr (.inr 0)), (1, .inl a0)]) ok dX10_readsCondition_1 (by decide) rfl ?_
  refine q_sub [1, 2, 0] rfl ?_
  exact w_X10_readsCondition_L2 ok FU σ a0 1 h)
/-! BranchingStoryModel.opens(IIIZ)V -/
def f_X10_opens_J73 (Q : St → Prop) (σ : St) (v1 : Int) (v2 : Int) : Prop :=
  0 ≤ ((σ 0 39) - 1) ∧ ((σ 0 39) - 1) < 8 ∧ 0 ≤ (σ 25 ((σ 0 39) - 1).toNat) ∧ (σ 25 ((σ 0 39) - 1).toNat) < 64 ∧ f_X10_newBlock v1 v2 (σ 19 (σ 25 ((σ 0 39) - 1).toNat).toNat) σ (fun σ1 => Q σ1)
def f_X10_opens_J24 (Q : St → Prop) (σ : St) (v1 : Int) (v2 : Int) (v3 : Int) (v4 : Int) (s1 : Int) : Prop :=
  f_X10_requires s1 σ (fun σ1 => inR (σ1 0 37) ∧ ((¬ (σ1 0 37) = 0 → ∀ σ2 : St, σ2 = sset σ1 0 36 ((σ1 0 36) + 1) → inR v4 ∧ ((v4 = 0 → 0 ≤ v3 ∧ v3 < 401 ∧ ∀ σ3 : St, σ3 = sset σ2 8 v3.toNat (σ2 0 25) → f_X10_opens_J73 Q σ3 v1 v2) ∧ (¬ v4 = 0 → 0 ≤ v3 ∧ v3 < 401 ∧ ∀ σ4 : St, σ4 = sset σ2 9 v3.toNat (σ2 0 25) → f_X10_opens_J73 Q σ4 v1 v2))) ∧ ((σ1 0 37) = 0 → Q σ1)))
def f_X10_opens_J23 (Q : St → Prop) (σ : St) (v1 : Int) (v2 : Int) (v3 : Int) (v4 : Int) : Prop :=
  f_X10_opens_J24 Q σ v1 v2 v3 v4 0
def f_X10_opens (a0 : Int) (a1 : Int) (a2 : Int) (a3 : Int) (σ : St) (Q : St → Prop) : Prop :=
  f_X10_here σ (fun σ1 r1 => inR r1 ∧ ((¬ r1 = 123 → f_X10_opens_J23 Q σ1 a0 a1 a2 a3) ∧ (r1 = 123 → inR (σ1 0 39) ∧ ((6 ≤ (σ1 0 39) → f_X10_opens_J23 Q σ1 a0 a1 a2 a3) ∧ (¬ 6 ≤ (σ1 0 39) → f_X10_opens_J24 Q σ1 a0 a1 a2 a3 1)))))
set_option maxRecDepth 100000 in
set_option maxHeartbeats 4000000 in
theorem w_X10_opens_J73 {X : Cx} {Y : Cy} {Q : St → Prop} (ok : Ok X Y KM cX10_opens 5 RX10 (rm0q 1 23) none) (σ : St) (v1 : Int) (v2 : Int) (h : f_X10_opens_J73 Q σ v1 v2) : Wq X Y KM 5 (QF X Y (Qvq Y KM Q)) σ 73 [(0, .inr (.inr 0)), (1, .inl v1), (2, .inl v2)] [] := by
  unfold f_X10_opens_J73 at h
  refine q_aload_n ok dX10_opens_73 0 rfl ?_
  refine q_iload_n ok dX10_opens_74 1 rfl ?_
  refine q_iload_n ok dX10_opens_75 2 rfl ?_
  refine q_aload_n ok dX10_opens_76 0 rfl ?_
  refine q_getC ok fl_X10_64 kM_0 fM_0_24 dX10_opens_77 ?_
  refine q_aload_n ok dX10_opens_80 0 rfl ?_
  refine q_getC ok fl_X10_83 kM_0 fM_0_38 dX10_opens_81 ?_
  refine q_aload_n ok dX10_opens_84 0 rfl ?_
  refine q_getI ok fl_X10_178 kM_0 fM_0_39 dX10_opens_85 ?_
  refine q_iconst ok dX10_opens_88 ?_
  refine q_isub ok dX10_opens_89 ?_
  obtain ⟨g1, g2, h⟩ := h
  refine q_iald ok kM_ok kM_25 g1 g2 dX10_opens_90 ?_
  obtain ⟨g3, g4, h⟩ := h
  refine q_iald ok kM_ok kM_19 g3 g4 dX10_opens_91 ?_
  refine q_callVV (st := []) ok cs_X10_198 kM_0 rfl (c_X10_newBlock X.2.1 Y ok.2.2.2.2.2.2.2.2 h) ⟨rfl, rfl, Nat.le_of_ble_eq_true rfl, Nat.le_of_ble_eq_true rfl⟩ rfl rfl (Nat.le_of_ble_eq_true rfl) dX10_opens_92 (fun σ1 h => ?_)
  exact q_vret ok dX10_opens_95 h
set_option maxRecDepth 100000 in
set_option maxHeartbeats 4000000 in
theorem w_X10_opens_J24 {X : Cx} {Y : Cy} {Q : St → Prop} (ok : Ok X Y KM cX10_opens 5 RX10 (rm0q 1 23) none) (σ : St) (v1 : Int) (v2 : Int) (v3 : Int) (v4 : Int) (s1 : Int) (h : f_X10_opens_J24 Q σ v1 v2 v3 v4 s1) : Wq X Y KM 5 (QF X Y (Qvq Y KM Q)) σ 24 [(0, .inr (.inr 0)), (1, .inl v1), (2, .inl v2), (3, .inl v3), (4, .inl v4)] [.inl s1, .inr (.inr 0)] := by
  unfold f_X10_opens_J24 at h
  refine q_callVV (st := []) ok cs_X10_164 kM_0 rfl (c_X10_requires X.2.1 Y ok.2.2.2.2.2.2.2.2 h) ⟨rfl, rfl, Nat.le_of_ble_eq_true rfl, Nat.le_of_ble_eq_true rfl⟩ rfl rfl (Nat.le_of_ble_eq_true rfl) dX10_opens_24 (fun σ1 h => ?_)
  refine q_aload_n ok dX10_opens_27 0 rfl ?_
  refine q_getI ok fl_X10_157 kM_0 fM_0_37 dX10_opens_28 ?_
  obtain ⟨g1, hT2a, hT2b⟩ := h
  refine q_if_ne (tgt := 35) ok dX10_opens_31 (by decide) g1 (fun c2 => ?_) (fun c2 => ?_)
  · have h := hT2a c2
    refine q_aload_n ok dX10_opens_35 0 rfl ?_
    refine q_dup ok dX10_opens_36 rfl ?_
    refine q_getI ok fl_X10_151 kM_0 fM_0_36 dX10_opens_37 ?_
    refine q_iconst ok dX10_opens_40 ?_
    refine q_iadd ok dX10_opens_41 ?_
    refine q_putI ok fp_X10_151 kM_0 fM_0_36 dX10_opens_42 (wq_s (fun σ2 eσ2 => ?_))
    have h := h σ2 eσ2
    refine q_iload ok dX10_opens_45 4 rfl ?_
    obtain ⟨g2, hT1a, hT1b⟩ := h
    refine q_if_eq (tgt := 63) ok dX10_opens_47 (by decide) g2 (fun c1 => ?_) (fun c1 => ?_)
    · have h := hT1a c1
      refine q_aload_n ok dX10_opens_63 0 rfl ?_
      refine q_getC ok fl_X10_31 kM_0 fM_0_11 dX10_opens_64 ?_
      refine q_iload_n ok dX10_opens_67 3 rfl ?_
      refine q_aload_n ok dX10_opens_68 0 rfl ?_
      refine q_getI ok fl_X10_175 kM_0 fM_0_25 dX10_opens_69 ?_
      obtain ⟨g3, g4, h⟩ := h
      refine q_iast ok kM_ok kM_8 g3 g4 dX10_opens_72 (wq_s (fun σ3 eσ3 => ?_))
      have h := h σ3 eσ3
      refine q_sub [0, 1, 2] rfl ?_
      exact w_X10_opens_J73 ok σ3 v1 v2 h
    · have h := hT1b c1
      refine q_aload_n ok dX10_opens_50 0 rfl ?_
      refine q_getC ok fl_X10_34 kM_0 fM_0_12 dX10_opens_51 ?_
      refine q_iload_n ok dX10_opens_54 3 rfl ?_
      refine q_aload_n ok dX10_opens_55 0 rfl ?_
      refine q_getI ok fl_X10_175 kM_0 fM_0_25 dX10_opens_56 ?_
      obtain ⟨g5, g6, h⟩ := h
      refine q_iast ok kM_ok kM_9 g5 g6 dX10_opens_59 (wq_s (fun σ4 eσ4 => ?_))
      have h := h σ4 eσ4
      refine q_goto (tgt := 73) ok dX10_opens_60 (by decide) ?_
      refine q_sub [0, 1, 2] rfl ?_
      exact w_X10_opens_J73 ok σ4 v1 v2 h
  · have h := hT2b c2
    exact q_vret ok dX10_opens_34 h
set_option maxRecDepth 100000 in
set_option maxHeartbeats 4000000 in
theorem w_X10_opens_J23 {X : Cx} {Y : Cy} {Q : St → Prop} (ok : Ok X Y KM cX10_opens 5 RX10 (rm0q 1 23) none) (σ : St) (v1 : Int) (v2 : Int) (v3 : Int) (v4 : Int) (h : f_X10_opens_J23 Q σ v1 v2 v3 v4) : Wq X Y KM 5 (QF X Y (Qvq Y KM Q)) σ 23 [(0, .inr (.inr 0)), (1, .inl v1), (2, .inl v2), (3, .inl v3), (4, .inl v4)] [.inr (.inr 0)] := by
  unfold f_X10_opens_J23 at h
  refine q_iconst ok dX10_opens_23 ?_
  exact w_X10_opens_J24 ok σ v1 v2 v3 v4 0 h
set_option maxRecDepth 100000 in
set_option maxHeartbeats 4000000 in
theorem c_X10_opens (l : Launch) (Y : Cy) (hD : ∀ σ, va_D Y.2.2.2 (wsOf KM Y.2.1 Y.2.2.1 σ)) {a0 : Int} {a1 : Int} {a2 : Int} {a3 : Int} {σ : St} {Q : St → Prop} (h : f_X10_opens a0 a1 a2 a3 σ Q) : ConV l yX10_opens cX10_opens 5 (rm0q 1 23) Y KM σ [.inr (.inr 0), .inl a0, .inl a1, .inl a2, .inl a3] Q := con_of (lv := [(0, .inr (.inr 0)), (1, .inl a0), (2, .inl a1), (3, .inl a2), (4, .inl a3)]) (by decide) hD (Nat.le_of_ble_eq_true rfl) rfl (fun X _ ok => by
  have ok : Ok X Y KM cX10_opens 5 RX10 (rm0q 1 23) none := ok
  unfold f_X10_opens at h
  refine q_aload_n ok dX10_opens_0 0 rfl ?_
  refine q_aload_n ok dX10_opens_1 0 rfl ?_
  refine q_callVI (st := [.inr (.inr 0)]) ok cs_X10_160 kM_0 rfl (c_X10_here X.2.1 Y ok.2.2.2.2.2.2.2.2 h) ⟨rfl, rfl, Nat.le_of_ble_eq_true rfl, Nat.le_of_ble_eq_true rfl⟩ rfl rfl (Nat.le_of_ble_eq_true rfl) dX10_opens_2 (fun σ1 r1 h => ?_)
  refine q_bipush ok dX10_opens_5 rfl ?_
  obtain ⟨g1, hT2a, hT2b⟩ := h
  refine q_icmp_ne (tgt := 23) ok dX10_opens_7 (by decide) g1 (by unfold inR; decide) (fun c2 => ?_) (fun c2 => ?_)
  · have h := hT2a c2
    exact w_X10_opens_J23 ok σ1 a0 a1 a2 a3 h
  · have h := hT2b c2
    refine q_aload_n ok dX10_opens_10 0 rfl ?_
    refine q_getI ok fl_X10_178 kM_0 fM_0_39 dX10_opens_11 ?_
    refine q_bipush ok dX10_opens_14 rfl ?_
    obtain ⟨g2, hT1a, hT1b⟩ := h
    refine q_icmp_ge (tgt := 23) ok dX10_opens_16 (by decide) g2 (by unfold inR; decide) (fun c1 => ?_) (fun c1 => ?_)
    · have h := hT1a c1
      exact w_X10_opens_J23 ok σ1 a0 a1 a2 a3 h
    · have h := hT1b c1
      refine q_iconst ok dX10_opens_19 ?_
      refine q_goto (tgt := 24) ok dX10_opens_20 (by decide) ?_
      exact w_X10_opens_J24 ok σ1 a0 a1 a2 a3 1 h)
/-! BranchingStoryModel.readsTest()V -/
def f_X10_readsTest_J15 (Q : St → Prop) (σ : St) (s1 : Int) : Prop :=
  f_X10_requires s1 σ (fun σ1 => inR (σ1 0 37) ∧ ((¬ (σ1 0 37) = 0 → ∀ σ2 : St, σ2 = sset σ1 0 36 ((σ1 0 36) + 1) → f_X10_statement 3 (σ2 0 33) 0 σ2 (fun σ3 r1 => ∀ σ4 : St, σ4 = sset σ3 0 33 ((σ3 0 33) + 1) → f_X10_readsCondition r1 σ4 (fun σ5 => f_X10_opens 2 r1 r1 0 σ5 (fun σ6 => Q σ6)))) ∧ ((σ1 0 37) = 0 → Q σ1)))
def f_X10_readsTest (σ : St) (Q : St → Prop) : Prop :=
  inR (σ 0 33) ∧ ((16 ≤ (σ 0 33) → f_X10_readsTest_J15 Q σ 0) ∧ (¬ 16 ≤ (σ 0 33) → f_X10_readsTest_J15 Q σ 1))
set_option maxRecDepth 100000 in
set_option maxHeartbeats 4000000 in
theorem w_X10_readsTest_J15 {X : Cx} {Y : Cy} {Q : St → Prop} (ok : Ok X Y KM cX10_readsTest 2 RX10 (rm0q 4 90) none) (σ : St) (s1 : Int) (h : f_X10_readsTest_J15 Q σ s1) : Wq X Y KM 2 (QF X Y (Qvq Y KM Q)) σ 15 [(0, .inr (.inr 0))] [.inl s1, .inr (.inr 0)] := by
  unfold f_X10_readsTest_J15 at h
  refine q_callVV (st := []) ok cs_X10_164 kM_0 rfl (c_X10_requires X.2.1 Y ok.2.2.2.2.2.2.2.2 h) ⟨rfl, rfl, Nat.le_of_ble_eq_true rfl, Nat.le_of_ble_eq_true rfl⟩ rfl rfl (Nat.le_of_ble_eq_true rfl) dX10_readsTest_15 (fun σ1 h => ?_)
  refine q_aload_n ok dX10_readsTest_18 0 rfl ?_
  refine q_getI ok fl_X10_157 kM_0 fM_0_37 dX10_readsTest_19 ?_
  obtain ⟨g1, hT1a, hT1b⟩ := h
  refine q_if_ne (tgt := 26) ok dX10_readsTest_22 (by decide) g1 (fun c1 => ?_) (fun c1 => ?_)
  · have h := hT1a c1
    refine q_aload_n ok dX10_readsTest_26 0 rfl ?_
    refine q_dup ok dX10_readsTest_27 rfl ?_
    refine q_getI ok fl_X10_151 kM_0 fM_0_36 dX10_readsTest_28 ?_
    refine q_iconst ok dX10_readsTest_31 ?_
    refine q_iadd ok dX10_readsTest_32 ?_
    refine q_putI ok fp_X10_151 kM_0 fM_0_36 dX10_readsTest_33 (wq_s (fun σ2 eσ2 => ?_))
    have h := h σ2 eσ2
    refine q_aload_n ok dX10_readsTest_36 0 rfl ?_
    refine q_iconst ok dX10_readsTest_37 ?_
    refine q_aload_n ok dX10_readsTest_38 0 rfl ?_
    refine q_getI ok fl_X10_208 kM_0 fM_0_33 dX10_readsTest_39 ?_
    refine q_iconst ok dX10_readsTest_42 ?_
    refine q_callVI (st := []) ok cs_X10_211 kM_0 rfl (c_X10_statement X.2.1 Y ok.2.2.2.2.2.2.2.2 h) ⟨rfl, rfl, Nat.le_of_ble_eq_true rfl, Nat.le_of_ble_eq_true rfl⟩ rfl rfl (Nat.le_of_ble_eq_true rfl) dX10_readsTest_43 (fun σ3 r1 h => ?_)
    refine q_istore_n (lv' := [(1, .inl r1), (0, .inr (.inr 0))]) ok dX10_readsTest_46 (by decide) rfl ?_
    refine q_aload_n ok dX10_readsTest_47 1 rfl ?_
    refine q_dup ok dX10_readsTest_48 rfl ?_
    refine q_getI ok fl_X10_208 kM_0 fM_0_33 dX10_readsTest_49 ?_
    refine q_iconst ok dX10_readsTest_52 ?_
    refine q_iadd ok dX10_readsTest_53 ?_
    refine q_putI ok fp_X10_208 kM_0 fM_0_33 dX10_readsTest_54 (wq_s (fun σ4 eσ4 => ?_))
    have h := h σ4 eσ4
    refine q_aload_n ok dX10_readsTest_57 1 rfl ?_
    refine q_iload_n ok dX10_readsTest_58 0 rfl ?_
    refine q_callVV (st := []) ok cs_X10_215 kM_0 rfl (c_X10_readsCondition X.2.1 Y ok.2.2.2.2.2.2.2.2 h) ⟨rfl, rfl, Nat.le_of_ble_eq_true rfl, Nat.le_of_ble_eq_true rfl⟩ rfl rfl (Nat.le_of_ble_eq_true rfl) dX10_readsTest_59 (fun σ5 h => ?_)
    refine q_aload_n ok dX10_readsTest_62 1 rfl ?_
    refine q_iconst ok dX10_readsTest_63 ?_
    refine q_iload_n ok dX10_readsTest_64 0 rfl ?_
    refine q_iload_n ok dX10_readsTest_65 0 rfl ?_
    refine q_iconst ok dX10_readsTest_66 ?_
    refine q_callVV (st := []) ok cs_X10_218 kM_0 rfl (c_X10_opens X.2.1 Y ok.2.2.2.2.2.2.2.2 h) ⟨rfl, rfl, Nat.le_of_ble_eq_true rfl, Nat.le_of_ble_eq_true rfl⟩ rfl rfl (Nat.le_of_ble_eq_true rfl) dX10_readsTest_67 (fun σ6 h => ?_)
    exact q_vret ok dX10_readsTest_70 h
  · have h := hT1b c1
    exact q_vret ok dX10_readsTest_25 h
set_option maxRecDepth 100000 in
set_option maxHeartbeats 4000000 in
theorem c_X10_readsTest (l : Launch) (Y : Cy) (hD : ∀ σ, va_D Y.2.2.2 (wsOf KM Y.2.1 Y.2.2.1 σ)) {σ : St} {Q : St → Prop} (h : f_X10_readsTest  σ Q) : ConV l yX10_readsTest cX10_readsTest 2 (rm0q 4 90) Y KM σ [.inr (.inr 0)] Q := con_of (lv := [(0, .inr (.inr 0))]) (by decide) hD (Nat.le_of_ble_eq_true rfl) rfl (fun X _ ok => by
  have ok : Ok X Y KM cX10_readsTest 2 RX10 (rm0q 4 90) none := ok
  unfold f_X10_readsTest at h
  refine q_aload_n ok dX10_readsTest_0 0 rfl ?_
  refine q_aload_n ok dX10_readsTest_1 0 rfl ?_
  refine q_getI ok fl_X10_208 kM_0 fM_0_33 dX10_readsTest_2 ?_
  refine q_bipush ok dX10_readsTest_5 rfl ?_
  obtain ⟨g1, hT1a, hT1b⟩ := h
  refine q_icmp_ge (tgt := 14) ok dX10_readsTest_7 (by decide) g1 (by unfold inR; decide) (fun c1 => ?_) (fun c1 => ?_)
  · have h := hT1a c1
    refine q_iconst ok dX10_readsTest_14 ?_
    exact w_X10_readsTest_J15 ok σ 0 h
  · have h := hT1b c1
    refine q_iconst ok dX10_readsTest_10 ?_
    refine q_goto (tgt := 15) ok dX10_readsTest_11 (by decide) ?_
    exact w_X10_readsTest_J15 ok σ 1 h)
/-! BranchingStoryModel.readsChoice()V -/
def f_X10_readsChoice_J108 (Q : St → Prop) (σ : St) (v1 : Int) : Prop :=
  f_X10_reads 93 σ (fun σ1 => 0 ≤ v1 ∧ v1 < 401 ∧ f_X10_opens 1 (σ1 4 v1.toNat) v1 0 σ1 (fun σ2 => Q σ2))
def f_X10_readsChoice_J15 (Q : St → Prop) (σ : St) (s1 : Int) : Prop :=
  f_X10_requires s1 σ (fun σ1 => inR (σ1 0 37) ∧ ((¬ (σ1 0 37) = 0 → ∀ σ2 : St, σ2 = sset σ1 0 36 ((σ1 0 36) + 1) → f_X10_statement 4 (σ2 0 32) 0 σ2 (fun σ3 r1 => 0 ≤ (σ3 0 32) ∧ (σ3 0 32) < 16 ∧ ∀ σ4 : St, σ4 = sset σ3 24 (σ3 0 32).toNat r1 → ∀ σ5 : St, σ5 = sset σ4 0 32 ((σ4 0 32) + 1) → f_X10_readsNumber σ5 (fun σ6 r2 => 0 ≤ r1 ∧ r1 < 401 ∧ ∀ σ7 : St, σ7 = sset σ6 5 r1.toNat r2 → inR (σ7 0 37) ∧ (((σ7 0 37) = 0 → f_X10_readsChoice_J108 Q σ7 r1) ∧ (¬ (σ7 0 37) = 0 → f_X10_here σ7 (fun σ8 r3 => inR r3 ∧ ((¬ r3 = 63 → f_X10_readsChoice_J108 Q σ8 r1) ∧ (r3 = 63 → ∀ σ9 : St, σ9 = sset σ8 0 36 ((σ8 0 36) + 1) → f_X10_readsCondition r1 σ9 (fun σ10 => f_X10_readsChoice_J108 Q σ10 r1))))))))) ∧ ((σ1 0 37) = 0 → Q σ1)))
def f_X10_readsChoice (σ : St) (Q : St → Prop) : Prop :=
  inR (σ 0 32) ∧ ((16 ≤ (σ 0 32) → f_X10_readsChoice_J15 Q σ 0) ∧ (¬ 16 ≤ (σ 0 32) → f_X10_readsChoice_J15 Q σ 1))
set_option maxRecDepth 100000 in
set_option maxHeartbeats 4000000 in
theorem w_X10_readsChoice_J108 {X : Cx} {Y : Cy} {Q : St → Prop} (ok : Ok X Y KM cX10_readsChoice 2 RX10 (rm0q 4 90) none) (σ : St) (v1 : Int) (h : f_X10_readsChoice_J108 Q σ v1) : Wq X Y KM 2 (QF X Y (Qvq Y KM Q)) σ 108 [(0, .inr (.inr 0)), (1, .inl v1)] [] := by
  unfold f_X10_readsChoice_J108 at h
  refine q_aload_n ok dX10_readsChoice_108 0 rfl ?_
  refine q_bipush ok dX10_readsChoice_109 rfl ?_
  refine q_callVV (st := []) ok cs_X10_187 kM_0 rfl (c_X10_reads X.2.1 Y ok.2.2.2.2.2.2.2.2 h) ⟨rfl, rfl, Nat.le_of_ble_eq_true rfl, Nat.le_of_ble_eq_true rfl⟩ rfl rfl (Nat.le_of_ble_eq_true rfl) dX10_readsChoice_111 (fun σ1 h => ?_)
  refine q_aload_n ok dX10_readsChoice_114 0 rfl ?_
  refine q_iconst ok dX10_readsChoice_115 ?_
  refine q_aload_n ok dX10_readsChoice_116 0 rfl ?_
  refine q_getC ok fl_X10_19 kM_0 fM_0_7 dX10_readsChoice_117 ?_
  refine q_iload_n ok dX10_readsChoice_120 1 rfl ?_
  obtain ⟨g1, g2, h⟩ := h
  refine q_iald ok kM_ok kM_4 g1 g2 dX10_readsChoice_121 ?_
  refine q_iload_n ok dX10_readsChoice_122 1 rfl ?_
  refine q_iconst ok dX10_readsChoice_123 ?_
  refine q_callVV (st := []) ok cs_X10_218 kM_0 rfl (c_X10_opens X.2.1 Y ok.2.2.2.2.2.2.2.2 h) ⟨rfl, rfl, Nat.le_of_ble_eq_true rfl, Nat.le_of_ble_eq_true rfl⟩ rfl rfl (Nat.le_of_ble_eq_true rfl) dX10_readsChoice_124 (fun σ2 h => ?_)
  exact q_vret ok dX10_readsChoice_127 h
set_option maxRecDepth 100000 in
set_option maxHeartbeats 4000000 in
theorem w_X10_readsChoice_J15 {X : Cx} {Y : Cy} {Q : St → Prop} (ok : Ok X Y KM cX10_readsChoice 2 RX10 (rm0q 4 90) none) (σ : St) (s1 : Int) (h : f_X10_readsChoice_J15 Q σ s1) : Wq X Y KM 2 (QF X Y (Qvq Y KM Q)) σ 15 [(0, .inr (.inr 0))] [.inl s1, .inr (.inr 0)] := by
  unfold f_X10_readsChoice_J15 at h
  refine q_callVV (st := []) ok cs_X10_164 kM_0 rfl (c_X10_requires X.2.1 Y ok.2.2.2.2.2.2.2.2 h) ⟨rfl, rfl, Nat.le_of_ble_eq_true rfl, Nat.le_of_ble_eq_true rfl⟩ rfl rfl (Nat.le_of_ble_eq_true rfl) dX10_readsChoice_15 (fun σ1 h => ?_)
  refine q_aload_n ok dX10_readsChoice_18 0 rfl ?_
  refine q_getI ok fl_X10_157 kM_0 fM_0_37 dX10_readsChoice_19 ?_
  obtain ⟨g1, hT3a, hT3b⟩ := h
  refine q_if_ne (tgt := 26) ok dX10_readsChoice_22 (by decide) g1 (fun c3 => ?_) (fun c3 => ?_)
  · have h := hT3a c3
    refine q_aload_n ok dX10_readsChoice_26 0 rfl ?_
    refine q_dup ok dX10_readsChoice_27 rfl ?_
    refine q_getI ok fl_X10_151 kM_0 fM_0_36 dX10_readsChoice_28 ?_
    refine q_iconst ok dX10_readsChoice_31 ?_
    refine q_iadd ok dX10_readsChoice_32 ?_
    refine q_putI ok fp_X10_151 kM_0 fM_0_36 dX10_readsChoice_33 (wq_s (fun σ2 eσ2 => ?_))
    have h := h σ2 eσ2
    refine q_aload_n ok dX10_readsChoice_36 0 rfl ?_
    refine q_iconst ok dX10_readsChoice_37 ?_
    refine q_aload_n ok dX10_readsChoice_38 0 rfl ?_
    refine q_getI ok fl_X10_222 kM_0 fM_0_32 dX10_readsChoice_39 ?_
    refine q_iconst ok dX10_readsChoice_42 ?_
    refine q_callVI (st := []) ok cs_X10_211 kM_0 rfl (c_X10_statement X.2.1 Y ok.2.2.2.2.2.2.2.2 h) ⟨rfl, rfl, Nat.le_of_ble_eq_true rfl, Nat.le_of_ble_eq_true rfl⟩ rfl rfl (Nat.le_of_ble_eq_true rfl) dX10_readsChoice_43 (fun σ3 r1 h => ?_)
    refine q_istore_n (lv' := [(1, .inl r1), (0, .inr (.inr 0))]) ok dX10_readsChoice_46 (by decide) rfl ?_
    refine q_aload_n ok dX10_readsChoice_47 1 rfl ?_
    refine q_getC ok fl_X10_80 kM_0 fM_0_31 dX10_readsChoice_48 ?_
    refine q_aload_n ok dX10_readsChoice_51 1 rfl ?_
    refine q_getI ok fl_X10_222 kM_0 fM_0_32 dX10_readsChoice_52 ?_
    refine q_iload_n ok dX10_readsChoice_55 0 rfl ?_
    obtain ⟨g2, g3, h⟩ := h
    refine q_iast ok kM_ok kM_24 g2 g3 dX10_readsChoice_56 (wq_s (fun σ4 eσ4 => ?_))
    have h := h σ4 eσ4
    refine q_aload_n ok dX10_readsChoice_57 1 rfl ?_
    refine q_dup ok dX10_readsChoice_58 rfl ?_
    refine q_getI ok fl_X10_222 kM_0 fM_0_32 dX10_readsChoice_59 ?_
    refine q_iconst ok dX10_readsChoice_62 ?_
    refine q_iadd ok dX10_readsChoice_63 ?_
    refine q_putI ok fp_X10_222 kM_0 fM_0_32 dX10_readsChoice_64 (wq_s (fun σ5 eσ5 => ?_))
    have h := h σ5 eσ5
    refine q_aload_n ok dX10_readsChoice_67 1 rfl ?_
    refine q_getC ok fl_X10_22 kM_0 fM_0_8 dX10_readsChoice_68 ?_
    refine q_iload_n ok dX10_readsChoice_71 0 rfl ?_
    refine q_aload_n ok dX10_readsChoice_72 1 rfl ?_
    refine q_callVI (st := [.inl r1, .inr (.inr 5)]) ok cs_X10_225 kM_0 rfl (c_X10_readsNumber X.2.1 Y ok.2.2.2.2.2.2.2.2 h) ⟨rfl, rfl, Nat.le_of_ble_eq_true rfl, Nat.le_of_ble_eq_true rfl⟩ rfl rfl (Nat.le_of_ble_eq_true rfl) dX10_readsChoice_73 (fun σ6 r2 h => ?_)
    obtain ⟨g4, g5, h⟩ := h
    refine q_iast ok kM_ok kM_5 g4 g5 dX10_readsChoice_76 (wq_s (fun σ7 eσ7 => ?_))
    have h := h σ7 eσ7
    refine q_aload_n ok dX10_readsChoice_77 1 rfl ?_
    refine q_getI ok fl_X10_157 kM_0 fM_0_37 dX10_readsChoice_78 ?_
    obtain ⟨g6, hT2a, hT2b⟩ := h
    refine q_if_eq (tgt := 108) ok dX10_readsChoice_81 (by decide) g6 (fun c2 => ?_) (fun c2 => ?_)
    · have h := hT2a c2
      refine q_sub [1, 0] rfl ?_
      exact w_X10_readsChoice_J108 ok σ7 r1 h
    · have h := hT2b c2
      refine q_aload_n ok dX10_readsChoice_84 1 rfl ?_
      refine q_callVI (st := []) ok cs_X10_160 kM_0 rfl (c_X10_here X.2.1 Y ok.2.2.2.2.2.2.2.2 h) ⟨rfl, rfl, Nat.le_of_ble_eq_true rfl, Nat.le_of_ble_eq_true rfl⟩ rfl rfl (Nat.le_of_ble_eq_true rfl) dX10_readsChoice_85 (fun σ8 r3 h => ?_)
      refine q_bipush ok dX10_readsChoice_88 rfl ?_
      obtain ⟨g7, hT1a, hT1b⟩ := h
      refine q_icmp_ne (tgt := 108) ok dX10_readsChoice_90 (by decide) g7 (by unfold inR; decide) (fun c1 => ?_) (fun c1 => ?_)
      · have h := hT1a c1
        refine q_sub [1, 0] rfl ?_
        exact w_X10_readsChoice_J108 ok σ8 r1 h
      · have h := hT1b c1
        refine q_aload_n ok dX10_readsChoice_93 1 rfl ?_
        refine q_dup ok dX10_readsChoice_94 rfl ?_
        refine q_getI ok fl_X10_151 kM_0 fM_0_36 dX10_readsChoice_95 ?_
        refine q_iconst ok dX10_readsChoice_98 ?_
        refine q_iadd ok dX10_readsChoice_99 ?_
        refine q_putI ok fp_X10_151 kM_0 fM_0_36 dX10_readsChoice_100 (wq_s (fun σ9 eσ9 => ?_))
        have h := h σ9 eσ9
        refine q_aload_n ok dX10_readsChoice_103 1 rfl ?_
        refine q_iload_n ok dX10_readsChoice_104 0 rfl ?_
        refine q_callVV (st := []) ok cs_X10_215 kM_0 rfl (c_X10_readsCondition X.2.1 Y ok.2.2.2.2.2.2.2.2 h) ⟨rfl, rfl, Nat.le_of_ble_eq_true rfl, Nat.le_of_ble_eq_true rfl⟩ rfl rfl (Nat.le_of_ble_eq_true rfl) dX10_readsChoice_105 (fun σ10 h => ?_)
        refine q_sub [1, 0] rfl ?_
        exact w_X10_readsChoice_J108 ok σ10 r1 h
  · have h := hT3b c3
    exact q_vret ok dX10_readsChoice_25 h
set_option maxRecDepth 100000 in
set_option maxHeartbeats 4000000 in
theorem c_X10_readsChoice (l : Launch) (Y : Cy) (hD : ∀ σ, va_D Y.2.2.2 (wsOf KM Y.2.1 Y.2.2.1 σ)) {σ : St} {Q : St → Prop} (h : f_X10_readsChoice  σ Q) : ConV l yX10_readsChoice cX10_readsChoice 2 (rm0q 4 90) Y KM σ [.inr (.inr 0)] Q := con_of (lv := [(0, .inr (.inr 0))]) (by decide) hD (Nat.le_of_ble_eq_true rfl) rfl (fun X _ ok => by
  have ok : Ok X Y KM cX10_readsChoice 2 RX10 (rm0q 4 90) none := ok
  unfold f_X10_readsChoice at h
  refine q_aload_n ok dX10_readsChoice_0 0 rfl ?_
  refine q_aload_n ok dX10_readsChoice_1 0 rfl ?_
  refine q_getI ok fl_X10_222 kM_0 fM_0_32 dX10_readsChoice_2 ?_
  refine q_bipush ok dX10_readsChoice_5 rfl ?_
  obtain ⟨g1, hT1a, hT1b⟩ := h
  refine q_icmp_ge (tgt := 14) ok dX10_readsChoice_7 (by decide) g1 (by unfold inR; decide) (fun c1 => ?_) (fun c1 => ?_)
  · have h := hT1a c1
    refine q_iconst ok dX10_readsChoice_14 ?_
    exact w_X10_readsChoice_J15 ok σ 0 h
  · have h := hT1b c1
    refine q_iconst ok dX10_readsChoice_10 ?_
    refine q_goto (tgt := 15) ok dX10_readsChoice_11 (by decide) ?_
    exact w_X10_readsChoice_J15 ok σ 1 h)
/-! BranchingStoryModel.closes()V -/
def f_X10_closes_J14 (Q : St → Prop) (σ : St) (s1 : Int) : Prop :=
  f_X10_requires s1 σ (fun σ1 => inR (σ1 0 37) ∧ ((¬ (σ1 0 37) = 0 → ∀ σ2 : St, σ2 = sset σ1 0 36 ((σ1 0 36) + 1) → 0 ≤ ((σ2 0 39) - 1) ∧ ((σ2 0 39) - 1) < 8 ∧ ∀ x1 : Int, x1 = (σ2 25 ((σ2 0 39) - 1).toNat) → ∀ σ3 : St, σ3 = sset σ2 0 39 ((σ2 0 39) - 1) → 0 ≤ x1 ∧ x1 < 64 ∧ inR (σ3 15 x1.toNat) ∧ ((¬ (σ3 15 x1.toNat) = 2 → Q σ3) ∧ ((σ3 15 x1.toNat) = 2 → 0 ≤ x1 ∧ x1 < 64 ∧ 0 ≤ (σ3 16 x1.toNat) ∧ (σ3 16 x1.toNat) < 401 ∧ inR (σ3 8 (σ3 16 x1.toNat).toNat) ∧ inR x1 ∧ ((¬ (σ3 8 (σ3 16 x1.toNat).toNat) = x1 → Q σ3) ∧ ((σ3 8 (σ3 16 x1.toNat).toNat) = x1 → f_X10_here σ3 (fun σ4 r1 => inR r1 ∧ ((¬ r1 = 123 → Q σ4) ∧ (r1 = 123 → 0 ≤ x1 ∧ x1 < 64 ∧ 0 ≤ x1 ∧ x1 < 64 ∧ f_X10_opens 2 (σ4 16 x1.toNat) (σ4 16 x1.toNat) 1 σ4 (fun σ5 => Q σ5))))))))) ∧ ((σ1 0 37) = 0 → Q σ1)))
def f_X10_closes (σ : St) (Q : St → Prop) : Prop :=
  inR (σ 0 39) ∧ (((σ 0 39) ≤ 1 → f_X10_closes_J14 Q σ 0) ∧ (¬ (σ 0 39) ≤ 1 → f_X10_closes_J14 Q σ 1))
set_option maxRecDepth 100000 in
set_option maxHeartbeats 4000000 in
theorem w_X10_closes_J14 {X : Cx} {Y : Cy} {Q : St → Prop} (ok : Ok X Y KM cX10_closes 2 RX10 (rm0q 2 47) none) (σ : St) (s1 : Int) (h : f_X10_closes_J14 Q σ s1) : Wq X Y KM 2 (QF X Y (Qvq Y KM Q)) σ 14 [(0, .inr (.inr 0))] [.inl s1, .inr (.inr 0)] := by
  unfold f_X10_closes_J14 at h
  refine q_callVV (st := []) ok cs_X10_164 kM_0 rfl (c_X10_requires X.2.1 Y ok.2.2.2.2.2.2.2.2 h) ⟨rfl, rfl, Nat.le_of_ble_eq_true rfl, Nat.le_of_ble_eq_true rfl⟩ rfl rfl (Nat.le_of_ble_eq_true rfl) dX10_closes_14 (fun σ1 h => ?_)
  refine q_aload_n ok dX10_closes_17 0 rfl ?_
  refine q_getI ok fl_X10_157 kM_0 fM_0_37 dX10_closes_18 ?_
  obtain ⟨g1, hT4a, hT4b⟩ := h
  refine q_if_ne (tgt := 25) ok dX10_closes_21 (by decide) g1 (fun c4 => ?_) (fun c4 => ?_)
  · have h := hT4a c4
    refine q_aload_n ok dX10_closes_25 0 rfl ?_
    refine q_dup ok dX10_closes_26 rfl ?_
    refine q_getI ok fl_X10_151 kM_0 fM_0_36 dX10_closes_27 ?_
    refine q_iconst ok dX10_closes_30 ?_
    refine q_iadd ok dX10_closes_31 ?_
    refine q_putI ok fp_X10_151 kM_0 fM_0_36 dX10_closes_32 (wq_s (fun σ2 eσ2 => ?_))
    have h := h σ2 eσ2
    refine q_aload_n ok dX10_closes_35 0 rfl ?_
    refine q_getC ok fl_X10_83 kM_0 fM_0_38 dX10_closes_36 ?_
    refine q_aload_n ok dX10_closes_39 0 rfl ?_
    refine q_getI ok fl_X10_178 kM_0 fM_0_39 dX10_closes_40 ?_
    refine q_iconst ok dX10_closes_43 ?_
    refine q_isub ok dX10_closes_44 ?_
    obtain ⟨g2, g3, h⟩ := h
    refine q_iald ok kM_ok kM_25 g2 g3 dX10_closes_45 ?_
    refine wq_i (fun x1 ex1 => ?_)
    have h := h x1 ex1
    refine q_istore_n (lv' := [(1, .inl x1), (0, .inr (.inr 0))]) ok dX10_closes_46 (by decide) rfl ?_
    refine q_aload_n ok dX10_closes_47 1 rfl ?_
    refine q_dup ok dX10_closes_48 rfl ?_
    refine q_getI ok fl_X10_178 kM_0 fM_0_39 dX10_closes_49 ?_
    refine q_iconst ok dX10_closes_52 ?_
    refine q_isub ok dX10_closes_53 ?_
    refine q_putI ok fp_X10_178 kM_0 fM_0_39 dX10_closes_54 (wq_s (fun σ3 eσ3 => ?_))
    have h := h σ3 eσ3
    refine q_aload_n ok dX10_closes_57 1 rfl ?_
    refine q_getC ok fl_X10_52 kM_0 fM_0_20 dX10_closes_58 ?_
    refine q_iload_n ok dX10_closes_61 0 rfl ?_
    obtain ⟨g4, g5, h⟩ := h
    refine q_iald ok kM_ok kM_15 g4 g5 dX10_closes_62 ?_
    refine q_iconst ok dX10_closes_63 ?_
    obtain ⟨g6, hT3a, hT3b⟩ := h
    refine q_icmp_ne (tgt := 109) ok dX10_closes_64 (by decide) g6 (by unfold inR; decide) (fun c3 => ?_) (fun c3 => ?_)
    · have h := hT3a c3
      exact q_vret ok dX10_closes_109 h
    · have h := hT3b c3
      refine q_aload_n ok dX10_closes_67 1 rfl ?_
      refine q_getC ok fl_X10_31 kM_0 fM_0_11 dX10_closes_68 ?_
      refine q_aload_n ok dX10_closes_71 1 rfl ?_
      refine q_getC ok fl_X10_55 kM_0 fM_0_21 dX10_closes_72 ?_
      refine q_iload_n ok dX10_closes_75 0 rfl ?_
      obtain ⟨g7, g8, h⟩ := h
      refine q_iald ok kM_ok kM_16 g7 g8 dX10_closes_76 ?_
      obtain ⟨g9, g10, h⟩ := h
      refine q_iald ok kM_ok kM_8 g9 g10 dX10_closes_77 ?_
      refine q_iload_n ok dX10_closes_78 0 rfl ?_
      obtain ⟨g11, g12, hT2a, hT2b⟩ := h
      refine q_icmp_ne (tgt := 109) ok dX10_closes_79 (by decide) g11 g12 (fun c2 => ?_) (fun c2 => ?_)
      · have h := hT2a c2
        exact q_vret ok dX10_closes_109 h
      · have h := hT2b c2
        refine q_aload_n ok dX10_closes_82 1 rfl ?_
        refine q_callVI (st := []) ok cs_X10_160 kM_0 rfl (c_X10_here X.2.1 Y ok.2.2.2.2.2.2.2.2 h) ⟨rfl, rfl, Nat.le_of_ble_eq_true rfl, Nat.le_of_ble_eq_true rfl⟩ rfl rfl (Nat.le_of_ble_eq_true rfl) dX10_closes_83 (fun σ4 r1 h => ?_)
        refine q_bipush ok dX10_closes_86 rfl ?_
        obtain ⟨g13, hT1a, hT1b⟩ := h
        refine q_icmp_ne (tgt := 109) ok dX10_closes_88 (by decide) g13 (by unfold inR; decide) (fun c1 => ?_) (fun c1 => ?_)
        · have h := hT1a c1
          exact q_vret ok dX10_closes_109 h
        · have h := hT1b c1
          refine q_aload_n ok dX10_closes_91 1 rfl ?_
          refine q_iconst ok dX10_closes_92 ?_
          refine q_aload_n ok dX10_closes_93 1 rfl ?_
          refine q_getC ok fl_X10_55 kM_0 fM_0_21 dX10_closes_94 ?_
          refine q_iload_n ok dX10_closes_97 0 rfl ?_
          obtain ⟨g14, g15, h⟩ := h
          refine q_iald ok kM_ok kM_16 g14 g15 dX10_closes_98 ?_
          refine q_aload_n ok dX10_closes_99 1 rfl ?_
          refine q_getC ok fl_X10_55 kM_0 fM_0_21 dX10_closes_100 ?_
          refine q_iload_n ok dX10_closes_103 0 rfl ?_
          obtain ⟨g16, g17, h⟩ := h
          refine q_iald ok kM_ok kM_16 g16 g17 dX10_closes_104 ?_
          refine q_iconst ok dX10_closes_105 ?_
          refine q_callVV (st := []) ok cs_X10_218 kM_0 rfl (c_X10_opens X.2.1 Y ok.2.2.2.2.2.2.2.2 h) ⟨rfl, rfl, Nat.le_of_ble_eq_true rfl, Nat.le_of_ble_eq_true rfl⟩ rfl rfl (Nat.le_of_ble_eq_true rfl) dX10_closes_106 (fun σ5 h => ?_)
          exact q_vret ok dX10_closes_109 h
  · have h := hT4b c4
    exact q_vret ok dX10_closes_24 h
set_option maxRecDepth 100000 in
set_option maxHeartbeats 4000000 in
theorem c_X10_closes (l : Launch) (Y : Cy) (hD : ∀ σ, va_D Y.2.2.2 (wsOf KM Y.2.1 Y.2.2.1 σ)) {σ : St} {Q : St → Prop} (h : f_X10_closes  σ Q) : ConV l yX10_closes cX10_closes 2 (rm0q 2 47) Y KM σ [.inr (.inr 0)] Q := con_of (lv := [(0, .inr (.inr 0))]) (by decide) hD (Nat.le_of_ble_eq_true rfl) rfl (fun X _ ok => by
  have ok : Ok X Y KM cX10_closes 2 RX10 (rm0q 2 47) none := ok
  unfold f_X10_closes at h
  refine q_aload_n ok dX10_closes_0 0 rfl ?_
  refine q_aload_n ok dX10_closes_1 0 rfl ?_
  refine q_getI ok fl_X10_178 kM_0 fM_0_39 dX10_closes_2 ?_
  refine q_iconst ok dX10_closes_5 ?_
  obtain ⟨g1, hT1a, hT1b⟩ := h
  refine q_icmp_le (tgt := 13) ok dX10_closes_6 (by decide) g1 (by unfold inR; decide) (fun c1 => ?_) (fun c1 => ?_)
  · have h := hT1a c1
    refine q_iconst ok dX10_closes_13 ?_
    exact w_X10_closes_J14 ok σ 0 h
  · have h := hT1b c1
    refine q_iconst ok dX10_closes_9 ?_
    refine q_goto (tgt := 14) ok dX10_closes_10 (by decide) ?_
    exact w_X10_closes_J14 ok σ 1 h)
/-! BranchingStoryModel.readsStatement(I)V -/
def f_X10_readsStatement_J72 (Q : St → Prop) (σ : St) (s1 : Int) (s2 : Int) (s3 : Int) : Prop :=
  f_X10_statement s1 s2 s3 σ (fun σ1 r1 => Q σ1)
def f_X10_readsStatement_J39 (Q : St → Prop) (σ : St) (v1 : Int) : Prop :=
  ∀ σ1 : St, σ1 = sset σ 0 36 ((σ 0 36) + 1) → f_X10_readsOf 97 102 σ1 (fun σ2 r1 => inR v1 ∧ ((¬ v1 = 43 → f_X10_readsStatement_J72 Q σ2 1 r1 0) ∧ (v1 = 43 → f_X10_readsStatement_J72 Q σ2 1 r1 1)))
def f_X10_readsStatement_J149 (Q : St → Prop) (σ : St) (v1 : Int) (v2 : Int) (s1 : Int) (s2 : Int) : Prop :=
  ∀ σ1 : St, σ1 = sset σ 0 36 (s1 + s2) → f_X10_readsOf 48 57 σ1 (fun σ2 r1 => f_X10_statement 2 (v1 - 120) r1 σ2 (fun σ3 r2 => 0 ≤ r2 ∧ r2 < 401 ∧ ∀ σ4 : St, σ4 = sset σ3 8 r2.toNat v2 → Q σ4))
def f_X10_readsStatement_J129 (Q : St → Prop) (σ : St) (v1 : Int) (v2 : Int) (s1 : Int) : Prop :=
  f_X10_requires s1 σ (fun σ1 => inR (σ1 0 37) ∧ (((σ1 0 37) = 0 → f_X10_readsStatement_J149 Q σ1 v1 v2 (σ1 0 36) 0) ∧ (¬ (σ1 0 37) = 0 → f_X10_readsStatement_J149 Q σ1 v1 v2 (σ1 0 36) 1)))
def f_X10_readsStatement_J124 (Q : St → Prop) (σ : St) (v1 : Int) (v2 : Int) : Prop :=
  f_X10_readsStatement_J129 Q σ v1 v2 1
def f_X10_readsStatement (a0 : Int) (σ : St) (Q : St → Prop) : Prop :=
  f_X10_in a0 48 57 σ (fun σ1 r1 => inR r1 ∧ ((r1 = 0 → inR a0 ∧ ((a0 = 43 → f_X10_readsStatement_J39 Q σ1 a0) ∧ (¬ a0 = 43 → inR a0 ∧ ((¬ a0 = 45 → f_X10_in a0 120 122 σ1 (fun σ2 r2 => inR r2 ∧ ((r2 = 0 → inR a0 ∧ ((¬ a0 = 63 → inR a0 ∧ ((¬ a0 = 91 → inR a0 ∧ ((¬ a0 = 62 → inR a0 ∧ ((¬ a0 = 60 → f_X10_reads 46 σ2 (fun σ3 => f_X10_readsOf 48 57 σ3 (fun σ4 r3 => f_X10_statement 7 r3 0 σ4 (fun σ5 r4 => Q σ5)))) ∧ (a0 = 60 → ∀ σ6 : St, σ6 = sset σ2 0 36 ((σ2 0 36) + 1) → f_X10_statement 6 0 0 σ6 (fun σ7 r5 => Q σ7)))) ∧ (a0 = 62 → ∀ σ8 : St, σ8 = sset σ2 0 36 ((σ2 0 36) + 1) → f_X10_readsOf 65 76 σ8 (fun σ9 r6 => f_X10_statement 5 r6 ((σ9 0 36) - 1) σ9 (fun σ10 r7 => Q σ10))))) ∧ (a0 = 91 → f_X10_readsChoice σ2 (fun σ11 => Q σ11)))) ∧ (a0 = 63 → f_X10_readsTest σ2 (fun σ12 => Q σ12)))) ∧ (¬ r2 = 0 → ∀ σ13 : St, σ13 = sset σ2 0 36 ((σ2 0 36) + 1) → f_X10_here σ13 (fun σ14 r8 => inR r8 ∧ ((r8 = 61 → f_X10_readsStatement_J124 Q σ14 a0 r8) ∧ (¬ r8 = 61 → inR r8 ∧ ((r8 = 43 → f_X10_readsStatement_J124 Q σ14 a0 r8) ∧ (¬ r8 = 43 → inR r8 ∧ ((¬ r8 = 45 → f_X10_readsStatement_J129 Q σ14 a0 r8 0) ∧ (r8 = 45 → f_X10_readsStatement_J124 Q σ14 a0 r8))))))))))) ∧ (a0 = 45 → f_X10_readsStatement_J39 Q σ1 a0))))) ∧ (¬ r1 = 0 → f_X10_readsNumber σ1 (fun σ15 r9 => f_X10_statement 0 r9 0 σ15 (fun σ16 r10 => Q σ16)))))
set_option maxRecDepth 100000 in
set_option maxHeartbeats 4000000 in
theorem w_X10_readsStatement_J72 {X : Cx} {Y : Cy} {Q : St → Prop} (ok : Ok X Y KM cX10_readsStatement 5 RX10 (rm0q 5 111) none) (σ : St) (s1 : Int) (s2 : Int) (s3 : Int) (h : f_X10_readsStatement_J72 Q σ s1 s2 s3) : Wq X Y KM 5 (QF X Y (Qvq Y KM Q)) σ 72 [] [.inl s3, .inl s2, .inl s1, .inr (.inr 0)] := by
  unfold f_X10_readsStatement_J72 at h
  refine q_callVI (st := []) ok cs_X10_211 kM_0 rfl (c_X10_statement X.2.1 Y ok.2.2.2.2.2.2.2.2 h) ⟨rfl, rfl, Nat.le_of_ble_eq_true rfl, Nat.le_of_ble_eq_true rfl⟩ rfl rfl (Nat.le_of_ble_eq_true rfl) dX10_readsStatement_72 (fun σ1 r1 h => ?_)
  refine q_pop ok dX10_readsStatement_75 rfl ?_
  refine q_goto (tgt := 304) ok dX10_readsStatement_76 (by decide) ?_
  exact q_vret ok dX10_readsStatement_304 h
set_option maxRecDepth 100000 in
set_option maxHeartbeats 4000000 in
theorem w_X10_readsStatement_J39 {X : Cx} {Y : Cy} {Q : St → Prop} (ok : Ok X Y KM cX10_readsStatement 5 RX10 (rm0q 5 111) none) (σ : St) (v1 : Int) (h : f_X10_readsStatement_J39 Q σ v1) : Wq X Y KM 5 (QF X Y (Qvq Y KM Q)) σ 39 [(0, .inr (.inr 0)), (1, .inl v1)] [] := by
  unfold f_X10_readsStatement_J39 at h
  refine q_aload_n ok dX10_readsStatement_39 0 rfl ?_
  refine q_dup ok dX10_readsStatement_40 rfl ?_
  refine q_getI ok fl_X10_151 kM_0 fM_0_36 dX10_readsStatement_41 ?_
  refine q_iconst ok dX10_readsStatement_44 ?_
  refine q_iadd ok dX10_readsStatement_45 ?_
  refine q_putI ok fp_X10_151 kM_0 fM_0_36 dX10_readsStatement_46 (wq_s (fun σ1 eσ1 => ?_))
  have h := h σ1 eσ1
  refine q_aload_n ok dX10_readsStatement_49 0 rfl ?_
  refine q_bipush ok dX10_readsStatement_50 rfl ?_
  refine q_bipush ok dX10_readsStatement_52 rfl ?_
  refine q_callVI (st := []) ok cs_X10_191 kM_0 rfl (c_X10_readsOf X.2.1 Y ok.2.2.2.2.2.2.2.2 h) ⟨rfl, rfl, Nat.le_of_ble_eq_true rfl, Nat.le_of_ble_eq_true rfl⟩ rfl rfl (Nat.le_of_ble_eq_true rfl) dX10_readsStatement_54 (fun σ2 r1 h => ?_)
  refine q_istore_n (lv' := [(2, .inl r1), (0, .inr (.inr 0)), (1, .inl v1)]) ok dX10_readsStatement_57 (by decide) rfl ?_
  refine q_aload_n ok dX10_readsStatement_58 1 rfl ?_
  refine q_iconst ok dX10_readsStatement_59 ?_
  refine q_iload_n ok dX10_readsStatement_60 0 rfl ?_
  refine q_iload_n ok dX10_readsStatement_61 2 rfl ?_
  refine q_bipush ok dX10_readsStatement_62 rfl ?_
  obtain ⟨g1, hT1a, hT1b⟩ := h
  refine q_icmp_ne (tgt := 71) ok dX10_readsStatement_64 (by decide) g1 (by unfold inR; decide) (fun c1 => ?_) (fun c1 => ?_)
  · have h := hT1a c1
    refine q_iconst ok dX10_readsStatement_71 ?_
    refine q_sub [] rfl ?_
    exact w_X10_readsStatement_J72 ok σ2 1 r1 0 h
  · have h := hT1b c1
    refine q_iconst ok dX10_readsStatement_67 ?_
    refine q_goto (tgt := 72) ok dX10_readsStatement_68 (by decide) ?_
    refine q_sub [] rfl ?_
    exact w_X10_readsStatement_J72 ok σ2 1 r1 1 h
set_option maxRecDepth 100000 in
set_option maxHeartbeats 4000000 in
theorem w_X10_readsStatement_J149 {X : Cx} {Y : Cy} {Q : St → Prop} (ok : Ok X Y KM cX10_readsStatement 5 RX10 (rm0q 5 111) none) (σ : St) (v1 : Int) (v2 : Int) (s1 : Int) (s2 : Int) (h : f_X10_readsStatement_J149 Q σ v1 v2 s1 s2) : Wq X Y KM 5 (QF X Y (Qvq Y KM Q)) σ 149 [(0, .inr (.inr 0)), (1, .inl v1), (2, .inl v2)] [.inl s2, .inl s1, .inr (.inr 0)] := by
  unfold f_X10_readsStatement_J149 at h
  refine q_iadd ok dX10_readsStatement_149 ?_
  refine q_putI ok fp_X10_151 kM_0 fM_0_36 dX10_readsStatement_150 (wq_s (fun σ1 eσ1 => ?_))
  have h := h σ1 eσ1
  refine q_aload_n ok dX10_readsStatement_153 0 rfl ?_
  refine q_bipush ok dX10_readsStatement_154 rfl ?_
  refine q_bipush ok dX10_readsStatement_156 rfl ?_
  refine q_callVI (st := []) ok cs_X10_191 kM_0 rfl (c_X10_readsOf X.2.1 Y ok.2.2.2.2.2.2.2.2 h) ⟨rfl, rfl, Nat.le_of_ble_eq_true rfl, Nat.le_of_ble_eq_true rfl⟩ rfl rfl (Nat.le_of_ble_eq_true rfl) dX10_readsStatement_158 (fun σ2 r1 h => ?_)
  refine q_istore_n (lv' := [(3, .inl r1), (0, .inr (.inr 0)), (1, .inl v1), (2, .inl v2)]) ok dX10_readsStatement_161 (by decide) rfl ?_
  refine q_aload_n ok dX10_readsStatement_162 1 rfl ?_
  refine q_iconst ok dX10_readsStatement_163 ?_
  refine q_iload_n ok dX10_readsStatement_164 2 rfl ?_
  refine q_bipush ok dX10_readsStatement_165 rfl ?_
  refine q_isub ok dX10_readsStatement_167 ?_
  refine q_iload_n ok dX10_readsStatement_168 0 rfl ?_
  refine q_callVI (st := []) ok cs_X10_211 kM_0 rfl (c_X10_statement X.2.1 Y ok.2.2.2.2.2.2.2.2 h) ⟨rfl, rfl, Nat.le_of_ble_eq_true rfl, Nat.le_of_ble_eq_true rfl⟩ rfl rfl (Nat.le_of_ble_eq_true rfl) dX10_readsStatement_169 (fun σ3 r2 h => ?_)
  refine q_istore (lv' := [(4, .inl r2), (3, .inl r1), (0, .inr (.inr 0)), (1, .inl v1), (2, .inl v2)]) ok dX10_readsStatement_172 (by decide) rfl ?_
  refine q_aload_n ok dX10_readsStatement_174 2 rfl ?_
  refine q_getC ok fl_X10_31 kM_0 fM_0_11 dX10_readsStatement_175 ?_
  refine q_iload ok dX10_readsStatement_178 0 rfl ?_
  refine q_iload_n ok dX10_readsStatement_180 4 rfl ?_
  obtain ⟨g1, g2, h⟩ := h
  refine q_iast ok kM_ok kM_8 g1 g2 dX10_readsStatement_181 (wq_s (fun σ4 eσ4 => ?_))
  have h := h σ4 eσ4
  refine q_goto (tgt := 304) ok dX10_readsStatement_182 (by decide) ?_
  exact q_vret ok dX10_readsStatement_304 h
set_option maxRecDepth 100000 in
set_option maxHeartbeats 4000000 in
theorem w_X10_readsStatement_J129 {X : Cx} {Y : Cy} {Q : St → Prop} (ok : Ok X Y KM cX10_readsStatement 5 RX10 (rm0q 5 111) none) (σ : St) (v1 : Int) (v2 : Int) (s1 : Int) (h : f_X10_readsStatement_J129 Q σ v1 v2 s1) : Wq X Y KM 5 (QF X Y (Qvq Y KM Q)) σ 129 [(0, .inr (.inr 0)), (1, .inl v1), (2, .inl v2)] [.inl s1, .inr (.inr 0)] := by
  unfold f_X10_readsStatement_J129 at h
  refine q_callVV (st := []) ok cs_X10_164 kM_0 rfl (c_X10_requires X.2.1 Y ok.2.2.2.2.2.2.2.2 h) ⟨rfl, rfl, Nat.le_of_ble_eq_true rfl, Nat.le_of_ble_eq_true rfl⟩ rfl rfl (Nat.le_of_ble_eq_true rfl) dX10_readsStatement_129 (fun σ1 h => ?_)
  refine q_aload_n ok dX10_readsStatement_132 0 rfl ?_
  refine q_dup ok dX10_readsStatement_133 rfl ?_
  refine q_getI ok fl_X10_151 kM_0 fM_0_36 dX10_readsStatement_134 ?_
  refine q_aload_n ok dX10_readsStatement_137 0 rfl ?_
  refine q_getI ok fl_X10_157 kM_0 fM_0_37 dX10_readsStatement_138 ?_
  obtain ⟨g1, hT1a, hT1b⟩ := h
  refine q_if_eq (tgt := 148) ok dX10_readsStatement_141 (by decide) g1 (fun c1 => ?_) (fun c1 => ?_)
  · have h := hT1a c1
    refine q_iconst ok dX10_readsStatement_148 ?_
    exact w_X10_readsStatement_J149 ok σ1 v1 v2 (σ1 0 36) 0 h
  · have h := hT1b c1
    refine q_iconst ok dX10_readsStatement_144 ?_
    refine q_goto (tgt := 149) ok dX10_readsStatement_145 (by decide) ?_
    exact w_X10_readsStatement_J149 ok σ1 v1 v2 (σ1 0 36) 1 h
set_option maxRecDepth 100000 in
set_option maxHeartbeats 4000000 in
theorem w_X10_readsStatement_J124 {X : Cx} {Y : Cy} {Q : St → Prop} (ok : Ok X Y KM cX10_readsStatement 5 RX10 (rm0q 5 111) none) (σ : St) (v1 : Int) (v2 : Int) (h : f_X10_readsStatement_J124 Q σ v1 v2) : Wq X Y KM 5 (QF X Y (Qvq Y KM Q)) σ 124 [(0, .inr (.inr 0)), (1, .inl v1), (2, .inl v2)] [.inr (.inr 0)] := by
  unfold f_X10_readsStatement_J124 at h
  refine q_iconst ok dX10_readsStatement_124 ?_
  refine q_goto (tgt := 129) ok dX10_readsStatement_125 (by decide) ?_
  exact w_X10_readsStatement_J129 ok σ v1 v2 1 h
set_option maxRecDepth 100000 in
set_option maxHeartbeats 4000000 in
theorem c_X10_readsStatement (l : Launch) (Y : Cy) (hD : ∀ σ, va_D Y.2.2.2 (wsOf KM Y.2.1 Y.2.2.1 σ)) {a0 : Int} {σ : St} {Q : St → Prop} (h : f_X10_readsStatement a0 σ Q) : ConV l yX10_readsStatement cX10_readsStatement 5 (rm0q 5 111) Y KM σ [.inr (.inr 0), .inl a0] Q := con_of (lv := [(0, .inr (.inr 0)), (1, .inl a0)]) (by decide) hD (Nat.le_of_ble_eq_true rfl) rfl (fun X _ ok => by
  have ok : Ok X Y KM cX10_readsStatement 5 RX10 (rm0q 5 111) none := ok
  unfold f_X10_readsStatement at h
  refine q_iload_n ok dX10_readsStatement_0 1 rfl ?_
  refine q_bipush ok dX10_readsStatement_1 rfl ?_
  refine q_bipush ok dX10_readsStatement_3 rfl ?_
  refine q_callSI (st := []) ok cs_X10_168 (c_X10_in X.2.1 Y ok.2.2.2.2.2.2.2.2 h) ⟨rfl, rfl, Nat.le_of_ble_eq_true rfl, Nat.le_of_ble_eq_true rfl⟩ rfl rfl (Nat.le_of_ble_eq_true rfl) dX10_readsStatement_5 (fun σ1 r1 h => ?_)
  obtain ⟨g1, hT11a, hT11b⟩ := h
  refine q_if_eq (tgt := 27) ok dX10_readsStatement_8 (by decide) g1 (fun c11 => ?_) (fun c11 => ?_)
  · have h := hT11a c11
    refine q_iload_n ok dX10_readsStatement_27 1 rfl ?_
    refine q_bipush ok dX10_readsStatement_28 rfl ?_
    obtain ⟨g2, hT10a, hT10b⟩ := h
    refine q_icmp_eq (tgt := 39) ok dX10_readsStatement_30 (by decide) g2 (by unfold inR; decide) (fun c10 => ?_) (fun c10 => ?_)
    · have h := hT10a c10
      exact w_X10_readsStatement_J39 ok σ1 a0 h
    · have h := hT10b c10
      refine q_iload_n ok dX10_readsStatement_33 1 rfl ?_
      refine q_bipush ok dX10_readsStatement_34 rfl ?_
      obtain ⟨g3, hT9a, hT9b⟩ := h
      refine q_icmp_ne (tgt := 79) ok dX10_readsStatement_36 (by decide) g3 (by unfold inR; decide) (fun c9 => ?_) (fun c9 => ?_)
      · have h := hT9a c9
        refine q_iload_n ok dX10_readsStatement_79 1 rfl ?_
        refine q_bipush ok dX10_readsStatement_80 rfl ?_
        refine q_bipush ok dX10_readsStatement_82 rfl ?_
        refine q_callSI (st := []) ok cs_X10_168 (c_X10_in X.2.1 Y ok.2.2.2.2.2.2.2.2 h) ⟨rfl, rfl, Nat.le_of_ble_eq_true rfl, Nat.le_of_ble_eq_true rfl⟩ rfl rfl (Nat.le_of_ble_eq_true rfl) dX10_readsStatement_84 (fun σ2 r2 h => ?_)
        obtain ⟨g4, hT8a, hT8b⟩ := h
        refine q_if_eq (tgt := 185) ok dX10_readsStatement_87 (by decide) g4 (fun c8 => ?_) (fun c8 => ?_)
        · have h := hT8a c8
          refine q_iload_n ok dX10_readsStatement_185 1 rfl ?_
          refine q_bipush ok dX10_readsStatement_186 rfl ?_
          obtain ⟨g5, hT4a, hT4b⟩ := h
          refine q_icmp_ne (tgt := 198) ok dX10_readsStatement_188 (by decide) g5 (by unfold inR; decide) (fun c4 => ?_) (fun c4 => ?_)
          · have h := hT4a c4
            refine q_iload_n ok dX10_readsStatement_198 1 rfl ?_
            refine q_bipush ok dX10_readsStatement_199 rfl ?_
            obtain ⟨g6, hT3a, hT3b⟩ := h
            refine q_icmp_ne (tgt := 211) ok dX10_readsStatement_201 (by decide) g6 (by unfold inR; decide) (fun c3 => ?_) (fun c3 => ?_)
            · have h := hT3a c3
              refine q_iload_n ok dX10_readsStatement_211 1 rfl ?_
              refine q_bipush ok dX10_readsStatement_212 rfl ?_
              obtain ⟨g7, hT2a, hT2b⟩ := h
              refine q_icmp_ne (tgt := 252) ok dX10_readsStatement_214 (by decide) g7 (by unfold inR; decide) (fun c2 => ?_) (fun c2 => ?_)
              · have h := hT2a c2
                refine q_iload_n ok dX10_readsStatement_252 1 rfl ?_
                refine q_bipush ok dX10_readsStatement_253 rfl ?_
                obtain ⟨g8, hT1a, hT1b⟩ := h
                refine q_icmp_ne (tgt := 280) ok dX10_readsStatement_255 (by decide) g8 (by unfold inR; decide) (fun c1 => ?_) (fun c1 => ?_)
                · have h := hT1a c1
                  refine q_aload_n ok dX10_readsStatement_280 0 rfl ?_
                  refine q_bipush ok dX10_readsStatement_281 rfl ?_
                  refine q_callVV (st := []) ok cs_X10_187 kM_0 rfl (c_X10_reads X.2.1 Y ok.2.2.2.2.2.2.2.2 h) ⟨rfl, rfl, Nat.le_of_ble_eq_true rfl, Nat.le_of_ble_eq_true rfl⟩ rfl rfl (Nat.le_of_ble_eq_true rfl) dX10_readsStatement_283 (fun σ3 h => ?_)
                  refine q_aload_n ok dX10_readsStatement_286 0 rfl ?_
                  refine q_bipush ok dX10_readsStatement_287 rfl ?_
                  refine q_bipush ok dX10_readsStatement_289 rfl ?_
                  refine q_callVI (st := []) ok cs_X10_191 kM_0 rfl (c_X10_readsOf X.2.1 Y ok.2.2.2.2.2.2.2.2 h) ⟨rfl, rfl, Nat.le_of_ble_eq_true rfl, Nat.le_of_ble_eq_true rfl⟩ rfl rfl (Nat.le_of_ble_eq_true rfl) dX10_readsStatement_291 (fun σ4 r3 h => ?_)
                  refine q_istore_n (lv' := [(2, .inl r3), (0, .inr (.inr 0)), (1, .inl a0)]) ok dX10_readsStatement_294 (by decide) rfl ?_
                  refine q_aload_n ok dX10_readsStatement_295 1 rfl ?_
                  refine q_bipush ok dX10_readsStatement_296 rfl ?_
                  refine q_iload_n ok dX10_readsStatement_298 0 rfl ?_
                  refine q_iconst ok dX10_readsStatement_299 ?_
                  refine q_callVI (st := []) ok cs_X10_211 kM_0 rfl (c_X10_statement X.2.1 Y ok.2.2.2.2.2.2.2.2 h) ⟨rfl, rfl, Nat.le_of_ble_eq_true rfl, Nat.le_of_ble_eq_true rfl⟩ rfl rfl (Nat.le_of_ble_eq_true rfl) dX10_readsStatement_300 (fun σ5 r4 h => ?_)
                  refine q_pop ok dX10_readsStatement_303 rfl ?_
                  exact q_vret ok dX10_readsStatement_304 h
                · have h := hT1b c1
                  refine q_aload_n ok dX10_readsStatement_258 0 rfl ?_
                  refine q_dup ok dX10_readsStatement_259 rfl ?_
                  refine q_getI ok fl_X10_151 kM_0 fM_0_36 dX10_readsStatement_260 ?_
                  refine q_iconst ok dX10_readsStatement_263 ?_
                  refine q_iadd ok dX10_readsStatement_264 ?_
                  refine q_putI ok fp_X10_151 kM_0 fM_0_36 dX10_readsStatement_265 (wq_s (fun σ6 eσ6 => ?_))
                  have h := h σ6 eσ6
                  refine q_aload_n ok dX10_readsStatement_268 0 rfl ?_
                  refine q_bipush ok dX10_readsStatement_269 rfl ?_
                  refine q_iconst ok dX10_readsStatement_271 ?_
                  refine q_iconst ok dX10_readsStatement_272 ?_
                  refine q_callVI (st := []) ok cs_X10_211 kM_0 rfl (c_X10_statement X.2.1 Y ok.2.2.2.2.2.2.2.2 h) ⟨rfl, rfl, Nat.le_of_ble_eq_true rfl, Nat.le_of_ble_eq_true rfl⟩ rfl rfl (Nat.le_of_ble_eq_true rfl) dX10_readsStatement_273 (fun σ7 r5 h => ?_)
                  refine q_pop ok dX10_readsStatement_276 rfl ?_
                  refine q_goto (tgt := 304) ok dX10_readsStatement_277 (by decide) ?_
                  exact q_vret ok dX10_readsStatement_304 h
              · have h := hT2b c2
                refine q_aload_n ok dX10_readsStatement_217 0 rfl ?_
                refine q_dup ok dX10_readsStatement_218 rfl ?_
                refine q_getI ok fl_X10_151 kM_0 fM_0_36 dX10_readsStatement_219 ?_
                refine q_iconst ok dX10_readsStatement_222 ?_
                refine q_iadd ok dX10_readsStatement_223 ?_
                refine q_putI ok fp_X10_151 kM_0 fM_0_36 dX10_readsStatement_224 (wq_s (fun σ8 eσ8 => ?_))
                have h := h σ8 eσ8
                refine q_aload_n ok dX10_readsStatement_227 0 rfl ?_
                refine q_bipush ok dX10_readsStatement_228 rfl ?_
                refine q_bipush ok dX10_readsStatement_230 rfl ?_
                refine q_callVI (st := []) ok cs_X10_191 kM_0 rfl (c_X10_readsOf X.2.1 Y ok.2.2.2.2.2.2.2.2 h) ⟨rfl, rfl, Nat.le_of_ble_eq_true rfl, Nat.le_of_ble_eq_true rfl⟩ rfl rfl (Nat.le_of_ble_eq_true rfl) dX10_readsStatement_232 (fun σ9 r6 h => ?_)
                refine q_istore_n (lv' := [(2, .inl r6), (0, .inr (.inr 0)), (1, .inl a0)]) ok dX10_readsStatement_235 (by decide) rfl ?_
                refine q_aload_n ok dX10_readsStatement_236 1 rfl ?_
                refine q_iconst ok dX10_readsStatement_237 ?_
                refine q_iload_n ok dX10_readsStatement_238 0 rfl ?_
                refine q_aload_n ok dX10_readsStatement_239 1 rfl ?_
                refine q_getI ok fl_X10_151 kM_0 fM_0_36 dX10_readsStatement_240 ?_
                refine q_iconst ok dX10_readsStatement_243 ?_
                refine q_isub ok dX10_readsStatement_244 ?_
                refine q_callVI (st := []) ok cs_X10_211 kM_0 rfl (c_X10_statement X.2.1 Y ok.2.2.2.2.2.2.2.2 h) ⟨rfl, rfl, Nat.le_of_ble_eq_true rfl, Nat.le_of_ble_eq_true rfl⟩ rfl rfl (Nat.le_of_ble_eq_true rfl) dX10_readsStatement_245 (fun σ10 r7 h => ?_)
                refine q_istore_n (lv' := [(3, .inl r7), (2, .inl r6), (0, .inr (.inr 0)), (1, .inl a0)]) ok dX10_readsStatement_248 (by decide) rfl ?_
                refine q_goto (tgt := 304) ok dX10_readsStatement_249 (by decide) ?_
                exact q_vret ok dX10_readsStatement_304 h
            · have h := hT3b c3
              refine q_aload_n ok dX10_readsStatement_204 0 rfl ?_
              refine q_callVV (st := []) ok cs_X10_231 kM_0 rfl (c_X10_readsChoice X.2.1 Y ok.2.2.2.2.2.2.2.2 h) ⟨rfl, rfl, Nat.le_of_ble_eq_true rfl, Nat.le_of_ble_eq_true rfl⟩ rfl rfl (Nat.le_of_ble_eq_true rfl) dX10_readsStatement_205 (fun σ11 h => ?_)
              refine q_goto (tgt := 304) ok dX10_readsStatement_208 (by decide) ?_
              exact q_vret ok dX10_readsStatement_304 h
          · have h := hT4b c4
            refine q_aload_n ok dX10_readsStatement_191 0 rfl ?_
            refine q_callVV (st := []) ok cs_X10_228 kM_0 rfl (c_X10_readsTest X.2.1 Y ok.2.2.2.2.2.2.2.2 h) ⟨rfl, rfl, Nat.le_of_ble_eq_true rfl, Nat.le_of_ble_eq_true rfl⟩ rfl rfl (Nat.le_of_ble_eq_true rfl) dX10_readsStatement_192 (fun σ12 h => ?_)
            refine q_goto (tgt := 304) ok dX10_readsStatement_195 (by decide) ?_
            exact q_vret ok dX10_readsStatement_304 h
        · have h := hT8b c8
          refine q_aload_n ok dX10_readsStatement_90 0 rfl ?_
          refine q_dup ok dX10_readsStatement_91 rfl ?_
          refine q_getI ok fl_X10_151 kM_0 fM_0_36 dX10_readsStatement_92 ?_
          refine q_iconst ok dX10_readsStatement_95 ?_
          refine q_iadd ok dX10_readsStatement_96 ?_
          refine q_putI ok fp_X10_151 kM_0 fM_0_36 dX10_readsStatement_97 (wq_s (fun σ13 eσ13 => ?_))
          have h := h σ13 eσ13
          refine q_aload_n ok dX10_readsStatement_100 0 rfl ?_
          refine q_callVI (st := []) ok cs_X10_160 kM_0 rfl (c_X10_here X.2.1 Y ok.2.2.2.2.2.2.2.2 h) ⟨rfl, rfl, Nat.le_of_ble_eq_true rfl, Nat.le_of_ble_eq_true rfl⟩ rfl rfl (Nat.le_of_ble_eq_true rfl) dX10_readsStatement_101 (fun σ14 r8 h => ?_)
          refine q_istore_n (lv' := [(2, .inl r8), (0, .inr (.inr 0)), (1, .inl a0)]) ok dX10_readsStatement_104 (by decide) rfl ?_
          refine q_aload_n ok dX10_readsStatement_105 1 rfl ?_
          refine q_iload_n ok dX10_readsStatement_106 0 rfl ?_
          refine q_bipush ok dX10_readsStatement_107 rfl ?_
          obtain ⟨g9, hT7a, hT7b⟩ := h
          refine q_icmp_eq (tgt := 124) ok dX10_readsStatement_109 (by decide) g9 (by unfold inR; decide) (fun c7 => ?_) (fun c7 => ?_)
          · have h := hT7a c7
            refine q_sub [1, 2, 0] rfl ?_
            exact w_X10_readsStatement_J124 ok σ14 a0 r8 h
          · have h := hT7b c7
            refine q_iload_n ok dX10_readsStatement_112 0 rfl ?_
            refine q_bipush ok dX10_readsStatement_113 rfl ?_
            obtain ⟨g10, hT6a, hT6b⟩ := h
            refine q_icmp_eq (tgt := 124) ok dX10_readsStatement_115 (by decide) g10 (by unfold inR; decide) (fun c6 => ?_) (fun c6 => ?_)
            · have h := hT6a c6
              refine q_sub [1, 2, 0] rfl ?_
              exact w_X10_readsStatement_J124 ok σ14 a0 r8 h
            · have h := hT6b c6
              refine q_iload_n ok dX10_readsStatement_118 0 rfl ?_
              refine q_bipush ok dX10_readsStatement_119 rfl ?_
              obtain ⟨g11, hT5a, hT5b⟩ := h
              refine q_icmp_ne (tgt := 128) ok dX10_readsStatement_121 (by decide) g11 (by unfold inR; decide) (fun c5 => ?_) (fun c5 => ?_)
              · have h := hT5a c5
                refine q_iconst ok dX10_readsStatement_128 ?_
                refine q_sub [1, 2, 0] rfl ?_
                exact w_X10_readsStatement_J129 ok σ14 a0 r8 0 h
              · have h := hT5b c5
                refine q_sub [1, 2, 0] rfl ?_
                exact w_X10_readsStatement_J124 ok σ14 a0 r8 h
      · have h := hT9b c9
        exact w_X10_readsStatement_J39 ok σ1 a0 h
  · have h := hT11b c11
    refine q_aload_n ok dX10_readsStatement_11 0 rfl ?_
    refine q_callVI (st := []) ok cs_X10_225 kM_0 rfl (c_X10_readsNumber X.2.1 Y ok.2.2.2.2.2.2.2.2 h) ⟨rfl, rfl, Nat.le_of_ble_eq_true rfl, Nat.le_of_ble_eq_true rfl⟩ rfl rfl (Nat.le_of_ble_eq_true rfl) dX10_readsStatement_12 (fun σ15 r9 h => ?_)
    refine q_istore_n (lv' := [(2, .inl r9), (0, .inr (.inr 0)), (1, .inl a0)]) ok dX10_readsStatement_15 (by decide) rfl ?_
    refine q_aload_n ok dX10_readsStatement_16 1 rfl ?_
    refine q_iconst ok dX10_readsStatement_17 ?_
    refine q_iload_n ok dX10_readsStatement_18 0 rfl ?_
    refine q_iconst ok dX10_readsStatement_19 ?_
    refine q_callVI (st := []) ok cs_X10_211 kM_0 rfl (c_X10_statement X.2.1 Y ok.2.2.2.2.2.2.2.2 h) ⟨rfl, rfl, Nat.le_of_ble_eq_true rfl, Nat.le_of_ble_eq_true rfl⟩ rfl rfl (Nat.le_of_ble_eq_true rfl) dX10_readsStatement_20 (fun σ16 r10 h => ?_)
    refine q_pop ok dX10_readsStatement_23 rfl ?_
    refine q_goto (tgt := 304) ok dX10_readsStatement_24 (by decide) ?_
    exact q_vret ok dX10_readsStatement_304 h)
