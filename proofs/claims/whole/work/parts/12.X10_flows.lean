theorem dX10_flows_0 : decode cX10_flows 0 = .ok (.iconst 0, 1) := by decide +kernel
theorem dX10_flows_1 : decode cX10_flows 1 = .ok (.istore_n 1, 1) := by decide +kernel
theorem dX10_flows_2 : decode cX10_flows 2 = .ok (.iconst 1, 1) := by decide +kernel
theorem dX10_flows_3 : decode cX10_flows 3 = .ok (.istore_n 2, 1) := by decide +kernel
theorem dX10_flows_4 : decode cX10_flows 4 = .ok (.iload_n 2, 1) := by decide +kernel
theorem dX10_flows_5 : decode cX10_flows 5 = .ok (.ifCond .eq 47, 3) := by decide +kernel
theorem dX10_flows_8 : decode cX10_flows 8 = .ok (.aload_n 0, 1) := by decide +kernel
theorem dX10_flows_9 : decode cX10_flows 9 = .ok (.getfield 292, 3) := by decide +kernel
theorem dX10_flows_12 : decode cX10_flows 12 = .ok (.iconst (-1), 1) := by decide +kernel
theorem dX10_flows_13 : decode cX10_flows 13 = .ok (.if_icmp .ne 11, 3) := by decide +kernel
theorem dX10_flows_16 : decode cX10_flows 16 = .ok (.aload_n 0, 1) := by decide +kernel
theorem dX10_flows_17 : decode cX10_flows 17 = .ok (.invokevirtual 316, 3) := by decide +kernel
theorem dX10_flows_20 : decode cX10_flows 20 = .ok (.istore_n 2, 1) := by decide +kernel
theorem dX10_flows_21 : decode cX10_flows 21 = .ok (.goto (-17), 3) := by decide +kernel
theorem dX10_flows_24 : decode cX10_flows 24 = .ok (.iload_n 1, 1) := by decide +kernel
theorem dX10_flows_25 : decode cX10_flows 25 = .ok (.sipush 150, 3) := by decide +kernel
theorem dX10_flows_28 : decode cX10_flows 28 = .ok (.if_icmp .ne 13, 3) := by decide +kernel
theorem dX10_flows_31 : decode cX10_flows 31 = .ok (.aload_n 0, 1) := by decide +kernel
theorem dX10_flows_32 : decode cX10_flows 32 = .ok (.iconst 4, 1) := by decide +kernel
theorem dX10_flows_33 : decode cX10_flows 33 = .ok (.invokevirtual 301, 3) := by decide +kernel
theorem dX10_flows_36 : decode cX10_flows 36 = .ok (.iconst 0, 1) := by decide +kernel
theorem dX10_flows_37 : decode cX10_flows 37 = .ok (.istore_n 2, 1) := by decide +kernel
theorem dX10_flows_38 : decode cX10_flows 38 = .ok (.goto (-34), 3) := by decide +kernel
theorem dX10_flows_41 : decode cX10_flows 41 = .ok (.iinc 1 1, 3) := by decide +kernel
theorem dX10_flows_44 : decode cX10_flows 44 = .ok (.aload_n 0, 1) := by decide +kernel
theorem dX10_flows_45 : decode cX10_flows 45 = .ok (.invokevirtual 319, 3) := by decide +kernel
theorem dX10_flows_48 : decode cX10_flows 48 = .ok (.istore_n 2, 1) := by decide +kernel
theorem dX10_flows_49 : decode cX10_flows 49 = .ok (.goto (-45), 3) := by decide +kernel
theorem dX10_flows_52 : decode cX10_flows 52 = .ok (.iconst 0, 1) := by decide +kernel
theorem dX10_flows_53 : decode cX10_flows 53 = .ok (.istore_n 3, 1) := by decide +kernel
theorem dX10_flows_54 : decode cX10_flows 54 = .ok (.iload_n 3, 1) := by decide +kernel
theorem dX10_flows_55 : decode cX10_flows 55 = .ok (.aload_n 0, 1) := by decide +kernel
theorem dX10_flows_56 : decode cX10_flows 56 = .ok (.getfield 222, 3) := by decide +kernel
theorem dX10_flows_59 : decode cX10_flows 59 = .ok (.if_icmp .ge 61, 3) := by decide +kernel
theorem dX10_flows_62 : decode cX10_flows 62 = .ok (.aload_n 0, 1) := by decide +kernel
theorem dX10_flows_63 : decode cX10_flows 63 = .ok (.getfield 101, 3) := by decide +kernel
theorem dX10_flows_66 : decode cX10_flows 66 = .ok (.iload_n 3, 1) := by decide +kernel
theorem dX10_flows_67 : decode cX10_flows 67 = .ok (.aload_n 0, 1) := by decide +kernel
theorem dX10_flows_68 : decode cX10_flows 68 = .ok (.getfield 101, 3) := by decide +kernel
theorem dX10_flows_71 : decode cX10_flows 71 = .ok (.iload_n 3, 1) := by decide +kernel
theorem dX10_flows_72 : decode cX10_flows 72 = .ok (.baload, 1) := by decide +kernel
theorem dX10_flows_73 : decode cX10_flows 73 = .ok (.ifCond .ne 35, 3) := by decide +kernel
theorem dX10_flows_76 : decode cX10_flows 76 = .ok (.aload_n 0, 1) := by decide +kernel
theorem dX10_flows_77 : decode cX10_flows 77 = .ok (.getfield 295, 3) := by decide +kernel
theorem dX10_flows_80 : decode cX10_flows 80 = .ok (.ifCond .eq 32, 3) := by decide +kernel
theorem dX10_flows_83 : decode cX10_flows 83 = .ok (.aload_n 0, 1) := by decide +kernel
theorem dX10_flows_84 : decode cX10_flows 84 = .ok (.getfield 86, 3) := by decide +kernel
theorem dX10_flows_87 : decode cX10_flows 87 = .ok (.iconst 0, 1) := by decide +kernel
theorem dX10_flows_88 : decode cX10_flows 88 = .ok (.iaload, 1) := by decide +kernel
theorem dX10_flows_89 : decode cX10_flows 89 = .ok (.iconst 1, 1) := by decide +kernel
theorem dX10_flows_90 : decode cX10_flows 90 = .ok (.if_icmp .ne 22, 3) := by decide +kernel
theorem dX10_flows_93 : decode cX10_flows 93 = .ok (.aload_n 0, 1) := by decide +kernel
theorem dX10_flows_94 : decode cX10_flows 94 = .ok (.getfield 86, 3) := by decide +kernel
theorem dX10_flows_97 : decode cX10_flows 97 = .ok (.bipush 9, 2) := by decide +kernel
theorem dX10_flows_99 : decode cX10_flows 99 = .ok (.iaload, 1) := by decide +kernel
theorem dX10_flows_100 : decode cX10_flows 100 = .ok (.iload_n 3, 1) := by decide +kernel
theorem dX10_flows_101 : decode cX10_flows 101 = .ok (.ishr, 1) := by decide +kernel
theorem dX10_flows_102 : decode cX10_flows 102 = .ok (.iconst 1, 1) := by decide +kernel
theorem dX10_flows_103 : decode cX10_flows 103 = .ok (.iand, 1) := by decide +kernel
theorem dX10_flows_104 : decode cX10_flows 104 = .ok (.iconst 1, 1) := by decide +kernel
theorem dX10_flows_105 : decode cX10_flows 105 = .ok (.if_icmp .ne 7, 3) := by decide +kernel
theorem dX10_flows_108 : decode cX10_flows 108 = .ok (.iconst 1, 1) := by decide +kernel
theorem dX10_flows_109 : decode cX10_flows 109 = .ok (.goto 4, 3) := by decide +kernel
theorem dX10_flows_112 : decode cX10_flows 112 = .ok (.iconst 0, 1) := by decide +kernel
theorem dX10_flows_113 : decode cX10_flows 113 = .ok (.bastore, 1) := by decide +kernel
theorem dX10_flows_114 : decode cX10_flows 114 = .ok (.iinc 3 1, 3) := by decide +kernel
theorem dX10_flows_117 : decode cX10_flows 117 = .ok (.goto (-63), 3) := by decide +kernel
theorem dX10_flows_120 : decode cX10_flows 120 = .ok (.return_, 1) := by decide +kernel
theorem dX10_starts_0 : decode cX10_starts 0 = .ok (.iconst 0, 1) := by decide +kernel
theorem dX10_starts_1 : decode cX10_starts 1 = .ok (.istore_n 1, 1) := by decide +kernel
theorem dX10_starts_2 : decode cX10_starts 2 = .ok (.iload_n 1, 1) := by decide +kernel
theorem dX10_starts_3 : decode cX10_starts 3 = .ok (.bipush 31, 2) := by decide +kernel
theorem dX10_starts_5 : decode cX10_starts 5 = .ok (.if_icmp .ge 16, 3) := by decide +kernel
theorem dX10_starts_8 : decode cX10_starts 8 = .ok (.aload_n 0, 1) := by decide +kernel
theorem dX10_starts_9 : decode cX10_starts 9 = .ok (.getfield 86, 3) := by decide +kernel
theorem dX10_starts_12 : decode cX10_starts 12 = .ok (.iload_n 1, 1) := by decide +kernel
theorem dX10_starts_13 : decode cX10_starts 13 = .ok (.iconst 0, 1) := by decide +kernel
theorem dX10_starts_14 : decode cX10_starts 14 = .ok (.iastore, 1) := by decide +kernel
theorem dX10_starts_15 : decode cX10_starts 15 = .ok (.iinc 1 1, 3) := by decide +kernel
theorem dX10_starts_18 : decode cX10_starts 18 = .ok (.goto (-16), 3) := by decide +kernel
theorem dX10_starts_21 : decode cX10_starts 21 = .ok (.aload_n 0, 1) := by decide +kernel
theorem dX10_starts_22 : decode cX10_starts 22 = .ok (.getfield 86, 3) := by decide +kernel
theorem dX10_starts_25 : decode cX10_starts 25 = .ok (.iconst 3, 1) := by decide +kernel
theorem dX10_starts_26 : decode cX10_starts 26 = .ok (.iconst (-1), 1) := by decide +kernel
theorem dX10_starts_27 : decode cX10_starts 27 = .ok (.iastore, 1) := by decide +kernel
theorem dX10_starts_28 : decode cX10_starts 28 = .ok (.aload_n 0, 1) := by decide +kernel
theorem dX10_starts_29 : decode cX10_starts 29 = .ok (.iconst 0, 1) := by decide +kernel
theorem dX10_starts_30 : decode cX10_starts 30 = .ok (.invokevirtual 298, 3) := by decide +kernel
theorem dX10_starts_33 : decode cX10_starts 33 = .ok (.aload_n 0, 1) := by decide +kernel
theorem dX10_starts_34 : decode cX10_starts 34 = .ok (.invokevirtual 322, 3) := by decide +kernel
theorem dX10_starts_37 : decode cX10_starts 37 = .ok (.return_, 1) := by decide +kernel
theorem dX10_bits_0 : decode cX10_bits 0 = .ok (.iconst 0, 1) := by decide +kernel
theorem dX10_bits_1 : decode cX10_bits 1 = .ok (.istore_n 1, 1) := by decide +kernel
theorem dX10_bits_2 : decode cX10_bits 2 = .ok (.iconst 0, 1) := by decide +kernel
theorem dX10_bits_3 : decode cX10_bits 3 = .ok (.istore_n 2, 1) := by decide +kernel
theorem dX10_bits_4 : decode cX10_bits 4 = .ok (.iload_n 2, 1) := by decide +kernel
theorem dX10_bits_5 : decode cX10_bits 5 = .ok (.bipush 16, 2) := by decide +kernel
theorem dX10_bits_7 : decode cX10_bits 7 = .ok (.if_icmp .ge 17, 3) := by decide +kernel
theorem dX10_bits_10 : decode cX10_bits 10 = .ok (.iload_n 1, 1) := by decide +kernel
theorem dX10_bits_11 : decode cX10_bits 11 = .ok (.iload_n 0, 1) := by decide +kernel
theorem dX10_bits_12 : decode cX10_bits 12 = .ok (.iload_n 2, 1) := by decide +kernel
theorem dX10_bits_13 : decode cX10_bits 13 = .ok (.ishr, 1) := by decide +kernel
theorem dX10_bits_14 : decode cX10_bits 14 = .ok (.iconst 1, 1) := by decide +kernel
theorem dX10_bits_15 : decode cX10_bits 15 = .ok (.iand, 1) := by decide +kernel
theorem dX10_bits_16 : decode cX10_bits 16 = .ok (.iadd, 1) := by decide +kernel
theorem dX10_bits_17 : decode cX10_bits 17 = .ok (.istore_n 1, 1) := by decide +kernel
theorem dX10_bits_18 : decode cX10_bits 18 = .ok (.iinc 2 1, 3) := by decide +kernel
theorem dX10_bits_21 : decode cX10_bits 21 = .ok (.goto (-17), 3) := by decide +kernel
theorem dX10_bits_24 : decode cX10_bits 24 = .ok (.iload_n 1, 1) := by decide +kernel
theorem dX10_bits_25 : decode cX10_bits 25 = .ok (.ireturn, 1) := by decide +kernel
theorem dX10_offeredAt_0 : decode cX10_offeredAt 0 = .ok (.iload_n 1, 1) := by decide +kernel
theorem dX10_offeredAt_1 : decode cX10_offeredAt 1 = .ok (.istore_n 2, 1) := by decide +kernel
theorem dX10_offeredAt_2 : decode cX10_offeredAt 2 = .ok (.iconst 0, 1) := by decide +kernel
theorem dX10_offeredAt_3 : decode cX10_offeredAt 3 = .ok (.istore_n 3, 1) := by decide +kernel
theorem dX10_offeredAt_4 : decode cX10_offeredAt 4 = .ok (.iload_n 3, 1) := by decide +kernel
theorem dX10_offeredAt_5 : decode cX10_offeredAt 5 = .ok (.aload_n 0, 1) := by decide +kernel
theorem dX10_offeredAt_6 : decode cX10_offeredAt 6 = .ok (.getfield 222, 3) := by decide +kernel
theorem dX10_offeredAt_9 : decode cX10_offeredAt 9 = .ok (.if_icmp .ge 33, 3) := by decide +kernel
theorem dX10_offeredAt_12 : decode cX10_offeredAt 12 = .ok (.aload_n 0, 1) := by decide +kernel
theorem dX10_offeredAt_13 : decode cX10_offeredAt 13 = .ok (.getfield 86, 3) := by decide +kernel
theorem dX10_offeredAt_16 : decode cX10_offeredAt 16 = .ok (.bipush 9, 2) := by decide +kernel
theorem dX10_offeredAt_18 : decode cX10_offeredAt 18 = .ok (.iaload, 1) := by decide +kernel
theorem dX10_offeredAt_19 : decode cX10_offeredAt 19 = .ok (.iload_n 3, 1) := by decide +kernel
theorem dX10_offeredAt_20 : decode cX10_offeredAt 20 = .ok (.ishr, 1) := by decide +kernel
theorem dX10_offeredAt_21 : decode cX10_offeredAt 21 = .ok (.iconst 1, 1) := by decide +kernel
theorem dX10_offeredAt_22 : decode cX10_offeredAt 22 = .ok (.iand, 1) := by decide +kernel
theorem dX10_offeredAt_23 : decode cX10_offeredAt 23 = .ok (.iconst 1, 1) := by decide +kernel
theorem dX10_offeredAt_24 : decode cX10_offeredAt 24 = .ok (.if_icmp .ne 12, 3) := by decide +kernel
theorem dX10_offeredAt_27 : decode cX10_offeredAt 27 = .ok (.iload_n 2, 1) := by decide +kernel
theorem dX10_offeredAt_28 : decode cX10_offeredAt 28 = .ok (.ifCond .ne 5, 3) := by decide +kernel
theorem dX10_offeredAt_31 : decode cX10_offeredAt 31 = .ok (.iload_n 3, 1) := by decide +kernel
theorem dX10_offeredAt_32 : decode cX10_offeredAt 32 = .ok (.ireturn, 1) := by decide +kernel
theorem dX10_offeredAt_33 : decode cX10_offeredAt 33 = .ok (.iinc 2 (-1), 3) := by decide +kernel
theorem dX10_offeredAt_36 : decode cX10_offeredAt 36 = .ok (.iinc 3 1, 3) := by decide +kernel
theorem dX10_offeredAt_39 : decode cX10_offeredAt 39 = .ok (.goto (-35), 3) := by decide +kernel
theorem dX10_offeredAt_42 : decode cX10_offeredAt 42 = .ok (.iconst (-1), 1) := by decide +kernel
theorem dX10_offeredAt_43 : decode cX10_offeredAt 43 = .ok (.ireturn, 1) := by decide +kernel
theorem dX10_takes_0 : decode cX10_takes 0 = .ok (.aload_n 0, 1) := by decide +kernel
theorem dX10_takes_1 : decode cX10_takes 1 = .ok (.getfield 86, 3) := by decide +kernel
theorem dX10_takes_4 : decode cX10_takes 4 = .ok (.bipush 9, 2) := by decide +kernel
theorem dX10_takes_6 : decode cX10_takes 6 = .ok (.iconst 0, 1) := by decide +kernel
theorem dX10_takes_7 : decode cX10_takes 7 = .ok (.iastore, 1) := by decide +kernel
theorem dX10_takes_8 : decode cX10_takes 8 = .ok (.aload_n 0, 1) := by decide +kernel
theorem dX10_takes_9 : decode cX10_takes 9 = .ok (.getfield 86, 3) := by decide +kernel
theorem dX10_takes_12 : decode cX10_takes 12 = .ok (.bipush 8, 2) := by decide +kernel
theorem dX10_takes_14 : decode cX10_takes 14 = .ok (.dup2, 1) := by decide +kernel
theorem dX10_takes_15 : decode cX10_takes 15 = .ok (.iaload, 1) := by decide +kernel
theorem dX10_takes_16 : decode cX10_takes 16 = .ok (.iconst 1, 1) := by decide +kernel
theorem dX10_takes_17 : decode cX10_takes 17 = .ok (.iload_n 1, 1) := by decide +kernel
theorem dX10_takes_18 : decode cX10_takes 18 = .ok (.ishl, 1) := by decide +kernel
theorem dX10_takes_19 : decode cX10_takes 19 = .ok (.ior, 1) := by decide +kernel
theorem dX10_takes_20 : decode cX10_takes 20 = .ok (.iastore, 1) := by decide +kernel
theorem dX10_takes_21 : decode cX10_takes 21 = .ok (.aload_n 0, 1) := by decide +kernel
theorem dX10_takes_22 : decode cX10_takes 22 = .ok (.aload_n 0, 1) := by decide +kernel
theorem dX10_takes_23 : decode cX10_takes 23 = .ok (.getfield 31, 3) := by decide +kernel
theorem dX10_takes_26 : decode cX10_takes 26 = .ok (.aload_n 0, 1) := by decide +kernel
theorem dX10_takes_27 : decode cX10_takes 27 = .ok (.getfield 80, 3) := by decide +kernel
theorem dX10_takes_30 : decode cX10_takes 30 = .ok (.iload_n 1, 1) := by decide +kernel
theorem dX10_takes_31 : decode cX10_takes 31 = .ok (.iaload, 1) := by decide +kernel
theorem dX10_takes_32 : decode cX10_takes 32 = .ok (.iaload, 1) := by decide +kernel
theorem dX10_takes_33 : decode cX10_takes 33 = .ok (.putfield 289, 3) := by decide +kernel
theorem dX10_takes_36 : decode cX10_takes 36 = .ok (.aload_n 0, 1) := by decide +kernel
theorem dX10_takes_37 : decode cX10_takes 37 = .ok (.aload_n 0, 1) := by decide +kernel
theorem dX10_takes_38 : decode cX10_takes 38 = .ok (.getfield 58, 3) := by decide +kernel
theorem dX10_takes_41 : decode cX10_takes 41 = .ok (.aload_n 0, 1) := by decide +kernel
theorem dX10_takes_42 : decode cX10_takes 42 = .ok (.getfield 289, 3) := by decide +kernel
theorem dX10_takes_45 : decode cX10_takes 45 = .ok (.iaload, 1) := by decide +kernel
theorem dX10_takes_46 : decode cX10_takes 46 = .ok (.putfield 292, 3) := by decide +kernel
theorem dX10_takes_49 : decode cX10_takes 49 = .ok (.aload_n 0, 1) := by decide +kernel
theorem dX10_takes_50 : decode cX10_takes 50 = .ok (.invokevirtual 322, 3) := by decide +kernel
theorem dX10_takes_53 : decode cX10_takes 53 = .ok (.return_, 1) := by decide +kernel
theorem dX10_start_0 : decode cX10_start 0 = .ok (.aload_n 0, 1) := by decide +kernel
theorem dX10_start_1 : decode cX10_start 1 = .ok (.iconst 0, 1) := by decide +kernel
theorem dX10_start_2 : decode cX10_start 2 = .ok (.putfield 143, 3) := by decide +kernel
theorem dX10_start_5 : decode cX10_start 5 = .ok (.aload_n 0, 1) := by decide +kernel
theorem dX10_start_6 : decode cX10_start 6 = .ok (.getfield 261, 3) := by decide +kernel
theorem dX10_start_9 : decode cX10_start 9 = .ok (.ifCond .ne 9, 3) := by decide +kernel
theorem dX10_start_12 : decode cX10_start 12 = .ok (.aload_n 0, 1) := by decide +kernel
theorem dX10_start_13 : decode cX10_start 13 = .ok (.iconst 1, 1) := by decide +kernel
theorem dX10_start_14 : decode cX10_start 14 = .ok (.invokevirtual 253, 3) := by decide +kernel
theorem dX10_start_17 : decode cX10_start 17 = .ok (.ireturn, 1) := by decide +kernel
theorem dX10_start_18 : decode cX10_start 18 = .ok (.aload_n 0, 1) := by decide +kernel
theorem dX10_start_19 : decode cX10_start 19 = .ok (.iconst 0, 1) := by decide +kernel
theorem dX10_start_20 : decode cX10_start 20 = .ok (.putfield 267, 3) := by decide +kernel
theorem dX10_start_23 : decode cX10_start 23 = .ok (.aload_n 0, 1) := by decide +kernel
theorem dX10_start_24 : decode cX10_start 24 = .ok (.invokevirtual 325, 3) := by decide +kernel
theorem dX10_start_27 : decode cX10_start 27 = .ok (.aload_n 0, 1) := by decide +kernel
theorem dX10_start_28 : decode cX10_start 28 = .ok (.getfield 86, 3) := by decide +kernel
theorem dX10_start_31 : decode cX10_start 31 = .ok (.iconst 0, 1) := by decide +kernel
theorem dX10_start_32 : decode cX10_start 32 = .ok (.iaload, 1) := by decide +kernel
theorem dX10_start_33 : decode cX10_start 33 = .ok (.ireturn, 1) := by decide +kernel
theorem dX10_choose_0 : decode cX10_choose 0 = .ok (.aload_n 0, 1) := by decide +kernel
theorem dX10_choose_1 : decode cX10_choose 1 = .ok (.iconst 0, 1) := by decide +kernel
theorem dX10_choose_2 : decode cX10_choose 2 = .ok (.putfield 143, 3) := by decide +kernel
theorem dX10_choose_5 : decode cX10_choose 5 = .ok (.aload_n 0, 1) := by decide +kernel
theorem dX10_choose_6 : decode cX10_choose 6 = .ok (.getfield 86, 3) := by decide +kernel
theorem dX10_choose_9 : decode cX10_choose 9 = .ok (.iconst 0, 1) := by decide +kernel
theorem dX10_choose_10 : decode cX10_choose 10 = .ok (.iaload, 1) := by decide +kernel
theorem dX10_choose_11 : decode cX10_choose 11 = .ok (.iconst 1, 1) := by decide +kernel
theorem dX10_choose_12 : decode cX10_choose 12 = .ok (.if_icmp .eq 9, 3) := by decide +kernel
theorem dX10_choose_15 : decode cX10_choose 15 = .ok (.aload_n 0, 1) := by decide +kernel
theorem dX10_choose_16 : decode cX10_choose 16 = .ok (.iconst 1, 1) := by decide +kernel
theorem dX10_choose_17 : decode cX10_choose 17 = .ok (.invokevirtual 253, 3) := by decide +kernel
theorem dX10_choose_20 : decode cX10_choose 20 = .ok (.ireturn, 1) := by decide +kernel
theorem dX10_choose_21 : decode cX10_choose 21 = .ok (.iload_n 1, 1) := by decide +kernel
theorem dX10_choose_22 : decode cX10_choose 22 = .ok (.ifCond .ge 7, 3) := by decide +kernel
theorem dX10_choose_25 : decode cX10_choose 25 = .ok (.iconst (-1), 1) := by decide +kernel
theorem dX10_choose_26 : decode cX10_choose 26 = .ok (.goto 8, 3) := by decide +kernel
theorem dX10_choose_29 : decode cX10_choose 29 = .ok (.aload_n 0, 1) := by decide +kernel
theorem dX10_choose_30 : decode cX10_choose 30 = .ok (.iload_n 1, 1) := by decide +kernel
theorem dX10_choose_31 : decode cX10_choose 31 = .ok (.invokevirtual 328, 3) := by decide +kernel
theorem dX10_choose_34 : decode cX10_choose 34 = .ok (.istore_n 2, 1) := by decide +kernel
theorem dX10_choose_35 : decode cX10_choose 35 = .ok (.iload_n 2, 1) := by decide +kernel
theorem dX10_choose_36 : decode cX10_choose 36 = .ok (.iconst (-1), 1) := by decide +kernel
theorem dX10_choose_37 : decode cX10_choose 37 = .ok (.if_icmp .ne 9, 3) := by decide +kernel
theorem dX10_choose_40 : decode cX10_choose 40 = .ok (.aload_n 0, 1) := by decide +kernel
theorem dX10_choose_41 : decode cX10_choose 41 = .ok (.iconst 2, 1) := by decide +kernel
theorem dX10_choose_42 : decode cX10_choose 42 = .ok (.invokevirtual 253, 3) := by decide +kernel
theorem dX10_choose_45 : decode cX10_choose 45 = .ok (.ireturn, 1) := by decide +kernel
theorem dX10_choose_46 : decode cX10_choose 46 = .ok (.iconst 0, 1) := by decide +kernel
theorem dX10_choose_47 : decode cX10_choose 47 = .ok (.istore_n 3, 1) := by decide +kernel
theorem dX10_choose_48 : decode cX10_choose 48 = .ok (.iload_n 3, 1) := by decide +kernel
theorem dX10_choose_49 : decode cX10_choose 49 = .ok (.sipush 341, 3) := by decide +kernel
theorem dX10_choose_52 : decode cX10_choose 52 = .ok (.if_icmp .ge 33, 3) := by decide +kernel
theorem dX10_choose_55 : decode cX10_choose 55 = .ok (.aload_n 0, 1) := by decide +kernel
theorem dX10_choose_56 : decode cX10_choose 56 = .ok (.getfield 267, 3) := by decide +kernel
theorem dX10_choose_59 : decode cX10_choose 59 = .ok (.bipush 12, 2) := by decide +kernel
theorem dX10_choose_61 : decode cX10_choose 61 = .ok (.if_icmp .ne 24, 3) := by decide +kernel
theorem dX10_choose_64 : decode cX10_choose 64 = .ok (.aload_n 0, 1) := by decide +kernel
theorem dX10_choose_65 : decode cX10_choose 65 = .ok (.getfield 89, 3) := by decide +kernel
theorem dX10_choose_68 : decode cX10_choose 68 = .ok (.iload_n 3, 1) := by decide +kernel
theorem dX10_choose_69 : decode cX10_choose 69 = .ok (.aload_n 0, 1) := by decide +kernel
theorem dX10_choose_70 : decode cX10_choose 70 = .ok (.getfield 89, 3) := by decide +kernel
theorem dX10_choose_73 : decode cX10_choose 73 = .ok (.iload_n 3, 1) := by decide +kernel
theorem dX10_choose_74 : decode cX10_choose 74 = .ok (.bipush 31, 2) := by decide +kernel
theorem dX10_choose_76 : decode cX10_choose 76 = .ok (.iadd, 1) := by decide +kernel
theorem dX10_choose_77 : decode cX10_choose 77 = .ok (.iaload, 1) := by decide +kernel
theorem dX10_choose_78 : decode cX10_choose 78 = .ok (.iastore, 1) := by decide +kernel
theorem dX10_choose_79 : decode cX10_choose 79 = .ok (.iinc 3 1, 3) := by decide +kernel
theorem dX10_choose_82 : decode cX10_choose 82 = .ok (.goto (-34), 3) := by decide +kernel
theorem dX10_choose_85 : decode cX10_choose 85 = .ok (.aload_n 0, 1) := by decide +kernel
theorem dX10_choose_86 : decode cX10_choose 86 = .ok (.dup, 1) := by decide +kernel
theorem dX10_choose_87 : decode cX10_choose 87 = .ok (.getfield 267, 3) := by decide +kernel
theorem dX10_choose_90 : decode cX10_choose 90 = .ok (.aload_n 0, 1) := by decide +kernel
theorem dX10_choose_91 : decode cX10_choose 91 = .ok (.getfield 267, 3) := by decide +kernel
theorem dX10_choose_94 : decode cX10_choose 94 = .ok (.bipush 12, 2) := by decide +kernel
theorem dX10_choose_96 : decode cX10_choose 96 = .ok (.if_icmp .ne 7, 3) := by decide +kernel
theorem dX10_choose_99 : decode cX10_choose 99 = .ok (.iconst 1, 1) := by decide +kernel
theorem dX10_choose_100 : decode cX10_choose 100 = .ok (.goto 4, 3) := by decide +kernel
theorem dX10_choose_103 : decode cX10_choose 103 = .ok (.iconst 0, 1) := by decide +kernel
theorem dX10_choose_104 : decode cX10_choose 104 = .ok (.isub, 1) := by decide +kernel
theorem dX10_choose_105 : decode cX10_choose 105 = .ok (.putfield 267, 3) := by decide +kernel
theorem dX10_choose_108 : decode cX10_choose 108 = .ok (.iconst 0, 1) := by decide +kernel
theorem dX10_choose_109 : decode cX10_choose 109 = .ok (.istore_n 3, 1) := by decide +kernel
theorem dX10_choose_110 : decode cX10_choose 110 = .ok (.iload_n 3, 1) := by decide +kernel
theorem dX10_choose_111 : decode cX10_choose 111 = .ok (.bipush 31, 2) := by decide +kernel
theorem dX10_choose_113 : decode cX10_choose 113 = .ok (.if_icmp .ge 29, 3) := by decide +kernel
theorem dX10_choose_116 : decode cX10_choose 116 = .ok (.aload_n 0, 1) := by decide +kernel
theorem dX10_choose_117 : decode cX10_choose 117 = .ok (.getfield 89, 3) := by decide +kernel
theorem dX10_choose_120 : decode cX10_choose 120 = .ok (.bipush 31, 2) := by decide +kernel
theorem dX10_choose_122 : decode cX10_choose 122 = .ok (.aload_n 0, 1) := by decide +kernel
theorem dX10_choose_123 : decode cX10_choose 123 = .ok (.getfield 267, 3) := by decide +kernel
theorem dX10_choose_126 : decode cX10_choose 126 = .ok (.imul, 1) := by decide +kernel
theorem dX10_choose_127 : decode cX10_choose 127 = .ok (.iload_n 3, 1) := by decide +kernel
theorem dX10_choose_128 : decode cX10_choose 128 = .ok (.iadd, 1) := by decide +kernel
theorem dX10_choose_129 : decode cX10_choose 129 = .ok (.aload_n 0, 1) := by decide +kernel
theorem dX10_choose_130 : decode cX10_choose 130 = .ok (.getfield 86, 3) := by decide +kernel
theorem dX10_choose_133 : decode cX10_choose 133 = .ok (.iload_n 3, 1) := by decide +kernel
theorem dX10_choose_134 : decode cX10_choose 134 = .ok (.iaload, 1) := by decide +kernel
theorem dX10_choose_135 : decode cX10_choose 135 = .ok (.iastore, 1) := by decide +kernel
theorem dX10_choose_136 : decode cX10_choose 136 = .ok (.iinc 3 1, 3) := by decide +kernel
theorem dX10_choose_139 : decode cX10_choose 139 = .ok (.goto (-29), 3) := by decide +kernel
theorem dX10_choose_142 : decode cX10_choose 142 = .ok (.aload_n 0, 1) := by decide +kernel
theorem dX10_choose_143 : decode cX10_choose 143 = .ok (.dup, 1) := by decide +kernel
theorem dX10_choose_144 : decode cX10_choose 144 = .ok (.getfield 267, 3) := by decide +kernel
theorem dX10_choose_147 : decode cX10_choose 147 = .ok (.iconst 1, 1) := by decide +kernel
theorem dX10_choose_148 : decode cX10_choose 148 = .ok (.iadd, 1) := by decide +kernel
theorem dX10_choose_149 : decode cX10_choose 149 = .ok (.putfield 267, 3) := by decide +kernel
theorem dX10_choose_152 : decode cX10_choose 152 = .ok (.aload_n 0, 1) := by decide +kernel
theorem dX10_choose_153 : decode cX10_choose 153 = .ok (.iload_n 2, 1) := by decide +kernel
theorem dX10_choose_154 : decode cX10_choose 154 = .ok (.invokevirtual 331, 3) := by decide +kernel
theorem dX10_choose_157 : decode cX10_choose 157 = .ok (.aload_n 0, 1) := by decide +kernel
theorem dX10_choose_158 : decode cX10_choose 158 = .ok (.getfield 86, 3) := by decide +kernel
theorem dX10_choose_161 : decode cX10_choose 161 = .ok (.iconst 0, 1) := by decide +kernel
theorem dX10_choose_162 : decode cX10_choose 162 = .ok (.iaload, 1) := by decide +kernel
theorem dX10_choose_163 : decode cX10_choose 163 = .ok (.ireturn, 1) := by decide +kernel
theorem dX10_back_0 : decode cX10_back 0 = .ok (.aload_n 0, 1) := by decide +kernel
theorem dX10_back_1 : decode cX10_back 1 = .ok (.iconst 0, 1) := by decide +kernel
theorem dX10_back_2 : decode cX10_back 2 = .ok (.putfield 143, 3) := by decide +kernel
theorem dX10_back_5 : decode cX10_back 5 = .ok (.aload_n 0, 1) := by decide +kernel
theorem dX10_back_6 : decode cX10_back 6 = .ok (.getfield 267, 3) := by decide +kernel
theorem dX10_back_9 : decode cX10_back 9 = .ok (.ifCond .ne 9, 3) := by decide +kernel
theorem dX10_back_12 : decode cX10_back 12 = .ok (.aload_n 0, 1) := by decide +kernel
theorem dX10_back_13 : decode cX10_back 13 = .ok (.iconst 1, 1) := by decide +kernel
theorem dX10_back_14 : decode cX10_back 14 = .ok (.invokevirtual 253, 3) := by decide +kernel
theorem dX10_back_17 : decode cX10_back 17 = .ok (.ireturn, 1) := by decide +kernel
theorem dX10_back_18 : decode cX10_back 18 = .ok (.aload_n 0, 1) := by decide +kernel
theorem dX10_back_19 : decode cX10_back 19 = .ok (.dup, 1) := by decide +kernel
theorem dX10_back_20 : decode cX10_back 20 = .ok (.getfield 267, 3) := by decide +kernel
theorem dX10_back_23 : decode cX10_back 23 = .ok (.iconst 1, 1) := by decide +kernel
theorem dX10_back_24 : decode cX10_back 24 = .ok (.isub, 1) := by decide +kernel
theorem dX10_back_25 : decode cX10_back 25 = .ok (.putfield 267, 3) := by decide +kernel
theorem dX10_back_28 : decode cX10_back 28 = .ok (.iconst 0, 1) := by decide +kernel
theorem dX10_back_29 : decode cX10_back 29 = .ok (.istore_n 1, 1) := by decide +kernel
theorem dX10_back_30 : decode cX10_back 30 = .ok (.iload_n 1, 1) := by decide +kernel
theorem dX10_back_31 : decode cX10_back 31 = .ok (.bipush 31, 2) := by decide +kernel
theorem dX10_back_33 : decode cX10_back 33 = .ok (.if_icmp .ge 29, 3) := by decide +kernel
theorem dX10_back_36 : decode cX10_back 36 = .ok (.aload_n 0, 1) := by decide +kernel
theorem dX10_back_37 : decode cX10_back 37 = .ok (.getfield 86, 3) := by decide +kernel
theorem dX10_back_40 : decode cX10_back 40 = .ok (.iload_n 1, 1) := by decide +kernel
theorem dX10_back_41 : decode cX10_back 41 = .ok (.aload_n 0, 1) := by decide +kernel
theorem dX10_back_42 : decode cX10_back 42 = .ok (.getfield 89, 3) := by decide +kernel
theorem dX10_back_45 : decode cX10_back 45 = .ok (.bipush 31, 2) := by decide +kernel
theorem dX10_back_47 : decode cX10_back 47 = .ok (.aload_n 0, 1) := by decide +kernel
theorem dX10_back_48 : decode cX10_back 48 = .ok (.getfield 267, 3) := by decide +kernel
theorem dX10_back_51 : decode cX10_back 51 = .ok (.imul, 1) := by decide +kernel
theorem dX10_back_52 : decode cX10_back 52 = .ok (.iload_n 1, 1) := by decide +kernel
theorem dX10_back_53 : decode cX10_back 53 = .ok (.iadd, 1) := by decide +kernel
theorem dX10_back_54 : decode cX10_back 54 = .ok (.iaload, 1) := by decide +kernel
theorem dX10_back_55 : decode cX10_back 55 = .ok (.iastore, 1) := by decide +kernel
theorem dX10_back_56 : decode cX10_back 56 = .ok (.iinc 1 1, 3) := by decide +kernel
theorem dX10_back_59 : decode cX10_back 59 = .ok (.goto (-29), 3) := by decide +kernel
theorem dX10_back_62 : decode cX10_back 62 = .ok (.aload_n 0, 1) := by decide +kernel
theorem dX10_back_63 : decode cX10_back 63 = .ok (.getfield 267, 3) := by decide +kernel
theorem dX10_back_66 : decode cX10_back 66 = .ok (.ireturn, 1) := by decide +kernel
theorem dX10_status_0 : decode cX10_status 0 = .ok (.aload_n 0, 1) := by decide +kernel
theorem dX10_status_1 : decode cX10_status 1 = .ok (.iconst 0, 1) := by decide +kernel
theorem dX10_status_2 : decode cX10_status 2 = .ok (.putfield 143, 3) := by decide +kernel
theorem dX10_status_5 : decode cX10_status 5 = .ok (.aload_n 0, 1) := by decide +kernel
theorem dX10_status_6 : decode cX10_status 6 = .ok (.getfield 86, 3) := by decide +kernel
theorem dX10_status_9 : decode cX10_status 9 = .ok (.iconst 0, 1) := by decide +kernel
theorem dX10_status_10 : decode cX10_status 10 = .ok (.iaload, 1) := by decide +kernel
theorem dX10_status_11 : decode cX10_status 11 = .ok (.ireturn, 1) := by decide +kernel
theorem dX10_ending_0 : decode cX10_ending 0 = .ok (.aload_n 0, 1) := by decide +kernel
theorem dX10_ending_1 : decode cX10_ending 1 = .ok (.iconst 0, 1) := by decide +kernel
theorem dX10_ending_2 : decode cX10_ending 2 = .ok (.putfield 143, 3) := by decide +kernel
theorem dX10_ending_5 : decode cX10_ending 5 = .ok (.aload_n 0, 1) := by decide +kernel
theorem dX10_ending_6 : decode cX10_ending 6 = .ok (.getfield 86, 3) := by decide +kernel
theorem dX10_ending_9 : decode cX10_ending 9 = .ok (.iconst 0, 1) := by decide +kernel
theorem dX10_ending_10 : decode cX10_ending 10 = .ok (.iaload, 1) := by decide +kernel
theorem dX10_ending_11 : decode cX10_ending 11 = .ok (.iconst 2, 1) := by decide +kernel
theorem dX10_ending_12 : decode cX10_ending 12 = .ok (.if_icmp .ne 12, 3) := by decide +kernel
theorem dX10_ending_15 : decode cX10_ending 15 = .ok (.aload_n 0, 1) := by decide +kernel
theorem dX10_ending_16 : decode cX10_ending 16 = .ok (.getfield 86, 3) := by decide +kernel
theorem dX10_ending_19 : decode cX10_ending 19 = .ok (.iconst 1, 1) := by decide +kernel
theorem dX10_ending_20 : decode cX10_ending 20 = .ok (.iaload, 1) := by decide +kernel
theorem dX10_ending_21 : decode cX10_ending 21 = .ok (.goto 4, 3) := by decide +kernel
theorem dX10_ending_24 : decode cX10_ending 24 = .ok (.iconst (-1), 1) := by decide +kernel
theorem dX10_ending_25 : decode cX10_ending 25 = .ok (.ireturn, 1) := by decide +kernel
theorem dX10_node_0 : decode cX10_node 0 = .ok (.aload_n 0, 1) := by decide +kernel
theorem dX10_node_1 : decode cX10_node 1 = .ok (.iconst 0, 1) := by decide +kernel
theorem dX10_node_2 : decode cX10_node 2 = .ok (.putfield 143, 3) := by decide +kernel
theorem dX10_node_5 : decode cX10_node 5 = .ok (.aload_n 0, 1) := by decide +kernel
theorem dX10_node_6 : decode cX10_node 6 = .ok (.getfield 86, 3) := by decide +kernel
theorem dX10_node_9 : decode cX10_node 9 = .ok (.iconst 0, 1) := by decide +kernel
theorem dX10_node_10 : decode cX10_node 10 = .ok (.iaload, 1) := by decide +kernel
theorem dX10_node_11 : decode cX10_node 11 = .ok (.ifCond .ne 7, 3) := by decide +kernel
theorem dX10_node_14 : decode cX10_node 14 = .ok (.iconst (-1), 1) := by decide +kernel
theorem dX10_node_15 : decode cX10_node 15 = .ok (.goto 9, 3) := by decide +kernel
theorem dX10_node_18 : decode cX10_node 18 = .ok (.aload_n 0, 1) := by decide +kernel
theorem dX10_node_19 : decode cX10_node 19 = .ok (.getfield 86, 3) := by decide +kernel
theorem dX10_node_22 : decode cX10_node 22 = .ok (.iconst 2, 1) := by decide +kernel
theorem dX10_node_23 : decode cX10_node 23 = .ok (.iaload, 1) := by decide +kernel
theorem dX10_node_24 : decode cX10_node 24 = .ok (.ireturn, 1) := by decide +kernel
theorem dX10_hub_0 : decode cX10_hub 0 = .ok (.aload_n 0, 1) := by decide +kernel
theorem dX10_hub_1 : decode cX10_hub 1 = .ok (.iconst 0, 1) := by decide +kernel
theorem dX10_hub_2 : decode cX10_hub 2 = .ok (.putfield 143, 3) := by decide +kernel
theorem dX10_hub_5 : decode cX10_hub 5 = .ok (.aload_n 0, 1) := by decide +kernel
theorem dX10_hub_6 : decode cX10_hub 6 = .ok (.getfield 86, 3) := by decide +kernel
theorem dX10_hub_9 : decode cX10_hub 9 = .ok (.iconst 0, 1) := by decide +kernel
theorem dX10_hub_10 : decode cX10_hub 10 = .ok (.iaload, 1) := by decide +kernel
theorem dX10_hub_11 : decode cX10_hub 11 = .ok (.ifCond .ne 7, 3) := by decide +kernel
theorem dX10_hub_14 : decode cX10_hub 14 = .ok (.iconst (-1), 1) := by decide +kernel
theorem dX10_hub_15 : decode cX10_hub 15 = .ok (.goto 9, 3) := by decide +kernel
theorem dX10_hub_18 : decode cX10_hub 18 = .ok (.aload_n 0, 1) := by decide +kernel
theorem dX10_hub_19 : decode cX10_hub 19 = .ok (.getfield 86, 3) := by decide +kernel
theorem dX10_hub_22 : decode cX10_hub 22 = .ok (.iconst 3, 1) := by decide +kernel
theorem dX10_hub_23 : decode cX10_hub 23 = .ok (.iaload, 1) := by decide +kernel
theorem dX10_hub_24 : decode cX10_hub 24 = .ok (.ireturn, 1) := by decide +kernel
theorem dX10_offered_0 : decode cX10_offered 0 = .ok (.aload_n 0, 1) := by decide +kernel
theorem dX10_offered_1 : decode cX10_offered 1 = .ok (.iconst 0, 1) := by decide +kernel
theorem dX10_offered_2 : decode cX10_offered 2 = .ok (.putfield 143, 3) := by decide +kernel
theorem dX10_offered_5 : decode cX10_offered 5 = .ok (.aload_n 0, 1) := by decide +kernel
theorem dX10_offered_6 : decode cX10_offered 6 = .ok (.getfield 86, 3) := by decide +kernel
theorem dX10_offered_9 : decode cX10_offered 9 = .ok (.bipush 9, 2) := by decide +kernel
theorem dX10_offered_11 : decode cX10_offered 11 = .ok (.iaload, 1) := by decide +kernel
theorem dX10_offered_12 : decode cX10_offered 12 = .ok (.invokestatic 334, 3) := by decide +kernel
theorem dX10_offered_15 : decode cX10_offered 15 = .ok (.ireturn, 1) := by decide +kernel
theorem dX10_choice_0 : decode cX10_choice 0 = .ok (.aload_n 0, 1) := by decide +kernel
theorem dX10_choice_1 : decode cX10_choice 1 = .ok (.iconst 0, 1) := by decide +kernel
theorem dX10_choice_2 : decode cX10_choice 2 = .ok (.putfield 143, 3) := by decide +kernel
theorem dX10_choice_5 : decode cX10_choice 5 = .ok (.iload_n 1, 1) := by decide +kernel
theorem dX10_choice_6 : decode cX10_choice 6 = .ok (.ifCond .ge 7, 3) := by decide +kernel
theorem dX10_choice_9 : decode cX10_choice 9 = .ok (.iconst (-1), 1) := by decide +kernel
theorem dX10_choice_10 : decode cX10_choice 10 = .ok (.goto 8, 3) := by decide +kernel
theorem dX10_choice_13 : decode cX10_choice 13 = .ok (.aload_n 0, 1) := by decide +kernel
theorem dX10_choice_14 : decode cX10_choice 14 = .ok (.iload_n 1, 1) := by decide +kernel
theorem dX10_choice_15 : decode cX10_choice 15 = .ok (.invokevirtual 328, 3) := by decide +kernel
theorem dX10_choice_18 : decode cX10_choice 18 = .ok (.istore_n 2, 1) := by decide +kernel
theorem dX10_choice_19 : decode cX10_choice 19 = .ok (.iload_n 2, 1) := by decide +kernel
theorem dX10_choice_20 : decode cX10_choice 20 = .ok (.iconst (-1), 1) := by decide +kernel
theorem dX10_choice_21 : decode cX10_choice 21 = .ok (.if_icmp .ne 11, 3) := by decide +kernel
theorem dX10_choice_24 : decode cX10_choice 24 = .ok (.aload_n 0, 1) := by decide +kernel
theorem dX10_choice_25 : decode cX10_choice 25 = .ok (.iconst 1, 1) := by decide +kernel
theorem dX10_choice_26 : decode cX10_choice 26 = .ok (.invokevirtual 253, 3) := by decide +kernel
theorem dX10_choice_29 : decode cX10_choice 29 = .ok (.goto 4, 3) := by decide +kernel
theorem dX10_choice_32 : decode cX10_choice 32 = .ok (.iload_n 2, 1) := by decide +kernel
theorem dX10_choice_33 : decode cX10_choice 33 = .ok (.ireturn, 1) := by decide +kernel
theorem dX10_flag_0 : decode cX10_flag 0 = .ok (.aload_n 0, 1) := by decide +kernel
theorem dX10_flag_1 : decode cX10_flag 1 = .ok (.iconst 0, 1) := by decide +kernel
theorem dX10_flag_2 : decode cX10_flag 2 = .ok (.putfield 143, 3) := by decide +kernel
theorem dX10_flag_5 : decode cX10_flag 5 = .ok (.iload_n 1, 1) := by decide +kernel
theorem dX10_flag_6 : decode cX10_flag 6 = .ok (.iconst 0, 1) := by decide +kernel
theorem dX10_flag_7 : decode cX10_flag 7 = .ok (.iconst 5, 1) := by decide +kernel
theorem dX10_flag_8 : decode cX10_flag 8 = .ok (.invokestatic 168, 3) := by decide +kernel
theorem dX10_flag_11 : decode cX10_flag 11 = .ok (.ifCond .eq 16, 3) := by decide +kernel
theorem dX10_flag_14 : decode cX10_flag 14 = .ok (.aload_n 0, 1) := by decide +kernel
theorem dX10_flag_15 : decode cX10_flag 15 = .ok (.getfield 86, 3) := by decide +kernel
theorem dX10_flag_18 : decode cX10_flag 18 = .ok (.iconst 4, 1) := by decide +kernel
theorem dX10_flag_19 : decode cX10_flag 19 = .ok (.iaload, 1) := by decide +kernel
theorem dX10_flag_20 : decode cX10_flag 20 = .ok (.iload_n 1, 1) := by decide +kernel
theorem dX10_flag_21 : decode cX10_flag 21 = .ok (.ishr, 1) := by decide +kernel
theorem dX10_flag_22 : decode cX10_flag 22 = .ok (.iconst 1, 1) := by decide +kernel
theorem dX10_flag_23 : decode cX10_flag 23 = .ok (.iand, 1) := by decide +kernel
theorem dX10_flag_24 : decode cX10_flag 24 = .ok (.goto 8, 3) := by decide +kernel
theorem dX10_flag_27 : decode cX10_flag 27 = .ok (.aload_n 0, 1) := by decide +kernel
theorem dX10_flag_28 : decode cX10_flag 28 = .ok (.iconst 1, 1) := by decide +kernel
theorem dX10_flag_29 : decode cX10_flag 29 = .ok (.invokevirtual 253, 3) := by decide +kernel
theorem dX10_flag_32 : decode cX10_flag 32 = .ok (.ireturn, 1) := by decide +kernel
theorem dX10_meter_0 : decode cX10_meter 0 = .ok (.aload_n 0, 1) := by decide +kernel
theorem dX10_meter_1 : decode cX10_meter 1 = .ok (.iconst 0, 1) := by decide +kernel
theorem dX10_meter_2 : decode cX10_meter 2 = .ok (.putfield 143, 3) := by decide +kernel
theorem dX10_meter_5 : decode cX10_meter 5 = .ok (.iload_n 1, 1) := by decide +kernel
theorem dX10_meter_6 : decode cX10_meter 6 = .ok (.iconst 0, 1) := by decide +kernel
theorem dX10_meter_7 : decode cX10_meter 7 = .ok (.iconst 2, 1) := by decide +kernel
theorem dX10_meter_8 : decode cX10_meter 8 = .ok (.invokestatic 168, 3) := by decide +kernel
theorem dX10_meter_11 : decode cX10_meter 11 = .ok (.ifCond .eq 14, 3) := by decide +kernel
theorem dX10_meter_14 : decode cX10_meter 14 = .ok (.aload_n 0, 1) := by decide +kernel
theorem dX10_meter_15 : decode cX10_meter 15 = .ok (.getfield 86, 3) := by decide +kernel
theorem dX10_meter_18 : decode cX10_meter 18 = .ok (.iconst 5, 1) := by decide +kernel
theorem dX10_meter_19 : decode cX10_meter 19 = .ok (.iload_n 1, 1) := by decide +kernel
theorem dX10_meter_20 : decode cX10_meter 20 = .ok (.iadd, 1) := by decide +kernel
theorem dX10_meter_21 : decode cX10_meter 21 = .ok (.iaload, 1) := by decide +kernel
theorem dX10_meter_22 : decode cX10_meter 22 = .ok (.goto 8, 3) := by decide +kernel
theorem dX10_meter_25 : decode cX10_meter 25 = .ok (.aload_n 0, 1) := by decide +kernel
theorem dX10_meter_26 : decode cX10_meter 26 = .ok (.iconst 1, 1) := by decide +kernel
theorem dX10_meter_27 : decode cX10_meter 27 = .ok (.invokevirtual 253, 3) := by decide +kernel
theorem dX10_meter_30 : decode cX10_meter 30 = .ok (.ireturn, 1) := by decide +kernel
theorem dX10_said_0 : decode cX10_said 0 = .ok (.aload_n 0, 1) := by decide +kernel
theorem dX10_said_1 : decode cX10_said 1 = .ok (.iconst 0, 1) := by decide +kernel
theorem dX10_said_2 : decode cX10_said 2 = .ok (.putfield 143, 3) := by decide +kernel
theorem dX10_said_5 : decode cX10_said 5 = .ok (.aload_n 0, 1) := by decide +kernel
theorem dX10_said_6 : decode cX10_said 6 = .ok (.getfield 86, 3) := by decide +kernel
theorem dX10_said_9 : decode cX10_said 9 = .ok (.bipush 10, 2) := by decide +kernel
theorem dX10_said_11 : decode cX10_said 11 = .ok (.iaload, 1) := by decide +kernel
theorem dX10_said_12 : decode cX10_said 12 = .ok (.ireturn, 1) := by decide +kernel
theorem dX10_line_0 : decode cX10_line 0 = .ok (.aload_n 0, 1) := by decide +kernel
theorem dX10_line_1 : decode cX10_line 1 = .ok (.iconst 0, 1) := by decide +kernel
theorem dX10_line_2 : decode cX10_line 2 = .ok (.putfield 143, 3) := by decide +kernel
theorem dX10_line_5 : decode cX10_line 5 = .ok (.iload_n 1, 1) := by decide +kernel
theorem dX10_line_6 : decode cX10_line 6 = .ok (.iconst 0, 1) := by decide +kernel
theorem dX10_line_7 : decode cX10_line 7 = .ok (.bipush 19, 2) := by decide +kernel
theorem dX10_line_9 : decode cX10_line 9 = .ok (.invokestatic 168, 3) := by decide +kernel
theorem dX10_line_12 : decode cX10_line 12 = .ok (.ifCond .ne 9, 3) := by decide +kernel
theorem dX10_line_15 : decode cX10_line 15 = .ok (.aload_n 0, 1) := by decide +kernel
theorem dX10_line_16 : decode cX10_line 16 = .ok (.iconst 1, 1) := by decide +kernel
theorem dX10_line_17 : decode cX10_line 17 = .ok (.invokevirtual 253, 3) := by decide +kernel
theorem dX10_line_20 : decode cX10_line 20 = .ok (.ireturn, 1) := by decide +kernel
theorem dX10_line_21 : decode cX10_line 21 = .ok (.iload_n 1, 1) := by decide +kernel
theorem dX10_line_22 : decode cX10_line 22 = .ok (.aload_n 0, 1) := by decide +kernel
theorem dX10_line_23 : decode cX10_line 23 = .ok (.getfield 86, 3) := by decide +kernel
theorem dX10_line_26 : decode cX10_line 26 = .ok (.bipush 10, 2) := by decide +kernel
theorem dX10_line_28 : decode cX10_line 28 = .ok (.iaload, 1) := by decide +kernel
theorem dX10_line_29 : decode cX10_line 29 = .ok (.if_icmp .ge 15, 3) := by decide +kernel
theorem dX10_line_32 : decode cX10_line 32 = .ok (.aload_n 0, 1) := by decide +kernel
theorem dX10_line_33 : decode cX10_line 33 = .ok (.getfield 86, 3) := by decide +kernel
theorem dX10_line_36 : decode cX10_line 36 = .ok (.bipush 11, 2) := by decide +kernel
theorem dX10_line_38 : decode cX10_line 38 = .ok (.iload_n 1, 1) := by decide +kernel
theorem dX10_line_39 : decode cX10_line 39 = .ok (.iadd, 1) := by decide +kernel
theorem dX10_line_40 : decode cX10_line 40 = .ok (.iaload, 1) := by decide +kernel
theorem dX10_line_41 : decode cX10_line 41 = .ok (.goto 4, 3) := by decide +kernel
theorem dX10_line_44 : decode cX10_line 44 = .ok (.iconst (-1), 1) := by decide +kernel
theorem dX10_line_45 : decode cX10_line 45 = .ok (.ireturn, 1) := by decide +kernel
theorem dX10_hubChoices_0 : decode cX10_hubChoices 0 = .ok (.iconst 0, 1) := by decide +kernel
theorem dX10_hubChoices_1 : decode cX10_hubChoices 1 = .ok (.istore_n 1, 1) := by decide +kernel
theorem dX10_hubChoices_2 : decode cX10_hubChoices 2 = .ok (.iconst 0, 1) := by decide +kernel
theorem dX10_hubChoices_3 : decode cX10_hubChoices 3 = .ok (.istore_n 2, 1) := by decide +kernel
theorem dX10_hubChoices_4 : decode cX10_hubChoices 4 = .ok (.iload_n 2, 1) := by decide +kernel
theorem dX10_hubChoices_5 : decode cX10_hubChoices 5 = .ok (.aload_n 0, 1) := by decide +kernel
theorem dX10_hubChoices_6 : decode cX10_hubChoices 6 = .ok (.getfield 222, 3) := by decide +kernel
theorem dX10_hubChoices_9 : decode cX10_hubChoices 9 = .ok (.if_icmp .ge 32, 3) := by decide +kernel
theorem dX10_hubChoices_12 : decode cX10_hubChoices 12 = .ok (.iload_n 1, 1) := by decide +kernel
theorem dX10_hubChoices_13 : decode cX10_hubChoices 13 = .ok (.aload_n 0, 1) := by decide +kernel
theorem dX10_hubChoices_14 : decode cX10_hubChoices 14 = .ok (.getfield 70, 3) := by decide +kernel
theorem dX10_hubChoices_17 : decode cX10_hubChoices 17 = .ok (.aload_n 0, 1) := by decide +kernel
theorem dX10_hubChoices_18 : decode cX10_hubChoices 18 = .ok (.iload_n 2, 1) := by decide +kernel
theorem dX10_hubChoices_19 : decode cX10_hubChoices 19 = .ok (.invokevirtual 283, 3) := by decide +kernel
theorem dX10_hubChoices_22 : decode cX10_hubChoices 22 = .ok (.baload, 1) := by decide +kernel
theorem dX10_hubChoices_23 : decode cX10_hubChoices 23 = .ok (.ifCond .eq 9, 3) := by decide +kernel
theorem dX10_hubChoices_26 : decode cX10_hubChoices 26 = .ok (.iconst 1, 1) := by decide +kernel
theorem dX10_hubChoices_27 : decode cX10_hubChoices 27 = .ok (.iload_n 2, 1) := by decide +kernel
theorem dX10_hubChoices_28 : decode cX10_hubChoices 28 = .ok (.ishl, 1) := by decide +kernel
theorem dX10_hubChoices_29 : decode cX10_hubChoices 29 = .ok (.goto 4, 3) := by decide +kernel
theorem dX10_hubChoices_32 : decode cX10_hubChoices 32 = .ok (.iconst 0, 1) := by decide +kernel
theorem dX10_hubChoices_33 : decode cX10_hubChoices 33 = .ok (.ior, 1) := by decide +kernel
theorem dX10_hubChoices_34 : decode cX10_hubChoices 34 = .ok (.istore_n 1, 1) := by decide +kernel
theorem dX10_hubChoices_35 : decode cX10_hubChoices 35 = .ok (.iinc 2 1, 3) := by decide +kernel
theorem dX10_hubChoices_38 : decode cX10_hubChoices 38 = .ok (.goto (-34), 3) := by decide +kernel
theorem dX10_hubChoices_41 : decode cX10_hubChoices 41 = .ok (.iload_n 1, 1) := by decide +kernel
theorem dX10_hubChoices_42 : decode cX10_hubChoices 42 = .ok (.ireturn, 1) := by decide +kernel
theorem dX10_ofState_0 : decode cX10_ofState 0 = .ok (.iload_n 1, 1) := by decide +kernel
theorem dX10_ofState_1 : decode cX10_ofState 1 = .ok (.ifCond .ne 12, 3) := by decide +kernel
theorem dX10_ofState_4 : decode cX10_ofState 4 = .ok (.aload_n 0, 1) := by decide +kernel
theorem dX10_ofState_5 : decode cX10_ofState 5 = .ok (.getfield 86, 3) := by decide +kernel
theorem dX10_ofState_8 : decode cX10_ofState 8 = .ok (.iconst 2, 1) := by decide +kernel
theorem dX10_ofState_9 : decode cX10_ofState 9 = .ok (.iaload, 1) := by decide +kernel
theorem dX10_ofState_10 : decode cX10_ofState 10 = .ok (.goto 78, 3) := by decide +kernel
theorem dX10_ofState_13 : decode cX10_ofState 13 = .ok (.iload_n 1, 1) := by decide +kernel
theorem dX10_ofState_14 : decode cX10_ofState 14 = .ok (.iconst 1, 1) := by decide +kernel
theorem dX10_ofState_15 : decode cX10_ofState 15 = .ok (.if_icmp .ne 12, 3) := by decide +kernel
theorem dX10_ofState_18 : decode cX10_ofState 18 = .ok (.aload_n 0, 1) := by decide +kernel
theorem dX10_ofState_19 : decode cX10_ofState 19 = .ok (.getfield 86, 3) := by decide +kernel
theorem dX10_ofState_22 : decode cX10_ofState 22 = .ok (.iconst 3, 1) := by decide +kernel
theorem dX10_ofState_23 : decode cX10_ofState 23 = .ok (.iaload, 1) := by decide +kernel
theorem dX10_ofState_24 : decode cX10_ofState 24 = .ok (.goto 64, 3) := by decide +kernel
theorem dX10_ofState_27 : decode cX10_ofState 27 = .ok (.iload_n 1, 1) := by decide +kernel
theorem dX10_ofState_28 : decode cX10_ofState 28 = .ok (.iconst 2, 1) := by decide +kernel
theorem dX10_ofState_29 : decode cX10_ofState 29 = .ok (.if_icmp .ne 12, 3) := by decide +kernel
theorem dX10_ofState_32 : decode cX10_ofState 32 = .ok (.aload_n 0, 1) := by decide +kernel
theorem dX10_ofState_33 : decode cX10_ofState 33 = .ok (.getfield 86, 3) := by decide +kernel
theorem dX10_ofState_36 : decode cX10_ofState 36 = .ok (.iconst 4, 1) := by decide +kernel
theorem dX10_ofState_37 : decode cX10_ofState 37 = .ok (.iaload, 1) := by decide +kernel
theorem dX10_ofState_38 : decode cX10_ofState 38 = .ok (.goto 50, 3) := by decide +kernel
theorem dX10_ofState_41 : decode cX10_ofState 41 = .ok (.iload_n 1, 1) := by decide +kernel
theorem dX10_ofState_42 : decode cX10_ofState 42 = .ok (.bipush 6, 2) := by decide +kernel
theorem dX10_ofState_44 : decode cX10_ofState 44 = .ok (.if_icmp .ge 16, 3) := by decide +kernel
theorem dX10_ofState_47 : decode cX10_ofState 47 = .ok (.aload_n 0, 1) := by decide +kernel
theorem dX10_ofState_48 : decode cX10_ofState 48 = .ok (.getfield 86, 3) := by decide +kernel
theorem dX10_ofState_51 : decode cX10_ofState 51 = .ok (.iconst 5, 1) := by decide +kernel
theorem dX10_ofState_52 : decode cX10_ofState 52 = .ok (.iload_n 1, 1) := by decide +kernel
theorem dX10_ofState_53 : decode cX10_ofState 53 = .ok (.iadd, 1) := by decide +kernel
theorem dX10_ofState_54 : decode cX10_ofState 54 = .ok (.iconst 3, 1) := by decide +kernel
theorem dX10_ofState_55 : decode cX10_ofState 55 = .ok (.isub, 1) := by decide +kernel
theorem dX10_ofState_56 : decode cX10_ofState 56 = .ok (.iaload, 1) := by decide +kernel
theorem dX10_ofState_57 : decode cX10_ofState 57 = .ok (.goto 31, 3) := by decide +kernel
theorem dX10_ofState_60 : decode cX10_ofState 60 = .ok (.iload_n 1, 1) := by decide +kernel
theorem dX10_ofState_61 : decode cX10_ofState 61 = .ok (.bipush 6, 2) := by decide +kernel
theorem dX10_ofState_63 : decode cX10_ofState 63 = .ok (.if_icmp .ne 18, 3) := by decide +kernel
theorem dX10_ofState_66 : decode cX10_ofState 66 = .ok (.aload_n 0, 1) := by decide +kernel
theorem dX10_ofState_67 : decode cX10_ofState 67 = .ok (.getfield 86, 3) := by decide +kernel
theorem dX10_ofState_70 : decode cX10_ofState 70 = .ok (.bipush 8, 2) := by decide +kernel
theorem dX10_ofState_72 : decode cX10_ofState 72 = .ok (.iaload, 1) := by decide +kernel
theorem dX10_ofState_73 : decode cX10_ofState 73 = .ok (.aload_n 0, 1) := by decide +kernel
theorem dX10_ofState_74 : decode cX10_ofState 74 = .ok (.invokevirtual 337, 3) := by decide +kernel
theorem dX10_ofState_77 : decode cX10_ofState 77 = .ok (.iand, 1) := by decide +kernel
theorem dX10_ofState_78 : decode cX10_ofState 78 = .ok (.goto 10, 3) := by decide +kernel
theorem dX10_ofState_81 : decode cX10_ofState 81 = .ok (.aload_n 0, 1) := by decide +kernel
theorem dX10_ofState_82 : decode cX10_ofState 82 = .ok (.getfield 86, 3) := by decide +kernel
theorem dX10_ofState_85 : decode cX10_ofState 85 = .ok (.bipush 9, 2) := by decide +kernel
theorem dX10_ofState_87 : decode cX10_ofState 87 = .ok (.iaload, 1) := by decide +kernel
theorem dX10_ofState_88 : decode cX10_ofState 88 = .ok (.ireturn, 1) := by decide +kernel
theorem dX10_isFound_0 : decode cX10_isFound 0 = .ok (.iconst 0, 1) := by decide +kernel
theorem dX10_isFound_1 : decode cX10_isFound 1 = .ok (.istore_n 1, 1) := by decide +kernel
theorem dX10_isFound_2 : decode cX10_isFound 2 = .ok (.iload_n 1, 1) := by decide +kernel
theorem dX10_isFound_3 : decode cX10_isFound 3 = .ok (.aload_n 0, 1) := by decide +kernel
theorem dX10_isFound_4 : decode cX10_isFound 4 = .ok (.getfield 340, 3) := by decide +kernel
theorem dX10_isFound_7 : decode cX10_isFound 7 = .ok (.if_icmp .ge 60, 3) := by decide +kernel
theorem dX10_isFound_10 : decode cX10_isFound 10 = .ok (.iconst 1, 1) := by decide +kernel
theorem dX10_isFound_11 : decode cX10_isFound 11 = .ok (.istore_n 2, 1) := by decide +kernel
theorem dX10_isFound_12 : decode cX10_isFound 12 = .ok (.iconst 0, 1) := by decide +kernel
theorem dX10_isFound_13 : decode cX10_isFound 13 = .ok (.istore_n 3, 1) := by decide +kernel
theorem dX10_isFound_14 : decode cX10_isFound 14 = .ok (.iload_n 3, 1) := by decide +kernel
theorem dX10_isFound_15 : decode cX10_isFound 15 = .ok (.bipush 8, 2) := by decide +kernel
theorem dX10_isFound_17 : decode cX10_isFound 17 = .ok (.if_icmp .ge 38, 3) := by decide +kernel
theorem dX10_isFound_20 : decode cX10_isFound 20 = .ok (.iload_n 2, 1) := by decide +kernel
theorem dX10_isFound_21 : decode cX10_isFound 21 = .ok (.ifCond .eq 26, 3) := by decide +kernel
theorem dX10_isFound_24 : decode cX10_isFound 24 = .ok (.aload_n 0, 1) := by decide +kernel
theorem dX10_isFound_25 : decode cX10_isFound 25 = .ok (.getfield 104, 3) := by decide +kernel
theorem dX10_isFound_28 : decode cX10_isFound 28 = .ok (.bipush 11, 2) := by decide +kernel
theorem dX10_isFound_30 : decode cX10_isFound 30 = .ok (.iload_n 1, 1) := by decide +kernel
theorem dX10_isFound_31 : decode cX10_isFound 31 = .ok (.imul, 1) := by decide +kernel
theorem dX10_isFound_32 : decode cX10_isFound 32 = .ok (.iload_n 3, 1) := by decide +kernel
theorem dX10_isFound_33 : decode cX10_isFound 33 = .ok (.iadd, 1) := by decide +kernel
theorem dX10_isFound_34 : decode cX10_isFound 34 = .ok (.iaload, 1) := by decide +kernel
theorem dX10_isFound_35 : decode cX10_isFound 35 = .ok (.aload_n 0, 1) := by decide +kernel
theorem dX10_isFound_36 : decode cX10_isFound 36 = .ok (.iload_n 3, 1) := by decide +kernel
theorem dX10_isFound_37 : decode cX10_isFound 37 = .ok (.invokevirtual 343, 3) := by decide +kernel
theorem dX10_isFound_40 : decode cX10_isFound 40 = .ok (.if_icmp .ne 7, 3) := by decide +kernel
theorem dX10_isFound_43 : decode cX10_isFound 43 = .ok (.iconst 1, 1) := by decide +kernel
theorem dX10_isFound_44 : decode cX10_isFound 44 = .ok (.goto 4, 3) := by decide +kernel
theorem dX10_isFound_47 : decode cX10_isFound 47 = .ok (.iconst 0, 1) := by decide +kernel
theorem dX10_isFound_48 : decode cX10_isFound 48 = .ok (.istore_n 2, 1) := by decide +kernel
theorem dX10_isFound_49 : decode cX10_isFound 49 = .ok (.iinc 3 1, 3) := by decide +kernel
theorem dX10_isFound_52 : decode cX10_isFound 52 = .ok (.goto (-38), 3) := by decide +kernel
theorem dX10_isFound_55 : decode cX10_isFound 55 = .ok (.iload_n 2, 1) := by decide +kernel
theorem dX10_isFound_56 : decode cX10_isFound 56 = .ok (.ifCond .eq 5, 3) := by decide +kernel
theorem dX10_isFound_59 : decode cX10_isFound 59 = .ok (.iconst 1, 1) := by decide +kernel
theorem dX10_isFound_60 : decode cX10_isFound 60 = .ok (.ireturn, 1) := by decide +kernel
theorem dX10_isFound_61 : decode cX10_isFound 61 = .ok (.iinc 1 1, 3) := by decide +kernel
theorem dX10_isFound_64 : decode cX10_isFound 64 = .ok (.goto (-62), 3) := by decide +kernel
theorem dX10_isFound_67 : decode cX10_isFound 67 = .ok (.iconst 0, 1) := by decide +kernel
theorem dX10_isFound_68 : decode cX10_isFound 68 = .ok (.ireturn, 1) := by decide +kernel
theorem dX10_notes_0 : decode cX10_notes 0 = .ok (.aload_n 0, 1) := by decide +kernel
theorem dX10_notes_1 : decode cX10_notes 1 = .ok (.getfield 86, 3) := by decide +kernel
theorem dX10_notes_4 : decode cX10_notes 4 = .ok (.iconst 0, 1) := by decide +kernel
theorem dX10_notes_5 : decode cX10_notes 5 = .ok (.iaload, 1) := by decide +kernel
theorem dX10_notes_6 : decode cX10_notes 6 = .ok (.iconst 1, 1) := by decide +kernel
theorem dX10_notes_7 : decode cX10_notes 7 = .ok (.if_icmp .eq 66, 3) := by decide +kernel
theorem dX10_notes_10 : decode cX10_notes 10 = .ok (.aload_n 0, 1) := by decide +kernel
theorem dX10_notes_11 : decode cX10_notes 11 = .ok (.getfield 86, 3) := by decide +kernel
theorem dX10_notes_14 : decode cX10_notes 14 = .ok (.iconst 0, 1) := by decide +kernel
theorem dX10_notes_15 : decode cX10_notes 15 = .ok (.iaload, 1) := by decide +kernel
theorem dX10_notes_16 : decode cX10_notes 16 = .ok (.iconst 2, 1) := by decide +kernel
theorem dX10_notes_17 : decode cX10_notes 17 = .ok (.if_icmp .ne 12, 3) := by decide +kernel
theorem dX10_notes_20 : decode cX10_notes 20 = .ok (.aload_n 0, 1) := by decide +kernel
theorem dX10_notes_21 : decode cX10_notes 21 = .ok (.getfield 86, 3) := by decide +kernel
theorem dX10_notes_24 : decode cX10_notes 24 = .ok (.iconst 1, 1) := by decide +kernel
theorem dX10_notes_25 : decode cX10_notes 25 = .ok (.iaload, 1) := by decide +kernel
theorem dX10_notes_26 : decode cX10_notes 26 = .ok (.goto 12, 3) := by decide +kernel
theorem dX10_notes_29 : decode cX10_notes 29 = .ok (.bipush 7, 2) := by decide +kernel
theorem dX10_notes_31 : decode cX10_notes 31 = .ok (.aload_n 0, 1) := by decide +kernel
theorem dX10_notes_32 : decode cX10_notes 32 = .ok (.getfield 86, 3) := by decide +kernel
theorem dX10_notes_35 : decode cX10_notes 35 = .ok (.iconst 0, 1) := by decide +kernel
theorem dX10_notes_36 : decode cX10_notes 36 = .ok (.iaload, 1) := by decide +kernel
theorem dX10_notes_37 : decode cX10_notes 37 = .ok (.iadd, 1) := by decide +kernel
theorem dX10_notes_38 : decode cX10_notes 38 = .ok (.istore_n 3, 1) := by decide +kernel
theorem dX10_notes_39 : decode cX10_notes 39 = .ok (.aload_n 0, 1) := by decide +kernel
theorem dX10_notes_40 : decode cX10_notes 40 = .ok (.getfield 107, 3) := by decide +kernel
theorem dX10_notes_43 : decode cX10_notes 43 = .ok (.iload_n 3, 1) := by decide +kernel
theorem dX10_notes_44 : decode cX10_notes 44 = .ok (.iaload, 1) := by decide +kernel
theorem dX10_notes_45 : decode cX10_notes 45 = .ok (.ifCond .ne 17, 3) := by decide +kernel
theorem dX10_notes_48 : decode cX10_notes 48 = .ok (.aload_n 0, 1) := by decide +kernel
theorem dX10_notes_49 : decode cX10_notes 49 = .ok (.getfield 110, 3) := by decide +kernel
theorem dX10_notes_52 : decode cX10_notes 52 = .ok (.iload_n 3, 1) := by decide +kernel
theorem dX10_notes_53 : decode cX10_notes 53 = .ok (.iload_n 1, 1) := by decide +kernel
theorem dX10_notes_54 : decode cX10_notes 54 = .ok (.iastore, 1) := by decide +kernel
theorem dX10_notes_55 : decode cX10_notes 55 = .ok (.aload_n 0, 1) := by decide +kernel
theorem dX10_notes_56 : decode cX10_notes 56 = .ok (.getfield 113, 3) := by decide +kernel
theorem dX10_notes_59 : decode cX10_notes 59 = .ok (.iload_n 3, 1) := by decide +kernel
theorem dX10_notes_60 : decode cX10_notes 60 = .ok (.iload_n 2, 1) := by decide +kernel
theorem dX10_notes_61 : decode cX10_notes 61 = .ok (.iastore, 1) := by decide +kernel
theorem dX10_notes_62 : decode cX10_notes 62 = .ok (.aload_n 0, 1) := by decide +kernel
theorem dX10_notes_63 : decode cX10_notes 63 = .ok (.getfield 107, 3) := by decide +kernel
theorem dX10_notes_66 : decode cX10_notes 66 = .ok (.iload_n 3, 1) := by decide +kernel
theorem dX10_notes_67 : decode cX10_notes 67 = .ok (.dup2, 1) := by decide +kernel
theorem dX10_notes_68 : decode cX10_notes 68 = .ok (.iaload, 1) := by decide +kernel
theorem dX10_notes_69 : decode cX10_notes 69 = .ok (.iconst 1, 1) := by decide +kernel
theorem dX10_notes_70 : decode cX10_notes 70 = .ok (.iadd, 1) := by decide +kernel
theorem dX10_notes_71 : decode cX10_notes 71 = .ok (.iastore, 1) := by decide +kernel
theorem dX10_notes_72 : decode cX10_notes 72 = .ok (.return_, 1) := by decide +kernel
theorem dX10_notes_73 : decode cX10_notes 73 = .ok (.aload_n 0, 1) := by decide +kernel
theorem dX10_notes_74 : decode cX10_notes 74 = .ok (.invokevirtual 346, 3) := by decide +kernel
theorem dX10_notes_77 : decode cX10_notes 77 = .ok (.ifCond .eq 4, 3) := by decide +kernel
theorem dX10_notes_80 : decode cX10_notes 80 = .ok (.return_, 1) := by decide +kernel
theorem dX10_notes_81 : decode cX10_notes 81 = .ok (.aload_n 0, 1) := by decide +kernel
theorem dX10_notes_82 : decode cX10_notes 82 = .ok (.getfield 340, 3) := by decide +kernel
theorem dX10_notes_85 : decode cX10_notes 85 = .ok (.aload_n 0, 1) := by decide +kernel
theorem dX10_notes_86 : decode cX10_notes 86 = .ok (.getfield 349, 3) := by decide +kernel
theorem dX10_notes_89 : decode cX10_notes 89 = .ok (.if_icmp .ne 9, 3) := by decide +kernel
theorem dX10_notes_92 : decode cX10_notes 92 = .ok (.aload_n 0, 1) := by decide +kernel
theorem dX10_notes_93 : decode cX10_notes 93 = .ok (.iconst 0, 1) := by decide +kernel
theorem dX10_notes_94 : decode cX10_notes 94 = .ok (.putfield 352, 3) := by decide +kernel
theorem dX10_notes_97 : decode cX10_notes 97 = .ok (.return_, 1) := by decide +kernel
theorem dX10_notes_98 : decode cX10_notes 98 = .ok (.iconst 0, 1) := by decide +kernel
theorem dX10_notes_99 : decode cX10_notes 99 = .ok (.istore_n 3, 1) := by decide +kernel
theorem dX10_notes_100 : decode cX10_notes 100 = .ok (.iload_n 3, 1) := by decide +kernel
theorem dX10_notes_101 : decode cX10_notes 101 = .ok (.bipush 8, 2) := by decide +kernel
theorem dX10_notes_103 : decode cX10_notes 103 = .ok (.if_icmp .ge 28, 3) := by decide +kernel
theorem dX10_notes_106 : decode cX10_notes 106 = .ok (.aload_n 0, 1) := by decide +kernel
theorem dX10_notes_107 : decode cX10_notes 107 = .ok (.getfield 104, 3) := by decide +kernel
theorem dX10_notes_110 : decode cX10_notes 110 = .ok (.bipush 11, 2) := by decide +kernel
theorem dX10_notes_112 : decode cX10_notes 112 = .ok (.aload_n 0, 1) := by decide +kernel
theorem dX10_notes_113 : decode cX10_notes 113 = .ok (.getfield 340, 3) := by decide +kernel
theorem dX10_notes_116 : decode cX10_notes 116 = .ok (.imul, 1) := by decide +kernel
theorem dX10_notes_117 : decode cX10_notes 117 = .ok (.iload_n 3, 1) := by decide +kernel
theorem dX10_notes_118 : decode cX10_notes 118 = .ok (.iadd, 1) := by decide +kernel
theorem dX10_notes_119 : decode cX10_notes 119 = .ok (.aload_n 0, 1) := by decide +kernel
theorem dX10_notes_120 : decode cX10_notes 120 = .ok (.iload_n 3, 1) := by decide +kernel
theorem dX10_notes_121 : decode cX10_notes 121 = .ok (.invokevirtual 343, 3) := by decide +kernel
theorem dX10_notes_124 : decode cX10_notes 124 = .ok (.iastore, 1) := by decide +kernel
theorem dX10_notes_125 : decode cX10_notes 125 = .ok (.iinc 3 1, 3) := by decide +kernel
theorem dX10_notes_128 : decode cX10_notes 128 = .ok (.goto (-28), 3) := by decide +kernel
theorem dX10_notes_131 : decode cX10_notes 131 = .ok (.aload_n 0, 1) := by decide +kernel
theorem dX10_notes_132 : decode cX10_notes 132 = .ok (.getfield 104, 3) := by decide +kernel
theorem dX10_notes_135 : decode cX10_notes 135 = .ok (.bipush 11, 2) := by decide +kernel
theorem dX10_notes_137 : decode cX10_notes 137 = .ok (.aload_n 0, 1) := by decide +kernel
theorem dX10_notes_138 : decode cX10_notes 138 = .ok (.getfield 340, 3) := by decide +kernel
theorem dX10_notes_141 : decode cX10_notes 141 = .ok (.imul, 1) := by decide +kernel
theorem dX10_notes_142 : decode cX10_notes 142 = .ok (.bipush 8, 2) := by decide +kernel
theorem dX10_notes_144 : decode cX10_notes 144 = .ok (.iadd, 1) := by decide +kernel
theorem dX10_notes_145 : decode cX10_notes 145 = .ok (.iload_n 1, 1) := by decide +kernel
theorem dX10_notes_146 : decode cX10_notes 146 = .ok (.iastore, 1) := by decide +kernel
theorem dX10_notes_147 : decode cX10_notes 147 = .ok (.aload_n 0, 1) := by decide +kernel
theorem dX10_notes_148 : decode cX10_notes 148 = .ok (.getfield 104, 3) := by decide +kernel
theorem dX10_notes_151 : decode cX10_notes 151 = .ok (.bipush 11, 2) := by decide +kernel
theorem dX10_notes_153 : decode cX10_notes 153 = .ok (.aload_n 0, 1) := by decide +kernel
theorem dX10_notes_154 : decode cX10_notes 154 = .ok (.getfield 340, 3) := by decide +kernel
theorem dX10_notes_157 : decode cX10_notes 157 = .ok (.imul, 1) := by decide +kernel
theorem dX10_notes_158 : decode cX10_notes 158 = .ok (.bipush 9, 2) := by decide +kernel
theorem dX10_notes_160 : decode cX10_notes 160 = .ok (.iadd, 1) := by decide +kernel
theorem dX10_notes_161 : decode cX10_notes 161 = .ok (.iload_n 2, 1) := by decide +kernel
theorem dX10_notes_162 : decode cX10_notes 162 = .ok (.iastore, 1) := by decide +kernel
theorem dX10_notes_163 : decode cX10_notes 163 = .ok (.aload_n 0, 1) := by decide +kernel
theorem dX10_notes_164 : decode cX10_notes 164 = .ok (.getfield 104, 3) := by decide +kernel
theorem dX10_notes_167 : decode cX10_notes 167 = .ok (.bipush 11, 2) := by decide +kernel
theorem dX10_notes_169 : decode cX10_notes 169 = .ok (.aload_n 0, 1) := by decide +kernel
theorem dX10_notes_170 : decode cX10_notes 170 = .ok (.getfield 340, 3) := by decide +kernel
theorem dX10_notes_173 : decode cX10_notes 173 = .ok (.imul, 1) := by decide +kernel
theorem dX10_notes_174 : decode cX10_notes 174 = .ok (.bipush 10, 2) := by decide +kernel
theorem dX10_notes_176 : decode cX10_notes 176 = .ok (.iadd, 1) := by decide +kernel
theorem dX10_notes_177 : decode cX10_notes 177 = .ok (.iload_n 1, 1) := by decide +kernel
theorem dX10_notes_178 : decode cX10_notes 178 = .ok (.ifCond .ge 7, 3) := by decide +kernel
theorem dX10_notes_181 : decode cX10_notes 181 = .ok (.iconst 0, 1) := by decide +kernel
theorem dX10_notes_182 : decode cX10_notes 182 = .ok (.goto 17, 3) := by decide +kernel
theorem dX10_notes_185 : decode cX10_notes 185 = .ok (.aload_n 0, 1) := by decide +kernel
theorem dX10_notes_186 : decode cX10_notes 186 = .ok (.getfield 104, 3) := by decide +kernel
theorem dX10_notes_189 : decode cX10_notes 189 = .ok (.bipush 11, 2) := by decide +kernel
theorem dX10_notes_191 : decode cX10_notes 191 = .ok (.iload_n 1, 1) := by decide +kernel
theorem dX10_notes_192 : decode cX10_notes 192 = .ok (.imul, 1) := by decide +kernel
theorem dX10_notes_193 : decode cX10_notes 193 = .ok (.bipush 10, 2) := by decide +kernel
theorem dX10_notes_195 : decode cX10_notes 195 = .ok (.iadd, 1) := by decide +kernel
theorem dX10_notes_196 : decode cX10_notes 196 = .ok (.iaload, 1) := by decide +kernel
theorem dX10_notes_197 : decode cX10_notes 197 = .ok (.iconst 1, 1) := by decide +kernel
theorem dX10_notes_198 : decode cX10_notes 198 = .ok (.iadd, 1) := by decide +kernel
theorem dX10_notes_199 : decode cX10_notes 199 = .ok (.iastore, 1) := by decide +kernel
theorem dX10_notes_200 : decode cX10_notes 200 = .ok (.aload_n 0, 1) := by decide +kernel
theorem dX10_notes_201 : decode cX10_notes 201 = .ok (.dup, 1) := by decide +kernel
theorem dX10_notes_202 : decode cX10_notes 202 = .ok (.getfield 340, 3) := by decide +kernel
theorem dX10_notes_205 : decode cX10_notes 205 = .ok (.iconst 1, 1) := by decide +kernel
theorem dX10_notes_206 : decode cX10_notes 206 = .ok (.iadd, 1) := by decide +kernel
theorem dX10_notes_207 : decode cX10_notes 207 = .ok (.putfield 340, 3) := by decide +kernel
theorem dX10_notes_210 : decode cX10_notes 210 = .ok (.return_, 1) := by decide +kernel
theorem dX10_comesBack_0 : decode cX10_comesBack 0 = .ok (.aload_n 0, 1) := by decide +kernel
theorem dX10_comesBack_1 : decode cX10_comesBack 1 = .ok (.getfield 86, 3) := by decide +kernel
theorem dX10_comesBack_4 : decode cX10_comesBack 4 = .ok (.iconst 0, 1) := by decide +kernel
theorem dX10_comesBack_5 : decode cX10_comesBack 5 = .ok (.iconst 1, 1) := by decide +kernel
theorem dX10_comesBack_6 : decode cX10_comesBack 6 = .ok (.iastore, 1) := by decide +kernel
theorem dX10_comesBack_7 : decode cX10_comesBack 7 = .ok (.aload_n 0, 1) := by decide +kernel
theorem dX10_comesBack_8 : decode cX10_comesBack 8 = .ok (.getfield 86, 3) := by decide +kernel
theorem dX10_comesBack_11 : decode cX10_comesBack 11 = .ok (.iconst 2, 1) := by decide +kernel
theorem dX10_comesBack_12 : decode cX10_comesBack 12 = .ok (.aload_n 0, 1) := by decide +kernel
theorem dX10_comesBack_13 : decode cX10_comesBack 13 = .ok (.getfield 104, 3) := by decide +kernel
theorem dX10_comesBack_16 : decode cX10_comesBack 16 = .ok (.bipush 11, 2) := by decide +kernel
theorem dX10_comesBack_18 : decode cX10_comesBack 18 = .ok (.iload_n 1, 1) := by decide +kernel
theorem dX10_comesBack_19 : decode cX10_comesBack 19 = .ok (.imul, 1) := by decide +kernel
theorem dX10_comesBack_20 : decode cX10_comesBack 20 = .ok (.iaload, 1) := by decide +kernel
theorem dX10_comesBack_21 : decode cX10_comesBack 21 = .ok (.iastore, 1) := by decide +kernel
theorem dX10_comesBack_22 : decode cX10_comesBack 22 = .ok (.aload_n 0, 1) := by decide +kernel
theorem dX10_comesBack_23 : decode cX10_comesBack 23 = .ok (.getfield 86, 3) := by decide +kernel
theorem dX10_comesBack_26 : decode cX10_comesBack 26 = .ok (.iconst 3, 1) := by decide +kernel
theorem dX10_comesBack_27 : decode cX10_comesBack 27 = .ok (.aload_n 0, 1) := by decide +kernel
theorem dX10_comesBack_28 : decode cX10_comesBack 28 = .ok (.getfield 104, 3) := by decide +kernel
theorem dX10_comesBack_31 : decode cX10_comesBack 31 = .ok (.bipush 11, 2) := by decide +kernel
theorem dX10_comesBack_33 : decode cX10_comesBack 33 = .ok (.iload_n 1, 1) := by decide +kernel
theorem dX10_comesBack_34 : decode cX10_comesBack 34 = .ok (.imul, 1) := by decide +kernel
theorem dX10_comesBack_35 : decode cX10_comesBack 35 = .ok (.iconst 1, 1) := by decide +kernel
theorem dX10_comesBack_36 : decode cX10_comesBack 36 = .ok (.iadd, 1) := by decide +kernel
theorem dX10_comesBack_37 : decode cX10_comesBack 37 = .ok (.iaload, 1) := by decide +kernel
theorem dX10_comesBack_38 : decode cX10_comesBack 38 = .ok (.iastore, 1) := by decide +kernel
theorem dX10_comesBack_39 : decode cX10_comesBack 39 = .ok (.aload_n 0, 1) := by decide +kernel
theorem dX10_comesBack_40 : decode cX10_comesBack 40 = .ok (.getfield 86, 3) := by decide +kernel
theorem dX10_comesBack_43 : decode cX10_comesBack 43 = .ok (.iconst 4, 1) := by decide +kernel
theorem dX10_comesBack_44 : decode cX10_comesBack 44 = .ok (.aload_n 0, 1) := by decide +kernel
theorem dX10_comesBack_45 : decode cX10_comesBack 45 = .ok (.getfield 104, 3) := by decide +kernel
theorem dX10_comesBack_48 : decode cX10_comesBack 48 = .ok (.bipush 11, 2) := by decide +kernel
theorem dX10_comesBack_50 : decode cX10_comesBack 50 = .ok (.iload_n 1, 1) := by decide +kernel
theorem dX10_comesBack_51 : decode cX10_comesBack 51 = .ok (.imul, 1) := by decide +kernel
theorem dX10_comesBack_52 : decode cX10_comesBack 52 = .ok (.iconst 2, 1) := by decide +kernel
theorem dX10_comesBack_53 : decode cX10_comesBack 53 = .ok (.iadd, 1) := by decide +kernel
theorem dX10_comesBack_54 : decode cX10_comesBack 54 = .ok (.iaload, 1) := by decide +kernel
theorem dX10_comesBack_55 : decode cX10_comesBack 55 = .ok (.iastore, 1) := by decide +kernel
theorem dX10_comesBack_56 : decode cX10_comesBack 56 = .ok (.iconst 0, 1) := by decide +kernel
theorem dX10_comesBack_57 : decode cX10_comesBack 57 = .ok (.istore_n 2, 1) := by decide +kernel
theorem dX10_comesBack_58 : decode cX10_comesBack 58 = .ok (.iload_n 2, 1) := by decide +kernel
theorem dX10_comesBack_59 : decode cX10_comesBack 59 = .ok (.iconst 3, 1) := by decide +kernel
theorem dX10_comesBack_60 : decode cX10_comesBack 60 = .ok (.if_icmp .ge 30, 3) := by decide +kernel
theorem dX10_comesBack_63 : decode cX10_comesBack 63 = .ok (.aload_n 0, 1) := by decide +kernel
theorem dX10_comesBack_64 : decode cX10_comesBack 64 = .ok (.getfield 86, 3) := by decide +kernel
theorem dX10_comesBack_67 : decode cX10_comesBack 67 = .ok (.iconst 5, 1) := by decide +kernel
theorem dX10_comesBack_68 : decode cX10_comesBack 68 = .ok (.iload_n 2, 1) := by decide +kernel
theorem dX10_comesBack_69 : decode cX10_comesBack 69 = .ok (.iadd, 1) := by decide +kernel
theorem dX10_comesBack_70 : decode cX10_comesBack 70 = .ok (.aload_n 0, 1) := by decide +kernel
theorem dX10_comesBack_71 : decode cX10_comesBack 71 = .ok (.getfield 104, 3) := by decide +kernel
theorem dX10_comesBack_74 : decode cX10_comesBack 74 = .ok (.bipush 11, 2) := by decide +kernel
theorem dX10_comesBack_76 : decode cX10_comesBack 76 = .ok (.iload_n 1, 1) := by decide +kernel
theorem dX10_comesBack_77 : decode cX10_comesBack 77 = .ok (.imul, 1) := by decide +kernel
theorem dX10_comesBack_78 : decode cX10_comesBack 78 = .ok (.iconst 3, 1) := by decide +kernel
theorem dX10_comesBack_79 : decode cX10_comesBack 79 = .ok (.iadd, 1) := by decide +kernel
theorem dX10_comesBack_80 : decode cX10_comesBack 80 = .ok (.iload_n 2, 1) := by decide +kernel
theorem dX10_comesBack_81 : decode cX10_comesBack 81 = .ok (.iadd, 1) := by decide +kernel
theorem dX10_comesBack_82 : decode cX10_comesBack 82 = .ok (.iaload, 1) := by decide +kernel
theorem dX10_comesBack_83 : decode cX10_comesBack 83 = .ok (.iastore, 1) := by decide +kernel
theorem dX10_comesBack_84 : decode cX10_comesBack 84 = .ok (.iinc 2 1, 3) := by decide +kernel
theorem dX10_comesBack_87 : decode cX10_comesBack 87 = .ok (.goto (-29), 3) := by decide +kernel
theorem dX10_comesBack_90 : decode cX10_comesBack 90 = .ok (.aload_n 0, 1) := by decide +kernel
theorem dX10_comesBack_91 : decode cX10_comesBack 91 = .ok (.getfield 86, 3) := by decide +kernel
theorem dX10_comesBack_94 : decode cX10_comesBack 94 = .ok (.bipush 8, 2) := by decide +kernel
theorem dX10_comesBack_96 : decode cX10_comesBack 96 = .ok (.aload_n 0, 1) := by decide +kernel
theorem dX10_comesBack_97 : decode cX10_comesBack 97 = .ok (.getfield 104, 3) := by decide +kernel
theorem dX10_comesBack_100 : decode cX10_comesBack 100 = .ok (.bipush 11, 2) := by decide +kernel
theorem dX10_comesBack_102 : decode cX10_comesBack 102 = .ok (.iload_n 1, 1) := by decide +kernel
theorem dX10_comesBack_103 : decode cX10_comesBack 103 = .ok (.imul, 1) := by decide +kernel
theorem dX10_comesBack_104 : decode cX10_comesBack 104 = .ok (.bipush 6, 2) := by decide +kernel
theorem dX10_comesBack_106 : decode cX10_comesBack 106 = .ok (.iadd, 1) := by decide +kernel
theorem dX10_comesBack_107 : decode cX10_comesBack 107 = .ok (.iaload, 1) := by decide +kernel
theorem dX10_comesBack_108 : decode cX10_comesBack 108 = .ok (.iastore, 1) := by decide +kernel
theorem dX10_comesBack_109 : decode cX10_comesBack 109 = .ok (.aload_n 0, 1) := by decide +kernel
theorem dX10_comesBack_110 : decode cX10_comesBack 110 = .ok (.getfield 86, 3) := by decide +kernel
theorem dX10_comesBack_113 : decode cX10_comesBack 113 = .ok (.bipush 9, 2) := by decide +kernel
theorem dX10_comesBack_115 : decode cX10_comesBack 115 = .ok (.aload_n 0, 1) := by decide +kernel
theorem dX10_comesBack_116 : decode cX10_comesBack 116 = .ok (.getfield 104, 3) := by decide +kernel
theorem dX10_comesBack_119 : decode cX10_comesBack 119 = .ok (.bipush 11, 2) := by decide +kernel
theorem dX10_comesBack_121 : decode cX10_comesBack 121 = .ok (.iload_n 1, 1) := by decide +kernel
theorem dX10_comesBack_122 : decode cX10_comesBack 122 = .ok (.imul, 1) := by decide +kernel
theorem dX10_comesBack_123 : decode cX10_comesBack 123 = .ok (.bipush 7, 2) := by decide +kernel
theorem dX10_comesBack_125 : decode cX10_comesBack 125 = .ok (.iadd, 1) := by decide +kernel
theorem dX10_comesBack_126 : decode cX10_comesBack 126 = .ok (.iaload, 1) := by decide +kernel
theorem dX10_comesBack_127 : decode cX10_comesBack 127 = .ok (.iastore, 1) := by decide +kernel
theorem dX10_comesBack_128 : decode cX10_comesBack 128 = .ok (.return_, 1) := by decide +kernel
theorem dX10_forgets_0 : decode cX10_forgets 0 = .ok (.iconst 0, 1) := by decide +kernel
theorem dX10_forgets_1 : decode cX10_forgets 1 = .ok (.istore_n 1, 1) := by decide +kernel
theorem dX10_forgets_2 : decode cX10_forgets 2 = .ok (.iload_n 1, 1) := by decide +kernel
theorem dX10_forgets_3 : decode cX10_forgets 3 = .ok (.bipush 100, 2) := by decide +kernel
theorem dX10_forgets_5 : decode cX10_forgets 5 = .ok (.if_icmp .ge 16, 3) := by decide +kernel
theorem dX10_forgets_8 : decode cX10_forgets 8 = .ok (.aload_n 0, 1) := by decide +kernel
theorem dX10_forgets_9 : decode cX10_forgets 9 = .ok (.getfield 95, 3) := by decide +kernel
theorem dX10_forgets_12 : decode cX10_forgets 12 = .ok (.iload_n 1, 1) := by decide +kernel
theorem dX10_forgets_13 : decode cX10_forgets 13 = .ok (.iconst 0, 1) := by decide +kernel
theorem dX10_forgets_14 : decode cX10_forgets 14 = .ok (.bastore, 1) := by decide +kernel
theorem dX10_forgets_15 : decode cX10_forgets 15 = .ok (.iinc 1 1, 3) := by decide +kernel
theorem dX10_forgets_18 : decode cX10_forgets 18 = .ok (.goto (-16), 3) := by decide +kernel
theorem dX10_forgets_21 : decode cX10_forgets 21 = .ok (.iconst 0, 1) := by decide +kernel
theorem dX10_forgets_22 : decode cX10_forgets 22 = .ok (.istore_n 1, 1) := by decide +kernel
theorem dX10_forgets_23 : decode cX10_forgets 23 = .ok (.iload_n 1, 1) := by decide +kernel
theorem dX10_forgets_24 : decode cX10_forgets 24 = .ok (.bipush 12, 2) := by decide +kernel
theorem dX10_forgets_26 : decode cX10_forgets 26 = .ok (.if_icmp .ge 23, 3) := by decide +kernel
theorem dX10_forgets_29 : decode cX10_forgets 29 = .ok (.aload_n 0, 1) := by decide +kernel
theorem dX10_forgets_30 : decode cX10_forgets 30 = .ok (.getfield 98, 3) := by decide +kernel
theorem dX10_forgets_33 : decode cX10_forgets 33 = .ok (.iload_n 1, 1) := by decide +kernel
theorem dX10_forgets_34 : decode cX10_forgets 34 = .ok (.iconst 0, 1) := by decide +kernel
theorem dX10_forgets_35 : decode cX10_forgets 35 = .ok (.bastore, 1) := by decide +kernel
theorem dX10_forgets_36 : decode cX10_forgets 36 = .ok (.aload_n 0, 1) := by decide +kernel
theorem dX10_forgets_37 : decode cX10_forgets 37 = .ok (.getfield 107, 3) := by decide +kernel
theorem dX10_forgets_40 : decode cX10_forgets 40 = .ok (.iload_n 1, 1) := by decide +kernel
theorem dX10_forgets_41 : decode cX10_forgets 41 = .ok (.iconst 0, 1) := by decide +kernel
theorem dX10_forgets_42 : decode cX10_forgets 42 = .ok (.iastore, 1) := by decide +kernel
theorem dX10_forgets_43 : decode cX10_forgets 43 = .ok (.iinc 1 1, 3) := by decide +kernel
theorem dX10_forgets_46 : decode cX10_forgets 46 = .ok (.goto (-23), 3) := by decide +kernel
theorem dX10_forgets_49 : decode cX10_forgets 49 = .ok (.iconst 0, 1) := by decide +kernel
theorem dX10_forgets_50 : decode cX10_forgets 50 = .ok (.istore_n 1, 1) := by decide +kernel
theorem dX10_forgets_51 : decode cX10_forgets 51 = .ok (.iload_n 1, 1) := by decide +kernel
theorem dX10_forgets_52 : decode cX10_forgets 52 = .ok (.bipush 16, 2) := by decide +kernel
theorem dX10_forgets_54 : decode cX10_forgets 54 = .ok (.if_icmp .ge 16, 3) := by decide +kernel
theorem dX10_forgets_57 : decode cX10_forgets 57 = .ok (.aload_n 0, 1) := by decide +kernel
theorem dX10_forgets_58 : decode cX10_forgets 58 = .ok (.getfield 101, 3) := by decide +kernel
theorem dX10_forgets_61 : decode cX10_forgets 61 = .ok (.iload_n 1, 1) := by decide +kernel
theorem dX10_forgets_62 : decode cX10_forgets 62 = .ok (.iconst 0, 1) := by decide +kernel
theorem dX10_forgets_63 : decode cX10_forgets 63 = .ok (.bastore, 1) := by decide +kernel
theorem dX10_forgets_64 : decode cX10_forgets 64 = .ok (.iinc 1 1, 3) := by decide +kernel
theorem dX10_forgets_67 : decode cX10_forgets 67 = .ok (.goto (-16), 3) := by decide +kernel
theorem dX10_forgets_70 : decode cX10_forgets 70 = .ok (.return_, 1) := by decide +kernel
theorem dX10_explore_0 : decode cX10_explore 0 = .ok (.aload_n 0, 1) := by decide +kernel
theorem dX10_explore_1 : decode cX10_explore 1 = .ok (.iconst 0, 1) := by decide +kernel
theorem dX10_explore_2 : decode cX10_explore 2 = .ok (.putfield 143, 3) := by decide +kernel
theorem dX10_explore_5 : decode cX10_explore 5 = .ok (.iload_n 1, 1) := by decide +kernel
theorem dX10_explore_6 : decode cX10_explore 6 = .ok (.iconst 1, 1) := by decide +kernel
theorem dX10_explore_7 : decode cX10_explore 7 = .ok (.sipush 300, 3) := by decide +kernel
theorem dX10_explore_10 : decode cX10_explore 10 = .ok (.invokestatic 168, 3) := by decide +kernel
theorem dX10_explore_13 : decode cX10_explore 13 = .ok (.ifCond .ne 9, 3) := by decide +kernel
theorem dX10_explore_16 : decode cX10_explore 16 = .ok (.aload_n 0, 1) := by decide +kernel
theorem dX10_explore_17 : decode cX10_explore 17 = .ok (.iconst 1, 1) := by decide +kernel
theorem dX10_explore_18 : decode cX10_explore 18 = .ok (.invokevirtual 253, 3) := by decide +kernel
theorem dX10_explore_21 : decode cX10_explore 21 = .ok (.ireturn, 1) := by decide +kernel
theorem dX10_explore_22 : decode cX10_explore 22 = .ok (.aload_n 0, 1) := by decide +kernel
theorem dX10_explore_23 : decode cX10_explore 23 = .ok (.getfield 261, 3) := by decide +kernel
theorem dX10_explore_26 : decode cX10_explore 26 = .ok (.ifCond .ne 9, 3) := by decide +kernel
theorem dX10_explore_29 : decode cX10_explore 29 = .ok (.aload_n 0, 1) := by decide +kernel
theorem dX10_explore_30 : decode cX10_explore 30 = .ok (.iconst 2, 1) := by decide +kernel
theorem dX10_explore_31 : decode cX10_explore 31 = .ok (.invokevirtual 253, 3) := by decide +kernel
theorem dX10_explore_34 : decode cX10_explore 34 = .ok (.ireturn, 1) := by decide +kernel
theorem dX10_explore_35 : decode cX10_explore 35 = .ok (.iconst 0, 1) := by decide +kernel
theorem dX10_explore_36 : decode cX10_explore 36 = .ok (.istore_n 2, 1) := by decide +kernel
theorem dX10_explore_37 : decode cX10_explore 37 = .ok (.iload_n 2, 1) := by decide +kernel
theorem dX10_explore_38 : decode cX10_explore 38 = .ok (.bipush 31, 2) := by decide +kernel
theorem dX10_explore_40 : decode cX10_explore 40 = .ok (.if_icmp .ge 21, 3) := by decide +kernel
theorem dX10_explore_43 : decode cX10_explore 43 = .ok (.aload_n 0, 1) := by decide +kernel
theorem dX10_explore_44 : decode cX10_explore 44 = .ok (.getfield 92, 3) := by decide +kernel
theorem dX10_explore_47 : decode cX10_explore 47 = .ok (.iload_n 2, 1) := by decide +kernel
theorem dX10_explore_48 : decode cX10_explore 48 = .ok (.aload_n 0, 1) := by decide +kernel
theorem dX10_explore_49 : decode cX10_explore 49 = .ok (.getfield 86, 3) := by decide +kernel
theorem dX10_explore_52 : decode cX10_explore 52 = .ok (.iload_n 2, 1) := by decide +kernel
theorem dX10_explore_53 : decode cX10_explore 53 = .ok (.iaload, 1) := by decide +kernel
theorem dX10_explore_54 : decode cX10_explore 54 = .ok (.iastore, 1) := by decide +kernel
theorem dX10_explore_55 : decode cX10_explore 55 = .ok (.iinc 2 1, 3) := by decide +kernel
theorem dX10_explore_58 : decode cX10_explore 58 = .ok (.goto (-21), 3) := by decide +kernel
theorem dX10_explore_61 : decode cX10_explore 61 = .ok (.aload_n 0, 1) := by decide +kernel
theorem dX10_explore_62 : decode cX10_explore 62 = .ok (.invokevirtual 355, 3) := by decide +kernel
theorem dX10_explore_65 : decode cX10_explore 65 = .ok (.aload_n 0, 1) := by decide +kernel
theorem dX10_explore_66 : decode cX10_explore 66 = .ok (.iconst 1, 1) := by decide +kernel
theorem dX10_explore_67 : decode cX10_explore 67 = .ok (.putfield 295, 3) := by decide +kernel
theorem dX10_explore_70 : decode cX10_explore 70 = .ok (.aload_n 0, 1) := by decide +kernel
theorem dX10_explore_71 : decode cX10_explore 71 = .ok (.iconst 0, 1) := by decide +kernel
theorem dX10_explore_72 : decode cX10_explore 72 = .ok (.putfield 340, 3) := by decide +kernel
theorem dX10_explore_75 : decode cX10_explore 75 = .ok (.aload_n 0, 1) := by decide +kernel
theorem dX10_explore_76 : decode cX10_explore 76 = .ok (.iload_n 1, 1) := by decide +kernel
theorem dX10_explore_77 : decode cX10_explore 77 = .ok (.putfield 349, 3) := by decide +kernel
theorem dX10_explore_80 : decode cX10_explore 80 = .ok (.aload_n 0, 1) := by decide +kernel
theorem dX10_explore_81 : decode cX10_explore 81 = .ok (.iconst 1, 1) := by decide +kernel
theorem dX10_explore_82 : decode cX10_explore 82 = .ok (.putfield 352, 3) := by decide +kernel
theorem dX10_explore_85 : decode cX10_explore 85 = .ok (.aload_n 0, 1) := by decide +kernel
theorem dX10_explore_86 : decode cX10_explore 86 = .ok (.invokevirtual 325, 3) := by decide +kernel
theorem dX10_explore_89 : decode cX10_explore 89 = .ok (.aload_n 0, 1) := by decide +kernel
theorem dX10_explore_90 : decode cX10_explore 90 = .ok (.iconst (-1), 1) := by decide +kernel
theorem dX10_explore_91 : decode cX10_explore 91 = .ok (.iconst 0, 1) := by decide +kernel
theorem dX10_explore_92 : decode cX10_explore 92 = .ok (.invokevirtual 358, 3) := by decide +kernel
theorem dX10_explore_95 : decode cX10_explore 95 = .ok (.iconst 0, 1) := by decide +kernel
theorem dX10_explore_96 : decode cX10_explore 96 = .ok (.istore_n 2, 1) := by decide +kernel
theorem dX10_explore_97 : decode cX10_explore 97 = .ok (.iload_n 2, 1) := by decide +kernel
theorem dX10_explore_98 : decode cX10_explore 98 = .ok (.aload_n 0, 1) := by decide +kernel
theorem dX10_explore_99 : decode cX10_explore 99 = .ok (.getfield 340, 3) := by decide +kernel
theorem dX10_explore_102 : decode cX10_explore 102 = .ok (.if_icmp .ge 62, 3) := by decide +kernel
theorem dX10_explore_105 : decode cX10_explore 105 = .ok (.aload_n 0, 1) := by decide +kernel
theorem dX10_explore_106 : decode cX10_explore 106 = .ok (.getfield 104, 3) := by decide +kernel
theorem dX10_explore_109 : decode cX10_explore 109 = .ok (.bipush 11, 2) := by decide +kernel
theorem dX10_explore_111 : decode cX10_explore 111 = .ok (.iload_n 2, 1) := by decide +kernel
theorem dX10_explore_112 : decode cX10_explore 112 = .ok (.imul, 1) := by decide +kernel
theorem dX10_explore_113 : decode cX10_explore 113 = .ok (.bipush 7, 2) := by decide +kernel
theorem dX10_explore_115 : decode cX10_explore 115 = .ok (.iadd, 1) := by decide +kernel
theorem dX10_explore_116 : decode cX10_explore 116 = .ok (.iaload, 1) := by decide +kernel
theorem dX10_explore_117 : decode cX10_explore 117 = .ok (.invokestatic 334, 3) := by decide +kernel
theorem dX10_explore_120 : decode cX10_explore 120 = .ok (.istore_n 3, 1) := by decide +kernel
theorem dX10_explore_121 : decode cX10_explore 121 = .ok (.iconst 0, 1) := by decide +kernel
theorem dX10_explore_122 : decode cX10_explore 122 = .ok (.istore 4, 2) := by decide +kernel
theorem dX10_explore_124 : decode cX10_explore 124 = .ok (.iload 4, 2) := by decide +kernel
theorem dX10_explore_126 : decode cX10_explore 126 = .ok (.iload_n 3, 1) := by decide +kernel
theorem dX10_explore_127 : decode cX10_explore 127 = .ok (.if_icmp .ge 31, 3) := by decide +kernel
theorem dX10_explore_130 : decode cX10_explore 130 = .ok (.aload_n 0, 1) := by decide +kernel
theorem dX10_explore_131 : decode cX10_explore 131 = .ok (.iload_n 2, 1) := by decide +kernel
theorem dX10_explore_132 : decode cX10_explore 132 = .ok (.invokevirtual 362, 3) := by decide +kernel
theorem dX10_explore_135 : decode cX10_explore 135 = .ok (.aload_n 0, 1) := by decide +kernel
theorem dX10_explore_136 : decode cX10_explore 136 = .ok (.aload_n 0, 1) := by decide +kernel
theorem dX10_explore_137 : decode cX10_explore 137 = .ok (.iload 4, 2) := by decide +kernel
theorem dX10_explore_139 : decode cX10_explore 139 = .ok (.invokevirtual 328, 3) := by decide +kernel
theorem dX10_explore_142 : decode cX10_explore 142 = .ok (.invokevirtual 331, 3) := by decide +kernel
theorem dX10_explore_145 : decode cX10_explore 145 = .ok (.aload_n 0, 1) := by decide +kernel
theorem dX10_explore_146 : decode cX10_explore 146 = .ok (.iload_n 2, 1) := by decide +kernel
theorem dX10_explore_147 : decode cX10_explore 147 = .ok (.iload 4, 2) := by decide +kernel
theorem dX10_explore_149 : decode cX10_explore 149 = .ok (.invokevirtual 358, 3) := by decide +kernel
theorem dX10_explore_152 : decode cX10_explore 152 = .ok (.iinc 4 1, 3) := by decide +kernel
theorem dX10_explore_155 : decode cX10_explore 155 = .ok (.goto (-31), 3) := by decide +kernel
theorem dX10_explore_158 : decode cX10_explore 158 = .ok (.iinc 2 1, 3) := by decide +kernel
theorem dX10_explore_161 : decode cX10_explore 161 = .ok (.goto (-64), 3) := by decide +kernel
theorem dX10_explore_164 : decode cX10_explore 164 = .ok (.aload_n 0, 1) := by decide +kernel
theorem dX10_explore_165 : decode cX10_explore 165 = .ok (.iconst 0, 1) := by decide +kernel
theorem dX10_explore_166 : decode cX10_explore 166 = .ok (.putfield 295, 3) := by decide +kernel
theorem dX10_explore_169 : decode cX10_explore 169 = .ok (.aload_n 0, 1) := by decide +kernel
theorem dX10_explore_170 : decode cX10_explore 170 = .ok (.iconst 1, 1) := by decide +kernel
theorem dX10_explore_171 : decode cX10_explore 171 = .ok (.putfield 270, 3) := by decide +kernel
theorem dX10_explore_174 : decode cX10_explore 174 = .ok (.iconst 0, 1) := by decide +kernel
theorem dX10_explore_175 : decode cX10_explore 175 = .ok (.istore_n 2, 1) := by decide +kernel
theorem dX10_explore_176 : decode cX10_explore 176 = .ok (.iload_n 2, 1) := by decide +kernel
theorem dX10_explore_177 : decode cX10_explore 177 = .ok (.bipush 31, 2) := by decide +kernel
theorem dX10_explore_179 : decode cX10_explore 179 = .ok (.if_icmp .ge 21, 3) := by decide +kernel
theorem dX10_explore_182 : decode cX10_explore 182 = .ok (.aload_n 0, 1) := by decide +kernel
theorem dX10_explore_183 : decode cX10_explore 183 = .ok (.getfield 86, 3) := by decide +kernel
theorem dX10_explore_186 : decode cX10_explore 186 = .ok (.iload_n 2, 1) := by decide +kernel
theorem dX10_explore_187 : decode cX10_explore 187 = .ok (.aload_n 0, 1) := by decide +kernel
theorem dX10_explore_188 : decode cX10_explore 188 = .ok (.getfield 92, 3) := by decide +kernel
theorem dX10_explore_191 : decode cX10_explore 191 = .ok (.iload_n 2, 1) := by decide +kernel
theorem dX10_explore_192 : decode cX10_explore 192 = .ok (.iaload, 1) := by decide +kernel
theorem dX10_explore_193 : decode cX10_explore 193 = .ok (.iastore, 1) := by decide +kernel
theorem dX10_explore_194 : decode cX10_explore 194 = .ok (.iinc 2 1, 3) := by decide +kernel
theorem dX10_explore_197 : decode cX10_explore 197 = .ok (.goto (-21), 3) := by decide +kernel
theorem dX10_explore_200 : decode cX10_explore 200 = .ok (.aload_n 0, 1) := by decide +kernel
theorem dX10_explore_201 : decode cX10_explore 201 = .ok (.getfield 340, 3) := by decide +kernel
theorem dX10_explore_204 : decode cX10_explore 204 = .ok (.ireturn, 1) := by decide +kernel
theorem wt_1347 : (Jvm.Cond.fieldLink "BranchingStoryModel" (89 : Nat) "BranchingStoryModel" "kept" "[I") ∈ lw_tbl := in_tb 1347 (by decide +kernel)
theorem wt_1349 : (Jvm.Cond.fieldLink "BranchingStoryModel" (92 : Nat) "BranchingStoryModel" "aside" "[I") ∈ lw_tbl := in_tb 1349 (by decide +kernel)
theorem wt_1353 : (Jvm.Cond.fieldLink "BranchingStoryModel" (101 : Nat) "BranchingStoryModel" "choiceOffered" "[Z") ∈ lw_tbl := in_tb 1353 (by decide +kernel)
theorem wt_1356 : (Jvm.Cond.fieldLink "BranchingStoryModel" (104 : Nat) "BranchingStoryModel" "x" "[I") ∈ lw_tbl := in_tb 1356 (by decide +kernel)
theorem wt_1357 : (Jvm.Cond.fieldLink "BranchingStoryModel" (340 : Nat) "BranchingStoryModel" "found" "I") ∈ lw_tbl := in_tb 1357 (by decide +kernel)
theorem wt_1358 : (Jvm.Cond.fieldLink "BranchingStoryModel" (349 : Nat) "BranchingStoryModel" "most" "I") ∈ lw_tbl := in_tb 1358 (by decide +kernel)
theorem wt_1360 : (Jvm.Cond.fieldLink "BranchingStoryModel" (352 : Nat) "BranchingStoryModel" "complete" "Z") ∈ lw_tbl := in_tb 1360 (by decide +kernel)
theorem wt_1361 : (Jvm.Cond.fieldLink "BranchingStoryModel" (107 : Nat) "BranchingStoryModel" "outcomeMany" "[I") ∈ lw_tbl := in_tb 1361 (by decide +kernel)
theorem wt_1362 : (Jvm.Cond.fieldLink "BranchingStoryModel" (110 : Nat) "BranchingStoryModel" "outcomeFrom" "[I") ∈ lw_tbl := in_tb 1362 (by decide +kernel)
theorem wt_1363 : (Jvm.Cond.fieldLink "BranchingStoryModel" (113 : Nat) "BranchingStoryModel" "outcomeBy" "[I") ∈ lw_tbl := in_tb 1363 (by decide +kernel)
theorem wt_1669 : (Jvm.Cond.methodLink "BranchingStoryModel" (325 : Nat) ({ cls := "BranchingStoryModel", name := "starts", desc := "()V" } : Jvm.MethodName)) ∈ lw_tbl := in_tb 1669 (by decide +kernel)
theorem wt_1671 : (Jvm.Cond.instanceMethod ({ cls := "BranchingStoryModel", name := "starts", desc := "()V" } : Jvm.MethodName)) ∈ lw_tbl := in_tb 1671 (by decide +kernel)
theorem wt_1672 : (Jvm.Cond.code ({ cls := "BranchingStoryModel", name := "starts", desc := "()V" } : Jvm.MethodName) prog_12_method_46_code (2 : Nat) (Option.none : Option Jvm.ClassFile.FieldType)) ∈ lw_tbl := in_tb 1672 (by decide +kernel)
theorem wt_1677 : (Jvm.Cond.methodLink "BranchingStoryModel" (322 : Nat) ({ cls := "BranchingStoryModel", name := "flows", desc := "()V" } : Jvm.MethodName)) ∈ lw_tbl := in_tb 1677 (by decide +kernel)
theorem wt_1679 : (Jvm.Cond.instanceMethod ({ cls := "BranchingStoryModel", name := "flows", desc := "()V" } : Jvm.MethodName)) ∈ lw_tbl := in_tb 1679 (by decide +kernel)
theorem wt_1680 : (Jvm.Cond.code ({ cls := "BranchingStoryModel", name := "flows", desc := "()V" } : Jvm.MethodName) prog_12_method_45_code (4 : Nat) (Option.none : Option Jvm.ClassFile.FieldType)) ∈ lw_tbl := in_tb 1680 (by decide +kernel)
theorem wt_1681 : (Jvm.Cond.methodLink "BranchingStoryModel" (316 : Nat) ({ cls := "BranchingStoryModel", name := "leavesBlock", desc := "()Z" } : Jvm.MethodName)) ∈ lw_tbl := in_tb 1681 (by decide +kernel)
theorem wt_1683 : (Jvm.Cond.instanceMethod ({ cls := "BranchingStoryModel", name := "leavesBlock", desc := "()Z" } : Jvm.MethodName)) ∈ lw_tbl := in_tb 1683 (by decide +kernel)
theorem wt_1684 : (Jvm.Cond.code ({ cls := "BranchingStoryModel", name := "leavesBlock", desc := "()Z" } : Jvm.MethodName) prog_12_method_42_code (2 : Nat) (Option.some Jvm.ClassFile.FieldType.boolean)) ∈ lw_tbl := in_tb 1684 (by decide +kernel)
theorem wt_1689 : (Jvm.Cond.methodLink "BranchingStoryModel" (319 : Nat) ({ cls := "BranchingStoryModel", name := "executes", desc := "()Z" } : Jvm.MethodName)) ∈ lw_tbl := in_tb 1689 (by decide +kernel)
theorem wt_1691 : (Jvm.Cond.instanceMethod ({ cls := "BranchingStoryModel", name := "executes", desc := "()Z" } : Jvm.MethodName)) ∈ lw_tbl := in_tb 1691 (by decide +kernel)
theorem wt_1692 : (Jvm.Cond.code ({ cls := "BranchingStoryModel", name := "executes", desc := "()Z" } : Jvm.MethodName) prog_12_method_44_code (4 : Nat) (Option.some Jvm.ClassFile.FieldType.boolean)) ∈ lw_tbl := in_tb 1692 (by decide +kernel)
theorem wt_1717 : (Jvm.Cond.methodLink "BranchingStoryModel" (328 : Nat) ({ cls := "BranchingStoryModel", name := "offeredAt", desc := "(I)I" } : Jvm.MethodName)) ∈ lw_tbl := in_tb 1717 (by decide +kernel)
theorem wt_1719 : (Jvm.Cond.instanceMethod ({ cls := "BranchingStoryModel", name := "offeredAt", desc := "(I)I" } : Jvm.MethodName)) ∈ lw_tbl := in_tb 1719 (by decide +kernel)
theorem wt_1720 : (Jvm.Cond.code ({ cls := "BranchingStoryModel", name := "offeredAt", desc := "(I)I" } : Jvm.MethodName) prog_12_method_48_code (4 : Nat) (Option.some Jvm.ClassFile.FieldType.int)) ∈ lw_tbl := in_tb 1720 (by decide +kernel)
theorem wt_1721 : (Jvm.Cond.methodLink "BranchingStoryModel" (331 : Nat) ({ cls := "BranchingStoryModel", name := "takes", desc := "(I)V" } : Jvm.MethodName)) ∈ lw_tbl := in_tb 1721 (by decide +kernel)
theorem wt_1723 : (Jvm.Cond.instanceMethod ({ cls := "BranchingStoryModel", name := "takes", desc := "(I)V" } : Jvm.MethodName)) ∈ lw_tbl := in_tb 1723 (by decide +kernel)
theorem wt_1724 : (Jvm.Cond.code ({ cls := "BranchingStoryModel", name := "takes", desc := "(I)V" } : Jvm.MethodName) prog_12_method_49_code (2 : Nat) (Option.none : Option Jvm.ClassFile.FieldType)) ∈ lw_tbl := in_tb 1724 (by decide +kernel)
theorem wt_1749 : (Jvm.Cond.methodLink "BranchingStoryModel" (334 : Nat) ({ cls := "BranchingStoryModel", name := "bits", desc := "(I)I" } : Jvm.MethodName)) ∈ lw_tbl := in_tb 1749 (by decide +kernel)
theorem wt_1750 : (Jvm.Cond.static ({ cls := "BranchingStoryModel", name := "bits", desc := "(I)I" } : Jvm.MethodName)) ∈ lw_tbl := in_tb 1750 (by decide +kernel)
theorem wt_1751 : (Jvm.Cond.code ({ cls := "BranchingStoryModel", name := "bits", desc := "(I)I" } : Jvm.MethodName) prog_12_method_47_code (3 : Nat) (Option.some Jvm.ClassFile.FieldType.int)) ∈ lw_tbl := in_tb 1751 (by decide +kernel)
theorem wt_1776 : (Jvm.Cond.methodLink "BranchingStoryModel" (355 : Nat) ({ cls := "BranchingStoryModel", name := "forgets", desc := "()V" } : Jvm.MethodName)) ∈ lw_tbl := in_tb 1776 (by decide +kernel)
theorem wt_1778 : (Jvm.Cond.instanceMethod ({ cls := "BranchingStoryModel", name := "forgets", desc := "()V" } : Jvm.MethodName)) ∈ lw_tbl := in_tb 1778 (by decide +kernel)
theorem wt_1779 : (Jvm.Cond.code ({ cls := "BranchingStoryModel", name := "forgets", desc := "()V" } : Jvm.MethodName) prog_12_method_68_code (2 : Nat) (Option.none : Option Jvm.ClassFile.FieldType)) ∈ lw_tbl := in_tb 1779 (by decide +kernel)
theorem wt_1780 : (Jvm.Cond.methodLink "BranchingStoryModel" (358 : Nat) ({ cls := "BranchingStoryModel", name := "notes", desc := "(II)V" } : Jvm.MethodName)) ∈ lw_tbl := in_tb 1780 (by decide +kernel)
theorem wt_1782 : (Jvm.Cond.instanceMethod ({ cls := "BranchingStoryModel", name := "notes", desc := "(II)V" } : Jvm.MethodName)) ∈ lw_tbl := in_tb 1782 (by decide +kernel)
theorem wt_1783 : (Jvm.Cond.code ({ cls := "BranchingStoryModel", name := "notes", desc := "(II)V" } : Jvm.MethodName) prog_12_method_66_code (4 : Nat) (Option.none : Option Jvm.ClassFile.FieldType)) ∈ lw_tbl := in_tb 1783 (by decide +kernel)
theorem wt_1784 : (Jvm.Cond.methodLink "BranchingStoryModel" (346 : Nat) ({ cls := "BranchingStoryModel", name := "isFound", desc := "()Z" } : Jvm.MethodName)) ∈ lw_tbl := in_tb 1784 (by decide +kernel)
theorem wt_1786 : (Jvm.Cond.instanceMethod ({ cls := "BranchingStoryModel", name := "isFound", desc := "()Z" } : Jvm.MethodName)) ∈ lw_tbl := in_tb 1786 (by decide +kernel)
theorem wt_1787 : (Jvm.Cond.code ({ cls := "BranchingStoryModel", name := "isFound", desc := "()Z" } : Jvm.MethodName) prog_12_method_65_code (4 : Nat) (Option.some Jvm.ClassFile.FieldType.boolean)) ∈ lw_tbl := in_tb 1787 (by decide +kernel)
theorem wt_1788 : (Jvm.Cond.methodLink "BranchingStoryModel" (343 : Nat) ({ cls := "BranchingStoryModel", name := "ofState", desc := "(I)I" } : Jvm.MethodName)) ∈ lw_tbl := in_tb 1788 (by decide +kernel)
theorem wt_1790 : (Jvm.Cond.instanceMethod ({ cls := "BranchingStoryModel", name := "ofState", desc := "(I)I" } : Jvm.MethodName)) ∈ lw_tbl := in_tb 1790 (by decide +kernel)
theorem wt_1791 : (Jvm.Cond.code ({ cls := "BranchingStoryModel", name := "ofState", desc := "(I)I" } : Jvm.MethodName) prog_12_method_64_code (2 : Nat) (Option.some Jvm.ClassFile.FieldType.int)) ∈ lw_tbl := in_tb 1791 (by decide +kernel)
theorem wt_1792 : (Jvm.Cond.methodLink "BranchingStoryModel" (337 : Nat) ({ cls := "BranchingStoryModel", name := "hubChoices", desc := "()I" } : Jvm.MethodName)) ∈ lw_tbl := in_tb 1792 (by decide +kernel)
theorem wt_1794 : (Jvm.Cond.instanceMethod ({ cls := "BranchingStoryModel", name := "hubChoices", desc := "()I" } : Jvm.MethodName)) ∈ lw_tbl := in_tb 1794 (by decide +kernel)
theorem wt_1795 : (Jvm.Cond.code ({ cls := "BranchingStoryModel", name := "hubChoices", desc := "()I" } : Jvm.MethodName) prog_12_method_63_code (3 : Nat) (Option.some Jvm.ClassFile.FieldType.int)) ∈ lw_tbl := in_tb 1795 (by decide +kernel)
theorem wt_1796 : (Jvm.Cond.methodLink "BranchingStoryModel" (362 : Nat) ({ cls := "BranchingStoryModel", name := "comesBack", desc := "(I)V" } : Jvm.MethodName)) ∈ lw_tbl := in_tb 1796 (by decide +kernel)
theorem wt_1798 : (Jvm.Cond.instanceMethod ({ cls := "BranchingStoryModel", name := "comesBack", desc := "(I)V" } : Jvm.MethodName)) ∈ lw_tbl := in_tb 1798 (by decide +kernel)
theorem wt_1799 : (Jvm.Cond.code ({ cls := "BranchingStoryModel", name := "comesBack", desc := "(I)V" } : Jvm.MethodName) prog_12_method_67_code (3 : Nat) (Option.none : Option Jvm.ClassFile.FieldType)) ∈ lw_tbl := in_tb 1799 (by decide +kernel)
theorem fl_X10_89 : FL RX10 89 9 41 := ⟨RX10, TX10, 74, rfl, by decide, inX10, Or.inl wt_1347⟩
theorem fl_X10_92 : FL RX10 92 9 43 := ⟨RX10, TX10, 74, rfl, by decide, inX10, Or.inl wt_1349⟩
theorem fl_X10_101 : FL RX10 101 9 47 := ⟨RX10, TX10, 74, rfl, by decide, inX10, Or.inl wt_1353⟩
theorem fl_X10_104 : FL RX10 104 9 50 := ⟨RX10, TX10, 74, rfl, by decide, inX10, Or.inl wt_1356⟩
theorem fl_X10_107 : FL RX10 107 9 55 := ⟨RX10, TX10, 74, rfl, by decide, inX10, Or.inl wt_1361⟩
theorem fl_X10_110 : FL RX10 110 9 56 := ⟨RX10, TX10, 74, rfl, by decide, inX10, Or.inl wt_1362⟩
theorem fl_X10_113 : FL RX10 113 9 57 := ⟨RX10, TX10, 74, rfl, by decide, inX10, Or.inl wt_1363⟩
theorem fl_X10_340 : FL RX10 340 9 51 := ⟨RX10, TX10, 74, rfl, by decide, inX10, Or.inl wt_1357⟩
theorem fl_X10_349 : FL RX10 349 9 52 := ⟨RX10, TX10, 74, rfl, by decide, inX10, Or.inl wt_1358⟩
theorem fl_X10_352 : FL RX10 352 9 54 := ⟨RX10, TX10, 74, rfl, by decide, inX10, Or.inl wt_1360⟩
theorem fp_X10_295 : FP RX10 295 9 44 .boolean := ⟨RX10, TX10, 74, tyX10, rfl, by decide, inX10, tyX10_ok, nmX10, rfl, by decide +kernel, Or.inl wt_1350⟩
theorem fp_X10_340 : FP RX10 340 9 51 .int := ⟨RX10, TX10, 74, tyX10, rfl, by decide, inX10, tyX10_ok, nmX10, rfl, by decide +kernel, Or.inl wt_1357⟩
theorem fp_X10_349 : FP RX10 349 9 52 .int := ⟨RX10, TX10, 74, tyX10, rfl, by decide, inX10, tyX10_ok, nmX10, rfl, by decide +kernel, Or.inl wt_1358⟩
theorem fp_X10_352 : FP RX10 352 9 54 .boolean := ⟨RX10, TX10, 74, tyX10, rfl, by decide, inX10, tyX10_ok, nmX10, rfl, by decide +kernel, Or.inl wt_1360⟩
theorem cs_X10_316 : CVw RX10 316 yX10_leavesBlock cX10_leavesBlock 2 (some .boolean) 0 := ⟨Or.inl wt_1681, wt_1683, in_sl (n := 74) 119 (by decide +kernel), wt_10, wt_1684, by decide, by decide, by decide +kernel⟩
theorem cs_X10_319 : CVw RX10 319 yX10_executes cX10_executes 4 (some .boolean) 0 := ⟨Or.inl wt_1689, wt_1691, in_sl (n := 74) 121 (by decide +kernel), wt_10, wt_1692, by decide, by decide, by decide +kernel⟩
theorem cs_X10_322 : CVw RX10 322 yX10_flows cX10_flows 4 none 0 := ⟨Or.inl wt_1677, wt_1679, in_sl (n := 74) 118 (by decide +kernel), wt_10, wt_1680, by decide, by decide, by decide +kernel⟩
theorem cs_X10_325 : CVw RX10 325 yX10_starts cX10_starts 2 none 0 := ⟨Or.inl wt_1669, wt_1671, in_sl (n := 74) 116 (by decide +kernel), wt_10, wt_1672, by decide, by decide, by decide +kernel⟩
theorem cs_X10_328 : CVw RX10 328 yX10_offeredAt cX10_offeredAt 4 (some .int) 1 := ⟨Or.inl wt_1717, wt_1719, in_sl (n := 74) 127 (by decide +kernel), wt_10, wt_1720, by decide, by decide, by decide +kernel⟩
theorem cs_X10_331 : CVw RX10 331 yX10_takes cX10_takes 2 none 1 := ⟨Or.inl wt_1721, wt_1723, in_sl (n := 74) 128 (by decide +kernel), wt_10, wt_1724, by decide, by decide, by decide +kernel⟩
theorem cs_X10_334 : CSw RX10 334 yX10_bits cX10_bits 3 (some .int) 1 := ⟨Or.inl wt_1749, wt_1750, wt_10, wt_1751, by decide, by decide, by decide +kernel⟩
theorem cs_X10_337 : CVw RX10 337 yX10_hubChoices cX10_hubChoices 3 (some .int) 0 := ⟨Or.inl wt_1792, wt_1794, in_sl (n := 74) 133 (by decide +kernel), wt_10, wt_1795, by decide, by decide, by decide +kernel⟩
theorem cs_X10_343 : CVw RX10 343 yX10_ofState cX10_ofState 2 (some .int) 1 := ⟨Or.inl wt_1788, wt_1790, in_sl (n := 74) 132 (by decide +kernel), wt_10, wt_1791, by decide, by decide, by decide +kernel⟩
theorem cs_X10_346 : CVw RX10 346 yX10_isFound cX10_isFound 4 (some .boolean) 0 := ⟨Or.inl wt_1784, wt_1786, in_sl (n := 74) 131 (by decide +kernel), wt_10, wt_1787, by decide, by decide, by decide +kernel⟩
theorem cs_X10_355 : CVw RX10 355 yX10_forgets cX10_forgets 2 none 0 := ⟨Or.inl wt_1776, wt_1778, in_sl (n := 74) 129 (by decide +kernel), wt_10, wt_1779, by decide, by decide, by decide +kernel⟩
theorem cs_X10_358 : CVw RX10 358 yX10_notes cX10_notes 4 none 2 := ⟨Or.inl wt_1780, wt_1782, in_sl (n := 74) 130 (by decide +kernel), wt_10, wt_1783, by decide, by decide, by decide +kernel⟩
theorem cs_X10_362 : CVw RX10 362 yX10_comesBack cX10_comesBack 3 none 1 := ⟨Or.inl wt_1796, wt_1798, in_sl (n := 74) 134 (by decide +kernel), wt_10, wt_1799, by decide, by decide, by decide +kernel⟩
/-! BranchingStoryModel.flows()V -/
def f_X10_flows_J108 (k54 : St → Int → Prop) (Q : St → Prop) (σ : St) (v3 : Int) (s1 : Int) : Prop :=
  0 ≤ s1 ∧ s1 < 16 ∧ ∀ σ1 : St, σ1 = sset σ 31 s1.toNat 1 → k54 σ1 (v3 + 1)
def f_X10_flows_J112 (k54 : St → Int → Prop) (Q : St → Prop) (σ : St) (v3 : Int) (s1 : Int) : Prop :=
  0 ≤ s1 ∧ s1 < 16 ∧ ∀ σ1 : St, σ1 = sset σ 31 s1.toNat 0 → k54 σ1 (v3 + 1)
def f_X10_flows_L54 (Q : St → Prop) : Nat → St → Int → Prop
  | 0, _, _ => False
  | n + 1, σ, v3 => inR v3 ∧ inR (σ 0 32) ∧ (((σ 0 32) ≤ v3 → Q σ) ∧ (¬ (σ 0 32) ≤ v3 → 0 ≤ v3 ∧ v3 < 16 ∧ inR (σ 31 v3.toNat) ∧ ((¬ (σ 31 v3.toNat) = 0 → f_X10_flows_J108 (fun σ' v3' => f_X10_flows_L54 Q n σ' v3') Q σ v3 v3) ∧ ((σ 31 v3.toNat) = 0 → inR (σ 0 44) ∧ (((σ 0 44) = 0 → f_X10_flows_J112 (fun σ' v3' => f_X10_flows_L54 Q n σ' v3') Q σ v3 v3) ∧ (¬ (σ 0 44) = 0 → inR (σ 26 0) ∧ ((¬ (σ 26 0) = 1 → f_X10_flows_J112 (fun σ' v3' => f_X10_flows_L54 Q n σ' v3') Q σ v3 v3) ∧ ((σ 26 0) = 1 → inR (iand32 (ishr32 (σ 26 9) v3) 1) ∧ ((¬ (iand32 (ishr32 (σ 26 9) v3) 1) = 1 → f_X10_flows_J112 (fun σ' v3' => f_X10_flows_L54 Q n σ' v3') Q σ v3 v3) ∧ ((iand32 (ishr32 (σ 26 9) v3) 1) = 1 → f_X10_flows_J108 (fun σ' v3' => f_X10_flows_L54 Q n σ' v3') Q σ v3 v3))))))))))
def f_X10_flows_L4 (Q : St → Prop) : Nat → St → Int → Int → Prop
  | 0, _, _, _ => False
  | n + 1, σ, v1, v2 => inR v2 ∧ ((v2 = 0 → f_X10_flows_L54 Q FU σ 0) ∧ (¬ v2 = 0 → inR (σ 0 48) ∧ ((¬ (σ 0 48) = (-1) → inR v1 ∧ ((¬ v1 = 150 → f_X10_executes σ (fun σ1 r1 => f_X10_flows_L4 Q n σ1 (v1 + 1) r1)) ∧ (v1 = 150 → f_X10_ends 4 σ (fun σ2 => f_X10_flows_L4 Q n σ2 v1 0)))) ∧ ((σ 0 48) = (-1) → f_X10_leavesBlock σ (fun σ3 r2 => f_X10_flows_L4 Q n σ3 v1 r2)))))
def f_X10_flows (σ : St) (Q : St → Prop) : Prop :=
  f_X10_flows_L4 Q FU σ 0 1
set_option maxRecDepth 100000 in
set_option maxHeartbeats 4000000 in
theorem w_X10_flows_J108 {X : Cx} {Y : Cy} {k54 : St → Int → Prop} {Q : St → Prop} (ok : Ok X Y KM cX10_flows 4 RX10 (rm0q 3 68) none) (hk54 : ∀ (σ : St) (v3 : Int) , k54 σ v3 → Wq X Y KM 4 (QF X Y (Qvq Y KM Q)) σ 54 [(0, .inr (.inr 0)), (3, .inl v3)] []) (σ : St) (v3 : Int) (s1 : Int) (h : f_X10_flows_J108 k54 Q σ v3 s1) : Wq X Y KM 4 (QF X Y (Qvq Y KM Q)) σ 108 [(0, .inr (.inr 0)), (3, .inl v3)] [.inl s1, .inr (.inr 31)] := by
  unfold f_X10_flows_J108 at h
  refine q_iconst ok dX10_flows_108 ?_
  refine q_goto (tgt := 113) ok dX10_flows_109 (by decide) ?_
  obtain ⟨g1, g2, h⟩ := h
  refine q_zast ok kM_ok kM_31 g1 g2 (by decide) dX10_flows_113 (wq_s (fun σ1 eσ1 => ?_))
  have h := h σ1 eσ1
  refine q_iinc (lv' := [(3, .inl (v3 + 1)), (0, .inr (.inr 0))]) ok dX10_flows_114 1 rfl (by decide) rfl ?_
  refine q_goto (tgt := 54) ok dX10_flows_117 (by decide) ?_
  refine q_sub [1, 0] rfl ?_
  exact hk54 σ1 (v3 + 1) h
set_option maxRecDepth 100000 in
set_option maxHeartbeats 4000000 in
theorem w_X10_flows_J112 {X : Cx} {Y : Cy} {k54 : St → Int → Prop} {Q : St → Prop} (ok : Ok X Y KM cX10_flows 4 RX10 (rm0q 3 68) none) (hk54 : ∀ (σ : St) (v3 : Int) , k54 σ v3 → Wq X Y KM 4 (QF X Y (Qvq Y KM Q)) σ 54 [(0, .inr (.inr 0)), (3, .inl v3)] []) (σ : St) (v3 : Int) (s1 : Int) (h : f_X10_flows_J112 k54 Q σ v3 s1) : Wq X Y KM 4 (QF X Y (Qvq Y KM Q)) σ 112 [(0, .inr (.inr 0)), (3, .inl v3)] [.inl s1, .inr (.inr 31)] := by
  unfold f_X10_flows_J112 at h
  refine q_iconst ok dX10_flows_112 ?_
  obtain ⟨g1, g2, h⟩ := h
  refine q_zast ok kM_ok kM_31 g1 g2 (by decide) dX10_flows_113 (wq_s (fun σ1 eσ1 => ?_))
  have h := h σ1 eσ1
  refine q_iinc (lv' := [(3, .inl (v3 + 1)), (0, .inr (.inr 0))]) ok dX10_flows_114 1 rfl (by decide) rfl ?_
  refine q_goto (tgt := 54) ok dX10_flows_117 (by decide) ?_
  refine q_sub [1, 0] rfl ?_
  exact hk54 σ1 (v3 + 1) h
set_option maxRecDepth 100000 in
set_option maxHeartbeats 4000000 in
theorem w_X10_flows_L54 {X : Cx} {Y : Cy} {Q : St → Prop} (ok : Ok X Y KM cX10_flows 4 RX10 (rm0q 3 68) none) : ∀ (n : Nat) (σ : St) (v3 : Int) , f_X10_flows_L54 Q n σ v3 → Wq X Y KM 4 (QF X Y (Qvq Y KM Q)) σ 54 [(0, .inr (.inr 0)), (3, .inl v3)] [] := by
  intro n
  induction n with
  | zero => intro σ v3 h; exact h.elim
  | succ n ih =>
    intro σ v3 h
    rw [f_X10_flows_L54] at h
    refine q_iload_n ok dX10_flows_54 1 rfl ?_
    refine q_aload_n ok dX10_flows_55 0 rfl ?_
    refine q_getI ok fl_X10_222 kM_0 fM_0_32 dX10_flows_56 ?_
    obtain ⟨g1, g2, hT5a, hT5b⟩ := h
    refine q_icmp_ge (tgt := 120) ok dX10_flows_59 (by decide) g1 g2 (fun c5 => ?_) (fun c5 => ?_)
    · have h := hT5a c5
      exact q_vret ok dX10_flows_120 h
    · have h := hT5b c5
      refine q_aload_n ok dX10_flows_62 0 rfl ?_
      refine q_getC ok fl_X10_101 kM_0 fM_0_47 dX10_flows_63 ?_
      refine q_iload_n ok dX10_flows_66 1 rfl ?_
      refine q_aload_n ok dX10_flows_67 0 rfl ?_
      refine q_getC ok fl_X10_101 kM_0 fM_0_47 dX10_flows_68 ?_
      refine q_iload_n ok dX10_flows_71 1 rfl ?_
      obtain ⟨g3, g4, h⟩ := h
      refine q_zald ok kM_ok kM_31 g3 g4 dX10_flows_72 ?_
      obtain ⟨g5, hT4a, hT4b⟩ := h
      refine q_if_ne (tgt := 108) ok dX10_flows_73 (by decide) g5 (fun c4 => ?_) (fun c4 => ?_)
      · have h := hT4a c4
        exact w_X10_flows_J108 ok ih σ v3 v3 h
      · have h := hT4b c4
        refine q_aload_n ok dX10_flows_76 0 rfl ?_
        refine q_getI ok fl_X10_295 kM_0 fM_0_44 dX10_flows_77 ?_
        obtain ⟨g6, hT3a, hT3b⟩ := h
        refine q_if_eq (tgt := 112) ok dX10_flows_80 (by decide) g6 (fun c3 => ?_) (fun c3 => ?_)
        · have h := hT3a c3
          exact w_X10_flows_J112 ok ih σ v3 v3 h
        · have h := hT3b c3
          refine q_aload_n ok dX10_flows_83 0 rfl ?_
          refine q_getC ok fl_X10_86 kM_0 fM_0_40 dX10_flows_84 ?_
          refine q_iconst ok dX10_flows_87 ?_
          refine q_iald ok kM_ok kM_26 (by decide) (by decide) dX10_flows_88 ?_
          refine q_iconst ok dX10_flows_89 ?_
          obtain ⟨g7, hT2a, hT2b⟩ := h
          refine q_icmp_ne (tgt := 112) ok dX10_flows_90 (by decide) g7 (by unfold inR; decide) (fun c2 => ?_) (fun c2 => ?_)
          · have h := hT2a c2
            exact w_X10_flows_J112 ok ih σ v3 v3 h
          · have h := hT2b c2
            refine q_aload_n ok dX10_flows_93 0 rfl ?_
            refine q_getC ok fl_X10_86 kM_0 fM_0_40 dX10_flows_94 ?_
            refine q_bipush ok dX10_flows_97 rfl ?_
            refine q_iald ok kM_ok kM_26 (by decide) (by decide) dX10_flows_99 ?_
            refine q_iload_n ok dX10_flows_100 1 rfl ?_
            refine q_ishr ok dX10_flows_101 ?_
            refine q_iconst ok dX10_flows_102 ?_
            refine q_iand ok dX10_flows_103 ?_
            refine q_iconst ok dX10_flows_104 ?_
            obtain ⟨g8, hT1a, hT1b⟩ := h
            refine q_icmp_ne (tgt := 112) ok dX10_flows_105 (by decide) g8 (by unfold inR; decide) (fun c1 => ?_) (fun c1 => ?_)
            · have h := hT1a c1
              exact w_X10_flows_J112 ok ih σ v3 v3 h
            · have h := hT1b c1
              exact w_X10_flows_J108 ok ih σ v3 v3 h
set_option maxRecDepth 100000 in
set_option maxHeartbeats 4000000 in
theorem w_X10_flows_L4 {X : Cx} {Y : Cy} {Q : St → Prop} (ok : Ok X Y KM cX10_flows 4 RX10 (rm0q 3 68) none) : ∀ (n : Nat) (σ : St) (v1 : Int) (v2 : Int) , f_X10_flows_L4 Q n σ v1 v2 → Wq X Y KM 4 (QF X Y (Qvq Y KM Q)) σ 4 [(0, .inr (.inr 0)), (1, .inl v1), (2, .inl v2)] [] := by
  intro n
  induction n with
  | zero => intro σ v1 v2 h; exact h.elim
  | succ n ih =>
    intro σ v1 v2 h
    rw [f_X10_flows_L4] at h
    refine q_iload_n ok dX10_flows_4 2 rfl ?_
    obtain ⟨g1, hT3a, hT3b⟩ := h
    refine q_if_eq (tgt := 52) ok dX10_flows_5 (by decide) g1 (fun c3 => ?_) (fun c3 => ?_)
    · have h := hT3a c3
      refine q_iconst ok dX10_flows_52 ?_
      refine q_istore_n (lv' := [(3, .inl 0), (0, .inr (.inr 0)), (1, .inl v1), (2, .inl v2)]) ok dX10_flows_53 (by decide) rfl ?_
      refine q_sub [1, 0] rfl ?_
      exact w_X10_flows_L54 ok FU σ 0 h
    · have h := hT3b c3
      refine q_aload_n ok dX10_flows_8 0 rfl ?_
      refine q_getI ok fl_X10_292 kM_0 fM_0_48 dX10_flows_9 ?_
      refine q_iconst ok dX10_flows_12 ?_
      obtain ⟨g2, hT2a, hT2b⟩ := h
      refine q_icmp_ne (tgt := 24) ok dX10_flows_13 (by decide) g2 (by unfold inR; decide) (fun c2 => ?_) (fun c2 => ?_)
      · have h := hT2a c2
        refine q_iload_n ok dX10_flows_24 1 rfl ?_
        refine q_sipush ok dX10_flows_25 rfl ?_
        obtain ⟨g3, hT1a, hT1b⟩ := h
        refine q_icmp_ne (tgt := 41) ok dX10_flows_28 (by decide) g3 (by unfold inR; decide) (fun c1 => ?_) (fun c1 => ?_)
        · have h := hT1a c1
          refine q_iinc (lv' := [(1, .inl (v1 + 1)), (0, .inr (.inr 0)), (2, .inl v2)]) ok dX10_flows_41 1 rfl (by decide) rfl ?_
          refine q_aload_n ok dX10_flows_44 1 rfl ?_
          refine q_callVI (st := []) ok cs_X10_319 kM_0 rfl (c_X10_executes X.2.1 Y ok.2.2.2.2.2.2.2.2 h) ⟨rfl, rfl, Nat.le_of_ble_eq_true rfl, Nat.le_of_ble_eq_true rfl⟩ rfl rfl (Nat.le_of_ble_eq_true rfl) dX10_flows_45 (fun σ1 r1 h => ?_)
          refine q_istore_n (lv' := [(2, .inl r1), (1, .inl (v1 + 1)), (0, .inr (.inr 0))]) ok dX10_flows_48 (by decide) rfl ?_
          refine q_goto (tgt := 4) ok dX10_flows_49 (by decide) ?_
          refine q_sub [2, 1, 0] rfl ?_
          exact ih σ1 (v1 + 1) r1 h
        · have h := hT1b c1
          refine q_aload_n ok dX10_flows_31 0 rfl ?_
          refine q_iconst ok dX10_flows_32 ?_
          refine q_callVV (st := []) ok cs_X10_301 kM_0 rfl (c_X10_ends X.2.1 Y ok.2.2.2.2.2.2.2.2 h) ⟨rfl, rfl, Nat.le_of_ble_eq_true rfl, Nat.le_of_ble_eq_true rfl⟩ rfl rfl (Nat.le_of_ble_eq_true rfl) dX10_flows_33 (fun σ2 h => ?_)
          refine q_iconst ok dX10_flows_36 ?_
          refine q_istore_n (lv' := [(2, .inl 0), (0, .inr (.inr 0)), (1, .inl v1)]) ok dX10_flows_37 (by decide) rfl ?_
          refine q_goto (tgt := 4) ok dX10_flows_38 (by decide) ?_
          refine q_sub [1, 2, 0] rfl ?_
          exact ih σ2 v1 0 h
      · have h := hT2b c2
        refine q_aload_n ok dX10_flows_16 0 rfl ?_
        refine q_callVI (st := []) ok cs_X10_316 kM_0 rfl (c_X10_leavesBlock X.2.1 Y ok.2.2.2.2.2.2.2.2 h) ⟨rfl, rfl, Nat.le_of_ble_eq_true rfl, Nat.le_of_ble_eq_true rfl⟩ rfl rfl (Nat.le_of_ble_eq_true rfl) dX10_flows_17 (fun σ3 r2 h => ?_)
        refine q_istore_n (lv' := [(2, .inl r2), (0, .inr (.inr 0)), (1, .inl v1)]) ok dX10_flows_20 (by decide) rfl ?_
        refine q_goto (tgt := 4) ok dX10_flows_21 (by decide) ?_
        refine q_sub [1, 2, 0] rfl ?_
        exact ih σ3 v1 r2 h
set_option maxRecDepth 100000 in
set_option maxHeartbeats 4000000 in
theorem c_X10_flows (l : Launch) (Y : Cy) (hD : ∀ σ, va_D Y.2.2.2 (wsOf KM Y.2.1 Y.2.2.1 σ)) {σ : St} {Q : St → Prop} (h : f_X10_flows  σ Q) : ConV l yX10_flows cX10_flows 4 (rm0q 3 68) Y KM σ [.inr (.inr 0)] Q := con_of (lv := [(0, .inr (.inr 0))]) (by decide) hD (Nat.le_of_ble_eq_true rfl) rfl (fun X _ ok => by
  have ok : Ok X Y KM cX10_flows 4 RX10 (rm0q 3 68) none := ok
  unfold f_X10_flows at h
  refine q_iconst ok dX10_flows_0 ?_
  refine q_istore_n (lv' := [(1, .inl 0), (0, .inr (.inr 0))]) ok dX10_flows_1 (by decide) rfl ?_
  refine q_iconst ok dX10_flows_2 ?_
  refine q_istore_n (lv' := [(2, .inl 1), (1, .inl 0), (0, .inr (.inr 0))]) ok dX10_flows_3 (by decide) rfl ?_
  refine q_sub [2, 1, 0] rfl ?_
  exact w_X10_flows_L4 ok FU σ 0 1 h)
/-! BranchingStoryModel.starts()V -/
def f_X10_starts_L2 (Q : St → Prop) : Nat → St → Int → Prop
  | 0, _, _ => False
  | n + 1, σ, v1 => inR v1 ∧ ((31 ≤ v1 → ∀ σ1 : St, σ1 = sset σ 26 3 (-1) → f_X10_enters 0 σ1 (fun σ2 => f_X10_flows σ2 (fun σ3 => Q σ3))) ∧ (¬ 31 ≤ v1 → 0 ≤ v1 ∧ v1 < 31 ∧ ∀ σ4 : St, σ4 = sset σ 26 v1.toNat 0 → f_X10_starts_L2 Q n σ4 (v1 + 1)))
def f_X10_starts (σ : St) (Q : St → Prop) : Prop :=
  f_X10_starts_L2 Q FU σ 0
set_option maxRecDepth 100000 in
set_option maxHeartbeats 4000000 in
theorem w_X10_starts_L2 {X : Cx} {Y : Cy} {Q : St → Prop} (ok : Ok X Y KM cX10_starts 2 RX10 (rm0q 4 91) none) : ∀ (n : Nat) (σ : St) (v1 : Int) , f_X10_starts_L2 Q n σ v1 → Wq X Y KM 2 (QF X Y (Qvq Y KM Q)) σ 2 [(0, .inr (.inr 0)), (1, .inl v1)] [] := by
  intro n
  induction n with
  | zero => intro σ v1 h; exact h.elim
  | succ n ih =>
    intro σ v1 h
    rw [f_X10_starts_L2] at h
    refine q_iload_n ok dX10_starts_2 1 rfl ?_
    refine q_bipush ok dX10_starts_3 rfl ?_
    obtain ⟨g1, hT1a, hT1b⟩ := h
    refine q_icmp_ge (tgt := 21) ok dX10_starts_5 (by decide) g1 (by unfold inR; decide) (fun c1 => ?_) (fun c1 => ?_)
    · have h := hT1a c1
      refine q_aload_n ok dX10_starts_21 0 rfl ?_
      refine q_getC ok fl_X10_86 kM_0 fM_0_40 dX10_starts_22 ?_
      refine q_iconst ok dX10_starts_25 ?_
      refine q_iconst ok dX10_starts_26 ?_
      refine q_iast ok kM_ok kM_26 (by decide) (by decide) dX10_starts_27 (wq_s (fun σ1 eσ1 => ?_))
      have h := h σ1 eσ1
      refine q_aload_n ok dX10_starts_28 0 rfl ?_
      refine q_iconst ok dX10_starts_29 ?_
      refine q_callVV (st := []) ok cs_X10_298 kM_0 rfl (c_X10_enters X.2.1 Y ok.2.2.2.2.2.2.2.2 h) ⟨rfl, rfl, Nat.le_of_ble_eq_true rfl, Nat.le_of_ble_eq_true rfl⟩ rfl rfl (Nat.le_of_ble_eq_true rfl) dX10_starts_30 (fun σ2 h => ?_)
      refine q_aload_n ok dX10_starts_33 0 rfl ?_
      refine q_callVV (st := []) ok cs_X10_322 kM_0 rfl (c_X10_flows X.2.1 Y ok.2.2.2.2.2.2.2.2 h) ⟨rfl, rfl, Nat.le_of_ble_eq_true rfl, Nat.le_of_ble_eq_true rfl⟩ rfl rfl (Nat.le_of_ble_eq_true rfl) dX10_starts_34 (fun σ3 h => ?_)
      exact q_vret ok dX10_starts_37 h
    · have h := hT1b c1
      refine q_aload_n ok dX10_starts_8 0 rfl ?_
      refine q_getC ok fl_X10_86 kM_0 fM_0_40 dX10_starts_9 ?_
      refine q_iload_n ok dX10_starts_12 1 rfl ?_
      refine q_iconst ok dX10_starts_13 ?_
      obtain ⟨g2, g3, h⟩ := h
      refine q_iast ok kM_ok kM_26 g2 g3 dX10_starts_14 (wq_s (fun σ4 eσ4 => ?_))
      have h := h σ4 eσ4
      refine q_iinc (lv' := [(1, .inl (v1 + 1)), (0, .inr (.inr 0))]) ok dX10_starts_15 1 rfl (by decide) rfl ?_
      refine q_goto (tgt := 2) ok dX10_starts_18 (by decide) ?_
      refine q_sub [1, 0] rfl ?_
      exact ih σ4 (v1 + 1) h
set_option maxRecDepth 100000 in
set_option maxHeartbeats 4000000 in
theorem c_X10_starts (l : Launch) (Y : Cy) (hD : ∀ σ, va_D Y.2.2.2 (wsOf KM Y.2.1 Y.2.2.1 σ)) {σ : St} {Q : St → Prop} (h : f_X10_starts  σ Q) : ConV l yX10_starts cX10_starts 2 (rm0q 4 91) Y KM σ [.inr (.inr 0)] Q := con_of (lv := [(0, .inr (.inr 0))]) (by decide) hD (Nat.le_of_ble_eq_true rfl) rfl (fun X _ ok => by
  have ok : Ok X Y KM cX10_starts 2 RX10 (rm0q 4 91) none := ok
  unfold f_X10_starts at h
  refine q_iconst ok dX10_starts_0 ?_
  refine q_istore_n (lv' := [(1, .inl 0), (0, .inr (.inr 0))]) ok dX10_starts_1 (by decide) rfl ?_
  refine q_sub [1, 0] rfl ?_
  exact w_X10_starts_L2 ok FU σ 0 h)
/-! BranchingStoryModel.bits(I)I -/
def f_X10_bits_L4 (Q : St → Int → Prop) : Nat → St → Int → Int → Int → Prop
  | 0, _, _, _, _ => False
  | n + 1, σ, v0, v1, v2 => inR v2 ∧ ((16 ≤ v2 → Q σ v1) ∧ (¬ 16 ≤ v2 → ∀ x1 : Int, x1 = (v1 + (iand32 (ishr32 v0 v2) 1)) → f_X10_bits_L4 Q n σ v0 x1 (v2 + 1)))
def f_X10_bits (a0 : Int) (σ : St) (Q : St → Int → Prop) : Prop :=
  f_X10_bits_L4 Q FU σ a0 0 0
set_option maxRecDepth 100000 in
set_option maxHeartbeats 4000000 in
theorem w_X10_bits_L4 {X : Cx} {Y : Cy} {Q : St → Int → Prop} (ok : Ok X Y KM cX10_bits 3 RX10 (rm0q 0 0) (some .int)) : ∀ (n : Nat) (σ : St) (v0 : Int) (v1 : Int) (v2 : Int) , f_X10_bits_L4 Q n σ v0 v1 v2 → Wq X Y KM 3 (QF X Y (Qiq Y KM Q)) σ 4 [(0, .inl v0), (1, .inl v1), (2, .inl v2)] [] := by
  intro n
  induction n with
  | zero => intro σ v0 v1 v2 h; exact h.elim
  | succ n ih =>
    intro σ v0 v1 v2 h
    rw [f_X10_bits_L4] at h
    refine q_iload_n ok dX10_bits_4 2 rfl ?_
    refine q_bipush ok dX10_bits_5 rfl ?_
    obtain ⟨g1, hT1a, hT1b⟩ := h
    refine q_icmp_ge (tgt := 24) ok dX10_bits_7 (by decide) g1 (by unfold inR; decide) (fun c1 => ?_) (fun c1 => ?_)
    · have h := hT1a c1
      refine q_iload_n ok dX10_bits_24 1 rfl ?_
      exact q_iret ok dX10_bits_25 h
    · have h := hT1b c1
      refine q_iload_n ok dX10_bits_10 1 rfl ?_
      refine q_iload_n ok dX10_bits_11 0 rfl ?_
      refine q_iload_n ok dX10_bits_12 2 rfl ?_
      refine q_ishr ok dX10_bits_13 ?_
      refine q_iconst ok dX10_bits_14 ?_
      refine q_iand ok dX10_bits_15 ?_
      refine q_iadd ok dX10_bits_16 ?_
      refine wq_i (fun x1 ex1 => ?_)
      have h := h x1 ex1
      refine q_istore_n (lv' := [(1, .inl x1), (0, .inl v0), (2, .inl v2)]) ok dX10_bits_17 (by decide) rfl ?_
      refine q_iinc (lv' := [(2, .inl (v2 + 1)), (1, .inl x1), (0, .inl v0)]) ok dX10_bits_18 2 rfl (by decide) rfl ?_
      refine q_goto (tgt := 4) ok dX10_bits_21 (by decide) ?_
      refine q_sub [2, 1, 0] rfl ?_
      exact ih σ v0 x1 (v2 + 1) h
set_option maxRecDepth 100000 in
set_option maxHeartbeats 4000000 in
theorem c_X10_bits (l : Launch) (Y : Cy) (hD : ∀ σ, va_D Y.2.2.2 (wsOf KM Y.2.1 Y.2.2.1 σ)) {a0 : Int} {σ : St} {Q : St → Int → Prop} (h : f_X10_bits a0 σ Q) : ConI l yX10_bits cX10_bits 3 .int (rm0q 0 0) Y KM σ [.inl a0] Q := con_of (lv := [(0, .inl a0)]) (by decide) hD (Nat.le_of_ble_eq_true rfl) rfl (fun X _ ok => by
  have ok : Ok X Y KM cX10_bits 3 RX10 (rm0q 0 0) (some .int) := ok
  unfold f_X10_bits at h
  refine q_iconst ok dX10_bits_0 ?_
  refine q_istore_n (lv' := [(1, .inl 0), (0, .inl a0)]) ok dX10_bits_1 (by decide) rfl ?_
  refine q_iconst ok dX10_bits_2 ?_
  refine q_istore_n (lv' := [(2, .inl 0), (1, .inl 0), (0, .inl a0)]) ok dX10_bits_3 (by decide) rfl ?_
  refine q_sub [2, 1, 0] rfl ?_
  exact w_X10_bits_L4 ok FU σ a0 0 0 h)
/-! BranchingStoryModel.offeredAt(I)I -/
def f_X10_offeredAt_L4 (Q : St → Int → Prop) : Nat → St → Int → Int → Prop
  | 0, _, _, _ => False
  | n + 1, σ, v2, v3 => inR v3 ∧ inR (σ 0 32) ∧ (((σ 0 32) ≤ v3 → Q σ (-1)) ∧ (¬ (σ 0 32) ≤ v3 → inR (iand32 (ishr32 (σ 26 9) v3) 1) ∧ ((¬ (iand32 (ishr32 (σ 26 9) v3) 1) = 1 → f_X10_offeredAt_L4 Q n σ v2 (v3 + 1)) ∧ ((iand32 (ishr32 (σ 26 9) v3) 1) = 1 → inR v2 ∧ ((¬ v2 = 0 → f_X10_offeredAt_L4 Q n σ (v2 + (-1)) (v3 + 1)) ∧ (v2 = 0 → Q σ v3))))))
def f_X10_offeredAt (a0 : Int) (σ : St) (Q : St → Int → Prop) : Prop :=
  f_X10_offeredAt_L4 Q FU σ a0 0
set_option maxRecDepth 100000 in
set_option maxHeartbeats 4000000 in
theorem w_X10_offeredAt_L4 {X : Cx} {Y : Cy} {Q : St → Int → Prop} (ok : Ok X Y KM cX10_offeredAt 4 RX10 (rm0q 0 0) (some .int)) : ∀ (n : Nat) (σ : St) (v2 : Int) (v3 : Int) , f_X10_offeredAt_L4 Q n σ v2 v3 → Wq X Y KM 4 (QF X Y (Qiq Y KM Q)) σ 4 [(0, .inr (.inr 0)), (2, .inl v2), (3, .inl v3)] [] := by
  intro n
  induction n with
  | zero => intro σ v2 v3 h; exact h.elim
  | succ n ih =>
    intro σ v2 v3 h
    rw [f_X10_offeredAt_L4] at h
    refine q_iload_n ok dX10_offeredAt_4 2 rfl ?_
    refine q_aload_n ok dX10_offeredAt_5 0 rfl ?_
    refine q_getI ok fl_X10_222 kM_0 fM_0_32 dX10_offeredAt_6 ?_
    obtain ⟨g1, g2, hT3a, hT3b⟩ := h
    refine q_icmp_ge (tgt := 42) ok dX10_offeredAt_9 (by decide) g1 g2 (fun c3 => ?_) (fun c3 => ?_)
    · have h := hT3a c3
      refine q_iconst ok dX10_offeredAt_42 ?_
      exact q_iret ok dX10_offeredAt_43 h
    · have h := hT3b c3
      refine q_aload_n ok dX10_offeredAt_12 0 rfl ?_
      refine q_getC ok fl_X10_86 kM_0 fM_0_40 dX10_offeredAt_13 ?_
      refine q_bipush ok dX10_offeredAt_16 rfl ?_
      refine q_iald ok kM_ok kM_26 (by decide) (by decide) dX10_offeredAt_18 ?_
      refine q_iload_n ok dX10_offeredAt_19 2 rfl ?_
      refine q_ishr ok dX10_offeredAt_20 ?_
      refine q_iconst ok dX10_offeredAt_21 ?_
      refine q_iand ok dX10_offeredAt_22 ?_
      refine q_iconst ok dX10_offeredAt_23 ?_
      obtain ⟨g3, hT2a, hT2b⟩ := h
      refine q_icmp_ne (tgt := 36) ok dX10_offeredAt_24 (by decide) g3 (by unfold inR; decide) (fun c2 => ?_) (fun c2 => ?_)
      · have h := hT2a c2
        refine q_iinc (lv' := [(3, .inl (v3 + 1)), (0, .inr (.inr 0)), (2, .inl v2)]) ok dX10_offeredAt_36 2 rfl (by decide) rfl ?_
        refine q_goto (tgt := 4) ok dX10_offeredAt_39 (by decide) ?_
        refine q_sub [1, 2, 0] rfl ?_
        exact ih σ v2 (v3 + 1) h
      · have h := hT2b c2
        refine q_iload_n ok dX10_offeredAt_27 1 rfl ?_
        obtain ⟨g4, hT1a, hT1b⟩ := h
        refine q_if_ne (tgt := 33) ok dX10_offeredAt_28 (by decide) g4 (fun c1 => ?_) (fun c1 => ?_)
        · have h := hT1a c1
          refine q_iinc (lv' := [(2, .inl (v2 + (-1))), (0, .inr (.inr 0)), (3, .inl v3)]) ok dX10_offeredAt_33 1 rfl (by decide) rfl ?_
          refine q_iinc (lv' := [(3, .inl (v3 + 1)), (2, .inl (v2 + (-1))), (0, .inr (.inr 0))]) ok dX10_offeredAt_36 2 rfl (by decide) rfl ?_
          refine q_goto (tgt := 4) ok dX10_offeredAt_39 (by decide) ?_
          refine q_sub [2, 1, 0] rfl ?_
          exact ih σ (v2 + (-1)) (v3 + 1) h
        · have h := hT1b c1
          refine q_iload_n ok dX10_offeredAt_31 2 rfl ?_
          exact q_iret ok dX10_offeredAt_32 h
set_option maxRecDepth 100000 in
set_option maxHeartbeats 4000000 in
theorem c_X10_offeredAt (l : Launch) (Y : Cy) (hD : ∀ σ, va_D Y.2.2.2 (wsOf KM Y.2.1 Y.2.2.1 σ)) {a0 : Int} {σ : St} {Q : St → Int → Prop} (h : f_X10_offeredAt a0 σ Q) : ConI l yX10_offeredAt cX10_offeredAt 4 .int (rm0q 0 0) Y KM σ [.inr (.inr 0), .inl a0] Q := con_of (lv := [(0, .inr (.inr 0)), (1, .inl a0)]) (by decide) hD (Nat.le_of_ble_eq_true rfl) rfl (fun X _ ok => by
  have ok : Ok X Y KM cX10_offeredAt 4 RX10 (rm0q 0 0) (some .int) := ok
  unfold f_X10_offeredAt at h
  refine q_iload_n ok dX10_offeredAt_0 1 rfl ?_
  refine q_istore_n (lv' := [(2, .inl a0), (0, .inr (.inr 0)), (1, .inl a0)]) ok dX10_offeredAt_1 (by decide) rfl ?_
  refine q_iconst ok dX10_offeredAt_2 ?_
  refine q_istore_n (lv' := [(3, .inl 0), (2, .inl a0), (0, .inr (.inr 0)), (1, .inl a0)]) ok dX10_offeredAt_3 (by decide) rfl ?_
  refine q_sub [2, 1, 0] rfl ?_
  exact w_X10_offeredAt_L4 ok FU σ a0 0 h)
/-! BranchingStoryModel.takes(I)V -/
def f_X10_takes (a0 : Int) (σ : St) (Q : St → Prop) : Prop :=
  ∀ σ1 : St, σ1 = sset σ 26 9 0 → ∀ σ2 : St, σ2 = sset σ1 26 8 (ior32 (σ1 26 8) (ishl32 1 a0)) → 0 ≤ a0 ∧ a0 < 16 ∧ 0 ≤ (σ2 24 a0.toNat) ∧ (σ2 24 a0.toNat) < 401 ∧ ∀ σ3 : St, σ3 = sset σ2 0 49 (σ2 8 (σ2 24 a0.toNat).toNat) → 0 ≤ (σ3 0 49) ∧ (σ3 0 49) < 64 ∧ ∀ σ4 : St, σ4 = sset σ3 0 48 (σ3 17 (σ3 0 49).toNat) → f_X10_flows σ4 (fun σ5 => Q σ5)
set_option maxRecDepth 100000 in
set_option maxHeartbeats 4000000 in
theorem c_X10_takes (l : Launch) (Y : Cy) (hD : ∀ σ, va_D Y.2.2.2 (wsOf KM Y.2.1 Y.2.2.1 σ)) {a0 : Int} {σ : St} {Q : St → Prop} (h : f_X10_takes a0 σ Q) : ConV l yX10_takes cX10_takes 2 (rm0q 4 91) Y KM σ [.inr (.inr 0), .inl a0] Q := con_of (lv := [(0, .inr (.inr 0)), (1, .inl a0)]) (by decide) hD (Nat.le_of_ble_eq_true rfl) rfl (fun X _ ok => by
  have ok : Ok X Y KM cX10_takes 2 RX10 (rm0q 4 91) none := ok
  unfold f_X10_takes at h
  refine q_aload_n ok dX10_takes_0 0 rfl ?_
  refine q_getC ok fl_X10_86 kM_0 fM_0_40 dX10_takes_1 ?_
  refine q_bipush ok dX10_takes_4 rfl ?_
  refine q_iconst ok dX10_takes_6 ?_
  refine q_iast ok kM_ok kM_26 (by decide) (by decide) dX10_takes_7 (wq_s (fun σ1 eσ1 => ?_))
  have h := h σ1 eσ1
  refine q_aload_n ok dX10_takes_8 0 rfl ?_
  refine q_getC ok fl_X10_86 kM_0 fM_0_40 dX10_takes_9 ?_
  refine q_bipush ok dX10_takes_12 rfl ?_
  refine q_dup2 ok dX10_takes_14 rfl rfl ?_
  refine q_iald ok kM_ok kM_26 (by decide) (by decide) dX10_takes_15 ?_
  refine q_iconst ok dX10_takes_16 ?_
  refine q_iload_n ok dX10_takes_17 1 rfl ?_
  refine q_ishl ok dX10_takes_18 ?_
  refine q_ior ok dX10_takes_19 ?_
  refine q_iast ok kM_ok kM_26 (by decide) (by decide) dX10_takes_20 (wq_s (fun σ2 eσ2 => ?_))
  have h := h σ2 eσ2
  refine q_aload_n ok dX10_takes_21 0 rfl ?_
  refine q_aload_n ok dX10_takes_22 0 rfl ?_
  refine q_getC ok fl_X10_31 kM_0 fM_0_11 dX10_takes_23 ?_
  refine q_aload_n ok dX10_takes_26 0 rfl ?_
  refine q_getC ok fl_X10_80 kM_0 fM_0_31 dX10_takes_27 ?_
  refine q_iload_n ok dX10_takes_30 1 rfl ?_
  obtain ⟨g1, g2, h⟩ := h
  refine q_iald ok kM_ok kM_24 g1 g2 dX10_takes_31 ?_
  obtain ⟨g3, g4, h⟩ := h
  refine q_iald ok kM_ok kM_8 g3 g4 dX10_takes_32 ?_
  refine q_putI ok fp_X10_289 kM_0 fM_0_49 dX10_takes_33 (wq_s (fun σ3 eσ3 => ?_))
  have h := h σ3 eσ3
  refine q_aload_n ok dX10_takes_36 0 rfl ?_
  refine q_aload_n ok dX10_takes_37 0 rfl ?_
  refine q_getC ok fl_X10_58 kM_0 fM_0_22 dX10_takes_38 ?_
  refine q_aload_n ok dX10_takes_41 0 rfl ?_
  refine q_getI ok fl_X10_289 kM_0 fM_0_49 dX10_takes_42 ?_
  obtain ⟨g5, g6, h⟩ := h
  refine q_iald ok kM_ok kM_17 g5 g6 dX10_takes_45 ?_
  refine q_putI ok fp_X10_292 kM_0 fM_0_48 dX10_takes_46 (wq_s (fun σ4 eσ4 => ?_))
  have h := h σ4 eσ4
  refine q_aload_n ok dX10_takes_49 0 rfl ?_
  refine q_callVV (st := []) ok cs_X10_322 kM_0 rfl (c_X10_flows X.2.1 Y ok.2.2.2.2.2.2.2.2 h) ⟨rfl, rfl, Nat.le_of_ble_eq_true rfl, Nat.le_of_ble_eq_true rfl⟩ rfl rfl (Nat.le_of_ble_eq_true rfl) dX10_takes_50 (fun σ5 h => ?_)
  exact q_vret ok dX10_takes_53 h)
/-! BranchingStoryModel.start()I -/
def f_X10_start (σ : St) (Q : St → Int → Prop) : Prop :=
  ∀ σ1 : St, σ1 = sset σ 0 5 0 → inR (σ1 0 4) ∧ ((¬ (σ1 0 4) = 0 → ∀ σ2 : St, σ2 = sset σ1 0 42 0 → f_X10_starts σ2 (fun σ3 => Q σ3 (σ3 26 0))) ∧ ((σ1 0 4) = 0 → f_X10_fails 1 σ1 (fun σ4 r1 => Q σ4 r1)))
set_option maxRecDepth 100000 in
set_option maxHeartbeats 4000000 in
theorem c_X10_start (l : Launch) (Y : Cy) (hD : ∀ σ, va_D Y.2.2.2 (wsOf KM Y.2.1 Y.2.2.1 σ)) {σ : St} {Q : St → Int → Prop} (h : f_X10_start  σ Q) : ConI l yX10_start cX10_start 1 .int (rm0q 5 112) Y KM σ [.inr (.inr 0)] Q := con_of (lv := [(0, .inr (.inr 0))]) (by decide) hD (Nat.le_of_ble_eq_true rfl) rfl (fun X _ ok => by
  have ok : Ok X Y KM cX10_start 1 RX10 (rm0q 5 112) (some .int) := ok
  unfold f_X10_start at h
  refine q_aload_n ok dX10_start_0 0 rfl ?_
  refine q_iconst ok dX10_start_1 ?_
  refine q_putI ok fp_X10_143 kM_0 fM_0_5 dX10_start_2 (wq_s (fun σ1 eσ1 => ?_))
  have h := h σ1 eσ1
  refine q_aload_n ok dX10_start_5 0 rfl ?_
  refine q_getI ok fl_X10_261 kM_0 fM_0_4 dX10_start_6 ?_
  obtain ⟨g1, hT1a, hT1b⟩ := h
  refine q_if_ne (tgt := 18) ok dX10_start_9 (by decide) g1 (fun c1 => ?_) (fun c1 => ?_)
  · have h := hT1a c1
    refine q_aload_n ok dX10_start_18 0 rfl ?_
    refine q_iconst ok dX10_start_19 ?_
    refine q_putI ok fp_X10_267 kM_0 fM_0_42 dX10_start_20 (wq_s (fun σ2 eσ2 => ?_))
    have h := h σ2 eσ2
    refine q_aload_n ok dX10_start_23 0 rfl ?_
    refine q_callVV (st := []) ok cs_X10_325 kM_0 rfl (c_X10_starts X.2.1 Y ok.2.2.2.2.2.2.2.2 h) ⟨rfl, rfl, Nat.le_of_ble_eq_true rfl, Nat.le_of_ble_eq_true rfl⟩ rfl rfl (Nat.le_of_ble_eq_true rfl) dX10_start_24 (fun σ3 h => ?_)
    refine q_aload_n ok dX10_start_27 0 rfl ?_
    refine q_getC ok fl_X10_86 kM_0 fM_0_40 dX10_start_28 ?_
    refine q_iconst ok dX10_start_31 ?_
    refine q_iald ok kM_ok kM_26 (by decide) (by decide) dX10_start_32 ?_
    exact q_iret ok dX10_start_33 h
  · have h := hT1b c1
    refine q_aload_n ok dX10_start_12 0 rfl ?_
    refine q_iconst ok dX10_start_13 ?_
    refine q_callVI (st := []) ok cs_X10_253 kM_0 rfl (c_X10_fails X.2.1 Y ok.2.2.2.2.2.2.2.2 h) ⟨rfl, rfl, Nat.le_of_ble_eq_true rfl, Nat.le_of_ble_eq_true rfl⟩ rfl rfl (Nat.le_of_ble_eq_true rfl) dX10_start_14 (fun σ4 r1 h => ?_)
    exact q_iret ok dX10_start_17 h)
/-! BranchingStoryModel.choose(I)I -/
def f_X10_choose_L110 (Q : St → Int → Prop) : Nat → St → Int → Int → Prop
  | 0, _, _, _ => False
  | n + 1, σ, v2, v3 => inR v3 ∧ ((31 ≤ v3 → ∀ σ1 : St, σ1 = sset σ 0 42 ((σ 0 42) + 1) → f_X10_takes v2 σ1 (fun σ2 => Q σ2 (σ2 26 0))) ∧ (¬ 31 ≤ v3 → 0 ≤ v3 ∧ v3 < 31 ∧ 0 ≤ ((31 * (σ 0 42)) + v3) ∧ ((31 * (σ 0 42)) + v3) < 372 ∧ ∀ σ3 : St, σ3 = sset σ 27 ((31 * (σ 0 42)) + v3).toNat (σ 26 v3.toNat) → f_X10_choose_L110 Q n σ3 v2 (v3 + 1)))
def f_X10_choose_J104 (Q : St → Int → Prop) (σ : St) (v2 : Int) (s1 : Int) (s2 : Int) : Prop :=
  ∀ σ1 : St, σ1 = sset σ 0 42 (s1 - s2) → f_X10_choose_L110 Q FU σ1 v2 0
def f_X10_choose_J85 (Q : St → Int → Prop) (σ : St) (v2 : Int) : Prop :=
  inR (σ 0 42) ∧ ((¬ (σ 0 42) = 12 → f_X10_choose_J104 Q σ v2 (σ 0 42) 0) ∧ ((σ 0 42) = 12 → f_X10_choose_J104 Q σ v2 (σ 0 42) 1))
def f_X10_choose_L48 (Q : St → Int → Prop) : Nat → St → Int → Int → Prop
  | 0, _, _, _ => False
  | n + 1, σ, v2, v3 => inR v3 ∧ ((341 ≤ v3 → f_X10_choose_J85 Q σ v2) ∧ (¬ 341 ≤ v3 → inR (σ 0 42) ∧ ((¬ (σ 0 42) = 12 → f_X10_choose_J85 Q σ v2) ∧ ((σ 0 42) = 12 → 0 ≤ (v3 + 31) ∧ (v3 + 31) < 372 ∧ 0 ≤ v3 ∧ v3 < 372 ∧ ∀ σ1 : St, σ1 = sset σ 27 v3.toNat (σ 27 (v3 + 31).toNat) → f_X10_choose_L48 Q n σ1 v2 (v3 + 1)))))
def f_X10_choose_J34 (Q : St → Int → Prop) (σ : St) (s0 : Int) : Prop :=
  inR s0 ∧ ((¬ s0 = (-1) → f_X10_choose_L48 Q FU σ s0 0) ∧ (s0 = (-1) → f_X10_fails 2 σ (fun σ1 r1 => Q σ1 r1)))
def f_X10_choose (a0 : Int) (σ : St) (Q : St → Int → Prop) : Prop :=
  ∀ σ1 : St, σ1 = sset σ 0 5 0 → inR (σ1 26 0) ∧ (((σ1 26 0) = 1 → inR a0 ∧ ((0 ≤ a0 → f_X10_offeredAt a0 σ1 (fun σ2 r1 => f_X10_choose_J34 Q σ2 r1)) ∧ (¬ 0 ≤ a0 → f_X10_choose_J34 Q σ1 (-1)))) ∧ (¬ (σ1 26 0) = 1 → f_X10_fails 1 σ1 (fun σ3 r2 => Q σ3 r2)))
set_option maxRecDepth 100000 in
set_option maxHeartbeats 4000000 in
theorem w_X10_choose_L110 {X : Cx} {Y : Cy} {Q : St → Int → Prop} (ok : Ok X Y KM cX10_choose 4 RX10 (rm0q 5 112) (some .int)) : ∀ (n : Nat) (σ : St) (v2 : Int) (v3 : Int) , f_X10_choose_L110 Q n σ v2 v3 → Wq X Y KM 4 (QF X Y (Qiq Y KM Q)) σ 110 [(0, .inr (.inr 0)), (2, .inl v2), (3, .inl v3)] [] := by
  intro n
  induction n with
  | zero => intro σ v2 v3 h; exact h.elim
  | succ n ih =>
    intro σ v2 v3 h
    rw [f_X10_choose_L110] at h
    refine q_iload_n ok dX10_choose_110 2 rfl ?_
    refine q_bipush ok dX10_choose_111 rfl ?_
    obtain ⟨g1, hT1a, hT1b⟩ := h
    refine q_icmp_ge (tgt := 142) ok dX10_choose_113 (by decide) g1 (by unfold inR; decide) (fun c1 => ?_) (fun c1 => ?_)
    · have h := hT1a c1
      refine q_aload_n ok dX10_choose_142 0 rfl ?_
      refine q_dup ok dX10_choose_143 rfl ?_
      refine q_getI ok fl_X10_267 kM_0 fM_0_42 dX10_choose_144 ?_
      refine q_iconst ok dX10_choose_147 ?_
      refine q_iadd ok dX10_choose_148 ?_
      refine q_putI ok fp_X10_267 kM_0 fM_0_42 dX10_choose_149 (wq_s (fun σ1 eσ1 => ?_))
      have h := h σ1 eσ1
      refine q_aload_n ok dX10_choose_152 0 rfl ?_
      refine q_iload_n ok dX10_choose_153 1 rfl ?_
      refine q_callVV (st := []) ok cs_X10_331 kM_0 rfl (c_X10_takes X.2.1 Y ok.2.2.2.2.2.2.2.2 h) ⟨rfl, rfl, Nat.le_of_ble_eq_true rfl, Nat.le_of_ble_eq_true rfl⟩ rfl rfl (Nat.le_of_ble_eq_true rfl) dX10_choose_154 (fun σ2 h => ?_)
      refine q_aload_n ok dX10_choose_157 0 rfl ?_
      refine q_getC ok fl_X10_86 kM_0 fM_0_40 dX10_choose_158 ?_
      refine q_iconst ok dX10_choose_161 ?_
      refine q_iald ok kM_ok kM_26 (by decide) (by decide) dX10_choose_162 ?_
      exact q_iret ok dX10_choose_163 h
    · have h := hT1b c1
      refine q_aload_n ok dX10_choose_116 0 rfl ?_
      refine q_getC ok fl_X10_89 kM_0 fM_0_41 dX10_choose_117 ?_
      refine q_bipush ok dX10_choose_120 rfl ?_
      refine q_aload_n ok dX10_choose_122 0 rfl ?_
      refine q_getI ok fl_X10_267 kM_0 fM_0_42 dX10_choose_123 ?_
      refine q_imul ok dX10_choose_126 ?_
      refine q_iload_n ok dX10_choose_127 2 rfl ?_
      refine q_iadd ok dX10_choose_128 ?_
      refine q_aload_n ok dX10_choose_129 0 rfl ?_
      refine q_getC ok fl_X10_86 kM_0 fM_0_40 dX10_choose_130 ?_
      refine q_iload_n ok dX10_choose_133 2 rfl ?_
      obtain ⟨g2, g3, h⟩ := h
      refine q_iald ok kM_ok kM_26 g2 g3 dX10_choose_134 ?_
      obtain ⟨g4, g5, h⟩ := h
      refine q_iast ok kM_ok kM_27 g4 g5 dX10_choose_135 (wq_s (fun σ3 eσ3 => ?_))
      have h := h σ3 eσ3
      refine q_iinc (lv' := [(3, .inl (v3 + 1)), (0, .inr (.inr 0)), (2, .inl v2)]) ok dX10_choose_136 2 rfl (by decide) rfl ?_
      refine q_goto (tgt := 110) ok dX10_choose_139 (by decide) ?_
      refine q_sub [1, 2, 0] rfl ?_
      exact ih σ3 v2 (v3 + 1) h
set_option maxRecDepth 100000 in
set_option maxHeartbeats 4000000 in
theorem w_X10_choose_J104 {X : Cx} {Y : Cy} {Q : St → Int → Prop} (ok : Ok X Y KM cX10_choose 4 RX10 (rm0q 5 112) (some .int)) (σ : St) (v2 : Int) (s1 : Int) (s2 : Int) (h : f_X10_choose_J104 Q σ v2 s1 s2) : Wq X Y KM 4 (QF X Y (Qiq Y KM Q)) σ 104 [(0, .inr (.inr 0)), (2, .inl v2)] [.inl s2, .inl s1, .inr (.inr 0)] := by
  unfold f_X10_choose_J104 at h
  refine q_isub ok dX10_choose_104 ?_
  refine q_putI ok fp_X10_267 kM_0 fM_0_42 dX10_choose_105 (wq_s (fun σ1 eσ1 => ?_))
  have h := h σ1 eσ1
  refine q_iconst ok dX10_choose_108 ?_
  refine q_istore_n (lv' := [(3, .inl 0), (0, .inr (.inr 0)), (2, .inl v2)]) ok dX10_choose_109 (by decide) rfl ?_
  refine q_sub [1, 2, 0] rfl ?_
  exact w_X10_choose_L110 ok FU σ1 v2 0 h
set_option maxRecDepth 100000 in
set_option maxHeartbeats 4000000 in
theorem w_X10_choose_J85 {X : Cx} {Y : Cy} {Q : St → Int → Prop} (ok : Ok X Y KM cX10_choose 4 RX10 (rm0q 5 112) (some .int)) (σ : St) (v2 : Int) (h : f_X10_choose_J85 Q σ v2) : Wq X Y KM 4 (QF X Y (Qiq Y KM Q)) σ 85 [(0, .inr (.inr 0)), (2, .inl v2)] [] := by
  unfold f_X10_choose_J85 at h
  refine q_aload_n ok dX10_choose_85 0 rfl ?_
  refine q_dup ok dX10_choose_86 rfl ?_
  refine q_getI ok fl_X10_267 kM_0 fM_0_42 dX10_choose_87 ?_
  refine q_aload_n ok dX10_choose_90 0 rfl ?_
  refine q_getI ok fl_X10_267 kM_0 fM_0_42 dX10_choose_91 ?_
  refine q_bipush ok dX10_choose_94 rfl ?_
  obtain ⟨g1, hT1a, hT1b⟩ := h
  refine q_icmp_ne (tgt := 103) ok dX10_choose_96 (by decide) g1 (by unfold inR; decide) (fun c1 => ?_) (fun c1 => ?_)
  · have h := hT1a c1
    refine q_iconst ok dX10_choose_103 ?_
    exact w_X10_choose_J104 ok σ v2 (σ 0 42) 0 h
  · have h := hT1b c1
    refine q_iconst ok dX10_choose_99 ?_
    refine q_goto (tgt := 104) ok dX10_choose_100 (by decide) ?_
    exact w_X10_choose_J104 ok σ v2 (σ 0 42) 1 h
set_option maxRecDepth 100000 in
set_option maxHeartbeats 4000000 in
theorem w_X10_choose_L48 {X : Cx} {Y : Cy} {Q : St → Int → Prop} (ok : Ok X Y KM cX10_choose 4 RX10 (rm0q 5 112) (some .int)) : ∀ (n : Nat) (σ : St) (v2 : Int) (v3 : Int) , f_X10_choose_L48 Q n σ v2 v3 → Wq X Y KM 4 (QF X Y (Qiq Y KM Q)) σ 48 [(0, .inr (.inr 0)), (2, .inl v2), (3, .inl v3)] [] := by
  intro n
  induction n with
  | zero => intro σ v2 v3 h; exact h.elim
  | succ n ih =>
    intro σ v2 v3 h
    rw [f_X10_choose_L48] at h
    refine q_iload_n ok dX10_choose_48 2 rfl ?_
    refine q_sipush ok dX10_choose_49 rfl ?_
    obtain ⟨g1, hT2a, hT2b⟩ := h
    refine q_icmp_ge (tgt := 85) ok dX10_choose_52 (by decide) g1 (by unfold inR; decide) (fun c2 => ?_) (fun c2 => ?_)
    · have h := hT2a c2
      refine q_sub [0, 1] rfl ?_
      exact w_X10_choose_J85 ok σ v2 h
    · have h := hT2b c2
      refine q_aload_n ok dX10_choose_55 0 rfl ?_
      refine q_getI ok fl_X10_267 kM_0 fM_0_42 dX10_choose_56 ?_
      refine q_bipush ok dX10_choose_59 rfl ?_
      obtain ⟨g2, hT1a, hT1b⟩ := h
      refine q_icmp_ne (tgt := 85) ok dX10_choose_61 (by decide) g2 (by unfold inR; decide) (fun c1 => ?_) (fun c1 => ?_)
      · have h := hT1a c1
        refine q_sub [0, 1] rfl ?_
        exact w_X10_choose_J85 ok σ v2 h
      · have h := hT1b c1
        refine q_aload_n ok dX10_choose_64 0 rfl ?_
        refine q_getC ok fl_X10_89 kM_0 fM_0_41 dX10_choose_65 ?_
        refine q_iload_n ok dX10_choose_68 2 rfl ?_
        refine q_aload_n ok dX10_choose_69 0 rfl ?_
        refine q_getC ok fl_X10_89 kM_0 fM_0_41 dX10_choose_70 ?_
        refine q_iload_n ok dX10_choose_73 2 rfl ?_
        refine q_bipush ok dX10_choose_74 rfl ?_
        refine q_iadd ok dX10_choose_76 ?_
        obtain ⟨g3, g4, h⟩ := h
        refine q_iald ok kM_ok kM_27 g3 g4 dX10_choose_77 ?_
        obtain ⟨g5, g6, h⟩ := h
        refine q_iast ok kM_ok kM_27 g5 g6 dX10_choose_78 (wq_s (fun σ1 eσ1 => ?_))
        have h := h σ1 eσ1
        refine q_iinc (lv' := [(3, .inl (v3 + 1)), (0, .inr (.inr 0)), (2, .inl v2)]) ok dX10_choose_79 2 rfl (by decide) rfl ?_
        refine q_goto (tgt := 48) ok dX10_choose_82 (by decide) ?_
        refine q_sub [1, 2, 0] rfl ?_
        exact ih σ1 v2 (v3 + 1) h
set_option maxRecDepth 100000 in
set_option maxHeartbeats 4000000 in
theorem w_X10_choose_J34 {X : Cx} {Y : Cy} {Q : St → Int → Prop} (ok : Ok X Y KM cX10_choose 4 RX10 (rm0q 5 112) (some .int)) (σ : St) (s0 : Int) (h : f_X10_choose_J34 Q σ s0) : Wq X Y KM 4 (QF X Y (Qiq Y KM Q)) σ 34 [(0, .inr (.inr 0))] [.inl s0] := by
  unfold f_X10_choose_J34 at h
  refine q_istore_n (lv' := [(2, .inl s0), (0, .inr (.inr 0))]) ok dX10_choose_34 (by decide) rfl ?_
  refine q_iload_n ok dX10_choose_35 0 rfl ?_
  refine q_iconst ok dX10_choose_36 ?_
  obtain ⟨g1, hT1a, hT1b⟩ := h
  refine q_icmp_ne (tgt := 46) ok dX10_choose_37 (by decide) g1 (by unfold inR; decide) (fun c1 => ?_) (fun c1 => ?_)
  · have h := hT1a c1
    refine q_iconst ok dX10_choose_46 ?_
    refine q_istore_n (lv' := [(3, .inl 0), (2, .inl s0), (0, .inr (.inr 0))]) ok dX10_choose_47 (by decide) rfl ?_
    refine q_sub [2, 1, 0] rfl ?_
    exact w_X10_choose_L48 ok FU σ s0 0 h
  · have h := hT1b c1
    refine q_aload_n ok dX10_choose_40 1 rfl ?_
    refine q_iconst ok dX10_choose_41 ?_
    refine q_callVI (st := []) ok cs_X10_253 kM_0 rfl (c_X10_fails X.2.1 Y ok.2.2.2.2.2.2.2.2 h) ⟨rfl, rfl, Nat.le_of_ble_eq_true rfl, Nat.le_of_ble_eq_true rfl⟩ rfl rfl (Nat.le_of_ble_eq_true rfl) dX10_choose_42 (fun σ1 r1 h => ?_)
    exact q_iret ok dX10_choose_45 h
set_option maxRecDepth 100000 in
set_option maxHeartbeats 4000000 in
theorem c_X10_choose (l : Launch) (Y : Cy) (hD : ∀ σ, va_D Y.2.2.2 (wsOf KM Y.2.1 Y.2.2.1 σ)) {a0 : Int} {σ : St} {Q : St → Int → Prop} (h : f_X10_choose a0 σ Q) : ConI l yX10_choose cX10_choose 4 .int (rm0q 5 112) Y KM σ [.inr (.inr 0), .inl a0] Q := con_of (lv := [(0, .inr (.inr 0)), (1, .inl a0)]) (by decide) hD (Nat.le_of_ble_eq_true rfl) rfl (fun X _ ok => by
  have ok : Ok X Y KM cX10_choose 4 RX10 (rm0q 5 112) (some .int) := ok
  unfold f_X10_choose at h
  refine q_aload_n ok dX10_choose_0 0 rfl ?_
  refine q_iconst ok dX10_choose_1 ?_
  refine q_putI ok fp_X10_143 kM_0 fM_0_5 dX10_choose_2 (wq_s (fun σ1 eσ1 => ?_))
  have h := h σ1 eσ1
  refine q_aload_n ok dX10_choose_5 0 rfl ?_
  refine q_getC ok fl_X10_86 kM_0 fM_0_40 dX10_choose_6 ?_
  refine q_iconst ok dX10_choose_9 ?_
  refine q_iald ok kM_ok kM_26 (by decide) (by decide) dX10_choose_10 ?_
  refine q_iconst ok dX10_choose_11 ?_
  obtain ⟨g1, hT2a, hT2b⟩ := h
  refine q_icmp_eq (tgt := 21) ok dX10_choose_12 (by decide) g1 (by unfold inR; decide) (fun c2 => ?_) (fun c2 => ?_)
  · have h := hT2a c2
    refine q_iload_n ok dX10_choose_21 1 rfl ?_
    obtain ⟨g2, hT1a, hT1b⟩ := h
    refine q_if_ge (tgt := 29) ok dX10_choose_22 (by decide) g2 (fun c1 => ?_) (fun c1 => ?_)
    · have h := hT1a c1
      refine q_aload_n ok dX10_choose_29 0 rfl ?_
      refine q_iload_n ok dX10_choose_30 1 rfl ?_
      refine q_callVI (st := []) ok cs_X10_328 kM_0 rfl (c_X10_offeredAt X.2.1 Y ok.2.2.2.2.2.2.2.2 h) ⟨rfl, rfl, Nat.le_of_ble_eq_true rfl, Nat.le_of_ble_eq_true rfl⟩ rfl rfl (Nat.le_of_ble_eq_true rfl) dX10_choose_31 (fun σ2 r1 h => ?_)
      refine q_sub [0] rfl ?_
      exact w_X10_choose_J34 ok σ2 r1 h
    · have h := hT1b c1
      refine q_iconst ok dX10_choose_25 ?_
      refine q_goto (tgt := 34) ok dX10_choose_26 (by decide) ?_
      refine q_sub [0] rfl ?_
      exact w_X10_choose_J34 ok σ1 (-1) h
  · have h := hT2b c2
    refine q_aload_n ok dX10_choose_15 0 rfl ?_
    refine q_iconst ok dX10_choose_16 ?_
    refine q_callVI (st := []) ok cs_X10_253 kM_0 rfl (c_X10_fails X.2.1 Y ok.2.2.2.2.2.2.2.2 h) ⟨rfl, rfl, Nat.le_of_ble_eq_true rfl, Nat.le_of_ble_eq_true rfl⟩ rfl rfl (Nat.le_of_ble_eq_true rfl) dX10_choose_17 (fun σ3 r2 h => ?_)
    exact q_iret ok dX10_choose_20 h)
/-! BranchingStoryModel.back()I -/
def f_X10_back_L30 (Q : St → Int → Prop) : Nat → St → Int → Prop
  | 0, _, _ => False
  | n + 1, σ, v1 => inR v1 ∧ ((31 ≤ v1 → Q σ (σ 0 42)) ∧ (¬ 31 ≤ v1 → 0 ≤ ((31 * (σ 0 42)) + v1) ∧ ((31 * (σ 0 42)) + v1) < 372 ∧ 0 ≤ v1 ∧ v1 < 31 ∧ ∀ σ1 : St, σ1 = sset σ 26 v1.toNat (σ 27 ((31 * (σ 0 42)) + v1).toNat) → f_X10_back_L30 Q n σ1 (v1 + 1)))
def f_X10_back (σ : St) (Q : St → Int → Prop) : Prop :=
  ∀ σ1 : St, σ1 = sset σ 0 5 0 → inR (σ1 0 42) ∧ ((¬ (σ1 0 42) = 0 → ∀ σ2 : St, σ2 = sset σ1 0 42 ((σ1 0 42) - 1) → f_X10_back_L30 Q FU σ2 0) ∧ ((σ1 0 42) = 0 → f_X10_fails 1 σ1 (fun σ3 r1 => Q σ3 r1)))
set_option maxRecDepth 100000 in
set_option maxHeartbeats 4000000 in
theorem w_X10_back_L30 {X : Cx} {Y : Cy} {Q : St → Int → Prop} (ok : Ok X Y KM cX10_back 2 RX10 (rm0q 1 21) (some .int)) : ∀ (n : Nat) (σ : St) (v1 : Int) , f_X10_back_L30 Q n σ v1 → Wq X Y KM 2 (QF X Y (Qiq Y KM Q)) σ 30 [(0, .inr (.inr 0)), (1, .inl v1)] [] := by
  intro n
  induction n with
  | zero => intro σ v1 h; exact h.elim
  | succ n ih =>
    intro σ v1 h
    rw [f_X10_back_L30] at h
    refine q_iload_n ok dX10_back_30 1 rfl ?_
    refine q_bipush ok dX10_back_31 rfl ?_
    obtain ⟨g1, hT1a, hT1b⟩ := h
    refine q_icmp_ge (tgt := 62) ok dX10_back_33 (by decide) g1 (by unfold inR; decide) (fun c1 => ?_) (fun c1 => ?_)
    · have h := hT1a c1
      refine q_aload_n ok dX10_back_62 0 rfl ?_
      refine q_getI ok fl_X10_267 kM_0 fM_0_42 dX10_back_63 ?_
      exact q_iret ok dX10_back_66 h
    · have h := hT1b c1
      refine q_aload_n ok dX10_back_36 0 rfl ?_
      refine q_getC ok fl_X10_86 kM_0 fM_0_40 dX10_back_37 ?_
      refine q_iload_n ok dX10_back_40 1 rfl ?_
      refine q_aload_n ok dX10_back_41 0 rfl ?_
      refine q_getC ok fl_X10_89 kM_0 fM_0_41 dX10_back_42 ?_
      refine q_bipush ok dX10_back_45 rfl ?_
      refine q_aload_n ok dX10_back_47 0 rfl ?_
      refine q_getI ok fl_X10_267 kM_0 fM_0_42 dX10_back_48 ?_
      refine q_imul ok dX10_back_51 ?_
      refine q_iload_n ok dX10_back_52 1 rfl ?_
      refine q_iadd ok dX10_back_53 ?_
      obtain ⟨g2, g3, h⟩ := h
      refine q_iald ok kM_ok kM_27 g2 g3 dX10_back_54 ?_
      obtain ⟨g4, g5, h⟩ := h
      refine q_iast ok kM_ok kM_26 g4 g5 dX10_back_55 (wq_s (fun σ1 eσ1 => ?_))
      have h := h σ1 eσ1
      refine q_iinc (lv' := [(1, .inl (v1 + 1)), (0, .inr (.inr 0))]) ok dX10_back_56 1 rfl (by decide) rfl ?_
      refine q_goto (tgt := 30) ok dX10_back_59 (by decide) ?_
      refine q_sub [1, 0] rfl ?_
      exact ih σ1 (v1 + 1) h
set_option maxRecDepth 100000 in
set_option maxHeartbeats 4000000 in
theorem c_X10_back (l : Launch) (Y : Cy) (hD : ∀ σ, va_D Y.2.2.2 (wsOf KM Y.2.1 Y.2.2.1 σ)) {σ : St} {Q : St → Int → Prop} (h : f_X10_back  σ Q) : ConI l yX10_back cX10_back 2 .int (rm0q 1 21) Y KM σ [.inr (.inr 0)] Q := con_of (lv := [(0, .inr (.inr 0))]) (by decide) hD (Nat.le_of_ble_eq_true rfl) rfl (fun X _ ok => by
  have ok : Ok X Y KM cX10_back 2 RX10 (rm0q 1 21) (some .int) := ok
  unfold f_X10_back at h
  refine q_aload_n ok dX10_back_0 0 rfl ?_
  refine q_iconst ok dX10_back_1 ?_
  refine q_putI ok fp_X10_143 kM_0 fM_0_5 dX10_back_2 (wq_s (fun σ1 eσ1 => ?_))
  have h := h σ1 eσ1
  refine q_aload_n ok dX10_back_5 0 rfl ?_
  refine q_getI ok fl_X10_267 kM_0 fM_0_42 dX10_back_6 ?_
  obtain ⟨g1, hT1a, hT1b⟩ := h
  refine q_if_ne (tgt := 18) ok dX10_back_9 (by decide) g1 (fun c1 => ?_) (fun c1 => ?_)
  · have h := hT1a c1
    refine q_aload_n ok dX10_back_18 0 rfl ?_
    refine q_dup ok dX10_back_19 rfl ?_
    refine q_getI ok fl_X10_267 kM_0 fM_0_42 dX10_back_20 ?_
    refine q_iconst ok dX10_back_23 ?_
    refine q_isub ok dX10_back_24 ?_
    refine q_putI ok fp_X10_267 kM_0 fM_0_42 dX10_back_25 (wq_s (fun σ2 eσ2 => ?_))
    have h := h σ2 eσ2
    refine q_iconst ok dX10_back_28 ?_
    refine q_istore_n (lv' := [(1, .inl 0), (0, .inr (.inr 0))]) ok dX10_back_29 (by decide) rfl ?_
    refine q_sub [1, 0] rfl ?_
    exact w_X10_back_L30 ok FU σ2 0 h
  · have h := hT1b c1
    refine q_aload_n ok dX10_back_12 0 rfl ?_
    refine q_iconst ok dX10_back_13 ?_
    refine q_callVI (st := []) ok cs_X10_253 kM_0 rfl (c_X10_fails X.2.1 Y ok.2.2.2.2.2.2.2.2 h) ⟨rfl, rfl, Nat.le_of_ble_eq_true rfl, Nat.le_of_ble_eq_true rfl⟩ rfl rfl (Nat.le_of_ble_eq_true rfl) dX10_back_14 (fun σ3 r1 h => ?_)
    exact q_iret ok dX10_back_17 h)
/-! BranchingStoryModel.status()I -/
def f_X10_status (σ : St) (Q : St → Int → Prop) : Prop :=
  ∀ σ1 : St, σ1 = sset σ 0 5 0 → Q σ1 (σ1 26 0)
set_option maxRecDepth 100000 in
set_option maxHeartbeats 4000000 in
theorem c_X10_status (l : Launch) (Y : Cy) (hD : ∀ σ, va_D Y.2.2.2 (wsOf KM Y.2.1 Y.2.2.1 σ)) {σ : St} {Q : St → Int → Prop} (h : f_X10_status  σ Q) : ConI l yX10_status cX10_status 1 .int (rm0q 0 0) Y KM σ [.inr (.inr 0)] Q := con_of (lv := [(0, .inr (.inr 0))]) (by decide) hD (Nat.le_of_ble_eq_true rfl) rfl (fun X _ ok => by
  have ok : Ok X Y KM cX10_status 1 RX10 (rm0q 0 0) (some .int) := ok
  unfold f_X10_status at h
  refine q_aload_n ok dX10_status_0 0 rfl ?_
  refine q_iconst ok dX10_status_1 ?_
  refine q_putI ok fp_X10_143 kM_0 fM_0_5 dX10_status_2 (wq_s (fun σ1 eσ1 => ?_))
  have h := h σ1 eσ1
  refine q_aload_n ok dX10_status_5 0 rfl ?_
  refine q_getC ok fl_X10_86 kM_0 fM_0_40 dX10_status_6 ?_
  refine q_iconst ok dX10_status_9 ?_
  refine q_iald ok kM_ok kM_26 (by decide) (by decide) dX10_status_10 ?_
  exact q_iret ok dX10_status_11 h)
/-! BranchingStoryModel.ending()I -/
def f_X10_ending (σ : St) (Q : St → Int → Prop) : Prop :=
  ∀ σ1 : St, σ1 = sset σ 0 5 0 → inR (σ1 26 0) ∧ ((¬ (σ1 26 0) = 2 → Q σ1 (-1)) ∧ ((σ1 26 0) = 2 → Q σ1 (σ1 26 1)))
set_option maxRecDepth 100000 in
set_option maxHeartbeats 4000000 in
theorem c_X10_ending (l : Launch) (Y : Cy) (hD : ∀ σ, va_D Y.2.2.2 (wsOf KM Y.2.1 Y.2.2.1 σ)) {σ : St} {Q : St → Int → Prop} (h : f_X10_ending  σ Q) : ConI l yX10_ending cX10_ending 1 .int (rm0q 0 0) Y KM σ [.inr (.inr 0)] Q := con_of (lv := [(0, .inr (.inr 0))]) (by decide) hD (Nat.le_of_ble_eq_true rfl) rfl (fun X _ ok => by
  have ok : Ok X Y KM cX10_ending 1 RX10 (rm0q 0 0) (some .int) := ok
  unfold f_X10_ending at h
  refine q_aload_n ok dX10_ending_0 0 rfl ?_
  refine q_iconst ok dX10_ending_1 ?_
  refine q_putI ok fp_X10_143 kM_0 fM_0_5 dX10_ending_2 (wq_s (fun σ1 eσ1 => ?_))
  have h := h σ1 eσ1
  refine q_aload_n ok dX10_ending_5 0 rfl ?_
  refine q_getC ok fl_X10_86 kM_0 fM_0_40 dX10_ending_6 ?_
  refine q_iconst ok dX10_ending_9 ?_
  refine q_iald ok kM_ok kM_26 (by decide) (by decide) dX10_ending_10 ?_
  refine q_iconst ok dX10_ending_11 ?_
  obtain ⟨g1, hT1a, hT1b⟩ := h
  refine q_icmp_ne (tgt := 24) ok dX10_ending_12 (by decide) g1 (by unfold inR; decide) (fun c1 => ?_) (fun c1 => ?_)
  · have h := hT1a c1
    refine q_iconst ok dX10_ending_24 ?_
    exact q_iret ok dX10_ending_25 h
  · have h := hT1b c1
    refine q_aload_n ok dX10_ending_15 0 rfl ?_
    refine q_getC ok fl_X10_86 kM_0 fM_0_40 dX10_ending_16 ?_
    refine q_iconst ok dX10_ending_19 ?_
    refine q_iald ok kM_ok kM_26 (by decide) (by decide) dX10_ending_20 ?_
    refine q_goto (tgt := 25) ok dX10_ending_21 (by decide) ?_
    exact q_iret ok dX10_ending_25 h)
/-! BranchingStoryModel.node()I -/
def f_X10_node (σ : St) (Q : St → Int → Prop) : Prop :=
  ∀ σ1 : St, σ1 = sset σ 0 5 0 → inR (σ1 26 0) ∧ ((¬ (σ1 26 0) = 0 → Q σ1 (σ1 26 2)) ∧ ((σ1 26 0) = 0 → Q σ1 (-1)))
set_option maxRecDepth 100000 in
set_option maxHeartbeats 4000000 in
theorem c_X10_node (l : Launch) (Y : Cy) (hD : ∀ σ, va_D Y.2.2.2 (wsOf KM Y.2.1 Y.2.2.1 σ)) {σ : St} {Q : St → Int → Prop} (h : f_X10_node  σ Q) : ConI l yX10_node cX10_node 1 .int (rm0q 0 0) Y KM σ [.inr (.inr 0)] Q := con_of (lv := [(0, .inr (.inr 0))]) (by decide) hD (Nat.le_of_ble_eq_true rfl) rfl (fun X _ ok => by
  have ok : Ok X Y KM cX10_node 1 RX10 (rm0q 0 0) (some .int) := ok
  unfold f_X10_node at h
  refine q_aload_n ok dX10_node_0 0 rfl ?_
  refine q_iconst ok dX10_node_1 ?_
  refine q_putI ok fp_X10_143 kM_0 fM_0_5 dX10_node_2 (wq_s (fun σ1 eσ1 => ?_))
  have h := h σ1 eσ1
  refine q_aload_n ok dX10_node_5 0 rfl ?_
  refine q_getC ok fl_X10_86 kM_0 fM_0_40 dX10_node_6 ?_
  refine q_iconst ok dX10_node_9 ?_
  refine q_iald ok kM_ok kM_26 (by decide) (by decide) dX10_node_10 ?_
  obtain ⟨g1, hT1a, hT1b⟩ := h
  refine q_if_ne (tgt := 18) ok dX10_node_11 (by decide) g1 (fun c1 => ?_) (fun c1 => ?_)
  · have h := hT1a c1
    refine q_aload_n ok dX10_node_18 0 rfl ?_
    refine q_getC ok fl_X10_86 kM_0 fM_0_40 dX10_node_19 ?_
    refine q_iconst ok dX10_node_22 ?_
    refine q_iald ok kM_ok kM_26 (by decide) (by decide) dX10_node_23 ?_
    exact q_iret ok dX10_node_24 h
  · have h := hT1b c1
    refine q_iconst ok dX10_node_14 ?_
    refine q_goto (tgt := 24) ok dX10_node_15 (by decide) ?_
    exact q_iret ok dX10_node_24 h)
/-! BranchingStoryModel.hub()I -/
def f_X10_hub (σ : St) (Q : St → Int → Prop) : Prop :=
  ∀ σ1 : St, σ1 = sset σ 0 5 0 → inR (σ1 26 0) ∧ ((¬ (σ1 26 0) = 0 → Q σ1 (σ1 26 3)) ∧ ((σ1 26 0) = 0 → Q σ1 (-1)))
set_option maxRecDepth 100000 in
set_option maxHeartbeats 4000000 in
theorem c_X10_hub (l : Launch) (Y : Cy) (hD : ∀ σ, va_D Y.2.2.2 (wsOf KM Y.2.1 Y.2.2.1 σ)) {σ : St} {Q : St → Int → Prop} (h : f_X10_hub  σ Q) : ConI l yX10_hub cX10_hub 1 .int (rm0q 0 0) Y KM σ [.inr (.inr 0)] Q := con_of (lv := [(0, .inr (.inr 0))]) (by decide) hD (Nat.le_of_ble_eq_true rfl) rfl (fun X _ ok => by
  have ok : Ok X Y KM cX10_hub 1 RX10 (rm0q 0 0) (some .int) := ok
  unfold f_X10_hub at h
  refine q_aload_n ok dX10_hub_0 0 rfl ?_
  refine q_iconst ok dX10_hub_1 ?_
  refine q_putI ok fp_X10_143 kM_0 fM_0_5 dX10_hub_2 (wq_s (fun σ1 eσ1 => ?_))
  have h := h σ1 eσ1
  refine q_aload_n ok dX10_hub_5 0 rfl ?_
  refine q_getC ok fl_X10_86 kM_0 fM_0_40 dX10_hub_6 ?_
  refine q_iconst ok dX10_hub_9 ?_
  refine q_iald ok kM_ok kM_26 (by decide) (by decide) dX10_hub_10 ?_
  obtain ⟨g1, hT1a, hT1b⟩ := h
  refine q_if_ne (tgt := 18) ok dX10_hub_11 (by decide) g1 (fun c1 => ?_) (fun c1 => ?_)
  · have h := hT1a c1
    refine q_aload_n ok dX10_hub_18 0 rfl ?_
    refine q_getC ok fl_X10_86 kM_0 fM_0_40 dX10_hub_19 ?_
    refine q_iconst ok dX10_hub_22 ?_
    refine q_iald ok kM_ok kM_26 (by decide) (by decide) dX10_hub_23 ?_
    exact q_iret ok dX10_hub_24 h
  · have h := hT1b c1
    refine q_iconst ok dX10_hub_14 ?_
    refine q_goto (tgt := 24) ok dX10_hub_15 (by decide) ?_
    exact q_iret ok dX10_hub_24 h)
/-! BranchingStoryModel.offered()I -/
def f_X10_offered (σ : St) (Q : St → Int → Prop) : Prop :=
  ∀ σ1 : St, σ1 = sset σ 0 5 0 → f_X10_bits (σ1 26 9) σ1 (fun σ2 r1 => Q σ2 r1)
set_option maxRecDepth 100000 in
set_option maxHeartbeats 4000000 in
theorem c_X10_offered (l : Launch) (Y : Cy) (hD : ∀ σ, va_D Y.2.2.2 (wsOf KM Y.2.1 Y.2.2.1 σ)) {σ : St} {Q : St → Int → Prop} (h : f_X10_offered  σ Q) : ConI l yX10_offered cX10_offered 1 .int (rm0q 1 22) Y KM σ [.inr (.inr 0)] Q := con_of (lv := [(0, .inr (.inr 0))]) (by decide) hD (Nat.le_of_ble_eq_true rfl) rfl (fun X _ ok => by
  have ok : Ok X Y KM cX10_offered 1 RX10 (rm0q 1 22) (some .int) := ok
  unfold f_X10_offered at h
  refine q_aload_n ok dX10_offered_0 0 rfl ?_
  refine q_iconst ok dX10_offered_1 ?_
  refine q_putI ok fp_X10_143 kM_0 fM_0_5 dX10_offered_2 (wq_s (fun σ1 eσ1 => ?_))
  have h := h σ1 eσ1
  refine q_aload_n ok dX10_offered_5 0 rfl ?_
  refine q_getC ok fl_X10_86 kM_0 fM_0_40 dX10_offered_6 ?_
  refine q_bipush ok dX10_offered_9 rfl ?_
  refine q_iald ok kM_ok kM_26 (by decide) (by decide) dX10_offered_11 ?_
  refine q_callSI (st := []) ok cs_X10_334 (c_X10_bits X.2.1 Y ok.2.2.2.2.2.2.2.2 h) ⟨rfl, rfl, Nat.le_of_ble_eq_true rfl, Nat.le_of_ble_eq_true rfl⟩ rfl rfl (Nat.le_of_ble_eq_true rfl) dX10_offered_12 (fun σ2 r1 h => ?_)
  exact q_iret ok dX10_offered_15 h)
/-! BranchingStoryModel.choice(I)I -/
def f_X10_choice_J18 (Q : St → Int → Prop) (σ : St) (s0 : Int) : Prop :=
  inR s0 ∧ ((¬ s0 = (-1) → Q σ s0) ∧ (s0 = (-1) → f_X10_fails 1 σ (fun σ1 r1 => Q σ1 r1)))
def f_X10_choice (a0 : Int) (σ : St) (Q : St → Int → Prop) : Prop :=
  ∀ σ1 : St, σ1 = sset σ 0 5 0 → inR a0 ∧ ((0 ≤ a0 → f_X10_offeredAt a0 σ1 (fun σ2 r1 => f_X10_choice_J18 Q σ2 r1)) ∧ (¬ 0 ≤ a0 → f_X10_choice_J18 Q σ1 (-1)))
set_option maxRecDepth 100000 in
set_option maxHeartbeats 4000000 in
theorem w_X10_choice_J18 {X : Cx} {Y : Cy} {Q : St → Int → Prop} (ok : Ok X Y KM cX10_choice 3 RX10 (rm0q 1 23) (some .int)) (σ : St) (s0 : Int) (h : f_X10_choice_J18 Q σ s0) : Wq X Y KM 3 (QF X Y (Qiq Y KM Q)) σ 18 [(0, .inr (.inr 0))] [.inl s0] := by
  unfold f_X10_choice_J18 at h
  refine q_istore_n (lv' := [(2, .inl s0), (0, .inr (.inr 0))]) ok dX10_choice_18 (by decide) rfl ?_
  refine q_iload_n ok dX10_choice_19 0 rfl ?_
  refine q_iconst ok dX10_choice_20 ?_
  obtain ⟨g1, hT1a, hT1b⟩ := h
  refine q_icmp_ne (tgt := 32) ok dX10_choice_21 (by decide) g1 (by unfold inR; decide) (fun c1 => ?_) (fun c1 => ?_)
  · have h := hT1a c1
    refine q_iload_n ok dX10_choice_32 0 rfl ?_
    exact q_iret ok dX10_choice_33 h
  · have h := hT1b c1
    refine q_aload_n ok dX10_choice_24 1 rfl ?_
    refine q_iconst ok dX10_choice_25 ?_
    refine q_callVI (st := []) ok cs_X10_253 kM_0 rfl (c_X10_fails X.2.1 Y ok.2.2.2.2.2.2.2.2 h) ⟨rfl, rfl, Nat.le_of_ble_eq_true rfl, Nat.le_of_ble_eq_true rfl⟩ rfl rfl (Nat.le_of_ble_eq_true rfl) dX10_choice_26 (fun σ1 r1 h => ?_)
    refine q_goto (tgt := 33) ok dX10_choice_29 (by decide) ?_
    exact q_iret ok dX10_choice_33 h
set_option maxRecDepth 100000 in
set_option maxHeartbeats 4000000 in
theorem c_X10_choice (l : Launch) (Y : Cy) (hD : ∀ σ, va_D Y.2.2.2 (wsOf KM Y.2.1 Y.2.2.1 σ)) {a0 : Int} {σ : St} {Q : St → Int → Prop} (h : f_X10_choice a0 σ Q) : ConI l yX10_choice cX10_choice 3 .int (rm0q 1 23) Y KM σ [.inr (.inr 0), .inl a0] Q := con_of (lv := [(0, .inr (.inr 0)), (1, .inl a0)]) (by decide) hD (Nat.le_of_ble_eq_true rfl) rfl (fun X _ ok => by
  have ok : Ok X Y KM cX10_choice 3 RX10 (rm0q 1 23) (some .int) := ok
  unfold f_X10_choice at h
  refine q_aload_n ok dX10_choice_0 0 rfl ?_
  refine q_iconst ok dX10_choice_1 ?_
  refine q_putI ok fp_X10_143 kM_0 fM_0_5 dX10_choice_2 (wq_s (fun σ1 eσ1 => ?_))
  have h := h σ1 eσ1
  refine q_iload_n ok dX10_choice_5 1 rfl ?_
  obtain ⟨g1, hT1a, hT1b⟩ := h
  refine q_if_ge (tgt := 13) ok dX10_choice_6 (by decide) g1 (fun c1 => ?_) (fun c1 => ?_)
  · have h := hT1a c1
    refine q_aload_n ok dX10_choice_13 0 rfl ?_
    refine q_iload_n ok dX10_choice_14 1 rfl ?_
    refine q_callVI (st := []) ok cs_X10_328 kM_0 rfl (c_X10_offeredAt X.2.1 Y ok.2.2.2.2.2.2.2.2 h) ⟨rfl, rfl, Nat.le_of_ble_eq_true rfl, Nat.le_of_ble_eq_true rfl⟩ rfl rfl (Nat.le_of_ble_eq_true rfl) dX10_choice_15 (fun σ2 r1 h => ?_)
    refine q_sub [0] rfl ?_
    exact w_X10_choice_J18 ok σ2 r1 h
  · have h := hT1b c1
    refine q_iconst ok dX10_choice_9 ?_
    refine q_goto (tgt := 18) ok dX10_choice_10 (by decide) ?_
    refine q_sub [0] rfl ?_
    exact w_X10_choice_J18 ok σ1 (-1) h)
/-! BranchingStoryModel.flag(I)I -/
def f_X10_flag (a0 : Int) (σ : St) (Q : St → Int → Prop) : Prop :=
  ∀ σ1 : St, σ1 = sset σ 0 5 0 → f_X10_in a0 0 5 σ1 (fun σ2 r1 => inR r1 ∧ ((r1 = 0 → f_X10_fails 1 σ2 (fun σ3 r2 => Q σ3 r2)) ∧ (¬ r1 = 0 → Q σ2 (iand32 (ishr32 (σ2 26 4) a0) 1))))
set_option maxRecDepth 100000 in
set_option maxHeartbeats 4000000 in
theorem c_X10_flag (l : Launch) (Y : Cy) (hD : ∀ σ, va_D Y.2.2.2 (wsOf KM Y.2.1 Y.2.2.1 σ)) {a0 : Int} {σ : St} {Q : St → Int → Prop} (h : f_X10_flag a0 σ Q) : ConI l yX10_flag cX10_flag 2 .int (rm0q 1 22) Y KM σ [.inr (.inr 0), .inl a0] Q := con_of (lv := [(0, .inr (.inr 0)), (1, .inl a0)]) (by decide) hD (Nat.le_of_ble_eq_true rfl) rfl (fun X _ ok => by
  have ok : Ok X Y KM cX10_flag 2 RX10 (rm0q 1 22) (some .int) := ok
  unfold f_X10_flag at h
  refine q_aload_n ok dX10_flag_0 0 rfl ?_
  refine q_iconst ok dX10_flag_1 ?_
  refine q_putI ok fp_X10_143 kM_0 fM_0_5 dX10_flag_2 (wq_s (fun σ1 eσ1 => ?_))
  have h := h σ1 eσ1
  refine q_iload_n ok dX10_flag_5 1 rfl ?_
  refine q_iconst ok dX10_flag_6 ?_
  refine q_iconst ok dX10_flag_7 ?_
  refine q_callSI (st := []) ok cs_X10_168 (c_X10_in X.2.1 Y ok.2.2.2.2.2.2.2.2 h) ⟨rfl, rfl, Nat.le_of_ble_eq_true rfl, Nat.le_of_ble_eq_true rfl⟩ rfl rfl (Nat.le_of_ble_eq_true rfl) dX10_flag_8 (fun σ2 r1 h => ?_)
  obtain ⟨g1, hT1a, hT1b⟩ := h
  refine q_if_eq (tgt := 27) ok dX10_flag_11 (by decide) g1 (fun c1 => ?_) (fun c1 => ?_)
  · have h := hT1a c1
    refine q_aload_n ok dX10_flag_27 0 rfl ?_
    refine q_iconst ok dX10_flag_28 ?_
    refine q_callVI (st := []) ok cs_X10_253 kM_0 rfl (c_X10_fails X.2.1 Y ok.2.2.2.2.2.2.2.2 h) ⟨rfl, rfl, Nat.le_of_ble_eq_true rfl, Nat.le_of_ble_eq_true rfl⟩ rfl rfl (Nat.le_of_ble_eq_true rfl) dX10_flag_29 (fun σ3 r2 h => ?_)
    exact q_iret ok dX10_flag_32 h
  · have h := hT1b c1
    refine q_aload_n ok dX10_flag_14 0 rfl ?_
    refine q_getC ok fl_X10_86 kM_0 fM_0_40 dX10_flag_15 ?_
    refine q_iconst ok dX10_flag_18 ?_
    refine q_iald ok kM_ok kM_26 (by decide) (by decide) dX10_flag_19 ?_
    refine q_iload_n ok dX10_flag_20 1 rfl ?_
    refine q_ishr ok dX10_flag_21 ?_
    refine q_iconst ok dX10_flag_22 ?_
    refine q_iand ok dX10_flag_23 ?_
    refine q_goto (tgt := 32) ok dX10_flag_24 (by decide) ?_
    exact q_iret ok dX10_flag_32 h)
/-! BranchingStoryModel.meter(I)I -/
def f_X10_meter (a0 : Int) (σ : St) (Q : St → Int → Prop) : Prop :=
  ∀ σ1 : St, σ1 = sset σ 0 5 0 → f_X10_in a0 0 2 σ1 (fun σ2 r1 => inR r1 ∧ ((r1 = 0 → f_X10_fails 1 σ2 (fun σ3 r2 => Q σ3 r2)) ∧ (¬ r1 = 0 → 0 ≤ (5 + a0) ∧ (5 + a0) < 31 ∧ Q σ2 (σ2 26 (5 + a0).toNat))))
set_option maxRecDepth 100000 in
set_option maxHeartbeats 4000000 in
theorem c_X10_meter (l : Launch) (Y : Cy) (hD : ∀ σ, va_D Y.2.2.2 (wsOf KM Y.2.1 Y.2.2.1 σ)) {a0 : Int} {σ : St} {Q : St → Int → Prop} (h : f_X10_meter a0 σ Q) : ConI l yX10_meter cX10_meter 2 .int (rm0q 1 22) Y KM σ [.inr (.inr 0), .inl a0] Q := con_of (lv := [(0, .inr (.inr 0)), (1, .inl a0)]) (by decide) hD (Nat.le_of_ble_eq_true rfl) rfl (fun X _ ok => by
  have ok : Ok X Y KM cX10_meter 2 RX10 (rm0q 1 22) (some .int) := ok
  unfold f_X10_meter at h
  refine q_aload_n ok dX10_meter_0 0 rfl ?_
  refine q_iconst ok dX10_meter_1 ?_
  refine q_putI ok fp_X10_143 kM_0 fM_0_5 dX10_meter_2 (wq_s (fun σ1 eσ1 => ?_))
  have h := h σ1 eσ1
  refine q_iload_n ok dX10_meter_5 1 rfl ?_
  refine q_iconst ok dX10_meter_6 ?_
  refine q_iconst ok dX10_meter_7 ?_
  refine q_callSI (st := []) ok cs_X10_168 (c_X10_in X.2.1 Y ok.2.2.2.2.2.2.2.2 h) ⟨rfl, rfl, Nat.le_of_ble_eq_true rfl, Nat.le_of_ble_eq_true rfl⟩ rfl rfl (Nat.le_of_ble_eq_true rfl) dX10_meter_8 (fun σ2 r1 h => ?_)
  obtain ⟨g1, hT1a, hT1b⟩ := h
  refine q_if_eq (tgt := 25) ok dX10_meter_11 (by decide) g1 (fun c1 => ?_) (fun c1 => ?_)
  · have h := hT1a c1
    refine q_aload_n ok dX10_meter_25 0 rfl ?_
    refine q_iconst ok dX10_meter_26 ?_
    refine q_callVI (st := []) ok cs_X10_253 kM_0 rfl (c_X10_fails X.2.1 Y ok.2.2.2.2.2.2.2.2 h) ⟨rfl, rfl, Nat.le_of_ble_eq_true rfl, Nat.le_of_ble_eq_true rfl⟩ rfl rfl (Nat.le_of_ble_eq_true rfl) dX10_meter_27 (fun σ3 r2 h => ?_)
    exact q_iret ok dX10_meter_30 h
  · have h := hT1b c1
    refine q_aload_n ok dX10_meter_14 0 rfl ?_
    refine q_getC ok fl_X10_86 kM_0 fM_0_40 dX10_meter_15 ?_
    refine q_iconst ok dX10_meter_18 ?_
    refine q_iload_n ok dX10_meter_19 1 rfl ?_
    refine q_iadd ok dX10_meter_20 ?_
    obtain ⟨g2, g3, h⟩ := h
    refine q_iald ok kM_ok kM_26 g2 g3 dX10_meter_21 ?_
    refine q_goto (tgt := 30) ok dX10_meter_22 (by decide) ?_
    exact q_iret ok dX10_meter_30 h)
/-! BranchingStoryModel.said()I -/
def f_X10_said (σ : St) (Q : St → Int → Prop) : Prop :=
  ∀ σ1 : St, σ1 = sset σ 0 5 0 → Q σ1 (σ1 26 10)
set_option maxRecDepth 100000 in
set_option maxHeartbeats 4000000 in
theorem c_X10_said (l : Launch) (Y : Cy) (hD : ∀ σ, va_D Y.2.2.2 (wsOf KM Y.2.1 Y.2.2.1 σ)) {σ : St} {Q : St → Int → Prop} (h : f_X10_said  σ Q) : ConI l yX10_said cX10_said 1 .int (rm0q 0 0) Y KM σ [.inr (.inr 0)] Q := con_of (lv := [(0, .inr (.inr 0))]) (by decide) hD (Nat.le_of_ble_eq_true rfl) rfl (fun X _ ok => by
  have ok : Ok X Y KM cX10_said 1 RX10 (rm0q 0 0) (some .int) := ok
  unfold f_X10_said at h
  refine q_aload_n ok dX10_said_0 0 rfl ?_
  refine q_iconst ok dX10_said_1 ?_
  refine q_putI ok fp_X10_143 kM_0 fM_0_5 dX10_said_2 (wq_s (fun σ1 eσ1 => ?_))
  have h := h σ1 eσ1
  refine q_aload_n ok dX10_said_5 0 rfl ?_
  refine q_getC ok fl_X10_86 kM_0 fM_0_40 dX10_said_6 ?_
  refine q_bipush ok dX10_said_9 rfl ?_
  refine q_iald ok kM_ok kM_26 (by decide) (by decide) dX10_said_11 ?_
  exact q_iret ok dX10_said_12 h)
/-! BranchingStoryModel.line(I)I -/
def f_X10_line (a0 : Int) (σ : St) (Q : St → Int → Prop) : Prop :=
  ∀ σ1 : St, σ1 = sset σ 0 5 0 → f_X10_in a0 0 19 σ1 (fun σ2 r1 => inR r1 ∧ ((¬ r1 = 0 → inR a0 ∧ inR (σ2 26 10) ∧ (((σ2 26 10) ≤ a0 → Q σ2 (-1)) ∧ (¬ (σ2 26 10) ≤ a0 → 0 ≤ (11 + a0) ∧ (11 + a0) < 31 ∧ Q σ2 (σ2 26 (11 + a0).toNat)))) ∧ (r1 = 0 → f_X10_fails 1 σ2 (fun σ3 r2 => Q σ3 r2))))
set_option maxRecDepth 100000 in
set_option maxHeartbeats 4000000 in
theorem c_X10_line (l : Launch) (Y : Cy) (hD : ∀ σ, va_D Y.2.2.2 (wsOf KM Y.2.1 Y.2.2.1 σ)) {a0 : Int} {σ : St} {Q : St → Int → Prop} (h : f_X10_line a0 σ Q) : ConI l yX10_line cX10_line 2 .int (rm0q 1 22) Y KM σ [.inr (.inr 0), .inl a0] Q := con_of (lv := [(0, .inr (.inr 0)), (1, .inl a0)]) (by decide) hD (Nat.le_of_ble_eq_true rfl) rfl (fun X _ ok => by
  have ok : Ok X Y KM cX10_line 2 RX10 (rm0q 1 22) (some .int) := ok
  unfold f_X10_line at h
  refine q_aload_n ok dX10_line_0 0 rfl ?_
  refine q_iconst ok dX10_line_1 ?_
  refine q_putI ok fp_X10_143 kM_0 fM_0_5 dX10_line_2 (wq_s (fun σ1 eσ1 => ?_))
  have h := h σ1 eσ1
  refine q_iload_n ok dX10_line_5 1 rfl ?_
  refine q_iconst ok dX10_line_6 ?_
  refine q_bipush ok dX10_line_7 rfl ?_
  refine q_callSI (st := []) ok cs_X10_168 (c_X10_in X.2.1 Y ok.2.2.2.2.2.2.2.2 h) ⟨rfl, rfl, Nat.le_of_ble_eq_true rfl, Nat.le_of_ble_eq_true rfl⟩ rfl rfl (Nat.le_of_ble_eq_true rfl) dX10_line_9 (fun σ2 r1 h => ?_)
  obtain ⟨g1, hT2a, hT2b⟩ := h
  refine q_if_ne (tgt := 21) ok dX10_line_12 (by decide) g1 (fun c2 => ?_) (fun c2 => ?_)
  · have h := hT2a c2
    refine q_iload_n ok dX10_line_21 1 rfl ?_
    refine q_aload_n ok dX10_line_22 0 rfl ?_
    refine q_getC ok fl_X10_86 kM_0 fM_0_40 dX10_line_23 ?_
    refine q_bipush ok dX10_line_26 rfl ?_
    refine q_iald ok kM_ok kM_26 (by decide) (by decide) dX10_line_28 ?_
    obtain ⟨g2, g3, hT1a, hT1b⟩ := h
    refine q_icmp_ge (tgt := 44) ok dX10_line_29 (by decide) g2 g3 (fun c1 => ?_) (fun c1 => ?_)
    · have h := hT1a c1
      refine q_iconst ok dX10_line_44 ?_
      exact q_iret ok dX10_line_45 h
    · have h := hT1b c1
      refine q_aload_n ok dX10_line_32 0 rfl ?_
      refine q_getC ok fl_X10_86 kM_0 fM_0_40 dX10_line_33 ?_
      refine q_bipush ok dX10_line_36 rfl ?_
      refine q_iload_n ok dX10_line_38 1 rfl ?_
      refine q_iadd ok dX10_line_39 ?_
      obtain ⟨g4, g5, h⟩ := h
      refine q_iald ok kM_ok kM_26 g4 g5 dX10_line_40 ?_
      refine q_goto (tgt := 45) ok dX10_line_41 (by decide) ?_
      exact q_iret ok dX10_line_45 h
  · have h := hT2b c2
    refine q_aload_n ok dX10_line_15 0 rfl ?_
    refine q_iconst ok dX10_line_16 ?_
    refine q_callVI (st := []) ok cs_X10_253 kM_0 rfl (c_X10_fails X.2.1 Y ok.2.2.2.2.2.2.2.2 h) ⟨rfl, rfl, Nat.le_of_ble_eq_true rfl, Nat.le_of_ble_eq_true rfl⟩ rfl rfl (Nat.le_of_ble_eq_true rfl) dX10_line_17 (fun σ3 r2 h => ?_)
    exact q_iret ok dX10_line_20 h)
/-! BranchingStoryModel.hubChoices()I -/
def f_X10_hubChoices_L4 (Q : St → Int → Prop) : Nat → St → Int → Int → Prop
  | 0, _, _, _ => False
  | n + 1, σ, v1, v2 => inR v2 ∧ inR (σ 0 32) ∧ (((σ 0 32) ≤ v2 → Q σ v1) ∧ (¬ (σ 0 32) ≤ v2 → f_X10_nodeOfChoice v2 σ (fun σ1 r1 => 0 ≤ r1 ∧ r1 < 12 ∧ inR (σ1 21 r1.toNat) ∧ (((σ1 21 r1.toNat) = 0 → ∀ x1 : Int, x1 = (ior32 v1 0) → f_X10_hubChoices_L4 Q n σ1 x1 (v2 + 1)) ∧ (¬ (σ1 21 r1.toNat) = 0 → ∀ x2 : Int, x2 = (ior32 v1 (ishl32 1 v2)) → f_X10_hubChoices_L4 Q n σ1 x2 (v2 + 1))))))
def f_X10_hubChoices (σ : St) (Q : St → Int → Prop) : Prop :=
  f_X10_hubChoices_L4 Q FU σ 0 0
set_option maxRecDepth 100000 in
set_option maxHeartbeats 4000000 in
theorem w_X10_hubChoices_L4 {X : Cx} {Y : Cy} {Q : St → Int → Prop} (ok : Ok X Y KM cX10_hubChoices 3 RX10 (rm0q 1 21) (some .int)) : ∀ (n : Nat) (σ : St) (v1 : Int) (v2 : Int) , f_X10_hubChoices_L4 Q n σ v1 v2 → Wq X Y KM 3 (QF X Y (Qiq Y KM Q)) σ 4 [(0, .inr (.inr 0)), (1, .inl v1), (2, .inl v2)] [] := by
  intro n
  induction n with
  | zero => intro σ v1 v2 h; exact h.elim
  | succ n ih =>
    intro σ v1 v2 h
    rw [f_X10_hubChoices_L4] at h
    refine q_iload_n ok dX10_hubChoices_4 2 rfl ?_
    refine q_aload_n ok dX10_hubChoices_5 0 rfl ?_
    refine q_getI ok fl_X10_222 kM_0 fM_0_32 dX10_hubChoices_6 ?_
    obtain ⟨g1, g2, hT2a, hT2b⟩ := h
    refine q_icmp_ge (tgt := 41) ok dX10_hubChoices_9 (by decide) g1 g2 (fun c2 => ?_) (fun c2 => ?_)
    · have h := hT2a c2
      refine q_iload_n ok dX10_hubChoices_41 1 rfl ?_
      exact q_iret ok dX10_hubChoices_42 h
    · have h := hT2b c2
      refine q_iload_n ok dX10_hubChoices_12 1 rfl ?_
      refine q_aload_n ok dX10_hubChoices_13 0 rfl ?_
      refine q_getC ok fl_X10_70 kM_0 fM_0_27 dX10_hubChoices_14 ?_
      refine q_aload_n ok dX10_hubChoices_17 0 rfl ?_
      refine q_iload_n ok dX10_hubChoices_18 2 rfl ?_
      refine q_callVI (st := [.inr (.inr 21), .inl v1]) ok cs_X10_283 kM_0 rfl (c_X10_nodeOfChoice X.2.1 Y ok.2.2.2.2.2.2.2.2 h) ⟨rfl, rfl, Nat.le_of_ble_eq_true rfl, Nat.le_of_ble_eq_true rfl⟩ rfl rfl (Nat.le_of_ble_eq_true rfl) dX10_hubChoices_19 (fun σ1 r1 h => ?_)
      obtain ⟨g3, g4, h⟩ := h
      refine q_zald ok kM_ok kM_21 g3 g4 dX10_hubChoices_22 ?_
      obtain ⟨g5, hT1a, hT1b⟩ := h
      refine q_if_eq (tgt := 32) ok dX10_hubChoices_23 (by decide) g5 (fun c1 => ?_) (fun c1 => ?_)
      · have h := hT1a c1
        refine q_iconst ok dX10_hubChoices_32 ?_
        refine q_ior ok dX10_hubChoices_33 ?_
        refine wq_i (fun x1 ex1 => ?_)
        have h := h x1 ex1
        refine q_istore_n (lv' := [(1, .inl x1), (0, .inr (.inr 0)), (2, .inl v2)]) ok dX10_hubChoices_34 (by decide) rfl ?_
        refine q_iinc (lv' := [(2, .inl (v2 + 1)), (1, .inl x1), (0, .inr (.inr 0))]) ok dX10_hubChoices_35 2 rfl (by decide) rfl ?_
        refine q_goto (tgt := 4) ok dX10_hubChoices_38 (by decide) ?_
        refine q_sub [2, 1, 0] rfl ?_
        exact ih σ1 x1 (v2 + 1) h
      · have h := hT1b c1
        refine q_iconst ok dX10_hubChoices_26 ?_
        refine q_iload_n ok dX10_hubChoices_27 2 rfl ?_
        refine q_ishl ok dX10_hubChoices_28 ?_
        refine q_goto (tgt := 33) ok dX10_hubChoices_29 (by decide) ?_
        refine q_ior ok dX10_hubChoices_33 ?_
        refine wq_i (fun x2 ex2 => ?_)
        have h := h x2 ex2
        refine q_istore_n (lv' := [(1, .inl x2), (0, .inr (.inr 0)), (2, .inl v2)]) ok dX10_hubChoices_34 (by decide) rfl ?_
        refine q_iinc (lv' := [(2, .inl (v2 + 1)), (1, .inl x2), (0, .inr (.inr 0))]) ok dX10_hubChoices_35 2 rfl (by decide) rfl ?_
        refine q_goto (tgt := 4) ok dX10_hubChoices_38 (by decide) ?_
        refine q_sub [2, 1, 0] rfl ?_
        exact ih σ1 x2 (v2 + 1) h
set_option maxRecDepth 100000 in
set_option maxHeartbeats 4000000 in
theorem c_X10_hubChoices (l : Launch) (Y : Cy) (hD : ∀ σ, va_D Y.2.2.2 (wsOf KM Y.2.1 Y.2.2.1 σ)) {σ : St} {Q : St → Int → Prop} (h : f_X10_hubChoices  σ Q) : ConI l yX10_hubChoices cX10_hubChoices 3 .int (rm0q 1 21) Y KM σ [.inr (.inr 0)] Q := con_of (lv := [(0, .inr (.inr 0))]) (by decide) hD (Nat.le_of_ble_eq_true rfl) rfl (fun X _ ok => by
  have ok : Ok X Y KM cX10_hubChoices 3 RX10 (rm0q 1 21) (some .int) := ok
  unfold f_X10_hubChoices at h
  refine q_iconst ok dX10_hubChoices_0 ?_
  refine q_istore_n (lv' := [(1, .inl 0), (0, .inr (.inr 0))]) ok dX10_hubChoices_1 (by decide) rfl ?_
  refine q_iconst ok dX10_hubChoices_2 ?_
  refine q_istore_n (lv' := [(2, .inl 0), (1, .inl 0), (0, .inr (.inr 0))]) ok dX10_hubChoices_3 (by decide) rfl ?_
  refine q_sub [2, 1, 0] rfl ?_
  exact w_X10_hubChoices_L4 ok FU σ 0 0 h)
/-! BranchingStoryModel.ofState(I)I -/
def f_X10_ofState (a0 : Int) (σ : St) (Q : St → Int → Prop) : Prop :=
  inR a0 ∧ ((¬ a0 = 0 → inR a0 ∧ ((¬ a0 = 1 → inR a0 ∧ ((¬ a0 = 2 → inR a0 ∧ ((6 ≤ a0 → inR a0 ∧ ((¬ a0 = 6 → Q σ (σ 26 9)) ∧ (a0 = 6 → f_X10_hubChoices σ (fun σ1 r1 => Q σ1 (iand32 (σ 26 8) r1))))) ∧ (¬ 6 ≤ a0 → 0 ≤ ((5 + a0) - 3) ∧ ((5 + a0) - 3) < 31 ∧ Q σ (σ 26 ((5 + a0) - 3).toNat)))) ∧ (a0 = 2 → Q σ (σ 26 4)))) ∧ (a0 = 1 → Q σ (σ 26 3)))) ∧ (a0 = 0 → Q σ (σ 26 2)))
set_option maxRecDepth 100000 in
set_option maxHeartbeats 4000000 in
theorem c_X10_ofState (l : Launch) (Y : Cy) (hD : ∀ σ, va_D Y.2.2.2 (wsOf KM Y.2.1 Y.2.2.1 σ)) {a0 : Int} {σ : St} {Q : St → Int → Prop} (h : f_X10_ofState a0 σ Q) : ConI l yX10_ofState cX10_ofState 2 .int (rm0q 2 43) Y KM σ [.inr (.inr 0), .inl a0] Q := con_of (lv := [(0, .inr (.inr 0)), (1, .inl a0)]) (by decide) hD (Nat.le_of_ble_eq_true rfl) rfl (fun X _ ok => by
  have ok : Ok X Y KM cX10_ofState 2 RX10 (rm0q 2 43) (some .int) := ok
  unfold f_X10_ofState at h
  refine q_iload_n ok dX10_ofState_0 1 rfl ?_
  obtain ⟨g1, hT5a, hT5b⟩ := h
  refine q_if_ne (tgt := 13) ok dX10_ofState_1 (by decide) g1 (fun c5 => ?_) (fun c5 => ?_)
  · have h := hT5a c5
    refine q_iload_n ok dX10_ofState_13 1 rfl ?_
    refine q_iconst ok dX10_ofState_14 ?_
    obtain ⟨g2, hT4a, hT4b⟩ := h
    refine q_icmp_ne (tgt := 27) ok dX10_ofState_15 (by decide) g2 (by unfold inR; decide) (fun c4 => ?_) (fun c4 => ?_)
    · have h := hT4a c4
      refine q_iload_n ok dX10_ofState_27 1 rfl ?_
      refine q_iconst ok dX10_ofState_28 ?_
      obtain ⟨g3, hT3a, hT3b⟩ := h
      refine q_icmp_ne (tgt := 41) ok dX10_ofState_29 (by decide) g3 (by unfold inR; decide) (fun c3 => ?_) (fun c3 => ?_)
      · have h := hT3a c3
        refine q_iload_n ok dX10_ofState_41 1 rfl ?_
        refine q_bipush ok dX10_ofState_42 rfl ?_
        obtain ⟨g4, hT2a, hT2b⟩ := h
        refine q_icmp_ge (tgt := 60) ok dX10_ofState_44 (by decide) g4 (by unfold inR; decide) (fun c2 => ?_) (fun c2 => ?_)
        · have h := hT2a c2
          refine q_iload_n ok dX10_ofState_60 1 rfl ?_
          refine q_bipush ok dX10_ofState_61 rfl ?_
          obtain ⟨g5, hT1a, hT1b⟩ := h
          refine q_icmp_ne (tgt := 81) ok dX10_ofState_63 (by decide) g5 (by unfold inR; decide) (fun c1 => ?_) (fun c1 => ?_)
          · have h := hT1a c1
            refine q_aload_n ok dX10_ofState_81 0 rfl ?_
            refine q_getC ok fl_X10_86 kM_0 fM_0_40 dX10_ofState_82 ?_
            refine q_bipush ok dX10_ofState_85 rfl ?_
            refine q_iald ok kM_ok kM_26 (by decide) (by decide) dX10_ofState_87 ?_
            exact q_iret ok dX10_ofState_88 h
          · have h := hT1b c1
            refine q_aload_n ok dX10_ofState_66 0 rfl ?_
            refine q_getC ok fl_X10_86 kM_0 fM_0_40 dX10_ofState_67 ?_
            refine q_bipush ok dX10_ofState_70 rfl ?_
            refine q_iald ok kM_ok kM_26 (by decide) (by decide) dX10_ofState_72 ?_
            refine q_aload_n ok dX10_ofState_73 0 rfl ?_
            refine q_callVI (st := [.inl (σ 26 8)]) ok cs_X10_337 kM_0 rfl (c_X10_hubChoices X.2.1 Y ok.2.2.2.2.2.2.2.2 h) ⟨rfl, rfl, Nat.le_of_ble_eq_true rfl, Nat.le_of_ble_eq_true rfl⟩ rfl rfl (Nat.le_of_ble_eq_true rfl) dX10_ofState_74 (fun σ1 r1 h => ?_)
            refine q_iand ok dX10_ofState_77 ?_
            refine q_goto (tgt := 88) ok dX10_ofState_78 (by decide) ?_
            exact q_iret ok dX10_ofState_88 h
        · have h := hT2b c2
          refine q_aload_n ok dX10_ofState_47 0 rfl ?_
          refine q_getC ok fl_X10_86 kM_0 fM_0_40 dX10_ofState_48 ?_
          refine q_iconst ok dX10_ofState_51 ?_
          refine q_iload_n ok dX10_ofState_52 1 rfl ?_
          refine q_iadd ok dX10_ofState_53 ?_
          refine q_iconst ok dX10_ofState_54 ?_
          refine q_isub ok dX10_ofState_55 ?_
          obtain ⟨g6, g7, h⟩ := h
          refine q_iald ok kM_ok kM_26 g6 g7 dX10_ofState_56 ?_
          refine q_goto (tgt := 88) ok dX10_ofState_57 (by decide) ?_
          exact q_iret ok dX10_ofState_88 h
      · have h := hT3b c3
        refine q_aload_n ok dX10_ofState_32 0 rfl ?_
        refine q_getC ok fl_X10_86 kM_0 fM_0_40 dX10_ofState_33 ?_
        refine q_iconst ok dX10_ofState_36 ?_
        refine q_iald ok kM_ok kM_26 (by decide) (by decide) dX10_ofState_37 ?_
        refine q_goto (tgt := 88) ok dX10_ofState_38 (by decide) ?_
        exact q_iret ok dX10_ofState_88 h
    · have h := hT4b c4
      refine q_aload_n ok dX10_ofState_18 0 rfl ?_
      refine q_getC ok fl_X10_86 kM_0 fM_0_40 dX10_ofState_19 ?_
      refine q_iconst ok dX10_ofState_22 ?_
      refine q_iald ok kM_ok kM_26 (by decide) (by decide) dX10_ofState_23 ?_
      refine q_goto (tgt := 88) ok dX10_ofState_24 (by decide) ?_
      exact q_iret ok dX10_ofState_88 h
  · have h := hT5b c5
    refine q_aload_n ok dX10_ofState_4 0 rfl ?_
    refine q_getC ok fl_X10_86 kM_0 fM_0_40 dX10_ofState_5 ?_
    refine q_iconst ok dX10_ofState_8 ?_
    refine q_iald ok kM_ok kM_26 (by decide) (by decide) dX10_ofState_9 ?_
    refine q_goto (tgt := 88) ok dX10_ofState_10 (by decide) ?_
    exact q_iret ok dX10_ofState_88 h)
/-! BranchingStoryModel.isFound()Z -/
def f_X10_isFound_J47 (k2 : St → Int → Prop) (k14 : St → Int → Int → Int → Prop) (Q : St → Int → Prop) (σ : St) (v1 : Int) (v3 : Int) : Prop :=
  k14 σ v1 0 (v3 + 1)
def f_X10_isFound_L14 (k2 : St → Int → Prop) (Q : St → Int → Prop) : Nat → St → Int → Int → Int → Prop
  | 0, _, _, _, _ => False
  | n + 1, σ, v1, v2, v3 => inR v3 ∧ ((8 ≤ v3 → inR v2 ∧ ((v2 = 0 → k2 σ (v1 + 1)) ∧ (¬ v2 = 0 → Q σ 1))) ∧ (¬ 8 ≤ v3 → inR v2 ∧ ((v2 = 0 → f_X10_isFound_J47 k2 (fun σ' v1' v2' v3' => f_X10_isFound_L14 k2 Q n σ' v1' v2' v3') Q σ v1 v3) ∧ (¬ v2 = 0 → 0 ≤ ((11 * v1) + v3) ∧ ((11 * v1) + v3) < 3300 ∧ f_X10_ofState v3 σ (fun σ1 r1 => inR (σ 32 ((11 * v1) + v3).toNat) ∧ inR r1 ∧ ((¬ (σ 32 ((11 * v1) + v3).toNat) = r1 → f_X10_isFound_J47 k2 (fun σ' v1' v2' v3' => f_X10_isFound_L14 k2 Q n σ' v1' v2' v3') Q σ1 v1 v3) ∧ ((σ 32 ((11 * v1) + v3).toNat) = r1 → f_X10_isFound_L14 k2 Q n σ1 v1 1 (v3 + 1))))))))
def f_X10_isFound_L2 (Q : St → Int → Prop) : Nat → St → Int → Prop
  | 0, _, _ => False
  | n + 1, σ, v1 => inR v1 ∧ inR (σ 0 51) ∧ (((σ 0 51) ≤ v1 → Q σ 0) ∧ (¬ (σ 0 51) ≤ v1 → f_X10_isFound_L14 (fun σ' v1' => f_X10_isFound_L2 Q n σ' v1') Q FU σ v1 1 0))
def f_X10_isFound (σ : St) (Q : St → Int → Prop) : Prop :=
  f_X10_isFound_L2 Q FU σ 0
set_option maxRecDepth 100000 in
set_option maxHeartbeats 4000000 in
theorem w_X10_isFound_J47 {X : Cx} {Y : Cy} {k2 : St → Int → Prop} {k14 : St → Int → Int → Int → Prop} {Q : St → Int → Prop} (ok : Ok X Y KM cX10_isFound 4 RX10 (rm0q 3 64) (some .boolean)) (hk2 : ∀ (σ : St) (v1 : Int) , k2 σ v1 → Wq X Y KM 4 (QF X Y (Qiq Y KM Q)) σ 2 [(0, .inr (.inr 0)), (1, .inl v1)] []) (hk14 : ∀ (σ : St) (v1 : Int) (v2 : Int) (v3 : Int) , k14 σ v1 v2 v3 → Wq X Y KM 4 (QF X Y (Qiq Y KM Q)) σ 14 [(0, .inr (.inr 0)), (1, .inl v1), (2, .inl v2), (3, .inl v3)] []) (σ : St) (v1 : Int) (v3 : Int) (h : f_X10_isFound_J47 k2 k14 Q σ v1 v3) : Wq X Y KM 4 (QF X Y (Qiq Y KM Q)) σ 47 [(0, .inr (.inr 0)), (1, .inl v1), (3, .inl v3)] [] := by
  unfold f_X10_isFound_J47 at h
  refine q_iconst ok dX10_isFound_47 ?_
  refine q_istore_n (lv' := [(2, .inl 0), (0, .inr (.inr 0)), (1, .inl v1), (3, .inl v3)]) ok dX10_isFound_48 (by decide) rfl ?_
  refine q_iinc (lv' := [(3, .inl (v3 + 1)), (2, .inl 0), (0, .inr (.inr 0)), (1, .inl v1)]) ok dX10_isFound_49 3 rfl (by decide) rfl ?_
  refine q_goto (tgt := 14) ok dX10_isFound_52 (by decide) ?_
  refine q_sub [2, 3, 1, 0] rfl ?_
  exact hk14 σ v1 0 (v3 + 1) h
set_option maxRecDepth 100000 in
set_option maxHeartbeats 4000000 in
theorem w_X10_isFound_L14 {X : Cx} {Y : Cy} {k2 : St → Int → Prop} {Q : St → Int → Prop} (ok : Ok X Y KM cX10_isFound 4 RX10 (rm0q 3 64) (some .boolean)) (hk2 : ∀ (σ : St) (v1 : Int) , k2 σ v1 → Wq X Y KM 4 (QF X Y (Qiq Y KM Q)) σ 2 [(0, .inr (.inr 0)), (1, .inl v1)] []) : ∀ (n : Nat) (σ : St) (v1 : Int) (v2 : Int) (v3 : Int) , f_X10_isFound_L14 k2 Q n σ v1 v2 v3 → Wq X Y KM 4 (QF X Y (Qiq Y KM Q)) σ 14 [(0, .inr (.inr 0)), (1, .inl v1), (2, .inl v2), (3, .inl v3)] [] := by
  intro n
  induction n with
  | zero => intro σ v1 v2 v3 h; exact h.elim
  | succ n ih =>
    intro σ v1 v2 v3 h
    rw [f_X10_isFound_L14] at h
    refine q_iload_n ok dX10_isFound_14 3 rfl ?_
    refine q_bipush ok dX10_isFound_15 rfl ?_
    obtain ⟨g1, hT4a, hT4b⟩ := h
    refine q_icmp_ge (tgt := 55) ok dX10_isFound_17 (by decide) g1 (by unfold inR; decide) (fun c4 => ?_) (fun c4 => ?_)
    · have h := hT4a c4
      refine q_iload_n ok dX10_isFound_55 2 rfl ?_
      obtain ⟨g2, hT1a, hT1b⟩ := h
      refine q_if_eq (tgt := 61) ok dX10_isFound_56 (by decide) g2 (fun c1 => ?_) (fun c1 => ?_)
      · have h := hT1a c1
        refine q_iinc (lv' := [(1, .inl (v1 + 1)), (0, .inr (.inr 0)), (2, .inl v2), (3, .inl v3)]) ok dX10_isFound_61 1 rfl (by decide) rfl ?_
        refine q_goto (tgt := 2) ok dX10_isFound_64 (by decide) ?_
        refine q_sub [1, 0] rfl ?_
        exact hk2 σ (v1 + 1) h
      · have h := hT1b c1
        refine q_iconst ok dX10_isFound_59 ?_
        exact q_zret ok dX10_isFound_60 (by decide) h
    · have h := hT4b c4
      refine q_iload_n ok dX10_isFound_20 2 rfl ?_
      obtain ⟨g3, hT3a, hT3b⟩ := h
      refine q_if_eq (tgt := 47) ok dX10_isFound_21 (by decide) g3 (fun c3 => ?_) (fun c3 => ?_)
      · have h := hT3a c3
        refine q_sub [0, 1, 3] rfl ?_
        exact w_X10_isFound_J47 ok hk2 ih σ v1 v3 h
      · have h := hT3b c3
        refine q_aload_n ok dX10_isFound_24 0 rfl ?_
        refine q_getC ok fl_X10_104 kM_0 fM_0_50 dX10_isFound_25 ?_
        refine q_bipush ok dX10_isFound_28 rfl ?_
        refine q_iload_n ok dX10_isFound_30 1 rfl ?_
        refine q_imul ok dX10_isFound_31 ?_
        refine q_iload_n ok dX10_isFound_32 3 rfl ?_
        refine q_iadd ok dX10_isFound_33 ?_
        obtain ⟨g4, g5, h⟩ := h
        refine q_iald ok kM_ok kM_32 g4 g5 dX10_isFound_34 ?_
        refine q_aload_n ok dX10_isFound_35 0 rfl ?_
        refine q_iload_n ok dX10_isFound_36 3 rfl ?_
        refine q_callVI (st := [.inl (σ 32 ((11 * v1) + v3).toNat)]) ok cs_X10_343 kM_0 rfl (c_X10_ofState X.2.1 Y ok.2.2.2.2.2.2.2.2 h) ⟨rfl, rfl, Nat.le_of_ble_eq_true rfl, Nat.le_of_ble_eq_true rfl⟩ rfl rfl (Nat.le_of_ble_eq_true rfl) dX10_isFound_37 (fun σ1 r1 h => ?_)
        obtain ⟨g6, g7, hT2a, hT2b⟩ := h
        refine q_icmp_ne (tgt := 47) ok dX10_isFound_40 (by decide) g6 g7 (fun c2 => ?_) (fun c2 => ?_)
        · have h := hT2a c2
          refine q_sub [0, 1, 3] rfl ?_
          exact w_X10_isFound_J47 ok hk2 ih σ1 v1 v3 h
        · have h := hT2b c2
          refine q_iconst ok dX10_isFound_43 ?_
          refine q_goto (tgt := 48) ok dX10_isFound_44 (by decide) ?_
          refine q_istore_n (lv' := [(2, .inl 1), (0, .inr (.inr 0)), (1, .inl v1), (3, .inl v3)]) ok dX10_isFound_48 (by decide) rfl ?_
          refine q_iinc (lv' := [(3, .inl (v3 + 1)), (2, .inl 1), (0, .inr (.inr 0)), (1, .inl v1)]) ok dX10_isFound_49 3 rfl (by decide) rfl ?_
          refine q_goto (tgt := 14) ok dX10_isFound_52 (by decide) ?_
          refine q_sub [2, 3, 1, 0] rfl ?_
          exact ih σ1 v1 1 (v3 + 1) h
set_option maxRecDepth 100000 in
set_option maxHeartbeats 4000000 in
theorem w_X10_isFound_L2 {X : Cx} {Y : Cy} {Q : St → Int → Prop} (ok : Ok X Y KM cX10_isFound 4 RX10 (rm0q 3 64) (some .boolean)) : ∀ (n : Nat) (σ : St) (v1 : Int) , f_X10_isFound_L2 Q n σ v1 → Wq X Y KM 4 (QF X Y (Qiq Y KM Q)) σ 2 [(0, .inr (.inr 0)), (1, .inl v1)] [] := by
  intro n
  induction n with
  | zero => intro σ v1 h; exact h.elim
  | succ n ih =>
    intro σ v1 h
    rw [f_X10_isFound_L2] at h
    refine q_iload_n ok dX10_isFound_2 1 rfl ?_
    refine q_aload_n ok dX10_isFound_3 0 rfl ?_
    refine q_getI ok fl_X10_340 kM_0 fM_0_51 dX10_isFound_4 ?_
    obtain ⟨g1, g2, hT1a, hT1b⟩ := h
    refine q_icmp_ge (tgt := 67) ok dX10_isFound_7 (by decide) g1 g2 (fun c1 => ?_) (fun c1 => ?_)
    · have h := hT1a c1
      refine q_iconst ok dX10_isFound_67 ?_
      exact q_zret ok dX10_isFound_68 (by decide) h
    · have h := hT1b c1
      refine q_iconst ok dX10_isFound_10 ?_
      refine q_istore_n (lv' := [(2, .inl 1), (0, .inr (.inr 0)), (1, .inl v1)]) ok dX10_isFound_11 (by decide) rfl ?_
      refine q_iconst ok dX10_isFound_12 ?_
      refine q_istore_n (lv' := [(3, .inl 0), (2, .inl 1), (0, .inr (.inr 0)), (1, .inl v1)]) ok dX10_isFound_13 (by decide) rfl ?_
      refine q_sub [2, 3, 1, 0] rfl ?_
      exact w_X10_isFound_L14 ok ih FU σ v1 1 0 h
set_option maxRecDepth 100000 in
set_option maxHeartbeats 4000000 in
theorem c_X10_isFound (l : Launch) (Y : Cy) (hD : ∀ σ, va_D Y.2.2.2 (wsOf KM Y.2.1 Y.2.2.1 σ)) {σ : St} {Q : St → Int → Prop} (h : f_X10_isFound  σ Q) : ConI l yX10_isFound cX10_isFound 4 .boolean (rm0q 3 64) Y KM σ [.inr (.inr 0)] Q := con_of (lv := [(0, .inr (.inr 0))]) (by decide) hD (Nat.le_of_ble_eq_true rfl) rfl (fun X _ ok => by
  have ok : Ok X Y KM cX10_isFound 4 RX10 (rm0q 3 64) (some .boolean) := ok
  unfold f_X10_isFound at h
  refine q_iconst ok dX10_isFound_0 ?_
  refine q_istore_n (lv' := [(1, .inl 0), (0, .inr (.inr 0))]) ok dX10_isFound_1 (by decide) rfl ?_
  refine q_sub [1, 0] rfl ?_
  exact w_X10_isFound_L2 ok FU σ 0 h)
/-! BranchingStoryModel.notes(II)V -/
def f_X10_notes_J62 (Q : St → Prop) (σ : St) (v3 : Int) : Prop :=
  0 ≤ v3 ∧ v3 < 12 ∧ 0 ≤ v3 ∧ v3 < 12 ∧ ∀ σ1 : St, σ1 = sset σ 33 v3.toNat ((σ 33 v3.toNat) + 1) → Q σ1
def f_X10_notes_J38 (Q : St → Prop) (σ : St) (v1 : Int) (v2 : Int) (s0 : Int) : Prop :=
  0 ≤ s0 ∧ s0 < 12 ∧ inR (σ 33 s0.toNat) ∧ ((¬ (σ 33 s0.toNat) = 0 → f_X10_notes_J62 Q σ s0) ∧ ((σ 33 s0.toNat) = 0 → 0 ≤ s0 ∧ s0 < 12 ∧ ∀ σ1 : St, σ1 = sset σ 34 s0.toNat v1 → 0 ≤ s0 ∧ s0 < 12 ∧ ∀ σ2 : St, σ2 = sset σ1 35 s0.toNat v2 → f_X10_notes_J62 Q σ2 s0))
def f_X10_notes_J199 (Q : St → Prop) (σ : St) (s1 : Int) (s2 : Int) : Prop :=
  0 ≤ s1 ∧ s1 < 3300 ∧ ∀ σ1 : St, σ1 = sset σ 32 s1.toNat s2 → ∀ σ2 : St, σ2 = sset σ1 0 51 ((σ1 0 51) + 1) → Q σ2
def f_X10_notes_L100 (Q : St → Prop) : Nat → St → Int → Int → Int → Prop
  | 0, _, _, _, _ => False
  | n + 1, σ, v1, v2, v3 => inR v3 ∧ ((8 ≤ v3 → 0 ≤ ((11 * (σ 0 51)) + 8) ∧ ((11 * (σ 0 51)) + 8) < 3300 ∧ ∀ σ1 : St, σ1 = sset σ 32 ((11 * (σ 0 51)) + 8).toNat v1 → 0 ≤ ((11 * (σ1 0 51)) + 9) ∧ ((11 * (σ1 0 51)) + 9) < 3300 ∧ ∀ σ2 : St, σ2 = sset σ1 32 ((11 * (σ1 0 51)) + 9).toNat v2 → inR v1 ∧ ((0 ≤ v1 → 0 ≤ ((11 * v1) + 10) ∧ ((11 * v1) + 10) < 3300 ∧ f_X10_notes_J199 Q σ2 ((11 * (σ2 0 51)) + 10) ((σ2 32 ((11 * v1) + 10).toNat) + 1)) ∧ (¬ 0 ≤ v1 → f_X10_notes_J199 Q σ2 ((11 * (σ2 0 51)) + 10) 0))) ∧ (¬ 8 ≤ v3 → f_X10_ofState v3 σ (fun σ3 r1 => 0 ≤ ((11 * (σ 0 51)) + v3) ∧ ((11 * (σ 0 51)) + v3) < 3300 ∧ ∀ σ4 : St, σ4 = sset σ3 32 ((11 * (σ 0 51)) + v3).toNat r1 → f_X10_notes_L100 Q n σ4 v1 v2 (v3 + 1))))
def f_X10_notes (a0 : Int) (a1 : Int) (σ : St) (Q : St → Prop) : Prop :=
  inR (σ 26 0) ∧ (((σ 26 0) = 1 → f_X10_isFound σ (fun σ1 r1 => inR r1 ∧ ((r1 = 0 → inR (σ1 0 51) ∧ inR (σ1 0 52) ∧ ((¬ (σ1 0 51) = (σ1 0 52) → f_X10_notes_L100 Q FU σ1 a0 a1 0) ∧ ((σ1 0 51) = (σ1 0 52) → ∀ σ2 : St, σ2 = sset σ1 0 54 0 → Q σ2))) ∧ (¬ r1 = 0 → Q σ1)))) ∧ (¬ (σ 26 0) = 1 → inR (σ 26 0) ∧ ((¬ (σ 26 0) = 2 → f_X10_notes_J38 Q σ a0 a1 (7 + (σ 26 0))) ∧ ((σ 26 0) = 2 → f_X10_notes_J38 Q σ a0 a1 (σ 26 1)))))
set_option maxRecDepth 100000 in
set_option maxHeartbeats 4000000 in
theorem w_X10_notes_J62 {X : Cx} {Y : Cy} {Q : St → Prop} (ok : Ok X Y KM cX10_notes 4 RX10 (rm0q 4 87) none) (σ : St) (v3 : Int) (h : f_X10_notes_J62 Q σ v3) : Wq X Y KM 4 (QF X Y (Qvq Y KM Q)) σ 62 [(0, .inr (.inr 0)), (3, .inl v3)] [] := by
  unfold f_X10_notes_J62 at h
  refine q_aload_n ok dX10_notes_62 0 rfl ?_
  refine q_getC ok fl_X10_107 kM_0 fM_0_55 dX10_notes_63 ?_
  refine q_iload_n ok dX10_notes_66 1 rfl ?_
  refine q_dup2 ok dX10_notes_67 rfl rfl ?_
  obtain ⟨g1, g2, h⟩ := h
  refine q_iald ok kM_ok kM_33 g1 g2 dX10_notes_68 ?_
  refine q_iconst ok dX10_notes_69 ?_
  refine q_iadd ok dX10_notes_70 ?_
  obtain ⟨g3, g4, h⟩ := h
  refine q_iast ok kM_ok kM_33 g3 g4 dX10_notes_71 (wq_s (fun σ1 eσ1 => ?_))
  have h := h σ1 eσ1
  exact q_vret ok dX10_notes_72 h
set_option maxRecDepth 100000 in
set_option maxHeartbeats 4000000 in
theorem w_X10_notes_J38 {X : Cx} {Y : Cy} {Q : St → Prop} (ok : Ok X Y KM cX10_notes 4 RX10 (rm0q 4 87) none) (σ : St) (v1 : Int) (v2 : Int) (s0 : Int) (h : f_X10_notes_J38 Q σ v1 v2 s0) : Wq X Y KM 4 (QF X Y (Qvq Y KM Q)) σ 38 [(0, .inr (.inr 0)), (1, .inl v1), (2, .inl v2)] [.inl s0] := by
  unfold f_X10_notes_J38 at h
  refine q_istore_n (lv' := [(3, .inl s0), (0, .inr (.inr 0)), (1, .inl v1), (2, .inl v2)]) ok dX10_notes_38 (by decide) rfl ?_
  refine q_aload_n ok dX10_notes_39 1 rfl ?_
  refine q_getC ok fl_X10_107 kM_0 fM_0_55 dX10_notes_40 ?_
  refine q_iload_n ok dX10_notes_43 0 rfl ?_
  obtain ⟨g1, g2, h⟩ := h
  refine q_iald ok kM_ok kM_33 g1 g2 dX10_notes_44 ?_
  obtain ⟨g3, hT1a, hT1b⟩ := h
  refine q_if_ne (tgt := 62) ok dX10_notes_45 (by decide) g3 (fun c1 => ?_) (fun c1 => ?_)
  · have h := hT1a c1
    refine q_sub [1, 0] rfl ?_
    exact w_X10_notes_J62 ok σ s0 h
  · have h := hT1b c1
    refine q_aload_n ok dX10_notes_48 1 rfl ?_
    refine q_getC ok fl_X10_110 kM_0 fM_0_56 dX10_notes_49 ?_
    refine q_iload_n ok dX10_notes_52 0 rfl ?_
    refine q_iload_n ok dX10_notes_53 2 rfl ?_
    obtain ⟨g4, g5, h⟩ := h
    refine q_iast ok kM_ok kM_34 g4 g5 dX10_notes_54 (wq_s (fun σ1 eσ1 => ?_))
    have h := h σ1 eσ1
    refine q_aload_n ok dX10_notes_55 1 rfl ?_
    refine q_getC ok fl_X10_113 kM_0 fM_0_57 dX10_notes_56 ?_
    refine q_iload_n ok dX10_notes_59 0 rfl ?_
    refine q_iload_n ok dX10_notes_60 3 rfl ?_
    obtain ⟨g6, g7, h⟩ := h
    refine q_iast ok kM_ok kM_35 g6 g7 dX10_notes_61 (wq_s (fun σ2 eσ2 => ?_))
    have h := h σ2 eσ2
    refine q_sub [1, 0] rfl ?_
    exact w_X10_notes_J62 ok σ2 s0 h
set_option maxRecDepth 100000 in
set_option maxHeartbeats 4000000 in
theorem w_X10_notes_J199 {X : Cx} {Y : Cy} {Q : St → Prop} (ok : Ok X Y KM cX10_notes 4 RX10 (rm0q 4 87) none) (σ : St) (s1 : Int) (s2 : Int) (h : f_X10_notes_J199 Q σ s1 s2) : Wq X Y KM 4 (QF X Y (Qvq Y KM Q)) σ 199 [(0, .inr (.inr 0))] [.inl s2, .inl s1, .inr (.inr 32)] := by
  unfold f_X10_notes_J199 at h
  obtain ⟨g1, g2, h⟩ := h
  refine q_iast ok kM_ok kM_32 g1 g2 dX10_notes_199 (wq_s (fun σ1 eσ1 => ?_))
  have h := h σ1 eσ1
  refine q_aload_n ok dX10_notes_200 0 rfl ?_
  refine q_dup ok dX10_notes_201 rfl ?_
  refine q_getI ok fl_X10_340 kM_0 fM_0_51 dX10_notes_202 ?_
  refine q_iconst ok dX10_notes_205 ?_
  refine q_iadd ok dX10_notes_206 ?_
  refine q_putI ok fp_X10_340 kM_0 fM_0_51 dX10_notes_207 (wq_s (fun σ2 eσ2 => ?_))
  have h := h σ2 eσ2
  exact q_vret ok dX10_notes_210 h
set_option maxRecDepth 100000 in
set_option maxHeartbeats 4000000 in
theorem w_X10_notes_L100 {X : Cx} {Y : Cy} {Q : St → Prop} (ok : Ok X Y KM cX10_notes 4 RX10 (rm0q 4 87) none) : ∀ (n : Nat) (σ : St) (v1 : Int) (v2 : Int) (v3 : Int) , f_X10_notes_L100 Q n σ v1 v2 v3 → Wq X Y KM 4 (QF X Y (Qvq Y KM Q)) σ 100 [(0, .inr (.inr 0)), (1, .inl v1), (2, .inl v2), (3, .inl v3)] [] := by
  intro n
  induction n with
  | zero => intro σ v1 v2 v3 h; exact h.elim
  | succ n ih =>
    intro σ v1 v2 v3 h
    rw [f_X10_notes_L100] at h
    refine q_iload_n ok dX10_notes_100 3 rfl ?_
    refine q_bipush ok dX10_notes_101 rfl ?_
    obtain ⟨g1, hT2a, hT2b⟩ := h
    refine q_icmp_ge (tgt := 131) ok dX10_notes_103 (by decide) g1 (by unfold inR; decide) (fun c2 => ?_) (fun c2 => ?_)
    · have h := hT2a c2
      refine q_aload_n ok dX10_notes_131 0 rfl ?_
      refine q_getC ok fl_X10_104 kM_0 fM_0_50 dX10_notes_132 ?_
      refine q_bipush ok dX10_notes_135 rfl ?_
      refine q_aload_n ok dX10_notes_137 0 rfl ?_
      refine q_getI ok fl_X10_340 kM_0 fM_0_51 dX10_notes_138 ?_
      refine q_imul ok dX10_notes_141 ?_
      refine q_bipush ok dX10_notes_142 rfl ?_
      refine q_iadd ok dX10_notes_144 ?_
      refine q_iload_n ok dX10_notes_145 1 rfl ?_
      obtain ⟨g2, g3, h⟩ := h
      refine q_iast ok kM_ok kM_32 g2 g3 dX10_notes_146 (wq_s (fun σ1 eσ1 => ?_))
      have h := h σ1 eσ1
      refine q_aload_n ok dX10_notes_147 0 rfl ?_
      refine q_getC ok fl_X10_104 kM_0 fM_0_50 dX10_notes_148 ?_
      refine q_bipush ok dX10_notes_151 rfl ?_
      refine q_aload_n ok dX10_notes_153 0 rfl ?_
      refine q_getI ok fl_X10_340 kM_0 fM_0_51 dX10_notes_154 ?_
      refine q_imul ok dX10_notes_157 ?_
      refine q_bipush ok dX10_notes_158 rfl ?_
      refine q_iadd ok dX10_notes_160 ?_
      refine q_iload_n ok dX10_notes_161 2 rfl ?_
      obtain ⟨g4, g5, h⟩ := h
      refine q_iast ok kM_ok kM_32 g4 g5 dX10_notes_162 (wq_s (fun σ2 eσ2 => ?_))
      have h := h σ2 eσ2
      refine q_aload_n ok dX10_notes_163 0 rfl ?_
      refine q_getC ok fl_X10_104 kM_0 fM_0_50 dX10_notes_164 ?_
      refine q_bipush ok dX10_notes_167 rfl ?_
      refine q_aload_n ok dX10_notes_169 0 rfl ?_
      refine q_getI ok fl_X10_340 kM_0 fM_0_51 dX10_notes_170 ?_
      refine q_imul ok dX10_notes_173 ?_
      refine q_bipush ok dX10_notes_174 rfl ?_
      refine q_iadd ok dX10_notes_176 ?_
      refine q_iload_n ok dX10_notes_177 1 rfl ?_
      obtain ⟨g6, hT1a, hT1b⟩ := h
      refine q_if_ge (tgt := 185) ok dX10_notes_178 (by decide) g6 (fun c1 => ?_) (fun c1 => ?_)
      · have h := hT1a c1
        refine q_aload_n ok dX10_notes_185 0 rfl ?_
        refine q_getC ok fl_X10_104 kM_0 fM_0_50 dX10_notes_186 ?_
        refine q_bipush ok dX10_notes_189 rfl ?_
        refine q_iload_n ok dX10_notes_191 1 rfl ?_
        refine q_imul ok dX10_notes_192 ?_
        refine q_bipush ok dX10_notes_193 rfl ?_
        refine q_iadd ok dX10_notes_195 ?_
        obtain ⟨g7, g8, h⟩ := h
        refine q_iald ok kM_ok kM_32 g7 g8 dX10_notes_196 ?_
        refine q_iconst ok dX10_notes_197 ?_
        refine q_iadd ok dX10_notes_198 ?_
        refine q_sub [0] rfl ?_
        exact w_X10_notes_J199 ok σ2 ((11 * (σ2 0 51)) + 10) ((σ2 32 ((11 * v1) + 10).toNat) + 1) h
      · have h := hT1b c1
        refine q_iconst ok dX10_notes_181 ?_
        refine q_goto (tgt := 199) ok dX10_notes_182 (by decide) ?_
        refine q_sub [0] rfl ?_
        exact w_X10_notes_J199 ok σ2 ((11 * (σ2 0 51)) + 10) 0 h
    · have h := hT2b c2
      refine q_aload_n ok dX10_notes_106 0 rfl ?_
      refine q_getC ok fl_X10_104 kM_0 fM_0_50 dX10_notes_107 ?_
      refine q_bipush ok dX10_notes_110 rfl ?_
      refine q_aload_n ok dX10_notes_112 0 rfl ?_
      refine q_getI ok fl_X10_340 kM_0 fM_0_51 dX10_notes_113 ?_
      refine q_imul ok dX10_notes_116 ?_
      refine q_iload_n ok dX10_notes_117 3 rfl ?_
      refine q_iadd ok dX10_notes_118 ?_
      refine q_aload_n ok dX10_notes_119 0 rfl ?_
      refine q_iload_n ok dX10_notes_120 3 rfl ?_
      refine q_callVI (st := [.inl ((11 * (σ 0 51)) + v3), .inr (.inr 32)]) ok cs_X10_343 kM_0 rfl (c_X10_ofState X.2.1 Y ok.2.2.2.2.2.2.2.2 h) ⟨rfl, rfl, Nat.le_of_ble_eq_true rfl, Nat.le_of_ble_eq_true rfl⟩ rfl rfl (Nat.le_of_ble_eq_true rfl) dX10_notes_121 (fun σ3 r1 h => ?_)
      obtain ⟨g9, g10, h⟩ := h
      refine q_iast ok kM_ok kM_32 g9 g10 dX10_notes_124 (wq_s (fun σ4 eσ4 => ?_))
      have h := h σ4 eσ4
      refine q_iinc (lv' := [(3, .inl (v3 + 1)), (0, .inr (.inr 0)), (1, .inl v1), (2, .inl v2)]) ok dX10_notes_125 3 rfl (by decide) rfl ?_
      refine q_goto (tgt := 100) ok dX10_notes_128 (by decide) ?_
      refine q_sub [1, 2, 3, 0] rfl ?_
      exact ih σ4 v1 v2 (v3 + 1) h
set_option maxRecDepth 100000 in
set_option maxHeartbeats 4000000 in
theorem c_X10_notes (l : Launch) (Y : Cy) (hD : ∀ σ, va_D Y.2.2.2 (wsOf KM Y.2.1 Y.2.2.1 σ)) {a0 : Int} {a1 : Int} {σ : St} {Q : St → Prop} (h : f_X10_notes a0 a1 σ Q) : ConV l yX10_notes cX10_notes 4 (rm0q 4 87) Y KM σ [.inr (.inr 0), .inl a0, .inl a1] Q := con_of (lv := [(0, .inr (.inr 0)), (1, .inl a0), (2, .inl a1)]) (by decide) hD (Nat.le_of_ble_eq_true rfl) rfl (fun X _ ok => by
  have ok : Ok X Y KM cX10_notes 4 RX10 (rm0q 4 87) none := ok
  unfold f_X10_notes at h
  refine q_aload_n ok dX10_notes_0 0 rfl ?_
  refine q_getC ok fl_X10_86 kM_0 fM_0_40 dX10_notes_1 ?_
  refine q_iconst ok dX10_notes_4 ?_
  refine q_iald ok kM_ok kM_26 (by decide) (by decide) dX10_notes_5 ?_
  refine q_iconst ok dX10_notes_6 ?_
  obtain ⟨g1, hT4a, hT4b⟩ := h
  refine q_icmp_eq (tgt := 73) ok dX10_notes_7 (by decide) g1 (by unfold inR; decide) (fun c4 => ?_) (fun c4 => ?_)
  · have h := hT4a c4
    refine q_aload_n ok dX10_notes_73 0 rfl ?_
    refine q_callVI (st := []) ok cs_X10_346 kM_0 rfl (c_X10_isFound X.2.1 Y ok.2.2.2.2.2.2.2.2 h) ⟨rfl, rfl, Nat.le_of_ble_eq_true rfl, Nat.le_of_ble_eq_true rfl⟩ rfl rfl (Nat.le_of_ble_eq_true rfl) dX10_notes_74 (fun σ1 r1 h => ?_)
    obtain ⟨g2, hT2a, hT2b⟩ := h
    refine q_if_eq (tgt := 81) ok dX10_notes_77 (by decide) g2 (fun c2 => ?_) (fun c2 => ?_)
    · have h := hT2a c2
      refine q_aload_n ok dX10_notes_81 0 rfl ?_
      refine q_getI ok fl_X10_340 kM_0 fM_0_51 dX10_notes_82 ?_
      refine q_aload_n ok dX10_notes_85 0 rfl ?_
      refine q_getI ok fl_X10_349 kM_0 fM_0_52 dX10_notes_86 ?_
      obtain ⟨g3, g4, hT1a, hT1b⟩ := h
      refine q_icmp_ne (tgt := 98) ok dX10_notes_89 (by decide) g3 g4 (fun c1 => ?_) (fun c1 => ?_)
      · have h := hT1a c1
        refine q_iconst ok dX10_notes_98 ?_
        refine q_istore_n (lv' := [(3, .inl 0), (0, .inr (.inr 0)), (1, .inl a0), (2, .inl a1)]) ok dX10_notes_99 (by decide) rfl ?_
        refine q_sub [1, 2, 3, 0] rfl ?_
        exact w_X10_notes_L100 ok FU σ1 a0 a1 0 h
      · have h := hT1b c1
        refine q_aload_n ok dX10_notes_92 0 rfl ?_
        refine q_iconst ok dX10_notes_93 ?_
        refine q_putZ ok fp_X10_352 kM_0 fM_0_54 dX10_notes_94 (by decide) (wq_s (fun σ2 eσ2 => ?_))
        have h := h σ2 eσ2
        exact q_vret ok dX10_notes_97 h
    · have h := hT2b c2
      exact q_vret ok dX10_notes_80 h
  · have h := hT4b c4
    refine q_aload_n ok dX10_notes_10 0 rfl ?_
    refine q_getC ok fl_X10_86 kM_0 fM_0_40 dX10_notes_11 ?_
    refine q_iconst ok dX10_notes_14 ?_
    refine q_iald ok kM_ok kM_26 (by decide) (by decide) dX10_notes_15 ?_
    refine q_iconst ok dX10_notes_16 ?_
    obtain ⟨g5, hT3a, hT3b⟩ := h
    refine q_icmp_ne (tgt := 29) ok dX10_notes_17 (by decide) g5 (by unfold inR; decide) (fun c3 => ?_) (fun c3 => ?_)
    · have h := hT3a c3
      refine q_bipush ok dX10_notes_29 rfl ?_
      refine q_aload_n ok dX10_notes_31 0 rfl ?_
      refine q_getC ok fl_X10_86 kM_0 fM_0_40 dX10_notes_32 ?_
      refine q_iconst ok dX10_notes_35 ?_
      refine q_iald ok kM_ok kM_26 (by decide) (by decide) dX10_notes_36 ?_
      refine q_iadd ok dX10_notes_37 ?_
      exact w_X10_notes_J38 ok σ a0 a1 (7 + (σ 26 0)) h
    · have h := hT3b c3
      refine q_aload_n ok dX10_notes_20 0 rfl ?_
      refine q_getC ok fl_X10_86 kM_0 fM_0_40 dX10_notes_21 ?_
      refine q_iconst ok dX10_notes_24 ?_
      refine q_iald ok kM_ok kM_26 (by decide) (by decide) dX10_notes_25 ?_
      refine q_goto (tgt := 38) ok dX10_notes_26 (by decide) ?_
      exact w_X10_notes_J38 ok σ a0 a1 (σ 26 1) h)
/-! BranchingStoryModel.comesBack(I)V -/
def f_X10_comesBack_L58 (Q : St → Prop) : Nat → St → Int → Int → Prop
  | 0, _, _, _ => False
  | n + 1, σ, v1, v2 => inR v2 ∧ ((3 ≤ v2 → 0 ≤ ((11 * v1) + 6) ∧ ((11 * v1) + 6) < 3300 ∧ ∀ σ1 : St, σ1 = sset σ 26 8 (σ 32 ((11 * v1) + 6).toNat) → 0 ≤ ((11 * v1) + 7) ∧ ((11 * v1) + 7) < 3300 ∧ ∀ σ2 : St, σ2 = sset σ1 26 9 (σ1 32 ((11 * v1) + 7).toNat) → Q σ2) ∧ (¬ 3 ≤ v2 → 0 ≤ (((11 * v1) + 3) + v2) ∧ (((11 * v1) + 3) + v2) < 3300 ∧ 0 ≤ (5 + v2) ∧ (5 + v2) < 31 ∧ ∀ σ3 : St, σ3 = sset σ 26 (5 + v2).toNat (σ 32 (((11 * v1) + 3) + v2).toNat) → f_X10_comesBack_L58 Q n σ3 v1 (v2 + 1)))
def f_X10_comesBack (a0 : Int) (σ : St) (Q : St → Prop) : Prop :=
  ∀ σ1 : St, σ1 = sset σ 26 0 1 → 0 ≤ (11 * a0) ∧ (11 * a0) < 3300 ∧ ∀ σ2 : St, σ2 = sset σ1 26 2 (σ1 32 (11 * a0).toNat) → 0 ≤ ((11 * a0) + 1) ∧ ((11 * a0) + 1) < 3300 ∧ ∀ σ3 : St, σ3 = sset σ2 26 3 (σ2 32 ((11 * a0) + 1).toNat) → 0 ≤ ((11 * a0) + 2) ∧ ((11 * a0) + 2) < 3300 ∧ ∀ σ4 : St, σ4 = sset σ3 26 4 (σ3 32 ((11 * a0) + 2).toNat) → f_X10_comesBack_L58 Q FU σ4 a0 0
set_option maxRecDepth 100000 in
set_option maxHeartbeats 4000000 in
theorem w_X10_comesBack_L58 {X : Cx} {Y : Cy} {Q : St → Prop} (ok : Ok X Y KM cX10_comesBack 3 RX10 (rm0q 0 0) none) : ∀ (n : Nat) (σ : St) (v1 : Int) (v2 : Int) , f_X10_comesBack_L58 Q n σ v1 v2 → Wq X Y KM 3 (QF X Y (Qvq Y KM Q)) σ 58 [(0, .inr (.inr 0)), (1, .inl v1), (2, .inl v2)] [] := by
  intro n
  induction n with
  | zero => intro σ v1 v2 h; exact h.elim
  | succ n ih =>
    intro σ v1 v2 h
    rw [f_X10_comesBack_L58] at h
    refine q_iload_n ok dX10_comesBack_58 2 rfl ?_
    refine q_iconst ok dX10_comesBack_59 ?_
    obtain ⟨g1, hT1a, hT1b⟩ := h
    refine q_icmp_ge (tgt := 90) ok dX10_comesBack_60 (by decide) g1 (by unfold inR; decide) (fun c1 => ?_) (fun c1 => ?_)
    · have h := hT1a c1
      refine q_aload_n ok dX10_comesBack_90 0 rfl ?_
      refine q_getC ok fl_X10_86 kM_0 fM_0_40 dX10_comesBack_91 ?_
      refine q_bipush ok dX10_comesBack_94 rfl ?_
      refine q_aload_n ok dX10_comesBack_96 0 rfl ?_
      refine q_getC ok fl_X10_104 kM_0 fM_0_50 dX10_comesBack_97 ?_
      refine q_bipush ok dX10_comesBack_100 rfl ?_
      refine q_iload_n ok dX10_comesBack_102 1 rfl ?_
      refine q_imul ok dX10_comesBack_103 ?_
      refine q_bipush ok dX10_comesBack_104 rfl ?_
      refine q_iadd ok dX10_comesBack_106 ?_
      obtain ⟨g2, g3, h⟩ := h
      refine q_iald ok kM_ok kM_32 g2 g3 dX10_comesBack_107 ?_
      refine q_iast ok kM_ok kM_26 (by decide) (by decide) dX10_comesBack_108 (wq_s (fun σ1 eσ1 => ?_))
      have h := h σ1 eσ1
      refine q_aload_n ok dX10_comesBack_109 0 rfl ?_
      refine q_getC ok fl_X10_86 kM_0 fM_0_40 dX10_comesBack_110 ?_
      refine q_bipush ok dX10_comesBack_113 rfl ?_
      refine q_aload_n ok dX10_comesBack_115 0 rfl ?_
      refine q_getC ok fl_X10_104 kM_0 fM_0_50 dX10_comesBack_116 ?_
      refine q_bipush ok dX10_comesBack_119 rfl ?_
      refine q_iload_n ok dX10_comesBack_121 1 rfl ?_
      refine q_imul ok dX10_comesBack_122 ?_
      refine q_bipush ok dX10_comesBack_123 rfl ?_
      refine q_iadd ok dX10_comesBack_125 ?_
      obtain ⟨g4, g5, h⟩ := h
      refine q_iald ok kM_ok kM_32 g4 g5 dX10_comesBack_126 ?_
      refine q_iast ok kM_ok kM_26 (by decide) (by decide) dX10_comesBack_127 (wq_s (fun σ2 eσ2 => ?_))
      have h := h σ2 eσ2
      exact q_vret ok dX10_comesBack_128 h
    · have h := hT1b c1
      refine q_aload_n ok dX10_comesBack_63 0 rfl ?_
      refine q_getC ok fl_X10_86 kM_0 fM_0_40 dX10_comesBack_64 ?_
      refine q_iconst ok dX10_comesBack_67 ?_
      refine q_iload_n ok dX10_comesBack_68 2 rfl ?_
      refine q_iadd ok dX10_comesBack_69 ?_
      refine q_aload_n ok dX10_comesBack_70 0 rfl ?_
      refine q_getC ok fl_X10_104 kM_0 fM_0_50 dX10_comesBack_71 ?_
      refine q_bipush ok dX10_comesBack_74 rfl ?_
      refine q_iload_n ok dX10_comesBack_76 1 rfl ?_
      refine q_imul ok dX10_comesBack_77 ?_
      refine q_iconst ok dX10_comesBack_78 ?_
      refine q_iadd ok dX10_comesBack_79 ?_
      refine q_iload_n ok dX10_comesBack_80 2 rfl ?_
      refine q_iadd ok dX10_comesBack_81 ?_
      obtain ⟨g6, g7, h⟩ := h
      refine q_iald ok kM_ok kM_32 g6 g7 dX10_comesBack_82 ?_
      obtain ⟨g8, g9, h⟩ := h
      refine q_iast ok kM_ok kM_26 g8 g9 dX10_comesBack_83 (wq_s (fun σ3 eσ3 => ?_))
      have h := h σ3 eσ3
      refine q_iinc (lv' := [(2, .inl (v2 + 1)), (0, .inr (.inr 0)), (1, .inl v1)]) ok dX10_comesBack_84 2 rfl (by decide) rfl ?_
      refine q_goto (tgt := 58) ok dX10_comesBack_87 (by decide) ?_
      refine q_sub [1, 2, 0] rfl ?_
      exact ih σ3 v1 (v2 + 1) h
set_option maxRecDepth 100000 in
set_option maxHeartbeats 4000000 in
theorem c_X10_comesBack (l : Launch) (Y : Cy) (hD : ∀ σ, va_D Y.2.2.2 (wsOf KM Y.2.1 Y.2.2.1 σ)) {a0 : Int} {σ : St} {Q : St → Prop} (h : f_X10_comesBack a0 σ Q) : ConV l yX10_comesBack cX10_comesBack 3 (rm0q 0 0) Y KM σ [.inr (.inr 0), .inl a0] Q := con_of (lv := [(0, .inr (.inr 0)), (1, .inl a0)]) (by decide) hD (Nat.le_of_ble_eq_true rfl) rfl (fun X _ ok => by
  have ok : Ok X Y KM cX10_comesBack 3 RX10 (rm0q 0 0) none := ok
  unfold f_X10_comesBack at h
  refine q_aload_n ok dX10_comesBack_0 0 rfl ?_
  refine q_getC ok fl_X10_86 kM_0 fM_0_40 dX10_comesBack_1 ?_
  refine q_iconst ok dX10_comesBack_4 ?_
  refine q_iconst ok dX10_comesBack_5 ?_
  refine q_iast ok kM_ok kM_26 (by decide) (by decide) dX10_comesBack_6 (wq_s (fun σ1 eσ1 => ?_))
  have h := h σ1 eσ1
  refine q_aload_n ok dX10_comesBack_7 0 rfl ?_
  refine q_getC ok fl_X10_86 kM_0 fM_0_40 dX10_comesBack_8 ?_
  refine q_iconst ok dX10_comesBack_11 ?_
  refine q_aload_n ok dX10_comesBack_12 0 rfl ?_
  refine q_getC ok fl_X10_104 kM_0 fM_0_50 dX10_comesBack_13 ?_
  refine q_bipush ok dX10_comesBack_16 rfl ?_
  refine q_iload_n ok dX10_comesBack_18 1 rfl ?_
  refine q_imul ok dX10_comesBack_19 ?_
  obtain ⟨g1, g2, h⟩ := h
  refine q_iald ok kM_ok kM_32 g1 g2 dX10_comesBack_20 ?_
  refine q_iast ok kM_ok kM_26 (by decide) (by decide) dX10_comesBack_21 (wq_s (fun σ2 eσ2 => ?_))
  have h := h σ2 eσ2
  refine q_aload_n ok dX10_comesBack_22 0 rfl ?_
  refine q_getC ok fl_X10_86 kM_0 fM_0_40 dX10_comesBack_23 ?_
  refine q_iconst ok dX10_comesBack_26 ?_
  refine q_aload_n ok dX10_comesBack_27 0 rfl ?_
  refine q_getC ok fl_X10_104 kM_0 fM_0_50 dX10_comesBack_28 ?_
  refine q_bipush ok dX10_comesBack_31 rfl ?_
  refine q_iload_n ok dX10_comesBack_33 1 rfl ?_
  refine q_imul ok dX10_comesBack_34 ?_
  refine q_iconst ok dX10_comesBack_35 ?_
  refine q_iadd ok dX10_comesBack_36 ?_
  obtain ⟨g3, g4, h⟩ := h
  refine q_iald ok kM_ok kM_32 g3 g4 dX10_comesBack_37 ?_
  refine q_iast ok kM_ok kM_26 (by decide) (by decide) dX10_comesBack_38 (wq_s (fun σ3 eσ3 => ?_))
  have h := h σ3 eσ3
  refine q_aload_n ok dX10_comesBack_39 0 rfl ?_
  refine q_getC ok fl_X10_86 kM_0 fM_0_40 dX10_comesBack_40 ?_
  refine q_iconst ok dX10_comesBack_43 ?_
  refine q_aload_n ok dX10_comesBack_44 0 rfl ?_
  refine q_getC ok fl_X10_104 kM_0 fM_0_50 dX10_comesBack_45 ?_
  refine q_bipush ok dX10_comesBack_48 rfl ?_
  refine q_iload_n ok dX10_comesBack_50 1 rfl ?_
  refine q_imul ok dX10_comesBack_51 ?_
  refine q_iconst ok dX10_comesBack_52 ?_
  refine q_iadd ok dX10_comesBack_53 ?_
  obtain ⟨g5, g6, h⟩ := h
  refine q_iald ok kM_ok kM_32 g5 g6 dX10_comesBack_54 ?_
  refine q_iast ok kM_ok kM_26 (by decide) (by decide) dX10_comesBack_55 (wq_s (fun σ4 eσ4 => ?_))
  have h := h σ4 eσ4
  refine q_iconst ok dX10_comesBack_56 ?_
  refine q_istore_n (lv' := [(2, .inl 0), (0, .inr (.inr 0)), (1, .inl a0)]) ok dX10_comesBack_57 (by decide) rfl ?_
  refine q_sub [1, 2, 0] rfl ?_
  exact w_X10_comesBack_L58 ok FU σ4 a0 0 h)
/-! BranchingStoryModel.forgets()V -/
def f_X10_forgets_L51 (Q : St → Prop) : Nat → St → Int → Prop
  | 0, _, _ => False
  | n + 1, σ, v1 => inR v1 ∧ ((16 ≤ v1 → Q σ) ∧ (¬ 16 ≤ v1 → 0 ≤ v1 ∧ v1 < 16 ∧ ∀ σ1 : St, σ1 = sset σ 31 v1.toNat 0 → f_X10_forgets_L51 Q n σ1 (v1 + 1)))
def f_X10_forgets_L23 (Q : St → Prop) : Nat → St → Int → Prop
  | 0, _, _ => False
  | n + 1, σ, v1 => inR v1 ∧ ((12 ≤ v1 → f_X10_forgets_L51 Q FU σ 0) ∧ (¬ 12 ≤ v1 → 0 ≤ v1 ∧ v1 < 12 ∧ ∀ σ1 : St, σ1 = sset σ 30 v1.toNat 0 → 0 ≤ v1 ∧ v1 < 12 ∧ ∀ σ2 : St, σ2 = sset σ1 33 v1.toNat 0 → f_X10_forgets_L23 Q n σ2 (v1 + 1)))
def f_X10_forgets_L2 (Q : St → Prop) : Nat → St → Int → Prop
  | 0, _, _ => False
  | n + 1, σ, v1 => inR v1 ∧ ((100 ≤ v1 → f_X10_forgets_L23 Q FU σ 0) ∧ (¬ 100 ≤ v1 → 0 ≤ v1 ∧ v1 < 100 ∧ ∀ σ1 : St, σ1 = sset σ 29 v1.toNat 0 → f_X10_forgets_L2 Q n σ1 (v1 + 1)))
def f_X10_forgets (σ : St) (Q : St → Prop) : Prop :=
  f_X10_forgets_L2 Q FU σ 0
set_option maxRecDepth 100000 in
set_option maxHeartbeats 4000000 in
theorem w_X10_forgets_L51 {X : Cx} {Y : Cy} {Q : St → Prop} (ok : Ok X Y KM cX10_forgets 2 RX10 (rm0q 0 0) none) : ∀ (n : Nat) (σ : St) (v1 : Int) , f_X10_forgets_L51 Q n σ v1 → Wq X Y KM 2 (QF X Y (Qvq Y KM Q)) σ 51 [(0, .inr (.inr 0)), (1, .inl v1)] [] := by
  intro n
  induction n with
  | zero => intro σ v1 h; exact h.elim
  | succ n ih =>
    intro σ v1 h
    rw [f_X10_forgets_L51] at h
    refine q_iload_n ok dX10_forgets_51 1 rfl ?_
    refine q_bipush ok dX10_forgets_52 rfl ?_
    obtain ⟨g1, hT1a, hT1b⟩ := h
    refine q_icmp_ge (tgt := 70) ok dX10_forgets_54 (by decide) g1 (by unfold inR; decide) (fun c1 => ?_) (fun c1 => ?_)
    · have h := hT1a c1
      exact q_vret ok dX10_forgets_70 h
    · have h := hT1b c1
      refine q_aload_n ok dX10_forgets_57 0 rfl ?_
      refine q_getC ok fl_X10_101 kM_0 fM_0_47 dX10_forgets_58 ?_
      refine q_iload_n ok dX10_forgets_61 1 rfl ?_
      refine q_iconst ok dX10_forgets_62 ?_
      obtain ⟨g2, g3, h⟩ := h
      refine q_zast ok kM_ok kM_31 g2 g3 (by decide) dX10_forgets_63 (wq_s (fun σ1 eσ1 => ?_))
      have h := h σ1 eσ1
      refine q_iinc (lv' := [(1, .inl (v1 + 1)), (0, .inr (.inr 0))]) ok dX10_forgets_64 1 rfl (by decide) rfl ?_
      refine q_goto (tgt := 51) ok dX10_forgets_67 (by decide) ?_
      refine q_sub [1, 0] rfl ?_
      exact ih σ1 (v1 + 1) h
set_option maxRecDepth 100000 in
set_option maxHeartbeats 4000000 in
theorem w_X10_forgets_L23 {X : Cx} {Y : Cy} {Q : St → Prop} (ok : Ok X Y KM cX10_forgets 2 RX10 (rm0q 0 0) none) : ∀ (n : Nat) (σ : St) (v1 : Int) , f_X10_forgets_L23 Q n σ v1 → Wq X Y KM 2 (QF X Y (Qvq Y KM Q)) σ 23 [(0, .inr (.inr 0)), (1, .inl v1)] [] := by
  intro n
  induction n with
  | zero => intro σ v1 h; exact h.elim
  | succ n ih =>
    intro σ v1 h
    rw [f_X10_forgets_L23] at h
    refine q_iload_n ok dX10_forgets_23 1 rfl ?_
    refine q_bipush ok dX10_forgets_24 rfl ?_
    obtain ⟨g1, hT1a, hT1b⟩ := h
    refine q_icmp_ge (tgt := 49) ok dX10_forgets_26 (by decide) g1 (by unfold inR; decide) (fun c1 => ?_) (fun c1 => ?_)
    · have h := hT1a c1
      refine q_iconst ok dX10_forgets_49 ?_
      refine q_istore_n (lv' := [(1, .inl 0), (0, .inr (.inr 0))]) ok dX10_forgets_50 (by decide) rfl ?_
      refine q_sub [1, 0] rfl ?_
      exact w_X10_forgets_L51 ok FU σ 0 h
    · have h := hT1b c1
      refine q_aload_n ok dX10_forgets_29 0 rfl ?_
      refine q_getC ok fl_X10_98 kM_0 fM_0_46 dX10_forgets_30 ?_
      refine q_iload_n ok dX10_forgets_33 1 rfl ?_
      refine q_iconst ok dX10_forgets_34 ?_
      obtain ⟨g2, g3, h⟩ := h
      refine q_zast ok kM_ok kM_30 g2 g3 (by decide) dX10_forgets_35 (wq_s (fun σ1 eσ1 => ?_))
      have h := h σ1 eσ1
      refine q_aload_n ok dX10_forgets_36 0 rfl ?_
      refine q_getC ok fl_X10_107 kM_0 fM_0_55 dX10_forgets_37 ?_
      refine q_iload_n ok dX10_forgets_40 1 rfl ?_
      refine q_iconst ok dX10_forgets_41 ?_
      obtain ⟨g4, g5, h⟩ := h
      refine q_iast ok kM_ok kM_33 g4 g5 dX10_forgets_42 (wq_s (fun σ2 eσ2 => ?_))
      have h := h σ2 eσ2
      refine q_iinc (lv' := [(1, .inl (v1 + 1)), (0, .inr (.inr 0))]) ok dX10_forgets_43 1 rfl (by decide) rfl ?_
      refine q_goto (tgt := 23) ok dX10_forgets_46 (by decide) ?_
      refine q_sub [1, 0] rfl ?_
      exact ih σ2 (v1 + 1) h
set_option maxRecDepth 100000 in
set_option maxHeartbeats 4000000 in
theorem w_X10_forgets_L2 {X : Cx} {Y : Cy} {Q : St → Prop} (ok : Ok X Y KM cX10_forgets 2 RX10 (rm0q 0 0) none) : ∀ (n : Nat) (σ : St) (v1 : Int) , f_X10_forgets_L2 Q n σ v1 → Wq X Y KM 2 (QF X Y (Qvq Y KM Q)) σ 2 [(0, .inr (.inr 0)), (1, .inl v1)] [] := by
  intro n
  induction n with
  | zero => intro σ v1 h; exact h.elim
  | succ n ih =>
    intro σ v1 h
    rw [f_X10_forgets_L2] at h
    refine q_iload_n ok dX10_forgets_2 1 rfl ?_
    refine q_bipush ok dX10_forgets_3 rfl ?_
    obtain ⟨g1, hT1a, hT1b⟩ := h
    refine q_icmp_ge (tgt := 21) ok dX10_forgets_5 (by decide) g1 (by unfold inR; decide) (fun c1 => ?_) (fun c1 => ?_)
    · have h := hT1a c1
      refine q_iconst ok dX10_forgets_21 ?_
      refine q_istore_n (lv' := [(1, .inl 0), (0, .inr (.inr 0))]) ok dX10_forgets_22 (by decide) rfl ?_
      refine q_sub [1, 0] rfl ?_
      exact w_X10_forgets_L23 ok FU σ 0 h
    · have h := hT1b c1
      refine q_aload_n ok dX10_forgets_8 0 rfl ?_
      refine q_getC ok fl_X10_95 kM_0 fM_0_45 dX10_forgets_9 ?_
      refine q_iload_n ok dX10_forgets_12 1 rfl ?_
      refine q_iconst ok dX10_forgets_13 ?_
      obtain ⟨g2, g3, h⟩ := h
      refine q_zast ok kM_ok kM_29 g2 g3 (by decide) dX10_forgets_14 (wq_s (fun σ1 eσ1 => ?_))
      have h := h σ1 eσ1
      refine q_iinc (lv' := [(1, .inl (v1 + 1)), (0, .inr (.inr 0))]) ok dX10_forgets_15 1 rfl (by decide) rfl ?_
      refine q_goto (tgt := 2) ok dX10_forgets_18 (by decide) ?_
      refine q_sub [1, 0] rfl ?_
      exact ih σ1 (v1 + 1) h
set_option maxRecDepth 100000 in
set_option maxHeartbeats 4000000 in
theorem c_X10_forgets (l : Launch) (Y : Cy) (hD : ∀ σ, va_D Y.2.2.2 (wsOf KM Y.2.1 Y.2.2.1 σ)) {σ : St} {Q : St → Prop} (h : f_X10_forgets  σ Q) : ConV l yX10_forgets cX10_forgets 2 (rm0q 0 0) Y KM σ [.inr (.inr 0)] Q := con_of (lv := [(0, .inr (.inr 0))]) (by decide) hD (Nat.le_of_ble_eq_true rfl) rfl (fun X _ ok => by
  have ok : Ok X Y KM cX10_forgets 2 RX10 (rm0q 0 0) none := ok
  unfold f_X10_forgets at h
  refine q_iconst ok dX10_forgets_0 ?_
  refine q_istore_n (lv' := [(1, .inl 0), (0, .inr (.inr 0))]) ok dX10_forgets_1 (by decide) rfl ?_
  refine q_sub [1, 0] rfl ?_
  exact w_X10_forgets_L2 ok FU σ 0 h)
/-! BranchingStoryModel.explore(I)I -/
def f_X10_explore_L124 (k97 : St → Int → Prop) (Q : St → Int → Prop) : Nat → St → Int → Int → Int → Prop
  | 0, _, _, _, _ => False
  | n + 1, σ, v2, v3, v4 => inR v4 ∧ inR v3 ∧ ((v3 ≤ v4 → k97 σ (v2 + 1)) ∧ (¬ v3 ≤ v4 → f_X10_comesBack v2 σ (fun σ1 => f_X10_offeredAt v4 σ1 (fun σ2 r1 => f_X10_takes r1 σ2 (fun σ3 => f_X10_notes v2 v4 σ3 (fun σ4 => f_X10_explore_L124 k97 Q n σ4 v2 v3 (v4 + 1)))))))
def f_X10_explore_L176 (Q : St → Int → Prop) : Nat → St → Int → Prop
  | 0, _, _ => False
  | n + 1, σ, v2 => inR v2 ∧ ((31 ≤ v2 → Q σ (σ 0 51)) ∧ (¬ 31 ≤ v2 → 0 ≤ v2 ∧ v2 < 31 ∧ 0 ≤ v2 ∧ v2 < 31 ∧ ∀ σ1 : St, σ1 = sset σ 26 v2.toNat (σ 28 v2.toNat) → f_X10_explore_L176 Q n σ1 (v2 + 1)))
def f_X10_explore_L97 (Q : St → Int → Prop) : Nat → St → Int → Prop
  | 0, _, _ => False
  | n + 1, σ, v2 => inR v2 ∧ inR (σ 0 51) ∧ (((σ 0 51) ≤ v2 → ∀ σ1 : St, σ1 = sset σ 0 44 0 → ∀ σ2 : St, σ2 = sset σ1 0 53 1 → f_X10_explore_L176 Q FU σ2 0) ∧ (¬ (σ 0 51) ≤ v2 → 0 ≤ ((11 * v2) + 7) ∧ ((11 * v2) + 7) < 3300 ∧ f_X10_bits (σ 32 ((11 * v2) + 7).toNat) σ (fun σ3 r1 => f_X10_explore_L124 (fun σ' v2' => f_X10_explore_L97 Q n σ' v2') Q FU σ3 v2 r1 0)))
def f_X10_explore_L37 (Q : St → Int → Prop) : Nat → St → Int → Int → Prop
  | 0, _, _, _ => False
  | n + 1, σ, v1, v2 => inR v2 ∧ ((31 ≤ v2 → f_X10_forgets σ (fun σ1 => ∀ σ2 : St, σ2 = sset σ1 0 44 1 → ∀ σ3 : St, σ3 = sset σ2 0 51 0 → ∀ σ4 : St, σ4 = sset σ3 0 52 v1 → ∀ σ5 : St, σ5 = sset σ4 0 54 1 → f_X10_starts σ5 (fun σ6 => f_X10_notes (-1) 0 σ6 (fun σ7 => f_X10_explore_L97 Q FU σ7 0)))) ∧ (¬ 31 ≤ v2 → 0 ≤ v2 ∧ v2 < 31 ∧ 0 ≤ v2 ∧ v2 < 31 ∧ ∀ σ8 : St, σ8 = sset σ 28 v2.toNat (σ 26 v2.toNat) → f_X10_explore_L37 Q n σ8 v1 (v2 + 1)))
def f_X10_explore (a0 : Int) (σ : St) (Q : St → Int → Prop) : Prop :=
  ∀ σ1 : St, σ1 = sset σ 0 5 0 → f_X10_in a0 1 300 σ1 (fun σ2 r1 => inR r1 ∧ ((¬ r1 = 0 → inR (σ2 0 4) ∧ ((¬ (σ2 0 4) = 0 → f_X10_explore_L37 Q FU σ2 a0 0) ∧ ((σ2 0 4) = 0 → f_X10_fails 2 σ2 (fun σ3 r2 => Q σ3 r2)))) ∧ (r1 = 0 → f_X10_fails 1 σ2 (fun σ4 r3 => Q σ4 r3))))
set_option maxRecDepth 100000 in
set_option maxHeartbeats 4000000 in
theorem w_X10_explore_L124 {X : Cx} {Y : Cy} {k97 : St → Int → Prop} {Q : St → Int → Prop} (ok : Ok X Y KM cX10_explore 5 RX10 (rm0q 5 112) (some .int)) (hk97 : ∀ (σ : St) (v2 : Int) , k97 σ v2 → Wq X Y KM 5 (QF X Y (Qiq Y KM Q)) σ 97 [(0, .inr (.inr 0)), (2, .inl v2)] []) : ∀ (n : Nat) (σ : St) (v2 : Int) (v3 : Int) (v4 : Int) , f_X10_explore_L124 k97 Q n σ v2 v3 v4 → Wq X Y KM 5 (QF X Y (Qiq Y KM Q)) σ 124 [(0, .inr (.inr 0)), (2, .inl v2), (3, .inl v3), (4, .inl v4)] [] := by
  intro n
  induction n with
  | zero => intro σ v2 v3 v4 h; exact h.elim
  | succ n ih =>
    intro σ v2 v3 v4 h
    rw [f_X10_explore_L124] at h
    refine q_iload ok dX10_explore_124 3 rfl ?_
    refine q_iload_n ok dX10_explore_126 2 rfl ?_
    obtain ⟨g1, g2, hT1a, hT1b⟩ := h
    refine q_icmp_ge (tgt := 158) ok dX10_explore_127 (by decide) g1 g2 (fun c1 => ?_) (fun c1 => ?_)
    · have h := hT1a c1
      refine q_iinc (lv' := [(2, .inl (v2 + 1)), (0, .inr (.inr 0)), (3, .inl v3), (4, .inl v4)]) ok dX10_explore_158 1 rfl (by decide) rfl ?_
      refine q_goto (tgt := 97) ok dX10_explore_161 (by decide) ?_
      refine q_sub [1, 0] rfl ?_
      exact hk97 σ (v2 + 1) h
    · have h := hT1b c1
      refine q_aload_n ok dX10_explore_130 0 rfl ?_
      refine q_iload_n ok dX10_explore_131 1 rfl ?_
      refine q_callVV (st := []) ok cs_X10_362 kM_0 rfl (c_X10_comesBack X.2.1 Y ok.2.2.2.2.2.2.2.2 h) ⟨rfl, rfl, Nat.le_of_ble_eq_true rfl, Nat.le_of_ble_eq_true rfl⟩ rfl rfl (Nat.le_of_ble_eq_true rfl) dX10_explore_132 (fun σ1 h => ?_)
      refine q_aload_n ok dX10_explore_135 0 rfl ?_
      refine q_aload_n ok dX10_explore_136 0 rfl ?_
      refine q_iload ok dX10_explore_137 3 rfl ?_
      refine q_callVI (st := [.inr (.inr 0)]) ok cs_X10_328 kM_0 rfl (c_X10_offeredAt X.2.1 Y ok.2.2.2.2.2.2.2.2 h) ⟨rfl, rfl, Nat.le_of_ble_eq_true rfl, Nat.le_of_ble_eq_true rfl⟩ rfl rfl (Nat.le_of_ble_eq_true rfl) dX10_explore_139 (fun σ2 r1 h => ?_)
      refine q_callVV (st := []) ok cs_X10_331 kM_0 rfl (c_X10_takes X.2.1 Y ok.2.2.2.2.2.2.2.2 h) ⟨rfl, rfl, Nat.le_of_ble_eq_true rfl, Nat.le_of_ble_eq_true rfl⟩ rfl rfl (Nat.le_of_ble_eq_true rfl) dX10_explore_142 (fun σ3 h => ?_)
      refine q_aload_n ok dX10_explore_145 0 rfl ?_
      refine q_iload_n ok dX10_explore_146 1 rfl ?_
      refine q_iload ok dX10_explore_147 3 rfl ?_
      refine q_callVV (st := []) ok cs_X10_358 kM_0 rfl (c_X10_notes X.2.1 Y ok.2.2.2.2.2.2.2.2 h) ⟨rfl, rfl, Nat.le_of_ble_eq_true rfl, Nat.le_of_ble_eq_true rfl⟩ rfl rfl (Nat.le_of_ble_eq_true rfl) dX10_explore_149 (fun σ4 h => ?_)
      refine q_iinc (lv' := [(4, .inl (v4 + 1)), (0, .inr (.inr 0)), (2, .inl v2), (3, .inl v3)]) ok dX10_explore_152 3 rfl (by decide) rfl ?_
      refine q_goto (tgt := 124) ok dX10_explore_155 (by decide) ?_
      refine q_sub [1, 2, 3, 0] rfl ?_
      exact ih σ4 v2 v3 (v4 + 1) h
set_option maxRecDepth 100000 in
set_option maxHeartbeats 4000000 in
theorem w_X10_explore_L176 {X : Cx} {Y : Cy} {Q : St → Int → Prop} (ok : Ok X Y KM cX10_explore 5 RX10 (rm0q 5 112) (some .int)) : ∀ (n : Nat) (σ : St) (v2 : Int) , f_X10_explore_L176 Q n σ v2 → Wq X Y KM 5 (QF X Y (Qiq Y KM Q)) σ 176 [(0, .inr (.inr 0)), (2, .inl v2)] [] := by
  intro n
  induction n with
  | zero => intro σ v2 h; exact h.elim
  | succ n ih =>
    intro σ v2 h
    rw [f_X10_explore_L176] at h
    refine q_iload_n ok dX10_explore_176 1 rfl ?_
    refine q_bipush ok dX10_explore_177 rfl ?_
    obtain ⟨g1, hT1a, hT1b⟩ := h
    refine q_icmp_ge (tgt := 200) ok dX10_explore_179 (by decide) g1 (by unfold inR; decide) (fun c1 => ?_) (fun c1 => ?_)
    · have h := hT1a c1
      refine q_aload_n ok dX10_explore_200 0 rfl ?_
      refine q_getI ok fl_X10_340 kM_0 fM_0_51 dX10_explore_201 ?_
      exact q_iret ok dX10_explore_204 h
    · have h := hT1b c1
      refine q_aload_n ok dX10_explore_182 0 rfl ?_
      refine q_getC ok fl_X10_86 kM_0 fM_0_40 dX10_explore_183 ?_
      refine q_iload_n ok dX10_explore_186 1 rfl ?_
      refine q_aload_n ok dX10_explore_187 0 rfl ?_
      refine q_getC ok fl_X10_92 kM_0 fM_0_43 dX10_explore_188 ?_
      refine q_iload_n ok dX10_explore_191 1 rfl ?_
      obtain ⟨g2, g3, h⟩ := h
      refine q_iald ok kM_ok kM_28 g2 g3 dX10_explore_192 ?_
      obtain ⟨g4, g5, h⟩ := h
      refine q_iast ok kM_ok kM_26 g4 g5 dX10_explore_193 (wq_s (fun σ1 eσ1 => ?_))
      have h := h σ1 eσ1
      refine q_iinc (lv' := [(2, .inl (v2 + 1)), (0, .inr (.inr 0))]) ok dX10_explore_194 1 rfl (by decide) rfl ?_
      refine q_goto (tgt := 176) ok dX10_explore_197 (by decide) ?_
      refine q_sub [1, 0] rfl ?_
      exact ih σ1 (v2 + 1) h
set_option maxRecDepth 100000 in
set_option maxHeartbeats 4000000 in
theorem w_X10_explore_L97 {X : Cx} {Y : Cy} {Q : St → Int → Prop} (ok : Ok X Y KM cX10_explore 5 RX10 (rm0q 5 112) (some .int)) : ∀ (n : Nat) (σ : St) (v2 : Int) , f_X10_explore_L97 Q n σ v2 → Wq X Y KM 5 (QF X Y (Qiq Y KM Q)) σ 97 [(0, .inr (.inr 0)), (2, .inl v2)] [] := by
  intro n
  induction n with
  | zero => intro σ v2 h; exact h.elim
  | succ n ih =>
    intro σ v2 h
    rw [f_X10_explore_L97] at h
    refine q_iload_n ok dX10_explore_97 1 rfl ?_
    refine q_aload_n ok dX10_explore_98 0 rfl ?_
    refine q_getI ok fl_X10_340 kM_0 fM_0_51 dX10_explore_99 ?_
    obtain ⟨g1, g2, hT1a, hT1b⟩ := h
    refine q_icmp_ge (tgt := 164) ok dX10_explore_102 (by decide) g1 g2 (fun c1 => ?_) (fun c1 => ?_)
    · have h := hT1a c1
      refine q_aload_n ok dX10_explore_164 0 rfl ?_
      refine q_iconst ok dX10_explore_165 ?_
      refine q_putZ ok fp_X10_295 kM_0 fM_0_44 dX10_explore_166 (by decide) (wq_s (fun σ1 eσ1 => ?_))
      have h := h σ1 eσ1
      refine q_aload_n ok dX10_explore_169 0 rfl ?_
      refine q_iconst ok dX10_explore_170 ?_
      refine q_putZ ok fp_X10_270 kM_0 fM_0_53 dX10_explore_171 (by decide) (wq_s (fun σ2 eσ2 => ?_))
      have h := h σ2 eσ2
      refine q_iconst ok dX10_explore_174 ?_
      refine q_istore_n (lv' := [(2, .inl 0), (0, .inr (.inr 0))]) ok dX10_explore_175 (by decide) rfl ?_
      refine q_sub [1, 0] rfl ?_
      exact w_X10_explore_L176 ok FU σ2 0 h
    · have h := hT1b c1
      refine q_aload_n ok dX10_explore_105 0 rfl ?_
      refine q_getC ok fl_X10_104 kM_0 fM_0_50 dX10_explore_106 ?_
      refine q_bipush ok dX10_explore_109 rfl ?_
      refine q_iload_n ok dX10_explore_111 1 rfl ?_
      refine q_imul ok dX10_explore_112 ?_
      refine q_bipush ok dX10_explore_113 rfl ?_
      refine q_iadd ok dX10_explore_115 ?_
      obtain ⟨g3, g4, h⟩ := h
      refine q_iald ok kM_ok kM_32 g3 g4 dX10_explore_116 ?_
      refine q_callSI (st := []) ok cs_X10_334 (c_X10_bits X.2.1 Y ok.2.2.2.2.2.2.2.2 h) ⟨rfl, rfl, Nat.le_of_ble_eq_true rfl, Nat.le_of_ble_eq_true rfl⟩ rfl rfl (Nat.le_of_ble_eq_true rfl) dX10_explore_117 (fun σ3 r1 h => ?_)
      refine q_istore_n (lv' := [(3, .inl r1), (0, .inr (.inr 0)), (2, .inl v2)]) ok dX10_explore_120 (by decide) rfl ?_
      refine q_iconst ok dX10_explore_121 ?_
      refine q_istore (lv' := [(4, .inl 0), (3, .inl r1), (0, .inr (.inr 0)), (2, .inl v2)]) ok dX10_explore_122 (by decide) rfl ?_
      refine q_sub [2, 3, 1, 0] rfl ?_
      exact w_X10_explore_L124 ok ih FU σ3 v2 r1 0 h
set_option maxRecDepth 100000 in
set_option maxHeartbeats 4000000 in
theorem w_X10_explore_L37 {X : Cx} {Y : Cy} {Q : St → Int → Prop} (ok : Ok X Y KM cX10_explore 5 RX10 (rm0q 5 112) (some .int)) : ∀ (n : Nat) (σ : St) (v1 : Int) (v2 : Int) , f_X10_explore_L37 Q n σ v1 v2 → Wq X Y KM 5 (QF X Y (Qiq Y KM Q)) σ 37 [(0, .inr (.inr 0)), (1, .inl v1), (2, .inl v2)] [] := by
  intro n
  induction n with
  | zero => intro σ v1 v2 h; exact h.elim
  | succ n ih =>
    intro σ v1 v2 h
    rw [f_X10_explore_L37] at h
    refine q_iload_n ok dX10_explore_37 2 rfl ?_
    refine q_bipush ok dX10_explore_38 rfl ?_
    obtain ⟨g1, hT1a, hT1b⟩ := h
    refine q_icmp_ge (tgt := 61) ok dX10_explore_40 (by decide) g1 (by unfold inR; decide) (fun c1 => ?_) (fun c1 => ?_)
    · have h := hT1a c1
      refine q_aload_n ok dX10_explore_61 0 rfl ?_
      refine q_callVV (st := []) ok cs_X10_355 kM_0 rfl (c_X10_forgets X.2.1 Y ok.2.2.2.2.2.2.2.2 h) ⟨rfl, rfl, Nat.le_of_ble_eq_true rfl, Nat.le_of_ble_eq_true rfl⟩ rfl rfl (Nat.le_of_ble_eq_true rfl) dX10_explore_62 (fun σ1 h => ?_)
      refine q_aload_n ok dX10_explore_65 0 rfl ?_
      refine q_iconst ok dX10_explore_66 ?_
      refine q_putZ ok fp_X10_295 kM_0 fM_0_44 dX10_explore_67 (by decide) (wq_s (fun σ2 eσ2 => ?_))
      have h := h σ2 eσ2
      refine q_aload_n ok dX10_explore_70 0 rfl ?_
      refine q_iconst ok dX10_explore_71 ?_
      refine q_putI ok fp_X10_340 kM_0 fM_0_51 dX10_explore_72 (wq_s (fun σ3 eσ3 => ?_))
      have h := h σ3 eσ3
      refine q_aload_n ok dX10_explore_75 0 rfl ?_
      refine q_iload_n ok dX10_explore_76 1 rfl ?_
      refine q_putI ok fp_X10_349 kM_0 fM_0_52 dX10_explore_77 (wq_s (fun σ4 eσ4 => ?_))
      have h := h σ4 eσ4
      refine q_aload_n ok dX10_explore_80 0 rfl ?_
      refine q_iconst ok dX10_explore_81 ?_
      refine q_putZ ok fp_X10_352 kM_0 fM_0_54 dX10_explore_82 (by decide) (wq_s (fun σ5 eσ5 => ?_))
      have h := h σ5 eσ5
      refine q_aload_n ok dX10_explore_85 0 rfl ?_
      refine q_callVV (st := []) ok cs_X10_325 kM_0 rfl (c_X10_starts X.2.1 Y ok.2.2.2.2.2.2.2.2 h) ⟨rfl, rfl, Nat.le_of_ble_eq_true rfl, Nat.le_of_ble_eq_true rfl⟩ rfl rfl (Nat.le_of_ble_eq_true rfl) dX10_explore_86 (fun σ6 h => ?_)
      refine q_aload_n ok dX10_explore_89 0 rfl ?_
      refine q_iconst ok dX10_explore_90 ?_
      refine q_iconst ok dX10_explore_91 ?_
      refine q_callVV (st := []) ok cs_X10_358 kM_0 rfl (c_X10_notes X.2.1 Y ok.2.2.2.2.2.2.2.2 h) ⟨rfl, rfl, Nat.le_of_ble_eq_true rfl, Nat.le_of_ble_eq_true rfl⟩ rfl rfl (Nat.le_of_ble_eq_true rfl) dX10_explore_92 (fun σ7 h => ?_)
      refine q_iconst ok dX10_explore_95 ?_
      refine q_istore_n (lv' := [(2, .inl 0), (0, .inr (.inr 0)), (1, .inl v1)]) ok dX10_explore_96 (by decide) rfl ?_
      refine q_sub [1, 0] rfl ?_
      exact w_X10_explore_L97 ok FU σ7 0 h
    · have h := hT1b c1
      refine q_aload_n ok dX10_explore_43 0 rfl ?_
      refine q_getC ok fl_X10_92 kM_0 fM_0_43 dX10_explore_44 ?_
      refine q_iload_n ok dX10_explore_47 2 rfl ?_
      refine q_aload_n ok dX10_explore_48 0 rfl ?_
      refine q_getC ok fl_X10_86 kM_0 fM_0_40 dX10_explore_49 ?_
      refine q_iload_n ok dX10_explore_52 2 rfl ?_
      obtain ⟨g2, g3, h⟩ := h
      refine q_iald ok kM_ok kM_26 g2 g3 dX10_explore_53 ?_
      obtain ⟨g4, g5, h⟩ := h
      refine q_iast ok kM_ok kM_28 g4 g5 dX10_explore_54 (wq_s (fun σ8 eσ8 => ?_))
      have h := h σ8 eσ8
      refine q_iinc (lv' := [(2, .inl (v2 + 1)), (0, .inr (.inr 0)), (1, .inl v1)]) ok dX10_explore_55 2 rfl (by decide) rfl ?_
      refine q_goto (tgt := 37) ok dX10_explore_58 (by decide) ?_
      refine q_sub [1, 2, 0] rfl ?_
      exact ih σ8 v1 (v2 + 1) h
set_option maxRecDepth 100000 in
set_option maxHeartbeats 4000000 in
theorem c_X10_explore (l : Launch) (Y : Cy) (hD : ∀ σ, va_D Y.2.2.2 (wsOf KM Y.2.1 Y.2.2.1 σ)) {a0 : Int} {σ : St} {Q : St → Int → Prop} (h : f_X10_explore a0 σ Q) : ConI l yX10_explore cX10_explore 5 .int (rm0q 5 112) Y KM σ [.inr (.inr 0), .inl a0] Q := con_of (lv := [(0, .inr (.inr 0)), (1, .inl a0)]) (by decide) hD (Nat.le_of_ble_eq_true rfl) rfl (fun X _ ok => by
  have ok : Ok X Y KM cX10_explore 5 RX10 (rm0q 5 112) (some .int) := ok
  unfold f_X10_explore at h
  refine q_aload_n ok dX10_explore_0 0 rfl ?_
  refine q_iconst ok dX10_explore_1 ?_
  refine q_putI ok fp_X10_143 kM_0 fM_0_5 dX10_explore_2 (wq_s (fun σ1 eσ1 => ?_))
  have h := h σ1 eσ1
  refine q_iload_n ok dX10_explore_5 1 rfl ?_
  refine q_iconst ok dX10_explore_6 ?_
  refine q_sipush ok dX10_explore_7 rfl ?_
  refine q_callSI (st := []) ok cs_X10_168 (c_X10_in X.2.1 Y ok.2.2.2.2.2.2.2.2 h) ⟨rfl, rfl, Nat.le_of_ble_eq_true rfl, Nat.le_of_ble_eq_true rfl⟩ rfl rfl (Nat.le_of_ble_eq_true rfl) dX10_explore_10 (fun σ2 r1 h => ?_)
  obtain ⟨g1, hT2a, hT2b⟩ := h
  refine q_if_ne (tgt := 22) ok dX10_explore_13 (by decide) g1 (fun c2 => ?_) (fun c2 => ?_)
  · have h := hT2a c2
    refine q_aload_n ok dX10_explore_22 0 rfl ?_
    refine q_getI ok fl_X10_261 kM_0 fM_0_4 dX10_explore_23 ?_
    obtain ⟨g2, hT1a, hT1b⟩ := h
    refine q_if_ne (tgt := 35) ok dX10_explore_26 (by decide) g2 (fun c1 => ?_) (fun c1 => ?_)
    · have h := hT1a c1
      refine q_iconst ok dX10_explore_35 ?_
      refine q_istore_n (lv' := [(2, .inl 0), (0, .inr (.inr 0)), (1, .inl a0)]) ok dX10_explore_36 (by decide) rfl ?_
      refine q_sub [1, 2, 0] rfl ?_
      exact w_X10_explore_L37 ok FU σ2 a0 0 h
    · have h := hT1b c1
      refine q_aload_n ok dX10_explore_29 0 rfl ?_
      refine q_iconst ok dX10_explore_30 ?_
      refine q_callVI (st := []) ok cs_X10_253 kM_0 rfl (c_X10_fails X.2.1 Y ok.2.2.2.2.2.2.2.2 h) ⟨rfl, rfl, Nat.le_of_ble_eq_true rfl, Nat.le_of_ble_eq_true rfl⟩ rfl rfl (Nat.le_of_ble_eq_true rfl) dX10_explore_31 (fun σ3 r2 h => ?_)
      exact q_iret ok dX10_explore_34 h
  · have h := hT2b c2
    refine q_aload_n ok dX10_explore_16 0 rfl ?_
    refine q_iconst ok dX10_explore_17 ?_
    refine q_callVI (st := []) ok cs_X10_253 kM_0 rfl (c_X10_fails X.2.1 Y ok.2.2.2.2.2.2.2.2 h) ⟨rfl, rfl, Nat.le_of_ble_eq_true rfl, Nat.le_of_ble_eq_true rfl⟩ rfl rfl (Nat.le_of_ble_eq_true rfl) dX10_explore_18 (fun σ4 r3 h => ?_)
    exact q_iret ok dX10_explore_21 h)
