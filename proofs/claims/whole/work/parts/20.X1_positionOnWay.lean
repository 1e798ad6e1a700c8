theorem dX1_positionOnWay_0 : decode cX1_positionOnWay 0 = .ok (.aload_n 0, 1) := by decide +kernel
theorem dX1_positionOnWay_1 : decode cX1_positionOnWay 1 = .ok (.getfield 31, 3) := by decide +kernel
theorem dX1_positionOnWay_4 : decode cX1_positionOnWay 4 = .ok (.iload_n 1, 1) := by decide +kernel
theorem dX1_positionOnWay_5 : decode cX1_positionOnWay 5 = .ok (.invokestatic 127, 3) := by decide +kernel
theorem dX1_positionOnWay_8 : decode cX1_positionOnWay 8 = .ok (.istore_n 3, 1) := by decide +kernel
theorem dX1_positionOnWay_9 : decode cX1_positionOnWay 9 = .ok (.aload_n 0, 1) := by decide +kernel
theorem dX1_positionOnWay_10 : decode cX1_positionOnWay 10 = .ok (.getfield 28, 3) := by decide +kernel
theorem dX1_positionOnWay_13 : decode cX1_positionOnWay 13 = .ok (.iload_n 1, 1) := by decide +kernel
theorem dX1_positionOnWay_14 : decode cX1_positionOnWay 14 = .ok (.invokestatic 127, 3) := by decide +kernel
theorem dX1_positionOnWay_17 : decode cX1_positionOnWay 17 = .ok (.istore 4, 2) := by decide +kernel
theorem dX1_positionOnWay_19 : decode cX1_positionOnWay 19 = .ok (.aload_n 0, 1) := by decide +kernel
theorem dX1_positionOnWay_20 : decode cX1_positionOnWay 20 = .ok (.getfield 34, 3) := by decide +kernel
theorem dX1_positionOnWay_23 : decode cX1_positionOnWay 23 = .ok (.iload_n 1, 1) := by decide +kernel
theorem dX1_positionOnWay_24 : decode cX1_positionOnWay 24 = .ok (.invokestatic 127, 3) := by decide +kernel
theorem dX1_positionOnWay_27 : decode cX1_positionOnWay 27 = .ok (.iconst 1, 1) := by decide +kernel
theorem dX1_positionOnWay_28 : decode cX1_positionOnWay 28 = .ok (.isub, 1) := by decide +kernel
theorem dX1_positionOnWay_29 : decode cX1_positionOnWay 29 = .ok (.iload_n 2, 1) := by decide +kernel
theorem dX1_positionOnWay_30 : decode cX1_positionOnWay 30 = .ok (.isub, 1) := by decide +kernel
theorem dX1_positionOnWay_31 : decode cX1_positionOnWay 31 = .ok (.istore 5, 2) := by decide +kernel
theorem dX1_positionOnWay_33 : decode cX1_positionOnWay 33 = .ok (.iconst 0, 1) := by decide +kernel
theorem dX1_positionOnWay_34 : decode cX1_positionOnWay 34 = .ok (.istore 6, 2) := by decide +kernel
theorem dX1_positionOnWay_36 : decode cX1_positionOnWay 36 = .ok (.iload 6, 2) := by decide +kernel
theorem dX1_positionOnWay_38 : decode cX1_positionOnWay 38 = .ok (.iload 5, 2) := by decide +kernel
theorem dX1_positionOnWay_40 : decode cX1_positionOnWay 40 = .ok (.if_icmp .ge 36, 3) := by decide +kernel
theorem dX1_positionOnWay_43 : decode cX1_positionOnWay 43 = .ok (.iload 4, 2) := by decide +kernel
theorem dX1_positionOnWay_45 : decode cX1_positionOnWay 45 = .ok (.iconst (-1), 1) := by decide +kernel
theorem dX1_positionOnWay_46 : decode cX1_positionOnWay 46 = .ok (.if_icmp .eq 30, 3) := by decide +kernel
theorem dX1_positionOnWay_49 : decode cX1_positionOnWay 49 = .ok (.aload_n 0, 1) := by decide +kernel
theorem dX1_positionOnWay_50 : decode cX1_positionOnWay 50 = .ok (.getfield 19, 3) := by decide +kernel
theorem dX1_positionOnWay_53 : decode cX1_positionOnWay 53 = .ok (.iload 4, 2) := by decide +kernel
theorem dX1_positionOnWay_55 : decode cX1_positionOnWay 55 = .ok (.invokestatic 127, 3) := by decide +kernel
theorem dX1_positionOnWay_58 : decode cX1_positionOnWay 58 = .ok (.istore_n 3, 1) := by decide +kernel
theorem dX1_positionOnWay_59 : decode cX1_positionOnWay 59 = .ok (.aload_n 0, 1) := by decide +kernel
theorem dX1_positionOnWay_60 : decode cX1_positionOnWay 60 = .ok (.getfield 15, 3) := by decide +kernel
theorem dX1_positionOnWay_63 : decode cX1_positionOnWay 63 = .ok (.iload 4, 2) := by decide +kernel
theorem dX1_positionOnWay_65 : decode cX1_positionOnWay 65 = .ok (.invokestatic 127, 3) := by decide +kernel
theorem dX1_positionOnWay_68 : decode cX1_positionOnWay 68 = .ok (.istore 4, 2) := by decide +kernel
theorem dX1_positionOnWay_70 : decode cX1_positionOnWay 70 = .ok (.iinc 6 1, 3) := by decide +kernel
theorem dX1_positionOnWay_73 : decode cX1_positionOnWay 73 = .ok (.goto (-37), 3) := by decide +kernel
theorem dX1_positionOnWay_76 : decode cX1_positionOnWay 76 = .ok (.iload_n 3, 1) := by decide +kernel
theorem dX1_positionOnWay_77 : decode cX1_positionOnWay 77 = .ok (.ireturn, 1) := by decide +kernel
theorem dX0_forget_0 : decode cX0_forget 0 = .ok (.aload_n 0, 1) := by decide +kernel
theorem dX0_forget_1 : decode cX0_forget 1 = .ok (.aload_n 1, 1) := by decide +kernel
theorem dX0_forget_2 : decode cX0_forget 2 = .ok (.putfield 31, 3) := by decide +kernel
theorem dX0_forget_5 : decode cX0_forget 5 = .ok (.aload_n 0, 1) := by decide +kernel
theorem dX0_forget_6 : decode cX0_forget 6 = .ok (.iconst 0, 1) := by decide +kernel
theorem dX0_forget_7 : decode cX0_forget 7 = .ok (.putfield 35, 3) := by decide +kernel
theorem dX0_forget_10 : decode cX0_forget 10 = .ok (.aload_n 0, 1) := by decide +kernel
theorem dX0_forget_11 : decode cX0_forget 11 = .ok (.getfield 9, 3) := by decide +kernel
theorem dX0_forget_14 : decode cX0_forget 14 = .ok (.lconst 0, 1) := by decide +kernel
theorem dX0_forget_15 : decode cX0_forget 15 = .ok (.invokestatic 41, 3) := by decide +kernel
theorem dX0_forget_18 : decode cX0_forget 18 = .ok (.aload_n 0, 1) := by decide +kernel
theorem dX0_forget_19 : decode cX0_forget 19 = .ok (.getfield 15, 3) := by decide +kernel
theorem dX0_forget_22 : decode cX0_forget 22 = .ok (.lconst 0, 1) := by decide +kernel
theorem dX0_forget_23 : decode cX0_forget 23 = .ok (.invokestatic 41, 3) := by decide +kernel
theorem dX0_forget_26 : decode cX0_forget 26 = .ok (.return_, 1) := by decide +kernel
theorem dX0_pour_0 : decode cX0_pour 0 = .ok (.lload_n 2, 1) := by decide +kernel
theorem dX0_pour_1 : decode cX0_pour 1 = .ok (.lconst 0, 1) := by decide +kernel
theorem dX0_pour_2 : decode cX0_pour 2 = .ok (.lcmp, 1) := by decide +kernel
theorem dX0_pour_3 : decode cX0_pour 3 = .ok (.ifCond .eq 14, 3) := by decide +kernel
theorem dX0_pour_6 : decode cX0_pour 6 = .ok (.aload_n 0, 1) := by decide +kernel
theorem dX0_pour_7 : decode cX0_pour 7 = .ok (.getfield 31, 3) := by decide +kernel
theorem dX0_pour_10 : decode cX0_pour 10 = .ok (.iload_n 1, 1) := by decide +kernel
theorem dX0_pour_11 : decode cX0_pour 11 = .ok (.invokevirtual 108, 3) := by decide +kernel
theorem dX0_pour_14 : decode cX0_pour 14 = .ok (.ifCond .ne 4, 3) := by decide +kernel
theorem dX0_pour_17 : decode cX0_pour 17 = .ok (.return_, 1) := by decide +kernel
theorem dX0_pour_18 : decode cX0_pour 18 = .ok (.aload_n 0, 1) := by decide +kernel
theorem dX0_pour_19 : decode cX0_pour 19 = .ok (.getfield 18, 3) := by decide +kernel
theorem dX0_pour_22 : decode cX0_pour 22 = .ok (.iload_n 1, 1) := by decide +kernel
theorem dX0_pour_23 : decode cX0_pour 23 = .ok (.laload, 1) := by decide +kernel
theorem dX0_pour_24 : decode cX0_pour 24 = .ok (.lconst 0, 1) := by decide +kernel
theorem dX0_pour_25 : decode cX0_pour 25 = .ok (.lcmp, 1) := by decide +kernel
theorem dX0_pour_26 : decode cX0_pour 26 = .ok (.ifCond .ne 7, 3) := by decide +kernel
theorem dX0_pour_29 : decode cX0_pour 29 = .ok (.iconst 1, 1) := by decide +kernel
theorem dX0_pour_30 : decode cX0_pour 30 = .ok (.goto 4, 3) := by decide +kernel
theorem dX0_pour_33 : decode cX0_pour 33 = .ok (.iconst 0, 1) := by decide +kernel
theorem dX0_pour_34 : decode cX0_pour 34 = .ok (.istore 6, 2) := by decide +kernel
theorem dX0_pour_36 : decode cX0_pour 36 = .ok (.aload_n 0, 1) := by decide +kernel
theorem dX0_pour_37 : decode cX0_pour 37 = .ok (.getfield 18, 3) := by decide +kernel
theorem dX0_pour_40 : decode cX0_pour 40 = .ok (.iload_n 1, 1) := by decide +kernel
theorem dX0_pour_41 : decode cX0_pour 41 = .ok (.aload_n 0, 1) := by decide +kernel
theorem dX0_pour_42 : decode cX0_pour 42 = .ok (.getfield 18, 3) := by decide +kernel
theorem dX0_pour_45 : decode cX0_pour 45 = .ok (.iload_n 1, 1) := by decide +kernel
theorem dX0_pour_46 : decode cX0_pour 46 = .ok (.laload, 1) := by decide +kernel
theorem dX0_pour_47 : decode cX0_pour 47 = .ok (.lload_n 2, 1) := by decide +kernel
theorem dX0_pour_48 : decode cX0_pour 48 = .ok (.invokestatic 111, 3) := by decide +kernel
theorem dX0_pour_51 : decode cX0_pour 51 = .ok (.lastore, 1) := by decide +kernel
theorem dX0_pour_52 : decode cX0_pour 52 = .ok (.aload_n 0, 1) := by decide +kernel
theorem dX0_pour_53 : decode cX0_pour 53 = .ok (.getfield 21, 3) := by decide +kernel
theorem dX0_pour_56 : decode cX0_pour 56 = .ok (.iload_n 1, 1) := by decide +kernel
theorem dX0_pour_57 : decode cX0_pour 57 = .ok (.iload 6, 2) := by decide +kernel
theorem dX0_pour_59 : decode cX0_pour 59 = .ok (.ifCond .eq 8, 3) := by decide +kernel
theorem dX0_pour_62 : decode cX0_pour 62 = .ok (.iload 4, 2) := by decide +kernel
theorem dX0_pour_64 : decode cX0_pour 64 = .ok (.goto 12, 3) := by decide +kernel
theorem dX0_pour_67 : decode cX0_pour 67 = .ok (.aload_n 0, 1) := by decide +kernel
theorem dX0_pour_68 : decode cX0_pour 68 = .ok (.getfield 21, 3) := by decide +kernel
theorem dX0_pour_71 : decode cX0_pour 71 = .ok (.iload_n 1, 1) := by decide +kernel
theorem dX0_pour_72 : decode cX0_pour 72 = .ok (.iaload, 1) := by decide +kernel
theorem dX0_pour_73 : decode cX0_pour 73 = .ok (.iload 4, 2) := by decide +kernel
theorem dX0_pour_75 : decode cX0_pour 75 = .ok (.ior, 1) := by decide +kernel
theorem dX0_pour_76 : decode cX0_pour 76 = .ok (.iastore, 1) := by decide +kernel
theorem dX0_pour_77 : decode cX0_pour 77 = .ok (.aload_n 0, 1) := by decide +kernel
theorem dX0_pour_78 : decode cX0_pour 78 = .ok (.getfield 25, 3) := by decide +kernel
theorem dX0_pour_81 : decode cX0_pour 81 = .ok (.iload_n 1, 1) := by decide +kernel
theorem dX0_pour_82 : decode cX0_pour 82 = .ok (.iload 6, 2) := by decide +kernel
theorem dX0_pour_84 : decode cX0_pour 84 = .ok (.ifCond .eq 8, 3) := by decide +kernel
theorem dX0_pour_87 : decode cX0_pour 87 = .ok (.iload 5, 2) := by decide +kernel
theorem dX0_pour_89 : decode cX0_pour 89 = .ok (.goto 12, 3) := by decide +kernel
theorem dX0_pour_92 : decode cX0_pour 92 = .ok (.aload_n 0, 1) := by decide +kernel
theorem dX0_pour_93 : decode cX0_pour 93 = .ok (.getfield 25, 3) := by decide +kernel
theorem dX0_pour_96 : decode cX0_pour 96 = .ok (.iload_n 1, 1) := by decide +kernel
theorem dX0_pour_97 : decode cX0_pour 97 = .ok (.iaload, 1) := by decide +kernel
theorem dX0_pour_98 : decode cX0_pour 98 = .ok (.iload 5, 2) := by decide +kernel
theorem dX0_pour_100 : decode cX0_pour 100 = .ok (.iand, 1) := by decide +kernel
theorem dX0_pour_101 : decode cX0_pour 101 = .ok (.iastore, 1) := by decide +kernel
theorem dX0_pour_102 : decode cX0_pour 102 = .ok (.return_, 1) := by decide +kernel
theorem dX0_pourEntries_0 : decode cX0_pourEntries 0 = .ok (.iconst 0, 1) := by decide +kernel
theorem dX0_pourEntries_1 : decode cX0_pourEntries 1 = .ok (.istore_n 1, 1) := by decide +kernel
theorem dX0_pourEntries_2 : decode cX0_pourEntries 2 = .ok (.iload_n 1, 1) := by decide +kernel
theorem dX0_pourEntries_3 : decode cX0_pourEntries 3 = .ok (.bipush 12, 2) := by decide +kernel
theorem dX0_pourEntries_5 : decode cX0_pourEntries 5 = .ok (.if_icmp .ge 68, 3) := by decide +kernel
theorem dX0_pourEntries_8 : decode cX0_pourEntries 8 = .ok (.iload_n 1, 1) := by decide +kernel
theorem dX0_pourEntries_9 : decode cX0_pourEntries 9 = .ok (.aload_n 0, 1) := by decide +kernel
theorem dX0_pourEntries_10 : decode cX0_pourEntries 10 = .ok (.getfield 31, 3) := by decide +kernel
theorem dX0_pourEntries_13 : decode cX0_pourEntries 13 = .ok (.getfield 84, 3) := by decide +kernel
theorem dX0_pourEntries_16 : decode cX0_pourEntries 16 = .ok (.if_icmp .ge 57, 3) := by decide +kernel
theorem dX0_pourEntries_19 : decode cX0_pourEntries 19 = .ok (.aload_n 0, 1) := by decide +kernel
theorem dX0_pourEntries_20 : decode cX0_pourEntries 20 = .ok (.getfield 9, 3) := by decide +kernel
theorem dX0_pourEntries_23 : decode cX0_pourEntries 23 = .ok (.iload_n 1, 1) := by decide +kernel
theorem dX0_pourEntries_24 : decode cX0_pourEntries 24 = .ok (.laload, 1) := by decide +kernel
theorem dX0_pourEntries_25 : decode cX0_pourEntries 25 = .ok (.lstore_n 2, 1) := by decide +kernel
theorem dX0_pourEntries_26 : decode cX0_pourEntries 26 = .ok (.lload_n 2, 1) := by decide +kernel
theorem dX0_pourEntries_27 : decode cX0_pourEntries 27 = .ok (.lconst 0, 1) := by decide +kernel
theorem dX0_pourEntries_28 : decode cX0_pourEntries 28 = .ok (.lcmp, 1) := by decide +kernel
theorem dX0_pourEntries_29 : decode cX0_pourEntries 29 = .ok (.ifCond .eq 22, 3) := by decide +kernel
theorem dX0_pourEntries_32 : decode cX0_pourEntries 32 = .ok (.aload_n 0, 1) := by decide +kernel
theorem dX0_pourEntries_33 : decode cX0_pourEntries 33 = .ok (.getfield 31, 3) := by decide +kernel
theorem dX0_pourEntries_36 : decode cX0_pourEntries 36 = .ok (.iload_n 1, 1) := by decide +kernel
theorem dX0_pourEntries_37 : decode cX0_pourEntries 37 = .ok (.invokevirtual 87, 3) := by decide +kernel
theorem dX0_pourEntries_40 : decode cX0_pourEntries 40 = .ok (.ifCond .eq 11, 3) := by decide +kernel
theorem dX0_pourEntries_43 : decode cX0_pourEntries 43 = .ok (.lload_n 2, 1) := by decide +kernel
theorem dX0_pourEntries_44 : decode cX0_pourEntries 44 = .ok (.iconst 1, 1) := by decide +kernel
theorem dX0_pourEntries_45 : decode cX0_pourEntries 45 = .ok (.iload_n 1, 1) := by decide +kernel
theorem dX0_pourEntries_46 : decode cX0_pourEntries 46 = .ok (.ishl, 1) := by decide +kernel
theorem dX0_pourEntries_47 : decode cX0_pourEntries 47 = .ok (.invokestatic 91, 3) := by decide +kernel
theorem dX0_pourEntries_50 : decode cX0_pourEntries 50 = .ok (.lstore_n 2, 1) := by decide +kernel
theorem dX0_pourEntries_51 : decode cX0_pourEntries 51 = .ok (.aload_n 0, 1) := by decide +kernel
theorem dX0_pourEntries_52 : decode cX0_pourEntries 52 = .ok (.aload_n 0, 1) := by decide +kernel
theorem dX0_pourEntries_53 : decode cX0_pourEntries 53 = .ok (.getfield 31, 3) := by decide +kernel
theorem dX0_pourEntries_56 : decode cX0_pourEntries 56 = .ok (.getfield 95, 3) := by decide +kernel
theorem dX0_pourEntries_59 : decode cX0_pourEntries 59 = .ok (.iload_n 1, 1) := by decide +kernel
theorem dX0_pourEntries_60 : decode cX0_pourEntries 60 = .ok (.iaload, 1) := by decide +kernel
theorem dX0_pourEntries_61 : decode cX0_pourEntries 61 = .ok (.lload_n 2, 1) := by decide +kernel
theorem dX0_pourEntries_62 : decode cX0_pourEntries 62 = .ok (.iconst 0, 1) := by decide +kernel
theorem dX0_pourEntries_63 : decode cX0_pourEntries 63 = .ok (.iconst 0, 1) := by decide +kernel
theorem dX0_pourEntries_64 : decode cX0_pourEntries 64 = .ok (.invokevirtual 98, 3) := by decide +kernel
theorem dX0_pourEntries_67 : decode cX0_pourEntries 67 = .ok (.iinc 1 1, 3) := by decide +kernel
theorem dX0_pourEntries_70 : decode cX0_pourEntries 70 = .ok (.goto (-68), 3) := by decide +kernel
theorem dX0_pourEntries_73 : decode cX0_pourEntries 73 = .ok (.iconst 0, 1) := by decide +kernel
theorem dX0_pourEntries_74 : decode cX0_pourEntries 74 = .ok (.istore_n 1, 1) := by decide +kernel
theorem dX0_pourEntries_75 : decode cX0_pourEntries 75 = .ok (.iload_n 1, 1) := by decide +kernel
theorem dX0_pourEntries_76 : decode cX0_pourEntries 76 = .ok (.bipush 16, 2) := by decide +kernel
theorem dX0_pourEntries_78 : decode cX0_pourEntries 78 = .ok (.if_icmp .ge 41, 3) := by decide +kernel
theorem dX0_pourEntries_81 : decode cX0_pourEntries 81 = .ok (.iload_n 1, 1) := by decide +kernel
theorem dX0_pourEntries_82 : decode cX0_pourEntries 82 = .ok (.aload_n 0, 1) := by decide +kernel
theorem dX0_pourEntries_83 : decode cX0_pourEntries 83 = .ok (.getfield 31, 3) := by decide +kernel
theorem dX0_pourEntries_86 : decode cX0_pourEntries 86 = .ok (.getfield 102, 3) := by decide +kernel
theorem dX0_pourEntries_89 : decode cX0_pourEntries 89 = .ok (.if_icmp .ge 30, 3) := by decide +kernel
theorem dX0_pourEntries_92 : decode cX0_pourEntries 92 = .ok (.aload_n 0, 1) := by decide +kernel
theorem dX0_pourEntries_93 : decode cX0_pourEntries 93 = .ok (.aload_n 0, 1) := by decide +kernel
theorem dX0_pourEntries_94 : decode cX0_pourEntries 94 = .ok (.getfield 31, 3) := by decide +kernel
theorem dX0_pourEntries_97 : decode cX0_pourEntries 97 = .ok (.getfield 105, 3) := by decide +kernel
theorem dX0_pourEntries_100 : decode cX0_pourEntries 100 = .ok (.iload_n 1, 1) := by decide +kernel
theorem dX0_pourEntries_101 : decode cX0_pourEntries 101 = .ok (.iaload, 1) := by decide +kernel
theorem dX0_pourEntries_102 : decode cX0_pourEntries 102 = .ok (.aload_n 0, 1) := by decide +kernel
theorem dX0_pourEntries_103 : decode cX0_pourEntries 103 = .ok (.getfield 15, 3) := by decide +kernel
theorem dX0_pourEntries_106 : decode cX0_pourEntries 106 = .ok (.iload_n 1, 1) := by decide +kernel
theorem dX0_pourEntries_107 : decode cX0_pourEntries 107 = .ok (.laload, 1) := by decide +kernel
theorem dX0_pourEntries_108 : decode cX0_pourEntries 108 = .ok (.iconst 0, 1) := by decide +kernel
theorem dX0_pourEntries_109 : decode cX0_pourEntries 109 = .ok (.iconst 0, 1) := by decide +kernel
theorem dX0_pourEntries_110 : decode cX0_pourEntries 110 = .ok (.invokevirtual 98, 3) := by decide +kernel
theorem dX0_pourEntries_113 : decode cX0_pourEntries 113 = .ok (.iinc 1 1, 3) := by decide +kernel
theorem dX0_pourEntries_116 : decode cX0_pourEntries 116 = .ok (.goto (-41), 3) := by decide +kernel
theorem dX0_pourEntries_119 : decode cX0_pourEntries 119 = .ok (.return_, 1) := by decide +kernel
theorem dX0_beginSweep_0 : decode cX0_beginSweep 0 = .ok (.aload_n 0, 1) := by decide +kernel
theorem dX0_beginSweep_1 : decode cX0_beginSweep 1 = .ok (.iconst 0, 1) := by decide +kernel
theorem dX0_beginSweep_2 : decode cX0_beginSweep 2 = .ok (.putfield 72, 3) := by decide +kernel
theorem dX0_beginSweep_5 : decode cX0_beginSweep 5 = .ok (.aload_n 0, 1) := by decide +kernel
theorem dX0_beginSweep_6 : decode cX0_beginSweep 6 = .ok (.iconst 0, 1) := by decide +kernel
theorem dX0_beginSweep_7 : decode cX0_beginSweep 7 = .ok (.putfield 75, 3) := by decide +kernel
theorem dX0_beginSweep_10 : decode cX0_beginSweep 10 = .ok (.aload_n 0, 1) := by decide +kernel
theorem dX0_beginSweep_11 : decode cX0_beginSweep 11 = .ok (.getfield 28, 3) := by decide +kernel
theorem dX0_beginSweep_14 : decode cX0_beginSweep 14 = .ok (.iconst 0, 1) := by decide +kernel
theorem dX0_beginSweep_15 : decode cX0_beginSweep 15 = .ok (.invokestatic 78, 3) := by decide +kernel
theorem dX0_beginSweep_18 : decode cX0_beginSweep 18 = .ok (.aload_n 0, 1) := by decide +kernel
theorem dX0_beginSweep_19 : decode cX0_beginSweep 19 = .ok (.getfield 18, 3) := by decide +kernel
theorem dX0_beginSweep_22 : decode cX0_beginSweep 22 = .ok (.lconst 0, 1) := by decide +kernel
theorem dX0_beginSweep_23 : decode cX0_beginSweep 23 = .ok (.invokestatic 41, 3) := by decide +kernel
theorem dX0_beginSweep_26 : decode cX0_beginSweep 26 = .ok (.aload_n 0, 1) := by decide +kernel
theorem dX0_beginSweep_27 : decode cX0_beginSweep 27 = .ok (.invokevirtual 81, 3) := by decide +kernel
theorem dX0_beginSweep_30 : decode cX0_beginSweep 30 = .ok (.return_, 1) := by decide +kernel
theorem dX0_goOn_0 : decode cX0_goOn 0 = .ok (.aload_n 0, 1) := by decide +kernel
theorem dX0_goOn_1 : decode cX0_goOn 1 = .ok (.aload_n 0, 1) := by decide +kernel
theorem dX0_goOn_2 : decode cX0_goOn 2 = .ok (.getfield 31, 3) := by decide +kernel
theorem dX0_goOn_5 : decode cX0_goOn 5 = .ok (.getfield 148, 3) := by decide +kernel
theorem dX0_goOn_8 : decode cX0_goOn 8 = .ok (.iload_n 1, 1) := by decide +kernel
theorem dX0_goOn_9 : decode cX0_goOn 9 = .ok (.iaload, 1) := by decide +kernel
theorem dX0_goOn_10 : decode cX0_goOn 10 = .ok (.lload_n 2, 1) := by decide +kernel
theorem dX0_goOn_11 : decode cX0_goOn 11 = .ok (.aload_n 0, 1) := by decide +kernel
theorem dX0_goOn_12 : decode cX0_goOn 12 = .ok (.getfield 21, 3) := by decide +kernel
theorem dX0_goOn_15 : decode cX0_goOn 15 = .ok (.iload_n 1, 1) := by decide +kernel
theorem dX0_goOn_16 : decode cX0_goOn 16 = .ok (.iaload, 1) := by decide +kernel
theorem dX0_goOn_17 : decode cX0_goOn 17 = .ok (.aload_n 0, 1) := by decide +kernel
theorem dX0_goOn_18 : decode cX0_goOn 18 = .ok (.getfield 25, 3) := by decide +kernel
theorem dX0_goOn_21 : decode cX0_goOn 21 = .ok (.iload_n 1, 1) := by decide +kernel
theorem dX0_goOn_22 : decode cX0_goOn 22 = .ok (.iaload, 1) := by decide +kernel
theorem dX0_goOn_23 : decode cX0_goOn 23 = .ok (.invokevirtual 98, 3) := by decide +kernel
theorem dX0_goOn_26 : decode cX0_goOn 26 = .ok (.return_, 1) := by decide +kernel
theorem dX0_goThroughMeter_0 : decode cX0_goThroughMeter 0 = .ok (.aload_n 0, 1) := by decide +kernel
theorem dX0_goThroughMeter_1 : decode cX0_goThroughMeter 1 = .ok (.getfield 31, 3) := by decide +kernel
theorem dX0_goThroughMeter_4 : decode cX0_goThroughMeter 4 = .ok (.getfield 115, 3) := by decide +kernel
theorem dX0_goThroughMeter_7 : decode cX0_goThroughMeter 7 = .ok (.iload_n 1, 1) := by decide +kernel
theorem dX0_goThroughMeter_8 : decode cX0_goThroughMeter 8 = .ok (.iaload, 1) := by decide +kernel
theorem dX0_goThroughMeter_9 : decode cX0_goThroughMeter 9 = .ok (.istore 5, 2) := by decide +kernel
theorem dX0_goThroughMeter_11 : decode cX0_goThroughMeter 11 = .ok (.iload 5, 2) := by decide +kernel
theorem dX0_goThroughMeter_13 : decode cX0_goThroughMeter 13 = .ok (.lload_n 2, 1) := by decide +kernel
theorem dX0_goThroughMeter_14 : decode cX0_goThroughMeter 14 = .ok (.iload 4, 2) := by decide +kernel
theorem dX0_goThroughMeter_16 : decode cX0_goThroughMeter 16 = .ok (.invokestatic 151, 3) := by decide +kernel
theorem dX0_goThroughMeter_19 : decode cX0_goThroughMeter 19 = .ok (.aload_n 0, 1) := by decide +kernel
theorem dX0_goThroughMeter_20 : decode cX0_goThroughMeter 20 = .ok (.getfield 31, 3) := by decide +kernel
theorem dX0_goThroughMeter_23 : decode cX0_goThroughMeter 23 = .ok (.getfield 155, 3) := by decide +kernel
theorem dX0_goThroughMeter_26 : decode cX0_goThroughMeter 26 = .ok (.iload_n 1, 1) := by decide +kernel
theorem dX0_goThroughMeter_27 : decode cX0_goThroughMeter 27 = .ok (.iaload, 1) := by decide +kernel
theorem dX0_goThroughMeter_28 : decode cX0_goThroughMeter 28 = .ok (.invokestatic 158, 3) := by decide +kernel
theorem dX0_goThroughMeter_31 : decode cX0_goThroughMeter 31 = .ok (.istore 6, 2) := by decide +kernel
theorem dX0_goThroughMeter_33 : decode cX0_goThroughMeter 33 = .ok (.iload 5, 2) := by decide +kernel
theorem dX0_goThroughMeter_35 : decode cX0_goThroughMeter 35 = .ok (.lload_n 2, 1) := by decide +kernel
theorem dX0_goThroughMeter_36 : decode cX0_goThroughMeter 36 = .ok (.iload 4, 2) := by decide +kernel
theorem dX0_goThroughMeter_38 : decode cX0_goThroughMeter 38 = .ok (.invokestatic 162, 3) := by decide +kernel
theorem dX0_goThroughMeter_41 : decode cX0_goThroughMeter 41 = .ok (.aload_n 0, 1) := by decide +kernel
theorem dX0_goThroughMeter_42 : decode cX0_goThroughMeter 42 = .ok (.getfield 31, 3) := by decide +kernel
theorem dX0_goThroughMeter_45 : decode cX0_goThroughMeter 45 = .ok (.getfield 155, 3) := by decide +kernel
theorem dX0_goThroughMeter_48 : decode cX0_goThroughMeter 48 = .ok (.iload_n 1, 1) := by decide +kernel
theorem dX0_goThroughMeter_49 : decode cX0_goThroughMeter 49 = .ok (.iaload, 1) := by decide +kernel
theorem dX0_goThroughMeter_50 : decode cX0_goThroughMeter 50 = .ok (.invokestatic 158, 3) := by decide +kernel
theorem dX0_goThroughMeter_53 : decode cX0_goThroughMeter 53 = .ok (.istore 7, 2) := by decide +kernel
theorem dX0_goThroughMeter_55 : decode cX0_goThroughMeter 55 = .ok (.aload_n 0, 1) := by decide +kernel
theorem dX0_goThroughMeter_56 : decode cX0_goThroughMeter 56 = .ok (.iload_n 1, 1) := by decide +kernel
theorem dX0_goThroughMeter_57 : decode cX0_goThroughMeter 57 = .ok (.lload_n 2, 1) := by decide +kernel
theorem dX0_goThroughMeter_58 : decode cX0_goThroughMeter 58 = .ok (.iload 4, 2) := by decide +kernel
theorem dX0_goThroughMeter_60 : decode cX0_goThroughMeter 60 = .ok (.iload 6, 2) := by decide +kernel
theorem dX0_goThroughMeter_62 : decode cX0_goThroughMeter 62 = .ok (.iload 7, 2) := by decide +kernel
theorem dX0_goThroughMeter_64 : decode cX0_goThroughMeter 64 = .ok (.invokestatic 165, 3) := by decide +kernel
theorem dX0_goThroughMeter_67 : decode cX0_goThroughMeter 67 = .ok (.invokevirtual 122, 3) := by decide +kernel
theorem dX0_goThroughMeter_70 : decode cX0_goThroughMeter 70 = .ok (.return_, 1) := by decide +kernel
theorem dX0_truePart_0 : decode cX0_truePart 0 = .ok (.aload_n 0, 1) := by decide +kernel
theorem dX0_truePart_1 : decode cX0_truePart 1 = .ok (.getfield 31, 3) := by decide +kernel
theorem dX0_truePart_4 : decode cX0_truePart 4 = .ok (.getfield 195, 3) := by decide +kernel
theorem dX0_truePart_7 : decode cX0_truePart 7 = .ok (.aload_n 0, 1) := by decide +kernel
theorem dX0_truePart_8 : decode cX0_truePart 8 = .ok (.getfield 31, 3) := by decide +kernel
theorem dX0_truePart_11 : decode cX0_truePart 11 = .ok (.getfield 186, 3) := by decide +kernel
theorem dX0_truePart_14 : decode cX0_truePart 14 = .ok (.iload_n 1, 1) := by decide +kernel
theorem dX0_truePart_15 : decode cX0_truePart 15 = .ok (.iaload, 1) := by decide +kernel
theorem dX0_truePart_16 : decode cX0_truePart 16 = .ok (.aload_n 0, 1) := by decide +kernel
theorem dX0_truePart_17 : decode cX0_truePart 17 = .ok (.getfield 31, 3) := by decide +kernel
theorem dX0_truePart_20 : decode cX0_truePart 20 = .ok (.getfield 189, 3) := by decide +kernel
theorem dX0_truePart_23 : decode cX0_truePart 23 = .ok (.iload_n 1, 1) := by decide +kernel
theorem dX0_truePart_24 : decode cX0_truePart 24 = .ok (.iaload, 1) := by decide +kernel
theorem dX0_truePart_25 : decode cX0_truePart 25 = .ok (.lload_n 2, 1) := by decide +kernel
theorem dX0_truePart_26 : decode cX0_truePart 26 = .ok (.invokevirtual 199, 3) := by decide +kernel
theorem dX0_truePart_29 : decode cX0_truePart 29 = .ok (.lreturn, 1) := by decide +kernel
theorem dX0_falsePart_0 : decode cX0_falsePart 0 = .ok (.aload_n 0, 1) := by decide +kernel
theorem dX0_falsePart_1 : decode cX0_falsePart 1 = .ok (.getfield 31, 3) := by decide +kernel
theorem dX0_falsePart_4 : decode cX0_falsePart 4 = .ok (.getfield 195, 3) := by decide +kernel
theorem dX0_falsePart_7 : decode cX0_falsePart 7 = .ok (.aload_n 0, 1) := by decide +kernel
theorem dX0_falsePart_8 : decode cX0_falsePart 8 = .ok (.getfield 31, 3) := by decide +kernel
theorem dX0_falsePart_11 : decode cX0_falsePart 11 = .ok (.getfield 186, 3) := by decide +kernel
theorem dX0_falsePart_14 : decode cX0_falsePart 14 = .ok (.iload_n 1, 1) := by decide +kernel
theorem dX0_falsePart_15 : decode cX0_falsePart 15 = .ok (.iaload, 1) := by decide +kernel
theorem dX0_falsePart_16 : decode cX0_falsePart 16 = .ok (.aload_n 0, 1) := by decide +kernel
theorem dX0_falsePart_17 : decode cX0_falsePart 17 = .ok (.getfield 31, 3) := by decide +kernel
theorem dX0_falsePart_20 : decode cX0_falsePart 20 = .ok (.getfield 189, 3) := by decide +kernel
theorem dX0_falsePart_23 : decode cX0_falsePart 23 = .ok (.iload_n 1, 1) := by decide +kernel
theorem dX0_falsePart_24 : decode cX0_falsePart 24 = .ok (.iaload, 1) := by decide +kernel
theorem dX0_falsePart_25 : decode cX0_falsePart 25 = .ok (.lload_n 2, 1) := by decide +kernel
theorem dX0_falsePart_26 : decode cX0_falsePart 26 = .ok (.invokevirtual 204, 3) := by decide +kernel
theorem dX0_falsePart_29 : decode cX0_falsePart 29 = .ok (.lreturn, 1) := by decide +kernel
theorem dX0_goThroughTest_0 : decode cX0_goThroughTest 0 = .ok (.aload_n 0, 1) := by decide +kernel
theorem dX0_goThroughTest_1 : decode cX0_goThroughTest 1 = .ok (.iload_n 1, 1) := by decide +kernel
theorem dX0_goThroughTest_2 : decode cX0_goThroughTest 2 = .ok (.lload_n 2, 1) := by decide +kernel
theorem dX0_goThroughTest_3 : decode cX0_goThroughTest 3 = .ok (.invokevirtual 169, 3) := by decide +kernel
theorem dX0_goThroughTest_6 : decode cX0_goThroughTest 6 = .ok (.lstore 5, 2) := by decide +kernel
theorem dX0_goThroughTest_8 : decode cX0_goThroughTest 8 = .ok (.aload_n 0, 1) := by decide +kernel
theorem dX0_goThroughTest_9 : decode cX0_goThroughTest 9 = .ok (.iload_n 1, 1) := by decide +kernel
theorem dX0_goThroughTest_10 : decode cX0_goThroughTest 10 = .ok (.lload_n 2, 1) := by decide +kernel
theorem dX0_goThroughTest_11 : decode cX0_goThroughTest 11 = .ok (.invokevirtual 173, 3) := by decide +kernel
theorem dX0_goThroughTest_14 : decode cX0_goThroughTest 14 = .ok (.lstore 7, 2) := by decide +kernel
theorem dX0_goThroughTest_16 : decode cX0_goThroughTest 16 = .ok (.lload 5, 2) := by decide +kernel
theorem dX0_goThroughTest_18 : decode cX0_goThroughTest 18 = .ok (.lconst 0, 1) := by decide +kernel
theorem dX0_goThroughTest_19 : decode cX0_goThroughTest 19 = .ok (.lcmp, 1) := by decide +kernel
theorem dX0_goThroughTest_20 : decode cX0_goThroughTest 20 = .ok (.ifCond .eq 7, 3) := by decide +kernel
theorem dX0_goThroughTest_23 : decode cX0_goThroughTest 23 = .ok (.iconst 1, 1) := by decide +kernel
theorem dX0_goThroughTest_24 : decode cX0_goThroughTest 24 = .ok (.goto 4, 3) := by decide +kernel
theorem dX0_goThroughTest_27 : decode cX0_goThroughTest 27 = .ok (.iconst 0, 1) := by decide +kernel
theorem dX0_goThroughTest_28 : decode cX0_goThroughTest 28 = .ok (.lload 7, 2) := by decide +kernel
theorem dX0_goThroughTest_30 : decode cX0_goThroughTest 30 = .ok (.lconst 0, 1) := by decide +kernel
theorem dX0_goThroughTest_31 : decode cX0_goThroughTest 31 = .ok (.lcmp, 1) := by decide +kernel
theorem dX0_goThroughTest_32 : decode cX0_goThroughTest 32 = .ok (.ifCond .eq 7, 3) := by decide +kernel
theorem dX0_goThroughTest_35 : decode cX0_goThroughTest 35 = .ok (.iconst 2, 1) := by decide +kernel
theorem dX0_goThroughTest_36 : decode cX0_goThroughTest 36 = .ok (.goto 4, 3) := by decide +kernel
theorem dX0_goThroughTest_39 : decode cX0_goThroughTest 39 = .ok (.iconst 0, 1) := by decide +kernel
theorem dX0_goThroughTest_40 : decode cX0_goThroughTest 40 = .ok (.iadd, 1) := by decide +kernel
theorem dX0_goThroughTest_41 : decode cX0_goThroughTest 41 = .ok (.istore 9, 2) := by decide +kernel
theorem dX0_goThroughTest_43 : decode cX0_goThroughTest 43 = .ok (.aload_n 0, 1) := by decide +kernel
theorem dX0_goThroughTest_44 : decode cX0_goThroughTest 44 = .ok (.getfield 28, 3) := by decide +kernel
theorem dX0_goThroughTest_47 : decode cX0_goThroughTest 47 = .ok (.iload 4, 2) := by decide +kernel
theorem dX0_goThroughTest_49 : decode cX0_goThroughTest 49 = .ok (.iload 9, 2) := by decide +kernel
theorem dX0_goThroughTest_51 : decode cX0_goThroughTest 51 = .ok (.invokestatic 176, 3) := by decide +kernel
theorem dX0_goThroughTest_54 : decode cX0_goThroughTest 54 = .ok (.aload_n 0, 1) := by decide +kernel
theorem dX0_goThroughTest_55 : decode cX0_goThroughTest 55 = .ok (.aload_n 0, 1) := by decide +kernel
theorem dX0_goThroughTest_56 : decode cX0_goThroughTest 56 = .ok (.getfield 31, 3) := by decide +kernel
theorem dX0_goThroughTest_59 : decode cX0_goThroughTest 59 = .ok (.getfield 180, 3) := by decide +kernel
theorem dX0_goThroughTest_62 : decode cX0_goThroughTest 62 = .ok (.iload_n 1, 1) := by decide +kernel
theorem dX0_goThroughTest_63 : decode cX0_goThroughTest 63 = .ok (.iaload, 1) := by decide +kernel
theorem dX0_goThroughTest_64 : decode cX0_goThroughTest 64 = .ok (.lload 5, 2) := by decide +kernel
theorem dX0_goThroughTest_66 : decode cX0_goThroughTest 66 = .ok (.aload_n 0, 1) := by decide +kernel
theorem dX0_goThroughTest_67 : decode cX0_goThroughTest 67 = .ok (.getfield 21, 3) := by decide +kernel
theorem dX0_goThroughTest_70 : decode cX0_goThroughTest 70 = .ok (.iload_n 1, 1) := by decide +kernel
theorem dX0_goThroughTest_71 : decode cX0_goThroughTest 71 = .ok (.iaload, 1) := by decide +kernel
theorem dX0_goThroughTest_72 : decode cX0_goThroughTest 72 = .ok (.aload_n 0, 1) := by decide +kernel
theorem dX0_goThroughTest_73 : decode cX0_goThroughTest 73 = .ok (.getfield 25, 3) := by decide +kernel
theorem dX0_goThroughTest_76 : decode cX0_goThroughTest 76 = .ok (.iload_n 1, 1) := by decide +kernel
theorem dX0_goThroughTest_77 : decode cX0_goThroughTest 77 = .ok (.iaload, 1) := by decide +kernel
theorem dX0_goThroughTest_78 : decode cX0_goThroughTest 78 = .ok (.invokevirtual 98, 3) := by decide +kernel
theorem dX0_goThroughTest_81 : decode cX0_goThroughTest 81 = .ok (.aload_n 0, 1) := by decide +kernel
theorem dX0_goThroughTest_82 : decode cX0_goThroughTest 82 = .ok (.aload_n 0, 1) := by decide +kernel
theorem dX0_goThroughTest_83 : decode cX0_goThroughTest 83 = .ok (.getfield 31, 3) := by decide +kernel
theorem dX0_goThroughTest_86 : decode cX0_goThroughTest 86 = .ok (.getfield 183, 3) := by decide +kernel
theorem dX0_goThroughTest_89 : decode cX0_goThroughTest 89 = .ok (.iload_n 1, 1) := by decide +kernel
theorem dX0_goThroughTest_90 : decode cX0_goThroughTest 90 = .ok (.iaload, 1) := by decide +kernel
theorem dX0_goThroughTest_91 : decode cX0_goThroughTest 91 = .ok (.lload 7, 2) := by decide +kernel
theorem dX0_goThroughTest_93 : decode cX0_goThroughTest 93 = .ok (.aload_n 0, 1) := by decide +kernel
theorem dX0_goThroughTest_94 : decode cX0_goThroughTest 94 = .ok (.getfield 21, 3) := by decide +kernel
theorem dX0_goThroughTest_97 : decode cX0_goThroughTest 97 = .ok (.iload_n 1, 1) := by decide +kernel
theorem dX0_goThroughTest_98 : decode cX0_goThroughTest 98 = .ok (.iaload, 1) := by decide +kernel
theorem dX0_goThroughTest_99 : decode cX0_goThroughTest 99 = .ok (.aload_n 0, 1) := by decide +kernel
theorem dX0_goThroughTest_100 : decode cX0_goThroughTest 100 = .ok (.getfield 25, 3) := by decide +kernel
theorem dX0_goThroughTest_103 : decode cX0_goThroughTest 103 = .ok (.iload_n 1, 1) := by decide +kernel
theorem dX0_goThroughTest_104 : decode cX0_goThroughTest 104 = .ok (.iaload, 1) := by decide +kernel
theorem dX0_goThroughTest_105 : decode cX0_goThroughTest 105 = .ok (.invokevirtual 98, 3) := by decide +kernel
theorem dX0_goThroughTest_108 : decode cX0_goThroughTest 108 = .ok (.return_, 1) := by decide +kernel
theorem dX0_goThroughChoice_0 : decode cX0_goThroughChoice 0 = .ok (.aload_n 0, 1) := by decide +kernel
theorem dX0_goThroughChoice_1 : decode cX0_goThroughChoice 1 = .ok (.iload_n 1, 1) := by decide +kernel
theorem dX0_goThroughChoice_2 : decode cX0_goThroughChoice 2 = .ok (.lload_n 2, 1) := by decide +kernel
theorem dX0_goThroughChoice_3 : decode cX0_goThroughChoice 3 = .ok (.invokevirtual 169, 3) := by decide +kernel
theorem dX0_goThroughChoice_6 : decode cX0_goThroughChoice 6 = .ok (.lconst 0, 1) := by decide +kernel
theorem dX0_goThroughChoice_7 : decode cX0_goThroughChoice 7 = .ok (.lcmp, 1) := by decide +kernel
theorem dX0_goThroughChoice_8 : decode cX0_goThroughChoice 8 = .ok (.ifCond .eq 85, 3) := by decide +kernel
theorem dX0_goThroughChoice_11 : decode cX0_goThroughChoice 11 = .ok (.aload_n 0, 1) := by decide +kernel
theorem dX0_goThroughChoice_12 : decode cX0_goThroughChoice 12 = .ok (.getfield 31, 3) := by decide +kernel
theorem dX0_goThroughChoice_15 : decode cX0_goThroughChoice 15 = .ok (.getfield 186, 3) := by decide +kernel
theorem dX0_goThroughChoice_18 : decode cX0_goThroughChoice 18 = .ok (.iload_n 1, 1) := by decide +kernel
theorem dX0_goThroughChoice_19 : decode cX0_goThroughChoice 19 = .ok (.iaload, 1) := by decide +kernel
theorem dX0_goThroughChoice_20 : decode cX0_goThroughChoice 20 = .ok (.aload_n 0, 1) := by decide +kernel
theorem dX0_goThroughChoice_21 : decode cX0_goThroughChoice 21 = .ok (.getfield 31, 3) := by decide +kernel
theorem dX0_goThroughChoice_24 : decode cX0_goThroughChoice 24 = .ok (.getfield 189, 3) := by decide +kernel
theorem dX0_goThroughChoice_27 : decode cX0_goThroughChoice 27 = .ok (.iload_n 1, 1) := by decide +kernel
theorem dX0_goThroughChoice_28 : decode cX0_goThroughChoice 28 = .ok (.iaload, 1) := by decide +kernel
theorem dX0_goThroughChoice_29 : decode cX0_goThroughChoice 29 = .ok (.if_icmp .eq 14, 3) := by decide +kernel
theorem dX0_goThroughChoice_32 : decode cX0_goThroughChoice 32 = .ok (.aload_n 0, 1) := by decide +kernel
theorem dX0_goThroughChoice_33 : decode cX0_goThroughChoice 33 = .ok (.iload_n 1, 1) := by decide +kernel
theorem dX0_goThroughChoice_34 : decode cX0_goThroughChoice 34 = .ok (.lload_n 2, 1) := by decide +kernel
theorem dX0_goThroughChoice_35 : decode cX0_goThroughChoice 35 = .ok (.invokevirtual 173, 3) := by decide +kernel
theorem dX0_goThroughChoice_38 : decode cX0_goThroughChoice 38 = .ok (.lconst 0, 1) := by decide +kernel
theorem dX0_goThroughChoice_39 : decode cX0_goThroughChoice 39 = .ok (.lcmp, 1) := by decide +kernel
theorem dX0_goThroughChoice_40 : decode cX0_goThroughChoice 40 = .ok (.ifCond .ne 7, 3) := by decide +kernel
theorem dX0_goThroughChoice_43 : decode cX0_goThroughChoice 43 = .ok (.iconst 1, 1) := by decide +kernel
theorem dX0_goThroughChoice_44 : decode cX0_goThroughChoice 44 = .ok (.goto 4, 3) := by decide +kernel
theorem dX0_goThroughChoice_47 : decode cX0_goThroughChoice 47 = .ok (.iconst 0, 1) := by decide +kernel
theorem dX0_goThroughChoice_48 : decode cX0_goThroughChoice 48 = .ok (.istore 5, 2) := by decide +kernel
theorem dX0_goThroughChoice_50 : decode cX0_goThroughChoice 50 = .ok (.aload_n 0, 1) := by decide +kernel
theorem dX0_goThroughChoice_51 : decode cX0_goThroughChoice 51 = .ok (.getfield 21, 3) := by decide +kernel
theorem dX0_goThroughChoice_54 : decode cX0_goThroughChoice 54 = .ok (.iload_n 1, 1) := by decide +kernel
theorem dX0_goThroughChoice_55 : decode cX0_goThroughChoice 55 = .ok (.dup2, 1) := by decide +kernel
theorem dX0_goThroughChoice_56 : decode cX0_goThroughChoice 56 = .ok (.iaload, 1) := by decide +kernel
theorem dX0_goThroughChoice_57 : decode cX0_goThroughChoice 57 = .ok (.iconst 1, 1) := by decide +kernel
theorem dX0_goThroughChoice_58 : decode cX0_goThroughChoice 58 = .ok (.iload 4, 2) := by decide +kernel
theorem dX0_goThroughChoice_60 : decode cX0_goThroughChoice 60 = .ok (.ishl, 1) := by decide +kernel
theorem dX0_goThroughChoice_61 : decode cX0_goThroughChoice 61 = .ok (.ior, 1) := by decide +kernel
theorem dX0_goThroughChoice_62 : decode cX0_goThroughChoice 62 = .ok (.iastore, 1) := by decide +kernel
theorem dX0_goThroughChoice_63 : decode cX0_goThroughChoice 63 = .ok (.iload 5, 2) := by decide +kernel
theorem dX0_goThroughChoice_65 : decode cX0_goThroughChoice 65 = .ok (.ifCond .eq 28, 3) := by decide +kernel
theorem dX0_goThroughChoice_68 : decode cX0_goThroughChoice 68 = .ok (.aload_n 0, 1) := by decide +kernel
theorem dX0_goThroughChoice_69 : decode cX0_goThroughChoice 69 = .ok (.getfield 31, 3) := by decide +kernel
theorem dX0_goThroughChoice_72 : decode cX0_goThroughChoice 72 = .ok (.iload 4, 2) := by decide +kernel
theorem dX0_goThroughChoice_74 : decode cX0_goThroughChoice 74 = .ok (.invokevirtual 192, 3) := by decide +kernel
theorem dX0_goThroughChoice_77 : decode cX0_goThroughChoice 77 = .ok (.ifCond .ne 16, 3) := by decide +kernel
theorem dX0_goThroughChoice_80 : decode cX0_goThroughChoice 80 = .ok (.aload_n 0, 1) := by decide +kernel
theorem dX0_goThroughChoice_81 : decode cX0_goThroughChoice 81 = .ok (.getfield 25, 3) := by decide +kernel
theorem dX0_goThroughChoice_84 : decode cX0_goThroughChoice 84 = .ok (.iload_n 1, 1) := by decide +kernel
theorem dX0_goThroughChoice_85 : decode cX0_goThroughChoice 85 = .ok (.dup2, 1) := by decide +kernel
theorem dX0_goThroughChoice_86 : decode cX0_goThroughChoice 86 = .ok (.iaload, 1) := by decide +kernel
theorem dX0_goThroughChoice_87 : decode cX0_goThroughChoice 87 = .ok (.iconst 1, 1) := by decide +kernel
theorem dX0_goThroughChoice_88 : decode cX0_goThroughChoice 88 = .ok (.iload 4, 2) := by decide +kernel
theorem dX0_goThroughChoice_90 : decode cX0_goThroughChoice 90 = .ok (.ishl, 1) := by decide +kernel
theorem dX0_goThroughChoice_91 : decode cX0_goThroughChoice 91 = .ok (.ior, 1) := by decide +kernel
theorem dX0_goThroughChoice_92 : decode cX0_goThroughChoice 92 = .ok (.iastore, 1) := by decide +kernel
theorem dX0_goThroughChoice_93 : decode cX0_goThroughChoice 93 = .ok (.aload_n 0, 1) := by decide +kernel
theorem dX0_goThroughChoice_94 : decode cX0_goThroughChoice 94 = .ok (.iload_n 1, 1) := by decide +kernel
theorem dX0_goThroughChoice_95 : decode cX0_goThroughChoice 95 = .ok (.lload_n 2, 1) := by decide +kernel
theorem dX0_goThroughChoice_96 : decode cX0_goThroughChoice 96 = .ok (.invokevirtual 122, 3) := by decide +kernel
theorem dX0_goThroughChoice_99 : decode cX0_goThroughChoice 99 = .ok (.return_, 1) := by decide +kernel
theorem dX0_joinNode_0 : decode cX0_joinNode 0 = .ok (.iload_n 1, 1) := by decide +kernel
theorem dX0_joinNode_1 : decode cX0_joinNode 1 = .ok (.ifCond .lt 9, 3) := by decide +kernel
theorem dX0_joinNode_4 : decode cX0_joinNode 4 = .ok (.iload_n 1, 1) := by decide +kernel
theorem dX0_joinNode_5 : decode cX0_joinNode 5 = .ok (.bipush 12, 2) := by decide +kernel
theorem dX0_joinNode_7 : decode cX0_joinNode 7 = .ok (.if_icmp .lt 4, 3) := by decide +kernel
theorem dX0_joinNode_10 : decode cX0_joinNode 10 = .ok (.return_, 1) := by decide +kernel
theorem dX0_joinNode_11 : decode cX0_joinNode 11 = .ok (.aload_n 0, 1) := by decide +kernel
theorem dX0_joinNode_12 : decode cX0_joinNode 12 = .ok (.getfield 9, 3) := by decide +kernel
theorem dX0_joinNode_15 : decode cX0_joinNode 15 = .ok (.iload_n 1, 1) := by decide +kernel
theorem dX0_joinNode_16 : decode cX0_joinNode 16 = .ok (.laload, 1) := by decide +kernel
theorem dX0_joinNode_17 : decode cX0_joinNode 17 = .ok (.lload_n 2, 1) := by decide +kernel
theorem dX0_joinNode_18 : decode cX0_joinNode 18 = .ok (.invokestatic 111, 3) := by decide +kernel
theorem dX0_joinNode_21 : decode cX0_joinNode 21 = .ok (.lstore 4, 2) := by decide +kernel
theorem dX0_joinNode_23 : decode cX0_joinNode 23 = .ok (.aload_n 0, 1) := by decide +kernel
theorem dX0_joinNode_24 : decode cX0_joinNode 24 = .ok (.aload_n 0, 1) := by decide +kernel
theorem dX0_joinNode_25 : decode cX0_joinNode 25 = .ok (.getfield 53, 3) := by decide +kernel
theorem dX0_joinNode_28 : decode cX0_joinNode 28 = .ok (.ifCond .ne 15, 3) := by decide +kernel
theorem dX0_joinNode_31 : decode cX0_joinNode 31 = .ok (.lload 4, 2) := by decide +kernel
theorem dX0_joinNode_33 : decode cX0_joinNode 33 = .ok (.aload_n 0, 1) := by decide +kernel
theorem dX0_joinNode_34 : decode cX0_joinNode 34 = .ok (.getfield 9, 3) := by decide +kernel
theorem dX0_joinNode_37 : decode cX0_joinNode 37 = .ok (.iload_n 1, 1) := by decide +kernel
theorem dX0_joinNode_38 : decode cX0_joinNode 38 = .ok (.laload, 1) := by decide +kernel
theorem dX0_joinNode_39 : decode cX0_joinNode 39 = .ok (.lcmp, 1) := by decide +kernel
theorem dX0_joinNode_40 : decode cX0_joinNode 40 = .ok (.ifCond .eq 7, 3) := by decide +kernel
theorem dX0_joinNode_43 : decode cX0_joinNode 43 = .ok (.iconst 1, 1) := by decide +kernel
theorem dX0_joinNode_44 : decode cX0_joinNode 44 = .ok (.goto 4, 3) := by decide +kernel
theorem dX0_joinNode_47 : decode cX0_joinNode 47 = .ok (.iconst 0, 1) := by decide +kernel
theorem dX0_joinNode_48 : decode cX0_joinNode 48 = .ok (.putfield 53, 3) := by decide +kernel
theorem dX0_joinNode_51 : decode cX0_joinNode 51 = .ok (.aload_n 0, 1) := by decide +kernel
theorem dX0_joinNode_52 : decode cX0_joinNode 52 = .ok (.getfield 9, 3) := by decide +kernel
theorem dX0_joinNode_55 : decode cX0_joinNode 55 = .ok (.iload_n 1, 1) := by decide +kernel
theorem dX0_joinNode_56 : decode cX0_joinNode 56 = .ok (.lload 4, 2) := by decide +kernel
theorem dX0_joinNode_58 : decode cX0_joinNode 58 = .ok (.lastore, 1) := by decide +kernel
theorem dX0_joinNode_59 : decode cX0_joinNode 59 = .ok (.return_, 1) := by decide +kernel
theorem dX0_goToHubs_0 : decode cX0_goToHubs 0 = .ok (.lload_n 1, 1) := by decide +kernel
theorem dX0_goToHubs_1 : decode cX0_goToHubs 1 = .ok (.invokestatic 206, 3) := by decide +kernel
theorem dX0_goToHubs_4 : decode cX0_goToHubs 4 = .ok (.istore 4, 2) := by decide +kernel
theorem dX0_goToHubs_6 : decode cX0_goToHubs 6 = .ok (.iconst 0, 1) := by decide +kernel
theorem dX0_goToHubs_7 : decode cX0_goToHubs 7 = .ok (.istore 5, 2) := by decide +kernel
theorem dX0_goToHubs_9 : decode cX0_goToHubs 9 = .ok (.iload 5, 2) := by decide +kernel
theorem dX0_goToHubs_11 : decode cX0_goToHubs 11 = .ok (.bipush 12, 2) := by decide +kernel
theorem dX0_goToHubs_13 : decode cX0_goToHubs 13 = .ok (.if_icmp .ge 27, 3) := by decide +kernel
theorem dX0_goToHubs_16 : decode cX0_goToHubs 16 = .ok (.iload 4, 2) := by decide +kernel
theorem dX0_goToHubs_18 : decode cX0_goToHubs 18 = .ok (.iload 5, 2) := by decide +kernel
theorem dX0_goToHubs_20 : decode cX0_goToHubs 20 = .ok (.ishr, 1) := by decide +kernel
theorem dX0_goToHubs_21 : decode cX0_goToHubs 21 = .ok (.iconst 1, 1) := by decide +kernel
theorem dX0_goToHubs_22 : decode cX0_goToHubs 22 = .ok (.iand, 1) := by decide +kernel
theorem dX0_goToHubs_23 : decode cX0_goToHubs 23 = .ok (.iconst 1, 1) := by decide +kernel
theorem dX0_goToHubs_24 : decode cX0_goToHubs 24 = .ok (.if_icmp .ne 10, 3) := by decide +kernel
theorem dX0_goToHubs_27 : decode cX0_goToHubs 27 = .ok (.aload_n 0, 1) := by decide +kernel
theorem dX0_goToHubs_28 : decode cX0_goToHubs 28 = .ok (.iload 5, 2) := by decide +kernel
theorem dX0_goToHubs_30 : decode cX0_goToHubs 30 = .ok (.lload_n 1, 1) := by decide +kernel
theorem dX0_goToHubs_31 : decode cX0_goToHubs 31 = .ok (.invokevirtual 135, 3) := by decide +kernel
theorem dX0_goToHubs_34 : decode cX0_goToHubs 34 = .ok (.iinc 5 1, 3) := by decide +kernel
theorem dX0_goToHubs_37 : decode cX0_goToHubs 37 = .ok (.goto (-28), 3) := by decide +kernel
theorem dX0_goToHubs_40 : decode cX0_goToHubs 40 = .ok (.iload 4, 2) := by decide +kernel
theorem dX0_goToHubs_42 : decode cX0_goToHubs 42 = .ok (.sipush 4096, 3) := by decide +kernel
theorem dX0_goToHubs_45 : decode cX0_goToHubs 45 = .ok (.iand, 1) := by decide +kernel
theorem dX0_goToHubs_46 : decode cX0_goToHubs 46 = .ok (.ifCond .eq 15, 3) := by decide +kernel
theorem dX0_goToHubs_49 : decode cX0_goToHubs 49 = .ok (.aload_n 0, 1) := by decide +kernel
theorem dX0_goToHubs_50 : decode cX0_goToHubs 50 = .ok (.dup, 1) := by decide +kernel
theorem dX0_goToHubs_51 : decode cX0_goToHubs 51 = .ok (.getfield 75, 3) := by decide +kernel
theorem dX0_goToHubs_54 : decode cX0_goToHubs 54 = .ok (.iconst 1, 1) := by decide +kernel
theorem dX0_goToHubs_55 : decode cX0_goToHubs 55 = .ok (.iload_n 3, 1) := by decide +kernel
theorem dX0_goToHubs_56 : decode cX0_goToHubs 56 = .ok (.ishl, 1) := by decide +kernel
theorem dX0_goToHubs_57 : decode cX0_goToHubs 57 = .ok (.ior, 1) := by decide +kernel
theorem dX0_goToHubs_58 : decode cX0_goToHubs 58 = .ok (.putfield 75, 3) := by decide +kernel
theorem dX0_goToHubs_61 : decode cX0_goToHubs 61 = .ok (.return_, 1) := by decide +kernel
theorem dX0_joinChoices_0 : decode cX0_joinChoices 0 = .ok (.iconst 0, 1) := by decide +kernel
theorem dX0_joinChoices_1 : decode cX0_joinChoices 1 = .ok (.istore 4, 2) := by decide +kernel
theorem dX0_joinChoices_3 : decode cX0_joinChoices 3 = .ok (.iload 4, 2) := by decide +kernel
theorem dX0_joinChoices_5 : decode cX0_joinChoices 5 = .ok (.bipush 16, 2) := by decide +kernel
theorem dX0_joinChoices_7 : decode cX0_joinChoices 7 = .ok (.if_icmp .ge 70, 3) := by decide +kernel
theorem dX0_joinChoices_10 : decode cX0_joinChoices 10 = .ok (.iload_n 1, 1) := by decide +kernel
theorem dX0_joinChoices_11 : decode cX0_joinChoices 11 = .ok (.iload 4, 2) := by decide +kernel
theorem dX0_joinChoices_13 : decode cX0_joinChoices 13 = .ok (.ishr, 1) := by decide +kernel
theorem dX0_joinChoices_14 : decode cX0_joinChoices 14 = .ok (.iconst 1, 1) := by decide +kernel
theorem dX0_joinChoices_15 : decode cX0_joinChoices 15 = .ok (.iand, 1) := by decide +kernel
theorem dX0_joinChoices_16 : decode cX0_joinChoices 16 = .ok (.iconst 1, 1) := by decide +kernel
theorem dX0_joinChoices_17 : decode cX0_joinChoices 17 = .ok (.if_icmp .ne 54, 3) := by decide +kernel
theorem dX0_joinChoices_20 : decode cX0_joinChoices 20 = .ok (.aload_n 0, 1) := by decide +kernel
theorem dX0_joinChoices_21 : decode cX0_joinChoices 21 = .ok (.getfield 15, 3) := by decide +kernel
theorem dX0_joinChoices_24 : decode cX0_joinChoices 24 = .ok (.iload 4, 2) := by decide +kernel
theorem dX0_joinChoices_26 : decode cX0_joinChoices 26 = .ok (.laload, 1) := by decide +kernel
theorem dX0_joinChoices_27 : decode cX0_joinChoices 27 = .ok (.lload_n 2, 1) := by decide +kernel
theorem dX0_joinChoices_28 : decode cX0_joinChoices 28 = .ok (.invokestatic 111, 3) := by decide +kernel
theorem dX0_joinChoices_31 : decode cX0_joinChoices 31 = .ok (.lstore 5, 2) := by decide +kernel
theorem dX0_joinChoices_33 : decode cX0_joinChoices 33 = .ok (.aload_n 0, 1) := by decide +kernel
theorem dX0_joinChoices_34 : decode cX0_joinChoices 34 = .ok (.aload_n 0, 1) := by decide +kernel
theorem dX0_joinChoices_35 : decode cX0_joinChoices 35 = .ok (.getfield 53, 3) := by decide +kernel
theorem dX0_joinChoices_38 : decode cX0_joinChoices 38 = .ok (.ifCond .ne 16, 3) := by decide +kernel
theorem dX0_joinChoices_41 : decode cX0_joinChoices 41 = .ok (.lload 5, 2) := by decide +kernel
theorem dX0_joinChoices_43 : decode cX0_joinChoices 43 = .ok (.aload_n 0, 1) := by decide +kernel
theorem dX0_joinChoices_44 : decode cX0_joinChoices 44 = .ok (.getfield 15, 3) := by decide +kernel
theorem dX0_joinChoices_47 : decode cX0_joinChoices 47 = .ok (.iload 4, 2) := by decide +kernel
theorem dX0_joinChoices_49 : decode cX0_joinChoices 49 = .ok (.laload, 1) := by decide +kernel
theorem dX0_joinChoices_50 : decode cX0_joinChoices 50 = .ok (.lcmp, 1) := by decide +kernel
theorem dX0_joinChoices_51 : decode cX0_joinChoices 51 = .ok (.ifCond .eq 7, 3) := by decide +kernel
theorem dX0_joinChoices_54 : decode cX0_joinChoices 54 = .ok (.iconst 1, 1) := by decide +kernel
theorem dX0_joinChoices_55 : decode cX0_joinChoices 55 = .ok (.goto 4, 3) := by decide +kernel
theorem dX0_joinChoices_58 : decode cX0_joinChoices 58 = .ok (.iconst 0, 1) := by decide +kernel
theorem dX0_joinChoices_59 : decode cX0_joinChoices 59 = .ok (.putfield 53, 3) := by decide +kernel
theorem dX0_joinChoices_62 : decode cX0_joinChoices 62 = .ok (.aload_n 0, 1) := by decide +kernel
theorem dX0_joinChoices_63 : decode cX0_joinChoices 63 = .ok (.getfield 15, 3) := by decide +kernel
theorem dX0_joinChoices_66 : decode cX0_joinChoices 66 = .ok (.iload 4, 2) := by decide +kernel
theorem dX0_joinChoices_68 : decode cX0_joinChoices 68 = .ok (.lload 5, 2) := by decide +kernel
theorem dX0_joinChoices_70 : decode cX0_joinChoices 70 = .ok (.lastore, 1) := by decide +kernel
theorem dX0_joinChoices_71 : decode cX0_joinChoices 71 = .ok (.iinc 4 1, 3) := by decide +kernel
theorem dX0_joinChoices_74 : decode cX0_joinChoices 74 = .ok (.goto (-71), 3) := by decide +kernel
theorem dX0_joinChoices_77 : decode cX0_joinChoices 77 = .ok (.return_, 1) := by decide +kernel
theorem dX0_endNode_0 : decode cX0_endNode 0 = .ok (.aload_n 0, 1) := by decide +kernel
theorem dX0_endNode_1 : decode cX0_endNode 1 = .ok (.aload_n 0, 1) := by decide +kernel
theorem dX0_endNode_2 : decode cX0_endNode 2 = .ok (.getfield 21, 3) := by decide +kernel
theorem dX0_endNode_5 : decode cX0_endNode 5 = .ok (.iload_n 1, 1) := by decide +kernel
theorem dX0_endNode_6 : decode cX0_endNode 6 = .ok (.iaload, 1) := by decide +kernel
theorem dX0_endNode_7 : decode cX0_endNode 7 = .ok (.lload_n 2, 1) := by decide +kernel
theorem dX0_endNode_8 : decode cX0_endNode 8 = .ok (.invokevirtual 210, 3) := by decide +kernel
theorem dX0_endNode_11 : decode cX0_endNode 11 = .ok (.aload_n 0, 1) := by decide +kernel
theorem dX0_endNode_12 : decode cX0_endNode 12 = .ok (.getfield 25, 3) := by decide +kernel
theorem dX0_endNode_15 : decode cX0_endNode 15 = .ok (.iload_n 1, 1) := by decide +kernel
theorem dX0_endNode_16 : decode cX0_endNode 16 = .ok (.iaload, 1) := by decide +kernel
theorem dX0_endNode_17 : decode cX0_endNode 17 = .ok (.ifCond .ne 16, 3) := by decide +kernel
theorem dX0_endNode_20 : decode cX0_endNode 20 = .ok (.aload_n 0, 1) := by decide +kernel
theorem dX0_endNode_21 : decode cX0_endNode 21 = .ok (.dup, 1) := by decide +kernel
theorem dX0_endNode_22 : decode cX0_endNode 22 = .ok (.getfield 75, 3) := by decide +kernel
theorem dX0_endNode_25 : decode cX0_endNode 25 = .ok (.iconst 1, 1) := by decide +kernel
theorem dX0_endNode_26 : decode cX0_endNode 26 = .ok (.iload 4, 2) := by decide +kernel
theorem dX0_endNode_28 : decode cX0_endNode 28 = .ok (.ishl, 1) := by decide +kernel
theorem dX0_endNode_29 : decode cX0_endNode 29 = .ok (.ior, 1) := by decide +kernel
theorem dX0_endNode_30 : decode cX0_endNode 30 = .ok (.putfield 75, 3) := by decide +kernel
theorem dX0_endNode_33 : decode cX0_endNode 33 = .ok (.return_, 1) := by decide +kernel
theorem dX0_endChoice_0 : decode cX0_endChoice 0 = .ok (.aload_n 0, 1) := by decide +kernel
theorem dX0_endChoice_1 : decode cX0_endChoice 1 = .ok (.aload_n 0, 1) := by decide +kernel
theorem dX0_endChoice_2 : decode cX0_endChoice 2 = .ok (.getfield 21, 3) := by decide +kernel
theorem dX0_endChoice_5 : decode cX0_endChoice 5 = .ok (.iload_n 1, 1) := by decide +kernel
theorem dX0_endChoice_6 : decode cX0_endChoice 6 = .ok (.iaload, 1) := by decide +kernel
theorem dX0_endChoice_7 : decode cX0_endChoice 7 = .ok (.lload_n 2, 1) := by decide +kernel
theorem dX0_endChoice_8 : decode cX0_endChoice 8 = .ok (.invokevirtual 210, 3) := by decide +kernel
theorem dX0_endChoice_11 : decode cX0_endChoice 11 = .ok (.aload_n 0, 1) := by decide +kernel
theorem dX0_endChoice_12 : decode cX0_endChoice 12 = .ok (.getfield 25, 3) := by decide +kernel
theorem dX0_endChoice_15 : decode cX0_endChoice 15 = .ok (.iload_n 1, 1) := by decide +kernel
theorem dX0_endChoice_16 : decode cX0_endChoice 16 = .ok (.iaload, 1) := by decide +kernel
theorem dX0_endChoice_17 : decode cX0_endChoice 17 = .ok (.ifCond .ne 20, 3) := by decide +kernel
theorem dX0_endChoice_20 : decode cX0_endChoice 20 = .ok (.aload_n 0, 1) := by decide +kernel
theorem dX0_endChoice_21 : decode cX0_endChoice 21 = .ok (.aload_n 0, 1) := by decide +kernel
theorem dX0_endChoice_22 : decode cX0_endChoice 22 = .ok (.getfield 31, 3) := by decide +kernel
theorem dX0_endChoice_25 : decode cX0_endChoice 25 = .ok (.getfield 213, 3) := by decide +kernel
theorem dX0_endChoice_28 : decode cX0_endChoice 28 = .ok (.iload 4, 2) := by decide +kernel
theorem dX0_endChoice_30 : decode cX0_endChoice 30 = .ok (.invokestatic 216, 3) := by decide +kernel
theorem dX0_endChoice_33 : decode cX0_endChoice 33 = .ok (.lload_n 2, 1) := by decide +kernel
theorem dX0_endChoice_34 : decode cX0_endChoice 34 = .ok (.invokevirtual 135, 3) := by decide +kernel
theorem dX0_endChoice_37 : decode cX0_endChoice 37 = .ok (.return_, 1) := by decide +kernel
theorem dX0_goThrough_0 : decode cX0_goThrough 0 = .ok (.aload_n 0, 1) := by decide +kernel
theorem dX0_goThrough_1 : decode cX0_goThrough 1 = .ok (.getfield 31, 3) := by decide +kernel
theorem dX0_goThrough_4 : decode cX0_goThrough 4 = .ok (.getfield 115, 3) := by decide +kernel
theorem dX0_goThrough_7 : decode cX0_goThrough 7 = .ok (.iload_n 1, 1) := by decide +kernel
theorem dX0_goThrough_8 : decode cX0_goThrough 8 = .ok (.iaload, 1) := by decide +kernel
theorem dX0_goThrough_9 : decode cX0_goThrough 9 = .ok (.tableswitch 184 1 12 #[63, 78, 93, 93, 93, 104, 115, 126, 136, 146, 162, 173], 63) := by decide +kernel
theorem dX0_goThrough_72 : decode cX0_goThrough 72 = .ok (.aload_n 0, 1) := by decide +kernel
theorem dX0_goThrough_73 : decode cX0_goThrough 73 = .ok (.iload_n 1, 1) := by decide +kernel
theorem dX0_goThrough_74 : decode cX0_goThrough 74 = .ok (.lload_n 2, 1) := by decide +kernel
theorem dX0_goThrough_75 : decode cX0_goThrough 75 = .ok (.iload 4, 2) := by decide +kernel
theorem dX0_goThrough_77 : decode cX0_goThrough 77 = .ok (.iconst 2, 1) := by decide +kernel
theorem dX0_goThrough_78 : decode cX0_goThrough 78 = .ok (.invokestatic 118, 3) := by decide +kernel
theorem dX0_goThrough_81 : decode cX0_goThrough 81 = .ok (.invokevirtual 122, 3) := by decide +kernel
theorem dX0_goThrough_84 : decode cX0_goThrough 84 = .ok (.goto 115, 3) := by decide +kernel
theorem dX0_goThrough_87 : decode cX0_goThrough 87 = .ok (.aload_n 0, 1) := by decide +kernel
theorem dX0_goThrough_88 : decode cX0_goThrough 88 = .ok (.iload_n 1, 1) := by decide +kernel
theorem dX0_goThrough_89 : decode cX0_goThrough 89 = .ok (.lload_n 2, 1) := by decide +kernel
theorem dX0_goThrough_90 : decode cX0_goThrough 90 = .ok (.iload 4, 2) := by decide +kernel
theorem dX0_goThrough_92 : decode cX0_goThrough 92 = .ok (.iconst 1, 1) := by decide +kernel
theorem dX0_goThrough_93 : decode cX0_goThrough 93 = .ok (.invokestatic 118, 3) := by decide +kernel
theorem dX0_goThrough_96 : decode cX0_goThrough 96 = .ok (.invokevirtual 122, 3) := by decide +kernel
theorem dX0_goThrough_99 : decode cX0_goThrough 99 = .ok (.goto 100, 3) := by decide +kernel
theorem dX0_goThrough_102 : decode cX0_goThrough 102 = .ok (.aload_n 0, 1) := by decide +kernel
theorem dX0_goThrough_103 : decode cX0_goThrough 103 = .ok (.iload_n 1, 1) := by decide +kernel
theorem dX0_goThrough_104 : decode cX0_goThrough 104 = .ok (.lload_n 2, 1) := by decide +kernel
theorem dX0_goThrough_105 : decode cX0_goThrough 105 = .ok (.iload 4, 2) := by decide +kernel
theorem dX0_goThrough_107 : decode cX0_goThrough 107 = .ok (.invokevirtual 126, 3) := by decide +kernel
theorem dX0_goThrough_110 : decode cX0_goThrough 110 = .ok (.goto 89, 3) := by decide +kernel
theorem dX0_goThrough_113 : decode cX0_goThrough 113 = .ok (.aload_n 0, 1) := by decide +kernel
theorem dX0_goThrough_114 : decode cX0_goThrough 114 = .ok (.iload_n 1, 1) := by decide +kernel
theorem dX0_goThrough_115 : decode cX0_goThrough 115 = .ok (.lload_n 2, 1) := by decide +kernel
theorem dX0_goThrough_116 : decode cX0_goThrough 116 = .ok (.iload 4, 2) := by decide +kernel
theorem dX0_goThrough_118 : decode cX0_goThrough 118 = .ok (.invokevirtual 129, 3) := by decide +kernel
theorem dX0_goThrough_121 : decode cX0_goThrough 121 = .ok (.goto 78, 3) := by decide +kernel
theorem dX0_goThrough_124 : decode cX0_goThrough 124 = .ok (.aload_n 0, 1) := by decide +kernel
theorem dX0_goThrough_125 : decode cX0_goThrough 125 = .ok (.iload_n 1, 1) := by decide +kernel
theorem dX0_goThrough_126 : decode cX0_goThrough 126 = .ok (.lload_n 2, 1) := by decide +kernel
theorem dX0_goThrough_127 : decode cX0_goThrough 127 = .ok (.iload 4, 2) := by decide +kernel
theorem dX0_goThrough_129 : decode cX0_goThrough 129 = .ok (.invokevirtual 132, 3) := by decide +kernel
theorem dX0_goThrough_132 : decode cX0_goThrough 132 = .ok (.goto 67, 3) := by decide +kernel
theorem dX0_goThrough_135 : decode cX0_goThrough 135 = .ok (.aload_n 0, 1) := by decide +kernel
theorem dX0_goThrough_136 : decode cX0_goThrough 136 = .ok (.iload 4, 2) := by decide +kernel
theorem dX0_goThrough_138 : decode cX0_goThrough 138 = .ok (.lload_n 2, 1) := by decide +kernel
theorem dX0_goThrough_139 : decode cX0_goThrough 139 = .ok (.invokevirtual 135, 3) := by decide +kernel
theorem dX0_goThrough_142 : decode cX0_goThrough 142 = .ok (.goto 57, 3) := by decide +kernel
theorem dX0_goThrough_145 : decode cX0_goThrough 145 = .ok (.aload_n 0, 1) := by decide +kernel
theorem dX0_goThrough_146 : decode cX0_goThrough 146 = .ok (.lload_n 2, 1) := by decide +kernel
theorem dX0_goThrough_147 : decode cX0_goThrough 147 = .ok (.iload 4, 2) := by decide +kernel
theorem dX0_goThrough_149 : decode cX0_goThrough 149 = .ok (.invokevirtual 138, 3) := by decide +kernel
theorem dX0_goThrough_152 : decode cX0_goThrough 152 = .ok (.goto 47, 3) := by decide +kernel
theorem dX0_goThrough_155 : decode cX0_goThrough 155 = .ok (.aload_n 0, 1) := by decide +kernel
theorem dX0_goThrough_156 : decode cX0_goThrough 156 = .ok (.dup, 1) := by decide +kernel
theorem dX0_goThrough_157 : decode cX0_goThrough 157 = .ok (.getfield 72, 3) := by decide +kernel
theorem dX0_goThrough_160 : decode cX0_goThrough 160 = .ok (.iconst 1, 1) := by decide +kernel
theorem dX0_goThrough_161 : decode cX0_goThrough 161 = .ok (.iload 4, 2) := by decide +kernel
theorem dX0_goThrough_163 : decode cX0_goThrough 163 = .ok (.ishl, 1) := by decide +kernel
theorem dX0_goThrough_164 : decode cX0_goThrough 164 = .ok (.ior, 1) := by decide +kernel
theorem dX0_goThrough_165 : decode cX0_goThrough 165 = .ok (.putfield 72, 3) := by decide +kernel
theorem dX0_goThrough_168 : decode cX0_goThrough 168 = .ok (.goto 31, 3) := by decide +kernel
theorem dX0_goThrough_171 : decode cX0_goThrough 171 = .ok (.aload_n 0, 1) := by decide +kernel
theorem dX0_goThrough_172 : decode cX0_goThrough 172 = .ok (.iload_n 1, 1) := by decide +kernel
theorem dX0_goThrough_173 : decode cX0_goThrough 173 = .ok (.lload_n 2, 1) := by decide +kernel
theorem dX0_goThrough_174 : decode cX0_goThrough 174 = .ok (.iload 4, 2) := by decide +kernel
theorem dX0_goThrough_176 : decode cX0_goThrough 176 = .ok (.invokevirtual 142, 3) := by decide +kernel
theorem dX0_goThrough_179 : decode cX0_goThrough 179 = .ok (.goto 20, 3) := by decide +kernel
theorem dX0_goThrough_182 : decode cX0_goThrough 182 = .ok (.aload_n 0, 1) := by decide +kernel
theorem dX0_goThrough_183 : decode cX0_goThrough 183 = .ok (.iload_n 1, 1) := by decide +kernel
theorem dX0_goThrough_184 : decode cX0_goThrough 184 = .ok (.lload_n 2, 1) := by decide +kernel
theorem dX0_goThrough_185 : decode cX0_goThrough 185 = .ok (.iload 4, 2) := by decide +kernel
theorem dX0_goThrough_187 : decode cX0_goThrough 187 = .ok (.invokevirtual 145, 3) := by decide +kernel
theorem dX0_goThrough_190 : decode cX0_goThrough 190 = .ok (.goto 9, 3) := by decide +kernel
theorem dX0_goThrough_193 : decode cX0_goThrough 193 = .ok (.aload_n 0, 1) := by decide +kernel
theorem dX0_goThrough_194 : decode cX0_goThrough 194 = .ok (.iload_n 1, 1) := by decide +kernel
theorem dX0_goThrough_195 : decode cX0_goThrough 195 = .ok (.lload_n 2, 1) := by decide +kernel
theorem dX0_goThrough_196 : decode cX0_goThrough 196 = .ok (.invokevirtual 122, 3) := by decide +kernel
theorem dX0_goThrough_199 : decode cX0_goThrough 199 = .ok (.return_, 1) := by decide +kernel
theorem dX0_settle_0 : decode cX0_settle 0 = .ok (.aload_n 0, 1) := by decide +kernel
theorem dX0_settle_1 : decode cX0_settle 1 = .ok (.aload_n 1, 1) := by decide +kernel
theorem dX0_settle_2 : decode cX0_settle 2 = .ok (.invokevirtual 47, 3) := by decide +kernel
theorem dX0_settle_5 : decode cX0_settle 5 = .ok (.aload_n 0, 1) := by decide +kernel
theorem dX0_settle_6 : decode cX0_settle 6 = .ok (.getfield 9, 3) := by decide +kernel
theorem dX0_settle_9 : decode cX0_settle 9 = .ok (.iconst 0, 1) := by decide +kernel
theorem dX0_settle_10 : decode cX0_settle 10 = .ok (.ldc2_w 51, 3) := by decide +kernel
theorem dX0_settle_13 : decode cX0_settle 13 = .ok (.lastore, 1) := by decide +kernel
theorem dX0_settle_14 : decode cX0_settle 14 = .ok (.aload_n 0, 1) := by decide +kernel
theorem dX0_settle_15 : decode cX0_settle 15 = .ok (.iconst 1, 1) := by decide +kernel
theorem dX0_settle_16 : decode cX0_settle 16 = .ok (.putfield 53, 3) := by decide +kernel
theorem dX0_settle_19 : decode cX0_settle 19 = .ok (.iconst 0, 1) := by decide +kernel
theorem dX0_settle_20 : decode cX0_settle 20 = .ok (.istore_n 2, 1) := by decide +kernel
theorem dX0_settle_21 : decode cX0_settle 21 = .ok (.iload_n 2, 1) := by decide +kernel
theorem dX0_settle_22 : decode cX0_settle 22 = .ok (.sipush 10000, 3) := by decide +kernel
theorem dX0_settle_25 : decode cX0_settle 25 = .ok (.if_icmp .ge 82, 3) := by decide +kernel
theorem dX0_settle_28 : decode cX0_settle 28 = .ok (.aload_n 0, 1) := by decide +kernel
theorem dX0_settle_29 : decode cX0_settle 29 = .ok (.getfield 53, 3) := by decide +kernel
theorem dX0_settle_32 : decode cX0_settle 32 = .ok (.ifCond .eq 75, 3) := by decide +kernel
theorem dX0_settle_35 : decode cX0_settle 35 = .ok (.aload_n 0, 1) := by decide +kernel
theorem dX0_settle_36 : decode cX0_settle 36 = .ok (.iconst 0, 1) := by decide +kernel
theorem dX0_settle_37 : decode cX0_settle 37 = .ok (.putfield 53, 3) := by decide +kernel
theorem dX0_settle_40 : decode cX0_settle 40 = .ok (.aload_n 0, 1) := by decide +kernel
theorem dX0_settle_41 : decode cX0_settle 41 = .ok (.invokevirtual 56, 3) := by decide +kernel
theorem dX0_settle_44 : decode cX0_settle 44 = .ok (.iconst 0, 1) := by decide +kernel
theorem dX0_settle_45 : decode cX0_settle 45 = .ok (.istore_n 3, 1) := by decide +kernel
theorem dX0_settle_46 : decode cX0_settle 46 = .ok (.iload_n 3, 1) := by decide +kernel
theorem dX0_settle_47 : decode cX0_settle 47 = .ok (.sipush 400, 3) := by decide +kernel
theorem dX0_settle_50 : decode cX0_settle 50 = .ok (.if_icmp .ge 51, 3) := by decide +kernel
theorem dX0_settle_53 : decode cX0_settle 53 = .ok (.iload_n 3, 1) := by decide +kernel
theorem dX0_settle_54 : decode cX0_settle 54 = .ok (.aload_n 0, 1) := by decide +kernel
theorem dX0_settle_55 : decode cX0_settle 55 = .ok (.getfield 31, 3) := by decide +kernel
theorem dX0_settle_58 : decode cX0_settle 58 = .ok (.getfield 59, 3) := by decide +kernel
theorem dX0_settle_61 : decode cX0_settle 61 = .ok (.if_icmp .ge 40, 3) := by decide +kernel
theorem dX0_settle_64 : decode cX0_settle 64 = .ok (.aload_n 0, 1) := by decide +kernel
theorem dX0_settle_65 : decode cX0_settle 65 = .ok (.getfield 18, 3) := by decide +kernel
theorem dX0_settle_68 : decode cX0_settle 68 = .ok (.iload_n 3, 1) := by decide +kernel
theorem dX0_settle_69 : decode cX0_settle 69 = .ok (.laload, 1) := by decide +kernel
theorem dX0_settle_70 : decode cX0_settle 70 = .ok (.lconst 0, 1) := by decide +kernel
theorem dX0_settle_71 : decode cX0_settle 71 = .ok (.lcmp, 1) := by decide +kernel
theorem dX0_settle_72 : decode cX0_settle 72 = .ok (.ifCond .eq 23, 3) := by decide +kernel
theorem dX0_settle_75 : decode cX0_settle 75 = .ok (.aload_n 0, 1) := by decide +kernel
theorem dX0_settle_76 : decode cX0_settle 76 = .ok (.iload_n 3, 1) := by decide +kernel
theorem dX0_settle_77 : decode cX0_settle 77 = .ok (.aload_n 0, 1) := by decide +kernel
theorem dX0_settle_78 : decode cX0_settle 78 = .ok (.getfield 18, 3) := by decide +kernel
theorem dX0_settle_81 : decode cX0_settle 81 = .ok (.iload_n 3, 1) := by decide +kernel
theorem dX0_settle_82 : decode cX0_settle 82 = .ok (.laload, 1) := by decide +kernel
theorem dX0_settle_83 : decode cX0_settle 83 = .ok (.aload_n 0, 1) := by decide +kernel
theorem dX0_settle_84 : decode cX0_settle 84 = .ok (.getfield 31, 3) := by decide +kernel
theorem dX0_settle_87 : decode cX0_settle 87 = .ok (.getfield 65, 3) := by decide +kernel
theorem dX0_settle_90 : decode cX0_settle 90 = .ok (.iload_n 3, 1) := by decide +kernel
theorem dX0_settle_91 : decode cX0_settle 91 = .ok (.iaload, 1) := by decide +kernel
theorem dX0_settle_92 : decode cX0_settle 92 = .ok (.invokevirtual 68, 3) := by decide +kernel
theorem dX0_settle_95 : decode cX0_settle 95 = .ok (.iinc 3 1, 3) := by decide +kernel
theorem dX0_settle_98 : decode cX0_settle 98 = .ok (.goto (-52), 3) := by decide +kernel
theorem dX0_settle_101 : decode cX0_settle 101 = .ok (.iinc 2 1, 3) := by decide +kernel
theorem dX0_settle_104 : decode cX0_settle 104 = .ok (.goto (-83), 3) := by decide +kernel
theorem dX0_settle_107 : decode cX0_settle 107 = .ok (.aload_n 0, 1) := by decide +kernel
theorem dX0_settle_108 : decode cX0_settle 108 = .ok (.iconst 1, 1) := by decide +kernel
theorem dX0_settle_109 : decode cX0_settle 109 = .ok (.putfield 35, 3) := by decide +kernel
theorem dX0_settle_112 : decode cX0_settle 112 = .ok (.return_, 1) := by decide +kernel
theorem dX0_reachedNodes_0 : decode cX0_reachedNodes 0 = .ok (.iconst 0, 1) := by decide +kernel
theorem dX0_reachedNodes_1 : decode cX0_reachedNodes 1 = .ok (.istore_n 1, 1) := by decide +kernel
theorem dX0_reachedNodes_2 : decode cX0_reachedNodes 2 = .ok (.iconst 0, 1) := by decide +kernel
theorem dX0_reachedNodes_3 : decode cX0_reachedNodes 3 = .ok (.istore_n 2, 1) := by decide +kernel
theorem dX0_reachedNodes_4 : decode cX0_reachedNodes 4 = .ok (.iload_n 2, 1) := by decide +kernel
theorem dX0_reachedNodes_5 : decode cX0_reachedNodes 5 = .ok (.bipush 12, 2) := by decide +kernel
theorem dX0_reachedNodes_7 : decode cX0_reachedNodes 7 = .ok (.if_icmp .ge 23, 3) := by decide +kernel
theorem dX0_reachedNodes_10 : decode cX0_reachedNodes 10 = .ok (.aload_n 0, 1) := by decide +kernel
theorem dX0_reachedNodes_11 : decode cX0_reachedNodes 11 = .ok (.getfield 9, 3) := by decide +kernel
theorem dX0_reachedNodes_14 : decode cX0_reachedNodes 14 = .ok (.iload_n 2, 1) := by decide +kernel
theorem dX0_reachedNodes_15 : decode cX0_reachedNodes 15 = .ok (.laload, 1) := by decide +kernel
theorem dX0_reachedNodes_16 : decode cX0_reachedNodes 16 = .ok (.lconst 0, 1) := by decide +kernel
theorem dX0_reachedNodes_17 : decode cX0_reachedNodes 17 = .ok (.lcmp, 1) := by decide +kernel
theorem dX0_reachedNodes_18 : decode cX0_reachedNodes 18 = .ok (.ifCond .eq 6, 3) := by decide +kernel
theorem dX0_reachedNodes_21 : decode cX0_reachedNodes 21 = .ok (.iinc 1 1, 3) := by decide +kernel
theorem dX0_reachedNodes_24 : decode cX0_reachedNodes 24 = .ok (.iinc 2 1, 3) := by decide +kernel
theorem dX0_reachedNodes_27 : decode cX0_reachedNodes 27 = .ok (.goto (-23), 3) := by decide +kernel
theorem dX0_reachedNodes_30 : decode cX0_reachedNodes 30 = .ok (.iload_n 1, 1) := by decide +kernel
theorem dX0_reachedNodes_31 : decode cX0_reachedNodes 31 = .ok (.ireturn, 1) := by decide +kernel
theorem dX9_clearText_0 : decode cX9_clearText 0 = .ok (.aload_n 0, 1) := by decide +kernel
theorem dX9_clearText_1 : decode cX9_clearText 1 = .ok (.getfield 67, 3) := by decide +kernel
theorem dX9_clearText_4 : decode cX9_clearText 4 = .ok (.istore_n 1, 1) := by decide +kernel
theorem dX9_clearText_5 : decode cX9_clearText 5 = .ok (.aload_n 0, 1) := by decide +kernel
theorem dX9_clearText_6 : decode cX9_clearText 6 = .ok (.iconst 0, 1) := by decide +kernel
theorem dX9_clearText_7 : decode cX9_clearText 7 = .ok (.putfield 67, 3) := by decide +kernel
theorem dX9_clearText_10 : decode cX9_clearText 10 = .ok (.iload_n 1, 1) := by decide +kernel
theorem dX9_clearText_11 : decode cX9_clearText 11 = .ok (.ireturn, 1) := by decide +kernel
theorem dX9_fault_0 : decode cX9_fault 0 = .ok (.aload_n 0, 1) := by decide +kernel
theorem dX9_fault_1 : decode cX9_fault 1 = .ok (.getfield 28, 3) := by decide +kernel
theorem dX9_fault_4 : decode cX9_fault 4 = .ok (.aload_n 0, 1) := by decide +kernel
theorem dX9_fault_5 : decode cX9_fault 5 = .ok (.getfield 9, 3) := by decide +kernel
theorem dX9_fault_8 : decode cX9_fault 8 = .ok (.aload_n 0, 1) := by decide +kernel
theorem dX9_fault_9 : decode cX9_fault 9 = .ok (.getfield 67, 3) := by decide +kernel
theorem dX9_fault_12 : decode cX9_fault 12 = .ok (.aload_n 0, 1) := by decide +kernel
theorem dX9_fault_13 : decode cX9_fault 13 = .ok (.getfield 20, 3) := by decide +kernel
theorem dX9_fault_16 : decode cX9_fault 16 = .ok (.invokevirtual 76, 3) := by decide +kernel
theorem dX9_fault_19 : decode cX9_fault 19 = .ok (.ireturn, 1) := by decide +kernel
theorem dX9_status_0 : decode cX9_status 0 = .ok (.aload_n 0, 1) := by decide +kernel
theorem dX9_status_1 : decode cX9_status 1 = .ok (.getfield 35, 3) := by decide +kernel
theorem dX9_status_4 : decode cX9_status 4 = .ok (.getfield 126, 3) := by decide +kernel
theorem dX9_status_7 : decode cX9_status 7 = .ok (.ireturn, 1) := by decide +kernel
theorem dX9_ending_0 : decode cX9_ending 0 = .ok (.aload_n 0, 1) := by decide +kernel
theorem dX9_ending_1 : decode cX9_ending 1 = .ok (.getfield 35, 3) := by decide +kernel
theorem dX9_ending_4 : decode cX9_ending 4 = .ok (.getfield 126, 3) := by decide +kernel
theorem dX9_ending_7 : decode cX9_ending 7 = .ok (.iconst 2, 1) := by decide +kernel
theorem dX9_ending_8 : decode cX9_ending 8 = .ok (.if_icmp .ne 13, 3) := by decide +kernel
theorem dX9_ending_11 : decode cX9_ending 11 = .ok (.aload_n 0, 1) := by decide +kernel
theorem dX9_ending_12 : decode cX9_ending 12 = .ok (.getfield 35, 3) := by decide +kernel
theorem dX9_ending_15 : decode cX9_ending 15 = .ok (.getfield 149, 3) := by decide +kernel
theorem dX9_ending_18 : decode cX9_ending 18 = .ok (.goto 4, 3) := by decide +kernel
theorem dX9_ending_21 : decode cX9_ending 21 = .ok (.iconst (-1), 1) := by decide +kernel
theorem dX9_ending_22 : decode cX9_ending 22 = .ok (.ireturn, 1) := by decide +kernel
theorem dX9_node_0 : decode cX9_node 0 = .ok (.aload_n 0, 1) := by decide +kernel
theorem dX9_node_1 : decode cX9_node 1 = .ok (.getfield 35, 3) := by decide +kernel
theorem dX9_node_4 : decode cX9_node 4 = .ok (.getfield 152, 3) := by decide +kernel
theorem dX9_node_7 : decode cX9_node 7 = .ok (.ireturn, 1) := by decide +kernel
theorem dX9_hub_0 : decode cX9_hub 0 = .ok (.aload_n 0, 1) := by decide +kernel
theorem dX9_hub_1 : decode cX9_hub 1 = .ok (.getfield 35, 3) := by decide +kernel
theorem dX9_hub_4 : decode cX9_hub 4 = .ok (.getfield 155, 3) := by decide +kernel
theorem dX9_hub_7 : decode cX9_hub 7 = .ok (.ireturn, 1) := by decide +kernel
theorem dX9_offered_0 : decode cX9_offered 0 = .ok (.aload_n 0, 1) := by decide +kernel
theorem dX9_offered_1 : decode cX9_offered 1 = .ok (.getfield 35, 3) := by decide +kernel
theorem dX9_offered_4 : decode cX9_offered 4 = .ok (.getfield 158, 3) := by decide +kernel
theorem dX9_offered_7 : decode cX9_offered 7 = .ok (.invokestatic 161, 3) := by decide +kernel
theorem dX9_offered_10 : decode cX9_offered 10 = .ok (.ireturn, 1) := by decide +kernel
theorem dX9_said_0 : decode cX9_said 0 = .ok (.aload_n 0, 1) := by decide +kernel
theorem dX9_said_1 : decode cX9_said 1 = .ok (.getfield 35, 3) := by decide +kernel
theorem dX9_said_4 : decode cX9_said 4 = .ok (.getfield 186, 3) := by decide +kernel
theorem dX9_said_7 : decode cX9_said 7 = .ok (.getfield 190, 3) := by decide +kernel
theorem dX9_said_10 : decode cX9_said 10 = .ok (.ireturn, 1) := by decide +kernel
theorem wt_9 : (Jvm.Cond.initialized "BranchingStory$Analyzer") ∈ lw_tbl := in_tb 9 (by decide +kernel)
theorem wt_59 : (Jvm.Cond.fieldLinkNest "BranchingStory$Analyzer" (59 : Nat) "BranchingStory$Story" "size" "I" "BranchingStory") ∈ lw_tbl := in_tb 59 (by decide +kernel)
theorem wt_62 : (Jvm.Cond.fieldLinkNest "BranchingStory$Analyzer" (115 : Nat) "BranchingStory$Story" "sort" "[I" "BranchingStory") ∈ lw_tbl := in_tb 62 (by decide +kernel)
theorem wt_66 : (Jvm.Cond.fieldLinkNest "BranchingStory$Analyzer" (65 : Nat) "BranchingStory$Story" "who" "[I" "BranchingStory") ∈ lw_tbl := in_tb 66 (by decide +kernel)
theorem wt_71 : (Jvm.Cond.fieldLinkNest "BranchingStory$Analyzer" (155 : Nat) "BranchingStory$Story" "digit" "[I" "BranchingStory") ∈ lw_tbl := in_tb 71 (by decide +kernel)
theorem wt_73 : (Jvm.Cond.fieldLinkNest "BranchingStory$Analyzer" (148 : Nat) "BranchingStory$Story" "next" "[I" "BranchingStory") ∈ lw_tbl := in_tb 73 (by decide +kernel)
theorem wt_78 : (Jvm.Cond.fieldLinkNest "BranchingStory$Analyzer" (180 : Nat) "BranchingStory$Story" "first" "[I" "BranchingStory") ∈ lw_tbl := in_tb 78 (by decide +kernel)
theorem wt_82 : (Jvm.Cond.fieldLinkNest "BranchingStory$Analyzer" (183 : Nat) "BranchingStory$Story" "second" "[I" "BranchingStory") ∈ lw_tbl := in_tb 82 (by decide +kernel)
theorem wt_86 : (Jvm.Cond.fieldLinkNest "BranchingStory$Analyzer" (186 : Nat) "BranchingStory$Story" "termsFrom" "[I" "BranchingStory") ∈ lw_tbl := in_tb 86 (by decide +kernel)
theorem wt_89 : (Jvm.Cond.fieldLinkNest "BranchingStory$Analyzer" (189 : Nat) "BranchingStory$Story" "termsTo" "[I" "BranchingStory") ∈ lw_tbl := in_tb 89 (by decide +kernel)
theorem wt_93 : (Jvm.Cond.fieldLinkNest "BranchingStory$Analyzer" (195 : Nat) "BranchingStory$Story" "terms" "LBranchingStory$Terms;" "BranchingStory") ∈ lw_tbl := in_tb 93 (by decide +kernel)
theorem wt_98 : (Jvm.Cond.fieldLinkNest "BranchingStory$Analyzer" (84 : Nat) "BranchingStory$Story" "nodes" "I" "BranchingStory") ∈ lw_tbl := in_tb 98 (by decide +kernel)
theorem wt_103 : (Jvm.Cond.fieldLinkNest "BranchingStory$Analyzer" (95 : Nat) "BranchingStory$Story" "nodeFirst" "[I" "BranchingStory") ∈ lw_tbl := in_tb 103 (by decide +kernel)
theorem wt_110 : (Jvm.Cond.fieldLinkNest "BranchingStory$Analyzer" (102 : Nat) "BranchingStory$Story" "choices" "I" "BranchingStory") ∈ lw_tbl := in_tb 110 (by decide +kernel)
theorem wt_117 : (Jvm.Cond.fieldLinkNest "BranchingStory$Analyzer" (213 : Nat) "BranchingStory$Story" "choiceNode" "[I" "BranchingStory") ∈ lw_tbl := in_tb 117 (by decide +kernel)
theorem wt_121 : (Jvm.Cond.fieldLinkNest "BranchingStory$Analyzer" (105 : Nat) "BranchingStory$Story" "choiceFirst" "[I" "BranchingStory") ∈ lw_tbl := in_tb 121 (by decide +kernel)
theorem wt_229 : (Jvm.Cond.fieldLinkNest "BranchingStory" (190 : Nat) "BranchingStory$Lines" "count" "I" "BranchingStory") ∈ lw_tbl := in_tb 229 (by decide +kernel)
theorem wt_244 : (Jvm.Cond.fieldLinkNest "BranchingStory" (126 : Nat) "BranchingStory$Play" "status" "I" "BranchingStory") ∈ lw_tbl := in_tb 244 (by decide +kernel)
theorem wt_247 : (Jvm.Cond.fieldLinkNest "BranchingStory" (149 : Nat) "BranchingStory$Play" "ending" "I" "BranchingStory") ∈ lw_tbl := in_tb 247 (by decide +kernel)
theorem wt_249 : (Jvm.Cond.fieldLinkNest "BranchingStory" (152 : Nat) "BranchingStory$Play" "node" "I" "BranchingStory") ∈ lw_tbl := in_tb 249 (by decide +kernel)
theorem wt_251 : (Jvm.Cond.fieldLinkNest "BranchingStory" (155 : Nat) "BranchingStory$Play" "hub" "I" "BranchingStory") ∈ lw_tbl := in_tb 251 (by decide +kernel)
theorem wt_259 : (Jvm.Cond.fieldLinkNest "BranchingStory" (158 : Nat) "BranchingStory$Play" "offered" "I" "BranchingStory") ∈ lw_tbl := in_tb 259 (by decide +kernel)
theorem wt_264 : (Jvm.Cond.fieldLinkNest "BranchingStory" (186 : Nat) "BranchingStory$Play" "lines" "LBranchingStory$Lines;" "BranchingStory") ∈ lw_tbl := in_tb 264 (by decide +kernel)
theorem wt_376 : (Jvm.Cond.fieldLink "BranchingStory$Analyzer" (31 : Nat) "BranchingStory$Analyzer" "story" "LBranchingStory$Story;") ∈ lw_tbl := in_tb 376 (by decide +kernel)
theorem wt_377 : (Jvm.Cond.fieldLink "BranchingStory$Analyzer" (35 : Nat) "BranchingStory$Analyzer" "settled" "Z") ∈ lw_tbl := in_tb 377 (by decide +kernel)
theorem wt_379 : (Jvm.Cond.fieldLink "BranchingStory$Analyzer" (53 : Nat) "BranchingStory$Analyzer" "changed" "Z") ∈ lw_tbl := in_tb 379 (by decide +kernel)
theorem wt_380 : (Jvm.Cond.fieldLink "BranchingStory$Analyzer" (9 : Nat) "BranchingStory$Analyzer" "nodeEntry" "[J") ∈ lw_tbl := in_tb 380 (by decide +kernel)
theorem wt_382 : (Jvm.Cond.fieldLink "BranchingStory$Analyzer" (15 : Nat) "BranchingStory$Analyzer" "choiceEntry" "[J") ∈ lw_tbl := in_tb 382 (by decide +kernel)
theorem wt_384 : (Jvm.Cond.fieldLink "BranchingStory$Analyzer" (18 : Nat) "BranchingStory$Analyzer" "known" "[J") ∈ lw_tbl := in_tb 384 (by decide +kernel)
theorem wt_385 : (Jvm.Cond.fieldLink "BranchingStory$Analyzer" (21 : Nat) "BranchingStory$Analyzer" "offered" "[I") ∈ lw_tbl := in_tb 385 (by decide +kernel)
theorem wt_386 : (Jvm.Cond.fieldLink "BranchingStory$Analyzer" (25 : Nat) "BranchingStory$Analyzer" "certain" "[I") ∈ lw_tbl := in_tb 386 (by decide +kernel)
theorem wt_387 : (Jvm.Cond.fieldLink "BranchingStory$Analyzer" (28 : Nat) "BranchingStory$Analyzer" "verdicts" "[I") ∈ lw_tbl := in_tb 387 (by decide +kernel)
theorem wt_389 : (Jvm.Cond.fieldLink "BranchingStory$Analyzer" (72 : Nat) "BranchingStory$Analyzer" "endings" "I") ∈ lw_tbl := in_tb 389 (by decide +kernel)
theorem wt_391 : (Jvm.Cond.fieldLink "BranchingStory$Analyzer" (75 : Nat) "BranchingStory$Analyzer" "deadEnds" "I") ∈ lw_tbl := in_tb 391 (by decide +kernel)
theorem wt_416 : (Jvm.Cond.fieldLink "BranchingStory" (9 : Nat) "BranchingStory" "text" "[I") ∈ lw_tbl := in_tb 416 (by decide +kernel)
theorem wt_417 : (Jvm.Cond.fieldLink "BranchingStory" (67 : Nat) "BranchingStory" "length" "I") ∈ lw_tbl := in_tb 417 (by decide +kernel)
theorem wt_419 : (Jvm.Cond.fieldLink "BranchingStory" (20 : Nat) "BranchingStory" "draft" "LBranchingStory$Story;") ∈ lw_tbl := in_tb 419 (by decide +kernel)
theorem wt_420 : (Jvm.Cond.fieldLink "BranchingStory" (28 : Nat) "BranchingStory" "reader" "LBranchingStory$Reader;") ∈ lw_tbl := in_tb 420 (by decide +kernel)
theorem wt_421 : (Jvm.Cond.fieldLink "BranchingStory" (35 : Nat) "BranchingStory" "play" "LBranchingStory$Play;") ∈ lw_tbl := in_tb 421 (by decide +kernel)
theorem wt_452 : (Jvm.Cond.methodLinkNest "BranchingStory" (76 : Nat) ({ cls := "BranchingStory$Reader", name := "read", desc := "([IILBranchingStory$Story;)I" } : Jvm.MethodName) "BranchingStory") ∈ lw_tbl := in_tb 452 (by decide +kernel)
theorem wt_454 : (Jvm.Cond.instanceMethod ({ cls := "BranchingStory$Reader", name := "read", desc := "([IILBranchingStory$Story;)I" } : Jvm.MethodName)) ∈ lw_tbl := in_tb 454 (by decide +kernel)
theorem wt_455 : (Jvm.Cond.code ({ cls := "BranchingStory$Reader", name := "read", desc := "([IILBranchingStory$Story;)I" } : Jvm.MethodName) prog_8_method_2_code (6 : Nat) (Option.some Jvm.ClassFile.FieldType.int)) ∈ lw_tbl := in_tb 455 (by decide +kernel)
theorem wt_631 : (Jvm.Cond.methodLink "BranchingStory" (161 : Nat) ({ cls := "java/lang/Integer", name := "bitCount", desc := "(I)I" } : Jvm.MethodName)) ∈ lw_tbl := in_tb 631 (by decide +kernel)
theorem wt_762 : (Jvm.Cond.instanceMethod ({ cls := "BranchingStory$Analyzer", name := "forget", desc := "(LBranchingStory$Story;)V" } : Jvm.MethodName)) ∈ lw_tbl := in_tb 762 (by decide +kernel)
theorem wt_763 : (Jvm.Cond.code ({ cls := "BranchingStory$Analyzer", name := "forget", desc := "(LBranchingStory$Story;)V" } : Jvm.MethodName) prog_2_method_2_code (2 : Nat) (Option.none : Option Jvm.ClassFile.FieldType)) ∈ lw_tbl := in_tb 763 (by decide +kernel)
theorem wt_764 : (Jvm.Cond.methodLink "BranchingStory$Analyzer" (41 : Nat) ({ cls := "java/util/Arrays", name := "fill", desc := "([JJ)V" } : Jvm.MethodName)) ∈ lw_tbl := in_tb 764 (by decide +kernel)
theorem wt_765 : (Jvm.Cond.static ({ cls := "java/util/Arrays", name := "fill", desc := "([JJ)V" } : Jvm.MethodName)) ∈ lw_tbl := in_tb 765 (by decide +kernel)
theorem wt_766 : (Jvm.Cond.code ({ cls := "java/util/Arrays", name := "fill", desc := "([JJ)V" } : Jvm.MethodName) prog_23_method_101_code (5 : Nat) (Option.none : Option Jvm.ClassFile.FieldType)) ∈ lw_tbl := in_tb 766 (by decide +kernel)
theorem wt_1113 : (Jvm.Cond.methodLink "BranchingStory$Analyzer" (47 : Nat) ({ cls := "BranchingStory$Analyzer", name := "forget", desc := "(LBranchingStory$Story;)V" } : Jvm.MethodName)) ∈ lw_tbl := in_tb 1113 (by decide +kernel)
theorem wt_1114 : (Jvm.Cond.constantLong "BranchingStory$Analyzer" (51 : Nat) (281497877610496 : Int64)) ∈ lw_tbl := in_tb 1114 (by decide +kernel)
theorem wt_1115 : (Jvm.Cond.methodLink "BranchingStory$Analyzer" (56 : Nat) ({ cls := "BranchingStory$Analyzer", name := "beginSweep", desc := "()V" } : Jvm.MethodName)) ∈ lw_tbl := in_tb 1115 (by decide +kernel)
theorem wt_1117 : (Jvm.Cond.instanceMethod ({ cls := "BranchingStory$Analyzer", name := "beginSweep", desc := "()V" } : Jvm.MethodName)) ∈ lw_tbl := in_tb 1117 (by decide +kernel)
theorem wt_1118 : (Jvm.Cond.code ({ cls := "BranchingStory$Analyzer", name := "beginSweep", desc := "()V" } : Jvm.MethodName) prog_2_method_5_code (1 : Nat) (Option.none : Option Jvm.ClassFile.FieldType)) ∈ lw_tbl := in_tb 1118 (by decide +kernel)
theorem wt_1119 : (Jvm.Cond.methodLink "BranchingStory$Analyzer" (78 : Nat) ({ cls := "java/util/Arrays", name := "fill", desc := "([II)V" } : Jvm.MethodName)) ∈ lw_tbl := in_tb 1119 (by decide +kernel)
theorem wt_1120 : (Jvm.Cond.methodLink "BranchingStory$Analyzer" (81 : Nat) ({ cls := "BranchingStory$Analyzer", name := "pourEntries", desc := "()V" } : Jvm.MethodName)) ∈ lw_tbl := in_tb 1120 (by decide +kernel)
theorem wt_1122 : (Jvm.Cond.instanceMethod ({ cls := "BranchingStory$Analyzer", name := "pourEntries", desc := "()V" } : Jvm.MethodName)) ∈ lw_tbl := in_tb 1122 (by decide +kernel)
theorem wt_1123 : (Jvm.Cond.code ({ cls := "BranchingStory$Analyzer", name := "pourEntries", desc := "()V" } : Jvm.MethodName) prog_2_method_6_code (4 : Nat) (Option.none : Option Jvm.ClassFile.FieldType)) ∈ lw_tbl := in_tb 1123 (by decide +kernel)
theorem wt_1124 : (Jvm.Cond.methodLinkNest "BranchingStory$Analyzer" (87 : Nat) ({ cls := "BranchingStory$Story", name := "standsAsHub", desc := "(I)Z" } : Jvm.MethodName) "BranchingStory") ∈ lw_tbl := in_tb 1124 (by decide +kernel)
theorem wt_1125 : (Jvm.Cond.methodLinkNest "BranchingStory$Analyzer" (91 : Nat) ({ cls := "BranchingStory$Knowledge", name := "withHubs", desc := "(JI)J" } : Jvm.MethodName) "BranchingStory") ∈ lw_tbl := in_tb 1125 (by decide +kernel)
theorem wt_1126 : (Jvm.Cond.static ({ cls := "BranchingStory$Knowledge", name := "withHubs", desc := "(JI)J" } : Jvm.MethodName)) ∈ lw_tbl := in_tb 1126 (by decide +kernel)
theorem wt_1127 : (Jvm.Cond.code ({ cls := "BranchingStory$Knowledge", name := "withHubs", desc := "(JI)J" } : Jvm.MethodName) prog_5_method_9_code (3 : Nat) (Option.some Jvm.ClassFile.FieldType.long)) ∈ lw_tbl := in_tb 1127 (by decide +kernel)
theorem wt_1129 : (Jvm.Cond.methodLink "BranchingStory$Analyzer" (98 : Nat) ({ cls := "BranchingStory$Analyzer", name := "pour", desc := "(IJII)V" } : Jvm.MethodName)) ∈ lw_tbl := in_tb 1129 (by decide +kernel)
theorem wt_1131 : (Jvm.Cond.instanceMethod ({ cls := "BranchingStory$Analyzer", name := "pour", desc := "(IJII)V" } : Jvm.MethodName)) ∈ lw_tbl := in_tb 1131 (by decide +kernel)
theorem wt_1132 : (Jvm.Cond.code ({ cls := "BranchingStory$Analyzer", name := "pour", desc := "(IJII)V" } : Jvm.MethodName) prog_2_method_7_code (7 : Nat) (Option.none : Option Jvm.ClassFile.FieldType)) ∈ lw_tbl := in_tb 1132 (by decide +kernel)
theorem wt_1133 : (Jvm.Cond.methodLinkNest "BranchingStory$Analyzer" (108 : Nat) ({ cls := "BranchingStory$Story", name := "has", desc := "(I)Z" } : Jvm.MethodName) "BranchingStory") ∈ lw_tbl := in_tb 1133 (by decide +kernel)
theorem wt_1134 : (Jvm.Cond.methodLinkNest "BranchingStory$Analyzer" (111 : Nat) ({ cls := "BranchingStory$Knowledge", name := "union", desc := "(JJ)J" } : Jvm.MethodName) "BranchingStory") ∈ lw_tbl := in_tb 1134 (by decide +kernel)
theorem wt_1135 : (Jvm.Cond.static ({ cls := "BranchingStory$Knowledge", name := "union", desc := "(JJ)J" } : Jvm.MethodName)) ∈ lw_tbl := in_tb 1135 (by decide +kernel)
theorem wt_1136 : (Jvm.Cond.code ({ cls := "BranchingStory$Knowledge", name := "union", desc := "(JJ)J" } : Jvm.MethodName) prog_5_method_10_code (7 : Nat) (Option.some Jvm.ClassFile.FieldType.long)) ∈ lw_tbl := in_tb 1136 (by decide +kernel)
theorem wt_1150 : (Jvm.Cond.methodLink "BranchingStory$Analyzer" (68 : Nat) ({ cls := "BranchingStory$Analyzer", name := "goThrough", desc := "(IJI)V" } : Jvm.MethodName)) ∈ lw_tbl := in_tb 1150 (by decide +kernel)
theorem wt_1152 : (Jvm.Cond.instanceMethod ({ cls := "BranchingStory$Analyzer", name := "goThrough", desc := "(IJI)V" } : Jvm.MethodName)) ∈ lw_tbl := in_tb 1152 (by decide +kernel)
theorem wt_1153 : (Jvm.Cond.code ({ cls := "BranchingStory$Analyzer", name := "goThrough", desc := "(IJI)V" } : Jvm.MethodName) prog_2_method_8_code (5 : Nat) (Option.none : Option Jvm.ClassFile.FieldType)) ∈ lw_tbl := in_tb 1153 (by decide +kernel)
theorem wt_1154 : (Jvm.Cond.methodLinkNest "BranchingStory$Analyzer" (118 : Nat) ({ cls := "BranchingStory$Knowledge", name := "withFlag", desc := "(JII)J" } : Jvm.MethodName) "BranchingStory") ∈ lw_tbl := in_tb 1154 (by decide +kernel)
theorem wt_1155 : (Jvm.Cond.static ({ cls := "BranchingStory$Knowledge", name := "withFlag", desc := "(JII)J" } : Jvm.MethodName)) ∈ lw_tbl := in_tb 1155 (by decide +kernel)
theorem wt_1156 : (Jvm.Cond.code ({ cls := "BranchingStory$Knowledge", name := "withFlag", desc := "(JII)J" } : Jvm.MethodName) prog_5_method_7_code (5 : Nat) (Option.some Jvm.ClassFile.FieldType.long)) ∈ lw_tbl := in_tb 1156 (by decide +kernel)
theorem wt_1158 : (Jvm.Cond.methodLink "BranchingStory$Analyzer" (122 : Nat) ({ cls := "BranchingStory$Analyzer", name := "goOn", desc := "(IJ)V" } : Jvm.MethodName)) ∈ lw_tbl := in_tb 1158 (by decide +kernel)
theorem wt_1160 : (Jvm.Cond.instanceMethod ({ cls := "BranchingStory$Analyzer", name := "goOn", desc := "(IJ)V" } : Jvm.MethodName)) ∈ lw_tbl := in_tb 1160 (by decide +kernel)
theorem wt_1161 : (Jvm.Cond.code ({ cls := "BranchingStory$Analyzer", name := "goOn", desc := "(IJ)V" } : Jvm.MethodName) prog_2_method_9_code (4 : Nat) (Option.none : Option Jvm.ClassFile.FieldType)) ∈ lw_tbl := in_tb 1161 (by decide +kernel)
theorem wt_1162 : (Jvm.Cond.methodLink "BranchingStory$Analyzer" (126 : Nat) ({ cls := "BranchingStory$Analyzer", name := "goThroughMeter", desc := "(IJI)V" } : Jvm.MethodName)) ∈ lw_tbl := in_tb 1162 (by decide +kernel)
theorem wt_1164 : (Jvm.Cond.instanceMethod ({ cls := "BranchingStory$Analyzer", name := "goThroughMeter", desc := "(IJI)V" } : Jvm.MethodName)) ∈ lw_tbl := in_tb 1164 (by decide +kernel)
theorem wt_1165 : (Jvm.Cond.code ({ cls := "BranchingStory$Analyzer", name := "goThroughMeter", desc := "(IJI)V" } : Jvm.MethodName) prog_2_method_10_code (8 : Nat) (Option.none : Option Jvm.ClassFile.FieldType)) ∈ lw_tbl := in_tb 1165 (by decide +kernel)
theorem wt_1166 : (Jvm.Cond.methodLinkNest "BranchingStory$Analyzer" (151 : Nat) ({ cls := "BranchingStory$Knowledge", name := "low", desc := "(JI)I" } : Jvm.MethodName) "BranchingStory") ∈ lw_tbl := in_tb 1166 (by decide +kernel)
theorem wt_1167 : (Jvm.Cond.methodLinkNest "BranchingStory$Analyzer" (158 : Nat) ({ cls := "BranchingStory", name := "changedMeter", desc := "(III)I" } : Jvm.MethodName) "BranchingStory") ∈ lw_tbl := in_tb 1167 (by decide +kernel)
theorem wt_1168 : (Jvm.Cond.methodLinkNest "BranchingStory$Analyzer" (162 : Nat) ({ cls := "BranchingStory$Knowledge", name := "high", desc := "(JI)I" } : Jvm.MethodName) "BranchingStory") ∈ lw_tbl := in_tb 1168 (by decide +kernel)
theorem wt_1169 : (Jvm.Cond.methodLinkNest "BranchingStory$Analyzer" (165 : Nat) ({ cls := "BranchingStory$Knowledge", name := "withRange", desc := "(JIII)J" } : Jvm.MethodName) "BranchingStory") ∈ lw_tbl := in_tb 1169 (by decide +kernel)
theorem wt_1170 : (Jvm.Cond.methodLink "BranchingStory$Analyzer" (129 : Nat) ({ cls := "BranchingStory$Analyzer", name := "goThroughTest", desc := "(IJI)V" } : Jvm.MethodName)) ∈ lw_tbl := in_tb 1170 (by decide +kernel)
theorem wt_1172 : (Jvm.Cond.instanceMethod ({ cls := "BranchingStory$Analyzer", name := "goThroughTest", desc := "(IJI)V" } : Jvm.MethodName)) ∈ lw_tbl := in_tb 1172 (by decide +kernel)
theorem wt_1173 : (Jvm.Cond.code ({ cls := "BranchingStory$Analyzer", name := "goThroughTest", desc := "(IJI)V" } : Jvm.MethodName) prog_2_method_11_code (10 : Nat) (Option.none : Option Jvm.ClassFile.FieldType)) ∈ lw_tbl := in_tb 1173 (by decide +kernel)
theorem wt_1174 : (Jvm.Cond.methodLink "BranchingStory$Analyzer" (169 : Nat) ({ cls := "BranchingStory$Analyzer", name := "truePart", desc := "(IJ)J" } : Jvm.MethodName)) ∈ lw_tbl := in_tb 1174 (by decide +kernel)
theorem wt_1176 : (Jvm.Cond.instanceMethod ({ cls := "BranchingStory$Analyzer", name := "truePart", desc := "(IJ)J" } : Jvm.MethodName)) ∈ lw_tbl := in_tb 1176 (by decide +kernel)
theorem wt_1177 : (Jvm.Cond.code ({ cls := "BranchingStory$Analyzer", name := "truePart", desc := "(IJ)J" } : Jvm.MethodName) prog_2_method_13_code (4 : Nat) (Option.some Jvm.ClassFile.FieldType.long)) ∈ lw_tbl := in_tb 1177 (by decide +kernel)
theorem wt_1178 : (Jvm.Cond.methodLinkNest "BranchingStory$Analyzer" (199 : Nat) ({ cls := "BranchingStory$Terms", name := "truePart", desc := "(IIJ)J" } : Jvm.MethodName) "BranchingStory") ∈ lw_tbl := in_tb 1178 (by decide +kernel)
theorem wt_1180 : (Jvm.Cond.instanceMethod ({ cls := "BranchingStory$Terms", name := "truePart", desc := "(IIJ)J" } : Jvm.MethodName)) ∈ lw_tbl := in_tb 1180 (by decide +kernel)
theorem wt_1181 : (Jvm.Cond.code ({ cls := "BranchingStory$Terms", name := "truePart", desc := "(IIJ)J" } : Jvm.MethodName) prog_10_method_5_code (9 : Nat) (Option.some Jvm.ClassFile.FieldType.long)) ∈ lw_tbl := in_tb 1181 (by decide +kernel)
theorem wt_1192 : (Jvm.Cond.methodLink "BranchingStory$Analyzer" (173 : Nat) ({ cls := "BranchingStory$Analyzer", name := "falsePart", desc := "(IJ)J" } : Jvm.MethodName)) ∈ lw_tbl := in_tb 1192 (by decide +kernel)
theorem wt_1194 : (Jvm.Cond.instanceMethod ({ cls := "BranchingStory$Analyzer", name := "falsePart", desc := "(IJ)J" } : Jvm.MethodName)) ∈ lw_tbl := in_tb 1194 (by decide +kernel)
theorem wt_1195 : (Jvm.Cond.code ({ cls := "BranchingStory$Analyzer", name := "falsePart", desc := "(IJ)J" } : Jvm.MethodName) prog_2_method_14_code (4 : Nat) (Option.some Jvm.ClassFile.FieldType.long)) ∈ lw_tbl := in_tb 1195 (by decide +kernel)
theorem wt_1196 : (Jvm.Cond.methodLinkNest "BranchingStory$Analyzer" (204 : Nat) ({ cls := "BranchingStory$Terms", name := "falsePart", desc := "(IIJ)J" } : Jvm.MethodName) "BranchingStory") ∈ lw_tbl := in_tb 1196 (by decide +kernel)
theorem wt_1198 : (Jvm.Cond.instanceMethod ({ cls := "BranchingStory$Terms", name := "falsePart", desc := "(IIJ)J" } : Jvm.MethodName)) ∈ lw_tbl := in_tb 1198 (by decide +kernel)
theorem wt_1199 : (Jvm.Cond.code ({ cls := "BranchingStory$Terms", name := "falsePart", desc := "(IIJ)J" } : Jvm.MethodName) prog_10_method_6_code (6 : Nat) (Option.some Jvm.ClassFile.FieldType.long)) ∈ lw_tbl := in_tb 1199 (by decide +kernel)
theorem wt_1204 : (Jvm.Cond.methodLinkNest "BranchingStory$Analyzer" (176 : Nat) ({ cls := "BranchingStory", name := "putEntry", desc := "([III)V" } : Jvm.MethodName) "BranchingStory") ∈ lw_tbl := in_tb 1204 (by decide +kernel)
theorem wt_1205 : (Jvm.Cond.methodLink "BranchingStory$Analyzer" (132 : Nat) ({ cls := "BranchingStory$Analyzer", name := "goThroughChoice", desc := "(IJI)V" } : Jvm.MethodName)) ∈ lw_tbl := in_tb 1205 (by decide +kernel)
theorem wt_1207 : (Jvm.Cond.instanceMethod ({ cls := "BranchingStory$Analyzer", name := "goThroughChoice", desc := "(IJI)V" } : Jvm.MethodName)) ∈ lw_tbl := in_tb 1207 (by decide +kernel)
theorem wt_1208 : (Jvm.Cond.code ({ cls := "BranchingStory$Analyzer", name := "goThroughChoice", desc := "(IJI)V" } : Jvm.MethodName) prog_2_method_12_code (6 : Nat) (Option.none : Option Jvm.ClassFile.FieldType)) ∈ lw_tbl := in_tb 1208 (by decide +kernel)
theorem wt_1209 : (Jvm.Cond.methodLinkNest "BranchingStory$Analyzer" (192 : Nat) ({ cls := "BranchingStory$Story", name := "standsInHub", desc := "(I)Z" } : Jvm.MethodName) "BranchingStory") ∈ lw_tbl := in_tb 1209 (by decide +kernel)
theorem wt_1210 : (Jvm.Cond.methodLink "BranchingStory$Analyzer" (135 : Nat) ({ cls := "BranchingStory$Analyzer", name := "joinNode", desc := "(IJ)V" } : Jvm.MethodName)) ∈ lw_tbl := in_tb 1210 (by decide +kernel)
theorem wt_1212 : (Jvm.Cond.instanceMethod ({ cls := "BranchingStory$Analyzer", name := "joinNode", desc := "(IJ)V" } : Jvm.MethodName)) ∈ lw_tbl := in_tb 1212 (by decide +kernel)
theorem wt_1213 : (Jvm.Cond.code ({ cls := "BranchingStory$Analyzer", name := "joinNode", desc := "(IJ)V" } : Jvm.MethodName) prog_2_method_18_code (6 : Nat) (Option.none : Option Jvm.ClassFile.FieldType)) ∈ lw_tbl := in_tb 1213 (by decide +kernel)
theorem wt_1214 : (Jvm.Cond.methodLink "BranchingStory$Analyzer" (138 : Nat) ({ cls := "BranchingStory$Analyzer", name := "goToHubs", desc := "(JI)V" } : Jvm.MethodName)) ∈ lw_tbl := in_tb 1214 (by decide +kernel)
theorem wt_1216 : (Jvm.Cond.instanceMethod ({ cls := "BranchingStory$Analyzer", name := "goToHubs", desc := "(JI)V" } : Jvm.MethodName)) ∈ lw_tbl := in_tb 1216 (by decide +kernel)
theorem wt_1217 : (Jvm.Cond.code ({ cls := "BranchingStory$Analyzer", name := "goToHubs", desc := "(JI)V" } : Jvm.MethodName) prog_2_method_15_code (6 : Nat) (Option.none : Option Jvm.ClassFile.FieldType)) ∈ lw_tbl := in_tb 1217 (by decide +kernel)
theorem wt_1218 : (Jvm.Cond.methodLinkNest "BranchingStory$Analyzer" (206 : Nat) ({ cls := "BranchingStory$Knowledge", name := "hubSet", desc := "(J)I" } : Jvm.MethodName) "BranchingStory") ∈ lw_tbl := in_tb 1218 (by decide +kernel)
theorem wt_1219 : (Jvm.Cond.static ({ cls := "BranchingStory$Knowledge", name := "hubSet", desc := "(J)I" } : Jvm.MethodName)) ∈ lw_tbl := in_tb 1219 (by decide +kernel)
theorem wt_1220 : (Jvm.Cond.code ({ cls := "BranchingStory$Knowledge", name := "hubSet", desc := "(J)I" } : Jvm.MethodName) prog_5_method_5_code (2 : Nat) (Option.some Jvm.ClassFile.FieldType.int)) ∈ lw_tbl := in_tb 1220 (by decide +kernel)
theorem wt_1222 : (Jvm.Cond.methodLink "BranchingStory$Analyzer" (142 : Nat) ({ cls := "BranchingStory$Analyzer", name := "endNode", desc := "(IJI)V" } : Jvm.MethodName)) ∈ lw_tbl := in_tb 1222 (by decide +kernel)
theorem wt_1224 : (Jvm.Cond.instanceMethod ({ cls := "BranchingStory$Analyzer", name := "endNode", desc := "(IJI)V" } : Jvm.MethodName)) ∈ lw_tbl := in_tb 1224 (by decide +kernel)
theorem wt_1225 : (Jvm.Cond.code ({ cls := "BranchingStory$Analyzer", name := "endNode", desc := "(IJI)V" } : Jvm.MethodName) prog_2_method_16_code (5 : Nat) (Option.none : Option Jvm.ClassFile.FieldType)) ∈ lw_tbl := in_tb 1225 (by decide +kernel)
theorem wt_1226 : (Jvm.Cond.methodLink "BranchingStory$Analyzer" (210 : Nat) ({ cls := "BranchingStory$Analyzer", name := "joinChoices", desc := "(IJ)V" } : Jvm.MethodName)) ∈ lw_tbl := in_tb 1226 (by decide +kernel)
theorem wt_1228 : (Jvm.Cond.instanceMethod ({ cls := "BranchingStory$Analyzer", name := "joinChoices", desc := "(IJ)V" } : Jvm.MethodName)) ∈ lw_tbl := in_tb 1228 (by decide +kernel)
theorem wt_1229 : (Jvm.Cond.code ({ cls := "BranchingStory$Analyzer", name := "joinChoices", desc := "(IJ)V" } : Jvm.MethodName) prog_2_method_19_code (7 : Nat) (Option.none : Option Jvm.ClassFile.FieldType)) ∈ lw_tbl := in_tb 1229 (by decide +kernel)
theorem wt_1230 : (Jvm.Cond.methodLink "BranchingStory$Analyzer" (145 : Nat) ({ cls := "BranchingStory$Analyzer", name := "endChoice", desc := "(IJI)V" } : Jvm.MethodName)) ∈ lw_tbl := in_tb 1230 (by decide +kernel)
theorem wt_1232 : (Jvm.Cond.instanceMethod ({ cls := "BranchingStory$Analyzer", name := "endChoice", desc := "(IJI)V" } : Jvm.MethodName)) ∈ lw_tbl := in_tb 1232 (by decide +kernel)
theorem wt_1233 : (Jvm.Cond.code ({ cls := "BranchingStory$Analyzer", name := "endChoice", desc := "(IJI)V" } : Jvm.MethodName) prog_2_method_17_code (5 : Nat) (Option.none : Option Jvm.ClassFile.FieldType)) ∈ lw_tbl := in_tb 1233 (by decide +kernel)
theorem wt_1234 : (Jvm.Cond.methodLinkNest "BranchingStory$Analyzer" (216 : Nat) ({ cls := "BranchingStory", name := "entryOf", desc := "([II)I" } : Jvm.MethodName) "BranchingStory") ∈ lw_tbl := in_tb 1234 (by decide +kernel)
theorem fl_X0_9 : FL RX0 9 0 3 := ⟨RX0, TX0, 11, rfl, by decide, inX0, Or.inl wt_380⟩
theorem fl_X0_15 : FL RX0 15 0 4 := ⟨RX0, TX0, 11, rfl, by decide, inX0, Or.inl wt_382⟩
theorem fl_X0_18 : FL RX0 18 0 5 := ⟨RX0, TX0, 11, rfl, by decide, inX0, Or.inl wt_384⟩
theorem fl_X0_21 : FL RX0 21 0 6 := ⟨RX0, TX0, 11, rfl, by decide, inX0, Or.inl wt_385⟩
theorem fl_X0_25 : FL RX0 25 0 7 := ⟨RX0, TX0, 11, rfl, by decide, inX0, Or.inl wt_386⟩
theorem fl_X0_28 : FL RX0 28 0 8 := ⟨RX0, TX0, 11, rfl, by decide, inX0, Or.inl wt_387⟩
theorem fl_X0_31 : FL RX0 31 0 0 := ⟨RX0, TX0, 11, rfl, by decide, inX0, Or.inl wt_376⟩
theorem fl_X0_35 : FL RX0 35 0 1 := ⟨RX0, TX0, 11, rfl, by decide, inX0, Or.inl wt_377⟩
theorem fl_X0_53 : FL RX0 53 0 2 := ⟨RX0, TX0, 11, rfl, by decide, inX0, Or.inl wt_379⟩
theorem fl_X0_59 : FL RX0 59 6 0 := ⟨RX7, TX7, 19, rfl, by decide, inX7, Or.inr ⟨_, wt_59⟩⟩
theorem fl_X0_65 : FL RX0 65 6 2 := ⟨RX7, TX7, 19, rfl, by decide, inX7, Or.inr ⟨_, wt_66⟩⟩
theorem fl_X0_72 : FL RX0 72 0 9 := ⟨RX0, TX0, 11, rfl, by decide, inX0, Or.inl wt_389⟩
theorem fl_X0_75 : FL RX0 75 0 10 := ⟨RX0, TX0, 11, rfl, by decide, inX0, Or.inl wt_391⟩
theorem fl_X0_84 : FL RX0 84 6 10 := ⟨RX7, TX7, 19, rfl, by decide, inX7, Or.inr ⟨_, wt_98⟩⟩
theorem fl_X0_95 : FL RX0 95 6 12 := ⟨RX7, TX7, 19, rfl, by decide, inX7, Or.inr ⟨_, wt_103⟩⟩
theorem fl_X0_102 : FL RX0 102 6 14 := ⟨RX7, TX7, 19, rfl, by decide, inX7, Or.inr ⟨_, wt_110⟩⟩
theorem fl_X0_105 : FL RX0 105 6 17 := ⟨RX7, TX7, 19, rfl, by decide, inX7, Or.inr ⟨_, wt_121⟩⟩
theorem fl_X0_115 : FL RX0 115 6 1 := ⟨RX7, TX7, 19, rfl, by decide, inX7, Or.inr ⟨_, wt_62⟩⟩
theorem fl_X0_148 : FL RX0 148 6 4 := ⟨RX7, TX7, 19, rfl, by decide, inX7, Or.inr ⟨_, wt_73⟩⟩
theorem fl_X0_155 : FL RX0 155 6 3 := ⟨RX7, TX7, 19, rfl, by decide, inX7, Or.inr ⟨_, wt_71⟩⟩
theorem fl_X0_180 : FL RX0 180 6 5 := ⟨RX7, TX7, 19, rfl, by decide, inX7, Or.inr ⟨_, wt_78⟩⟩
theorem fl_X0_183 : FL RX0 183 6 6 := ⟨RX7, TX7, 19, rfl, by decide, inX7, Or.inr ⟨_, wt_82⟩⟩
theorem fl_X0_186 : FL RX0 186 6 7 := ⟨RX7, TX7, 19, rfl, by decide, inX7, Or.inr ⟨_, wt_86⟩⟩
theorem fl_X0_189 : FL RX0 189 6 8 := ⟨RX7, TX7, 19, rfl, by decide, inX7, Or.inr ⟨_, wt_89⟩⟩
theorem fl_X0_195 : FL RX0 195 6 9 := ⟨RX7, TX7, 19, rfl, by decide, inX7, Or.inr ⟨_, wt_93⟩⟩
theorem fl_X0_213 : FL RX0 213 6 16 := ⟨RX7, TX7, 19, rfl, by decide, inX7, Or.inr ⟨_, wt_117⟩⟩
theorem fl_X9_9 : FL RX9 9 8 0 := ⟨RX9, TX9, 9, rfl, by decide, inX9, Or.inl wt_416⟩
theorem fl_X9_20 : FL RX9 20 8 3 := ⟨RX9, TX9, 9, rfl, by decide, inX9, Or.inl wt_419⟩
theorem fl_X9_28 : FL RX9 28 8 4 := ⟨RX9, TX9, 9, rfl, by decide, inX9, Or.inl wt_420⟩
theorem fl_X9_35 : FL RX9 35 8 5 := ⟨RX9, TX9, 9, rfl, by decide, inX9, Or.inl wt_421⟩
theorem fl_X9_67 : FL RX9 67 8 1 := ⟨RX9, TX9, 9, rfl, by decide, inX9, Or.inl wt_417⟩
theorem fl_X9_126 : FL RX9 126 4 1 := ⟨RX5, TX5, 11, rfl, by decide, inX5, Or.inr ⟨_, wt_244⟩⟩
theorem fl_X9_149 : FL RX9 149 4 2 := ⟨RX5, TX5, 11, rfl, by decide, inX5, Or.inr ⟨_, wt_247⟩⟩
theorem fl_X9_152 : FL RX9 152 4 3 := ⟨RX5, TX5, 11, rfl, by decide, inX5, Or.inr ⟨_, wt_249⟩⟩
theorem fl_X9_155 : FL RX9 155 4 4 := ⟨RX5, TX5, 11, rfl, by decide, inX5, Or.inr ⟨_, wt_251⟩⟩
theorem fl_X9_158 : FL RX9 158 4 8 := ⟨RX5, TX5, 11, rfl, by decide, inX5, Or.inr ⟨_, wt_259⟩⟩
theorem fl_X9_186 : FL RX9 186 4 10 := ⟨RX5, TX5, 11, rfl, by decide, inX5, Or.inr ⟨_, wt_264⟩⟩
theorem fl_X9_190 : FL RX9 190 3 0 := ⟨RX4, TX4, 3, rfl, by decide, inX4, Or.inr ⟨_, wt_229⟩⟩
theorem fp_X0_31 : FP RX0 31 0 0 (.object "BranchingStory$Story") := ⟨RX0, TX0, 11, tyX0, rfl, by decide, inX0, tyX0_ok, nmX0, rfl, by decide +kernel, Or.inl wt_376⟩
theorem fp_X0_35 : FP RX0 35 0 1 .boolean := ⟨RX0, TX0, 11, tyX0, rfl, by decide, inX0, tyX0_ok, nmX0, rfl, by decide +kernel, Or.inl wt_377⟩
theorem fp_X0_53 : FP RX0 53 0 2 .boolean := ⟨RX0, TX0, 11, tyX0, rfl, by decide, inX0, tyX0_ok, nmX0, rfl, by decide +kernel, Or.inl wt_379⟩
theorem fp_X0_72 : FP RX0 72 0 9 .int := ⟨RX0, TX0, 11, tyX0, rfl, by decide, inX0, tyX0_ok, nmX0, rfl, by decide +kernel, Or.inl wt_389⟩
theorem fp_X0_75 : FP RX0 75 0 10 .int := ⟨RX0, TX0, 11, tyX0, rfl, by decide, inX0, tyX0_ok, nmX0, rfl, by decide +kernel, Or.inl wt_391⟩
theorem fp_X9_67 : FP RX9 67 8 1 .int := ⟨RX9, TX9, 9, tyX9, rfl, by decide, inX9, tyX9_ok, nmX9, rfl, by decide +kernel, Or.inl wt_417⟩
theorem cs_X0_41 : CSw RX0 41 yJA_fillL cJA_fillL 5 none 2 := ⟨Or.inl wt_764, wt_765, wt_16, wt_766, by decide, by decide, by decide +kernel⟩
theorem cs_X0_47 : CVw RX0 47 yX0_forget cX0_forget 2 none 1 := ⟨Or.inl wt_1113, wt_762, in_sl (n := 11) 38 (by decide +kernel), wt_9, wt_763, by decide, by decide, by decide +kernel⟩
theorem cs_X0_56 : CVw RX0 56 yX0_beginSweep cX0_beginSweep 1 none 0 := ⟨Or.inl wt_1115, wt_1117, in_sl (n := 11) 72 (by decide +kernel), wt_9, wt_1118, by decide, by decide, by decide +kernel⟩
theorem cs_X0_68 : CVw RX0 68 yX0_goThrough cX0_goThrough 5 none 3 := ⟨Or.inl wt_1150, wt_1152, in_sl (n := 11) 75 (by decide +kernel), wt_9, wt_1153, by decide, by decide, by decide +kernel⟩
theorem cs_X0_78 : CSw RX0 78 yJA_fillI cJA_fillI 4 none 2 := ⟨Or.inl wt_1119, wt_465, wt_16, wt_466, by decide, by decide, by decide +kernel⟩
theorem cs_X0_81 : CVw RX0 81 yX0_pourEntries cX0_pourEntries 4 none 0 := ⟨Or.inl wt_1120, wt_1122, in_sl (n := 11) 73 (by decide +kernel), wt_9, wt_1123, by decide, by decide, by decide +kernel⟩
theorem cs_X0_87 : CVw RX0 87 yX7_standsAsHub cX7_standsAsHub 2 (some .boolean) 1 := ⟨Or.inr ⟨_, wt_1124⟩, wt_812, in_sl (n := 19) 40 (by decide +kernel), wt_2, wt_813, by decide, by decide, by decide +kernel⟩
theorem cs_X0_91 : CSw RX0 91 yX3_withHubs cX3_withHubs 3 (some .long) 2 := ⟨Or.inr ⟨_, wt_1125⟩, wt_1126, wt_21, wt_1127, by decide, by decide, by decide +kernel⟩
theorem cs_X0_98 : CVw RX0 98 yX0_pour cX0_pour 7 none 4 := ⟨Or.inl wt_1129, wt_1131, in_sl (n := 11) 74 (by decide +kernel), wt_9, wt_1132, by decide, by decide, by decide +kernel⟩
theorem cs_X0_108 : CVw RX0 108 yX7_has cX7_has 2 (some .boolean) 1 := ⟨Or.inr ⟨_, wt_1133⟩, wt_528, in_sl (n := 19) 14 (by decide +kernel), wt_2, wt_529, by decide, by decide, by decide +kernel⟩
theorem cs_X0_111 : CSw RX0 111 yX3_union cX3_union 7 (some .long) 2 := ⟨Or.inr ⟨_, wt_1134⟩, wt_1135, wt_21, wt_1136, by decide, by decide, by decide +kernel⟩
theorem cs_X0_118 : CSw RX0 118 yX3_withFlag cX3_withFlag 5 (some .long) 3 := ⟨Or.inr ⟨_, wt_1154⟩, wt_1155, wt_21, wt_1156, by decide, by decide, by decide +kernel⟩
theorem cs_X0_122 : CVw RX0 122 yX0_goOn cX0_goOn 4 none 2 := ⟨Or.inl wt_1158, wt_1160, in_sl (n := 11) 76 (by decide +kernel), wt_9, wt_1161, by decide, by decide, by decide +kernel⟩
theorem cs_X0_126 : CVw RX0 126 yX0_goThroughMeter cX0_goThroughMeter 8 none 3 := ⟨Or.inl wt_1162, wt_1164, in_sl (n := 11) 77 (by decide +kernel), wt_9, wt_1165, by decide, by decide, by decide +kernel⟩
theorem cs_X0_129 : CVw RX0 129 yX0_goThroughTest cX0_goThroughTest 10 none 3 := ⟨Or.inl wt_1170, wt_1172, in_sl (n := 11) 78 (by decide +kernel), wt_9, wt_1173, by decide, by decide, by decide +kernel⟩
theorem cs_X0_132 : CVw RX0 132 yX0_goThroughChoice cX0_goThroughChoice 6 none 3 := ⟨Or.inl wt_1205, wt_1207, in_sl (n := 11) 85 (by decide +kernel), wt_9, wt_1208, by decide, by decide, by decide +kernel⟩
theorem cs_X0_135 : CVw RX0 135 yX0_joinNode cX0_joinNode 6 none 2 := ⟨Or.inl wt_1210, wt_1212, in_sl (n := 11) 86 (by decide +kernel), wt_9, wt_1213, by decide, by decide, by decide +kernel⟩
theorem cs_X0_138 : CVw RX0 138 yX0_goToHubs cX0_goToHubs 6 none 2 := ⟨Or.inl wt_1214, wt_1216, in_sl (n := 11) 87 (by decide +kernel), wt_9, wt_1217, by decide, by decide, by decide +kernel⟩
theorem cs_X0_142 : CVw RX0 142 yX0_endNode cX0_endNode 5 none 3 := ⟨Or.inl wt_1222, wt_1224, in_sl (n := 11) 88 (by decide +kernel), wt_9, wt_1225, by decide, by decide, by decide +kernel⟩
theorem cs_X0_145 : CVw RX0 145 yX0_endChoice cX0_endChoice 5 none 3 := ⟨Or.inl wt_1230, wt_1232, in_sl (n := 11) 90 (by decide +kernel), wt_9, wt_1233, by decide, by decide, by decide +kernel⟩
theorem cs_X0_151 : CSw RX0 151 yX3_low cX3_low 3 (some .int) 2 := ⟨Or.inr ⟨_, wt_1166⟩, wt_1138, wt_21, wt_1139, by decide, by decide, by decide +kernel⟩
theorem cs_X0_158 : CSw RX0 158 yX9_changedMeter cX9_changedMeter 3 (some .int) 3 := ⟨Or.inr ⟨_, wt_1167⟩, wt_888, wt_1, wt_889, by decide, by decide, by decide +kernel⟩
theorem cs_X0_162 : CSw RX0 162 yX3_high cX3_high 3 (some .int) 2 := ⟨Or.inr ⟨_, wt_1168⟩, wt_1143, wt_21, wt_1144, by decide, by decide, by decide +kernel⟩
theorem cs_X0_165 : CSw RX0 165 yX3_withRange cX3_withRange 9 (some .long) 4 := ⟨Or.inr ⟨_, wt_1169⟩, wt_1147, wt_21, wt_1148, by decide, by decide, by decide +kernel⟩
theorem cs_X0_169 : CVw RX0 169 yX0_truePart cX0_truePart 4 (some .long) 2 := ⟨Or.inl wt_1174, wt_1176, in_sl (n := 11) 79 (by decide +kernel), wt_9, wt_1177, by decide, by decide, by decide +kernel⟩
theorem cs_X0_173 : CVw RX0 173 yX0_falsePart cX0_falsePart 4 (some .long) 2 := ⟨Or.inl wt_1192, wt_1194, in_sl (n := 11) 82 (by decide +kernel), wt_9, wt_1195, by decide, by decide, by decide +kernel⟩
theorem cs_X0_176 : CSw RX0 176 yX9_putEntry cX9_putEntry 3 none 3 := ⟨Or.inr ⟨_, wt_1204⟩, wt_531, wt_1, wt_532, by decide, by decide, by decide +kernel⟩
theorem cs_X0_192 : CVw RX0 192 yX7_standsInHub cX7_standsInHub 2 (some .boolean) 1 := ⟨Or.inr ⟨_, wt_1209⟩, wt_942, in_sl (n := 19) 59 (by decide +kernel), wt_2, wt_943, by decide, by decide, by decide +kernel⟩
theorem cs_X0_199 : CVw RX0 199 yX8_truePart cX8_truePart 9 (some .long) 3 := ⟨Or.inr ⟨_, wt_1178⟩, wt_1180, in_sl (n := 4) 80 (by decide +kernel), wt_3, wt_1181, by decide, by decide, by decide +kernel⟩
theorem cs_X0_204 : CVw RX0 204 yX8_falsePart cX8_falsePart 6 (some .long) 3 := ⟨Or.inr ⟨_, wt_1196⟩, wt_1198, in_sl (n := 4) 83 (by decide +kernel), wt_3, wt_1199, by decide, by decide, by decide +kernel⟩
theorem cs_X0_206 : CSw RX0 206 yX3_hubSet cX3_hubSet 2 (some .int) 1 := ⟨Or.inr ⟨_, wt_1218⟩, wt_1219, wt_21, wt_1220, by decide, by decide, by decide +kernel⟩
theorem cs_X0_210 : CVw RX0 210 yX0_joinChoices cX0_joinChoices 7 none 2 := ⟨Or.inl wt_1226, wt_1228, in_sl (n := 11) 89 (by decide +kernel), wt_9, wt_1229, by decide, by decide, by decide +kernel⟩
theorem cs_X0_216 : CSw RX0 216 yX9_entryOf cX9_entryOf 2 (some .int) 2 := ⟨Or.inr ⟨_, wt_1234⟩, wt_520, wt_1, wt_521, by decide, by decide, by decide +kernel⟩
theorem cs_X9_76 : CVw RX9 76 yX6_read cX6_read 6 (some .int) 3 := ⟨Or.inr ⟨_, wt_452⟩, wt_454, in_sl (n := 14) 0 (by decide +kernel), wt_4, wt_455, by decide, by decide, by decide +kernel⟩
theorem cs_X9_161 : CSw RX9 161 yJI_bitCount cJI_bitCount 1 (some .int) 1 := ⟨Or.inl wt_631, wt_632, wt_19, wt_633, by decide, by decide, by decide +kernel⟩
/-! BranchingStory$Explorer.positionOnWay(II)I -/
def f_X1_positionOnWay_L36 (Q : St → Int → Prop) : Nat → St → Int → Int → Int → Int → Prop
  | 0, _, _, _, _, _ => False
  | n + 1, σ, v3, v4, v5, v6 => inR v6 ∧ inR v5 ∧ ((v5 ≤ v6 → Q σ v3) ∧ (¬ v5 ≤ v6 → inR v4 ∧ ((v4 = (-1) → Q σ v3) ∧ (¬ v4 = (-1) → f_X9_entryOf 55 v4 σ (fun σ1 r1 => f_X9_entryOf 54 v4 σ1 (fun σ2 r2 => f_X1_positionOnWay_L36 Q n σ2 r1 r2 v5 (v6 + 1)))))))
def f_X1_positionOnWay (a0 : Int) (a1 : Int) (σ : St) (Q : St → Int → Prop) : Prop :=
  f_X9_entryOf 59 a0 σ (fun σ1 r1 => f_X9_entryOf 58 a0 σ1 (fun σ2 r2 => f_X9_entryOf 60 a0 σ2 (fun σ3 r3 => ∀ x1 : Int, x1 = ((r3 - 1) - a1) → f_X1_positionOnWay_L36 Q FU σ3 r1 r2 x1 0)))
set_option maxRecDepth 100000 in
set_option maxHeartbeats 4000000 in
theorem w_X1_positionOnWay_L36 {X : Cx} {Y : Cy} {Q : St → Int → Prop} (ok : Ok X Y KC cX1_positionOnWay 7 RX1 (rm0q 1 21) (some .int)) : ∀ (n : Nat) (σ : St) (v3 : Int) (v4 : Int) (v5 : Int) (v6 : Int) , f_X1_positionOnWay_L36 Q n σ v3 v4 v5 v6 → Wq X Y KC 7 (QF X Y (Qiq Y KC Q)) σ 36 [(0, .inr (.inr 52)), (3, .inl v3), (4, .inl v4), (5, .inl v5), (6, .inl v6)] [] := by
  intro n
  induction n with
  | zero => intro σ v3 v4 v5 v6 h; exact h.elim
  | succ n ih =>
    intro σ v3 v4 v5 v6 h
    rw [f_X1_positionOnWay_L36] at h
    refine q_iload ok dX1_positionOnWay_36 4 rfl ?_
    refine q_iload ok dX1_positionOnWay_38 3 rfl ?_
    obtain ⟨g1, g2, hT2a, hT2b⟩ := h
    refine q_icmp_ge (tgt := 76) ok dX1_positionOnWay_40 (by decide) g1 g2 (fun c2 => ?_) (fun c2 => ?_)
    · have h := hT2a c2
      refine q_iload_n ok dX1_positionOnWay_76 1 rfl ?_
      exact q_iret ok dX1_positionOnWay_77 h
    · have h := hT2b c2
      refine q_iload ok dX1_positionOnWay_43 2 rfl ?_
      refine q_iconst ok dX1_positionOnWay_45 ?_
      obtain ⟨g3, hT1a, hT1b⟩ := h
      refine q_icmp_eq (tgt := 76) ok dX1_positionOnWay_46 (by decide) g3 (by unfold inR; decide) (fun c1 => ?_) (fun c1 => ?_)
      · have h := hT1a c1
        refine q_iload_n ok dX1_positionOnWay_76 1 rfl ?_
        exact q_iret ok dX1_positionOnWay_77 h
      · have h := hT1b c1
        refine q_aload_n ok dX1_positionOnWay_49 0 rfl ?_
        refine q_getC ok fl_X1_19 kC_52 fC_52_8 dX1_positionOnWay_50 ?_
        refine q_iload ok dX1_positionOnWay_53 2 rfl ?_
        refine q_callSI (st := []) ok cs_X1_127 (c_X9_entryOf X.2.1 Y ok.2.2.2.2.2.2.2.2 h) ⟨rfl, rfl, Nat.le_of_ble_eq_true rfl, Nat.le_of_ble_eq_true rfl⟩ rfl rfl (Nat.le_of_ble_eq_true rfl) dX1_positionOnWay_55 (fun σ1 r1 h => ?_)
        refine q_istore_n (lv' := [(3, .inl r1), (0, .inr (.inr 52)), (4, .inl v4), (5, .inl v5), (6, .inl v6)]) ok dX1_positionOnWay_58 (by decide) rfl ?_
        refine q_aload_n ok dX1_positionOnWay_59 1 rfl ?_
        refine q_getC ok fl_X1_15 kC_52 fC_52_7 dX1_positionOnWay_60 ?_
        refine q_iload ok dX1_positionOnWay_63 2 rfl ?_
        refine q_callSI (st := []) ok cs_X1_127 (c_X9_entryOf X.2.1 Y ok.2.2.2.2.2.2.2.2 h) ⟨rfl, rfl, Nat.le_of_ble_eq_true rfl, Nat.le_of_ble_eq_true rfl⟩ rfl rfl (Nat.le_of_ble_eq_true rfl) dX1_positionOnWay_65 (fun σ2 r2 h => ?_)
        refine q_istore (lv' := [(4, .inl r2), (3, .inl r1), (0, .inr (.inr 52)), (5, .inl v5), (6, .inl v6)]) ok dX1_positionOnWay_68 (by decide) rfl ?_
        refine q_iinc (lv' := [(6, .inl (v6 + 1)), (4, .inl r2), (3, .inl r1), (0, .inr (.inr 52)), (5, .inl v5)]) ok dX1_positionOnWay_70 4 rfl (by decide) rfl ?_
        refine q_goto (tgt := 36) ok dX1_positionOnWay_73 (by decide) ?_
        refine q_sub [3, 2, 1, 4, 0] rfl ?_
        exact ih σ2 r1 r2 v5 (v6 + 1) h
set_option maxRecDepth 100000 in
set_option maxHeartbeats 4000000 in
theorem c_X1_positionOnWay (l : Launch) (Y : Cy) (hD : ∀ σ, va_D Y.2.2.2 (wsOf KC Y.2.1 Y.2.2.1 σ)) {a0 : Int} {a1 : Int} {σ : St} {Q : St → Int → Prop} (h : f_X1_positionOnWay a0 a1 σ Q) : ConI l yX1_positionOnWay cX1_positionOnWay 7 .int (rm0q 1 21) Y KC σ [.inr (.inr 52), .inl a0, .inl a1] Q := con_of (lv := [(0, .inr (.inr 52)), (1, .inl a0), (2, .inl a1)]) (by decide) hD (Nat.le_of_ble_eq_true rfl) rfl (fun X _ ok => by
  have ok : Ok X Y KC cX1_positionOnWay 7 RX1 (rm0q 1 21) (some .int) := ok
  unfold f_X1_positionOnWay at h
  refine q_aload_n ok dX1_positionOnWay_0 0 rfl ?_
  refine q_getC ok fl_X1_31 kC_52 fC_52_12 dX1_positionOnWay_1 ?_
  refine q_iload_n ok dX1_positionOnWay_4 1 rfl ?_
  refine q_callSI (st := []) ok cs_X1_127 (c_X9_entryOf X.2.1 Y ok.2.2.2.2.2.2.2.2 h) ⟨rfl, rfl, Nat.le_of_ble_eq_true rfl, Nat.le_of_ble_eq_true rfl⟩ rfl rfl (Nat.le_of_ble_eq_true rfl) dX1_positionOnWay_5 (fun σ1 r1 h => ?_)
  refine q_istore_n (lv' := [(3, .inl r1), (0, .inr (.inr 52)), (1, .inl a0), (2, .inl a1)]) ok dX1_positionOnWay_8 (by decide) rfl ?_
  refine q_aload_n ok dX1_positionOnWay_9 1 rfl ?_
  refine q_getC ok fl_X1_28 kC_52 fC_52_11 dX1_positionOnWay_10 ?_
  refine q_iload_n ok dX1_positionOnWay_13 2 rfl ?_
  refine q_callSI (st := []) ok cs_X1_127 (c_X9_entryOf X.2.1 Y ok.2.2.2.2.2.2.2.2 h) ⟨rfl, rfl, Nat.le_of_ble_eq_true rfl, Nat.le_of_ble_eq_true rfl⟩ rfl rfl (Nat.le_of_ble_eq_true rfl) dX1_positionOnWay_14 (fun σ2 r2 h => ?_)
  refine q_istore (lv' := [(4, .inl r2), (3, .inl r1), (0, .inr (.inr 52)), (1, .inl a0), (2, .inl a1)]) ok dX1_positionOnWay_17 (by decide) rfl ?_
  refine q_aload_n ok dX1_positionOnWay_19 2 rfl ?_
  refine q_getC ok fl_X1_34 kC_52 fC_52_13 dX1_positionOnWay_20 ?_
  refine q_iload_n ok dX1_positionOnWay_23 3 rfl ?_
  refine q_callSI (st := []) ok cs_X1_127 (c_X9_entryOf X.2.1 Y ok.2.2.2.2.2.2.2.2 h) ⟨rfl, rfl, Nat.le_of_ble_eq_true rfl, Nat.le_of_ble_eq_true rfl⟩ rfl rfl (Nat.le_of_ble_eq_true rfl) dX1_positionOnWay_24 (fun σ3 r3 h => ?_)
  refine q_iconst ok dX1_positionOnWay_27 ?_
  refine q_isub ok dX1_positionOnWay_28 ?_
  refine q_iload_n ok dX1_positionOnWay_29 4 rfl ?_
  refine q_isub ok dX1_positionOnWay_30 ?_
  refine wq_i (fun x1 ex1 => ?_)
  have h := h x1 ex1
  refine q_istore (lv' := [(5, .inl x1), (4, .inl r2), (3, .inl r1), (0, .inr (.inr 52)), (1, .inl a0), (2, .inl a1)]) ok dX1_positionOnWay_31 (by decide) rfl ?_
  refine q_iconst ok dX1_positionOnWay_33 ?_
  refine q_istore (lv' := [(6, .inl 0), (5, .inl x1), (4, .inl r2), (3, .inl r1), (0, .inr (.inr 52)), (1, .inl a0), (2, .inl a1)]) ok dX1_positionOnWay_34 (by decide) rfl ?_
  refine q_sub [4, 3, 2, 1, 0] rfl ?_
  exact w_X1_positionOnWay_L36 ok FU σ3 r1 r2 x1 0 h)
/-! BranchingStory$Analyzer.forget(LBranchingStory$Story;)V -/
def f_X0_forget (a0 : Nat) (σ : St) (Q : St → Prop) : Prop :=
  ∀ σ1 : St, σ1 = sset σ 65 0 ((a0 : Nat) : Int) → ∀ σ2 : St, σ2 = sset σ1 65 1 0 → f_JA_fillL 66 0 σ2 (fun σ3 => f_JA_fillL 67 0 σ3 (fun σ4 => Q σ4))
set_option maxRecDepth 100000 in
set_option maxHeartbeats 4000000 in
theorem c_X0_forget (l : Launch) (Y : Cy) (hD : ∀ σ, va_D Y.2.2.2 (wsOf KC Y.2.1 Y.2.2.1 σ)) {a0 : Nat} {σ : St} {Q : St → Prop} (h : f_X0_forget a0 σ Q) : ConV l yX0_forget cX0_forget 2 (rm0q 1 24) Y KC σ [.inr (.inr 65), .inr (.inr a0)] Q := con_of (lv := [(0, .inr (.inr 65)), (1, .inr (.inr a0))]) (by decide) hD (Nat.le_of_ble_eq_true rfl) rfl (fun X _ ok => by
  have ok : Ok X Y KC cX0_forget 2 RX0 (rm0q 1 24) none := ok
  unfold f_X0_forget at h
  refine q_aload_n ok dX0_forget_0 0 rfl ?_
  refine q_aload_n ok dX0_forget_1 1 rfl ?_
  refine q_putR ok fp_X0_31 kC_65 fC_65_0 dX0_forget_2 (wq_s (fun σ1 eσ1 => ?_))
  have h := h σ1 eσ1
  refine q_aload_n ok dX0_forget_5 0 rfl ?_
  refine q_iconst ok dX0_forget_6 ?_
  refine q_putZ ok fp_X0_35 kC_65 fC_65_1 dX0_forget_7 (by decide) (wq_s (fun σ2 eσ2 => ?_))
  have h := h σ2 eσ2
  refine q_aload_n ok dX0_forget_10 0 rfl ?_
  refine q_getC ok fl_X0_9 kC_65 fC_65_3 dX0_forget_11 ?_
  refine q_lconst ok dX0_forget_14 0 rfl ?_
  refine q_callSV (st := []) ok cs_X0_41 (c_JA_fillL X.2.1 Y ok.2.2.2.2.2.2.2.2 h) ⟨rfl, rfl, Nat.le_of_ble_eq_true rfl, Nat.le_of_ble_eq_true rfl⟩ rfl rfl (Nat.le_of_ble_eq_true rfl) dX0_forget_15 (fun σ3 h => ?_)
  refine q_aload_n ok dX0_forget_18 0 rfl ?_
  refine q_getC ok fl_X0_15 kC_65 fC_65_4 dX0_forget_19 ?_
  refine q_lconst ok dX0_forget_22 0 rfl ?_
  refine q_callSV (st := []) ok cs_X0_41 (c_JA_fillL X.2.1 Y ok.2.2.2.2.2.2.2.2 h) ⟨rfl, rfl, Nat.le_of_ble_eq_true rfl, Nat.le_of_ble_eq_true rfl⟩ rfl rfl (Nat.le_of_ble_eq_true rfl) dX0_forget_23 (fun σ4 h => ?_)
  exact q_vret ok dX0_forget_26 h)
/-! BranchingStory$Analyzer.pour(IJII)V -/
def f_X0_pour_J76 (Q : St → Prop) (σ : St) (v1 : Int) (v5 : Int) (v6 : Int) (s1 : Int) (s2 : Int) : Prop :=
  0 ≤ s1 ∧ s1 < 400 ∧ ∀ σ1 : St, σ1 = sset σ 69 s1.toNat s2 → inR v6 ∧ ((v6 = 0 → 0 ≤ v1 ∧ v1 < 400 ∧ 0 ≤ v1 ∧ v1 < 400 ∧ ∀ σ2 : St, σ2 = sset σ1 70 v1.toNat (iand32 (σ1 70 v1.toNat) v5) → Q σ2) ∧ (¬ v6 = 0 → 0 ≤ v1 ∧ v1 < 400 ∧ ∀ σ3 : St, σ3 = sset σ1 70 v1.toNat v5 → Q σ3))
def f_X0_pour_J34 (Q : St → Prop) (σ : St) (v1 : Int) (v2 : Int) (v4 : Int) (v5 : Int) (s0 : Int) : Prop :=
  0 ≤ v1 ∧ v1 < 400 ∧ f_X3_union (σ 68 v1.toNat) v2 σ (fun σ1 r1 => 0 ≤ v1 ∧ v1 < 400 ∧ ∀ σ2 : St, σ2 = sset σ1 68 v1.toNat r1 → inR s0 ∧ ((s0 = 0 → 0 ≤ v1 ∧ v1 < 400 ∧ f_X0_pour_J76 Q σ2 v1 v5 s0 v1 (ior32 (σ2 69 v1.toNat) v4)) ∧ (¬ s0 = 0 → f_X0_pour_J76 Q σ2 v1 v5 s0 v1 v4)))
def f_X0_pour (a0 : Int) (a1 : Int) (a2 : Int) (a3 : Int) (σ : St) (Q : St → Prop) : Prop :=
  inR (lcmp64 a1 0) ∧ (((lcmp64 a1 0) = 0 → Q σ) ∧ (¬ (lcmp64 a1 0) = 0 → isS ((σ 65 0).toNat) ∧ f_X7_has ((σ 65 0).toNat) a0 σ (fun σ1 r1 => inR r1 ∧ ((¬ r1 = 0 → 0 ≤ a0 ∧ a0 < 400 ∧ inR (lcmp64 (σ1 68 a0.toNat) 0) ∧ ((¬ (lcmp64 (σ1 68 a0.toNat) 0) = 0 → f_X0_pour_J34 Q σ1 a0 a1 a2 a3 0) ∧ ((lcmp64 (σ1 68 a0.toNat) 0) = 0 → f_X0_pour_J34 Q σ1 a0 a1 a2 a3 1))) ∧ (r1 = 0 → Q σ1)))))
set_option maxRecDepth 100000 in
set_option maxHeartbeats 4000000 in
theorem w_X0_pour_J76 {X : Cx} {Y : Cy} {Q : St → Prop} (ok : Ok X Y KC cX0_pour 7 RX0 (rm0q 2 54) none) (σ : St) (v1 : Int) (v5 : Int) (v6 : Int) (s1 : Int) (s2 : Int) (h : f_X0_pour_J76 Q σ v1 v5 v6 s1 s2) : Wq X Y KC 7 (QF X Y (Qvq Y KC Q)) σ 76 [(0, .inr (.inr 65)), (1, .inl v1), (5, .inl v5), (6, .inl v6)] [.inl s2, .inl s1, .inr (.inr 69)] := by
  unfold f_X0_pour_J76 at h
  obtain ⟨g1, g2, h⟩ := h
  refine q_iast ok kC_ok kC_69 g1 g2 dX0_pour_76 (wq_s (fun σ1 eσ1 => ?_))
  have h := h σ1 eσ1
  refine q_aload_n ok dX0_pour_77 0 rfl ?_
  refine q_getC ok fl_X0_25 kC_65 fC_65_7 dX0_pour_78 ?_
  refine q_iload_n ok dX0_pour_81 1 rfl ?_
  refine q_iload ok dX0_pour_82 3 rfl ?_
  obtain ⟨g3, hT1a, hT1b⟩ := h
  refine q_if_eq (tgt := 92) ok dX0_pour_84 (by decide) g3 (fun c1 => ?_) (fun c1 => ?_)
  · have h := hT1a c1
    refine q_aload_n ok dX0_pour_92 0 rfl ?_
    refine q_getC ok fl_X0_25 kC_65 fC_65_7 dX0_pour_93 ?_
    refine q_iload_n ok dX0_pour_96 1 rfl ?_
    obtain ⟨g4, g5, h⟩ := h
    refine q_iald ok kC_ok kC_70 g4 g5 dX0_pour_97 ?_
    refine q_iload ok dX0_pour_98 2 rfl ?_
    refine q_iand ok dX0_pour_100 ?_
    obtain ⟨g6, g7, h⟩ := h
    refine q_iast ok kC_ok kC_70 g6 g7 dX0_pour_101 (wq_s (fun σ2 eσ2 => ?_))
    have h := h σ2 eσ2
    exact q_vret ok dX0_pour_102 h
  · have h := hT1b c1
    refine q_iload ok dX0_pour_87 2 rfl ?_
    refine q_goto (tgt := 101) ok dX0_pour_89 (by decide) ?_
    obtain ⟨g8, g9, h⟩ := h
    refine q_iast ok kC_ok kC_70 g8 g9 dX0_pour_101 (wq_s (fun σ3 eσ3 => ?_))
    have h := h σ3 eσ3
    exact q_vret ok dX0_pour_102 h
set_option maxRecDepth 100000 in
set_option maxHeartbeats 4000000 in
theorem w_X0_pour_J34 {X : Cx} {Y : Cy} {Q : St → Prop} (ok : Ok X Y KC cX0_pour 7 RX0 (rm0q 2 54) none) (σ : St) (v1 : Int) (v2 : Int) (v4 : Int) (v5 : Int) (s0 : Int) (h : f_X0_pour_J34 Q σ v1 v2 v4 v5 s0) : Wq X Y KC 7 (QF X Y (Qvq Y KC Q)) σ 34 [(0, .inr (.inr 65)), (1, .inl v1), (2, .inr (.inl v2)), (4, .inl v4), (5, .inl v5)] [.inl s0] := by
  unfold f_X0_pour_J34 at h
  refine q_istore (lv' := [(6, .inl s0), (0, .inr (.inr 65)), (1, .inl v1), (2, .inr (.inl v2)), (4, .inl v4), (5, .inl v5)]) ok dX0_pour_34 (by decide) rfl ?_
  refine q_aload_n ok dX0_pour_36 1 rfl ?_
  refine q_getC ok fl_X0_18 kC_65 fC_65_5 dX0_pour_37 ?_
  refine q_iload_n ok dX0_pour_40 2 rfl ?_
  refine q_aload_n ok dX0_pour_41 1 rfl ?_
  refine q_getC ok fl_X0_18 kC_65 fC_65_5 dX0_pour_42 ?_
  refine q_iload_n ok dX0_pour_45 2 rfl ?_
  obtain ⟨g1, g2, h⟩ := h
  refine q_lald ok kC_ok kC_68 g1 g2 dX0_pour_46 ?_
  refine q_lload_n ok dX0_pour_47 3 rfl ?_
  refine q_callSL (st := [.inl v1, .inr (.inr 68)]) ok cs_X0_111 (c_X3_union X.2.1 Y ok.2.2.2.2.2.2.2.2 h) ⟨rfl, rfl, Nat.le_of_ble_eq_true rfl, Nat.le_of_ble_eq_true rfl⟩ rfl rfl (Nat.le_of_ble_eq_true rfl) dX0_pour_48 (fun σ1 r1 h => ?_)
  obtain ⟨g3, g4, h⟩ := h
  refine q_last ok kC_ok kC_68 g3 g4 dX0_pour_51 (wq_s (fun σ2 eσ2 => ?_))
  have h := h σ2 eσ2
  refine q_aload_n ok dX0_pour_52 1 rfl ?_
  refine q_getC ok fl_X0_21 kC_65 fC_65_6 dX0_pour_53 ?_
  refine q_iload_n ok dX0_pour_56 2 rfl ?_
  refine q_iload ok dX0_pour_57 0 rfl ?_
  obtain ⟨g5, hT1a, hT1b⟩ := h
  refine q_if_eq (tgt := 67) ok dX0_pour_59 (by decide) g5 (fun c1 => ?_) (fun c1 => ?_)
  · have h := hT1a c1
    refine q_aload_n ok dX0_pour_67 1 rfl ?_
    refine q_getC ok fl_X0_21 kC_65 fC_65_6 dX0_pour_68 ?_
    refine q_iload_n ok dX0_pour_71 2 rfl ?_
    obtain ⟨g6, g7, h⟩ := h
    refine q_iald ok kC_ok kC_69 g6 g7 dX0_pour_72 ?_
    refine q_iload ok dX0_pour_73 4 rfl ?_
    refine q_ior ok dX0_pour_75 ?_
    refine q_sub [1, 2, 5, 0] rfl ?_
    exact w_X0_pour_J76 ok σ2 v1 v5 s0 v1 (ior32 (σ2 69 v1.toNat) v4) h
  · have h := hT1b c1
    refine q_iload ok dX0_pour_62 4 rfl ?_
    refine q_goto (tgt := 76) ok dX0_pour_64 (by decide) ?_
    refine q_sub [1, 2, 5, 0] rfl ?_
    exact w_X0_pour_J76 ok σ2 v1 v5 s0 v1 v4 h
set_option maxRecDepth 100000 in
set_option maxHeartbeats 4000000 in
theorem c_X0_pour (l : Launch) (Y : Cy) (hD : ∀ σ, va_D Y.2.2.2 (wsOf KC Y.2.1 Y.2.2.1 σ)) {a0 : Int} {a1 : Int} {a2 : Int} {a3 : Int} {σ : St} {Q : St → Prop} (h : f_X0_pour a0 a1 a2 a3 σ Q) : ConV l yX0_pour cX0_pour 7 (rm0q 2 54) Y KC σ [.inr (.inr 65), .inl a0, .inr (.inl a1), .inl a2, .inl a3] Q := con_of (lv := [(0, .inr (.inr 65)), (1, .inl a0), (2, .inr (.inl a1)), (4, .inl a2), (5, .inl a3)]) (by decide) hD (Nat.le_of_ble_eq_true rfl) rfl (fun X _ ok => by
  have ok : Ok X Y KC cX0_pour 7 RX0 (rm0q 2 54) none := ok
  unfold f_X0_pour at h
  refine q_lload_n ok dX0_pour_0 2 rfl ?_
  refine q_lconst ok dX0_pour_1 0 rfl ?_
  refine q_lcmp ok dX0_pour_2 ?_
  obtain ⟨g1, hT3a, hT3b⟩ := h
  refine q_if_eq (tgt := 17) ok dX0_pour_3 (by decide) g1 (fun c3 => ?_) (fun c3 => ?_)
  · have h := hT3a c3
    exact q_vret ok dX0_pour_17 h
  · have h := hT3b c3
    refine q_aload_n ok dX0_pour_6 0 rfl ?_
    refine q_getR ok fl_X0_31 kC_65 fC_65_0 dX0_pour_7 ?_
    refine q_iload_n ok dX0_pour_10 1 rfl ?_
    obtain ⟨g2, h⟩ := h
    refine q_callVI (st := []) ok cs_X0_108 (kX7_0 g2) rfl (c_X7_has X.2.1 Y ok.2.2.2.2.2.2.2.2 h) ⟨rfl, rfl, Nat.le_of_ble_eq_true rfl, Nat.le_of_ble_eq_true rfl⟩ rfl rfl (Nat.le_of_ble_eq_true rfl) dX0_pour_11 (fun σ1 r1 h => ?_)
    obtain ⟨g3, hT2a, hT2b⟩ := h
    refine q_if_ne (tgt := 18) ok dX0_pour_14 (by decide) g3 (fun c2 => ?_) (fun c2 => ?_)
    · have h := hT2a c2
      refine q_aload_n ok dX0_pour_18 0 rfl ?_
      refine q_getC ok fl_X0_18 kC_65 fC_65_5 dX0_pour_19 ?_
      refine q_iload_n ok dX0_pour_22 1 rfl ?_
      obtain ⟨g4, g5, h⟩ := h
      refine q_lald ok kC_ok kC_68 g4 g5 dX0_pour_23 ?_
      refine q_lconst ok dX0_pour_24 0 rfl ?_
      refine q_lcmp ok dX0_pour_25 ?_
      obtain ⟨g6, hT1a, hT1b⟩ := h
      refine q_if_ne (tgt := 33) ok dX0_pour_26 (by decide) g6 (fun c1 => ?_) (fun c1 => ?_)
      · have h := hT1a c1
        refine q_iconst ok dX0_pour_33 ?_
        exact w_X0_pour_J34 ok σ1 a0 a1 a2 a3 0 h
      · have h := hT1b c1
        refine q_iconst ok dX0_pour_29 ?_
        refine q_goto (tgt := 34) ok dX0_pour_30 (by decide) ?_
        exact w_X0_pour_J34 ok σ1 a0 a1 a2 a3 1 h
    · have h := hT2b c2
      exact q_vret ok dX0_pour_17 h)
/-! BranchingStory$Analyzer.pourEntries()V -/
def f_X0_pourEntries_J51 (k2 : St → Int → Prop) (Q : St → Prop) (σ : St) (v1 : Int) (v2 : Int) : Prop :=
  isS ((σ 65 0).toNat) ∧ 0 ≤ v1 ∧ v1 < 12 ∧ f_X0_pour (σ ((σ 65 0).toNat + 14) v1.toNat) v2 0 0 σ (fun σ1 => k2 σ1 (v1 + 1))
def f_X0_pourEntries_L75 (Q : St → Prop) : Nat → St → Int → Prop
  | 0, _, _ => False
  | n + 1, σ, v1 => inR v1 ∧ ((16 ≤ v1 → Q σ) ∧ (¬ 16 ≤ v1 → isS ((σ 65 0).toNat) ∧ inR v1 ∧ inR (σ ((σ 65 0).toNat) 14) ∧ (((σ ((σ 65 0).toNat) 14) ≤ v1 → Q σ) ∧ (¬ (σ ((σ 65 0).toNat) 14) ≤ v1 → 0 ≤ v1 ∧ v1 < 16 ∧ 0 ≤ v1 ∧ v1 < 16 ∧ f_X0_pour (σ ((σ 65 0).toNat + 17) v1.toNat) (σ 67 v1.toNat) 0 0 σ (fun σ1 => f_X0_pourEntries_L75 Q n σ1 (v1 + 1))))))
def f_X0_pourEntries_L2 (Q : St → Prop) : Nat → St → Int → Prop
  | 0, _, _ => False
  | n + 1, σ, v1 => inR v1 ∧ ((12 ≤ v1 → f_X0_pourEntries_L75 Q FU σ 0) ∧ (¬ 12 ≤ v1 → isS ((σ 65 0).toNat) ∧ inR v1 ∧ inR (σ ((σ 65 0).toNat) 10) ∧ (((σ ((σ 65 0).toNat) 10) ≤ v1 → f_X0_pourEntries_L75 Q FU σ 0) ∧ (¬ (σ ((σ 65 0).toNat) 10) ≤ v1 → 0 ≤ v1 ∧ v1 < 12 ∧ ∀ x1 : Int, x1 = (σ 66 v1.toNat) → inR (lcmp64 x1 0) ∧ (((lcmp64 x1 0) = 0 → f_X0_pourEntries_J51 (fun σ' v1' => f_X0_pourEntries_L2 Q n σ' v1') Q σ v1 x1) ∧ (¬ (lcmp64 x1 0) = 0 → f_X7_standsAsHub ((σ 65 0).toNat) v1 σ (fun σ1 r1 => inR r1 ∧ ((r1 = 0 → f_X0_pourEntries_J51 (fun σ' v1' => f_X0_pourEntries_L2 Q n σ' v1') Q σ1 v1 x1) ∧ (¬ r1 = 0 → f_X3_withHubs x1 (ishl32 1 v1) σ1 (fun σ2 r2 => f_X0_pourEntries_J51 (fun σ' v1' => f_X0_pourEntries_L2 Q n σ' v1') Q σ2 v1 r2))))))))))
def f_X0_pourEntries (σ : St) (Q : St → Prop) : Prop :=
  f_X0_pourEntries_L2 Q FU σ 0
set_option maxRecDepth 100000 in
set_option maxHeartbeats 4000000 in
theorem w_X0_pourEntries_J51 {X : Cx} {Y : Cy} {k2 : St → Int → Prop} {Q : St → Prop} (ok : Ok X Y KC cX0_pourEntries 4 RX0 (rm0q 3 80) none) (hk2 : ∀ (σ : St) (v1 : Int) , k2 σ v1 → Wq X Y KC 4 (QF X Y (Qvq Y KC Q)) σ 2 [(0, .inr (.inr 65)), (1, .inl v1)] []) (σ : St) (v1 : Int) (v2 : Int) (h : f_X0_pourEntries_J51 k2 Q σ v1 v2) : Wq X Y KC 4 (QF X Y (Qvq Y KC Q)) σ 51 [(0, .inr (.inr 65)), (1, .inl v1), (2, .inr (.inl v2))] [] := by
  unfold f_X0_pourEntries_J51 at h
  refine q_aload_n ok dX0_pourEntries_51 0 rfl ?_
  refine q_aload_n ok dX0_pourEntries_52 0 rfl ?_
  refine q_getR ok fl_X0_31 kC_65 fC_65_0 dX0_pourEntries_53 ?_
  obtain ⟨g1, h⟩ := h
  refine q_getC ok fl_X0_95 (kX7_0 g1) (fIX7_12 ((σ 65 0).toNat)) dX0_pourEntries_56 ?_
  refine q_iload_n ok dX0_pourEntries_59 1 rfl ?_
  obtain ⟨g2, g3, h⟩ := h
  refine q_iald ok kC_ok (kX7_14 g1) g2 g3 dX0_pourEntries_60 ?_
  refine q_lload_n ok dX0_pourEntries_61 2 rfl ?_
  refine q_iconst ok dX0_pourEntries_62 ?_
  refine q_iconst ok dX0_pourEntries_63 ?_
  refine q_callVV (st := []) ok cs_X0_98 kC_65 rfl (c_X0_pour X.2.1 Y ok.2.2.2.2.2.2.2.2 h) ⟨rfl, rfl, Nat.le_of_ble_eq_true rfl, Nat.le_of_ble_eq_true rfl⟩ rfl rfl (Nat.le_of_ble_eq_true rfl) dX0_pourEntries_64 (fun σ1 h => ?_)
  refine q_iinc (lv' := [(1, .inl (v1 + 1)), (0, .inr (.inr 65)), (2, .inr (.inl v2))]) ok dX0_pourEntries_67 1 rfl (by decide) rfl ?_
  refine q_goto (tgt := 2) ok dX0_pourEntries_70 (by decide) ?_
  refine q_sub [1, 0] rfl ?_
  exact hk2 σ1 (v1 + 1) h
set_option maxRecDepth 100000 in
set_option maxHeartbeats 4000000 in
theorem w_X0_pourEntries_L75 {X : Cx} {Y : Cy} {Q : St → Prop} (ok : Ok X Y KC cX0_pourEntries 4 RX0 (rm0q 3 80) none) : ∀ (n : Nat) (σ : St) (v1 : Int) , f_X0_pourEntries_L75 Q n σ v1 → Wq X Y KC 4 (QF X Y (Qvq Y KC Q)) σ 75 [(0, .inr (.inr 65)), (1, .inl v1)] [] := by
  intro n
  induction n with
  | zero => intro σ v1 h; exact h.elim
  | succ n ih =>
    intro σ v1 h
    rw [f_X0_pourEntries_L75] at h
    refine q_iload_n ok dX0_pourEntries_75 1 rfl ?_
    refine q_bipush ok dX0_pourEntries_76 rfl ?_
    obtain ⟨g1, hT2a, hT2b⟩ := h
    refine q_icmp_ge (tgt := 119) ok dX0_pourEntries_78 (by decide) g1 (by unfold inR; decide) (fun c2 => ?_) (fun c2 => ?_)
    · have h := hT2a c2
      exact q_vret ok dX0_pourEntries_119 h
    · have h := hT2b c2
      refine q_iload_n ok dX0_pourEntries_81 1 rfl ?_
      refine q_aload_n ok dX0_pourEntries_82 0 rfl ?_
      refine q_getR ok fl_X0_31 kC_65 fC_65_0 dX0_pourEntries_83 ?_
      obtain ⟨g2, h⟩ := h
      refine q_getI ok fl_X0_102 (kX7_0 g2) (fIX7_14 ((σ 65 0).toNat)) dX0_pourEntries_86 ?_
      obtain ⟨g3, g4, hT1a, hT1b⟩ := h
      refine q_icmp_ge (tgt := 119) ok dX0_pourEntries_89 (by decide) g3 g4 (fun c1 => ?_) (fun c1 => ?_)
      · have h := hT1a c1
        exact q_vret ok dX0_pourEntries_119 h
      · have h := hT1b c1
        refine q_aload_n ok dX0_pourEntries_92 0 rfl ?_
        refine q_aload_n ok dX0_pourEntries_93 0 rfl ?_
        refine q_getR ok fl_X0_31 kC_65 fC_65_0 dX0_pourEntries_94 ?_
        refine q_getC ok fl_X0_105 (kX7_0 g2) (fIX7_17 ((σ 65 0).toNat)) dX0_pourEntries_97 ?_
        refine q_iload_n ok dX0_pourEntries_100 1 rfl ?_
        obtain ⟨g5, g6, h⟩ := h
        refine q_iald ok kC_ok (kX7_17 g2) g5 g6 dX0_pourEntries_101 ?_
        refine q_aload_n ok dX0_pourEntries_102 0 rfl ?_
        refine q_getC ok fl_X0_15 kC_65 fC_65_4 dX0_pourEntries_103 ?_
        refine q_iload_n ok dX0_pourEntries_106 1 rfl ?_
        obtain ⟨g7, g8, h⟩ := h
        refine q_lald ok kC_ok kC_67 g7 g8 dX0_pourEntries_107 ?_
        refine q_iconst ok dX0_pourEntries_108 ?_
        refine q_iconst ok dX0_pourEntries_109 ?_
        refine q_callVV (st := []) ok cs_X0_98 kC_65 rfl (c_X0_pour X.2.1 Y ok.2.2.2.2.2.2.2.2 h) ⟨rfl, rfl, Nat.le_of_ble_eq_true rfl, Nat.le_of_ble_eq_true rfl⟩ rfl rfl (Nat.le_of_ble_eq_true rfl) dX0_pourEntries_110 (fun σ1 h => ?_)
        refine q_iinc (lv' := [(1, .inl (v1 + 1)), (0, .inr (.inr 65))]) ok dX0_pourEntries_113 1 rfl (by decide) rfl ?_
        refine q_goto (tgt := 75) ok dX0_pourEntries_116 (by decide) ?_
        refine q_sub [1, 0] rfl ?_
        exact ih σ1 (v1 + 1) h
set_option maxRecDepth 100000 in
set_option maxHeartbeats 4000000 in
theorem w_X0_pourEntries_L2 {X : Cx} {Y : Cy} {Q : St → Prop} (ok : Ok X Y KC cX0_pourEntries 4 RX0 (rm0q 3 80) none) : ∀ (n : Nat) (σ : St) (v1 : Int) , f_X0_pourEntries_L2 Q n σ v1 → Wq X Y KC 4 (QF X Y (Qvq Y KC Q)) σ 2 [(0, .inr (.inr 65)), (1, .inl v1)] [] := by
  intro n
  induction n with
  | zero => intro σ v1 h; exact h.elim
  | succ n ih =>
    intro σ v1 h
    rw [f_X0_pourEntries_L2] at h
    refine q_iload_n ok dX0_pourEntries_2 1 rfl ?_
    refine q_bipush ok dX0_pourEntries_3 rfl ?_
    obtain ⟨g1, hT4a, hT4b⟩ := h
    refine q_icmp_ge (tgt := 73) ok dX0_pourEntries_5 (by decide) g1 (by unfold inR; decide) (fun c4 => ?_) (fun c4 => ?_)
    · have h := hT4a c4
      refine q_iconst ok dX0_pourEntries_73 ?_
      refine q_istore_n (lv' := [(1, .inl 0), (0, .inr (.inr 65))]) ok dX0_pourEntries_74 (by decide) rfl ?_
      refine q_sub [1, 0] rfl ?_
      exact w_X0_pourEntries_L75 ok FU σ 0 h
    · have h := hT4b c4
      refine q_iload_n ok dX0_pourEntries_8 1 rfl ?_
      refine q_aload_n ok dX0_pourEntries_9 0 rfl ?_
      refine q_getR ok fl_X0_31 kC_65 fC_65_0 dX0_pourEntries_10 ?_
      obtain ⟨g2, h⟩ := h
      refine q_getI ok fl_X0_84 (kX7_0 g2) (fIX7_10 ((σ 65 0).toNat)) dX0_pourEntries_13 ?_
      obtain ⟨g3, g4, hT3a, hT3b⟩ := h
      refine q_icmp_ge (tgt := 73) ok dX0_pourEntries_16 (by decide) g3 g4 (fun c3 => ?_) (fun c3 => ?_)
      · have h := hT3a c3
        refine q_iconst ok dX0_pourEntries_73 ?_
        refine q_istore_n (lv' := [(1, .inl 0), (0, .inr (.inr 65))]) ok dX0_pourEntries_74 (by decide) rfl ?_
        refine q_sub [1, 0] rfl ?_
        exact w_X0_pourEntries_L75 ok FU σ 0 h
      · have h := hT3b c3
        refine q_aload_n ok dX0_pourEntries_19 0 rfl ?_
        refine q_getC ok fl_X0_9 kC_65 fC_65_3 dX0_pourEntries_20 ?_
        refine q_iload_n ok dX0_pourEntries_23 1 rfl ?_
        obtain ⟨g5, g6, h⟩ := h
        refine q_lald ok kC_ok kC_66 g5 g6 dX0_pourEntries_24 ?_
        refine wq_l (fun x1 ex1 => ?_)
        have h := h x1 ex1
        refine q_lstore_n (lv' := [(2, .inr (.inl x1)), (0, .inr (.inr 65)), (1, .inl v1)]) ok dX0_pourEntries_25 (by decide) rfl ?_
        refine q_lload_n ok dX0_pourEntries_26 0 rfl ?_
        refine q_lconst ok dX0_pourEntries_27 0 rfl ?_
        refine q_lcmp ok dX0_pourEntries_28 ?_
        obtain ⟨g7, hT2a, hT2b⟩ := h
        refine q_if_eq (tgt := 51) ok dX0_pourEntries_29 (by decide) g7 (fun c2 => ?_) (fun c2 => ?_)
        · have h := hT2a c2
          refine q_sub [1, 2, 0] rfl ?_
          exact w_X0_pourEntries_J51 ok ih σ v1 x1 h
        · have h := hT2b c2
          refine q_aload_n ok dX0_pourEntries_32 1 rfl ?_
          refine q_getR ok fl_X0_31 kC_65 fC_65_0 dX0_pourEntries_33 ?_
          refine q_iload_n ok dX0_pourEntries_36 2 rfl ?_
          refine q_callVI (st := []) ok cs_X0_87 (kX7_0 g2) rfl (c_X7_standsAsHub X.2.1 Y ok.2.2.2.2.2.2.2.2 h) ⟨rfl, rfl, Nat.le_of_ble_eq_true rfl, Nat.le_of_ble_eq_true rfl⟩ rfl rfl (Nat.le_of_ble_eq_true rfl) dX0_pourEntries_37 (fun σ1 r1 h => ?_)
          obtain ⟨g8, hT1a, hT1b⟩ := h
          refine q_if_eq (tgt := 51) ok dX0_pourEntries_40 (by decide) g8 (fun c1 => ?_) (fun c1 => ?_)
          · have h := hT1a c1
            refine q_sub [1, 2, 0] rfl ?_
            exact w_X0_pourEntries_J51 ok ih σ1 v1 x1 h
          · have h := hT1b c1
            refine q_lload_n ok dX0_pourEntries_43 0 rfl ?_
            refine q_iconst ok dX0_pourEntries_44 ?_
            refine q_iload_n ok dX0_pourEntries_45 2 rfl ?_
            refine q_ishl ok dX0_pourEntries_46 ?_
            refine q_callSL (st := []) ok cs_X0_91 (c_X3_withHubs X.2.1 Y ok.2.2.2.2.2.2.2.2 h) ⟨rfl, rfl, Nat.le_of_ble_eq_true rfl, Nat.le_of_ble_eq_true rfl⟩ rfl rfl (Nat.le_of_ble_eq_true rfl) dX0_pourEntries_47 (fun σ2 r2 h => ?_)
            refine q_lstore_n (lv' := [(2, .inr (.inl r2)), (0, .inr (.inr 65)), (1, .inl v1)]) ok dX0_pourEntries_50 (by decide) rfl ?_
            refine q_sub [1, 2, 0] rfl ?_
            exact w_X0_pourEntries_J51 ok ih σ2 v1 r2 h
set_option maxRecDepth 100000 in
set_option maxHeartbeats 4000000 in
theorem c_X0_pourEntries (l : Launch) (Y : Cy) (hD : ∀ σ, va_D Y.2.2.2 (wsOf KC Y.2.1 Y.2.2.1 σ)) {σ : St} {Q : St → Prop} (h : f_X0_pourEntries  σ Q) : ConV l yX0_pourEntries cX0_pourEntries 4 (rm0q 3 80) Y KC σ [.inr (.inr 65)] Q := con_of (lv := [(0, .inr (.inr 65))]) (by decide) hD (Nat.le_of_ble_eq_true rfl) rfl (fun X _ ok => by
  have ok : Ok X Y KC cX0_pourEntries 4 RX0 (rm0q 3 80) none := ok
  unfold f_X0_pourEntries at h
  refine q_iconst ok dX0_pourEntries_0 ?_
  refine q_istore_n (lv' := [(1, .inl 0), (0, .inr (.inr 65))]) ok dX0_pourEntries_1 (by decide) rfl ?_
  refine q_sub [1, 0] rfl ?_
  exact w_X0_pourEntries_L2 ok FU σ 0 h)
/-! BranchingStory$Analyzer.beginSweep()V -/
def f_X0_beginSweep (σ : St) (Q : St → Prop) : Prop :=
  ∀ σ1 : St, σ1 = sset σ 65 9 0 → ∀ σ2 : St, σ2 = sset σ1 65 10 0 → f_JA_fillI 71 0 σ2 (fun σ3 => f_JA_fillL 68 0 σ3 (fun σ4 => f_X0_pourEntries σ4 (fun σ5 => Q σ5)))
set_option maxRecDepth 100000 in
set_option maxHeartbeats 4000000 in
theorem c_X0_beginSweep (l : Launch) (Y : Cy) (hD : ∀ σ, va_D Y.2.2.2 (wsOf KC Y.2.1 Y.2.2.1 σ)) {σ : St} {Q : St → Prop} (h : f_X0_beginSweep  σ Q) : ConV l yX0_beginSweep cX0_beginSweep 1 (rm0q 4 103) Y KC σ [.inr (.inr 65)] Q := con_of (lv := [(0, .inr (.inr 65))]) (by decide) hD (Nat.le_of_ble_eq_true rfl) rfl (fun X _ ok => by
  have ok : Ok X Y KC cX0_beginSweep 1 RX0 (rm0q 4 103) none := ok
  unfold f_X0_beginSweep at h
  refine q_aload_n ok dX0_beginSweep_0 0 rfl ?_
  refine q_iconst ok dX0_beginSweep_1 ?_
  refine q_putI ok fp_X0_72 kC_65 fC_65_9 dX0_beginSweep_2 (wq_s (fun σ1 eσ1 => ?_))
  have h := h σ1 eσ1
  refine q_aload_n ok dX0_beginSweep_5 0 rfl ?_
  refine q_iconst ok dX0_beginSweep_6 ?_
  refine q_putI ok fp_X0_75 kC_65 fC_65_10 dX0_beginSweep_7 (wq_s (fun σ2 eσ2 => ?_))
  have h := h σ2 eσ2
  refine q_aload_n ok dX0_beginSweep_10 0 rfl ?_
  refine q_getC ok fl_X0_28 kC_65 fC_65_8 dX0_beginSweep_11 ?_
  refine q_iconst ok dX0_beginSweep_14 ?_
  refine q_callSV (st := []) ok cs_X0_78 (c_JA_fillI X.2.1 Y ok.2.2.2.2.2.2.2.2 h) ⟨rfl, rfl, Nat.le_of_ble_eq_true rfl, Nat.le_of_ble_eq_true rfl⟩ rfl rfl (Nat.le_of_ble_eq_true rfl) dX0_beginSweep_15 (fun σ3 h => ?_)
  refine q_aload_n ok dX0_beginSweep_18 0 rfl ?_
  refine q_getC ok fl_X0_18 kC_65 fC_65_5 dX0_beginSweep_19 ?_
  refine q_lconst ok dX0_beginSweep_22 0 rfl ?_
  refine q_callSV (st := []) ok cs_X0_41 (c_JA_fillL X.2.1 Y ok.2.2.2.2.2.2.2.2 h) ⟨rfl, rfl, Nat.le_of_ble_eq_true rfl, Nat.le_of_ble_eq_true rfl⟩ rfl rfl (Nat.le_of_ble_eq_true rfl) dX0_beginSweep_23 (fun σ4 h => ?_)
  refine q_aload_n ok dX0_beginSweep_26 0 rfl ?_
  refine q_callVV (st := []) ok cs_X0_81 kC_65 rfl (c_X0_pourEntries X.2.1 Y ok.2.2.2.2.2.2.2.2 h) ⟨rfl, rfl, Nat.le_of_ble_eq_true rfl, Nat.le_of_ble_eq_true rfl⟩ rfl rfl (Nat.le_of_ble_eq_true rfl) dX0_beginSweep_27 (fun σ5 h => ?_)
  exact q_vret ok dX0_beginSweep_30 h)
/-! BranchingStory$Analyzer.goOn(IJ)V -/
def f_X0_goOn (a0 : Int) (a1 : Int) (σ : St) (Q : St → Prop) : Prop :=
  isS ((σ 65 0).toNat) ∧ 0 ≤ a0 ∧ a0 < 400 ∧ 0 ≤ a0 ∧ a0 < 400 ∧ 0 ≤ a0 ∧ a0 < 400 ∧ f_X0_pour (σ ((σ 65 0).toNat + 4) a0.toNat) a1 (σ 69 a0.toNat) (σ 70 a0.toNat) σ (fun σ1 => Q σ1)
set_option maxRecDepth 100000 in
set_option maxHeartbeats 4000000 in
theorem c_X0_goOn (l : Launch) (Y : Cy) (hD : ∀ σ, va_D Y.2.2.2 (wsOf KC Y.2.1 Y.2.2.1 σ)) {a0 : Int} {a1 : Int} {σ : St} {Q : St → Prop} (h : f_X0_goOn a0 a1 σ Q) : ConV l yX0_goOn cX0_goOn 4 (rm0q 3 80) Y KC σ [.inr (.inr 65), .inl a0, .inr (.inl a1)] Q := con_of (lv := [(0, .inr (.inr 65)), (1, .inl a0), (2, .inr (.inl a1))]) (by decide) hD (Nat.le_of_ble_eq_true rfl) rfl (fun X _ ok => by
  have ok : Ok X Y KC cX0_goOn 4 RX0 (rm0q 3 80) none := ok
  unfold f_X0_goOn at h
  refine q_aload_n ok dX0_goOn_0 0 rfl ?_
  refine q_aload_n ok dX0_goOn_1 0 rfl ?_
  refine q_getR ok fl_X0_31 kC_65 fC_65_0 dX0_goOn_2 ?_
  obtain ⟨g1, h⟩ := h
  refine q_getC ok fl_X0_148 (kX7_0 g1) (fIX7_4 ((σ 65 0).toNat)) dX0_goOn_5 ?_
  refine q_iload_n ok dX0_goOn_8 1 rfl ?_
  obtain ⟨g2, g3, h⟩ := h
  refine q_iald ok kC_ok (kX7_4 g1) g2 g3 dX0_goOn_9 ?_
  refine q_lload_n ok dX0_goOn_10 2 rfl ?_
  refine q_aload_n ok dX0_goOn_11 0 rfl ?_
  refine q_getC ok fl_X0_21 kC_65 fC_65_6 dX0_goOn_12 ?_
  refine q_iload_n ok dX0_goOn_15 1 rfl ?_
  obtain ⟨g4, g5, h⟩ := h
  refine q_iald ok kC_ok kC_69 g4 g5 dX0_goOn_16 ?_
  refine q_aload_n ok dX0_goOn_17 0 rfl ?_
  refine q_getC ok fl_X0_25 kC_65 fC_65_7 dX0_goOn_18 ?_
  refine q_iload_n ok dX0_goOn_21 1 rfl ?_
  obtain ⟨g6, g7, h⟩ := h
  refine q_iald ok kC_ok kC_70 g6 g7 dX0_goOn_22 ?_
  refine q_callVV (st := []) ok cs_X0_98 kC_65 rfl (c_X0_pour X.2.1 Y ok.2.2.2.2.2.2.2.2 h) ⟨rfl, rfl, Nat.le_of_ble_eq_true rfl, Nat.le_of_ble_eq_true rfl⟩ rfl rfl (Nat.le_of_ble_eq_true rfl) dX0_goOn_23 (fun σ1 h => ?_)
  exact q_vret ok dX0_goOn_26 h)
/-! BranchingStory$Analyzer.goThroughMeter(IJI)V -/
def f_X0_goThroughMeter (a0 : Int) (a1 : Int) (a2 : Int) (σ : St) (Q : St → Prop) : Prop :=
  isS ((σ 65 0).toNat) ∧ 0 ≤ a0 ∧ a0 < 400 ∧ ∀ x1 : Int, x1 = (σ ((σ 65 0).toNat + 1) a0.toNat) → f_X3_low a1 a2 σ (fun σ1 r1 => isS ((σ1 65 0).toNat) ∧ 0 ≤ a0 ∧ a0 < 400 ∧ f_X9_changedMeter x1 r1 (σ1 ((σ1 65 0).toNat + 3) a0.toNat) σ1 (fun σ2 r2 => f_X3_high a1 a2 σ2 (fun σ3 r3 => isS ((σ3 65 0).toNat) ∧ 0 ≤ a0 ∧ a0 < 400 ∧ f_X9_changedMeter x1 r3 (σ3 ((σ3 65 0).toNat + 3) a0.toNat) σ3 (fun σ4 r4 => f_X3_withRange a1 a2 r2 r4 σ4 (fun σ5 r5 => f_X0_goOn a0 r5 σ5 (fun σ6 => Q σ6))))))
set_option maxRecDepth 100000 in
set_option maxHeartbeats 4000000 in
theorem c_X0_goThroughMeter (l : Launch) (Y : Cy) (hD : ∀ σ, va_D Y.2.2.2 (wsOf KC Y.2.1 Y.2.2.1 σ)) {a0 : Int} {a1 : Int} {a2 : Int} {σ : St} {Q : St → Prop} (h : f_X0_goThroughMeter a0 a1 a2 σ Q) : ConV l yX0_goThroughMeter cX0_goThroughMeter 8 (rm0q 4 103) Y KC σ [.inr (.inr 65), .inl a0, .inr (.inl a1), .inl a2] Q := con_of (lv := [(0, .inr (.inr 65)), (1, .inl a0), (2, .inr (.inl a1)), (4, .inl a2)]) (by decide) hD (Nat.le_of_ble_eq_true rfl) rfl (fun X _ ok => by
  have ok : Ok X Y KC cX0_goThroughMeter 8 RX0 (rm0q 4 103) none := ok
  unfold f_X0_goThroughMeter at h
  refine q_aload_n ok dX0_goThroughMeter_0 0 rfl ?_
  refine q_getR ok fl_X0_31 kC_65 fC_65_0 dX0_goThroughMeter_1 ?_
  obtain ⟨g1, h⟩ := h
  refine q_getC ok fl_X0_115 (kX7_0 g1) (fIX7_1 ((σ 65 0).toNat)) dX0_goThroughMeter_4 ?_
  refine q_iload_n ok dX0_goThroughMeter_7 1 rfl ?_
  obtain ⟨g2, g3, h⟩ := h
  refine q_iald ok kC_ok (kX7_1 g1) g2 g3 dX0_goThroughMeter_8 ?_
  refine wq_i (fun x1 ex1 => ?_)
  have h := h x1 ex1
  refine q_istore (lv' := [(5, .inl x1), (0, .inr (.inr 65)), (1, .inl a0), (2, .inr (.inl a1)), (4, .inl a2)]) ok dX0_goThroughMeter_9 (by decide) rfl ?_
  refine q_iload ok dX0_goThroughMeter_11 0 rfl ?_
  refine q_lload_n ok dX0_goThroughMeter_13 3 rfl ?_
  refine q_iload ok dX0_goThroughMeter_14 4 rfl ?_
  refine q_callSI (st := [.inl x1]) ok cs_X0_151 (c_X3_low X.2.1 Y ok.2.2.2.2.2.2.2.2 h) ⟨rfl, rfl, Nat.le_of_ble_eq_true rfl, Nat.le_of_ble_eq_true rfl⟩ rfl rfl (Nat.le_of_ble_eq_true rfl) dX0_goThroughMeter_16 (fun σ1 r1 h => ?_)
  refine q_aload_n ok dX0_goThroughMeter_19 1 rfl ?_
  refine q_getR ok fl_X0_31 kC_65 fC_65_0 dX0_goThroughMeter_20 ?_
  obtain ⟨g4, h⟩ := h
  refine q_getC ok fl_X0_155 (kX7_0 g4) (fIX7_3 ((σ1 65 0).toNat)) dX0_goThroughMeter_23 ?_
  refine q_iload_n ok dX0_goThroughMeter_26 2 rfl ?_
  obtain ⟨g5, g6, h⟩ := h
  refine q_iald ok kC_ok (kX7_3 g4) g5 g6 dX0_goThroughMeter_27 ?_
  refine q_callSI (st := []) ok cs_X0_158 (c_X9_changedMeter X.2.1 Y ok.2.2.2.2.2.2.2.2 h) ⟨rfl, rfl, Nat.le_of_ble_eq_true rfl, Nat.le_of_ble_eq_true rfl⟩ rfl rfl (Nat.le_of_ble_eq_true rfl) dX0_goThroughMeter_28 (fun σ2 r2 h => ?_)
  refine q_istore (lv' := [(6, .inl r2), (5, .inl x1), (0, .inr (.inr 65)), (1, .inl a0), (2, .inr (.inl a1)), (4, .inl a2)]) ok dX0_goThroughMeter_31 (by decide) rfl ?_
  refine q_iload ok dX0_goThroughMeter_33 1 rfl ?_
  refine q_lload_n ok dX0_goThroughMeter_35 4 rfl ?_
  refine q_iload ok dX0_goThroughMeter_36 5 rfl ?_
  refine q_callSI (st := [.inl x1]) ok cs_X0_162 (c_X3_high X.2.1 Y ok.2.2.2.2.2.2.2.2 h) ⟨rfl, rfl, Nat.le_of_ble_eq_true rfl, Nat.le_of_ble_eq_true rfl⟩ rfl rfl (Nat.le_of_ble_eq_true rfl) dX0_goThroughMeter_38 (fun σ3 r3 h => ?_)
  refine q_aload_n ok dX0_goThroughMeter_41 2 rfl ?_
  refine q_getR ok fl_X0_31 kC_65 fC_65_0 dX0_goThroughMeter_42 ?_
  obtain ⟨g7, h⟩ := h
  refine q_getC ok fl_X0_155 (kX7_0 g7) (fIX7_3 ((σ3 65 0).toNat)) dX0_goThroughMeter_45 ?_
  refine q_iload_n ok dX0_goThroughMeter_48 3 rfl ?_
  obtain ⟨g8, g9, h⟩ := h
  refine q_iald ok kC_ok (kX7_3 g7) g8 g9 dX0_goThroughMeter_49 ?_
  refine q_callSI (st := []) ok cs_X0_158 (c_X9_changedMeter X.2.1 Y ok.2.2.2.2.2.2.2.2 h) ⟨rfl, rfl, Nat.le_of_ble_eq_true rfl, Nat.le_of_ble_eq_true rfl⟩ rfl rfl (Nat.le_of_ble_eq_true rfl) dX0_goThroughMeter_50 (fun σ4 r4 h => ?_)
  refine q_istore (lv' := [(7, .inl r4), (6, .inl r2), (5, .inl x1), (0, .inr (.inr 65)), (1, .inl a0), (2, .inr (.inl a1)), (4, .inl a2)]) ok dX0_goThroughMeter_53 (by decide) rfl ?_
  refine q_aload_n ok dX0_goThroughMeter_55 3 rfl ?_
  refine q_iload_n ok dX0_goThroughMeter_56 4 rfl ?_
  refine q_lload_n ok dX0_goThroughMeter_57 5 rfl ?_
  refine q_iload ok dX0_goThroughMeter_58 6 rfl ?_
  refine q_iload ok dX0_goThroughMeter_60 1 rfl ?_
  refine q_iload ok dX0_goThroughMeter_62 0 rfl ?_
  refine q_callSL (st := [.inl a0, .inr (.inr 65)]) ok cs_X0_165 (c_X3_withRange X.2.1 Y ok.2.2.2.2.2.2.2.2 h) ⟨rfl, rfl, Nat.le_of_ble_eq_true rfl, Nat.le_of_ble_eq_true rfl⟩ rfl rfl (Nat.le_of_ble_eq_true rfl) dX0_goThroughMeter_64 (fun σ5 r5 h => ?_)
  refine q_callVV (st := []) ok cs_X0_122 kC_65 rfl (c_X0_goOn X.2.1 Y ok.2.2.2.2.2.2.2.2 h) ⟨rfl, rfl, Nat.le_of_ble_eq_true rfl, Nat.le_of_ble_eq_true rfl⟩ rfl rfl (Nat.le_of_ble_eq_true rfl) dX0_goThroughMeter_67 (fun σ6 h => ?_)
  exact q_vret ok dX0_goThroughMeter_70 h)
/-! BranchingStory$Analyzer.truePart(IJ)J -/
def f_X0_truePart (a0 : Int) (a1 : Int) (σ : St) (Q : St → Int → Prop) : Prop :=
  isS ((σ 65 0).toNat) ∧ 0 ≤ a0 ∧ a0 < 400 ∧ 0 ≤ a0 ∧ a0 < 400 ∧ f_X8_truePart ((σ 65 0).toNat + 9) (σ ((σ 65 0).toNat + 7) a0.toNat) (σ ((σ 65 0).toNat + 8) a0.toNat) a1 σ (fun σ1 r1 => Q σ1 r1)
set_option maxRecDepth 100000 in
set_option maxHeartbeats 4000000 in
theorem c_X0_truePart (l : Launch) (Y : Cy) (hD : ∀ σ, va_D Y.2.2.2 (wsOf KC Y.2.1 Y.2.2.1 σ)) {a0 : Int} {a1 : Int} {σ : St} {Q : St → Int → Prop} (h : f_X0_truePart a0 a1 σ Q) : ConL l yX0_truePart cX0_truePart 4 (rm0q 3 83) Y KC σ [.inr (.inr 65), .inl a0, .inr (.inl a1)] Q := con_of (lv := [(0, .inr (.inr 65)), (1, .inl a0), (2, .inr (.inl a1))]) (by decide) hD (Nat.le_of_ble_eq_true rfl) rfl (fun X _ ok => by
  have ok : Ok X Y KC cX0_truePart 4 RX0 (rm0q 3 83) (some .long) := ok
  unfold f_X0_truePart at h
  refine q_aload_n ok dX0_truePart_0 0 rfl ?_
  refine q_getR ok fl_X0_31 kC_65 fC_65_0 dX0_truePart_1 ?_
  obtain ⟨g1, h⟩ := h
  refine q_getC ok fl_X0_195 (kX7_0 g1) (fIX7_9 ((σ 65 0).toNat)) dX0_truePart_4 ?_
  refine q_aload_n ok dX0_truePart_7 0 rfl ?_
  refine q_getR ok fl_X0_31 kC_65 fC_65_0 dX0_truePart_8 ?_
  refine q_getC ok fl_X0_186 (kX7_0 g1) (fIX7_7 ((σ 65 0).toNat)) dX0_truePart_11 ?_
  refine q_iload_n ok dX0_truePart_14 1 rfl ?_
  obtain ⟨g2, g3, h⟩ := h
  refine q_iald ok kC_ok (kX7_7 g1) g2 g3 dX0_truePart_15 ?_
  refine q_aload_n ok dX0_truePart_16 0 rfl ?_
  refine q_getR ok fl_X0_31 kC_65 fC_65_0 dX0_truePart_17 ?_
  refine q_getC ok fl_X0_189 (kX7_0 g1) (fIX7_8 ((σ 65 0).toNat)) dX0_truePart_20 ?_
  refine q_iload_n ok dX0_truePart_23 1 rfl ?_
  obtain ⟨g4, g5, h⟩ := h
  refine q_iald ok kC_ok (kX7_8 g1) g4 g5 dX0_truePart_24 ?_
  refine q_lload_n ok dX0_truePart_25 2 rfl ?_
  refine q_callVL (st := []) ok cs_X0_199 (kX7_9 g1) rfl (c_X8_truePart X.2.1 Y ok.2.2.2.2.2.2.2.2 h) ⟨rfl, rfl, Nat.le_of_ble_eq_true rfl, Nat.le_of_ble_eq_true rfl⟩ rfl rfl (Nat.le_of_ble_eq_true rfl) dX0_truePart_26 (fun σ1 r1 h => ?_)
  exact q_lret ok dX0_truePart_29 h)
/-! BranchingStory$Analyzer.falsePart(IJ)J -/
def f_X0_falsePart (a0 : Int) (a1 : Int) (σ : St) (Q : St → Int → Prop) : Prop :=
  isS ((σ 65 0).toNat) ∧ 0 ≤ a0 ∧ a0 < 400 ∧ 0 ≤ a0 ∧ a0 < 400 ∧ f_X8_falsePart ((σ 65 0).toNat + 9) (σ ((σ 65 0).toNat + 7) a0.toNat) (σ ((σ 65 0).toNat + 8) a0.toNat) a1 σ (fun σ1 r1 => Q σ1 r1)
set_option maxRecDepth 100000 in
set_option maxHeartbeats 4000000 in
theorem c_X0_falsePart (l : Launch) (Y : Cy) (hD : ∀ σ, va_D Y.2.2.2 (wsOf KC Y.2.1 Y.2.2.1 σ)) {a0 : Int} {a1 : Int} {σ : St} {Q : St → Int → Prop} (h : f_X0_falsePart a0 a1 σ Q) : ConL l yX0_falsePart cX0_falsePart 4 (rm0q 3 80) Y KC σ [.inr (.inr 65), .inl a0, .inr (.inl a1)] Q := con_of (lv := [(0, .inr (.inr 65)), (1, .inl a0), (2, .inr (.inl a1))]) (by decide) hD (Nat.le_of_ble_eq_true rfl) rfl (fun X _ ok => by
  have ok : Ok X Y KC cX0_falsePart 4 RX0 (rm0q 3 80) (some .long) := ok
  unfold f_X0_falsePart at h
  refine q_aload_n ok dX0_falsePart_0 0 rfl ?_
  refine q_getR ok fl_X0_31 kC_65 fC_65_0 dX0_falsePart_1 ?_
  obtain ⟨g1, h⟩ := h
  refine q_getC ok fl_X0_195 (kX7_0 g1) (fIX7_9 ((σ 65 0).toNat)) dX0_falsePart_4 ?_
  refine q_aload_n ok dX0_falsePart_7 0 rfl ?_
  refine q_getR ok fl_X0_31 kC_65 fC_65_0 dX0_falsePart_8 ?_
  refine q_getC ok fl_X0_186 (kX7_0 g1) (fIX7_7 ((σ 65 0).toNat)) dX0_falsePart_11 ?_
  refine q_iload_n ok dX0_falsePart_14 1 rfl ?_
  obtain ⟨g2, g3, h⟩ := h
  refine q_iald ok kC_ok (kX7_7 g1) g2 g3 dX0_falsePart_15 ?_
  refine q_aload_n ok dX0_falsePart_16 0 rfl ?_
  refine q_getR ok fl_X0_31 kC_65 fC_65_0 dX0_falsePart_17 ?_
  refine q_getC ok fl_X0_189 (kX7_0 g1) (fIX7_8 ((σ 65 0).toNat)) dX0_falsePart_20 ?_
  refine q_iload_n ok dX0_falsePart_23 1 rfl ?_
  obtain ⟨g4, g5, h⟩ := h
  refine q_iald ok kC_ok (kX7_8 g1) g4 g5 dX0_falsePart_24 ?_
  refine q_lload_n ok dX0_falsePart_25 2 rfl ?_
  refine q_callVL (st := []) ok cs_X0_204 (kX7_9 g1) rfl (c_X8_falsePart X.2.1 Y ok.2.2.2.2.2.2.2.2 h) ⟨rfl, rfl, Nat.le_of_ble_eq_true rfl, Nat.le_of_ble_eq_true rfl⟩ rfl rfl (Nat.le_of_ble_eq_true rfl) dX0_falsePart_26 (fun σ1 r1 h => ?_)
  exact q_lret ok dX0_falsePart_29 h)
/-! BranchingStory$Analyzer.goThroughTest(IJI)V -/
def f_X0_goThroughTest_J40 (Q : St → Prop) (σ : St) (v1 : Int) (v4 : Int) (v5 : Int) (v7 : Int) (s0 : Int) (s1 : Int) : Prop :=
  ∀ x1 : Int, x1 = (s0 + s1) → f_X9_putEntry 71 v4 x1 σ (fun σ1 => isS ((σ1 65 0).toNat) ∧ 0 ≤ v1 ∧ v1 < 400 ∧ 0 ≤ v1 ∧ v1 < 400 ∧ 0 ≤ v1 ∧ v1 < 400 ∧ f_X0_pour (σ1 ((σ1 65 0).toNat + 5) v1.toNat) v5 (σ1 69 v1.toNat) (σ1 70 v1.toNat) σ1 (fun σ2 => isS ((σ2 65 0).toNat) ∧ 0 ≤ v1 ∧ v1 < 400 ∧ 0 ≤ v1 ∧ v1 < 400 ∧ 0 ≤ v1 ∧ v1 < 400 ∧ f_X0_pour (σ2 ((σ2 65 0).toNat + 6) v1.toNat) v7 (σ2 69 v1.toNat) (σ2 70 v1.toNat) σ2 (fun σ3 => Q σ3)))
def f_X0_goThroughTest_J28 (Q : St → Prop) (σ : St) (v1 : Int) (v4 : Int) (v5 : Int) (v7 : Int) (s0 : Int) : Prop :=
  inR (lcmp64 v7 0) ∧ (((lcmp64 v7 0) = 0 → f_X0_goThroughTest_J40 Q σ v1 v4 v5 v7 s0 0) ∧ (¬ (lcmp64 v7 0) = 0 → f_X0_goThroughTest_J40 Q σ v1 v4 v5 v7 s0 2))
def f_X0_goThroughTest (a0 : Int) (a1 : Int) (a2 : Int) (σ : St) (Q : St → Prop) : Prop :=
  f_X0_truePart a0 a1 σ (fun σ1 r1 => f_X0_falsePart a0 a1 σ1 (fun σ2 r2 => inR (lcmp64 r1 0) ∧ (((lcmp64 r1 0) = 0 → f_X0_goThroughTest_J28 Q σ2 a0 a2 r1 r2 0) ∧ (¬ (lcmp64 r1 0) = 0 → f_X0_goThroughTest_J28 Q σ2 a0 a2 r1 r2 1))))
set_option maxRecDepth 100000 in
set_option maxHeartbeats 4000000 in
theorem w_X0_goThroughTest_J40 {X : Cx} {Y : Cy} {Q : St → Prop} (ok : Ok X Y KC cX0_goThroughTest 10 RX0 (rm0q 4 106) none) (σ : St) (v1 : Int) (v4 : Int) (v5 : Int) (v7 : Int) (s0 : Int) (s1 : Int) (h : f_X0_goThroughTest_J40 Q σ v1 v4 v5 v7 s0 s1) : Wq X Y KC 10 (QF X Y (Qvq Y KC Q)) σ 40 [(0, .inr (.inr 65)), (1, .inl v1), (4, .inl v4), (5, .inr (.inl v5)), (7, .inr (.inl v7))] [.inl s1, .inl s0] := by
  unfold f_X0_goThroughTest_J40 at h
  refine q_iadd ok dX0_goThroughTest_40 ?_
  refine wq_i (fun x1 ex1 => ?_)
  have h := h x1 ex1
  refine q_istore (lv' := [(9, .inl x1), (0, .inr (.inr 65)), (1, .inl v1), (4, .inl v4), (5, .inr (.inl v5)), (7, .inr (.inl v7))]) ok dX0_goThroughTest_41 (by decide) rfl ?_
  refine q_aload_n ok dX0_goThroughTest_43 1 rfl ?_
  refine q_getC ok fl_X0_28 kC_65 fC_65_8 dX0_goThroughTest_44 ?_
  refine q_iload ok dX0_goThroughTest_47 3 rfl ?_
  refine q_iload ok dX0_goThroughTest_49 0 rfl ?_
  refine q_callSV (st := []) ok cs_X0_176 (c_X9_putEntry X.2.1 Y ok.2.2.2.2.2.2.2.2 h) ⟨rfl, rfl, Nat.le_of_ble_eq_true rfl, Nat.le_of_ble_eq_true rfl⟩ rfl rfl (Nat.le_of_ble_eq_true rfl) dX0_goThroughTest_51 (fun σ1 h => ?_)
  refine q_aload_n ok dX0_goThroughTest_54 1 rfl ?_
  refine q_aload_n ok dX0_goThroughTest_55 1 rfl ?_
  refine q_getR ok fl_X0_31 kC_65 fC_65_0 dX0_goThroughTest_56 ?_
  obtain ⟨g1, h⟩ := h
  refine q_getC ok fl_X0_180 (kX7_0 g1) (fIX7_5 ((σ1 65 0).toNat)) dX0_goThroughTest_59 ?_
  refine q_iload_n ok dX0_goThroughTest_62 2 rfl ?_
  obtain ⟨g2, g3, h⟩ := h
  refine q_iald ok kC_ok (kX7_5 g1) g2 g3 dX0_goThroughTest_63 ?_
  refine q_lload ok dX0_goThroughTest_64 4 rfl ?_
  refine q_aload_n ok dX0_goThroughTest_66 1 rfl ?_
  refine q_getC ok fl_X0_21 kC_65 fC_65_6 dX0_goThroughTest_67 ?_
  refine q_iload_n ok dX0_goThroughTest_70 2 rfl ?_
  obtain ⟨g4, g5, h⟩ := h
  refine q_iald ok kC_ok kC_69 g4 g5 dX0_goThroughTest_71 ?_
  refine q_aload_n ok dX0_goThroughTest_72 1 rfl ?_
  refine q_getC ok fl_X0_25 kC_65 fC_65_7 dX0_goThroughTest_73 ?_
  refine q_iload_n ok dX0_goThroughTest_76 2 rfl ?_
  obtain ⟨g6, g7, h⟩ := h
  refine q_iald ok kC_ok kC_70 g6 g7 dX0_goThroughTest_77 ?_
  refine q_callVV (st := []) ok cs_X0_98 kC_65 rfl (c_X0_pour X.2.1 Y ok.2.2.2.2.2.2.2.2 h) ⟨rfl, rfl, Nat.le_of_ble_eq_true rfl, Nat.le_of_ble_eq_true rfl⟩ rfl rfl (Nat.le_of_ble_eq_true rfl) dX0_goThroughTest_78 (fun σ2 h => ?_)
  refine q_aload_n ok dX0_goThroughTest_81 1 rfl ?_
  refine q_aload_n ok dX0_goThroughTest_82 1 rfl ?_
  refine q_getR ok fl_X0_31 kC_65 fC_65_0 dX0_goThroughTest_83 ?_
  obtain ⟨g8, h⟩ := h
  refine q_getC ok fl_X0_183 (kX7_0 g8) (fIX7_6 ((σ2 65 0).toNat)) dX0_goThroughTest_86 ?_
  refine q_iload_n ok dX0_goThroughTest_89 2 rfl ?_
  obtain ⟨g9, g10, h⟩ := h
  refine q_iald ok kC_ok (kX7_6 g8) g9 g10 dX0_goThroughTest_90 ?_
  refine q_lload ok dX0_goThroughTest_91 5 rfl ?_
  refine q_aload_n ok dX0_goThroughTest_93 1 rfl ?_
  refine q_getC ok fl_X0_21 kC_65 fC_65_6 dX0_goThroughTest_94 ?_
  refine q_iload_n ok dX0_goThroughTest_97 2 rfl ?_
  obtain ⟨g11, g12, h⟩ := h
  refine q_iald ok kC_ok kC_69 g11 g12 dX0_goThroughTest_98 ?_
  refine q_aload_n ok dX0_goThroughTest_99 1 rfl ?_
  refine q_getC ok fl_X0_25 kC_65 fC_65_7 dX0_goThroughTest_100 ?_
  refine q_iload_n ok dX0_goThroughTest_103 2 rfl ?_
  obtain ⟨g13, g14, h⟩ := h
  refine q_iald ok kC_ok kC_70 g13 g14 dX0_goThroughTest_104 ?_
  refine q_callVV (st := []) ok cs_X0_98 kC_65 rfl (c_X0_pour X.2.1 Y ok.2.2.2.2.2.2.2.2 h) ⟨rfl, rfl, Nat.le_of_ble_eq_true rfl, Nat.le_of_ble_eq_true rfl⟩ rfl rfl (Nat.le_of_ble_eq_true rfl) dX0_goThroughTest_105 (fun σ3 h => ?_)
  exact q_vret ok dX0_goThroughTest_108 h
set_option maxRecDepth 100000 in
set_option maxHeartbeats 4000000 in
theorem w_X0_goThroughTest_J28 {X : Cx} {Y : Cy} {Q : St → Prop} (ok : Ok X Y KC cX0_goThroughTest 10 RX0 (rm0q 4 106) none) (σ : St) (v1 : Int) (v4 : Int) (v5 : Int) (v7 : Int) (s0 : Int) (h : f_X0_goThroughTest_J28 Q σ v1 v4 v5 v7 s0) : Wq X Y KC 10 (QF X Y (Qvq Y KC Q)) σ 28 [(0, .inr (.inr 65)), (1, .inl v1), (4, .inl v4), (5, .inr (.inl v5)), (7, .inr (.inl v7))] [.inl s0] := by
  unfold f_X0_goThroughTest_J28 at h
  refine q_lload ok dX0_goThroughTest_28 4 rfl ?_
  refine q_lconst ok dX0_goThroughTest_30 0 rfl ?_
  refine q_lcmp ok dX0_goThroughTest_31 ?_
  obtain ⟨g1, hT1a, hT1b⟩ := h
  refine q_if_eq (tgt := 39) ok dX0_goThroughTest_32 (by decide) g1 (fun c1 => ?_) (fun c1 => ?_)
  · have h := hT1a c1
    refine q_iconst ok dX0_goThroughTest_39 ?_
    exact w_X0_goThroughTest_J40 ok σ v1 v4 v5 v7 s0 0 h
  · have h := hT1b c1
    refine q_iconst ok dX0_goThroughTest_35 ?_
    refine q_goto (tgt := 40) ok dX0_goThroughTest_36 (by decide) ?_
    exact w_X0_goThroughTest_J40 ok σ v1 v4 v5 v7 s0 2 h
set_option maxRecDepth 100000 in
set_option maxHeartbeats 4000000 in
theorem c_X0_goThroughTest (l : Launch) (Y : Cy) (hD : ∀ σ, va_D Y.2.2.2 (wsOf KC Y.2.1 Y.2.2.1 σ)) {a0 : Int} {a1 : Int} {a2 : Int} {σ : St} {Q : St → Prop} (h : f_X0_goThroughTest a0 a1 a2 σ Q) : ConV l yX0_goThroughTest cX0_goThroughTest 10 (rm0q 4 106) Y KC σ [.inr (.inr 65), .inl a0, .inr (.inl a1), .inl a2] Q := con_of (lv := [(0, .inr (.inr 65)), (1, .inl a0), (2, .inr (.inl a1)), (4, .inl a2)]) (by decide) hD (Nat.le_of_ble_eq_true rfl) rfl (fun X _ ok => by
  have ok : Ok X Y KC cX0_goThroughTest 10 RX0 (rm0q 4 106) none := ok
  unfold f_X0_goThroughTest at h
  refine q_aload_n ok dX0_goThroughTest_0 0 rfl ?_
  refine q_iload_n ok dX0_goThroughTest_1 1 rfl ?_
  refine q_lload_n ok dX0_goThroughTest_2 2 rfl ?_
  refine q_callVL (st := []) ok cs_X0_169 kC_65 rfl (c_X0_truePart X.2.1 Y ok.2.2.2.2.2.2.2.2 h) ⟨rfl, rfl, Nat.le_of_ble_eq_true rfl, Nat.le_of_ble_eq_true rfl⟩ rfl rfl (Nat.le_of_ble_eq_true rfl) dX0_goThroughTest_3 (fun σ1 r1 h => ?_)
  refine q_lstore (lv' := [(5, .inr (.inl r1)), (0, .inr (.inr 65)), (1, .inl a0), (2, .inr (.inl a1)), (4, .inl a2)]) ok dX0_goThroughTest_6 (by decide) rfl ?_
  refine q_aload_n ok dX0_goThroughTest_8 1 rfl ?_
  refine q_iload_n ok dX0_goThroughTest_9 2 rfl ?_
  refine q_lload_n ok dX0_goThroughTest_10 3 rfl ?_
  refine q_callVL (st := []) ok cs_X0_173 kC_65 rfl (c_X0_falsePart X.2.1 Y ok.2.2.2.2.2.2.2.2 h) ⟨rfl, rfl, Nat.le_of_ble_eq_true rfl, Nat.le_of_ble_eq_true rfl⟩ rfl rfl (Nat.le_of_ble_eq_true rfl) dX0_goThroughTest_11 (fun σ2 r2 h => ?_)
  refine q_lstore (lv' := [(7, .inr (.inl r2)), (5, .inr (.inl r1)), (0, .inr (.inr 65)), (1, .inl a0), (2, .inr (.inl a1)), (4, .inl a2)]) ok dX0_goThroughTest_14 (by decide) rfl ?_
  refine q_lload ok dX0_goThroughTest_16 1 rfl ?_
  refine q_lconst ok dX0_goThroughTest_18 0 rfl ?_
  refine q_lcmp ok dX0_goThroughTest_19 ?_
  obtain ⟨g1, hT1a, hT1b⟩ := h
  refine q_if_eq (tgt := 27) ok dX0_goThroughTest_20 (by decide) g1 (fun c1 => ?_) (fun c1 => ?_)
  · have h := hT1a c1
    refine q_iconst ok dX0_goThroughTest_27 ?_
    refine q_sub [2, 3, 5, 1, 0] rfl ?_
    exact w_X0_goThroughTest_J28 ok σ2 a0 a2 r1 r2 0 h
  · have h := hT1b c1
    refine q_iconst ok dX0_goThroughTest_23 ?_
    refine q_goto (tgt := 28) ok dX0_goThroughTest_24 (by decide) ?_
    refine q_sub [2, 3, 5, 1, 0] rfl ?_
    exact w_X0_goThroughTest_J28 ok σ2 a0 a2 r1 r2 1 h)
/-! BranchingStory$Analyzer.goThroughChoice(IJI)V -/
def f_X0_goThroughChoice_J93 (Q : St → Prop) (σ : St) (v1 : Int) (v2 : Int) : Prop :=
  f_X0_goOn v1 v2 σ (fun σ1 => Q σ1)
def f_X0_goThroughChoice_J48 (Q : St → Prop) (σ : St) (v1 : Int) (v2 : Int) (v4 : Int) (s0 : Int) : Prop :=
  0 ≤ v1 ∧ v1 < 400 ∧ 0 ≤ v1 ∧ v1 < 400 ∧ ∀ σ1 : St, σ1 = sset σ 69 v1.toNat (ior32 (σ 69 v1.toNat) (ishl32 1 v4)) → inR s0 ∧ ((s0 = 0 → f_X0_goThroughChoice_J93 Q σ1 v1 v2) ∧ (¬ s0 = 0 → isS ((σ1 65 0).toNat) ∧ f_X7_standsInHub ((σ1 65 0).toNat) v4 σ1 (fun σ2 r1 => inR r1 ∧ ((¬ r1 = 0 → f_X0_goThroughChoice_J93 Q σ2 v1 v2) ∧ (r1 = 0 → 0 ≤ v1 ∧ v1 < 400 ∧ 0 ≤ v1 ∧ v1 < 400 ∧ ∀ σ3 : St, σ3 = sset σ2 70 v1.toNat (ior32 (σ2 70 v1.toNat) (ishl32 1 v4)) → f_X0_goThroughChoice_J93 Q σ3 v1 v2)))))
def f_X0_goThroughChoice_J43 (Q : St → Prop) (σ : St) (v1 : Int) (v2 : Int) (v4 : Int) : Prop :=
  f_X0_goThroughChoice_J48 Q σ v1 v2 v4 1
def f_X0_goThroughChoice (a0 : Int) (a1 : Int) (a2 : Int) (σ : St) (Q : St → Prop) : Prop :=
  f_X0_truePart a0 a1 σ (fun σ1 r1 => inR (lcmp64 r1 0) ∧ (((lcmp64 r1 0) = 0 → f_X0_goThroughChoice_J93 Q σ1 a0 a1) ∧ (¬ (lcmp64 r1 0) = 0 → isS ((σ1 65 0).toNat) ∧ 0 ≤ a0 ∧ a0 < 400 ∧ 0 ≤ a0 ∧ a0 < 400 ∧ inR (σ1 ((σ1 65 0).toNat + 7) a0.toNat) ∧ inR (σ1 ((σ1 65 0).toNat + 8) a0.toNat) ∧ (((σ1 ((σ1 65 0).toNat + 7) a0.toNat) = (σ1 ((σ1 65 0).toNat + 8) a0.toNat) → f_X0_goThroughChoice_J43 Q σ1 a0 a1 a2) ∧ (¬ (σ1 ((σ1 65 0).toNat + 7) a0.toNat) = (σ1 ((σ1 65 0).toNat + 8) a0.toNat) → f_X0_falsePart a0 a1 σ1 (fun σ2 r2 => inR (lcmp64 r2 0) ∧ ((¬ (lcmp64 r2 0) = 0 → f_X0_goThroughChoice_J48 Q σ2 a0 a1 a2 0) ∧ ((lcmp64 r2 0) = 0 → f_X0_goThroughChoice_J43 Q σ2 a0 a1 a2))))))))
set_option maxRecDepth 100000 in
set_option maxHeartbeats 4000000 in
theorem w_X0_goThroughChoice_J93 {X : Cx} {Y : Cy} {Q : St → Prop} (ok : Ok X Y KC cX0_goThroughChoice 6 RX0 (rm0q 4 106) none) (σ : St) (v1 : Int) (v2 : Int) (h : f_X0_goThroughChoice_J93 Q σ v1 v2) : Wq X Y KC 6 (QF X Y (Qvq Y KC Q)) σ 93 [(0, .inr (.inr 65)), (1, .inl v1), (2, .inr (.inl v2))] [] := by
  unfold f_X0_goThroughChoice_J93 at h
  refine q_aload_n ok dX0_goThroughChoice_93 0 rfl ?_
  refine q_iload_n ok dX0_goThroughChoice_94 1 rfl ?_
  refine q_lload_n ok dX0_goThroughChoice_95 2 rfl ?_
  refine q_callVV (st := []) ok cs_X0_122 kC_65 rfl (c_X0_goOn X.2.1 Y ok.2.2.2.2.2.2.2.2 h) ⟨rfl, rfl, Nat.le_of_ble_eq_true rfl, Nat.le_of_ble_eq_true rfl⟩ rfl rfl (Nat.le_of_ble_eq_true rfl) dX0_goThroughChoice_96 (fun σ1 h => ?_)
  exact q_vret ok dX0_goThroughChoice_99 h
set_option maxRecDepth 100000 in
set_option maxHeartbeats 4000000 in
theorem w_X0_goThroughChoice_J48 {X : Cx} {Y : Cy} {Q : St → Prop} (ok : Ok X Y KC cX0_goThroughChoice 6 RX0 (rm0q 4 106) none) (σ : St) (v1 : Int) (v2 : Int) (v4 : Int) (s0 : Int) (h : f_X0_goThroughChoice_J48 Q σ v1 v2 v4 s0) : Wq X Y KC 6 (QF X Y (Qvq Y KC Q)) σ 48 [(0, .inr (.inr 65)), (1, .inl v1), (2, .inr (.inl v2)), (4, .inl v4)] [.inl s0] := by
  unfold f_X0_goThroughChoice_J48 at h
  refine q_istore (lv' := [(5, .inl s0), (0, .inr (.inr 65)), (1, .inl v1), (2, .inr (.inl v2)), (4, .inl v4)]) ok dX0_goThroughChoice_48 (by decide) rfl ?_
  refine q_aload_n ok dX0_goThroughChoice_50 1 rfl ?_
  refine q_getC ok fl_X0_21 kC_65 fC_65_6 dX0_goThroughChoice_51 ?_
  refine q_iload_n ok dX0_goThroughChoice_54 2 rfl ?_
  refine q_dup2 ok dX0_goThroughChoice_55 rfl rfl ?_
  obtain ⟨g1, g2, h⟩ := h
  refine q_iald ok kC_ok kC_69 g1 g2 dX0_goThroughChoice_56 ?_
  refine q_iconst ok dX0_goThroughChoice_57 ?_
  refine q_iload ok dX0_goThroughChoice_58 4 rfl ?_
  refine q_ishl ok dX0_goThroughChoice_60 ?_
  refine q_ior ok dX0_goThroughChoice_61 ?_
  obtain ⟨g3, g4, h⟩ := h
  refine q_iast ok kC_ok kC_69 g3 g4 dX0_goThroughChoice_62 (wq_s (fun σ1 eσ1 => ?_))
  have h := h σ1 eσ1
  refine q_iload ok dX0_goThroughChoice_63 0 rfl ?_
  obtain ⟨g5, hT2a, hT2b⟩ := h
  refine q_if_eq (tgt := 93) ok dX0_goThroughChoice_65 (by decide) g5 (fun c2 => ?_) (fun c2 => ?_)
  · have h := hT2a c2
    refine q_sub [1, 2, 3] rfl ?_
    exact w_X0_goThroughChoice_J93 ok σ1 v1 v2 h
  · have h := hT2b c2
    refine q_aload_n ok dX0_goThroughChoice_68 1 rfl ?_
    refine q_getR ok fl_X0_31 kC_65 fC_65_0 dX0_goThroughChoice_69 ?_
    refine q_iload ok dX0_goThroughChoice_72 4 rfl ?_
    obtain ⟨g6, h⟩ := h
    refine q_callVI (st := []) ok cs_X0_192 (kX7_0 g6) rfl (c_X7_standsInHub X.2.1 Y ok.2.2.2.2.2.2.2.2 h) ⟨rfl, rfl, Nat.le_of_ble_eq_true rfl, Nat.le_of_ble_eq_true rfl⟩ rfl rfl (Nat.le_of_ble_eq_true rfl) dX0_goThroughChoice_74 (fun σ2 r1 h => ?_)
    obtain ⟨g7, hT1a, hT1b⟩ := h
    refine q_if_ne (tgt := 93) ok dX0_goThroughChoice_77 (by decide) g7 (fun c1 => ?_) (fun c1 => ?_)
    · have h := hT1a c1
      refine q_sub [1, 2, 3] rfl ?_
      exact w_X0_goThroughChoice_J93 ok σ2 v1 v2 h
    · have h := hT1b c1
      refine q_aload_n ok dX0_goThroughChoice_80 1 rfl ?_
      refine q_getC ok fl_X0_25 kC_65 fC_65_7 dX0_goThroughChoice_81 ?_
      refine q_iload_n ok dX0_goThroughChoice_84 2 rfl ?_
      refine q_dup2 ok dX0_goThroughChoice_85 rfl rfl ?_
      obtain ⟨g8, g9, h⟩ := h
      refine q_iald ok kC_ok kC_70 g8 g9 dX0_goThroughChoice_86 ?_
      refine q_iconst ok dX0_goThroughChoice_87 ?_
      refine q_iload ok dX0_goThroughChoice_88 4 rfl ?_
      refine q_ishl ok dX0_goThroughChoice_90 ?_
      refine q_ior ok dX0_goThroughChoice_91 ?_
      obtain ⟨g10, g11, h⟩ := h
      refine q_iast ok kC_ok kC_70 g10 g11 dX0_goThroughChoice_92 (wq_s (fun σ3 eσ3 => ?_))
      have h := h σ3 eσ3
      refine q_sub [1, 2, 3] rfl ?_
      exact w_X0_goThroughChoice_J93 ok σ3 v1 v2 h
set_option maxRecDepth 100000 in
set_option maxHeartbeats 4000000 in
theorem w_X0_goThroughChoice_J43 {X : Cx} {Y : Cy} {Q : St → Prop} (ok : Ok X Y KC cX0_goThroughChoice 6 RX0 (rm0q 4 106) none) (σ : St) (v1 : Int) (v2 : Int) (v4 : Int) (h : f_X0_goThroughChoice_J43 Q σ v1 v2 v4) : Wq X Y KC 6 (QF X Y (Qvq Y KC Q)) σ 43 [(0, .inr (.inr 65)), (1, .inl v1), (2, .inr (.inl v2)), (4, .inl v4)] [] := by
  unfold f_X0_goThroughChoice_J43 at h
  refine q_iconst ok dX0_goThroughChoice_43 ?_
  refine q_goto (tgt := 48) ok dX0_goThroughChoice_44 (by decide) ?_
  exact w_X0_goThroughChoice_J48 ok σ v1 v2 v4 1 h
set_option maxRecDepth 100000 in
set_option maxHeartbeats 4000000 in
theorem c_X0_goThroughChoice (l : Launch) (Y : Cy) (hD : ∀ σ, va_D Y.2.2.2 (wsOf KC Y.2.1 Y.2.2.1 σ)) {a0 : Int} {a1 : Int} {a2 : Int} {σ : St} {Q : St → Prop} (h : f_X0_goThroughChoice a0 a1 a2 σ Q) : ConV l yX0_goThroughChoice cX0_goThroughChoice 6 (rm0q 4 106) Y KC σ [.inr (.inr 65), .inl a0, .inr (.inl a1), .inl a2] Q := con_of (lv := [(0, .inr (.inr 65)), (1, .inl a0), (2, .inr (.inl a1)), (4, .inl a2)]) (by decide) hD (Nat.le_of_ble_eq_true rfl) rfl (fun X _ ok => by
  have ok : Ok X Y KC cX0_goThroughChoice 6 RX0 (rm0q 4 106) none := ok
  unfold f_X0_goThroughChoice at h
  refine q_aload_n ok dX0_goThroughChoice_0 0 rfl ?_
  refine q_iload_n ok dX0_goThroughChoice_1 1 rfl ?_
  refine q_lload_n ok dX0_goThroughChoice_2 2 rfl ?_
  refine q_callVL (st := []) ok cs_X0_169 kC_65 rfl (c_X0_truePart X.2.1 Y ok.2.2.2.2.2.2.2.2 h) ⟨rfl, rfl, Nat.le_of_ble_eq_true rfl, Nat.le_of_ble_eq_true rfl⟩ rfl rfl (Nat.le_of_ble_eq_true rfl) dX0_goThroughChoice_3 (fun σ1 r1 h => ?_)
  refine q_lconst ok dX0_goThroughChoice_6 0 rfl ?_
  refine q_lcmp ok dX0_goThroughChoice_7 ?_
  obtain ⟨g1, hT3a, hT3b⟩ := h
  refine q_if_eq (tgt := 93) ok dX0_goThroughChoice_8 (by decide) g1 (fun c3 => ?_) (fun c3 => ?_)
  · have h := hT3a c3
    refine q_sub [0, 1, 2] rfl ?_
    exact w_X0_goThroughChoice_J93 ok σ1 a0 a1 h
  · have h := hT3b c3
    refine q_aload_n ok dX0_goThroughChoice_11 0 rfl ?_
    refine q_getR ok fl_X0_31 kC_65 fC_65_0 dX0_goThroughChoice_12 ?_
    obtain ⟨g2, h⟩ := h
    refine q_getC ok fl_X0_186 (kX7_0 g2) (fIX7_7 ((σ1 65 0).toNat)) dX0_goThroughChoice_15 ?_
    refine q_iload_n ok dX0_goThroughChoice_18 1 rfl ?_
    obtain ⟨g3, g4, h⟩ := h
    refine q_iald ok kC_ok (kX7_7 g2) g3 g4 dX0_goThroughChoice_19 ?_
    refine q_aload_n ok dX0_goThroughChoice_20 0 rfl ?_
    refine q_getR ok fl_X0_31 kC_65 fC_65_0 dX0_goThroughChoice_21 ?_
    refine q_getC ok fl_X0_189 (kX7_0 g2) (fIX7_8 ((σ1 65 0).toNat)) dX0_goThroughChoice_24 ?_
    refine q_iload_n ok dX0_goThroughChoice_27 1 rfl ?_
    obtain ⟨g5, g6, h⟩ := h
    refine q_iald ok kC_ok (kX7_8 g2) g5 g6 dX0_goThroughChoice_28 ?_
    obtain ⟨g7, g8, hT2a, hT2b⟩ := h
    refine q_icmp_eq (tgt := 43) ok dX0_goThroughChoice_29 (by decide) g7 g8 (fun c2 => ?_) (fun c2 => ?_)
    · have h := hT2a c2
      exact w_X0_goThroughChoice_J43 ok σ1 a0 a1 a2 h
    · have h := hT2b c2
      refine q_aload_n ok dX0_goThroughChoice_32 0 rfl ?_
      refine q_iload_n ok dX0_goThroughChoice_33 1 rfl ?_
      refine q_lload_n ok dX0_goThroughChoice_34 2 rfl ?_
      refine q_callVL (st := []) ok cs_X0_173 kC_65 rfl (c_X0_falsePart X.2.1 Y ok.2.2.2.2.2.2.2.2 h) ⟨rfl, rfl, Nat.le_of_ble_eq_true rfl, Nat.le_of_ble_eq_true rfl⟩ rfl rfl (Nat.le_of_ble_eq_true rfl) dX0_goThroughChoice_35 (fun σ2 r2 h => ?_)
      refine q_lconst ok dX0_goThroughChoice_38 0 rfl ?_
      refine q_lcmp ok dX0_goThroughChoice_39 ?_
      obtain ⟨g9, hT1a, hT1b⟩ := h
      refine q_if_ne (tgt := 47) ok dX0_goThroughChoice_40 (by decide) g9 (fun c1 => ?_) (fun c1 => ?_)
      · have h := hT1a c1
        refine q_iconst ok dX0_goThroughChoice_47 ?_
        exact w_X0_goThroughChoice_J48 ok σ2 a0 a1 a2 0 h
      · have h := hT1b c1
        exact w_X0_goThroughChoice_J43 ok σ2 a0 a1 a2 h)
/-! BranchingStory$Analyzer.joinNode(IJ)V -/
def f_X0_joinNode_J48 (Q : St → Prop) (σ : St) (v1 : Int) (v4 : Int) (s1 : Int) : Prop :=
  (s1 = 0 ∨ s1 = 1) ∧ ∀ σ1 : St, σ1 = sset σ 65 2 s1 → 0 ≤ v1 ∧ v1 < 12 ∧ ∀ σ2 : St, σ2 = sset σ1 66 v1.toNat v4 → Q σ2
def f_X0_joinNode_J43 (Q : St → Prop) (σ : St) (v1 : Int) (v4 : Int) : Prop :=
  f_X0_joinNode_J48 Q σ v1 v4 1
def f_X0_joinNode (a0 : Int) (a1 : Int) (σ : St) (Q : St → Prop) : Prop :=
  inR a0 ∧ ((a0 < 0 → Q σ) ∧ (¬ a0 < 0 → inR a0 ∧ ((a0 < 12 → 0 ≤ a0 ∧ a0 < 12 ∧ f_X3_union (σ 66 a0.toNat) a1 σ (fun σ1 r1 => inR (σ1 65 2) ∧ ((¬ (σ1 65 2) = 0 → f_X0_joinNode_J43 Q σ1 a0 r1) ∧ ((σ1 65 2) = 0 → 0 ≤ a0 ∧ a0 < 12 ∧ inR (lcmp64 r1 (σ1 66 a0.toNat)) ∧ (((lcmp64 r1 (σ1 66 a0.toNat)) = 0 → f_X0_joinNode_J48 Q σ1 a0 r1 0) ∧ (¬ (lcmp64 r1 (σ1 66 a0.toNat)) = 0 → f_X0_joinNode_J43 Q σ1 a0 r1)))))) ∧ (¬ a0 < 12 → Q σ))))
set_option maxRecDepth 100000 in
set_option maxHeartbeats 4000000 in
theorem w_X0_joinNode_J48 {X : Cx} {Y : Cy} {Q : St → Prop} (ok : Ok X Y KC cX0_joinNode 6 RX0 (rm0q 2 54) none) (σ : St) (v1 : Int) (v4 : Int) (s1 : Int) (h : f_X0_joinNode_J48 Q σ v1 v4 s1) : Wq X Y KC 6 (QF X Y (Qvq Y KC Q)) σ 48 [(0, .inr (.inr 65)), (1, .inl v1), (4, .inr (.inl v4))] [.inl s1, .inr (.inr 65)] := by
  unfold f_X0_joinNode_J48 at h
  obtain ⟨g1, h⟩ := h
  refine q_putZ ok fp_X0_53 kC_65 fC_65_2 dX0_joinNode_48 g1 (wq_s (fun σ1 eσ1 => ?_))
  have h := h σ1 eσ1
  refine q_aload_n ok dX0_joinNode_51 0 rfl ?_
  refine q_getC ok fl_X0_9 kC_65 fC_65_3 dX0_joinNode_52 ?_
  refine q_iload_n ok dX0_joinNode_55 1 rfl ?_
  refine q_lload ok dX0_joinNode_56 2 rfl ?_
  obtain ⟨g2, g3, h⟩ := h
  refine q_last ok kC_ok kC_66 g2 g3 dX0_joinNode_58 (wq_s (fun σ2 eσ2 => ?_))
  have h := h σ2 eσ2
  exact q_vret ok dX0_joinNode_59 h
set_option maxRecDepth 100000 in
set_option maxHeartbeats 4000000 in
theorem w_X0_joinNode_J43 {X : Cx} {Y : Cy} {Q : St → Prop} (ok : Ok X Y KC cX0_joinNode 6 RX0 (rm0q 2 54) none) (σ : St) (v1 : Int) (v4 : Int) (h : f_X0_joinNode_J43 Q σ v1 v4) : Wq X Y KC 6 (QF X Y (Qvq Y KC Q)) σ 43 [(0, .inr (.inr 65)), (1, .inl v1), (4, .inr (.inl v4))] [.inr (.inr 65)] := by
  unfold f_X0_joinNode_J43 at h
  refine q_iconst ok dX0_joinNode_43 ?_
  refine q_goto (tgt := 48) ok dX0_joinNode_44 (by decide) ?_
  exact w_X0_joinNode_J48 ok σ v1 v4 1 h
set_option maxRecDepth 100000 in
set_option maxHeartbeats 4000000 in
theorem c_X0_joinNode (l : Launch) (Y : Cy) (hD : ∀ σ, va_D Y.2.2.2 (wsOf KC Y.2.1 Y.2.2.1 σ)) {a0 : Int} {a1 : Int} {σ : St} {Q : St → Prop} (h : f_X0_joinNode a0 a1 σ Q) : ConV l yX0_joinNode cX0_joinNode 6 (rm0q 2 54) Y KC σ [.inr (.inr 65), .inl a0, .inr (.inl a1)] Q := con_of (lv := [(0, .inr (.inr 65)), (1, .inl a0), (2, .inr (.inl a1))]) (by decide) hD (Nat.le_of_ble_eq_true rfl) rfl (fun X _ ok => by
  have ok : Ok X Y KC cX0_joinNode 6 RX0 (rm0q 2 54) none := ok
  unfold f_X0_joinNode at h
  refine q_iload_n ok dX0_joinNode_0 1 rfl ?_
  obtain ⟨g1, hT4a, hT4b⟩ := h
  refine q_if_lt (tgt := 10) ok dX0_joinNode_1 (by decide) g1 (fun c4 => ?_) (fun c4 => ?_)
  · have h := hT4a c4
    exact q_vret ok dX0_joinNode_10 h
  · have h := hT4b c4
    refine q_iload_n ok dX0_joinNode_4 1 rfl ?_
    refine q_bipush ok dX0_joinNode_5 rfl ?_
    obtain ⟨g2, hT3a, hT3b⟩ := h
    refine q_icmp_lt (tgt := 11) ok dX0_joinNode_7 (by decide) g2 (by unfold inR; decide) (fun c3 => ?_) (fun c3 => ?_)
    · have h := hT3a c3
      refine q_aload_n ok dX0_joinNode_11 0 rfl ?_
      refine q_getC ok fl_X0_9 kC_65 fC_65_3 dX0_joinNode_12 ?_
      refine q_iload_n ok dX0_joinNode_15 1 rfl ?_
      obtain ⟨g3, g4, h⟩ := h
      refine q_lald ok kC_ok kC_66 g3 g4 dX0_joinNode_16 ?_
      refine q_lload_n ok dX0_joinNode_17 2 rfl ?_
      refine q_callSL (st := []) ok cs_X0_111 (c_X3_union X.2.1 Y ok.2.2.2.2.2.2.2.2 h) ⟨rfl, rfl, Nat.le_of_ble_eq_true rfl, Nat.le_of_ble_eq_true rfl⟩ rfl rfl (Nat.le_of_ble_eq_true rfl) dX0_joinNode_18 (fun σ1 r1 h => ?_)
      refine q_lstore (lv' := [(4, .inr (.inl r1)), (0, .inr (.inr 65)), (1, .inl a0), (2, .inr (.inl a1))]) ok dX0_joinNode_21 (by decide) rfl ?_
      refine q_aload_n ok dX0_joinNode_23 1 rfl ?_
      refine q_aload_n ok dX0_joinNode_24 1 rfl ?_
      refine q_getI ok fl_X0_53 kC_65 fC_65_2 dX0_joinNode_25 ?_
      obtain ⟨g5, hT2a, hT2b⟩ := h
      refine q_if_ne (tgt := 43) ok dX0_joinNode_28 (by decide) g5 (fun c2 => ?_) (fun c2 => ?_)
      · have h := hT2a c2
        refine q_sub [1, 2, 0] rfl ?_
        exact w_X0_joinNode_J43 ok σ1 a0 r1 h
      · have h := hT2b c2
        refine q_lload ok dX0_joinNode_31 0 rfl ?_
        refine q_aload_n ok dX0_joinNode_33 1 rfl ?_
        refine q_getC ok fl_X0_9 kC_65 fC_65_3 dX0_joinNode_34 ?_
        refine q_iload_n ok dX0_joinNode_37 2 rfl ?_
        obtain ⟨g6, g7, h⟩ := h
        refine q_lald ok kC_ok kC_66 g6 g7 dX0_joinNode_38 ?_
        refine q_lcmp ok dX0_joinNode_39 ?_
        obtain ⟨g8, hT1a, hT1b⟩ := h
        refine q_if_eq (tgt := 47) ok dX0_joinNode_40 (by decide) g8 (fun c1 => ?_) (fun c1 => ?_)
        · have h := hT1a c1
          refine q_iconst ok dX0_joinNode_47 ?_
          refine q_sub [1, 2, 0] rfl ?_
          exact w_X0_joinNode_J48 ok σ1 a0 r1 0 h
        · have h := hT1b c1
          refine q_sub [1, 2, 0] rfl ?_
          exact w_X0_joinNode_J43 ok σ1 a0 r1 h
    · have h := hT3b c3
      exact q_vret ok dX0_joinNode_10 h)
/-! BranchingStory$Analyzer.goToHubs(JI)V -/
def f_X0_goToHubs_L9 (Q : St → Prop) : Nat → St → Int → Int → Int → Int → Prop
  | 0, _, _, _, _, _ => False
  | n + 1, σ, v1, v3, v4, v5 => inR v5 ∧ ((12 ≤ v5 → inR (iand32 v4 4096) ∧ (((iand32 v4 4096) = 0 → Q σ) ∧ (¬ (iand32 v4 4096) = 0 → ∀ σ1 : St, σ1 = sset σ 65 10 (ior32 (σ 65 10) (ishl32 1 v3)) → Q σ1))) ∧ (¬ 12 ≤ v5 → inR (iand32 (ishr32 v4 v5) 1) ∧ ((¬ (iand32 (ishr32 v4 v5) 1) = 1 → f_X0_goToHubs_L9 Q n σ v1 v3 v4 (v5 + 1)) ∧ ((iand32 (ishr32 v4 v5) 1) = 1 → f_X0_joinNode v5 v1 σ (fun σ2 => f_X0_goToHubs_L9 Q n σ2 v1 v3 v4 (v5 + 1))))))
def f_X0_goToHubs (a0 : Int) (a1 : Int) (σ : St) (Q : St → Prop) : Prop :=
  f_X3_hubSet a0 σ (fun σ1 r1 => f_X0_goToHubs_L9 Q FU σ1 a0 a1 r1 0)
set_option maxRecDepth 100000 in
set_option maxHeartbeats 4000000 in
theorem w_X0_goToHubs_L9 {X : Cx} {Y : Cy} {Q : St → Prop} (ok : Ok X Y KC cX0_goToHubs 6 RX0 (rm0q 3 79) none) : ∀ (n : Nat) (σ : St) (v1 : Int) (v3 : Int) (v4 : Int) (v5 : Int) , f_X0_goToHubs_L9 Q n σ v1 v3 v4 v5 → Wq X Y KC 6 (QF X Y (Qvq Y KC Q)) σ 9 [(0, .inr (.inr 65)), (1, .inr (.inl v1)), (3, .inl v3), (4, .inl v4), (5, .inl v5)] [] := by
  intro n
  induction n with
  | zero => intro σ v1 v3 v4 v5 h; exact h.elim
  | succ n ih =>
    intro σ v1 v3 v4 v5 h
    rw [f_X0_goToHubs_L9] at h
    refine q_iload ok dX0_goToHubs_9 4 rfl ?_
    refine q_bipush ok dX0_goToHubs_11 rfl ?_
    obtain ⟨g1, hT3a, hT3b⟩ := h
    refine q_icmp_ge (tgt := 40) ok dX0_goToHubs_13 (by decide) g1 (by unfold inR; decide) (fun c3 => ?_) (fun c3 => ?_)
    · have h := hT3a c3
      refine q_iload ok dX0_goToHubs_40 3 rfl ?_
      refine q_sipush ok dX0_goToHubs_42 rfl ?_
      refine q_iand ok dX0_goToHubs_45 ?_
      obtain ⟨g2, hT1a, hT1b⟩ := h
      refine q_if_eq (tgt := 61) ok dX0_goToHubs_46 (by decide) g2 (fun c1 => ?_) (fun c1 => ?_)
      · have h := hT1a c1
        exact q_vret ok dX0_goToHubs_61 h
      · have h := hT1b c1
        refine q_aload_n ok dX0_goToHubs_49 0 rfl ?_
        refine q_dup ok dX0_goToHubs_50 rfl ?_
        refine q_getI ok fl_X0_75 kC_65 fC_65_10 dX0_goToHubs_51 ?_
        refine q_iconst ok dX0_goToHubs_54 ?_
        refine q_iload_n ok dX0_goToHubs_55 2 rfl ?_
        refine q_ishl ok dX0_goToHubs_56 ?_
        refine q_ior ok dX0_goToHubs_57 ?_
        refine q_putI ok fp_X0_75 kC_65 fC_65_10 dX0_goToHubs_58 (wq_s (fun σ1 eσ1 => ?_))
        have h := h σ1 eσ1
        exact q_vret ok dX0_goToHubs_61 h
    · have h := hT3b c3
      refine q_iload ok dX0_goToHubs_16 3 rfl ?_
      refine q_iload ok dX0_goToHubs_18 4 rfl ?_
      refine q_ishr ok dX0_goToHubs_20 ?_
      refine q_iconst ok dX0_goToHubs_21 ?_
      refine q_iand ok dX0_goToHubs_22 ?_
      refine q_iconst ok dX0_goToHubs_23 ?_
      obtain ⟨g3, hT2a, hT2b⟩ := h
      refine q_icmp_ne (tgt := 34) ok dX0_goToHubs_24 (by decide) g3 (by unfold inR; decide) (fun c2 => ?_) (fun c2 => ?_)
      · have h := hT2a c2
        refine q_iinc (lv' := [(5, .inl (v5 + 1)), (0, .inr (.inr 65)), (1, .inr (.inl v1)), (3, .inl v3), (4, .inl v4)]) ok dX0_goToHubs_34 4 rfl (by decide) rfl ?_
        refine q_goto (tgt := 9) ok dX0_goToHubs_37 (by decide) ?_
        refine q_sub [1, 2, 3, 4, 0] rfl ?_
        exact ih σ v1 v3 v4 (v5 + 1) h
      · have h := hT2b c2
        refine q_aload_n ok dX0_goToHubs_27 0 rfl ?_
        refine q_iload ok dX0_goToHubs_28 4 rfl ?_
        refine q_lload_n ok dX0_goToHubs_30 1 rfl ?_
        refine q_callVV (st := []) ok cs_X0_135 kC_65 rfl (c_X0_joinNode X.2.1 Y ok.2.2.2.2.2.2.2.2 h) ⟨rfl, rfl, Nat.le_of_ble_eq_true rfl, Nat.le_of_ble_eq_true rfl⟩ rfl rfl (Nat.le_of_ble_eq_true rfl) dX0_goToHubs_31 (fun σ2 h => ?_)
        refine q_iinc (lv' := [(5, .inl (v5 + 1)), (0, .inr (.inr 65)), (1, .inr (.inl v1)), (3, .inl v3), (4, .inl v4)]) ok dX0_goToHubs_34 4 rfl (by decide) rfl ?_
        refine q_goto (tgt := 9) ok dX0_goToHubs_37 (by decide) ?_
        refine q_sub [1, 2, 3, 4, 0] rfl ?_
        exact ih σ2 v1 v3 v4 (v5 + 1) h
set_option maxRecDepth 100000 in
set_option maxHeartbeats 4000000 in
theorem c_X0_goToHubs (l : Launch) (Y : Cy) (hD : ∀ σ, va_D Y.2.2.2 (wsOf KC Y.2.1 Y.2.2.1 σ)) {a0 : Int} {a1 : Int} {σ : St} {Q : St → Prop} (h : f_X0_goToHubs a0 a1 σ Q) : ConV l yX0_goToHubs cX0_goToHubs 6 (rm0q 3 79) Y KC σ [.inr (.inr 65), .inr (.inl a0), .inl a1] Q := con_of (lv := [(0, .inr (.inr 65)), (1, .inr (.inl a0)), (3, .inl a1)]) (by decide) hD (Nat.le_of_ble_eq_true rfl) rfl (fun X _ ok => by
  have ok : Ok X Y KC cX0_goToHubs 6 RX0 (rm0q 3 79) none := ok
  unfold f_X0_goToHubs at h
  refine q_lload_n ok dX0_goToHubs_0 1 rfl ?_
  refine q_callSI (st := []) ok cs_X0_206 (c_X3_hubSet X.2.1 Y ok.2.2.2.2.2.2.2.2 h) ⟨rfl, rfl, Nat.le_of_ble_eq_true rfl, Nat.le_of_ble_eq_true rfl⟩ rfl rfl (Nat.le_of_ble_eq_true rfl) dX0_goToHubs_1 (fun σ1 r1 h => ?_)
  refine q_istore (lv' := [(4, .inl r1), (0, .inr (.inr 65)), (1, .inr (.inl a0)), (3, .inl a1)]) ok dX0_goToHubs_4 (by decide) rfl ?_
  refine q_iconst ok dX0_goToHubs_6 ?_
  refine q_istore (lv' := [(5, .inl 0), (4, .inl r1), (0, .inr (.inr 65)), (1, .inr (.inl a0)), (3, .inl a1)]) ok dX0_goToHubs_7 (by decide) rfl ?_
  refine q_sub [2, 3, 4, 1, 0] rfl ?_
  exact w_X0_goToHubs_L9 ok FU σ1 a0 a1 r1 0 h)
/-! BranchingStory$Analyzer.joinChoices(IJ)V -/
def f_X0_joinChoices_J59 (k3 : St → Int → Int → Int → Prop) (Q : St → Prop) (σ : St) (v1 : Int) (v2 : Int) (v4 : Int) (v5 : Int) (s1 : Int) : Prop :=
  (s1 = 0 ∨ s1 = 1) ∧ ∀ σ1 : St, σ1 = sset σ 65 2 s1 → 0 ≤ v4 ∧ v4 < 16 ∧ ∀ σ2 : St, σ2 = sset σ1 67 v4.toNat v5 → k3 σ2 v1 v2 (v4 + 1)
def f_X0_joinChoices_J54 (k3 : St → Int → Int → Int → Prop) (Q : St → Prop) (σ : St) (v1 : Int) (v2 : Int) (v4 : Int) (v5 : Int) : Prop :=
  f_X0_joinChoices_J59 k3 Q σ v1 v2 v4 v5 1
def f_X0_joinChoices_L3 (Q : St → Prop) : Nat → St → Int → Int → Int → Prop
  | 0, _, _, _, _ => False
  | n + 1, σ, v1, v2, v4 => inR v4 ∧ ((16 ≤ v4 → Q σ) ∧ (¬ 16 ≤ v4 → inR (iand32 (ishr32 v1 v4) 1) ∧ ((¬ (iand32 (ishr32 v1 v4) 1) = 1 → f_X0_joinChoices_L3 Q n σ v1 v2 (v4 + 1)) ∧ ((iand32 (ishr32 v1 v4) 1) = 1 → 0 ≤ v4 ∧ v4 < 16 ∧ f_X3_union (σ 67 v4.toNat) v2 σ (fun σ1 r1 => inR (σ1 65 2) ∧ ((¬ (σ1 65 2) = 0 → f_X0_joinChoices_J54 (fun σ' v1' v2' v4' => f_X0_joinChoices_L3 Q n σ' v1' v2' v4') Q σ1 v1 v2 v4 r1) ∧ ((σ1 65 2) = 0 → 0 ≤ v4 ∧ v4 < 16 ∧ inR (lcmp64 r1 (σ1 67 v4.toNat)) ∧ (((lcmp64 r1 (σ1 67 v4.toNat)) = 0 → f_X0_joinChoices_J59 (fun σ' v1' v2' v4' => f_X0_joinChoices_L3 Q n σ' v1' v2' v4') Q σ1 v1 v2 v4 r1 0) ∧ (¬ (lcmp64 r1 (σ1 67 v4.toNat)) = 0 → f_X0_joinChoices_J54 (fun σ' v1' v2' v4' => f_X0_joinChoices_L3 Q n σ' v1' v2' v4') Q σ1 v1 v2 v4 r1)))))))))
def f_X0_joinChoices (a0 : Int) (a1 : Int) (σ : St) (Q : St → Prop) : Prop :=
  f_X0_joinChoices_L3 Q FU σ a0 a1 0
set_option maxRecDepth 100000 in
set_option maxHeartbeats 4000000 in
theorem w_X0_joinChoices_J59 {X : Cx} {Y : Cy} {k3 : St → Int → Int → Int → Prop} {Q : St → Prop} (ok : Ok X Y KC cX0_joinChoices 7 RX0 (rm0q 2 54) none) (hk3 : ∀ (σ : St) (v1 : Int) (v2 : Int) (v4 : Int) , k3 σ v1 v2 v4 → Wq X Y KC 7 (QF X Y (Qvq Y KC Q)) σ 3 [(0, .inr (.inr 65)), (1, .inl v1), (2, .inr (.inl v2)), (4, .inl v4)] []) (σ : St) (v1 : Int) (v2 : Int) (v4 : Int) (v5 : Int) (s1 : Int) (h : f_X0_joinChoices_J59 k3 Q σ v1 v2 v4 v5 s1) : Wq X Y KC 7 (QF X Y (Qvq Y KC Q)) σ 59 [(0, .inr (.inr 65)), (1, .inl v1), (2, .inr (.inl v2)), (4, .inl v4), (5, .inr (.inl v5))] [.inl s1, .inr (.inr 65)] := by
  unfold f_X0_joinChoices_J59 at h
  obtain ⟨g1, h⟩ := h
  refine q_putZ ok fp_X0_53 kC_65 fC_65_2 dX0_joinChoices_59 g1 (wq_s (fun σ1 eσ1 => ?_))
  have h := h σ1 eσ1
  refine q_aload_n ok dX0_joinChoices_62 0 rfl ?_
  refine q_getC ok fl_X0_15 kC_65 fC_65_4 dX0_joinChoices_63 ?_
  refine q_iload ok dX0_joinChoices_66 3 rfl ?_
  refine q_lload ok dX0_joinChoices_68 4 rfl ?_
  obtain ⟨g2, g3, h⟩ := h
  refine q_last ok kC_ok kC_67 g2 g3 dX0_joinChoices_70 (wq_s (fun σ2 eσ2 => ?_))
  have h := h σ2 eσ2
  refine q_iinc (lv' := [(4, .inl (v4 + 1)), (0, .inr (.inr 65)), (1, .inl v1), (2, .inr (.inl v2)), (5, .inr (.inl v5))]) ok dX0_joinChoices_71 3 rfl (by decide) rfl ?_
  refine q_goto (tgt := 3) ok dX0_joinChoices_74 (by decide) ?_
  refine q_sub [1, 2, 3, 0] rfl ?_
  exact hk3 σ2 v1 v2 (v4 + 1) h
set_option maxRecDepth 100000 in
set_option maxHeartbeats 4000000 in
theorem w_X0_joinChoices_J54 {X : Cx} {Y : Cy} {k3 : St → Int → Int → Int → Prop} {Q : St → Prop} (ok : Ok X Y KC cX0_joinChoices 7 RX0 (rm0q 2 54) none) (hk3 : ∀ (σ : St) (v1 : Int) (v2 : Int) (v4 : Int) , k3 σ v1 v2 v4 → Wq X Y KC 7 (QF X Y (Qvq Y KC Q)) σ 3 [(0, .inr (.inr 65)), (1, .inl v1), (2, .inr (.inl v2)), (4, .inl v4)] []) (σ : St) (v1 : Int) (v2 : Int) (v4 : Int) (v5 : Int) (h : f_X0_joinChoices_J54 k3 Q σ v1 v2 v4 v5) : Wq X Y KC 7 (QF X Y (Qvq Y KC Q)) σ 54 [(0, .inr (.inr 65)), (1, .inl v1), (2, .inr (.inl v2)), (4, .inl v4), (5, .inr (.inl v5))] [.inr (.inr 65)] := by
  unfold f_X0_joinChoices_J54 at h
  refine q_iconst ok dX0_joinChoices_54 ?_
  refine q_goto (tgt := 59) ok dX0_joinChoices_55 (by decide) ?_
  exact w_X0_joinChoices_J59 ok hk3 σ v1 v2 v4 v5 1 h
set_option maxRecDepth 100000 in
set_option maxHeartbeats 4000000 in
theorem w_X0_joinChoices_L3 {X : Cx} {Y : Cy} {Q : St → Prop} (ok : Ok X Y KC cX0_joinChoices 7 RX0 (rm0q 2 54) none) : ∀ (n : Nat) (σ : St) (v1 : Int) (v2 : Int) (v4 : Int) , f_X0_joinChoices_L3 Q n σ v1 v2 v4 → Wq X Y KC 7 (QF X Y (Qvq Y KC Q)) σ 3 [(0, .inr (.inr 65)), (1, .inl v1), (2, .inr (.inl v2)), (4, .inl v4)] [] := by
  intro n
  induction n with
  | zero => intro σ v1 v2 v4 h; exact h.elim
  | succ n ih =>
    intro σ v1 v2 v4 h
    rw [f_X0_joinChoices_L3] at h
    refine q_iload ok dX0_joinChoices_3 3 rfl ?_
    refine q_bipush ok dX0_joinChoices_5 rfl ?_
    obtain ⟨g1, hT4a, hT4b⟩ := h
    refine q_icmp_ge (tgt := 77) ok dX0_joinChoices_7 (by decide) g1 (by unfold inR; decide) (fun c4 => ?_) (fun c4 => ?_)
    · have h := hT4a c4
      exact q_vret ok dX0_joinChoices_77 h
    · have h := hT4b c4
      refine q_iload_n ok dX0_joinChoices_10 1 rfl ?_
      refine q_iload ok dX0_joinChoices_11 3 rfl ?_
      refine q_ishr ok dX0_joinChoices_13 ?_
      refine q_iconst ok dX0_joinChoices_14 ?_
      refine q_iand ok dX0_joinChoices_15 ?_
      refine q_iconst ok dX0_joinChoices_16 ?_
      obtain ⟨g2, hT3a, hT3b⟩ := h
      refine q_icmp_ne (tgt := 71) ok dX0_joinChoices_17 (by decide) g2 (by unfold inR; decide) (fun c3 => ?_) (fun c3 => ?_)
      · have h := hT3a c3
        refine q_iinc (lv' := [(4, .inl (v4 + 1)), (0, .inr (.inr 65)), (1, .inl v1), (2, .inr (.inl v2))]) ok dX0_joinChoices_71 3 rfl (by decide) rfl ?_
        refine q_goto (tgt := 3) ok dX0_joinChoices_74 (by decide) ?_
        refine q_sub [1, 2, 3, 0] rfl ?_
        exact ih σ v1 v2 (v4 + 1) h
      · have h := hT3b c3
        refine q_aload_n ok dX0_joinChoices_20 0 rfl ?_
        refine q_getC ok fl_X0_15 kC_65 fC_65_4 dX0_joinChoices_21 ?_
        refine q_iload ok dX0_joinChoices_24 3 rfl ?_
        obtain ⟨g3, g4, h⟩ := h
        refine q_lald ok kC_ok kC_67 g3 g4 dX0_joinChoices_26 ?_
        refine q_lload_n ok dX0_joinChoices_27 2 rfl ?_
        refine q_callSL (st := []) ok cs_X0_111 (c_X3_union X.2.1 Y ok.2.2.2.2.2.2.2.2 h) ⟨rfl, rfl, Nat.le_of_ble_eq_true rfl, Nat.le_of_ble_eq_true rfl⟩ rfl rfl (Nat.le_of_ble_eq_true rfl) dX0_joinChoices_28 (fun σ1 r1 h => ?_)
        refine q_lstore (lv' := [(5, .inr (.inl r1)), (0, .inr (.inr 65)), (1, .inl v1), (2, .inr (.inl v2)), (4, .inl v4)]) ok dX0_joinChoices_31 (by decide) rfl ?_
        refine q_aload_n ok dX0_joinChoices_33 1 rfl ?_
        refine q_aload_n ok dX0_joinChoices_34 1 rfl ?_
        refine q_getI ok fl_X0_53 kC_65 fC_65_2 dX0_joinChoices_35 ?_
        obtain ⟨g5, hT2a, hT2b⟩ := h
        refine q_if_ne (tgt := 54) ok dX0_joinChoices_38 (by decide) g5 (fun c2 => ?_) (fun c2 => ?_)
        · have h := hT2a c2
          refine q_sub [1, 2, 3, 4, 0] rfl ?_
          exact w_X0_joinChoices_J54 ok ih σ1 v1 v2 v4 r1 h
        · have h := hT2b c2
          refine q_lload ok dX0_joinChoices_41 0 rfl ?_
          refine q_aload_n ok dX0_joinChoices_43 1 rfl ?_
          refine q_getC ok fl_X0_15 kC_65 fC_65_4 dX0_joinChoices_44 ?_
          refine q_iload ok dX0_joinChoices_47 4 rfl ?_
          obtain ⟨g6, g7, h⟩ := h
          refine q_lald ok kC_ok kC_67 g6 g7 dX0_joinChoices_49 ?_
          refine q_lcmp ok dX0_joinChoices_50 ?_
          obtain ⟨g8, hT1a, hT1b⟩ := h
          refine q_if_eq (tgt := 58) ok dX0_joinChoices_51 (by decide) g8 (fun c1 => ?_) (fun c1 => ?_)
          · have h := hT1a c1
            refine q_iconst ok dX0_joinChoices_58 ?_
            refine q_sub [1, 2, 3, 4, 0] rfl ?_
            exact w_X0_joinChoices_J59 ok ih σ1 v1 v2 v4 r1 0 h
          · have h := hT1b c1
            refine q_sub [1, 2, 3, 4, 0] rfl ?_
            exact w_X0_joinChoices_J54 ok ih σ1 v1 v2 v4 r1 h
set_option maxRecDepth 100000 in
set_option maxHeartbeats 4000000 in
theorem c_X0_joinChoices (l : Launch) (Y : Cy) (hD : ∀ σ, va_D Y.2.2.2 (wsOf KC Y.2.1 Y.2.2.1 σ)) {a0 : Int} {a1 : Int} {σ : St} {Q : St → Prop} (h : f_X0_joinChoices a0 a1 σ Q) : ConV l yX0_joinChoices cX0_joinChoices 7 (rm0q 2 54) Y KC σ [.inr (.inr 65), .inl a0, .inr (.inl a1)] Q := con_of (lv := [(0, .inr (.inr 65)), (1, .inl a0), (2, .inr (.inl a1))]) (by decide) hD (Nat.le_of_ble_eq_true rfl) rfl (fun X _ ok => by
  have ok : Ok X Y KC cX0_joinChoices 7 RX0 (rm0q 2 54) none := ok
  unfold f_X0_joinChoices at h
  refine q_iconst ok dX0_joinChoices_0 ?_
  refine q_istore (lv' := [(4, .inl 0), (0, .inr (.inr 65)), (1, .inl a0), (2, .inr (.inl a1))]) ok dX0_joinChoices_1 (by decide) rfl ?_
  refine q_sub [1, 2, 3, 0] rfl ?_
  exact w_X0_joinChoices_L3 ok FU σ a0 a1 0 h)
/-! BranchingStory$Analyzer.endNode(IJI)V -/
def f_X0_endNode (a0 : Int) (a1 : Int) (a2 : Int) (σ : St) (Q : St → Prop) : Prop :=
  0 ≤ a0 ∧ a0 < 400 ∧ f_X0_joinChoices (σ 69 a0.toNat) a1 σ (fun σ1 => 0 ≤ a0 ∧ a0 < 400 ∧ inR (σ1 70 a0.toNat) ∧ ((¬ (σ1 70 a0.toNat) = 0 → Q σ1) ∧ ((σ1 70 a0.toNat) = 0 → ∀ σ2 : St, σ2 = sset σ1 65 10 (ior32 (σ1 65 10) (ishl32 1 a2)) → Q σ2)))
set_option maxRecDepth 100000 in
set_option maxHeartbeats 4000000 in
theorem c_X0_endNode (l : Launch) (Y : Cy) (hD : ∀ σ, va_D Y.2.2.2 (wsOf KC Y.2.1 Y.2.2.1 σ)) {a0 : Int} {a1 : Int} {a2 : Int} {σ : St} {Q : St → Prop} (h : f_X0_endNode a0 a1 a2 σ Q) : ConV l yX0_endNode cX0_endNode 5 (rm0q 3 80) Y KC σ [.inr (.inr 65), .inl a0, .inr (.inl a1), .inl a2] Q := con_of (lv := [(0, .inr (.inr 65)), (1, .inl a0), (2, .inr (.inl a1)), (4, .inl a2)]) (by decide) hD (Nat.le_of_ble_eq_true rfl) rfl (fun X _ ok => by
  have ok : Ok X Y KC cX0_endNode 5 RX0 (rm0q 3 80) none := ok
  unfold f_X0_endNode at h
  refine q_aload_n ok dX0_endNode_0 0 rfl ?_
  refine q_aload_n ok dX0_endNode_1 0 rfl ?_
  refine q_getC ok fl_X0_21 kC_65 fC_65_6 dX0_endNode_2 ?_
  refine q_iload_n ok dX0_endNode_5 1 rfl ?_
  obtain ⟨g1, g2, h⟩ := h
  refine q_iald ok kC_ok kC_69 g1 g2 dX0_endNode_6 ?_
  refine q_lload_n ok dX0_endNode_7 2 rfl ?_
  refine q_callVV (st := []) ok cs_X0_210 kC_65 rfl (c_X0_joinChoices X.2.1 Y ok.2.2.2.2.2.2.2.2 h) ⟨rfl, rfl, Nat.le_of_ble_eq_true rfl, Nat.le_of_ble_eq_true rfl⟩ rfl rfl (Nat.le_of_ble_eq_true rfl) dX0_endNode_8 (fun σ1 h => ?_)
  refine q_aload_n ok dX0_endNode_11 0 rfl ?_
  refine q_getC ok fl_X0_25 kC_65 fC_65_7 dX0_endNode_12 ?_
  refine q_iload_n ok dX0_endNode_15 1 rfl ?_
  obtain ⟨g3, g4, h⟩ := h
  refine q_iald ok kC_ok kC_70 g3 g4 dX0_endNode_16 ?_
  obtain ⟨g5, hT1a, hT1b⟩ := h
  refine q_if_ne (tgt := 33) ok dX0_endNode_17 (by decide) g5 (fun c1 => ?_) (fun c1 => ?_)
  · have h := hT1a c1
    exact q_vret ok dX0_endNode_33 h
  · have h := hT1b c1
    refine q_aload_n ok dX0_endNode_20 0 rfl ?_
    refine q_dup ok dX0_endNode_21 rfl ?_
    refine q_getI ok fl_X0_75 kC_65 fC_65_10 dX0_endNode_22 ?_
    refine q_iconst ok dX0_endNode_25 ?_
    refine q_iload ok dX0_endNode_26 3 rfl ?_
    refine q_ishl ok dX0_endNode_28 ?_
    refine q_ior ok dX0_endNode_29 ?_
    refine q_putI ok fp_X0_75 kC_65 fC_65_10 dX0_endNode_30 (wq_s (fun σ2 eσ2 => ?_))
    have h := h σ2 eσ2
    exact q_vret ok dX0_endNode_33 h)
/-! BranchingStory$Analyzer.endChoice(IJI)V -/
def f_X0_endChoice (a0 : Int) (a1 : Int) (a2 : Int) (σ : St) (Q : St → Prop) : Prop :=
  0 ≤ a0 ∧ a0 < 400 ∧ f_X0_joinChoices (σ 69 a0.toNat) a1 σ (fun σ1 => 0 ≤ a0 ∧ a0 < 400 ∧ inR (σ1 70 a0.toNat) ∧ ((¬ (σ1 70 a0.toNat) = 0 → Q σ1) ∧ ((σ1 70 a0.toNat) = 0 → isS ((σ1 65 0).toNat) ∧ f_X9_entryOf ((σ1 65 0).toNat + 16) a2 σ1 (fun σ2 r1 => f_X0_joinNode r1 a1 σ2 (fun σ3 => Q σ3)))))
set_option maxRecDepth 100000 in
set_option maxHeartbeats 4000000 in
theorem c_X0_endChoice (l : Launch) (Y : Cy) (hD : ∀ σ, va_D Y.2.2.2 (wsOf KC Y.2.1 Y.2.2.1 σ)) {a0 : Int} {a1 : Int} {a2 : Int} {σ : St} {Q : St → Prop} (h : f_X0_endChoice a0 a1 a2 σ Q) : ConV l yX0_endChoice cX0_endChoice 5 (rm0q 3 80) Y KC σ [.inr (.inr 65), .inl a0, .inr (.inl a1), .inl a2] Q := con_of (lv := [(0, .inr (.inr 65)), (1, .inl a0), (2, .inr (.inl a1)), (4, .inl a2)]) (by decide) hD (Nat.le_of_ble_eq_true rfl) rfl (fun X _ ok => by
  have ok : Ok X Y KC cX0_endChoice 5 RX0 (rm0q 3 80) none := ok
  unfold f_X0_endChoice at h
  refine q_aload_n ok dX0_endChoice_0 0 rfl ?_
  refine q_aload_n ok dX0_endChoice_1 0 rfl ?_
  refine q_getC ok fl_X0_21 kC_65 fC_65_6 dX0_endChoice_2 ?_
  refine q_iload_n ok dX0_endChoice_5 1 rfl ?_
  obtain ⟨g1, g2, h⟩ := h
  refine q_iald ok kC_ok kC_69 g1 g2 dX0_endChoice_6 ?_
  refine q_lload_n ok dX0_endChoice_7 2 rfl ?_
  refine q_callVV (st := []) ok cs_X0_210 kC_65 rfl (c_X0_joinChoices X.2.1 Y ok.2.2.2.2.2.2.2.2 h) ⟨rfl, rfl, Nat.le_of_ble_eq_true rfl, Nat.le_of_ble_eq_true rfl⟩ rfl rfl (Nat.le_of_ble_eq_true rfl) dX0_endChoice_8 (fun σ1 h => ?_)
  refine q_aload_n ok dX0_endChoice_11 0 rfl ?_
  refine q_getC ok fl_X0_25 kC_65 fC_65_7 dX0_endChoice_12 ?_
  refine q_iload_n ok dX0_endChoice_15 1 rfl ?_
  obtain ⟨g3, g4, h⟩ := h
  refine q_iald ok kC_ok kC_70 g3 g4 dX0_endChoice_16 ?_
  obtain ⟨g5, hT1a, hT1b⟩ := h
  refine q_if_ne (tgt := 37) ok dX0_endChoice_17 (by decide) g5 (fun c1 => ?_) (fun c1 => ?_)
  · have h := hT1a c1
    exact q_vret ok dX0_endChoice_37 h
  · have h := hT1b c1
    refine q_aload_n ok dX0_endChoice_20 0 rfl ?_
    refine q_aload_n ok dX0_endChoice_21 0 rfl ?_
    refine q_getR ok fl_X0_31 kC_65 fC_65_0 dX0_endChoice_22 ?_
    obtain ⟨g6, h⟩ := h
    refine q_getC ok fl_X0_213 (kX7_0 g6) (fIX7_16 ((σ1 65 0).toNat)) dX0_endChoice_25 ?_
    refine q_iload ok dX0_endChoice_28 3 rfl ?_
    refine q_callSI (st := [.inr (.inr 65)]) ok cs_X0_216 (c_X9_entryOf X.2.1 Y ok.2.2.2.2.2.2.2.2 h) ⟨rfl, rfl, Nat.le_of_ble_eq_true rfl, Nat.le_of_ble_eq_true rfl⟩ rfl rfl (Nat.le_of_ble_eq_true rfl) dX0_endChoice_30 (fun σ2 r1 h => ?_)
    refine q_lload_n ok dX0_endChoice_33 2 rfl ?_
    refine q_callVV (st := []) ok cs_X0_135 kC_65 rfl (c_X0_joinNode X.2.1 Y ok.2.2.2.2.2.2.2.2 h) ⟨rfl, rfl, Nat.le_of_ble_eq_true rfl, Nat.le_of_ble_eq_true rfl⟩ rfl rfl (Nat.le_of_ble_eq_true rfl) dX0_endChoice_34 (fun σ3 h => ?_)
    exact q_vret ok dX0_endChoice_37 h)
/-! BranchingStory$Analyzer.goThrough(IJI)V -/
def f_X0_goThrough (a0 : Int) (a1 : Int) (a2 : Int) (σ : St) (Q : St → Prop) : Prop :=
  isS ((σ 65 0).toNat) ∧ 0 ≤ a0 ∧ a0 < 400 ∧ inR (σ ((σ 65 0).toNat + 1) a0.toNat) ∧ (((σ ((σ 65 0).toNat + 1) a0.toNat) = 1 → f_X3_withFlag a1 a2 2 σ (fun σ1 r1 => f_X0_goOn a0 r1 σ1 (fun σ2 => Q σ2))) ∧ ((σ ((σ 65 0).toNat + 1) a0.toNat) = 2 → f_X3_withFlag a1 a2 1 σ (fun σ3 r2 => f_X0_goOn a0 r2 σ3 (fun σ4 => Q σ4))) ∧ ((σ ((σ 65 0).toNat + 1) a0.toNat) = 3 → f_X0_goThroughMeter a0 a1 a2 σ (fun σ5 => Q σ5)) ∧ ((σ ((σ 65 0).toNat + 1) a0.toNat) = 4 → f_X0_goThroughMeter a0 a1 a2 σ (fun σ6 => Q σ6)) ∧ ((σ ((σ 65 0).toNat + 1) a0.toNat) = 5 → f_X0_goThroughMeter a0 a1 a2 σ (fun σ7 => Q σ7)) ∧ ((σ ((σ 65 0).toNat + 1) a0.toNat) = 6 → f_X0_goThroughTest a0 a1 a2 σ (fun σ8 => Q σ8)) ∧ ((σ ((σ 65 0).toNat + 1) a0.toNat) = 7 → f_X0_goThroughChoice a0 a1 a2 σ (fun σ9 => Q σ9)) ∧ ((σ ((σ 65 0).toNat + 1) a0.toNat) = 8 → f_X0_joinNode a2 a1 σ (fun σ10 => Q σ10)) ∧ ((σ ((σ 65 0).toNat + 1) a0.toNat) = 9 → f_X0_goToHubs a1 a2 σ (fun σ11 => Q σ11)) ∧ ((σ ((σ 65 0).toNat + 1) a0.toNat) = 10 → ∀ σ12 : St, σ12 = sset σ 65 9 (ior32 (σ 65 9) (ishl32 1 a2)) → Q σ12) ∧ ((σ ((σ 65 0).toNat + 1) a0.toNat) = 11 → f_X0_endNode a0 a1 a2 σ (fun σ13 => Q σ13)) ∧ ((σ ((σ 65 0).toNat + 1) a0.toNat) = 12 → f_X0_endChoice a0 a1 a2 σ (fun σ14 => Q σ14)) ∧ (((σ ((σ 65 0).toNat + 1) a0.toNat) < 1 ∨ 12 < (σ ((σ 65 0).toNat + 1) a0.toNat)) → f_X0_goOn a0 a1 σ (fun σ15 => Q σ15)))
set_option maxRecDepth 100000 in
set_option maxHeartbeats 4000000 in
theorem c_X0_goThrough (l : Launch) (Y : Cy) (hD : ∀ σ, va_D Y.2.2.2 (wsOf KC Y.2.1 Y.2.2.1 σ)) {a0 : Int} {a1 : Int} {a2 : Int} {σ : St} {Q : St → Prop} (h : f_X0_goThrough a0 a1 a2 σ Q) : ConV l yX0_goThrough cX0_goThrough 5 (rm0q 5 135) Y KC σ [.inr (.inr 65), .inl a0, .inr (.inl a1), .inl a2] Q := con_of (lv := [(0, .inr (.inr 65)), (1, .inl a0), (2, .inr (.inl a1)), (4, .inl a2)]) (by decide) hD (Nat.le_of_ble_eq_true rfl) rfl (fun X _ ok => by
  have ok : Ok X Y KC cX0_goThrough 5 RX0 (rm0q 5 135) none := ok
  unfold f_X0_goThrough at h
  refine q_aload_n ok dX0_goThrough_0 0 rfl ?_
  refine q_getR ok fl_X0_31 kC_65 fC_65_0 dX0_goThrough_1 ?_
  obtain ⟨g1, h⟩ := h
  refine q_getC ok fl_X0_115 (kX7_0 g1) (fIX7_1 ((σ 65 0).toNat)) dX0_goThrough_4 ?_
  refine q_iload_n ok dX0_goThrough_7 1 rfl ?_
  obtain ⟨g2, g3, h⟩ := h
  refine q_iald ok kC_ok (kX7_1 g1) g2 g3 dX0_goThrough_8 ?_
  obtain ⟨g4, hs1, hs2, hs3, hs4, hs5, hs6, hs7, hs8, hs9, hs10, hs11, hs12, hs13⟩ := h
  by_cases c1 : (σ ((σ 65 0).toNat + 1) a0.toNat) = 1
  · have h := hs1 c1
    refine q_tsIn (tgt := 72) ok dX0_goThrough_9 g4 (by omega) (by omega) (by rw [c1]; rfl) (by decide) ?_
    refine q_aload_n ok dX0_goThrough_72 0 rfl ?_
    refine q_iload_n ok dX0_goThrough_73 1 rfl ?_
    refine q_lload_n ok dX0_goThrough_74 2 rfl ?_
    refine q_iload ok dX0_goThrough_75 3 rfl ?_
    refine q_iconst ok dX0_goThrough_77 ?_
    refine q_callSL (st := [.inl a0, .inr (.inr 65)]) ok cs_X0_118 (c_X3_withFlag X.2.1 Y ok.2.2.2.2.2.2.2.2 h) ⟨rfl, rfl, Nat.le_of_ble_eq_true rfl, Nat.le_of_ble_eq_true rfl⟩ rfl rfl (Nat.le_of_ble_eq_true rfl) dX0_goThrough_78 (fun σ1 r1 h => ?_)
    refine q_callVV (st := []) ok cs_X0_122 kC_65 rfl (c_X0_goOn X.2.1 Y ok.2.2.2.2.2.2.2.2 h) ⟨rfl, rfl, Nat.le_of_ble_eq_true rfl, Nat.le_of_ble_eq_true rfl⟩ rfl rfl (Nat.le_of_ble_eq_true rfl) dX0_goThrough_81 (fun σ2 h => ?_)
    refine q_goto (tgt := 199) ok dX0_goThrough_84 (by decide) ?_
    exact q_vret ok dX0_goThrough_199 h
  by_cases c2 : (σ ((σ 65 0).toNat + 1) a0.toNat) = 2
  · have h := hs2 c2
    refine q_tsIn (tgt := 87) ok dX0_goThrough_9 g4 (by omega) (by omega) (by rw [c2]; rfl) (by decide) ?_
    refine q_aload_n ok dX0_goThrough_87 0 rfl ?_
    refine q_iload_n ok dX0_goThrough_88 1 rfl ?_
    refine q_lload_n ok dX0_goThrough_89 2 rfl ?_
    refine q_iload ok dX0_goThrough_90 3 rfl ?_
    refine q_iconst ok dX0_goThrough_92 ?_
    refine q_callSL (st := [.inl a0, .inr (.inr 65)]) ok cs_X0_118 (c_X3_withFlag X.2.1 Y ok.2.2.2.2.2.2.2.2 h) ⟨rfl, rfl, Nat.le_of_ble_eq_true rfl, Nat.le_of_ble_eq_true rfl⟩ rfl rfl (Nat.le_of_ble_eq_true rfl) dX0_goThrough_93 (fun σ3 r2 h => ?_)
    refine q_callVV (st := []) ok cs_X0_122 kC_65 rfl (c_X0_goOn X.2.1 Y ok.2.2.2.2.2.2.2.2 h) ⟨rfl, rfl, Nat.le_of_ble_eq_true rfl, Nat.le_of_ble_eq_true rfl⟩ rfl rfl (Nat.le_of_ble_eq_true rfl) dX0_goThrough_96 (fun σ4 h => ?_)
    refine q_goto (tgt := 199) ok dX0_goThrough_99 (by decide) ?_
    exact q_vret ok dX0_goThrough_199 h
  by_cases c3 : (σ ((σ 65 0).toNat + 1) a0.toNat) = 3
  · have h := hs3 c3
    refine q_tsIn (tgt := 102) ok dX0_goThrough_9 g4 (by omega) (by omega) (by rw [c3]; rfl) (by decide) ?_
    refine q_aload_n ok dX0_goThrough_102 0 rfl ?_
    refine q_iload_n ok dX0_goThrough_103 1 rfl ?_
    refine q_lload_n ok dX0_goThrough_104 2 rfl ?_
    refine q_iload ok dX0_goThrough_105 3 rfl ?_
    refine q_callVV (st := []) ok cs_X0_126 kC_65 rfl (c_X0_goThroughMeter X.2.1 Y ok.2.2.2.2.2.2.2.2 h) ⟨rfl, rfl, Nat.le_of_ble_eq_true rfl, Nat.le_of_ble_eq_true rfl⟩ rfl rfl (Nat.le_of_ble_eq_true rfl) dX0_goThrough_107 (fun σ5 h => ?_)
    refine q_goto (tgt := 199) ok dX0_goThrough_110 (by decide) ?_
    exact q_vret ok dX0_goThrough_199 h
  by_cases c4 : (σ ((σ 65 0).toNat + 1) a0.toNat) = 4
  · have h := hs4 c4
    refine q_tsIn (tgt := 102) ok dX0_goThrough_9 g4 (by omega) (by omega) (by rw [c4]; rfl) (by decide) ?_
    refine q_aload_n ok dX0_goThrough_102 0 rfl ?_
    refine q_iload_n ok dX0_goThrough_103 1 rfl ?_
    refine q_lload_n ok dX0_goThrough_104 2 rfl ?_
    refine q_iload ok dX0_goThrough_105 3 rfl ?_
    refine q_callVV (st := []) ok cs_X0_126 kC_65 rfl (c_X0_goThroughMeter X.2.1 Y ok.2.2.2.2.2.2.2.2 h) ⟨rfl, rfl, Nat.le_of_ble_eq_true rfl, Nat.le_of_ble_eq_true rfl⟩ rfl rfl (Nat.le_of_ble_eq_true rfl) dX0_goThrough_107 (fun σ6 h => ?_)
    refine q_goto (tgt := 199) ok dX0_goThrough_110 (by decide) ?_
    exact q_vret ok dX0_goThrough_199 h
  by_cases c5 : (σ ((σ 65 0).toNat + 1) a0.toNat) = 5
  · have h := hs5 c5
    refine q_tsIn (tgt := 102) ok dX0_goThrough_9 g4 (by omega) (by omega) (by rw [c5]; rfl) (by decide) ?_
    refine q_aload_n ok dX0_goThrough_102 0 rfl ?_
    refine q_iload_n ok dX0_goThrough_103 1 rfl ?_
    refine q_lload_n ok dX0_goThrough_104 2 rfl ?_
    refine q_iload ok dX0_goThrough_105 3 rfl ?_
    refine q_callVV (st := []) ok cs_X0_126 kC_65 rfl (c_X0_goThroughMeter X.2.1 Y ok.2.2.2.2.2.2.2.2 h) ⟨rfl, rfl, Nat.le_of_ble_eq_true rfl, Nat.le_of_ble_eq_true rfl⟩ rfl rfl (Nat.le_of_ble_eq_true rfl) dX0_goThrough_107 (fun σ7 h => ?_)
    refine q_goto (tgt := 199) ok dX0_goThrough_110 (by decide) ?_
    exact q_vret ok dX0_goThrough_199 h
  by_cases c6 : (σ ((σ 65 0).toNat + 1) a0.toNat) = 6
  · have h := hs6 c6
    refine q_tsIn (tgt := 113) ok dX0_goThrough_9 g4 (by omega) (by omega) (by rw [c6]; rfl) (by decide) ?_
    refine q_aload_n ok dX0_goThrough_113 0 rfl ?_
    refine q_iload_n ok dX0_goThrough_114 1 rfl ?_
    refine q_lload_n ok dX0_goThrough_115 2 rfl ?_
    refine q_iload ok dX0_goThrough_116 3 rfl ?_
    refine q_callVV (st := []) ok cs_X0_129 kC_65 rfl (c_X0_goThroughTest X.2.1 Y ok.2.2.2.2.2.2.2.2 h) ⟨rfl, rfl, Nat.le_of_ble_eq_true rfl, Nat.le_of_ble_eq_true rfl⟩ rfl rfl (Nat.le_of_ble_eq_true rfl) dX0_goThrough_118 (fun σ8 h => ?_)
    refine q_goto (tgt := 199) ok dX0_goThrough_121 (by decide) ?_
    exact q_vret ok dX0_goThrough_199 h
  by_cases c7 : (σ ((σ 65 0).toNat + 1) a0.toNat) = 7
  · have h := hs7 c7
    refine q_tsIn (tgt := 124) ok dX0_goThrough_9 g4 (by omega) (by omega) (by rw [c7]; rfl) (by decide) ?_
    refine q_aload_n ok dX0_goThrough_124 0 rfl ?_
    refine q_iload_n ok dX0_goThrough_125 1 rfl ?_
    refine q_lload_n ok dX0_goThrough_126 2 rfl ?_
    refine q_iload ok dX0_goThrough_127 3 rfl ?_
    refine q_callVV (st := []) ok cs_X0_132 kC_65 rfl (c_X0_goThroughChoice X.2.1 Y ok.2.2.2.2.2.2.2.2 h) ⟨rfl, rfl, Nat.le_of_ble_eq_true rfl, Nat.le_of_ble_eq_true rfl⟩ rfl rfl (Nat.le_of_ble_eq_true rfl) dX0_goThrough_129 (fun σ9 h => ?_)
    refine q_goto (tgt := 199) ok dX0_goThrough_132 (by decide) ?_
    exact q_vret ok dX0_goThrough_199 h
  by_cases c8 : (σ ((σ 65 0).toNat + 1) a0.toNat) = 8
  · have h := hs8 c8
    refine q_tsIn (tgt := 135) ok dX0_goThrough_9 g4 (by omega) (by omega) (by rw [c8]; rfl) (by decide) ?_
    refine q_aload_n ok dX0_goThrough_135 0 rfl ?_
    refine q_iload ok dX0_goThrough_136 3 rfl ?_
    refine q_lload_n ok dX0_goThrough_138 2 rfl ?_
    refine q_callVV (st := []) ok cs_X0_135 kC_65 rfl (c_X0_joinNode X.2.1 Y ok.2.2.2.2.2.2.2.2 h) ⟨rfl, rfl, Nat.le_of_ble_eq_true rfl, Nat.le_of_ble_eq_true rfl⟩ rfl rfl (Nat.le_of_ble_eq_true rfl) dX0_goThrough_139 (fun σ10 h => ?_)
    refine q_goto (tgt := 199) ok dX0_goThrough_142 (by decide) ?_
    exact q_vret ok dX0_goThrough_199 h
  by_cases c9 : (σ ((σ 65 0).toNat + 1) a0.toNat) = 9
  · have h := hs9 c9
    refine q_tsIn (tgt := 145) ok dX0_goThrough_9 g4 (by omega) (by omega) (by rw [c9]; rfl) (by decide) ?_
    refine q_aload_n ok dX0_goThrough_145 0 rfl ?_
    refine q_lload_n ok dX0_goThrough_146 2 rfl ?_
    refine q_iload ok dX0_goThrough_147 3 rfl ?_
    refine q_callVV (st := []) ok cs_X0_138 kC_65 rfl (c_X0_goToHubs X.2.1 Y ok.2.2.2.2.2.2.2.2 h) ⟨rfl, rfl, Nat.le_of_ble_eq_true rfl, Nat.le_of_ble_eq_true rfl⟩ rfl rfl (Nat.le_of_ble_eq_true rfl) dX0_goThrough_149 (fun σ11 h => ?_)
    refine q_goto (tgt := 199) ok dX0_goThrough_152 (by decide) ?_
    exact q_vret ok dX0_goThrough_199 h
  by_cases c10 : (σ ((σ 65 0).toNat + 1) a0.toNat) = 10
  · have h := hs10 c10
    refine q_tsIn (tgt := 155) ok dX0_goThrough_9 g4 (by omega) (by omega) (by rw [c10]; rfl) (by decide) ?_
    refine q_aload_n ok dX0_goThrough_155 0 rfl ?_
    refine q_dup ok dX0_goThrough_156 rfl ?_
    refine q_getI ok fl_X0_72 kC_65 fC_65_9 dX0_goThrough_157 ?_
    refine q_iconst ok dX0_goThrough_160 ?_
    refine q_iload ok dX0_goThrough_161 3 rfl ?_
    refine q_ishl ok dX0_goThrough_163 ?_
    refine q_ior ok dX0_goThrough_164 ?_
    refine q_putI ok fp_X0_72 kC_65 fC_65_9 dX0_goThrough_165 (wq_s (fun σ12 eσ12 => ?_))
    have h := h σ12 eσ12
    refine q_goto (tgt := 199) ok dX0_goThrough_168 (by decide) ?_
    exact q_vret ok dX0_goThrough_199 h
  by_cases c11 : (σ ((σ 65 0).toNat + 1) a0.toNat) = 11
  · have h := hs11 c11
    refine q_tsIn (tgt := 171) ok dX0_goThrough_9 g4 (by omega) (by omega) (by rw [c11]; rfl) (by decide) ?_
    refine q_aload_n ok dX0_goThrough_171 0 rfl ?_
    refine q_iload_n ok dX0_goThrough_172 1 rfl ?_
    refine q_lload_n ok dX0_goThrough_173 2 rfl ?_
    refine q_iload ok dX0_goThrough_174 3 rfl ?_
    refine q_callVV (st := []) ok cs_X0_142 kC_65 rfl (c_X0_endNode X.2.1 Y ok.2.2.2.2.2.2.2.2 h) ⟨rfl, rfl, Nat.le_of_ble_eq_true rfl, Nat.le_of_ble_eq_true rfl⟩ rfl rfl (Nat.le_of_ble_eq_true rfl) dX0_goThrough_176 (fun σ13 h => ?_)
    refine q_goto (tgt := 199) ok dX0_goThrough_179 (by decide) ?_
    exact q_vret ok dX0_goThrough_199 h
  by_cases c12 : (σ ((σ 65 0).toNat + 1) a0.toNat) = 12
  · have h := hs12 c12
    refine q_tsIn (tgt := 182) ok dX0_goThrough_9 g4 (by omega) (by omega) (by rw [c12]; rfl) (by decide) ?_
    refine q_aload_n ok dX0_goThrough_182 0 rfl ?_
    refine q_iload_n ok dX0_goThrough_183 1 rfl ?_
    refine q_lload_n ok dX0_goThrough_184 2 rfl ?_
    refine q_iload ok dX0_goThrough_185 3 rfl ?_
    refine q_callVV (st := []) ok cs_X0_145 kC_65 rfl (c_X0_endChoice X.2.1 Y ok.2.2.2.2.2.2.2.2 h) ⟨rfl, rfl, Nat.le_of_ble_eq_true rfl, Nat.le_of_ble_eq_true rfl⟩ rfl rfl (Nat.le_of_ble_eq_true rfl) dX0_goThrough_187 (fun σ14 h => ?_)
    refine q_goto (tgt := 199) ok dX0_goThrough_190 (by decide) ?_
    exact q_vret ok dX0_goThrough_199 h
  have h := hs13 (by omega)
  refine q_tsOut (tgt := 193) ok dX0_goThrough_9 g4 (by omega) (by decide) ?_
  refine q_aload_n ok dX0_goThrough_193 0 rfl ?_
  refine q_iload_n ok dX0_goThrough_194 1 rfl ?_
  refine q_lload_n ok dX0_goThrough_195 2 rfl ?_
  refine q_callVV (st := []) ok cs_X0_122 kC_65 rfl (c_X0_goOn X.2.1 Y ok.2.2.2.2.2.2.2.2 h) ⟨rfl, rfl, Nat.le_of_ble_eq_true rfl, Nat.le_of_ble_eq_true rfl⟩ rfl rfl (Nat.le_of_ble_eq_true rfl) dX0_goThrough_196 (fun σ15 h => ?_)
  exact q_vret ok dX0_goThrough_199 h)
/-! BranchingStory$Analyzer.settle(LBranchingStory$Story;)V -/
def f_X0_settle_L46 (k21 : St → Int → Prop) (Q : St → Prop) : Nat → St → Int → Int → Prop
  | 0, _, _, _ => False
  | n + 1, σ, v2, v3 => inR v3 ∧ ((400 ≤ v3 → k21 σ (v2 + 1)) ∧ (¬ 400 ≤ v3 → isS ((σ 65 0).toNat) ∧ inR v3 ∧ inR (σ ((σ 65 0).toNat) 0) ∧ (((σ ((σ 65 0).toNat) 0) ≤ v3 → k21 σ (v2 + 1)) ∧ (¬ (σ ((σ 65 0).toNat) 0) ≤ v3 → 0 ≤ v3 ∧ v3 < 400 ∧ inR (lcmp64 (σ 68 v3.toNat) 0) ∧ (((lcmp64 (σ 68 v3.toNat) 0) = 0 → f_X0_settle_L46 k21 Q n σ v2 (v3 + 1)) ∧ (¬ (lcmp64 (σ 68 v3.toNat) 0) = 0 → 0 ≤ v3 ∧ v3 < 400 ∧ 0 ≤ v3 ∧ v3 < 400 ∧ f_X0_goThrough v3 (σ 68 v3.toNat) (σ ((σ 65 0).toNat + 2) v3.toNat) σ (fun σ1 => f_X0_settle_L46 k21 Q n σ1 v2 (v3 + 1))))))))
def f_X0_settle_L21 (Q : St → Prop) : Nat → St → Int → Prop
  | 0, _, _ => False
  | n + 1, σ, v2 => inR v2 ∧ ((10000 ≤ v2 → ∀ σ1 : St, σ1 = sset σ 65 1 1 → Q σ1) ∧ (¬ 10000 ≤ v2 → inR (σ 65 2) ∧ (((σ 65 2) = 0 → ∀ σ2 : St, σ2 = sset σ 65 1 1 → Q σ2) ∧ (¬ (σ 65 2) = 0 → ∀ σ3 : St, σ3 = sset σ 65 2 0 → f_X0_beginSweep σ3 (fun σ4 => f_X0_settle_L46 (fun σ' v2' => f_X0_settle_L21 Q n σ' v2') Q FU σ4 v2 0)))))
def f_X0_settle (a0 : Nat) (σ : St) (Q : St → Prop) : Prop :=
  f_X0_forget a0 σ (fun σ1 => ∀ σ2 : St, σ2 = sset σ1 66 0 281497877610496 → ∀ σ3 : St, σ3 = sset σ2 65 2 1 → f_X0_settle_L21 Q FU σ3 0)
set_option maxRecDepth 100000 in
set_option maxHeartbeats 4000000 in
theorem w_X0_settle_L46 {X : Cx} {Y : Cy} {k21 : St → Int → Prop} {Q : St → Prop} (ok : Ok X Y KC cX0_settle 4 RX0 (rm0q 6 159) none) (hk21 : ∀ (σ : St) (v2 : Int) , k21 σ v2 → Wq X Y KC 4 (QF X Y (Qvq Y KC Q)) σ 21 [(0, .inr (.inr 65)), (2, .inl v2)] []) : ∀ (n : Nat) (σ : St) (v2 : Int) (v3 : Int) , f_X0_settle_L46 k21 Q n σ v2 v3 → Wq X Y KC 4 (QF X Y (Qvq Y KC Q)) σ 46 [(0, .inr (.inr 65)), (2, .inl v2), (3, .inl v3)] [] := by
  intro n
  induction n with
  | zero => intro σ v2 v3 h; exact h.elim
  | succ n ih =>
    intro σ v2 v3 h
    rw [f_X0_settle_L46] at h
    refine q_iload_n ok dX0_settle_46 2 rfl ?_
    refine q_sipush ok dX0_settle_47 rfl ?_
    obtain ⟨g1, hT3a, hT3b⟩ := h
    refine q_icmp_ge (tgt := 101) ok dX0_settle_50 (by decide) g1 (by unfold inR; decide) (fun c3 => ?_) (fun c3 => ?_)
    · have h := hT3a c3
      refine q_iinc (lv' := [(2, .inl (v2 + 1)), (0, .inr (.inr 65)), (3, .inl v3)]) ok dX0_settle_101 1 rfl (by decide) rfl ?_
      refine q_goto (tgt := 21) ok dX0_settle_104 (by decide) ?_
      refine q_sub [1, 0] rfl ?_
      exact hk21 σ (v2 + 1) h
    · have h := hT3b c3
      refine q_iload_n ok dX0_settle_53 2 rfl ?_
      refine q_aload_n ok dX0_settle_54 0 rfl ?_
      refine q_getR ok fl_X0_31 kC_65 fC_65_0 dX0_settle_55 ?_
      obtain ⟨g2, h⟩ := h
      refine q_getI ok fl_X0_59 (kX7_0 g2) (fIX7_0 ((σ 65 0).toNat)) dX0_settle_58 ?_
      obtain ⟨g3, g4, hT2a, hT2b⟩ := h
      refine q_icmp_ge (tgt := 101) ok dX0_settle_61 (by decide) g3 g4 (fun c2 => ?_) (fun c2 => ?_)
      · have h := hT2a c2
        refine q_iinc (lv' := [(2, .inl (v2 + 1)), (0, .inr (.inr 65)), (3, .inl v3)]) ok dX0_settle_101 1 rfl (by decide) rfl ?_
        refine q_goto (tgt := 21) ok dX0_settle_104 (by decide) ?_
        refine q_sub [1, 0] rfl ?_
        exact hk21 σ (v2 + 1) h
      · have h := hT2b c2
        refine q_aload_n ok dX0_settle_64 0 rfl ?_
        refine q_getC ok fl_X0_18 kC_65 fC_65_5 dX0_settle_65 ?_
        refine q_iload_n ok dX0_settle_68 2 rfl ?_
        obtain ⟨g5, g6, h⟩ := h
        refine q_lald ok kC_ok kC_68 g5 g6 dX0_settle_69 ?_
        refine q_lconst ok dX0_settle_70 0 rfl ?_
        refine q_lcmp ok dX0_settle_71 ?_
        obtain ⟨g7, hT1a, hT1b⟩ := h
        refine q_if_eq (tgt := 95) ok dX0_settle_72 (by decide) g7 (fun c1 => ?_) (fun c1 => ?_)
        · have h := hT1a c1
          refine q_iinc (lv' := [(3, .inl (v3 + 1)), (0, .inr (.inr 65)), (2, .inl v2)]) ok dX0_settle_95 2 rfl (by decide) rfl ?_
          refine q_goto (tgt := 46) ok dX0_settle_98 (by decide) ?_
          refine q_sub [1, 2, 0] rfl ?_
          exact ih σ v2 (v3 + 1) h
        · have h := hT1b c1
          refine q_aload_n ok dX0_settle_75 0 rfl ?_
          refine q_iload_n ok dX0_settle_76 2 rfl ?_
          refine q_aload_n ok dX0_settle_77 0 rfl ?_
          refine q_getC ok fl_X0_18 kC_65 fC_65_5 dX0_settle_78 ?_
          refine q_iload_n ok dX0_settle_81 2 rfl ?_
          obtain ⟨g8, g9, h⟩ := h
          refine q_lald ok kC_ok kC_68 g8 g9 dX0_settle_82 ?_
          refine q_aload_n ok dX0_settle_83 0 rfl ?_
          refine q_getR ok fl_X0_31 kC_65 fC_65_0 dX0_settle_84 ?_
          refine q_getC ok fl_X0_65 (kX7_0 g2) (fIX7_2 ((σ 65 0).toNat)) dX0_settle_87 ?_
          refine q_iload_n ok dX0_settle_90 2 rfl ?_
          obtain ⟨g10, g11, h⟩ := h
          refine q_iald ok kC_ok (kX7_2 g2) g10 g11 dX0_settle_91 ?_
          refine q_callVV (st := []) ok cs_X0_68 kC_65 rfl (c_X0_goThrough X.2.1 Y ok.2.2.2.2.2.2.2.2 h) ⟨rfl, rfl, Nat.le_of_ble_eq_true rfl, Nat.le_of_ble_eq_true rfl⟩ rfl rfl (Nat.le_of_ble_eq_true rfl) dX0_settle_92 (fun σ1 h => ?_)
          refine q_iinc (lv' := [(3, .inl (v3 + 1)), (0, .inr (.inr 65)), (2, .inl v2)]) ok dX0_settle_95 2 rfl (by decide) rfl ?_
          refine q_goto (tgt := 46) ok dX0_settle_98 (by decide) ?_
          refine q_sub [1, 2, 0] rfl ?_
          exact ih σ1 v2 (v3 + 1) h
set_option maxRecDepth 100000 in
set_option maxHeartbeats 4000000 in
theorem w_X0_settle_L21 {X : Cx} {Y : Cy} {Q : St → Prop} (ok : Ok X Y KC cX0_settle 4 RX0 (rm0q 6 159) none) : ∀ (n : Nat) (σ : St) (v2 : Int) , f_X0_settle_L21 Q n σ v2 → Wq X Y KC 4 (QF X Y (Qvq Y KC Q)) σ 21 [(0, .inr (.inr 65)), (2, .inl v2)] [] := by
  intro n
  induction n with
  | zero => intro σ v2 h; exact h.elim
  | succ n ih =>
    intro σ v2 h
    rw [f_X0_settle_L21] at h
    refine q_iload_n ok dX0_settle_21 1 rfl ?_
    refine q_sipush ok dX0_settle_22 rfl ?_
    obtain ⟨g1, hT2a, hT2b⟩ := h
    refine q_icmp_ge (tgt := 107) ok dX0_settle_25 (by decide) g1 (by unfold inR; decide) (fun c2 => ?_) (fun c2 => ?_)
    · have h := hT2a c2
      refine q_aload_n ok dX0_settle_107 0 rfl ?_
      refine q_iconst ok dX0_settle_108 ?_
      refine q_putZ ok fp_X0_35 kC_65 fC_65_1 dX0_settle_109 (by decide) (wq_s (fun σ1 eσ1 => ?_))
      have h := h σ1 eσ1
      exact q_vret ok dX0_settle_112 h
    · have h := hT2b c2
      refine q_aload_n ok dX0_settle_28 0 rfl ?_
      refine q_getI ok fl_X0_53 kC_65 fC_65_2 dX0_settle_29 ?_
      obtain ⟨g2, hT1a, hT1b⟩ := h
      refine q_if_eq (tgt := 107) ok dX0_settle_32 (by decide) g2 (fun c1 => ?_) (fun c1 => ?_)
      · have h := hT1a c1
        refine q_aload_n ok dX0_settle_107 0 rfl ?_
        refine q_iconst ok dX0_settle_108 ?_
        refine q_putZ ok fp_X0_35 kC_65 fC_65_1 dX0_settle_109 (by decide) (wq_s (fun σ2 eσ2 => ?_))
        have h := h σ2 eσ2
        exact q_vret ok dX0_settle_112 h
      · have h := hT1b c1
        refine q_aload_n ok dX0_settle_35 0 rfl ?_
        refine q_iconst ok dX0_settle_36 ?_
        refine q_putZ ok fp_X0_53 kC_65 fC_65_2 dX0_settle_37 (by decide) (wq_s (fun σ3 eσ3 => ?_))
        have h := h σ3 eσ3
        refine q_aload_n ok dX0_settle_40 0 rfl ?_
        refine q_callVV (st := []) ok cs_X0_56 kC_65 rfl (c_X0_beginSweep X.2.1 Y ok.2.2.2.2.2.2.2.2 h) ⟨rfl, rfl, Nat.le_of_ble_eq_true rfl, Nat.le_of_ble_eq_true rfl⟩ rfl rfl (Nat.le_of_ble_eq_true rfl) dX0_settle_41 (fun σ4 h => ?_)
        refine q_iconst ok dX0_settle_44 ?_
        refine q_istore_n (lv' := [(3, .inl 0), (0, .inr (.inr 65)), (2, .inl v2)]) ok dX0_settle_45 (by decide) rfl ?_
        refine q_sub [1, 2, 0] rfl ?_
        exact w_X0_settle_L46 ok ih FU σ4 v2 0 h
set_option maxRecDepth 100000 in
set_option maxHeartbeats 4000000 in
theorem c_X0_settle (l : Launch) (Y : Cy) (hD : ∀ σ, va_D Y.2.2.2 (wsOf KC Y.2.1 Y.2.2.1 σ)) {a0 : Nat} {σ : St} {Q : St → Prop} (h : f_X0_settle a0 σ Q) : ConV l yX0_settle cX0_settle 4 (rm0q 6 159) Y KC σ [.inr (.inr 65), .inr (.inr a0)] Q := con_of (lv := [(0, .inr (.inr 65)), (1, .inr (.inr a0))]) (by decide) hD (Nat.le_of_ble_eq_true rfl) rfl (fun X _ ok => by
  have ok : Ok X Y KC cX0_settle 4 RX0 (rm0q 6 159) none := ok
  unfold f_X0_settle at h
  refine q_aload_n ok dX0_settle_0 0 rfl ?_
  refine q_aload_n ok dX0_settle_1 1 rfl ?_
  refine q_callVV (st := []) ok cs_X0_47 kC_65 rfl (c_X0_forget X.2.1 Y ok.2.2.2.2.2.2.2.2 h) ⟨rfl, rfl, Nat.le_of_ble_eq_true rfl, Nat.le_of_ble_eq_true rfl⟩ rfl rfl (Nat.le_of_ble_eq_true rfl) dX0_settle_2 (fun σ1 h => ?_)
  refine q_aload_n ok dX0_settle_5 0 rfl ?_
  refine q_getC ok fl_X0_9 kC_65 fC_65_3 dX0_settle_6 ?_
  refine q_iconst ok dX0_settle_9 ?_
  refine q_ldc2 (v := 281497877610496) ok wt_1114 rfl dX0_settle_10 ?_
  refine q_last ok kC_ok kC_66 (by decide) (by decide) dX0_settle_13 (wq_s (fun σ2 eσ2 => ?_))
  have h := h σ2 eσ2
  refine q_aload_n ok dX0_settle_14 0 rfl ?_
  refine q_iconst ok dX0_settle_15 ?_
  refine q_putZ ok fp_X0_53 kC_65 fC_65_2 dX0_settle_16 (by decide) (wq_s (fun σ3 eσ3 => ?_))
  have h := h σ3 eσ3
  refine q_iconst ok dX0_settle_19 ?_
  refine q_istore_n (lv' := [(2, .inl 0), (0, .inr (.inr 65)), (1, .inr (.inr a0))]) ok dX0_settle_20 (by decide) rfl ?_
  refine q_sub [1, 0] rfl ?_
  exact w_X0_settle_L21 ok FU σ3 0 h)
/-! BranchingStory$Analyzer.reachedNodes()I -/
def f_X0_reachedNodes_L4 (Q : St → Int → Prop) : Nat → St → Int → Int → Prop
  | 0, _, _, _ => False
  | n + 1, σ, v1, v2 => inR v2 ∧ ((12 ≤ v2 → Q σ v1) ∧ (¬ 12 ≤ v2 → 0 ≤ v2 ∧ v2 < 12 ∧ inR (lcmp64 (σ 66 v2.toNat) 0) ∧ (((lcmp64 (σ 66 v2.toNat) 0) = 0 → f_X0_reachedNodes_L4 Q n σ v1 (v2 + 1)) ∧ (¬ (lcmp64 (σ 66 v2.toNat) 0) = 0 → f_X0_reachedNodes_L4 Q n σ (v1 + 1) (v2 + 1)))))
def f_X0_reachedNodes (σ : St) (Q : St → Int → Prop) : Prop :=
  f_X0_reachedNodes_L4 Q FU σ 0 0
set_option maxRecDepth 100000 in
set_option maxHeartbeats 4000000 in
theorem w_X0_reachedNodes_L4 {X : Cx} {Y : Cy} {Q : St → Int → Prop} (ok : Ok X Y KC cX0_reachedNodes 3 RX0 (rm0q 0 0) (some .int)) : ∀ (n : Nat) (σ : St) (v1 : Int) (v2 : Int) , f_X0_reachedNodes_L4 Q n σ v1 v2 → Wq X Y KC 3 (QF X Y (Qiq Y KC Q)) σ 4 [(0, .inr (.inr 65)), (1, .inl v1), (2, .inl v2)] [] := by
  intro n
  induction n with
  | zero => intro σ v1 v2 h; exact h.elim
  | succ n ih =>
    intro σ v1 v2 h
    rw [f_X0_reachedNodes_L4] at h
    refine q_iload_n ok dX0_reachedNodes_4 2 rfl ?_
    refine q_bipush ok dX0_reachedNodes_5 rfl ?_
    obtain ⟨g1, hT2a, hT2b⟩ := h
    refine q_icmp_ge (tgt := 30) ok dX0_reachedNodes_7 (by decide) g1 (by unfold inR; decide) (fun c2 => ?_) (fun c2 => ?_)
    · have h := hT2a c2
      refine q_iload_n ok dX0_reachedNodes_30 1 rfl ?_
      exact q_iret ok dX0_reachedNodes_31 h
    · have h := hT2b c2
      refine q_aload_n ok dX0_reachedNodes_10 0 rfl ?_
      refine q_getC ok fl_X0_9 kC_65 fC_65_3 dX0_reachedNodes_11 ?_
      refine q_iload_n ok dX0_reachedNodes_14 2 rfl ?_
      obtain ⟨g2, g3, h⟩ := h
      refine q_lald ok kC_ok kC_66 g2 g3 dX0_reachedNodes_15 ?_
      refine q_lconst ok dX0_reachedNodes_16 0 rfl ?_
      refine q_lcmp ok dX0_reachedNodes_17 ?_
      obtain ⟨g4, hT1a, hT1b⟩ := h
      refine q_if_eq (tgt := 24) ok dX0_reachedNodes_18 (by decide) g4 (fun c1 => ?_) (fun c1 => ?_)
      · have h := hT1a c1
        refine q_iinc (lv' := [(2, .inl (v2 + 1)), (0, .inr (.inr 65)), (1, .inl v1)]) ok dX0_reachedNodes_24 2 rfl (by decide) rfl ?_
        refine q_goto (tgt := 4) ok dX0_reachedNodes_27 (by decide) ?_
        refine q_sub [1, 2, 0] rfl ?_
        exact ih σ v1 (v2 + 1) h
      · have h := hT1b c1
        refine q_iinc (lv' := [(1, .inl (v1 + 1)), (0, .inr (.inr 65)), (2, .inl v2)]) ok dX0_reachedNodes_21 1 rfl (by decide) rfl ?_
        refine q_iinc (lv' := [(2, .inl (v2 + 1)), (1, .inl (v1 + 1)), (0, .inr (.inr 65))]) ok dX0_reachedNodes_24 2 rfl (by decide) rfl ?_
        refine q_goto (tgt := 4) ok dX0_reachedNodes_27 (by decide) ?_
        refine q_sub [2, 1, 0] rfl ?_
        exact ih σ (v1 + 1) (v2 + 1) h
set_option maxRecDepth 100000 in
set_option maxHeartbeats 4000000 in
theorem c_X0_reachedNodes (l : Launch) (Y : Cy) (hD : ∀ σ, va_D Y.2.2.2 (wsOf KC Y.2.1 Y.2.2.1 σ)) {σ : St} {Q : St → Int → Prop} (h : f_X0_reachedNodes  σ Q) : ConI l yX0_reachedNodes cX0_reachedNodes 3 .int (rm0q 0 0) Y KC σ [.inr (.inr 65)] Q := con_of (lv := [(0, .inr (.inr 65))]) (by decide) hD (Nat.le_of_ble_eq_true rfl) rfl (fun X _ ok => by
  have ok : Ok X Y KC cX0_reachedNodes 3 RX0 (rm0q 0 0) (some .int) := ok
  unfold f_X0_reachedNodes at h
  refine q_iconst ok dX0_reachedNodes_0 ?_
  refine q_istore_n (lv' := [(1, .inl 0), (0, .inr (.inr 65))]) ok dX0_reachedNodes_1 (by decide) rfl ?_
  refine q_iconst ok dX0_reachedNodes_2 ?_
  refine q_istore_n (lv' := [(2, .inl 0), (1, .inl 0), (0, .inr (.inr 65))]) ok dX0_reachedNodes_3 (by decide) rfl ?_
  refine q_sub [2, 1, 0] rfl ?_
  exact w_X0_reachedNodes_L4 ok FU σ 0 0 h)
/-! BranchingStory.clearText()I -/
def f_X9_clearText (σ : St) (Q : St → Int → Prop) : Prop :=
  ∀ x1 : Int, x1 = (σ 0 1) → ∀ σ1 : St, σ1 = sset σ 0 1 0 → Q σ1 x1
set_option maxRecDepth 100000 in
set_option maxHeartbeats 4000000 in
theorem c_X9_clearText (l : Launch) (Y : Cy) (hD : ∀ σ, va_D Y.2.2.2 (wsOf KC Y.2.1 Y.2.2.1 σ)) {σ : St} {Q : St → Int → Prop} (h : f_X9_clearText  σ Q) : ConI l yX9_clearText cX9_clearText 2 .int (rm0q 0 0) Y KC σ [.inr (.inr 0)] Q := con_of (lv := [(0, .inr (.inr 0))]) (by decide) hD (Nat.le_of_ble_eq_true rfl) rfl (fun X _ ok => by
  have ok : Ok X Y KC cX9_clearText 2 RX9 (rm0q 0 0) (some .int) := ok
  unfold f_X9_clearText at h
  refine q_aload_n ok dX9_clearText_0 0 rfl ?_
  refine q_getI ok fl_X9_67 kC_0 fC_0_1 dX9_clearText_1 ?_
  refine wq_i (fun x1 ex1 => ?_)
  have h := h x1 ex1
  refine q_istore_n (lv' := [(1, .inl x1), (0, .inr (.inr 0))]) ok dX9_clearText_4 (by decide) rfl ?_
  refine q_aload_n ok dX9_clearText_5 1 rfl ?_
  refine q_iconst ok dX9_clearText_6 ?_
  refine q_putI ok fp_X9_67 kC_0 fC_0_1 dX9_clearText_7 (wq_s (fun σ1 eσ1 => ?_))
  have h := h σ1 eσ1
  refine q_iload_n ok dX9_clearText_10 0 rfl ?_
  exact q_iret ok dX9_clearText_11 h)
/-! BranchingStory.fault()I -/
def f_X9_fault (σ : St) (Q : St → Int → Prop) : Prop :=
  f_X6_read 1 (σ 0 1) ((σ 0 3).toNat) σ (fun σ1 r1 => Q σ1 r1)
set_option maxRecDepth 100000 in
set_option maxHeartbeats 4000000 in
theorem c_X9_fault (l : Launch) (Y : Cy) (hD : ∀ σ, va_D Y.2.2.2 (wsOf KC Y.2.1 Y.2.2.1 σ)) {σ : St} {Q : St → Int → Prop} (h : f_X9_fault  σ Q) : ConI l yX9_fault cX9_fault 1 .int (rm0q 7 158) Y KC σ [.inr (.inr 0)] Q := con_of (lv := [(0, .inr (.inr 0))]) (by decide) hD (Nat.le_of_ble_eq_true rfl) rfl (fun X _ ok => by
  have ok : Ok X Y KC cX9_fault 1 RX9 (rm0q 7 158) (some .int) := ok
  unfold f_X9_fault at h
  refine q_aload_n ok dX9_fault_0 0 rfl ?_
  refine q_getC ok fl_X9_28 kC_0 fC_0_4 dX9_fault_1 ?_
  refine q_aload_n ok dX9_fault_4 0 rfl ?_
  refine q_getC ok fl_X9_9 kC_0 fC_0_0 dX9_fault_5 ?_
  refine q_aload_n ok dX9_fault_8 0 rfl ?_
  refine q_getI ok fl_X9_67 kC_0 fC_0_1 dX9_fault_9 ?_
  refine q_aload_n ok dX9_fault_12 0 rfl ?_
  refine q_getR ok fl_X9_20 kC_0 fC_0_3 dX9_fault_13 ?_
  refine q_callVI (st := []) ok cs_X9_76 kC_38 rfl (c_X6_read X.2.1 Y ok.2.2.2.2.2.2.2.2 h) ⟨rfl, rfl, Nat.le_of_ble_eq_true rfl, Nat.le_of_ble_eq_true rfl⟩ rfl rfl (Nat.le_of_ble_eq_true rfl) dX9_fault_16 (fun σ1 r1 h => ?_)
  exact q_iret ok dX9_fault_19 h)
/-! BranchingStory.status()I -/
def f_X9_status (σ : St) (Q : St → Int → Prop) : Prop :=
  Q σ (σ 44 1)
set_option maxRecDepth 100000 in
set_option maxHeartbeats 4000000 in
theorem c_X9_status (l : Launch) (Y : Cy) (hD : ∀ σ, va_D Y.2.2.2 (wsOf KC Y.2.1 Y.2.2.1 σ)) {σ : St} {Q : St → Int → Prop} (h : f_X9_status  σ Q) : ConI l yX9_status cX9_status 1 .int (rm0q 0 0) Y KC σ [.inr (.inr 0)] Q := con_of (lv := [(0, .inr (.inr 0))]) (by decide) hD (Nat.le_of_ble_eq_true rfl) rfl (fun X _ ok => by
  have ok : Ok X Y KC cX9_status 1 RX9 (rm0q 0 0) (some .int) := ok
  unfold f_X9_status at h
  refine q_aload_n ok dX9_status_0 0 rfl ?_
  refine q_getC ok fl_X9_35 kC_0 fC_0_5 dX9_status_1 ?_
  refine q_getI ok fl_X9_126 kC_44 fC_44_1 dX9_status_4 ?_
  exact q_iret ok dX9_status_7 h)
/-! BranchingStory.ending()I -/
def f_X9_ending (σ : St) (Q : St → Int → Prop) : Prop :=
  inR (σ 44 1) ∧ ((¬ (σ 44 1) = 2 → Q σ (-1)) ∧ ((σ 44 1) = 2 → Q σ (σ 44 2)))
set_option maxRecDepth 100000 in
set_option maxHeartbeats 4000000 in
theorem c_X9_ending (l : Launch) (Y : Cy) (hD : ∀ σ, va_D Y.2.2.2 (wsOf KC Y.2.1 Y.2.2.1 σ)) {σ : St} {Q : St → Int → Prop} (h : f_X9_ending  σ Q) : ConI l yX9_ending cX9_ending 1 .int (rm0q 0 0) Y KC σ [.inr (.inr 0)] Q := con_of (lv := [(0, .inr (.inr 0))]) (by decide) hD (Nat.le_of_ble_eq_true rfl) rfl (fun X _ ok => by
  have ok : Ok X Y KC cX9_ending 1 RX9 (rm0q 0 0) (some .int) := ok
  unfold f_X9_ending at h
  refine q_aload_n ok dX9_ending_0 0 rfl ?_
  refine q_getC ok fl_X9_35 kC_0 fC_0_5 dX9_ending_1 ?_
  refine q_getI ok fl_X9_126 kC_44 fC_44_1 dX9_ending_4 ?_
  refine q_iconst ok dX9_ending_7 ?_
  obtain ⟨g1, hT1a, hT1b⟩ := h
  refine q_icmp_ne (tgt := 21) ok dX9_ending_8 (by decide) g1 (by unfold inR; decide) (fun c1 => ?_) (fun c1 => ?_)
  · have h := hT1a c1
    refine q_iconst ok dX9_ending_21 ?_
    exact q_iret ok dX9_ending_22 h
  · have h := hT1b c1
    refine q_aload_n ok dX9_ending_11 0 rfl ?_
    refine q_getC ok fl_X9_35 kC_0 fC_0_5 dX9_ending_12 ?_
    refine q_getI ok fl_X9_149 kC_44 fC_44_2 dX9_ending_15 ?_
    refine q_goto (tgt := 22) ok dX9_ending_18 (by decide) ?_
    exact q_iret ok dX9_ending_22 h)
/-! BranchingStory.node()I -/
def f_X9_node (σ : St) (Q : St → Int → Prop) : Prop :=
  Q σ (σ 44 3)
set_option maxRecDepth 100000 in
set_option maxHeartbeats 4000000 in
theorem c_X9_node (l : Launch) (Y : Cy) (hD : ∀ σ, va_D Y.2.2.2 (wsOf KC Y.2.1 Y.2.2.1 σ)) {σ : St} {Q : St → Int → Prop} (h : f_X9_node  σ Q) : ConI l yX9_node cX9_node 1 .int (rm0q 0 0) Y KC σ [.inr (.inr 0)] Q := con_of (lv := [(0, .inr (.inr 0))]) (by decide) hD (Nat.le_of_ble_eq_true rfl) rfl (fun X _ ok => by
  have ok : Ok X Y KC cX9_node 1 RX9 (rm0q 0 0) (some .int) := ok
  unfold f_X9_node at h
  refine q_aload_n ok dX9_node_0 0 rfl ?_
  refine q_getC ok fl_X9_35 kC_0 fC_0_5 dX9_node_1 ?_
  refine q_getI ok fl_X9_152 kC_44 fC_44_3 dX9_node_4 ?_
  exact q_iret ok dX9_node_7 h)
/-! BranchingStory.hub()I -/
def f_X9_hub (σ : St) (Q : St → Int → Prop) : Prop :=
  Q σ (σ 44 4)
set_option maxRecDepth 100000 in
set_option maxHeartbeats 4000000 in
theorem c_X9_hub (l : Launch) (Y : Cy) (hD : ∀ σ, va_D Y.2.2.2 (wsOf KC Y.2.1 Y.2.2.1 σ)) {σ : St} {Q : St → Int → Prop} (h : f_X9_hub  σ Q) : ConI l yX9_hub cX9_hub 1 .int (rm0q 0 0) Y KC σ [.inr (.inr 0)] Q := con_of (lv := [(0, .inr (.inr 0))]) (by decide) hD (Nat.le_of_ble_eq_true rfl) rfl (fun X _ ok => by
  have ok : Ok X Y KC cX9_hub 1 RX9 (rm0q 0 0) (some .int) := ok
  unfold f_X9_hub at h
  refine q_aload_n ok dX9_hub_0 0 rfl ?_
  refine q_getC ok fl_X9_35 kC_0 fC_0_5 dX9_hub_1 ?_
  refine q_getI ok fl_X9_155 kC_44 fC_44_4 dX9_hub_4 ?_
  exact q_iret ok dX9_hub_7 h)
/-! BranchingStory.offered()I -/
def f_X9_offered (σ : St) (Q : St → Int → Prop) : Prop :=
  f_JI_bitCount (σ 44 8) σ (fun σ1 r1 => Q σ1 r1)
set_option maxRecDepth 100000 in
set_option maxHeartbeats 4000000 in
theorem c_X9_offered (l : Launch) (Y : Cy) (hD : ∀ σ, va_D Y.2.2.2 (wsOf KC Y.2.1 Y.2.2.1 σ)) {σ : St} {Q : St → Int → Prop} (h : f_X9_offered  σ Q) : ConI l yX9_offered cX9_offered 1 .int (rm0q 1 20) Y KC σ [.inr (.inr 0)] Q := con_of (lv := [(0, .inr (.inr 0))]) (by decide) hD (Nat.le_of_ble_eq_true rfl) rfl (fun X _ ok => by
  have ok : Ok X Y KC cX9_offered 1 RX9 (rm0q 1 20) (some .int) := ok
  unfold f_X9_offered at h
  refine q_aload_n ok dX9_offered_0 0 rfl ?_
  refine q_getC ok fl_X9_35 kC_0 fC_0_5 dX9_offered_1 ?_
  refine q_getI ok fl_X9_158 kC_44 fC_44_8 dX9_offered_4 ?_
  refine q_callSI (st := []) ok cs_X9_161 (c_JI_bitCount X.2.1 Y ok.2.2.2.2.2.2.2.2 h) ⟨rfl, rfl, Nat.le_of_ble_eq_true rfl, Nat.le_of_ble_eq_true rfl⟩ rfl rfl (Nat.le_of_ble_eq_true rfl) dX9_offered_7 (fun σ1 r1 h => ?_)
  exact q_iret ok dX9_offered_10 h)
/-! BranchingStory.said()I -/
def f_X9_said (σ : St) (Q : St → Int → Prop) : Prop :=
  Q σ (σ 45 0)
set_option maxRecDepth 100000 in
set_option maxHeartbeats 4000000 in
theorem c_X9_said (l : Launch) (Y : Cy) (hD : ∀ σ, va_D Y.2.2.2 (wsOf KC Y.2.1 Y.2.2.1 σ)) {σ : St} {Q : St → Int → Prop} (h : f_X9_said  σ Q) : ConI l yX9_said cX9_said 1 .int (rm0q 0 0) Y KC σ [.inr (.inr 0)] Q := con_of (lv := [(0, .inr (.inr 0))]) (by decide) hD (Nat.le_of_ble_eq_true rfl) rfl (fun X _ ok => by
  have ok : Ok X Y KC cX9_said 1 RX9 (rm0q 0 0) (some .int) := ok
  unfold f_X9_said at h
  refine q_aload_n ok dX9_said_0 0 rfl ?_
  refine q_getC ok fl_X9_35 kC_0 fC_0_5 dX9_said_1 ?_
  refine q_getC ok fl_X9_186 kC_44 fC_44_10 dX9_said_4 ?_
  refine q_getI ok fl_X9_190 kC_45 fC_45_0 dX9_said_7 ?_
  exact q_iret ok dX9_said_10 h)
