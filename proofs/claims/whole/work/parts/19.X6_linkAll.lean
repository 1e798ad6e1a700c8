theorem dX6_linkAll_0 : decode cX6_linkAll 0 = .ok (.aload_n 0, 1) := by decide +kernel
theorem dX6_linkAll_1 : decode cX6_linkAll 1 = .ok (.getfield 28, 3) := by decide +kernel
theorem dX6_linkAll_4 : decode cX6_linkAll 4 = .ok (.getfield 171, 3) := by decide +kernel
theorem dX6_linkAll_7 : decode cX6_linkAll 7 = .ok (.sipush 400, 3) := by decide +kernel
theorem dX6_linkAll_10 : decode cX6_linkAll 10 = .ok (.invokestatic 36, 3) := by decide +kernel
theorem dX6_linkAll_13 : decode cX6_linkAll 13 = .ok (.istore_n 1, 1) := by decide +kernel
theorem dX6_linkAll_14 : decode cX6_linkAll 14 = .ok (.iconst 0, 1) := by decide +kernel
theorem dX6_linkAll_15 : decode cX6_linkAll 15 = .ok (.istore_n 2, 1) := by decide +kernel
theorem dX6_linkAll_16 : decode cX6_linkAll 16 = .ok (.iload_n 2, 1) := by decide +kernel
theorem dX6_linkAll_17 : decode cX6_linkAll 17 = .ok (.iload_n 1, 1) := by decide +kernel
theorem dX6_linkAll_18 : decode cX6_linkAll 18 = .ok (.if_icmp .ge 67, 3) := by decide +kernel
theorem dX6_linkAll_21 : decode cX6_linkAll 21 = .ok (.aload_n 0, 1) := by decide +kernel
theorem dX6_linkAll_22 : decode cX6_linkAll 22 = .ok (.getfield 28, 3) := by decide +kernel
theorem dX6_linkAll_25 : decode cX6_linkAll 25 = .ok (.getfield 241, 3) := by decide +kernel
theorem dX6_linkAll_28 : decode cX6_linkAll 28 = .ok (.iload_n 2, 1) := by decide +kernel
theorem dX6_linkAll_29 : decode cX6_linkAll 29 = .ok (.iaload, 1) := by decide +kernel
theorem dX6_linkAll_30 : decode cX6_linkAll 30 = .ok (.bipush 8, 2) := by decide +kernel
theorem dX6_linkAll_32 : decode cX6_linkAll 32 = .ok (.if_icmp .ne 42, 3) := by decide +kernel
theorem dX6_linkAll_35 : decode cX6_linkAll 35 = .ok (.aload_n 0, 1) := by decide +kernel
theorem dX6_linkAll_36 : decode cX6_linkAll 36 = .ok (.getfield 9, 3) := by decide +kernel
theorem dX6_linkAll_39 : decode cX6_linkAll 39 = .ok (.aload_n 0, 1) := by decide +kernel
theorem dX6_linkAll_40 : decode cX6_linkAll 40 = .ok (.getfield 28, 3) := by decide +kernel
theorem dX6_linkAll_43 : decode cX6_linkAll 43 = .ok (.getfield 223, 3) := by decide +kernel
theorem dX6_linkAll_46 : decode cX6_linkAll 46 = .ok (.iload_n 2, 1) := by decide +kernel
theorem dX6_linkAll_47 : decode cX6_linkAll 47 = .ok (.iaload, 1) := by decide +kernel
theorem dX6_linkAll_48 : decode cX6_linkAll 48 = .ok (.invokestatic 202, 3) := by decide +kernel
theorem dX6_linkAll_51 : decode cX6_linkAll 51 = .ok (.istore_n 3, 1) := by decide +kernel
theorem dX6_linkAll_52 : decode cX6_linkAll 52 = .ok (.iload_n 3, 1) := by decide +kernel
theorem dX6_linkAll_53 : decode cX6_linkAll 53 = .ok (.iconst (-1), 1) := by decide +kernel
theorem dX6_linkAll_54 : decode cX6_linkAll 54 = .ok (.if_icmp .ne 10, 3) := by decide +kernel
theorem dX6_linkAll_57 : decode cX6_linkAll 57 = .ok (.aload_n 0, 1) := by decide +kernel
theorem dX6_linkAll_58 : decode cX6_linkAll 58 = .ok (.getfield 25, 3) := by decide +kernel
theorem dX6_linkAll_61 : decode cX6_linkAll 61 = .ok (.iload_n 2, 1) := by decide +kernel
theorem dX6_linkAll_62 : decode cX6_linkAll 62 = .ok (.iaload, 1) := by decide +kernel
theorem dX6_linkAll_63 : decode cX6_linkAll 63 = .ok (.ireturn, 1) := by decide +kernel
theorem dX6_linkAll_64 : decode cX6_linkAll 64 = .ok (.aload_n 0, 1) := by decide +kernel
theorem dX6_linkAll_65 : decode cX6_linkAll 65 = .ok (.getfield 28, 3) := by decide +kernel
theorem dX6_linkAll_68 : decode cX6_linkAll 68 = .ok (.getfield 223, 3) := by decide +kernel
theorem dX6_linkAll_71 : decode cX6_linkAll 71 = .ok (.iload_n 2, 1) := by decide +kernel
theorem dX6_linkAll_72 : decode cX6_linkAll 72 = .ok (.iload_n 3, 1) := by decide +kernel
theorem dX6_linkAll_73 : decode cX6_linkAll 73 = .ok (.iastore, 1) := by decide +kernel
theorem dX6_linkAll_74 : decode cX6_linkAll 74 = .ok (.aload_n 0, 1) := by decide +kernel
theorem dX6_linkAll_75 : decode cX6_linkAll 75 = .ok (.iload_n 2, 1) := by decide +kernel
theorem dX6_linkAll_76 : decode cX6_linkAll 76 = .ok (.invokevirtual 243, 3) := by decide +kernel
theorem dX6_linkAll_79 : decode cX6_linkAll 79 = .ok (.iinc 2 1, 3) := by decide +kernel
theorem dX6_linkAll_82 : decode cX6_linkAll 82 = .ok (.goto (-66), 3) := by decide +kernel
theorem dX6_linkAll_85 : decode cX6_linkAll 85 = .ok (.iconst (-1), 1) := by decide +kernel
theorem dX6_linkAll_86 : decode cX6_linkAll 86 = .ok (.ireturn, 1) := by decide +kernel
theorem dX6_read_0 : decode cX6_read 0 = .ok (.aload_n 0, 1) := by decide +kernel
theorem dX6_read_1 : decode cX6_read 1 = .ok (.aload_n 3, 1) := by decide +kernel
theorem dX6_read_2 : decode cX6_read 2 = .ok (.invokevirtual 32, 3) := by decide +kernel
theorem dX6_read_5 : decode cX6_read 5 = .ok (.iload_n 2, 1) := by decide +kernel
theorem dX6_read_6 : decode cX6_read 6 = .ok (.aload_n 1, 1) := by decide +kernel
theorem dX6_read_7 : decode cX6_read 7 = .ok (.arraylength, 1) := by decide +kernel
theorem dX6_read_8 : decode cX6_read 8 = .ok (.invokestatic 36, 3) := by decide +kernel
theorem dX6_read_11 : decode cX6_read 11 = .ok (.istore 4, 2) := by decide +kernel
theorem dX6_read_13 : decode cX6_read 13 = .ok (.iconst 0, 1) := by decide +kernel
theorem dX6_read_14 : decode cX6_read 14 = .ok (.istore 5, 2) := by decide +kernel
theorem dX6_read_16 : decode cX6_read 16 = .ok (.iload 5, 2) := by decide +kernel
theorem dX6_read_18 : decode cX6_read 18 = .ok (.sipush 400, 3) := by decide +kernel
theorem dX6_read_21 : decode cX6_read 21 = .ok (.if_icmp .ge 79, 3) := by decide +kernel
theorem dX6_read_24 : decode cX6_read 24 = .ok (.aload_n 0, 1) := by decide +kernel
theorem dX6_read_25 : decode cX6_read 25 = .ok (.getfield 42, 3) := by decide +kernel
theorem dX6_read_28 : decode cX6_read 28 = .ok (.ifCond .lt 72, 3) := by decide +kernel
theorem dX6_read_31 : decode cX6_read 31 = .ok (.aload_n 0, 1) := by decide +kernel
theorem dX6_read_32 : decode cX6_read 32 = .ok (.getfield 42, 3) := by decide +kernel
theorem dX6_read_35 : decode cX6_read 35 = .ok (.iload 4, 2) := by decide +kernel
theorem dX6_read_37 : decode cX6_read 37 = .ok (.if_icmp .ge 63, 3) := by decide +kernel
theorem dX6_read_40 : decode cX6_read 40 = .ok (.aload_n 0, 1) := by decide +kernel
theorem dX6_read_41 : decode cX6_read 41 = .ok (.iconst 1, 1) := by decide +kernel
theorem dX6_read_42 : decode cX6_read 42 = .ok (.putfield 46, 3) := by decide +kernel
theorem dX6_read_45 : decode cX6_read 45 = .ok (.aload_n 1, 1) := by decide +kernel
theorem dX6_read_46 : decode cX6_read 46 = .ok (.aload_n 0, 1) := by decide +kernel
theorem dX6_read_47 : decode cX6_read 47 = .ok (.getfield 42, 3) := by decide +kernel
theorem dX6_read_50 : decode cX6_read 50 = .ok (.iaload, 1) := by decide +kernel
theorem dX6_read_51 : decode cX6_read 51 = .ok (.bipush 32, 2) := by decide +kernel
theorem dX6_read_53 : decode cX6_read 53 = .ok (.if_icmp .eq 28, 3) := by decide +kernel
theorem dX6_read_56 : decode cX6_read 56 = .ok (.aload_n 0, 1) := by decide +kernel
theorem dX6_read_57 : decode cX6_read 57 = .ok (.aload_n 1, 1) := by decide +kernel
theorem dX6_read_58 : decode cX6_read 58 = .ok (.iload 4, 2) := by decide +kernel
theorem dX6_read_60 : decode cX6_read 60 = .ok (.invokevirtual 49, 3) := by decide +kernel
theorem dX6_read_63 : decode cX6_read 63 = .ok (.aload_n 0, 1) := by decide +kernel
theorem dX6_read_64 : decode cX6_read 64 = .ok (.aload_n 1, 1) := by decide +kernel
theorem dX6_read_65 : decode cX6_read 65 = .ok (.aload_n 0, 1) := by decide +kernel
theorem dX6_read_66 : decode cX6_read 66 = .ok (.getfield 42, 3) := by decide +kernel
theorem dX6_read_69 : decode cX6_read 69 = .ok (.iaload, 1) := by decide +kernel
theorem dX6_read_70 : decode cX6_read 70 = .ok (.invokevirtual 53, 3) := by decide +kernel
theorem dX6_read_73 : decode cX6_read 73 = .ok (.ifCond .ne 8, 3) := by decide +kernel
theorem dX6_read_76 : decode cX6_read 76 = .ok (.aload_n 0, 1) := by decide +kernel
theorem dX6_read_77 : decode cX6_read 77 = .ok (.getfield 42, 3) := by decide +kernel
theorem dX6_read_80 : decode cX6_read 80 = .ok (.ireturn, 1) := by decide +kernel
theorem dX6_read_81 : decode cX6_read 81 = .ok (.aload_n 0, 1) := by decide +kernel
theorem dX6_read_82 : decode cX6_read 82 = .ok (.dup, 1) := by decide +kernel
theorem dX6_read_83 : decode cX6_read 83 = .ok (.getfield 42, 3) := by decide +kernel
theorem dX6_read_86 : decode cX6_read 86 = .ok (.aload_n 0, 1) := by decide +kernel
theorem dX6_read_87 : decode cX6_read 87 = .ok (.getfield 46, 3) := by decide +kernel
theorem dX6_read_90 : decode cX6_read 90 = .ok (.iadd, 1) := by decide +kernel
theorem dX6_read_91 : decode cX6_read 91 = .ok (.putfield 42, 3) := by decide +kernel
theorem dX6_read_94 : decode cX6_read 94 = .ok (.iinc 5 1, 3) := by decide +kernel
theorem dX6_read_97 : decode cX6_read 97 = .ok (.goto (-81), 3) := by decide +kernel
theorem dX6_read_100 : decode cX6_read 100 = .ok (.aload_n 0, 1) := by decide +kernel
theorem dX6_read_101 : decode cX6_read 101 = .ok (.invokevirtual 57, 3) := by decide +kernel
theorem dX6_read_104 : decode cX6_read 104 = .ok (.ifCond .ne 5, 3) := by decide +kernel
theorem dX6_read_107 : decode cX6_read 107 = .ok (.iload_n 2, 1) := by decide +kernel
theorem dX6_read_108 : decode cX6_read 108 = .ok (.ireturn, 1) := by decide +kernel
theorem dX6_read_109 : decode cX6_read 109 = .ok (.aload_n 0, 1) := by decide +kernel
theorem dX6_read_110 : decode cX6_read 110 = .ok (.bipush 11, 2) := by decide +kernel
theorem dX6_read_112 : decode cX6_read 112 = .ok (.aload_n 0, 1) := by decide +kernel
theorem dX6_read_113 : decode cX6_read 113 = .ok (.getfield 28, 3) := by decide +kernel
theorem dX6_read_116 : decode cX6_read 116 = .ok (.getfield 61, 3) := by decide +kernel
theorem dX6_read_119 : decode cX6_read 119 = .ok (.iconst 1, 1) := by decide +kernel
theorem dX6_read_120 : decode cX6_read 120 = .ok (.isub, 1) := by decide +kernel
theorem dX6_read_121 : decode cX6_read 121 = .ok (.iconst 0, 1) := by decide +kernel
theorem dX6_read_122 : decode cX6_read 122 = .ok (.invokevirtual 66, 3) := by decide +kernel
theorem dX6_read_125 : decode cX6_read 125 = .ok (.pop, 1) := by decide +kernel
theorem dX6_read_126 : decode cX6_read 126 = .ok (.aload_n 0, 1) := by decide +kernel
theorem dX6_read_127 : decode cX6_read 127 = .ok (.invokevirtual 70, 3) := by decide +kernel
theorem dX6_read_130 : decode cX6_read 130 = .ok (.ireturn, 1) := by decide +kernel
theorem dX5_forget_0 : decode cX5_forget 0 = .ok (.aload_n 0, 1) := by decide +kernel
theorem dX5_forget_1 : decode cX5_forget 1 = .ok (.aload_n 1, 1) := by decide +kernel
theorem dX5_forget_2 : decode cX5_forget 2 = .ok (.putfield 18, 3) := by decide +kernel
theorem dX5_forget_5 : decode cX5_forget 5 = .ok (.aload_n 0, 1) := by decide +kernel
theorem dX5_forget_6 : decode cX5_forget 6 = .ok (.iconst 0, 1) := by decide +kernel
theorem dX5_forget_7 : decode cX5_forget 7 = .ok (.putfield 29, 3) := by decide +kernel
theorem dX5_forget_10 : decode cX5_forget 10 = .ok (.aload_n 0, 1) := by decide +kernel
theorem dX5_forget_11 : decode cX5_forget 11 = .ok (.iconst (-1), 1) := by decide +kernel
theorem dX5_forget_12 : decode cX5_forget 12 = .ok (.putfield 32, 3) := by decide +kernel
theorem dX5_forget_15 : decode cX5_forget 15 = .ok (.aload_n 0, 1) := by decide +kernel
theorem dX5_forget_16 : decode cX5_forget 16 = .ok (.iconst (-1), 1) := by decide +kernel
theorem dX5_forget_17 : decode cX5_forget 17 = .ok (.putfield 22, 3) := by decide +kernel
theorem dX5_forget_20 : decode cX5_forget 20 = .ok (.aload_n 0, 1) := by decide +kernel
theorem dX5_forget_21 : decode cX5_forget 21 = .ok (.iconst (-1), 1) := by decide +kernel
theorem dX5_forget_22 : decode cX5_forget 22 = .ok (.putfield 26, 3) := by decide +kernel
theorem dX5_forget_25 : decode cX5_forget 25 = .ok (.aload_n 0, 1) := by decide +kernel
theorem dX5_forget_26 : decode cX5_forget 26 = .ok (.iconst 0, 1) := by decide +kernel
theorem dX5_forget_27 : decode cX5_forget 27 = .ok (.putfield 35, 3) := by decide +kernel
theorem dX5_forget_30 : decode cX5_forget 30 = .ok (.aload_n 0, 1) := by decide +kernel
theorem dX5_forget_31 : decode cX5_forget 31 = .ok (.iconst 0, 1) := by decide +kernel
theorem dX5_forget_32 : decode cX5_forget 32 = .ok (.putfield 38, 3) := by decide +kernel
theorem dX5_forget_35 : decode cX5_forget 35 = .ok (.aload_n 0, 1) := by decide +kernel
theorem dX5_forget_36 : decode cX5_forget 36 = .ok (.iconst 0, 1) := by decide +kernel
theorem dX5_forget_37 : decode cX5_forget 37 = .ok (.putfield 41, 3) := by decide +kernel
theorem dX5_forget_40 : decode cX5_forget 40 = .ok (.aload_n 0, 1) := by decide +kernel
theorem dX5_forget_41 : decode cX5_forget 41 = .ok (.iconst 0, 1) := by decide +kernel
theorem dX5_forget_42 : decode cX5_forget 42 = .ok (.putfield 44, 3) := by decide +kernel
theorem dX5_forget_45 : decode cX5_forget 45 = .ok (.aload_n 0, 1) := by decide +kernel
theorem dX5_forget_46 : decode cX5_forget 46 = .ok (.iconst 0, 1) := by decide +kernel
theorem dX5_forget_47 : decode cX5_forget 47 = .ok (.putfield 47, 3) := by decide +kernel
theorem dX5_forget_50 : decode cX5_forget 50 = .ok (.aload_n 0, 1) := by decide +kernel
theorem dX5_forget_51 : decode cX5_forget 51 = .ok (.getfield 12, 3) := by decide +kernel
theorem dX5_forget_54 : decode cX5_forget 54 = .ok (.invokevirtual 50, 3) := by decide +kernel
theorem dX5_forget_57 : decode cX5_forget 57 = .ok (.return_, 1) := by decide +kernel
theorem dX5_enter_0 : decode cX5_enter 0 = .ok (.aload_n 0, 1) := by decide +kernel
theorem dX5_enter_1 : decode cX5_enter 1 = .ok (.iconst 0, 1) := by decide +kernel
theorem dX5_enter_2 : decode cX5_enter 2 = .ok (.putfield 44, 3) := by decide +kernel
theorem dX5_enter_5 : decode cX5_enter 5 = .ok (.aload_n 0, 1) := by decide +kernel
theorem dX5_enter_6 : decode cX5_enter 6 = .ok (.iload_n 1, 1) := by decide +kernel
theorem dX5_enter_7 : decode cX5_enter 7 = .ok (.putfield 22, 3) := by decide +kernel
theorem dX5_enter_10 : decode cX5_enter 10 = .ok (.aload_n 0, 1) := by decide +kernel
theorem dX5_enter_11 : decode cX5_enter 11 = .ok (.dup, 1) := by decide +kernel
theorem dX5_enter_12 : decode cX5_enter 12 = .ok (.getfield 47, 3) := by decide +kernel
theorem dX5_enter_15 : decode cX5_enter 15 = .ok (.iconst 1, 1) := by decide +kernel
theorem dX5_enter_16 : decode cX5_enter 16 = .ok (.iload_n 1, 1) := by decide +kernel
theorem dX5_enter_17 : decode cX5_enter 17 = .ok (.ishl, 1) := by decide +kernel
theorem dX5_enter_18 : decode cX5_enter 18 = .ok (.ior, 1) := by decide +kernel
theorem dX5_enter_19 : decode cX5_enter 19 = .ok (.putfield 47, 3) := by decide +kernel
theorem dX5_enter_22 : decode cX5_enter 22 = .ok (.aload_n 0, 1) := by decide +kernel
theorem dX5_enter_23 : decode cX5_enter 23 = .ok (.getfield 18, 3) := by decide +kernel
theorem dX5_enter_26 : decode cX5_enter 26 = .ok (.iload_n 1, 1) := by decide +kernel
theorem dX5_enter_27 : decode cX5_enter 27 = .ok (.invokevirtual 150, 3) := by decide +kernel
theorem dX5_enter_30 : decode cX5_enter 30 = .ok (.ifCond .eq 8, 3) := by decide +kernel
theorem dX5_enter_33 : decode cX5_enter 33 = .ok (.aload_n 0, 1) := by decide +kernel
theorem dX5_enter_34 : decode cX5_enter 34 = .ok (.iload_n 1, 1) := by decide +kernel
theorem dX5_enter_35 : decode cX5_enter 35 = .ok (.putfield 26, 3) := by decide +kernel
theorem dX5_enter_38 : decode cX5_enter 38 = .ok (.aload_n 0, 1) := by decide +kernel
theorem dX5_enter_39 : decode cX5_enter 39 = .ok (.getfield 18, 3) := by decide +kernel
theorem dX5_enter_42 : decode cX5_enter 42 = .ok (.getfield 153, 3) := by decide +kernel
theorem dX5_enter_45 : decode cX5_enter 45 = .ok (.iload_n 1, 1) := by decide +kernel
theorem dX5_enter_46 : decode cX5_enter 46 = .ok (.invokestatic 156, 3) := by decide +kernel
theorem dX5_enter_49 : decode cX5_enter 49 = .ok (.ireturn, 1) := by decide +kernel
theorem dX5_endFlow_0 : decode cX5_endFlow 0 = .ok (.aload_n 0, 1) := by decide +kernel
theorem dX5_endFlow_1 : decode cX5_endFlow 1 = .ok (.iload_n 1, 1) := by decide +kernel
theorem dX5_endFlow_2 : decode cX5_endFlow 2 = .ok (.putfield 29, 3) := by decide +kernel
theorem dX5_endFlow_5 : decode cX5_endFlow 5 = .ok (.aload_n 0, 1) := by decide +kernel
theorem dX5_endFlow_6 : decode cX5_endFlow 6 = .ok (.iconst 0, 1) := by decide +kernel
theorem dX5_endFlow_7 : decode cX5_endFlow 7 = .ok (.putfield 44, 3) := by decide +kernel
theorem dX5_endFlow_10 : decode cX5_endFlow 10 = .ok (.iconst (-1), 1) := by decide +kernel
theorem dX5_endFlow_11 : decode cX5_endFlow 11 = .ok (.ireturn, 1) := by decide +kernel
theorem dX5_endBlock_0 : decode cX5_endBlock 0 = .ok (.aload_n 0, 1) := by decide +kernel
theorem dX5_endBlock_1 : decode cX5_endBlock 1 = .ok (.getfield 44, 3) := by decide +kernel
theorem dX5_endBlock_4 : decode cX5_endBlock 4 = .ok (.ifCond .eq 10, 3) := by decide +kernel
theorem dX5_endBlock_7 : decode cX5_endBlock 7 = .ok (.aload_n 0, 1) := by decide +kernel
theorem dX5_endBlock_8 : decode cX5_endBlock 8 = .ok (.iconst 1, 1) := by decide +kernel
theorem dX5_endBlock_9 : decode cX5_endBlock 9 = .ok (.putfield 29, 3) := by decide +kernel
theorem dX5_endBlock_12 : decode cX5_endBlock 12 = .ok (.iconst (-1), 1) := by decide +kernel
theorem dX5_endBlock_13 : decode cX5_endBlock 13 = .ok (.ireturn, 1) := by decide +kernel
theorem dX5_endBlock_14 : decode cX5_endBlock 14 = .ok (.iload_n 1, 1) := by decide +kernel
theorem dX5_endBlock_15 : decode cX5_endBlock 15 = .ok (.bipush 12, 2) := by decide +kernel
theorem dX5_endBlock_17 : decode cX5_endBlock 17 = .ok (.if_icmp .ne 14, 3) := by decide +kernel
theorem dX5_endBlock_20 : decode cX5_endBlock 20 = .ok (.aload_n 0, 1) := by decide +kernel
theorem dX5_endBlock_21 : decode cX5_endBlock 21 = .ok (.aload_n 0, 1) := by decide +kernel
theorem dX5_endBlock_22 : decode cX5_endBlock 22 = .ok (.getfield 22, 3) := by decide +kernel
theorem dX5_endBlock_25 : decode cX5_endBlock 25 = .ok (.invokevirtual 57, 3) := by decide +kernel
theorem dX5_endBlock_28 : decode cX5_endBlock 28 = .ok (.goto 8, 3) := by decide +kernel
theorem dX5_endBlock_31 : decode cX5_endBlock 31 = .ok (.aload_n 0, 1) := by decide +kernel
theorem dX5_endBlock_32 : decode cX5_endBlock 32 = .ok (.iconst 3, 1) := by decide +kernel
theorem dX5_endBlock_33 : decode cX5_endBlock 33 = .ok (.invokevirtual 95, 3) := by decide +kernel
theorem dX5_endBlock_36 : decode cX5_endBlock 36 = .ok (.ireturn, 1) := by decide +kernel
theorem dX5_changeMeter_0 : decode cX5_changeMeter 0 = .ok (.iload_n 1, 1) := by decide +kernel
theorem dX5_changeMeter_1 : decode cX5_changeMeter 1 = .ok (.aload_n 0, 1) := by decide +kernel
theorem dX5_changeMeter_2 : decode cX5_changeMeter 2 = .ok (.getfield 38, 3) := by decide +kernel
theorem dX5_changeMeter_5 : decode cX5_changeMeter 5 = .ok (.iload_n 2, 1) := by decide +kernel
theorem dX5_changeMeter_6 : decode cX5_changeMeter 6 = .ok (.invokestatic 127, 3) := by decide +kernel
theorem dX5_changeMeter_9 : decode cX5_changeMeter 9 = .ok (.iload_n 3, 1) := by decide +kernel
theorem dX5_changeMeter_10 : decode cX5_changeMeter 10 = .ok (.invokestatic 130, 3) := by decide +kernel
theorem dX5_changeMeter_13 : decode cX5_changeMeter 13 = .ok (.istore 4, 2) := by decide +kernel
theorem dX5_changeMeter_15 : decode cX5_changeMeter 15 = .ok (.aload_n 0, 1) := by decide +kernel
theorem dX5_changeMeter_16 : decode cX5_changeMeter 16 = .ok (.aload_n 0, 1) := by decide +kernel
theorem dX5_changeMeter_17 : decode cX5_changeMeter 17 = .ok (.getfield 38, 3) := by decide +kernel
theorem dX5_changeMeter_20 : decode cX5_changeMeter 20 = .ok (.bipush 15, 2) := by decide +kernel
theorem dX5_changeMeter_22 : decode cX5_changeMeter 22 = .ok (.iconst 4, 1) := by decide +kernel
theorem dX5_changeMeter_23 : decode cX5_changeMeter 23 = .ok (.iload_n 2, 1) := by decide +kernel
theorem dX5_changeMeter_24 : decode cX5_changeMeter 24 = .ok (.imul, 1) := by decide +kernel
theorem dX5_changeMeter_25 : decode cX5_changeMeter 25 = .ok (.ishl, 1) := by decide +kernel
theorem dX5_changeMeter_26 : decode cX5_changeMeter 26 = .ok (.iconst (-1), 1) := by decide +kernel
theorem dX5_changeMeter_27 : decode cX5_changeMeter 27 = .ok (.ixor, 1) := by decide +kernel
theorem dX5_changeMeter_28 : decode cX5_changeMeter 28 = .ok (.iand, 1) := by decide +kernel
theorem dX5_changeMeter_29 : decode cX5_changeMeter 29 = .ok (.iload 4, 2) := by decide +kernel
theorem dX5_changeMeter_31 : decode cX5_changeMeter 31 = .ok (.iconst 4, 1) := by decide +kernel
theorem dX5_changeMeter_32 : decode cX5_changeMeter 32 = .ok (.iload_n 2, 1) := by decide +kernel
theorem dX5_changeMeter_33 : decode cX5_changeMeter 33 = .ok (.imul, 1) := by decide +kernel
theorem dX5_changeMeter_34 : decode cX5_changeMeter 34 = .ok (.ishl, 1) := by decide +kernel
theorem dX5_changeMeter_35 : decode cX5_changeMeter 35 = .ok (.ior, 1) := by decide +kernel
theorem dX5_changeMeter_36 : decode cX5_changeMeter 36 = .ok (.putfield 38, 3) := by decide +kernel
theorem dX5_changeMeter_39 : decode cX5_changeMeter 39 = .ok (.return_, 1) := by decide +kernel
theorem dX5_conditionHolds_0 : decode cX5_conditionHolds 0 = .ok (.aload_n 0, 1) := by decide +kernel
theorem dX5_conditionHolds_1 : decode cX5_conditionHolds 1 = .ok (.getfield 18, 3) := by decide +kernel
theorem dX5_conditionHolds_4 : decode cX5_conditionHolds 4 = .ok (.getfield 134, 3) := by decide +kernel
theorem dX5_conditionHolds_7 : decode cX5_conditionHolds 7 = .ok (.aload_n 0, 1) := by decide +kernel
theorem dX5_conditionHolds_8 : decode cX5_conditionHolds 8 = .ok (.getfield 18, 3) := by decide +kernel
theorem dX5_conditionHolds_11 : decode cX5_conditionHolds 11 = .ok (.getfield 138, 3) := by decide +kernel
theorem dX5_conditionHolds_14 : decode cX5_conditionHolds 14 = .ok (.iload_n 1, 1) := by decide +kernel
theorem dX5_conditionHolds_15 : decode cX5_conditionHolds 15 = .ok (.iaload, 1) := by decide +kernel
theorem dX5_conditionHolds_16 : decode cX5_conditionHolds 16 = .ok (.aload_n 0, 1) := by decide +kernel
theorem dX5_conditionHolds_17 : decode cX5_conditionHolds 17 = .ok (.getfield 18, 3) := by decide +kernel
theorem dX5_conditionHolds_20 : decode cX5_conditionHolds 20 = .ok (.getfield 141, 3) := by decide +kernel
theorem dX5_conditionHolds_23 : decode cX5_conditionHolds 23 = .ok (.iload_n 1, 1) := by decide +kernel
theorem dX5_conditionHolds_24 : decode cX5_conditionHolds 24 = .ok (.iaload, 1) := by decide +kernel
theorem dX5_conditionHolds_25 : decode cX5_conditionHolds 25 = .ok (.aload_n 0, 1) := by decide +kernel
theorem dX5_conditionHolds_26 : decode cX5_conditionHolds 26 = .ok (.getfield 35, 3) := by decide +kernel
theorem dX5_conditionHolds_29 : decode cX5_conditionHolds 29 = .ok (.aload_n 0, 1) := by decide +kernel
theorem dX5_conditionHolds_30 : decode cX5_conditionHolds 30 = .ok (.getfield 38, 3) := by decide +kernel
theorem dX5_conditionHolds_33 : decode cX5_conditionHolds 33 = .ok (.invokevirtual 144, 3) := by decide +kernel
theorem dX5_conditionHolds_36 : decode cX5_conditionHolds 36 = .ok (.ireturn, 1) := by decide +kernel
theorem dX5_execute_0 : decode cX5_execute 0 = .ok (.aload_n 0, 1) := by decide +kernel
theorem dX5_execute_1 : decode cX5_execute 1 = .ok (.getfield 18, 3) := by decide +kernel
theorem dX5_execute_4 : decode cX5_execute 4 = .ok (.getfield 102, 3) := by decide +kernel
theorem dX5_execute_7 : decode cX5_execute 7 = .ok (.iload_n 1, 1) := by decide +kernel
theorem dX5_execute_8 : decode cX5_execute 8 = .ok (.iaload, 1) := by decide +kernel
theorem dX5_execute_9 : decode cX5_execute 9 = .ok (.istore_n 3, 1) := by decide +kernel
theorem dX5_execute_10 : decode cX5_execute 10 = .ok (.iload_n 2, 1) := by decide +kernel
theorem dX5_execute_11 : decode cX5_execute 11 = .ok (.tableswitch 209 0 9 #[53, 64, 79, 96, 96, 96, 114, 144, 178, 184], 53) := by decide +kernel
theorem dX5_execute_64 : decode cX5_execute 64 = .ok (.aload_n 0, 1) := by decide +kernel
theorem dX5_execute_65 : decode cX5_execute 65 = .ok (.getfield 12, 3) := by decide +kernel
theorem dX5_execute_68 : decode cX5_execute 68 = .ok (.iload_n 3, 1) := by decide +kernel
theorem dX5_execute_69 : decode cX5_execute 69 = .ok (.invokevirtual 105, 3) := by decide +kernel
theorem dX5_execute_72 : decode cX5_execute 72 = .ok (.goto 159, 3) := by decide +kernel
theorem dX5_execute_75 : decode cX5_execute 75 = .ok (.aload_n 0, 1) := by decide +kernel
theorem dX5_execute_76 : decode cX5_execute 76 = .ok (.dup, 1) := by decide +kernel
theorem dX5_execute_77 : decode cX5_execute 77 = .ok (.getfield 35, 3) := by decide +kernel
theorem dX5_execute_80 : decode cX5_execute 80 = .ok (.iconst 1, 1) := by decide +kernel
theorem dX5_execute_81 : decode cX5_execute 81 = .ok (.iload_n 3, 1) := by decide +kernel
theorem dX5_execute_82 : decode cX5_execute 82 = .ok (.ishl, 1) := by decide +kernel
theorem dX5_execute_83 : decode cX5_execute 83 = .ok (.ior, 1) := by decide +kernel
theorem dX5_execute_84 : decode cX5_execute 84 = .ok (.putfield 35, 3) := by decide +kernel
theorem dX5_execute_87 : decode cX5_execute 87 = .ok (.goto 144, 3) := by decide +kernel
theorem dX5_execute_90 : decode cX5_execute 90 = .ok (.aload_n 0, 1) := by decide +kernel
theorem dX5_execute_91 : decode cX5_execute 91 = .ok (.dup, 1) := by decide +kernel
theorem dX5_execute_92 : decode cX5_execute 92 = .ok (.getfield 35, 3) := by decide +kernel
theorem dX5_execute_95 : decode cX5_execute 95 = .ok (.iconst 1, 1) := by decide +kernel
theorem dX5_execute_96 : decode cX5_execute 96 = .ok (.iload_n 3, 1) := by decide +kernel
theorem dX5_execute_97 : decode cX5_execute 97 = .ok (.ishl, 1) := by decide +kernel
theorem dX5_execute_98 : decode cX5_execute 98 = .ok (.iconst (-1), 1) := by decide +kernel
theorem dX5_execute_99 : decode cX5_execute 99 = .ok (.ixor, 1) := by decide +kernel
theorem dX5_execute_100 : decode cX5_execute 100 = .ok (.iand, 1) := by decide +kernel
theorem dX5_execute_101 : decode cX5_execute 101 = .ok (.putfield 35, 3) := by decide +kernel
theorem dX5_execute_104 : decode cX5_execute 104 = .ok (.goto 127, 3) := by decide +kernel
theorem dX5_execute_107 : decode cX5_execute 107 = .ok (.aload_n 0, 1) := by decide +kernel
theorem dX5_execute_108 : decode cX5_execute 108 = .ok (.iload_n 2, 1) := by decide +kernel
theorem dX5_execute_109 : decode cX5_execute 109 = .ok (.iload_n 3, 1) := by decide +kernel
theorem dX5_execute_110 : decode cX5_execute 110 = .ok (.aload_n 0, 1) := by decide +kernel
theorem dX5_execute_111 : decode cX5_execute 111 = .ok (.getfield 18, 3) := by decide +kernel
theorem dX5_execute_114 : decode cX5_execute 114 = .ok (.getfield 108, 3) := by decide +kernel
theorem dX5_execute_117 : decode cX5_execute 117 = .ok (.iload_n 1, 1) := by decide +kernel
theorem dX5_execute_118 : decode cX5_execute 118 = .ok (.iaload, 1) := by decide +kernel
theorem dX5_execute_119 : decode cX5_execute 119 = .ok (.invokevirtual 111, 3) := by decide +kernel
theorem dX5_execute_122 : decode cX5_execute 122 = .ok (.goto 109, 3) := by decide +kernel
theorem dX5_execute_125 : decode cX5_execute 125 = .ok (.aload_n 0, 1) := by decide +kernel
theorem dX5_execute_126 : decode cX5_execute 126 = .ok (.iload_n 1, 1) := by decide +kernel
theorem dX5_execute_127 : decode cX5_execute 127 = .ok (.invokevirtual 115, 3) := by decide +kernel
theorem dX5_execute_130 : decode cX5_execute 130 = .ok (.ifCond .eq 15, 3) := by decide +kernel
theorem dX5_execute_133 : decode cX5_execute 133 = .ok (.aload_n 0, 1) := by decide +kernel
theorem dX5_execute_134 : decode cX5_execute 134 = .ok (.getfield 18, 3) := by decide +kernel
theorem dX5_execute_137 : decode cX5_execute 137 = .ok (.getfield 118, 3) := by decide +kernel
theorem dX5_execute_140 : decode cX5_execute 140 = .ok (.iload_n 1, 1) := by decide +kernel
theorem dX5_execute_141 : decode cX5_execute 141 = .ok (.iaload, 1) := by decide +kernel
theorem dX5_execute_142 : decode cX5_execute 142 = .ok (.goto 12, 3) := by decide +kernel
theorem dX5_execute_145 : decode cX5_execute 145 = .ok (.aload_n 0, 1) := by decide +kernel
theorem dX5_execute_146 : decode cX5_execute 146 = .ok (.getfield 18, 3) := by decide +kernel
theorem dX5_execute_149 : decode cX5_execute 149 = .ok (.getfield 121, 3) := by decide +kernel
theorem dX5_execute_152 : decode cX5_execute 152 = .ok (.iload_n 1, 1) := by decide +kernel
theorem dX5_execute_153 : decode cX5_execute 153 = .ok (.iaload, 1) := by decide +kernel
theorem dX5_execute_154 : decode cX5_execute 154 = .ok (.ireturn, 1) := by decide +kernel
theorem dX5_execute_155 : decode cX5_execute 155 = .ok (.aload_n 0, 1) := by decide +kernel
theorem dX5_execute_156 : decode cX5_execute 156 = .ok (.getfield 41, 3) := by decide +kernel
theorem dX5_execute_159 : decode cX5_execute 159 = .ok (.iload_n 3, 1) := by decide +kernel
theorem dX5_execute_160 : decode cX5_execute 160 = .ok (.ishr, 1) := by decide +kernel
theorem dX5_execute_161 : decode cX5_execute 161 = .ok (.iconst 1, 1) := by decide +kernel
theorem dX5_execute_162 : decode cX5_execute 162 = .ok (.iand, 1) := by decide +kernel
theorem dX5_execute_163 : decode cX5_execute 163 = .ok (.ifCond .ne 68, 3) := by decide +kernel
theorem dX5_execute_166 : decode cX5_execute 166 = .ok (.aload_n 0, 1) := by decide +kernel
theorem dX5_execute_167 : decode cX5_execute 167 = .ok (.iload_n 1, 1) := by decide +kernel
theorem dX5_execute_168 : decode cX5_execute 168 = .ok (.invokevirtual 115, 3) := by decide +kernel
theorem dX5_execute_171 : decode cX5_execute 171 = .ok (.ifCond .eq 60, 3) := by decide +kernel
theorem dX5_execute_174 : decode cX5_execute 174 = .ok (.aload_n 0, 1) := by decide +kernel
theorem dX5_execute_175 : decode cX5_execute 175 = .ok (.dup, 1) := by decide +kernel
theorem dX5_execute_176 : decode cX5_execute 176 = .ok (.getfield 44, 3) := by decide +kernel
theorem dX5_execute_179 : decode cX5_execute 179 = .ok (.iconst 1, 1) := by decide +kernel
theorem dX5_execute_180 : decode cX5_execute 180 = .ok (.iload_n 3, 1) := by decide +kernel
theorem dX5_execute_181 : decode cX5_execute 181 = .ok (.ishl, 1) := by decide +kernel
theorem dX5_execute_182 : decode cX5_execute 182 = .ok (.ior, 1) := by decide +kernel
theorem dX5_execute_183 : decode cX5_execute 183 = .ok (.putfield 44, 3) := by decide +kernel
theorem dX5_execute_186 : decode cX5_execute 186 = .ok (.goto 45, 3) := by decide +kernel
theorem dX5_execute_189 : decode cX5_execute 189 = .ok (.aload_n 0, 1) := by decide +kernel
theorem dX5_execute_190 : decode cX5_execute 190 = .ok (.iload_n 3, 1) := by decide +kernel
theorem dX5_execute_191 : decode cX5_execute 191 = .ok (.invokevirtual 57, 3) := by decide +kernel
theorem dX5_execute_194 : decode cX5_execute 194 = .ok (.ireturn, 1) := by decide +kernel
theorem dX5_execute_195 : decode cX5_execute 195 = .ok (.aload_n 0, 1) := by decide +kernel
theorem dX5_execute_196 : decode cX5_execute 196 = .ok (.getfield 26, 3) := by decide +kernel
theorem dX5_execute_199 : decode cX5_execute 199 = .ok (.iconst (-1), 1) := by decide +kernel
theorem dX5_execute_200 : decode cX5_execute 200 = .ok (.if_icmp .ne 11, 3) := by decide +kernel
theorem dX5_execute_203 : decode cX5_execute 203 = .ok (.aload_n 0, 1) := by decide +kernel
theorem dX5_execute_204 : decode cX5_execute 204 = .ok (.iconst 3, 1) := by decide +kernel
theorem dX5_execute_205 : decode cX5_execute 205 = .ok (.invokevirtual 95, 3) := by decide +kernel
theorem dX5_execute_208 : decode cX5_execute 208 = .ok (.goto 11, 3) := by decide +kernel
theorem dX5_execute_211 : decode cX5_execute 211 = .ok (.aload_n 0, 1) := by decide +kernel
theorem dX5_execute_212 : decode cX5_execute 212 = .ok (.aload_n 0, 1) := by decide +kernel
theorem dX5_execute_213 : decode cX5_execute 213 = .ok (.getfield 26, 3) := by decide +kernel
theorem dX5_execute_216 : decode cX5_execute 216 = .ok (.invokevirtual 57, 3) := by decide +kernel
theorem dX5_execute_219 : decode cX5_execute 219 = .ok (.ireturn, 1) := by decide +kernel
theorem dX5_execute_220 : decode cX5_execute 220 = .ok (.aload_n 0, 1) := by decide +kernel
theorem dX5_execute_221 : decode cX5_execute 221 = .ok (.iload_n 3, 1) := by decide +kernel
theorem dX5_execute_222 : decode cX5_execute 222 = .ok (.putfield 32, 3) := by decide +kernel
theorem dX5_execute_225 : decode cX5_execute 225 = .ok (.aload_n 0, 1) := by decide +kernel
theorem dX5_execute_226 : decode cX5_execute 226 = .ok (.iconst 2, 1) := by decide +kernel
theorem dX5_execute_227 : decode cX5_execute 227 = .ok (.invokevirtual 95, 3) := by decide +kernel
theorem dX5_execute_230 : decode cX5_execute 230 = .ok (.ireturn, 1) := by decide +kernel
theorem dX5_execute_231 : decode cX5_execute 231 = .ok (.aload_n 0, 1) := by decide +kernel
theorem dX5_execute_232 : decode cX5_execute 232 = .ok (.getfield 18, 3) := by decide +kernel
theorem dX5_execute_235 : decode cX5_execute 235 = .ok (.getfield 124, 3) := by decide +kernel
theorem dX5_execute_238 : decode cX5_execute 238 = .ok (.iload_n 1, 1) := by decide +kernel
theorem dX5_execute_239 : decode cX5_execute 239 = .ok (.iaload, 1) := by decide +kernel
theorem dX5_execute_240 : decode cX5_execute 240 = .ok (.ireturn, 1) := by decide +kernel
theorem dX5_run_0 : decode cX5_run 0 = .ok (.iload_n 1, 1) := by decide +kernel
theorem dX5_run_1 : decode cX5_run 1 = .ok (.istore_n 2, 1) := by decide +kernel
theorem dX5_run_2 : decode cX5_run 2 = .ok (.iconst 0, 1) := by decide +kernel
theorem dX5_run_3 : decode cX5_run 3 = .ok (.istore_n 3, 1) := by decide +kernel
theorem dX5_run_4 : decode cX5_run 4 = .ok (.iconst 0, 1) := by decide +kernel
theorem dX5_run_5 : decode cX5_run 5 = .ok (.istore 4, 2) := by decide +kernel
theorem dX5_run_7 : decode cX5_run 7 = .ok (.iload 4, 2) := by decide +kernel
theorem dX5_run_9 : decode cX5_run 9 = .ok (.sipush 153, 3) := by decide +kernel
theorem dX5_run_12 : decode cX5_run 12 = .ok (.if_icmp .ge 82, 3) := by decide +kernel
theorem dX5_run_15 : decode cX5_run 15 = .ok (.aload_n 0, 1) := by decide +kernel
theorem dX5_run_16 : decode cX5_run 16 = .ok (.getfield 18, 3) := by decide +kernel
theorem dX5_run_19 : decode cX5_run 19 = .ok (.iload_n 2, 1) := by decide +kernel
theorem dX5_run_20 : decode cX5_run 20 = .ok (.invokevirtual 86, 3) := by decide +kernel
theorem dX5_run_23 : decode cX5_run 23 = .ok (.ifCond .eq 71, 3) := by decide +kernel
theorem dX5_run_26 : decode cX5_run 26 = .ok (.aload_n 0, 1) := by decide +kernel
theorem dX5_run_27 : decode cX5_run 27 = .ok (.getfield 18, 3) := by decide +kernel
theorem dX5_run_30 : decode cX5_run 30 = .ok (.getfield 89, 3) := by decide +kernel
theorem dX5_run_33 : decode cX5_run 33 = .ok (.iload_n 2, 1) := by decide +kernel
theorem dX5_run_34 : decode cX5_run 34 = .ok (.iaload, 1) := by decide +kernel
theorem dX5_run_35 : decode cX5_run 35 = .ok (.istore 5, 2) := by decide +kernel
theorem dX5_run_37 : decode cX5_run 37 = .ok (.iload 5, 2) := by decide +kernel
theorem dX5_run_39 : decode cX5_run 39 = .ok (.bipush 11, 2) := by decide +kernel
theorem dX5_run_41 : decode cX5_run 41 = .ok (.if_icmp .eq 10, 3) := by decide +kernel
theorem dX5_run_44 : decode cX5_run 44 = .ok (.iload 5, 2) := by decide +kernel
theorem dX5_run_46 : decode cX5_run 46 = .ok (.bipush 12, 2) := by decide +kernel
theorem dX5_run_48 : decode cX5_run 48 = .ok (.if_icmp .ne 13, 3) := by decide +kernel
theorem dX5_run_51 : decode cX5_run 51 = .ok (.aload_n 0, 1) := by decide +kernel
theorem dX5_run_52 : decode cX5_run 52 = .ok (.iload 5, 2) := by decide +kernel
theorem dX5_run_54 : decode cX5_run 54 = .ok (.invokevirtual 92, 3) := by decide +kernel
theorem dX5_run_57 : decode cX5_run 57 = .ok (.istore_n 2, 1) := by decide +kernel
theorem dX5_run_58 : decode cX5_run 58 = .ok (.goto 30, 3) := by decide +kernel
theorem dX5_run_61 : decode cX5_run 61 = .ok (.iload_n 3, 1) := by decide +kernel
theorem dX5_run_62 : decode cX5_run 62 = .ok (.sipush 150, 3) := by decide +kernel
theorem dX5_run_65 : decode cX5_run 65 = .ok (.if_icmp .ne 12, 3) := by decide +kernel
theorem dX5_run_68 : decode cX5_run 68 = .ok (.aload_n 0, 1) := by decide +kernel
theorem dX5_run_69 : decode cX5_run 69 = .ok (.iconst 4, 1) := by decide +kernel
theorem dX5_run_70 : decode cX5_run 70 = .ok (.invokevirtual 95, 3) := by decide +kernel
theorem dX5_run_73 : decode cX5_run 73 = .ok (.istore_n 2, 1) := by decide +kernel
theorem dX5_run_74 : decode cX5_run 74 = .ok (.goto 14, 3) := by decide +kernel
theorem dX5_run_77 : decode cX5_run 77 = .ok (.iinc 3 1, 3) := by decide +kernel
theorem dX5_run_80 : decode cX5_run 80 = .ok (.aload_n 0, 1) := by decide +kernel
theorem dX5_run_81 : decode cX5_run 81 = .ok (.iload_n 2, 1) := by decide +kernel
theorem dX5_run_82 : decode cX5_run 82 = .ok (.iload 5, 2) := by decide +kernel
theorem dX5_run_84 : decode cX5_run 84 = .ok (.invokevirtual 98, 3) := by decide +kernel
theorem dX5_run_87 : decode cX5_run 87 = .ok (.istore_n 2, 1) := by decide +kernel
theorem dX5_run_88 : decode cX5_run 88 = .ok (.iinc 4 1, 3) := by decide +kernel
theorem dX5_run_91 : decode cX5_run 91 = .ok (.goto (-84), 3) := by decide +kernel
theorem dX5_run_94 : decode cX5_run 94 = .ok (.return_, 1) := by decide +kernel
theorem dX5_begin_0 : decode cX5_begin 0 = .ok (.aload_n 0, 1) := by decide +kernel
theorem dX5_begin_1 : decode cX5_begin 1 = .ok (.aload_n 1, 1) := by decide +kernel
theorem dX5_begin_2 : decode cX5_begin 2 = .ok (.invokevirtual 53, 3) := by decide +kernel
theorem dX5_begin_5 : decode cX5_begin 5 = .ok (.aload_n 0, 1) := by decide +kernel
theorem dX5_begin_6 : decode cX5_begin 6 = .ok (.aload_n 0, 1) := by decide +kernel
theorem dX5_begin_7 : decode cX5_begin 7 = .ok (.iconst 0, 1) := by decide +kernel
theorem dX5_begin_8 : decode cX5_begin 8 = .ok (.invokevirtual 57, 3) := by decide +kernel
theorem dX5_begin_11 : decode cX5_begin 11 = .ok (.invokevirtual 61, 3) := by decide +kernel
theorem dX5_begin_14 : decode cX5_begin 14 = .ok (.return_, 1) := by decide +kernel
theorem dX5_choiceAt_0 : decode cX5_choiceAt 0 = .ok (.iload_n 1, 1) := by decide +kernel
theorem dX5_choiceAt_1 : decode cX5_choiceAt 1 = .ok (.istore_n 2, 1) := by decide +kernel
theorem dX5_choiceAt_2 : decode cX5_choiceAt 2 = .ok (.iconst 0, 1) := by decide +kernel
theorem dX5_choiceAt_3 : decode cX5_choiceAt 3 = .ok (.istore_n 3, 1) := by decide +kernel
theorem dX5_choiceAt_4 : decode cX5_choiceAt 4 = .ok (.iload_n 3, 1) := by decide +kernel
theorem dX5_choiceAt_5 : decode cX5_choiceAt 5 = .ok (.bipush 16, 2) := by decide +kernel
theorem dX5_choiceAt_7 : decode cX5_choiceAt 7 = .ok (.if_icmp .ge 30, 3) := by decide +kernel
theorem dX5_choiceAt_10 : decode cX5_choiceAt 10 = .ok (.aload_n 0, 1) := by decide +kernel
theorem dX5_choiceAt_11 : decode cX5_choiceAt 11 = .ok (.getfield 44, 3) := by decide +kernel
theorem dX5_choiceAt_14 : decode cX5_choiceAt 14 = .ok (.iload_n 3, 1) := by decide +kernel
theorem dX5_choiceAt_15 : decode cX5_choiceAt 15 = .ok (.ishr, 1) := by decide +kernel
theorem dX5_choiceAt_16 : decode cX5_choiceAt 16 = .ok (.iconst 1, 1) := by decide +kernel
theorem dX5_choiceAt_17 : decode cX5_choiceAt 17 = .ok (.iand, 1) := by decide +kernel
theorem dX5_choiceAt_18 : decode cX5_choiceAt 18 = .ok (.iconst 1, 1) := by decide +kernel
theorem dX5_choiceAt_19 : decode cX5_choiceAt 19 = .ok (.if_icmp .ne 12, 3) := by decide +kernel
theorem dX5_choiceAt_22 : decode cX5_choiceAt 22 = .ok (.iload_n 2, 1) := by decide +kernel
theorem dX5_choiceAt_23 : decode cX5_choiceAt 23 = .ok (.ifCond .ne 5, 3) := by decide +kernel
theorem dX5_choiceAt_26 : decode cX5_choiceAt 26 = .ok (.iload_n 3, 1) := by decide +kernel
theorem dX5_choiceAt_27 : decode cX5_choiceAt 27 = .ok (.ireturn, 1) := by decide +kernel
theorem dX5_choiceAt_28 : decode cX5_choiceAt 28 = .ok (.iinc 2 (-1), 3) := by decide +kernel
theorem dX5_choiceAt_31 : decode cX5_choiceAt 31 = .ok (.iinc 3 1, 3) := by decide +kernel
theorem dX5_choiceAt_34 : decode cX5_choiceAt 34 = .ok (.goto (-30), 3) := by decide +kernel
theorem dX5_choiceAt_37 : decode cX5_choiceAt 37 = .ok (.iconst (-1), 1) := by decide +kernel
theorem dX5_choiceAt_38 : decode cX5_choiceAt 38 = .ok (.ireturn, 1) := by decide +kernel
theorem dX5_take_0 : decode cX5_take 0 = .ok (.aload_n 0, 1) := by decide +kernel
theorem dX5_take_1 : decode cX5_take 1 = .ok (.iload_n 1, 1) := by decide +kernel
theorem dX5_take_2 : decode cX5_take 2 = .ok (.invokevirtual 65, 3) := by decide +kernel
theorem dX5_take_5 : decode cX5_take 5 = .ok (.istore_n 2, 1) := by decide +kernel
theorem dX5_take_6 : decode cX5_take 6 = .ok (.iload_n 2, 1) := by decide +kernel
theorem dX5_take_7 : decode cX5_take 7 = .ok (.ifCond .lt 9, 3) := by decide +kernel
theorem dX5_take_10 : decode cX5_take 10 = .ok (.iload_n 2, 1) := by decide +kernel
theorem dX5_take_11 : decode cX5_take 11 = .ok (.bipush 16, 2) := by decide +kernel
theorem dX5_take_13 : decode cX5_take 13 = .ok (.if_icmp .lt 4, 3) := by decide +kernel
theorem dX5_take_16 : decode cX5_take 16 = .ok (.return_, 1) := by decide +kernel
theorem dX5_take_17 : decode cX5_take 17 = .ok (.aload_n 0, 1) := by decide +kernel
theorem dX5_take_18 : decode cX5_take 18 = .ok (.getfield 18, 3) := by decide +kernel
theorem dX5_take_21 : decode cX5_take 21 = .ok (.iload_n 2, 1) := by decide +kernel
theorem dX5_take_22 : decode cX5_take 22 = .ok (.invokevirtual 68, 3) := by decide +kernel
theorem dX5_take_25 : decode cX5_take 25 = .ok (.ifCond .eq 15, 3) := by decide +kernel
theorem dX5_take_28 : decode cX5_take 28 = .ok (.aload_n 0, 1) := by decide +kernel
theorem dX5_take_29 : decode cX5_take 29 = .ok (.dup, 1) := by decide +kernel
theorem dX5_take_30 : decode cX5_take 30 = .ok (.getfield 41, 3) := by decide +kernel
theorem dX5_take_33 : decode cX5_take 33 = .ok (.iconst 1, 1) := by decide +kernel
theorem dX5_take_34 : decode cX5_take 34 = .ok (.iload_n 2, 1) := by decide +kernel
theorem dX5_take_35 : decode cX5_take 35 = .ok (.ishl, 1) := by decide +kernel
theorem dX5_take_36 : decode cX5_take 36 = .ok (.ior, 1) := by decide +kernel
theorem dX5_take_37 : decode cX5_take 37 = .ok (.putfield 41, 3) := by decide +kernel
theorem dX5_take_40 : decode cX5_take 40 = .ok (.aload_n 0, 1) := by decide +kernel
theorem dX5_take_41 : decode cX5_take 41 = .ok (.iconst 0, 1) := by decide +kernel
theorem dX5_take_42 : decode cX5_take 42 = .ok (.putfield 44, 3) := by decide +kernel
theorem dX5_take_45 : decode cX5_take 45 = .ok (.aload_n 0, 1) := by decide +kernel
theorem dX5_take_46 : decode cX5_take 46 = .ok (.aload_n 0, 1) := by decide +kernel
theorem dX5_take_47 : decode cX5_take 47 = .ok (.getfield 18, 3) := by decide +kernel
theorem dX5_take_50 : decode cX5_take 50 = .ok (.getfield 74, 3) := by decide +kernel
theorem dX5_take_53 : decode cX5_take 53 = .ok (.iload_n 2, 1) := by decide +kernel
theorem dX5_take_54 : decode cX5_take 54 = .ok (.iaload, 1) := by decide +kernel
theorem dX5_take_55 : decode cX5_take 55 = .ok (.invokevirtual 61, 3) := by decide +kernel
theorem dX5_take_58 : decode cX5_take 58 = .ok (.return_, 1) := by decide +kernel
theorem dX5_key_0 : decode cX5_key 0 = .ok (.aload_n 0, 1) := by decide +kernel
theorem dX5_key_1 : decode cX5_key 1 = .ok (.getfield 44, 3) := by decide +kernel
theorem dX5_key_4 : decode cX5_key 4 = .ok (.i2l, 1) := by decide +kernel
theorem dX5_key_5 : decode cX5_key 5 = .ok (.lstore_n 1, 1) := by decide +kernel
theorem dX5_key_6 : decode cX5_key 6 = .ok (.lload_n 1, 1) := by decide +kernel
theorem dX5_key_7 : decode cX5_key 7 = .ok (.bipush 16, 2) := by decide +kernel
theorem dX5_key_9 : decode cX5_key 9 = .ok (.lshl, 1) := by decide +kernel
theorem dX5_key_10 : decode cX5_key 10 = .ok (.aload_n 0, 1) := by decide +kernel
theorem dX5_key_11 : decode cX5_key 11 = .ok (.getfield 41, 3) := by decide +kernel
theorem dX5_key_14 : decode cX5_key 14 = .ok (.i2l, 1) := by decide +kernel
theorem dX5_key_15 : decode cX5_key 15 = .ok (.lor, 1) := by decide +kernel
theorem dX5_key_16 : decode cX5_key 16 = .ok (.lstore_n 1, 1) := by decide +kernel
theorem dX5_key_17 : decode cX5_key 17 = .ok (.lload_n 1, 1) := by decide +kernel
theorem dX5_key_18 : decode cX5_key 18 = .ok (.bipush 12, 2) := by decide +kernel
theorem dX5_key_20 : decode cX5_key 20 = .ok (.lshl, 1) := by decide +kernel
theorem dX5_key_21 : decode cX5_key 21 = .ok (.aload_n 0, 1) := by decide +kernel
theorem dX5_key_22 : decode cX5_key 22 = .ok (.getfield 38, 3) := by decide +kernel
theorem dX5_key_25 : decode cX5_key 25 = .ok (.i2l, 1) := by decide +kernel
theorem dX5_key_26 : decode cX5_key 26 = .ok (.lor, 1) := by decide +kernel
theorem dX5_key_27 : decode cX5_key 27 = .ok (.lstore_n 1, 1) := by decide +kernel
theorem dX5_key_28 : decode cX5_key 28 = .ok (.lload_n 1, 1) := by decide +kernel
theorem dX5_key_29 : decode cX5_key 29 = .ok (.bipush 6, 2) := by decide +kernel
theorem dX5_key_31 : decode cX5_key 31 = .ok (.lshl, 1) := by decide +kernel
theorem dX5_key_32 : decode cX5_key 32 = .ok (.aload_n 0, 1) := by decide +kernel
theorem dX5_key_33 : decode cX5_key 33 = .ok (.getfield 35, 3) := by decide +kernel
theorem dX5_key_36 : decode cX5_key 36 = .ok (.i2l, 1) := by decide +kernel
theorem dX5_key_37 : decode cX5_key 37 = .ok (.lor, 1) := by decide +kernel
theorem dX5_key_38 : decode cX5_key 38 = .ok (.lstore_n 1, 1) := by decide +kernel
theorem dX5_key_39 : decode cX5_key 39 = .ok (.lload_n 1, 1) := by decide +kernel
theorem dX5_key_40 : decode cX5_key 40 = .ok (.iconst 4, 1) := by decide +kernel
theorem dX5_key_41 : decode cX5_key 41 = .ok (.lshl, 1) := by decide +kernel
theorem dX5_key_42 : decode cX5_key 42 = .ok (.aload_n 0, 1) := by decide +kernel
theorem dX5_key_43 : decode cX5_key 43 = .ok (.getfield 26, 3) := by decide +kernel
theorem dX5_key_46 : decode cX5_key 46 = .ok (.iconst 1, 1) := by decide +kernel
theorem dX5_key_47 : decode cX5_key 47 = .ok (.iadd, 1) := by decide +kernel
theorem dX5_key_48 : decode cX5_key 48 = .ok (.i2l, 1) := by decide +kernel
theorem dX5_key_49 : decode cX5_key 49 = .ok (.lor, 1) := by decide +kernel
theorem dX5_key_50 : decode cX5_key 50 = .ok (.lstore_n 1, 1) := by decide +kernel
theorem dX5_key_51 : decode cX5_key 51 = .ok (.lload_n 1, 1) := by decide +kernel
theorem dX5_key_52 : decode cX5_key 52 = .ok (.iconst 4, 1) := by decide +kernel
theorem dX5_key_53 : decode cX5_key 53 = .ok (.lshl, 1) := by decide +kernel
theorem dX5_key_54 : decode cX5_key 54 = .ok (.aload_n 0, 1) := by decide +kernel
theorem dX5_key_55 : decode cX5_key 55 = .ok (.getfield 22, 3) := by decide +kernel
theorem dX5_key_58 : decode cX5_key 58 = .ok (.i2l, 1) := by decide +kernel
theorem dX5_key_59 : decode cX5_key 59 = .ok (.lor, 1) := by decide +kernel
theorem dX5_key_60 : decode cX5_key 60 = .ok (.lreturn, 1) := by decide +kernel
theorem dX5_restore_0 : decode cX5_restore 0 = .ok (.aload_n 0, 1) := by decide +kernel
theorem dX5_restore_1 : decode cX5_restore 1 = .ok (.lload_n 1, 1) := by decide +kernel
theorem dX5_restore_2 : decode cX5_restore 2 = .ok (.ldc2_w 78, 3) := by decide +kernel
theorem dX5_restore_5 : decode cX5_restore 5 = .ok (.land, 1) := by decide +kernel
theorem dX5_restore_6 : decode cX5_restore 6 = .ok (.l2i, 1) := by decide +kernel
theorem dX5_restore_7 : decode cX5_restore 7 = .ok (.putfield 22, 3) := by decide +kernel
theorem dX5_restore_10 : decode cX5_restore 10 = .ok (.aload_n 0, 1) := by decide +kernel
theorem dX5_restore_11 : decode cX5_restore 11 = .ok (.lload_n 1, 1) := by decide +kernel
theorem dX5_restore_12 : decode cX5_restore 12 = .ok (.iconst 4, 1) := by decide +kernel
theorem dX5_restore_13 : decode cX5_restore 13 = .ok (.lshr, 1) := by decide +kernel
theorem dX5_restore_14 : decode cX5_restore 14 = .ok (.ldc2_w 78, 3) := by decide +kernel
theorem dX5_restore_17 : decode cX5_restore 17 = .ok (.land, 1) := by decide +kernel
theorem dX5_restore_18 : decode cX5_restore 18 = .ok (.l2i, 1) := by decide +kernel
theorem dX5_restore_19 : decode cX5_restore 19 = .ok (.iconst 1, 1) := by decide +kernel
theorem dX5_restore_20 : decode cX5_restore 20 = .ok (.isub, 1) := by decide +kernel
theorem dX5_restore_21 : decode cX5_restore 21 = .ok (.putfield 26, 3) := by decide +kernel
theorem dX5_restore_24 : decode cX5_restore 24 = .ok (.aload_n 0, 1) := by decide +kernel
theorem dX5_restore_25 : decode cX5_restore 25 = .ok (.lload_n 1, 1) := by decide +kernel
theorem dX5_restore_26 : decode cX5_restore 26 = .ok (.bipush 8, 2) := by decide +kernel
theorem dX5_restore_28 : decode cX5_restore 28 = .ok (.lshr, 1) := by decide +kernel
theorem dX5_restore_29 : decode cX5_restore 29 = .ok (.ldc2_w 80, 3) := by decide +kernel
theorem dX5_restore_32 : decode cX5_restore 32 = .ok (.land, 1) := by decide +kernel
theorem dX5_restore_33 : decode cX5_restore 33 = .ok (.l2i, 1) := by decide +kernel
theorem dX5_restore_34 : decode cX5_restore 34 = .ok (.putfield 35, 3) := by decide +kernel
theorem dX5_restore_37 : decode cX5_restore 37 = .ok (.aload_n 0, 1) := by decide +kernel
theorem dX5_restore_38 : decode cX5_restore 38 = .ok (.lload_n 1, 1) := by decide +kernel
theorem dX5_restore_39 : decode cX5_restore 39 = .ok (.bipush 14, 2) := by decide +kernel
theorem dX5_restore_41 : decode cX5_restore 41 = .ok (.lshr, 1) := by decide +kernel
theorem dX5_restore_42 : decode cX5_restore 42 = .ok (.ldc2_w 82, 3) := by decide +kernel
theorem dX5_restore_45 : decode cX5_restore 45 = .ok (.land, 1) := by decide +kernel
theorem dX5_restore_46 : decode cX5_restore 46 = .ok (.l2i, 1) := by decide +kernel
theorem dX5_restore_47 : decode cX5_restore 47 = .ok (.putfield 38, 3) := by decide +kernel
theorem dX5_restore_50 : decode cX5_restore 50 = .ok (.aload_n 0, 1) := by decide +kernel
theorem dX5_restore_51 : decode cX5_restore 51 = .ok (.lload_n 1, 1) := by decide +kernel
theorem dX5_restore_52 : decode cX5_restore 52 = .ok (.bipush 26, 2) := by decide +kernel
theorem dX5_restore_54 : decode cX5_restore 54 = .ok (.lshr, 1) := by decide +kernel
theorem dX5_restore_55 : decode cX5_restore 55 = .ok (.ldc2_w 84, 3) := by decide +kernel
theorem dX5_restore_58 : decode cX5_restore 58 = .ok (.land, 1) := by decide +kernel
theorem dX5_restore_59 : decode cX5_restore 59 = .ok (.l2i, 1) := by decide +kernel
theorem dX5_restore_60 : decode cX5_restore 60 = .ok (.putfield 41, 3) := by decide +kernel
theorem dX5_restore_63 : decode cX5_restore 63 = .ok (.aload_n 0, 1) := by decide +kernel
theorem dX5_restore_64 : decode cX5_restore 64 = .ok (.lload_n 1, 1) := by decide +kernel
theorem dX5_restore_65 : decode cX5_restore 65 = .ok (.bipush 42, 2) := by decide +kernel
theorem dX5_restore_67 : decode cX5_restore 67 = .ok (.lshr, 1) := by decide +kernel
theorem dX5_restore_68 : decode cX5_restore 68 = .ok (.ldc2_w 84, 3) := by decide +kernel
theorem dX5_restore_71 : decode cX5_restore 71 = .ok (.land, 1) := by decide +kernel
theorem dX5_restore_72 : decode cX5_restore 72 = .ok (.l2i, 1) := by decide +kernel
theorem dX5_restore_73 : decode cX5_restore 73 = .ok (.putfield 44, 3) := by decide +kernel
theorem dX5_restore_76 : decode cX5_restore 76 = .ok (.aload_n 0, 1) := by decide +kernel
theorem dX5_restore_77 : decode cX5_restore 77 = .ok (.iconst 1, 1) := by decide +kernel
theorem dX5_restore_78 : decode cX5_restore 78 = .ok (.putfield 29, 3) := by decide +kernel
theorem dX5_restore_81 : decode cX5_restore 81 = .ok (.return_, 1) := by decide +kernel
theorem dX2_forget_0 : decode cX2_forget 0 = .ok (.aload_n 0, 1) := by decide +kernel
theorem dX2_forget_1 : decode cX2_forget 1 = .ok (.iconst 0, 1) := by decide +kernel
theorem dX2_forget_2 : decode cX2_forget 2 = .ok (.putfield 22, 3) := by decide +kernel
theorem dX2_forget_5 : decode cX2_forget 5 = .ok (.return_, 1) := by decide +kernel
theorem dX2_keep_0 : decode cX2_keep 0 = .ok (.aload_n 0, 1) := by decide +kernel
theorem dX2_keep_1 : decode cX2_keep 1 = .ok (.getfield 26, 3) := by decide +kernel
theorem dX2_keep_4 : decode cX2_keep 4 = .ok (.bipush 12, 2) := by decide +kernel
theorem dX2_keep_6 : decode cX2_keep 6 = .ok (.invokestatic 29, 3) := by decide +kernel
theorem dX2_keep_9 : decode cX2_keep 9 = .ok (.istore_n 2, 1) := by decide +kernel
theorem dX2_keep_10 : decode cX2_keep 10 = .ok (.aload_n 0, 1) := by decide +kernel
theorem dX2_keep_11 : decode cX2_keep 11 = .ok (.getfield 9, 3) := by decide +kernel
theorem dX2_keep_14 : decode cX2_keep 14 = .ok (.iload_n 2, 1) := by decide +kernel
theorem dX2_keep_15 : decode cX2_keep 15 = .ok (.aload_n 1, 1) := by decide +kernel
theorem dX2_keep_16 : decode cX2_keep 16 = .ok (.invokevirtual 35, 3) := by decide +kernel
theorem dX2_keep_19 : decode cX2_keep 19 = .ok (.lastore, 1) := by decide +kernel
theorem dX2_keep_20 : decode cX2_keep 20 = .ok (.aload_n 0, 1) := by decide +kernel
theorem dX2_keep_21 : decode cX2_keep 21 = .ok (.getfield 15, 3) := by decide +kernel
theorem dX2_keep_24 : decode cX2_keep 24 = .ok (.iload_n 2, 1) := by decide +kernel
theorem dX2_keep_25 : decode cX2_keep 25 = .ok (.aload_n 1, 1) := by decide +kernel
theorem dX2_keep_26 : decode cX2_keep 26 = .ok (.getfield 41, 3) := by decide +kernel
theorem dX2_keep_29 : decode cX2_keep 29 = .ok (.getfield 44, 3) := by decide +kernel
theorem dX2_keep_32 : decode cX2_keep 32 = .ok (.iastore, 1) := by decide +kernel
theorem dX2_keep_33 : decode cX2_keep 33 = .ok (.aload_n 1, 1) := by decide +kernel
theorem dX2_keep_34 : decode cX2_keep 34 = .ok (.getfield 41, 3) := by decide +kernel
theorem dX2_keep_37 : decode cX2_keep 37 = .ok (.getfield 49, 3) := by decide +kernel
theorem dX2_keep_40 : decode cX2_keep 40 = .ok (.iconst 0, 1) := by decide +kernel
theorem dX2_keep_41 : decode cX2_keep 41 = .ok (.aload_n 0, 1) := by decide +kernel
theorem dX2_keep_42 : decode cX2_keep 42 = .ok (.getfield 19, 3) := by decide +kernel
theorem dX2_keep_45 : decode cX2_keep 45 = .ok (.iload_n 2, 1) := by decide +kernel
theorem dX2_keep_46 : decode cX2_keep 46 = .ok (.bipush 20, 2) := by decide +kernel
theorem dX2_keep_48 : decode cX2_keep 48 = .ok (.imul, 1) := by decide +kernel
theorem dX2_keep_49 : decode cX2_keep 49 = .ok (.bipush 20, 2) := by decide +kernel
theorem dX2_keep_51 : decode cX2_keep 51 = .ok (.invokestatic 52, 3) := by decide +kernel
theorem dX2_keep_54 : decode cX2_keep 54 = .ok (.aload_n 0, 1) := by decide +kernel
theorem dX2_keep_55 : decode cX2_keep 55 = .ok (.iload_n 2, 1) := by decide +kernel
theorem dX2_keep_56 : decode cX2_keep 56 = .ok (.iconst 1, 1) := by decide +kernel
theorem dX2_keep_57 : decode cX2_keep 57 = .ok (.iadd, 1) := by decide +kernel
theorem dX2_keep_58 : decode cX2_keep 58 = .ok (.putfield 26, 3) := by decide +kernel
theorem dX2_keep_61 : decode cX2_keep 61 = .ok (.aload_n 0, 1) := by decide +kernel
theorem dX2_keep_62 : decode cX2_keep 62 = .ok (.aload_n 0, 1) := by decide +kernel
theorem dX2_keep_63 : decode cX2_keep 63 = .ok (.getfield 22, 3) := by decide +kernel
theorem dX2_keep_66 : decode cX2_keep 66 = .ok (.iconst 1, 1) := by decide +kernel
theorem dX2_keep_67 : decode cX2_keep 67 = .ok (.iadd, 1) := by decide +kernel
theorem dX2_keep_68 : decode cX2_keep 68 = .ok (.bipush 12, 2) := by decide +kernel
theorem dX2_keep_70 : decode cX2_keep 70 = .ok (.invokestatic 58, 3) := by decide +kernel
theorem dX2_keep_73 : decode cX2_keep 73 = .ok (.putfield 22, 3) := by decide +kernel
theorem dX2_keep_76 : decode cX2_keep 76 = .ok (.return_, 1) := by decide +kernel
theorem dX2_restore_0 : decode cX2_restore 0 = .ok (.aload_n 0, 1) := by decide +kernel
theorem dX2_restore_1 : decode cX2_restore 1 = .ok (.getfield 26, 3) := by decide +kernel
theorem dX2_restore_4 : decode cX2_restore 4 = .ok (.iconst 1, 1) := by decide +kernel
theorem dX2_restore_5 : decode cX2_restore 5 = .ok (.isub, 1) := by decide +kernel
theorem dX2_restore_6 : decode cX2_restore 6 = .ok (.bipush 12, 2) := by decide +kernel
theorem dX2_restore_8 : decode cX2_restore 8 = .ok (.invokestatic 29, 3) := by decide +kernel
theorem dX2_restore_11 : decode cX2_restore 11 = .ok (.istore_n 2, 1) := by decide +kernel
theorem dX2_restore_12 : decode cX2_restore 12 = .ok (.aload_n 1, 1) := by decide +kernel
theorem dX2_restore_13 : decode cX2_restore 13 = .ok (.aload_n 0, 1) := by decide +kernel
theorem dX2_restore_14 : decode cX2_restore 14 = .ok (.getfield 9, 3) := by decide +kernel
theorem dX2_restore_17 : decode cX2_restore 17 = .ok (.iload_n 2, 1) := by decide +kernel
theorem dX2_restore_18 : decode cX2_restore 18 = .ok (.laload, 1) := by decide +kernel
theorem dX2_restore_19 : decode cX2_restore 19 = .ok (.invokevirtual 61, 3) := by decide +kernel
theorem dX2_restore_22 : decode cX2_restore 22 = .ok (.aload_n 1, 1) := by decide +kernel
theorem dX2_restore_23 : decode cX2_restore 23 = .ok (.getfield 41, 3) := by decide +kernel
theorem dX2_restore_26 : decode cX2_restore 26 = .ok (.aload_n 0, 1) := by decide +kernel
theorem dX2_restore_27 : decode cX2_restore 27 = .ok (.getfield 15, 3) := by decide +kernel
theorem dX2_restore_30 : decode cX2_restore 30 = .ok (.iload_n 2, 1) := by decide +kernel
theorem dX2_restore_31 : decode cX2_restore 31 = .ok (.iaload, 1) := by decide +kernel
theorem dX2_restore_32 : decode cX2_restore 32 = .ok (.putfield 44, 3) := by decide +kernel
theorem dX2_restore_35 : decode cX2_restore 35 = .ok (.aload_n 0, 1) := by decide +kernel
theorem dX2_restore_36 : decode cX2_restore 36 = .ok (.getfield 19, 3) := by decide +kernel
theorem dX2_restore_39 : decode cX2_restore 39 = .ok (.iload_n 2, 1) := by decide +kernel
theorem dX2_restore_40 : decode cX2_restore 40 = .ok (.bipush 20, 2) := by decide +kernel
theorem dX2_restore_42 : decode cX2_restore 42 = .ok (.imul, 1) := by decide +kernel
theorem dX2_restore_43 : decode cX2_restore 43 = .ok (.aload_n 1, 1) := by decide +kernel
theorem dX2_restore_44 : decode cX2_restore 44 = .ok (.getfield 41, 3) := by decide +kernel
theorem dX2_restore_47 : decode cX2_restore 47 = .ok (.getfield 49, 3) := by decide +kernel
theorem dX2_restore_50 : decode cX2_restore 50 = .ok (.iconst 0, 1) := by decide +kernel
theorem dX2_restore_51 : decode cX2_restore 51 = .ok (.bipush 20, 2) := by decide +kernel
theorem dX2_restore_53 : decode cX2_restore 53 = .ok (.invokestatic 52, 3) := by decide +kernel
theorem dX2_restore_56 : decode cX2_restore 56 = .ok (.aload_n 0, 1) := by decide +kernel
theorem dX2_restore_57 : decode cX2_restore 57 = .ok (.iload_n 2, 1) := by decide +kernel
theorem dX2_restore_58 : decode cX2_restore 58 = .ok (.putfield 26, 3) := by decide +kernel
theorem dX2_restore_61 : decode cX2_restore 61 = .ok (.aload_n 0, 1) := by decide +kernel
theorem dX2_restore_62 : decode cX2_restore 62 = .ok (.aload_n 0, 1) := by decide +kernel
theorem dX2_restore_63 : decode cX2_restore 63 = .ok (.getfield 22, 3) := by decide +kernel
theorem dX2_restore_66 : decode cX2_restore 66 = .ok (.iconst 1, 1) := by decide +kernel
theorem dX2_restore_67 : decode cX2_restore 67 = .ok (.isub, 1) := by decide +kernel
theorem dX2_restore_68 : decode cX2_restore 68 = .ok (.iconst 0, 1) := by decide +kernel
theorem dX2_restore_69 : decode cX2_restore 69 = .ok (.invokestatic 65, 3) := by decide +kernel
theorem dX2_restore_72 : decode cX2_restore 72 = .ok (.putfield 22, 3) := by decide +kernel
theorem dX2_restore_75 : decode cX2_restore 75 = .ok (.return_, 1) := by decide +kernel
theorem dX1_forget_0 : decode cX1_forget 0 = .ok (.aload_n 0, 1) := by decide +kernel
theorem dX1_forget_1 : decode cX1_forget 1 = .ok (.getfield 42, 3) := by decide +kernel
theorem dX1_forget_4 : decode cX1_forget 4 = .ok (.aload_n 1, 1) := by decide +kernel
theorem dX1_forget_5 : decode cX1_forget 5 = .ok (.invokevirtual 46, 3) := by decide +kernel
theorem dX1_forget_8 : decode cX1_forget 8 = .ok (.aload_n 0, 1) := by decide +kernel
theorem dX1_forget_9 : decode cX1_forget 9 = .ok (.iconst 0, 1) := by decide +kernel
theorem dX1_forget_10 : decode cX1_forget 10 = .ok (.putfield 49, 3) := by decide +kernel
theorem dX1_forget_13 : decode cX1_forget 13 = .ok (.aload_n 0, 1) := by decide +kernel
theorem dX1_forget_14 : decode cX1_forget 14 = .ok (.iconst 1, 1) := by decide +kernel
theorem dX1_forget_15 : decode cX1_forget 15 = .ok (.putfield 53, 3) := by decide +kernel
theorem dX1_forget_18 : decode cX1_forget 18 = .ok (.aload_n 0, 1) := by decide +kernel
theorem dX1_forget_19 : decode cX1_forget 19 = .ok (.iconst 0, 1) := by decide +kernel
theorem dX1_forget_20 : decode cX1_forget 20 = .ok (.putfield 56, 3) := by decide +kernel
theorem dX1_forget_23 : decode cX1_forget 23 = .ok (.aload_n 0, 1) := by decide +kernel
theorem dX1_forget_24 : decode cX1_forget 24 = .ok (.iconst 0, 1) := by decide +kernel
theorem dX1_forget_25 : decode cX1_forget 25 = .ok (.putfield 60, 3) := by decide +kernel
theorem dX1_forget_28 : decode cX1_forget 28 = .ok (.aload_n 0, 1) := by decide +kernel
theorem dX1_forget_29 : decode cX1_forget 29 = .ok (.getfield 25, 3) := by decide +kernel
theorem dX1_forget_32 : decode cX1_forget 32 = .ok (.iconst 0, 1) := by decide +kernel
theorem dX1_forget_33 : decode cX1_forget 33 = .ok (.invokestatic 63, 3) := by decide +kernel
theorem dX1_forget_36 : decode cX1_forget 36 = .ok (.aload_n 0, 1) := by decide +kernel
theorem dX1_forget_37 : decode cX1_forget 37 = .ok (.getfield 34, 3) := by decide +kernel
theorem dX1_forget_40 : decode cX1_forget 40 = .ok (.iconst (-1), 1) := by decide +kernel
theorem dX1_forget_41 : decode cX1_forget 41 = .ok (.invokestatic 63, 3) := by decide +kernel
theorem dX1_forget_44 : decode cX1_forget 44 = .ok (.return_, 1) := by decide +kernel
theorem dX1_wasFound_0 : decode cX1_wasFound 0 = .ok (.iconst 0, 1) := by decide +kernel
theorem dX1_wasFound_1 : decode cX1_wasFound 1 = .ok (.istore_n 3, 1) := by decide +kernel
theorem dX1_wasFound_2 : decode cX1_wasFound 2 = .ok (.iload_n 3, 1) := by decide +kernel
theorem dX1_wasFound_3 : decode cX1_wasFound 3 = .ok (.sipush 300, 3) := by decide +kernel
theorem dX1_wasFound_6 : decode cX1_wasFound 6 = .ok (.if_icmp .ge 30, 3) := by decide +kernel
theorem dX1_wasFound_9 : decode cX1_wasFound 9 = .ok (.iload_n 3, 1) := by decide +kernel
theorem dX1_wasFound_10 : decode cX1_wasFound 10 = .ok (.aload_n 0, 1) := by decide +kernel
theorem dX1_wasFound_11 : decode cX1_wasFound 11 = .ok (.getfield 60, 3) := by decide +kernel
theorem dX1_wasFound_14 : decode cX1_wasFound 14 = .ok (.if_icmp .ge 22, 3) := by decide +kernel
theorem dX1_wasFound_17 : decode cX1_wasFound 17 = .ok (.aload_n 0, 1) := by decide +kernel
theorem dX1_wasFound_18 : decode cX1_wasFound 18 = .ok (.getfield 9, 3) := by decide +kernel
theorem dX1_wasFound_21 : decode cX1_wasFound 21 = .ok (.iload_n 3, 1) := by decide +kernel
theorem dX1_wasFound_22 : decode cX1_wasFound 22 = .ok (.laload, 1) := by decide +kernel
theorem dX1_wasFound_23 : decode cX1_wasFound 23 = .ok (.lload_n 1, 1) := by decide +kernel
theorem dX1_wasFound_24 : decode cX1_wasFound 24 = .ok (.lcmp, 1) := by decide +kernel
theorem dX1_wasFound_25 : decode cX1_wasFound 25 = .ok (.ifCond .ne 5, 3) := by decide +kernel
theorem dX1_wasFound_28 : decode cX1_wasFound 28 = .ok (.iconst 1, 1) := by decide +kernel
theorem dX1_wasFound_29 : decode cX1_wasFound 29 = .ok (.ireturn, 1) := by decide +kernel
theorem dX1_wasFound_30 : decode cX1_wasFound 30 = .ok (.iinc 3 1, 3) := by decide +kernel
theorem dX1_wasFound_33 : decode cX1_wasFound 33 = .ok (.goto (-31), 3) := by decide +kernel
theorem dX1_wasFound_36 : decode cX1_wasFound 36 = .ok (.iconst 0, 1) := by decide +kernel
theorem dX1_wasFound_37 : decode cX1_wasFound 37 = .ok (.ireturn, 1) := by decide +kernel
theorem dX1_lengthBehind_0 : decode cX1_lengthBehind 0 = .ok (.iload_n 1, 1) := by decide +kernel
theorem dX1_lengthBehind_1 : decode cX1_lengthBehind 1 = .ok (.iconst (-1), 1) := by decide +kernel
theorem dX1_lengthBehind_2 : decode cX1_lengthBehind 2 = .ok (.if_icmp .ne 7, 3) := by decide +kernel
theorem dX1_lengthBehind_5 : decode cX1_lengthBehind 5 = .ok (.iconst 0, 1) := by decide +kernel
theorem dX1_lengthBehind_6 : decode cX1_lengthBehind 6 = .ok (.goto 13, 3) := by decide +kernel
theorem dX1_lengthBehind_9 : decode cX1_lengthBehind 9 = .ok (.aload_n 0, 1) := by decide +kernel
theorem dX1_lengthBehind_10 : decode cX1_lengthBehind 10 = .ok (.getfield 22, 3) := by decide +kernel
theorem dX1_lengthBehind_13 : decode cX1_lengthBehind 13 = .ok (.iload_n 1, 1) := by decide +kernel
theorem dX1_lengthBehind_14 : decode cX1_lengthBehind 14 = .ok (.invokestatic 127, 3) := by decide +kernel
theorem dX1_lengthBehind_17 : decode cX1_lengthBehind 17 = .ok (.iconst 1, 1) := by decide +kernel
theorem dX1_lengthBehind_18 : decode cX1_lengthBehind 18 = .ok (.iadd, 1) := by decide +kernel
theorem dX1_lengthBehind_19 : decode cX1_lengthBehind 19 = .ok (.ireturn, 1) := by decide +kernel
theorem dX1_noteWaiting_0 : decode cX1_noteWaiting 0 = .ok (.aload_n 0, 1) := by decide +kernel
theorem dX1_noteWaiting_1 : decode cX1_noteWaiting 1 = .ok (.getfield 42, 3) := by decide +kernel
theorem dX1_noteWaiting_4 : decode cX1_noteWaiting 4 = .ok (.invokevirtual 116, 3) := by decide +kernel
theorem dX1_noteWaiting_7 : decode cX1_noteWaiting 7 = .ok (.lstore_n 3, 1) := by decide +kernel
theorem dX1_noteWaiting_8 : decode cX1_noteWaiting 8 = .ok (.aload_n 0, 1) := by decide +kernel
theorem dX1_noteWaiting_9 : decode cX1_noteWaiting 9 = .ok (.lload_n 3, 1) := by decide +kernel
theorem dX1_noteWaiting_10 : decode cX1_noteWaiting 10 = .ok (.invokevirtual 120, 3) := by decide +kernel
theorem dX1_noteWaiting_13 : decode cX1_noteWaiting 13 = .ok (.ifCond .eq 4, 3) := by decide +kernel
theorem dX1_noteWaiting_16 : decode cX1_noteWaiting 16 = .ok (.return_, 1) := by decide +kernel
theorem dX1_noteWaiting_17 : decode cX1_noteWaiting 17 = .ok (.aload_n 0, 1) := by decide +kernel
theorem dX1_noteWaiting_18 : decode cX1_noteWaiting 18 = .ok (.getfield 60, 3) := by decide +kernel
theorem dX1_noteWaiting_21 : decode cX1_noteWaiting 21 = .ok (.ifCond .lt 14, 3) := by decide +kernel
theorem dX1_noteWaiting_24 : decode cX1_noteWaiting 24 = .ok (.aload_n 0, 1) := by decide +kernel
theorem dX1_noteWaiting_25 : decode cX1_noteWaiting 25 = .ok (.getfield 60, 3) := by decide +kernel
theorem dX1_noteWaiting_28 : decode cX1_noteWaiting 28 = .ok (.aload_n 0, 1) := by decide +kernel
theorem dX1_noteWaiting_29 : decode cX1_noteWaiting 29 = .ok (.getfield 76, 3) := by decide +kernel
theorem dX1_noteWaiting_32 : decode cX1_noteWaiting 32 = .ok (.if_icmp .lt 9, 3) := by decide +kernel
theorem dX1_noteWaiting_35 : decode cX1_noteWaiting 35 = .ok (.aload_n 0, 1) := by decide +kernel
theorem dX1_noteWaiting_36 : decode cX1_noteWaiting 36 = .ok (.iconst 0, 1) := by decide +kernel
theorem dX1_noteWaiting_37 : decode cX1_noteWaiting 37 = .ok (.putfield 53, 3) := by decide +kernel
theorem dX1_noteWaiting_40 : decode cX1_noteWaiting 40 = .ok (.return_, 1) := by decide +kernel
theorem dX1_noteWaiting_41 : decode cX1_noteWaiting 41 = .ok (.aload_n 0, 1) := by decide +kernel
theorem dX1_noteWaiting_42 : decode cX1_noteWaiting 42 = .ok (.getfield 9, 3) := by decide +kernel
theorem dX1_noteWaiting_45 : decode cX1_noteWaiting 45 = .ok (.aload_n 0, 1) := by decide +kernel
theorem dX1_noteWaiting_46 : decode cX1_noteWaiting 46 = .ok (.getfield 60, 3) := by decide +kernel
theorem dX1_noteWaiting_49 : decode cX1_noteWaiting 49 = .ok (.lload_n 3, 1) := by decide +kernel
theorem dX1_noteWaiting_50 : decode cX1_noteWaiting 50 = .ok (.lastore, 1) := by decide +kernel
theorem dX1_noteWaiting_51 : decode cX1_noteWaiting 51 = .ok (.aload_n 0, 1) := by decide +kernel
theorem dX1_noteWaiting_52 : decode cX1_noteWaiting 52 = .ok (.getfield 15, 3) := by decide +kernel
theorem dX1_noteWaiting_55 : decode cX1_noteWaiting 55 = .ok (.aload_n 0, 1) := by decide +kernel
theorem dX1_noteWaiting_56 : decode cX1_noteWaiting 56 = .ok (.getfield 60, 3) := by decide +kernel
theorem dX1_noteWaiting_59 : decode cX1_noteWaiting 59 = .ok (.iload_n 1, 1) := by decide +kernel
theorem dX1_noteWaiting_60 : decode cX1_noteWaiting 60 = .ok (.iastore, 1) := by decide +kernel
theorem dX1_noteWaiting_61 : decode cX1_noteWaiting 61 = .ok (.aload_n 0, 1) := by decide +kernel
theorem dX1_noteWaiting_62 : decode cX1_noteWaiting 62 = .ok (.getfield 19, 3) := by decide +kernel
theorem dX1_noteWaiting_65 : decode cX1_noteWaiting 65 = .ok (.aload_n 0, 1) := by decide +kernel
theorem dX1_noteWaiting_66 : decode cX1_noteWaiting 66 = .ok (.getfield 60, 3) := by decide +kernel
theorem dX1_noteWaiting_69 : decode cX1_noteWaiting 69 = .ok (.iload_n 2, 1) := by decide +kernel
theorem dX1_noteWaiting_70 : decode cX1_noteWaiting 70 = .ok (.iastore, 1) := by decide +kernel
theorem dX1_noteWaiting_71 : decode cX1_noteWaiting 71 = .ok (.aload_n 0, 1) := by decide +kernel
theorem dX1_noteWaiting_72 : decode cX1_noteWaiting 72 = .ok (.getfield 22, 3) := by decide +kernel
theorem dX1_noteWaiting_75 : decode cX1_noteWaiting 75 = .ok (.aload_n 0, 1) := by decide +kernel
theorem dX1_noteWaiting_76 : decode cX1_noteWaiting 76 = .ok (.getfield 60, 3) := by decide +kernel
theorem dX1_noteWaiting_79 : decode cX1_noteWaiting 79 = .ok (.aload_n 0, 1) := by decide +kernel
theorem dX1_noteWaiting_80 : decode cX1_noteWaiting 80 = .ok (.iload_n 1, 1) := by decide +kernel
theorem dX1_noteWaiting_81 : decode cX1_noteWaiting 81 = .ok (.invokevirtual 124, 3) := by decide +kernel
theorem dX1_noteWaiting_84 : decode cX1_noteWaiting 84 = .ok (.iastore, 1) := by decide +kernel
theorem dX1_noteWaiting_85 : decode cX1_noteWaiting 85 = .ok (.aload_n 0, 1) := by decide +kernel
theorem dX1_noteWaiting_86 : decode cX1_noteWaiting 86 = .ok (.dup, 1) := by decide +kernel
theorem dX1_noteWaiting_87 : decode cX1_noteWaiting 87 = .ok (.getfield 60, 3) := by decide +kernel
theorem dX1_noteWaiting_90 : decode cX1_noteWaiting 90 = .ok (.iconst 1, 1) := by decide +kernel
theorem dX1_noteWaiting_91 : decode cX1_noteWaiting 91 = .ok (.iadd, 1) := by decide +kernel
theorem dX1_noteWaiting_92 : decode cX1_noteWaiting 92 = .ok (.putfield 60, 3) := by decide +kernel
theorem dX1_noteWaiting_95 : decode cX1_noteWaiting 95 = .ok (.return_, 1) := by decide +kernel
theorem dX1_noteOutcome_0 : decode cX1_noteOutcome 0 = .ok (.iload_n 1, 1) := by decide +kernel
theorem dX1_noteOutcome_1 : decode cX1_noteOutcome 1 = .ok (.ifCond .lt 9, 3) := by decide +kernel
theorem dX1_noteOutcome_4 : decode cX1_noteOutcome 4 = .ok (.iload_n 1, 1) := by decide +kernel
theorem dX1_noteOutcome_5 : decode cX1_noteOutcome 5 = .ok (.bipush 12, 2) := by decide +kernel
theorem dX1_noteOutcome_7 : decode cX1_noteOutcome 7 = .ok (.if_icmp .lt 4, 3) := by decide +kernel
theorem dX1_noteOutcome_10 : decode cX1_noteOutcome 10 = .ok (.return_, 1) := by decide +kernel
theorem dX1_noteOutcome_11 : decode cX1_noteOutcome 11 = .ok (.aload_n 0, 1) := by decide +kernel
theorem dX1_noteOutcome_12 : decode cX1_noteOutcome 12 = .ok (.getfield 25, 3) := by decide +kernel
theorem dX1_noteOutcome_15 : decode cX1_noteOutcome 15 = .ok (.iload_n 1, 1) := by decide +kernel
theorem dX1_noteOutcome_16 : decode cX1_noteOutcome 16 = .ok (.dup2, 1) := by decide +kernel
theorem dX1_noteOutcome_17 : decode cX1_noteOutcome 17 = .ok (.iaload, 1) := by decide +kernel
theorem dX1_noteOutcome_18 : decode cX1_noteOutcome 18 = .ok (.iconst 1, 1) := by decide +kernel
theorem dX1_noteOutcome_19 : decode cX1_noteOutcome 19 = .ok (.iadd, 1) := by decide +kernel
theorem dX1_noteOutcome_20 : decode cX1_noteOutcome 20 = .ok (.iastore, 1) := by decide +kernel
theorem dX1_noteOutcome_21 : decode cX1_noteOutcome 21 = .ok (.aload_n 0, 1) := by decide +kernel
theorem dX1_noteOutcome_22 : decode cX1_noteOutcome 22 = .ok (.getfield 34, 3) := by decide +kernel
theorem dX1_noteOutcome_25 : decode cX1_noteOutcome 25 = .ok (.iload_n 1, 1) := by decide +kernel
theorem dX1_noteOutcome_26 : decode cX1_noteOutcome 26 = .ok (.iaload, 1) := by decide +kernel
theorem dX1_noteOutcome_27 : decode cX1_noteOutcome 27 = .ok (.iconst (-1), 1) := by decide +kernel
theorem dX1_noteOutcome_28 : decode cX1_noteOutcome 28 = .ok (.if_icmp .ne 28, 3) := by decide +kernel
theorem dX1_noteOutcome_31 : decode cX1_noteOutcome 31 = .ok (.aload_n 0, 1) := by decide +kernel
theorem dX1_noteOutcome_32 : decode cX1_noteOutcome 32 = .ok (.getfield 28, 3) := by decide +kernel
theorem dX1_noteOutcome_35 : decode cX1_noteOutcome 35 = .ok (.iload_n 1, 1) := by decide +kernel
theorem dX1_noteOutcome_36 : decode cX1_noteOutcome 36 = .ok (.iload_n 2, 1) := by decide +kernel
theorem dX1_noteOutcome_37 : decode cX1_noteOutcome 37 = .ok (.iastore, 1) := by decide +kernel
theorem dX1_noteOutcome_38 : decode cX1_noteOutcome 38 = .ok (.aload_n 0, 1) := by decide +kernel
theorem dX1_noteOutcome_39 : decode cX1_noteOutcome 39 = .ok (.getfield 31, 3) := by decide +kernel
theorem dX1_noteOutcome_42 : decode cX1_noteOutcome 42 = .ok (.iload_n 1, 1) := by decide +kernel
theorem dX1_noteOutcome_43 : decode cX1_noteOutcome 43 = .ok (.iload_n 3, 1) := by decide +kernel
theorem dX1_noteOutcome_44 : decode cX1_noteOutcome 44 = .ok (.iastore, 1) := by decide +kernel
theorem dX1_noteOutcome_45 : decode cX1_noteOutcome 45 = .ok (.aload_n 0, 1) := by decide +kernel
theorem dX1_noteOutcome_46 : decode cX1_noteOutcome 46 = .ok (.getfield 34, 3) := by decide +kernel
theorem dX1_noteOutcome_49 : decode cX1_noteOutcome 49 = .ok (.iload_n 1, 1) := by decide +kernel
theorem dX1_noteOutcome_50 : decode cX1_noteOutcome 50 = .ok (.aload_n 0, 1) := by decide +kernel
theorem dX1_noteOutcome_51 : decode cX1_noteOutcome 51 = .ok (.iload_n 2, 1) := by decide +kernel
theorem dX1_noteOutcome_52 : decode cX1_noteOutcome 52 = .ok (.invokevirtual 124, 3) := by decide +kernel
theorem dX1_noteOutcome_55 : decode cX1_noteOutcome 55 = .ok (.iastore, 1) := by decide +kernel
theorem dX1_noteOutcome_56 : decode cX1_noteOutcome 56 = .ok (.return_, 1) := by decide +kernel
theorem dX1_note_0 : decode cX1_note 0 = .ok (.aload_n 0, 1) := by decide +kernel
theorem dX1_note_1 : decode cX1_note 1 = .ok (.getfield 42, 3) := by decide +kernel
theorem dX1_note_4 : decode cX1_note 4 = .ok (.getfield 103, 3) := by decide +kernel
theorem dX1_note_7 : decode cX1_note 7 = .ok (.tableswitch 77 1 3 #[25, 50, 66], 25) := by decide +kernel
theorem dX1_note_32 : decode cX1_note 32 = .ok (.aload_n 0, 1) := by decide +kernel
theorem dX1_note_33 : decode cX1_note 33 = .ok (.dup, 1) := by decide +kernel
theorem dX1_note_34 : decode cX1_note 34 = .ok (.getfield 56, 3) := by decide +kernel
theorem dX1_note_37 : decode cX1_note 37 = .ok (.aload_n 0, 1) := by decide +kernel
theorem dX1_note_38 : decode cX1_note 38 = .ok (.getfield 42, 3) := by decide +kernel
theorem dX1_note_41 : decode cX1_note 41 = .ok (.getfield 90, 3) := by decide +kernel
theorem dX1_note_44 : decode cX1_note 44 = .ok (.ior, 1) := by decide +kernel
theorem dX1_note_45 : decode cX1_note 45 = .ok (.putfield 56, 3) := by decide +kernel
theorem dX1_note_48 : decode cX1_note 48 = .ok (.aload_n 0, 1) := by decide +kernel
theorem dX1_note_49 : decode cX1_note 49 = .ok (.iload_n 1, 1) := by decide +kernel
theorem dX1_note_50 : decode cX1_note 50 = .ok (.iload_n 2, 1) := by decide +kernel
theorem dX1_note_51 : decode cX1_note 51 = .ok (.invokevirtual 106, 3) := by decide +kernel
theorem dX1_note_54 : decode cX1_note 54 = .ok (.goto 38, 3) := by decide +kernel
theorem dX1_note_57 : decode cX1_note 57 = .ok (.aload_n 0, 1) := by decide +kernel
theorem dX1_note_58 : decode cX1_note 58 = .ok (.aload_n 0, 1) := by decide +kernel
theorem dX1_note_59 : decode cX1_note 59 = .ok (.getfield 42, 3) := by decide +kernel
theorem dX1_note_62 : decode cX1_note 62 = .ok (.getfield 109, 3) := by decide +kernel
theorem dX1_note_65 : decode cX1_note 65 = .ok (.iload_n 1, 1) := by decide +kernel
theorem dX1_note_66 : decode cX1_note 66 = .ok (.iload_n 2, 1) := by decide +kernel
theorem dX1_note_67 : decode cX1_note 67 = .ok (.invokevirtual 112, 3) := by decide +kernel
theorem dX1_note_70 : decode cX1_note 70 = .ok (.goto 22, 3) := by decide +kernel
theorem dX1_note_73 : decode cX1_note 73 = .ok (.aload_n 0, 1) := by decide +kernel
theorem dX1_note_74 : decode cX1_note 74 = .ok (.bipush 10, 2) := by decide +kernel
theorem dX1_note_76 : decode cX1_note 76 = .ok (.iload_n 1, 1) := by decide +kernel
theorem dX1_note_77 : decode cX1_note 77 = .ok (.iload_n 2, 1) := by decide +kernel
theorem dX1_note_78 : decode cX1_note 78 = .ok (.invokevirtual 112, 3) := by decide +kernel
theorem dX1_note_81 : decode cX1_note 81 = .ok (.goto 11, 3) := by decide +kernel
theorem dX1_note_84 : decode cX1_note 84 = .ok (.aload_n 0, 1) := by decide +kernel
theorem dX1_note_85 : decode cX1_note 85 = .ok (.bipush 11, 2) := by decide +kernel
theorem dX1_note_87 : decode cX1_note 87 = .ok (.iload_n 1, 1) := by decide +kernel
theorem dX1_note_88 : decode cX1_note 88 = .ok (.iload_n 2, 1) := by decide +kernel
theorem dX1_note_89 : decode cX1_note 89 = .ok (.invokevirtual 112, 3) := by decide +kernel
theorem dX1_note_92 : decode cX1_note 92 = .ok (.return_, 1) := by decide +kernel
theorem dX1_search_0 : decode cX1_search 0 = .ok (.aload_n 0, 1) := by decide +kernel
theorem dX1_search_1 : decode cX1_search 1 = .ok (.aload_n 1, 1) := by decide +kernel
theorem dX1_search_2 : decode cX1_search 2 = .ok (.invokevirtual 69, 3) := by decide +kernel
theorem dX1_search_5 : decode cX1_search 5 = .ok (.aload_n 0, 1) := by decide +kernel
theorem dX1_search_6 : decode cX1_search 6 = .ok (.iconst 1, 1) := by decide +kernel
theorem dX1_search_7 : decode cX1_search 7 = .ok (.putfield 49, 3) := by decide +kernel
theorem dX1_search_10 : decode cX1_search 10 = .ok (.aload_n 0, 1) := by decide +kernel
theorem dX1_search_11 : decode cX1_search 11 = .ok (.iload_n 2, 1) := by decide +kernel
theorem dX1_search_12 : decode cX1_search 12 = .ok (.sipush 300, 3) := by decide +kernel
theorem dX1_search_15 : decode cX1_search 15 = .ok (.invokestatic 70, 3) := by decide +kernel
theorem dX1_search_18 : decode cX1_search 18 = .ok (.putfield 76, 3) := by decide +kernel
theorem dX1_search_21 : decode cX1_search 21 = .ok (.aload_n 0, 1) := by decide +kernel
theorem dX1_search_22 : decode cX1_search 22 = .ok (.getfield 42, 3) := by decide +kernel
theorem dX1_search_25 : decode cX1_search 25 = .ok (.aload_n 1, 1) := by decide +kernel
theorem dX1_search_26 : decode cX1_search 26 = .ok (.invokevirtual 79, 3) := by decide +kernel
theorem dX1_search_29 : decode cX1_search 29 = .ok (.aload_n 0, 1) := by decide +kernel
theorem dX1_search_30 : decode cX1_search 30 = .ok (.iconst (-1), 1) := by decide +kernel
theorem dX1_search_31 : decode cX1_search 31 = .ok (.iconst (-1), 1) := by decide +kernel
theorem dX1_search_32 : decode cX1_search 32 = .ok (.invokevirtual 82, 3) := by decide +kernel
theorem dX1_search_35 : decode cX1_search 35 = .ok (.iconst 0, 1) := by decide +kernel
theorem dX1_search_36 : decode cX1_search 36 = .ok (.istore_n 3, 1) := by decide +kernel
theorem dX1_search_37 : decode cX1_search 37 = .ok (.iload_n 3, 1) := by decide +kernel
theorem dX1_search_38 : decode cX1_search 38 = .ok (.sipush 300, 3) := by decide +kernel
theorem dX1_search_41 : decode cX1_search 41 = .ok (.if_icmp .ge 87, 3) := by decide +kernel
theorem dX1_search_44 : decode cX1_search 44 = .ok (.iload_n 3, 1) := by decide +kernel
theorem dX1_search_45 : decode cX1_search 45 = .ok (.aload_n 0, 1) := by decide +kernel
theorem dX1_search_46 : decode cX1_search 46 = .ok (.getfield 60, 3) := by decide +kernel
theorem dX1_search_49 : decode cX1_search 49 = .ok (.if_icmp .ge 79, 3) := by decide +kernel
theorem dX1_search_52 : decode cX1_search 52 = .ok (.aload_n 0, 1) := by decide +kernel
theorem dX1_search_53 : decode cX1_search 53 = .ok (.getfield 42, 3) := by decide +kernel
theorem dX1_search_56 : decode cX1_search 56 = .ok (.aload_n 0, 1) := by decide +kernel
theorem dX1_search_57 : decode cX1_search 57 = .ok (.getfield 9, 3) := by decide +kernel
theorem dX1_search_60 : decode cX1_search 60 = .ok (.iload_n 3, 1) := by decide +kernel
theorem dX1_search_61 : decode cX1_search 61 = .ok (.laload, 1) := by decide +kernel
theorem dX1_search_62 : decode cX1_search 62 = .ok (.invokevirtual 86, 3) := by decide +kernel
theorem dX1_search_65 : decode cX1_search 65 = .ok (.aload_n 0, 1) := by decide +kernel
theorem dX1_search_66 : decode cX1_search 66 = .ok (.getfield 42, 3) := by decide +kernel
theorem dX1_search_69 : decode cX1_search 69 = .ok (.getfield 90, 3) := by decide +kernel
theorem dX1_search_72 : decode cX1_search 72 = .ok (.invokestatic 93, 3) := by decide +kernel
theorem dX1_search_75 : decode cX1_search 75 = .ok (.istore 4, 2) := by decide +kernel
theorem dX1_search_77 : decode cX1_search 77 = .ok (.iconst 0, 1) := by decide +kernel
theorem dX1_search_78 : decode cX1_search 78 = .ok (.istore 5, 2) := by decide +kernel
theorem dX1_search_80 : decode cX1_search 80 = .ok (.iload 5, 2) := by decide +kernel
theorem dX1_search_82 : decode cX1_search 82 = .ok (.iload 4, 2) := by decide +kernel
theorem dX1_search_84 : decode cX1_search 84 = .ok (.if_icmp .ge 38, 3) := by decide +kernel
theorem dX1_search_87 : decode cX1_search 87 = .ok (.aload_n 0, 1) := by decide +kernel
theorem dX1_search_88 : decode cX1_search 88 = .ok (.getfield 42, 3) := by decide +kernel
theorem dX1_search_91 : decode cX1_search 91 = .ok (.aload_n 0, 1) := by decide +kernel
theorem dX1_search_92 : decode cX1_search 92 = .ok (.getfield 9, 3) := by decide +kernel
theorem dX1_search_95 : decode cX1_search 95 = .ok (.iload_n 3, 1) := by decide +kernel
theorem dX1_search_96 : decode cX1_search 96 = .ok (.laload, 1) := by decide +kernel
theorem dX1_search_97 : decode cX1_search 97 = .ok (.invokevirtual 86, 3) := by decide +kernel
theorem dX1_search_100 : decode cX1_search 100 = .ok (.aload_n 0, 1) := by decide +kernel
theorem dX1_search_101 : decode cX1_search 101 = .ok (.getfield 42, 3) := by decide +kernel
theorem dX1_search_104 : decode cX1_search 104 = .ok (.iload 5, 2) := by decide +kernel
theorem dX1_search_106 : decode cX1_search 106 = .ok (.invokevirtual 99, 3) := by decide +kernel
theorem dX1_search_109 : decode cX1_search 109 = .ok (.aload_n 0, 1) := by decide +kernel
theorem dX1_search_110 : decode cX1_search 110 = .ok (.iload_n 3, 1) := by decide +kernel
theorem dX1_search_111 : decode cX1_search 111 = .ok (.iload 5, 2) := by decide +kernel
theorem dX1_search_113 : decode cX1_search 113 = .ok (.invokevirtual 82, 3) := by decide +kernel
theorem dX1_search_116 : decode cX1_search 116 = .ok (.iinc 5 1, 3) := by decide +kernel
theorem dX1_search_119 : decode cX1_search 119 = .ok (.goto (-39), 3) := by decide +kernel
theorem dX1_search_122 : decode cX1_search 122 = .ok (.iinc 3 1, 3) := by decide +kernel
theorem dX1_search_125 : decode cX1_search 125 = .ok (.goto (-88), 3) := by decide +kernel
theorem dX1_search_128 : decode cX1_search 128 = .ok (.return_, 1) := by decide +kernel
theorem wt_5 : (Jvm.Cond.initialized "BranchingStory$Play") ∈ lw_tbl := in_tb 5 (by decide +kernel)
theorem wt_6 : (Jvm.Cond.initialized "BranchingStory$Lines") ∈ lw_tbl := in_tb 6 (by decide +kernel)
theorem wt_8 : (Jvm.Cond.initialized "BranchingStory$Explorer") ∈ lw_tbl := in_tb 8 (by decide +kernel)
theorem wt_19 : (Jvm.Cond.initialized "java/lang/Integer") ∈ lw_tbl := in_tb 19 (by decide +kernel)
theorem wt_63 : (Jvm.Cond.fieldLinkNest "BranchingStory$Play" (89 : Nat) "BranchingStory$Story" "sort" "[I" "BranchingStory") ∈ lw_tbl := in_tb 63 (by decide +kernel)
theorem wt_67 : (Jvm.Cond.fieldLinkNest "BranchingStory$Play" (102 : Nat) "BranchingStory$Story" "who" "[I" "BranchingStory") ∈ lw_tbl := in_tb 67 (by decide +kernel)
theorem wt_70 : (Jvm.Cond.fieldLinkNest "BranchingStory$Play" (108 : Nat) "BranchingStory$Story" "digit" "[I" "BranchingStory") ∈ lw_tbl := in_tb 70 (by decide +kernel)
theorem wt_74 : (Jvm.Cond.fieldLinkNest "BranchingStory$Play" (124 : Nat) "BranchingStory$Story" "next" "[I" "BranchingStory") ∈ lw_tbl := in_tb 74 (by decide +kernel)
theorem wt_77 : (Jvm.Cond.fieldLinkNest "BranchingStory$Play" (118 : Nat) "BranchingStory$Story" "first" "[I" "BranchingStory") ∈ lw_tbl := in_tb 77 (by decide +kernel)
theorem wt_81 : (Jvm.Cond.fieldLinkNest "BranchingStory$Play" (121 : Nat) "BranchingStory$Story" "second" "[I" "BranchingStory") ∈ lw_tbl := in_tb 81 (by decide +kernel)
theorem wt_85 : (Jvm.Cond.fieldLinkNest "BranchingStory$Play" (138 : Nat) "BranchingStory$Story" "termsFrom" "[I" "BranchingStory") ∈ lw_tbl := in_tb 85 (by decide +kernel)
theorem wt_88 : (Jvm.Cond.fieldLinkNest "BranchingStory$Play" (141 : Nat) "BranchingStory$Story" "termsTo" "[I" "BranchingStory") ∈ lw_tbl := in_tb 88 (by decide +kernel)
theorem wt_92 : (Jvm.Cond.fieldLinkNest "BranchingStory$Play" (134 : Nat) "BranchingStory$Story" "terms" "LBranchingStory$Terms;" "BranchingStory") ∈ lw_tbl := in_tb 92 (by decide +kernel)
theorem wt_104 : (Jvm.Cond.fieldLinkNest "BranchingStory$Play" (153 : Nat) "BranchingStory$Story" "nodeFirst" "[I" "BranchingStory") ∈ lw_tbl := in_tb 104 (by decide +kernel)
theorem wt_120 : (Jvm.Cond.fieldLinkNest "BranchingStory$Play" (74 : Nat) "BranchingStory$Story" "choiceFirst" "[I" "BranchingStory") ∈ lw_tbl := in_tb 120 (by decide +kernel)
theorem wt_228 : (Jvm.Cond.fieldLinkNest "BranchingStory$History" (44 : Nat) "BranchingStory$Lines" "count" "I" "BranchingStory") ∈ lw_tbl := in_tb 228 (by decide +kernel)
theorem wt_231 : (Jvm.Cond.fieldLinkNest "BranchingStory$History" (49 : Nat) "BranchingStory$Lines" "latest" "[I" "BranchingStory") ∈ lw_tbl := in_tb 231 (by decide +kernel)
theorem wt_241 : (Jvm.Cond.fieldLink "BranchingStory$Play" (18 : Nat) "BranchingStory$Play" "story" "LBranchingStory$Story;") ∈ lw_tbl := in_tb 241 (by decide +kernel)
theorem wt_242 : (Jvm.Cond.fieldLink "BranchingStory$Play" (29 : Nat) "BranchingStory$Play" "status" "I") ∈ lw_tbl := in_tb 242 (by decide +kernel)
theorem wt_243 : (Jvm.Cond.fieldLinkNest "BranchingStory$Explorer" (103 : Nat) "BranchingStory$Play" "status" "I" "BranchingStory") ∈ lw_tbl := in_tb 243 (by decide +kernel)
theorem wt_245 : (Jvm.Cond.fieldLink "BranchingStory$Play" (32 : Nat) "BranchingStory$Play" "ending" "I") ∈ lw_tbl := in_tb 245 (by decide +kernel)
theorem wt_246 : (Jvm.Cond.fieldLinkNest "BranchingStory$Explorer" (109 : Nat) "BranchingStory$Play" "ending" "I" "BranchingStory") ∈ lw_tbl := in_tb 246 (by decide +kernel)
theorem wt_248 : (Jvm.Cond.fieldLink "BranchingStory$Play" (22 : Nat) "BranchingStory$Play" "node" "I") ∈ lw_tbl := in_tb 248 (by decide +kernel)
theorem wt_250 : (Jvm.Cond.fieldLink "BranchingStory$Play" (26 : Nat) "BranchingStory$Play" "hub" "I") ∈ lw_tbl := in_tb 250 (by decide +kernel)
theorem wt_252 : (Jvm.Cond.fieldLink "BranchingStory$Play" (35 : Nat) "BranchingStory$Play" "flags" "I") ∈ lw_tbl := in_tb 252 (by decide +kernel)
theorem wt_254 : (Jvm.Cond.fieldLink "BranchingStory$Play" (38 : Nat) "BranchingStory$Play" "meters" "I") ∈ lw_tbl := in_tb 254 (by decide +kernel)
theorem wt_256 : (Jvm.Cond.fieldLink "BranchingStory$Play" (41 : Nat) "BranchingStory$Play" "taken" "I") ∈ lw_tbl := in_tb 256 (by decide +kernel)
theorem wt_257 : (Jvm.Cond.fieldLink "BranchingStory$Play" (44 : Nat) "BranchingStory$Play" "offered" "I") ∈ lw_tbl := in_tb 257 (by decide +kernel)
theorem wt_258 : (Jvm.Cond.fieldLinkNest "BranchingStory$Explorer" (90 : Nat) "BranchingStory$Play" "offered" "I" "BranchingStory") ∈ lw_tbl := in_tb 258 (by decide +kernel)
theorem wt_260 : (Jvm.Cond.fieldLink "BranchingStory$Play" (47 : Nat) "BranchingStory$Play" "entered" "I") ∈ lw_tbl := in_tb 260 (by decide +kernel)
theorem wt_262 : (Jvm.Cond.fieldLink "BranchingStory$Play" (12 : Nat) "BranchingStory$Play" "lines" "LBranchingStory$Lines;") ∈ lw_tbl := in_tb 262 (by decide +kernel)
theorem wt_263 : (Jvm.Cond.fieldLinkNest "BranchingStory$History" (41 : Nat) "BranchingStory$Play" "lines" "LBranchingStory$Lines;" "BranchingStory") ∈ lw_tbl := in_tb 263 (by decide +kernel)
theorem wt_294 : (Jvm.Cond.fieldLink "BranchingStory$History" (22 : Nat) "BranchingStory$History" "size" "I") ∈ lw_tbl := in_tb 294 (by decide +kernel)
theorem wt_296 : (Jvm.Cond.fieldLink "BranchingStory$History" (26 : Nat) "BranchingStory$History" "top" "I") ∈ lw_tbl := in_tb 296 (by decide +kernel)
theorem wt_297 : (Jvm.Cond.fieldLink "BranchingStory$History" (9 : Nat) "BranchingStory$History" "keys" "[J") ∈ lw_tbl := in_tb 297 (by decide +kernel)
theorem wt_298 : (Jvm.Cond.fieldLink "BranchingStory$History" (15 : Nat) "BranchingStory$History" "counts" "[I") ∈ lw_tbl := in_tb 298 (by decide +kernel)
theorem wt_299 : (Jvm.Cond.fieldLink "BranchingStory$History" (19 : Nat) "BranchingStory$History" "lines" "[I") ∈ lw_tbl := in_tb 299 (by decide +kernel)
theorem wt_320 : (Jvm.Cond.fieldLink "BranchingStory$Explorer" (42 : Nat) "BranchingStory$Explorer" "play" "LBranchingStory$Play;") ∈ lw_tbl := in_tb 320 (by decide +kernel)
theorem wt_322 : (Jvm.Cond.fieldLink "BranchingStory$Explorer" (49 : Nat) "BranchingStory$Explorer" "explored" "Z") ∈ lw_tbl := in_tb 322 (by decide +kernel)
theorem wt_324 : (Jvm.Cond.fieldLink "BranchingStory$Explorer" (53 : Nat) "BranchingStory$Explorer" "complete" "Z") ∈ lw_tbl := in_tb 324 (by decide +kernel)
theorem wt_326 : (Jvm.Cond.fieldLink "BranchingStory$Explorer" (76 : Nat) "BranchingStory$Explorer" "limit" "I") ∈ lw_tbl := in_tb 326 (by decide +kernel)
theorem wt_327 : (Jvm.Cond.fieldLink "BranchingStory$Explorer" (56 : Nat) "BranchingStory$Explorer" "everOffered" "I") ∈ lw_tbl := in_tb 327 (by decide +kernel)
theorem wt_329 : (Jvm.Cond.fieldLink "BranchingStory$Explorer" (60 : Nat) "BranchingStory$Explorer" "found" "I") ∈ lw_tbl := in_tb 329 (by decide +kernel)
theorem wt_331 : (Jvm.Cond.fieldLink "BranchingStory$Explorer" (9 : Nat) "BranchingStory$Explorer" "keys" "[J") ∈ lw_tbl := in_tb 331 (by decide +kernel)
theorem wt_332 : (Jvm.Cond.fieldLink "BranchingStory$Explorer" (15 : Nat) "BranchingStory$Explorer" "parent" "[I") ∈ lw_tbl := in_tb 332 (by decide +kernel)
theorem wt_333 : (Jvm.Cond.fieldLink "BranchingStory$Explorer" (19 : Nat) "BranchingStory$Explorer" "position" "[I") ∈ lw_tbl := in_tb 333 (by decide +kernel)
theorem wt_334 : (Jvm.Cond.fieldLink "BranchingStory$Explorer" (22 : Nat) "BranchingStory$Explorer" "wayTo" "[I") ∈ lw_tbl := in_tb 334 (by decide +kernel)
theorem wt_335 : (Jvm.Cond.fieldLink "BranchingStory$Explorer" (25 : Nat) "BranchingStory$Explorer" "endFlows" "[I") ∈ lw_tbl := in_tb 335 (by decide +kernel)
theorem wt_337 : (Jvm.Cond.fieldLink "BranchingStory$Explorer" (28 : Nat) "BranchingStory$Explorer" "endParent" "[I") ∈ lw_tbl := in_tb 337 (by decide +kernel)
theorem wt_338 : (Jvm.Cond.fieldLink "BranchingStory$Explorer" (31 : Nat) "BranchingStory$Explorer" "endPosition" "[I") ∈ lw_tbl := in_tb 338 (by decide +kernel)
theorem wt_339 : (Jvm.Cond.fieldLink "BranchingStory$Explorer" (34 : Nat) "BranchingStory$Explorer" "endLength" "[I") ∈ lw_tbl := in_tb 339 (by decide +kernel)
theorem wt_456 : (Jvm.Cond.methodLink "BranchingStory$Reader" (32 : Nat) ({ cls := "BranchingStory$Reader", name := "begin", desc := "(LBranchingStory$Story;)V" } : Jvm.MethodName)) ∈ lw_tbl := in_tb 456 (by decide +kernel)
theorem wt_458 : (Jvm.Cond.instanceMethod ({ cls := "BranchingStory$Reader", name := "begin", desc := "(LBranchingStory$Story;)V" } : Jvm.MethodName)) ∈ lw_tbl := in_tb 458 (by decide +kernel)
theorem wt_459 : (Jvm.Cond.code ({ cls := "BranchingStory$Reader", name := "begin", desc := "(LBranchingStory$Story;)V" } : Jvm.MethodName) prog_8_method_3_code (2 : Nat) (Option.none : Option Jvm.ClassFile.FieldType)) ∈ lw_tbl := in_tb 459 (by decide +kernel)
theorem wt_470 : (Jvm.Cond.methodLink "BranchingStory$Reader" (49 : Nat) ({ cls := "BranchingStory$Reader", name := "measureNumber", desc := "([II)V" } : Jvm.MethodName)) ∈ lw_tbl := in_tb 470 (by decide +kernel)
theorem wt_472 : (Jvm.Cond.instanceMethod ({ cls := "BranchingStory$Reader", name := "measureNumber", desc := "([II)V" } : Jvm.MethodName)) ∈ lw_tbl := in_tb 472 (by decide +kernel)
theorem wt_473 : (Jvm.Cond.code ({ cls := "BranchingStory$Reader", name := "measureNumber", desc := "([II)V" } : Jvm.MethodName) prog_8_method_4_code (4 : Nat) (Option.none : Option Jvm.ClassFile.FieldType)) ∈ lw_tbl := in_tb 473 (by decide +kernel)
theorem wt_480 : (Jvm.Cond.methodLink "BranchingStory$Reader" (53 : Nat) ({ cls := "BranchingStory$Reader", name := "takes", desc := "(I)Z" } : Jvm.MethodName)) ∈ lw_tbl := in_tb 480 (by decide +kernel)
theorem wt_482 : (Jvm.Cond.instanceMethod ({ cls := "BranchingStory$Reader", name := "takes", desc := "(I)Z" } : Jvm.MethodName)) ∈ lw_tbl := in_tb 482 (by decide +kernel)
theorem wt_483 : (Jvm.Cond.code ({ cls := "BranchingStory$Reader", name := "takes", desc := "(I)Z" } : Jvm.MethodName) prog_8_method_6_code (2 : Nat) (Option.some Jvm.ClassFile.FieldType.boolean)) ∈ lw_tbl := in_tb 483 (by decide +kernel)
theorem wt_599 : (Jvm.Cond.methodLink "BranchingStory$Reader" (57 : Nat) ({ cls := "BranchingStory$Reader", name := "canEnd", desc := "()Z" } : Jvm.MethodName)) ∈ lw_tbl := in_tb 599 (by decide +kernel)
theorem wt_601 : (Jvm.Cond.instanceMethod ({ cls := "BranchingStory$Reader", name := "canEnd", desc := "()Z" } : Jvm.MethodName)) ∈ lw_tbl := in_tb 601 (by decide +kernel)
theorem wt_602 : (Jvm.Cond.code ({ cls := "BranchingStory$Reader", name := "canEnd", desc := "()Z" } : Jvm.MethodName) prog_8_method_5_code (1 : Nat) (Option.some Jvm.ClassFile.FieldType.boolean)) ∈ lw_tbl := in_tb 602 (by decide +kernel)
theorem wt_603 : (Jvm.Cond.methodLink "BranchingStory$Reader" (70 : Nat) ({ cls := "BranchingStory$Reader", name := "linkAll", desc := "()I" } : Jvm.MethodName)) ∈ lw_tbl := in_tb 603 (by decide +kernel)
theorem wt_605 : (Jvm.Cond.instanceMethod ({ cls := "BranchingStory$Reader", name := "linkAll", desc := "()I" } : Jvm.MethodName)) ∈ lw_tbl := in_tb 605 (by decide +kernel)
theorem wt_606 : (Jvm.Cond.code ({ cls := "BranchingStory$Reader", name := "linkAll", desc := "()I" } : Jvm.MethodName) prog_8_method_28_code (4 : Nat) (Option.some Jvm.ClassFile.FieldType.int)) ∈ lw_tbl := in_tb 606 (by decide +kernel)
theorem wt_607 : (Jvm.Cond.methodLink "BranchingStory$Reader" (243 : Nat) ({ cls := "BranchingStory$Reader", name := "linkOne", desc := "(I)V" } : Jvm.MethodName)) ∈ lw_tbl := in_tb 607 (by decide +kernel)
theorem wt_609 : (Jvm.Cond.instanceMethod ({ cls := "BranchingStory$Reader", name := "linkOne", desc := "(I)V" } : Jvm.MethodName)) ∈ lw_tbl := in_tb 609 (by decide +kernel)
theorem wt_610 : (Jvm.Cond.code ({ cls := "BranchingStory$Reader", name := "linkOne", desc := "(I)V" } : Jvm.MethodName) prog_8_method_29_code (3 : Nat) (Option.none : Option Jvm.ClassFile.FieldType)) ∈ lw_tbl := in_tb 610 (by decide +kernel)
theorem wt_632 : (Jvm.Cond.static ({ cls := "java/lang/Integer", name := "bitCount", desc := "(I)I" } : Jvm.MethodName)) ∈ lw_tbl := in_tb 632 (by decide +kernel)
theorem wt_633 : (Jvm.Cond.code ({ cls := "java/lang/Integer", name := "bitCount", desc := "(I)I" } : Jvm.MethodName) prog_17_method_49_code (1 : Nat) (Option.some Jvm.ClassFile.FieldType.int)) ∈ lw_tbl := in_tb 633 (by decide +kernel)
theorem wt_744 : (Jvm.Cond.instanceMethod ({ cls := "BranchingStory$Play", name := "forget", desc := "(LBranchingStory$Story;)V" } : Jvm.MethodName)) ∈ lw_tbl := in_tb 744 (by decide +kernel)
theorem wt_745 : (Jvm.Cond.code ({ cls := "BranchingStory$Play", name := "forget", desc := "(LBranchingStory$Story;)V" } : Jvm.MethodName) prog_7_method_2_code (2 : Nat) (Option.none : Option Jvm.ClassFile.FieldType)) ∈ lw_tbl := in_tb 745 (by decide +kernel)
theorem wt_746 : (Jvm.Cond.methodLinkNest "BranchingStory$Play" (50 : Nat) ({ cls := "BranchingStory$Lines", name := "empty", desc := "()V" } : Jvm.MethodName) "BranchingStory") ∈ lw_tbl := in_tb 746 (by decide +kernel)
theorem wt_748 : (Jvm.Cond.instanceMethod ({ cls := "BranchingStory$Lines", name := "empty", desc := "()V" } : Jvm.MethodName)) ∈ lw_tbl := in_tb 748 (by decide +kernel)
theorem wt_749 : (Jvm.Cond.code ({ cls := "BranchingStory$Lines", name := "empty", desc := "()V" } : Jvm.MethodName) prog_6_method_2_code (2 : Nat) (Option.none : Option Jvm.ClassFile.FieldType)) ∈ lw_tbl := in_tb 749 (by decide +kernel)
theorem wt_756 : (Jvm.Cond.instanceMethod ({ cls := "BranchingStory$Explorer", name := "forget", desc := "(LBranchingStory$Story;)V" } : Jvm.MethodName)) ∈ lw_tbl := in_tb 756 (by decide +kernel)
theorem wt_757 : (Jvm.Cond.code ({ cls := "BranchingStory$Explorer", name := "forget", desc := "(LBranchingStory$Story;)V" } : Jvm.MethodName) prog_3_method_2_code (2 : Nat) (Option.none : Option Jvm.ClassFile.FieldType)) ∈ lw_tbl := in_tb 757 (by decide +kernel)
theorem wt_758 : (Jvm.Cond.methodLinkNest "BranchingStory$Explorer" (46 : Nat) ({ cls := "BranchingStory$Play", name := "forget", desc := "(LBranchingStory$Story;)V" } : Jvm.MethodName) "BranchingStory") ∈ lw_tbl := in_tb 758 (by decide +kernel)
theorem wt_759 : (Jvm.Cond.methodLink "BranchingStory$Explorer" (63 : Nat) ({ cls := "java/util/Arrays", name := "fill", desc := "([II)V" } : Jvm.MethodName)) ∈ lw_tbl := in_tb 759 (by decide +kernel)
theorem wt_847 : (Jvm.Cond.instanceMethod ({ cls := "BranchingStory$Play", name := "begin", desc := "(LBranchingStory$Story;)V" } : Jvm.MethodName)) ∈ lw_tbl := in_tb 847 (by decide +kernel)
theorem wt_848 : (Jvm.Cond.code ({ cls := "BranchingStory$Play", name := "begin", desc := "(LBranchingStory$Story;)V" } : Jvm.MethodName) prog_7_method_3_code (2 : Nat) (Option.none : Option Jvm.ClassFile.FieldType)) ∈ lw_tbl := in_tb 848 (by decide +kernel)
theorem wt_849 : (Jvm.Cond.methodLink "BranchingStory$Play" (53 : Nat) ({ cls := "BranchingStory$Play", name := "forget", desc := "(LBranchingStory$Story;)V" } : Jvm.MethodName)) ∈ lw_tbl := in_tb 849 (by decide +kernel)
theorem wt_850 : (Jvm.Cond.methodLink "BranchingStory$Play" (57 : Nat) ({ cls := "BranchingStory$Play", name := "enter", desc := "(I)I" } : Jvm.MethodName)) ∈ lw_tbl := in_tb 850 (by decide +kernel)
theorem wt_852 : (Jvm.Cond.instanceMethod ({ cls := "BranchingStory$Play", name := "enter", desc := "(I)I" } : Jvm.MethodName)) ∈ lw_tbl := in_tb 852 (by decide +kernel)
theorem wt_853 : (Jvm.Cond.code ({ cls := "BranchingStory$Play", name := "enter", desc := "(I)I" } : Jvm.MethodName) prog_7_method_12_code (2 : Nat) (Option.some Jvm.ClassFile.FieldType.int)) ∈ lw_tbl := in_tb 853 (by decide +kernel)
theorem wt_854 : (Jvm.Cond.methodLinkNest "BranchingStory$Play" (150 : Nat) ({ cls := "BranchingStory$Story", name := "standsAsHub", desc := "(I)Z" } : Jvm.MethodName) "BranchingStory") ∈ lw_tbl := in_tb 854 (by decide +kernel)
theorem wt_855 : (Jvm.Cond.methodLinkNest "BranchingStory$Play" (156 : Nat) ({ cls := "BranchingStory", name := "entryOf", desc := "([II)I" } : Jvm.MethodName) "BranchingStory") ∈ lw_tbl := in_tb 855 (by decide +kernel)
theorem wt_856 : (Jvm.Cond.methodLink "BranchingStory$Play" (61 : Nat) ({ cls := "BranchingStory$Play", name := "run", desc := "(I)V" } : Jvm.MethodName)) ∈ lw_tbl := in_tb 856 (by decide +kernel)
theorem wt_858 : (Jvm.Cond.instanceMethod ({ cls := "BranchingStory$Play", name := "run", desc := "(I)V" } : Jvm.MethodName)) ∈ lw_tbl := in_tb 858 (by decide +kernel)
theorem wt_859 : (Jvm.Cond.code ({ cls := "BranchingStory$Play", name := "run", desc := "(I)V" } : Jvm.MethodName) prog_7_method_8_code (6 : Nat) (Option.none : Option Jvm.ClassFile.FieldType)) ∈ lw_tbl := in_tb 859 (by decide +kernel)
theorem wt_860 : (Jvm.Cond.methodLinkNest "BranchingStory$Play" (86 : Nat) ({ cls := "BranchingStory$Story", name := "has", desc := "(I)Z" } : Jvm.MethodName) "BranchingStory") ∈ lw_tbl := in_tb 860 (by decide +kernel)
theorem wt_861 : (Jvm.Cond.methodLink "BranchingStory$Play" (92 : Nat) ({ cls := "BranchingStory$Play", name := "endBlock", desc := "(I)I" } : Jvm.MethodName)) ∈ lw_tbl := in_tb 861 (by decide +kernel)
theorem wt_863 : (Jvm.Cond.instanceMethod ({ cls := "BranchingStory$Play", name := "endBlock", desc := "(I)I" } : Jvm.MethodName)) ∈ lw_tbl := in_tb 863 (by decide +kernel)
theorem wt_864 : (Jvm.Cond.code ({ cls := "BranchingStory$Play", name := "endBlock", desc := "(I)I" } : Jvm.MethodName) prog_7_method_13_code (2 : Nat) (Option.some Jvm.ClassFile.FieldType.int)) ∈ lw_tbl := in_tb 864 (by decide +kernel)
theorem wt_865 : (Jvm.Cond.methodLink "BranchingStory$Play" (95 : Nat) ({ cls := "BranchingStory$Play", name := "endFlow", desc := "(I)I" } : Jvm.MethodName)) ∈ lw_tbl := in_tb 865 (by decide +kernel)
theorem wt_867 : (Jvm.Cond.instanceMethod ({ cls := "BranchingStory$Play", name := "endFlow", desc := "(I)I" } : Jvm.MethodName)) ∈ lw_tbl := in_tb 867 (by decide +kernel)
theorem wt_868 : (Jvm.Cond.code ({ cls := "BranchingStory$Play", name := "endFlow", desc := "(I)I" } : Jvm.MethodName) prog_7_method_14_code (2 : Nat) (Option.some Jvm.ClassFile.FieldType.int)) ∈ lw_tbl := in_tb 868 (by decide +kernel)
theorem wt_869 : (Jvm.Cond.methodLink "BranchingStory$Play" (98 : Nat) ({ cls := "BranchingStory$Play", name := "execute", desc := "(II)I" } : Jvm.MethodName)) ∈ lw_tbl := in_tb 869 (by decide +kernel)
theorem wt_871 : (Jvm.Cond.instanceMethod ({ cls := "BranchingStory$Play", name := "execute", desc := "(II)I" } : Jvm.MethodName)) ∈ lw_tbl := in_tb 871 (by decide +kernel)
theorem wt_872 : (Jvm.Cond.code ({ cls := "BranchingStory$Play", name := "execute", desc := "(II)I" } : Jvm.MethodName) prog_7_method_9_code (4 : Nat) (Option.some Jvm.ClassFile.FieldType.int)) ∈ lw_tbl := in_tb 872 (by decide +kernel)
theorem wt_873 : (Jvm.Cond.methodLinkNest "BranchingStory$Play" (105 : Nat) ({ cls := "BranchingStory$Lines", name := "append", desc := "(I)V" } : Jvm.MethodName) "BranchingStory") ∈ lw_tbl := in_tb 873 (by decide +kernel)
theorem wt_875 : (Jvm.Cond.instanceMethod ({ cls := "BranchingStory$Lines", name := "append", desc := "(I)V" } : Jvm.MethodName)) ∈ lw_tbl := in_tb 875 (by decide +kernel)
theorem wt_876 : (Jvm.Cond.code ({ cls := "BranchingStory$Lines", name := "append", desc := "(I)V" } : Jvm.MethodName) prog_6_method_3_code (2 : Nat) (Option.none : Option Jvm.ClassFile.FieldType)) ∈ lw_tbl := in_tb 876 (by decide +kernel)
theorem wt_880 : (Jvm.Cond.methodLink "BranchingStory$Play" (111 : Nat) ({ cls := "BranchingStory$Play", name := "changeMeter", desc := "(III)V" } : Jvm.MethodName)) ∈ lw_tbl := in_tb 880 (by decide +kernel)
theorem wt_882 : (Jvm.Cond.instanceMethod ({ cls := "BranchingStory$Play", name := "changeMeter", desc := "(III)V" } : Jvm.MethodName)) ∈ lw_tbl := in_tb 882 (by decide +kernel)
theorem wt_883 : (Jvm.Cond.code ({ cls := "BranchingStory$Play", name := "changeMeter", desc := "(III)V" } : Jvm.MethodName) prog_7_method_10_code (5 : Nat) (Option.none : Option Jvm.ClassFile.FieldType)) ∈ lw_tbl := in_tb 883 (by decide +kernel)
theorem wt_884 : (Jvm.Cond.methodLinkNest "BranchingStory$Play" (127 : Nat) ({ cls := "BranchingStory", name := "meterIn", desc := "(II)I" } : Jvm.MethodName) "BranchingStory") ∈ lw_tbl := in_tb 884 (by decide +kernel)
theorem wt_885 : (Jvm.Cond.static ({ cls := "BranchingStory", name := "meterIn", desc := "(II)I" } : Jvm.MethodName)) ∈ lw_tbl := in_tb 885 (by decide +kernel)
theorem wt_886 : (Jvm.Cond.code ({ cls := "BranchingStory", name := "meterIn", desc := "(II)I" } : Jvm.MethodName) prog_1_method_48_code (2 : Nat) (Option.some Jvm.ClassFile.FieldType.int)) ∈ lw_tbl := in_tb 886 (by decide +kernel)
theorem wt_887 : (Jvm.Cond.methodLinkNest "BranchingStory$Play" (130 : Nat) ({ cls := "BranchingStory", name := "changedMeter", desc := "(III)I" } : Jvm.MethodName) "BranchingStory") ∈ lw_tbl := in_tb 887 (by decide +kernel)
theorem wt_888 : (Jvm.Cond.static ({ cls := "BranchingStory", name := "changedMeter", desc := "(III)I" } : Jvm.MethodName)) ∈ lw_tbl := in_tb 888 (by decide +kernel)
theorem wt_889 : (Jvm.Cond.code ({ cls := "BranchingStory", name := "changedMeter", desc := "(III)I" } : Jvm.MethodName) prog_1_method_49_code (3 : Nat) (Option.some Jvm.ClassFile.FieldType.int)) ∈ lw_tbl := in_tb 889 (by decide +kernel)
theorem wt_892 : (Jvm.Cond.methodLink "BranchingStory$Play" (115 : Nat) ({ cls := "BranchingStory$Play", name := "conditionHolds", desc := "(I)Z" } : Jvm.MethodName)) ∈ lw_tbl := in_tb 892 (by decide +kernel)
theorem wt_894 : (Jvm.Cond.instanceMethod ({ cls := "BranchingStory$Play", name := "conditionHolds", desc := "(I)Z" } : Jvm.MethodName)) ∈ lw_tbl := in_tb 894 (by decide +kernel)
theorem wt_895 : (Jvm.Cond.code ({ cls := "BranchingStory$Play", name := "conditionHolds", desc := "(I)Z" } : Jvm.MethodName) prog_7_method_11_code (2 : Nat) (Option.some Jvm.ClassFile.FieldType.boolean)) ∈ lw_tbl := in_tb 895 (by decide +kernel)
theorem wt_896 : (Jvm.Cond.methodLinkNest "BranchingStory$Play" (144 : Nat) ({ cls := "BranchingStory$Terms", name := "allHold", desc := "(IIII)Z" } : Jvm.MethodName) "BranchingStory") ∈ lw_tbl := in_tb 896 (by decide +kernel)
theorem wt_898 : (Jvm.Cond.instanceMethod ({ cls := "BranchingStory$Terms", name := "allHold", desc := "(IIII)Z" } : Jvm.MethodName)) ∈ lw_tbl := in_tb 898 (by decide +kernel)
theorem wt_899 : (Jvm.Cond.code ({ cls := "BranchingStory$Terms", name := "allHold", desc := "(IIII)Z" } : Jvm.MethodName) prog_10_method_3_code (7 : Nat) (Option.some Jvm.ClassFile.FieldType.boolean)) ∈ lw_tbl := in_tb 899 (by decide +kernel)
theorem wt_923 : (Jvm.Cond.methodLink "BranchingStory$History" (29 : Nat) ({ cls := "java/lang/Math", name := "floorMod", desc := "(II)I" } : Jvm.MethodName)) ∈ lw_tbl := in_tb 923 (by decide +kernel)
theorem wt_924 : (Jvm.Cond.methodLinkNest "BranchingStory$History" (35 : Nat) ({ cls := "BranchingStory$Play", name := "key", desc := "()J" } : Jvm.MethodName) "BranchingStory") ∈ lw_tbl := in_tb 924 (by decide +kernel)
theorem wt_926 : (Jvm.Cond.instanceMethod ({ cls := "BranchingStory$Play", name := "key", desc := "()J" } : Jvm.MethodName)) ∈ lw_tbl := in_tb 926 (by decide +kernel)
theorem wt_927 : (Jvm.Cond.code ({ cls := "BranchingStory$Play", name := "key", desc := "()J" } : Jvm.MethodName) prog_7_method_6_code (3 : Nat) (Option.some Jvm.ClassFile.FieldType.long)) ∈ lw_tbl := in_tb 927 (by decide +kernel)
theorem wt_928 : (Jvm.Cond.methodLink "BranchingStory$History" (52 : Nat) ({ cls := "java/lang/System", name := "arraycopy", desc := "(Ljava/lang/Object;ILjava/lang/Object;II)V" } : Jvm.MethodName)) ∈ lw_tbl := in_tb 928 (by decide +kernel)
theorem wt_931 : (Jvm.Cond.methodLink "BranchingStory$History" (58 : Nat) ({ cls := "java/lang/Math", name := "min", desc := "(II)I" } : Jvm.MethodName)) ∈ lw_tbl := in_tb 931 (by decide +kernel)
theorem wt_934 : (Jvm.Cond.instanceMethod ({ cls := "BranchingStory$Play", name := "take", desc := "(I)V" } : Jvm.MethodName)) ∈ lw_tbl := in_tb 934 (by decide +kernel)
theorem wt_935 : (Jvm.Cond.code ({ cls := "BranchingStory$Play", name := "take", desc := "(I)V" } : Jvm.MethodName) prog_7_method_4_code (3 : Nat) (Option.none : Option Jvm.ClassFile.FieldType)) ∈ lw_tbl := in_tb 935 (by decide +kernel)
theorem wt_936 : (Jvm.Cond.methodLink "BranchingStory$Play" (65 : Nat) ({ cls := "BranchingStory$Play", name := "choiceAt", desc := "(I)I" } : Jvm.MethodName)) ∈ lw_tbl := in_tb 936 (by decide +kernel)
theorem wt_938 : (Jvm.Cond.instanceMethod ({ cls := "BranchingStory$Play", name := "choiceAt", desc := "(I)I" } : Jvm.MethodName)) ∈ lw_tbl := in_tb 938 (by decide +kernel)
theorem wt_939 : (Jvm.Cond.code ({ cls := "BranchingStory$Play", name := "choiceAt", desc := "(I)I" } : Jvm.MethodName) prog_7_method_5_code (4 : Nat) (Option.some Jvm.ClassFile.FieldType.int)) ∈ lw_tbl := in_tb 939 (by decide +kernel)
theorem wt_940 : (Jvm.Cond.methodLinkNest "BranchingStory$Play" (68 : Nat) ({ cls := "BranchingStory$Story", name := "standsInHub", desc := "(I)Z" } : Jvm.MethodName) "BranchingStory") ∈ lw_tbl := in_tb 940 (by decide +kernel)
theorem wt_942 : (Jvm.Cond.instanceMethod ({ cls := "BranchingStory$Story", name := "standsInHub", desc := "(I)Z" } : Jvm.MethodName)) ∈ lw_tbl := in_tb 942 (by decide +kernel)
theorem wt_943 : (Jvm.Cond.code ({ cls := "BranchingStory$Story", name := "standsInHub", desc := "(I)Z" } : Jvm.MethodName) prog_9_method_7_code (2 : Nat) (Option.some Jvm.ClassFile.FieldType.boolean)) ∈ lw_tbl := in_tb 943 (by decide +kernel)
theorem wt_957 : (Jvm.Cond.methodLinkNest "BranchingStory$History" (61 : Nat) ({ cls := "BranchingStory$Play", name := "restore", desc := "(J)V" } : Jvm.MethodName) "BranchingStory") ∈ lw_tbl := in_tb 957 (by decide +kernel)
theorem wt_959 : (Jvm.Cond.instanceMethod ({ cls := "BranchingStory$Play", name := "restore", desc := "(J)V" } : Jvm.MethodName)) ∈ lw_tbl := in_tb 959 (by decide +kernel)
theorem wt_960 : (Jvm.Cond.code ({ cls := "BranchingStory$Play", name := "restore", desc := "(J)V" } : Jvm.MethodName) prog_7_method_7_code (3 : Nat) (Option.none : Option Jvm.ClassFile.FieldType)) ∈ lw_tbl := in_tb 960 (by decide +kernel)
theorem wt_961 : (Jvm.Cond.constantLong "BranchingStory$Play" (78 : Nat) (15 : Int64)) ∈ lw_tbl := in_tb 961 (by decide +kernel)
theorem wt_962 : (Jvm.Cond.constantLong "BranchingStory$Play" (80 : Nat) (63 : Int64)) ∈ lw_tbl := in_tb 962 (by decide +kernel)
theorem wt_963 : (Jvm.Cond.constantLong "BranchingStory$Play" (82 : Nat) (4095 : Int64)) ∈ lw_tbl := in_tb 963 (by decide +kernel)
theorem wt_964 : (Jvm.Cond.constantLong "BranchingStory$Play" (84 : Nat) (65535 : Int64)) ∈ lw_tbl := in_tb 964 (by decide +kernel)
theorem wt_965 : (Jvm.Cond.methodLink "BranchingStory$History" (65 : Nat) ({ cls := "java/lang/Math", name := "max", desc := "(II)I" } : Jvm.MethodName)) ∈ lw_tbl := in_tb 965 (by decide +kernel)
theorem wt_1021 : (Jvm.Cond.methodLink "BranchingStory$Explorer" (69 : Nat) ({ cls := "BranchingStory$Explorer", name := "forget", desc := "(LBranchingStory$Story;)V" } : Jvm.MethodName)) ∈ lw_tbl := in_tb 1021 (by decide +kernel)
theorem wt_1022 : (Jvm.Cond.methodLink "BranchingStory$Explorer" (70 : Nat) ({ cls := "java/lang/Math", name := "min", desc := "(II)I" } : Jvm.MethodName)) ∈ lw_tbl := in_tb 1022 (by decide +kernel)
theorem wt_1023 : (Jvm.Cond.methodLinkNest "BranchingStory$Explorer" (79 : Nat) ({ cls := "BranchingStory$Play", name := "begin", desc := "(LBranchingStory$Story;)V" } : Jvm.MethodName) "BranchingStory") ∈ lw_tbl := in_tb 1023 (by decide +kernel)
theorem wt_1024 : (Jvm.Cond.methodLink "BranchingStory$Explorer" (82 : Nat) ({ cls := "BranchingStory$Explorer", name := "note", desc := "(II)V" } : Jvm.MethodName)) ∈ lw_tbl := in_tb 1024 (by decide +kernel)
theorem wt_1026 : (Jvm.Cond.instanceMethod ({ cls := "BranchingStory$Explorer", name := "note", desc := "(II)V" } : Jvm.MethodName)) ∈ lw_tbl := in_tb 1026 (by decide +kernel)
theorem wt_1027 : (Jvm.Cond.code ({ cls := "BranchingStory$Explorer", name := "note", desc := "(II)V" } : Jvm.MethodName) prog_3_method_4_code (3 : Nat) (Option.none : Option Jvm.ClassFile.FieldType)) ∈ lw_tbl := in_tb 1027 (by decide +kernel)
theorem wt_1028 : (Jvm.Cond.methodLink "BranchingStory$Explorer" (106 : Nat) ({ cls := "BranchingStory$Explorer", name := "noteWaiting", desc := "(II)V" } : Jvm.MethodName)) ∈ lw_tbl := in_tb 1028 (by decide +kernel)
theorem wt_1030 : (Jvm.Cond.instanceMethod ({ cls := "BranchingStory$Explorer", name := "noteWaiting", desc := "(II)V" } : Jvm.MethodName)) ∈ lw_tbl := in_tb 1030 (by decide +kernel)
theorem wt_1031 : (Jvm.Cond.code ({ cls := "BranchingStory$Explorer", name := "noteWaiting", desc := "(II)V" } : Jvm.MethodName) prog_3_method_5_code (5 : Nat) (Option.none : Option Jvm.ClassFile.FieldType)) ∈ lw_tbl := in_tb 1031 (by decide +kernel)
theorem wt_1032 : (Jvm.Cond.methodLinkNest "BranchingStory$Explorer" (116 : Nat) ({ cls := "BranchingStory$Play", name := "key", desc := "()J" } : Jvm.MethodName) "BranchingStory") ∈ lw_tbl := in_tb 1032 (by decide +kernel)
theorem wt_1033 : (Jvm.Cond.methodLink "BranchingStory$Explorer" (120 : Nat) ({ cls := "BranchingStory$Explorer", name := "wasFound", desc := "(J)Z" } : Jvm.MethodName)) ∈ lw_tbl := in_tb 1033 (by decide +kernel)
theorem wt_1035 : (Jvm.Cond.instanceMethod ({ cls := "BranchingStory$Explorer", name := "wasFound", desc := "(J)Z" } : Jvm.MethodName)) ∈ lw_tbl := in_tb 1035 (by decide +kernel)
theorem wt_1036 : (Jvm.Cond.code ({ cls := "BranchingStory$Explorer", name := "wasFound", desc := "(J)Z" } : Jvm.MethodName) prog_3_method_6_code (4 : Nat) (Option.some Jvm.ClassFile.FieldType.boolean)) ∈ lw_tbl := in_tb 1036 (by decide +kernel)
theorem wt_1037 : (Jvm.Cond.methodLink "BranchingStory$Explorer" (124 : Nat) ({ cls := "BranchingStory$Explorer", name := "lengthBehind", desc := "(I)I" } : Jvm.MethodName)) ∈ lw_tbl := in_tb 1037 (by decide +kernel)
theorem wt_1039 : (Jvm.Cond.instanceMethod ({ cls := "BranchingStory$Explorer", name := "lengthBehind", desc := "(I)I" } : Jvm.MethodName)) ∈ lw_tbl := in_tb 1039 (by decide +kernel)
theorem wt_1040 : (Jvm.Cond.code ({ cls := "BranchingStory$Explorer", name := "lengthBehind", desc := "(I)I" } : Jvm.MethodName) prog_3_method_8_code (2 : Nat) (Option.some Jvm.ClassFile.FieldType.int)) ∈ lw_tbl := in_tb 1040 (by decide +kernel)
theorem wt_1041 : (Jvm.Cond.methodLinkNest "BranchingStory$Explorer" (127 : Nat) ({ cls := "BranchingStory", name := "entryOf", desc := "([II)I" } : Jvm.MethodName) "BranchingStory") ∈ lw_tbl := in_tb 1041 (by decide +kernel)
theorem wt_1042 : (Jvm.Cond.methodLink "BranchingStory$Explorer" (112 : Nat) ({ cls := "BranchingStory$Explorer", name := "noteOutcome", desc := "(III)V" } : Jvm.MethodName)) ∈ lw_tbl := in_tb 1042 (by decide +kernel)
theorem wt_1044 : (Jvm.Cond.instanceMethod ({ cls := "BranchingStory$Explorer", name := "noteOutcome", desc := "(III)V" } : Jvm.MethodName)) ∈ lw_tbl := in_tb 1044 (by decide +kernel)
theorem wt_1045 : (Jvm.Cond.code ({ cls := "BranchingStory$Explorer", name := "noteOutcome", desc := "(III)V" } : Jvm.MethodName) prog_3_method_7_code (4 : Nat) (Option.none : Option Jvm.ClassFile.FieldType)) ∈ lw_tbl := in_tb 1045 (by decide +kernel)
theorem wt_1046 : (Jvm.Cond.methodLinkNest "BranchingStory$Explorer" (86 : Nat) ({ cls := "BranchingStory$Play", name := "restore", desc := "(J)V" } : Jvm.MethodName) "BranchingStory") ∈ lw_tbl := in_tb 1046 (by decide +kernel)
theorem wt_1047 : (Jvm.Cond.methodLink "BranchingStory$Explorer" (93 : Nat) ({ cls := "java/lang/Integer", name := "bitCount", desc := "(I)I" } : Jvm.MethodName)) ∈ lw_tbl := in_tb 1047 (by decide +kernel)
theorem wt_1048 : (Jvm.Cond.methodLinkNest "BranchingStory$Explorer" (99 : Nat) ({ cls := "BranchingStory$Play", name := "take", desc := "(I)V" } : Jvm.MethodName) "BranchingStory") ∈ lw_tbl := in_tb 1048 (by decide +kernel)
theorem fl_X1_9 : FL RX1 9 1 6 := ⟨RX1, TX1, 14, rfl, by decide, inX1, Or.inl wt_331⟩
theorem fl_X1_15 : FL RX1 15 1 7 := ⟨RX1, TX1, 14, rfl, by decide, inX1, Or.inl wt_332⟩
theorem fl_X1_19 : FL RX1 19 1 8 := ⟨RX1, TX1, 14, rfl, by decide, inX1, Or.inl wt_333⟩
theorem fl_X1_22 : FL RX1 22 1 9 := ⟨RX1, TX1, 14, rfl, by decide, inX1, Or.inl wt_334⟩
theorem fl_X1_25 : FL RX1 25 1 10 := ⟨RX1, TX1, 14, rfl, by decide, inX1, Or.inl wt_335⟩
theorem fl_X1_28 : FL RX1 28 1 11 := ⟨RX1, TX1, 14, rfl, by decide, inX1, Or.inl wt_337⟩
theorem fl_X1_31 : FL RX1 31 1 12 := ⟨RX1, TX1, 14, rfl, by decide, inX1, Or.inl wt_338⟩
theorem fl_X1_34 : FL RX1 34 1 13 := ⟨RX1, TX1, 14, rfl, by decide, inX1, Or.inl wt_339⟩
theorem fl_X1_42 : FL RX1 42 1 0 := ⟨RX1, TX1, 14, rfl, by decide, inX1, Or.inl wt_320⟩
theorem fl_X1_49 : FL RX1 49 1 1 := ⟨RX1, TX1, 14, rfl, by decide, inX1, Or.inl wt_322⟩
theorem fl_X1_53 : FL RX1 53 1 2 := ⟨RX1, TX1, 14, rfl, by decide, inX1, Or.inl wt_324⟩
theorem fl_X1_56 : FL RX1 56 1 4 := ⟨RX1, TX1, 14, rfl, by decide, inX1, Or.inl wt_327⟩
theorem fl_X1_60 : FL RX1 60 1 5 := ⟨RX1, TX1, 14, rfl, by decide, inX1, Or.inl wt_329⟩
theorem fl_X1_76 : FL RX1 76 1 3 := ⟨RX1, TX1, 14, rfl, by decide, inX1, Or.inl wt_326⟩
theorem fl_X1_90 : FL RX1 90 4 8 := ⟨RX5, TX5, 11, rfl, by decide, inX5, Or.inr ⟨_, wt_258⟩⟩
theorem fl_X1_103 : FL RX1 103 4 1 := ⟨RX5, TX5, 11, rfl, by decide, inX5, Or.inr ⟨_, wt_243⟩⟩
theorem fl_X1_109 : FL RX1 109 4 2 := ⟨RX5, TX5, 11, rfl, by decide, inX5, Or.inr ⟨_, wt_246⟩⟩
theorem fl_X2_9 : FL RX2 9 2 2 := ⟨RX2, TX2, 5, rfl, by decide, inX2, Or.inl wt_297⟩
theorem fl_X2_15 : FL RX2 15 2 3 := ⟨RX2, TX2, 5, rfl, by decide, inX2, Or.inl wt_298⟩
theorem fl_X2_19 : FL RX2 19 2 4 := ⟨RX2, TX2, 5, rfl, by decide, inX2, Or.inl wt_299⟩
theorem fl_X2_22 : FL RX2 22 2 0 := ⟨RX2, TX2, 5, rfl, by decide, inX2, Or.inl wt_294⟩
theorem fl_X2_26 : FL RX2 26 2 1 := ⟨RX2, TX2, 5, rfl, by decide, inX2, Or.inl wt_296⟩
theorem fl_X2_41 : FL RX2 41 4 10 := ⟨RX5, TX5, 11, rfl, by decide, inX5, Or.inr ⟨_, wt_263⟩⟩
theorem fl_X2_44 : FL RX2 44 3 0 := ⟨RX4, TX4, 3, rfl, by decide, inX4, Or.inr ⟨_, wt_228⟩⟩
theorem fl_X2_49 : FL RX2 49 3 1 := ⟨RX4, TX4, 3, rfl, by decide, inX4, Or.inr ⟨_, wt_231⟩⟩
theorem fl_X5_12 : FL RX5 12 4 10 := ⟨RX5, TX5, 11, rfl, by decide, inX5, Or.inl wt_262⟩
theorem fl_X5_18 : FL RX5 18 4 0 := ⟨RX5, TX5, 11, rfl, by decide, inX5, Or.inl wt_241⟩
theorem fl_X5_22 : FL RX5 22 4 3 := ⟨RX5, TX5, 11, rfl, by decide, inX5, Or.inl wt_248⟩
theorem fl_X5_26 : FL RX5 26 4 4 := ⟨RX5, TX5, 11, rfl, by decide, inX5, Or.inl wt_250⟩
theorem fl_X5_29 : FL RX5 29 4 1 := ⟨RX5, TX5, 11, rfl, by decide, inX5, Or.inl wt_242⟩
theorem fl_X5_32 : FL RX5 32 4 2 := ⟨RX5, TX5, 11, rfl, by decide, inX5, Or.inl wt_245⟩
theorem fl_X5_35 : FL RX5 35 4 5 := ⟨RX5, TX5, 11, rfl, by decide, inX5, Or.inl wt_252⟩
theorem fl_X5_38 : FL RX5 38 4 6 := ⟨RX5, TX5, 11, rfl, by decide, inX5, Or.inl wt_254⟩
theorem fl_X5_41 : FL RX5 41 4 7 := ⟨RX5, TX5, 11, rfl, by decide, inX5, Or.inl wt_256⟩
theorem fl_X5_44 : FL RX5 44 4 8 := ⟨RX5, TX5, 11, rfl, by decide, inX5, Or.inl wt_257⟩
theorem fl_X5_47 : FL RX5 47 4 9 := ⟨RX5, TX5, 11, rfl, by decide, inX5, Or.inl wt_260⟩
theorem fl_X5_74 : FL RX5 74 6 17 := ⟨RX7, TX7, 19, rfl, by decide, inX7, Or.inr ⟨_, wt_120⟩⟩
theorem fl_X5_89 : FL RX5 89 6 1 := ⟨RX7, TX7, 19, rfl, by decide, inX7, Or.inr ⟨_, wt_63⟩⟩
theorem fl_X5_102 : FL RX5 102 6 2 := ⟨RX7, TX7, 19, rfl, by decide, inX7, Or.inr ⟨_, wt_67⟩⟩
theorem fl_X5_108 : FL RX5 108 6 3 := ⟨RX7, TX7, 19, rfl, by decide, inX7, Or.inr ⟨_, wt_70⟩⟩
theorem fl_X5_118 : FL RX5 118 6 5 := ⟨RX7, TX7, 19, rfl, by decide, inX7, Or.inr ⟨_, wt_77⟩⟩
theorem fl_X5_121 : FL RX5 121 6 6 := ⟨RX7, TX7, 19, rfl, by decide, inX7, Or.inr ⟨_, wt_81⟩⟩
theorem fl_X5_124 : FL RX5 124 6 4 := ⟨RX7, TX7, 19, rfl, by decide, inX7, Or.inr ⟨_, wt_74⟩⟩
theorem fl_X5_134 : FL RX5 134 6 9 := ⟨RX7, TX7, 19, rfl, by decide, inX7, Or.inr ⟨_, wt_92⟩⟩
theorem fl_X5_138 : FL RX5 138 6 7 := ⟨RX7, TX7, 19, rfl, by decide, inX7, Or.inr ⟨_, wt_85⟩⟩
theorem fl_X5_141 : FL RX5 141 6 8 := ⟨RX7, TX7, 19, rfl, by decide, inX7, Or.inr ⟨_, wt_88⟩⟩
theorem fl_X5_153 : FL RX5 153 6 12 := ⟨RX7, TX7, 19, rfl, by decide, inX7, Or.inr ⟨_, wt_104⟩⟩
theorem fp_X1_49 : FP RX1 49 1 1 .boolean := ⟨RX1, TX1, 14, tyX1, rfl, by decide, inX1, tyX1_ok, nmX1, rfl, by decide +kernel, Or.inl wt_322⟩
theorem fp_X1_53 : FP RX1 53 1 2 .boolean := ⟨RX1, TX1, 14, tyX1, rfl, by decide, inX1, tyX1_ok, nmX1, rfl, by decide +kernel, Or.inl wt_324⟩
theorem fp_X1_56 : FP RX1 56 1 4 .int := ⟨RX1, TX1, 14, tyX1, rfl, by decide, inX1, tyX1_ok, nmX1, rfl, by decide +kernel, Or.inl wt_327⟩
theorem fp_X1_60 : FP RX1 60 1 5 .int := ⟨RX1, TX1, 14, tyX1, rfl, by decide, inX1, tyX1_ok, nmX1, rfl, by decide +kernel, Or.inl wt_329⟩
theorem fp_X1_76 : FP RX1 76 1 3 .int := ⟨RX1, TX1, 14, tyX1, rfl, by decide, inX1, tyX1_ok, nmX1, rfl, by decide +kernel, Or.inl wt_326⟩
theorem fp_X2_22 : FP RX2 22 2 0 .int := ⟨RX2, TX2, 5, tyX2, rfl, by decide, inX2, tyX2_ok, nmX2, rfl, by decide +kernel, Or.inl wt_294⟩
theorem fp_X2_26 : FP RX2 26 2 1 .int := ⟨RX2, TX2, 5, tyX2, rfl, by decide, inX2, tyX2_ok, nmX2, rfl, by decide +kernel, Or.inl wt_296⟩
theorem fp_X2_44 : FP RX2 44 3 0 .int := ⟨RX4, TX4, 3, tyX4, rfl, by decide, inX4, tyX4_ok, nmX4, rfl, by decide +kernel, Or.inr ⟨_, wt_228⟩⟩
theorem fp_X5_18 : FP RX5 18 4 0 (.object "BranchingStory$Story") := ⟨RX5, TX5, 11, tyX5, rfl, by decide, inX5, tyX5_ok, nmX5, rfl, by decide +kernel, Or.inl wt_241⟩
theorem fp_X5_22 : FP RX5 22 4 3 .int := ⟨RX5, TX5, 11, tyX5, rfl, by decide, inX5, tyX5_ok, nmX5, rfl, by decide +kernel, Or.inl wt_248⟩
theorem fp_X5_26 : FP RX5 26 4 4 .int := ⟨RX5, TX5, 11, tyX5, rfl, by decide, inX5, tyX5_ok, nmX5, rfl, by decide +kernel, Or.inl wt_250⟩
theorem fp_X5_29 : FP RX5 29 4 1 .int := ⟨RX5, TX5, 11, tyX5, rfl, by decide, inX5, tyX5_ok, nmX5, rfl, by decide +kernel, Or.inl wt_242⟩
theorem fp_X5_32 : FP RX5 32 4 2 .int := ⟨RX5, TX5, 11, tyX5, rfl, by decide, inX5, tyX5_ok, nmX5, rfl, by decide +kernel, Or.inl wt_245⟩
theorem fp_X5_35 : FP RX5 35 4 5 .int := ⟨RX5, TX5, 11, tyX5, rfl, by decide, inX5, tyX5_ok, nmX5, rfl, by decide +kernel, Or.inl wt_252⟩
theorem fp_X5_38 : FP RX5 38 4 6 .int := ⟨RX5, TX5, 11, tyX5, rfl, by decide, inX5, tyX5_ok, nmX5, rfl, by decide +kernel, Or.inl wt_254⟩
theorem fp_X5_41 : FP RX5 41 4 7 .int := ⟨RX5, TX5, 11, tyX5, rfl, by decide, inX5, tyX5_ok, nmX5, rfl, by decide +kernel, Or.inl wt_256⟩
theorem fp_X5_44 : FP RX5 44 4 8 .int := ⟨RX5, TX5, 11, tyX5, rfl, by decide, inX5, tyX5_ok, nmX5, rfl, by decide +kernel, Or.inl wt_257⟩
theorem fp_X5_47 : FP RX5 47 4 9 .int := ⟨RX5, TX5, 11, tyX5, rfl, by decide, inX5, tyX5_ok, nmX5, rfl, by decide +kernel, Or.inl wt_260⟩
theorem cs_X1_46 : CVw RX1 46 yX5_forget cX5_forget 2 none 1 := ⟨Or.inr ⟨_, wt_758⟩, wt_744, in_sl (n := 11) 34 (by decide +kernel), wt_5, wt_745, by decide, by decide, by decide +kernel⟩
theorem cs_X1_63 : CSw RX1 63 yJA_fillI cJA_fillI 4 none 2 := ⟨Or.inl wt_759, wt_465, wt_16, wt_466, by decide, by decide, by decide +kernel⟩
theorem cs_X1_69 : CVw RX1 69 yX1_forget cX1_forget 2 none 1 := ⟨Or.inl wt_1021, wt_756, in_sl (n := 14) 37 (by decide +kernel), wt_8, wt_757, by decide, by decide, by decide +kernel⟩
theorem cs_X1_70 : CSw RX1 70 yJM_min cJM_min 2 (some .int) 2 := ⟨Or.inl wt_1022, wt_468, wt_17, wt_469, by decide, by decide, by decide +kernel⟩
theorem cs_X1_79 : CVw RX1 79 yX5_begin cX5_begin 2 none 1 := ⟨Or.inr ⟨_, wt_1023⟩, wt_847, in_sl (n := 11) 43 (by decide +kernel), wt_5, wt_848, by decide, by decide, by decide +kernel⟩
theorem cs_X1_82 : CVw RX1 82 yX1_note cX1_note 3 none 2 := ⟨Or.inl wt_1024, wt_1026, in_sl (n := 14) 64 (by decide +kernel), wt_8, wt_1027, by decide, by decide, by decide +kernel⟩
theorem cs_X1_86 : CVw RX1 86 yX5_restore cX5_restore 3 none 1 := ⟨Or.inr ⟨_, wt_1046⟩, wt_959, in_sl (n := 11) 61 (by decide +kernel), wt_5, wt_960, by decide, by decide, by decide +kernel⟩
theorem cs_X1_93 : CSw RX1 93 yJI_bitCount cJI_bitCount 1 (some .int) 1 := ⟨Or.inl wt_1047, wt_632, wt_19, wt_633, by decide, by decide, by decide +kernel⟩
theorem cs_X1_99 : CVw RX1 99 yX5_take cX5_take 3 none 1 := ⟨Or.inr ⟨_, wt_1048⟩, wt_934, in_sl (n := 11) 57 (by decide +kernel), wt_5, wt_935, by decide, by decide, by decide +kernel⟩
theorem cs_X1_106 : CVw RX1 106 yX1_noteWaiting cX1_noteWaiting 5 none 2 := ⟨Or.inl wt_1028, wt_1030, in_sl (n := 14) 65 (by decide +kernel), wt_8, wt_1031, by decide, by decide, by decide +kernel⟩
theorem cs_X1_112 : CVw RX1 112 yX1_noteOutcome cX1_noteOutcome 4 none 3 := ⟨Or.inl wt_1042, wt_1044, in_sl (n := 14) 68 (by decide +kernel), wt_8, wt_1045, by decide, by decide, by decide +kernel⟩
theorem cs_X1_116 : CVw RX1 116 yX5_key cX5_key 3 (some .long) 0 := ⟨Or.inr ⟨_, wt_1032⟩, wt_926, in_sl (n := 11) 56 (by decide +kernel), wt_5, wt_927, by decide, by decide, by decide +kernel⟩
theorem cs_X1_120 : CVw RX1 120 yX1_wasFound cX1_wasFound 4 (some .boolean) 1 := ⟨Or.inl wt_1033, wt_1035, in_sl (n := 14) 66 (by decide +kernel), wt_8, wt_1036, by decide, by decide, by decide +kernel⟩
theorem cs_X1_124 : CVw RX1 124 yX1_lengthBehind cX1_lengthBehind 2 (some .int) 1 := ⟨Or.inl wt_1037, wt_1039, in_sl (n := 14) 67 (by decide +kernel), wt_8, wt_1040, by decide, by decide, by decide +kernel⟩
theorem cs_X1_127 : CSw RX1 127 yX9_entryOf cX9_entryOf 2 (some .int) 2 := ⟨Or.inr ⟨_, wt_1041⟩, wt_520, wt_1, wt_521, by decide, by decide, by decide +kernel⟩
theorem cs_X2_29 : CSw RX2 29 yJM_floorMod cJM_floorMod 3 (some .int) 2 := ⟨Or.inl wt_923, wt_878, wt_17, wt_879, by decide, by decide, by decide +kernel⟩
theorem cs_X2_35 : CVw RX2 35 yX5_key cX5_key 3 (some .long) 0 := ⟨Or.inr ⟨_, wt_924⟩, wt_926, in_sl (n := 11) 56 (by decide +kernel), wt_5, wt_927, by decide, by decide, by decide +kernel⟩
theorem cs_X2_58 : CSw RX2 58 yJM_min cJM_min 2 (some .int) 2 := ⟨Or.inl wt_931, wt_468, wt_17, wt_469, by decide, by decide, by decide +kernel⟩
theorem cs_X2_61 : CVw RX2 61 yX5_restore cX5_restore 3 none 1 := ⟨Or.inr ⟨_, wt_957⟩, wt_959, in_sl (n := 11) 61 (by decide +kernel), wt_5, wt_960, by decide, by decide, by decide +kernel⟩
theorem cs_X2_65 : CSw RX2 65 yJM_max cJM_max 2 (some .int) 2 := ⟨Or.inl wt_965, wt_475, wt_17, wt_476, by decide, by decide, by decide +kernel⟩
theorem cs_X5_50 : CVw RX5 50 yX4_empty cX4_empty 2 none 0 := ⟨Or.inr ⟨_, wt_746⟩, wt_748, in_sl (n := 3) 35 (by decide +kernel), wt_6, wt_749, by decide, by decide, by decide +kernel⟩
theorem cs_X5_53 : CVw RX5 53 yX5_forget cX5_forget 2 none 1 := ⟨Or.inl wt_849, wt_744, in_sl (n := 11) 34 (by decide +kernel), wt_5, wt_745, by decide, by decide, by decide +kernel⟩
theorem cs_X5_57 : CVw RX5 57 yX5_enter cX5_enter 2 (some .int) 1 := ⟨Or.inl wt_850, wt_852, in_sl (n := 11) 44 (by decide +kernel), wt_5, wt_853, by decide, by decide, by decide +kernel⟩
theorem cs_X5_61 : CVw RX5 61 yX5_run cX5_run 6 none 1 := ⟨Or.inl wt_856, wt_858, in_sl (n := 11) 45 (by decide +kernel), wt_5, wt_859, by decide, by decide, by decide +kernel⟩
theorem cs_X5_65 : CVw RX5 65 yX5_choiceAt cX5_choiceAt 4 (some .int) 1 := ⟨Or.inl wt_936, wt_938, in_sl (n := 11) 58 (by decide +kernel), wt_5, wt_939, by decide, by decide, by decide +kernel⟩
theorem cs_X5_68 : CVw RX5 68 yX7_standsInHub cX7_standsInHub 2 (some .boolean) 1 := ⟨Or.inr ⟨_, wt_940⟩, wt_942, in_sl (n := 19) 59 (by decide +kernel), wt_2, wt_943, by decide, by decide, by decide +kernel⟩
theorem cs_X5_86 : CVw RX5 86 yX7_has cX7_has 2 (some .boolean) 1 := ⟨Or.inr ⟨_, wt_860⟩, wt_528, in_sl (n := 19) 14 (by decide +kernel), wt_2, wt_529, by decide, by decide, by decide +kernel⟩
theorem cs_X5_92 : CVw RX5 92 yX5_endBlock cX5_endBlock 2 (some .int) 1 := ⟨Or.inl wt_861, wt_863, in_sl (n := 11) 46 (by decide +kernel), wt_5, wt_864, by decide, by decide, by decide +kernel⟩
theorem cs_X5_95 : CVw RX5 95 yX5_endFlow cX5_endFlow 2 (some .int) 1 := ⟨Or.inl wt_865, wt_867, in_sl (n := 11) 47 (by decide +kernel), wt_5, wt_868, by decide, by decide, by decide +kernel⟩
theorem cs_X5_98 : CVw RX5 98 yX5_execute cX5_execute 4 (some .int) 2 := ⟨Or.inl wt_869, wt_871, in_sl (n := 11) 48 (by decide +kernel), wt_5, wt_872, by decide, by decide, by decide +kernel⟩
theorem cs_X5_105 : CVw RX5 105 yX4_append cX4_append 2 none 1 := ⟨Or.inr ⟨_, wt_873⟩, wt_875, in_sl (n := 3) 49 (by decide +kernel), wt_6, wt_876, by decide, by decide, by decide +kernel⟩
theorem cs_X5_111 : CVw RX5 111 yX5_changeMeter cX5_changeMeter 5 none 3 := ⟨Or.inl wt_880, wt_882, in_sl (n := 11) 50 (by decide +kernel), wt_5, wt_883, by decide, by decide, by decide +kernel⟩
theorem cs_X5_115 : CVw RX5 115 yX5_conditionHolds cX5_conditionHolds 2 (some .boolean) 1 := ⟨Or.inl wt_892, wt_894, in_sl (n := 11) 51 (by decide +kernel), wt_5, wt_895, by decide, by decide, by decide +kernel⟩
theorem cs_X5_127 : CSw RX5 127 yX9_meterIn cX9_meterIn 2 (some .int) 2 := ⟨Or.inr ⟨_, wt_884⟩, wt_885, wt_1, wt_886, by decide, by decide, by decide +kernel⟩
theorem cs_X5_130 : CSw RX5 130 yX9_changedMeter cX9_changedMeter 3 (some .int) 3 := ⟨Or.inr ⟨_, wt_887⟩, wt_888, wt_1, wt_889, by decide, by decide, by decide +kernel⟩
theorem cs_X5_144 : CVw RX5 144 yX8_allHold cX8_allHold 7 (some .boolean) 4 := ⟨Or.inr ⟨_, wt_896⟩, wt_898, in_sl (n := 4) 52 (by decide +kernel), wt_3, wt_899, by decide, by decide, by decide +kernel⟩
theorem cs_X5_150 : CVw RX5 150 yX7_standsAsHub cX7_standsAsHub 2 (some .boolean) 1 := ⟨Or.inr ⟨_, wt_854⟩, wt_812, in_sl (n := 19) 40 (by decide +kernel), wt_2, wt_813, by decide, by decide, by decide +kernel⟩
theorem cs_X5_156 : CSw RX5 156 yX9_entryOf cX9_entryOf 2 (some .int) 2 := ⟨Or.inr ⟨_, wt_855⟩, wt_520, wt_1, wt_521, by decide, by decide, by decide +kernel⟩
theorem cs_X6_32 : CVw RX6 32 yX6_begin cX6_begin 2 none 1 := ⟨Or.inl wt_456, wt_458, in_sl (n := 14) 1 (by decide +kernel), wt_4, wt_459, by decide, by decide, by decide +kernel⟩
theorem cs_X6_49 : CVw RX6 49 yX6_measureNumber cX6_measureNumber 4 none 2 := ⟨Or.inl wt_470, wt_472, in_sl (n := 14) 3 (by decide +kernel), wt_4, wt_473, by decide, by decide, by decide +kernel⟩
theorem cs_X6_53 : CVw RX6 53 yX6_takes cX6_takes 2 (some .boolean) 1 := ⟨Or.inl wt_480, wt_482, in_sl (n := 14) 4 (by decide +kernel), wt_4, wt_483, by decide, by decide, by decide +kernel⟩
theorem cs_X6_57 : CVw RX6 57 yX6_canEnd cX6_canEnd 1 (some .boolean) 0 := ⟨Or.inl wt_599, wt_601, in_sl (n := 14) 30 (by decide +kernel), wt_4, wt_602, by decide, by decide, by decide +kernel⟩
theorem cs_X6_70 : CVw RX6 70 yX6_linkAll cX6_linkAll 4 (some .int) 0 := ⟨Or.inl wt_603, wt_605, in_sl (n := 14) 31 (by decide +kernel), wt_4, wt_606, by decide, by decide, by decide +kernel⟩
theorem cs_X6_243 : CVw RX6 243 yX6_linkOne cX6_linkOne 3 none 1 := ⟨Or.inl wt_607, wt_609, in_sl (n := 14) 32 (by decide +kernel), wt_4, wt_610, by decide, by decide, by decide +kernel⟩
/-! BranchingStory$Reader.linkAll()I -/
def f_X6_linkAll_J74 (k16 : St → Int → Int → Prop) (Q : St → Int → Prop) (σ : St) (v1 : Int) (v2 : Int) : Prop :=
  f_X6_linkOne v2 σ (fun σ1 => k16 σ1 v1 (v2 + 1))
def f_X6_linkAll_L16 (Q : St → Int → Prop) : Nat → St → Int → Int → Prop
  | 0, _, _, _ => False
  | n + 1, σ, v1, v2 => inR v2 ∧ inR v1 ∧ ((v1 ≤ v2 → Q σ (-1)) ∧ (¬ v1 ≤ v2 → isS ((σ 38 0).toNat) ∧ 0 ≤ v2 ∧ v2 < 400 ∧ inR (σ ((σ 38 0).toNat + 1) v2.toNat) ∧ ((¬ (σ ((σ 38 0).toNat + 1) v2.toNat) = 8 → f_X6_linkAll_J74 (fun σ' v1' v2' => f_X6_linkAll_L16 Q n σ' v1' v2') Q σ v1 v2) ∧ ((σ ((σ 38 0).toNat + 1) v2.toNat) = 8 → 0 ≤ v2 ∧ v2 < 400 ∧ f_X9_entryOf 39 (σ ((σ 38 0).toNat + 2) v2.toNat) σ (fun σ1 r1 => inR r1 ∧ ((¬ r1 = (-1) → isS ((σ1 38 0).toNat) ∧ 0 ≤ v2 ∧ v2 < 400 ∧ ∀ σ2 : St, σ2 = sset σ1 ((σ1 38 0).toNat + 2) v2.toNat r1 → f_X6_linkAll_J74 (fun σ' v1' v2' => f_X6_linkAll_L16 Q n σ' v1' v2') Q σ2 v1 v2) ∧ (r1 = (-1) → 0 ≤ v2 ∧ v2 < 400 ∧ Q σ1 (σ1 43 v2.toNat))))))))
def f_X6_linkAll (σ : St) (Q : St → Int → Prop) : Prop :=
  isS ((σ 38 0).toNat) ∧ f_JM_min (σ ((σ 38 0).toNat) 0) 400 σ (fun σ1 r1 => f_X6_linkAll_L16 Q FU σ1 r1 0)
set_option maxRecDepth 100000 in
set_option maxHeartbeats 4000000 in
theorem w_X6_linkAll_J74 {X : Cx} {Y : Cy} {k16 : St → Int → Int → Prop} {Q : St → Int → Prop} (ok : Ok X Y KC cX6_linkAll 4 RX6 (rm0q 2 44) (some .int)) (hk16 : ∀ (σ : St) (v1 : Int) (v2 : Int) , k16 σ v1 v2 → Wq X Y KC 4 (QF X Y (Qiq Y KC Q)) σ 16 [(0, .inr (.inr 38)), (1, .inl v1), (2, .inl v2)] []) (σ : St) (v1 : Int) (v2 : Int) (h : f_X6_linkAll_J74 k16 Q σ v1 v2) : Wq X Y KC 4 (QF X Y (Qiq Y KC Q)) σ 74 [(0, .inr (.inr 38)), (1, .inl v1), (2, .inl v2)] [] := by
  unfold f_X6_linkAll_J74 at h
  refine q_aload_n ok dX6_linkAll_74 0 rfl ?_
  refine q_iload_n ok dX6_linkAll_75 2 rfl ?_
  refine q_callVV (st := []) ok cs_X6_243 kC_38 rfl (c_X6_linkOne X.2.1 Y ok.2.2.2.2.2.2.2.2 h) ⟨rfl, rfl, Nat.le_of_ble_eq_true rfl, Nat.le_of_ble_eq_true rfl⟩ rfl rfl (Nat.le_of_ble_eq_true rfl) dX6_linkAll_76 (fun σ1 h => ?_)
  refine q_iinc (lv' := [(2, .inl (v2 + 1)), (0, .inr (.inr 38)), (1, .inl v1)]) ok dX6_linkAll_79 2 rfl (by decide) rfl ?_
  refine q_goto (tgt := 16) ok dX6_linkAll_82 (by decide) ?_
  refine q_sub [1, 2, 0] rfl ?_
  exact hk16 σ1 v1 (v2 + 1) h
set_option maxRecDepth 100000 in
set_option maxHeartbeats 4000000 in
theorem w_X6_linkAll_L16 {X : Cx} {Y : Cy} {Q : St → Int → Prop} (ok : Ok X Y KC cX6_linkAll 4 RX6 (rm0q 2 44) (some .int)) : ∀ (n : Nat) (σ : St) (v1 : Int) (v2 : Int) , f_X6_linkAll_L16 Q n σ v1 v2 → Wq X Y KC 4 (QF X Y (Qiq Y KC Q)) σ 16 [(0, .inr (.inr 38)), (1, .inl v1), (2, .inl v2)] [] := by
  intro n
  induction n with
  | zero => intro σ v1 v2 h; exact h.elim
  | succ n ih =>
    intro σ v1 v2 h
    rw [f_X6_linkAll_L16] at h
    refine q_iload_n ok dX6_linkAll_16 2 rfl ?_
    refine q_iload_n ok dX6_linkAll_17 1 rfl ?_
    obtain ⟨g1, g2, hT3a, hT3b⟩ := h
    refine q_icmp_ge (tgt := 85) ok dX6_linkAll_18 (by decide) g1 g2 (fun c3 => ?_) (fun c3 => ?_)
    · have h := hT3a c3
      refine q_iconst ok dX6_linkAll_85 ?_
      exact q_iret ok dX6_linkAll_86 h
    · have h := hT3b c3
      refine q_aload_n ok dX6_linkAll_21 0 rfl ?_
      refine q_getR ok fl_X6_28 kC_38 fC_38_0 dX6_linkAll_22 ?_
      obtain ⟨g3, h⟩ := h
      refine q_getC ok fl_X6_241 (kX7_0 g3) (fIX7_1 ((σ 38 0).toNat)) dX6_linkAll_25 ?_
      refine q_iload_n ok dX6_linkAll_28 2 rfl ?_
      obtain ⟨g4, g5, h⟩ := h
      refine q_iald ok kC_ok (kX7_1 g3) g4 g5 dX6_linkAll_29 ?_
      refine q_bipush ok dX6_linkAll_30 rfl ?_
      obtain ⟨g6, hT2a, hT2b⟩ := h
      refine q_icmp_ne (tgt := 74) ok dX6_linkAll_32 (by decide) g6 (by unfold inR; decide) (fun c2 => ?_) (fun c2 => ?_)
      · have h := hT2a c2
        exact w_X6_linkAll_J74 ok ih σ v1 v2 h
      · have h := hT2b c2
        refine q_aload_n ok dX6_linkAll_35 0 rfl ?_
        refine q_getC ok fl_X6_9 kC_38 fC_38_9 dX6_linkAll_36 ?_
        refine q_aload_n ok dX6_linkAll_39 0 rfl ?_
        refine q_getR ok fl_X6_28 kC_38 fC_38_0 dX6_linkAll_40 ?_
        refine q_getC ok fl_X6_223 (kX7_0 g3) (fIX7_2 ((σ 38 0).toNat)) dX6_linkAll_43 ?_
        refine q_iload_n ok dX6_linkAll_46 2 rfl ?_
        obtain ⟨g7, g8, h⟩ := h
        refine q_iald ok kC_ok (kX7_2 g3) g7 g8 dX6_linkAll_47 ?_
        refine q_callSI (st := []) ok cs_X6_202 (c_X9_entryOf X.2.1 Y ok.2.2.2.2.2.2.2.2 h) ⟨rfl, rfl, Nat.le_of_ble_eq_true rfl, Nat.le_of_ble_eq_true rfl⟩ rfl rfl (Nat.le_of_ble_eq_true rfl) dX6_linkAll_48 (fun σ1 r1 h => ?_)
        refine q_istore_n (lv' := [(3, .inl r1), (0, .inr (.inr 38)), (1, .inl v1), (2, .inl v2)]) ok dX6_linkAll_51 (by decide) rfl ?_
        refine q_iload_n ok dX6_linkAll_52 0 rfl ?_
        refine q_iconst ok dX6_linkAll_53 ?_
        obtain ⟨g9, hT1a, hT1b⟩ := h
        refine q_icmp_ne (tgt := 64) ok dX6_linkAll_54 (by decide) g9 (by unfold inR; decide) (fun c1 => ?_) (fun c1 => ?_)
        · have h := hT1a c1
          refine q_aload_n ok dX6_linkAll_64 1 rfl ?_
          refine q_getR ok fl_X6_28 kC_38 fC_38_0 dX6_linkAll_65 ?_
          obtain ⟨g10, h⟩ := h
          refine q_getC ok fl_X6_223 (kX7_0 g10) (fIX7_2 ((σ1 38 0).toNat)) dX6_linkAll_68 ?_
          refine q_iload_n ok dX6_linkAll_71 3 rfl ?_
          refine q_iload_n ok dX6_linkAll_72 0 rfl ?_
          obtain ⟨g11, g12, h⟩ := h
          refine q_iast ok kC_ok (kX7_2 g10) g11 g12 dX6_linkAll_73 (wq_s (fun σ2 eσ2 => ?_))
          have h := h σ2 eσ2
          refine q_sub [1, 2, 3] rfl ?_
          exact w_X6_linkAll_J74 ok ih σ2 v1 v2 h
        · have h := hT1b c1
          refine q_aload_n ok dX6_linkAll_57 1 rfl ?_
          refine q_getC ok fl_X6_25 kC_38 fC_38_13 dX6_linkAll_58 ?_
          refine q_iload_n ok dX6_linkAll_61 3 rfl ?_
          obtain ⟨g13, g14, h⟩ := h
          refine q_iald ok kC_ok kC_43 g13 g14 dX6_linkAll_62 ?_
          exact q_iret ok dX6_linkAll_63 h
set_option maxRecDepth 100000 in
set_option maxHeartbeats 4000000 in
theorem c_X6_linkAll (l : Launch) (Y : Cy) (hD : ∀ σ, va_D Y.2.2.2 (wsOf KC Y.2.1 Y.2.2.1 σ)) {σ : St} {Q : St → Int → Prop} (h : f_X6_linkAll  σ Q) : ConI l yX6_linkAll cX6_linkAll 4 .int (rm0q 2 44) Y KC σ [.inr (.inr 38)] Q := con_of (lv := [(0, .inr (.inr 38))]) (by decide) hD (Nat.le_of_ble_eq_true rfl) rfl (fun X _ ok => by
  have ok : Ok X Y KC cX6_linkAll 4 RX6 (rm0q 2 44) (some .int) := ok
  unfold f_X6_linkAll at h
  refine q_aload_n ok dX6_linkAll_0 0 rfl ?_
  refine q_getR ok fl_X6_28 kC_38 fC_38_0 dX6_linkAll_1 ?_
  obtain ⟨g1, h⟩ := h
  refine q_getI ok fl_X6_171 (kX7_0 g1) (fIX7_0 ((σ 38 0).toNat)) dX6_linkAll_4 ?_
  refine q_sipush ok dX6_linkAll_7 rfl ?_
  refine q_callSI (st := []) ok cs_X6_36 (c_JM_min X.2.1 Y ok.2.2.2.2.2.2.2.2 h) ⟨rfl, rfl, Nat.le_of_ble_eq_true rfl, Nat.le_of_ble_eq_true rfl⟩ rfl rfl (Nat.le_of_ble_eq_true rfl) dX6_linkAll_10 (fun σ1 r1 h => ?_)
  refine q_istore_n (lv' := [(1, .inl r1), (0, .inr (.inr 38))]) ok dX6_linkAll_13 (by decide) rfl ?_
  refine q_iconst ok dX6_linkAll_14 ?_
  refine q_istore_n (lv' := [(2, .inl 0), (1, .inl r1), (0, .inr (.inr 38))]) ok dX6_linkAll_15 (by decide) rfl ?_
  refine q_sub [2, 1, 0] rfl ?_
  exact w_X6_linkAll_L16 ok FU σ1 r1 0 h)
/-! BranchingStory$Reader.read([IILBranchingStory$Story;)I -/
def f_X6_read_J81 (k16 : St → Nat → Int → Int → Int → Prop) (Q : St → Int → Prop) (σ : St) (v1 : Nat) (v2 : Int) (v4 : Int) (v5 : Int) : Prop :=
  ∀ σ1 : St, σ1 = sset σ 38 3 ((σ 38 3) + (σ 38 4)) → k16 σ1 v1 v2 v4 (v5 + 1)
def f_X6_read_J100 (Q : St → Int → Prop) (σ : St) (v2 : Int) : Prop :=
  f_X6_canEnd σ (fun σ1 r1 => inR r1 ∧ ((¬ r1 = 0 → isS ((σ1 38 0).toNat) ∧ f_X6_add 11 ((σ1 ((σ1 38 0).toNat) 10) - 1) 0 σ1 (fun σ2 r2 => f_X6_linkAll σ2 (fun σ3 r3 => Q σ3 r3))) ∧ (r1 = 0 → Q σ1 v2)))
def f_X6_read_L16 (Q : St → Int → Prop) : Nat → St → Nat → Int → Int → Int → Prop
  | 0, _, _, _, _, _ => False
  | n + 1, σ, v1, v2, v4, v5 => inR v5 ∧ ((400 ≤ v5 → f_X6_read_J100 Q σ v2) ∧ (¬ 400 ≤ v5 → inR (σ 38 3) ∧ (((σ 38 3) < 0 → f_X6_read_J100 Q σ v2) ∧ (¬ (σ 38 3) < 0 → inR (σ 38 3) ∧ inR v4 ∧ ((v4 ≤ (σ 38 3) → f_X6_read_J100 Q σ v2) ∧ (¬ v4 ≤ (σ 38 3) → ∀ σ1 : St, σ1 = sset σ 38 4 1 → isIA KC v1 ∧ 0 ≤ (σ1 38 3) ∧ (σ1 38 3) < ((alen KC v1 : Nat) : Int) ∧ inR (σ1 v1 (σ1 38 3).toNat) ∧ (((σ1 v1 (σ1 38 3).toNat) = 32 → f_X6_read_J81 (fun σ' v1' v2' v4' v5' => f_X6_read_L16 Q n σ' v1' v2' v4' v5') Q σ1 v1 v2 v4 v5) ∧ (¬ (σ1 v1 (σ1 38 3).toNat) = 32 → f_X6_measureNumber v1 v4 σ1 (fun σ2 => 0 ≤ (σ2 38 3) ∧ (σ2 38 3) < ((alen KC v1 : Nat) : Int) ∧ f_X6_takes (σ2 v1 (σ2 38 3).toNat) σ2 (fun σ3 r1 => inR r1 ∧ ((¬ r1 = 0 → f_X6_read_J81 (fun σ' v1' v2' v4' v5' => f_X6_read_L16 Q n σ' v1' v2' v4' v5') Q σ3 v1 v2 v4 v5) ∧ (r1 = 0 → Q σ3 (σ3 38 3)))))))))))))
def f_X6_read (a0 : Nat) (a1 : Int) (a2 : Nat) (σ : St) (Q : St → Int → Prop) : Prop :=
  f_X6_begin a2 σ (fun σ1 => isIA KC a0 ∧ f_JM_min a1 ((alen KC a0 : Nat) : Int) σ1 (fun σ2 r1 => f_X6_read_L16 Q FU σ2 a0 a1 r1 0))
set_option maxRecDepth 100000 in
set_option maxHeartbeats 4000000 in
theorem w_X6_read_J81 {X : Cx} {Y : Cy} {k16 : St → Nat → Int → Int → Int → Prop} {Q : St → Int → Prop} (ok : Ok X Y KC cX6_read 6 RX6 (rm0q 6 133) (some .int)) (hk16 : ∀ (σ : St) (v1 : Nat) (v2 : Int) (v4 : Int) (v5 : Int) , k16 σ v1 v2 v4 v5 → Wq X Y KC 6 (QF X Y (Qiq Y KC Q)) σ 16 [(0, .inr (.inr 38)), (1, .inr (.inr v1)), (2, .inl v2), (4, .inl v4), (5, .inl v5)] []) (σ : St) (v1 : Nat) (v2 : Int) (v4 : Int) (v5 : Int) (h : f_X6_read_J81 k16 Q σ v1 v2 v4 v5) : Wq X Y KC 6 (QF X Y (Qiq Y KC Q)) σ 81 [(0, .inr (.inr 38)), (1, .inr (.inr v1)), (2, .inl v2), (4, .inl v4), (5, .inl v5)] [] := by
  unfold f_X6_read_J81 at h
  refine q_aload_n ok dX6_read_81 0 rfl ?_
  refine q_dup ok dX6_read_82 rfl ?_
  refine q_getI ok fl_X6_42 kC_38 fC_38_3 dX6_read_83 ?_
  refine q_aload_n ok dX6_read_86 0 rfl ?_
  refine q_getI ok fl_X6_46 kC_38 fC_38_4 dX6_read_87 ?_
  refine q_iadd ok dX6_read_90 ?_
  refine q_putI ok fp_X6_42 kC_38 fC_38_3 dX6_read_91 (wq_s (fun σ1 eσ1 => ?_))
  have h := h σ1 eσ1
  refine q_iinc (lv' := [(5, .inl (v5 + 1)), (0, .inr (.inr 38)), (1, .inr (.inr v1)), (2, .inl v2), (4, .inl v4)]) ok dX6_read_94 4 rfl (by decide) rfl ?_
  refine q_goto (tgt := 16) ok dX6_read_97 (by decide) ?_
  refine q_sub [1, 2, 3, 4, 0] rfl ?_
  exact hk16 σ1 v1 v2 v4 (v5 + 1) h
set_option maxRecDepth 100000 in
set_option maxHeartbeats 4000000 in
theorem w_X6_read_J100 {X : Cx} {Y : Cy} {Q : St → Int → Prop} (ok : Ok X Y KC cX6_read 6 RX6 (rm0q 6 133) (some .int)) (σ : St) (v2 : Int) (h : f_X6_read_J100 Q σ v2) : Wq X Y KC 6 (QF X Y (Qiq Y KC Q)) σ 100 [(0, .inr (.inr 38)), (2, .inl v2)] [] := by
  unfold f_X6_read_J100 at h
  refine q_aload_n ok dX6_read_100 0 rfl ?_
  refine q_callVI (st := []) ok cs_X6_57 kC_38 rfl (c_X6_canEnd X.2.1 Y ok.2.2.2.2.2.2.2.2 h) ⟨rfl, rfl, Nat.le_of_ble_eq_true rfl, Nat.le_of_ble_eq_true rfl⟩ rfl rfl (Nat.le_of_ble_eq_true rfl) dX6_read_101 (fun σ1 r1 h => ?_)
  obtain ⟨g1, hT1a, hT1b⟩ := h
  refine q_if_ne (tgt := 109) ok dX6_read_104 (by decide) g1 (fun c1 => ?_) (fun c1 => ?_)
  · have h := hT1a c1
    refine q_aload_n ok dX6_read_109 0 rfl ?_
    refine q_bipush ok dX6_read_110 rfl ?_
    refine q_aload_n ok dX6_read_112 0 rfl ?_
    refine q_getR ok fl_X6_28 kC_38 fC_38_0 dX6_read_113 ?_
    obtain ⟨g2, h⟩ := h
    refine q_getI ok fl_X6_61 (kX7_0 g2) (fIX7_10 ((σ1 38 0).toNat)) dX6_read_116 ?_
    refine q_iconst ok dX6_read_119 ?_
    refine q_isub ok dX6_read_120 ?_
    refine q_iconst ok dX6_read_121 ?_
    refine q_callVI (st := []) ok cs_X6_66 kC_38 rfl (c_X6_add X.2.1 Y ok.2.2.2.2.2.2.2.2 h) ⟨rfl, rfl, Nat.le_of_ble_eq_true rfl, Nat.le_of_ble_eq_true rfl⟩ rfl rfl (Nat.le_of_ble_eq_true rfl) dX6_read_122 (fun σ2 r2 h => ?_)
    refine q_pop ok dX6_read_125 rfl ?_
    refine q_aload_n ok dX6_read_126 0 rfl ?_
    refine q_callVI (st := []) ok cs_X6_70 kC_38 rfl (c_X6_linkAll X.2.1 Y ok.2.2.2.2.2.2.2.2 h) ⟨rfl, rfl, Nat.le_of_ble_eq_true rfl, Nat.le_of_ble_eq_true rfl⟩ rfl rfl (Nat.le_of_ble_eq_true rfl) dX6_read_127 (fun σ3 r3 h => ?_)
    exact q_iret ok dX6_read_130 h
  · have h := hT1b c1
    refine q_iload_n ok dX6_read_107 1 rfl ?_
    exact q_iret ok dX6_read_108 h
set_option maxRecDepth 100000 in
set_option maxHeartbeats 4000000 in
theorem w_X6_read_L16 {X : Cx} {Y : Cy} {Q : St → Int → Prop} (ok : Ok X Y KC cX6_read 6 RX6 (rm0q 6 133) (some .int)) : ∀ (n : Nat) (σ : St) (v1 : Nat) (v2 : Int) (v4 : Int) (v5 : Int) , f_X6_read_L16 Q n σ v1 v2 v4 v5 → Wq X Y KC 6 (QF X Y (Qiq Y KC Q)) σ 16 [(0, .inr (.inr 38)), (1, .inr (.inr v1)), (2, .inl v2), (4, .inl v4), (5, .inl v5)] [] := by
  intro n
  induction n with
  | zero => intro σ v1 v2 v4 v5 h; exact h.elim
  | succ n ih =>
    intro σ v1 v2 v4 v5 h
    rw [f_X6_read_L16] at h
    refine q_iload ok dX6_read_16 4 rfl ?_
    refine q_sipush ok dX6_read_18 rfl ?_
    obtain ⟨g1, hT5a, hT5b⟩ := h
    refine q_icmp_ge (tgt := 100) ok dX6_read_21 (by decide) g1 (by unfold inR; decide) (fun c5 => ?_) (fun c5 => ?_)
    · have h := hT5a c5
      refine q_sub [0, 2] rfl ?_
      exact w_X6_read_J100 ok σ v2 h
    · have h := hT5b c5
      refine q_aload_n ok dX6_read_24 0 rfl ?_
      refine q_getI ok fl_X6_42 kC_38 fC_38_3 dX6_read_25 ?_
      obtain ⟨g2, hT4a, hT4b⟩ := h
      refine q_if_lt (tgt := 100) ok dX6_read_28 (by decide) g2 (fun c4 => ?_) (fun c4 => ?_)
      · have h := hT4a c4
        refine q_sub [0, 2] rfl ?_
        exact w_X6_read_J100 ok σ v2 h
      · have h := hT4b c4
        refine q_aload_n ok dX6_read_31 0 rfl ?_
        refine q_getI ok fl_X6_42 kC_38 fC_38_3 dX6_read_32 ?_
        refine q_iload ok dX6_read_35 3 rfl ?_
        obtain ⟨g3, g4, hT3a, hT3b⟩ := h
        refine q_icmp_ge (tgt := 100) ok dX6_read_37 (by decide) g3 g4 (fun c3 => ?_) (fun c3 => ?_)
        · have h := hT3a c3
          refine q_sub [0, 2] rfl ?_
          exact w_X6_read_J100 ok σ v2 h
        · have h := hT3b c3
          refine q_aload_n ok dX6_read_40 0 rfl ?_
          refine q_iconst ok dX6_read_41 ?_
          refine q_putI ok fp_X6_46 kC_38 fC_38_4 dX6_read_42 (wq_s (fun σ1 eσ1 => ?_))
          have h := h σ1 eσ1
          refine q_aload_n ok dX6_read_45 1 rfl ?_
          refine q_aload_n ok dX6_read_46 0 rfl ?_
          refine q_getI ok fl_X6_42 kC_38 fC_38_3 dX6_read_47 ?_
          obtain ⟨g5, h⟩ := h
          obtain ⟨g6, g7, h⟩ := h
          refine q_iald ok kC_ok g5 g6 g7 dX6_read_50 ?_
          refine q_bipush ok dX6_read_51 rfl ?_
          obtain ⟨g8, hT2a, hT2b⟩ := h
          refine q_icmp_eq (tgt := 81) ok dX6_read_53 (by decide) g8 (by unfold inR; decide) (fun c2 => ?_) (fun c2 => ?_)
          · have h := hT2a c2
            exact w_X6_read_J81 ok ih σ1 v1 v2 v4 v5 h
          · have h := hT2b c2
            refine q_aload_n ok dX6_read_56 0 rfl ?_
            refine q_aload_n ok dX6_read_57 1 rfl ?_
            refine q_iload ok dX6_read_58 3 rfl ?_
            refine q_callVV (st := []) ok cs_X6_49 kC_38 rfl (c_X6_measureNumber X.2.1 Y ok.2.2.2.2.2.2.2.2 h) ⟨rfl, rfl, Nat.le_of_ble_eq_true rfl, Nat.le_of_ble_eq_true rfl⟩ rfl rfl (Nat.le_of_ble_eq_true rfl) dX6_read_60 (fun σ2 h => ?_)
            refine q_aload_n ok dX6_read_63 0 rfl ?_
            refine q_aload_n ok dX6_read_64 1 rfl ?_
            refine q_aload_n ok dX6_read_65 0 rfl ?_
            refine q_getI ok fl_X6_42 kC_38 fC_38_3 dX6_read_66 ?_
            obtain ⟨g9, g10, h⟩ := h
            refine q_iald ok kC_ok g5 g9 g10 dX6_read_69 ?_
            refine q_callVI (st := []) ok cs_X6_53 kC_38 rfl (c_X6_takes X.2.1 Y ok.2.2.2.2.2.2.2.2 h) ⟨rfl, rfl, Nat.le_of_ble_eq_true rfl, Nat.le_of_ble_eq_true rfl⟩ rfl rfl (Nat.le_of_ble_eq_true rfl) dX6_read_70 (fun σ3 r1 h => ?_)
            obtain ⟨g11, hT1a, hT1b⟩ := h
            refine q_if_ne (tgt := 81) ok dX6_read_73 (by decide) g11 (fun c1 => ?_) (fun c1 => ?_)
            · have h := hT1a c1
              exact w_X6_read_J81 ok ih σ3 v1 v2 v4 v5 h
            · have h := hT1b c1
              refine q_aload_n ok dX6_read_76 0 rfl ?_
              refine q_getI ok fl_X6_42 kC_38 fC_38_3 dX6_read_77 ?_
              exact q_iret ok dX6_read_80 h
set_option maxRecDepth 100000 in
set_option maxHeartbeats 4000000 in
theorem c_X6_read (l : Launch) (Y : Cy) (hD : ∀ σ, va_D Y.2.2.2 (wsOf KC Y.2.1 Y.2.2.1 σ)) {a0 : Nat} {a1 : Int} {a2 : Nat} {σ : St} {Q : St → Int → Prop} (h : f_X6_read a0 a1 a2 σ Q) : ConI l yX6_read cX6_read 6 .int (rm0q 6 133) Y KC σ [.inr (.inr 38), .inr (.inr a0), .inl a1, .inr (.inr a2)] Q := con_of (lv := [(0, .inr (.inr 38)), (1, .inr (.inr a0)), (2, .inl a1), (3, .inr (.inr a2))]) (by decide) hD (Nat.le_of_ble_eq_true rfl) rfl (fun X _ ok => by
  have ok : Ok X Y KC cX6_read 6 RX6 (rm0q 6 133) (some .int) := ok
  unfold f_X6_read at h
  refine q_aload_n ok dX6_read_0 0 rfl ?_
  refine q_aload_n ok dX6_read_1 3 rfl ?_
  refine q_callVV (st := []) ok cs_X6_32 kC_38 rfl (c_X6_begin X.2.1 Y ok.2.2.2.2.2.2.2.2 h) ⟨rfl, rfl, Nat.le_of_ble_eq_true rfl, Nat.le_of_ble_eq_true rfl⟩ rfl rfl (Nat.le_of_ble_eq_true rfl) dX6_read_2 (fun σ1 h => ?_)
  refine q_iload_n ok dX6_read_5 2 rfl ?_
  refine q_aload_n ok dX6_read_6 1 rfl ?_
  obtain ⟨g1, h⟩ := h
  refine q_alenI ok g1 dX6_read_7 ?_
  refine q_callSI (st := []) ok cs_X6_36 (c_JM_min X.2.1 Y ok.2.2.2.2.2.2.2.2 h) ⟨rfl, rfl, Nat.le_of_ble_eq_true rfl, Nat.le_of_ble_eq_true rfl⟩ rfl rfl (Nat.le_of_ble_eq_true rfl) dX6_read_8 (fun σ2 r1 h => ?_)
  refine q_istore (lv' := [(4, .inl r1), (0, .inr (.inr 38)), (1, .inr (.inr a0)), (2, .inl a1), (3, .inr (.inr a2))]) ok dX6_read_11 (by decide) rfl ?_
  refine q_iconst ok dX6_read_13 ?_
  refine q_istore (lv' := [(5, .inl 0), (4, .inl r1), (0, .inr (.inr 38)), (1, .inr (.inr a0)), (2, .inl a1), (3, .inr (.inr a2))]) ok dX6_read_14 (by decide) rfl ?_
  refine q_sub [2, 3, 4, 1, 0] rfl ?_
  exact w_X6_read_L16 ok FU σ2 a0 a1 r1 0 h)
/-! BranchingStory$Play.forget(LBranchingStory$Story;)V -/
def f_X5_forget (c : Nat) (a0 : Nat) (σ : St) (Q : St → Prop) : Prop :=
  isP c ∧ ∀ σ1 : St, σ1 = sset σ c 0 ((a0 : Nat) : Int) → ∀ σ2 : St, σ2 = sset σ1 c 1 0 → ∀ σ3 : St, σ3 = sset σ2 c 2 (-1) → ∀ σ4 : St, σ4 = sset σ3 c 3 (-1) → ∀ σ5 : St, σ5 = sset σ4 c 4 (-1) → ∀ σ6 : St, σ6 = sset σ5 c 5 0 → ∀ σ7 : St, σ7 = sset σ6 c 6 0 → ∀ σ8 : St, σ8 = sset σ7 c 7 0 → ∀ σ9 : St, σ9 = sset σ8 c 8 0 → ∀ σ10 : St, σ10 = sset σ9 c 9 0 → f_X4_empty (c + 1) σ10 (fun σ11 => Q σ11)
set_option maxRecDepth 100000 in
set_option maxHeartbeats 4000000 in
theorem c_X5_forget (l : Launch) (Y : Cy) (hD : ∀ σ, va_D Y.2.2.2 (wsOf KC Y.2.1 Y.2.2.1 σ)) {c : Nat} {a0 : Nat} {σ : St} {Q : St → Prop} (h : f_X5_forget c a0 σ Q) : ConV l yX5_forget cX5_forget 2 (rm0q 1 21) Y KC σ [.inr (.inr c), .inr (.inr a0)] Q := con_of (lv := [(0, .inr (.inr c)), (1, .inr (.inr a0))]) (by decide) hD (Nat.le_of_ble_eq_true rfl) rfl (fun X _ ok => by
  have ok : Ok X Y KC cX5_forget 2 RX5 (rm0q 1 21) none := ok
  unfold f_X5_forget at h
  refine q_aload_n ok dX5_forget_0 0 rfl ?_
  refine q_aload_n ok dX5_forget_1 1 rfl ?_
  obtain ⟨g1, h⟩ := h
  refine q_putR ok fp_X5_18 (kX5_0 g1) (fIX5_0 c) dX5_forget_2 (wq_s (fun σ1 eσ1 => ?_))
  have h := h σ1 eσ1
  refine q_aload_n ok dX5_forget_5 0 rfl ?_
  refine q_iconst ok dX5_forget_6 ?_
  refine q_putI ok fp_X5_29 (kX5_0 g1) (fIX5_1 c) dX5_forget_7 (wq_s (fun σ2 eσ2 => ?_))
  have h := h σ2 eσ2
  refine q_aload_n ok dX5_forget_10 0 rfl ?_
  refine q_iconst ok dX5_forget_11 ?_
  refine q_putI ok fp_X5_32 (kX5_0 g1) (fIX5_2 c) dX5_forget_12 (wq_s (fun σ3 eσ3 => ?_))
  have h := h σ3 eσ3
  refine q_aload_n ok dX5_forget_15 0 rfl ?_
  refine q_iconst ok dX5_forget_16 ?_
  refine q_putI ok fp_X5_22 (kX5_0 g1) (fIX5_3 c) dX5_forget_17 (wq_s (fun σ4 eσ4 => ?_))
  have h := h σ4 eσ4
  refine q_aload_n ok dX5_forget_20 0 rfl ?_
  refine q_iconst ok dX5_forget_21 ?_
  refine q_putI ok fp_X5_26 (kX5_0 g1) (fIX5_4 c) dX5_forget_22 (wq_s (fun σ5 eσ5 => ?_))
  have h := h σ5 eσ5
  refine q_aload_n ok dX5_forget_25 0 rfl ?_
  refine q_iconst ok dX5_forget_26 ?_
  refine q_putI ok fp_X5_35 (kX5_0 g1) (fIX5_5 c) dX5_forget_27 (wq_s (fun σ6 eσ6 => ?_))
  have h := h σ6 eσ6
  refine q_aload_n ok dX5_forget_30 0 rfl ?_
  refine q_iconst ok dX5_forget_31 ?_
  refine q_putI ok fp_X5_38 (kX5_0 g1) (fIX5_6 c) dX5_forget_32 (wq_s (fun σ7 eσ7 => ?_))
  have h := h σ7 eσ7
  refine q_aload_n ok dX5_forget_35 0 rfl ?_
  refine q_iconst ok dX5_forget_36 ?_
  refine q_putI ok fp_X5_41 (kX5_0 g1) (fIX5_7 c) dX5_forget_37 (wq_s (fun σ8 eσ8 => ?_))
  have h := h σ8 eσ8
  refine q_aload_n ok dX5_forget_40 0 rfl ?_
  refine q_iconst ok dX5_forget_41 ?_
  refine q_putI ok fp_X5_44 (kX5_0 g1) (fIX5_8 c) dX5_forget_42 (wq_s (fun σ9 eσ9 => ?_))
  have h := h σ9 eσ9
  refine q_aload_n ok dX5_forget_45 0 rfl ?_
  refine q_iconst ok dX5_forget_46 ?_
  refine q_putI ok fp_X5_47 (kX5_0 g1) (fIX5_9 c) dX5_forget_47 (wq_s (fun σ10 eσ10 => ?_))
  have h := h σ10 eσ10
  refine q_aload_n ok dX5_forget_50 0 rfl ?_
  refine q_getC ok fl_X5_12 (kX5_0 g1) (fIX5_10 c) dX5_forget_51 ?_
  refine q_callVV (st := []) ok cs_X5_50 (kX5_1 g1) rfl (c_X4_empty X.2.1 Y ok.2.2.2.2.2.2.2.2 h) ⟨rfl, rfl, Nat.le_of_ble_eq_true rfl, Nat.le_of_ble_eq_true rfl⟩ rfl rfl (Nat.le_of_ble_eq_true rfl) dX5_forget_54 (fun σ11 h => ?_)
  exact q_vret ok dX5_forget_57 h)
/-! BranchingStory$Play.enter(I)I -/
def f_X5_enter_J38 (Q : St → Int → Prop) (σ : St) (v0 : Nat) (v1 : Int) : Prop :=
  isP v0 ∧ isS ((σ v0 0).toNat) ∧ f_X9_entryOf ((σ v0 0).toNat + 14) v1 σ (fun σ1 r1 => Q σ1 r1)
def f_X5_enter (c : Nat) (a0 : Int) (σ : St) (Q : St → Int → Prop) : Prop :=
  isP c ∧ ∀ σ1 : St, σ1 = sset σ c 8 0 → ∀ σ2 : St, σ2 = sset σ1 c 3 a0 → ∀ σ3 : St, σ3 = sset σ2 c 9 (ior32 (σ2 c 9) (ishl32 1 a0)) → isS ((σ3 c 0).toNat) ∧ f_X7_standsAsHub ((σ3 c 0).toNat) a0 σ3 (fun σ4 r1 => inR r1 ∧ ((r1 = 0 → f_X5_enter_J38 Q σ4 c a0) ∧ (¬ r1 = 0 → ∀ σ5 : St, σ5 = sset σ4 c 4 a0 → f_X5_enter_J38 Q σ5 c a0)))
set_option maxRecDepth 100000 in
set_option maxHeartbeats 4000000 in
theorem w_X5_enter_J38 {X : Cx} {Y : Cy} {Q : St → Int → Prop} (ok : Ok X Y KC cX5_enter 2 RX5 (rm0q 1 21) (some .int)) (σ : St) (v0 : Nat) (v1 : Int) (h : f_X5_enter_J38 Q σ v0 v1) : Wq X Y KC 2 (QF X Y (Qiq Y KC Q)) σ 38 [(0, .inr (.inr v0)), (1, .inl v1)] [] := by
  unfold f_X5_enter_J38 at h
  refine q_aload_n ok dX5_enter_38 0 rfl ?_
  obtain ⟨g1, h⟩ := h
  refine q_getR ok fl_X5_18 (kX5_0 g1) (fIX5_0 v0) dX5_enter_39 ?_
  obtain ⟨g2, h⟩ := h
  refine q_getC ok fl_X5_153 (kX7_0 g2) (fIX7_12 ((σ v0 0).toNat)) dX5_enter_42 ?_
  refine q_iload_n ok dX5_enter_45 1 rfl ?_
  refine q_callSI (st := []) ok cs_X5_156 (c_X9_entryOf X.2.1 Y ok.2.2.2.2.2.2.2.2 h) ⟨rfl, rfl, Nat.le_of_ble_eq_true rfl, Nat.le_of_ble_eq_true rfl⟩ rfl rfl (Nat.le_of_ble_eq_true rfl) dX5_enter_46 (fun σ1 r1 h => ?_)
  exact q_iret ok dX5_enter_49 h
set_option maxRecDepth 100000 in
set_option maxHeartbeats 4000000 in
theorem c_X5_enter (l : Launch) (Y : Cy) (hD : ∀ σ, va_D Y.2.2.2 (wsOf KC Y.2.1 Y.2.2.1 σ)) {c : Nat} {a0 : Int} {σ : St} {Q : St → Int → Prop} (h : f_X5_enter c a0 σ Q) : ConI l yX5_enter cX5_enter 2 .int (rm0q 1 21) Y KC σ [.inr (.inr c), .inl a0] Q := con_of (lv := [(0, .inr (.inr c)), (1, .inl a0)]) (by decide) hD (Nat.le_of_ble_eq_true rfl) rfl (fun X _ ok => by
  have ok : Ok X Y KC cX5_enter 2 RX5 (rm0q 1 21) (some .int) := ok
  unfold f_X5_enter at h
  refine q_aload_n ok dX5_enter_0 0 rfl ?_
  refine q_iconst ok dX5_enter_1 ?_
  obtain ⟨g1, h⟩ := h
  refine q_putI ok fp_X5_44 (kX5_0 g1) (fIX5_8 c) dX5_enter_2 (wq_s (fun σ1 eσ1 => ?_))
  have h := h σ1 eσ1
  refine q_aload_n ok dX5_enter_5 0 rfl ?_
  refine q_iload_n ok dX5_enter_6 1 rfl ?_
  refine q_putI ok fp_X5_22 (kX5_0 g1) (fIX5_3 c) dX5_enter_7 (wq_s (fun σ2 eσ2 => ?_))
  have h := h σ2 eσ2
  refine q_aload_n ok dX5_enter_10 0 rfl ?_
  refine q_dup ok dX5_enter_11 rfl ?_
  refine q_getI ok fl_X5_47 (kX5_0 g1) (fIX5_9 c) dX5_enter_12 ?_
  refine q_iconst ok dX5_enter_15 ?_
  refine q_iload_n ok dX5_enter_16 1 rfl ?_
  refine q_ishl ok dX5_enter_17 ?_
  refine q_ior ok dX5_enter_18 ?_
  refine q_putI ok fp_X5_47 (kX5_0 g1) (fIX5_9 c) dX5_enter_19 (wq_s (fun σ3 eσ3 => ?_))
  have h := h σ3 eσ3
  refine q_aload_n ok dX5_enter_22 0 rfl ?_
  refine q_getR ok fl_X5_18 (kX5_0 g1) (fIX5_0 c) dX5_enter_23 ?_
  refine q_iload_n ok dX5_enter_26 1 rfl ?_
  obtain ⟨g2, h⟩ := h
  refine q_callVI (st := []) ok cs_X5_150 (kX7_0 g2) rfl (c_X7_standsAsHub X.2.1 Y ok.2.2.2.2.2.2.2.2 h) ⟨rfl, rfl, Nat.le_of_ble_eq_true rfl, Nat.le_of_ble_eq_true rfl⟩ rfl rfl (Nat.le_of_ble_eq_true rfl) dX5_enter_27 (fun σ4 r1 h => ?_)
  obtain ⟨g3, hT1a, hT1b⟩ := h
  refine q_if_eq (tgt := 38) ok dX5_enter_30 (by decide) g3 (fun c1 => ?_) (fun c1 => ?_)
  · have h := hT1a c1
    exact w_X5_enter_J38 ok σ4 c a0 h
  · have h := hT1b c1
    refine q_aload_n ok dX5_enter_33 0 rfl ?_
    refine q_iload_n ok dX5_enter_34 1 rfl ?_
    refine q_putI ok fp_X5_26 (kX5_0 g1) (fIX5_4 c) dX5_enter_35 (wq_s (fun σ5 eσ5 => ?_))
    have h := h σ5 eσ5
    exact w_X5_enter_J38 ok σ5 c a0 h)
/-! BranchingStory$Play.endFlow(I)I -/
def f_X5_endFlow (c : Nat) (a0 : Int) (σ : St) (Q : St → Int → Prop) : Prop :=
  isP c ∧ ∀ σ1 : St, σ1 = sset σ c 1 a0 → ∀ σ2 : St, σ2 = sset σ1 c 8 0 → Q σ2 (-1)
set_option maxRecDepth 100000 in
set_option maxHeartbeats 4000000 in
theorem c_X5_endFlow (l : Launch) (Y : Cy) (hD : ∀ σ, va_D Y.2.2.2 (wsOf KC Y.2.1 Y.2.2.1 σ)) {c : Nat} {a0 : Int} {σ : St} {Q : St → Int → Prop} (h : f_X5_endFlow c a0 σ Q) : ConI l yX5_endFlow cX5_endFlow 2 .int (rm0q 0 0) Y KC σ [.inr (.inr c), .inl a0] Q := con_of (lv := [(0, .inr (.inr c)), (1, .inl a0)]) (by decide) hD (Nat.le_of_ble_eq_true rfl) rfl (fun X _ ok => by
  have ok : Ok X Y KC cX5_endFlow 2 RX5 (rm0q 0 0) (some .int) := ok
  unfold f_X5_endFlow at h
  refine q_aload_n ok dX5_endFlow_0 0 rfl ?_
  refine q_iload_n ok dX5_endFlow_1 1 rfl ?_
  obtain ⟨g1, h⟩ := h
  refine q_putI ok fp_X5_29 (kX5_0 g1) (fIX5_1 c) dX5_endFlow_2 (wq_s (fun σ1 eσ1 => ?_))
  have h := h σ1 eσ1
  refine q_aload_n ok dX5_endFlow_5 0 rfl ?_
  refine q_iconst ok dX5_endFlow_6 ?_
  refine q_putI ok fp_X5_44 (kX5_0 g1) (fIX5_8 c) dX5_endFlow_7 (wq_s (fun σ2 eσ2 => ?_))
  have h := h σ2 eσ2
  refine q_iconst ok dX5_endFlow_10 ?_
  exact q_iret ok dX5_endFlow_11 h)
/-! BranchingStory$Play.endBlock(I)I -/
def f_X5_endBlock (c : Nat) (a0 : Int) (σ : St) (Q : St → Int → Prop) : Prop :=
  isP c ∧ inR (σ c 8) ∧ (((σ c 8) = 0 → inR a0 ∧ ((¬ a0 = 12 → f_X5_endFlow c 3 σ (fun σ1 r1 => Q σ1 r1)) ∧ (a0 = 12 → f_X5_enter c (σ c 3) σ (fun σ2 r2 => Q σ2 r2)))) ∧ (¬ (σ c 8) = 0 → ∀ σ3 : St, σ3 = sset σ c 1 1 → Q σ3 (-1)))
set_option maxRecDepth 100000 in
set_option maxHeartbeats 4000000 in
theorem c_X5_endBlock (l : Launch) (Y : Cy) (hD : ∀ σ, va_D Y.2.2.2 (wsOf KC Y.2.1 Y.2.2.1 σ)) {c : Nat} {a0 : Int} {σ : St} {Q : St → Int → Prop} (h : f_X5_endBlock c a0 σ Q) : ConI l yX5_endBlock cX5_endBlock 2 .int (rm0q 2 42) Y KC σ [.inr (.inr c), .inl a0] Q := con_of (lv := [(0, .inr (.inr c)), (1, .inl a0)]) (by decide) hD (Nat.le_of_ble_eq_true rfl) rfl (fun X _ ok => by
  have ok : Ok X Y KC cX5_endBlock 2 RX5 (rm0q 2 42) (some .int) := ok
  unfold f_X5_endBlock at h
  refine q_aload_n ok dX5_endBlock_0 0 rfl ?_
  obtain ⟨g1, h⟩ := h
  refine q_getI ok fl_X5_44 (kX5_0 g1) (fIX5_8 c) dX5_endBlock_1 ?_
  obtain ⟨g2, hT2a, hT2b⟩ := h
  refine q_if_eq (tgt := 14) ok dX5_endBlock_4 (by decide) g2 (fun c2 => ?_) (fun c2 => ?_)
  · have h := hT2a c2
    refine q_iload_n ok dX5_endBlock_14 1 rfl ?_
    refine q_bipush ok dX5_endBlock_15 rfl ?_
    obtain ⟨g3, hT1a, hT1b⟩ := h
    refine q_icmp_ne (tgt := 31) ok dX5_endBlock_17 (by decide) g3 (by unfold inR; decide) (fun c1 => ?_) (fun c1 => ?_)
    · have h := hT1a c1
      refine q_aload_n ok dX5_endBlock_31 0 rfl ?_
      refine q_iconst ok dX5_endBlock_32 ?_
      refine q_callVI (st := []) ok cs_X5_95 (kX5_0 g1) rfl (c_X5_endFlow X.2.1 Y ok.2.2.2.2.2.2.2.2 h) ⟨rfl, rfl, Nat.le_of_ble_eq_true rfl, Nat.le_of_ble_eq_true rfl⟩ rfl rfl (Nat.le_of_ble_eq_true rfl) dX5_endBlock_33 (fun σ1 r1 h => ?_)
      exact q_iret ok dX5_endBlock_36 h
    · have h := hT1b c1
      refine q_aload_n ok dX5_endBlock_20 0 rfl ?_
      refine q_aload_n ok dX5_endBlock_21 0 rfl ?_
      refine q_getI ok fl_X5_22 (kX5_0 g1) (fIX5_3 c) dX5_endBlock_22 ?_
      refine q_callVI (st := []) ok cs_X5_57 (kX5_0 g1) rfl (c_X5_enter X.2.1 Y ok.2.2.2.2.2.2.2.2 h) ⟨rfl, rfl, Nat.le_of_ble_eq_true rfl, Nat.le_of_ble_eq_true rfl⟩ rfl rfl (Nat.le_of_ble_eq_true rfl) dX5_endBlock_25 (fun σ2 r2 h => ?_)
      refine q_goto (tgt := 36) ok dX5_endBlock_28 (by decide) ?_
      exact q_iret ok dX5_endBlock_36 h
  · have h := hT2b c2
    refine q_aload_n ok dX5_endBlock_7 0 rfl ?_
    refine q_iconst ok dX5_endBlock_8 ?_
    refine q_putI ok fp_X5_29 (kX5_0 g1) (fIX5_1 c) dX5_endBlock_9 (wq_s (fun σ3 eσ3 => ?_))
    have h := h σ3 eσ3
    refine q_iconst ok dX5_endBlock_12 ?_
    exact q_iret ok dX5_endBlock_13 h)
/-! BranchingStory$Play.changeMeter(III)V -/
def f_X5_changeMeter (c : Nat) (a0 : Int) (a1 : Int) (a2 : Int) (σ : St) (Q : St → Prop) : Prop :=
  isP c ∧ f_X9_meterIn (σ c 6) a1 σ (fun σ1 r1 => f_X9_changedMeter a0 r1 a2 σ1 (fun σ2 r2 => ∀ σ3 : St, σ3 = sset σ2 c 6 (ior32 (iand32 (σ2 c 6) (ixor32 (ishl32 15 (4 * a1)) (-1))) (ishl32 r2 (4 * a1))) → Q σ3))
set_option maxRecDepth 100000 in
set_option maxHeartbeats 4000000 in
theorem c_X5_changeMeter (l : Launch) (Y : Cy) (hD : ∀ σ, va_D Y.2.2.2 (wsOf KC Y.2.1 Y.2.2.1 σ)) {c : Nat} {a0 : Int} {a1 : Int} {a2 : Int} {σ : St} {Q : St → Prop} (h : f_X5_changeMeter c a0 a1 a2 σ Q) : ConV l yX5_changeMeter cX5_changeMeter 5 (rm0q 2 43) Y KC σ [.inr (.inr c), .inl a0, .inl a1, .inl a2] Q := con_of (lv := [(0, .inr (.inr c)), (1, .inl a0), (2, .inl a1), (3, .inl a2)]) (by decide) hD (Nat.le_of_ble_eq_true rfl) rfl (fun X _ ok => by
  have ok : Ok X Y KC cX5_changeMeter 5 RX5 (rm0q 2 43) none := ok
  unfold f_X5_changeMeter at h
  refine q_iload_n ok dX5_changeMeter_0 1 rfl ?_
  refine q_aload_n ok dX5_changeMeter_1 0 rfl ?_
  obtain ⟨g1, h⟩ := h
  refine q_getI ok fl_X5_38 (kX5_0 g1) (fIX5_6 c) dX5_changeMeter_2 ?_
  refine q_iload_n ok dX5_changeMeter_5 2 rfl ?_
  refine q_callSI (st := [.inl a0]) ok cs_X5_127 (c_X9_meterIn X.2.1 Y ok.2.2.2.2.2.2.2.2 h) ⟨rfl, rfl, Nat.le_of_ble_eq_true rfl, Nat.le_of_ble_eq_true rfl⟩ rfl rfl (Nat.le_of_ble_eq_true rfl) dX5_changeMeter_6 (fun σ1 r1 h => ?_)
  refine q_iload_n ok dX5_changeMeter_9 3 rfl ?_
  refine q_callSI (st := []) ok cs_X5_130 (c_X9_changedMeter X.2.1 Y ok.2.2.2.2.2.2.2.2 h) ⟨rfl, rfl, Nat.le_of_ble_eq_true rfl, Nat.le_of_ble_eq_true rfl⟩ rfl rfl (Nat.le_of_ble_eq_true rfl) dX5_changeMeter_10 (fun σ2 r2 h => ?_)
  refine q_istore (lv' := [(4, .inl r2), (0, .inr (.inr c)), (1, .inl a0), (2, .inl a1), (3, .inl a2)]) ok dX5_changeMeter_13 (by decide) rfl ?_
  refine q_aload_n ok dX5_changeMeter_15 1 rfl ?_
  refine q_aload_n ok dX5_changeMeter_16 1 rfl ?_
  refine q_getI ok fl_X5_38 (kX5_0 g1) (fIX5_6 c) dX5_changeMeter_17 ?_
  refine q_bipush ok dX5_changeMeter_20 rfl ?_
  refine q_iconst ok dX5_changeMeter_22 ?_
  refine q_iload_n ok dX5_changeMeter_23 3 rfl ?_
  refine q_imul ok dX5_changeMeter_24 ?_
  refine q_ishl ok dX5_changeMeter_25 ?_
  refine q_iconst ok dX5_changeMeter_26 ?_
  refine q_ixor ok dX5_changeMeter_27 ?_
  refine q_iand ok dX5_changeMeter_28 ?_
  refine q_iload ok dX5_changeMeter_29 0 rfl ?_
  refine q_iconst ok dX5_changeMeter_31 ?_
  refine q_iload_n ok dX5_changeMeter_32 3 rfl ?_
  refine q_imul ok dX5_changeMeter_33 ?_
  refine q_ishl ok dX5_changeMeter_34 ?_
  refine q_ior ok dX5_changeMeter_35 ?_
  refine q_putI ok fp_X5_38 (kX5_0 g1) (fIX5_6 c) dX5_changeMeter_36 (wq_s (fun σ3 eσ3 => ?_))
  have h := h σ3 eσ3
  exact q_vret ok dX5_changeMeter_39 h)
/-! BranchingStory$Play.conditionHolds(I)Z -/
def f_X5_conditionHolds (c : Nat) (a0 : Int) (σ : St) (Q : St → Int → Prop) : Prop :=
  isP c ∧ isS ((σ c 0).toNat) ∧ 0 ≤ a0 ∧ a0 < 400 ∧ 0 ≤ a0 ∧ a0 < 400 ∧ f_X8_allHold ((σ c 0).toNat + 9) (σ ((σ c 0).toNat + 7) a0.toNat) (σ ((σ c 0).toNat + 8) a0.toNat) (σ c 5) (σ c 6) σ (fun σ1 r1 => (r1 = 0 ∨ r1 = 1) ∧ Q σ1 r1)
set_option maxRecDepth 100000 in
set_option maxHeartbeats 4000000 in
theorem c_X5_conditionHolds (l : Launch) (Y : Cy) (hD : ∀ σ, va_D Y.2.2.2 (wsOf KC Y.2.1 Y.2.2.1 σ)) {c : Nat} {a0 : Int} {σ : St} {Q : St → Int → Prop} (h : f_X5_conditionHolds c a0 σ Q) : ConI l yX5_conditionHolds cX5_conditionHolds 2 .boolean (rm0q 2 51) Y KC σ [.inr (.inr c), .inl a0] Q := con_of (lv := [(0, .inr (.inr c)), (1, .inl a0)]) (by decide) hD (Nat.le_of_ble_eq_true rfl) rfl (fun X _ ok => by
  have ok : Ok X Y KC cX5_conditionHolds 2 RX5 (rm0q 2 51) (some .boolean) := ok
  unfold f_X5_conditionHolds at h
  refine q_aload_n ok dX5_conditionHolds_0 0 rfl ?_
  obtain ⟨g1, h⟩ := h
  refine q_getR ok fl_X5_18 (kX5_0 g1) (fIX5_0 c) dX5_conditionHolds_1 ?_
  obtain ⟨g2, h⟩ := h
  refine q_getC ok fl_X5_134 (kX7_0 g2) (fIX7_9 ((σ c 0).toNat)) dX5_conditionHolds_4 ?_
  refine q_aload_n ok dX5_conditionHolds_7 0 rfl ?_
  refine q_getR ok fl_X5_18 (kX5_0 g1) (fIX5_0 c) dX5_conditionHolds_8 ?_
  refine q_getC ok fl_X5_138 (kX7_0 g2) (fIX7_7 ((σ c 0).toNat)) dX5_conditionHolds_11 ?_
  refine q_iload_n ok dX5_conditionHolds_14 1 rfl ?_
  obtain ⟨g3, g4, h⟩ := h
  refine q_iald ok kC_ok (kX7_7 g2) g3 g4 dX5_conditionHolds_15 ?_
  refine q_aload_n ok dX5_conditionHolds_16 0 rfl ?_
  refine q_getR ok fl_X5_18 (kX5_0 g1) (fIX5_0 c) dX5_conditionHolds_17 ?_
  refine q_getC ok fl_X5_141 (kX7_0 g2) (fIX7_8 ((σ c 0).toNat)) dX5_conditionHolds_20 ?_
  refine q_iload_n ok dX5_conditionHolds_23 1 rfl ?_
  obtain ⟨g5, g6, h⟩ := h
  refine q_iald ok kC_ok (kX7_8 g2) g5 g6 dX5_conditionHolds_24 ?_
  refine q_aload_n ok dX5_conditionHolds_25 0 rfl ?_
  refine q_getI ok fl_X5_35 (kX5_0 g1) (fIX5_5 c) dX5_conditionHolds_26 ?_
  refine q_aload_n ok dX5_conditionHolds_29 0 rfl ?_
  refine q_getI ok fl_X5_38 (kX5_0 g1) (fIX5_6 c) dX5_conditionHolds_30 ?_
  refine q_callVI (st := []) ok cs_X5_144 (kX7_9 g2) rfl (c_X8_allHold X.2.1 Y ok.2.2.2.2.2.2.2.2 h) ⟨rfl, rfl, Nat.le_of_ble_eq_true rfl, Nat.le_of_ble_eq_true rfl⟩ rfl rfl (Nat.le_of_ble_eq_true rfl) dX5_conditionHolds_33 (fun σ1 r1 h => ?_)
  exact q_zret ok dX5_conditionHolds_36 h.1 h.2)
/-! BranchingStory$Play.execute(II)I -/
def f_X5_execute (c : Nat) (a0 : Int) (a1 : Int) (σ : St) (Q : St → Int → Prop) : Prop :=
  isP c ∧ isS ((σ c 0).toNat) ∧ 0 ≤ a0 ∧ a0 < 400 ∧ ∀ x1 : Int, x1 = (σ ((σ c 0).toNat + 2) a0.toNat) → inR a1 ∧ ((a1 = 0 → f_X4_append (c + 1) x1 σ (fun σ1 => isS ((σ1 c 0).toNat) ∧ 0 ≤ a0 ∧ a0 < 400 ∧ Q σ1 (σ1 ((σ1 c 0).toNat + 4) a0.toNat))) ∧ (a1 = 1 → ∀ σ2 : St, σ2 = sset σ c 5 (ior32 (σ c 5) (ishl32 1 x1)) → isS ((σ2 c 0).toNat) ∧ 0 ≤ a0 ∧ a0 < 400 ∧ Q σ2 (σ2 ((σ2 c 0).toNat + 4) a0.toNat)) ∧ (a1 = 2 → ∀ σ3 : St, σ3 = sset σ c 5 (iand32 (σ c 5) (ixor32 (ishl32 1 x1) (-1))) → isS ((σ3 c 0).toNat) ∧ 0 ≤ a0 ∧ a0 < 400 ∧ Q σ3 (σ3 ((σ3 c 0).toNat + 4) a0.toNat)) ∧ (a1 = 3 → 0 ≤ a0 ∧ a0 < 400 ∧ f_X5_changeMeter c a1 x1 (σ ((σ c 0).toNat + 3) a0.toNat) σ (fun σ4 => isS ((σ4 c 0).toNat) ∧ 0 ≤ a0 ∧ a0 < 400 ∧ Q σ4 (σ4 ((σ4 c 0).toNat + 4) a0.toNat))) ∧ (a1 = 4 → 0 ≤ a0 ∧ a0 < 400 ∧ f_X5_changeMeter c a1 x1 (σ ((σ c 0).toNat + 3) a0.toNat) σ (fun σ5 => isS ((σ5 c 0).toNat) ∧ 0 ≤ a0 ∧ a0 < 400 ∧ Q σ5 (σ5 ((σ5 c 0).toNat + 4) a0.toNat))) ∧ (a1 = 5 → 0 ≤ a0 ∧ a0 < 400 ∧ f_X5_changeMeter c a1 x1 (σ ((σ c 0).toNat + 3) a0.toNat) σ (fun σ6 => isS ((σ6 c 0).toNat) ∧ 0 ≤ a0 ∧ a0 < 400 ∧ Q σ6 (σ6 ((σ6 c 0).toNat + 4) a0.toNat))) ∧ (a1 = 6 → f_X5_conditionHolds c a0 σ (fun σ7 r1 => inR r1 ∧ ((r1 = 0 → isS ((σ7 c 0).toNat) ∧ 0 ≤ a0 ∧ a0 < 400 ∧ Q σ7 (σ7 ((σ7 c 0).toNat + 6) a0.toNat)) ∧ (¬ r1 = 0 → isS ((σ7 c 0).toNat) ∧ 0 ≤ a0 ∧ a0 < 400 ∧ Q σ7 (σ7 ((σ7 c 0).toNat + 5) a0.toNat))))) ∧ (a1 = 7 → inR (iand32 (ishr32 (σ c 7) x1) 1) ∧ ((¬ (iand32 (ishr32 (σ c 7) x1) 1) = 0 → 0 ≤ a0 ∧ a0 < 400 ∧ Q σ (σ ((σ c 0).toNat + 4) a0.toNat)) ∧ ((iand32 (ishr32 (σ c 7) x1) 1) = 0 → f_X5_conditionHolds c a0 σ (fun σ8 r2 => inR r2 ∧ ((r2 = 0 → isS ((σ8 c 0).toNat) ∧ 0 ≤ a0 ∧ a0 < 400 ∧ Q σ8 (σ8 ((σ8 c 0).toNat + 4) a0.toNat)) ∧ (¬ r2 = 0 → ∀ σ9 : St, σ9 = sset σ8 c 8 (ior32 (σ8 c 8) (ishl32 1 x1)) → isS ((σ9 c 0).toNat) ∧ 0 ≤ a0 ∧ a0 < 400 ∧ Q σ9 (σ9 ((σ9 c 0).toNat + 4) a0.toNat))))))) ∧ (a1 = 8 → f_X5_enter c x1 σ (fun σ10 r3 => Q σ10 r3)) ∧ (a1 = 9 → inR (σ c 4) ∧ ((¬ (σ c 4) = (-1) → f_X5_enter c (σ c 4) σ (fun σ11 r4 => Q σ11 r4)) ∧ ((σ c 4) = (-1) → f_X5_endFlow c 3 σ (fun σ12 r5 => Q σ12 r5)))) ∧ ((a1 < 0 ∨ 9 < a1) → ∀ σ13 : St, σ13 = sset σ c 2 x1 → f_X5_endFlow c 2 σ13 (fun σ14 r6 => Q σ14 r6)))
set_option maxRecDepth 100000 in
set_option maxHeartbeats 4000000 in
theorem c_X5_execute (l : Launch) (Y : Cy) (hD : ∀ σ, va_D Y.2.2.2 (wsOf KC Y.2.1 Y.2.2.1 σ)) {c : Nat} {a0 : Int} {a1 : Int} {σ : St} {Q : St → Int → Prop} (h : f_X5_execute c a0 a1 σ Q) : ConI l yX5_execute cX5_execute 4 .int (rm0q 3 72) Y KC σ [.inr (.inr c), .inl a0, .inl a1] Q := con_of (lv := [(0, .inr (.inr c)), (1, .inl a0), (2, .inl a1)]) (by decide) hD (Nat.le_of_ble_eq_true rfl) rfl (fun X _ ok => by
  have ok : Ok X Y KC cX5_execute 4 RX5 (rm0q 3 72) (some .int) := ok
  unfold f_X5_execute at h
  refine q_aload_n ok dX5_execute_0 0 rfl ?_
  obtain ⟨g1, h⟩ := h
  refine q_getR ok fl_X5_18 (kX5_0 g1) (fIX5_0 c) dX5_execute_1 ?_
  obtain ⟨g2, h⟩ := h
  refine q_getC ok fl_X5_102 (kX7_0 g2) (fIX7_2 ((σ c 0).toNat)) dX5_execute_4 ?_
  refine q_iload_n ok dX5_execute_7 1 rfl ?_
  obtain ⟨g3, g4, h⟩ := h
  refine q_iald ok kC_ok (kX7_2 g2) g3 g4 dX5_execute_8 ?_
  refine wq_i (fun x1 ex1 => ?_)
  have h := h x1 ex1
  refine q_istore_n (lv' := [(3, .inl x1), (0, .inr (.inr c)), (1, .inl a0), (2, .inl a1)]) ok dX5_execute_9 (by decide) rfl ?_
  refine q_iload_n ok dX5_execute_10 3 rfl ?_
  obtain ⟨g5, hs1, hs2, hs3, hs4, hs5, hs6, hs7, hs8, hs9, hs10, hs11⟩ := h
  by_cases c1 : a1 = 0
  · have h := hs1 c1
    refine q_tsIn (tgt := 64) ok dX5_execute_11 g5 (by omega) (by omega) (by rw [c1]; rfl) (by decide) ?_
    refine q_aload_n ok dX5_execute_64 1 rfl ?_
    refine q_getC ok fl_X5_12 (kX5_0 g1) (fIX5_10 c) dX5_execute_65 ?_
    refine q_iload_n ok dX5_execute_68 0 rfl ?_
    refine q_callVV (st := []) ok cs_X5_105 (kX5_1 g1) rfl (c_X4_append X.2.1 Y ok.2.2.2.2.2.2.2.2 h) ⟨rfl, rfl, Nat.le_of_ble_eq_true rfl, Nat.le_of_ble_eq_true rfl⟩ rfl rfl (Nat.le_of_ble_eq_true rfl) dX5_execute_69 (fun σ1 h => ?_)
    refine q_goto (tgt := 231) ok dX5_execute_72 (by decide) ?_
    refine q_aload_n ok dX5_execute_231 1 rfl ?_
    refine q_getR ok fl_X5_18 (kX5_0 g1) (fIX5_0 c) dX5_execute_232 ?_
    obtain ⟨g6, h⟩ := h
    refine q_getC ok fl_X5_124 (kX7_0 g6) (fIX7_4 ((σ1 c 0).toNat)) dX5_execute_235 ?_
    refine q_iload_n ok dX5_execute_238 2 rfl ?_
    obtain ⟨g7, g8, h⟩ := h
    refine q_iald ok kC_ok (kX7_4 g6) g7 g8 dX5_execute_239 ?_
    exact q_iret ok dX5_execute_240 h
  by_cases c2 : a1 = 1
  · have h := hs2 c2
    refine q_tsIn (tgt := 75) ok dX5_execute_11 g5 (by omega) (by omega) (by rw [c2]; rfl) (by decide) ?_
    refine q_aload_n ok dX5_execute_75 1 rfl ?_
    refine q_dup ok dX5_execute_76 rfl ?_
    refine q_getI ok fl_X5_35 (kX5_0 g1) (fIX5_5 c) dX5_execute_77 ?_
    refine q_iconst ok dX5_execute_80 ?_
    refine q_iload_n ok dX5_execute_81 0 rfl ?_
    refine q_ishl ok dX5_execute_82 ?_
    refine q_ior ok dX5_execute_83 ?_
    refine q_putI ok fp_X5_35 (kX5_0 g1) (fIX5_5 c) dX5_execute_84 (wq_s (fun σ2 eσ2 => ?_))
    have h := h σ2 eσ2
    refine q_goto (tgt := 231) ok dX5_execute_87 (by decide) ?_
    refine q_aload_n ok dX5_execute_231 1 rfl ?_
    refine q_getR ok fl_X5_18 (kX5_0 g1) (fIX5_0 c) dX5_execute_232 ?_
    obtain ⟨g9, h⟩ := h
    refine q_getC ok fl_X5_124 (kX7_0 g9) (fIX7_4 ((σ2 c 0).toNat)) dX5_execute_235 ?_
    refine q_iload_n ok dX5_execute_238 2 rfl ?_
    obtain ⟨g10, g11, h⟩ := h
    refine q_iald ok kC_ok (kX7_4 g9) g10 g11 dX5_execute_239 ?_
    exact q_iret ok dX5_execute_240 h
  by_cases c3 : a1 = 2
  · have h := hs3 c3
    refine q_tsIn (tgt := 90) ok dX5_execute_11 g5 (by omega) (by omega) (by rw [c3]; rfl) (by decide) ?_
    refine q_aload_n ok dX5_execute_90 1 rfl ?_
    refine q_dup ok dX5_execute_91 rfl ?_
    refine q_getI ok fl_X5_35 (kX5_0 g1) (fIX5_5 c) dX5_execute_92 ?_
    refine q_iconst ok dX5_execute_95 ?_
    refine q_iload_n ok dX5_execute_96 0 rfl ?_
    refine q_ishl ok dX5_execute_97 ?_
    refine q_iconst ok dX5_execute_98 ?_
    refine q_ixor ok dX5_execute_99 ?_
    refine q_iand ok dX5_execute_100 ?_
    refine q_putI ok fp_X5_35 (kX5_0 g1) (fIX5_5 c) dX5_execute_101 (wq_s (fun σ3 eσ3 => ?_))
    have h := h σ3 eσ3
    refine q_goto (tgt := 231) ok dX5_execute_104 (by decide) ?_
    refine q_aload_n ok dX5_execute_231 1 rfl ?_
    refine q_getR ok fl_X5_18 (kX5_0 g1) (fIX5_0 c) dX5_execute_232 ?_
    obtain ⟨g12, h⟩ := h
    refine q_getC ok fl_X5_124 (kX7_0 g12) (fIX7_4 ((σ3 c 0).toNat)) dX5_execute_235 ?_
    refine q_iload_n ok dX5_execute_238 2 rfl ?_
    obtain ⟨g13, g14, h⟩ := h
    refine q_iald ok kC_ok (kX7_4 g12) g13 g14 dX5_execute_239 ?_
    exact q_iret ok dX5_execute_240 h
  by_cases c4 : a1 = 3
  · have h := hs4 c4
    refine q_tsIn (tgt := 107) ok dX5_execute_11 g5 (by omega) (by omega) (by rw [c4]; rfl) (by decide) ?_
    refine q_aload_n ok dX5_execute_107 1 rfl ?_
    refine q_iload_n ok dX5_execute_108 3 rfl ?_
    refine q_iload_n ok dX5_execute_109 0 rfl ?_
    refine q_aload_n ok dX5_execute_110 1 rfl ?_
    refine q_getR ok fl_X5_18 (kX5_0 g1) (fIX5_0 c) dX5_execute_111 ?_
    refine q_getC ok fl_X5_108 (kX7_0 g2) (fIX7_3 ((σ c 0).toNat)) dX5_execute_114 ?_
    refine q_iload_n ok dX5_execute_117 2 rfl ?_
    obtain ⟨g15, g16, h⟩ := h
    refine q_iald ok kC_ok (kX7_3 g2) g15 g16 dX5_execute_118 ?_
    refine q_callVV (st := []) ok cs_X5_111 (kX5_0 g1) rfl (c_X5_changeMeter X.2.1 Y ok.2.2.2.2.2.2.2.2 h) ⟨rfl, rfl, Nat.le_of_ble_eq_true rfl, Nat.le_of_ble_eq_true rfl⟩ rfl rfl (Nat.le_of_ble_eq_true rfl) dX5_execute_119 (fun σ4 h => ?_)
    refine q_goto (tgt := 231) ok dX5_execute_122 (by decide) ?_
    refine q_aload_n ok dX5_execute_231 1 rfl ?_
    refine q_getR ok fl_X5_18 (kX5_0 g1) (fIX5_0 c) dX5_execute_232 ?_
    obtain ⟨g17, h⟩ := h
    refine q_getC ok fl_X5_124 (kX7_0 g17) (fIX7_4 ((σ4 c 0).toNat)) dX5_execute_235 ?_
    refine q_iload_n ok dX5_execute_238 2 rfl ?_
    obtain ⟨g18, g19, h⟩ := h
    refine q_iald ok kC_ok (kX7_4 g17) g18 g19 dX5_execute_239 ?_
    exact q_iret ok dX5_execute_240 h
  by_cases c5 : a1 = 4
  · have h := hs5 c5
    refine q_tsIn (tgt := 107) ok dX5_execute_11 g5 (by omega) (by omega) (by rw [c5]; rfl) (by decide) ?_
    refine q_aload_n ok dX5_execute_107 1 rfl ?_
    refine q_iload_n ok dX5_execute_108 3 rfl ?_
    refine q_iload_n ok dX5_execute_109 0 rfl ?_
    refine q_aload_n ok dX5_execute_110 1 rfl ?_
    refine q_getR ok fl_X5_18 (kX5_0 g1) (fIX5_0 c) dX5_execute_111 ?_
    refine q_getC ok fl_X5_108 (kX7_0 g2) (fIX7_3 ((σ c 0).toNat)) dX5_execute_114 ?_
    refine q_iload_n ok dX5_execute_117 2 rfl ?_
    obtain ⟨g20, g21, h⟩ := h
    refine q_iald ok kC_ok (kX7_3 g2) g20 g21 dX5_execute_118 ?_
    refine q_callVV (st := []) ok cs_X5_111 (kX5_0 g1) rfl (c_X5_changeMeter X.2.1 Y ok.2.2.2.2.2.2.2.2 h) ⟨rfl, rfl, Nat.le_of_ble_eq_true rfl, Nat.le_of_ble_eq_true rfl⟩ rfl rfl (Nat.le_of_ble_eq_true rfl) dX5_execute_119 (fun σ5 h => ?_)
    refine q_goto (tgt := 231) ok dX5_execute_122 (by decide) ?_
    refine q_aload_n ok dX5_execute_231 1 rfl ?_
    refine q_getR ok fl_X5_18 (kX5_0 g1) (fIX5_0 c) dX5_execute_232 ?_
    obtain ⟨g22, h⟩ := h
    refine q_getC ok fl_X5_124 (kX7_0 g22) (fIX7_4 ((σ5 c 0).toNat)) dX5_execute_235 ?_
    refine q_iload_n ok dX5_execute_238 2 rfl ?_
    obtain ⟨g23, g24, h⟩ := h
    refine q_iald ok kC_ok (kX7_4 g22) g23 g24 dX5_execute_239 ?_
    exact q_iret ok dX5_execute_240 h
  by_cases c6 : a1 = 5
  · have h := hs6 c6
    refine q_tsIn (tgt := 107) ok dX5_execute_11 g5 (by omega) (by omega) (by rw [c6]; rfl) (by decide) ?_
    refine q_aload_n ok dX5_execute_107 1 rfl ?_
    refine q_iload_n ok dX5_execute_108 3 rfl ?_
    refine q_iload_n ok dX5_execute_109 0 rfl ?_
    refine q_aload_n ok dX5_execute_110 1 rfl ?_
    refine q_getR ok fl_X5_18 (kX5_0 g1) (fIX5_0 c) dX5_execute_111 ?_
    refine q_getC ok fl_X5_108 (kX7_0 g2) (fIX7_3 ((σ c 0).toNat)) dX5_execute_114 ?_
    refine q_iload_n ok dX5_execute_117 2 rfl ?_
    obtain ⟨g25, g26, h⟩ := h
    refine q_iald ok kC_ok (kX7_3 g2) g25 g26 dX5_execute_118 ?_
    refine q_callVV (st := []) ok cs_X5_111 (kX5_0 g1) rfl (c_X5_changeMeter X.2.1 Y ok.2.2.2.2.2.2.2.2 h) ⟨rfl, rfl, Nat.le_of_ble_eq_true rfl, Nat.le_of_ble_eq_true rfl⟩ rfl rfl (Nat.le_of_ble_eq_true rfl) dX5_execute_119 (fun σ6 h => ?_)
    refine q_goto (tgt := 231) ok dX5_execute_122 (by decide) ?_
    refine q_aload_n ok dX5_execute_231 1 rfl ?_
    refine q_getR ok fl_X5_18 (kX5_0 g1) (fIX5_0 c) dX5_execute_232 ?_
    obtain ⟨g27, h⟩ := h
    refine q_getC ok fl_X5_124 (kX7_0 g27) (fIX7_4 ((σ6 c 0).toNat)) dX5_execute_235 ?_
    refine q_iload_n ok dX5_execute_238 2 rfl ?_
    obtain ⟨g28, g29, h⟩ := h
    refine q_iald ok kC_ok (kX7_4 g27) g28 g29 dX5_execute_239 ?_
    exact q_iret ok dX5_execute_240 h
  by_cases c8 : a1 = 6
  · have h := hs7 c8
    refine q_tsIn (tgt := 125) ok dX5_execute_11 g5 (by omega) (by omega) (by rw [c8]; rfl) (by decide) ?_
    refine q_aload_n ok dX5_execute_125 1 rfl ?_
    refine q_iload_n ok dX5_execute_126 2 rfl ?_
    refine q_callVI (st := []) ok cs_X5_115 (kX5_0 g1) rfl (c_X5_conditionHolds X.2.1 Y ok.2.2.2.2.2.2.2.2 h) ⟨rfl, rfl, Nat.le_of_ble_eq_true rfl, Nat.le_of_ble_eq_true rfl⟩ rfl rfl (Nat.le_of_ble_eq_true rfl) dX5_execute_127 (fun σ7 r1 h => ?_)
    obtain ⟨g30, hT1a, hT1b⟩ := h
    refine q_if_eq (tgt := 145) ok dX5_execute_130 (by decide) g30 (fun c7 => ?_) (fun c7 => ?_)
    · have h := hT1a c7
      refine q_aload_n ok dX5_execute_145 1 rfl ?_
      refine q_getR ok fl_X5_18 (kX5_0 g1) (fIX5_0 c) dX5_execute_146 ?_
      obtain ⟨g31, h⟩ := h
      refine q_getC ok fl_X5_121 (kX7_0 g31) (fIX7_6 ((σ7 c 0).toNat)) dX5_execute_149 ?_
      refine q_iload_n ok dX5_execute_152 2 rfl ?_
      obtain ⟨g32, g33, h⟩ := h
      refine q_iald ok kC_ok (kX7_6 g31) g32 g33 dX5_execute_153 ?_
      exact q_iret ok dX5_execute_154 h
    · have h := hT1b c7
      refine q_aload_n ok dX5_execute_133 1 rfl ?_
      refine q_getR ok fl_X5_18 (kX5_0 g1) (fIX5_0 c) dX5_execute_134 ?_
      obtain ⟨g34, h⟩ := h
      refine q_getC ok fl_X5_118 (kX7_0 g34) (fIX7_5 ((σ7 c 0).toNat)) dX5_execute_137 ?_
      refine q_iload_n ok dX5_execute_140 2 rfl ?_
      obtain ⟨g35, g36, h⟩ := h
      refine q_iald ok kC_ok (kX7_5 g34) g35 g36 dX5_execute_141 ?_
      refine q_goto (tgt := 154) ok dX5_execute_142 (by decide) ?_
      exact q_iret ok dX5_execute_154 h
  by_cases c11 : a1 = 7
  · have h := hs8 c11
    refine q_tsIn (tgt := 155) ok dX5_execute_11 g5 (by omega) (by omega) (by rw [c11]; rfl) (by decide) ?_
    refine q_aload_n ok dX5_execute_155 1 rfl ?_
    refine q_getI ok fl_X5_41 (kX5_0 g1) (fIX5_7 c) dX5_execute_156 ?_
    refine q_iload_n ok dX5_execute_159 0 rfl ?_
    refine q_ishr ok dX5_execute_160 ?_
    refine q_iconst ok dX5_execute_161 ?_
    refine q_iand ok dX5_execute_162 ?_
    obtain ⟨g37, hT3a, hT3b⟩ := h
    refine q_if_ne (tgt := 231) ok dX5_execute_163 (by decide) g37 (fun c10 => ?_) (fun c10 => ?_)
    · have h := hT3a c10
      refine q_aload_n ok dX5_execute_231 1 rfl ?_
      refine q_getR ok fl_X5_18 (kX5_0 g1) (fIX5_0 c) dX5_execute_232 ?_
      refine q_getC ok fl_X5_124 (kX7_0 g2) (fIX7_4 ((σ c 0).toNat)) dX5_execute_235 ?_
      refine q_iload_n ok dX5_execute_238 2 rfl ?_
      obtain ⟨g38, g39, h⟩ := h
      refine q_iald ok kC_ok (kX7_4 g2) g38 g39 dX5_execute_239 ?_
      exact q_iret ok dX5_execute_240 h
    · have h := hT3b c10
      refine q_aload_n ok dX5_execute_166 1 rfl ?_
      refine q_iload_n ok dX5_execute_167 2 rfl ?_
      refine q_callVI (st := []) ok cs_X5_115 (kX5_0 g1) rfl (c_X5_conditionHolds X.2.1 Y ok.2.2.2.2.2.2.2.2 h) ⟨rfl, rfl, Nat.le_of_ble_eq_true rfl, Nat.le_of_ble_eq_true rfl⟩ rfl rfl (Nat.le_of_ble_eq_true rfl) dX5_execute_168 (fun σ8 r2 h => ?_)
      obtain ⟨g40, hT2a, hT2b⟩ := h
      refine q_if_eq (tgt := 231) ok dX5_execute_171 (by decide) g40 (fun c9 => ?_) (fun c9 => ?_)
      · have h := hT2a c9
        refine q_aload_n ok dX5_execute_231 1 rfl ?_
        refine q_getR ok fl_X5_18 (kX5_0 g1) (fIX5_0 c) dX5_execute_232 ?_
        obtain ⟨g41, h⟩ := h
        refine q_getC ok fl_X5_124 (kX7_0 g41) (fIX7_4 ((σ8 c 0).toNat)) dX5_execute_235 ?_
        refine q_iload_n ok dX5_execute_238 2 rfl ?_
        obtain ⟨g42, g43, h⟩ := h
        refine q_iald ok kC_ok (kX7_4 g41) g42 g43 dX5_execute_239 ?_
        exact q_iret ok dX5_execute_240 h
      · have h := hT2b c9
        refine q_aload_n ok dX5_execute_174 1 rfl ?_
        refine q_dup ok dX5_execute_175 rfl ?_
        refine q_getI ok fl_X5_44 (kX5_0 g1) (fIX5_8 c) dX5_execute_176 ?_
        refine q_iconst ok dX5_execute_179 ?_
        refine q_iload_n ok dX5_execute_180 0 rfl ?_
        refine q_ishl ok dX5_execute_181 ?_
        refine q_ior ok dX5_execute_182 ?_
        refine q_putI ok fp_X5_44 (kX5_0 g1) (fIX5_8 c) dX5_execute_183 (wq_s (fun σ9 eσ9 => ?_))
        have h := h σ9 eσ9
        refine q_goto (tgt := 231) ok dX5_execute_186 (by decide) ?_
        refine q_aload_n ok dX5_execute_231 1 rfl ?_
        refine q_getR ok fl_X5_18 (kX5_0 g1) (fIX5_0 c) dX5_execute_232 ?_
        obtain ⟨g44, h⟩ := h
        refine q_getC ok fl_X5_124 (kX7_0 g44) (fIX7_4 ((σ9 c 0).toNat)) dX5_execute_235 ?_
        refine q_iload_n ok dX5_execute_238 2 rfl ?_
        obtain ⟨g45, g46, h⟩ := h
        refine q_iald ok kC_ok (kX7_4 g44) g45 g46 dX5_execute_239 ?_
        exact q_iret ok dX5_execute_240 h
  by_cases c12 : a1 = 8
  · have h := hs9 c12
    refine q_tsIn (tgt := 189) ok dX5_execute_11 g5 (by omega) (by omega) (by rw [c12]; rfl) (by decide) ?_
    refine q_aload_n ok dX5_execute_189 1 rfl ?_
    refine q_iload_n ok dX5_execute_190 0 rfl ?_
    refine q_callVI (st := []) ok cs_X5_57 (kX5_0 g1) rfl (c_X5_enter X.2.1 Y ok.2.2.2.2.2.2.2.2 h) ⟨rfl, rfl, Nat.le_of_ble_eq_true rfl, Nat.le_of_ble_eq_true rfl⟩ rfl rfl (Nat.le_of_ble_eq_true rfl) dX5_execute_191 (fun σ10 r3 h => ?_)
    exact q_iret ok dX5_execute_194 h
  by_cases c14 : a1 = 9
  · have h := hs10 c14
    refine q_tsIn (tgt := 195) ok dX5_execute_11 g5 (by omega) (by omega) (by rw [c14]; rfl) (by decide) ?_
    refine q_aload_n ok dX5_execute_195 1 rfl ?_
    refine q_getI ok fl_X5_26 (kX5_0 g1) (fIX5_4 c) dX5_execute_196 ?_
    refine q_iconst ok dX5_execute_199 ?_
    obtain ⟨g47, hT4a, hT4b⟩ := h
    refine q_icmp_ne (tgt := 211) ok dX5_execute_200 (by decide) g47 (by unfold inR; decide) (fun c13 => ?_) (fun c13 => ?_)
    · have h := hT4a c13
      refine q_aload_n ok dX5_execute_211 1 rfl ?_
      refine q_aload_n ok dX5_execute_212 1 rfl ?_
      refine q_getI ok fl_X5_26 (kX5_0 g1) (fIX5_4 c) dX5_execute_213 ?_
      refine q_callVI (st := []) ok cs_X5_57 (kX5_0 g1) rfl (c_X5_enter X.2.1 Y ok.2.2.2.2.2.2.2.2 h) ⟨rfl, rfl, Nat.le_of_ble_eq_true rfl, Nat.le_of_ble_eq_true rfl⟩ rfl rfl (Nat.le_of_ble_eq_true rfl) dX5_execute_216 (fun σ11 r4 h => ?_)
      exact q_iret ok dX5_execute_219 h
    · have h := hT4b c13
      refine q_aload_n ok dX5_execute_203 1 rfl ?_
      refine q_iconst ok dX5_execute_204 ?_
      refine q_callVI (st := []) ok cs_X5_95 (kX5_0 g1) rfl (c_X5_endFlow X.2.1 Y ok.2.2.2.2.2.2.2.2 h) ⟨rfl, rfl, Nat.le_of_ble_eq_true rfl, Nat.le_of_ble_eq_true rfl⟩ rfl rfl (Nat.le_of_ble_eq_true rfl) dX5_execute_205 (fun σ12 r5 h => ?_)
      refine q_goto (tgt := 219) ok dX5_execute_208 (by decide) ?_
      exact q_iret ok dX5_execute_219 h
  have h := hs11 (by omega)
  refine q_tsOut (tgt := 220) ok dX5_execute_11 g5 (by omega) (by decide) ?_
  refine q_aload_n ok dX5_execute_220 1 rfl ?_
  refine q_iload_n ok dX5_execute_221 0 rfl ?_
  refine q_putI ok fp_X5_32 (kX5_0 g1) (fIX5_2 c) dX5_execute_222 (wq_s (fun σ13 eσ13 => ?_))
  have h := h σ13 eσ13
  refine q_aload_n ok dX5_execute_225 1 rfl ?_
  refine q_iconst ok dX5_execute_226 ?_
  refine q_callVI (st := []) ok cs_X5_95 (kX5_0 g1) rfl (c_X5_endFlow X.2.1 Y ok.2.2.2.2.2.2.2.2 h) ⟨rfl, rfl, Nat.le_of_ble_eq_true rfl, Nat.le_of_ble_eq_true rfl⟩ rfl rfl (Nat.le_of_ble_eq_true rfl) dX5_execute_227 (fun σ14 r6 h => ?_)
  exact q_iret ok dX5_execute_230 h)
/-! BranchingStory$Play.run(I)V -/
def f_X5_run_J51 (k7 : St → Nat → Int → Int → Int → Prop) (Q : St → Prop) (σ : St) (v0 : Nat) (v3 : Int) (v4 : Int) (v5 : Int) : Prop :=
  isP v0 ∧ f_X5_endBlock v0 v5 σ (fun σ1 r1 => k7 σ1 v0 r1 v3 (v4 + 1))
def f_X5_run_L7 (Q : St → Prop) : Nat → St → Nat → Int → Int → Int → Prop
  | 0, _, _, _, _, _ => False
  | n + 1, σ, v0, v2, v3, v4 => inR v4 ∧ ((153 ≤ v4 → Q σ) ∧ (¬ 153 ≤ v4 → isP v0 ∧ isS ((σ v0 0).toNat) ∧ f_X7_has ((σ v0 0).toNat) v2 σ (fun σ1 r1 => inR r1 ∧ ((r1 = 0 → Q σ1) ∧ (¬ r1 = 0 → isS ((σ1 v0 0).toNat) ∧ 0 ≤ v2 ∧ v2 < 400 ∧ ∀ x1 : Int, x1 = (σ1 ((σ1 v0 0).toNat + 1) v2.toNat) → inR x1 ∧ ((x1 = 11 → f_X5_run_J51 (fun σ' v0' v2' v3' v4' => f_X5_run_L7 Q n σ' v0' v2' v3' v4') Q σ1 v0 v3 v4 x1) ∧ (¬ x1 = 11 → inR x1 ∧ ((¬ x1 = 12 → inR v3 ∧ ((¬ v3 = 150 → f_X5_execute v0 v2 x1 σ1 (fun σ2 r2 => f_X5_run_L7 Q n σ2 v0 r2 (v3 + 1) (v4 + 1))) ∧ (v3 = 150 → f_X5_endFlow v0 4 σ1 (fun σ3 r3 => f_X5_run_L7 Q n σ3 v0 r3 v3 (v4 + 1))))) ∧ (x1 = 12 → f_X5_run_J51 (fun σ' v0' v2' v3' v4' => f_X5_run_L7 Q n σ' v0' v2' v3' v4') Q σ1 v0 v3 v4 x1)))))))))
def f_X5_run (c : Nat) (a0 : Int) (σ : St) (Q : St → Prop) : Prop :=
  f_X5_run_L7 Q FU σ c a0 0 0
set_option maxRecDepth 100000 in
set_option maxHeartbeats 4000000 in
theorem w_X5_run_J51 {X : Cx} {Y : Cy} {k7 : St → Nat → Int → Int → Int → Prop} {Q : St → Prop} (ok : Ok X Y KC cX5_run 6 RX5 (rm0q 4 95) none) (hk7 : ∀ (σ : St) (v0 : Nat) (v2 : Int) (v3 : Int) (v4 : Int) , k7 σ v0 v2 v3 v4 → Wq X Y KC 6 (QF X Y (Qvq Y KC Q)) σ 7 [(0, .inr (.inr v0)), (2, .inl v2), (3, .inl v3), (4, .inl v4)] []) (σ : St) (v0 : Nat) (v3 : Int) (v4 : Int) (v5 : Int) (h : f_X5_run_J51 k7 Q σ v0 v3 v4 v5) : Wq X Y KC 6 (QF X Y (Qvq Y KC Q)) σ 51 [(0, .inr (.inr v0)), (3, .inl v3), (4, .inl v4), (5, .inl v5)] [] := by
  unfold f_X5_run_J51 at h
  refine q_aload_n ok dX5_run_51 0 rfl ?_
  refine q_iload ok dX5_run_52 3 rfl ?_
  obtain ⟨g1, h⟩ := h
  refine q_callVI (st := []) ok cs_X5_92 (kX5_0 g1) rfl (c_X5_endBlock X.2.1 Y ok.2.2.2.2.2.2.2.2 h) ⟨rfl, rfl, Nat.le_of_ble_eq_true rfl, Nat.le_of_ble_eq_true rfl⟩ rfl rfl (Nat.le_of_ble_eq_true rfl) dX5_run_54 (fun σ1 r1 h => ?_)
  refine q_istore_n (lv' := [(2, .inl r1), (0, .inr (.inr v0)), (3, .inl v3), (4, .inl v4), (5, .inl v5)]) ok dX5_run_57 (by decide) rfl ?_
  refine q_goto (tgt := 88) ok dX5_run_58 (by decide) ?_
  refine q_iinc (lv' := [(4, .inl (v4 + 1)), (2, .inl r1), (0, .inr (.inr v0)), (3, .inl v3), (5, .inl v5)]) ok dX5_run_88 3 rfl (by decide) rfl ?_
  refine q_goto (tgt := 7) ok dX5_run_91 (by decide) ?_
  refine q_sub [2, 1, 3, 0] rfl ?_
  exact hk7 σ1 v0 r1 v3 (v4 + 1) h
set_option maxRecDepth 100000 in
set_option maxHeartbeats 4000000 in
theorem w_X5_run_L7 {X : Cx} {Y : Cy} {Q : St → Prop} (ok : Ok X Y KC cX5_run 6 RX5 (rm0q 4 95) none) : ∀ (n : Nat) (σ : St) (v0 : Nat) (v2 : Int) (v3 : Int) (v4 : Int) , f_X5_run_L7 Q n σ v0 v2 v3 v4 → Wq X Y KC 6 (QF X Y (Qvq Y KC Q)) σ 7 [(0, .inr (.inr v0)), (2, .inl v2), (3, .inl v3), (4, .inl v4)] [] := by
  intro n
  induction n with
  | zero => intro σ v0 v2 v3 v4 h; exact h.elim
  | succ n ih =>
    intro σ v0 v2 v3 v4 h
    rw [f_X5_run_L7] at h
    refine q_iload ok dX5_run_7 3 rfl ?_
    refine q_sipush ok dX5_run_9 rfl ?_
    obtain ⟨g1, hT5a, hT5b⟩ := h
    refine q_icmp_ge (tgt := 94) ok dX5_run_12 (by decide) g1 (by unfold inR; decide) (fun c5 => ?_) (fun c5 => ?_)
    · have h := hT5a c5
      exact q_vret ok dX5_run_94 h
    · have h := hT5b c5
      refine q_aload_n ok dX5_run_15 0 rfl ?_
      obtain ⟨g2, h⟩ := h
      refine q_getR ok fl_X5_18 (kX5_0 g2) (fIX5_0 v0) dX5_run_16 ?_
      refine q_iload_n ok dX5_run_19 1 rfl ?_
      obtain ⟨g3, h⟩ := h
      refine q_callVI (st := []) ok cs_X5_86 (kX7_0 g3) rfl (c_X7_has X.2.1 Y ok.2.2.2.2.2.2.2.2 h) ⟨rfl, rfl, Nat.le_of_ble_eq_true rfl, Nat.le_of_ble_eq_true rfl⟩ rfl rfl (Nat.le_of_ble_eq_true rfl) dX5_run_20 (fun σ1 r1 h => ?_)
      obtain ⟨g4, hT4a, hT4b⟩ := h
      refine q_if_eq (tgt := 94) ok dX5_run_23 (by decide) g4 (fun c4 => ?_) (fun c4 => ?_)
      · have h := hT4a c4
        exact q_vret ok dX5_run_94 h
      · have h := hT4b c4
        refine q_aload_n ok dX5_run_26 0 rfl ?_
        refine q_getR ok fl_X5_18 (kX5_0 g2) (fIX5_0 v0) dX5_run_27 ?_
        obtain ⟨g5, h⟩ := h
        refine q_getC ok fl_X5_89 (kX7_0 g5) (fIX7_1 ((σ1 v0 0).toNat)) dX5_run_30 ?_
        refine q_iload_n ok dX5_run_33 1 rfl ?_
        obtain ⟨g6, g7, h⟩ := h
        refine q_iald ok kC_ok (kX7_1 g5) g6 g7 dX5_run_34 ?_
        refine wq_i (fun x1 ex1 => ?_)
        have h := h x1 ex1
        refine q_istore (lv' := [(5, .inl x1), (0, .inr (.inr v0)), (2, .inl v2), (3, .inl v3), (4, .inl v4)]) ok dX5_run_35 (by decide) rfl ?_
        refine q_iload ok dX5_run_37 0 rfl ?_
        refine q_bipush ok dX5_run_39 rfl ?_
        obtain ⟨g8, hT3a, hT3b⟩ := h
        refine q_icmp_eq (tgt := 51) ok dX5_run_41 (by decide) g8 (by unfold inR; decide) (fun c3 => ?_) (fun c3 => ?_)
        · have h := hT3a c3
          refine q_sub [1, 3, 4, 0] rfl ?_
          exact w_X5_run_J51 ok ih σ1 v0 v3 v4 x1 h
        · have h := hT3b c3
          refine q_iload ok dX5_run_44 0 rfl ?_
          refine q_bipush ok dX5_run_46 rfl ?_
          obtain ⟨g9, hT2a, hT2b⟩ := h
          refine q_icmp_ne (tgt := 61) ok dX5_run_48 (by decide) g9 (by unfold inR; decide) (fun c2 => ?_) (fun c2 => ?_)
          · have h := hT2a c2
            refine q_iload_n ok dX5_run_61 3 rfl ?_
            refine q_sipush ok dX5_run_62 rfl ?_
            obtain ⟨g10, hT1a, hT1b⟩ := h
            refine q_icmp_ne (tgt := 77) ok dX5_run_65 (by decide) g10 (by unfold inR; decide) (fun c1 => ?_) (fun c1 => ?_)
            · have h := hT1a c1
              refine q_iinc (lv' := [(3, .inl (v3 + 1)), (5, .inl x1), (0, .inr (.inr v0)), (2, .inl v2), (4, .inl v4)]) ok dX5_run_77 3 rfl (by decide) rfl ?_
              refine q_aload_n ok dX5_run_80 2 rfl ?_
              refine q_iload_n ok dX5_run_81 3 rfl ?_
              refine q_iload ok dX5_run_82 1 rfl ?_
              refine q_callVI (st := []) ok cs_X5_98 (kX5_0 g2) rfl (c_X5_execute X.2.1 Y ok.2.2.2.2.2.2.2.2 h) ⟨rfl, rfl, Nat.le_of_ble_eq_true rfl, Nat.le_of_ble_eq_true rfl⟩ rfl rfl (Nat.le_of_ble_eq_true rfl) dX5_run_84 (fun σ2 r2 h => ?_)
              refine q_istore_n (lv' := [(2, .inl r2), (3, .inl (v3 + 1)), (5, .inl x1), (0, .inr (.inr v0)), (4, .inl v4)]) ok dX5_run_87 (by decide) rfl ?_
              refine q_iinc (lv' := [(4, .inl (v4 + 1)), (2, .inl r2), (3, .inl (v3 + 1)), (5, .inl x1), (0, .inr (.inr v0))]) ok dX5_run_88 4 rfl (by decide) rfl ?_
              refine q_goto (tgt := 7) ok dX5_run_91 (by decide) ?_
              refine q_sub [4, 1, 2, 0] rfl ?_
              exact ih σ2 v0 r2 (v3 + 1) (v4 + 1) h
            · have h := hT1b c1
              refine q_aload_n ok dX5_run_68 1 rfl ?_
              refine q_iconst ok dX5_run_69 ?_
              refine q_callVI (st := []) ok cs_X5_95 (kX5_0 g2) rfl (c_X5_endFlow X.2.1 Y ok.2.2.2.2.2.2.2.2 h) ⟨rfl, rfl, Nat.le_of_ble_eq_true rfl, Nat.le_of_ble_eq_true rfl⟩ rfl rfl (Nat.le_of_ble_eq_true rfl) dX5_run_70 (fun σ3 r3 h => ?_)
              refine q_istore_n (lv' := [(2, .inl r3), (5, .inl x1), (0, .inr (.inr v0)), (3, .inl v3), (4, .inl v4)]) ok dX5_run_73 (by decide) rfl ?_
              refine q_goto (tgt := 88) ok dX5_run_74 (by decide) ?_
              refine q_iinc (lv' := [(4, .inl (v4 + 1)), (2, .inl r3), (5, .inl x1), (0, .inr (.inr v0)), (3, .inl v3)]) ok dX5_run_88 4 rfl (by decide) rfl ?_
              refine q_goto (tgt := 7) ok dX5_run_91 (by decide) ?_
              refine q_sub [3, 1, 4, 0] rfl ?_
              exact ih σ3 v0 r3 v3 (v4 + 1) h
          · have h := hT2b c2
            refine q_sub [1, 3, 4, 0] rfl ?_
            exact w_X5_run_J51 ok ih σ1 v0 v3 v4 x1 h
set_option maxRecDepth 100000 in
set_option maxHeartbeats 4000000 in
theorem c_X5_run (l : Launch) (Y : Cy) (hD : ∀ σ, va_D Y.2.2.2 (wsOf KC Y.2.1 Y.2.2.1 σ)) {c : Nat} {a0 : Int} {σ : St} {Q : St → Prop} (h : f_X5_run c a0 σ Q) : ConV l yX5_run cX5_run 6 (rm0q 4 95) Y KC σ [.inr (.inr c), .inl a0] Q := con_of (lv := [(0, .inr (.inr c)), (1, .inl a0)]) (by decide) hD (Nat.le_of_ble_eq_true rfl) rfl (fun X _ ok => by
  have ok : Ok X Y KC cX5_run 6 RX5 (rm0q 4 95) none := ok
  unfold f_X5_run at h
  refine q_iload_n ok dX5_run_0 1 rfl ?_
  refine q_istore_n (lv' := [(2, .inl a0), (0, .inr (.inr c)), (1, .inl a0)]) ok dX5_run_1 (by decide) rfl ?_
  refine q_iconst ok dX5_run_2 ?_
  refine q_istore_n (lv' := [(3, .inl 0), (2, .inl a0), (0, .inr (.inr c)), (1, .inl a0)]) ok dX5_run_3 (by decide) rfl ?_
  refine q_iconst ok dX5_run_4 ?_
  refine q_istore (lv' := [(4, .inl 0), (3, .inl 0), (2, .inl a0), (0, .inr (.inr c)), (1, .inl a0)]) ok dX5_run_5 (by decide) rfl ?_
  refine q_sub [3, 2, 1, 0] rfl ?_
  exact w_X5_run_L7 ok FU σ c a0 0 0 h)
/-! BranchingStory$Play.begin(LBranchingStory$Story;)V -/
def f_X5_begin (c : Nat) (a0 : Nat) (σ : St) (Q : St → Prop) : Prop :=
  isP c ∧ f_X5_forget c a0 σ (fun σ1 => f_X5_enter c 0 σ1 (fun σ2 r1 => f_X5_run c r1 σ2 (fun σ3 => Q σ3)))
set_option maxRecDepth 100000 in
set_option maxHeartbeats 4000000 in
theorem c_X5_begin (l : Launch) (Y : Cy) (hD : ∀ σ, va_D Y.2.2.2 (wsOf KC Y.2.1 Y.2.2.1 σ)) {c : Nat} {a0 : Nat} {σ : St} {Q : St → Prop} (h : f_X5_begin c a0 σ Q) : ConV l yX5_begin cX5_begin 2 (rm0q 5 120) Y KC σ [.inr (.inr c), .inr (.inr a0)] Q := con_of (lv := [(0, .inr (.inr c)), (1, .inr (.inr a0))]) (by decide) hD (Nat.le_of_ble_eq_true rfl) rfl (fun X _ ok => by
  have ok : Ok X Y KC cX5_begin 2 RX5 (rm0q 5 120) none := ok
  unfold f_X5_begin at h
  refine q_aload_n ok dX5_begin_0 0 rfl ?_
  refine q_aload_n ok dX5_begin_1 1 rfl ?_
  obtain ⟨g1, h⟩ := h
  refine q_callVV (st := []) ok cs_X5_53 (kX5_0 g1) rfl (c_X5_forget X.2.1 Y ok.2.2.2.2.2.2.2.2 h) ⟨rfl, rfl, Nat.le_of_ble_eq_true rfl, Nat.le_of_ble_eq_true rfl⟩ rfl rfl (Nat.le_of_ble_eq_true rfl) dX5_begin_2 (fun σ1 h => ?_)
  refine q_aload_n ok dX5_begin_5 0 rfl ?_
  refine q_aload_n ok dX5_begin_6 0 rfl ?_
  refine q_iconst ok dX5_begin_7 ?_
  refine q_callVI (st := [.inr (.inr c)]) ok cs_X5_57 (kX5_0 g1) rfl (c_X5_enter X.2.1 Y ok.2.2.2.2.2.2.2.2 h) ⟨rfl, rfl, Nat.le_of_ble_eq_true rfl, Nat.le_of_ble_eq_true rfl⟩ rfl rfl (Nat.le_of_ble_eq_true rfl) dX5_begin_8 (fun σ2 r1 h => ?_)
  refine q_callVV (st := []) ok cs_X5_61 (kX5_0 g1) rfl (c_X5_run X.2.1 Y ok.2.2.2.2.2.2.2.2 h) ⟨rfl, rfl, Nat.le_of_ble_eq_true rfl, Nat.le_of_ble_eq_true rfl⟩ rfl rfl (Nat.le_of_ble_eq_true rfl) dX5_begin_11 (fun σ3 h => ?_)
  exact q_vret ok dX5_begin_14 h)
/-! BranchingStory$Play.choiceAt(I)I -/
def f_X5_choiceAt_L4 (Q : St → Int → Prop) : Nat → St → Nat → Int → Int → Prop
  | 0, _, _, _, _ => False
  | n + 1, σ, v0, v2, v3 => inR v3 ∧ ((16 ≤ v3 → Q σ (-1)) ∧ (¬ 16 ≤ v3 → isP v0 ∧ inR (iand32 (ishr32 (σ v0 8) v3) 1) ∧ ((¬ (iand32 (ishr32 (σ v0 8) v3) 1) = 1 → f_X5_choiceAt_L4 Q n σ v0 v2 (v3 + 1)) ∧ ((iand32 (ishr32 (σ v0 8) v3) 1) = 1 → inR v2 ∧ ((¬ v2 = 0 → f_X5_choiceAt_L4 Q n σ v0 (v2 + (-1)) (v3 + 1)) ∧ (v2 = 0 → Q σ v3))))))
def f_X5_choiceAt (c : Nat) (a0 : Int) (σ : St) (Q : St → Int → Prop) : Prop :=
  f_X5_choiceAt_L4 Q FU σ c a0 0
set_option maxRecDepth 100000 in
set_option maxHeartbeats 4000000 in
theorem w_X5_choiceAt_L4 {X : Cx} {Y : Cy} {Q : St → Int → Prop} (ok : Ok X Y KC cX5_choiceAt 4 RX5 (rm0q 0 0) (some .int)) : ∀ (n : Nat) (σ : St) (v0 : Nat) (v2 : Int) (v3 : Int) , f_X5_choiceAt_L4 Q n σ v0 v2 v3 → Wq X Y KC 4 (QF X Y (Qiq Y KC Q)) σ 4 [(0, .inr (.inr v0)), (2, .inl v2), (3, .inl v3)] [] := by
  intro n
  induction n with
  | zero => intro σ v0 v2 v3 h; exact h.elim
  | succ n ih =>
    intro σ v0 v2 v3 h
    rw [f_X5_choiceAt_L4] at h
    refine q_iload_n ok dX5_choiceAt_4 2 rfl ?_
    refine q_bipush ok dX5_choiceAt_5 rfl ?_
    obtain ⟨g1, hT3a, hT3b⟩ := h
    refine q_icmp_ge (tgt := 37) ok dX5_choiceAt_7 (by decide) g1 (by unfold inR; decide) (fun c3 => ?_) (fun c3 => ?_)
    · have h := hT3a c3
      refine q_iconst ok dX5_choiceAt_37 ?_
      exact q_iret ok dX5_choiceAt_38 h
    · have h := hT3b c3
      refine q_aload_n ok dX5_choiceAt_10 0 rfl ?_
      obtain ⟨g2, h⟩ := h
      refine q_getI ok fl_X5_44 (kX5_0 g2) (fIX5_8 v0) dX5_choiceAt_11 ?_
      refine q_iload_n ok dX5_choiceAt_14 2 rfl ?_
      refine q_ishr ok dX5_choiceAt_15 ?_
      refine q_iconst ok dX5_choiceAt_16 ?_
      refine q_iand ok dX5_choiceAt_17 ?_
      refine q_iconst ok dX5_choiceAt_18 ?_
      obtain ⟨g3, hT2a, hT2b⟩ := h
      refine q_icmp_ne (tgt := 31) ok dX5_choiceAt_19 (by decide) g3 (by unfold inR; decide) (fun c2 => ?_) (fun c2 => ?_)
      · have h := hT2a c2
        refine q_iinc (lv' := [(3, .inl (v3 + 1)), (0, .inr (.inr v0)), (2, .inl v2)]) ok dX5_choiceAt_31 2 rfl (by decide) rfl ?_
        refine q_goto (tgt := 4) ok dX5_choiceAt_34 (by decide) ?_
        refine q_sub [1, 2, 0] rfl ?_
        exact ih σ v0 v2 (v3 + 1) h
      · have h := hT2b c2
        refine q_iload_n ok dX5_choiceAt_22 1 rfl ?_
        obtain ⟨g4, hT1a, hT1b⟩ := h
        refine q_if_ne (tgt := 28) ok dX5_choiceAt_23 (by decide) g4 (fun c1 => ?_) (fun c1 => ?_)
        · have h := hT1a c1
          refine q_iinc (lv' := [(2, .inl (v2 + (-1))), (0, .inr (.inr v0)), (3, .inl v3)]) ok dX5_choiceAt_28 1 rfl (by decide) rfl ?_
          refine q_iinc (lv' := [(3, .inl (v3 + 1)), (2, .inl (v2 + (-1))), (0, .inr (.inr v0))]) ok dX5_choiceAt_31 2 rfl (by decide) rfl ?_
          refine q_goto (tgt := 4) ok dX5_choiceAt_34 (by decide) ?_
          refine q_sub [2, 1, 0] rfl ?_
          exact ih σ v0 (v2 + (-1)) (v3 + 1) h
        · have h := hT1b c1
          refine q_iload_n ok dX5_choiceAt_26 2 rfl ?_
          exact q_iret ok dX5_choiceAt_27 h
set_option maxRecDepth 100000 in
set_option maxHeartbeats 4000000 in
theorem c_X5_choiceAt (l : Launch) (Y : Cy) (hD : ∀ σ, va_D Y.2.2.2 (wsOf KC Y.2.1 Y.2.2.1 σ)) {c : Nat} {a0 : Int} {σ : St} {Q : St → Int → Prop} (h : f_X5_choiceAt c a0 σ Q) : ConI l yX5_choiceAt cX5_choiceAt 4 .int (rm0q 0 0) Y KC σ [.inr (.inr c), .inl a0] Q := con_of (lv := [(0, .inr (.inr c)), (1, .inl a0)]) (by decide) hD (Nat.le_of_ble_eq_true rfl) rfl (fun X _ ok => by
  have ok : Ok X Y KC cX5_choiceAt 4 RX5 (rm0q 0 0) (some .int) := ok
  unfold f_X5_choiceAt at h
  refine q_iload_n ok dX5_choiceAt_0 1 rfl ?_
  refine q_istore_n (lv' := [(2, .inl a0), (0, .inr (.inr c)), (1, .inl a0)]) ok dX5_choiceAt_1 (by decide) rfl ?_
  refine q_iconst ok dX5_choiceAt_2 ?_
  refine q_istore_n (lv' := [(3, .inl 0), (2, .inl a0), (0, .inr (.inr c)), (1, .inl a0)]) ok dX5_choiceAt_3 (by decide) rfl ?_
  refine q_sub [2, 1, 0] rfl ?_
  exact w_X5_choiceAt_L4 ok FU σ c a0 0 h)
/-! BranchingStory$Play.take(I)V -/
def f_X5_take_J40 (Q : St → Prop) (σ : St) (v0 : Nat) (v2 : Int) : Prop :=
  isP v0 ∧ ∀ σ1 : St, σ1 = sset σ v0 8 0 → isS ((σ1 v0 0).toNat) ∧ 0 ≤ v2 ∧ v2 < 16 ∧ f_X5_run v0 (σ1 ((σ1 v0 0).toNat + 17) v2.toNat) σ1 (fun σ2 => Q σ2)
def f_X5_take (c : Nat) (a0 : Int) (σ : St) (Q : St → Prop) : Prop :=
  isP c ∧ f_X5_choiceAt c a0 σ (fun σ1 r1 => inR r1 ∧ ((r1 < 0 → Q σ1) ∧ (¬ r1 < 0 → inR r1 ∧ ((r1 < 16 → isS ((σ1 c 0).toNat) ∧ f_X7_standsInHub ((σ1 c 0).toNat) r1 σ1 (fun σ2 r2 => inR r2 ∧ ((r2 = 0 → f_X5_take_J40 Q σ2 c r1) ∧ (¬ r2 = 0 → ∀ σ3 : St, σ3 = sset σ2 c 7 (ior32 (σ2 c 7) (ishl32 1 r1)) → f_X5_take_J40 Q σ3 c r1)))) ∧ (¬ r1 < 16 → Q σ1)))))
set_option maxRecDepth 100000 in
set_option maxHeartbeats 4000000 in
theorem w_X5_take_J40 {X : Cx} {Y : Cy} {Q : St → Prop} (ok : Ok X Y KC cX5_take 3 RX5 (rm0q 5 120) none) (σ : St) (v0 : Nat) (v2 : Int) (h : f_X5_take_J40 Q σ v0 v2) : Wq X Y KC 3 (QF X Y (Qvq Y KC Q)) σ 40 [(0, .inr (.inr v0)), (2, .inl v2)] [] := by
  unfold f_X5_take_J40 at h
  refine q_aload_n ok dX5_take_40 0 rfl ?_
  refine q_iconst ok dX5_take_41 ?_
  obtain ⟨g1, h⟩ := h
  refine q_putI ok fp_X5_44 (kX5_0 g1) (fIX5_8 v0) dX5_take_42 (wq_s (fun σ1 eσ1 => ?_))
  have h := h σ1 eσ1
  refine q_aload_n ok dX5_take_45 0 rfl ?_
  refine q_aload_n ok dX5_take_46 0 rfl ?_
  refine q_getR ok fl_X5_18 (kX5_0 g1) (fIX5_0 v0) dX5_take_47 ?_
  obtain ⟨g2, h⟩ := h
  refine q_getC ok fl_X5_74 (kX7_0 g2) (fIX7_17 ((σ1 v0 0).toNat)) dX5_take_50 ?_
  refine q_iload_n ok dX5_take_53 1 rfl ?_
  obtain ⟨g3, g4, h⟩ := h
  refine q_iald ok kC_ok (kX7_17 g2) g3 g4 dX5_take_54 ?_
  refine q_callVV (st := []) ok cs_X5_61 (kX5_0 g1) rfl (c_X5_run X.2.1 Y ok.2.2.2.2.2.2.2.2 h) ⟨rfl, rfl, Nat.le_of_ble_eq_true rfl, Nat.le_of_ble_eq_true rfl⟩ rfl rfl (Nat.le_of_ble_eq_true rfl) dX5_take_55 (fun σ2 h => ?_)
  exact q_vret ok dX5_take_58 h
set_option maxRecDepth 100000 in
set_option maxHeartbeats 4000000 in
theorem c_X5_take (l : Launch) (Y : Cy) (hD : ∀ σ, va_D Y.2.2.2 (wsOf KC Y.2.1 Y.2.2.1 σ)) {c : Nat} {a0 : Int} {σ : St} {Q : St → Prop} (h : f_X5_take c a0 σ Q) : ConV l yX5_take cX5_take 3 (rm0q 5 120) Y KC σ [.inr (.inr c), .inl a0] Q := con_of (lv := [(0, .inr (.inr c)), (1, .inl a0)]) (by decide) hD (Nat.le_of_ble_eq_true rfl) rfl (fun X _ ok => by
  have ok : Ok X Y KC cX5_take 3 RX5 (rm0q 5 120) none := ok
  unfold f_X5_take at h
  refine q_aload_n ok dX5_take_0 0 rfl ?_
  refine q_iload_n ok dX5_take_1 1 rfl ?_
  obtain ⟨g1, h⟩ := h
  refine q_callVI (st := []) ok cs_X5_65 (kX5_0 g1) rfl (c_X5_choiceAt X.2.1 Y ok.2.2.2.2.2.2.2.2 h) ⟨rfl, rfl, Nat.le_of_ble_eq_true rfl, Nat.le_of_ble_eq_true rfl⟩ rfl rfl (Nat.le_of_ble_eq_true rfl) dX5_take_2 (fun σ1 r1 h => ?_)
  refine q_istore_n (lv' := [(2, .inl r1), (0, .inr (.inr c)), (1, .inl a0)]) ok dX5_take_5 (by decide) rfl ?_
  refine q_iload_n ok dX5_take_6 0 rfl ?_
  obtain ⟨g2, hT3a, hT3b⟩ := h
  refine q_if_lt (tgt := 16) ok dX5_take_7 (by decide) g2 (fun c3 => ?_) (fun c3 => ?_)
  · have h := hT3a c3
    exact q_vret ok dX5_take_16 h
  · have h := hT3b c3
    refine q_iload_n ok dX5_take_10 0 rfl ?_
    refine q_bipush ok dX5_take_11 rfl ?_
    obtain ⟨g3, hT2a, hT2b⟩ := h
    refine q_icmp_lt (tgt := 17) ok dX5_take_13 (by decide) g3 (by unfold inR; decide) (fun c2 => ?_) (fun c2 => ?_)
    · have h := hT2a c2
      refine q_aload_n ok dX5_take_17 1 rfl ?_
      refine q_getR ok fl_X5_18 (kX5_0 g1) (fIX5_0 c) dX5_take_18 ?_
      refine q_iload_n ok dX5_take_21 0 rfl ?_
      obtain ⟨g4, h⟩ := h
      refine q_callVI (st := []) ok cs_X5_68 (kX7_0 g4) rfl (c_X7_standsInHub X.2.1 Y ok.2.2.2.2.2.2.2.2 h) ⟨rfl, rfl, Nat.le_of_ble_eq_true rfl, Nat.le_of_ble_eq_true rfl⟩ rfl rfl (Nat.le_of_ble_eq_true rfl) dX5_take_22 (fun σ2 r2 h => ?_)
      obtain ⟨g5, hT1a, hT1b⟩ := h
      refine q_if_eq (tgt := 40) ok dX5_take_25 (by decide) g5 (fun c1 => ?_) (fun c1 => ?_)
      · have h := hT1a c1
        refine q_sub [1, 0] rfl ?_
        exact w_X5_take_J40 ok σ2 c r1 h
      · have h := hT1b c1
        refine q_aload_n ok dX5_take_28 1 rfl ?_
        refine q_dup ok dX5_take_29 rfl ?_
        refine q_getI ok fl_X5_41 (kX5_0 g1) (fIX5_7 c) dX5_take_30 ?_
        refine q_iconst ok dX5_take_33 ?_
        refine q_iload_n ok dX5_take_34 0 rfl ?_
        refine q_ishl ok dX5_take_35 ?_
        refine q_ior ok dX5_take_36 ?_
        refine q_putI ok fp_X5_41 (kX5_0 g1) (fIX5_7 c) dX5_take_37 (wq_s (fun σ3 eσ3 => ?_))
        have h := h σ3 eσ3
        refine q_sub [1, 0] rfl ?_
        exact w_X5_take_J40 ok σ3 c r1 h
    · have h := hT2b c2
      exact q_vret ok dX5_take_16 h)
/-! BranchingStory$Play.key()J -/
def f_X5_key (c : Nat) (σ : St) (Q : St → Int → Prop) : Prop :=
  isP c ∧ ∀ x1 : Int, x1 = (i2l64 (σ c 8)) → ∀ x2 : Int, x2 = (lor64 (lshl64 x1 16) (i2l64 (σ c 7))) → ∀ x3 : Int, x3 = (lor64 (lshl64 x2 12) (i2l64 (σ c 6))) → ∀ x4 : Int, x4 = (lor64 (lshl64 x3 6) (i2l64 (σ c 5))) → ∀ x5 : Int, x5 = (lor64 (lshl64 x4 4) (i2l64 ((σ c 4) + 1))) → Q σ (lor64 (lshl64 x5 4) (i2l64 (σ c 3)))
set_option maxRecDepth 100000 in
set_option maxHeartbeats 4000000 in
theorem c_X5_key (l : Launch) (Y : Cy) (hD : ∀ σ, va_D Y.2.2.2 (wsOf KC Y.2.1 Y.2.2.1 σ)) {c : Nat} {σ : St} {Q : St → Int → Prop} (h : f_X5_key c σ Q) : ConL l yX5_key cX5_key 3 (rm0q 0 0) Y KC σ [.inr (.inr c)] Q := con_of (lv := [(0, .inr (.inr c))]) (by decide) hD (Nat.le_of_ble_eq_true rfl) rfl (fun X _ ok => by
  have ok : Ok X Y KC cX5_key 3 RX5 (rm0q 0 0) (some .long) := ok
  unfold f_X5_key at h
  refine q_aload_n ok dX5_key_0 0 rfl ?_
  obtain ⟨g1, h⟩ := h
  refine q_getI ok fl_X5_44 (kX5_0 g1) (fIX5_8 c) dX5_key_1 ?_
  refine q_i2l ok dX5_key_4 ?_
  refine wq_l (fun x1 ex1 => ?_)
  have h := h x1 ex1
  refine q_lstore_n (lv' := [(1, .inr (.inl x1)), (0, .inr (.inr c))]) ok dX5_key_5 (by decide) rfl ?_
  refine q_lload_n ok dX5_key_6 0 rfl ?_
  refine q_bipush ok dX5_key_7 rfl ?_
  refine q_lshl ok dX5_key_9 ?_
  refine q_aload_n ok dX5_key_10 1 rfl ?_
  refine q_getI ok fl_X5_41 (kX5_0 g1) (fIX5_7 c) dX5_key_11 ?_
  refine q_i2l ok dX5_key_14 ?_
  refine q_lor ok dX5_key_15 ?_
  refine wq_l (fun x2 ex2 => ?_)
  have h := h x2 ex2
  refine q_lstore_n (lv' := [(1, .inr (.inl x2)), (0, .inr (.inr c))]) ok dX5_key_16 (by decide) rfl ?_
  refine q_lload_n ok dX5_key_17 0 rfl ?_
  refine q_bipush ok dX5_key_18 rfl ?_
  refine q_lshl ok dX5_key_20 ?_
  refine q_aload_n ok dX5_key_21 1 rfl ?_
  refine q_getI ok fl_X5_38 (kX5_0 g1) (fIX5_6 c) dX5_key_22 ?_
  refine q_i2l ok dX5_key_25 ?_
  refine q_lor ok dX5_key_26 ?_
  refine wq_l (fun x3 ex3 => ?_)
  have h := h x3 ex3
  refine q_lstore_n (lv' := [(1, .inr (.inl x3)), (0, .inr (.inr c))]) ok dX5_key_27 (by decide) rfl ?_
  refine q_lload_n ok dX5_key_28 0 rfl ?_
  refine q_bipush ok dX5_key_29 rfl ?_
  refine q_lshl ok dX5_key_31 ?_
  refine q_aload_n ok dX5_key_32 1 rfl ?_
  refine q_getI ok fl_X5_35 (kX5_0 g1) (fIX5_5 c) dX5_key_33 ?_
  refine q_i2l ok dX5_key_36 ?_
  refine q_lor ok dX5_key_37 ?_
  refine wq_l (fun x4 ex4 => ?_)
  have h := h x4 ex4
  refine q_lstore_n (lv' := [(1, .inr (.inl x4)), (0, .inr (.inr c))]) ok dX5_key_38 (by decide) rfl ?_
  refine q_lload_n ok dX5_key_39 0 rfl ?_
  refine q_iconst ok dX5_key_40 ?_
  refine q_lshl ok dX5_key_41 ?_
  refine q_aload_n ok dX5_key_42 1 rfl ?_
  refine q_getI ok fl_X5_26 (kX5_0 g1) (fIX5_4 c) dX5_key_43 ?_
  refine q_iconst ok dX5_key_46 ?_
  refine q_iadd ok dX5_key_47 ?_
  refine q_i2l ok dX5_key_48 ?_
  refine q_lor ok dX5_key_49 ?_
  refine wq_l (fun x5 ex5 => ?_)
  have h := h x5 ex5
  refine q_lstore_n (lv' := [(1, .inr (.inl x5)), (0, .inr (.inr c))]) ok dX5_key_50 (by decide) rfl ?_
  refine q_lload_n ok dX5_key_51 0 rfl ?_
  refine q_iconst ok dX5_key_52 ?_
  refine q_lshl ok dX5_key_53 ?_
  refine q_aload_n ok dX5_key_54 1 rfl ?_
  refine q_getI ok fl_X5_22 (kX5_0 g1) (fIX5_3 c) dX5_key_55 ?_
  refine q_i2l ok dX5_key_58 ?_
  refine q_lor ok dX5_key_59 ?_
  exact q_lret ok dX5_key_60 h)
/-! BranchingStory$Play.restore(J)V -/
def f_X5_restore (c : Nat) (a0 : Int) (σ : St) (Q : St → Prop) : Prop :=
  isP c ∧ ∀ σ1 : St, σ1 = sset σ c 3 (l2i32 (land64 a0 15)) → ∀ σ2 : St, σ2 = sset σ1 c 4 ((l2i32 (land64 (lshr64 a0 4) 15)) - 1) → ∀ σ3 : St, σ3 = sset σ2 c 5 (l2i32 (land64 (lshr64 a0 8) 63)) → ∀ σ4 : St, σ4 = sset σ3 c 6 (l2i32 (land64 (lshr64 a0 14) 4095)) → ∀ σ5 : St, σ5 = sset σ4 c 7 (l2i32 (land64 (lshr64 a0 26) 65535)) → ∀ σ6 : St, σ6 = sset σ5 c 8 (l2i32 (land64 (lshr64 a0 42) 65535)) → ∀ σ7 : St, σ7 = sset σ6 c 1 1 → Q σ7
set_option maxRecDepth 100000 in
set_option maxHeartbeats 4000000 in
theorem c_X5_restore (l : Launch) (Y : Cy) (hD : ∀ σ, va_D Y.2.2.2 (wsOf KC Y.2.1 Y.2.2.1 σ)) {c : Nat} {a0 : Int} {σ : St} {Q : St → Prop} (h : f_X5_restore c a0 σ Q) : ConV l yX5_restore cX5_restore 3 (rm0q 0 0) Y KC σ [.inr (.inr c), .inr (.inl a0)] Q := con_of (lv := [(0, .inr (.inr c)), (1, .inr (.inl a0))]) (by decide) hD (Nat.le_of_ble_eq_true rfl) rfl (fun X _ ok => by
  have ok : Ok X Y KC cX5_restore 3 RX5 (rm0q 0 0) none := ok
  unfold f_X5_restore at h
  refine q_aload_n ok dX5_restore_0 0 rfl ?_
  refine q_lload_n ok dX5_restore_1 1 rfl ?_
  refine q_ldc2 (v := 15) ok wt_961 rfl dX5_restore_2 ?_
  refine q_land ok dX5_restore_5 ?_
  refine q_l2i ok dX5_restore_6 ?_
  obtain ⟨g1, h⟩ := h
  refine q_putI ok fp_X5_22 (kX5_0 g1) (fIX5_3 c) dX5_restore_7 (wq_s (fun σ1 eσ1 => ?_))
  have h := h σ1 eσ1
  refine q_aload_n ok dX5_restore_10 0 rfl ?_
  refine q_lload_n ok dX5_restore_11 1 rfl ?_
  refine q_iconst ok dX5_restore_12 ?_
  refine q_lshr ok dX5_restore_13 ?_
  refine q_ldc2 (v := 15) ok wt_961 rfl dX5_restore_14 ?_
  refine q_land ok dX5_restore_17 ?_
  refine q_l2i ok dX5_restore_18 ?_
  refine q_iconst ok dX5_restore_19 ?_
  refine q_isub ok dX5_restore_20 ?_
  refine q_putI ok fp_X5_26 (kX5_0 g1) (fIX5_4 c) dX5_restore_21 (wq_s (fun σ2 eσ2 => ?_))
  have h := h σ2 eσ2
  refine q_aload_n ok dX5_restore_24 0 rfl ?_
  refine q_lload_n ok dX5_restore_25 1 rfl ?_
  refine q_bipush ok dX5_restore_26 rfl ?_
  refine q_lshr ok dX5_restore_28 ?_
  refine q_ldc2 (v := 63) ok wt_962 rfl dX5_restore_29 ?_
  refine q_land ok dX5_restore_32 ?_
  refine q_l2i ok dX5_restore_33 ?_
  refine q_putI ok fp_X5_35 (kX5_0 g1) (fIX5_5 c) dX5_restore_34 (wq_s (fun σ3 eσ3 => ?_))
  have h := h σ3 eσ3
  refine q_aload_n ok dX5_restore_37 0 rfl ?_
  refine q_lload_n ok dX5_restore_38 1 rfl ?_
  refine q_bipush ok dX5_restore_39 rfl ?_
  refine q_lshr ok dX5_restore_41 ?_
  refine q_ldc2 (v := 4095) ok wt_963 rfl dX5_restore_42 ?_
  refine q_land ok dX5_restore_45 ?_
  refine q_l2i ok dX5_restore_46 ?_
  refine q_putI ok fp_X5_38 (kX5_0 g1) (fIX5_6 c) dX5_restore_47 (wq_s (fun σ4 eσ4 => ?_))
  have h := h σ4 eσ4
  refine q_aload_n ok dX5_restore_50 0 rfl ?_
  refine q_lload_n ok dX5_restore_51 1 rfl ?_
  refine q_bipush ok dX5_restore_52 rfl ?_
  refine q_lshr ok dX5_restore_54 ?_
  refine q_ldc2 (v := 65535) ok wt_964 rfl dX5_restore_55 ?_
  refine q_land ok dX5_restore_58 ?_
  refine q_l2i ok dX5_restore_59 ?_
  refine q_putI ok fp_X5_41 (kX5_0 g1) (fIX5_7 c) dX5_restore_60 (wq_s (fun σ5 eσ5 => ?_))
  have h := h σ5 eσ5
  refine q_aload_n ok dX5_restore_63 0 rfl ?_
  refine q_lload_n ok dX5_restore_64 1 rfl ?_
  refine q_bipush ok dX5_restore_65 rfl ?_
  refine q_lshr ok dX5_restore_67 ?_
  refine q_ldc2 (v := 65535) ok wt_964 rfl dX5_restore_68 ?_
  refine q_land ok dX5_restore_71 ?_
  refine q_l2i ok dX5_restore_72 ?_
  refine q_putI ok fp_X5_44 (kX5_0 g1) (fIX5_8 c) dX5_restore_73 (wq_s (fun σ6 eσ6 => ?_))
  have h := h σ6 eσ6
  refine q_aload_n ok dX5_restore_76 0 rfl ?_
  refine q_iconst ok dX5_restore_77 ?_
  refine q_putI ok fp_X5_29 (kX5_0 g1) (fIX5_1 c) dX5_restore_78 (wq_s (fun σ7 eσ7 => ?_))
  have h := h σ7 eσ7
  exact q_vret ok dX5_restore_81 h)
/-! BranchingStory$History.forget()V -/
def f_X2_forget (σ : St) (Q : St → Prop) : Prop :=
  ∀ σ1 : St, σ1 = sset σ 48 0 0 → Q σ1
set_option maxRecDepth 100000 in
set_option maxHeartbeats 4000000 in
theorem c_X2_forget (l : Launch) (Y : Cy) (hD : ∀ σ, va_D Y.2.2.2 (wsOf KC Y.2.1 Y.2.2.1 σ)) {σ : St} {Q : St → Prop} (h : f_X2_forget  σ Q) : ConV l yX2_forget cX2_forget 1 (rm0q 0 0) Y KC σ [.inr (.inr 48)] Q := con_of (lv := [(0, .inr (.inr 48))]) (by decide) hD (Nat.le_of_ble_eq_true rfl) rfl (fun X _ ok => by
  have ok : Ok X Y KC cX2_forget 1 RX2 (rm0q 0 0) none := ok
  unfold f_X2_forget at h
  refine q_aload_n ok dX2_forget_0 0 rfl ?_
  refine q_iconst ok dX2_forget_1 ?_
  refine q_putI ok fp_X2_22 kC_48 fC_48_0 dX2_forget_2 (wq_s (fun σ1 eσ1 => ?_))
  have h := h σ1 eσ1
  exact q_vret ok dX2_forget_5 h)
/-! BranchingStory$History.keep(LBranchingStory$Play;)V -/
def f_X2_keep (a0 : Nat) (σ : St) (Q : St → Prop) : Prop :=
  f_JM_floorMod (σ 48 1) 12 σ (fun σ1 r1 => isP a0 ∧ f_X5_key a0 σ1 (fun σ2 r2 => 0 ≤ r1 ∧ r1 < 12 ∧ ∀ σ3 : St, σ3 = sset σ2 49 r1.toNat r2 → 0 ≤ r1 ∧ r1 < 12 ∧ ∀ σ4 : St, σ4 = sset σ3 50 r1.toNat (σ3 (a0 + 1) 0) → 0 ≤ (r1 * 20) ∧ (r1 * 20) + 20 ≤ 240 ∧ ∀ σ5 : St, σ5 = scpy σ4 (a0 + 2) 0 51 (r1 * 20).toNat 20 → ∀ σ6 : St, σ6 = sset σ5 48 1 (r1 + 1) → f_JM_min ((σ6 48 0) + 1) 12 σ6 (fun σ7 r3 => ∀ σ8 : St, σ8 = sset σ7 48 0 r3 → Q σ8)))
set_option maxRecDepth 100000 in
set_option maxHeartbeats 4000000 in
theorem c_X2_keep (l : Launch) (Y : Cy) (hD : ∀ σ, va_D Y.2.2.2 (wsOf KC Y.2.1 Y.2.2.1 σ)) {a0 : Nat} {σ : St} {Q : St → Prop} (h : f_X2_keep a0 σ Q) : ConV l yX2_keep cX2_keep 3 (rm0q 1 40) Y KC σ [.inr (.inr 48), .inr (.inr a0)] Q := con_of (lv := [(0, .inr (.inr 48)), (1, .inr (.inr a0))]) (by decide) hD (Nat.le_of_ble_eq_true rfl) rfl (fun X _ ok => by
  have ok : Ok X Y KC cX2_keep 3 RX2 (rm0q 1 40) none := ok
  unfold f_X2_keep at h
  refine q_aload_n ok dX2_keep_0 0 rfl ?_
  refine q_getI ok fl_X2_26 kC_48 fC_48_1 dX2_keep_1 ?_
  refine q_bipush ok dX2_keep_4 rfl ?_
  refine q_callSI (st := []) ok cs_X2_29 (c_JM_floorMod X.2.1 Y ok.2.2.2.2.2.2.2.2 h) ⟨rfl, rfl, Nat.le_of_ble_eq_true rfl, Nat.le_of_ble_eq_true rfl⟩ rfl rfl (Nat.le_of_ble_eq_true rfl) dX2_keep_6 (fun σ1 r1 h => ?_)
  refine q_istore_n (lv' := [(2, .inl r1), (0, .inr (.inr 48)), (1, .inr (.inr a0))]) ok dX2_keep_9 (by decide) rfl ?_
  refine q_aload_n ok dX2_keep_10 1 rfl ?_
  refine q_getC ok fl_X2_9 kC_48 fC_48_2 dX2_keep_11 ?_
  refine q_iload_n ok dX2_keep_14 0 rfl ?_
  refine q_aload_n ok dX2_keep_15 2 rfl ?_
  obtain ⟨g1, h⟩ := h
  refine q_callVL (st := [.inl r1, .inr (.inr 49)]) ok cs_X2_35 (kX5_0 g1) rfl (c_X5_key X.2.1 Y ok.2.2.2.2.2.2.2.2 h) ⟨rfl, rfl, Nat.le_of_ble_eq_true rfl, Nat.le_of_ble_eq_true rfl⟩ rfl rfl (Nat.le_of_ble_eq_true rfl) dX2_keep_16 (fun σ2 r2 h => ?_)
  obtain ⟨g2, g3, h⟩ := h
  refine q_last ok kC_ok kC_49 g2 g3 dX2_keep_19 (wq_s (fun σ3 eσ3 => ?_))
  have h := h σ3 eσ3
  refine q_aload_n ok dX2_keep_20 1 rfl ?_
  refine q_getC ok fl_X2_15 kC_48 fC_48_3 dX2_keep_21 ?_
  refine q_iload_n ok dX2_keep_24 0 rfl ?_
  refine q_aload_n ok dX2_keep_25 2 rfl ?_
  refine q_getC ok fl_X2_41 (kX5_0 g1) (fIX5_10 a0) dX2_keep_26 ?_
  refine q_getI ok fl_X2_44 (kX5_1 g1) (fOX5_1_0 a0) dX2_keep_29 ?_
  obtain ⟨g4, g5, h⟩ := h
  refine q_iast ok kC_ok kC_50 g4 g5 dX2_keep_32 (wq_s (fun σ4 eσ4 => ?_))
  have h := h σ4 eσ4
  refine q_aload_n ok dX2_keep_33 2 rfl ?_
  refine q_getC ok fl_X2_41 (kX5_0 g1) (fIX5_10 a0) dX2_keep_34 ?_
  refine q_getC ok fl_X2_49 (kX5_1 g1) (fOX5_1_1 a0) dX2_keep_37 ?_
  refine q_iconst ok dX2_keep_40 ?_
  refine q_aload_n ok dX2_keep_41 1 rfl ?_
  refine q_getC ok fl_X2_19 kC_48 fC_48_4 dX2_keep_42 ?_
  refine q_iload_n ok dX2_keep_45 0 rfl ?_
  refine q_bipush ok dX2_keep_46 rfl ?_
  refine q_imul ok dX2_keep_48 ?_
  refine q_bipush ok dX2_keep_49 rfl ?_
  obtain ⟨g6, h⟩ := h
  obtain ⟨g7, h⟩ := h
  refine q_acopy ok kC_ok wt_928 (kX5_2 g1) kC_51 (by decide) g6 (by decide) (by decide) g7 (Nat.le_of_ble_eq_true rfl) (Nat.le_of_ble_eq_true rfl) dX2_keep_51 (wq_s (fun σ5 eσ5 => ?_))
  have h := h σ5 eσ5
  refine q_aload_n ok dX2_keep_54 1 rfl ?_
  refine q_iload_n ok dX2_keep_55 0 rfl ?_
  refine q_iconst ok dX2_keep_56 ?_
  refine q_iadd ok dX2_keep_57 ?_
  refine q_putI ok fp_X2_26 kC_48 fC_48_1 dX2_keep_58 (wq_s (fun σ6 eσ6 => ?_))
  have h := h σ6 eσ6
  refine q_aload_n ok dX2_keep_61 1 rfl ?_
  refine q_aload_n ok dX2_keep_62 1 rfl ?_
  refine q_getI ok fl_X2_22 kC_48 fC_48_0 dX2_keep_63 ?_
  refine q_iconst ok dX2_keep_66 ?_
  refine q_iadd ok dX2_keep_67 ?_
  refine q_bipush ok dX2_keep_68 rfl ?_
  refine q_callSI (st := [.inr (.inr 48)]) ok cs_X2_58 (c_JM_min X.2.1 Y ok.2.2.2.2.2.2.2.2 h) ⟨rfl, rfl, Nat.le_of_ble_eq_true rfl, Nat.le_of_ble_eq_true rfl⟩ rfl rfl (Nat.le_of_ble_eq_true rfl) dX2_keep_70 (fun σ7 r3 h => ?_)
  refine q_putI ok fp_X2_22 kC_48 fC_48_0 dX2_keep_73 (wq_s (fun σ8 eσ8 => ?_))
  have h := h σ8 eσ8
  exact q_vret ok dX2_keep_76 h)
/-! BranchingStory$History.restore(LBranchingStory$Play;)V -/
def f_X2_restore (a0 : Nat) (σ : St) (Q : St → Prop) : Prop :=
  f_JM_floorMod ((σ 48 1) - 1) 12 σ (fun σ1 r1 => 0 ≤ r1 ∧ r1 < 12 ∧ isP a0 ∧ f_X5_restore a0 (σ1 49 r1.toNat) σ1 (fun σ2 => 0 ≤ r1 ∧ r1 < 12 ∧ ∀ σ3 : St, σ3 = sset σ2 (a0 + 1) 0 (σ2 50 r1.toNat) → 0 ≤ (r1 * 20) ∧ (r1 * 20) + 20 ≤ 240 ∧ ∀ σ4 : St, σ4 = scpy σ3 51 (r1 * 20).toNat (a0 + 2) 0 20 → ∀ σ5 : St, σ5 = sset σ4 48 1 r1 → f_JM_max ((σ5 48 0) - 1) 0 σ5 (fun σ6 r2 => ∀ σ7 : St, σ7 = sset σ6 48 0 r2 → Q σ7)))
set_option maxRecDepth 100000 in
set_option maxHeartbeats 4000000 in
theorem c_X2_restore (l : Launch) (Y : Cy) (hD : ∀ σ, va_D Y.2.2.2 (wsOf KC Y.2.1 Y.2.2.1 σ)) {a0 : Nat} {σ : St} {Q : St → Prop} (h : f_X2_restore a0 σ Q) : ConV l yX2_restore cX2_restore 3 (rm0q 1 40) Y KC σ [.inr (.inr 48), .inr (.inr a0)] Q := con_of (lv := [(0, .inr (.inr 48)), (1, .inr (.inr a0))]) (by decide) hD (Nat.le_of_ble_eq_true rfl) rfl (fun X _ ok => by
  have ok : Ok X Y KC cX2_restore 3 RX2 (rm0q 1 40) none := ok
  unfold f_X2_restore at h
  refine q_aload_n ok dX2_restore_0 0 rfl ?_
  refine q_getI ok fl_X2_26 kC_48 fC_48_1 dX2_restore_1 ?_
  refine q_iconst ok dX2_restore_4 ?_
  refine q_isub ok dX2_restore_5 ?_
  refine q_bipush ok dX2_restore_6 rfl ?_
  refine q_callSI (st := []) ok cs_X2_29 (c_JM_floorMod X.2.1 Y ok.2.2.2.2.2.2.2.2 h) ⟨rfl, rfl, Nat.le_of_ble_eq_true rfl, Nat.le_of_ble_eq_true rfl⟩ rfl rfl (Nat.le_of_ble_eq_true rfl) dX2_restore_8 (fun σ1 r1 h => ?_)
  refine q_istore_n (lv' := [(2, .inl r1), (0, .inr (.inr 48)), (1, .inr (.inr a0))]) ok dX2_restore_11 (by decide) rfl ?_
  refine q_aload_n ok dX2_restore_12 2 rfl ?_
  refine q_aload_n ok dX2_restore_13 1 rfl ?_
  refine q_getC ok fl_X2_9 kC_48 fC_48_2 dX2_restore_14 ?_
  refine q_iload_n ok dX2_restore_17 0 rfl ?_
  obtain ⟨g1, g2, h⟩ := h
  refine q_lald ok kC_ok kC_49 g1 g2 dX2_restore_18 ?_
  obtain ⟨g3, h⟩ := h
  refine q_callVV (st := []) ok cs_X2_61 (kX5_0 g3) rfl (c_X5_restore X.2.1 Y ok.2.2.2.2.2.2.2.2 h) ⟨rfl, rfl, Nat.le_of_ble_eq_true rfl, Nat.le_of_ble_eq_true rfl⟩ rfl rfl (Nat.le_of_ble_eq_true rfl) dX2_restore_19 (fun σ2 h => ?_)
  refine q_aload_n ok dX2_restore_22 2 rfl ?_
  refine q_getC ok fl_X2_41 (kX5_0 g3) (fIX5_10 a0) dX2_restore_23 ?_
  refine q_aload_n ok dX2_restore_26 1 rfl ?_
  refine q_getC ok fl_X2_15 kC_48 fC_48_3 dX2_restore_27 ?_
  refine q_iload_n ok dX2_restore_30 0 rfl ?_
  obtain ⟨g4, g5, h⟩ := h
  refine q_iald ok kC_ok kC_50 g4 g5 dX2_restore_31 ?_
  refine q_putI ok fp_X2_44 (kX5_1 g3) (fOX5_1_0 a0) dX2_restore_32 (wq_s (fun σ3 eσ3 => ?_))
  have h := h σ3 eσ3
  refine q_aload_n ok dX2_restore_35 1 rfl ?_
  refine q_getC ok fl_X2_19 kC_48 fC_48_4 dX2_restore_36 ?_
  refine q_iload_n ok dX2_restore_39 0 rfl ?_
  refine q_bipush ok dX2_restore_40 rfl ?_
  refine q_imul ok dX2_restore_42 ?_
  refine q_aload_n ok dX2_restore_43 2 rfl ?_
  refine q_getC ok fl_X2_41 (kX5_0 g3) (fIX5_10 a0) dX2_restore_44 ?_
  refine q_getC ok fl_X2_49 (kX5_1 g3) (fOX5_1_1 a0) dX2_restore_47 ?_
  refine q_iconst ok dX2_restore_50 ?_
  refine q_bipush ok dX2_restore_51 rfl ?_
  obtain ⟨g6, h⟩ := h
  obtain ⟨g7, h⟩ := h
  refine q_acopy ok kC_ok wt_928 kC_51 (kX5_2 g3) g6 (by decide) (by decide) g7 (by decide) (Nat.le_of_ble_eq_true rfl) (Nat.le_of_ble_eq_true rfl) dX2_restore_53 (wq_s (fun σ4 eσ4 => ?_))
  have h := h σ4 eσ4
  refine q_aload_n ok dX2_restore_56 1 rfl ?_
  refine q_iload_n ok dX2_restore_57 0 rfl ?_
  refine q_putI ok fp_X2_26 kC_48 fC_48_1 dX2_restore_58 (wq_s (fun σ5 eσ5 => ?_))
  have h := h σ5 eσ5
  refine q_aload_n ok dX2_restore_61 1 rfl ?_
  refine q_aload_n ok dX2_restore_62 1 rfl ?_
  refine q_getI ok fl_X2_22 kC_48 fC_48_0 dX2_restore_63 ?_
  refine q_iconst ok dX2_restore_66 ?_
  refine q_isub ok dX2_restore_67 ?_
  refine q_iconst ok dX2_restore_68 ?_
  refine q_callSI (st := [.inr (.inr 48)]) ok cs_X2_65 (c_JM_max X.2.1 Y ok.2.2.2.2.2.2.2.2 h) ⟨rfl, rfl, Nat.le_of_ble_eq_true rfl, Nat.le_of_ble_eq_true rfl⟩ rfl rfl (Nat.le_of_ble_eq_true rfl) dX2_restore_69 (fun σ6 r2 h => ?_)
  refine q_putI ok fp_X2_22 kC_48 fC_48_0 dX2_restore_72 (wq_s (fun σ7 eσ7 => ?_))
  have h := h σ7 eσ7
  exact q_vret ok dX2_restore_75 h)
/-! BranchingStory$Explorer.forget(LBranchingStory$Story;)V -/
def f_X1_forget (a0 : Nat) (σ : St) (Q : St → Prop) : Prop :=
  f_X5_forget 61 a0 σ (fun σ1 => ∀ σ2 : St, σ2 = sset σ1 52 1 0 → ∀ σ3 : St, σ3 = sset σ2 52 2 1 → ∀ σ4 : St, σ4 = sset σ3 52 4 0 → ∀ σ5 : St, σ5 = sset σ4 52 5 0 → f_JA_fillI 57 0 σ5 (fun σ6 => f_JA_fillI 60 (-1) σ6 (fun σ7 => Q σ7)))
set_option maxRecDepth 100000 in
set_option maxHeartbeats 4000000 in
theorem c_X1_forget (l : Launch) (Y : Cy) (hD : ∀ σ, va_D Y.2.2.2 (wsOf KC Y.2.1 Y.2.2.1 σ)) {a0 : Nat} {σ : St} {Q : St → Prop} (h : f_X1_forget a0 σ Q) : ConV l yX1_forget cX1_forget 2 (rm0q 2 42) Y KC σ [.inr (.inr 52), .inr (.inr a0)] Q := con_of (lv := [(0, .inr (.inr 52)), (1, .inr (.inr a0))]) (by decide) hD (Nat.le_of_ble_eq_true rfl) rfl (fun X _ ok => by
  have ok : Ok X Y KC cX1_forget 2 RX1 (rm0q 2 42) none := ok
  unfold f_X1_forget at h
  refine q_aload_n ok dX1_forget_0 0 rfl ?_
  refine q_getC ok fl_X1_42 kC_52 fC_52_0 dX1_forget_1 ?_
  refine q_aload_n ok dX1_forget_4 1 rfl ?_
  refine q_callVV (st := []) ok cs_X1_46 kC_61 rfl (c_X5_forget X.2.1 Y ok.2.2.2.2.2.2.2.2 h) ⟨rfl, rfl, Nat.le_of_ble_eq_true rfl, Nat.le_of_ble_eq_true rfl⟩ rfl rfl (Nat.le_of_ble_eq_true rfl) dX1_forget_5 (fun σ1 h => ?_)
  refine q_aload_n ok dX1_forget_8 0 rfl ?_
  refine q_iconst ok dX1_forget_9 ?_
  refine q_putZ ok fp_X1_49 kC_52 fC_52_1 dX1_forget_10 (by decide) (wq_s (fun σ2 eσ2 => ?_))
  have h := h σ2 eσ2
  refine q_aload_n ok dX1_forget_13 0 rfl ?_
  refine q_iconst ok dX1_forget_14 ?_
  refine q_putZ ok fp_X1_53 kC_52 fC_52_2 dX1_forget_15 (by decide) (wq_s (fun σ3 eσ3 => ?_))
  have h := h σ3 eσ3
  refine q_aload_n ok dX1_forget_18 0 rfl ?_
  refine q_iconst ok dX1_forget_19 ?_
  refine q_putI ok fp_X1_56 kC_52 fC_52_4 dX1_forget_20 (wq_s (fun σ4 eσ4 => ?_))
  have h := h σ4 eσ4
  refine q_aload_n ok dX1_forget_23 0 rfl ?_
  refine q_iconst ok dX1_forget_24 ?_
  refine q_putI ok fp_X1_60 kC_52 fC_52_5 dX1_forget_25 (wq_s (fun σ5 eσ5 => ?_))
  have h := h σ5 eσ5
  refine q_aload_n ok dX1_forget_28 0 rfl ?_
  refine q_getC ok fl_X1_25 kC_52 fC_52_10 dX1_forget_29 ?_
  refine q_iconst ok dX1_forget_32 ?_
  refine q_callSV (st := []) ok cs_X1_63 (c_JA_fillI X.2.1 Y ok.2.2.2.2.2.2.2.2 h) ⟨rfl, rfl, Nat.le_of_ble_eq_true rfl, Nat.le_of_ble_eq_true rfl⟩ rfl rfl (Nat.le_of_ble_eq_true rfl) dX1_forget_33 (fun σ6 h => ?_)
  refine q_aload_n ok dX1_forget_36 0 rfl ?_
  refine q_getC ok fl_X1_34 kC_52 fC_52_13 dX1_forget_37 ?_
  refine q_iconst ok dX1_forget_40 ?_
  refine q_callSV (st := []) ok cs_X1_63 (c_JA_fillI X.2.1 Y ok.2.2.2.2.2.2.2.2 h) ⟨rfl, rfl, Nat.le_of_ble_eq_true rfl, Nat.le_of_ble_eq_true rfl⟩ rfl rfl (Nat.le_of_ble_eq_true rfl) dX1_forget_41 (fun σ7 h => ?_)
  exact q_vret ok dX1_forget_44 h)
/-! BranchingStory$Explorer.wasFound(J)Z -/
def f_X1_wasFound_L2 (Q : St → Int → Prop) : Nat → St → Int → Int → Prop
  | 0, _, _, _ => False
  | n + 1, σ, v1, v3 => inR v3 ∧ ((300 ≤ v3 → Q σ 0) ∧ (¬ 300 ≤ v3 → inR v3 ∧ inR (σ 52 5) ∧ (((σ 52 5) ≤ v3 → Q σ 0) ∧ (¬ (σ 52 5) ≤ v3 → 0 ≤ v3 ∧ v3 < 300 ∧ inR (lcmp64 (σ 53 v3.toNat) v1) ∧ ((¬ (lcmp64 (σ 53 v3.toNat) v1) = 0 → f_X1_wasFound_L2 Q n σ v1 (v3 + 1)) ∧ ((lcmp64 (σ 53 v3.toNat) v1) = 0 → Q σ 1))))))
def f_X1_wasFound (a0 : Int) (σ : St) (Q : St → Int → Prop) : Prop :=
  f_X1_wasFound_L2 Q FU σ a0 0
set_option maxRecDepth 100000 in
set_option maxHeartbeats 4000000 in
theorem w_X1_wasFound_L2 {X : Cx} {Y : Cy} {Q : St → Int → Prop} (ok : Ok X Y KC cX1_wasFound 4 RX1 (rm0q 0 0) (some .boolean)) : ∀ (n : Nat) (σ : St) (v1 : Int) (v3 : Int) , f_X1_wasFound_L2 Q n σ v1 v3 → Wq X Y KC 4 (QF X Y (Qiq Y KC Q)) σ 2 [(0, .inr (.inr 52)), (1, .inr (.inl v1)), (3, .inl v3)] [] := by
  intro n
  induction n with
  | zero => intro σ v1 v3 h; exact h.elim
  | succ n ih =>
    intro σ v1 v3 h
    rw [f_X1_wasFound_L2] at h
    refine q_iload_n ok dX1_wasFound_2 2 rfl ?_
    refine q_sipush ok dX1_wasFound_3 rfl ?_
    obtain ⟨g1, hT3a, hT3b⟩ := h
    refine q_icmp_ge (tgt := 36) ok dX1_wasFound_6 (by decide) g1 (by unfold inR; decide) (fun c3 => ?_) (fun c3 => ?_)
    · have h := hT3a c3
      refine q_iconst ok dX1_wasFound_36 ?_
      exact q_zret ok dX1_wasFound_37 (by decide) h
    · have h := hT3b c3
      refine q_iload_n ok dX1_wasFound_9 2 rfl ?_
      refine q_aload_n ok dX1_wasFound_10 0 rfl ?_
      refine q_getI ok fl_X1_60 kC_52 fC_52_5 dX1_wasFound_11 ?_
      obtain ⟨g2, g3, hT2a, hT2b⟩ := h
      refine q_icmp_ge (tgt := 36) ok dX1_wasFound_14 (by decide) g2 g3 (fun c2 => ?_) (fun c2 => ?_)
      · have h := hT2a c2
        refine q_iconst ok dX1_wasFound_36 ?_
        exact q_zret ok dX1_wasFound_37 (by decide) h
      · have h := hT2b c2
        refine q_aload_n ok dX1_wasFound_17 0 rfl ?_
        refine q_getC ok fl_X1_9 kC_52 fC_52_6 dX1_wasFound_18 ?_
        refine q_iload_n ok dX1_wasFound_21 2 rfl ?_
        obtain ⟨g4, g5, h⟩ := h
        refine q_lald ok kC_ok kC_53 g4 g5 dX1_wasFound_22 ?_
        refine q_lload_n ok dX1_wasFound_23 1 rfl ?_
        refine q_lcmp ok dX1_wasFound_24 ?_
        obtain ⟨g6, hT1a, hT1b⟩ := h
        refine q_if_ne (tgt := 30) ok dX1_wasFound_25 (by decide) g6 (fun c1 => ?_) (fun c1 => ?_)
        · have h := hT1a c1
          refine q_iinc (lv' := [(3, .inl (v3 + 1)), (0, .inr (.inr 52)), (1, .inr (.inl v1))]) ok dX1_wasFound_30 2 rfl (by decide) rfl ?_
          refine q_goto (tgt := 2) ok dX1_wasFound_33 (by decide) ?_
          refine q_sub [1, 2, 0] rfl ?_
          exact ih σ v1 (v3 + 1) h
        · have h := hT1b c1
          refine q_iconst ok dX1_wasFound_28 ?_
          exact q_zret ok dX1_wasFound_29 (by decide) h
set_option maxRecDepth 100000 in
set_option maxHeartbeats 4000000 in
theorem c_X1_wasFound (l : Launch) (Y : Cy) (hD : ∀ σ, va_D Y.2.2.2 (wsOf KC Y.2.1 Y.2.2.1 σ)) {a0 : Int} {σ : St} {Q : St → Int → Prop} (h : f_X1_wasFound a0 σ Q) : ConI l yX1_wasFound cX1_wasFound 4 .boolean (rm0q 0 0) Y KC σ [.inr (.inr 52), .inr (.inl a0)] Q := con_of (lv := [(0, .inr (.inr 52)), (1, .inr (.inl a0))]) (by decide) hD (Nat.le_of_ble_eq_true rfl) rfl (fun X _ ok => by
  have ok : Ok X Y KC cX1_wasFound 4 RX1 (rm0q 0 0) (some .boolean) := ok
  unfold f_X1_wasFound at h
  refine q_iconst ok dX1_wasFound_0 ?_
  refine q_istore_n (lv' := [(3, .inl 0), (0, .inr (.inr 52)), (1, .inr (.inl a0))]) ok dX1_wasFound_1 (by decide) rfl ?_
  refine q_sub [1, 2, 0] rfl ?_
  exact w_X1_wasFound_L2 ok FU σ a0 0 h)
/-! BranchingStory$Explorer.lengthBehind(I)I -/
def f_X1_lengthBehind (a0 : Int) (σ : St) (Q : St → Int → Prop) : Prop :=
  inR a0 ∧ ((¬ a0 = (-1) → f_X9_entryOf 56 a0 σ (fun σ1 r1 => Q σ1 (r1 + 1))) ∧ (a0 = (-1) → Q σ 0))
set_option maxRecDepth 100000 in
set_option maxHeartbeats 4000000 in
theorem c_X1_lengthBehind (l : Launch) (Y : Cy) (hD : ∀ σ, va_D Y.2.2.2 (wsOf KC Y.2.1 Y.2.2.1 σ)) {a0 : Int} {σ : St} {Q : St → Int → Prop} (h : f_X1_lengthBehind a0 σ Q) : ConI l yX1_lengthBehind cX1_lengthBehind 2 .int (rm0q 1 21) Y KC σ [.inr (.inr 52), .inl a0] Q := con_of (lv := [(0, .inr (.inr 52)), (1, .inl a0)]) (by decide) hD (Nat.le_of_ble_eq_true rfl) rfl (fun X _ ok => by
  have ok : Ok X Y KC cX1_lengthBehind 2 RX1 (rm0q 1 21) (some .int) := ok
  unfold f_X1_lengthBehind at h
  refine q_iload_n ok dX1_lengthBehind_0 1 rfl ?_
  refine q_iconst ok dX1_lengthBehind_1 ?_
  obtain ⟨g1, hT1a, hT1b⟩ := h
  refine q_icmp_ne (tgt := 9) ok dX1_lengthBehind_2 (by decide) g1 (by unfold inR; decide) (fun c1 => ?_) (fun c1 => ?_)
  · have h := hT1a c1
    refine q_aload_n ok dX1_lengthBehind_9 0 rfl ?_
    refine q_getC ok fl_X1_22 kC_52 fC_52_9 dX1_lengthBehind_10 ?_
    refine q_iload_n ok dX1_lengthBehind_13 1 rfl ?_
    refine q_callSI (st := []) ok cs_X1_127 (c_X9_entryOf X.2.1 Y ok.2.2.2.2.2.2.2.2 h) ⟨rfl, rfl, Nat.le_of_ble_eq_true rfl, Nat.le_of_ble_eq_true rfl⟩ rfl rfl (Nat.le_of_ble_eq_true rfl) dX1_lengthBehind_14 (fun σ1 r1 h => ?_)
    refine q_iconst ok dX1_lengthBehind_17 ?_
    refine q_iadd ok dX1_lengthBehind_18 ?_
    exact q_iret ok dX1_lengthBehind_19 h
  · have h := hT1b c1
    refine q_iconst ok dX1_lengthBehind_5 ?_
    refine q_goto (tgt := 19) ok dX1_lengthBehind_6 (by decide) ?_
    exact q_iret ok dX1_lengthBehind_19 h)
/-! BranchingStory$Explorer.noteWaiting(II)V -/
def f_X1_noteWaiting (a0 : Int) (a1 : Int) (σ : St) (Q : St → Prop) : Prop :=
  f_X5_key 61 σ (fun σ1 r1 => f_X1_wasFound r1 σ1 (fun σ2 r2 => inR r2 ∧ ((r2 = 0 → inR (σ2 52 5) ∧ (((σ2 52 5) < 0 → ∀ σ3 : St, σ3 = sset σ2 52 2 0 → Q σ3) ∧ (¬ (σ2 52 5) < 0 → inR (σ2 52 5) ∧ inR (σ2 52 3) ∧ (((σ2 52 5) < (σ2 52 3) → 0 ≤ (σ2 52 5) ∧ (σ2 52 5) < 300 ∧ ∀ σ4 : St, σ4 = sset σ2 53 (σ2 52 5).toNat r1 → 0 ≤ (σ4 52 5) ∧ (σ4 52 5) < 300 ∧ ∀ σ5 : St, σ5 = sset σ4 54 (σ4 52 5).toNat a0 → 0 ≤ (σ5 52 5) ∧ (σ5 52 5) < 300 ∧ ∀ σ6 : St, σ6 = sset σ5 55 (σ5 52 5).toNat a1 → f_X1_lengthBehind a0 σ6 (fun σ7 r3 => 0 ≤ (σ6 52 5) ∧ (σ6 52 5) < 300 ∧ ∀ σ8 : St, σ8 = sset σ7 56 (σ6 52 5).toNat r3 → ∀ σ9 : St, σ9 = sset σ8 52 5 ((σ8 52 5) + 1) → Q σ9)) ∧ (¬ (σ2 52 5) < (σ2 52 3) → ∀ σ10 : St, σ10 = sset σ2 52 2 0 → Q σ10))))) ∧ (¬ r2 = 0 → Q σ2))))
set_option maxRecDepth 100000 in
set_option maxHeartbeats 4000000 in
theorem c_X1_noteWaiting (l : Launch) (Y : Cy) (hD : ∀ σ, va_D Y.2.2.2 (wsOf KC Y.2.1 Y.2.2.1 σ)) {a0 : Int} {a1 : Int} {σ : St} {Q : St → Prop} (h : f_X1_noteWaiting a0 a1 σ Q) : ConV l yX1_noteWaiting cX1_noteWaiting 5 (rm0q 2 42) Y KC σ [.inr (.inr 52), .inl a0, .inl a1] Q := con_of (lv := [(0, .inr (.inr 52)), (1, .inl a0), (2, .inl a1)]) (by decide) hD (Nat.le_of_ble_eq_true rfl) rfl (fun X _ ok => by
  have ok : Ok X Y KC cX1_noteWaiting 5 RX1 (rm0q 2 42) none := ok
  unfold f_X1_noteWaiting at h
  refine q_aload_n ok dX1_noteWaiting_0 0 rfl ?_
  refine q_getC ok fl_X1_42 kC_52 fC_52_0 dX1_noteWaiting_1 ?_
  refine q_callVL (st := []) ok cs_X1_116 kC_61 rfl (c_X5_key X.2.1 Y ok.2.2.2.2.2.2.2.2 h) ⟨rfl, rfl, Nat.le_of_ble_eq_true rfl, Nat.le_of_ble_eq_true rfl⟩ rfl rfl (Nat.le_of_ble_eq_true rfl) dX1_noteWaiting_4 (fun σ1 r1 h => ?_)
  refine q_lstore_n (lv' := [(3, .inr (.inl r1)), (0, .inr (.inr 52)), (1, .inl a0), (2, .inl a1)]) ok dX1_noteWaiting_7 (by decide) rfl ?_
  refine q_aload_n ok dX1_noteWaiting_8 1 rfl ?_
  refine q_lload_n ok dX1_noteWaiting_9 0 rfl ?_
  refine q_callVI (st := []) ok cs_X1_120 kC_52 rfl (c_X1_wasFound X.2.1 Y ok.2.2.2.2.2.2.2.2 h) ⟨rfl, rfl, Nat.le_of_ble_eq_true rfl, Nat.le_of_ble_eq_true rfl⟩ rfl rfl (Nat.le_of_ble_eq_true rfl) dX1_noteWaiting_10 (fun σ2 r2 h => ?_)
  obtain ⟨g1, hT3a, hT3b⟩ := h
  refine q_if_eq (tgt := 17) ok dX1_noteWaiting_13 (by decide) g1 (fun c3 => ?_) (fun c3 => ?_)
  · have h := hT3a c3
    refine q_aload_n ok dX1_noteWaiting_17 1 rfl ?_
    refine q_getI ok fl_X1_60 kC_52 fC_52_5 dX1_noteWaiting_18 ?_
    obtain ⟨g2, hT2a, hT2b⟩ := h
    refine q_if_lt (tgt := 35) ok dX1_noteWaiting_21 (by decide) g2 (fun c2 => ?_) (fun c2 => ?_)
    · have h := hT2a c2
      refine q_aload_n ok dX1_noteWaiting_35 1 rfl ?_
      refine q_iconst ok dX1_noteWaiting_36 ?_
      refine q_putZ ok fp_X1_53 kC_52 fC_52_2 dX1_noteWaiting_37 (by decide) (wq_s (fun σ3 eσ3 => ?_))
      have h := h σ3 eσ3
      exact q_vret ok dX1_noteWaiting_40 h
    · have h := hT2b c2
      refine q_aload_n ok dX1_noteWaiting_24 1 rfl ?_
      refine q_getI ok fl_X1_60 kC_52 fC_52_5 dX1_noteWaiting_25 ?_
      refine q_aload_n ok dX1_noteWaiting_28 1 rfl ?_
      refine q_getI ok fl_X1_76 kC_52 fC_52_3 dX1_noteWaiting_29 ?_
      obtain ⟨g3, g4, hT1a, hT1b⟩ := h
      refine q_icmp_lt (tgt := 41) ok dX1_noteWaiting_32 (by decide) g3 g4 (fun c1 => ?_) (fun c1 => ?_)
      · have h := hT1a c1
        refine q_aload_n ok dX1_noteWaiting_41 1 rfl ?_
        refine q_getC ok fl_X1_9 kC_52 fC_52_6 dX1_noteWaiting_42 ?_
        refine q_aload_n ok dX1_noteWaiting_45 1 rfl ?_
        refine q_getI ok fl_X1_60 kC_52 fC_52_5 dX1_noteWaiting_46 ?_
        refine q_lload_n ok dX1_noteWaiting_49 0 rfl ?_
        obtain ⟨g5, g6, h⟩ := h
        refine q_last ok kC_ok kC_53 g5 g6 dX1_noteWaiting_50 (wq_s (fun σ4 eσ4 => ?_))
        have h := h σ4 eσ4
        refine q_aload_n ok dX1_noteWaiting_51 1 rfl ?_
        refine q_getC ok fl_X1_15 kC_52 fC_52_7 dX1_noteWaiting_52 ?_
        refine q_aload_n ok dX1_noteWaiting_55 1 rfl ?_
        refine q_getI ok fl_X1_60 kC_52 fC_52_5 dX1_noteWaiting_56 ?_
        refine q_iload_n ok dX1_noteWaiting_59 2 rfl ?_
        obtain ⟨g7, g8, h⟩ := h
        refine q_iast ok kC_ok kC_54 g7 g8 dX1_noteWaiting_60 (wq_s (fun σ5 eσ5 => ?_))
        have h := h σ5 eσ5
        refine q_aload_n ok dX1_noteWaiting_61 1 rfl ?_
        refine q_getC ok fl_X1_19 kC_52 fC_52_8 dX1_noteWaiting_62 ?_
        refine q_aload_n ok dX1_noteWaiting_65 1 rfl ?_
        refine q_getI ok fl_X1_60 kC_52 fC_52_5 dX1_noteWaiting_66 ?_
        refine q_iload_n ok dX1_noteWaiting_69 3 rfl ?_
        obtain ⟨g9, g10, h⟩ := h
        refine q_iast ok kC_ok kC_55 g9 g10 dX1_noteWaiting_70 (wq_s (fun σ6 eσ6 => ?_))
        have h := h σ6 eσ6
        refine q_aload_n ok dX1_noteWaiting_71 1 rfl ?_
        refine q_getC ok fl_X1_22 kC_52 fC_52_9 dX1_noteWaiting_72 ?_
        refine q_aload_n ok dX1_noteWaiting_75 1 rfl ?_
        refine q_getI ok fl_X1_60 kC_52 fC_52_5 dX1_noteWaiting_76 ?_
        refine q_aload_n ok dX1_noteWaiting_79 1 rfl ?_
        refine q_iload_n ok dX1_noteWaiting_80 2 rfl ?_
        refine q_callVI (st := [.inl (σ6 52 5), .inr (.inr 56)]) ok cs_X1_124 kC_52 rfl (c_X1_lengthBehind X.2.1 Y ok.2.2.2.2.2.2.2.2 h) ⟨rfl, rfl, Nat.le_of_ble_eq_true rfl, Nat.le_of_ble_eq_true rfl⟩ rfl rfl (Nat.le_of_ble_eq_true rfl) dX1_noteWaiting_81 (fun σ7 r3 h => ?_)
        obtain ⟨g11, g12, h⟩ := h
        refine q_iast ok kC_ok kC_56 g11 g12 dX1_noteWaiting_84 (wq_s (fun σ8 eσ8 => ?_))
        have h := h σ8 eσ8
        refine q_aload_n ok dX1_noteWaiting_85 1 rfl ?_
        refine q_dup ok dX1_noteWaiting_86 rfl ?_
        refine q_getI ok fl_X1_60 kC_52 fC_52_5 dX1_noteWaiting_87 ?_
        refine q_iconst ok dX1_noteWaiting_90 ?_
        refine q_iadd ok dX1_noteWaiting_91 ?_
        refine q_putI ok fp_X1_60 kC_52 fC_52_5 dX1_noteWaiting_92 (wq_s (fun σ9 eσ9 => ?_))
        have h := h σ9 eσ9
        exact q_vret ok dX1_noteWaiting_95 h
      · have h := hT1b c1
        refine q_aload_n ok dX1_noteWaiting_35 1 rfl ?_
        refine q_iconst ok dX1_noteWaiting_36 ?_
        refine q_putZ ok fp_X1_53 kC_52 fC_52_2 dX1_noteWaiting_37 (by decide) (wq_s (fun σ10 eσ10 => ?_))
        have h := h σ10 eσ10
        exact q_vret ok dX1_noteWaiting_40 h
  · have h := hT3b c3
    exact q_vret ok dX1_noteWaiting_16 h)
/-! BranchingStory$Explorer.noteOutcome(III)V -/
def f_X1_noteOutcome (a0 : Int) (a1 : Int) (a2 : Int) (σ : St) (Q : St → Prop) : Prop :=
  inR a0 ∧ ((a0 < 0 → Q σ) ∧ (¬ a0 < 0 → inR a0 ∧ ((a0 < 12 → 0 ≤ a0 ∧ a0 < 12 ∧ 0 ≤ a0 ∧ a0 < 12 ∧ ∀ σ1 : St, σ1 = sset σ 57 a0.toNat ((σ 57 a0.toNat) + 1) → 0 ≤ a0 ∧ a0 < 12 ∧ inR (σ1 60 a0.toNat) ∧ ((¬ (σ1 60 a0.toNat) = (-1) → Q σ1) ∧ ((σ1 60 a0.toNat) = (-1) → 0 ≤ a0 ∧ a0 < 12 ∧ ∀ σ2 : St, σ2 = sset σ1 58 a0.toNat a1 → 0 ≤ a0 ∧ a0 < 12 ∧ ∀ σ3 : St, σ3 = sset σ2 59 a0.toNat a2 → f_X1_lengthBehind a1 σ3 (fun σ4 r1 => 0 ≤ a0 ∧ a0 < 12 ∧ ∀ σ5 : St, σ5 = sset σ4 60 a0.toNat r1 → Q σ5)))) ∧ (¬ a0 < 12 → Q σ))))
set_option maxRecDepth 100000 in
set_option maxHeartbeats 4000000 in
theorem c_X1_noteOutcome (l : Launch) (Y : Cy) (hD : ∀ σ, va_D Y.2.2.2 (wsOf KC Y.2.1 Y.2.2.1 σ)) {a0 : Int} {a1 : Int} {a2 : Int} {σ : St} {Q : St → Prop} (h : f_X1_noteOutcome a0 a1 a2 σ Q) : ConV l yX1_noteOutcome cX1_noteOutcome 4 (rm0q 2 42) Y KC σ [.inr (.inr 52), .inl a0, .inl a1, .inl a2] Q := con_of (lv := [(0, .inr (.inr 52)), (1, .inl a0), (2, .inl a1), (3, .inl a2)]) (by decide) hD (Nat.le_of_ble_eq_true rfl) rfl (fun X _ ok => by
  have ok : Ok X Y KC cX1_noteOutcome 4 RX1 (rm0q 2 42) none := ok
  unfold f_X1_noteOutcome at h
  refine q_iload_n ok dX1_noteOutcome_0 1 rfl ?_
  obtain ⟨g1, hT3a, hT3b⟩ := h
  refine q_if_lt (tgt := 10) ok dX1_noteOutcome_1 (by decide) g1 (fun c3 => ?_) (fun c3 => ?_)
  · have h := hT3a c3
    exact q_vret ok dX1_noteOutcome_10 h
  · have h := hT3b c3
    refine q_iload_n ok dX1_noteOutcome_4 1 rfl ?_
    refine q_bipush ok dX1_noteOutcome_5 rfl ?_
    obtain ⟨g2, hT2a, hT2b⟩ := h
    refine q_icmp_lt (tgt := 11) ok dX1_noteOutcome_7 (by decide) g2 (by unfold inR; decide) (fun c2 => ?_) (fun c2 => ?_)
    · have h := hT2a c2
      refine q_aload_n ok dX1_noteOutcome_11 0 rfl ?_
      refine q_getC ok fl_X1_25 kC_52 fC_52_10 dX1_noteOutcome_12 ?_
      refine q_iload_n ok dX1_noteOutcome_15 1 rfl ?_
      refine q_dup2 ok dX1_noteOutcome_16 rfl rfl ?_
      obtain ⟨g3, g4, h⟩ := h
      refine q_iald ok kC_ok kC_57 g3 g4 dX1_noteOutcome_17 ?_
      refine q_iconst ok dX1_noteOutcome_18 ?_
      refine q_iadd ok dX1_noteOutcome_19 ?_
      obtain ⟨g5, g6, h⟩ := h
      refine q_iast ok kC_ok kC_57 g5 g6 dX1_noteOutcome_20 (wq_s (fun σ1 eσ1 => ?_))
      have h := h σ1 eσ1
      refine q_aload_n ok dX1_noteOutcome_21 0 rfl ?_
      refine q_getC ok fl_X1_34 kC_52 fC_52_13 dX1_noteOutcome_22 ?_
      refine q_iload_n ok dX1_noteOutcome_25 1 rfl ?_
      obtain ⟨g7, g8, h⟩ := h
      refine q_iald ok kC_ok kC_60 g7 g8 dX1_noteOutcome_26 ?_
      refine q_iconst ok dX1_noteOutcome_27 ?_
      obtain ⟨g9, hT1a, hT1b⟩ := h
      refine q_icmp_ne (tgt := 56) ok dX1_noteOutcome_28 (by decide) g9 (by unfold inR; decide) (fun c1 => ?_) (fun c1 => ?_)
      · have h := hT1a c1
        exact q_vret ok dX1_noteOutcome_56 h
      · have h := hT1b c1
        refine q_aload_n ok dX1_noteOutcome_31 0 rfl ?_
        refine q_getC ok fl_X1_28 kC_52 fC_52_11 dX1_noteOutcome_32 ?_
        refine q_iload_n ok dX1_noteOutcome_35 1 rfl ?_
        refine q_iload_n ok dX1_noteOutcome_36 2 rfl ?_
        obtain ⟨g10, g11, h⟩ := h
        refine q_iast ok kC_ok kC_58 g10 g11 dX1_noteOutcome_37 (wq_s (fun σ2 eσ2 => ?_))
        have h := h σ2 eσ2
        refine q_aload_n ok dX1_noteOutcome_38 0 rfl ?_
        refine q_getC ok fl_X1_31 kC_52 fC_52_12 dX1_noteOutcome_39 ?_
        refine q_iload_n ok dX1_noteOutcome_42 1 rfl ?_
        refine q_iload_n ok dX1_noteOutcome_43 3 rfl ?_
        obtain ⟨g12, g13, h⟩ := h
        refine q_iast ok kC_ok kC_59 g12 g13 dX1_noteOutcome_44 (wq_s (fun σ3 eσ3 => ?_))
        have h := h σ3 eσ3
        refine q_aload_n ok dX1_noteOutcome_45 0 rfl ?_
        refine q_getC ok fl_X1_34 kC_52 fC_52_13 dX1_noteOutcome_46 ?_
        refine q_iload_n ok dX1_noteOutcome_49 1 rfl ?_
        refine q_aload_n ok dX1_noteOutcome_50 0 rfl ?_
        refine q_iload_n ok dX1_noteOutcome_51 2 rfl ?_
        refine q_callVI (st := [.inl a0, .inr (.inr 60)]) ok cs_X1_124 kC_52 rfl (c_X1_lengthBehind X.2.1 Y ok.2.2.2.2.2.2.2.2 h) ⟨rfl, rfl, Nat.le_of_ble_eq_true rfl, Nat.le_of_ble_eq_true rfl⟩ rfl rfl (Nat.le_of_ble_eq_true rfl) dX1_noteOutcome_52 (fun σ4 r1 h => ?_)
        obtain ⟨g14, g15, h⟩ := h
        refine q_iast ok kC_ok kC_60 g14 g15 dX1_noteOutcome_55 (wq_s (fun σ5 eσ5 => ?_))
        have h := h σ5 eσ5
        exact q_vret ok dX1_noteOutcome_56 h
    · have h := hT2b c2
      exact q_vret ok dX1_noteOutcome_10 h)
/-! BranchingStory$Explorer.note(II)V -/
def f_X1_note (a0 : Int) (a1 : Int) (σ : St) (Q : St → Prop) : Prop :=
  inR (σ 61 1) ∧ (((σ 61 1) = 1 → ∀ σ1 : St, σ1 = sset σ 52 4 (ior32 (σ 52 4) (σ 61 8)) → f_X1_noteWaiting a0 a1 σ1 (fun σ2 => Q σ2)) ∧ ((σ 61 1) = 2 → f_X1_noteOutcome (σ 61 2) a0 a1 σ (fun σ3 => Q σ3)) ∧ ((σ 61 1) = 3 → f_X1_noteOutcome 10 a0 a1 σ (fun σ4 => Q σ4)) ∧ (((σ 61 1) < 1 ∨ 3 < (σ 61 1)) → f_X1_noteOutcome 11 a0 a1 σ (fun σ5 => Q σ5)))
set_option maxRecDepth 100000 in
set_option maxHeartbeats 4000000 in
theorem c_X1_note (l : Launch) (Y : Cy) (hD : ∀ σ, va_D Y.2.2.2 (wsOf KC Y.2.1 Y.2.2.1 σ)) {a0 : Int} {a1 : Int} {σ : St} {Q : St → Prop} (h : f_X1_note a0 a1 σ Q) : ConV l yX1_note cX1_note 3 (rm0q 3 66) Y KC σ [.inr (.inr 52), .inl a0, .inl a1] Q := con_of (lv := [(0, .inr (.inr 52)), (1, .inl a0), (2, .inl a1)]) (by decide) hD (Nat.le_of_ble_eq_true rfl) rfl (fun X _ ok => by
  have ok : Ok X Y KC cX1_note 3 RX1 (rm0q 3 66) none := ok
  unfold f_X1_note at h
  refine q_aload_n ok dX1_note_0 0 rfl ?_
  refine q_getC ok fl_X1_42 kC_52 fC_52_0 dX1_note_1 ?_
  refine q_getI ok fl_X1_103 kC_61 fC_61_1 dX1_note_4 ?_
  obtain ⟨g1, hs1, hs2, hs3, hs4⟩ := h
  by_cases c1 : (σ 61 1) = 1
  · have h := hs1 c1
    refine q_tsIn (tgt := 32) ok dX1_note_7 g1 (by omega) (by omega) (by rw [c1]; rfl) (by decide) ?_
    refine q_aload_n ok dX1_note_32 0 rfl ?_
    refine q_dup ok dX1_note_33 rfl ?_
    refine q_getI ok fl_X1_56 kC_52 fC_52_4 dX1_note_34 ?_
    refine q_aload_n ok dX1_note_37 0 rfl ?_
    refine q_getC ok fl_X1_42 kC_52 fC_52_0 dX1_note_38 ?_
    refine q_getI ok fl_X1_90 kC_61 fC_61_8 dX1_note_41 ?_
    refine q_ior ok dX1_note_44 ?_
    refine q_putI ok fp_X1_56 kC_52 fC_52_4 dX1_note_45 (wq_s (fun σ1 eσ1 => ?_))
    have h := h σ1 eσ1
    refine q_aload_n ok dX1_note_48 0 rfl ?_
    refine q_iload_n ok dX1_note_49 1 rfl ?_
    refine q_iload_n ok dX1_note_50 2 rfl ?_
    refine q_callVV (st := []) ok cs_X1_106 kC_52 rfl (c_X1_noteWaiting X.2.1 Y ok.2.2.2.2.2.2.2.2 h) ⟨rfl, rfl, Nat.le_of_ble_eq_true rfl, Nat.le_of_ble_eq_true rfl⟩ rfl rfl (Nat.le_of_ble_eq_true rfl) dX1_note_51 (fun σ2 h => ?_)
    refine q_goto (tgt := 92) ok dX1_note_54 (by decide) ?_
    exact q_vret ok dX1_note_92 h
  by_cases c2 : (σ 61 1) = 2
  · have h := hs2 c2
    refine q_tsIn (tgt := 57) ok dX1_note_7 g1 (by omega) (by omega) (by rw [c2]; rfl) (by decide) ?_
    refine q_aload_n ok dX1_note_57 0 rfl ?_
    refine q_aload_n ok dX1_note_58 0 rfl ?_
    refine q_getC ok fl_X1_42 kC_52 fC_52_0 dX1_note_59 ?_
    refine q_getI ok fl_X1_109 kC_61 fC_61_2 dX1_note_62 ?_
    refine q_iload_n ok dX1_note_65 1 rfl ?_
    refine q_iload_n ok dX1_note_66 2 rfl ?_
    refine q_callVV (st := []) ok cs_X1_112 kC_52 rfl (c_X1_noteOutcome X.2.1 Y ok.2.2.2.2.2.2.2.2 h) ⟨rfl, rfl, Nat.le_of_ble_eq_true rfl, Nat.le_of_ble_eq_true rfl⟩ rfl rfl (Nat.le_of_ble_eq_true rfl) dX1_note_67 (fun σ3 h => ?_)
    refine q_goto (tgt := 92) ok dX1_note_70 (by decide) ?_
    exact q_vret ok dX1_note_92 h
  by_cases c3 : (σ 61 1) = 3
  · have h := hs3 c3
    refine q_tsIn (tgt := 73) ok dX1_note_7 g1 (by omega) (by omega) (by rw [c3]; rfl) (by decide) ?_
    refine q_aload_n ok dX1_note_73 0 rfl ?_
    refine q_bipush ok dX1_note_74 rfl ?_
    refine q_iload_n ok dX1_note_76 1 rfl ?_
    refine q_iload_n ok dX1_note_77 2 rfl ?_
    refine q_callVV (st := []) ok cs_X1_112 kC_52 rfl (c_X1_noteOutcome X.2.1 Y ok.2.2.2.2.2.2.2.2 h) ⟨rfl, rfl, Nat.le_of_ble_eq_true rfl, Nat.le_of_ble_eq_true rfl⟩ rfl rfl (Nat.le_of_ble_eq_true rfl) dX1_note_78 (fun σ4 h => ?_)
    refine q_goto (tgt := 92) ok dX1_note_81 (by decide) ?_
    exact q_vret ok dX1_note_92 h
  have h := hs4 (by omega)
  refine q_tsOut (tgt := 84) ok dX1_note_7 g1 (by omega) (by decide) ?_
  refine q_aload_n ok dX1_note_84 0 rfl ?_
  refine q_bipush ok dX1_note_85 rfl ?_
  refine q_iload_n ok dX1_note_87 1 rfl ?_
  refine q_iload_n ok dX1_note_88 2 rfl ?_
  refine q_callVV (st := []) ok cs_X1_112 kC_52 rfl (c_X1_noteOutcome X.2.1 Y ok.2.2.2.2.2.2.2.2 h) ⟨rfl, rfl, Nat.le_of_ble_eq_true rfl, Nat.le_of_ble_eq_true rfl⟩ rfl rfl (Nat.le_of_ble_eq_true rfl) dX1_note_89 (fun σ5 h => ?_)
  exact q_vret ok dX1_note_92 h)
/-! BranchingStory$Explorer.search(LBranchingStory$Story;I)V -/
def f_X1_search_L80 (k37 : St → Int → Prop) (Q : St → Prop) : Nat → St → Int → Int → Int → Prop
  | 0, _, _, _, _ => False
  | n + 1, σ, v3, v4, v5 => inR v5 ∧ inR v4 ∧ ((v4 ≤ v5 → k37 σ (v3 + 1)) ∧ (¬ v4 ≤ v5 → 0 ≤ v3 ∧ v3 < 300 ∧ f_X5_restore 61 (σ 53 v3.toNat) σ (fun σ1 => f_X5_take 61 v5 σ1 (fun σ2 => f_X1_note v3 v5 σ2 (fun σ3 => f_X1_search_L80 k37 Q n σ3 v3 v4 (v5 + 1))))))
def f_X1_search_L37 (Q : St → Prop) : Nat → St → Int → Prop
  | 0, _, _ => False
  | n + 1, σ, v3 => inR v3 ∧ ((300 ≤ v3 → Q σ) ∧ (¬ 300 ≤ v3 → inR v3 ∧ inR (σ 52 5) ∧ (((σ 52 5) ≤ v3 → Q σ) ∧ (¬ (σ 52 5) ≤ v3 → 0 ≤ v3 ∧ v3 < 300 ∧ f_X5_restore 61 (σ 53 v3.toNat) σ (fun σ1 => f_JI_bitCount (σ1 61 8) σ1 (fun σ2 r1 => f_X1_search_L80 (fun σ' v3' => f_X1_search_L37 Q n σ' v3') Q FU σ2 v3 r1 0))))))
def f_X1_search (a0 : Nat) (a1 : Int) (σ : St) (Q : St → Prop) : Prop :=
  f_X1_forget a0 σ (fun σ1 => ∀ σ2 : St, σ2 = sset σ1 52 1 1 → f_JM_min a1 300 σ2 (fun σ3 r1 => ∀ σ4 : St, σ4 = sset σ3 52 3 r1 → f_X5_begin 61 a0 σ4 (fun σ5 => f_X1_note (-1) (-1) σ5 (fun σ6 => f_X1_search_L37 Q FU σ6 0))))
set_option maxRecDepth 100000 in
set_option maxHeartbeats 4000000 in
theorem w_X1_search_L80 {X : Cx} {Y : Cy} {k37 : St → Int → Prop} {Q : St → Prop} (ok : Ok X Y KC cX1_search 6 RX1 (rm0q 6 142) none) (hk37 : ∀ (σ : St) (v3 : Int) , k37 σ v3 → Wq X Y KC 6 (QF X Y (Qvq Y KC Q)) σ 37 [(0, .inr (.inr 52)), (3, .inl v3)] []) : ∀ (n : Nat) (σ : St) (v3 : Int) (v4 : Int) (v5 : Int) , f_X1_search_L80 k37 Q n σ v3 v4 v5 → Wq X Y KC 6 (QF X Y (Qvq Y KC Q)) σ 80 [(0, .inr (.inr 52)), (3, .inl v3), (4, .inl v4), (5, .inl v5)] [] := by
  intro n
  induction n with
  | zero => intro σ v3 v4 v5 h; exact h.elim
  | succ n ih =>
    intro σ v3 v4 v5 h
    rw [f_X1_search_L80] at h
    refine q_iload ok dX1_search_80 3 rfl ?_
    refine q_iload ok dX1_search_82 2 rfl ?_
    obtain ⟨g1, g2, hT1a, hT1b⟩ := h
    refine q_icmp_ge (tgt := 122) ok dX1_search_84 (by decide) g1 g2 (fun c1 => ?_) (fun c1 => ?_)
    · have h := hT1a c1
      refine q_iinc (lv' := [(3, .inl (v3 + 1)), (0, .inr (.inr 52)), (4, .inl v4), (5, .inl v5)]) ok dX1_search_122 1 rfl (by decide) rfl ?_
      refine q_goto (tgt := 37) ok dX1_search_125 (by decide) ?_
      refine q_sub [1, 0] rfl ?_
      exact hk37 σ (v3 + 1) h
    · have h := hT1b c1
      refine q_aload_n ok dX1_search_87 0 rfl ?_
      refine q_getC ok fl_X1_42 kC_52 fC_52_0 dX1_search_88 ?_
      refine q_aload_n ok dX1_search_91 0 rfl ?_
      refine q_getC ok fl_X1_9 kC_52 fC_52_6 dX1_search_92 ?_
      refine q_iload_n ok dX1_search_95 1 rfl ?_
      obtain ⟨g3, g4, h⟩ := h
      refine q_lald ok kC_ok kC_53 g3 g4 dX1_search_96 ?_
      refine q_callVV (st := []) ok cs_X1_86 kC_61 rfl (c_X5_restore X.2.1 Y ok.2.2.2.2.2.2.2.2 h) ⟨rfl, rfl, Nat.le_of_ble_eq_true rfl, Nat.le_of_ble_eq_true rfl⟩ rfl rfl (Nat.le_of_ble_eq_true rfl) dX1_search_97 (fun σ1 h => ?_)
      refine q_aload_n ok dX1_search_100 0 rfl ?_
      refine q_getC ok fl_X1_42 kC_52 fC_52_0 dX1_search_101 ?_
      refine q_iload ok dX1_search_104 3 rfl ?_
      refine q_callVV (st := []) ok cs_X1_99 kC_61 rfl (c_X5_take X.2.1 Y ok.2.2.2.2.2.2.2.2 h) ⟨rfl, rfl, Nat.le_of_ble_eq_true rfl, Nat.le_of_ble_eq_true rfl⟩ rfl rfl (Nat.le_of_ble_eq_true rfl) dX1_search_106 (fun σ2 h => ?_)
      refine q_aload_n ok dX1_search_109 0 rfl ?_
      refine q_iload_n ok dX1_search_110 1 rfl ?_
      refine q_iload ok dX1_search_111 3 rfl ?_
      refine q_callVV (st := []) ok cs_X1_82 kC_52 rfl (c_X1_note X.2.1 Y ok.2.2.2.2.2.2.2.2 h) ⟨rfl, rfl, Nat.le_of_ble_eq_true rfl, Nat.le_of_ble_eq_true rfl⟩ rfl rfl (Nat.le_of_ble_eq_true rfl) dX1_search_113 (fun σ3 h => ?_)
      refine q_iinc (lv' := [(5, .inl (v5 + 1)), (0, .inr (.inr 52)), (3, .inl v3), (4, .inl v4)]) ok dX1_search_116 3 rfl (by decide) rfl ?_
      refine q_goto (tgt := 80) ok dX1_search_119 (by decide) ?_
      refine q_sub [1, 2, 3, 0] rfl ?_
      exact ih σ3 v3 v4 (v5 + 1) h
set_option maxRecDepth 100000 in
set_option maxHeartbeats 4000000 in
theorem w_X1_search_L37 {X : Cx} {Y : Cy} {Q : St → Prop} (ok : Ok X Y KC cX1_search 6 RX1 (rm0q 6 142) none) : ∀ (n : Nat) (σ : St) (v3 : Int) , f_X1_search_L37 Q n σ v3 → Wq X Y KC 6 (QF X Y (Qvq Y KC Q)) σ 37 [(0, .inr (.inr 52)), (3, .inl v3)] [] := by
  intro n
  induction n with
  | zero => intro σ v3 h; exact h.elim
  | succ n ih =>
    intro σ v3 h
    rw [f_X1_search_L37] at h
    refine q_iload_n ok dX1_search_37 1 rfl ?_
    refine q_sipush ok dX1_search_38 rfl ?_
    obtain ⟨g1, hT2a, hT2b⟩ := h
    refine q_icmp_ge (tgt := 128) ok dX1_search_41 (by decide) g1 (by unfold inR; decide) (fun c2 => ?_) (fun c2 => ?_)
    · have h := hT2a c2
      exact q_vret ok dX1_search_128 h
    · have h := hT2b c2
      refine q_iload_n ok dX1_search_44 1 rfl ?_
      refine q_aload_n ok dX1_search_45 0 rfl ?_
      refine q_getI ok fl_X1_60 kC_52 fC_52_5 dX1_search_46 ?_
      obtain ⟨g2, g3, hT1a, hT1b⟩ := h
      refine q_icmp_ge (tgt := 128) ok dX1_search_49 (by decide) g2 g3 (fun c1 => ?_) (fun c1 => ?_)
      · have h := hT1a c1
        exact q_vret ok dX1_search_128 h
      · have h := hT1b c1
        refine q_aload_n ok dX1_search_52 0 rfl ?_
        refine q_getC ok fl_X1_42 kC_52 fC_52_0 dX1_search_53 ?_
        refine q_aload_n ok dX1_search_56 0 rfl ?_
        refine q_getC ok fl_X1_9 kC_52 fC_52_6 dX1_search_57 ?_
        refine q_iload_n ok dX1_search_60 1 rfl ?_
        obtain ⟨g4, g5, h⟩ := h
        refine q_lald ok kC_ok kC_53 g4 g5 dX1_search_61 ?_
        refine q_callVV (st := []) ok cs_X1_86 kC_61 rfl (c_X5_restore X.2.1 Y ok.2.2.2.2.2.2.2.2 h) ⟨rfl, rfl, Nat.le_of_ble_eq_true rfl, Nat.le_of_ble_eq_true rfl⟩ rfl rfl (Nat.le_of_ble_eq_true rfl) dX1_search_62 (fun σ1 h => ?_)
        refine q_aload_n ok dX1_search_65 0 rfl ?_
        refine q_getC ok fl_X1_42 kC_52 fC_52_0 dX1_search_66 ?_
        refine q_getI ok fl_X1_90 kC_61 fC_61_8 dX1_search_69 ?_
        refine q_callSI (st := []) ok cs_X1_93 (c_JI_bitCount X.2.1 Y ok.2.2.2.2.2.2.2.2 h) ⟨rfl, rfl, Nat.le_of_ble_eq_true rfl, Nat.le_of_ble_eq_true rfl⟩ rfl rfl (Nat.le_of_ble_eq_true rfl) dX1_search_72 (fun σ2 r1 h => ?_)
        refine q_istore (lv' := [(4, .inl r1), (0, .inr (.inr 52)), (3, .inl v3)]) ok dX1_search_75 (by decide) rfl ?_
        refine q_iconst ok dX1_search_77 ?_
        refine q_istore (lv' := [(5, .inl 0), (4, .inl r1), (0, .inr (.inr 52)), (3, .inl v3)]) ok dX1_search_78 (by decide) rfl ?_
        refine q_sub [2, 3, 1, 0] rfl ?_
        exact w_X1_search_L80 ok ih FU σ2 v3 r1 0 h
set_option maxRecDepth 100000 in
set_option maxHeartbeats 4000000 in
theorem c_X1_search (l : Launch) (Y : Cy) (hD : ∀ σ, va_D Y.2.2.2 (wsOf KC Y.2.1 Y.2.2.1 σ)) {a0 : Nat} {a1 : Int} {σ : St} {Q : St → Prop} (h : f_X1_search a0 a1 σ Q) : ConV l yX1_search cX1_search 6 (rm0q 6 142) Y KC σ [.inr (.inr 52), .inr (.inr a0), .inl a1] Q := con_of (lv := [(0, .inr (.inr 52)), (1, .inr (.inr a0)), (2, .inl a1)]) (by decide) hD (Nat.le_of_ble_eq_true rfl) rfl (fun X _ ok => by
  have ok : Ok X Y KC cX1_search 6 RX1 (rm0q 6 142) none := ok
  unfold f_X1_search at h
  refine q_aload_n ok dX1_search_0 0 rfl ?_
  refine q_aload_n ok dX1_search_1 1 rfl ?_
  refine q_callVV (st := []) ok cs_X1_69 kC_52 rfl (c_X1_forget X.2.1 Y ok.2.2.2.2.2.2.2.2 h) ⟨rfl, rfl, Nat.le_of_ble_eq_true rfl, Nat.le_of_ble_eq_true rfl⟩ rfl rfl (Nat.le_of_ble_eq_true rfl) dX1_search_2 (fun σ1 h => ?_)
  refine q_aload_n ok dX1_search_5 0 rfl ?_
  refine q_iconst ok dX1_search_6 ?_
  refine q_putZ ok fp_X1_49 kC_52 fC_52_1 dX1_search_7 (by decide) (wq_s (fun σ2 eσ2 => ?_))
  have h := h σ2 eσ2
  refine q_aload_n ok dX1_search_10 0 rfl ?_
  refine q_iload_n ok dX1_search_11 2 rfl ?_
  refine q_sipush ok dX1_search_12 rfl ?_
  refine q_callSI (st := [.inr (.inr 52)]) ok cs_X1_70 (c_JM_min X.2.1 Y ok.2.2.2.2.2.2.2.2 h) ⟨rfl, rfl, Nat.le_of_ble_eq_true rfl, Nat.le_of_ble_eq_true rfl⟩ rfl rfl (Nat.le_of_ble_eq_true rfl) dX1_search_15 (fun σ3 r1 h => ?_)
  refine q_putI ok fp_X1_76 kC_52 fC_52_3 dX1_search_18 (wq_s (fun σ4 eσ4 => ?_))
  have h := h σ4 eσ4
  refine q_aload_n ok dX1_search_21 0 rfl ?_
  refine q_getC ok fl_X1_42 kC_52 fC_52_0 dX1_search_22 ?_
  refine q_aload_n ok dX1_search_25 1 rfl ?_
  refine q_callVV (st := []) ok cs_X1_79 kC_61 rfl (c_X5_begin X.2.1 Y ok.2.2.2.2.2.2.2.2 h) ⟨rfl, rfl, Nat.le_of_ble_eq_true rfl, Nat.le_of_ble_eq_true rfl⟩ rfl rfl (Nat.le_of_ble_eq_true rfl) dX1_search_26 (fun σ5 h => ?_)
  refine q_aload_n ok dX1_search_29 0 rfl ?_
  refine q_iconst ok dX1_search_30 ?_
  refine q_iconst ok dX1_search_31 ?_
  refine q_callVV (st := []) ok cs_X1_82 kC_52 rfl (c_X1_note X.2.1 Y ok.2.2.2.2.2.2.2.2 h) ⟨rfl, rfl, Nat.le_of_ble_eq_true rfl, Nat.le_of_ble_eq_true rfl⟩ rfl rfl (Nat.le_of_ble_eq_true rfl) dX1_search_32 (fun σ6 h => ?_)
  refine q_iconst ok dX1_search_35 ?_
  refine q_istore_n (lv' := [(3, .inl 0), (0, .inr (.inr 52)), (1, .inr (.inr a0)), (2, .inl a1)]) ok dX1_search_36 (by decide) rfl ?_
  refine q_sub [1, 0] rfl ?_
  exact w_X1_search_L37 ok FU σ6 0 h)
