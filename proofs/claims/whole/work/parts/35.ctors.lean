theorem dX4_init_0 : decode cX4_init 0 = .ok (.aload_n 0, 1) := by decide +kernel
theorem dX4_init_1 : decode cX4_init 1 = .ok (.invokespecial 3, 3) := by decide +kernel
theorem dX4_init_4 : decode cX4_init 4 = .ok (.aload_n 0, 1) := by decide +kernel
theorem dX4_init_5 : decode cX4_init 5 = .ok (.bipush 20, 2) := by decide +kernel
theorem dX4_init_7 : decode cX4_init 7 = .ok (.newarray .int, 2) := by decide +kernel
theorem dX4_init_9 : decode cX4_init 9 = .ok (.putfield 9, 3) := by decide +kernel
theorem dX4_init_12 : decode cX4_init 12 = .ok (.aload_n 0, 1) := by decide +kernel
theorem dX4_init_13 : decode cX4_init 13 = .ok (.bipush 100, 2) := by decide +kernel
theorem dX4_init_15 : decode cX4_init 15 = .ok (.newarray .boolean, 2) := by decide +kernel
theorem dX4_init_17 : decode cX4_init 17 = .ok (.putfield 15, 3) := by decide +kernel
theorem dX4_init_20 : decode cX4_init 20 = .ok (.return_, 1) := by decide +kernel
theorem dX8_init_0 : decode cX8_init 0 = .ok (.aload_n 0, 1) := by decide +kernel
theorem dX8_init_1 : decode cX8_init 1 = .ok (.invokespecial 3, 3) := by decide +kernel
theorem dX8_init_4 : decode cX8_init 4 = .ok (.aload_n 0, 1) := by decide +kernel
theorem dX8_init_5 : decode cX8_init 5 = .ok (.sipush 200, 3) := by decide +kernel
theorem dX8_init_8 : decode cX8_init 8 = .ok (.newarray .int, 2) := by decide +kernel
theorem dX8_init_10 : decode cX8_init 10 = .ok (.putfield 9, 3) := by decide +kernel
theorem dX8_init_13 : decode cX8_init 13 = .ok (.aload_n 0, 1) := by decide +kernel
theorem dX8_init_14 : decode cX8_init 14 = .ok (.sipush 200, 3) := by decide +kernel
theorem dX8_init_17 : decode cX8_init 17 = .ok (.newarray .int, 2) := by decide +kernel
theorem dX8_init_19 : decode cX8_init 19 = .ok (.putfield 15, 3) := by decide +kernel
theorem dX8_init_22 : decode cX8_init 22 = .ok (.aload_n 0, 1) := by decide +kernel
theorem dX8_init_23 : decode cX8_init 23 = .ok (.sipush 200, 3) := by decide +kernel
theorem dX8_init_26 : decode cX8_init 26 = .ok (.newarray .int, 2) := by decide +kernel
theorem dX8_init_28 : decode cX8_init 28 = .ok (.putfield 18, 3) := by decide +kernel
theorem dX8_init_31 : decode cX8_init 31 = .ok (.return_, 1) := by decide +kernel
theorem dX7_init_0 : decode cX7_init 0 = .ok (.aload_n 0, 1) := by decide +kernel
theorem dX7_init_1 : decode cX7_init 1 = .ok (.invokespecial 3, 3) := by decide +kernel
theorem dX7_init_4 : decode cX7_init 4 = .ok (.aload_n 0, 1) := by decide +kernel
theorem dX7_init_5 : decode cX7_init 5 = .ok (.sipush 400, 3) := by decide +kernel
theorem dX7_init_8 : decode cX7_init 8 = .ok (.newarray .int, 2) := by decide +kernel
theorem dX7_init_10 : decode cX7_init 10 = .ok (.putfield 9, 3) := by decide +kernel
theorem dX7_init_13 : decode cX7_init 13 = .ok (.aload_n 0, 1) := by decide +kernel
theorem dX7_init_14 : decode cX7_init 14 = .ok (.sipush 400, 3) := by decide +kernel
theorem dX7_init_17 : decode cX7_init 17 = .ok (.newarray .int, 2) := by decide +kernel
theorem dX7_init_19 : decode cX7_init 19 = .ok (.putfield 15, 3) := by decide +kernel
theorem dX7_init_22 : decode cX7_init 22 = .ok (.aload_n 0, 1) := by decide +kernel
theorem dX7_init_23 : decode cX7_init 23 = .ok (.sipush 400, 3) := by decide +kernel
theorem dX7_init_26 : decode cX7_init 26 = .ok (.newarray .int, 2) := by decide +kernel
theorem dX7_init_28 : decode cX7_init 28 = .ok (.putfield 18, 3) := by decide +kernel
theorem dX7_init_31 : decode cX7_init 31 = .ok (.aload_n 0, 1) := by decide +kernel
theorem dX7_init_32 : decode cX7_init 32 = .ok (.sipush 400, 3) := by decide +kernel
theorem dX7_init_35 : decode cX7_init 35 = .ok (.newarray .int, 2) := by decide +kernel
theorem dX7_init_37 : decode cX7_init 37 = .ok (.putfield 21, 3) := by decide +kernel
theorem dX7_init_40 : decode cX7_init 40 = .ok (.aload_n 0, 1) := by decide +kernel
theorem dX7_init_41 : decode cX7_init 41 = .ok (.sipush 400, 3) := by decide +kernel
theorem dX7_init_44 : decode cX7_init 44 = .ok (.newarray .int, 2) := by decide +kernel
theorem dX7_init_46 : decode cX7_init 46 = .ok (.putfield 24, 3) := by decide +kernel
theorem dX7_init_49 : decode cX7_init 49 = .ok (.aload_n 0, 1) := by decide +kernel
theorem dX7_init_50 : decode cX7_init 50 = .ok (.sipush 400, 3) := by decide +kernel
theorem dX7_init_53 : decode cX7_init 53 = .ok (.newarray .int, 2) := by decide +kernel
theorem dX7_init_55 : decode cX7_init 55 = .ok (.putfield 27, 3) := by decide +kernel
theorem dX7_init_58 : decode cX7_init 58 = .ok (.aload_n 0, 1) := by decide +kernel
theorem dX7_init_59 : decode cX7_init 59 = .ok (.sipush 400, 3) := by decide +kernel
theorem dX7_init_62 : decode cX7_init 62 = .ok (.newarray .int, 2) := by decide +kernel
theorem dX7_init_64 : decode cX7_init 64 = .ok (.putfield 30, 3) := by decide +kernel
theorem dX7_init_67 : decode cX7_init 67 = .ok (.aload_n 0, 1) := by decide +kernel
theorem dX7_init_68 : decode cX7_init 68 = .ok (.sipush 400, 3) := by decide +kernel
theorem dX7_init_71 : decode cX7_init 71 = .ok (.newarray .int, 2) := by decide +kernel
theorem dX7_init_73 : decode cX7_init 73 = .ok (.putfield 33, 3) := by decide +kernel
theorem dX7_init_76 : decode cX7_init 76 = .ok (.aload_n 0, 1) := by decide +kernel
theorem dX7_init_77 : decode cX7_init 77 = .ok (.new 36, 3) := by decide +kernel
theorem dX7_init_80 : decode cX7_init 80 = .ok (.dup, 1) := by decide +kernel
theorem dX7_init_81 : decode cX7_init 81 = .ok (.invokespecial 38, 3) := by decide +kernel
theorem dX7_init_84 : decode cX7_init 84 = .ok (.putfield 39, 3) := by decide +kernel
theorem dX7_init_87 : decode cX7_init 87 = .ok (.aload_n 0, 1) := by decide +kernel
theorem dX7_init_88 : decode cX7_init 88 = .ok (.bipush 12, 2) := by decide +kernel
theorem dX7_init_90 : decode cX7_init 90 = .ok (.newarray .int, 2) := by decide +kernel
theorem dX7_init_92 : decode cX7_init 92 = .ok (.putfield 43, 3) := by decide +kernel
theorem dX7_init_95 : decode cX7_init 95 = .ok (.aload_n 0, 1) := by decide +kernel
theorem dX7_init_96 : decode cX7_init 96 = .ok (.bipush 12, 2) := by decide +kernel
theorem dX7_init_98 : decode cX7_init 98 = .ok (.newarray .int, 2) := by decide +kernel
theorem dX7_init_100 : decode cX7_init 100 = .ok (.putfield 46, 3) := by decide +kernel
theorem dX7_init_103 : decode cX7_init 103 = .ok (.aload_n 0, 1) := by decide +kernel
theorem dX7_init_104 : decode cX7_init 104 = .ok (.bipush 16, 2) := by decide +kernel
theorem dX7_init_106 : decode cX7_init 106 = .ok (.newarray .int, 2) := by decide +kernel
theorem dX7_init_108 : decode cX7_init 108 = .ok (.putfield 49, 3) := by decide +kernel
theorem dX7_init_111 : decode cX7_init 111 = .ok (.aload_n 0, 1) := by decide +kernel
theorem dX7_init_112 : decode cX7_init 112 = .ok (.bipush 16, 2) := by decide +kernel
theorem dX7_init_114 : decode cX7_init 114 = .ok (.newarray .int, 2) := by decide +kernel
theorem dX7_init_116 : decode cX7_init 116 = .ok (.putfield 52, 3) := by decide +kernel
theorem dX7_init_119 : decode cX7_init 119 = .ok (.aload_n 0, 1) := by decide +kernel
theorem dX7_init_120 : decode cX7_init 120 = .ok (.bipush 16, 2) := by decide +kernel
theorem dX7_init_122 : decode cX7_init 122 = .ok (.newarray .int, 2) := by decide +kernel
theorem dX7_init_124 : decode cX7_init 124 = .ok (.putfield 55, 3) := by decide +kernel
theorem dX7_init_127 : decode cX7_init 127 = .ok (.return_, 1) := by decide +kernel
theorem dX5_init_0 : decode cX5_init 0 = .ok (.aload_n 0, 1) := by decide +kernel
theorem dX5_init_1 : decode cX5_init 1 = .ok (.invokespecial 3, 3) := by decide +kernel
theorem dX5_init_4 : decode cX5_init 4 = .ok (.aload_n 0, 1) := by decide +kernel
theorem dX5_init_5 : decode cX5_init 5 = .ok (.new 9, 3) := by decide +kernel
theorem dX5_init_8 : decode cX5_init 8 = .ok (.dup, 1) := by decide +kernel
theorem dX5_init_9 : decode cX5_init 9 = .ok (.invokespecial 11, 3) := by decide +kernel
theorem dX5_init_12 : decode cX5_init 12 = .ok (.putfield 12, 3) := by decide +kernel
theorem dX5_init_15 : decode cX5_init 15 = .ok (.aload_n 0, 1) := by decide +kernel
theorem dX5_init_16 : decode cX5_init 16 = .ok (.aload_n 1, 1) := by decide +kernel
theorem dX5_init_17 : decode cX5_init 17 = .ok (.putfield 18, 3) := by decide +kernel
theorem dX5_init_20 : decode cX5_init 20 = .ok (.aload_n 0, 1) := by decide +kernel
theorem dX5_init_21 : decode cX5_init 21 = .ok (.iconst (-1), 1) := by decide +kernel
theorem dX5_init_22 : decode cX5_init 22 = .ok (.putfield 22, 3) := by decide +kernel
theorem dX5_init_25 : decode cX5_init 25 = .ok (.aload_n 0, 1) := by decide +kernel
theorem dX5_init_26 : decode cX5_init 26 = .ok (.iconst (-1), 1) := by decide +kernel
theorem dX5_init_27 : decode cX5_init 27 = .ok (.putfield 26, 3) := by decide +kernel
theorem dX5_init_30 : decode cX5_init 30 = .ok (.return_, 1) := by decide +kernel
theorem dX6_init_0 : decode cX6_init 0 = .ok (.aload_n 0, 1) := by decide +kernel
theorem dX6_init_1 : decode cX6_init 1 = .ok (.invokespecial 3, 3) := by decide +kernel
theorem dX6_init_4 : decode cX6_init 4 = .ok (.aload_n 0, 1) := by decide +kernel
theorem dX6_init_5 : decode cX6_init 5 = .ok (.bipush 12, 2) := by decide +kernel
theorem dX6_init_7 : decode cX6_init 7 = .ok (.newarray .int, 2) := by decide +kernel
theorem dX6_init_9 : decode cX6_init 9 = .ok (.putfield 9, 3) := by decide +kernel
theorem dX6_init_12 : decode cX6_init 12 = .ok (.aload_n 0, 1) := by decide +kernel
theorem dX6_init_13 : decode cX6_init 13 = .ok (.bipush 7, 2) := by decide +kernel
theorem dX6_init_15 : decode cX6_init 15 = .ok (.newarray .int, 2) := by decide +kernel
theorem dX6_init_17 : decode cX6_init 17 = .ok (.putfield 15, 3) := by decide +kernel
theorem dX6_init_20 : decode cX6_init 20 = .ok (.aload_n 0, 1) := by decide +kernel
theorem dX6_init_21 : decode cX6_init 21 = .ok (.bipush 7, 2) := by decide +kernel
theorem dX6_init_23 : decode cX6_init 23 = .ok (.newarray .boolean, 2) := by decide +kernel
theorem dX6_init_25 : decode cX6_init 25 = .ok (.putfield 18, 3) := by decide +kernel
theorem dX6_init_28 : decode cX6_init 28 = .ok (.aload_n 0, 1) := by decide +kernel
theorem dX6_init_29 : decode cX6_init 29 = .ok (.sipush 400, 3) := by decide +kernel
theorem dX6_init_32 : decode cX6_init 32 = .ok (.newarray .int, 2) := by decide +kernel
theorem dX6_init_34 : decode cX6_init 34 = .ok (.putfield 22, 3) := by decide +kernel
theorem dX6_init_37 : decode cX6_init 37 = .ok (.aload_n 0, 1) := by decide +kernel
theorem dX6_init_38 : decode cX6_init 38 = .ok (.sipush 400, 3) := by decide +kernel
theorem dX6_init_41 : decode cX6_init 41 = .ok (.newarray .int, 2) := by decide +kernel
theorem dX6_init_43 : decode cX6_init 43 = .ok (.putfield 25, 3) := by decide +kernel
theorem dX6_init_46 : decode cX6_init 46 = .ok (.aload_n 0, 1) := by decide +kernel
theorem dX6_init_47 : decode cX6_init 47 = .ok (.aload_n 1, 1) := by decide +kernel
theorem dX6_init_48 : decode cX6_init 48 = .ok (.putfield 28, 3) := by decide +kernel
theorem dX6_init_51 : decode cX6_init 51 = .ok (.return_, 1) := by decide +kernel
theorem dX2_init_0 : decode cX2_init 0 = .ok (.aload_n 0, 1) := by decide +kernel
theorem dX2_init_1 : decode cX2_init 1 = .ok (.invokespecial 3, 3) := by decide +kernel
theorem dX2_init_4 : decode cX2_init 4 = .ok (.aload_n 0, 1) := by decide +kernel
theorem dX2_init_5 : decode cX2_init 5 = .ok (.bipush 12, 2) := by decide +kernel
theorem dX2_init_7 : decode cX2_init 7 = .ok (.newarray .long, 2) := by decide +kernel
theorem dX2_init_9 : decode cX2_init 9 = .ok (.putfield 9, 3) := by decide +kernel
theorem dX2_init_12 : decode cX2_init 12 = .ok (.aload_n 0, 1) := by decide +kernel
theorem dX2_init_13 : decode cX2_init 13 = .ok (.bipush 12, 2) := by decide +kernel
theorem dX2_init_15 : decode cX2_init 15 = .ok (.newarray .int, 2) := by decide +kernel
theorem dX2_init_17 : decode cX2_init 17 = .ok (.putfield 15, 3) := by decide +kernel
theorem dX2_init_20 : decode cX2_init 20 = .ok (.aload_n 0, 1) := by decide +kernel
theorem dX2_init_21 : decode cX2_init 21 = .ok (.sipush 240, 3) := by decide +kernel
theorem dX2_init_24 : decode cX2_init 24 = .ok (.newarray .int, 2) := by decide +kernel
theorem dX2_init_26 : decode cX2_init 26 = .ok (.putfield 19, 3) := by decide +kernel
theorem dX2_init_29 : decode cX2_init 29 = .ok (.return_, 1) := by decide +kernel
theorem dX1_init_0 : decode cX1_init 0 = .ok (.aload_n 0, 1) := by decide +kernel
theorem dX1_init_1 : decode cX1_init 1 = .ok (.invokespecial 3, 3) := by decide +kernel
theorem dX1_init_4 : decode cX1_init 4 = .ok (.aload_n 0, 1) := by decide +kernel
theorem dX1_init_5 : decode cX1_init 5 = .ok (.sipush 300, 3) := by decide +kernel
theorem dX1_init_8 : decode cX1_init 8 = .ok (.newarray .long, 2) := by decide +kernel
theorem dX1_init_10 : decode cX1_init 10 = .ok (.putfield 9, 3) := by decide +kernel
theorem dX1_init_13 : decode cX1_init 13 = .ok (.aload_n 0, 1) := by decide +kernel
theorem dX1_init_14 : decode cX1_init 14 = .ok (.sipush 300, 3) := by decide +kernel
theorem dX1_init_17 : decode cX1_init 17 = .ok (.newarray .int, 2) := by decide +kernel
theorem dX1_init_19 : decode cX1_init 19 = .ok (.putfield 15, 3) := by decide +kernel
theorem dX1_init_22 : decode cX1_init 22 = .ok (.aload_n 0, 1) := by decide +kernel
theorem dX1_init_23 : decode cX1_init 23 = .ok (.sipush 300, 3) := by decide +kernel
theorem dX1_init_26 : decode cX1_init 26 = .ok (.newarray .int, 2) := by decide +kernel
theorem dX1_init_28 : decode cX1_init 28 = .ok (.putfield 19, 3) := by decide +kernel
theorem dX1_init_31 : decode cX1_init 31 = .ok (.aload_n 0, 1) := by decide +kernel
theorem dX1_init_32 : decode cX1_init 32 = .ok (.sipush 300, 3) := by decide +kernel
theorem dX1_init_35 : decode cX1_init 35 = .ok (.newarray .int, 2) := by decide +kernel
theorem dX1_init_37 : decode cX1_init 37 = .ok (.putfield 22, 3) := by decide +kernel
theorem dX1_init_40 : decode cX1_init 40 = .ok (.aload_n 0, 1) := by decide +kernel
theorem dX1_init_41 : decode cX1_init 41 = .ok (.bipush 12, 2) := by decide +kernel
theorem dX1_init_43 : decode cX1_init 43 = .ok (.newarray .int, 2) := by decide +kernel
theorem dX1_init_45 : decode cX1_init 45 = .ok (.putfield 25, 3) := by decide +kernel
theorem dX1_init_48 : decode cX1_init 48 = .ok (.aload_n 0, 1) := by decide +kernel
theorem dX1_init_49 : decode cX1_init 49 = .ok (.bipush 12, 2) := by decide +kernel
theorem dX1_init_51 : decode cX1_init 51 = .ok (.newarray .int, 2) := by decide +kernel
theorem dX1_init_53 : decode cX1_init 53 = .ok (.putfield 28, 3) := by decide +kernel
theorem dX1_init_56 : decode cX1_init 56 = .ok (.aload_n 0, 1) := by decide +kernel
theorem dX1_init_57 : decode cX1_init 57 = .ok (.bipush 12, 2) := by decide +kernel
theorem dX1_init_59 : decode cX1_init 59 = .ok (.newarray .int, 2) := by decide +kernel
theorem dX1_init_61 : decode cX1_init 61 = .ok (.putfield 31, 3) := by decide +kernel
theorem dX1_init_64 : decode cX1_init 64 = .ok (.aload_n 0, 1) := by decide +kernel
theorem dX1_init_65 : decode cX1_init 65 = .ok (.bipush 12, 2) := by decide +kernel
theorem dX1_init_67 : decode cX1_init 67 = .ok (.newarray .int, 2) := by decide +kernel
theorem dX1_init_69 : decode cX1_init 69 = .ok (.putfield 34, 3) := by decide +kernel
theorem dX1_init_72 : decode cX1_init 72 = .ok (.aload_n 0, 1) := by decide +kernel
theorem dX1_init_73 : decode cX1_init 73 = .ok (.new 37, 3) := by decide +kernel
theorem dX1_init_76 : decode cX1_init 76 = .ok (.dup, 1) := by decide +kernel
theorem dX1_init_77 : decode cX1_init 77 = .ok (.aload_n 1, 1) := by decide +kernel
theorem dX1_init_78 : decode cX1_init 78 = .ok (.invokespecial 39, 3) := by decide +kernel
theorem dX1_init_81 : decode cX1_init 81 = .ok (.putfield 42, 3) := by decide +kernel
theorem dX1_init_84 : decode cX1_init 84 = .ok (.return_, 1) := by decide +kernel
theorem dX0_init_0 : decode cX0_init 0 = .ok (.aload_n 0, 1) := by decide +kernel
theorem dX0_init_1 : decode cX0_init 1 = .ok (.invokespecial 3, 3) := by decide +kernel
theorem dX0_init_4 : decode cX0_init 4 = .ok (.aload_n 0, 1) := by decide +kernel
theorem dX0_init_5 : decode cX0_init 5 = .ok (.bipush 12, 2) := by decide +kernel
theorem dX0_init_7 : decode cX0_init 7 = .ok (.newarray .long, 2) := by decide +kernel
theorem dX0_init_9 : decode cX0_init 9 = .ok (.putfield 9, 3) := by decide +kernel
theorem dX0_init_12 : decode cX0_init 12 = .ok (.aload_n 0, 1) := by decide +kernel
theorem dX0_init_13 : decode cX0_init 13 = .ok (.bipush 16, 2) := by decide +kernel
theorem dX0_init_15 : decode cX0_init 15 = .ok (.newarray .long, 2) := by decide +kernel
theorem dX0_init_17 : decode cX0_init 17 = .ok (.putfield 15, 3) := by decide +kernel
theorem dX0_init_20 : decode cX0_init 20 = .ok (.aload_n 0, 1) := by decide +kernel
theorem dX0_init_21 : decode cX0_init 21 = .ok (.sipush 400, 3) := by decide +kernel
theorem dX0_init_24 : decode cX0_init 24 = .ok (.newarray .long, 2) := by decide +kernel
theorem dX0_init_26 : decode cX0_init 26 = .ok (.putfield 18, 3) := by decide +kernel
theorem dX0_init_29 : decode cX0_init 29 = .ok (.aload_n 0, 1) := by decide +kernel
theorem dX0_init_30 : decode cX0_init 30 = .ok (.sipush 400, 3) := by decide +kernel
theorem dX0_init_33 : decode cX0_init 33 = .ok (.newarray .int, 2) := by decide +kernel
theorem dX0_init_35 : decode cX0_init 35 = .ok (.putfield 21, 3) := by decide +kernel
theorem dX0_init_38 : decode cX0_init 38 = .ok (.aload_n 0, 1) := by decide +kernel
theorem dX0_init_39 : decode cX0_init 39 = .ok (.sipush 400, 3) := by decide +kernel
theorem dX0_init_42 : decode cX0_init 42 = .ok (.newarray .int, 2) := by decide +kernel
theorem dX0_init_44 : decode cX0_init 44 = .ok (.putfield 25, 3) := by decide +kernel
theorem dX0_init_47 : decode cX0_init 47 = .ok (.aload_n 0, 1) := by decide +kernel
theorem dX0_init_48 : decode cX0_init 48 = .ok (.bipush 16, 2) := by decide +kernel
theorem dX0_init_50 : decode cX0_init 50 = .ok (.newarray .int, 2) := by decide +kernel
theorem dX0_init_52 : decode cX0_init 52 = .ok (.putfield 28, 3) := by decide +kernel
theorem dX0_init_55 : decode cX0_init 55 = .ok (.aload_n 0, 1) := by decide +kernel
theorem dX0_init_56 : decode cX0_init 56 = .ok (.aload_n 1, 1) := by decide +kernel
theorem dX0_init_57 : decode cX0_init 57 = .ok (.putfield 31, 3) := by decide +kernel
theorem dX0_init_60 : decode cX0_init 60 = .ok (.return_, 1) := by decide +kernel
theorem dX10_init_0 : decode cX10_init 0 = .ok (.aload_n 0, 1) := by decide +kernel
theorem dX10_init_1 : decode cX10_init 1 = .ok (.invokespecial 1, 3) := by decide +kernel
theorem dX10_init_4 : decode cX10_init 4 = .ok (.aload_n 0, 1) := by decide +kernel
theorem dX10_init_5 : decode cX10_init 5 = .ok (.sipush 400, 3) := by decide +kernel
theorem dX10_init_8 : decode cX10_init 8 = .ok (.newarray .int, 2) := by decide +kernel
theorem dX10_init_10 : decode cX10_init 10 = .ok (.putfield 7, 3) := by decide +kernel
theorem dX10_init_13 : decode cX10_init 13 = .ok (.aload_n 0, 1) := by decide +kernel
theorem dX10_init_14 : decode cX10_init 14 = .ok (.sipush 400, 3) := by decide +kernel
theorem dX10_init_17 : decode cX10_init 17 = .ok (.newarray .int, 2) := by decide +kernel
theorem dX10_init_19 : decode cX10_init 19 = .ok (.putfield 13, 3) := by decide +kernel
theorem dX10_init_22 : decode cX10_init 22 = .ok (.aload_n 0, 1) := by decide +kernel
theorem dX10_init_23 : decode cX10_init 23 = .ok (.sipush 401, 3) := by decide +kernel
theorem dX10_init_26 : decode cX10_init 26 = .ok (.newarray .int, 2) := by decide +kernel
theorem dX10_init_28 : decode cX10_init 28 = .ok (.putfield 16, 3) := by decide +kernel
theorem dX10_init_31 : decode cX10_init 31 = .ok (.aload_n 0, 1) := by decide +kernel
theorem dX10_init_32 : decode cX10_init 32 = .ok (.sipush 401, 3) := by decide +kernel
theorem dX10_init_35 : decode cX10_init 35 = .ok (.newarray .int, 2) := by decide +kernel
theorem dX10_init_37 : decode cX10_init 37 = .ok (.putfield 19, 3) := by decide +kernel
theorem dX10_init_40 : decode cX10_init 40 = .ok (.aload_n 0, 1) := by decide +kernel
theorem dX10_init_41 : decode cX10_init 41 = .ok (.sipush 401, 3) := by decide +kernel
theorem dX10_init_44 : decode cX10_init 44 = .ok (.newarray .int, 2) := by decide +kernel
theorem dX10_init_46 : decode cX10_init 46 = .ok (.putfield 22, 3) := by decide +kernel
theorem dX10_init_49 : decode cX10_init 49 = .ok (.aload_n 0, 1) := by decide +kernel
theorem dX10_init_50 : decode cX10_init 50 = .ok (.sipush 401, 3) := by decide +kernel
theorem dX10_init_53 : decode cX10_init 53 = .ok (.newarray .int, 2) := by decide +kernel
theorem dX10_init_55 : decode cX10_init 55 = .ok (.putfield 25, 3) := by decide +kernel
theorem dX10_init_58 : decode cX10_init 58 = .ok (.aload_n 0, 1) := by decide +kernel
theorem dX10_init_59 : decode cX10_init 59 = .ok (.sipush 401, 3) := by decide +kernel
theorem dX10_init_62 : decode cX10_init 62 = .ok (.newarray .int, 2) := by decide +kernel
theorem dX10_init_64 : decode cX10_init 64 = .ok (.putfield 28, 3) := by decide +kernel
theorem dX10_init_67 : decode cX10_init 67 = .ok (.aload_n 0, 1) := by decide +kernel
theorem dX10_init_68 : decode cX10_init 68 = .ok (.sipush 401, 3) := by decide +kernel
theorem dX10_init_71 : decode cX10_init 71 = .ok (.newarray .int, 2) := by decide +kernel
theorem dX10_init_73 : decode cX10_init 73 = .ok (.putfield 31, 3) := by decide +kernel
theorem dX10_init_76 : decode cX10_init 76 = .ok (.aload_n 0, 1) := by decide +kernel
theorem dX10_init_77 : decode cX10_init 77 = .ok (.sipush 401, 3) := by decide +kernel
theorem dX10_init_80 : decode cX10_init 80 = .ok (.newarray .int, 2) := by decide +kernel
theorem dX10_init_82 : decode cX10_init 82 = .ok (.putfield 34, 3) := by decide +kernel
theorem dX10_init_85 : decode cX10_init 85 = .ok (.aload_n 0, 1) := by decide +kernel
theorem dX10_init_86 : decode cX10_init 86 = .ok (.sipush 401, 3) := by decide +kernel
theorem dX10_init_89 : decode cX10_init 89 = .ok (.newarray .int, 2) := by decide +kernel
theorem dX10_init_91 : decode cX10_init 91 = .ok (.putfield 37, 3) := by decide +kernel
theorem dX10_init_94 : decode cX10_init 94 = .ok (.aload_n 0, 1) := by decide +kernel
theorem dX10_init_95 : decode cX10_init 95 = .ok (.sipush 401, 3) := by decide +kernel
theorem dX10_init_98 : decode cX10_init 98 = .ok (.newarray .int, 2) := by decide +kernel
theorem dX10_init_100 : decode cX10_init 100 = .ok (.putfield 40, 3) := by decide +kernel
theorem dX10_init_103 : decode cX10_init 103 = .ok (.aload_n 0, 1) := by decide +kernel
theorem dX10_init_104 : decode cX10_init 104 = .ok (.sipush 401, 3) := by decide +kernel
theorem dX10_init_107 : decode cX10_init 107 = .ok (.newarray .int, 2) := by decide +kernel
theorem dX10_init_109 : decode cX10_init 109 = .ok (.putfield 43, 3) := by decide +kernel
theorem dX10_init_112 : decode cX10_init 112 = .ok (.aload_n 0, 1) := by decide +kernel
theorem dX10_init_113 : decode cX10_init 113 = .ok (.sipush 401, 3) := by decide +kernel
theorem dX10_init_116 : decode cX10_init 116 = .ok (.newarray .int, 2) := by decide +kernel
theorem dX10_init_118 : decode cX10_init 118 = .ok (.putfield 46, 3) := by decide +kernel
theorem dX10_init_121 : decode cX10_init 121 = .ok (.aload_n 0, 1) := by decide +kernel
theorem dX10_init_122 : decode cX10_init 122 = .ok (.sipush 401, 3) := by decide +kernel
theorem dX10_init_125 : decode cX10_init 125 = .ok (.newarray .int, 2) := by decide +kernel
theorem dX10_init_127 : decode cX10_init 127 = .ok (.putfield 49, 3) := by decide +kernel
theorem dX10_init_130 : decode cX10_init 130 = .ok (.aload_n 0, 1) := by decide +kernel
theorem dX10_init_131 : decode cX10_init 131 = .ok (.bipush 64, 2) := by decide +kernel
theorem dX10_init_133 : decode cX10_init 133 = .ok (.newarray .int, 2) := by decide +kernel
theorem dX10_init_135 : decode cX10_init 135 = .ok (.putfield 52, 3) := by decide +kernel
theorem dX10_init_138 : decode cX10_init 138 = .ok (.aload_n 0, 1) := by decide +kernel
theorem dX10_init_139 : decode cX10_init 139 = .ok (.bipush 64, 2) := by decide +kernel
theorem dX10_init_141 : decode cX10_init 141 = .ok (.newarray .int, 2) := by decide +kernel
theorem dX10_init_143 : decode cX10_init 143 = .ok (.putfield 55, 3) := by decide +kernel
theorem dX10_init_146 : decode cX10_init 146 = .ok (.aload_n 0, 1) := by decide +kernel
theorem dX10_init_147 : decode cX10_init 147 = .ok (.bipush 64, 2) := by decide +kernel
theorem dX10_init_149 : decode cX10_init 149 = .ok (.newarray .int, 2) := by decide +kernel
theorem dX10_init_151 : decode cX10_init 151 = .ok (.putfield 58, 3) := by decide +kernel
theorem dX10_init_154 : decode cX10_init 154 = .ok (.aload_n 0, 1) := by decide +kernel
theorem dX10_init_155 : decode cX10_init 155 = .ok (.bipush 64, 2) := by decide +kernel
theorem dX10_init_157 : decode cX10_init 157 = .ok (.newarray .int, 2) := by decide +kernel
theorem dX10_init_159 : decode cX10_init 159 = .ok (.putfield 61, 3) := by decide +kernel
theorem dX10_init_162 : decode cX10_init 162 = .ok (.aload_n 0, 1) := by decide +kernel
theorem dX10_init_163 : decode cX10_init 163 = .ok (.bipush 64, 2) := by decide +kernel
theorem dX10_init_165 : decode cX10_init 165 = .ok (.newarray .int, 2) := by decide +kernel
theorem dX10_init_167 : decode cX10_init 167 = .ok (.putfield 64, 3) := by decide +kernel
theorem dX10_init_170 : decode cX10_init 170 = .ok (.aload_n 0, 1) := by decide +kernel
theorem dX10_init_171 : decode cX10_init 171 = .ok (.bipush 12, 2) := by decide +kernel
theorem dX10_init_173 : decode cX10_init 173 = .ok (.newarray .int, 2) := by decide +kernel
theorem dX10_init_175 : decode cX10_init 175 = .ok (.putfield 67, 3) := by decide +kernel
theorem dX10_init_178 : decode cX10_init 178 = .ok (.aload_n 0, 1) := by decide +kernel
theorem dX10_init_179 : decode cX10_init 179 = .ok (.bipush 12, 2) := by decide +kernel
theorem dX10_init_181 : decode cX10_init 181 = .ok (.newarray .boolean, 2) := by decide +kernel
theorem dX10_init_183 : decode cX10_init 183 = .ok (.putfield 70, 3) := by decide +kernel
theorem dX10_init_186 : decode cX10_init 186 = .ok (.aload_n 0, 1) := by decide +kernel
theorem dX10_init_187 : decode cX10_init 187 = .ok (.bipush 12, 2) := by decide +kernel
theorem dX10_init_189 : decode cX10_init 189 = .ok (.newarray .int, 2) := by decide +kernel
theorem dX10_init_191 : decode cX10_init 191 = .ok (.putfield 74, 3) := by decide +kernel
theorem dX10_init_194 : decode cX10_init 194 = .ok (.aload_n 0, 1) := by decide +kernel
theorem dX10_init_195 : decode cX10_init 195 = .ok (.bipush 12, 2) := by decide +kernel
theorem dX10_init_197 : decode cX10_init 197 = .ok (.newarray .int, 2) := by decide +kernel
theorem dX10_init_199 : decode cX10_init 199 = .ok (.putfield 77, 3) := by decide +kernel
theorem dX10_init_202 : decode cX10_init 202 = .ok (.aload_n 0, 1) := by decide +kernel
theorem dX10_init_203 : decode cX10_init 203 = .ok (.bipush 16, 2) := by decide +kernel
theorem dX10_init_205 : decode cX10_init 205 = .ok (.newarray .int, 2) := by decide +kernel
theorem dX10_init_207 : decode cX10_init 207 = .ok (.putfield 80, 3) := by decide +kernel
theorem dX10_init_210 : decode cX10_init 210 = .ok (.aload_n 0, 1) := by decide +kernel
theorem dX10_init_211 : decode cX10_init 211 = .ok (.bipush 8, 2) := by decide +kernel
theorem dX10_init_213 : decode cX10_init 213 = .ok (.newarray .int, 2) := by decide +kernel
theorem dX10_init_215 : decode cX10_init 215 = .ok (.putfield 83, 3) := by decide +kernel
theorem dX10_init_218 : decode cX10_init 218 = .ok (.aload_n 0, 1) := by decide +kernel
theorem dX10_init_219 : decode cX10_init 219 = .ok (.bipush 31, 2) := by decide +kernel
theorem dX10_init_221 : decode cX10_init 221 = .ok (.newarray .int, 2) := by decide +kernel
theorem dX10_init_223 : decode cX10_init 223 = .ok (.putfield 86, 3) := by decide +kernel
theorem dX10_init_226 : decode cX10_init 226 = .ok (.aload_n 0, 1) := by decide +kernel
theorem dX10_init_227 : decode cX10_init 227 = .ok (.sipush 372, 3) := by decide +kernel
theorem dX10_init_230 : decode cX10_init 230 = .ok (.newarray .int, 2) := by decide +kernel
theorem dX10_init_232 : decode cX10_init 232 = .ok (.putfield 89, 3) := by decide +kernel
theorem dX10_init_235 : decode cX10_init 235 = .ok (.aload_n 0, 1) := by decide +kernel
theorem dX10_init_236 : decode cX10_init 236 = .ok (.bipush 31, 2) := by decide +kernel
theorem dX10_init_238 : decode cX10_init 238 = .ok (.newarray .int, 2) := by decide +kernel
theorem dX10_init_240 : decode cX10_init 240 = .ok (.putfield 92, 3) := by decide +kernel
theorem dX10_init_243 : decode cX10_init 243 = .ok (.aload_n 0, 1) := by decide +kernel
theorem dX10_init_244 : decode cX10_init 244 = .ok (.bipush 100, 2) := by decide +kernel
theorem dX10_init_246 : decode cX10_init 246 = .ok (.newarray .boolean, 2) := by decide +kernel
theorem dX10_init_248 : decode cX10_init 248 = .ok (.putfield 95, 3) := by decide +kernel
theorem dX10_init_251 : decode cX10_init 251 = .ok (.aload_n 0, 1) := by decide +kernel
theorem dX10_init_252 : decode cX10_init 252 = .ok (.bipush 12, 2) := by decide +kernel
theorem dX10_init_254 : decode cX10_init 254 = .ok (.newarray .boolean, 2) := by decide +kernel
theorem dX10_init_256 : decode cX10_init 256 = .ok (.putfield 98, 3) := by decide +kernel
theorem dX10_init_259 : decode cX10_init 259 = .ok (.aload_n 0, 1) := by decide +kernel
theorem dX10_init_260 : decode cX10_init 260 = .ok (.bipush 16, 2) := by decide +kernel
theorem dX10_init_262 : decode cX10_init 262 = .ok (.newarray .boolean, 2) := by decide +kernel
theorem dX10_init_264 : decode cX10_init 264 = .ok (.putfield 101, 3) := by decide +kernel
theorem dX10_init_267 : decode cX10_init 267 = .ok (.aload_n 0, 1) := by decide +kernel
theorem dX10_init_268 : decode cX10_init 268 = .ok (.sipush 3300, 3) := by decide +kernel
theorem dX10_init_271 : decode cX10_init 271 = .ok (.newarray .int, 2) := by decide +kernel
theorem dX10_init_273 : decode cX10_init 273 = .ok (.putfield 104, 3) := by decide +kernel
theorem dX10_init_276 : decode cX10_init 276 = .ok (.aload_n 0, 1) := by decide +kernel
theorem dX10_init_277 : decode cX10_init 277 = .ok (.bipush 12, 2) := by decide +kernel
theorem dX10_init_279 : decode cX10_init 279 = .ok (.newarray .int, 2) := by decide +kernel
theorem dX10_init_281 : decode cX10_init 281 = .ok (.putfield 107, 3) := by decide +kernel
theorem dX10_init_284 : decode cX10_init 284 = .ok (.aload_n 0, 1) := by decide +kernel
theorem dX10_init_285 : decode cX10_init 285 = .ok (.bipush 12, 2) := by decide +kernel
theorem dX10_init_287 : decode cX10_init 287 = .ok (.newarray .int, 2) := by decide +kernel
theorem dX10_init_289 : decode cX10_init 289 = .ok (.putfield 110, 3) := by decide +kernel
theorem dX10_init_292 : decode cX10_init 292 = .ok (.aload_n 0, 1) := by decide +kernel
theorem dX10_init_293 : decode cX10_init 293 = .ok (.bipush 12, 2) := by decide +kernel
theorem dX10_init_295 : decode cX10_init 295 = .ok (.newarray .int, 2) := by decide +kernel
theorem dX10_init_297 : decode cX10_init 297 = .ok (.putfield 113, 3) := by decide +kernel
theorem dX10_init_300 : decode cX10_init 300 = .ok (.aload_n 0, 1) := by decide +kernel
theorem dX10_init_301 : decode cX10_init 301 = .ok (.sipush 252, 3) := by decide +kernel
theorem dX10_init_304 : decode cX10_init 304 = .ok (.newarray .int, 2) := by decide +kernel
theorem dX10_init_306 : decode cX10_init 306 = .ok (.putfield 116, 3) := by decide +kernel
theorem dX10_init_309 : decode cX10_init 309 = .ok (.aload_n 0, 1) := by decide +kernel
theorem dX10_init_310 : decode cX10_init 310 = .ok (.sipush 150, 3) := by decide +kernel
theorem dX10_init_313 : decode cX10_init 313 = .ok (.newarray .int, 2) := by decide +kernel
theorem dX10_init_315 : decode cX10_init 315 = .ok (.putfield 119, 3) := by decide +kernel
theorem dX10_init_318 : decode cX10_init 318 = .ok (.aload_n 0, 1) := by decide +kernel
theorem dX10_init_319 : decode cX10_init 319 = .ok (.bipush 8, 2) := by decide +kernel
theorem dX10_init_321 : decode cX10_init 321 = .ok (.newarray .int, 2) := by decide +kernel
theorem dX10_init_323 : decode cX10_init 323 = .ok (.putfield 122, 3) := by decide +kernel
theorem dX10_init_326 : decode cX10_init 326 = .ok (.aload_n 0, 1) := by decide +kernel
theorem dX10_init_327 : decode cX10_init 327 = .ok (.bipush 8, 2) := by decide +kernel
theorem dX10_init_329 : decode cX10_init 329 = .ok (.newarray .int, 2) := by decide +kernel
theorem dX10_init_331 : decode cX10_init 331 = .ok (.putfield 125, 3) := by decide +kernel
theorem dX10_init_334 : decode cX10_init 334 = .ok (.aload_n 0, 1) := by decide +kernel
theorem dX10_init_335 : decode cX10_init 335 = .ok (.bipush 8, 2) := by decide +kernel
theorem dX10_init_337 : decode cX10_init 337 = .ok (.newarray .int, 2) := by decide +kernel
theorem dX10_init_339 : decode cX10_init 339 = .ok (.putfield 128, 3) := by decide +kernel
theorem dX10_init_342 : decode cX10_init 342 = .ok (.aload_n 0, 1) := by decide +kernel
theorem dX10_init_343 : decode cX10_init 343 = .ok (.bipush 8, 2) := by decide +kernel
theorem dX10_init_345 : decode cX10_init 345 = .ok (.newarray .int, 2) := by decide +kernel
theorem dX10_init_347 : decode cX10_init 347 = .ok (.putfield 131, 3) := by decide +kernel
theorem dX10_init_350 : decode cX10_init 350 = .ok (.aload_n 0, 1) := by decide +kernel
theorem dX10_init_351 : decode cX10_init 351 = .ok (.bipush 8, 2) := by decide +kernel
theorem dX10_init_353 : decode cX10_init 353 = .ok (.newarray .int, 2) := by decide +kernel
theorem dX10_init_355 : decode cX10_init 355 = .ok (.putfield 134, 3) := by decide +kernel
theorem dX10_init_358 : decode cX10_init 358 = .ok (.aload_n 0, 1) := by decide +kernel
theorem dX10_init_359 : decode cX10_init 359 = .ok (.bipush 8, 2) := by decide +kernel
theorem dX10_init_361 : decode cX10_init 361 = .ok (.newarray .boolean, 2) := by decide +kernel
theorem dX10_init_363 : decode cX10_init 363 = .ok (.putfield 137, 3) := by decide +kernel
theorem dX10_init_366 : decode cX10_init 366 = .ok (.aload_n 0, 1) := by decide +kernel
theorem dX10_init_367 : decode cX10_init 367 = .ok (.bipush 16, 2) := by decide +kernel
theorem dX10_init_369 : decode cX10_init 369 = .ok (.newarray .int, 2) := by decide +kernel
theorem dX10_init_371 : decode cX10_init 371 = .ok (.putfield 140, 3) := by decide +kernel
theorem dX10_init_374 : decode cX10_init 374 = .ok (.return_, 1) := by decide +kernel
theorem dX9_init_0 : decode cX9_init 0 = .ok (.aload_n 0, 1) := by decide +kernel
theorem dX9_init_1 : decode cX9_init 1 = .ok (.invokespecial 1, 3) := by decide +kernel
theorem dX9_init_4 : decode cX9_init 4 = .ok (.aload_n 0, 1) := by decide +kernel
theorem dX9_init_5 : decode cX9_init 5 = .ok (.sipush 400, 3) := by decide +kernel
theorem dX9_init_8 : decode cX9_init 8 = .ok (.newarray .int, 2) := by decide +kernel
theorem dX9_init_10 : decode cX9_init 10 = .ok (.putfield 9, 3) := by decide +kernel
theorem dX9_init_13 : decode cX9_init 13 = .ok (.aload_n 0, 1) := by decide +kernel
theorem dX9_init_14 : decode cX9_init 14 = .ok (.new 13, 3) := by decide +kernel
theorem dX9_init_17 : decode cX9_init 17 = .ok (.dup, 1) := by decide +kernel
theorem dX9_init_18 : decode cX9_init 18 = .ok (.invokespecial 15, 3) := by decide +kernel
theorem dX9_init_21 : decode cX9_init 21 = .ok (.putfield 16, 3) := by decide +kernel
theorem dX9_init_24 : decode cX9_init 24 = .ok (.aload_n 0, 1) := by decide +kernel
theorem dX9_init_25 : decode cX9_init 25 = .ok (.new 13, 3) := by decide +kernel
theorem dX9_init_28 : decode cX9_init 28 = .ok (.dup, 1) := by decide +kernel
theorem dX9_init_29 : decode cX9_init 29 = .ok (.invokespecial 15, 3) := by decide +kernel
theorem dX9_init_32 : decode cX9_init 32 = .ok (.putfield 20, 3) := by decide +kernel
theorem dX9_init_35 : decode cX9_init 35 = .ok (.aload_n 0, 1) := by decide +kernel
theorem dX9_init_36 : decode cX9_init 36 = .ok (.new 23, 3) := by decide +kernel
theorem dX9_init_39 : decode cX9_init 39 = .ok (.dup, 1) := by decide +kernel
theorem dX9_init_40 : decode cX9_init 40 = .ok (.aload_n 0, 1) := by decide +kernel
theorem dX9_init_41 : decode cX9_init 41 = .ok (.getfield 20, 3) := by decide +kernel
theorem dX9_init_44 : decode cX9_init 44 = .ok (.invokespecial 25, 3) := by decide +kernel
theorem dX9_init_47 : decode cX9_init 47 = .ok (.putfield 28, 3) := by decide +kernel
theorem dX9_init_50 : decode cX9_init 50 = .ok (.aload_n 0, 1) := by decide +kernel
theorem dX9_init_51 : decode cX9_init 51 = .ok (.new 32, 3) := by decide +kernel
theorem dX9_init_54 : decode cX9_init 54 = .ok (.dup, 1) := by decide +kernel
theorem dX9_init_55 : decode cX9_init 55 = .ok (.aload_n 0, 1) := by decide +kernel
theorem dX9_init_56 : decode cX9_init 56 = .ok (.getfield 16, 3) := by decide +kernel
theorem dX9_init_59 : decode cX9_init 59 = .ok (.invokespecial 34, 3) := by decide +kernel
theorem dX9_init_62 : decode cX9_init 62 = .ok (.putfield 35, 3) := by decide +kernel
theorem dX9_init_65 : decode cX9_init 65 = .ok (.aload_n 0, 1) := by decide +kernel
theorem dX9_init_66 : decode cX9_init 66 = .ok (.new 39, 3) := by decide +kernel
theorem dX9_init_69 : decode cX9_init 69 = .ok (.dup, 1) := by decide +kernel
theorem dX9_init_70 : decode cX9_init 70 = .ok (.invokespecial 41, 3) := by decide +kernel
theorem dX9_init_73 : decode cX9_init 73 = .ok (.putfield 42, 3) := by decide +kernel
theorem dX9_init_76 : decode cX9_init 76 = .ok (.aload_n 0, 1) := by decide +kernel
theorem dX9_init_77 : decode cX9_init 77 = .ok (.new 46, 3) := by decide +kernel
theorem dX9_init_80 : decode cX9_init 80 = .ok (.dup, 1) := by decide +kernel
theorem dX9_init_81 : decode cX9_init 81 = .ok (.aload_n 0, 1) := by decide +kernel
theorem dX9_init_82 : decode cX9_init 82 = .ok (.getfield 16, 3) := by decide +kernel
theorem dX9_init_85 : decode cX9_init 85 = .ok (.invokespecial 48, 3) := by decide +kernel
theorem dX9_init_88 : decode cX9_init 88 = .ok (.putfield 49, 3) := by decide +kernel
theorem dX9_init_91 : decode cX9_init 91 = .ok (.aload_n 0, 1) := by decide +kernel
theorem dX9_init_92 : decode cX9_init 92 = .ok (.new 53, 3) := by decide +kernel
theorem dX9_init_95 : decode cX9_init 95 = .ok (.dup, 1) := by decide +kernel
theorem dX9_init_96 : decode cX9_init 96 = .ok (.aload_n 0, 1) := by decide +kernel
theorem dX9_init_97 : decode cX9_init 97 = .ok (.getfield 16, 3) := by decide +kernel
theorem dX9_init_100 : decode cX9_init 100 = .ok (.invokespecial 55, 3) := by decide +kernel
theorem dX9_init_103 : decode cX9_init 103 = .ok (.putfield 56, 3) := by decide +kernel
theorem dX9_init_106 : decode cX9_init 106 = .ok (.return_, 1) := by decide +kernel
theorem wt_27 : (Jvm.Cond.methodLink "BranchingStory" (1 : Nat) ({ cls := "java/lang/Object", name := "<init>", desc := "()V" } : Jvm.MethodName)) ∈ lw_tbl := in_tb 27 (by decide +kernel)
theorem wt_28 : (Jvm.Cond.instanceMethod ({ cls := "java/lang/Object", name := "<init>", desc := "()V" } : Jvm.MethodName)) ∈ lw_tbl := in_tb 28 (by decide +kernel)
theorem wt_29 : (Jvm.Cond.code ({ cls := "java/lang/Object", name := "<init>", desc := "()V" } : Jvm.MethodName) object_method_1_code (1 : Nat) (Option.none : Option Jvm.ClassFile.FieldType)) ∈ lw_tbl := in_tb 29 (by decide +kernel)
theorem wt_30 : (Jvm.Cond.classLink "BranchingStory" (13 : Nat) "BranchingStory$Story") ∈ lw_tbl := in_tb 30 (by decide +kernel)
theorem wt_31 : (Jvm.Cond.instantiable "BranchingStory$Story" (19 : Nat)) ∈ lw_tbl := in_tb 31 (by decide +kernel)
theorem wt_32 : (Jvm.Cond.methodLinkNest "BranchingStory" (15 : Nat) ({ cls := "BranchingStory$Story", name := "<init>", desc := "()V" } : Jvm.MethodName) "BranchingStory") ∈ lw_tbl := in_tb 32 (by decide +kernel)
theorem wt_33 : (Jvm.Cond.instanceMethod ({ cls := "BranchingStory$Story", name := "<init>", desc := "()V" } : Jvm.MethodName)) ∈ lw_tbl := in_tb 33 (by decide +kernel)
theorem wt_34 : (Jvm.Cond.code ({ cls := "BranchingStory$Story", name := "<init>", desc := "()V" } : Jvm.MethodName) prog_9_method_1_code (1 : Nat) (Option.none : Option Jvm.ClassFile.FieldType)) ∈ lw_tbl := in_tb 34 (by decide +kernel)
theorem wt_35 : (Jvm.Cond.methodLink "BranchingStory$Story" (3 : Nat) ({ cls := "java/lang/Object", name := "<init>", desc := "()V" } : Jvm.MethodName)) ∈ lw_tbl := in_tb 35 (by decide +kernel)
theorem wt_36 : (Jvm.Cond.classLink "BranchingStory$Story" (36 : Nat) "BranchingStory$Terms") ∈ lw_tbl := in_tb 36 (by decide +kernel)
theorem wt_37 : (Jvm.Cond.instantiable "BranchingStory$Terms" (4 : Nat)) ∈ lw_tbl := in_tb 37 (by decide +kernel)
theorem wt_38 : (Jvm.Cond.methodLinkNest "BranchingStory$Story" (38 : Nat) ({ cls := "BranchingStory$Terms", name := "<init>", desc := "()V" } : Jvm.MethodName) "BranchingStory") ∈ lw_tbl := in_tb 38 (by decide +kernel)
theorem wt_39 : (Jvm.Cond.instanceMethod ({ cls := "BranchingStory$Terms", name := "<init>", desc := "()V" } : Jvm.MethodName)) ∈ lw_tbl := in_tb 39 (by decide +kernel)
theorem wt_40 : (Jvm.Cond.code ({ cls := "BranchingStory$Terms", name := "<init>", desc := "()V" } : Jvm.MethodName) prog_10_method_1_code (1 : Nat) (Option.none : Option Jvm.ClassFile.FieldType)) ∈ lw_tbl := in_tb 40 (by decide +kernel)
theorem wt_41 : (Jvm.Cond.methodLink "BranchingStory$Terms" (3 : Nat) ({ cls := "java/lang/Object", name := "<init>", desc := "()V" } : Jvm.MethodName)) ∈ lw_tbl := in_tb 41 (by decide +kernel)
theorem wt_99 : (Jvm.Cond.fieldLink "BranchingStory$Story" (43 : Nat) "BranchingStory$Story" "nodeName" "[I") ∈ lw_tbl := in_tb 99 (by decide +kernel)
theorem wt_102 : (Jvm.Cond.fieldLink "BranchingStory$Story" (46 : Nat) "BranchingStory$Story" "nodeFirst" "[I") ∈ lw_tbl := in_tb 102 (by decide +kernel)
theorem wt_112 : (Jvm.Cond.fieldLink "BranchingStory$Story" (49 : Nat) "BranchingStory$Story" "choiceLabel" "[I") ∈ lw_tbl := in_tb 112 (by decide +kernel)
theorem wt_119 : (Jvm.Cond.fieldLink "BranchingStory$Story" (55 : Nat) "BranchingStory$Story" "choiceFirst" "[I") ∈ lw_tbl := in_tb 119 (by decide +kernel)
theorem wt_165 : (Jvm.Cond.classLink "BranchingStory" (23 : Nat) "BranchingStory$Reader") ∈ lw_tbl := in_tb 165 (by decide +kernel)
theorem wt_166 : (Jvm.Cond.instantiable "BranchingStory$Reader" (14 : Nat)) ∈ lw_tbl := in_tb 166 (by decide +kernel)
theorem wt_167 : (Jvm.Cond.methodLinkNest "BranchingStory" (25 : Nat) ({ cls := "BranchingStory$Reader", name := "<init>", desc := "(LBranchingStory$Story;)V" } : Jvm.MethodName) "BranchingStory") ∈ lw_tbl := in_tb 167 (by decide +kernel)
theorem wt_168 : (Jvm.Cond.instanceMethod ({ cls := "BranchingStory$Reader", name := "<init>", desc := "(LBranchingStory$Story;)V" } : Jvm.MethodName)) ∈ lw_tbl := in_tb 168 (by decide +kernel)
theorem wt_169 : (Jvm.Cond.code ({ cls := "BranchingStory$Reader", name := "<init>", desc := "(LBranchingStory$Story;)V" } : Jvm.MethodName) prog_8_method_1_code (2 : Nat) (Option.none : Option Jvm.ClassFile.FieldType)) ∈ lw_tbl := in_tb 169 (by decide +kernel)
theorem wt_170 : (Jvm.Cond.methodLink "BranchingStory$Reader" (3 : Nat) ({ cls := "java/lang/Object", name := "<init>", desc := "()V" } : Jvm.MethodName)) ∈ lw_tbl := in_tb 170 (by decide +kernel)
theorem wt_215 : (Jvm.Cond.classLink "BranchingStory" (32 : Nat) "BranchingStory$Play") ∈ lw_tbl := in_tb 215 (by decide +kernel)
theorem wt_216 : (Jvm.Cond.instantiable "BranchingStory$Play" (11 : Nat)) ∈ lw_tbl := in_tb 216 (by decide +kernel)
theorem wt_217 : (Jvm.Cond.methodLinkNest "BranchingStory" (34 : Nat) ({ cls := "BranchingStory$Play", name := "<init>", desc := "(LBranchingStory$Story;)V" } : Jvm.MethodName) "BranchingStory") ∈ lw_tbl := in_tb 217 (by decide +kernel)
theorem wt_218 : (Jvm.Cond.instanceMethod ({ cls := "BranchingStory$Play", name := "<init>", desc := "(LBranchingStory$Story;)V" } : Jvm.MethodName)) ∈ lw_tbl := in_tb 218 (by decide +kernel)
theorem wt_219 : (Jvm.Cond.code ({ cls := "BranchingStory$Play", name := "<init>", desc := "(LBranchingStory$Story;)V" } : Jvm.MethodName) prog_7_method_1_code (2 : Nat) (Option.none : Option Jvm.ClassFile.FieldType)) ∈ lw_tbl := in_tb 219 (by decide +kernel)
theorem wt_220 : (Jvm.Cond.methodLink "BranchingStory$Play" (3 : Nat) ({ cls := "java/lang/Object", name := "<init>", desc := "()V" } : Jvm.MethodName)) ∈ lw_tbl := in_tb 220 (by decide +kernel)
theorem wt_221 : (Jvm.Cond.classLink "BranchingStory$Play" (9 : Nat) "BranchingStory$Lines") ∈ lw_tbl := in_tb 221 (by decide +kernel)
theorem wt_222 : (Jvm.Cond.instantiable "BranchingStory$Lines" (3 : Nat)) ∈ lw_tbl := in_tb 222 (by decide +kernel)
theorem wt_223 : (Jvm.Cond.methodLinkNest "BranchingStory$Play" (11 : Nat) ({ cls := "BranchingStory$Lines", name := "<init>", desc := "()V" } : Jvm.MethodName) "BranchingStory") ∈ lw_tbl := in_tb 223 (by decide +kernel)
theorem wt_224 : (Jvm.Cond.instanceMethod ({ cls := "BranchingStory$Lines", name := "<init>", desc := "()V" } : Jvm.MethodName)) ∈ lw_tbl := in_tb 224 (by decide +kernel)
theorem wt_225 : (Jvm.Cond.code ({ cls := "BranchingStory$Lines", name := "<init>", desc := "()V" } : Jvm.MethodName) prog_6_method_1_code (1 : Nat) (Option.none : Option Jvm.ClassFile.FieldType)) ∈ lw_tbl := in_tb 225 (by decide +kernel)
theorem wt_226 : (Jvm.Cond.methodLink "BranchingStory$Lines" (3 : Nat) ({ cls := "java/lang/Object", name := "<init>", desc := "()V" } : Jvm.MethodName)) ∈ lw_tbl := in_tb 226 (by decide +kernel)
theorem wt_288 : (Jvm.Cond.classLink "BranchingStory" (39 : Nat) "BranchingStory$History") ∈ lw_tbl := in_tb 288 (by decide +kernel)
theorem wt_289 : (Jvm.Cond.instantiable "BranchingStory$History" (5 : Nat)) ∈ lw_tbl := in_tb 289 (by decide +kernel)
theorem wt_290 : (Jvm.Cond.methodLinkNest "BranchingStory" (41 : Nat) ({ cls := "BranchingStory$History", name := "<init>", desc := "()V" } : Jvm.MethodName) "BranchingStory") ∈ lw_tbl := in_tb 290 (by decide +kernel)
theorem wt_291 : (Jvm.Cond.instanceMethod ({ cls := "BranchingStory$History", name := "<init>", desc := "()V" } : Jvm.MethodName)) ∈ lw_tbl := in_tb 291 (by decide +kernel)
theorem wt_292 : (Jvm.Cond.code ({ cls := "BranchingStory$History", name := "<init>", desc := "()V" } : Jvm.MethodName) prog_4_method_1_code (1 : Nat) (Option.none : Option Jvm.ClassFile.FieldType)) ∈ lw_tbl := in_tb 292 (by decide +kernel)
theorem wt_293 : (Jvm.Cond.methodLink "BranchingStory$History" (3 : Nat) ({ cls := "java/lang/Object", name := "<init>", desc := "()V" } : Jvm.MethodName)) ∈ lw_tbl := in_tb 293 (by decide +kernel)
theorem wt_312 : (Jvm.Cond.classLink "BranchingStory" (46 : Nat) "BranchingStory$Explorer") ∈ lw_tbl := in_tb 312 (by decide +kernel)
theorem wt_313 : (Jvm.Cond.instantiable "BranchingStory$Explorer" (14 : Nat)) ∈ lw_tbl := in_tb 313 (by decide +kernel)
theorem wt_314 : (Jvm.Cond.methodLinkNest "BranchingStory" (48 : Nat) ({ cls := "BranchingStory$Explorer", name := "<init>", desc := "(LBranchingStory$Story;)V" } : Jvm.MethodName) "BranchingStory") ∈ lw_tbl := in_tb 314 (by decide +kernel)
theorem wt_315 : (Jvm.Cond.instanceMethod ({ cls := "BranchingStory$Explorer", name := "<init>", desc := "(LBranchingStory$Story;)V" } : Jvm.MethodName)) ∈ lw_tbl := in_tb 315 (by decide +kernel)
theorem wt_316 : (Jvm.Cond.code ({ cls := "BranchingStory$Explorer", name := "<init>", desc := "(LBranchingStory$Story;)V" } : Jvm.MethodName) prog_3_method_1_code (2 : Nat) (Option.none : Option Jvm.ClassFile.FieldType)) ∈ lw_tbl := in_tb 316 (by decide +kernel)
theorem wt_317 : (Jvm.Cond.methodLink "BranchingStory$Explorer" (3 : Nat) ({ cls := "java/lang/Object", name := "<init>", desc := "()V" } : Jvm.MethodName)) ∈ lw_tbl := in_tb 317 (by decide +kernel)
theorem wt_318 : (Jvm.Cond.classLink "BranchingStory$Explorer" (37 : Nat) "BranchingStory$Play") ∈ lw_tbl := in_tb 318 (by decide +kernel)
theorem wt_319 : (Jvm.Cond.methodLinkNest "BranchingStory$Explorer" (39 : Nat) ({ cls := "BranchingStory$Play", name := "<init>", desc := "(LBranchingStory$Story;)V" } : Jvm.MethodName) "BranchingStory") ∈ lw_tbl := in_tb 319 (by decide +kernel)
theorem wt_370 : (Jvm.Cond.classLink "BranchingStory" (53 : Nat) "BranchingStory$Analyzer") ∈ lw_tbl := in_tb 370 (by decide +kernel)
theorem wt_371 : (Jvm.Cond.instantiable "BranchingStory$Analyzer" (11 : Nat)) ∈ lw_tbl := in_tb 371 (by decide +kernel)
theorem wt_372 : (Jvm.Cond.methodLinkNest "BranchingStory" (55 : Nat) ({ cls := "BranchingStory$Analyzer", name := "<init>", desc := "(LBranchingStory$Story;)V" } : Jvm.MethodName) "BranchingStory") ∈ lw_tbl := in_tb 372 (by decide +kernel)
theorem wt_373 : (Jvm.Cond.instanceMethod ({ cls := "BranchingStory$Analyzer", name := "<init>", desc := "(LBranchingStory$Story;)V" } : Jvm.MethodName)) ∈ lw_tbl := in_tb 373 (by decide +kernel)
theorem wt_374 : (Jvm.Cond.code ({ cls := "BranchingStory$Analyzer", name := "<init>", desc := "(LBranchingStory$Story;)V" } : Jvm.MethodName) prog_2_method_1_code (2 : Nat) (Option.none : Option Jvm.ClassFile.FieldType)) ∈ lw_tbl := in_tb 374 (by decide +kernel)
theorem wt_375 : (Jvm.Cond.methodLink "BranchingStory$Analyzer" (3 : Nat) ({ cls := "java/lang/Object", name := "<init>", desc := "()V" } : Jvm.MethodName)) ∈ lw_tbl := in_tb 375 (by decide +kernel)
theorem wt_1305 : (Jvm.Cond.methodLink "BranchingStoryModel" (1 : Nat) ({ cls := "java/lang/Object", name := "<init>", desc := "()V" } : Jvm.MethodName)) ∈ lw_tbl := in_tb 1305 (by decide +kernel)
theorem bi_X7_38 : BIw RX7 38 yX8_init cX8_init 1 0 := ⟨Or.inr ⟨_, wt_38⟩, wt_39, wt_3, wt_40, rfl, by decide, by decide, by decide +kernel⟩
theorem bi_X5_11 : BIw RX5 11 yX4_init cX4_init 1 0 := ⟨Or.inr ⟨_, wt_223⟩, wt_224, wt_6, wt_225, rfl, by decide, by decide, by decide +kernel⟩
theorem bi_X1_39 : BIw RX1 39 yX5_init cX5_init 2 1 := ⟨Or.inr ⟨_, wt_319⟩, wt_218, wt_5, wt_219, rfl, by decide, by decide, by decide +kernel⟩
theorem bi_X9_15 : BIw RX9 15 yX7_init cX7_init 1 0 := ⟨Or.inr ⟨_, wt_32⟩, wt_33, wt_2, wt_34, rfl, by decide, by decide, by decide +kernel⟩
theorem bi_X9_25 : BIw RX9 25 yX6_init cX6_init 2 1 := ⟨Or.inr ⟨_, wt_167⟩, wt_168, wt_4, wt_169, rfl, by decide, by decide, by decide +kernel⟩
theorem bi_X9_34 : BIw RX9 34 yX5_init cX5_init 2 1 := ⟨Or.inr ⟨_, wt_217⟩, wt_218, wt_5, wt_219, rfl, by decide, by decide, by decide +kernel⟩
theorem bi_X9_41 : BIw RX9 41 yX2_init cX2_init 1 0 := ⟨Or.inr ⟨_, wt_290⟩, wt_291, wt_7, wt_292, rfl, by decide, by decide, by decide +kernel⟩
theorem bi_X9_48 : BIw RX9 48 yX1_init cX1_init 2 1 := ⟨Or.inr ⟨_, wt_314⟩, wt_315, wt_8, wt_316, rfl, by decide, by decide, by decide +kernel⟩
theorem bi_X9_55 : BIw RX9 55 yX0_init cX0_init 2 1 := ⟨Or.inr ⟨_, wt_372⟩, wt_373, wt_9, wt_374, rfl, by decide, by decide, by decide +kernel⟩
def P_X4 (ac : Nat → ClassId) (h0 : Nat) (w : va_W) : Prop := ∃ q1 q2 : Nat, w = [(h0, .inr (3, [.int 0, .ref q1, .ref q2])), (q1, .inl (ac 0, 20, .inl (fun _ => 0))), (q2, .inl (ac 1, 100, .inl (fun _ => 0)))]
set_option maxRecDepth 100000 in
set_option maxHeartbeats 4000000 in
theorem b_X4 (l : Launch) (D : va_G) (ac : Nat → ClassId) (h0 : Nat) : BCon l yX4_init cX4_init 1 { frames := 1, cells := 2, slots := 120, locals := 13 } D ac h0 (.inr (3, [.int 0, .null, .null])) [] (P_X4 ac h0) 2 120 := by
  intro sz
  unfold QcB
  refine Met.ofW (cc := cX4_init) (maxL := 1) (ret := none) (by decide) rfl ?_
  intro p e s m args below meth c s₁ B hml hv
  obtain ⟨rfl, hsz, hP, hD0, hK⟩ := hv
  have hx := B.exec
  have hb := B.bytes
  have hr := B.returns
  have hown : s.vm.findClass RX4 = some m.cls := findClass_of_methodNamed B.named
  have hlocks := B.notSynchronized
  have hin : meth.name = "<init>" := (name_of_methodNamed B.named B.method).1
  subst hsz
  have hD := hD0.self (sz := s.heap.size)
  generalize hAe : va_A [(h0, .inr (3, [.int 0, .null, .null]))] s.heap.size = A at hD ⊢
  have hA : ∀ q : Nat, s.heap.size ≤ q → A q := fun q h => by rw [← hAe]; exact Or.inr h
  have hS : va_S A s.heap s.heap [] := va_S.rf
  have hl := lv_entry ([.ref h0]) (n := 1) (Nat.le_of_ble_eq_true rfl)
  rw [lg_entry_eq]
  generalize (lg_sl ([.ref h0]) ++ List.replicate (1 - (lg_sl ([.ref h0])).length) Slot.unset).toArray = ls at hl ⊢
  have hl : lv_has ls 1 [(0, .ref h0)] := hl
  refine lv_aload_n hx hb dX4_init_0 rfl (lv_at hl 0 rfl) ?_
  refine W.objInit hx hb hown (hK.1.word wt_226 rfl _) (hK.1.word wt_28 rfl _) (hK.1.word wt_29 rfl _) rfl (by rw [hml]; exact hl.1) rfl dX4_init_1 (Nat.le_of_ble_eq_true rfl) (Nat.le_of_ble_eq_true rfl) ?_
  refine W.eq (g2 := F0 m 4 ls []) rfl ?_
  refine lv_aload_n hx hb dX4_init_4 rfl (lv_at hl 0 rfl) ?_
  refine lv_bipush (v := 20) hx hb dX4_init_5 (by decide) ?_
  refine b_newaI hx hb hK hP hD hS hA 20 (by decide) (by decide) (Nat.le_of_ble_eq_true rfl) (Nat.le_of_ble_eq_true rfl) (Nat.le_of_ble_eq_true rfl) dX4_init_7 (fun q1 H hP hD hS => ?_)
  have hP : va_P D vwCl [(h0, .inr (3, [.int 0, .null, .null])), (q1, .inl (ac 0, 20, .inl (fun _ => 0)))] H := hP
  have hD : va_D A [(h0, .inr (3, [.int 0, .null, .null])), (q1, .inl (ac 0, 20, .inl (fun _ => 0)))] := hD
  refine va_putF (D := D) (ci := 3) (v := .ref q1) (ty := (.array .int)) (C := RX4) (T := TX4) (N := 3) hx hb (Ts := u_ws RX4 TX4 3) (fun w hw => hK.1.word (inX4 w hw).1 (inX4 w hw).2 _) (fun _ h => h) tyX4 tyX4_ok nmX4 hown hK.1.1 hP hD hS 0 rfl rfl 1 (by decide) (hK.1.word wt_230 rfl _) (fun _ h9 => h9) rfl hin rfl (by decide +kernel) rfl rfl (Nat.le_of_ble_eq_true rfl) dX4_init_9 (fun H locs hP hD hS => ?_)
  have hP : va_P D vwCl [(h0, .inr (3, [.int 0, .ref q1, .null])), (q1, .inl (ac 0, 20, .inl (fun _ => 0)))] H := hP
  have hD : va_D A [(h0, .inr (3, [.int 0, .ref q1, .null])), (q1, .inl (ac 0, 20, .inl (fun _ => 0)))] := hD
  refine lv_aload_n hx hb dX4_init_12 rfl (lv_at hl 0 rfl) ?_
  refine lv_bipush (v := 100) hx hb dX4_init_13 (by decide) ?_
  refine b_newaZ hx hb hK hP hD hS hA 100 (by decide) (by decide) (Nat.le_of_ble_eq_true rfl) (Nat.le_of_ble_eq_true rfl) (Nat.le_of_ble_eq_true rfl) dX4_init_15 (fun q2 H hP hD hS => ?_)
  have hP : va_P D vwCl [(h0, .inr (3, [.int 0, .ref q1, .null])), (q1, .inl (ac 0, 20, .inl (fun _ => 0))), (q2, .inl (ac 1, 100, .inl (fun _ => 0)))] H := hP
  have hD : va_D A [(h0, .inr (3, [.int 0, .ref q1, .null])), (q1, .inl (ac 0, 20, .inl (fun _ => 0))), (q2, .inl (ac 1, 100, .inl (fun _ => 0)))] := hD
  refine va_putF (D := D) (ci := 3) (v := .ref q2) (ty := (.array .boolean)) (C := RX4) (T := TX4) (N := 3) hx hb (Ts := u_ws RX4 TX4 3) (fun w hw => hK.1.word (inX4 w hw).1 (inX4 w hw).2 _) (fun _ h => h) tyX4 tyX4_ok nmX4 hown hK.1.1 hP hD hS 0 rfl rfl 2 (by decide) (hK.1.word wt_232 rfl _) (fun _ h9 => h9) rfl hin rfl (by decide +kernel) rfl rfl (Nat.le_of_ble_eq_true rfl) dX4_init_17 (fun H locs hP hD hS => ?_)
  have hP : va_P D vwCl [(h0, .inr (3, [.int 0, .ref q1, .ref q2])), (q1, .inl (ac 0, 20, .inl (fun _ => 0))), (q2, .inl (ac 1, 100, .inl (fun _ => 0)))] H := hP
  have hD : va_D A [(h0, .inr (3, [.int 0, .ref q1, .ref q2])), (q1, .inl (ac 0, 20, .inl (fun _ => 0))), (q2, .inl (ac 1, 100, .inl (fun _ => 0)))] := hD
  refine W.widen (k := 2) (n := 120) (Nat.le_of_ble_eq_true rfl) (Nat.le_of_ble_eq_true rfl) ?_
  exact W.vret hx hb hr (fun t ht hW => ⟨⟨_, rfl, ⟨q1, q2, rfl⟩, by rw [ht]; exact hP, hD⟩, hS.F ht⟩) hS.2.2 dX4_init_20
def P_X8 (ac : Nat → ClassId) (h0 : Nat) (w : va_W) : Prop := ∃ q1 q2 q3 : Nat, w = [(h0, .inr (7, [.int 0, .ref q1, .ref q2, .ref q3])), (q1, .inl (ac 0, 200, .inl (fun _ => 0))), (q2, .inl (ac 0, 200, .inl (fun _ => 0))), (q3, .inl (ac 0, 200, .inl (fun _ => 0)))]
set_option maxRecDepth 100000 in
set_option maxHeartbeats 4000000 in
theorem b_X8 (l : Launch) (D : va_G) (ac : Nat → ClassId) (h0 : Nat) : BCon l yX8_init cX8_init 1 { frames := 1, cells := 3, slots := 600, locals := 13 } D ac h0 (.inr (7, [.int 0, .null, .null, .null])) [] (P_X8 ac h0) 3 600 := by
  intro sz
  unfold QcB
  refine Met.ofW (cc := cX8_init) (maxL := 1) (ret := none) (by decide) rfl ?_
  intro p e s m args below meth c s₁ B hml hv
  obtain ⟨rfl, hsz, hP, hD0, hK⟩ := hv
  have hx := B.exec
  have hb := B.bytes
  have hr := B.returns
  have hown : s.vm.findClass RX8 = some m.cls := findClass_of_methodNamed B.named
  have hlocks := B.notSynchronized
  have hin : meth.name = "<init>" := (name_of_methodNamed B.named B.method).1
  subst hsz
  have hD := hD0.self (sz := s.heap.size)
  generalize hAe : va_A [(h0, .inr (7, [.int 0, .null, .null, .null]))] s.heap.size = A at hD ⊢
  have hA : ∀ q : Nat, s.heap.size ≤ q → A q := fun q h => by rw [← hAe]; exact Or.inr h
  have hS : va_S A s.heap s.heap [] := va_S.rf
  have hl := lv_entry ([.ref h0]) (n := 1) (Nat.le_of_ble_eq_true rfl)
  rw [lg_entry_eq]
  generalize (lg_sl ([.ref h0]) ++ List.replicate (1 - (lg_sl ([.ref h0])).length) Slot.unset).toArray = ls at hl ⊢
  have hl : lv_has ls 1 [(0, .ref h0)] := hl
  refine lv_aload_n hx hb dX8_init_0 rfl (lv_at hl 0 rfl) ?_
  refine W.objInit hx hb hown (hK.1.word wt_41 rfl _) (hK.1.word wt_28 rfl _) (hK.1.word wt_29 rfl _) rfl (by rw [hml]; exact hl.1) rfl dX8_init_1 (Nat.le_of_ble_eq_true rfl) (Nat.le_of_ble_eq_true rfl) ?_
  refine W.eq (g2 := F0 m 4 ls []) rfl ?_
  refine lv_aload_n hx hb dX8_init_4 rfl (lv_at hl 0 rfl) ?_
  refine lv_sipush (v := 200) hx hb dX8_init_5 (by decide) ?_
  refine b_newaI hx hb hK hP hD hS hA 200 (by decide) (by decide) (Nat.le_of_ble_eq_true rfl) (Nat.le_of_ble_eq_true rfl) (Nat.le_of_ble_eq_true rfl) dX8_init_8 (fun q1 H hP hD hS => ?_)
  have hP : va_P D vwCl [(h0, .inr (7, [.int 0, .null, .null, .null])), (q1, .inl (ac 0, 200, .inl (fun _ => 0)))] H := hP
  have hD : va_D A [(h0, .inr (7, [.int 0, .null, .null, .null])), (q1, .inl (ac 0, 200, .inl (fun _ => 0)))] := hD
  refine va_putF (D := D) (ci := 7) (v := .ref q1) (ty := (.array .int)) (C := RX8) (T := TX8) (N := 4) hx hb (Ts := u_ws RX8 TX8 4) (fun w hw => hK.1.word (inX8 w hw).1 (inX8 w hw).2 _) (fun _ h => h) tyX8 tyX8_ok nmX8 hown hK.1.1 hP hD hS 0 rfl rfl 1 (by decide) (hK.1.word wt_45 rfl _) (fun _ h9 => h9) rfl hin rfl (by decide +kernel) rfl rfl (Nat.le_of_ble_eq_true rfl) dX8_init_10 (fun H locs hP hD hS => ?_)
  have hP : va_P D vwCl [(h0, .inr (7, [.int 0, .ref q1, .null, .null])), (q1, .inl (ac 0, 200, .inl (fun _ => 0)))] H := hP
  have hD : va_D A [(h0, .inr (7, [.int 0, .ref q1, .null, .null])), (q1, .inl (ac 0, 200, .inl (fun _ => 0)))] := hD
  refine lv_aload_n hx hb dX8_init_13 rfl (lv_at hl 0 rfl) ?_
  refine lv_sipush (v := 200) hx hb dX8_init_14 (by decide) ?_
  refine b_newaI hx hb hK hP hD hS hA 200 (by decide) (by decide) (Nat.le_of_ble_eq_true rfl) (Nat.le_of_ble_eq_true rfl) (Nat.le_of_ble_eq_true rfl) dX8_init_17 (fun q2 H hP hD hS => ?_)
  have hP : va_P D vwCl [(h0, .inr (7, [.int 0, .ref q1, .null, .null])), (q1, .inl (ac 0, 200, .inl (fun _ => 0))), (q2, .inl (ac 0, 200, .inl (fun _ => 0)))] H := hP
  have hD : va_D A [(h0, .inr (7, [.int 0, .ref q1, .null, .null])), (q1, .inl (ac 0, 200, .inl (fun _ => 0))), (q2, .inl (ac 0, 200, .inl (fun _ => 0)))] := hD
  refine va_putF (D := D) (ci := 7) (v := .ref q2) (ty := (.array .int)) (C := RX8) (T := TX8) (N := 4) hx hb (Ts := u_ws RX8 TX8 4) (fun w hw => hK.1.word (inX8 w hw).1 (inX8 w hw).2 _) (fun _ h => h) tyX8 tyX8_ok nmX8 hown hK.1.1 hP hD hS 0 rfl rfl 2 (by decide) (hK.1.word wt_46 rfl _) (fun _ h9 => h9) rfl hin rfl (by decide +kernel) rfl rfl (Nat.le_of_ble_eq_true rfl) dX8_init_19 (fun H locs hP hD hS => ?_)
  have hP : va_P D vwCl [(h0, .inr (7, [.int 0, .ref q1, .ref q2, .null])), (q1, .inl (ac 0, 200, .inl (fun _ => 0))), (q2, .inl (ac 0, 200, .inl (fun _ => 0)))] H := hP
  have hD : va_D A [(h0, .inr (7, [.int 0, .ref q1, .ref q2, .null])), (q1, .inl (ac 0, 200, .inl (fun _ => 0))), (q2, .inl (ac 0, 200, .inl (fun _ => 0)))] := hD
  refine lv_aload_n hx hb dX8_init_22 rfl (lv_at hl 0 rfl) ?_
  refine lv_sipush (v := 200) hx hb dX8_init_23 (by decide) ?_
  refine b_newaI hx hb hK hP hD hS hA 200 (by decide) (by decide) (Nat.le_of_ble_eq_true rfl) (Nat.le_of_ble_eq_true rfl) (Nat.le_of_ble_eq_true rfl) dX8_init_26 (fun q3 H hP hD hS => ?_)
  have hP : va_P D vwCl [(h0, .inr (7, [.int 0, .ref q1, .ref q2, .null])), (q1, .inl (ac 0, 200, .inl (fun _ => 0))), (q2, .inl (ac 0, 200, .inl (fun _ => 0))), (q3, .inl (ac 0, 200, .inl (fun _ => 0)))] H := hP
  have hD : va_D A [(h0, .inr (7, [.int 0, .ref q1, .ref q2, .null])), (q1, .inl (ac 0, 200, .inl (fun _ => 0))), (q2, .inl (ac 0, 200, .inl (fun _ => 0))), (q3, .inl (ac 0, 200, .inl (fun _ => 0)))] := hD
  refine va_putF (D := D) (ci := 7) (v := .ref q3) (ty := (.array .int)) (C := RX8) (T := TX8) (N := 4) hx hb (Ts := u_ws RX8 TX8 4) (fun w hw => hK.1.word (inX8 w hw).1 (inX8 w hw).2 _) (fun _ h => h) tyX8 tyX8_ok nmX8 hown hK.1.1 hP hD hS 0 rfl rfl 3 (by decide) (hK.1.word wt_47 rfl _) (fun _ h9 => h9) rfl hin rfl (by decide +kernel) rfl rfl (Nat.le_of_ble_eq_true rfl) dX8_init_28 (fun H locs hP hD hS => ?_)
  have hP : va_P D vwCl [(h0, .inr (7, [.int 0, .ref q1, .ref q2, .ref q3])), (q1, .inl (ac 0, 200, .inl (fun _ => 0))), (q2, .inl (ac 0, 200, .inl (fun _ => 0))), (q3, .inl (ac 0, 200, .inl (fun _ => 0)))] H := hP
  have hD : va_D A [(h0, .inr (7, [.int 0, .ref q1, .ref q2, .ref q3])), (q1, .inl (ac 0, 200, .inl (fun _ => 0))), (q2, .inl (ac 0, 200, .inl (fun _ => 0))), (q3, .inl (ac 0, 200, .inl (fun _ => 0)))] := hD
  refine W.widen (k := 3) (n := 600) (Nat.le_of_ble_eq_true rfl) (Nat.le_of_ble_eq_true rfl) ?_
  exact W.vret hx hb hr (fun t ht hW => ⟨⟨_, rfl, ⟨q1, q2, q3, rfl⟩, by rw [ht]; exact hP, hD⟩, hS.F ht⟩) hS.2.2 dX8_init_31
def P_X7 (ac : Nat → ClassId) (h0 : Nat) (w : va_W) : Prop := ∃ q1 q2 q3 q4 q5 q6 q7 q8 q9 q10 q11 q12 q13 q14 q15 q16 q17 : Nat, w = [(h0, .inr (6, [.int 0, .ref q1, .ref q2, .ref q3, .ref q4, .ref q5, .ref q6, .ref q7, .ref q8, .ref q9, .int 0, .ref q13, .ref q14, .int 0, .int 0, .ref q15, .ref q16, .ref q17, .int 0])), (q1, .inl (ac 0, 400, .inl (fun _ => 0))), (q2, .inl (ac 0, 400, .inl (fun _ => 0))), (q3, .inl (ac 0, 400, .inl (fun _ => 0))), (q4, .inl (ac 0, 400, .inl (fun _ => 0))), (q5, .inl (ac 0, 400, .inl (fun _ => 0))), (q6, .inl (ac 0, 400, .inl (fun _ => 0))), (q7, .inl (ac 0, 400, .inl (fun _ => 0))), (q8, .inl (ac 0, 400, .inl (fun _ => 0))), (q9, .inr (7, [.int 0, .ref q10, .ref q11, .ref q12])), (q10, .inl (ac 0, 200, .inl (fun _ => 0))), (q11, .inl (ac 0, 200, .inl (fun _ => 0))), (q12, .inl (ac 0, 200, .inl (fun _ => 0))), (q13, .inl (ac 0, 12, .inl (fun _ => 0))), (q14, .inl (ac 0, 12, .inl (fun _ => 0))), (q15, .inl (ac 0, 16, .inl (fun _ => 0))), (q16, .inl (ac 0, 16, .inl (fun _ => 0))), (q17, .inl (ac 0, 16, .inl (fun _ => 0)))]
set_option maxRecDepth 100000 in
set_option maxHeartbeats 4000000 in
theorem b_X7 (l : Launch) (D : va_G) (ac : Nat → ClassId) (h0 : Nat) : BCon l yX7_init cX7_init 1 { frames := 2, cells := 17, slots := 3876, locals := 33 } D ac h0 (.inr (6, [.int 0, .null, .null, .null, .null, .null, .null, .null, .null, .null, .int 0, .null, .null, .int 0, .int 0, .null, .null, .null, .int 0])) [] (P_X7 ac h0) 17 3876 := by
  intro sz
  unfold QcB
  refine Met.ofW (cc := cX7_init) (maxL := 1) (ret := none) (by decide) rfl ?_
  intro p e s m args below meth c s₁ B hml hv
  obtain ⟨rfl, hsz, hP, hD0, hK⟩ := hv
  have hx := B.exec
  have hb := B.bytes
  have hr := B.returns
  have hown : s.vm.findClass RX7 = some m.cls := findClass_of_methodNamed B.named
  have hlocks := B.notSynchronized
  have hin : meth.name = "<init>" := (name_of_methodNamed B.named B.method).1
  subst hsz
  have hD := hD0.self (sz := s.heap.size)
  generalize hAe : va_A [(h0, .inr (6, [.int 0, .null, .null, .null, .null, .null, .null, .null, .null, .null, .int 0, .null, .null, .int 0, .int 0, .null, .null, .null, .int 0]))] s.heap.size = A at hD ⊢
  have hA : ∀ q : Nat, s.heap.size ≤ q → A q := fun q h => by rw [← hAe]; exact Or.inr h
  have hS : va_S A s.heap s.heap [] := va_S.rf
  have hl := lv_entry ([.ref h0]) (n := 1) (Nat.le_of_ble_eq_true rfl)
  rw [lg_entry_eq]
  generalize (lg_sl ([.ref h0]) ++ List.replicate (1 - (lg_sl ([.ref h0])).length) Slot.unset).toArray = ls at hl ⊢
  have hl : lv_has ls 1 [(0, .ref h0)] := hl
  refine lv_aload_n hx hb dX7_init_0 rfl (lv_at hl 0 rfl) ?_
  refine W.objInit hx hb hown (hK.1.word wt_35 rfl _) (hK.1.word wt_28 rfl _) (hK.1.word wt_29 rfl _) rfl (by rw [hml]; exact hl.1) rfl dX7_init_1 (Nat.le_of_ble_eq_true rfl) (Nat.le_of_ble_eq_true rfl) ?_
  refine W.eq (g2 := F0 m 4 ls []) rfl ?_
  refine lv_aload_n hx hb dX7_init_4 rfl (lv_at hl 0 rfl) ?_
  refine lv_sipush (v := 400) hx hb dX7_init_5 (by decide) ?_
  refine b_newaI hx hb hK hP hD hS hA 400 (by decide) (by decide) (Nat.le_of_ble_eq_true rfl) (Nat.le_of_ble_eq_true rfl) (Nat.le_of_ble_eq_true rfl) dX7_init_8 (fun q1 H hP hD hS => ?_)
  have hP : va_P D vwCl [(h0, .inr (6, [.int 0, .null, .null, .null, .null, .null, .null, .null, .null, .null, .int 0, .null, .null, .int 0, .int 0, .null, .null, .null, .int 0])), (q1, .inl (ac 0, 400, .inl (fun _ => 0)))] H := hP
  have hD : va_D A [(h0, .inr (6, [.int 0, .null, .null, .null, .null, .null, .null, .null, .null, .null, .int 0, .null, .null, .int 0, .int 0, .null, .null, .null, .int 0])), (q1, .inl (ac 0, 400, .inl (fun _ => 0)))] := hD
  refine va_putF (D := D) (ci := 6) (v := .ref q1) (ty := (.array .int)) (C := RX7) (T := TX7) (N := 19) hx hb (Ts := u_ws RX7 TX7 19) (fun w hw => hK.1.word (inX7 w hw).1 (inX7 w hw).2 _) (fun _ h => h) tyX7 tyX7_ok nmX7 hown hK.1.1 hP hD hS 0 rfl rfl 1 (by decide) (hK.1.word wt_61 rfl _) (fun _ h9 => h9) rfl hin rfl (by decide +kernel) rfl rfl (Nat.le_of_ble_eq_true rfl) dX7_init_10 (fun H locs hP hD hS => ?_)
  have hP : va_P D vwCl [(h0, .inr (6, [.int 0, .ref q1, .null, .null, .null, .null, .null, .null, .null, .null, .int 0, .null, .null, .int 0, .int 0, .null, .null, .null, .int 0])), (q1, .inl (ac 0, 400, .inl (fun _ => 0)))] H := hP
  have hD : va_D A [(h0, .inr (6, [.int 0, .ref q1, .null, .null, .null, .null, .null, .null, .null, .null, .int 0, .null, .null, .int 0, .int 0, .null, .null, .null, .int 0])), (q1, .inl (ac 0, 400, .inl (fun _ => 0)))] := hD
  refine lv_aload_n hx hb dX7_init_13 rfl (lv_at hl 0 rfl) ?_
  refine lv_sipush (v := 400) hx hb dX7_init_14 (by decide) ?_
  refine b_newaI hx hb hK hP hD hS hA 400 (by decide) (by decide) (Nat.le_of_ble_eq_true rfl) (Nat.le_of_ble_eq_true rfl) (Nat.le_of_ble_eq_true rfl) dX7_init_17 (fun q2 H hP hD hS => ?_)
  have hP : va_P D vwCl [(h0, .inr (6, [.int 0, .ref q1, .null, .null, .null, .null, .null, .null, .null, .null, .int 0, .null, .null, .int 0, .int 0, .null, .null, .null, .int 0])), (q1, .inl (ac 0, 400, .inl (fun _ => 0))), (q2, .inl (ac 0, 400, .inl (fun _ => 0)))] H := hP
  have hD : va_D A [(h0, .inr (6, [.int 0, .ref q1, .null, .null, .null, .null, .null, .null, .null, .null, .int 0, .null, .null, .int 0, .int 0, .null, .null, .null, .int 0])), (q1, .inl (ac 0, 400, .inl (fun _ => 0))), (q2, .inl (ac 0, 400, .inl (fun _ => 0)))] := hD
  refine va_putF (D := D) (ci := 6) (v := .ref q2) (ty := (.array .int)) (C := RX7) (T := TX7) (N := 19) hx hb (Ts := u_ws RX7 TX7 19) (fun w hw => hK.1.word (inX7 w hw).1 (inX7 w hw).2 _) (fun _ h => h) tyX7 tyX7_ok nmX7 hown hK.1.1 hP hD hS 0 rfl rfl 2 (by decide) (hK.1.word wt_65 rfl _) (fun _ h9 => h9) rfl hin rfl (by decide +kernel) rfl rfl (Nat.le_of_ble_eq_true rfl) dX7_init_19 (fun H locs hP hD hS => ?_)
  have hP : va_P D vwCl [(h0, .inr (6, [.int 0, .ref q1, .ref q2, .null, .null, .null, .null, .null, .null, .null, .int 0, .null, .null, .int 0, .int 0, .null, .null, .null, .int 0])), (q1, .inl (ac 0, 400, .inl (fun _ => 0))), (q2, .inl (ac 0, 400, .inl (fun _ => 0)))] H := hP
  have hD : va_D A [(h0, .inr (6, [.int 0, .ref q1, .ref q2, .null, .null, .null, .null, .null, .null, .null, .int 0, .null, .null, .int 0, .int 0, .null, .null, .null, .int 0])), (q1, .inl (ac 0, 400, .inl (fun _ => 0))), (q2, .inl (ac 0, 400, .inl (fun _ => 0)))] := hD
  refine lv_aload_n hx hb dX7_init_22 rfl (lv_at hl 0 rfl) ?_
  refine lv_sipush (v := 400) hx hb dX7_init_23 (by decide) ?_
  refine b_newaI hx hb hK hP hD hS hA 400 (by decide) (by decide) (Nat.le_of_ble_eq_true rfl) (Nat.le_of_ble_eq_true rfl) (Nat.le_of_ble_eq_true rfl) dX7_init_26 (fun q3 H hP hD hS => ?_)
  have hP : va_P D vwCl [(h0, .inr (6, [.int 0, .ref q1, .ref q2, .null, .null, .null, .null, .null, .null, .null, .int 0, .null, .null, .int 0, .int 0, .null, .null, .null, .int 0])), (q1, .inl (ac 0, 400, .inl (fun _ => 0))), (q2, .inl (ac 0, 400, .inl (fun _ => 0))), (q3, .inl (ac 0, 400, .inl (fun _ => 0)))] H := hP
  have hD : va_D A [(h0, .inr (6, [.int 0, .ref q1, .ref q2, .null, .null, .null, .null, .null, .null, .null, .int 0, .null, .null, .int 0, .int 0, .null, .null, .null, .int 0])), (q1, .inl (ac 0, 400, .inl (fun _ => 0))), (q2, .inl (ac 0, 400, .inl (fun _ => 0))), (q3, .inl (ac 0, 400, .inl (fun _ => 0)))] := hD
  refine va_putF (D := D) (ci := 6) (v := .ref q3) (ty := (.array .int)) (C := RX7) (T := TX7) (N := 19) hx hb (Ts := u_ws RX7 TX7 19) (fun w hw => hK.1.word (inX7 w hw).1 (inX7 w hw).2 _) (fun _ h => h) tyX7 tyX7_ok nmX7 hown hK.1.1 hP hD hS 0 rfl rfl 3 (by decide) (hK.1.word wt_69 rfl _) (fun _ h9 => h9) rfl hin rfl (by decide +kernel) rfl rfl (Nat.le_of_ble_eq_true rfl) dX7_init_28 (fun H locs hP hD hS => ?_)
  have hP : va_P D vwCl [(h0, .inr (6, [.int 0, .ref q1, .ref q2, .ref q3, .null, .null, .null, .null, .null, .null, .int 0, .null, .null, .int 0, .int 0, .null, .null, .null, .int 0])), (q1, .inl (ac 0, 400, .inl (fun _ => 0))), (q2, .inl (ac 0, 400, .inl (fun _ => 0))), (q3, .inl (ac 0, 400, .inl (fun _ => 0)))] H := hP
  have hD : va_D A [(h0, .inr (6, [.int 0, .ref q1, .ref q2, .ref q3, .null, .null, .null, .null, .null, .null, .int 0, .null, .null, .int 0, .int 0, .null, .null, .null, .int 0])), (q1, .inl (ac 0, 400, .inl (fun _ => 0))), (q2, .inl (ac 0, 400, .inl (fun _ => 0))), (q3, .inl (ac 0, 400, .inl (fun _ => 0)))] := hD
  refine lv_aload_n hx hb dX7_init_31 rfl (lv_at hl 0 rfl) ?_
  refine lv_sipush (v := 400) hx hb dX7_init_32 (by decide) ?_
  refine b_newaI hx hb hK hP hD hS hA 400 (by decide) (by decide) (Nat.le_of_ble_eq_true rfl) (Nat.le_of_ble_eq_true rfl) (Nat.le_of_ble_eq_true rfl) dX7_init_35 (fun q4 H hP hD hS => ?_)
  have hP : va_P D vwCl [(h0, .inr (6, [.int 0, .ref q1, .ref q2, .ref q3, .null, .null, .null, .null, .null, .null, .int 0, .null, .null, .int 0, .int 0, .null, .null, .null, .int 0])), (q1, .inl (ac 0, 400, .inl (fun _ => 0))), (q2, .inl (ac 0, 400, .inl (fun _ => 0))), (q3, .inl (ac 0, 400, .inl (fun _ => 0))), (q4, .inl (ac 0, 400, .inl (fun _ => 0)))] H := hP
  have hD : va_D A [(h0, .inr (6, [.int 0, .ref q1, .ref q2, .ref q3, .null, .null, .null, .null, .null, .null, .int 0, .null, .null, .int 0, .int 0, .null, .null, .null, .int 0])), (q1, .inl (ac 0, 400, .inl (fun _ => 0))), (q2, .inl (ac 0, 400, .inl (fun _ => 0))), (q3, .inl (ac 0, 400, .inl (fun _ => 0))), (q4, .inl (ac 0, 400, .inl (fun _ => 0)))] := hD
  refine va_putF (D := D) (ci := 6) (v := .ref q4) (ty := (.array .int)) (C := RX7) (T := TX7) (N := 19) hx hb (Ts := u_ws RX7 TX7 19) (fun w hw => hK.1.word (inX7 w hw).1 (inX7 w hw).2 _) (fun _ h => h) tyX7 tyX7_ok nmX7 hown hK.1.1 hP hD hS 0 rfl rfl 4 (by decide) (hK.1.word wt_72 rfl _) (fun _ h9 => h9) rfl hin rfl (by decide +kernel) rfl rfl (Nat.le_of_ble_eq_true rfl) dX7_init_37 (fun H locs hP hD hS => ?_)
  have hP : va_P D vwCl [(h0, .inr (6, [.int 0, .ref q1, .ref q2, .ref q3, .ref q4, .null, .null, .null, .null, .null, .int 0, .null, .null, .int 0, .int 0, .null, .null, .null, .int 0])), (q1, .inl (ac 0, 400, .inl (fun _ => 0))), (q2, .inl (ac 0, 400, .inl (fun _ => 0))), (q3, .inl (ac 0, 400, .inl (fun _ => 0))), (q4, .inl (ac 0, 400, .inl (fun _ => 0)))] H := hP
  have hD : va_D A [(h0, .inr (6, [.int 0, .ref q1, .ref q2, .ref q3, .ref q4, .null, .null, .null, .null, .null, .int 0, .null, .null, .int 0, .int 0, .null, .null, .null, .int 0])), (q1, .inl (ac 0, 400, .inl (fun _ => 0))), (q2, .inl (ac 0, 400, .inl (fun _ => 0))), (q3, .inl (ac 0, 400, .inl (fun _ => 0))), (q4, .inl (ac 0, 400, .inl (fun _ => 0)))] := hD
  refine lv_aload_n hx hb dX7_init_40 rfl (lv_at hl 0 rfl) ?_
  refine lv_sipush (v := 400) hx hb dX7_init_41 (by decide) ?_
  refine b_newaI hx hb hK hP hD hS hA 400 (by decide) (by decide) (Nat.le_of_ble_eq_true rfl) (Nat.le_of_ble_eq_true rfl) (Nat.le_of_ble_eq_true rfl) dX7_init_44 (fun q5 H hP hD hS => ?_)
  have hP : va_P D vwCl [(h0, .inr (6, [.int 0, .ref q1, .ref q2, .ref q3, .ref q4, .null, .null, .null, .null, .null, .int 0, .null, .null, .int 0, .int 0, .null, .null, .null, .int 0])), (q1, .inl (ac 0, 400, .inl (fun _ => 0))), (q2, .inl (ac 0, 400, .inl (fun _ => 0))), (q3, .inl (ac 0, 400, .inl (fun _ => 0))), (q4, .inl (ac 0, 400, .inl (fun _ => 0))), (q5, .inl (ac 0, 400, .inl (fun _ => 0)))] H := hP
  have hD : va_D A [(h0, .inr (6, [.int 0, .ref q1, .ref q2, .ref q3, .ref q4, .null, .null, .null, .null, .null, .int 0, .null, .null, .int 0, .int 0, .null, .null, .null, .int 0])), (q1, .inl (ac 0, 400, .inl (fun _ => 0))), (q2, .inl (ac 0, 400, .inl (fun _ => 0))), (q3, .inl (ac 0, 400, .inl (fun _ => 0))), (q4, .inl (ac 0, 400, .inl (fun _ => 0))), (q5, .inl (ac 0, 400, .inl (fun _ => 0)))] := hD
  refine va_putF (D := D) (ci := 6) (v := .ref q5) (ty := (.array .int)) (C := RX7) (T := TX7) (N := 19) hx hb (Ts := u_ws RX7 TX7 19) (fun w hw => hK.1.word (inX7 w hw).1 (inX7 w hw).2 _) (fun _ h => h) tyX7 tyX7_ok nmX7 hown hK.1.1 hP hD hS 0 rfl rfl 5 (by decide) (hK.1.word wt_76 rfl _) (fun _ h9 => h9) rfl hin rfl (by decide +kernel) rfl rfl (Nat.le_of_ble_eq_true rfl) dX7_init_46 (fun H locs hP hD hS => ?_)
  have hP : va_P D vwCl [(h0, .inr (6, [.int 0, .ref q1, .ref q2, .ref q3, .ref q4, .ref q5, .null, .null, .null, .null, .int 0, .null, .null, .int 0, .int 0, .null, .null, .null, .int 0])), (q1, .inl (ac 0, 400, .inl (fun _ => 0))), (q2, .inl (ac 0, 400, .inl (fun _ => 0))), (q3, .inl (ac 0, 400, .inl (fun _ => 0))), (q4, .inl (ac 0, 400, .inl (fun _ => 0))), (q5, .inl (ac 0, 400, .inl (fun _ => 0)))] H := hP
  have hD : va_D A [(h0, .inr (6, [.int 0, .ref q1, .ref q2, .ref q3, .ref q4, .ref q5, .null, .null, .null, .null, .int 0, .null, .null, .int 0, .int 0, .null, .null, .null, .int 0])), (q1, .inl (ac 0, 400, .inl (fun _ => 0))), (q2, .inl (ac 0, 400, .inl (fun _ => 0))), (q3, .inl (ac 0, 400, .inl (fun _ => 0))), (q4, .inl (ac 0, 400, .inl (fun _ => 0))), (q5, .inl (ac 0, 400, .inl (fun _ => 0)))] := hD
  refine lv_aload_n hx hb dX7_init_49 rfl (lv_at hl 0 rfl) ?_
  refine lv_sipush (v := 400) hx hb dX7_init_50 (by decide) ?_
  refine b_newaI hx hb hK hP hD hS hA 400 (by decide) (by decide) (Nat.le_of_ble_eq_true rfl) (Nat.le_of_ble_eq_true rfl) (Nat.le_of_ble_eq_true rfl) dX7_init_53 (fun q6 H hP hD hS => ?_)
  have hP : va_P D vwCl [(h0, .inr (6, [.int 0, .ref q1, .ref q2, .ref q3, .ref q4, .ref q5, .null, .null, .null, .null, .int 0, .null, .null, .int 0, .int 0, .null, .null, .null, .int 0])), (q1, .inl (ac 0, 400, .inl (fun _ => 0))), (q2, .inl (ac 0, 400, .inl (fun _ => 0))), (q3, .inl (ac 0, 400, .inl (fun _ => 0))), (q4, .inl (ac 0, 400, .inl (fun _ => 0))), (q5, .inl (ac 0, 400, .inl (fun _ => 0))), (q6, .inl (ac 0, 400, .inl (fun _ => 0)))] H := hP
  have hD : va_D A [(h0, .inr (6, [.int 0, .ref q1, .ref q2, .ref q3, .ref q4, .ref q5, .null, .null, .null, .null, .int 0, .null, .null, .int 0, .int 0, .null, .null, .null, .int 0])), (q1, .inl (ac 0, 400, .inl (fun _ => 0))), (q2, .inl (ac 0, 400, .inl (fun _ => 0))), (q3, .inl (ac 0, 400, .inl (fun _ => 0))), (q4, .inl (ac 0, 400, .inl (fun _ => 0))), (q5, .inl (ac 0, 400, .inl (fun _ => 0))), (q6, .inl (ac 0, 400, .inl (fun _ => 0)))] := hD
  refine va_putF (D := D) (ci := 6) (v := .ref q6) (ty := (.array .int)) (C := RX7) (T := TX7) (N := 19) hx hb (Ts := u_ws RX7 TX7 19) (fun w hw => hK.1.word (inX7 w hw).1 (inX7 w hw).2 _) (fun _ h => h) tyX7 tyX7_ok nmX7 hown hK.1.1 hP hD hS 0 rfl rfl 6 (by decide) (hK.1.word wt_80 rfl _) (fun _ h9 => h9) rfl hin rfl (by decide +kernel) rfl rfl (Nat.le_of_ble_eq_true rfl) dX7_init_55 (fun H locs hP hD hS => ?_)
  have hP : va_P D vwCl [(h0, .inr (6, [.int 0, .ref q1, .ref q2, .ref q3, .ref q4, .ref q5, .ref q6, .null, .null, .null, .int 0, .null, .null, .int 0, .int 0, .null, .null, .null, .int 0])), (q1, .inl (ac 0, 400, .inl (fun _ => 0))), (q2, .inl (ac 0, 400, .inl (fun _ => 0))), (q3, .inl (ac 0, 400, .inl (fun _ => 0))), (q4, .inl (ac 0, 400, .inl (fun _ => 0))), (q5, .inl (ac 0, 400, .inl (fun _ => 0))), (q6, .inl (ac 0, 400, .inl (fun _ => 0)))] H := hP
  have hD : va_D A [(h0, .inr (6, [.int 0, .ref q1, .ref q2, .ref q3, .ref q4, .ref q5, .ref q6, .null, .null, .null, .int 0, .null, .null, .int 0, .int 0, .null, .null, .null, .int 0])), (q1, .inl (ac 0, 400, .inl (fun _ => 0))), (q2, .inl (ac 0, 400, .inl (fun _ => 0))), (q3, .inl (ac 0, 400, .inl (fun _ => 0))), (q4, .inl (ac 0, 400, .inl (fun _ => 0))), (q5, .inl (ac 0, 400, .inl (fun _ => 0))), (q6, .inl (ac 0, 400, .inl (fun _ => 0)))] := hD
  refine lv_aload_n hx hb dX7_init_58 rfl (lv_at hl 0 rfl) ?_
  refine lv_sipush (v := 400) hx hb dX7_init_59 (by decide) ?_
  refine b_newaI hx hb hK hP hD hS hA 400 (by decide) (by decide) (Nat.le_of_ble_eq_true rfl) (Nat.le_of_ble_eq_true rfl) (Nat.le_of_ble_eq_true rfl) dX7_init_62 (fun q7 H hP hD hS => ?_)
  have hP : va_P D vwCl [(h0, .inr (6, [.int 0, .ref q1, .ref q2, .ref q3, .ref q4, .ref q5, .ref q6, .null, .null, .null, .int 0, .null, .null, .int 0, .int 0, .null, .null, .null, .int 0])), (q1, .inl (ac 0, 400, .inl (fun _ => 0))), (q2, .inl (ac 0, 400, .inl (fun _ => 0))), (q3, .inl (ac 0, 400, .inl (fun _ => 0))), (q4, .inl (ac 0, 400, .inl (fun _ => 0))), (q5, .inl (ac 0, 400, .inl (fun _ => 0))), (q6, .inl (ac 0, 400, .inl (fun _ => 0))), (q7, .inl (ac 0, 400, .inl (fun _ => 0)))] H := hP
  have hD : va_D A [(h0, .inr (6, [.int 0, .ref q1, .ref q2, .ref q3, .ref q4, .ref q5, .ref q6, .null, .null, .null, .int 0, .null, .null, .int 0, .int 0, .null, .null, .null, .int 0])), (q1, .inl (ac 0, 400, .inl (fun _ => 0))), (q2, .inl (ac 0, 400, .inl (fun _ => 0))), (q3, .inl (ac 0, 400, .inl (fun _ => 0))), (q4, .inl (ac 0, 400, .inl (fun _ => 0))), (q5, .inl (ac 0, 400, .inl (fun _ => 0))), (q6, .inl (ac 0, 400, .inl (fun _ => 0))), (q7, .inl (ac 0, 400, .inl (fun _ => 0)))] := hD
  refine va_putF (D := D) (ci := 6) (v := .ref q7) (ty := (.array .int)) (C := RX7) (T := TX7) (N := 19) hx hb (Ts := u_ws RX7 TX7 19) (fun w hw => hK.1.word (inX7 w hw).1 (inX7 w hw).2 _) (fun _ h => h) tyX7 tyX7_ok nmX7 hown hK.1.1 hP hD hS 0 rfl rfl 7 (by decide) (hK.1.word wt_84 rfl _) (fun _ h9 => h9) rfl hin rfl (by decide +kernel) rfl rfl (Nat.le_of_ble_eq_true rfl) dX7_init_64 (fun H locs hP hD hS => ?_)
  have hP : va_P D vwCl [(h0, .inr (6, [.int 0, .ref q1, .ref q2, .ref q3, .ref q4, .ref q5, .ref q6, .ref q7, .null, .null, .int 0, .null, .null, .int 0, .int 0, .null, .null, .null, .int 0])), (q1, .inl (ac 0, 400, .inl (fun _ => 0))), (q2, .inl (ac 0, 400, .inl (fun _ => 0))), (q3, .inl (ac 0, 400, .inl (fun _ => 0))), (q4, .inl (ac 0, 400, .inl (fun _ => 0))), (q5, .inl (ac 0, 400, .inl (fun _ => 0))), (q6, .inl (ac 0, 400, .inl (fun _ => 0))), (q7, .inl (ac 0, 400, .inl (fun _ => 0)))] H := hP
  have hD : va_D A [(h0, .inr (6, [.int 0, .ref q1, .ref q2, .ref q3, .ref q4, .ref q5, .ref q6, .ref q7, .null, .null, .int 0, .null, .null, .int 0, .int 0, .null, .null, .null, .int 0])), (q1, .inl (ac 0, 400, .inl (fun _ => 0))), (q2, .inl (ac 0, 400, .inl (fun _ => 0))), (q3, .inl (ac 0, 400, .inl (fun _ => 0))), (q4, .inl (ac 0, 400, .inl (fun _ => 0))), (q5, .inl (ac 0, 400, .inl (fun _ => 0))), (q6, .inl (ac 0, 400, .inl (fun _ => 0))), (q7, .inl (ac 0, 400, .inl (fun _ => 0)))] := hD
  refine lv_aload_n hx hb dX7_init_67 rfl (lv_at hl 0 rfl) ?_
  refine lv_sipush (v := 400) hx hb dX7_init_68 (by decide) ?_
  refine b_newaI hx hb hK hP hD hS hA 400 (by decide) (by decide) (Nat.le_of_ble_eq_true rfl) (Nat.le_of_ble_eq_true rfl) (Nat.le_of_ble_eq_true rfl) dX7_init_71 (fun q8 H hP hD hS => ?_)
  have hP : va_P D vwCl [(h0, .inr (6, [.int 0, .ref q1, .ref q2, .ref q3, .ref q4, .ref q5, .ref q6, .ref q7, .null, .null, .int 0, .null, .null, .int 0, .int 0, .null, .null, .null, .int 0])), (q1, .inl (ac 0, 400, .inl (fun _ => 0))), (q2, .inl (ac 0, 400, .inl (fun _ => 0))), (q3, .inl (ac 0, 400, .inl (fun _ => 0))), (q4, .inl (ac 0, 400, .inl (fun _ => 0))), (q5, .inl (ac 0, 400, .inl (fun _ => 0))), (q6, .inl (ac 0, 400, .inl (fun _ => 0))), (q7, .inl (ac 0, 400, .inl (fun _ => 0))), (q8, .inl (ac 0, 400, .inl (fun _ => 0)))] H := hP
  have hD : va_D A [(h0, .inr (6, [.int 0, .ref q1, .ref q2, .ref q3, .ref q4, .ref q5, .ref q6, .ref q7, .null, .null, .int 0, .null, .null, .int 0, .int 0, .null, .null, .null, .int 0])), (q1, .inl (ac 0, 400, .inl (fun _ => 0))), (q2, .inl (ac 0, 400, .inl (fun _ => 0))), (q3, .inl (ac 0, 400, .inl (fun _ => 0))), (q4, .inl (ac 0, 400, .inl (fun _ => 0))), (q5, .inl (ac 0, 400, .inl (fun _ => 0))), (q6, .inl (ac 0, 400, .inl (fun _ => 0))), (q7, .inl (ac 0, 400, .inl (fun _ => 0))), (q8, .inl (ac 0, 400, .inl (fun _ => 0)))] := hD
  refine va_putF (D := D) (ci := 6) (v := .ref q8) (ty := (.array .int)) (C := RX7) (T := TX7) (N := 19) hx hb (Ts := u_ws RX7 TX7 19) (fun w hw => hK.1.word (inX7 w hw).1 (inX7 w hw).2 _) (fun _ h => h) tyX7 tyX7_ok nmX7 hown hK.1.1 hP hD hS 0 rfl rfl 8 (by decide) (hK.1.word wt_87 rfl _) (fun _ h9 => h9) rfl hin rfl (by decide +kernel) rfl rfl (Nat.le_of_ble_eq_true rfl) dX7_init_73 (fun H locs hP hD hS => ?_)
  have hP : va_P D vwCl [(h0, .inr (6, [.int 0, .ref q1, .ref q2, .ref q3, .ref q4, .ref q5, .ref q6, .ref q7, .ref q8, .null, .int 0, .null, .null, .int 0, .int 0, .null, .null, .null, .int 0])), (q1, .inl (ac 0, 400, .inl (fun _ => 0))), (q2, .inl (ac 0, 400, .inl (fun _ => 0))), (q3, .inl (ac 0, 400, .inl (fun _ => 0))), (q4, .inl (ac 0, 400, .inl (fun _ => 0))), (q5, .inl (ac 0, 400, .inl (fun _ => 0))), (q6, .inl (ac 0, 400, .inl (fun _ => 0))), (q7, .inl (ac 0, 400, .inl (fun _ => 0))), (q8, .inl (ac 0, 400, .inl (fun _ => 0)))] H := hP
  have hD : va_D A [(h0, .inr (6, [.int 0, .ref q1, .ref q2, .ref q3, .ref q4, .ref q5, .ref q6, .ref q7, .ref q8, .null, .int 0, .null, .null, .int 0, .int 0, .null, .null, .null, .int 0])), (q1, .inl (ac 0, 400, .inl (fun _ => 0))), (q2, .inl (ac 0, 400, .inl (fun _ => 0))), (q3, .inl (ac 0, 400, .inl (fun _ => 0))), (q4, .inl (ac 0, 400, .inl (fun _ => 0))), (q5, .inl (ac 0, 400, .inl (fun _ => 0))), (q6, .inl (ac 0, 400, .inl (fun _ => 0))), (q7, .inl (ac 0, 400, .inl (fun _ => 0))), (q8, .inl (ac 0, 400, .inl (fun _ => 0)))] := hD
  refine lv_aload_n hx hb dX7_init_76 rfl (lv_at hl 0 rfl) ?_
  refine va_new (ci := 7) (fs := [.int 0, .null, .null, .null]) (C := RX8) (T := TX8) (N := 4) hx hb (Ts := u_ws RX8 TX8 4) (fun w hw => hK.1.word (inX8 w hw).1 (inX8 w hw).2 _) (fun _ h => h) tyX8 tyX8_ok hown (hK.1.word wt_36 rfl _) (hK.1.word wt_37 rfl _) (hK.1.word wt_3 rfl _) hK.1.1 hP hD hS hA rfl (fun j hj => match j, hj with | 0, _ => rfl | 1, _ => rfl | 2, _ => rfl | 3, _ => rfl | (j + 4), hj => absurd hj (by omega)) (Nat.le_of_ble_eq_true rfl) (Nat.le_of_ble_eq_true rfl) dX7_init_77 (fun q9 H hP hD hS => ?_)
  refine lv_dup hx hb dX7_init_80 rfl ?_
  refine b_call (rest := [.ref q9, .ref h0]) hx hb hml hown hK hP hD hS hA bi_X7_38 (b_X8 l D ac q9) ⟨rfl, rfl, Nat.le_of_ble_eq_true rfl, Nat.le_of_ble_eq_true rfl⟩ rfl hl.1 rfl (Nat.le_of_ble_eq_true rfl) dX7_init_81 ⟨Nat.le_of_ble_eq_true rfl, Nat.le_of_ble_eq_true rfl⟩ (fun w9 H locs hw hP hD hS => ?_)
  obtain ⟨q10, q11, q12, rfl⟩ := hw
  have hP : va_P D vwCl [(h0, .inr (6, [.int 0, .ref q1, .ref q2, .ref q3, .ref q4, .ref q5, .ref q6, .ref q7, .ref q8, .null, .int 0, .null, .null, .int 0, .int 0, .null, .null, .null, .int 0])), (q1, .inl (ac 0, 400, .inl (fun _ => 0))), (q2, .inl (ac 0, 400, .inl (fun _ => 0))), (q3, .inl (ac 0, 400, .inl (fun _ => 0))), (q4, .inl (ac 0, 400, .inl (fun _ => 0))), (q5, .inl (ac 0, 400, .inl (fun _ => 0))), (q6, .inl (ac 0, 400, .inl (fun _ => 0))), (q7, .inl (ac 0, 400, .inl (fun _ => 0))), (q8, .inl (ac 0, 400, .inl (fun _ => 0))), (q9, .inr (7, [.int 0, .ref q10, .ref q11, .ref q12])), (q10, .inl (ac 0, 200, .inl (fun _ => 0))), (q11, .inl (ac 0, 200, .inl (fun _ => 0))), (q12, .inl (ac 0, 200, .inl (fun _ => 0)))] H := hP
  have hD : va_D A [(h0, .inr (6, [.int 0, .ref q1, .ref q2, .ref q3, .ref q4, .ref q5, .ref q6, .ref q7, .ref q8, .null, .int 0, .null, .null, .int 0, .int 0, .null, .null, .null, .int 0])), (q1, .inl (ac 0, 400, .inl (fun _ => 0))), (q2, .inl (ac 0, 400, .inl (fun _ => 0))), (q3, .inl (ac 0, 400, .inl (fun _ => 0))), (q4, .inl (ac 0, 400, .inl (fun _ => 0))), (q5, .inl (ac 0, 400, .inl (fun _ => 0))), (q6, .inl (ac 0, 400, .inl (fun _ => 0))), (q7, .inl (ac 0, 400, .inl (fun _ => 0))), (q8, .inl (ac 0, 400, .inl (fun _ => 0))), (q9, .inr (7, [.int 0, .ref q10, .ref q11, .ref q12])), (q10, .inl (ac 0, 200, .inl (fun _ => 0))), (q11, .inl (ac 0, 200, .inl (fun _ => 0))), (q12, .inl (ac 0, 200, .inl (fun _ => 0)))] := hD
  refine va_putF (D := D) (ci := 6) (v := .ref q9) (ty := (.object "BranchingStory$Terms")) (C := RX7) (T := TX7) (N := 19) hx hb (Ts := u_ws RX7 TX7 19) (fun w hw => hK.1.word (inX7 w hw).1 (inX7 w hw).2 _) (fun _ h => h) tyX7 tyX7_ok nmX7 hown hK.1.1 hP hD hS 0 rfl rfl 9 (by decide) (hK.1.word wt_91 rfl _) (fun _ h9 => h9) rfl hin rfl (by decide +kernel) rfl rfl (Nat.le_of_ble_eq_true rfl) dX7_init_84 (fun H locs hP hD hS => ?_)
  have hP : va_P D vwCl [(h0, .inr (6, [.int 0, .ref q1, .ref q2, .ref q3, .ref q4, .ref q5, .ref q6, .ref q7, .ref q8, .ref q9, .int 0, .null, .null, .int 0, .int 0, .null, .null, .null, .int 0])), (q1, .inl (ac 0, 400, .inl (fun _ => 0))), (q2, .inl (ac 0, 400, .inl (fun _ => 0))), (q3, .inl (ac 0, 400, .inl (fun _ => 0))), (q4, .inl (ac 0, 400, .inl (fun _ => 0))), (q5, .inl (ac 0, 400, .inl (fun _ => 0))), (q6, .inl (ac 0, 400, .inl (fun _ => 0))), (q7, .inl (ac 0, 400, .inl (fun _ => 0))), (q8, .inl (ac 0, 400, .inl (fun _ => 0))), (q9, .inr (7, [.int 0, .ref q10, .ref q11, .ref q12])), (q10, .inl (ac 0, 200, .inl (fun _ => 0))), (q11, .inl (ac 0, 200, .inl (fun _ => 0))), (q12, .inl (ac 0, 200, .inl (fun _ => 0)))] H := hP
  have hD : va_D A [(h0, .inr (6, [.int 0, .ref q1, .ref q2, .ref q3, .ref q4, .ref q5, .ref q6, .ref q7, .ref q8, .ref q9, .int 0, .null, .null, .int 0, .int 0, .null, .null, .null, .int 0])), (q1, .inl (ac 0, 400, .inl (fun _ => 0))), (q2, .inl (ac 0, 400, .inl (fun _ => 0))), (q3, .inl (ac 0, 400, .inl (fun _ => 0))), (q4, .inl (ac 0, 400, .inl (fun _ => 0))), (q5, .inl (ac 0, 400, .inl (fun _ => 0))), (q6, .inl (ac 0, 400, .inl (fun _ => 0))), (q7, .inl (ac 0, 400, .inl (fun _ => 0))), (q8, .inl (ac 0, 400, .inl (fun _ => 0))), (q9, .inr (7, [.int 0, .ref q10, .ref q11, .ref q12])), (q10, .inl (ac 0, 200, .inl (fun _ => 0))), (q11, .inl (ac 0, 200, .inl (fun _ => 0))), (q12, .inl (ac 0, 200, .inl (fun _ => 0)))] := hD
  refine lv_aload_n hx hb dX7_init_87 rfl (lv_at hl 0 rfl) ?_
  refine lv_bipush (v := 12) hx hb dX7_init_88 (by decide) ?_
  refine b_newaI hx hb hK hP hD hS hA 12 (by decide) (by decide) (Nat.le_of_ble_eq_true rfl) (Nat.le_of_ble_eq_true rfl) (Nat.le_of_ble_eq_true rfl) dX7_init_90 (fun q13 H hP hD hS => ?_)
  have hP : va_P D vwCl [(h0, .inr (6, [.int 0, .ref q1, .ref q2, .ref q3, .ref q4, .ref q5, .ref q6, .ref q7, .ref q8, .ref q9, .int 0, .null, .null, .int 0, .int 0, .null, .null, .null, .int 0])), (q1, .inl (ac 0, 400, .inl (fun _ => 0))), (q2, .inl (ac 0, 400, .inl (fun _ => 0))), (q3, .inl (ac 0, 400, .inl (fun _ => 0))), (q4, .inl (ac 0, 400, .inl (fun _ => 0))), (q5, .inl (ac 0, 400, .inl (fun _ => 0))), (q6, .inl (ac 0, 400, .inl (fun _ => 0))), (q7, .inl (ac 0, 400, .inl (fun _ => 0))), (q8, .inl (ac 0, 400, .inl (fun _ => 0))), (q9, .inr (7, [.int 0, .ref q10, .ref q11, .ref q12])), (q10, .inl (ac 0, 200, .inl (fun _ => 0))), (q11, .inl (ac 0, 200, .inl (fun _ => 0))), (q12, .inl (ac 0, 200, .inl (fun _ => 0))), (q13, .inl (ac 0, 12, .inl (fun _ => 0)))] H := hP
  have hD : va_D A [(h0, .inr (6, [.int 0, .ref q1, .ref q2, .ref q3, .ref q4, .ref q5, .ref q6, .ref q7, .ref q8, .ref q9, .int 0, .null, .null, .int 0, .int 0, .null, .null, .null, .int 0])), (q1, .inl (ac 0, 400, .inl (fun _ => 0))), (q2, .inl (ac 0, 400, .inl (fun _ => 0))), (q3, .inl (ac 0, 400, .inl (fun _ => 0))), (q4, .inl (ac 0, 400, .inl (fun _ => 0))), (q5, .inl (ac 0, 400, .inl (fun _ => 0))), (q6, .inl (ac 0, 400, .inl (fun _ => 0))), (q7, .inl (ac 0, 400, .inl (fun _ => 0))), (q8, .inl (ac 0, 400, .inl (fun _ => 0))), (q9, .inr (7, [.int 0, .ref q10, .ref q11, .ref q12])), (q10, .inl (ac 0, 200, .inl (fun _ => 0))), (q11, .inl (ac 0, 200, .inl (fun _ => 0))), (q12, .inl (ac 0, 200, .inl (fun _ => 0))), (q13, .inl (ac 0, 12, .inl (fun _ => 0)))] := hD
  refine va_putF (D := D) (ci := 6) (v := .ref q13) (ty := (.array .int)) (C := RX7) (T := TX7) (N := 19) hx hb (Ts := u_ws RX7 TX7 19) (fun w hw => hK.1.word (inX7 w hw).1 (inX7 w hw).2 _) (fun _ h => h) tyX7 tyX7_ok nmX7 hown hK.1.1 hP hD hS 0 rfl rfl 11 (by decide) (hK.1.word wt_99 rfl _) (fun _ h9 => h9) rfl hin rfl (by decide +kernel) rfl rfl (Nat.le_of_ble_eq_true rfl) dX7_init_92 (fun H locs hP hD hS => ?_)
  have hP : va_P D vwCl [(h0, .inr (6, [.int 0, .ref q1, .ref q2, .ref q3, .ref q4, .ref q5, .ref q6, .ref q7, .ref q8, .ref q9, .int 0, .ref q13, .null, .int 0, .int 0, .null, .null, .null, .int 0])), (q1, .inl (ac 0, 400, .inl (fun _ => 0))), (q2, .inl (ac 0, 400, .inl (fun _ => 0))), (q3, .inl (ac 0, 400, .inl (fun _ => 0))), (q4, .inl (ac 0, 400, .inl (fun _ => 0))), (q5, .inl (ac 0, 400, .inl (fun _ => 0))), (q6, .inl (ac 0, 400, .inl (fun _ => 0))), (q7, .inl (ac 0, 400, .inl (fun _ => 0))), (q8, .inl (ac 0, 400, .inl (fun _ => 0))), (q9, .inr (7, [.int 0, .ref q10, .ref q11, .ref q12])), (q10, .inl (ac 0, 200, .inl (fun _ => 0))), (q11, .inl (ac 0, 200, .inl (fun _ => 0))), (q12, .inl (ac 0, 200, .inl (fun _ => 0))), (q13, .inl (ac 0, 12, .inl (fun _ => 0)))] H := hP
  have hD : va_D A [(h0, .inr (6, [.int 0, .ref q1, .ref q2, .ref q3, .ref q4, .ref q5, .ref q6, .ref q7, .ref q8, .ref q9, .int 0, .ref q13, .null, .int 0, .int 0, .null, .null, .null, .int 0])), (q1, .inl (ac 0, 400, .inl (fun _ => 0))), (q2, .inl (ac 0, 400, .inl (fun _ => 0))), (q3, .inl (ac 0, 400, .inl (fun _ => 0))), (q4, .inl (ac 0, 400, .inl (fun _ => 0))), (q5, .inl (ac 0, 400, .inl (fun _ => 0))), (q6, .inl (ac 0, 400, .inl (fun _ => 0))), (q7, .inl (ac 0, 400, .inl (fun _ => 0))), (q8, .inl (ac 0, 400, .inl (fun _ => 0))), (q9, .inr (7, [.int 0, .ref q10, .ref q11, .ref q12])), (q10, .inl (ac 0, 200, .inl (fun _ => 0))), (q11, .inl (ac 0, 200, .inl (fun _ => 0))), (q12, .inl (ac 0, 200, .inl (fun _ => 0))), (q13, .inl (ac 0, 12, .inl (fun _ => 0)))] := hD
  refine lv_aload_n hx hb dX7_init_95 rfl (lv_at hl 0 rfl) ?_
  refine lv_bipush (v := 12) hx hb dX7_init_96 (by decide) ?_
  refine b_newaI hx hb hK hP hD hS hA 12 (by decide) (by decide) (Nat.le_of_ble_eq_true rfl) (Nat.le_of_ble_eq_true rfl) (Nat.le_of_ble_eq_true rfl) dX7_init_98 (fun q14 H hP hD hS => ?_)
  have hP : va_P D vwCl [(h0, .inr (6, [.int 0, .ref q1, .ref q2, .ref q3, .ref q4, .ref q5, .ref q6, .ref q7, .ref q8, .ref q9, .int 0, .ref q13, .null, .int 0, .int 0, .null, .null, .null, .int 0])), (q1, .inl (ac 0, 400, .inl (fun _ => 0))), (q2, .inl (ac 0, 400, .inl (fun _ => 0))), (q3, .inl (ac 0, 400, .inl (fun _ => 0))), (q4, .inl (ac 0, 400, .inl (fun _ => 0))), (q5, .inl (ac 0, 400, .inl (fun _ => 0))), (q6, .inl (ac 0, 400, .inl (fun _ => 0))), (q7, .inl (ac 0, 400, .inl (fun _ => 0))), (q8, .inl (ac 0, 400, .inl (fun _ => 0))), (q9, .inr (7, [.int 0, .ref q10, .ref q11, .ref q12])), (q10, .inl (ac 0, 200, .inl (fun _ => 0))), (q11, .inl (ac 0, 200, .inl (fun _ => 0))), (q12, .inl (ac 0, 200, .inl (fun _ => 0))), (q13, .inl (ac 0, 12, .inl (fun _ => 0))), (q14, .inl (ac 0, 12, .inl (fun _ => 0)))] H := hP
  have hD : va_D A [(h0, .inr (6, [.int 0, .ref q1, .ref q2, .ref q3, .ref q4, .ref q5, .ref q6, .ref q7, .ref q8, .ref q9, .int 0, .ref q13, .null, .int 0, .int 0, .null, .null, .null, .int 0])), (q1, .inl (ac 0, 400, .inl (fun _ => 0))), (q2, .inl (ac 0, 400, .inl (fun _ => 0))), (q3, .inl (ac 0, 400, .inl (fun _ => 0))), (q4, .inl (ac 0, 400, .inl (fun _ => 0))), (q5, .inl (ac 0, 400, .inl (fun _ => 0))), (q6, .inl (ac 0, 400, .inl (fun _ => 0))), (q7, .inl (ac 0, 400, .inl (fun _ => 0))), (q8, .inl (ac 0, 400, .inl (fun _ => 0))), (q9, .inr (7, [.int 0, .ref q10, .ref q11, .ref q12])), (q10, .inl (ac 0, 200, .inl (fun _ => 0))), (q11, .inl (ac 0, 200, .inl (fun _ => 0))), (q12, .inl (ac 0, 200, .inl (fun _ => 0))), (q13, .inl (ac 0, 12, .inl (fun _ => 0))), (q14, .inl (ac 0, 12, .inl (fun _ => 0)))] := hD
  refine va_putF (D := D) (ci := 6) (v := .ref q14) (ty := (.array .int)) (C := RX7) (T := TX7) (N := 19) hx hb (Ts := u_ws RX7 TX7 19) (fun w hw => hK.1.word (inX7 w hw).1 (inX7 w hw).2 _) (fun _ h => h) tyX7 tyX7_ok nmX7 hown hK.1.1 hP hD hS 0 rfl rfl 12 (by decide) (hK.1.word wt_102 rfl _) (fun _ h9 => h9) rfl hin rfl (by decide +kernel) rfl rfl (Nat.le_of_ble_eq_true rfl) dX7_init_100 (fun H locs hP hD hS => ?_)
  have hP : va_P D vwCl [(h0, .inr (6, [.int 0, .ref q1, .ref q2, .ref q3, .ref q4, .ref q5, .ref q6, .ref q7, .ref q8, .ref q9, .int 0, .ref q13, .ref q14, .int 0, .int 0, .null, .null, .null, .int 0])), (q1, .inl (ac 0, 400, .inl (fun _ => 0))), (q2, .inl (ac 0, 400, .inl (fun _ => 0))), (q3, .inl (ac 0, 400, .inl (fun _ => 0))), (q4, .inl (ac 0, 400, .inl (fun _ => 0))), (q5, .inl (ac 0, 400, .inl (fun _ => 0))), (q6, .inl (ac 0, 400, .inl (fun _ => 0))), (q7, .inl (ac 0, 400, .inl (fun _ => 0))), (q8, .inl (ac 0, 400, .inl (fun _ => 0))), (q9, .inr (7, [.int 0, .ref q10, .ref q11, .ref q12])), (q10, .inl (ac 0, 200, .inl (fun _ => 0))), (q11, .inl (ac 0, 200, .inl (fun _ => 0))), (q12, .inl (ac 0, 200, .inl (fun _ => 0))), (q13, .inl (ac 0, 12, .inl (fun _ => 0))), (q14, .inl (ac 0, 12, .inl (fun _ => 0)))] H := hP
  have hD : va_D A [(h0, .inr (6, [.int 0, .ref q1, .ref q2, .ref q3, .ref q4, .ref q5, .ref q6, .ref q7, .ref q8, .ref q9, .int 0, .ref q13, .ref q14, .int 0, .int 0, .null, .null, .null, .int 0])), (q1, .inl (ac 0, 400, .inl (fun _ => 0))), (q2, .inl (ac 0, 400, .inl (fun _ => 0))), (q3, .inl (ac 0, 400, .inl (fun _ => 0))), (q4, .inl (ac 0, 400, .inl (fun _ => 0))), (q5, .inl (ac 0, 400, .inl (fun _ => 0))), (q6, .inl (ac 0, 400, .inl (fun _ => 0))), (q7, .inl (ac 0, 400, .inl (fun _ => 0))), (q8, .inl (ac 0, 400, .inl (fun _ => 0))), (q9, .inr (7, [.int 0, .ref q10, .ref q11, .ref q12])), (q10, .inl (ac 0, 200, .inl (fun _ => 0))), (q11, .inl (ac 0, 200, .inl (fun _ => 0))), (q12, .inl (ac 0, 200, .inl (fun _ => 0))), (q13, .inl (ac 0, 12, .inl (fun _ => 0))), (q14, .inl (ac 0, 12, .inl (fun _ => 0)))] := hD
  refine lv_aload_n hx hb dX7_init_103 rfl (lv_at hl 0 rfl) ?_
  refine lv_bipush (v := 16) hx hb dX7_init_104 (by decide) ?_
  refine b_newaI hx hb hK hP hD hS hA 16 (by decide) (by decide) (Nat.le_of_ble_eq_true rfl) (Nat.le_of_ble_eq_true rfl) (Nat.le_of_ble_eq_true rfl) dX7_init_106 (fun q15 H hP hD hS => ?_)
  have hP : va_P D vwCl [(h0, .inr (6, [.int 0, .ref q1, .ref q2, .ref q3, .ref q4, .ref q5, .ref q6, .ref q7, .ref q8, .ref q9, .int 0, .ref q13, .ref q14, .int 0, .int 0, .null, .null, .null, .int 0])), (q1, .inl (ac 0, 400, .inl (fun _ => 0))), (q2, .inl (ac 0, 400, .inl (fun _ => 0))), (q3, .inl (ac 0, 400, .inl (fun _ => 0))), (q4, .inl (ac 0, 400, .inl (fun _ => 0))), (q5, .inl (ac 0, 400, .inl (fun _ => 0))), (q6, .inl (ac 0, 400, .inl (fun _ => 0))), (q7, .inl (ac 0, 400, .inl (fun _ => 0))), (q8, .inl (ac 0, 400, .inl (fun _ => 0))), (q9, .inr (7, [.int 0, .ref q10, .ref q11, .ref q12])), (q10, .inl (ac 0, 200, .inl (fun _ => 0))), (q11, .inl (ac 0, 200, .inl (fun _ => 0))), (q12, .inl (ac 0, 200, .inl (fun _ => 0))), (q13, .inl (ac 0, 12, .inl (fun _ => 0))), (q14, .inl (ac 0, 12, .inl (fun _ => 0))), (q15, .inl (ac 0, 16, .inl (fun _ => 0)))] H := hP
  have hD : va_D A [(h0, .inr (6, [.int 0, .ref q1, .ref q2, .ref q3, .ref q4, .ref q5, .ref q6, .ref q7, .ref q8, .ref q9, .int 0, .ref q13, .ref q14, .int 0, .int 0, .null, .null, .null, .int 0])), (q1, .inl (ac 0, 400, .inl (fun _ => 0))), (q2, .inl (ac 0, 400, .inl (fun _ => 0))), (q3, .inl (ac 0, 400, .inl (fun _ => 0))), (q4, .inl (ac 0, 400, .inl (fun _ => 0))), (q5, .inl (ac 0, 400, .inl (fun _ => 0))), (q6, .inl (ac 0, 400, .inl (fun _ => 0))), (q7, .inl (ac 0, 400, .inl (fun _ => 0))), (q8, .inl (ac 0, 400, .inl (fun _ => 0))), (q9, .inr (7, [.int 0, .ref q10, .ref q11, .ref q12])), (q10, .inl (ac 0, 200, .inl (fun _ => 0))), (q11, .inl (ac 0, 200, .inl (fun _ => 0))), (q12, .inl (ac 0, 200, .inl (fun _ => 0))), (q13, .inl (ac 0, 12, .inl (fun _ => 0))), (q14, .inl (ac 0, 12, .inl (fun _ => 0))), (q15, .inl (ac 0, 16, .inl (fun _ => 0)))] := hD
  refine va_putF (D := D) (ci := 6) (v := .ref q15) (ty := (.array .int)) (C := RX7) (T := TX7) (N := 19) hx hb (Ts := u_ws RX7 TX7 19) (fun w hw => hK.1.word (inX7 w hw).1 (inX7 w hw).2 _) (fun _ h => h) tyX7 tyX7_ok nmX7 hown hK.1.1 hP hD hS 0 rfl rfl 15 (by decide) (hK.1.word wt_112 rfl _) (fun _ h9 => h9) rfl hin rfl (by decide +kernel) rfl rfl (Nat.le_of_ble_eq_true rfl) dX7_init_108 (fun H locs hP hD hS => ?_)
  have hP : va_P D vwCl [(h0, .inr (6, [.int 0, .ref q1, .ref q2, .ref q3, .ref q4, .ref q5, .ref q6, .ref q7, .ref q8, .ref q9, .int 0, .ref q13, .ref q14, .int 0, .int 0, .ref q15, .null, .null, .int 0])), (q1, .inl (ac 0, 400, .inl (fun _ => 0))), (q2, .inl (ac 0, 400, .inl (fun _ => 0))), (q3, .inl (ac 0, 400, .inl (fun _ => 0))), (q4, .inl (ac 0, 400, .inl (fun _ => 0))), (q5, .inl (ac 0, 400, .inl (fun _ => 0))), (q6, .inl (ac 0, 400, .inl (fun _ => 0))), (q7, .inl (ac 0, 400, .inl (fun _ => 0))), (q8, .inl (ac 0, 400, .inl (fun _ => 0))), (q9, .inr (7, [.int 0, .ref q10, .ref q11, .ref q12])), (q10, .inl (ac 0, 200, .inl (fun _ => 0))), (q11, .inl (ac 0, 200, .inl (fun _ => 0))), (q12, .inl (ac 0, 200, .inl (fun _ => 0))), (q13, .inl (ac 0, 12, .inl (fun _ => 0))), (q14, .inl (ac 0, 12, .inl (fun _ => 0))), (q15, .inl (ac 0, 16, .inl (fun _ => 0)))] H := hP
  have hD : va_D A [(h0, .inr (6, [.int 0, .ref q1, .ref q2, .ref q3, .ref q4, .ref q5, .ref q6, .ref q7, .ref q8, .ref q9, .int 0, .ref q13, .ref q14, .int 0, .int 0, .ref q15, .null, .null, .int 0])), (q1, .inl (ac 0, 400, .inl (fun _ => 0))), (q2, .inl (ac 0, 400, .inl (fun _ => 0))), (q3, .inl (ac 0, 400, .inl (fun _ => 0))), (q4, .inl (ac 0, 400, .inl (fun _ => 0))), (q5, .inl (ac 0, 400, .inl (fun _ => 0))), (q6, .inl (ac 0, 400, .inl (fun _ => 0))), (q7, .inl (ac 0, 400, .inl (fun _ => 0))), (q8, .inl (ac 0, 400, .inl (fun _ => 0))), (q9, .inr (7, [.int 0, .ref q10, .ref q11, .ref q12])), (q10, .inl (ac 0, 200, .inl (fun _ => 0))), (q11, .inl (ac 0, 200, .inl (fun _ => 0))), (q12, .inl (ac 0, 200, .inl (fun _ => 0))), (q13, .inl (ac 0, 12, .inl (fun _ => 0))), (q14, .inl (ac 0, 12, .inl (fun _ => 0))), (q15, .inl (ac 0, 16, .inl (fun _ => 0)))] := hD
  refine lv_aload_n hx hb dX7_init_111 rfl (lv_at hl 0 rfl) ?_
  refine lv_bipush (v := 16) hx hb dX7_init_112 (by decide) ?_
  refine b_newaI hx hb hK hP hD hS hA 16 (by decide) (by decide) (Nat.le_of_ble_eq_true rfl) (Nat.le_of_ble_eq_true rfl) (Nat.le_of_ble_eq_true rfl) dX7_init_114 (fun q16 H hP hD hS => ?_)
  have hP : va_P D vwCl [(h0, .inr (6, [.int 0, .ref q1, .ref q2, .ref q3, .ref q4, .ref q5, .ref q6, .ref q7, .ref q8, .ref q9, .int 0, .ref q13, .ref q14, .int 0, .int 0, .ref q15, .null, .null, .int 0])), (q1, .inl (ac 0, 400, .inl (fun _ => 0))), (q2, .inl (ac 0, 400, .inl (fun _ => 0))), (q3, .inl (ac 0, 400, .inl (fun _ => 0))), (q4, .inl (ac 0, 400, .inl (fun _ => 0))), (q5, .inl (ac 0, 400, .inl (fun _ => 0))), (q6, .inl (ac 0, 400, .inl (fun _ => 0))), (q7, .inl (ac 0, 400, .inl (fun _ => 0))), (q8, .inl (ac 0, 400, .inl (fun _ => 0))), (q9, .inr (7, [.int 0, .ref q10, .ref q11, .ref q12])), (q10, .inl (ac 0, 200, .inl (fun _ => 0))), (q11, .inl (ac 0, 200, .inl (fun _ => 0))), (q12, .inl (ac 0, 200, .inl (fun _ => 0))), (q13, .inl (ac 0, 12, .inl (fun _ => 0))), (q14, .inl (ac 0, 12, .inl (fun _ => 0))), (q15, .inl (ac 0, 16, .inl (fun _ => 0))), (q16, .inl (ac 0, 16, .inl (fun _ => 0)))] H := hP
  have hD : va_D A [(h0, .inr (6, [.int 0, .ref q1, .ref q2, .ref q3, .ref q4, .ref q5, .ref q6, .ref q7, .ref q8, .ref q9, .int 0, .ref q13, .ref q14, .int 0, .int 0, .ref q15, .null, .null, .int 0])), (q1, .inl (ac 0, 400, .inl (fun _ => 0))), (q2, .inl (ac 0, 400, .inl (fun _ => 0))), (q3, .inl (ac 0, 400, .inl (fun _ => 0))), (q4, .inl (ac 0, 400, .inl (fun _ => 0))), (q5, .inl (ac 0, 400, .inl (fun _ => 0))), (q6, .inl (ac 0, 400, .inl (fun _ => 0))), (q7, .inl (ac 0, 400, .inl (fun _ => 0))), (q8, .inl (ac 0, 400, .inl (fun _ => 0))), (q9, .inr (7, [.int 0, .ref q10, .ref q11, .ref q12])), (q10, .inl (ac 0, 200, .inl (fun _ => 0))), (q11, .inl (ac 0, 200, .inl (fun _ => 0))), (q12, .inl (ac 0, 200, .inl (fun _ => 0))), (q13, .inl (ac 0, 12, .inl (fun _ => 0))), (q14, .inl (ac 0, 12, .inl (fun _ => 0))), (q15, .inl (ac 0, 16, .inl (fun _ => 0))), (q16, .inl (ac 0, 16, .inl (fun _ => 0)))] := hD
  refine va_putF (D := D) (ci := 6) (v := .ref q16) (ty := (.array .int)) (C := RX7) (T := TX7) (N := 19) hx hb (Ts := u_ws RX7 TX7 19) (fun w hw => hK.1.word (inX7 w hw).1 (inX7 w hw).2 _) (fun _ h => h) tyX7 tyX7_ok nmX7 hown hK.1.1 hP hD hS 0 rfl rfl 16 (by decide) (hK.1.word wt_115 rfl _) (fun _ h9 => h9) rfl hin rfl (by decide +kernel) rfl rfl (Nat.le_of_ble_eq_true rfl) dX7_init_116 (fun H locs hP hD hS => ?_)
  have hP : va_P D vwCl [(h0, .inr (6, [.int 0, .ref q1, .ref q2, .ref q3, .ref q4, .ref q5, .ref q6, .ref q7, .ref q8, .ref q9, .int 0, .ref q13, .ref q14, .int 0, .int 0, .ref q15, .ref q16, .null, .int 0])), (q1, .inl (ac 0, 400, .inl (fun _ => 0))), (q2, .inl (ac 0, 400, .inl (fun _ => 0))), (q3, .inl (ac 0, 400, .inl (fun _ => 0))), (q4, .inl (ac 0, 400, .inl (fun _ => 0))), (q5, .inl (ac 0, 400, .inl (fun _ => 0))), (q6, .inl (ac 0, 400, .inl (fun _ => 0))), (q7, .inl (ac 0, 400, .inl (fun _ => 0))), (q8, .inl (ac 0, 400, .inl (fun _ => 0))), (q9, .inr (7, [.int 0, .ref q10, .ref q11, .ref q12])), (q10, .inl (ac 0, 200, .inl (fun _ => 0))), (q11, .inl (ac 0, 200, .inl (fun _ => 0))), (q12, .inl (ac 0, 200, .inl (fun _ => 0))), (q13, .inl (ac 0, 12, .inl (fun _ => 0))), (q14, .inl (ac 0, 12, .inl (fun _ => 0))), (q15, .inl (ac 0, 16, .inl (fun _ => 0))), (q16, .inl (ac 0, 16, .inl (fun _ => 0)))] H := hP
  have hD : va_D A [(h0, .inr (6, [.int 0, .ref q1, .ref q2, .ref q3, .ref q4, .ref q5, .ref q6, .ref q7, .ref q8, .ref q9, .int 0, .ref q13, .ref q14, .int 0, .int 0, .ref q15, .ref q16, .null, .int 0])), (q1, .inl (ac 0, 400, .inl (fun _ => 0))), (q2, .inl (ac 0, 400, .inl (fun _ => 0))), (q3, .inl (ac 0, 400, .inl (fun _ => 0))), (q4, .inl (ac 0, 400, .inl (fun _ => 0))), (q5, .inl (ac 0, 400, .inl (fun _ => 0))), (q6, .inl (ac 0, 400, .inl (fun _ => 0))), (q7, .inl (ac 0, 400, .inl (fun _ => 0))), (q8, .inl (ac 0, 400, .inl (fun _ => 0))), (q9, .inr (7, [.int 0, .ref q10, .ref q11, .ref q12])), (q10, .inl (ac 0, 200, .inl (fun _ => 0))), (q11, .inl (ac 0, 200, .inl (fun _ => 0))), (q12, .inl (ac 0, 200, .inl (fun _ => 0))), (q13, .inl (ac 0, 12, .inl (fun _ => 0))), (q14, .inl (ac 0, 12, .inl (fun _ => 0))), (q15, .inl (ac 0, 16, .inl (fun _ => 0))), (q16, .inl (ac 0, 16, .inl (fun _ => 0)))] := hD
  refine lv_aload_n hx hb dX7_init_119 rfl (lv_at hl 0 rfl) ?_
  refine lv_bipush (v := 16) hx hb dX7_init_120 (by decide) ?_
  refine b_newaI hx hb hK hP hD hS hA 16 (by decide) (by decide) (Nat.le_of_ble_eq_true rfl) (Nat.le_of_ble_eq_true rfl) (Nat.le_of_ble_eq_true rfl) dX7_init_122 (fun q17 H hP hD hS => ?_)
  have hP : va_P D vwCl [(h0, .inr (6, [.int 0, .ref q1, .ref q2, .ref q3, .ref q4, .ref q5, .ref q6, .ref q7, .ref q8, .ref q9, .int 0, .ref q13, .ref q14, .int 0, .int 0, .ref q15, .ref q16, .null, .int 0])), (q1, .inl (ac 0, 400, .inl (fun _ => 0))), (q2, .inl (ac 0, 400, .inl (fun _ => 0))), (q3, .inl (ac 0, 400, .inl (fun _ => 0))), (q4, .inl (ac 0, 400, .inl (fun _ => 0))), (q5, .inl (ac 0, 400, .inl (fun _ => 0))), (q6, .inl (ac 0, 400, .inl (fun _ => 0))), (q7, .inl (ac 0, 400, .inl (fun _ => 0))), (q8, .inl (ac 0, 400, .inl (fun _ => 0))), (q9, .inr (7, [.int 0, .ref q10, .ref q11, .ref q12])), (q10, .inl (ac 0, 200, .inl (fun _ => 0))), (q11, .inl (ac 0, 200, .inl (fun _ => 0))), (q12, .inl (ac 0, 200, .inl (fun _ => 0))), (q13, .inl (ac 0, 12, .inl (fun _ => 0))), (q14, .inl (ac 0, 12, .inl (fun _ => 0))), (q15, .inl (ac 0, 16, .inl (fun _ => 0))), (q16, .inl (ac 0, 16, .inl (fun _ => 0))), (q17, .inl (ac 0, 16, .inl (fun _ => 0)))] H := hP
  have hD : va_D A [(h0, .inr (6, [.int 0, .ref q1, .ref q2, .ref q3, .ref q4, .ref q5, .ref q6, .ref q7, .ref q8, .ref q9, .int 0, .ref q13, .ref q14, .int 0, .int 0, .ref q15, .ref q16, .null, .int 0])), (q1, .inl (ac 0, 400, .inl (fun _ => 0))), (q2, .inl (ac 0, 400, .inl (fun _ => 0))), (q3, .inl (ac 0, 400, .inl (fun _ => 0))), (q4, .inl (ac 0, 400, .inl (fun _ => 0))), (q5, .inl (ac 0, 400, .inl (fun _ => 0))), (q6, .inl (ac 0, 400, .inl (fun _ => 0))), (q7, .inl (ac 0, 400, .inl (fun _ => 0))), (q8, .inl (ac 0, 400, .inl (fun _ => 0))), (q9, .inr (7, [.int 0, .ref q10, .ref q11, .ref q12])), (q10, .inl (ac 0, 200, .inl (fun _ => 0))), (q11, .inl (ac 0, 200, .inl (fun _ => 0))), (q12, .inl (ac 0, 200, .inl (fun _ => 0))), (q13, .inl (ac 0, 12, .inl (fun _ => 0))), (q14, .inl (ac 0, 12, .inl (fun _ => 0))), (q15, .inl (ac 0, 16, .inl (fun _ => 0))), (q16, .inl (ac 0, 16, .inl (fun _ => 0))), (q17, .inl (ac 0, 16, .inl (fun _ => 0)))] := hD
  refine va_putF (D := D) (ci := 6) (v := .ref q17) (ty := (.array .int)) (C := RX7) (T := TX7) (N := 19) hx hb (Ts := u_ws RX7 TX7 19) (fun w hw => hK.1.word (inX7 w hw).1 (inX7 w hw).2 _) (fun _ h => h) tyX7 tyX7_ok nmX7 hown hK.1.1 hP hD hS 0 rfl rfl 17 (by decide) (hK.1.word wt_119 rfl _) (fun _ h9 => h9) rfl hin rfl (by decide +kernel) rfl rfl (Nat.le_of_ble_eq_true rfl) dX7_init_124 (fun H locs hP hD hS => ?_)
  have hP : va_P D vwCl [(h0, .inr (6, [.int 0, .ref q1, .ref q2, .ref q3, .ref q4, .ref q5, .ref q6, .ref q7, .ref q8, .ref q9, .int 0, .ref q13, .ref q14, .int 0, .int 0, .ref q15, .ref q16, .ref q17, .int 0])), (q1, .inl (ac 0, 400, .inl (fun _ => 0))), (q2, .inl (ac 0, 400, .inl (fun _ => 0))), (q3, .inl (ac 0, 400, .inl (fun _ => 0))), (q4, .inl (ac 0, 400, .inl (fun _ => 0))), (q5, .inl (ac 0, 400, .inl (fun _ => 0))), (q6, .inl (ac 0, 400, .inl (fun _ => 0))), (q7, .inl (ac 0, 400, .inl (fun _ => 0))), (q8, .inl (ac 0, 400, .inl (fun _ => 0))), (q9, .inr (7, [.int 0, .ref q10, .ref q11, .ref q12])), (q10, .inl (ac 0, 200, .inl (fun _ => 0))), (q11, .inl (ac 0, 200, .inl (fun _ => 0))), (q12, .inl (ac 0, 200, .inl (fun _ => 0))), (q13, .inl (ac 0, 12, .inl (fun _ => 0))), (q14, .inl (ac 0, 12, .inl (fun _ => 0))), (q15, .inl (ac 0, 16, .inl (fun _ => 0))), (q16, .inl (ac 0, 16, .inl (fun _ => 0))), (q17, .inl (ac 0, 16, .inl (fun _ => 0)))] H := hP
  have hD : va_D A [(h0, .inr (6, [.int 0, .ref q1, .ref q2, .ref q3, .ref q4, .ref q5, .ref q6, .ref q7, .ref q8, .ref q9, .int 0, .ref q13, .ref q14, .int 0, .int 0, .ref q15, .ref q16, .ref q17, .int 0])), (q1, .inl (ac 0, 400, .inl (fun _ => 0))), (q2, .inl (ac 0, 400, .inl (fun _ => 0))), (q3, .inl (ac 0, 400, .inl (fun _ => 0))), (q4, .inl (ac 0, 400, .inl (fun _ => 0))), (q5, .inl (ac 0, 400, .inl (fun _ => 0))), (q6, .inl (ac 0, 400, .inl (fun _ => 0))), (q7, .inl (ac 0, 400, .inl (fun _ => 0))), (q8, .inl (ac 0, 400, .inl (fun _ => 0))), (q9, .inr (7, [.int 0, .ref q10, .ref q11, .ref q12])), (q10, .inl (ac 0, 200, .inl (fun _ => 0))), (q11, .inl (ac 0, 200, .inl (fun _ => 0))), (q12, .inl (ac 0, 200, .inl (fun _ => 0))), (q13, .inl (ac 0, 12, .inl (fun _ => 0))), (q14, .inl (ac 0, 12, .inl (fun _ => 0))), (q15, .inl (ac 0, 16, .inl (fun _ => 0))), (q16, .inl (ac 0, 16, .inl (fun _ => 0))), (q17, .inl (ac 0, 16, .inl (fun _ => 0)))] := hD
  refine W.widen (k := 17) (n := 3876) (Nat.le_of_ble_eq_true rfl) (Nat.le_of_ble_eq_true rfl) ?_
  exact W.vret hx hb hr (fun t ht hW => ⟨⟨_, rfl, ⟨q1, q2, q3, q4, q5, q6, q7, q8, q9, q10, q11, q12, q13, q14, q15, q16, q17, rfl⟩, by rw [ht]; exact hP, hD⟩, hS.F ht⟩) hS.2.2 dX7_init_127
def P_X5 (ac : Nat → ClassId) (h0 : Nat) (p0 : Nat) (w : va_W) : Prop := ∃ q1 q2 q3 : Nat, w = [(h0, .inr (4, [.ref p0, .int 0, .int 0, .int (-1), .int (-1), .int 0, .int 0, .int 0, .int 0, .int 0, .ref q1])), (q1, .inr (3, [.int 0, .ref q2, .ref q3])), (q2, .inl (ac 0, 20, .inl (fun _ => 0))), (q3, .inl (ac 1, 100, .inl (fun _ => 0)))]
set_option maxRecDepth 100000 in
set_option maxHeartbeats 4000000 in
theorem b_X5 (l : Launch) (D : va_G) (ac : Nat → ClassId) (h0 : Nat) (p0 : Nat) : BCon l yX5_init cX5_init 2 { frames := 2, cells := 3, slots := 123, locals := 33 } D ac h0 (.inr (4, [.null, .int 0, .int 0, .int 0, .int 0, .int 0, .int 0, .int 0, .int 0, .int 0, .null])) [.ref p0] (P_X5 ac h0 p0) 3 123 := by
  intro sz
  unfold QcB
  refine Met.ofW (cc := cX5_init) (maxL := 2) (ret := none) (by decide) rfl ?_
  intro p e s m args below meth c s₁ B hml hv
  obtain ⟨rfl, hsz, hP, hD0, hK⟩ := hv
  have hx := B.exec
  have hb := B.bytes
  have hr := B.returns
  have hown : s.vm.findClass RX5 = some m.cls := findClass_of_methodNamed B.named
  have hlocks := B.notSynchronized
  have hin : meth.name = "<init>" := (name_of_methodNamed B.named B.method).1
  subst hsz
  have hD := hD0.self (sz := s.heap.size)
  generalize hAe : va_A [(h0, .inr (4, [.null, .int 0, .int 0, .int 0, .int 0, .int 0, .int 0, .int 0, .int 0, .int 0, .null]))] s.heap.size = A at hD ⊢
  have hA : ∀ q : Nat, s.heap.size ≤ q → A q := fun q h => by rw [← hAe]; exact Or.inr h
  have hS : va_S A s.heap s.heap [] := va_S.rf
  have hl := lv_entry ([.ref h0, .ref p0]) (n := 2) (Nat.le_of_ble_eq_true rfl)
  rw [lg_entry_eq]
  generalize (lg_sl ([.ref h0, .ref p0]) ++ List.replicate (2 - (lg_sl ([.ref h0, .ref p0])).length) Slot.unset).toArray = ls at hl ⊢
  have hl : lv_has ls 2 [(0, .ref h0), (1, .ref p0)] := hl
  refine lv_aload_n hx hb dX5_init_0 rfl (lv_at hl 0 rfl) ?_
  refine W.objInit hx hb hown (hK.1.word wt_220 rfl _) (hK.1.word wt_28 rfl _) (hK.1.word wt_29 rfl _) rfl (by rw [hml]; exact hl.1) rfl dX5_init_1 (Nat.le_of_ble_eq_true rfl) (Nat.le_of_ble_eq_true rfl) ?_
  refine W.eq (g2 := F0 m 4 ls []) rfl ?_
  refine lv_aload_n hx hb dX5_init_4 rfl (lv_at hl 0 rfl) ?_
  refine va_new (ci := 3) (fs := [.int 0, .null, .null]) (C := RX4) (T := TX4) (N := 3) hx hb (Ts := u_ws RX4 TX4 3) (fun w hw => hK.1.word (inX4 w hw).1 (inX4 w hw).2 _) (fun _ h => h) tyX4 tyX4_ok hown (hK.1.word wt_221 rfl _) (hK.1.word wt_222 rfl _) (hK.1.word wt_6 rfl _) hK.1.1 hP hD hS hA rfl (fun j hj => match j, hj with | 0, _ => rfl | 1, _ => rfl | 2, _ => rfl | (j + 3), hj => absurd hj (by omega)) (Nat.le_of_ble_eq_true rfl) (Nat.le_of_ble_eq_true rfl) dX5_init_5 (fun q1 H hP hD hS => ?_)
  refine lv_dup hx hb dX5_init_8 rfl ?_
  refine b_call (rest := [.ref q1, .ref h0]) hx hb hml hown hK hP hD hS hA bi_X5_11 (b_X4 l D ac q1) ⟨rfl, rfl, Nat.le_of_ble_eq_true rfl, Nat.le_of_ble_eq_true rfl⟩ rfl hl.1 rfl (Nat.le_of_ble_eq_true rfl) dX5_init_9 ⟨Nat.le_of_ble_eq_true rfl, Nat.le_of_ble_eq_true rfl⟩ (fun w1 H locs hw hP hD hS => ?_)
  obtain ⟨q2, q3, rfl⟩ := hw
  have hP : va_P D vwCl [(h0, .inr (4, [.null, .int 0, .int 0, .int 0, .int 0, .int 0, .int 0, .int 0, .int 0, .int 0, .null])), (q1, .inr (3, [.int 0, .ref q2, .ref q3])), (q2, .inl (ac 0, 20, .inl (fun _ => 0))), (q3, .inl (ac 1, 100, .inl (fun _ => 0)))] H := hP
  have hD : va_D A [(h0, .inr (4, [.null, .int 0, .int 0, .int 0, .int 0, .int 0, .int 0, .int 0, .int 0, .int 0, .null])), (q1, .inr (3, [.int 0, .ref q2, .ref q3])), (q2, .inl (ac 0, 20, .inl (fun _ => 0))), (q3, .inl (ac 1, 100, .inl (fun _ => 0)))] := hD
  refine va_putF (D := D) (ci := 4) (v := .ref q1) (ty := (.object "BranchingStory$Lines")) (C := RX5) (T := TX5) (N := 11) hx hb (Ts := u_ws RX5 TX5 11) (fun w hw => hK.1.word (inX5 w hw).1 (inX5 w hw).2 _) (fun _ h => h) tyX5 tyX5_ok nmX5 hown hK.1.1 hP hD hS 0 rfl rfl 10 (by decide) (hK.1.word wt_262 rfl _) (fun _ h9 => h9) rfl hin rfl (by decide +kernel) rfl rfl (Nat.le_of_ble_eq_true rfl) dX5_init_12 (fun H locs hP hD hS => ?_)
  have hP : va_P D vwCl [(h0, .inr (4, [.null, .int 0, .int 0, .int 0, .int 0, .int 0, .int 0, .int 0, .int 0, .int 0, .ref q1])), (q1, .inr (3, [.int 0, .ref q2, .ref q3])), (q2, .inl (ac 0, 20, .inl (fun _ => 0))), (q3, .inl (ac 1, 100, .inl (fun _ => 0)))] H := hP
  have hD : va_D A [(h0, .inr (4, [.null, .int 0, .int 0, .int 0, .int 0, .int 0, .int 0, .int 0, .int 0, .int 0, .ref q1])), (q1, .inr (3, [.int 0, .ref q2, .ref q3])), (q2, .inl (ac 0, 20, .inl (fun _ => 0))), (q3, .inl (ac 1, 100, .inl (fun _ => 0)))] := hD
  refine lv_aload_n hx hb dX5_init_15 rfl (lv_at hl 0 rfl) ?_
  refine lv_aload_n hx hb dX5_init_16 rfl (lv_at hl 1 rfl) ?_
  refine va_put (D := D) (ci := 4) (v := .ref p0) (ty := (.object "BranchingStory$Story")) (C := RX5) (T := TX5) (N := 11) hx hb (Ts := u_ws RX5 TX5 11) (fun w hw => hK.1.word (inX5 w hw).1 (inX5 w hw).2 _) (fun _ h => h) tyX5 tyX5_ok nmX5 hown hK.1.1 hP hD hS 0 rfl rfl 0 (by decide) (hK.1.word wt_241 rfl _) (fun _ h9 => h9) rfl (by decide +kernel) rfl rfl (Nat.le_of_ble_eq_true rfl) dX5_init_17 (fun H locs hP hD hS => ?_)
  have hP : va_P D vwCl [(h0, .inr (4, [.ref p0, .int 0, .int 0, .int 0, .int 0, .int 0, .int 0, .int 0, .int 0, .int 0, .ref q1])), (q1, .inr (3, [.int 0, .ref q2, .ref q3])), (q2, .inl (ac 0, 20, .inl (fun _ => 0))), (q3, .inl (ac 1, 100, .inl (fun _ => 0)))] H := hP
  have hD : va_D A [(h0, .inr (4, [.ref p0, .int 0, .int 0, .int 0, .int 0, .int 0, .int 0, .int 0, .int 0, .int 0, .ref q1])), (q1, .inr (3, [.int 0, .ref q2, .ref q3])), (q2, .inl (ac 0, 20, .inl (fun _ => 0))), (q3, .inl (ac 1, 100, .inl (fun _ => 0)))] := hD
  refine lv_aload_n hx hb dX5_init_20 rfl (lv_at hl 0 rfl) ?_
  refine lv_iconst (v := (-1)) hx hb dX5_init_21 (by decide) ?_
  refine va_put (D := D) (ci := 4) (v := .int (-1)) (ty := .int) (C := RX5) (T := TX5) (N := 11) hx hb (Ts := u_ws RX5 TX5 11) (fun w hw => hK.1.word (inX5 w hw).1 (inX5 w hw).2 _) (fun _ h => h) tyX5 tyX5_ok nmX5 hown hK.1.1 hP hD hS 0 rfl rfl 3 (by decide) (hK.1.word wt_248 rfl _) (fun _ h9 => h9) rfl (by decide +kernel) rfl rfl (Nat.le_of_ble_eq_true rfl) dX5_init_22 (fun H locs hP hD hS => ?_)
  have hP : va_P D vwCl [(h0, .inr (4, [.ref p0, .int 0, .int 0, .int (-1), .int 0, .int 0, .int 0, .int 0, .int 0, .int 0, .ref q1])), (q1, .inr (3, [.int 0, .ref q2, .ref q3])), (q2, .inl (ac 0, 20, .inl (fun _ => 0))), (q3, .inl (ac 1, 100, .inl (fun _ => 0)))] H := hP
  have hD : va_D A [(h0, .inr (4, [.ref p0, .int 0, .int 0, .int (-1), .int 0, .int 0, .int 0, .int 0, .int 0, .int 0, .ref q1])), (q1, .inr (3, [.int 0, .ref q2, .ref q3])), (q2, .inl (ac 0, 20, .inl (fun _ => 0))), (q3, .inl (ac 1, 100, .inl (fun _ => 0)))] := hD
  refine lv_aload_n hx hb dX5_init_25 rfl (lv_at hl 0 rfl) ?_
  refine lv_iconst (v := (-1)) hx hb dX5_init_26 (by decide) ?_
  refine va_put (D := D) (ci := 4) (v := .int (-1)) (ty := .int) (C := RX5) (T := TX5) (N := 11) hx hb (Ts := u_ws RX5 TX5 11) (fun w hw => hK.1.word (inX5 w hw).1 (inX5 w hw).2 _) (fun _ h => h) tyX5 tyX5_ok nmX5 hown hK.1.1 hP hD hS 0 rfl rfl 4 (by decide) (hK.1.word wt_250 rfl _) (fun _ h9 => h9) rfl (by decide +kernel) rfl rfl (Nat.le_of_ble_eq_true rfl) dX5_init_27 (fun H locs hP hD hS => ?_)
  have hP : va_P D vwCl [(h0, .inr (4, [.ref p0, .int 0, .int 0, .int (-1), .int (-1), .int 0, .int 0, .int 0, .int 0, .int 0, .ref q1])), (q1, .inr (3, [.int 0, .ref q2, .ref q3])), (q2, .inl (ac 0, 20, .inl (fun _ => 0))), (q3, .inl (ac 1, 100, .inl (fun _ => 0)))] H := hP
  have hD : va_D A [(h0, .inr (4, [.ref p0, .int 0, .int 0, .int (-1), .int (-1), .int 0, .int 0, .int 0, .int 0, .int 0, .ref q1])), (q1, .inr (3, [.int 0, .ref q2, .ref q3])), (q2, .inl (ac 0, 20, .inl (fun _ => 0))), (q3, .inl (ac 1, 100, .inl (fun _ => 0)))] := hD
  refine W.widen (k := 3) (n := 123) (Nat.le_of_ble_eq_true rfl) (Nat.le_of_ble_eq_true rfl) ?_
  exact W.vret hx hb hr (fun t ht hW => ⟨⟨_, rfl, ⟨q1, q2, q3, rfl⟩, by rw [ht]; exact hP, hD⟩, hS.F ht⟩) hS.2.2 dX5_init_30
def P_X6 (ac : Nat → ClassId) (h0 : Nat) (p0 : Nat) (w : va_W) : Prop := ∃ q1 q2 q3 q4 q5 : Nat, w = [(h0, .inr (5, [.ref p0, .int 0, .int 0, .int 0, .int 0, .int 0, .int 0, .int 0, .int 0, .ref q1, .ref q2, .ref q3, .ref q4, .ref q5])), (q1, .inl (ac 0, 12, .inl (fun _ => 0))), (q2, .inl (ac 0, 7, .inl (fun _ => 0))), (q3, .inl (ac 1, 7, .inl (fun _ => 0))), (q4, .inl (ac 0, 400, .inl (fun _ => 0))), (q5, .inl (ac 0, 400, .inl (fun _ => 0)))]
set_option maxRecDepth 100000 in
set_option maxHeartbeats 4000000 in
theorem b_X6 (l : Launch) (D : va_G) (ac : Nat → ClassId) (h0 : Nat) (p0 : Nat) : BCon l yX6_init cX6_init 2 { frames := 1, cells := 5, slots := 826, locals := 13 } D ac h0 (.inr (5, [.null, .int 0, .int 0, .int 0, .int 0, .int 0, .int 0, .int 0, .int 0, .null, .null, .null, .null, .null])) [.ref p0] (P_X6 ac h0 p0) 5 826 := by
  intro sz
  unfold QcB
  refine Met.ofW (cc := cX6_init) (maxL := 2) (ret := none) (by decide) rfl ?_
  intro p e s m args below meth c s₁ B hml hv
  obtain ⟨rfl, hsz, hP, hD0, hK⟩ := hv
  have hx := B.exec
  have hb := B.bytes
  have hr := B.returns
  have hown : s.vm.findClass RX6 = some m.cls := findClass_of_methodNamed B.named
  have hlocks := B.notSynchronized
  have hin : meth.name = "<init>" := (name_of_methodNamed B.named B.method).1
  subst hsz
  have hD := hD0.self (sz := s.heap.size)
  generalize hAe : va_A [(h0, .inr (5, [.null, .int 0, .int 0, .int 0, .int 0, .int 0, .int 0, .int 0, .int 0, .null, .null, .null, .null, .null]))] s.heap.size = A at hD ⊢
  have hA : ∀ q : Nat, s.heap.size ≤ q → A q := fun q h => by rw [← hAe]; exact Or.inr h
  have hS : va_S A s.heap s.heap [] := va_S.rf
  have hl := lv_entry ([.ref h0, .ref p0]) (n := 2) (Nat.le_of_ble_eq_true rfl)
  rw [lg_entry_eq]
  generalize (lg_sl ([.ref h0, .ref p0]) ++ List.replicate (2 - (lg_sl ([.ref h0, .ref p0])).length) Slot.unset).toArray = ls at hl ⊢
  have hl : lv_has ls 2 [(0, .ref h0), (1, .ref p0)] := hl
  refine lv_aload_n hx hb dX6_init_0 rfl (lv_at hl 0 rfl) ?_
  refine W.objInit hx hb hown (hK.1.word wt_170 rfl _) (hK.1.word wt_28 rfl _) (hK.1.word wt_29 rfl _) rfl (by rw [hml]; exact hl.1) rfl dX6_init_1 (Nat.le_of_ble_eq_true rfl) (Nat.le_of_ble_eq_true rfl) ?_
  refine W.eq (g2 := F0 m 4 ls []) rfl ?_
  refine lv_aload_n hx hb dX6_init_4 rfl (lv_at hl 0 rfl) ?_
  refine lv_bipush (v := 12) hx hb dX6_init_5 (by decide) ?_
  refine b_newaI hx hb hK hP hD hS hA 12 (by decide) (by decide) (Nat.le_of_ble_eq_true rfl) (Nat.le_of_ble_eq_true rfl) (Nat.le_of_ble_eq_true rfl) dX6_init_7 (fun q1 H hP hD hS => ?_)
  have hP : va_P D vwCl [(h0, .inr (5, [.null, .int 0, .int 0, .int 0, .int 0, .int 0, .int 0, .int 0, .int 0, .null, .null, .null, .null, .null])), (q1, .inl (ac 0, 12, .inl (fun _ => 0)))] H := hP
  have hD : va_D A [(h0, .inr (5, [.null, .int 0, .int 0, .int 0, .int 0, .int 0, .int 0, .int 0, .int 0, .null, .null, .null, .null, .null])), (q1, .inl (ac 0, 12, .inl (fun _ => 0)))] := hD
  refine va_putF (D := D) (ci := 5) (v := .ref q1) (ty := (.array .int)) (C := RX6) (T := TX6) (N := 14) hx hb (Ts := u_ws RX6 TX6 14) (fun w hw => hK.1.word (inX6 w hw).1 (inX6 w hw).2 _) (fun _ h => h) tyX6 tyX6_ok nmX6 hown hK.1.1 hP hD hS 0 rfl rfl 9 (by decide) (hK.1.word wt_180 rfl _) (fun _ h9 => h9) rfl hin rfl (by decide +kernel) rfl rfl (Nat.le_of_ble_eq_true rfl) dX6_init_9 (fun H locs hP hD hS => ?_)
  have hP : va_P D vwCl [(h0, .inr (5, [.null, .int 0, .int 0, .int 0, .int 0, .int 0, .int 0, .int 0, .int 0, .ref q1, .null, .null, .null, .null])), (q1, .inl (ac 0, 12, .inl (fun _ => 0)))] H := hP
  have hD : va_D A [(h0, .inr (5, [.null, .int 0, .int 0, .int 0, .int 0, .int 0, .int 0, .int 0, .int 0, .ref q1, .null, .null, .null, .null])), (q1, .inl (ac 0, 12, .inl (fun _ => 0)))] := hD
  refine lv_aload_n hx hb dX6_init_12 rfl (lv_at hl 0 rfl) ?_
  refine lv_bipush (v := 7) hx hb dX6_init_13 (by decide) ?_
  refine b_newaI hx hb hK hP hD hS hA 7 (by decide) (by decide) (Nat.le_of_ble_eq_true rfl) (Nat.le_of_ble_eq_true rfl) (Nat.le_of_ble_eq_true rfl) dX6_init_15 (fun q2 H hP hD hS => ?_)
  have hP : va_P D vwCl [(h0, .inr (5, [.null, .int 0, .int 0, .int 0, .int 0, .int 0, .int 0, .int 0, .int 0, .ref q1, .null, .null, .null, .null])), (q1, .inl (ac 0, 12, .inl (fun _ => 0))), (q2, .inl (ac 0, 7, .inl (fun _ => 0)))] H := hP
  have hD : va_D A [(h0, .inr (5, [.null, .int 0, .int 0, .int 0, .int 0, .int 0, .int 0, .int 0, .int 0, .ref q1, .null, .null, .null, .null])), (q1, .inl (ac 0, 12, .inl (fun _ => 0))), (q2, .inl (ac 0, 7, .inl (fun _ => 0)))] := hD
  refine va_putF (D := D) (ci := 5) (v := .ref q2) (ty := (.array .int)) (C := RX6) (T := TX6) (N := 14) hx hb (Ts := u_ws RX6 TX6 14) (fun w hw => hK.1.word (inX6 w hw).1 (inX6 w hw).2 _) (fun _ h => h) tyX6 tyX6_ok nmX6 hown hK.1.1 hP hD hS 0 rfl rfl 10 (by decide) (hK.1.word wt_181 rfl _) (fun _ h9 => h9) rfl hin rfl (by decide +kernel) rfl rfl (Nat.le_of_ble_eq_true rfl) dX6_init_17 (fun H locs hP hD hS => ?_)
  have hP : va_P D vwCl [(h0, .inr (5, [.null, .int 0, .int 0, .int 0, .int 0, .int 0, .int 0, .int 0, .int 0, .ref q1, .ref q2, .null, .null, .null])), (q1, .inl (ac 0, 12, .inl (fun _ => 0))), (q2, .inl (ac 0, 7, .inl (fun _ => 0)))] H := hP
  have hD : va_D A [(h0, .inr (5, [.null, .int 0, .int 0, .int 0, .int 0, .int 0, .int 0, .int 0, .int 0, .ref q1, .ref q2, .null, .null, .null])), (q1, .inl (ac 0, 12, .inl (fun _ => 0))), (q2, .inl (ac 0, 7, .inl (fun _ => 0)))] := hD
  refine lv_aload_n hx hb dX6_init_20 rfl (lv_at hl 0 rfl) ?_
  refine lv_bipush (v := 7) hx hb dX6_init_21 (by decide) ?_
  refine b_newaZ hx hb hK hP hD hS hA 7 (by decide) (by decide) (Nat.le_of_ble_eq_true rfl) (Nat.le_of_ble_eq_true rfl) (Nat.le_of_ble_eq_true rfl) dX6_init_23 (fun q3 H hP hD hS => ?_)
  have hP : va_P D vwCl [(h0, .inr (5, [.null, .int 0, .int 0, .int 0, .int 0, .int 0, .int 0, .int 0, .int 0, .ref q1, .ref q2, .null, .null, .null])), (q1, .inl (ac 0, 12, .inl (fun _ => 0))), (q2, .inl (ac 0, 7, .inl (fun _ => 0))), (q3, .inl (ac 1, 7, .inl (fun _ => 0)))] H := hP
  have hD : va_D A [(h0, .inr (5, [.null, .int 0, .int 0, .int 0, .int 0, .int 0, .int 0, .int 0, .int 0, .ref q1, .ref q2, .null, .null, .null])), (q1, .inl (ac 0, 12, .inl (fun _ => 0))), (q2, .inl (ac 0, 7, .inl (fun _ => 0))), (q3, .inl (ac 1, 7, .inl (fun _ => 0)))] := hD
  refine va_putF (D := D) (ci := 5) (v := .ref q3) (ty := (.array .boolean)) (C := RX6) (T := TX6) (N := 14) hx hb (Ts := u_ws RX6 TX6 14) (fun w hw => hK.1.word (inX6 w hw).1 (inX6 w hw).2 _) (fun _ h => h) tyX6 tyX6_ok nmX6 hown hK.1.1 hP hD hS 0 rfl rfl 11 (by decide) (hK.1.word wt_182 rfl _) (fun _ h9 => h9) rfl hin rfl (by decide +kernel) rfl rfl (Nat.le_of_ble_eq_true rfl) dX6_init_25 (fun H locs hP hD hS => ?_)
  have hP : va_P D vwCl [(h0, .inr (5, [.null, .int 0, .int 0, .int 0, .int 0, .int 0, .int 0, .int 0, .int 0, .ref q1, .ref q2, .ref q3, .null, .null])), (q1, .inl (ac 0, 12, .inl (fun _ => 0))), (q2, .inl (ac 0, 7, .inl (fun _ => 0))), (q3, .inl (ac 1, 7, .inl (fun _ => 0)))] H := hP
  have hD : va_D A [(h0, .inr (5, [.null, .int 0, .int 0, .int 0, .int 0, .int 0, .int 0, .int 0, .int 0, .ref q1, .ref q2, .ref q3, .null, .null])), (q1, .inl (ac 0, 12, .inl (fun _ => 0))), (q2, .inl (ac 0, 7, .inl (fun _ => 0))), (q3, .inl (ac 1, 7, .inl (fun _ => 0)))] := hD
  refine lv_aload_n hx hb dX6_init_28 rfl (lv_at hl 0 rfl) ?_
  refine lv_sipush (v := 400) hx hb dX6_init_29 (by decide) ?_
  refine b_newaI hx hb hK hP hD hS hA 400 (by decide) (by decide) (Nat.le_of_ble_eq_true rfl) (Nat.le_of_ble_eq_true rfl) (Nat.le_of_ble_eq_true rfl) dX6_init_32 (fun q4 H hP hD hS => ?_)
  have hP : va_P D vwCl [(h0, .inr (5, [.null, .int 0, .int 0, .int 0, .int 0, .int 0, .int 0, .int 0, .int 0, .ref q1, .ref q2, .ref q3, .null, .null])), (q1, .inl (ac 0, 12, .inl (fun _ => 0))), (q2, .inl (ac 0, 7, .inl (fun _ => 0))), (q3, .inl (ac 1, 7, .inl (fun _ => 0))), (q4, .inl (ac 0, 400, .inl (fun _ => 0)))] H := hP
  have hD : va_D A [(h0, .inr (5, [.null, .int 0, .int 0, .int 0, .int 0, .int 0, .int 0, .int 0, .int 0, .ref q1, .ref q2, .ref q3, .null, .null])), (q1, .inl (ac 0, 12, .inl (fun _ => 0))), (q2, .inl (ac 0, 7, .inl (fun _ => 0))), (q3, .inl (ac 1, 7, .inl (fun _ => 0))), (q4, .inl (ac 0, 400, .inl (fun _ => 0)))] := hD
  refine va_putF (D := D) (ci := 5) (v := .ref q4) (ty := (.array .int)) (C := RX6) (T := TX6) (N := 14) hx hb (Ts := u_ws RX6 TX6 14) (fun w hw => hK.1.word (inX6 w hw).1 (inX6 w hw).2 _) (fun _ h => h) tyX6 tyX6_ok nmX6 hown hK.1.1 hP hD hS 0 rfl rfl 12 (by decide) (hK.1.word wt_183 rfl _) (fun _ h9 => h9) rfl hin rfl (by decide +kernel) rfl rfl (Nat.le_of_ble_eq_true rfl) dX6_init_34 (fun H locs hP hD hS => ?_)
  have hP : va_P D vwCl [(h0, .inr (5, [.null, .int 0, .int 0, .int 0, .int 0, .int 0, .int 0, .int 0, .int 0, .ref q1, .ref q2, .ref q3, .ref q4, .null])), (q1, .inl (ac 0, 12, .inl (fun _ => 0))), (q2, .inl (ac 0, 7, .inl (fun _ => 0))), (q3, .inl (ac 1, 7, .inl (fun _ => 0))), (q4, .inl (ac 0, 400, .inl (fun _ => 0)))] H := hP
  have hD : va_D A [(h0, .inr (5, [.null, .int 0, .int 0, .int 0, .int 0, .int 0, .int 0, .int 0, .int 0, .ref q1, .ref q2, .ref q3, .ref q4, .null])), (q1, .inl (ac 0, 12, .inl (fun _ => 0))), (q2, .inl (ac 0, 7, .inl (fun _ => 0))), (q3, .inl (ac 1, 7, .inl (fun _ => 0))), (q4, .inl (ac 0, 400, .inl (fun _ => 0)))] := hD
  refine lv_aload_n hx hb dX6_init_37 rfl (lv_at hl 0 rfl) ?_
  refine lv_sipush (v := 400) hx hb dX6_init_38 (by decide) ?_
  refine b_newaI hx hb hK hP hD hS hA 400 (by decide) (by decide) (Nat.le_of_ble_eq_true rfl) (Nat.le_of_ble_eq_true rfl) (Nat.le_of_ble_eq_true rfl) dX6_init_41 (fun q5 H hP hD hS => ?_)
  have hP : va_P D vwCl [(h0, .inr (5, [.null, .int 0, .int 0, .int 0, .int 0, .int 0, .int 0, .int 0, .int 0, .ref q1, .ref q2, .ref q3, .ref q4, .null])), (q1, .inl (ac 0, 12, .inl (fun _ => 0))), (q2, .inl (ac 0, 7, .inl (fun _ => 0))), (q3, .inl (ac 1, 7, .inl (fun _ => 0))), (q4, .inl (ac 0, 400, .inl (fun _ => 0))), (q5, .inl (ac 0, 400, .inl (fun _ => 0)))] H := hP
  have hD : va_D A [(h0, .inr (5, [.null, .int 0, .int 0, .int 0, .int 0, .int 0, .int 0, .int 0, .int 0, .ref q1, .ref q2, .ref q3, .ref q4, .null])), (q1, .inl (ac 0, 12, .inl (fun _ => 0))), (q2, .inl (ac 0, 7, .inl (fun _ => 0))), (q3, .inl (ac 1, 7, .inl (fun _ => 0))), (q4, .inl (ac 0, 400, .inl (fun _ => 0))), (q5, .inl (ac 0, 400, .inl (fun _ => 0)))] := hD
  refine va_putF (D := D) (ci := 5) (v := .ref q5) (ty := (.array .int)) (C := RX6) (T := TX6) (N := 14) hx hb (Ts := u_ws RX6 TX6 14) (fun w hw => hK.1.word (inX6 w hw).1 (inX6 w hw).2 _) (fun _ h => h) tyX6 tyX6_ok nmX6 hown hK.1.1 hP hD hS 0 rfl rfl 13 (by decide) (hK.1.word wt_184 rfl _) (fun _ h9 => h9) rfl hin rfl (by decide +kernel) rfl rfl (Nat.le_of_ble_eq_true rfl) dX6_init_43 (fun H locs hP hD hS => ?_)
  have hP : va_P D vwCl [(h0, .inr (5, [.null, .int 0, .int 0, .int 0, .int 0, .int 0, .int 0, .int 0, .int 0, .ref q1, .ref q2, .ref q3, .ref q4, .ref q5])), (q1, .inl (ac 0, 12, .inl (fun _ => 0))), (q2, .inl (ac 0, 7, .inl (fun _ => 0))), (q3, .inl (ac 1, 7, .inl (fun _ => 0))), (q4, .inl (ac 0, 400, .inl (fun _ => 0))), (q5, .inl (ac 0, 400, .inl (fun _ => 0)))] H := hP
  have hD : va_D A [(h0, .inr (5, [.null, .int 0, .int 0, .int 0, .int 0, .int 0, .int 0, .int 0, .int 0, .ref q1, .ref q2, .ref q3, .ref q4, .ref q5])), (q1, .inl (ac 0, 12, .inl (fun _ => 0))), (q2, .inl (ac 0, 7, .inl (fun _ => 0))), (q3, .inl (ac 1, 7, .inl (fun _ => 0))), (q4, .inl (ac 0, 400, .inl (fun _ => 0))), (q5, .inl (ac 0, 400, .inl (fun _ => 0)))] := hD
  refine lv_aload_n hx hb dX6_init_46 rfl (lv_at hl 0 rfl) ?_
  refine lv_aload_n hx hb dX6_init_47 rfl (lv_at hl 1 rfl) ?_
  refine va_put (D := D) (ci := 5) (v := .ref p0) (ty := (.object "BranchingStory$Story")) (C := RX6) (T := TX6) (N := 14) hx hb (Ts := u_ws RX6 TX6 14) (fun w hw => hK.1.word (inX6 w hw).1 (inX6 w hw).2 _) (fun _ h => h) tyX6 tyX6_ok nmX6 hown hK.1.1 hP hD hS 0 rfl rfl 0 (by decide) (hK.1.word wt_171 rfl _) (fun _ h9 => h9) rfl (by decide +kernel) rfl rfl (Nat.le_of_ble_eq_true rfl) dX6_init_48 (fun H locs hP hD hS => ?_)
  have hP : va_P D vwCl [(h0, .inr (5, [.ref p0, .int 0, .int 0, .int 0, .int 0, .int 0, .int 0, .int 0, .int 0, .ref q1, .ref q2, .ref q3, .ref q4, .ref q5])), (q1, .inl (ac 0, 12, .inl (fun _ => 0))), (q2, .inl (ac 0, 7, .inl (fun _ => 0))), (q3, .inl (ac 1, 7, .inl (fun _ => 0))), (q4, .inl (ac 0, 400, .inl (fun _ => 0))), (q5, .inl (ac 0, 400, .inl (fun _ => 0)))] H := hP
  have hD : va_D A [(h0, .inr (5, [.ref p0, .int 0, .int 0, .int 0, .int 0, .int 0, .int 0, .int 0, .int 0, .ref q1, .ref q2, .ref q3, .ref q4, .ref q5])), (q1, .inl (ac 0, 12, .inl (fun _ => 0))), (q2, .inl (ac 0, 7, .inl (fun _ => 0))), (q3, .inl (ac 1, 7, .inl (fun _ => 0))), (q4, .inl (ac 0, 400, .inl (fun _ => 0))), (q5, .inl (ac 0, 400, .inl (fun _ => 0)))] := hD
  refine W.widen (k := 5) (n := 826) (Nat.le_of_ble_eq_true rfl) (Nat.le_of_ble_eq_true rfl) ?_
  exact W.vret hx hb hr (fun t ht hW => ⟨⟨_, rfl, ⟨q1, q2, q3, q4, q5, rfl⟩, by rw [ht]; exact hP, hD⟩, hS.F ht⟩) hS.2.2 dX6_init_51
def P_X2 (ac : Nat → ClassId) (h0 : Nat) (w : va_W) : Prop := ∃ q1 q2 q3 : Nat, w = [(h0, .inr (2, [.int 0, .int 0, .ref q1, .ref q2, .ref q3])), (q1, .inl (ac 2, 12, .inr (.inl (fun _ => 0)))), (q2, .inl (ac 0, 12, .inl (fun _ => 0))), (q3, .inl (ac 0, 240, .inl (fun _ => 0)))]
set_option maxRecDepth 100000 in
set_option maxHeartbeats 4000000 in
theorem b_X2 (l : Launch) (D : va_G) (ac : Nat → ClassId) (h0 : Nat) : BCon l yX2_init cX2_init 1 { frames := 1, cells := 3, slots := 264, locals := 13 } D ac h0 (.inr (2, [.int 0, .int 0, .null, .null, .null])) [] (P_X2 ac h0) 3 264 := by
  intro sz
  unfold QcB
  refine Met.ofW (cc := cX2_init) (maxL := 1) (ret := none) (by decide) rfl ?_
  intro p e s m args below meth c s₁ B hml hv
  obtain ⟨rfl, hsz, hP, hD0, hK⟩ := hv
  have hx := B.exec
  have hb := B.bytes
  have hr := B.returns
  have hown : s.vm.findClass RX2 = some m.cls := findClass_of_methodNamed B.named
  have hlocks := B.notSynchronized
  have hin : meth.name = "<init>" := (name_of_methodNamed B.named B.method).1
  subst hsz
  have hD := hD0.self (sz := s.heap.size)
  generalize hAe : va_A [(h0, .inr (2, [.int 0, .int 0, .null, .null, .null]))] s.heap.size = A at hD ⊢
  have hA : ∀ q : Nat, s.heap.size ≤ q → A q := fun q h => by rw [← hAe]; exact Or.inr h
  have hS : va_S A s.heap s.heap [] := va_S.rf
  have hl := lv_entry ([.ref h0]) (n := 1) (Nat.le_of_ble_eq_true rfl)
  rw [lg_entry_eq]
  generalize (lg_sl ([.ref h0]) ++ List.replicate (1 - (lg_sl ([.ref h0])).length) Slot.unset).toArray = ls at hl ⊢
  have hl : lv_has ls 1 [(0, .ref h0)] := hl
  refine lv_aload_n hx hb dX2_init_0 rfl (lv_at hl 0 rfl) ?_
  refine W.objInit hx hb hown (hK.1.word wt_293 rfl _) (hK.1.word wt_28 rfl _) (hK.1.word wt_29 rfl _) rfl (by rw [hml]; exact hl.1) rfl dX2_init_1 (Nat.le_of_ble_eq_true rfl) (Nat.le_of_ble_eq_true rfl) ?_
  refine W.eq (g2 := F0 m 4 ls []) rfl ?_
  refine lv_aload_n hx hb dX2_init_4 rfl (lv_at hl 0 rfl) ?_
  refine lv_bipush (v := 12) hx hb dX2_init_5 (by decide) ?_
  refine b_newaL hx hb hK hP hD hS hA 12 (by decide) (by decide) (Nat.le_of_ble_eq_true rfl) (Nat.le_of_ble_eq_true rfl) (Nat.le_of_ble_eq_true rfl) dX2_init_7 (fun q1 H hP hD hS => ?_)
  have hP : va_P D vwCl [(h0, .inr (2, [.int 0, .int 0, .null, .null, .null])), (q1, .inl (ac 2, 12, .inr (.inl (fun _ => 0))))] H := hP
  have hD : va_D A [(h0, .inr (2, [.int 0, .int 0, .null, .null, .null])), (q1, .inl (ac 2, 12, .inr (.inl (fun _ => 0))))] := hD
  refine va_putF (D := D) (ci := 2) (v := .ref q1) (ty := (.array .long)) (C := RX2) (T := TX2) (N := 5) hx hb (Ts := u_ws RX2 TX2 5) (fun w hw => hK.1.word (inX2 w hw).1 (inX2 w hw).2 _) (fun _ h => h) tyX2 tyX2_ok nmX2 hown hK.1.1 hP hD hS 0 rfl rfl 2 (by decide) (hK.1.word wt_297 rfl _) (fun _ h9 => h9) rfl hin rfl (by decide +kernel) rfl rfl (Nat.le_of_ble_eq_true rfl) dX2_init_9 (fun H locs hP hD hS => ?_)
  have hP : va_P D vwCl [(h0, .inr (2, [.int 0, .int 0, .ref q1, .null, .null])), (q1, .inl (ac 2, 12, .inr (.inl (fun _ => 0))))] H := hP
  have hD : va_D A [(h0, .inr (2, [.int 0, .int 0, .ref q1, .null, .null])), (q1, .inl (ac 2, 12, .inr (.inl (fun _ => 0))))] := hD
  refine lv_aload_n hx hb dX2_init_12 rfl (lv_at hl 0 rfl) ?_
  refine lv_bipush (v := 12) hx hb dX2_init_13 (by decide) ?_
  refine b_newaI hx hb hK hP hD hS hA 12 (by decide) (by decide) (Nat.le_of_ble_eq_true rfl) (Nat.le_of_ble_eq_true rfl) (Nat.le_of_ble_eq_true rfl) dX2_init_15 (fun q2 H hP hD hS => ?_)
  have hP : va_P D vwCl [(h0, .inr (2, [.int 0, .int 0, .ref q1, .null, .null])), (q1, .inl (ac 2, 12, .inr (.inl (fun _ => 0)))), (q2, .inl (ac 0, 12, .inl (fun _ => 0)))] H := hP
  have hD : va_D A [(h0, .inr (2, [.int 0, .int 0, .ref q1, .null, .null])), (q1, .inl (ac 2, 12, .inr (.inl (fun _ => 0)))), (q2, .inl (ac 0, 12, .inl (fun _ => 0)))] := hD
  refine va_putF (D := D) (ci := 2) (v := .ref q2) (ty := (.array .int)) (C := RX2) (T := TX2) (N := 5) hx hb (Ts := u_ws RX2 TX2 5) (fun w hw => hK.1.word (inX2 w hw).1 (inX2 w hw).2 _) (fun _ h => h) tyX2 tyX2_ok nmX2 hown hK.1.1 hP hD hS 0 rfl rfl 3 (by decide) (hK.1.word wt_298 rfl _) (fun _ h9 => h9) rfl hin rfl (by decide +kernel) rfl rfl (Nat.le_of_ble_eq_true rfl) dX2_init_17 (fun H locs hP hD hS => ?_)
  have hP : va_P D vwCl [(h0, .inr (2, [.int 0, .int 0, .ref q1, .ref q2, .null])), (q1, .inl (ac 2, 12, .inr (.inl (fun _ => 0)))), (q2, .inl (ac 0, 12, .inl (fun _ => 0)))] H := hP
  have hD : va_D A [(h0, .inr (2, [.int 0, .int 0, .ref q1, .ref q2, .null])), (q1, .inl (ac 2, 12, .inr (.inl (fun _ => 0)))), (q2, .inl (ac 0, 12, .inl (fun _ => 0)))] := hD
  refine lv_aload_n hx hb dX2_init_20 rfl (lv_at hl 0 rfl) ?_
  refine lv_sipush (v := 240) hx hb dX2_init_21 (by decide) ?_
  refine b_newaI hx hb hK hP hD hS hA 240 (by decide) (by decide) (Nat.le_of_ble_eq_true rfl) (Nat.le_of_ble_eq_true rfl) (Nat.le_of_ble_eq_true rfl) dX2_init_24 (fun q3 H hP hD hS => ?_)
  have hP : va_P D vwCl [(h0, .inr (2, [.int 0, .int 0, .ref q1, .ref q2, .null])), (q1, .inl (ac 2, 12, .inr (.inl (fun _ => 0)))), (q2, .inl (ac 0, 12, .inl (fun _ => 0))), (q3, .inl (ac 0, 240, .inl (fun _ => 0)))] H := hP
  have hD : va_D A [(h0, .inr (2, [.int 0, .int 0, .ref q1, .ref q2, .null])), (q1, .inl (ac 2, 12, .inr (.inl (fun _ => 0)))), (q2, .inl (ac 0, 12, .inl (fun _ => 0))), (q3, .inl (ac 0, 240, .inl (fun _ => 0)))] := hD
  refine va_putF (D := D) (ci := 2) (v := .ref q3) (ty := (.array .int)) (C := RX2) (T := TX2) (N := 5) hx hb (Ts := u_ws RX2 TX2 5) (fun w hw => hK.1.word (inX2 w hw).1 (inX2 w hw).2 _) (fun _ h => h) tyX2 tyX2_ok nmX2 hown hK.1.1 hP hD hS 0 rfl rfl 4 (by decide) (hK.1.word wt_299 rfl _) (fun _ h9 => h9) rfl hin rfl (by decide +kernel) rfl rfl (Nat.le_of_ble_eq_true rfl) dX2_init_26 (fun H locs hP hD hS => ?_)
  have hP : va_P D vwCl [(h0, .inr (2, [.int 0, .int 0, .ref q1, .ref q2, .ref q3])), (q1, .inl (ac 2, 12, .inr (.inl (fun _ => 0)))), (q2, .inl (ac 0, 12, .inl (fun _ => 0))), (q3, .inl (ac 0, 240, .inl (fun _ => 0)))] H := hP
  have hD : va_D A [(h0, .inr (2, [.int 0, .int 0, .ref q1, .ref q2, .ref q3])), (q1, .inl (ac 2, 12, .inr (.inl (fun _ => 0)))), (q2, .inl (ac 0, 12, .inl (fun _ => 0))), (q3, .inl (ac 0, 240, .inl (fun _ => 0)))] := hD
  refine W.widen (k := 3) (n := 264) (Nat.le_of_ble_eq_true rfl) (Nat.le_of_ble_eq_true rfl) ?_
  exact W.vret hx hb hr (fun t ht hW => ⟨⟨_, rfl, ⟨q1, q2, q3, rfl⟩, by rw [ht]; exact hP, hD⟩, hS.F ht⟩) hS.2.2 dX2_init_29
def P_X1 (ac : Nat → ClassId) (h0 : Nat) (p0 : Nat) (w : va_W) : Prop := ∃ q1 q2 q3 q4 q5 q6 q7 q8 q9 q10 q11 q12 : Nat, w = [(h0, .inr (1, [.ref q9, .int 0, .int 0, .int 0, .int 0, .int 0, .ref q1, .ref q2, .ref q3, .ref q4, .ref q5, .ref q6, .ref q7, .ref q8])), (q1, .inl (ac 2, 300, .inr (.inl (fun _ => 0)))), (q2, .inl (ac 0, 300, .inl (fun _ => 0))), (q3, .inl (ac 0, 300, .inl (fun _ => 0))), (q4, .inl (ac 0, 300, .inl (fun _ => 0))), (q5, .inl (ac 0, 12, .inl (fun _ => 0))), (q6, .inl (ac 0, 12, .inl (fun _ => 0))), (q7, .inl (ac 0, 12, .inl (fun _ => 0))), (q8, .inl (ac 0, 12, .inl (fun _ => 0))), (q9, .inr (4, [.ref p0, .int 0, .int 0, .int (-1), .int (-1), .int 0, .int 0, .int 0, .int 0, .int 0, .ref q10])), (q10, .inr (3, [.int 0, .ref q11, .ref q12])), (q11, .inl (ac 0, 20, .inl (fun _ => 0))), (q12, .inl (ac 1, 100, .inl (fun _ => 0)))]
set_option maxRecDepth 100000 in
set_option maxHeartbeats 4000000 in
theorem b_X1 (l : Launch) (D : va_G) (ac : Nat → ClassId) (h0 : Nat) (p0 : Nat) : BCon l yX1_init cX1_init 2 { frames := 3, cells := 12, slots := 1382, locals := 54 } D ac h0 (.inr (1, [.null, .int 0, .int 0, .int 0, .int 0, .int 0, .null, .null, .null, .null, .null, .null, .null, .null])) [.ref p0] (P_X1 ac h0 p0) 12 1382 := by
  intro sz
  unfold QcB
  refine Met.ofW (cc := cX1_init) (maxL := 2) (ret := none) (by decide) rfl ?_
  intro p e s m args below meth c s₁ B hml hv
  obtain ⟨rfl, hsz, hP, hD0, hK⟩ := hv
  have hx := B.exec
  have hb := B.bytes
  have hr := B.returns
  have hown : s.vm.findClass RX1 = some m.cls := findClass_of_methodNamed B.named
  have hlocks := B.notSynchronized
  have hin : meth.name = "<init>" := (name_of_methodNamed B.named B.method).1
  subst hsz
  have hD := hD0.self (sz := s.heap.size)
  generalize hAe : va_A [(h0, .inr (1, [.null, .int 0, .int 0, .int 0, .int 0, .int 0, .null, .null, .null, .null, .null, .null, .null, .null]))] s.heap.size = A at hD ⊢
  have hA : ∀ q : Nat, s.heap.size ≤ q → A q := fun q h => by rw [← hAe]; exact Or.inr h
  have hS : va_S A s.heap s.heap [] := va_S.rf
  have hl := lv_entry ([.ref h0, .ref p0]) (n := 2) (Nat.le_of_ble_eq_true rfl)
  rw [lg_entry_eq]
  generalize (lg_sl ([.ref h0, .ref p0]) ++ List.replicate (2 - (lg_sl ([.ref h0, .ref p0])).length) Slot.unset).toArray = ls at hl ⊢
  have hl : lv_has ls 2 [(0, .ref h0), (1, .ref p0)] := hl
  refine lv_aload_n hx hb dX1_init_0 rfl (lv_at hl 0 rfl) ?_
  refine W.objInit hx hb hown (hK.1.word wt_317 rfl _) (hK.1.word wt_28 rfl _) (hK.1.word wt_29 rfl _) rfl (by rw [hml]; exact hl.1) rfl dX1_init_1 (Nat.le_of_ble_eq_true rfl) (Nat.le_of_ble_eq_true rfl) ?_
  refine W.eq (g2 := F0 m 4 ls []) rfl ?_
  refine lv_aload_n hx hb dX1_init_4 rfl (lv_at hl 0 rfl) ?_
  refine lv_sipush (v := 300) hx hb dX1_init_5 (by decide) ?_
  refine b_newaL hx hb hK hP hD hS hA 300 (by decide) (by decide) (Nat.le_of_ble_eq_true rfl) (Nat.le_of_ble_eq_true rfl) (Nat.le_of_ble_eq_true rfl) dX1_init_8 (fun q1 H hP hD hS => ?_)
  have hP : va_P D vwCl [(h0, .inr (1, [.null, .int 0, .int 0, .int 0, .int 0, .int 0, .null, .null, .null, .null, .null, .null, .null, .null])), (q1, .inl (ac 2, 300, .inr (.inl (fun _ => 0))))] H := hP
  have hD : va_D A [(h0, .inr (1, [.null, .int 0, .int 0, .int 0, .int 0, .int 0, .null, .null, .null, .null, .null, .null, .null, .null])), (q1, .inl (ac 2, 300, .inr (.inl (fun _ => 0))))] := hD
  refine va_putF (D := D) (ci := 1) (v := .ref q1) (ty := (.array .long)) (C := RX1) (T := TX1) (N := 14) hx hb (Ts := u_ws RX1 TX1 14) (fun w hw => hK.1.word (inX1 w hw).1 (inX1 w hw).2 _) (fun _ h => h) tyX1 tyX1_ok nmX1 hown hK.1.1 hP hD hS 0 rfl rfl 6 (by decide) (hK.1.word wt_331 rfl _) (fun _ h9 => h9) rfl hin rfl (by decide +kernel) rfl rfl (Nat.le_of_ble_eq_true rfl) dX1_init_10 (fun H locs hP hD hS => ?_)
  have hP : va_P D vwCl [(h0, .inr (1, [.null, .int 0, .int 0, .int 0, .int 0, .int 0, .ref q1, .null, .null, .null, .null, .null, .null, .null])), (q1, .inl (ac 2, 300, .inr (.inl (fun _ => 0))))] H := hP
  have hD : va_D A [(h0, .inr (1, [.null, .int 0, .int 0, .int 0, .int 0, .int 0, .ref q1, .null, .null, .null, .null, .null, .null, .null])), (q1, .inl (ac 2, 300, .inr (.inl (fun _ => 0))))] := hD
  refine lv_aload_n hx hb dX1_init_13 rfl (lv_at hl 0 rfl) ?_
  refine lv_sipush (v := 300) hx hb dX1_init_14 (by decide) ?_
  refine b_newaI hx hb hK hP hD hS hA 300 (by decide) (by decide) (Nat.le_of_ble_eq_true rfl) (Nat.le_of_ble_eq_true rfl) (Nat.le_of_ble_eq_true rfl) dX1_init_17 (fun q2 H hP hD hS => ?_)
  have hP : va_P D vwCl [(h0, .inr (1, [.null, .int 0, .int 0, .int 0, .int 0, .int 0, .ref q1, .null, .null, .null, .null, .null, .null, .null])), (q1, .inl (ac 2, 300, .inr (.inl (fun _ => 0)))), (q2, .inl (ac 0, 300, .inl (fun _ => 0)))] H := hP
  have hD : va_D A [(h0, .inr (1, [.null, .int 0, .int 0, .int 0, .int 0, .int 0, .ref q1, .null, .null, .null, .null, .null, .null, .null])), (q1, .inl (ac 2, 300, .inr (.inl (fun _ => 0)))), (q2, .inl (ac 0, 300, .inl (fun _ => 0)))] := hD
  refine va_putF (D := D) (ci := 1) (v := .ref q2) (ty := (.array .int)) (C := RX1) (T := TX1) (N := 14) hx hb (Ts := u_ws RX1 TX1 14) (fun w hw => hK.1.word (inX1 w hw).1 (inX1 w hw).2 _) (fun _ h => h) tyX1 tyX1_ok nmX1 hown hK.1.1 hP hD hS 0 rfl rfl 7 (by decide) (hK.1.word wt_332 rfl _) (fun _ h9 => h9) rfl hin rfl (by decide +kernel) rfl rfl (Nat.le_of_ble_eq_true rfl) dX1_init_19 (fun H locs hP hD hS => ?_)
  have hP : va_P D vwCl [(h0, .inr (1, [.null, .int 0, .int 0, .int 0, .int 0, .int 0, .ref q1, .ref q2, .null, .null, .null, .null, .null, .null])), (q1, .inl (ac 2, 300, .inr (.inl (fun _ => 0)))), (q2, .inl (ac 0, 300, .inl (fun _ => 0)))] H := hP
  have hD : va_D A [(h0, .inr (1, [.null, .int 0, .int 0, .int 0, .int 0, .int 0, .ref q1, .ref q2, .null, .null, .null, .null, .null, .null])), (q1, .inl (ac 2, 300, .inr (.inl (fun _ => 0)))), (q2, .inl (ac 0, 300, .inl (fun _ => 0)))] := hD
  refine lv_aload_n hx hb dX1_init_22 rfl (lv_at hl 0 rfl) ?_
  refine lv_sipush (v := 300) hx hb dX1_init_23 (by decide) ?_
  refine b_newaI hx hb hK hP hD hS hA 300 (by decide) (by decide) (Nat.le_of_ble_eq_true rfl) (Nat.le_of_ble_eq_true rfl) (Nat.le_of_ble_eq_true rfl) dX1_init_26 (fun q3 H hP hD hS => ?_)
  have hP : va_P D vwCl [(h0, .inr (1, [.null, .int 0, .int 0, .int 0, .int 0, .int 0, .ref q1, .ref q2, .null, .null, .null, .null, .null, .null])), (q1, .inl (ac 2, 300, .inr (.inl (fun _ => 0)))), (q2, .inl (ac 0, 300, .inl (fun _ => 0))), (q3, .inl (ac 0, 300, .inl (fun _ => 0)))] H := hP
  have hD : va_D A [(h0, .inr (1, [.null, .int 0, .int 0, .int 0, .int 0, .int 0, .ref q1, .ref q2, .null, .null, .null, .null, .null, .null])), (q1, .inl (ac 2, 300, .inr (.inl (fun _ => 0)))), (q2, .inl (ac 0, 300, .inl (fun _ => 0))), (q3, .inl (ac 0, 300, .inl (fun _ => 0)))] := hD
  refine va_putF (D := D) (ci := 1) (v := .ref q3) (ty := (.array .int)) (C := RX1) (T := TX1) (N := 14) hx hb (Ts := u_ws RX1 TX1 14) (fun w hw => hK.1.word (inX1 w hw).1 (inX1 w hw).2 _) (fun _ h => h) tyX1 tyX1_ok nmX1 hown hK.1.1 hP hD hS 0 rfl rfl 8 (by decide) (hK.1.word wt_333 rfl _) (fun _ h9 => h9) rfl hin rfl (by decide +kernel) rfl rfl (Nat.le_of_ble_eq_true rfl) dX1_init_28 (fun H locs hP hD hS => ?_)
  have hP : va_P D vwCl [(h0, .inr (1, [.null, .int 0, .int 0, .int 0, .int 0, .int 0, .ref q1, .ref q2, .ref q3, .null, .null, .null, .null, .null])), (q1, .inl (ac 2, 300, .inr (.inl (fun _ => 0)))), (q2, .inl (ac 0, 300, .inl (fun _ => 0))), (q3, .inl (ac 0, 300, .inl (fun _ => 0)))] H := hP
  have hD : va_D A [(h0, .inr (1, [.null, .int 0, .int 0, .int 0, .int 0, .int 0, .ref q1, .ref q2, .ref q3, .null, .null, .null, .null, .null])), (q1, .inl (ac 2, 300, .inr (.inl (fun _ => 0)))), (q2, .inl (ac 0, 300, .inl (fun _ => 0))), (q3, .inl (ac 0, 300, .inl (fun _ => 0)))] := hD
  refine lv_aload_n hx hb dX1_init_31 rfl (lv_at hl 0 rfl) ?_
  refine lv_sipush (v := 300) hx hb dX1_init_32 (by decide) ?_
  refine b_newaI hx hb hK hP hD hS hA 300 (by decide) (by decide) (Nat.le_of_ble_eq_true rfl) (Nat.le_of_ble_eq_true rfl) (Nat.le_of_ble_eq_true rfl) dX1_init_35 (fun q4 H hP hD hS => ?_)
  have hP : va_P D vwCl [(h0, .inr (1, [.null, .int 0, .int 0, .int 0, .int 0, .int 0, .ref q1, .ref q2, .ref q3, .null, .null, .null, .null, .null])), (q1, .inl (ac 2, 300, .inr (.inl (fun _ => 0)))), (q2, .inl (ac 0, 300, .inl (fun _ => 0))), (q3, .inl (ac 0, 300, .inl (fun _ => 0))), (q4, .inl (ac 0, 300, .inl (fun _ => 0)))] H := hP
  have hD : va_D A [(h0, .inr (1, [.null, .int 0, .int 0, .int 0, .int 0, .int 0, .ref q1, .ref q2, .ref q3, .null, .null, .null, .null, .null])), (q1, .inl (ac 2, 300, .inr (.inl (fun _ => 0)))), (q2, .inl (ac 0, 300, .inl (fun _ => 0))), (q3, .inl (ac 0, 300, .inl (fun _ => 0))), (q4, .inl (ac 0, 300, .inl (fun _ => 0)))] := hD
  refine va_putF (D := D) (ci := 1) (v := .ref q4) (ty := (.array .int)) (C := RX1) (T := TX1) (N := 14) hx hb (Ts := u_ws RX1 TX1 14) (fun w hw => hK.1.word (inX1 w hw).1 (inX1 w hw).2 _) (fun _ h => h) tyX1 tyX1_ok nmX1 hown hK.1.1 hP hD hS 0 rfl rfl 9 (by decide) (hK.1.word wt_334 rfl _) (fun _ h9 => h9) rfl hin rfl (by decide +kernel) rfl rfl (Nat.le_of_ble_eq_true rfl) dX1_init_37 (fun H locs hP hD hS => ?_)
  have hP : va_P D vwCl [(h0, .inr (1, [.null, .int 0, .int 0, .int 0, .int 0, .int 0, .ref q1, .ref q2, .ref q3, .ref q4, .null, .null, .null, .null])), (q1, .inl (ac 2, 300, .inr (.inl (fun _ => 0)))), (q2, .inl (ac 0, 300, .inl (fun _ => 0))), (q3, .inl (ac 0, 300, .inl (fun _ => 0))), (q4, .inl (ac 0, 300, .inl (fun _ => 0)))] H := hP
  have hD : va_D A [(h0, .inr (1, [.null, .int 0, .int 0, .int 0, .int 0, .int 0, .ref q1, .ref q2, .ref q3, .ref q4, .null, .null, .null, .null])), (q1, .inl (ac 2, 300, .inr (.inl (fun _ => 0)))), (q2, .inl (ac 0, 300, .inl (fun _ => 0))), (q3, .inl (ac 0, 300, .inl (fun _ => 0))), (q4, .inl (ac 0, 300, .inl (fun _ => 0)))] := hD
  refine lv_aload_n hx hb dX1_init_40 rfl (lv_at hl 0 rfl) ?_
  refine lv_bipush (v := 12) hx hb dX1_init_41 (by decide) ?_
  refine b_newaI hx hb hK hP hD hS hA 12 (by decide) (by decide) (Nat.le_of_ble_eq_true rfl) (Nat.le_of_ble_eq_true rfl) (Nat.le_of_ble_eq_true rfl) dX1_init_43 (fun q5 H hP hD hS => ?_)
  have hP : va_P D vwCl [(h0, .inr (1, [.null, .int 0, .int 0, .int 0, .int 0, .int 0, .ref q1, .ref q2, .ref q3, .ref q4, .null, .null, .null, .null])), (q1, .inl (ac 2, 300, .inr (.inl (fun _ => 0)))), (q2, .inl (ac 0, 300, .inl (fun _ => 0))), (q3, .inl (ac 0, 300, .inl (fun _ => 0))), (q4, .inl (ac 0, 300, .inl (fun _ => 0))), (q5, .inl (ac 0, 12, .inl (fun _ => 0)))] H := hP
  have hD : va_D A [(h0, .inr (1, [.null, .int 0, .int 0, .int 0, .int 0, .int 0, .ref q1, .ref q2, .ref q3, .ref q4, .null, .null, .null, .null])), (q1, .inl (ac 2, 300, .inr (.inl (fun _ => 0)))), (q2, .inl (ac 0, 300, .inl (fun _ => 0))), (q3, .inl (ac 0, 300, .inl (fun _ => 0))), (q4, .inl (ac 0, 300, .inl (fun _ => 0))), (q5, .inl (ac 0, 12, .inl (fun _ => 0)))] := hD
  refine va_putF (D := D) (ci := 1) (v := .ref q5) (ty := (.array .int)) (C := RX1) (T := TX1) (N := 14) hx hb (Ts := u_ws RX1 TX1 14) (fun w hw => hK.1.word (inX1 w hw).1 (inX1 w hw).2 _) (fun _ h => h) tyX1 tyX1_ok nmX1 hown hK.1.1 hP hD hS 0 rfl rfl 10 (by decide) (hK.1.word wt_335 rfl _) (fun _ h9 => h9) rfl hin rfl (by decide +kernel) rfl rfl (Nat.le_of_ble_eq_true rfl) dX1_init_45 (fun H locs hP hD hS => ?_)
  have hP : va_P D vwCl [(h0, .inr (1, [.null, .int 0, .int 0, .int 0, .int 0, .int 0, .ref q1, .ref q2, .ref q3, .ref q4, .ref q5, .null, .null, .null])), (q1, .inl (ac 2, 300, .inr (.inl (fun _ => 0)))), (q2, .inl (ac 0, 300, .inl (fun _ => 0))), (q3, .inl (ac 0, 300, .inl (fun _ => 0))), (q4, .inl (ac 0, 300, .inl (fun _ => 0))), (q5, .inl (ac 0, 12, .inl (fun _ => 0)))] H := hP
  have hD : va_D A [(h0, .inr (1, [.null, .int 0, .int 0, .int 0, .int 0, .int 0, .ref q1, .ref q2, .ref q3, .ref q4, .ref q5, .null, .null, .null])), (q1, .inl (ac 2, 300, .inr (.inl (fun _ => 0)))), (q2, .inl (ac 0, 300, .inl (fun _ => 0))), (q3, .inl (ac 0, 300, .inl (fun _ => 0))), (q4, .inl (ac 0, 300, .inl (fun _ => 0))), (q5, .inl (ac 0, 12, .inl (fun _ => 0)))] := hD
  refine lv_aload_n hx hb dX1_init_48 rfl (lv_at hl 0 rfl) ?_
  refine lv_bipush (v := 12) hx hb dX1_init_49 (by decide) ?_
  refine b_newaI hx hb hK hP hD hS hA 12 (by decide) (by decide) (Nat.le_of_ble_eq_true rfl) (Nat.le_of_ble_eq_true rfl) (Nat.le_of_ble_eq_true rfl) dX1_init_51 (fun q6 H hP hD hS => ?_)
  have hP : va_P D vwCl [(h0, .inr (1, [.null, .int 0, .int 0, .int 0, .int 0, .int 0, .ref q1, .ref q2, .ref q3, .ref q4, .ref q5, .null, .null, .null])), (q1, .inl (ac 2, 300, .inr (.inl (fun _ => 0)))), (q2, .inl (ac 0, 300, .inl (fun _ => 0))), (q3, .inl (ac 0, 300, .inl (fun _ => 0))), (q4, .inl (ac 0, 300, .inl (fun _ => 0))), (q5, .inl (ac 0, 12, .inl (fun _ => 0))), (q6, .inl (ac 0, 12, .inl (fun _ => 0)))] H := hP
  have hD : va_D A [(h0, .inr (1, [.null, .int 0, .int 0, .int 0, .int 0, .int 0, .ref q1, .ref q2, .ref q3, .ref q4, .ref q5, .null, .null, .null])), (q1, .inl (ac 2, 300, .inr (.inl (fun _ => 0)))), (q2, .inl (ac 0, 300, .inl (fun _ => 0))), (q3, .inl (ac 0, 300, .inl (fun _ => 0))), (q4, .inl (ac 0, 300, .inl (fun _ => 0))), (q5, .inl (ac 0, 12, .inl (fun _ => 0))), (q6, .inl (ac 0, 12, .inl (fun _ => 0)))] := hD
  refine va_putF (D := D) (ci := 1) (v := .ref q6) (ty := (.array .int)) (C := RX1) (T := TX1) (N := 14) hx hb (Ts := u_ws RX1 TX1 14) (fun w hw => hK.1.word (inX1 w hw).1 (inX1 w hw).2 _) (fun _ h => h) tyX1 tyX1_ok nmX1 hown hK.1.1 hP hD hS 0 rfl rfl 11 (by decide) (hK.1.word wt_337 rfl _) (fun _ h9 => h9) rfl hin rfl (by decide +kernel) rfl rfl (Nat.le_of_ble_eq_true rfl) dX1_init_53 (fun H locs hP hD hS => ?_)
  have hP : va_P D vwCl [(h0, .inr (1, [.null, .int 0, .int 0, .int 0, .int 0, .int 0, .ref q1, .ref q2, .ref q3, .ref q4, .ref q5, .ref q6, .null, .null])), (q1, .inl (ac 2, 300, .inr (.inl (fun _ => 0)))), (q2, .inl (ac 0, 300, .inl (fun _ => 0))), (q3, .inl (ac 0, 300, .inl (fun _ => 0))), (q4, .inl (ac 0, 300, .inl (fun _ => 0))), (q5, .inl (ac 0, 12, .inl (fun _ => 0))), (q6, .inl (ac 0, 12, .inl (fun _ => 0)))] H := hP
  have hD : va_D A [(h0, .inr (1, [.null, .int 0, .int 0, .int 0, .int 0, .int 0, .ref q1, .ref q2, .ref q3, .ref q4, .ref q5, .ref q6, .null, .null])), (q1, .inl (ac 2, 300, .inr (.inl (fun _ => 0)))), (q2, .inl (ac 0, 300, .inl (fun _ => 0))), (q3, .inl (ac 0, 300, .inl (fun _ => 0))), (q4, .inl (ac 0, 300, .inl (fun _ => 0))), (q5, .inl (ac 0, 12, .inl (fun _ => 0))), (q6, .inl (ac 0, 12, .inl (fun _ => 0)))] := hD
  refine lv_aload_n hx hb dX1_init_56 rfl (lv_at hl 0 rfl) ?_
  refine lv_bipush (v := 12) hx hb dX1_init_57 (by decide) ?_
  refine b_newaI hx hb hK hP hD hS hA 12 (by decide) (by decide) (Nat.le_of_ble_eq_true rfl) (Nat.le_of_ble_eq_true rfl) (Nat.le_of_ble_eq_true rfl) dX1_init_59 (fun q7 H hP hD hS => ?_)
  have hP : va_P D vwCl [(h0, .inr (1, [.null, .int 0, .int 0, .int 0, .int 0, .int 0, .ref q1, .ref q2, .ref q3, .ref q4, .ref q5, .ref q6, .null, .null])), (q1, .inl (ac 2, 300, .inr (.inl (fun _ => 0)))), (q2, .inl (ac 0, 300, .inl (fun _ => 0))), (q3, .inl (ac 0, 300, .inl (fun _ => 0))), (q4, .inl (ac 0, 300, .inl (fun _ => 0))), (q5, .inl (ac 0, 12, .inl (fun _ => 0))), (q6, .inl (ac 0, 12, .inl (fun _ => 0))), (q7, .inl (ac 0, 12, .inl (fun _ => 0)))] H := hP
  have hD : va_D A [(h0, .inr (1, [.null, .int 0, .int 0, .int 0, .int 0, .int 0, .ref q1, .ref q2, .ref q3, .ref q4, .ref q5, .ref q6, .null, .null])), (q1, .inl (ac 2, 300, .inr (.inl (fun _ => 0)))), (q2, .inl (ac 0, 300, .inl (fun _ => 0))), (q3, .inl (ac 0, 300, .inl (fun _ => 0))), (q4, .inl (ac 0, 300, .inl (fun _ => 0))), (q5, .inl (ac 0, 12, .inl (fun _ => 0))), (q6, .inl (ac 0, 12, .inl (fun _ => 0))), (q7, .inl (ac 0, 12, .inl (fun _ => 0)))] := hD
  refine va_putF (D := D) (ci := 1) (v := .ref q7) (ty := (.array .int)) (C := RX1) (T := TX1) (N := 14) hx hb (Ts := u_ws RX1 TX1 14) (fun w hw => hK.1.word (inX1 w hw).1 (inX1 w hw).2 _) (fun _ h => h) tyX1 tyX1_ok nmX1 hown hK.1.1 hP hD hS 0 rfl rfl 12 (by decide) (hK.1.word wt_338 rfl _) (fun _ h9 => h9) rfl hin rfl (by decide +kernel) rfl rfl (Nat.le_of_ble_eq_true rfl) dX1_init_61 (fun H locs hP hD hS => ?_)
  have hP : va_P D vwCl [(h0, .inr (1, [.null, .int 0, .int 0, .int 0, .int 0, .int 0, .ref q1, .ref q2, .ref q3, .ref q4, .ref q5, .ref q6, .ref q7, .null])), (q1, .inl (ac 2, 300, .inr (.inl (fun _ => 0)))), (q2, .inl (ac 0, 300, .inl (fun _ => 0))), (q3, .inl (ac 0, 300, .inl (fun _ => 0))), (q4, .inl (ac 0, 300, .inl (fun _ => 0))), (q5, .inl (ac 0, 12, .inl (fun _ => 0))), (q6, .inl (ac 0, 12, .inl (fun _ => 0))), (q7, .inl (ac 0, 12, .inl (fun _ => 0)))] H := hP
  have hD : va_D A [(h0, .inr (1, [.null, .int 0, .int 0, .int 0, .int 0, .int 0, .ref q1, .ref q2, .ref q3, .ref q4, .ref q5, .ref q6, .ref q7, .null])), (q1, .inl (ac 2, 300, .inr (.inl (fun _ => 0)))), (q2, .inl (ac 0, 300, .inl (fun _ => 0))), (q3, .inl (ac 0, 300, .inl (fun _ => 0))), (q4, .inl (ac 0, 300, .inl (fun _ => 0))), (q5, .inl (ac 0, 12, .inl (fun _ => 0))), (q6, .inl (ac 0, 12, .inl (fun _ => 0))), (q7, .inl (ac 0, 12, .inl (fun _ => 0)))] := hD
  refine lv_aload_n hx hb dX1_init_64 rfl (lv_at hl 0 rfl) ?_
  refine lv_bipush (v := 12) hx hb dX1_init_65 (by decide) ?_
  refine b_newaI hx hb hK hP hD hS hA 12 (by decide) (by decide) (Nat.le_of_ble_eq_true rfl) (Nat.le_of_ble_eq_true rfl) (Nat.le_of_ble_eq_true rfl) dX1_init_67 (fun q8 H hP hD hS => ?_)
  have hP : va_P D vwCl [(h0, .inr (1, [.null, .int 0, .int 0, .int 0, .int 0, .int 0, .ref q1, .ref q2, .ref q3, .ref q4, .ref q5, .ref q6, .ref q7, .null])), (q1, .inl (ac 2, 300, .inr (.inl (fun _ => 0)))), (q2, .inl (ac 0, 300, .inl (fun _ => 0))), (q3, .inl (ac 0, 300, .inl (fun _ => 0))), (q4, .inl (ac 0, 300, .inl (fun _ => 0))), (q5, .inl (ac 0, 12, .inl (fun _ => 0))), (q6, .inl (ac 0, 12, .inl (fun _ => 0))), (q7, .inl (ac 0, 12, .inl (fun _ => 0))), (q8, .inl (ac 0, 12, .inl (fun _ => 0)))] H := hP
  have hD : va_D A [(h0, .inr (1, [.null, .int 0, .int 0, .int 0, .int 0, .int 0, .ref q1, .ref q2, .ref q3, .ref q4, .ref q5, .ref q6, .ref q7, .null])), (q1, .inl (ac 2, 300, .inr (.inl (fun _ => 0)))), (q2, .inl (ac 0, 300, .inl (fun _ => 0))), (q3, .inl (ac 0, 300, .inl (fun _ => 0))), (q4, .inl (ac 0, 300, .inl (fun _ => 0))), (q5, .inl (ac 0, 12, .inl (fun _ => 0))), (q6, .inl (ac 0, 12, .inl (fun _ => 0))), (q7, .inl (ac 0, 12, .inl (fun _ => 0))), (q8, .inl (ac 0, 12, .inl (fun _ => 0)))] := hD
  refine va_putF (D := D) (ci := 1) (v := .ref q8) (ty := (.array .int)) (C := RX1) (T := TX1) (N := 14) hx hb (Ts := u_ws RX1 TX1 14) (fun w hw => hK.1.word (inX1 w hw).1 (inX1 w hw).2 _) (fun _ h => h) tyX1 tyX1_ok nmX1 hown hK.1.1 hP hD hS 0 rfl rfl 13 (by decide) (hK.1.word wt_339 rfl _) (fun _ h9 => h9) rfl hin rfl (by decide +kernel) rfl rfl (Nat.le_of_ble_eq_true rfl) dX1_init_69 (fun H locs hP hD hS => ?_)
  have hP : va_P D vwCl [(h0, .inr (1, [.null, .int 0, .int 0, .int 0, .int 0, .int 0, .ref q1, .ref q2, .ref q3, .ref q4, .ref q5, .ref q6, .ref q7, .ref q8])), (q1, .inl (ac 2, 300, .inr (.inl (fun _ => 0)))), (q2, .inl (ac 0, 300, .inl (fun _ => 0))), (q3, .inl (ac 0, 300, .inl (fun _ => 0))), (q4, .inl (ac 0, 300, .inl (fun _ => 0))), (q5, .inl (ac 0, 12, .inl (fun _ => 0))), (q6, .inl (ac 0, 12, .inl (fun _ => 0))), (q7, .inl (ac 0, 12, .inl (fun _ => 0))), (q8, .inl (ac 0, 12, .inl (fun _ => 0)))] H := hP
  have hD : va_D A [(h0, .inr (1, [.null, .int 0, .int 0, .int 0, .int 0, .int 0, .ref q1, .ref q2, .ref q3, .ref q4, .ref q5, .ref q6, .ref q7, .ref q8])), (q1, .inl (ac 2, 300, .inr (.inl (fun _ => 0)))), (q2, .inl (ac 0, 300, .inl (fun _ => 0))), (q3, .inl (ac 0, 300, .inl (fun _ => 0))), (q4, .inl (ac 0, 300, .inl (fun _ => 0))), (q5, .inl (ac 0, 12, .inl (fun _ => 0))), (q6, .inl (ac 0, 12, .inl (fun _ => 0))), (q7, .inl (ac 0, 12, .inl (fun _ => 0))), (q8, .inl (ac 0, 12, .inl (fun _ => 0)))] := hD
  refine lv_aload_n hx hb dX1_init_72 rfl (lv_at hl 0 rfl) ?_
  refine va_new (ci := 4) (fs := [.null, .int 0, .int 0, .int 0, .int 0, .int 0, .int 0, .int 0, .int 0, .int 0, .null]) (C := RX5) (T := TX5) (N := 11) hx hb (Ts := u_ws RX5 TX5 11) (fun w hw => hK.1.word (inX5 w hw).1 (inX5 w hw).2 _) (fun _ h => h) tyX5 tyX5_ok hown (hK.1.word wt_318 rfl _) (hK.1.word wt_216 rfl _) (hK.1.word wt_5 rfl _) hK.1.1 hP hD hS hA rfl (fun j hj => match j, hj with | 0, _ => rfl | 1, _ => rfl | 2, _ => rfl | 3, _ => rfl | 4, _ => rfl | 5, _ => rfl | 6, _ => rfl | 7, _ => rfl | 8, _ => rfl | 9, _ => rfl | 10, _ => rfl | (j + 11), hj => absurd hj (by omega)) (Nat.le_of_ble_eq_true rfl) (Nat.le_of_ble_eq_true rfl) dX1_init_73 (fun q9 H hP hD hS => ?_)
  refine lv_dup hx hb dX1_init_76 rfl ?_
  refine lv_aload_n hx hb dX1_init_77 rfl (lv_at hl 1 rfl) ?_
  refine b_call (rest := [.ref q9, .ref h0]) hx hb hml hown hK hP hD hS hA bi_X1_39 (b_X5 l D ac q9 p0) ⟨rfl, rfl, Nat.le_of_ble_eq_true rfl, Nat.le_of_ble_eq_true rfl⟩ rfl hl.1 rfl (Nat.le_of_ble_eq_true rfl) dX1_init_78 ⟨Nat.le_of_ble_eq_true rfl, Nat.le_of_ble_eq_true rfl⟩ (fun w9 H locs hw hP hD hS => ?_)
  obtain ⟨q10, q11, q12, rfl⟩ := hw
  have hP : va_P D vwCl [(h0, .inr (1, [.null, .int 0, .int 0, .int 0, .int 0, .int 0, .ref q1, .ref q2, .ref q3, .ref q4, .ref q5, .ref q6, .ref q7, .ref q8])), (q1, .inl (ac 2, 300, .inr (.inl (fun _ => 0)))), (q2, .inl (ac 0, 300, .inl (fun _ => 0))), (q3, .inl (ac 0, 300, .inl (fun _ => 0))), (q4, .inl (ac 0, 300, .inl (fun _ => 0))), (q5, .inl (ac 0, 12, .inl (fun _ => 0))), (q6, .inl (ac 0, 12, .inl (fun _ => 0))), (q7, .inl (ac 0, 12, .inl (fun _ => 0))), (q8, .inl (ac 0, 12, .inl (fun _ => 0))), (q9, .inr (4, [.ref p0, .int 0, .int 0, .int (-1), .int (-1), .int 0, .int 0, .int 0, .int 0, .int 0, .ref q10])), (q10, .inr (3, [.int 0, .ref q11, .ref q12])), (q11, .inl (ac 0, 20, .inl (fun _ => 0))), (q12, .inl (ac 1, 100, .inl (fun _ => 0)))] H := hP
  have hD : va_D A [(h0, .inr (1, [.null, .int 0, .int 0, .int 0, .int 0, .int 0, .ref q1, .ref q2, .ref q3, .ref q4, .ref q5, .ref q6, .ref q7, .ref q8])), (q1, .inl (ac 2, 300, .inr (.inl (fun _ => 0)))), (q2, .inl (ac 0, 300, .inl (fun _ => 0))), (q3, .inl (ac 0, 300, .inl (fun _ => 0))), (q4, .inl (ac 0, 300, .inl (fun _ => 0))), (q5, .inl (ac 0, 12, .inl (fun _ => 0))), (q6, .inl (ac 0, 12, .inl (fun _ => 0))), (q7, .inl (ac 0, 12, .inl (fun _ => 0))), (q8, .inl (ac 0, 12, .inl (fun _ => 0))), (q9, .inr (4, [.ref p0, .int 0, .int 0, .int (-1), .int (-1), .int 0, .int 0, .int 0, .int 0, .int 0, .ref q10])), (q10, .inr (3, [.int 0, .ref q11, .ref q12])), (q11, .inl (ac 0, 20, .inl (fun _ => 0))), (q12, .inl (ac 1, 100, .inl (fun _ => 0)))] := hD
  refine va_putF (D := D) (ci := 1) (v := .ref q9) (ty := (.object "BranchingStory$Play")) (C := RX1) (T := TX1) (N := 14) hx hb (Ts := u_ws RX1 TX1 14) (fun w hw => hK.1.word (inX1 w hw).1 (inX1 w hw).2 _) (fun _ h => h) tyX1 tyX1_ok nmX1 hown hK.1.1 hP hD hS 0 rfl rfl 0 (by decide) (hK.1.word wt_320 rfl _) (fun _ h9 => h9) rfl hin rfl (by decide +kernel) rfl rfl (Nat.le_of_ble_eq_true rfl) dX1_init_81 (fun H locs hP hD hS => ?_)
  have hP : va_P D vwCl [(h0, .inr (1, [.ref q9, .int 0, .int 0, .int 0, .int 0, .int 0, .ref q1, .ref q2, .ref q3, .ref q4, .ref q5, .ref q6, .ref q7, .ref q8])), (q1, .inl (ac 2, 300, .inr (.inl (fun _ => 0)))), (q2, .inl (ac 0, 300, .inl (fun _ => 0))), (q3, .inl (ac 0, 300, .inl (fun _ => 0))), (q4, .inl (ac 0, 300, .inl (fun _ => 0))), (q5, .inl (ac 0, 12, .inl (fun _ => 0))), (q6, .inl (ac 0, 12, .inl (fun _ => 0))), (q7, .inl (ac 0, 12, .inl (fun _ => 0))), (q8, .inl (ac 0, 12, .inl (fun _ => 0))), (q9, .inr (4, [.ref p0, .int 0, .int 0, .int (-1), .int (-1), .int 0, .int 0, .int 0, .int 0, .int 0, .ref q10])), (q10, .inr (3, [.int 0, .ref q11, .ref q12])), (q11, .inl (ac 0, 20, .inl (fun _ => 0))), (q12, .inl (ac 1, 100, .inl (fun _ => 0)))] H := hP
  have hD : va_D A [(h0, .inr (1, [.ref q9, .int 0, .int 0, .int 0, .int 0, .int 0, .ref q1, .ref q2, .ref q3, .ref q4, .ref q5, .ref q6, .ref q7, .ref q8])), (q1, .inl (ac 2, 300, .inr (.inl (fun _ => 0)))), (q2, .inl (ac 0, 300, .inl (fun _ => 0))), (q3, .inl (ac 0, 300, .inl (fun _ => 0))), (q4, .inl (ac 0, 300, .inl (fun _ => 0))), (q5, .inl (ac 0, 12, .inl (fun _ => 0))), (q6, .inl (ac 0, 12, .inl (fun _ => 0))), (q7, .inl (ac 0, 12, .inl (fun _ => 0))), (q8, .inl (ac 0, 12, .inl (fun _ => 0))), (q9, .inr (4, [.ref p0, .int 0, .int 0, .int (-1), .int (-1), .int 0, .int 0, .int 0, .int 0, .int 0, .ref q10])), (q10, .inr (3, [.int 0, .ref q11, .ref q12])), (q11, .inl (ac 0, 20, .inl (fun _ => 0))), (q12, .inl (ac 1, 100, .inl (fun _ => 0)))] := hD
  refine W.widen (k := 12) (n := 1382) (Nat.le_of_ble_eq_true rfl) (Nat.le_of_ble_eq_true rfl) ?_
  exact W.vret hx hb hr (fun t ht hW => ⟨⟨_, rfl, ⟨q1, q2, q3, q4, q5, q6, q7, q8, q9, q10, q11, q12, rfl⟩, by rw [ht]; exact hP, hD⟩, hS.F ht⟩) hS.2.2 dX1_init_84
def P_X0 (ac : Nat → ClassId) (h0 : Nat) (p0 : Nat) (w : va_W) : Prop := ∃ q1 q2 q3 q4 q5 q6 : Nat, w = [(h0, .inr (0, [.ref p0, .int 0, .int 0, .ref q1, .ref q2, .ref q3, .ref q4, .ref q5, .ref q6, .int 0, .int 0])), (q1, .inl (ac 2, 12, .inr (.inl (fun _ => 0)))), (q2, .inl (ac 2, 16, .inr (.inl (fun _ => 0)))), (q3, .inl (ac 2, 400, .inr (.inl (fun _ => 0)))), (q4, .inl (ac 0, 400, .inl (fun _ => 0))), (q5, .inl (ac 0, 400, .inl (fun _ => 0))), (q6, .inl (ac 0, 16, .inl (fun _ => 0)))]
set_option maxRecDepth 100000 in
set_option maxHeartbeats 4000000 in
theorem b_X0 (l : Launch) (D : va_G) (ac : Nat → ClassId) (h0 : Nat) (p0 : Nat) : BCon l yX0_init cX0_init 2 { frames := 1, cells := 6, slots := 1244, locals := 13 } D ac h0 (.inr (0, [.null, .int 0, .int 0, .null, .null, .null, .null, .null, .null, .int 0, .int 0])) [.ref p0] (P_X0 ac h0 p0) 6 1244 := by
  intro sz
  unfold QcB
  refine Met.ofW (cc := cX0_init) (maxL := 2) (ret := none) (by decide) rfl ?_
  intro p e s m args below meth c s₁ B hml hv
  obtain ⟨rfl, hsz, hP, hD0, hK⟩ := hv
  have hx := B.exec
  have hb := B.bytes
  have hr := B.returns
  have hown : s.vm.findClass RX0 = some m.cls := findClass_of_methodNamed B.named
  have hlocks := B.notSynchronized
  have hin : meth.name = "<init>" := (name_of_methodNamed B.named B.method).1
  subst hsz
  have hD := hD0.self (sz := s.heap.size)
  generalize hAe : va_A [(h0, .inr (0, [.null, .int 0, .int 0, .null, .null, .null, .null, .null, .null, .int 0, .int 0]))] s.heap.size = A at hD ⊢
  have hA : ∀ q : Nat, s.heap.size ≤ q → A q := fun q h => by rw [← hAe]; exact Or.inr h
  have hS : va_S A s.heap s.heap [] := va_S.rf
  have hl := lv_entry ([.ref h0, .ref p0]) (n := 2) (Nat.le_of_ble_eq_true rfl)
  rw [lg_entry_eq]
  generalize (lg_sl ([.ref h0, .ref p0]) ++ List.replicate (2 - (lg_sl ([.ref h0, .ref p0])).length) Slot.unset).toArray = ls at hl ⊢
  have hl : lv_has ls 2 [(0, .ref h0), (1, .ref p0)] := hl
  refine lv_aload_n hx hb dX0_init_0 rfl (lv_at hl 0 rfl) ?_
  refine W.objInit hx hb hown (hK.1.word wt_375 rfl _) (hK.1.word wt_28 rfl _) (hK.1.word wt_29 rfl _) rfl (by rw [hml]; exact hl.1) rfl dX0_init_1 (Nat.le_of_ble_eq_true rfl) (Nat.le_of_ble_eq_true rfl) ?_
  refine W.eq (g2 := F0 m 4 ls []) rfl ?_
  refine lv_aload_n hx hb dX0_init_4 rfl (lv_at hl 0 rfl) ?_
  refine lv_bipush (v := 12) hx hb dX0_init_5 (by decide) ?_
  refine b_newaL hx hb hK hP hD hS hA 12 (by decide) (by decide) (Nat.le_of_ble_eq_true rfl) (Nat.le_of_ble_eq_true rfl) (Nat.le_of_ble_eq_true rfl) dX0_init_7 (fun q1 H hP hD hS => ?_)
  have hP : va_P D vwCl [(h0, .inr (0, [.null, .int 0, .int 0, .null, .null, .null, .null, .null, .null, .int 0, .int 0])), (q1, .inl (ac 2, 12, .inr (.inl (fun _ => 0))))] H := hP
  have hD : va_D A [(h0, .inr (0, [.null, .int 0, .int 0, .null, .null, .null, .null, .null, .null, .int 0, .int 0])), (q1, .inl (ac 2, 12, .inr (.inl (fun _ => 0))))] := hD
  refine va_putF (D := D) (ci := 0) (v := .ref q1) (ty := (.array .long)) (C := RX0) (T := TX0) (N := 11) hx hb (Ts := u_ws RX0 TX0 11) (fun w hw => hK.1.word (inX0 w hw).1 (inX0 w hw).2 _) (fun _ h => h) tyX0 tyX0_ok nmX0 hown hK.1.1 hP hD hS 0 rfl rfl 3 (by decide) (hK.1.word wt_380 rfl _) (fun _ h9 => h9) rfl hin rfl (by decide +kernel) rfl rfl (Nat.le_of_ble_eq_true rfl) dX0_init_9 (fun H locs hP hD hS => ?_)
  have hP : va_P D vwCl [(h0, .inr (0, [.null, .int 0, .int 0, .ref q1, .null, .null, .null, .null, .null, .int 0, .int 0])), (q1, .inl (ac 2, 12, .inr (.inl (fun _ => 0))))] H := hP
  have hD : va_D A [(h0, .inr (0, [.null, .int 0, .int 0, .ref q1, .null, .null, .null, .null, .null, .int 0, .int 0])), (q1, .inl (ac 2, 12, .inr (.inl (fun _ => 0))))] := hD
  refine lv_aload_n hx hb dX0_init_12 rfl (lv_at hl 0 rfl) ?_
  refine lv_bipush (v := 16) hx hb dX0_init_13 (by decide) ?_
  refine b_newaL hx hb hK hP hD hS hA 16 (by decide) (by decide) (Nat.le_of_ble_eq_true rfl) (Nat.le_of_ble_eq_true rfl) (Nat.le_of_ble_eq_true rfl) dX0_init_15 (fun q2 H hP hD hS => ?_)
  have hP : va_P D vwCl [(h0, .inr (0, [.null, .int 0, .int 0, .ref q1, .null, .null, .null, .null, .null, .int 0, .int 0])), (q1, .inl (ac 2, 12, .inr (.inl (fun _ => 0)))), (q2, .inl (ac 2, 16, .inr (.inl (fun _ => 0))))] H := hP
  have hD : va_D A [(h0, .inr (0, [.null, .int 0, .int 0, .ref q1, .null, .null, .null, .null, .null, .int 0, .int 0])), (q1, .inl (ac 2, 12, .inr (.inl (fun _ => 0)))), (q2, .inl (ac 2, 16, .inr (.inl (fun _ => 0))))] := hD
  refine va_putF (D := D) (ci := 0) (v := .ref q2) (ty := (.array .long)) (C := RX0) (T := TX0) (N := 11) hx hb (Ts := u_ws RX0 TX0 11) (fun w hw => hK.1.word (inX0 w hw).1 (inX0 w hw).2 _) (fun _ h => h) tyX0 tyX0_ok nmX0 hown hK.1.1 hP hD hS 0 rfl rfl 4 (by decide) (hK.1.word wt_382 rfl _) (fun _ h9 => h9) rfl hin rfl (by decide +kernel) rfl rfl (Nat.le_of_ble_eq_true rfl) dX0_init_17 (fun H locs hP hD hS => ?_)
  have hP : va_P D vwCl [(h0, .inr (0, [.null, .int 0, .int 0, .ref q1, .ref q2, .null, .null, .null, .null, .int 0, .int 0])), (q1, .inl (ac 2, 12, .inr (.inl (fun _ => 0)))), (q2, .inl (ac 2, 16, .inr (.inl (fun _ => 0))))] H := hP
  have hD : va_D A [(h0, .inr (0, [.null, .int 0, .int 0, .ref q1, .ref q2, .null, .null, .null, .null, .int 0, .int 0])), (q1, .inl (ac 2, 12, .inr (.inl (fun _ => 0)))), (q2, .inl (ac 2, 16, .inr (.inl (fun _ => 0))))] := hD
  refine lv_aload_n hx hb dX0_init_20 rfl (lv_at hl 0 rfl) ?_
  refine lv_sipush (v := 400) hx hb dX0_init_21 (by decide) ?_
  refine b_newaL hx hb hK hP hD hS hA 400 (by decide) (by decide) (Nat.le_of_ble_eq_true rfl) (Nat.le_of_ble_eq_true rfl) (Nat.le_of_ble_eq_true rfl) dX0_init_24 (fun q3 H hP hD hS => ?_)
  have hP : va_P D vwCl [(h0, .inr (0, [.null, .int 0, .int 0, .ref q1, .ref q2, .null, .null, .null, .null, .int 0, .int 0])), (q1, .inl (ac 2, 12, .inr (.inl (fun _ => 0)))), (q2, .inl (ac 2, 16, .inr (.inl (fun _ => 0)))), (q3, .inl (ac 2, 400, .inr (.inl (fun _ => 0))))] H := hP
  have hD : va_D A [(h0, .inr (0, [.null, .int 0, .int 0, .ref q1, .ref q2, .null, .null, .null, .null, .int 0, .int 0])), (q1, .inl (ac 2, 12, .inr (.inl (fun _ => 0)))), (q2, .inl (ac 2, 16, .inr (.inl (fun _ => 0)))), (q3, .inl (ac 2, 400, .inr (.inl (fun _ => 0))))] := hD
  refine va_putF (D := D) (ci := 0) (v := .ref q3) (ty := (.array .long)) (C := RX0) (T := TX0) (N := 11) hx hb (Ts := u_ws RX0 TX0 11) (fun w hw => hK.1.word (inX0 w hw).1 (inX0 w hw).2 _) (fun _ h => h) tyX0 tyX0_ok nmX0 hown hK.1.1 hP hD hS 0 rfl rfl 5 (by decide) (hK.1.word wt_384 rfl _) (fun _ h9 => h9) rfl hin rfl (by decide +kernel) rfl rfl (Nat.le_of_ble_eq_true rfl) dX0_init_26 (fun H locs hP hD hS => ?_)
  have hP : va_P D vwCl [(h0, .inr (0, [.null, .int 0, .int 0, .ref q1, .ref q2, .ref q3, .null, .null, .null, .int 0, .int 0])), (q1, .inl (ac 2, 12, .inr (.inl (fun _ => 0)))), (q2, .inl (ac 2, 16, .inr (.inl (fun _ => 0)))), (q3, .inl (ac 2, 400, .inr (.inl (fun _ => 0))))] H := hP
  have hD : va_D A [(h0, .inr (0, [.null, .int 0, .int 0, .ref q1, .ref q2, .ref q3, .null, .null, .null, .int 0, .int 0])), (q1, .inl (ac 2, 12, .inr (.inl (fun _ => 0)))), (q2, .inl (ac 2, 16, .inr (.inl (fun _ => 0)))), (q3, .inl (ac 2, 400, .inr (.inl (fun _ => 0))))] := hD
  refine lv_aload_n hx hb dX0_init_29 rfl (lv_at hl 0 rfl) ?_
  refine lv_sipush (v := 400) hx hb dX0_init_30 (by decide) ?_
  refine b_newaI hx hb hK hP hD hS hA 400 (by decide) (by decide) (Nat.le_of_ble_eq_true rfl) (Nat.le_of_ble_eq_true rfl) (Nat.le_of_ble_eq_true rfl) dX0_init_33 (fun q4 H hP hD hS => ?_)
  have hP : va_P D vwCl [(h0, .inr (0, [.null, .int 0, .int 0, .ref q1, .ref q2, .ref q3, .null, .null, .null, .int 0, .int 0])), (q1, .inl (ac 2, 12, .inr (.inl (fun _ => 0)))), (q2, .inl (ac 2, 16, .inr (.inl (fun _ => 0)))), (q3, .inl (ac 2, 400, .inr (.inl (fun _ => 0)))), (q4, .inl (ac 0, 400, .inl (fun _ => 0)))] H := hP
  have hD : va_D A [(h0, .inr (0, [.null, .int 0, .int 0, .ref q1, .ref q2, .ref q3, .null, .null, .null, .int 0, .int 0])), (q1, .inl (ac 2, 12, .inr (.inl (fun _ => 0)))), (q2, .inl (ac 2, 16, .inr (.inl (fun _ => 0)))), (q3, .inl (ac 2, 400, .inr (.inl (fun _ => 0)))), (q4, .inl (ac 0, 400, .inl (fun _ => 0)))] := hD
  refine va_putF (D := D) (ci := 0) (v := .ref q4) (ty := (.array .int)) (C := RX0) (T := TX0) (N := 11) hx hb (Ts := u_ws RX0 TX0 11) (fun w hw => hK.1.word (inX0 w hw).1 (inX0 w hw).2 _) (fun _ h => h) tyX0 tyX0_ok nmX0 hown hK.1.1 hP hD hS 0 rfl rfl 6 (by decide) (hK.1.word wt_385 rfl _) (fun _ h9 => h9) rfl hin rfl (by decide +kernel) rfl rfl (Nat.le_of_ble_eq_true rfl) dX0_init_35 (fun H locs hP hD hS => ?_)
  have hP : va_P D vwCl [(h0, .inr (0, [.null, .int 0, .int 0, .ref q1, .ref q2, .ref q3, .ref q4, .null, .null, .int 0, .int 0])), (q1, .inl (ac 2, 12, .inr (.inl (fun _ => 0)))), (q2, .inl (ac 2, 16, .inr (.inl (fun _ => 0)))), (q3, .inl (ac 2, 400, .inr (.inl (fun _ => 0)))), (q4, .inl (ac 0, 400, .inl (fun _ => 0)))] H := hP
  have hD : va_D A [(h0, .inr (0, [.null, .int 0, .int 0, .ref q1, .ref q2, .ref q3, .ref q4, .null, .null, .int 0, .int 0])), (q1, .inl (ac 2, 12, .inr (.inl (fun _ => 0)))), (q2, .inl (ac 2, 16, .inr (.inl (fun _ => 0)))), (q3, .inl (ac 2, 400, .inr (.inl (fun _ => 0)))), (q4, .inl (ac 0, 400, .inl (fun _ => 0)))] := hD
  refine lv_aload_n hx hb dX0_init_38 rfl (lv_at hl 0 rfl) ?_
  refine lv_sipush (v := 400) hx hb dX0_init_39 (by decide) ?_
  refine b_newaI hx hb hK hP hD hS hA 400 (by decide) (by decide) (Nat.le_of_ble_eq_true rfl) (Nat.le_of_ble_eq_true rfl) (Nat.le_of_ble_eq_true rfl) dX0_init_42 (fun q5 H hP hD hS => ?_)
  have hP : va_P D vwCl [(h0, .inr (0, [.null, .int 0, .int 0, .ref q1, .ref q2, .ref q3, .ref q4, .null, .null, .int 0, .int 0])), (q1, .inl (ac 2, 12, .inr (.inl (fun _ => 0)))), (q2, .inl (ac 2, 16, .inr (.inl (fun _ => 0)))), (q3, .inl (ac 2, 400, .inr (.inl (fun _ => 0)))), (q4, .inl (ac 0, 400, .inl (fun _ => 0))), (q5, .inl (ac 0, 400, .inl (fun _ => 0)))] H := hP
  have hD : va_D A [(h0, .inr (0, [.null, .int 0, .int 0, .ref q1, .ref q2, .ref q3, .ref q4, .null, .null, .int 0, .int 0])), (q1, .inl (ac 2, 12, .inr (.inl (fun _ => 0)))), (q2, .inl (ac 2, 16, .inr (.inl (fun _ => 0)))), (q3, .inl (ac 2, 400, .inr (.inl (fun _ => 0)))), (q4, .inl (ac 0, 400, .inl (fun _ => 0))), (q5, .inl (ac 0, 400, .inl (fun _ => 0)))] := hD
  refine va_putF (D := D) (ci := 0) (v := .ref q5) (ty := (.array .int)) (C := RX0) (T := TX0) (N := 11) hx hb (Ts := u_ws RX0 TX0 11) (fun w hw => hK.1.word (inX0 w hw).1 (inX0 w hw).2 _) (fun _ h => h) tyX0 tyX0_ok nmX0 hown hK.1.1 hP hD hS 0 rfl rfl 7 (by decide) (hK.1.word wt_386 rfl _) (fun _ h9 => h9) rfl hin rfl (by decide +kernel) rfl rfl (Nat.le_of_ble_eq_true rfl) dX0_init_44 (fun H locs hP hD hS => ?_)
  have hP : va_P D vwCl [(h0, .inr (0, [.null, .int 0, .int 0, .ref q1, .ref q2, .ref q3, .ref q4, .ref q5, .null, .int 0, .int 0])), (q1, .inl (ac 2, 12, .inr (.inl (fun _ => 0)))), (q2, .inl (ac 2, 16, .inr (.inl (fun _ => 0)))), (q3, .inl (ac 2, 400, .inr (.inl (fun _ => 0)))), (q4, .inl (ac 0, 400, .inl (fun _ => 0))), (q5, .inl (ac 0, 400, .inl (fun _ => 0)))] H := hP
  have hD : va_D A [(h0, .inr (0, [.null, .int 0, .int 0, .ref q1, .ref q2, .ref q3, .ref q4, .ref q5, .null, .int 0, .int 0])), (q1, .inl (ac 2, 12, .inr (.inl (fun _ => 0)))), (q2, .inl (ac 2, 16, .inr (.inl (fun _ => 0)))), (q3, .inl (ac 2, 400, .inr (.inl (fun _ => 0)))), (q4, .inl (ac 0, 400, .inl (fun _ => 0))), (q5, .inl (ac 0, 400, .inl (fun _ => 0)))] := hD
  refine lv_aload_n hx hb dX0_init_47 rfl (lv_at hl 0 rfl) ?_
  refine lv_bipush (v := 16) hx hb dX0_init_48 (by decide) ?_
  refine b_newaI hx hb hK hP hD hS hA 16 (by decide) (by decide) (Nat.le_of_ble_eq_true rfl) (Nat.le_of_ble_eq_true rfl) (Nat.le_of_ble_eq_true rfl) dX0_init_50 (fun q6 H hP hD hS => ?_)
  have hP : va_P D vwCl [(h0, .inr (0, [.null, .int 0, .int 0, .ref q1, .ref q2, .ref q3, .ref q4, .ref q5, .null, .int 0, .int 0])), (q1, .inl (ac 2, 12, .inr (.inl (fun _ => 0)))), (q2, .inl (ac 2, 16, .inr (.inl (fun _ => 0)))), (q3, .inl (ac 2, 400, .inr (.inl (fun _ => 0)))), (q4, .inl (ac 0, 400, .inl (fun _ => 0))), (q5, .inl (ac 0, 400, .inl (fun _ => 0))), (q6, .inl (ac 0, 16, .inl (fun _ => 0)))] H := hP
  have hD : va_D A [(h0, .inr (0, [.null, .int 0, .int 0, .ref q1, .ref q2, .ref q3, .ref q4, .ref q5, .null, .int 0, .int 0])), (q1, .inl (ac 2, 12, .inr (.inl (fun _ => 0)))), (q2, .inl (ac 2, 16, .inr (.inl (fun _ => 0)))), (q3, .inl (ac 2, 400, .inr (.inl (fun _ => 0)))), (q4, .inl (ac 0, 400, .inl (fun _ => 0))), (q5, .inl (ac 0, 400, .inl (fun _ => 0))), (q6, .inl (ac 0, 16, .inl (fun _ => 0)))] := hD
  refine va_putF (D := D) (ci := 0) (v := .ref q6) (ty := (.array .int)) (C := RX0) (T := TX0) (N := 11) hx hb (Ts := u_ws RX0 TX0 11) (fun w hw => hK.1.word (inX0 w hw).1 (inX0 w hw).2 _) (fun _ h => h) tyX0 tyX0_ok nmX0 hown hK.1.1 hP hD hS 0 rfl rfl 8 (by decide) (hK.1.word wt_387 rfl _) (fun _ h9 => h9) rfl hin rfl (by decide +kernel) rfl rfl (Nat.le_of_ble_eq_true rfl) dX0_init_52 (fun H locs hP hD hS => ?_)
  have hP : va_P D vwCl [(h0, .inr (0, [.null, .int 0, .int 0, .ref q1, .ref q2, .ref q3, .ref q4, .ref q5, .ref q6, .int 0, .int 0])), (q1, .inl (ac 2, 12, .inr (.inl (fun _ => 0)))), (q2, .inl (ac 2, 16, .inr (.inl (fun _ => 0)))), (q3, .inl (ac 2, 400, .inr (.inl (fun _ => 0)))), (q4, .inl (ac 0, 400, .inl (fun _ => 0))), (q5, .inl (ac 0, 400, .inl (fun _ => 0))), (q6, .inl (ac 0, 16, .inl (fun _ => 0)))] H := hP
  have hD : va_D A [(h0, .inr (0, [.null, .int 0, .int 0, .ref q1, .ref q2, .ref q3, .ref q4, .ref q5, .ref q6, .int 0, .int 0])), (q1, .inl (ac 2, 12, .inr (.inl (fun _ => 0)))), (q2, .inl (ac 2, 16, .inr (.inl (fun _ => 0)))), (q3, .inl (ac 2, 400, .inr (.inl (fun _ => 0)))), (q4, .inl (ac 0, 400, .inl (fun _ => 0))), (q5, .inl (ac 0, 400, .inl (fun _ => 0))), (q6, .inl (ac 0, 16, .inl (fun _ => 0)))] := hD
  refine lv_aload_n hx hb dX0_init_55 rfl (lv_at hl 0 rfl) ?_
  refine lv_aload_n hx hb dX0_init_56 rfl (lv_at hl 1 rfl) ?_
  refine va_put (D := D) (ci := 0) (v := .ref p0) (ty := (.object "BranchingStory$Story")) (C := RX0) (T := TX0) (N := 11) hx hb (Ts := u_ws RX0 TX0 11) (fun w hw => hK.1.word (inX0 w hw).1 (inX0 w hw).2 _) (fun _ h => h) tyX0 tyX0_ok nmX0 hown hK.1.1 hP hD hS 0 rfl rfl 0 (by decide) (hK.1.word wt_376 rfl _) (fun _ h9 => h9) rfl (by decide +kernel) rfl rfl (Nat.le_of_ble_eq_true rfl) dX0_init_57 (fun H locs hP hD hS => ?_)
  have hP : va_P D vwCl [(h0, .inr (0, [.ref p0, .int 0, .int 0, .ref q1, .ref q2, .ref q3, .ref q4, .ref q5, .ref q6, .int 0, .int 0])), (q1, .inl (ac 2, 12, .inr (.inl (fun _ => 0)))), (q2, .inl (ac 2, 16, .inr (.inl (fun _ => 0)))), (q3, .inl (ac 2, 400, .inr (.inl (fun _ => 0)))), (q4, .inl (ac 0, 400, .inl (fun _ => 0))), (q5, .inl (ac 0, 400, .inl (fun _ => 0))), (q6, .inl (ac 0, 16, .inl (fun _ => 0)))] H := hP
  have hD : va_D A [(h0, .inr (0, [.ref p0, .int 0, .int 0, .ref q1, .ref q2, .ref q3, .ref q4, .ref q5, .ref q6, .int 0, .int 0])), (q1, .inl (ac 2, 12, .inr (.inl (fun _ => 0)))), (q2, .inl (ac 2, 16, .inr (.inl (fun _ => 0)))), (q3, .inl (ac 2, 400, .inr (.inl (fun _ => 0)))), (q4, .inl (ac 0, 400, .inl (fun _ => 0))), (q5, .inl (ac 0, 400, .inl (fun _ => 0))), (q6, .inl (ac 0, 16, .inl (fun _ => 0)))] := hD
  refine W.widen (k := 6) (n := 1244) (Nat.le_of_ble_eq_true rfl) (Nat.le_of_ble_eq_true rfl) ?_
  exact W.vret hx hb hr (fun t ht hW => ⟨⟨_, rfl, ⟨q1, q2, q3, q4, q5, q6, rfl⟩, by rw [ht]; exact hP, hD⟩, hS.F ht⟩) hS.2.2 dX0_init_60
