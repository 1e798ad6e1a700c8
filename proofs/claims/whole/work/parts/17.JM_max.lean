abbrev cJM_max : ByteArray := prog_18_method_65_code
def yJM_max : MethodName := ⟨"java/lang/Math", "max", "(II)I"⟩
theorem dJM_max_0 : decode cJM_max 0 = .ok (.iload_n 0, 1) := by decide +kernel
theorem dJM_max_1 : decode cJM_max 1 = .ok (.iload_n 1, 1) := by decide +kernel
theorem dJM_max_2 : decode cJM_max 2 = .ok (.if_icmp .lt 7, 3) := by decide +kernel
theorem dJM_max_5 : decode cJM_max 5 = .ok (.iload_n 0, 1) := by decide +kernel
theorem dJM_max_6 : decode cJM_max 6 = .ok (.goto 4, 3) := by decide +kernel
theorem dJM_max_9 : decode cJM_max 9 = .ok (.iload_n 1, 1) := by decide +kernel
theorem dJM_max_10 : decode cJM_max 10 = .ok (.ireturn, 1) := by decide +kernel
abbrev cJM_min : ByteArray := prog_18_method_69_code
def yJM_min : MethodName := ⟨"java/lang/Math", "min", "(II)I"⟩
theorem dJM_min_0 : decode cJM_min 0 = .ok (.iload_n 0, 1) := by decide +kernel
theorem dJM_min_1 : decode cJM_min 1 = .ok (.iload_n 1, 1) := by decide +kernel
theorem dJM_min_2 : decode cJM_min 2 = .ok (.if_icmp .gt 7, 3) := by decide +kernel
theorem dJM_min_5 : decode cJM_min 5 = .ok (.iload_n 0, 1) := by decide +kernel
theorem dJM_min_6 : decode cJM_min 6 = .ok (.goto 4, 3) := by decide +kernel
theorem dJM_min_9 : decode cJM_min 9 = .ok (.iload_n 1, 1) := by decide +kernel
theorem dJM_min_10 : decode cJM_min 10 = .ok (.ireturn, 1) := by decide +kernel
abbrev cJM_floorMod : ByteArray := prog_18_method_50_code
def yJM_floorMod : MethodName := ⟨"java/lang/Math", "floorMod", "(II)I"⟩
theorem dJM_floorMod_0 : decode cJM_floorMod 0 = .ok (.iload_n 0, 1) := by decide +kernel
theorem dJM_floorMod_1 : decode cJM_floorMod 1 = .ok (.iload_n 1, 1) := by decide +kernel
theorem dJM_floorMod_2 : decode cJM_floorMod 2 = .ok (.irem, 1) := by decide +kernel
theorem dJM_floorMod_3 : decode cJM_floorMod 3 = .ok (.istore_n 2, 1) := by decide +kernel
theorem dJM_floorMod_4 : decode cJM_floorMod 4 = .ok (.iload_n 0, 1) := by decide +kernel
theorem dJM_floorMod_5 : decode cJM_floorMod 5 = .ok (.iload_n 1, 1) := by decide +kernel
theorem dJM_floorMod_6 : decode cJM_floorMod 6 = .ok (.ixor, 1) := by decide +kernel
theorem dJM_floorMod_7 : decode cJM_floorMod 7 = .ok (.ifCond .ge 11, 3) := by decide +kernel
theorem dJM_floorMod_10 : decode cJM_floorMod 10 = .ok (.iload_n 2, 1) := by decide +kernel
theorem dJM_floorMod_11 : decode cJM_floorMod 11 = .ok (.ifCond .eq 7, 3) := by decide +kernel
theorem dJM_floorMod_14 : decode cJM_floorMod 14 = .ok (.iload_n 2, 1) := by decide +kernel
theorem dJM_floorMod_15 : decode cJM_floorMod 15 = .ok (.iload_n 1, 1) := by decide +kernel
theorem dJM_floorMod_16 : decode cJM_floorMod 16 = .ok (.iadd, 1) := by decide +kernel
theorem dJM_floorMod_17 : decode cJM_floorMod 17 = .ok (.ireturn, 1) := by decide +kernel
theorem dJM_floorMod_18 : decode cJM_floorMod 18 = .ok (.iload_n 2, 1) := by decide +kernel
theorem dJM_floorMod_19 : decode cJM_floorMod 19 = .ok (.ireturn, 1) := by decide +kernel
abbrev cJI_bitCount : ByteArray := prog_17_method_49_code
def yJI_bitCount : MethodName := ⟨"java/lang/Integer", "bitCount", "(I)I"⟩
theorem dJI_bitCount_0 : decode cJI_bitCount 0 = .ok (.iload_n 0, 1) := by decide +kernel
theorem dJI_bitCount_1 : decode cJI_bitCount 1 = .ok (.iload_n 0, 1) := by decide +kernel
theorem dJI_bitCount_2 : decode cJI_bitCount 2 = .ok (.iconst 1, 1) := by decide +kernel
theorem dJI_bitCount_3 : decode cJI_bitCount 3 = .ok (.iushr, 1) := by decide +kernel
theorem dJI_bitCount_4 : decode cJI_bitCount 4 = .ok (.ldc_w 265, 3) := by decide +kernel
theorem dJI_bitCount_7 : decode cJI_bitCount 7 = .ok (.iand, 1) := by decide +kernel
theorem dJI_bitCount_8 : decode cJI_bitCount 8 = .ok (.isub, 1) := by decide +kernel
theorem dJI_bitCount_9 : decode cJI_bitCount 9 = .ok (.istore_n 0, 1) := by decide +kernel
theorem dJI_bitCount_10 : decode cJI_bitCount 10 = .ok (.iload_n 0, 1) := by decide +kernel
theorem dJI_bitCount_11 : decode cJI_bitCount 11 = .ok (.ldc_w 266, 3) := by decide +kernel
theorem dJI_bitCount_14 : decode cJI_bitCount 14 = .ok (.iand, 1) := by decide +kernel
theorem dJI_bitCount_15 : decode cJI_bitCount 15 = .ok (.iload_n 0, 1) := by decide +kernel
theorem dJI_bitCount_16 : decode cJI_bitCount 16 = .ok (.iconst 2, 1) := by decide +kernel
theorem dJI_bitCount_17 : decode cJI_bitCount 17 = .ok (.iushr, 1) := by decide +kernel
theorem dJI_bitCount_18 : decode cJI_bitCount 18 = .ok (.ldc_w 266, 3) := by decide +kernel
theorem dJI_bitCount_21 : decode cJI_bitCount 21 = .ok (.iand, 1) := by decide +kernel
theorem dJI_bitCount_22 : decode cJI_bitCount 22 = .ok (.iadd, 1) := by decide +kernel
theorem dJI_bitCount_23 : decode cJI_bitCount 23 = .ok (.istore_n 0, 1) := by decide +kernel
theorem dJI_bitCount_24 : decode cJI_bitCount 24 = .ok (.iload_n 0, 1) := by decide +kernel
theorem dJI_bitCount_25 : decode cJI_bitCount 25 = .ok (.iload_n 0, 1) := by decide +kernel
theorem dJI_bitCount_26 : decode cJI_bitCount 26 = .ok (.iconst 4, 1) := by decide +kernel
theorem dJI_bitCount_27 : decode cJI_bitCount 27 = .ok (.iushr, 1) := by decide +kernel
theorem dJI_bitCount_28 : decode cJI_bitCount 28 = .ok (.iadd, 1) := by decide +kernel
theorem dJI_bitCount_29 : decode cJI_bitCount 29 = .ok (.ldc_w 267, 3) := by decide +kernel
theorem dJI_bitCount_32 : decode cJI_bitCount 32 = .ok (.iand, 1) := by decide +kernel
theorem dJI_bitCount_33 : decode cJI_bitCount 33 = .ok (.istore_n 0, 1) := by decide +kernel
theorem dJI_bitCount_34 : decode cJI_bitCount 34 = .ok (.iload_n 0, 1) := by decide +kernel
theorem dJI_bitCount_35 : decode cJI_bitCount 35 = .ok (.iload_n 0, 1) := by decide +kernel
theorem dJI_bitCount_36 : decode cJI_bitCount 36 = .ok (.bipush 8, 2) := by decide +kernel
theorem dJI_bitCount_38 : decode cJI_bitCount 38 = .ok (.iushr, 1) := by decide +kernel
theorem dJI_bitCount_39 : decode cJI_bitCount 39 = .ok (.iadd, 1) := by decide +kernel
theorem dJI_bitCount_40 : decode cJI_bitCount 40 = .ok (.istore_n 0, 1) := by decide +kernel
theorem dJI_bitCount_41 : decode cJI_bitCount 41 = .ok (.iload_n 0, 1) := by decide +kernel
theorem dJI_bitCount_42 : decode cJI_bitCount 42 = .ok (.iload_n 0, 1) := by decide +kernel
theorem dJI_bitCount_43 : decode cJI_bitCount 43 = .ok (.bipush 16, 2) := by decide +kernel
theorem dJI_bitCount_45 : decode cJI_bitCount 45 = .ok (.iushr, 1) := by decide +kernel
theorem dJI_bitCount_46 : decode cJI_bitCount 46 = .ok (.iadd, 1) := by decide +kernel
theorem dJI_bitCount_47 : decode cJI_bitCount 47 = .ok (.istore_n 0, 1) := by decide +kernel
theorem dJI_bitCount_48 : decode cJI_bitCount 48 = .ok (.iload_n 0, 1) := by decide +kernel
theorem dJI_bitCount_49 : decode cJI_bitCount 49 = .ok (.bipush 63, 2) := by decide +kernel
theorem dJI_bitCount_51 : decode cJI_bitCount 51 = .ok (.iand, 1) := by decide +kernel
theorem dJI_bitCount_52 : decode cJI_bitCount 52 = .ok (.ireturn, 1) := by decide +kernel
abbrev cJA_fillI : ByteArray := prog_23_method_103_code
def yJA_fillI : MethodName := ⟨"java/util/Arrays", "fill", "([II)V"⟩
theorem dJA_fillI_0 : decode cJA_fillI 0 = .ok (.iconst 0, 1) := by decide +kernel
theorem dJA_fillI_1 : decode cJA_fillI 1 = .ok (.istore_n 2, 1) := by decide +kernel
theorem dJA_fillI_2 : decode cJA_fillI 2 = .ok (.aload_n 0, 1) := by decide +kernel
theorem dJA_fillI_3 : decode cJA_fillI 3 = .ok (.arraylength, 1) := by decide +kernel
theorem dJA_fillI_4 : decode cJA_fillI 4 = .ok (.istore_n 3, 1) := by decide +kernel
theorem dJA_fillI_5 : decode cJA_fillI 5 = .ok (.iload_n 2, 1) := by decide +kernel
theorem dJA_fillI_6 : decode cJA_fillI 6 = .ok (.iload_n 3, 1) := by decide +kernel
theorem dJA_fillI_7 : decode cJA_fillI 7 = .ok (.if_icmp .ge 13, 3) := by decide +kernel
theorem dJA_fillI_10 : decode cJA_fillI 10 = .ok (.aload_n 0, 1) := by decide +kernel
theorem dJA_fillI_11 : decode cJA_fillI 11 = .ok (.iload_n 2, 1) := by decide +kernel
theorem dJA_fillI_12 : decode cJA_fillI 12 = .ok (.iload_n 1, 1) := by decide +kernel
theorem dJA_fillI_13 : decode cJA_fillI 13 = .ok (.iastore, 1) := by decide +kernel
theorem dJA_fillI_14 : decode cJA_fillI 14 = .ok (.iinc 2 1, 3) := by decide +kernel
theorem dJA_fillI_17 : decode cJA_fillI 17 = .ok (.goto (-12), 3) := by decide +kernel
theorem dJA_fillI_20 : decode cJA_fillI 20 = .ok (.return_, 1) := by decide +kernel
abbrev cJA_fillL : ByteArray := prog_23_method_101_code
def yJA_fillL : MethodName := ⟨"java/util/Arrays", "fill", "([JJ)V"⟩
theorem dJA_fillL_0 : decode cJA_fillL 0 = .ok (.iconst 0, 1) := by decide +kernel
theorem dJA_fillL_1 : decode cJA_fillL 1 = .ok (.istore_n 3, 1) := by decide +kernel
theorem dJA_fillL_2 : decode cJA_fillL 2 = .ok (.aload_n 0, 1) := by decide +kernel
theorem dJA_fillL_3 : decode cJA_fillL 3 = .ok (.arraylength, 1) := by decide +kernel
theorem dJA_fillL_4 : decode cJA_fillL 4 = .ok (.istore 4, 2) := by decide +kernel
theorem dJA_fillL_6 : decode cJA_fillL 6 = .ok (.iload_n 3, 1) := by decide +kernel
theorem dJA_fillL_7 : decode cJA_fillL 7 = .ok (.iload 4, 2) := by decide +kernel
theorem dJA_fillL_9 : decode cJA_fillL 9 = .ok (.if_icmp .ge 13, 3) := by decide +kernel
theorem dJA_fillL_12 : decode cJA_fillL 12 = .ok (.aload_n 0, 1) := by decide +kernel
theorem dJA_fillL_13 : decode cJA_fillL 13 = .ok (.iload_n 3, 1) := by decide +kernel
theorem dJA_fillL_14 : decode cJA_fillL 14 = .ok (.lload_n 1, 1) := by decide +kernel
theorem dJA_fillL_15 : decode cJA_fillL 15 = .ok (.lastore, 1) := by decide +kernel
theorem dJA_fillL_16 : decode cJA_fillL 16 = .ok (.iinc 3 1, 3) := by decide +kernel
theorem dJA_fillL_19 : decode cJA_fillL 19 = .ok (.goto (-13), 3) := by decide +kernel
theorem dJA_fillL_22 : decode cJA_fillL 22 = .ok (.return_, 1) := by decide +kernel
theorem dX9_meterIn_0 : decode cX9_meterIn 0 = .ok (.iload_n 0, 1) := by decide +kernel
theorem dX9_meterIn_1 : decode cX9_meterIn 1 = .ok (.iconst 4, 1) := by decide +kernel
theorem dX9_meterIn_2 : decode cX9_meterIn 2 = .ok (.iload_n 1, 1) := by decide +kernel
theorem dX9_meterIn_3 : decode cX9_meterIn 3 = .ok (.imul, 1) := by decide +kernel
theorem dX9_meterIn_4 : decode cX9_meterIn 4 = .ok (.ishr, 1) := by decide +kernel
theorem dX9_meterIn_5 : decode cX9_meterIn 5 = .ok (.bipush 15, 2) := by decide +kernel
theorem dX9_meterIn_7 : decode cX9_meterIn 7 = .ok (.iand, 1) := by decide +kernel
theorem dX9_meterIn_8 : decode cX9_meterIn 8 = .ok (.ireturn, 1) := by decide +kernel
theorem dX9_changedMeter_0 : decode cX9_changedMeter 0 = .ok (.iload_n 0, 1) := by decide +kernel
theorem dX9_changedMeter_1 : decode cX9_changedMeter 1 = .ok (.lookupswitch 44 #[(4, 27), (5, 36)], 27) := by decide +kernel
theorem dX9_changedMeter_28 : decode cX9_changedMeter 28 = .ok (.iload_n 1, 1) := by decide +kernel
theorem dX9_changedMeter_29 : decode cX9_changedMeter 29 = .ok (.iload_n 2, 1) := by decide +kernel
theorem dX9_changedMeter_30 : decode cX9_changedMeter 30 = .ok (.iadd, 1) := by decide +kernel
theorem dX9_changedMeter_31 : decode cX9_changedMeter 31 = .ok (.bipush 9, 2) := by decide +kernel
theorem dX9_changedMeter_33 : decode cX9_changedMeter 33 = .ok (.invokestatic 317, 3) := by decide +kernel
theorem dX9_changedMeter_36 : decode cX9_changedMeter 36 = .ok (.ireturn, 1) := by decide +kernel
theorem dX9_changedMeter_37 : decode cX9_changedMeter 37 = .ok (.iload_n 1, 1) := by decide +kernel
theorem dX9_changedMeter_38 : decode cX9_changedMeter 38 = .ok (.iload_n 2, 1) := by decide +kernel
theorem dX9_changedMeter_39 : decode cX9_changedMeter 39 = .ok (.isub, 1) := by decide +kernel
theorem dX9_changedMeter_40 : decode cX9_changedMeter 40 = .ok (.iconst 0, 1) := by decide +kernel
theorem dX9_changedMeter_41 : decode cX9_changedMeter 41 = .ok (.invokestatic 322, 3) := by decide +kernel
theorem dX9_changedMeter_44 : decode cX9_changedMeter 44 = .ok (.ireturn, 1) := by decide +kernel
theorem dX9_changedMeter_45 : decode cX9_changedMeter 45 = .ok (.iload_n 2, 1) := by decide +kernel
theorem dX9_changedMeter_46 : decode cX9_changedMeter 46 = .ok (.ireturn, 1) := by decide +kernel
theorem dX9_entryOf_0 : decode cX9_entryOf 0 = .ok (.iload_n 1, 1) := by decide +kernel
theorem dX9_entryOf_1 : decode cX9_entryOf 1 = .ok (.ifCond .lt 15, 3) := by decide +kernel
theorem dX9_entryOf_4 : decode cX9_entryOf 4 = .ok (.iload_n 1, 1) := by decide +kernel
theorem dX9_entryOf_5 : decode cX9_entryOf 5 = .ok (.aload_n 0, 1) := by decide +kernel
theorem dX9_entryOf_6 : decode cX9_entryOf 6 = .ok (.arraylength, 1) := by decide +kernel
theorem dX9_entryOf_7 : decode cX9_entryOf 7 = .ok (.if_icmp .ge 9, 3) := by decide +kernel
theorem dX9_entryOf_10 : decode cX9_entryOf 10 = .ok (.aload_n 0, 1) := by decide +kernel
theorem dX9_entryOf_11 : decode cX9_entryOf 11 = .ok (.iload_n 1, 1) := by decide +kernel
theorem dX9_entryOf_12 : decode cX9_entryOf 12 = .ok (.iaload, 1) := by decide +kernel
theorem dX9_entryOf_13 : decode cX9_entryOf 13 = .ok (.goto 4, 3) := by decide +kernel
theorem dX9_entryOf_16 : decode cX9_entryOf 16 = .ok (.iconst (-1), 1) := by decide +kernel
theorem dX9_entryOf_17 : decode cX9_entryOf 17 = .ok (.ireturn, 1) := by decide +kernel
theorem dX9_putEntry_0 : decode cX9_putEntry 0 = .ok (.iload_n 1, 1) := by decide +kernel
theorem dX9_putEntry_1 : decode cX9_putEntry 1 = .ok (.ifCond .lt 13, 3) := by decide +kernel
theorem dX9_putEntry_4 : decode cX9_putEntry 4 = .ok (.iload_n 1, 1) := by decide +kernel
theorem dX9_putEntry_5 : decode cX9_putEntry 5 = .ok (.aload_n 0, 1) := by decide +kernel
theorem dX9_putEntry_6 : decode cX9_putEntry 6 = .ok (.arraylength, 1) := by decide +kernel
theorem dX9_putEntry_7 : decode cX9_putEntry 7 = .ok (.if_icmp .ge 7, 3) := by decide +kernel
theorem dX9_putEntry_10 : decode cX9_putEntry 10 = .ok (.aload_n 0, 1) := by decide +kernel
theorem dX9_putEntry_11 : decode cX9_putEntry 11 = .ok (.iload_n 1, 1) := by decide +kernel
theorem dX9_putEntry_12 : decode cX9_putEntry 12 = .ok (.iload_n 2, 1) := by decide +kernel
theorem dX9_putEntry_13 : decode cX9_putEntry 13 = .ok (.iastore, 1) := by decide +kernel
theorem dX9_putEntry_14 : decode cX9_putEntry 14 = .ok (.return_, 1) := by decide +kernel
theorem dX3_low_0 : decode cX3_low 0 = .ok (.lload_n 0, 1) := by decide +kernel
theorem dX3_low_1 : decode cX3_low 1 = .ok (.iconst 4, 1) := by decide +kernel
theorem dX3_low_2 : decode cX3_low 2 = .ok (.iload_n 2, 1) := by decide +kernel
theorem dX3_low_3 : decode cX3_low 3 = .ok (.imul, 1) := by decide +kernel
theorem dX3_low_4 : decode cX3_low 4 = .ok (.lshr, 1) := by decide +kernel
theorem dX3_low_5 : decode cX3_low 5 = .ok (.ldc2_w 11, 3) := by decide +kernel
theorem dX3_low_8 : decode cX3_low 8 = .ok (.land, 1) := by decide +kernel
theorem dX3_low_9 : decode cX3_low 9 = .ok (.l2i, 1) := by decide +kernel
theorem dX3_low_10 : decode cX3_low 10 = .ok (.ireturn, 1) := by decide +kernel
theorem dX3_high_0 : decode cX3_high 0 = .ok (.lload_n 0, 1) := by decide +kernel
theorem dX3_high_1 : decode cX3_high 1 = .ok (.bipush 12, 2) := by decide +kernel
theorem dX3_high_3 : decode cX3_high 3 = .ok (.iconst 4, 1) := by decide +kernel
theorem dX3_high_4 : decode cX3_high 4 = .ok (.iload_n 2, 1) := by decide +kernel
theorem dX3_high_5 : decode cX3_high 5 = .ok (.imul, 1) := by decide +kernel
theorem dX3_high_6 : decode cX3_high 6 = .ok (.iadd, 1) := by decide +kernel
theorem dX3_high_7 : decode cX3_high 7 = .ok (.lshr, 1) := by decide +kernel
theorem dX3_high_8 : decode cX3_high 8 = .ok (.ldc2_w 11, 3) := by decide +kernel
theorem dX3_high_11 : decode cX3_high 11 = .ok (.land, 1) := by decide +kernel
theorem dX3_high_12 : decode cX3_high 12 = .ok (.l2i, 1) := by decide +kernel
theorem dX3_high_13 : decode cX3_high 13 = .ok (.ireturn, 1) := by decide +kernel
theorem dX3_flagSet_0 : decode cX3_flagSet 0 = .ok (.lload_n 0, 1) := by decide +kernel
theorem dX3_flagSet_1 : decode cX3_flagSet 1 = .ok (.bipush 24, 2) := by decide +kernel
theorem dX3_flagSet_3 : decode cX3_flagSet 3 = .ok (.iconst 2, 1) := by decide +kernel
theorem dX3_flagSet_4 : decode cX3_flagSet 4 = .ok (.iload_n 2, 1) := by decide +kernel
theorem dX3_flagSet_5 : decode cX3_flagSet 5 = .ok (.imul, 1) := by decide +kernel
theorem dX3_flagSet_6 : decode cX3_flagSet 6 = .ok (.iadd, 1) := by decide +kernel
theorem dX3_flagSet_7 : decode cX3_flagSet 7 = .ok (.lshr, 1) := by decide +kernel
theorem dX3_flagSet_8 : decode cX3_flagSet 8 = .ok (.ldc2_w 13, 3) := by decide +kernel
theorem dX3_flagSet_11 : decode cX3_flagSet 11 = .ok (.land, 1) := by decide +kernel
theorem dX3_flagSet_12 : decode cX3_flagSet 12 = .ok (.l2i, 1) := by decide +kernel
theorem dX3_flagSet_13 : decode cX3_flagSet 13 = .ok (.ireturn, 1) := by decide +kernel
theorem dX3_hubSet_0 : decode cX3_hubSet 0 = .ok (.lload_n 0, 1) := by decide +kernel
theorem dX3_hubSet_1 : decode cX3_hubSet 1 = .ok (.bipush 36, 2) := by decide +kernel
theorem dX3_hubSet_3 : decode cX3_hubSet 3 = .ok (.lshr, 1) := by decide +kernel
theorem dX3_hubSet_4 : decode cX3_hubSet 4 = .ok (.ldc2_w 15, 3) := by decide +kernel
theorem dX3_hubSet_7 : decode cX3_hubSet 7 = .ok (.land, 1) := by decide +kernel
theorem dX3_hubSet_8 : decode cX3_hubSet 8 = .ok (.l2i, 1) := by decide +kernel
theorem dX3_hubSet_9 : decode cX3_hubSet 9 = .ok (.ireturn, 1) := by decide +kernel
theorem dX3_withRange_0 : decode cX3_withRange 0 = .ok (.iload_n 3, 1) := by decide +kernel
theorem dX3_withRange_1 : decode cX3_withRange 1 = .ok (.iload 4, 2) := by decide +kernel
theorem dX3_withRange_3 : decode cX3_withRange 3 = .ok (.if_icmp .le 5, 3) := by decide +kernel
theorem dX3_withRange_6 : decode cX3_withRange 6 = .ok (.lconst 0, 1) := by decide +kernel
theorem dX3_withRange_7 : decode cX3_withRange 7 = .ok (.lreturn, 1) := by decide +kernel
theorem dX3_withRange_8 : decode cX3_withRange 8 = .ok (.iconst 4, 1) := by decide +kernel
theorem dX3_withRange_9 : decode cX3_withRange 9 = .ok (.iload_n 2, 1) := by decide +kernel
theorem dX3_withRange_10 : decode cX3_withRange 10 = .ok (.imul, 1) := by decide +kernel
theorem dX3_withRange_11 : decode cX3_withRange 11 = .ok (.istore 5, 2) := by decide +kernel
theorem dX3_withRange_13 : decode cX3_withRange 13 = .ok (.bipush 12, 2) := by decide +kernel
theorem dX3_withRange_15 : decode cX3_withRange 15 = .ok (.iload 5, 2) := by decide +kernel
theorem dX3_withRange_17 : decode cX3_withRange 17 = .ok (.iadd, 1) := by decide +kernel
theorem dX3_withRange_18 : decode cX3_withRange 18 = .ok (.istore 6, 2) := by decide +kernel
theorem dX3_withRange_20 : decode cX3_withRange 20 = .ok (.lload_n 0, 1) := by decide +kernel
theorem dX3_withRange_21 : decode cX3_withRange 21 = .ok (.ldc2_w 11, 3) := by decide +kernel
theorem dX3_withRange_24 : decode cX3_withRange 24 = .ok (.iload 5, 2) := by decide +kernel
theorem dX3_withRange_26 : decode cX3_withRange 26 = .ok (.lshl, 1) := by decide +kernel
theorem dX3_withRange_27 : decode cX3_withRange 27 = .ok (.ldc2_w 11, 3) := by decide +kernel
theorem dX3_withRange_30 : decode cX3_withRange 30 = .ok (.iload 6, 2) := by decide +kernel
theorem dX3_withRange_32 : decode cX3_withRange 32 = .ok (.lshl, 1) := by decide +kernel
theorem dX3_withRange_33 : decode cX3_withRange 33 = .ok (.lor, 1) := by decide +kernel
theorem dX3_withRange_34 : decode cX3_withRange 34 = .ok (.ldc2_w 17, 3) := by decide +kernel
theorem dX3_withRange_37 : decode cX3_withRange 37 = .ok (.lxor, 1) := by decide +kernel
theorem dX3_withRange_38 : decode cX3_withRange 38 = .ok (.land, 1) := by decide +kernel
theorem dX3_withRange_39 : decode cX3_withRange 39 = .ok (.lstore 7, 2) := by decide +kernel
theorem dX3_withRange_41 : decode cX3_withRange 41 = .ok (.lload 7, 2) := by decide +kernel
theorem dX3_withRange_43 : decode cX3_withRange 43 = .ok (.iload_n 3, 1) := by decide +kernel
theorem dX3_withRange_44 : decode cX3_withRange 44 = .ok (.i2l, 1) := by decide +kernel
theorem dX3_withRange_45 : decode cX3_withRange 45 = .ok (.iload 5, 2) := by decide +kernel
theorem dX3_withRange_47 : decode cX3_withRange 47 = .ok (.lshl, 1) := by decide +kernel
theorem dX3_withRange_48 : decode cX3_withRange 48 = .ok (.lor, 1) := by decide +kernel
theorem dX3_withRange_49 : decode cX3_withRange 49 = .ok (.iload 4, 2) := by decide +kernel
theorem dX3_withRange_51 : decode cX3_withRange 51 = .ok (.i2l, 1) := by decide +kernel
theorem dX3_withRange_52 : decode cX3_withRange 52 = .ok (.iload 6, 2) := by decide +kernel
theorem dX3_withRange_54 : decode cX3_withRange 54 = .ok (.lshl, 1) := by decide +kernel
theorem dX3_withRange_55 : decode cX3_withRange 55 = .ok (.lor, 1) := by decide +kernel
theorem dX3_withRange_56 : decode cX3_withRange 56 = .ok (.lreturn, 1) := by decide +kernel
theorem dX3_withFlag_0 : decode cX3_withFlag 0 = .ok (.bipush 24, 2) := by decide +kernel
theorem dX3_withFlag_2 : decode cX3_withFlag 2 = .ok (.iconst 2, 1) := by decide +kernel
theorem dX3_withFlag_3 : decode cX3_withFlag 3 = .ok (.iload_n 2, 1) := by decide +kernel
theorem dX3_withFlag_4 : decode cX3_withFlag 4 = .ok (.imul, 1) := by decide +kernel
theorem dX3_withFlag_5 : decode cX3_withFlag 5 = .ok (.iadd, 1) := by decide +kernel
theorem dX3_withFlag_6 : decode cX3_withFlag 6 = .ok (.istore 4, 2) := by decide +kernel
theorem dX3_withFlag_8 : decode cX3_withFlag 8 = .ok (.lload_n 0, 1) := by decide +kernel
theorem dX3_withFlag_9 : decode cX3_withFlag 9 = .ok (.ldc2_w 13, 3) := by decide +kernel
theorem dX3_withFlag_12 : decode cX3_withFlag 12 = .ok (.iload 4, 2) := by decide +kernel
theorem dX3_withFlag_14 : decode cX3_withFlag 14 = .ok (.lshl, 1) := by decide +kernel
theorem dX3_withFlag_15 : decode cX3_withFlag 15 = .ok (.ldc2_w 17, 3) := by decide +kernel
theorem dX3_withFlag_18 : decode cX3_withFlag 18 = .ok (.lxor, 1) := by decide +kernel
theorem dX3_withFlag_19 : decode cX3_withFlag 19 = .ok (.land, 1) := by decide +kernel
theorem dX3_withFlag_20 : decode cX3_withFlag 20 = .ok (.iload_n 3, 1) := by decide +kernel
theorem dX3_withFlag_21 : decode cX3_withFlag 21 = .ok (.i2l, 1) := by decide +kernel
theorem dX3_withFlag_22 : decode cX3_withFlag 22 = .ok (.iload 4, 2) := by decide +kernel
theorem dX3_withFlag_24 : decode cX3_withFlag 24 = .ok (.lshl, 1) := by decide +kernel
theorem dX3_withFlag_25 : decode cX3_withFlag 25 = .ok (.lor, 1) := by decide +kernel
theorem dX3_withFlag_26 : decode cX3_withFlag 26 = .ok (.lreturn, 1) := by decide +kernel
theorem dX3_keepingFlag_0 : decode cX3_keepingFlag 0 = .ok (.bipush 24, 2) := by decide +kernel
theorem dX3_keepingFlag_2 : decode cX3_keepingFlag 2 = .ok (.iconst 2, 1) := by decide +kernel
theorem dX3_keepingFlag_3 : decode cX3_keepingFlag 3 = .ok (.iload_n 2, 1) := by decide +kernel
theorem dX3_keepingFlag_4 : decode cX3_keepingFlag 4 = .ok (.imul, 1) := by decide +kernel
theorem dX3_keepingFlag_5 : decode cX3_keepingFlag 5 = .ok (.iadd, 1) := by decide +kernel
theorem dX3_keepingFlag_6 : decode cX3_keepingFlag 6 = .ok (.istore 4, 2) := by decide +kernel
theorem dX3_keepingFlag_8 : decode cX3_keepingFlag 8 = .ok (.lload_n 0, 1) := by decide +kernel
theorem dX3_keepingFlag_9 : decode cX3_keepingFlag 9 = .ok (.iconst 3, 1) := by decide +kernel
theorem dX3_keepingFlag_10 : decode cX3_keepingFlag 10 = .ok (.iload_n 3, 1) := by decide +kernel
theorem dX3_keepingFlag_11 : decode cX3_keepingFlag 11 = .ok (.isub, 1) := by decide +kernel
theorem dX3_keepingFlag_12 : decode cX3_keepingFlag 12 = .ok (.i2l, 1) := by decide +kernel
theorem dX3_keepingFlag_13 : decode cX3_keepingFlag 13 = .ok (.iload 4, 2) := by decide +kernel
theorem dX3_keepingFlag_15 : decode cX3_keepingFlag 15 = .ok (.lshl, 1) := by decide +kernel
theorem dX3_keepingFlag_16 : decode cX3_keepingFlag 16 = .ok (.ldc2_w 17, 3) := by decide +kernel
theorem dX3_keepingFlag_19 : decode cX3_keepingFlag 19 = .ok (.lxor, 1) := by decide +kernel
theorem dX3_keepingFlag_20 : decode cX3_keepingFlag 20 = .ok (.land, 1) := by decide +kernel
theorem dX3_keepingFlag_21 : decode cX3_keepingFlag 21 = .ok (.lstore 5, 2) := by decide +kernel
theorem dX3_keepingFlag_23 : decode cX3_keepingFlag 23 = .ok (.lload 5, 2) := by decide +kernel
theorem dX3_keepingFlag_25 : decode cX3_keepingFlag 25 = .ok (.iload 4, 2) := by decide +kernel
theorem dX3_keepingFlag_27 : decode cX3_keepingFlag 27 = .ok (.lshr, 1) := by decide +kernel
theorem dX3_keepingFlag_28 : decode cX3_keepingFlag 28 = .ok (.ldc2_w 13, 3) := by decide +kernel
theorem dX3_keepingFlag_31 : decode cX3_keepingFlag 31 = .ok (.land, 1) := by decide +kernel
theorem dX3_keepingFlag_32 : decode cX3_keepingFlag 32 = .ok (.lconst 0, 1) := by decide +kernel
theorem dX3_keepingFlag_33 : decode cX3_keepingFlag 33 = .ok (.lcmp, 1) := by decide +kernel
theorem dX3_keepingFlag_34 : decode cX3_keepingFlag 34 = .ok (.ifCond .ne 7, 3) := by decide +kernel
theorem dX3_keepingFlag_37 : decode cX3_keepingFlag 37 = .ok (.lconst 0, 1) := by decide +kernel
theorem dX3_keepingFlag_38 : decode cX3_keepingFlag 38 = .ok (.goto 5, 3) := by decide +kernel
theorem dX3_keepingFlag_41 : decode cX3_keepingFlag 41 = .ok (.lload 5, 2) := by decide +kernel
theorem dX3_keepingFlag_43 : decode cX3_keepingFlag 43 = .ok (.lreturn, 1) := by decide +kernel
theorem dX3_withHubs_0 : decode cX3_withHubs 0 = .ok (.lload_n 0, 1) := by decide +kernel
theorem dX3_withHubs_1 : decode cX3_withHubs 1 = .ok (.ldc2_w 19, 3) := by decide +kernel
theorem dX3_withHubs_4 : decode cX3_withHubs 4 = .ok (.land, 1) := by decide +kernel
theorem dX3_withHubs_5 : decode cX3_withHubs 5 = .ok (.iload_n 2, 1) := by decide +kernel
theorem dX3_withHubs_6 : decode cX3_withHubs 6 = .ok (.i2l, 1) := by decide +kernel
theorem dX3_withHubs_7 : decode cX3_withHubs 7 = .ok (.bipush 36, 2) := by decide +kernel
theorem dX3_withHubs_9 : decode cX3_withHubs 9 = .ok (.lshl, 1) := by decide +kernel
theorem dX3_withHubs_10 : decode cX3_withHubs 10 = .ok (.lor, 1) := by decide +kernel
theorem dX3_withHubs_11 : decode cX3_withHubs 11 = .ok (.lreturn, 1) := by decide +kernel
theorem dX3_union_0 : decode cX3_union 0 = .ok (.lload_n 0, 1) := by decide +kernel
theorem dX3_union_1 : decode cX3_union 1 = .ok (.lconst 0, 1) := by decide +kernel
theorem dX3_union_2 : decode cX3_union 2 = .ok (.lcmp, 1) := by decide +kernel
theorem dX3_union_3 : decode cX3_union 3 = .ok (.ifCond .eq 9, 3) := by decide +kernel
theorem dX3_union_6 : decode cX3_union 6 = .ok (.lload_n 0, 1) := by decide +kernel
theorem dX3_union_7 : decode cX3_union 7 = .ok (.lload_n 2, 1) := by decide +kernel
theorem dX3_union_8 : decode cX3_union 8 = .ok (.lcmp, 1) := by decide +kernel
theorem dX3_union_9 : decode cX3_union 9 = .ok (.ifCond .ne 5, 3) := by decide +kernel
theorem dX3_union_12 : decode cX3_union 12 = .ok (.lload_n 2, 1) := by decide +kernel
theorem dX3_union_13 : decode cX3_union 13 = .ok (.lreturn, 1) := by decide +kernel
theorem dX3_union_14 : decode cX3_union 14 = .ok (.lload_n 2, 1) := by decide +kernel
theorem dX3_union_15 : decode cX3_union 15 = .ok (.lconst 0, 1) := by decide +kernel
theorem dX3_union_16 : decode cX3_union 16 = .ok (.lcmp, 1) := by decide +kernel
theorem dX3_union_17 : decode cX3_union 17 = .ok (.ifCond .ne 5, 3) := by decide +kernel
theorem dX3_union_20 : decode cX3_union 20 = .ok (.lload_n 0, 1) := by decide +kernel
theorem dX3_union_21 : decode cX3_union 21 = .ok (.lreturn, 1) := by decide +kernel
theorem dX3_union_22 : decode cX3_union 22 = .ok (.lload_n 0, 1) := by decide +kernel
theorem dX3_union_23 : decode cX3_union 23 = .ok (.lload_n 2, 1) := by decide +kernel
theorem dX3_union_24 : decode cX3_union 24 = .ok (.lor, 1) := by decide +kernel
theorem dX3_union_25 : decode cX3_union 25 = .ok (.lstore 4, 2) := by decide +kernel
theorem dX3_union_27 : decode cX3_union 27 = .ok (.iconst 0, 1) := by decide +kernel
theorem dX3_union_28 : decode cX3_union 28 = .ok (.istore 6, 2) := by decide +kernel
theorem dX3_union_30 : decode cX3_union 30 = .ok (.iload 6, 2) := by decide +kernel
theorem dX3_union_32 : decode cX3_union 32 = .ok (.iconst 3, 1) := by decide +kernel
theorem dX3_union_33 : decode cX3_union 33 = .ok (.if_icmp .ge 48, 3) := by decide +kernel
theorem dX3_union_36 : decode cX3_union 36 = .ok (.lload 4, 2) := by decide +kernel
theorem dX3_union_38 : decode cX3_union 38 = .ok (.iload 6, 2) := by decide +kernel
theorem dX3_union_40 : decode cX3_union 40 = .ok (.lload_n 0, 1) := by decide +kernel
theorem dX3_union_41 : decode cX3_union 41 = .ok (.iload 6, 2) := by decide +kernel
theorem dX3_union_43 : decode cX3_union 43 = .ok (.invokestatic 21, 3) := by decide +kernel
theorem dX3_union_46 : decode cX3_union 46 = .ok (.lload_n 2, 1) := by decide +kernel
theorem dX3_union_47 : decode cX3_union 47 = .ok (.iload 6, 2) := by decide +kernel
theorem dX3_union_49 : decode cX3_union 49 = .ok (.invokestatic 21, 3) := by decide +kernel
theorem dX3_union_52 : decode cX3_union 52 = .ok (.invokestatic 25, 3) := by decide +kernel
theorem dX3_union_55 : decode cX3_union 55 = .ok (.lload_n 0, 1) := by decide +kernel
theorem dX3_union_56 : decode cX3_union 56 = .ok (.iload 6, 2) := by decide +kernel
theorem dX3_union_58 : decode cX3_union 58 = .ok (.invokestatic 31, 3) := by decide +kernel
theorem dX3_union_61 : decode cX3_union 61 = .ok (.lload_n 2, 1) := by decide +kernel
theorem dX3_union_62 : decode cX3_union 62 = .ok (.iload 6, 2) := by decide +kernel
theorem dX3_union_64 : decode cX3_union 64 = .ok (.invokestatic 31, 3) := by decide +kernel
theorem dX3_union_67 : decode cX3_union 67 = .ok (.invokestatic 34, 3) := by decide +kernel
theorem dX3_union_70 : decode cX3_union 70 = .ok (.invokestatic 37, 3) := by decide +kernel
theorem dX3_union_73 : decode cX3_union 73 = .ok (.lstore 4, 2) := by decide +kernel
theorem dX3_union_75 : decode cX3_union 75 = .ok (.iinc 6 1, 3) := by decide +kernel
theorem dX3_union_78 : decode cX3_union 78 = .ok (.goto (-48), 3) := by decide +kernel
theorem dX3_union_81 : decode cX3_union 81 = .ok (.lload 4, 2) := by decide +kernel
theorem dX3_union_83 : decode cX3_union 83 = .ok (.lreturn, 1) := by decide +kernel
theorem dX4_empty_0 : decode cX4_empty 0 = .ok (.aload_n 0, 1) := by decide +kernel
theorem dX4_empty_1 : decode cX4_empty 1 = .ok (.iconst 0, 1) := by decide +kernel
theorem dX4_empty_2 : decode cX4_empty 2 = .ok (.putfield 19, 3) := by decide +kernel
theorem dX4_empty_5 : decode cX4_empty 5 = .ok (.iconst 0, 1) := by decide +kernel
theorem dX4_empty_6 : decode cX4_empty 6 = .ok (.istore_n 1, 1) := by decide +kernel
theorem dX4_empty_7 : decode cX4_empty 7 = .ok (.iload_n 1, 1) := by decide +kernel
theorem dX4_empty_8 : decode cX4_empty 8 = .ok (.bipush 100, 2) := by decide +kernel
theorem dX4_empty_10 : decode cX4_empty 10 = .ok (.if_icmp .ge 16, 3) := by decide +kernel
theorem dX4_empty_13 : decode cX4_empty 13 = .ok (.aload_n 0, 1) := by decide +kernel
theorem dX4_empty_14 : decode cX4_empty 14 = .ok (.getfield 15, 3) := by decide +kernel
theorem dX4_empty_17 : decode cX4_empty 17 = .ok (.iload_n 1, 1) := by decide +kernel
theorem dX4_empty_18 : decode cX4_empty 18 = .ok (.iconst 0, 1) := by decide +kernel
theorem dX4_empty_19 : decode cX4_empty 19 = .ok (.bastore, 1) := by decide +kernel
theorem dX4_empty_20 : decode cX4_empty 20 = .ok (.iinc 1 1, 3) := by decide +kernel
theorem dX4_empty_23 : decode cX4_empty 23 = .ok (.goto (-16), 3) := by decide +kernel
theorem dX4_empty_26 : decode cX4_empty 26 = .ok (.return_, 1) := by decide +kernel
theorem dX4_append_0 : decode cX4_append 0 = .ok (.aload_n 0, 1) := by decide +kernel
theorem dX4_append_1 : decode cX4_append 1 = .ok (.getfield 9, 3) := by decide +kernel
theorem dX4_append_4 : decode cX4_append 4 = .ok (.aload_n 0, 1) := by decide +kernel
theorem dX4_append_5 : decode cX4_append 5 = .ok (.getfield 19, 3) := by decide +kernel
theorem dX4_append_8 : decode cX4_append 8 = .ok (.bipush 20, 2) := by decide +kernel
theorem dX4_append_10 : decode cX4_append 10 = .ok (.invokestatic 23, 3) := by decide +kernel
theorem dX4_append_13 : decode cX4_append 13 = .ok (.iload_n 1, 1) := by decide +kernel
theorem dX4_append_14 : decode cX4_append 14 = .ok (.iastore, 1) := by decide +kernel
theorem dX4_append_15 : decode cX4_append 15 = .ok (.aload_n 0, 1) := by decide +kernel
theorem dX4_append_16 : decode cX4_append 16 = .ok (.dup, 1) := by decide +kernel
theorem dX4_append_17 : decode cX4_append 17 = .ok (.getfield 19, 3) := by decide +kernel
theorem dX4_append_20 : decode cX4_append 20 = .ok (.iconst 1, 1) := by decide +kernel
theorem dX4_append_21 : decode cX4_append 21 = .ok (.iadd, 1) := by decide +kernel
theorem dX4_append_22 : decode cX4_append 22 = .ok (.putfield 19, 3) := by decide +kernel
theorem dX4_append_25 : decode cX4_append 25 = .ok (.iload_n 1, 1) := by decide +kernel
theorem dX4_append_26 : decode cX4_append 26 = .ok (.ifCond .lt 16, 3) := by decide +kernel
theorem dX4_append_29 : decode cX4_append 29 = .ok (.iload_n 1, 1) := by decide +kernel
theorem dX4_append_30 : decode cX4_append 30 = .ok (.bipush 100, 2) := by decide +kernel
theorem dX4_append_32 : decode cX4_append 32 = .ok (.if_icmp .ge 10, 3) := by decide +kernel
theorem dX4_append_35 : decode cX4_append 35 = .ok (.aload_n 0, 1) := by decide +kernel
theorem dX4_append_36 : decode cX4_append 36 = .ok (.getfield 15, 3) := by decide +kernel
theorem dX4_append_39 : decode cX4_append 39 = .ok (.iload_n 1, 1) := by decide +kernel
theorem dX4_append_40 : decode cX4_append 40 = .ok (.iconst 1, 1) := by decide +kernel
theorem dX4_append_41 : decode cX4_append 41 = .ok (.bastore, 1) := by decide +kernel
theorem dX4_append_42 : decode cX4_append 42 = .ok (.return_, 1) := by decide +kernel
theorem dX4_before_0 : decode cX4_before 0 = .ok (.iload_n 1, 1) := by decide +kernel
theorem dX4_before_1 : decode cX4_before 1 = .ok (.aload_n 0, 1) := by decide +kernel
theorem dX4_before_2 : decode cX4_before 2 = .ok (.getfield 19, 3) := by decide +kernel
theorem dX4_before_5 : decode cX4_before 5 = .ok (.if_icmp .ge 24, 3) := by decide +kernel
theorem dX4_before_8 : decode cX4_before 8 = .ok (.aload_n 0, 1) := by decide +kernel
theorem dX4_before_9 : decode cX4_before 9 = .ok (.getfield 9, 3) := by decide +kernel
theorem dX4_before_12 : decode cX4_before 12 = .ok (.aload_n 0, 1) := by decide +kernel
theorem dX4_before_13 : decode cX4_before 13 = .ok (.getfield 19, 3) := by decide +kernel
theorem dX4_before_16 : decode cX4_before 16 = .ok (.iconst 1, 1) := by decide +kernel
theorem dX4_before_17 : decode cX4_before 17 = .ok (.isub, 1) := by decide +kernel
theorem dX4_before_18 : decode cX4_before 18 = .ok (.iload_n 1, 1) := by decide +kernel
theorem dX4_before_19 : decode cX4_before 19 = .ok (.isub, 1) := by decide +kernel
theorem dX4_before_20 : decode cX4_before 20 = .ok (.bipush 20, 2) := by decide +kernel
theorem dX4_before_22 : decode cX4_before 22 = .ok (.invokestatic 23, 3) := by decide +kernel
theorem dX4_before_25 : decode cX4_before 25 = .ok (.iaload, 1) := by decide +kernel
theorem dX4_before_26 : decode cX4_before 26 = .ok (.goto 4, 3) := by decide +kernel
theorem dX4_before_29 : decode cX4_before 29 = .ok (.iconst (-1), 1) := by decide +kernel
theorem dX4_before_30 : decode cX4_before 30 = .ok (.ireturn, 1) := by decide +kernel
theorem dX8_append_0 : decode cX8_append 0 = .ok (.aload_n 0, 1) := by decide +kernel
theorem dX8_append_1 : decode cX8_append 1 = .ok (.getfield 21, 3) := by decide +kernel
theorem dX8_append_4 : decode cX8_append 4 = .ok (.ifCond .lt 13, 3) := by decide +kernel
theorem dX8_append_7 : decode cX8_append 7 = .ok (.aload_n 0, 1) := by decide +kernel
theorem dX8_append_8 : decode cX8_append 8 = .ok (.getfield 21, 3) := by decide +kernel
theorem dX8_append_11 : decode cX8_append 11 = .ok (.sipush 200, 3) := by decide +kernel
theorem dX8_append_14 : decode cX8_append 14 = .ok (.if_icmp .lt 4, 3) := by decide +kernel
theorem dX8_append_17 : decode cX8_append 17 = .ok (.return_, 1) := by decide +kernel
theorem dX8_append_18 : decode cX8_append 18 = .ok (.aload_n 0, 1) := by decide +kernel
theorem dX8_append_19 : decode cX8_append 19 = .ok (.getfield 9, 3) := by decide +kernel
theorem dX8_append_22 : decode cX8_append 22 = .ok (.aload_n 0, 1) := by decide +kernel
theorem dX8_append_23 : decode cX8_append 23 = .ok (.getfield 21, 3) := by decide +kernel
theorem dX8_append_26 : decode cX8_append 26 = .ok (.iload_n 1, 1) := by decide +kernel
theorem dX8_append_27 : decode cX8_append 27 = .ok (.iastore, 1) := by decide +kernel
theorem dX8_append_28 : decode cX8_append 28 = .ok (.aload_n 0, 1) := by decide +kernel
theorem dX8_append_29 : decode cX8_append 29 = .ok (.getfield 15, 3) := by decide +kernel
theorem dX8_append_32 : decode cX8_append 32 = .ok (.aload_n 0, 1) := by decide +kernel
theorem dX8_append_33 : decode cX8_append 33 = .ok (.getfield 21, 3) := by decide +kernel
theorem dX8_append_36 : decode cX8_append 36 = .ok (.iload_n 2, 1) := by decide +kernel
theorem dX8_append_37 : decode cX8_append 37 = .ok (.iastore, 1) := by decide +kernel
theorem dX8_append_38 : decode cX8_append 38 = .ok (.aload_n 0, 1) := by decide +kernel
theorem dX8_append_39 : decode cX8_append 39 = .ok (.getfield 18, 3) := by decide +kernel
theorem dX8_append_42 : decode cX8_append 42 = .ok (.aload_n 0, 1) := by decide +kernel
theorem dX8_append_43 : decode cX8_append 43 = .ok (.getfield 21, 3) := by decide +kernel
theorem dX8_append_46 : decode cX8_append 46 = .ok (.iload_n 3, 1) := by decide +kernel
theorem dX8_append_47 : decode cX8_append 47 = .ok (.iastore, 1) := by decide +kernel
theorem dX8_append_48 : decode cX8_append 48 = .ok (.aload_n 0, 1) := by decide +kernel
theorem dX8_append_49 : decode cX8_append 49 = .ok (.dup, 1) := by decide +kernel
theorem dX8_append_50 : decode cX8_append 50 = .ok (.getfield 21, 3) := by decide +kernel
theorem dX8_append_53 : decode cX8_append 53 = .ok (.iconst 1, 1) := by decide +kernel
theorem dX8_append_54 : decode cX8_append 54 = .ok (.iadd, 1) := by decide +kernel
theorem dX8_append_55 : decode cX8_append 55 = .ok (.putfield 21, 3) := by decide +kernel
theorem dX8_append_58 : decode cX8_append 58 = .ok (.return_, 1) := by decide +kernel
theorem dX8_oneHolds_0 : decode cX8_oneHolds 0 = .ok (.iload_n 2, 1) := by decide +kernel
theorem dX8_oneHolds_1 : decode cX8_oneHolds 1 = .ok (.aload_n 0, 1) := by decide +kernel
theorem dX8_oneHolds_2 : decode cX8_oneHolds 2 = .ok (.getfield 15, 3) := by decide +kernel
theorem dX8_oneHolds_5 : decode cX8_oneHolds 5 = .ok (.iload_n 1, 1) := by decide +kernel
theorem dX8_oneHolds_6 : decode cX8_oneHolds 6 = .ok (.iaload, 1) := by decide +kernel
theorem dX8_oneHolds_7 : decode cX8_oneHolds 7 = .ok (.ishr, 1) := by decide +kernel
theorem dX8_oneHolds_8 : decode cX8_oneHolds 8 = .ok (.iconst 1, 1) := by decide +kernel
theorem dX8_oneHolds_9 : decode cX8_oneHolds 9 = .ok (.iand, 1) := by decide +kernel
theorem dX8_oneHolds_10 : decode cX8_oneHolds 10 = .ok (.iconst 1, 1) := by decide +kernel
theorem dX8_oneHolds_11 : decode cX8_oneHolds 11 = .ok (.if_icmp .ne 7, 3) := by decide +kernel
theorem dX8_oneHolds_14 : decode cX8_oneHolds 14 = .ok (.iconst 1, 1) := by decide +kernel
theorem dX8_oneHolds_15 : decode cX8_oneHolds 15 = .ok (.goto 4, 3) := by decide +kernel
theorem dX8_oneHolds_18 : decode cX8_oneHolds 18 = .ok (.iconst 0, 1) := by decide +kernel
theorem dX8_oneHolds_19 : decode cX8_oneHolds 19 = .ok (.istore 4, 2) := by decide +kernel
theorem dX8_oneHolds_21 : decode cX8_oneHolds 21 = .ok (.iload_n 3, 1) := by decide +kernel
theorem dX8_oneHolds_22 : decode cX8_oneHolds 22 = .ok (.iconst 4, 1) := by decide +kernel
theorem dX8_oneHolds_23 : decode cX8_oneHolds 23 = .ok (.aload_n 0, 1) := by decide +kernel
theorem dX8_oneHolds_24 : decode cX8_oneHolds 24 = .ok (.getfield 15, 3) := by decide +kernel
theorem dX8_oneHolds_27 : decode cX8_oneHolds 27 = .ok (.iload_n 1, 1) := by decide +kernel
theorem dX8_oneHolds_28 : decode cX8_oneHolds 28 = .ok (.iaload, 1) := by decide +kernel
theorem dX8_oneHolds_29 : decode cX8_oneHolds 29 = .ok (.imul, 1) := by decide +kernel
theorem dX8_oneHolds_30 : decode cX8_oneHolds 30 = .ok (.ishr, 1) := by decide +kernel
theorem dX8_oneHolds_31 : decode cX8_oneHolds 31 = .ok (.bipush 15, 2) := by decide +kernel
theorem dX8_oneHolds_33 : decode cX8_oneHolds 33 = .ok (.iand, 1) := by decide +kernel
theorem dX8_oneHolds_34 : decode cX8_oneHolds 34 = .ok (.istore 5, 2) := by decide +kernel
theorem dX8_oneHolds_36 : decode cX8_oneHolds 36 = .ok (.aload_n 0, 1) := by decide +kernel
theorem dX8_oneHolds_37 : decode cX8_oneHolds 37 = .ok (.getfield 9, 3) := by decide +kernel
theorem dX8_oneHolds_40 : decode cX8_oneHolds 40 = .ok (.iload_n 1, 1) := by decide +kernel
theorem dX8_oneHolds_41 : decode cX8_oneHolds 41 = .ok (.iaload, 1) := by decide +kernel
theorem dX8_oneHolds_42 : decode cX8_oneHolds 42 = .ok (.tableswitch 78 0 3 #[30, 33, 44, 61], 30) := by decide +kernel
theorem dX8_oneHolds_72 : decode cX8_oneHolds 72 = .ok (.iload 4, 2) := by decide +kernel
theorem dX8_oneHolds_74 : decode cX8_oneHolds 74 = .ok (.ireturn, 1) := by decide +kernel
theorem dX8_oneHolds_75 : decode cX8_oneHolds 75 = .ok (.iload 4, 2) := by decide +kernel
theorem dX8_oneHolds_77 : decode cX8_oneHolds 77 = .ok (.ifCond .ne 7, 3) := by decide +kernel
theorem dX8_oneHolds_80 : decode cX8_oneHolds 80 = .ok (.iconst 1, 1) := by decide +kernel
theorem dX8_oneHolds_81 : decode cX8_oneHolds 81 = .ok (.goto 4, 3) := by decide +kernel
theorem dX8_oneHolds_84 : decode cX8_oneHolds 84 = .ok (.iconst 0, 1) := by decide +kernel
theorem dX8_oneHolds_85 : decode cX8_oneHolds 85 = .ok (.ireturn, 1) := by decide +kernel
theorem dX8_oneHolds_86 : decode cX8_oneHolds 86 = .ok (.iload 5, 2) := by decide +kernel
theorem dX8_oneHolds_88 : decode cX8_oneHolds 88 = .ok (.aload_n 0, 1) := by decide +kernel
theorem dX8_oneHolds_89 : decode cX8_oneHolds 89 = .ok (.getfield 18, 3) := by decide +kernel
theorem dX8_oneHolds_92 : decode cX8_oneHolds 92 = .ok (.iload_n 1, 1) := by decide +kernel
theorem dX8_oneHolds_93 : decode cX8_oneHolds 93 = .ok (.iaload, 1) := by decide +kernel
theorem dX8_oneHolds_94 : decode cX8_oneHolds 94 = .ok (.if_icmp .ge 7, 3) := by decide +kernel
theorem dX8_oneHolds_97 : decode cX8_oneHolds 97 = .ok (.iconst 1, 1) := by decide +kernel
theorem dX8_oneHolds_98 : decode cX8_oneHolds 98 = .ok (.goto 4, 3) := by decide +kernel
theorem dX8_oneHolds_101 : decode cX8_oneHolds 101 = .ok (.iconst 0, 1) := by decide +kernel
theorem dX8_oneHolds_102 : decode cX8_oneHolds 102 = .ok (.ireturn, 1) := by decide +kernel
theorem dX8_oneHolds_103 : decode cX8_oneHolds 103 = .ok (.iload 5, 2) := by decide +kernel
theorem dX8_oneHolds_105 : decode cX8_oneHolds 105 = .ok (.aload_n 0, 1) := by decide +kernel
theorem dX8_oneHolds_106 : decode cX8_oneHolds 106 = .ok (.getfield 18, 3) := by decide +kernel
theorem dX8_oneHolds_109 : decode cX8_oneHolds 109 = .ok (.iload_n 1, 1) := by decide +kernel
theorem dX8_oneHolds_110 : decode cX8_oneHolds 110 = .ok (.iaload, 1) := by decide +kernel
theorem dX8_oneHolds_111 : decode cX8_oneHolds 111 = .ok (.if_icmp .le 7, 3) := by decide +kernel
theorem dX8_oneHolds_114 : decode cX8_oneHolds 114 = .ok (.iconst 1, 1) := by decide +kernel
theorem dX8_oneHolds_115 : decode cX8_oneHolds 115 = .ok (.goto 4, 3) := by decide +kernel
theorem dX8_oneHolds_118 : decode cX8_oneHolds 118 = .ok (.iconst 0, 1) := by decide +kernel
theorem dX8_oneHolds_119 : decode cX8_oneHolds 119 = .ok (.ireturn, 1) := by decide +kernel
theorem dX8_oneHolds_120 : decode cX8_oneHolds 120 = .ok (.iload 5, 2) := by decide +kernel
theorem dX8_oneHolds_122 : decode cX8_oneHolds 122 = .ok (.aload_n 0, 1) := by decide +kernel
theorem dX8_oneHolds_123 : decode cX8_oneHolds 123 = .ok (.getfield 18, 3) := by decide +kernel
theorem dX8_oneHolds_126 : decode cX8_oneHolds 126 = .ok (.iload_n 1, 1) := by decide +kernel
theorem dX8_oneHolds_127 : decode cX8_oneHolds 127 = .ok (.iaload, 1) := by decide +kernel
theorem dX8_oneHolds_128 : decode cX8_oneHolds 128 = .ok (.if_icmp .ne 7, 3) := by decide +kernel
theorem dX8_oneHolds_131 : decode cX8_oneHolds 131 = .ok (.iconst 1, 1) := by decide +kernel
theorem dX8_oneHolds_132 : decode cX8_oneHolds 132 = .ok (.goto 4, 3) := by decide +kernel
theorem dX8_oneHolds_135 : decode cX8_oneHolds 135 = .ok (.iconst 0, 1) := by decide +kernel
theorem dX8_oneHolds_136 : decode cX8_oneHolds 136 = .ok (.ireturn, 1) := by decide +kernel
theorem dX8_allHold_0 : decode cX8_allHold 0 = .ok (.iload_n 2, 1) := by decide +kernel
theorem dX8_allHold_1 : decode cX8_allHold 1 = .ok (.aload_n 0, 1) := by decide +kernel
theorem dX8_allHold_2 : decode cX8_allHold 2 = .ok (.getfield 21, 3) := by decide +kernel
theorem dX8_allHold_5 : decode cX8_allHold 5 = .ok (.invokestatic 25, 3) := by decide +kernel
theorem dX8_allHold_8 : decode cX8_allHold 8 = .ok (.istore 5, 2) := by decide +kernel
theorem dX8_allHold_10 : decode cX8_allHold 10 = .ok (.iload_n 1, 1) := by decide +kernel
theorem dX8_allHold_11 : decode cX8_allHold 11 = .ok (.iconst 0, 1) := by decide +kernel
theorem dX8_allHold_12 : decode cX8_allHold 12 = .ok (.invokestatic 31, 3) := by decide +kernel
theorem dX8_allHold_15 : decode cX8_allHold 15 = .ok (.istore 6, 2) := by decide +kernel
theorem dX8_allHold_17 : decode cX8_allHold 17 = .ok (.iload 6, 2) := by decide +kernel
theorem dX8_allHold_19 : decode cX8_allHold 19 = .ok (.sipush 200, 3) := by decide +kernel
theorem dX8_allHold_22 : decode cX8_allHold 22 = .ok (.if_icmp .ge 30, 3) := by decide +kernel
theorem dX8_allHold_25 : decode cX8_allHold 25 = .ok (.iload 6, 2) := by decide +kernel
theorem dX8_allHold_27 : decode cX8_allHold 27 = .ok (.iload 5, 2) := by decide +kernel
theorem dX8_allHold_29 : decode cX8_allHold 29 = .ok (.if_icmp .ge 23, 3) := by decide +kernel
theorem dX8_allHold_32 : decode cX8_allHold 32 = .ok (.aload_n 0, 1) := by decide +kernel
theorem dX8_allHold_33 : decode cX8_allHold 33 = .ok (.iload 6, 2) := by decide +kernel
theorem dX8_allHold_35 : decode cX8_allHold 35 = .ok (.iload_n 3, 1) := by decide +kernel
theorem dX8_allHold_36 : decode cX8_allHold 36 = .ok (.iload 4, 2) := by decide +kernel
theorem dX8_allHold_38 : decode cX8_allHold 38 = .ok (.invokevirtual 34, 3) := by decide +kernel
theorem dX8_allHold_41 : decode cX8_allHold 41 = .ok (.ifCond .ne 5, 3) := by decide +kernel
theorem dX8_allHold_44 : decode cX8_allHold 44 = .ok (.iconst 0, 1) := by decide +kernel
theorem dX8_allHold_45 : decode cX8_allHold 45 = .ok (.ireturn, 1) := by decide +kernel
theorem dX8_allHold_46 : decode cX8_allHold 46 = .ok (.iinc 6 1, 3) := by decide +kernel
theorem dX8_allHold_49 : decode cX8_allHold 49 = .ok (.goto (-32), 3) := by decide +kernel
theorem dX8_allHold_52 : decode cX8_allHold 52 = .ok (.iconst 1, 1) := by decide +kernel
theorem dX8_allHold_53 : decode cX8_allHold 53 = .ok (.ireturn, 1) := by decide +kernel
theorem dX8_narrowed_0 : decode cX8_narrowed 0 = .ok (.aload_n 0, 1) := by decide +kernel
theorem dX8_narrowed_1 : decode cX8_narrowed 1 = .ok (.getfield 15, 3) := by decide +kernel
theorem dX8_narrowed_4 : decode cX8_narrowed 4 = .ok (.iload_n 1, 1) := by decide +kernel
theorem dX8_narrowed_5 : decode cX8_narrowed 5 = .ok (.iaload, 1) := by decide +kernel
theorem dX8_narrowed_6 : decode cX8_narrowed 6 = .ok (.istore 4, 2) := by decide +kernel
theorem dX8_narrowed_8 : decode cX8_narrowed 8 = .ok (.aload_n 0, 1) := by decide +kernel
theorem dX8_narrowed_9 : decode cX8_narrowed 9 = .ok (.getfield 18, 3) := by decide +kernel
theorem dX8_narrowed_12 : decode cX8_narrowed 12 = .ok (.iload_n 1, 1) := by decide +kernel
theorem dX8_narrowed_13 : decode cX8_narrowed 13 = .ok (.iaload, 1) := by decide +kernel
theorem dX8_narrowed_14 : decode cX8_narrowed 14 = .ok (.istore 5, 2) := by decide +kernel
theorem dX8_narrowed_16 : decode cX8_narrowed 16 = .ok (.lload_n 2, 1) := by decide +kernel
theorem dX8_narrowed_17 : decode cX8_narrowed 17 = .ok (.iload 4, 2) := by decide +kernel
theorem dX8_narrowed_19 : decode cX8_narrowed 19 = .ok (.invokestatic 47, 3) := by decide +kernel
theorem dX8_narrowed_22 : decode cX8_narrowed 22 = .ok (.istore 6, 2) := by decide +kernel
theorem dX8_narrowed_24 : decode cX8_narrowed 24 = .ok (.lload_n 2, 1) := by decide +kernel
theorem dX8_narrowed_25 : decode cX8_narrowed 25 = .ok (.iload 4, 2) := by decide +kernel
theorem dX8_narrowed_27 : decode cX8_narrowed 27 = .ok (.invokestatic 51, 3) := by decide +kernel
theorem dX8_narrowed_30 : decode cX8_narrowed 30 = .ok (.istore 7, 2) := by decide +kernel
theorem dX8_narrowed_32 : decode cX8_narrowed 32 = .ok (.aload_n 0, 1) := by decide +kernel
theorem dX8_narrowed_33 : decode cX8_narrowed 33 = .ok (.getfield 9, 3) := by decide +kernel
theorem dX8_narrowed_36 : decode cX8_narrowed 36 = .ok (.iload_n 1, 1) := by decide +kernel
theorem dX8_narrowed_37 : decode cX8_narrowed 37 = .ok (.iaload, 1) := by decide +kernel
theorem dX8_narrowed_38 : decode cX8_narrowed 38 = .ok (.tableswitch 82 0 3 #[30, 38, 46, 64], 30) := by decide +kernel
theorem dX8_narrowed_68 : decode cX8_narrowed 68 = .ok (.lload_n 2, 1) := by decide +kernel
theorem dX8_narrowed_69 : decode cX8_narrowed 69 = .ok (.iload 4, 2) := by decide +kernel
theorem dX8_narrowed_71 : decode cX8_narrowed 71 = .ok (.iconst 2, 1) := by decide +kernel
theorem dX8_narrowed_72 : decode cX8_narrowed 72 = .ok (.invokestatic 54, 3) := by decide +kernel
theorem dX8_narrowed_75 : decode cX8_narrowed 75 = .ok (.lreturn, 1) := by decide +kernel
theorem dX8_narrowed_76 : decode cX8_narrowed 76 = .ok (.lload_n 2, 1) := by decide +kernel
theorem dX8_narrowed_77 : decode cX8_narrowed 77 = .ok (.iload 4, 2) := by decide +kernel
theorem dX8_narrowed_79 : decode cX8_narrowed 79 = .ok (.iconst 1, 1) := by decide +kernel
theorem dX8_narrowed_80 : decode cX8_narrowed 80 = .ok (.invokestatic 54, 3) := by decide +kernel
theorem dX8_narrowed_83 : decode cX8_narrowed 83 = .ok (.lreturn, 1) := by decide +kernel
theorem dX8_narrowed_84 : decode cX8_narrowed 84 = .ok (.lload_n 2, 1) := by decide +kernel
theorem dX8_narrowed_85 : decode cX8_narrowed 85 = .ok (.iload 4, 2) := by decide +kernel
theorem dX8_narrowed_87 : decode cX8_narrowed 87 = .ok (.iload 6, 2) := by decide +kernel
theorem dX8_narrowed_89 : decode cX8_narrowed 89 = .ok (.iload 7, 2) := by decide +kernel
theorem dX8_narrowed_91 : decode cX8_narrowed 91 = .ok (.iload 5, 2) := by decide +kernel
theorem dX8_narrowed_93 : decode cX8_narrowed 93 = .ok (.iconst 1, 1) := by decide +kernel
theorem dX8_narrowed_94 : decode cX8_narrowed 94 = .ok (.isub, 1) := by decide +kernel
theorem dX8_narrowed_95 : decode cX8_narrowed 95 = .ok (.invokestatic 25, 3) := by decide +kernel
theorem dX8_narrowed_98 : decode cX8_narrowed 98 = .ok (.invokestatic 58, 3) := by decide +kernel
theorem dX8_narrowed_101 : decode cX8_narrowed 101 = .ok (.lreturn, 1) := by decide +kernel
theorem dX8_narrowed_102 : decode cX8_narrowed 102 = .ok (.lload_n 2, 1) := by decide +kernel
theorem dX8_narrowed_103 : decode cX8_narrowed 103 = .ok (.iload 4, 2) := by decide +kernel
theorem dX8_narrowed_105 : decode cX8_narrowed 105 = .ok (.iload 6, 2) := by decide +kernel
theorem dX8_narrowed_107 : decode cX8_narrowed 107 = .ok (.iload 5, 2) := by decide +kernel
theorem dX8_narrowed_109 : decode cX8_narrowed 109 = .ok (.iconst 1, 1) := by decide +kernel
theorem dX8_narrowed_110 : decode cX8_narrowed 110 = .ok (.iadd, 1) := by decide +kernel
theorem dX8_narrowed_111 : decode cX8_narrowed 111 = .ok (.invokestatic 31, 3) := by decide +kernel
theorem dX8_narrowed_114 : decode cX8_narrowed 114 = .ok (.iload 7, 2) := by decide +kernel
theorem dX8_narrowed_116 : decode cX8_narrowed 116 = .ok (.invokestatic 58, 3) := by decide +kernel
theorem dX8_narrowed_119 : decode cX8_narrowed 119 = .ok (.lreturn, 1) := by decide +kernel
theorem dX8_narrowed_120 : decode cX8_narrowed 120 = .ok (.lload_n 2, 1) := by decide +kernel
theorem dX8_narrowed_121 : decode cX8_narrowed 121 = .ok (.iload 4, 2) := by decide +kernel
theorem dX8_narrowed_123 : decode cX8_narrowed 123 = .ok (.iload 6, 2) := by decide +kernel
theorem dX8_narrowed_125 : decode cX8_narrowed 125 = .ok (.iload 5, 2) := by decide +kernel
theorem dX8_narrowed_127 : decode cX8_narrowed 127 = .ok (.invokestatic 31, 3) := by decide +kernel
theorem dX8_narrowed_130 : decode cX8_narrowed 130 = .ok (.iload 7, 2) := by decide +kernel
theorem dX8_narrowed_132 : decode cX8_narrowed 132 = .ok (.iload 5, 2) := by decide +kernel
theorem dX8_narrowed_134 : decode cX8_narrowed 134 = .ok (.invokestatic 25, 3) := by decide +kernel
theorem dX8_narrowed_137 : decode cX8_narrowed 137 = .ok (.invokestatic 58, 3) := by decide +kernel
theorem dX8_narrowed_140 : decode cX8_narrowed 140 = .ok (.lreturn, 1) := by decide +kernel
theorem dX8_truePart_0 : decode cX8_truePart 0 = .ok (.iload_n 2, 1) := by decide +kernel
theorem dX8_truePart_1 : decode cX8_truePart 1 = .ok (.aload_n 0, 1) := by decide +kernel
theorem dX8_truePart_2 : decode cX8_truePart 2 = .ok (.getfield 21, 3) := by decide +kernel
theorem dX8_truePart_5 : decode cX8_truePart 5 = .ok (.invokestatic 25, 3) := by decide +kernel
theorem dX8_truePart_8 : decode cX8_truePart 8 = .ok (.istore 5, 2) := by decide +kernel
theorem dX8_truePart_10 : decode cX8_truePart 10 = .ok (.lload_n 3, 1) := by decide +kernel
theorem dX8_truePart_11 : decode cX8_truePart 11 = .ok (.lstore 6, 2) := by decide +kernel
theorem dX8_truePart_13 : decode cX8_truePart 13 = .ok (.iload_n 1, 1) := by decide +kernel
theorem dX8_truePart_14 : decode cX8_truePart 14 = .ok (.iconst 0, 1) := by decide +kernel
theorem dX8_truePart_15 : decode cX8_truePart 15 = .ok (.invokestatic 31, 3) := by decide +kernel
theorem dX8_truePart_18 : decode cX8_truePart 18 = .ok (.istore 8, 2) := by decide +kernel
theorem dX8_truePart_20 : decode cX8_truePart 20 = .ok (.iload 8, 2) := by decide +kernel
theorem dX8_truePart_22 : decode cX8_truePart 22 = .ok (.sipush 200, 3) := by decide +kernel
theorem dX8_truePart_25 : decode cX8_truePart 25 = .ok (.if_icmp .ge 33, 3) := by decide +kernel
theorem dX8_truePart_28 : decode cX8_truePart 28 = .ok (.iload 8, 2) := by decide +kernel
theorem dX8_truePart_30 : decode cX8_truePart 30 = .ok (.iload 5, 2) := by decide +kernel
theorem dX8_truePart_32 : decode cX8_truePart 32 = .ok (.if_icmp .ge 26, 3) := by decide +kernel
theorem dX8_truePart_35 : decode cX8_truePart 35 = .ok (.lload 6, 2) := by decide +kernel
theorem dX8_truePart_37 : decode cX8_truePart 37 = .ok (.lconst 0, 1) := by decide +kernel
theorem dX8_truePart_38 : decode cX8_truePart 38 = .ok (.lcmp, 1) := by decide +kernel
theorem dX8_truePart_39 : decode cX8_truePart 39 = .ok (.ifCond .eq 13, 3) := by decide +kernel
theorem dX8_truePart_42 : decode cX8_truePart 42 = .ok (.aload_n 0, 1) := by decide +kernel
theorem dX8_truePart_43 : decode cX8_truePart 43 = .ok (.iload 8, 2) := by decide +kernel
theorem dX8_truePart_45 : decode cX8_truePart 45 = .ok (.lload 6, 2) := by decide +kernel
theorem dX8_truePart_47 : decode cX8_truePart 47 = .ok (.invokevirtual 40, 3) := by decide +kernel
theorem dX8_truePart_50 : decode cX8_truePart 50 = .ok (.lstore 6, 2) := by decide +kernel
theorem dX8_truePart_52 : decode cX8_truePart 52 = .ok (.iinc 8 1, 3) := by decide +kernel
theorem dX8_truePart_55 : decode cX8_truePart 55 = .ok (.goto (-35), 3) := by decide +kernel
theorem dX8_truePart_58 : decode cX8_truePart 58 = .ok (.lload 6, 2) := by decide +kernel
theorem dX8_truePart_60 : decode cX8_truePart 60 = .ok (.lreturn, 1) := by decide +kernel
theorem dX8_narrowedByOpposite_0 : decode cX8_narrowedByOpposite 0 = .ok (.aload_n 0, 1) := by decide +kernel
theorem dX8_narrowedByOpposite_1 : decode cX8_narrowedByOpposite 1 = .ok (.getfield 15, 3) := by decide +kernel
theorem dX8_narrowedByOpposite_4 : decode cX8_narrowedByOpposite 4 = .ok (.iload_n 1, 1) := by decide +kernel
theorem dX8_narrowedByOpposite_5 : decode cX8_narrowedByOpposite 5 = .ok (.iaload, 1) := by decide +kernel
theorem dX8_narrowedByOpposite_6 : decode cX8_narrowedByOpposite 6 = .ok (.istore 4, 2) := by decide +kernel
theorem dX8_narrowedByOpposite_8 : decode cX8_narrowedByOpposite 8 = .ok (.aload_n 0, 1) := by decide +kernel
theorem dX8_narrowedByOpposite_9 : decode cX8_narrowedByOpposite 9 = .ok (.getfield 18, 3) := by decide +kernel
theorem dX8_narrowedByOpposite_12 : decode cX8_narrowedByOpposite 12 = .ok (.iload_n 1, 1) := by decide +kernel
theorem dX8_narrowedByOpposite_13 : decode cX8_narrowedByOpposite 13 = .ok (.iaload, 1) := by decide +kernel
theorem dX8_narrowedByOpposite_14 : decode cX8_narrowedByOpposite 14 = .ok (.istore 5, 2) := by decide +kernel
theorem dX8_narrowedByOpposite_16 : decode cX8_narrowedByOpposite 16 = .ok (.lload_n 2, 1) := by decide +kernel
theorem dX8_narrowedByOpposite_17 : decode cX8_narrowedByOpposite 17 = .ok (.iload 4, 2) := by decide +kernel
theorem dX8_narrowedByOpposite_19 : decode cX8_narrowedByOpposite 19 = .ok (.invokestatic 47, 3) := by decide +kernel
theorem dX8_narrowedByOpposite_22 : decode cX8_narrowedByOpposite 22 = .ok (.istore 6, 2) := by decide +kernel
theorem dX8_narrowedByOpposite_24 : decode cX8_narrowedByOpposite 24 = .ok (.lload_n 2, 1) := by decide +kernel
theorem dX8_narrowedByOpposite_25 : decode cX8_narrowedByOpposite 25 = .ok (.iload 4, 2) := by decide +kernel
theorem dX8_narrowedByOpposite_27 : decode cX8_narrowedByOpposite 27 = .ok (.invokestatic 51, 3) := by decide +kernel
theorem dX8_narrowedByOpposite_30 : decode cX8_narrowedByOpposite 30 = .ok (.istore 7, 2) := by decide +kernel
theorem dX8_narrowedByOpposite_32 : decode cX8_narrowedByOpposite 32 = .ok (.aload_n 0, 1) := by decide +kernel
theorem dX8_narrowedByOpposite_33 : decode cX8_narrowedByOpposite 33 = .ok (.getfield 9, 3) := by decide +kernel
theorem dX8_narrowedByOpposite_36 : decode cX8_narrowedByOpposite 36 = .ok (.iload_n 1, 1) := by decide +kernel
theorem dX8_narrowedByOpposite_37 : decode cX8_narrowedByOpposite 37 = .ok (.iaload, 1) := by decide +kernel
theorem dX8_narrowedByOpposite_38 : decode cX8_narrowedByOpposite 38 = .ok (.tableswitch 78 0 3 #[30, 38, 46, 62], 30) := by decide +kernel
theorem dX8_narrowedByOpposite_68 : decode cX8_narrowedByOpposite 68 = .ok (.lload_n 2, 1) := by decide +kernel
theorem dX8_narrowedByOpposite_69 : decode cX8_narrowedByOpposite 69 = .ok (.iload 4, 2) := by decide +kernel
theorem dX8_narrowedByOpposite_71 : decode cX8_narrowedByOpposite 71 = .ok (.iconst 1, 1) := by decide +kernel
theorem dX8_narrowedByOpposite_72 : decode cX8_narrowedByOpposite 72 = .ok (.invokestatic 54, 3) := by decide +kernel
theorem dX8_narrowedByOpposite_75 : decode cX8_narrowedByOpposite 75 = .ok (.lreturn, 1) := by decide +kernel
theorem dX8_narrowedByOpposite_76 : decode cX8_narrowedByOpposite 76 = .ok (.lload_n 2, 1) := by decide +kernel
theorem dX8_narrowedByOpposite_77 : decode cX8_narrowedByOpposite 77 = .ok (.iload 4, 2) := by decide +kernel
theorem dX8_narrowedByOpposite_79 : decode cX8_narrowedByOpposite 79 = .ok (.iconst 2, 1) := by decide +kernel
theorem dX8_narrowedByOpposite_80 : decode cX8_narrowedByOpposite 80 = .ok (.invokestatic 54, 3) := by decide +kernel
theorem dX8_narrowedByOpposite_83 : decode cX8_narrowedByOpposite 83 = .ok (.lreturn, 1) := by decide +kernel
theorem dX8_narrowedByOpposite_84 : decode cX8_narrowedByOpposite 84 = .ok (.lload_n 2, 1) := by decide +kernel
theorem dX8_narrowedByOpposite_85 : decode cX8_narrowedByOpposite 85 = .ok (.iload 4, 2) := by decide +kernel
theorem dX8_narrowedByOpposite_87 : decode cX8_narrowedByOpposite 87 = .ok (.iload 6, 2) := by decide +kernel
theorem dX8_narrowedByOpposite_89 : decode cX8_narrowedByOpposite 89 = .ok (.iload 5, 2) := by decide +kernel
theorem dX8_narrowedByOpposite_91 : decode cX8_narrowedByOpposite 91 = .ok (.invokestatic 31, 3) := by decide +kernel
theorem dX8_narrowedByOpposite_94 : decode cX8_narrowedByOpposite 94 = .ok (.iload 7, 2) := by decide +kernel
theorem dX8_narrowedByOpposite_96 : decode cX8_narrowedByOpposite 96 = .ok (.invokestatic 58, 3) := by decide +kernel
theorem dX8_narrowedByOpposite_99 : decode cX8_narrowedByOpposite 99 = .ok (.lreturn, 1) := by decide +kernel
theorem dX8_narrowedByOpposite_100 : decode cX8_narrowedByOpposite 100 = .ok (.lload_n 2, 1) := by decide +kernel
theorem dX8_narrowedByOpposite_101 : decode cX8_narrowedByOpposite 101 = .ok (.iload 4, 2) := by decide +kernel
theorem dX8_narrowedByOpposite_103 : decode cX8_narrowedByOpposite 103 = .ok (.iload 6, 2) := by decide +kernel
theorem dX8_narrowedByOpposite_105 : decode cX8_narrowedByOpposite 105 = .ok (.iload 7, 2) := by decide +kernel
theorem dX8_narrowedByOpposite_107 : decode cX8_narrowedByOpposite 107 = .ok (.iload 5, 2) := by decide +kernel
theorem dX8_narrowedByOpposite_109 : decode cX8_narrowedByOpposite 109 = .ok (.invokestatic 25, 3) := by decide +kernel
theorem dX8_narrowedByOpposite_112 : decode cX8_narrowedByOpposite 112 = .ok (.invokestatic 58, 3) := by decide +kernel
theorem dX8_narrowedByOpposite_115 : decode cX8_narrowedByOpposite 115 = .ok (.lreturn, 1) := by decide +kernel
theorem dX8_narrowedByOpposite_116 : decode cX8_narrowedByOpposite 116 = .ok (.lload_n 2, 1) := by decide +kernel
theorem dX8_narrowedByOpposite_117 : decode cX8_narrowedByOpposite 117 = .ok (.iload 4, 2) := by decide +kernel
theorem dX8_narrowedByOpposite_119 : decode cX8_narrowedByOpposite 119 = .ok (.iload 6, 2) := by decide +kernel
theorem dX8_narrowedByOpposite_121 : decode cX8_narrowedByOpposite 121 = .ok (.iload 5, 2) := by decide +kernel
theorem dX8_narrowedByOpposite_123 : decode cX8_narrowedByOpposite 123 = .ok (.if_icmp .ne 10, 3) := by decide +kernel
theorem dX8_narrowedByOpposite_126 : decode cX8_narrowedByOpposite 126 = .ok (.iload 6, 2) := by decide +kernel
theorem dX8_narrowedByOpposite_128 : decode cX8_narrowedByOpposite 128 = .ok (.iconst 1, 1) := by decide +kernel
theorem dX8_narrowedByOpposite_129 : decode cX8_narrowedByOpposite 129 = .ok (.iadd, 1) := by decide +kernel
theorem dX8_narrowedByOpposite_130 : decode cX8_narrowedByOpposite 130 = .ok (.goto 5, 3) := by decide +kernel
theorem dX8_narrowedByOpposite_133 : decode cX8_narrowedByOpposite 133 = .ok (.iload 6, 2) := by decide +kernel
theorem dX8_narrowedByOpposite_135 : decode cX8_narrowedByOpposite 135 = .ok (.iload 7, 2) := by decide +kernel
theorem dX8_narrowedByOpposite_137 : decode cX8_narrowedByOpposite 137 = .ok (.iload 5, 2) := by decide +kernel
theorem dX8_narrowedByOpposite_139 : decode cX8_narrowedByOpposite 139 = .ok (.if_icmp .ne 10, 3) := by decide +kernel
theorem dX8_narrowedByOpposite_142 : decode cX8_narrowedByOpposite 142 = .ok (.iload 7, 2) := by decide +kernel
theorem dX8_narrowedByOpposite_144 : decode cX8_narrowedByOpposite 144 = .ok (.iconst 1, 1) := by decide +kernel
theorem dX8_narrowedByOpposite_145 : decode cX8_narrowedByOpposite 145 = .ok (.isub, 1) := by decide +kernel
theorem dX8_narrowedByOpposite_146 : decode cX8_narrowedByOpposite 146 = .ok (.goto 5, 3) := by decide +kernel
theorem dX8_narrowedByOpposite_149 : decode cX8_narrowedByOpposite 149 = .ok (.iload 7, 2) := by decide +kernel
theorem dX8_narrowedByOpposite_151 : decode cX8_narrowedByOpposite 151 = .ok (.invokestatic 58, 3) := by decide +kernel
theorem dX8_narrowedByOpposite_154 : decode cX8_narrowedByOpposite 154 = .ok (.lreturn, 1) := by decide +kernel
theorem dX8_falsePart_0 : decode cX8_falsePart 0 = .ok (.iload_n 2, 1) := by decide +kernel
theorem dX8_falsePart_1 : decode cX8_falsePart 1 = .ok (.iload_n 1, 1) := by decide +kernel
theorem dX8_falsePart_2 : decode cX8_falsePart 2 = .ok (.isub, 1) := by decide +kernel
theorem dX8_falsePart_3 : decode cX8_falsePart 3 = .ok (.iconst 1, 1) := by decide +kernel
theorem dX8_falsePart_4 : decode cX8_falsePart 4 = .ok (.if_icmp .ne 26, 3) := by decide +kernel
theorem dX8_falsePart_7 : decode cX8_falsePart 7 = .ok (.iload_n 1, 1) := by decide +kernel
theorem dX8_falsePart_8 : decode cX8_falsePart 8 = .ok (.ifCond .lt 22, 3) := by decide +kernel
theorem dX8_falsePart_11 : decode cX8_falsePart 11 = .ok (.iload_n 1, 1) := by decide +kernel
theorem dX8_falsePart_12 : decode cX8_falsePart 12 = .ok (.aload_n 0, 1) := by decide +kernel
theorem dX8_falsePart_13 : decode cX8_falsePart 13 = .ok (.getfield 21, 3) := by decide +kernel
theorem dX8_falsePart_16 : decode cX8_falsePart 16 = .ok (.if_icmp .ge 14, 3) := by decide +kernel
theorem dX8_falsePart_19 : decode cX8_falsePart 19 = .ok (.iload_n 1, 1) := by decide +kernel
theorem dX8_falsePart_20 : decode cX8_falsePart 20 = .ok (.sipush 200, 3) := by decide +kernel
theorem dX8_falsePart_23 : decode cX8_falsePart 23 = .ok (.if_icmp .ge 7, 3) := by decide +kernel
theorem dX8_falsePart_26 : decode cX8_falsePart 26 = .ok (.iconst 1, 1) := by decide +kernel
theorem dX8_falsePart_27 : decode cX8_falsePart 27 = .ok (.goto 4, 3) := by decide +kernel
theorem dX8_falsePart_30 : decode cX8_falsePart 30 = .ok (.iconst 0, 1) := by decide +kernel
theorem dX8_falsePart_31 : decode cX8_falsePart 31 = .ok (.istore 5, 2) := by decide +kernel
theorem dX8_falsePart_33 : decode cX8_falsePart 33 = .ok (.iload 5, 2) := by decide +kernel
theorem dX8_falsePart_35 : decode cX8_falsePart 35 = .ok (.ifCond .eq 18, 3) := by decide +kernel
theorem dX8_falsePart_38 : decode cX8_falsePart 38 = .ok (.lload_n 3, 1) := by decide +kernel
theorem dX8_falsePart_39 : decode cX8_falsePart 39 = .ok (.lconst 0, 1) := by decide +kernel
theorem dX8_falsePart_40 : decode cX8_falsePart 40 = .ok (.lcmp, 1) := by decide +kernel
theorem dX8_falsePart_41 : decode cX8_falsePart 41 = .ok (.ifCond .eq 12, 3) := by decide +kernel
theorem dX8_falsePart_44 : decode cX8_falsePart 44 = .ok (.aload_n 0, 1) := by decide +kernel
theorem dX8_falsePart_45 : decode cX8_falsePart 45 = .ok (.iload_n 1, 1) := by decide +kernel
theorem dX8_falsePart_46 : decode cX8_falsePart 46 = .ok (.lload_n 3, 1) := by decide +kernel
theorem dX8_falsePart_47 : decode cX8_falsePart 47 = .ok (.invokevirtual 44, 3) := by decide +kernel
theorem dX8_falsePart_50 : decode cX8_falsePart 50 = .ok (.goto 4, 3) := by decide +kernel
theorem dX8_falsePart_53 : decode cX8_falsePart 53 = .ok (.lload_n 3, 1) := by decide +kernel
theorem dX8_falsePart_54 : decode cX8_falsePart 54 = .ok (.lreturn, 1) := by decide +kernel
theorem dX7_empty_0 : decode cX7_empty 0 = .ok (.aload_n 0, 1) := by decide +kernel
theorem dX7_empty_1 : decode cX7_empty 1 = .ok (.iconst 0, 1) := by decide +kernel
theorem dX7_empty_2 : decode cX7_empty 2 = .ok (.putfield 58, 3) := by decide +kernel
theorem dX7_empty_5 : decode cX7_empty 5 = .ok (.aload_n 0, 1) := by decide +kernel
theorem dX7_empty_6 : decode cX7_empty 6 = .ok (.getfield 39, 3) := by decide +kernel
theorem dX7_empty_9 : decode cX7_empty 9 = .ok (.iconst 0, 1) := by decide +kernel
theorem dX7_empty_10 : decode cX7_empty 10 = .ok (.putfield 62, 3) := by decide +kernel
theorem dX7_empty_13 : decode cX7_empty 13 = .ok (.aload_n 0, 1) := by decide +kernel
theorem dX7_empty_14 : decode cX7_empty 14 = .ok (.iconst 0, 1) := by decide +kernel
theorem dX7_empty_15 : decode cX7_empty 15 = .ok (.putfield 63, 3) := by decide +kernel
theorem dX7_empty_18 : decode cX7_empty 18 = .ok (.aload_n 0, 1) := by decide +kernel
theorem dX7_empty_19 : decode cX7_empty 19 = .ok (.iconst 0, 1) := by decide +kernel
theorem dX7_empty_20 : decode cX7_empty 20 = .ok (.putfield 66, 3) := by decide +kernel
theorem dX7_empty_23 : decode cX7_empty 23 = .ok (.aload_n 0, 1) := by decide +kernel
theorem dX7_empty_24 : decode cX7_empty 24 = .ok (.iconst 0, 1) := by decide +kernel
theorem dX7_empty_25 : decode cX7_empty 25 = .ok (.putfield 69, 3) := by decide +kernel
theorem dX7_empty_28 : decode cX7_empty 28 = .ok (.aload_n 0, 1) := by decide +kernel
theorem dX7_empty_29 : decode cX7_empty 29 = .ok (.iconst 0, 1) := by decide +kernel
theorem dX7_empty_30 : decode cX7_empty 30 = .ok (.putfield 72, 3) := by decide +kernel
theorem dX7_empty_33 : decode cX7_empty 33 = .ok (.return_, 1) := by decide +kernel
theorem dX7_append_0 : decode cX7_append 0 = .ok (.aload_n 0, 1) := by decide +kernel
theorem dX7_append_1 : decode cX7_append 1 = .ok (.getfield 58, 3) := by decide +kernel
theorem dX7_append_4 : decode cX7_append 4 = .ok (.ifCond .lt 13, 3) := by decide +kernel
theorem dX7_append_7 : decode cX7_append 7 = .ok (.aload_n 0, 1) := by decide +kernel
theorem dX7_append_8 : decode cX7_append 8 = .ok (.getfield 58, 3) := by decide +kernel
theorem dX7_append_11 : decode cX7_append 11 = .ok (.sipush 400, 3) := by decide +kernel
theorem dX7_append_14 : decode cX7_append 14 = .ok (.if_icmp .lt 5, 3) := by decide +kernel
theorem dX7_append_17 : decode cX7_append 17 = .ok (.iconst (-1), 1) := by decide +kernel
theorem dX7_append_18 : decode cX7_append 18 = .ok (.ireturn, 1) := by decide +kernel
theorem dX7_append_19 : decode cX7_append 19 = .ok (.aload_n 0, 1) := by decide +kernel
theorem dX7_append_20 : decode cX7_append 20 = .ok (.getfield 58, 3) := by decide +kernel
theorem dX7_append_23 : decode cX7_append 23 = .ok (.istore 4, 2) := by decide +kernel
theorem dX7_append_25 : decode cX7_append 25 = .ok (.aload_n 0, 1) := by decide +kernel
theorem dX7_append_26 : decode cX7_append 26 = .ok (.getfield 9, 3) := by decide +kernel
theorem dX7_append_29 : decode cX7_append 29 = .ok (.iload 4, 2) := by decide +kernel
theorem dX7_append_31 : decode cX7_append 31 = .ok (.iload_n 1, 1) := by decide +kernel
theorem dX7_append_32 : decode cX7_append 32 = .ok (.iastore, 1) := by decide +kernel
theorem dX7_append_33 : decode cX7_append 33 = .ok (.aload_n 0, 1) := by decide +kernel
theorem dX7_append_34 : decode cX7_append 34 = .ok (.getfield 15, 3) := by decide +kernel
theorem dX7_append_37 : decode cX7_append 37 = .ok (.iload 4, 2) := by decide +kernel
theorem dX7_append_39 : decode cX7_append 39 = .ok (.iload_n 2, 1) := by decide +kernel
theorem dX7_append_40 : decode cX7_append 40 = .ok (.iastore, 1) := by decide +kernel
theorem dX7_append_41 : decode cX7_append 41 = .ok (.aload_n 0, 1) := by decide +kernel
theorem dX7_append_42 : decode cX7_append 42 = .ok (.getfield 18, 3) := by decide +kernel
theorem dX7_append_45 : decode cX7_append 45 = .ok (.iload 4, 2) := by decide +kernel
theorem dX7_append_47 : decode cX7_append 47 = .ok (.iload_n 3, 1) := by decide +kernel
theorem dX7_append_48 : decode cX7_append 48 = .ok (.iastore, 1) := by decide +kernel
theorem dX7_append_49 : decode cX7_append 49 = .ok (.aload_n 0, 1) := by decide +kernel
theorem dX7_append_50 : decode cX7_append 50 = .ok (.getfield 21, 3) := by decide +kernel
theorem dX7_append_53 : decode cX7_append 53 = .ok (.iload 4, 2) := by decide +kernel
theorem dX7_append_55 : decode cX7_append 55 = .ok (.iconst (-1), 1) := by decide +kernel
theorem dX7_append_56 : decode cX7_append 56 = .ok (.iastore, 1) := by decide +kernel
theorem dX7_append_57 : decode cX7_append 57 = .ok (.aload_n 0, 1) := by decide +kernel
theorem dX7_append_58 : decode cX7_append 58 = .ok (.getfield 24, 3) := by decide +kernel
theorem dX7_append_61 : decode cX7_append 61 = .ok (.iload 4, 2) := by decide +kernel
theorem dX7_append_63 : decode cX7_append 63 = .ok (.iconst (-1), 1) := by decide +kernel
theorem dX7_append_64 : decode cX7_append 64 = .ok (.iastore, 1) := by decide +kernel
theorem dX7_append_65 : decode cX7_append 65 = .ok (.aload_n 0, 1) := by decide +kernel
theorem dX7_append_66 : decode cX7_append 66 = .ok (.getfield 27, 3) := by decide +kernel
theorem dX7_append_69 : decode cX7_append 69 = .ok (.iload 4, 2) := by decide +kernel
theorem dX7_append_71 : decode cX7_append 71 = .ok (.iconst (-1), 1) := by decide +kernel
theorem dX7_append_72 : decode cX7_append 72 = .ok (.iastore, 1) := by decide +kernel
theorem dX7_append_73 : decode cX7_append 73 = .ok (.aload_n 0, 1) := by decide +kernel
theorem dX7_append_74 : decode cX7_append 74 = .ok (.getfield 30, 3) := by decide +kernel
theorem dX7_append_77 : decode cX7_append 77 = .ok (.iload 4, 2) := by decide +kernel
theorem dX7_append_79 : decode cX7_append 79 = .ok (.aload_n 0, 1) := by decide +kernel
theorem dX7_append_80 : decode cX7_append 80 = .ok (.getfield 39, 3) := by decide +kernel
theorem dX7_append_83 : decode cX7_append 83 = .ok (.getfield 62, 3) := by decide +kernel
theorem dX7_append_86 : decode cX7_append 86 = .ok (.iastore, 1) := by decide +kernel
theorem dX7_append_87 : decode cX7_append 87 = .ok (.aload_n 0, 1) := by decide +kernel
theorem dX7_append_88 : decode cX7_append 88 = .ok (.getfield 33, 3) := by decide +kernel
theorem dX7_append_91 : decode cX7_append 91 = .ok (.iload 4, 2) := by decide +kernel
theorem dX7_append_93 : decode cX7_append 93 = .ok (.aload_n 0, 1) := by decide +kernel
theorem dX7_append_94 : decode cX7_append 94 = .ok (.getfield 39, 3) := by decide +kernel
theorem dX7_append_97 : decode cX7_append 97 = .ok (.getfield 62, 3) := by decide +kernel
theorem dX7_append_100 : decode cX7_append 100 = .ok (.iastore, 1) := by decide +kernel
theorem dX7_append_101 : decode cX7_append 101 = .ok (.aload_n 0, 1) := by decide +kernel
theorem dX7_append_102 : decode cX7_append 102 = .ok (.dup, 1) := by decide +kernel
theorem dX7_append_103 : decode cX7_append 103 = .ok (.getfield 58, 3) := by decide +kernel
theorem dX7_append_106 : decode cX7_append 106 = .ok (.iconst 1, 1) := by decide +kernel
theorem dX7_append_107 : decode cX7_append 107 = .ok (.iadd, 1) := by decide +kernel
theorem dX7_append_108 : decode cX7_append 108 = .ok (.putfield 58, 3) := by decide +kernel
theorem dX7_append_111 : decode cX7_append 111 = .ok (.iload 4, 2) := by decide +kernel
theorem dX7_append_113 : decode cX7_append 113 = .ok (.ireturn, 1) := by decide +kernel
theorem dX7_has_0 : decode cX7_has 0 = .ok (.iload_n 1, 1) := by decide +kernel
theorem dX7_has_1 : decode cX7_has 1 = .ok (.ifCond .lt 22, 3) := by decide +kernel
theorem dX7_has_4 : decode cX7_has 4 = .ok (.iload_n 1, 1) := by decide +kernel
theorem dX7_has_5 : decode cX7_has 5 = .ok (.aload_n 0, 1) := by decide +kernel
theorem dX7_has_6 : decode cX7_has 6 = .ok (.getfield 58, 3) := by decide +kernel
theorem dX7_has_9 : decode cX7_has 9 = .ok (.if_icmp .ge 14, 3) := by decide +kernel
theorem dX7_has_12 : decode cX7_has 12 = .ok (.iload_n 1, 1) := by decide +kernel
theorem dX7_has_13 : decode cX7_has 13 = .ok (.sipush 400, 3) := by decide +kernel
theorem dX7_has_16 : decode cX7_has 16 = .ok (.if_icmp .ge 7, 3) := by decide +kernel
theorem dX7_has_19 : decode cX7_has 19 = .ok (.iconst 1, 1) := by decide +kernel
theorem dX7_has_20 : decode cX7_has 20 = .ok (.goto 4, 3) := by decide +kernel
theorem dX7_has_23 : decode cX7_has 23 = .ok (.iconst 0, 1) := by decide +kernel
theorem dX7_has_24 : decode cX7_has 24 = .ok (.ireturn, 1) := by decide +kernel
theorem dX7_isOfSort_0 : decode cX7_isOfSort 0 = .ok (.aload_n 0, 1) := by decide +kernel
theorem dX7_isOfSort_1 : decode cX7_isOfSort 1 = .ok (.iload_n 1, 1) := by decide +kernel
theorem dX7_isOfSort_2 : decode cX7_isOfSort 2 = .ok (.invokevirtual 75, 3) := by decide +kernel
theorem dX7_isOfSort_5 : decode cX7_isOfSort 5 = .ok (.ifCond .eq 17, 3) := by decide +kernel
theorem dX7_isOfSort_8 : decode cX7_isOfSort 8 = .ok (.aload_n 0, 1) := by decide +kernel
theorem dX7_isOfSort_9 : decode cX7_isOfSort 9 = .ok (.getfield 9, 3) := by decide +kernel
theorem dX7_isOfSort_12 : decode cX7_isOfSort 12 = .ok (.iload_n 1, 1) := by decide +kernel
theorem dX7_isOfSort_13 : decode cX7_isOfSort 13 = .ok (.iaload, 1) := by decide +kernel
theorem dX7_isOfSort_14 : decode cX7_isOfSort 14 = .ok (.iload_n 2, 1) := by decide +kernel
theorem dX7_isOfSort_15 : decode cX7_isOfSort 15 = .ok (.if_icmp .ne 7, 3) := by decide +kernel
theorem dX7_isOfSort_18 : decode cX7_isOfSort 18 = .ok (.iconst 1, 1) := by decide +kernel
theorem dX7_isOfSort_19 : decode cX7_isOfSort 19 = .ok (.goto 4, 3) := by decide +kernel
theorem dX7_isOfSort_22 : decode cX7_isOfSort 22 = .ok (.iconst 0, 1) := by decide +kernel
theorem dX7_isOfSort_23 : decode cX7_isOfSort 23 = .ok (.ireturn, 1) := by decide +kernel
theorem dX7_standsAsHub_0 : decode cX7_standsAsHub 0 = .ok (.aload_n 0, 1) := by decide +kernel
theorem dX7_standsAsHub_1 : decode cX7_standsAsHub 1 = .ok (.getfield 66, 3) := by decide +kernel
theorem dX7_standsAsHub_4 : decode cX7_standsAsHub 4 = .ok (.iload_n 1, 1) := by decide +kernel
theorem dX7_standsAsHub_5 : decode cX7_standsAsHub 5 = .ok (.ishr, 1) := by decide +kernel
theorem dX7_standsAsHub_6 : decode cX7_standsAsHub 6 = .ok (.iconst 1, 1) := by decide +kernel
theorem dX7_standsAsHub_7 : decode cX7_standsAsHub 7 = .ok (.iand, 1) := by decide +kernel
theorem dX7_standsAsHub_8 : decode cX7_standsAsHub 8 = .ok (.iconst 1, 1) := by decide +kernel
theorem dX7_standsAsHub_9 : decode cX7_standsAsHub 9 = .ok (.if_icmp .ne 7, 3) := by decide +kernel
theorem dX7_standsAsHub_12 : decode cX7_standsAsHub 12 = .ok (.iconst 1, 1) := by decide +kernel
theorem dX7_standsAsHub_13 : decode cX7_standsAsHub 13 = .ok (.goto 4, 3) := by decide +kernel
theorem dX7_standsAsHub_16 : decode cX7_standsAsHub 16 = .ok (.iconst 0, 1) := by decide +kernel
theorem dX7_standsAsHub_17 : decode cX7_standsAsHub 17 = .ok (.ireturn, 1) := by decide +kernel
theorem dX7_standsInHub_0 : decode cX7_standsInHub 0 = .ok (.iload_n 1, 1) := by decide +kernel
theorem dX7_standsInHub_1 : decode cX7_standsInHub 1 = .ok (.ifCond .lt 34, 3) := by decide +kernel
theorem dX7_standsInHub_4 : decode cX7_standsInHub 4 = .ok (.iload_n 1, 1) := by decide +kernel
theorem dX7_standsInHub_5 : decode cX7_standsInHub 5 = .ok (.aload_n 0, 1) := by decide +kernel
theorem dX7_standsInHub_6 : decode cX7_standsInHub 6 = .ok (.getfield 69, 3) := by decide +kernel
theorem dX7_standsInHub_9 : decode cX7_standsInHub 9 = .ok (.if_icmp .ge 26, 3) := by decide +kernel
theorem dX7_standsInHub_12 : decode cX7_standsInHub 12 = .ok (.iload_n 1, 1) := by decide +kernel
theorem dX7_standsInHub_13 : decode cX7_standsInHub 13 = .ok (.bipush 16, 2) := by decide +kernel
theorem dX7_standsInHub_15 : decode cX7_standsInHub 15 = .ok (.if_icmp .ge 20, 3) := by decide +kernel
theorem dX7_standsInHub_18 : decode cX7_standsInHub 18 = .ok (.aload_n 0, 1) := by decide +kernel
theorem dX7_standsInHub_19 : decode cX7_standsInHub 19 = .ok (.aload_n 0, 1) := by decide +kernel
theorem dX7_standsInHub_20 : decode cX7_standsInHub 20 = .ok (.getfield 52, 3) := by decide +kernel
theorem dX7_standsInHub_23 : decode cX7_standsInHub 23 = .ok (.iload_n 1, 1) := by decide +kernel
theorem dX7_standsInHub_24 : decode cX7_standsInHub 24 = .ok (.iaload, 1) := by decide +kernel
theorem dX7_standsInHub_25 : decode cX7_standsInHub 25 = .ok (.invokevirtual 79, 3) := by decide +kernel
theorem dX7_standsInHub_28 : decode cX7_standsInHub 28 = .ok (.ifCond .eq 7, 3) := by decide +kernel
theorem dX7_standsInHub_31 : decode cX7_standsInHub 31 = .ok (.iconst 1, 1) := by decide +kernel
theorem dX7_standsInHub_32 : decode cX7_standsInHub 32 = .ok (.goto 4, 3) := by decide +kernel
theorem dX7_standsInHub_35 : decode cX7_standsInHub 35 = .ok (.iconst 0, 1) := by decide +kernel
theorem dX7_standsInHub_36 : decode cX7_standsInHub 36 = .ok (.ireturn, 1) := by decide +kernel
theorem dX6_begin_0 : decode cX6_begin 0 = .ok (.aload_n 0, 1) := by decide +kernel
theorem dX6_begin_1 : decode cX6_begin 1 = .ok (.aload_n 1, 1) := by decide +kernel
theorem dX6_begin_2 : decode cX6_begin 2 = .ok (.putfield 28, 3) := by decide +kernel
theorem dX6_begin_5 : decode cX6_begin 5 = .ok (.aload_n 0, 1) := by decide +kernel
theorem dX6_begin_6 : decode cX6_begin 6 = .ok (.getfield 28, 3) := by decide +kernel
theorem dX6_begin_9 : decode cX6_begin 9 = .ok (.invokevirtual 74, 3) := by decide +kernel
theorem dX6_begin_12 : decode cX6_begin 12 = .ok (.aload_n 0, 1) := by decide +kernel
theorem dX6_begin_13 : decode cX6_begin 13 = .ok (.iconst 0, 1) := by decide +kernel
theorem dX6_begin_14 : decode cX6_begin 14 = .ok (.putfield 77, 3) := by decide +kernel
theorem dX6_begin_17 : decode cX6_begin 17 = .ok (.aload_n 0, 1) := by decide +kernel
theorem dX6_begin_18 : decode cX6_begin 18 = .ok (.iconst 0, 1) := by decide +kernel
theorem dX6_begin_19 : decode cX6_begin 19 = .ok (.putfield 80, 3) := by decide +kernel
theorem dX6_begin_22 : decode cX6_begin 22 = .ok (.aload_n 0, 1) := by decide +kernel
theorem dX6_begin_23 : decode cX6_begin 23 = .ok (.iconst 0, 1) := by decide +kernel
theorem dX6_begin_24 : decode cX6_begin 24 = .ok (.putfield 42, 3) := by decide +kernel
theorem dX6_begin_27 : decode cX6_begin 27 = .ok (.aload_n 0, 1) := by decide +kernel
theorem dX6_begin_28 : decode cX6_begin 28 = .ok (.getfield 9, 3) := by decide +kernel
theorem dX6_begin_31 : decode cX6_begin 31 = .ok (.iconst (-1), 1) := by decide +kernel
theorem dX6_begin_32 : decode cX6_begin 32 = .ok (.invokestatic 83, 3) := by decide +kernel
theorem dX6_begin_35 : decode cX6_begin 35 = .ok (.return_, 1) := by decide +kernel
theorem dX6_isDigit_0 : decode cX6_isDigit 0 = .ok (.iload_n 0, 1) := by decide +kernel
theorem dX6_isDigit_1 : decode cX6_isDigit 1 = .ok (.bipush 48, 2) := by decide +kernel
theorem dX6_isDigit_3 : decode cX6_isDigit 3 = .ok (.if_icmp .lt 13, 3) := by decide +kernel
theorem dX6_isDigit_6 : decode cX6_isDigit 6 = .ok (.iload_n 0, 1) := by decide +kernel
theorem dX6_isDigit_7 : decode cX6_isDigit 7 = .ok (.bipush 57, 2) := by decide +kernel
theorem dX6_isDigit_9 : decode cX6_isDigit 9 = .ok (.if_icmp .gt 7, 3) := by decide +kernel
theorem dX6_isDigit_12 : decode cX6_isDigit 12 = .ok (.iconst 1, 1) := by decide +kernel
theorem dX6_isDigit_13 : decode cX6_isDigit 13 = .ok (.goto 4, 3) := by decide +kernel
theorem dX6_isDigit_16 : decode cX6_isDigit 16 = .ok (.iconst 0, 1) := by decide +kernel
theorem dX6_isDigit_17 : decode cX6_isDigit 17 = .ok (.ireturn, 1) := by decide +kernel
theorem dX6_measureNumber_0 : decode cX6_measureNumber 0 = .ok (.aload_n 0, 1) := by decide +kernel
theorem dX6_measureNumber_1 : decode cX6_measureNumber 1 = .ok (.iconst 0, 1) := by decide +kernel
theorem dX6_measureNumber_2 : decode cX6_measureNumber 2 = .ok (.putfield 88, 3) := by decide +kernel
theorem dX6_measureNumber_5 : decode cX6_measureNumber 5 = .ok (.aload_n 0, 1) := by decide +kernel
theorem dX6_measureNumber_6 : decode cX6_measureNumber 6 = .ok (.iconst 0, 1) := by decide +kernel
theorem dX6_measureNumber_7 : decode cX6_measureNumber 7 = .ok (.putfield 91, 3) := by decide +kernel
theorem dX6_measureNumber_10 : decode cX6_measureNumber 10 = .ok (.aload_n 0, 1) := by decide +kernel
theorem dX6_measureNumber_11 : decode cX6_measureNumber 11 = .ok (.getfield 42, 3) := by decide +kernel
theorem dX6_measureNumber_14 : decode cX6_measureNumber 14 = .ok (.iconst 0, 1) := by decide +kernel
theorem dX6_measureNumber_15 : decode cX6_measureNumber 15 = .ok (.invokestatic 94, 3) := by decide +kernel
theorem dX6_measureNumber_18 : decode cX6_measureNumber 18 = .ok (.istore_n 3, 1) := by decide +kernel
theorem dX6_measureNumber_19 : decode cX6_measureNumber 19 = .ok (.iload_n 3, 1) := by decide +kernel
theorem dX6_measureNumber_20 : decode cX6_measureNumber 20 = .ok (.iload_n 2, 1) := by decide +kernel
theorem dX6_measureNumber_21 : decode cX6_measureNumber 21 = .ok (.if_icmp .ge 54, 3) := by decide +kernel
theorem dX6_measureNumber_24 : decode cX6_measureNumber 24 = .ok (.aload_n 1, 1) := by decide +kernel
theorem dX6_measureNumber_25 : decode cX6_measureNumber 25 = .ok (.iload_n 3, 1) := by decide +kernel
theorem dX6_measureNumber_26 : decode cX6_measureNumber 26 = .ok (.iaload, 1) := by decide +kernel
theorem dX6_measureNumber_27 : decode cX6_measureNumber 27 = .ok (.invokestatic 97, 3) := by decide +kernel
theorem dX6_measureNumber_30 : decode cX6_measureNumber 30 = .ok (.ifCond .eq 45, 3) := by decide +kernel
theorem dX6_measureNumber_33 : decode cX6_measureNumber 33 = .ok (.aload_n 0, 1) := by decide +kernel
theorem dX6_measureNumber_34 : decode cX6_measureNumber 34 = .ok (.dup, 1) := by decide +kernel
theorem dX6_measureNumber_35 : decode cX6_measureNumber 35 = .ok (.getfield 88, 3) := by decide +kernel
theorem dX6_measureNumber_38 : decode cX6_measureNumber 38 = .ok (.iconst 1, 1) := by decide +kernel
theorem dX6_measureNumber_39 : decode cX6_measureNumber 39 = .ok (.iadd, 1) := by decide +kernel
theorem dX6_measureNumber_40 : decode cX6_measureNumber 40 = .ok (.putfield 88, 3) := by decide +kernel
theorem dX6_measureNumber_43 : decode cX6_measureNumber 43 = .ok (.aload_n 0, 1) := by decide +kernel
theorem dX6_measureNumber_44 : decode cX6_measureNumber 44 = .ok (.getfield 88, 3) := by decide +kernel
theorem dX6_measureNumber_47 : decode cX6_measureNumber 47 = .ok (.iconst 2, 1) := by decide +kernel
theorem dX6_measureNumber_48 : decode cX6_measureNumber 48 = .ok (.if_icmp .gt 21, 3) := by decide +kernel
theorem dX6_measureNumber_51 : decode cX6_measureNumber 51 = .ok (.aload_n 0, 1) := by decide +kernel
theorem dX6_measureNumber_52 : decode cX6_measureNumber 52 = .ok (.bipush 10, 2) := by decide +kernel
theorem dX6_measureNumber_54 : decode cX6_measureNumber 54 = .ok (.aload_n 0, 1) := by decide +kernel
theorem dX6_measureNumber_55 : decode cX6_measureNumber 55 = .ok (.getfield 91, 3) := by decide +kernel
theorem dX6_measureNumber_58 : decode cX6_measureNumber 58 = .ok (.imul, 1) := by decide +kernel
theorem dX6_measureNumber_59 : decode cX6_measureNumber 59 = .ok (.aload_n 1, 1) := by decide +kernel
theorem dX6_measureNumber_60 : decode cX6_measureNumber 60 = .ok (.iload_n 3, 1) := by decide +kernel
theorem dX6_measureNumber_61 : decode cX6_measureNumber 61 = .ok (.iaload, 1) := by decide +kernel
theorem dX6_measureNumber_62 : decode cX6_measureNumber 62 = .ok (.iadd, 1) := by decide +kernel
theorem dX6_measureNumber_63 : decode cX6_measureNumber 63 = .ok (.bipush 48, 2) := by decide +kernel
theorem dX6_measureNumber_65 : decode cX6_measureNumber 65 = .ok (.isub, 1) := by decide +kernel
theorem dX6_measureNumber_66 : decode cX6_measureNumber 66 = .ok (.putfield 91, 3) := by decide +kernel
theorem dX6_measureNumber_69 : decode cX6_measureNumber 69 = .ok (.iinc 3 1, 3) := by decide +kernel
theorem dX6_measureNumber_72 : decode cX6_measureNumber 72 = .ok (.goto (-53), 3) := by decide +kernel
theorem dX6_measureNumber_75 : decode cX6_measureNumber 75 = .ok (.return_, 1) := by decide +kernel
theorem wt_2 : (Jvm.Cond.initialized "BranchingStory$Story") ∈ lw_tbl := in_tb 2 (by decide +kernel)
theorem wt_3 : (Jvm.Cond.initialized "BranchingStory$Terms") ∈ lw_tbl := in_tb 3 (by decide +kernel)
theorem wt_4 : (Jvm.Cond.initialized "BranchingStory$Reader") ∈ lw_tbl := in_tb 4 (by decide +kernel)
theorem wt_16 : (Jvm.Cond.initialized "java/util/Arrays") ∈ lw_tbl := in_tb 16 (by decide +kernel)
theorem wt_17 : (Jvm.Cond.initialized "java/lang/Math") ∈ lw_tbl := in_tb 17 (by decide +kernel)
theorem wt_21 : (Jvm.Cond.initialized "BranchingStory$Knowledge") ∈ lw_tbl := in_tb 21 (by decide +kernel)
theorem wt_42 : (Jvm.Cond.fieldLink "BranchingStory$Terms" (21 : Nat) "BranchingStory$Terms" "size" "I") ∈ lw_tbl := in_tb 42 (by decide +kernel)
theorem wt_43 : (Jvm.Cond.fieldLinkNest "BranchingStory$Story" (62 : Nat) "BranchingStory$Terms" "size" "I" "BranchingStory") ∈ lw_tbl := in_tb 43 (by decide +kernel)
theorem wt_45 : (Jvm.Cond.fieldLink "BranchingStory$Terms" (9 : Nat) "BranchingStory$Terms" "sort" "[I") ∈ lw_tbl := in_tb 45 (by decide +kernel)
theorem wt_46 : (Jvm.Cond.fieldLink "BranchingStory$Terms" (15 : Nat) "BranchingStory$Terms" "subject" "[I") ∈ lw_tbl := in_tb 46 (by decide +kernel)
theorem wt_47 : (Jvm.Cond.fieldLink "BranchingStory$Terms" (18 : Nat) "BranchingStory$Terms" "digit" "[I") ∈ lw_tbl := in_tb 47 (by decide +kernel)
theorem wt_58 : (Jvm.Cond.fieldLink "BranchingStory$Story" (58 : Nat) "BranchingStory$Story" "size" "I") ∈ lw_tbl := in_tb 58 (by decide +kernel)
theorem wt_61 : (Jvm.Cond.fieldLink "BranchingStory$Story" (9 : Nat) "BranchingStory$Story" "sort" "[I") ∈ lw_tbl := in_tb 61 (by decide +kernel)
theorem wt_65 : (Jvm.Cond.fieldLink "BranchingStory$Story" (15 : Nat) "BranchingStory$Story" "who" "[I") ∈ lw_tbl := in_tb 65 (by decide +kernel)
theorem wt_69 : (Jvm.Cond.fieldLink "BranchingStory$Story" (18 : Nat) "BranchingStory$Story" "digit" "[I") ∈ lw_tbl := in_tb 69 (by decide +kernel)
theorem wt_72 : (Jvm.Cond.fieldLink "BranchingStory$Story" (21 : Nat) "BranchingStory$Story" "next" "[I") ∈ lw_tbl := in_tb 72 (by decide +kernel)
theorem wt_76 : (Jvm.Cond.fieldLink "BranchingStory$Story" (24 : Nat) "BranchingStory$Story" "first" "[I") ∈ lw_tbl := in_tb 76 (by decide +kernel)
theorem wt_80 : (Jvm.Cond.fieldLink "BranchingStory$Story" (27 : Nat) "BranchingStory$Story" "second" "[I") ∈ lw_tbl := in_tb 80 (by decide +kernel)
theorem wt_84 : (Jvm.Cond.fieldLink "BranchingStory$Story" (30 : Nat) "BranchingStory$Story" "termsFrom" "[I") ∈ lw_tbl := in_tb 84 (by decide +kernel)
theorem wt_87 : (Jvm.Cond.fieldLink "BranchingStory$Story" (33 : Nat) "BranchingStory$Story" "termsTo" "[I") ∈ lw_tbl := in_tb 87 (by decide +kernel)
theorem wt_91 : (Jvm.Cond.fieldLink "BranchingStory$Story" (39 : Nat) "BranchingStory$Story" "terms" "LBranchingStory$Terms;") ∈ lw_tbl := in_tb 91 (by decide +kernel)
theorem wt_95 : (Jvm.Cond.fieldLink "BranchingStory$Story" (63 : Nat) "BranchingStory$Story" "nodes" "I") ∈ lw_tbl := in_tb 95 (by decide +kernel)
theorem wt_106 : (Jvm.Cond.fieldLink "BranchingStory$Story" (66 : Nat) "BranchingStory$Story" "hubNodes" "I") ∈ lw_tbl := in_tb 106 (by decide +kernel)
theorem wt_108 : (Jvm.Cond.fieldLink "BranchingStory$Story" (69 : Nat) "BranchingStory$Story" "choices" "I") ∈ lw_tbl := in_tb 108 (by decide +kernel)
theorem wt_115 : (Jvm.Cond.fieldLink "BranchingStory$Story" (52 : Nat) "BranchingStory$Story" "choiceNode" "[I") ∈ lw_tbl := in_tb 115 (by decide +kernel)
theorem wt_123 : (Jvm.Cond.fieldLink "BranchingStory$Story" (72 : Nat) "BranchingStory$Story" "tests" "I") ∈ lw_tbl := in_tb 123 (by decide +kernel)
theorem wt_171 : (Jvm.Cond.fieldLink "BranchingStory$Reader" (28 : Nat) "BranchingStory$Reader" "story" "LBranchingStory$Story;") ∈ lw_tbl := in_tb 171 (by decide +kernel)
theorem wt_172 : (Jvm.Cond.fieldLink "BranchingStory$Reader" (77 : Nat) "BranchingStory$Reader" "awaited" "I") ∈ lw_tbl := in_tb 172 (by decide +kernel)
theorem wt_173 : (Jvm.Cond.fieldLink "BranchingStory$Reader" (80 : Nat) "BranchingStory$Reader" "depth" "I") ∈ lw_tbl := in_tb 173 (by decide +kernel)
theorem wt_174 : (Jvm.Cond.fieldLink "BranchingStory$Reader" (42 : Nat) "BranchingStory$Reader" "at" "I") ∈ lw_tbl := in_tb 174 (by decide +kernel)
theorem wt_176 : (Jvm.Cond.fieldLink "BranchingStory$Reader" (88 : Nat) "BranchingStory$Reader" "digits" "I") ∈ lw_tbl := in_tb 176 (by decide +kernel)
theorem wt_177 : (Jvm.Cond.fieldLink "BranchingStory$Reader" (91 : Nat) "BranchingStory$Reader" "number" "I") ∈ lw_tbl := in_tb 177 (by decide +kernel)
theorem wt_180 : (Jvm.Cond.fieldLink "BranchingStory$Reader" (9 : Nat) "BranchingStory$Reader" "nodeNamed" "[I") ∈ lw_tbl := in_tb 180 (by decide +kernel)
theorem wt_227 : (Jvm.Cond.fieldLink "BranchingStory$Lines" (19 : Nat) "BranchingStory$Lines" "count" "I") ∈ lw_tbl := in_tb 227 (by decide +kernel)
theorem wt_230 : (Jvm.Cond.fieldLink "BranchingStory$Lines" (9 : Nat) "BranchingStory$Lines" "latest" "[I") ∈ lw_tbl := in_tb 230 (by decide +kernel)
theorem wt_232 : (Jvm.Cond.fieldLink "BranchingStory$Lines" (15 : Nat) "BranchingStory$Lines" "ever" "[Z") ∈ lw_tbl := in_tb 232 (by decide +kernel)
theorem wt_460 : (Jvm.Cond.methodLinkNest "BranchingStory$Reader" (74 : Nat) ({ cls := "BranchingStory$Story", name := "empty", desc := "()V" } : Jvm.MethodName) "BranchingStory") ∈ lw_tbl := in_tb 460 (by decide +kernel)
theorem wt_462 : (Jvm.Cond.instanceMethod ({ cls := "BranchingStory$Story", name := "empty", desc := "()V" } : Jvm.MethodName)) ∈ lw_tbl := in_tb 462 (by decide +kernel)
theorem wt_463 : (Jvm.Cond.code ({ cls := "BranchingStory$Story", name := "empty", desc := "()V" } : Jvm.MethodName) prog_9_method_2_code (1 : Nat) (Option.none : Option Jvm.ClassFile.FieldType)) ∈ lw_tbl := in_tb 463 (by decide +kernel)
theorem wt_464 : (Jvm.Cond.methodLink "BranchingStory$Reader" (83 : Nat) ({ cls := "java/util/Arrays", name := "fill", desc := "([II)V" } : Jvm.MethodName)) ∈ lw_tbl := in_tb 464 (by decide +kernel)
theorem wt_465 : (Jvm.Cond.static ({ cls := "java/util/Arrays", name := "fill", desc := "([II)V" } : Jvm.MethodName)) ∈ lw_tbl := in_tb 465 (by decide +kernel)
theorem wt_466 : (Jvm.Cond.code ({ cls := "java/util/Arrays", name := "fill", desc := "([II)V" } : Jvm.MethodName) prog_23_method_103_code (4 : Nat) (Option.none : Option Jvm.ClassFile.FieldType)) ∈ lw_tbl := in_tb 466 (by decide +kernel)
theorem wt_468 : (Jvm.Cond.static ({ cls := "java/lang/Math", name := "min", desc := "(II)I" } : Jvm.MethodName)) ∈ lw_tbl := in_tb 468 (by decide +kernel)
theorem wt_469 : (Jvm.Cond.code ({ cls := "java/lang/Math", name := "min", desc := "(II)I" } : Jvm.MethodName) prog_18_method_69_code (2 : Nat) (Option.some Jvm.ClassFile.FieldType.int)) ∈ lw_tbl := in_tb 469 (by decide +kernel)
theorem wt_474 : (Jvm.Cond.methodLink "BranchingStory$Reader" (94 : Nat) ({ cls := "java/lang/Math", name := "max", desc := "(II)I" } : Jvm.MethodName)) ∈ lw_tbl := in_tb 474 (by decide +kernel)
theorem wt_475 : (Jvm.Cond.static ({ cls := "java/lang/Math", name := "max", desc := "(II)I" } : Jvm.MethodName)) ∈ lw_tbl := in_tb 475 (by decide +kernel)
theorem wt_476 : (Jvm.Cond.code ({ cls := "java/lang/Math", name := "max", desc := "(II)I" } : Jvm.MethodName) prog_18_method_65_code (2 : Nat) (Option.some Jvm.ClassFile.FieldType.int)) ∈ lw_tbl := in_tb 476 (by decide +kernel)
theorem wt_477 : (Jvm.Cond.methodLink "BranchingStory$Reader" (97 : Nat) ({ cls := "BranchingStory$Reader", name := "isDigit", desc := "(I)Z" } : Jvm.MethodName)) ∈ lw_tbl := in_tb 477 (by decide +kernel)
theorem wt_478 : (Jvm.Cond.static ({ cls := "BranchingStory$Reader", name := "isDigit", desc := "(I)Z" } : Jvm.MethodName)) ∈ lw_tbl := in_tb 478 (by decide +kernel)
theorem wt_479 : (Jvm.Cond.code ({ cls := "BranchingStory$Reader", name := "isDigit", desc := "(I)Z" } : Jvm.MethodName) prog_8_method_30_code (1 : Nat) (Option.some Jvm.ClassFile.FieldType.boolean)) ∈ lw_tbl := in_tb 479 (by decide +kernel)
theorem wt_526 : (Jvm.Cond.methodLink "BranchingStory$Story" (75 : Nat) ({ cls := "BranchingStory$Story", name := "has", desc := "(I)Z" } : Jvm.MethodName)) ∈ lw_tbl := in_tb 526 (by decide +kernel)
theorem wt_528 : (Jvm.Cond.instanceMethod ({ cls := "BranchingStory$Story", name := "has", desc := "(I)Z" } : Jvm.MethodName)) ∈ lw_tbl := in_tb 528 (by decide +kernel)
theorem wt_529 : (Jvm.Cond.code ({ cls := "BranchingStory$Story", name := "has", desc := "(I)Z" } : Jvm.MethodName) prog_9_method_4_code (2 : Nat) (Option.some Jvm.ClassFile.FieldType.boolean)) ∈ lw_tbl := in_tb 529 (by decide +kernel)
theorem wt_634 : (Jvm.Cond.constant "java/lang/Integer" (265 : Nat) (1431655765 : Int32)) ∈ lw_tbl := in_tb 634 (by decide +kernel)
theorem wt_635 : (Jvm.Cond.constant "java/lang/Integer" (266 : Nat) (858993459 : Int32)) ∈ lw_tbl := in_tb 635 (by decide +kernel)
theorem wt_636 : (Jvm.Cond.constant "java/lang/Integer" (267 : Nat) (252645135 : Int32)) ∈ lw_tbl := in_tb 636 (by decide +kernel)
theorem wt_812 : (Jvm.Cond.instanceMethod ({ cls := "BranchingStory$Story", name := "standsAsHub", desc := "(I)Z" } : Jvm.MethodName)) ∈ lw_tbl := in_tb 812 (by decide +kernel)
theorem wt_813 : (Jvm.Cond.code ({ cls := "BranchingStory$Story", name := "standsAsHub", desc := "(I)Z" } : Jvm.MethodName) prog_9_method_6_code (2 : Nat) (Option.some Jvm.ClassFile.FieldType.boolean)) ∈ lw_tbl := in_tb 813 (by decide +kernel)
theorem wt_877 : (Jvm.Cond.methodLink "BranchingStory$Lines" (23 : Nat) ({ cls := "java/lang/Math", name := "floorMod", desc := "(II)I" } : Jvm.MethodName)) ∈ lw_tbl := in_tb 877 (by decide +kernel)
theorem wt_878 : (Jvm.Cond.static ({ cls := "java/lang/Math", name := "floorMod", desc := "(II)I" } : Jvm.MethodName)) ∈ lw_tbl := in_tb 878 (by decide +kernel)
theorem wt_879 : (Jvm.Cond.code ({ cls := "java/lang/Math", name := "floorMod", desc := "(II)I" } : Jvm.MethodName) prog_18_method_50_code (3 : Nat) (Option.some Jvm.ClassFile.FieldType.int)) ∈ lw_tbl := in_tb 879 (by decide +kernel)
theorem wt_890 : (Jvm.Cond.methodLink "BranchingStory" (317 : Nat) ({ cls := "java/lang/Math", name := "min", desc := "(II)I" } : Jvm.MethodName)) ∈ lw_tbl := in_tb 890 (by decide +kernel)
theorem wt_891 : (Jvm.Cond.methodLink "BranchingStory" (322 : Nat) ({ cls := "java/lang/Math", name := "max", desc := "(II)I" } : Jvm.MethodName)) ∈ lw_tbl := in_tb 891 (by decide +kernel)
theorem wt_900 : (Jvm.Cond.methodLink "BranchingStory$Terms" (25 : Nat) ({ cls := "java/lang/Math", name := "min", desc := "(II)I" } : Jvm.MethodName)) ∈ lw_tbl := in_tb 900 (by decide +kernel)
theorem wt_901 : (Jvm.Cond.methodLink "BranchingStory$Terms" (31 : Nat) ({ cls := "java/lang/Math", name := "max", desc := "(II)I" } : Jvm.MethodName)) ∈ lw_tbl := in_tb 901 (by decide +kernel)
theorem wt_902 : (Jvm.Cond.methodLink "BranchingStory$Terms" (34 : Nat) ({ cls := "BranchingStory$Terms", name := "oneHolds", desc := "(III)Z" } : Jvm.MethodName)) ∈ lw_tbl := in_tb 902 (by decide +kernel)
theorem wt_904 : (Jvm.Cond.instanceMethod ({ cls := "BranchingStory$Terms", name := "oneHolds", desc := "(III)Z" } : Jvm.MethodName)) ∈ lw_tbl := in_tb 904 (by decide +kernel)
theorem wt_905 : (Jvm.Cond.code ({ cls := "BranchingStory$Terms", name := "oneHolds", desc := "(III)Z" } : Jvm.MethodName) prog_10_method_4_code (6 : Nat) (Option.some Jvm.ClassFile.FieldType.boolean)) ∈ lw_tbl := in_tb 905 (by decide +kernel)
theorem wt_944 : (Jvm.Cond.methodLink "BranchingStory$Story" (79 : Nat) ({ cls := "BranchingStory$Story", name := "standsAsHub", desc := "(I)Z" } : Jvm.MethodName)) ∈ lw_tbl := in_tb 944 (by decide +kernel)
theorem wt_1128 : (Jvm.Cond.constantLong "BranchingStory$Knowledge" (19 : Nat) (-562881233944577 : Int64)) ∈ lw_tbl := in_tb 1128 (by decide +kernel)
theorem wt_1137 : (Jvm.Cond.methodLink "BranchingStory$Knowledge" (21 : Nat) ({ cls := "BranchingStory$Knowledge", name := "low", desc := "(JI)I" } : Jvm.MethodName)) ∈ lw_tbl := in_tb 1137 (by decide +kernel)
theorem wt_1138 : (Jvm.Cond.static ({ cls := "BranchingStory$Knowledge", name := "low", desc := "(JI)I" } : Jvm.MethodName)) ∈ lw_tbl := in_tb 1138 (by decide +kernel)
theorem wt_1139 : (Jvm.Cond.code ({ cls := "BranchingStory$Knowledge", name := "low", desc := "(JI)I" } : Jvm.MethodName) prog_5_method_2_code (3 : Nat) (Option.some Jvm.ClassFile.FieldType.int)) ∈ lw_tbl := in_tb 1139 (by decide +kernel)
theorem wt_1140 : (Jvm.Cond.constantLong "BranchingStory$Knowledge" (11 : Nat) (15 : Int64)) ∈ lw_tbl := in_tb 1140 (by decide +kernel)
theorem wt_1141 : (Jvm.Cond.methodLink "BranchingStory$Knowledge" (25 : Nat) ({ cls := "java/lang/Math", name := "min", desc := "(II)I" } : Jvm.MethodName)) ∈ lw_tbl := in_tb 1141 (by decide +kernel)
theorem wt_1142 : (Jvm.Cond.methodLink "BranchingStory$Knowledge" (31 : Nat) ({ cls := "BranchingStory$Knowledge", name := "high", desc := "(JI)I" } : Jvm.MethodName)) ∈ lw_tbl := in_tb 1142 (by decide +kernel)
theorem wt_1143 : (Jvm.Cond.static ({ cls := "BranchingStory$Knowledge", name := "high", desc := "(JI)I" } : Jvm.MethodName)) ∈ lw_tbl := in_tb 1143 (by decide +kernel)
theorem wt_1144 : (Jvm.Cond.code ({ cls := "BranchingStory$Knowledge", name := "high", desc := "(JI)I" } : Jvm.MethodName) prog_5_method_3_code (3 : Nat) (Option.some Jvm.ClassFile.FieldType.int)) ∈ lw_tbl := in_tb 1144 (by decide +kernel)
theorem wt_1145 : (Jvm.Cond.methodLink "BranchingStory$Knowledge" (34 : Nat) ({ cls := "java/lang/Math", name := "max", desc := "(II)I" } : Jvm.MethodName)) ∈ lw_tbl := in_tb 1145 (by decide +kernel)
theorem wt_1146 : (Jvm.Cond.methodLink "BranchingStory$Knowledge" (37 : Nat) ({ cls := "BranchingStory$Knowledge", name := "withRange", desc := "(JIII)J" } : Jvm.MethodName)) ∈ lw_tbl := in_tb 1146 (by decide +kernel)
theorem wt_1147 : (Jvm.Cond.static ({ cls := "BranchingStory$Knowledge", name := "withRange", desc := "(JIII)J" } : Jvm.MethodName)) ∈ lw_tbl := in_tb 1147 (by decide +kernel)
theorem wt_1148 : (Jvm.Cond.code ({ cls := "BranchingStory$Knowledge", name := "withRange", desc := "(JIII)J" } : Jvm.MethodName) prog_5_method_6_code (9 : Nat) (Option.some Jvm.ClassFile.FieldType.long)) ∈ lw_tbl := in_tb 1148 (by decide +kernel)
theorem wt_1149 : (Jvm.Cond.constantLong "BranchingStory$Knowledge" (17 : Nat) (-1 : Int64)) ∈ lw_tbl := in_tb 1149 (by decide +kernel)
theorem wt_1157 : (Jvm.Cond.constantLong "BranchingStory$Knowledge" (13 : Nat) (3 : Int64)) ∈ lw_tbl := in_tb 1157 (by decide +kernel)
theorem wt_1182 : (Jvm.Cond.methodLink "BranchingStory$Terms" (40 : Nat) ({ cls := "BranchingStory$Terms", name := "narrowed", desc := "(IJ)J" } : Jvm.MethodName)) ∈ lw_tbl := in_tb 1182 (by decide +kernel)
theorem wt_1184 : (Jvm.Cond.instanceMethod ({ cls := "BranchingStory$Terms", name := "narrowed", desc := "(IJ)J" } : Jvm.MethodName)) ∈ lw_tbl := in_tb 1184 (by decide +kernel)
theorem wt_1185 : (Jvm.Cond.code ({ cls := "BranchingStory$Terms", name := "narrowed", desc := "(IJ)J" } : Jvm.MethodName) prog_10_method_7_code (8 : Nat) (Option.some Jvm.ClassFile.FieldType.long)) ∈ lw_tbl := in_tb 1185 (by decide +kernel)
theorem wt_1186 : (Jvm.Cond.methodLinkNest "BranchingStory$Terms" (47 : Nat) ({ cls := "BranchingStory$Knowledge", name := "low", desc := "(JI)I" } : Jvm.MethodName) "BranchingStory") ∈ lw_tbl := in_tb 1186 (by decide +kernel)
theorem wt_1187 : (Jvm.Cond.methodLinkNest "BranchingStory$Terms" (51 : Nat) ({ cls := "BranchingStory$Knowledge", name := "high", desc := "(JI)I" } : Jvm.MethodName) "BranchingStory") ∈ lw_tbl := in_tb 1187 (by decide +kernel)
theorem wt_1188 : (Jvm.Cond.methodLinkNest "BranchingStory$Terms" (54 : Nat) ({ cls := "BranchingStory$Knowledge", name := "keepingFlag", desc := "(JII)J" } : Jvm.MethodName) "BranchingStory") ∈ lw_tbl := in_tb 1188 (by decide +kernel)
theorem wt_1189 : (Jvm.Cond.static ({ cls := "BranchingStory$Knowledge", name := "keepingFlag", desc := "(JII)J" } : Jvm.MethodName)) ∈ lw_tbl := in_tb 1189 (by decide +kernel)
theorem wt_1190 : (Jvm.Cond.code ({ cls := "BranchingStory$Knowledge", name := "keepingFlag", desc := "(JII)J" } : Jvm.MethodName) prog_5_method_8_code (7 : Nat) (Option.some Jvm.ClassFile.FieldType.long)) ∈ lw_tbl := in_tb 1190 (by decide +kernel)
theorem wt_1191 : (Jvm.Cond.methodLinkNest "BranchingStory$Terms" (58 : Nat) ({ cls := "BranchingStory$Knowledge", name := "withRange", desc := "(JIII)J" } : Jvm.MethodName) "BranchingStory") ∈ lw_tbl := in_tb 1191 (by decide +kernel)
theorem wt_1200 : (Jvm.Cond.methodLink "BranchingStory$Terms" (44 : Nat) ({ cls := "BranchingStory$Terms", name := "narrowedByOpposite", desc := "(IJ)J" } : Jvm.MethodName)) ∈ lw_tbl := in_tb 1200 (by decide +kernel)
theorem wt_1202 : (Jvm.Cond.instanceMethod ({ cls := "BranchingStory$Terms", name := "narrowedByOpposite", desc := "(IJ)J" } : Jvm.MethodName)) ∈ lw_tbl := in_tb 1202 (by decide +kernel)
theorem wt_1203 : (Jvm.Cond.code ({ cls := "BranchingStory$Terms", name := "narrowedByOpposite", desc := "(IJ)J" } : Jvm.MethodName) prog_10_method_8_code (8 : Nat) (Option.some Jvm.ClassFile.FieldType.long)) ∈ lw_tbl := in_tb 1203 (by decide +kernel)
theorem wt_1221 : (Jvm.Cond.constantLong "BranchingStory$Knowledge" (15 : Nat) (8191 : Int64)) ∈ lw_tbl := in_tb 1221 (by decide +kernel)
theorem fl_X4_9 : FL RX4 9 3 1 := ⟨RX4, TX4, 3, rfl, by decide, inX4, Or.inl wt_230⟩
theorem fl_X4_15 : FL RX4 15 3 2 := ⟨RX4, TX4, 3, rfl, by decide, inX4, Or.inl wt_232⟩
theorem fl_X4_19 : FL RX4 19 3 0 := ⟨RX4, TX4, 3, rfl, by decide, inX4, Or.inl wt_227⟩
theorem fl_X6_9 : FL RX6 9 5 9 := ⟨RX6, TX6, 14, rfl, by decide, inX6, Or.inl wt_180⟩
theorem fl_X6_28 : FL RX6 28 5 0 := ⟨RX6, TX6, 14, rfl, by decide, inX6, Or.inl wt_171⟩
theorem fl_X6_42 : FL RX6 42 5 3 := ⟨RX6, TX6, 14, rfl, by decide, inX6, Or.inl wt_174⟩
theorem fl_X6_77 : FL RX6 77 5 1 := ⟨RX6, TX6, 14, rfl, by decide, inX6, Or.inl wt_172⟩
theorem fl_X6_80 : FL RX6 80 5 2 := ⟨RX6, TX6, 14, rfl, by decide, inX6, Or.inl wt_173⟩
theorem fl_X6_88 : FL RX6 88 5 5 := ⟨RX6, TX6, 14, rfl, by decide, inX6, Or.inl wt_176⟩
theorem fl_X6_91 : FL RX6 91 5 6 := ⟨RX6, TX6, 14, rfl, by decide, inX6, Or.inl wt_177⟩
theorem fl_X7_9 : FL RX7 9 6 1 := ⟨RX7, TX7, 19, rfl, by decide, inX7, Or.inl wt_61⟩
theorem fl_X7_15 : FL RX7 15 6 2 := ⟨RX7, TX7, 19, rfl, by decide, inX7, Or.inl wt_65⟩
theorem fl_X7_18 : FL RX7 18 6 3 := ⟨RX7, TX7, 19, rfl, by decide, inX7, Or.inl wt_69⟩
theorem fl_X7_21 : FL RX7 21 6 4 := ⟨RX7, TX7, 19, rfl, by decide, inX7, Or.inl wt_72⟩
theorem fl_X7_24 : FL RX7 24 6 5 := ⟨RX7, TX7, 19, rfl, by decide, inX7, Or.inl wt_76⟩
theorem fl_X7_27 : FL RX7 27 6 6 := ⟨RX7, TX7, 19, rfl, by decide, inX7, Or.inl wt_80⟩
theorem fl_X7_30 : FL RX7 30 6 7 := ⟨RX7, TX7, 19, rfl, by decide, inX7, Or.inl wt_84⟩
theorem fl_X7_33 : FL RX7 33 6 8 := ⟨RX7, TX7, 19, rfl, by decide, inX7, Or.inl wt_87⟩
theorem fl_X7_39 : FL RX7 39 6 9 := ⟨RX7, TX7, 19, rfl, by decide, inX7, Or.inl wt_91⟩
theorem fl_X7_52 : FL RX7 52 6 16 := ⟨RX7, TX7, 19, rfl, by decide, inX7, Or.inl wt_115⟩
theorem fl_X7_58 : FL RX7 58 6 0 := ⟨RX7, TX7, 19, rfl, by decide, inX7, Or.inl wt_58⟩
theorem fl_X7_62 : FL RX7 62 7 0 := ⟨RX8, TX8, 4, rfl, by decide, inX8, Or.inr ⟨_, wt_43⟩⟩
theorem fl_X7_63 : FL RX7 63 6 10 := ⟨RX7, TX7, 19, rfl, by decide, inX7, Or.inl wt_95⟩
theorem fl_X7_66 : FL RX7 66 6 13 := ⟨RX7, TX7, 19, rfl, by decide, inX7, Or.inl wt_106⟩
theorem fl_X7_69 : FL RX7 69 6 14 := ⟨RX7, TX7, 19, rfl, by decide, inX7, Or.inl wt_108⟩
theorem fl_X7_72 : FL RX7 72 6 18 := ⟨RX7, TX7, 19, rfl, by decide, inX7, Or.inl wt_123⟩
theorem fl_X8_9 : FL RX8 9 7 1 := ⟨RX8, TX8, 4, rfl, by decide, inX8, Or.inl wt_45⟩
theorem fl_X8_15 : FL RX8 15 7 2 := ⟨RX8, TX8, 4, rfl, by decide, inX8, Or.inl wt_46⟩
theorem fl_X8_18 : FL RX8 18 7 3 := ⟨RX8, TX8, 4, rfl, by decide, inX8, Or.inl wt_47⟩
theorem fl_X8_21 : FL RX8 21 7 0 := ⟨RX8, TX8, 4, rfl, by decide, inX8, Or.inl wt_42⟩
theorem fp_X4_19 : FP RX4 19 3 0 .int := ⟨RX4, TX4, 3, tyX4, rfl, by decide, inX4, tyX4_ok, nmX4, rfl, by decide +kernel, Or.inl wt_227⟩
theorem fp_X6_28 : FP RX6 28 5 0 (.object "BranchingStory$Story") := ⟨RX6, TX6, 14, tyX6, rfl, by decide, inX6, tyX6_ok, nmX6, rfl, by decide +kernel, Or.inl wt_171⟩
theorem fp_X6_42 : FP RX6 42 5 3 .int := ⟨RX6, TX6, 14, tyX6, rfl, by decide, inX6, tyX6_ok, nmX6, rfl, by decide +kernel, Or.inl wt_174⟩
theorem fp_X6_77 : FP RX6 77 5 1 .int := ⟨RX6, TX6, 14, tyX6, rfl, by decide, inX6, tyX6_ok, nmX6, rfl, by decide +kernel, Or.inl wt_172⟩
theorem fp_X6_80 : FP RX6 80 5 2 .int := ⟨RX6, TX6, 14, tyX6, rfl, by decide, inX6, tyX6_ok, nmX6, rfl, by decide +kernel, Or.inl wt_173⟩
theorem fp_X6_88 : FP RX6 88 5 5 .int := ⟨RX6, TX6, 14, tyX6, rfl, by decide, inX6, tyX6_ok, nmX6, rfl, by decide +kernel, Or.inl wt_176⟩
theorem fp_X6_91 : FP RX6 91 5 6 .int := ⟨RX6, TX6, 14, tyX6, rfl, by decide, inX6, tyX6_ok, nmX6, rfl, by decide +kernel, Or.inl wt_177⟩
theorem fp_X7_58 : FP RX7 58 6 0 .int := ⟨RX7, TX7, 19, tyX7, rfl, by decide, inX7, tyX7_ok, nmX7, rfl, by decide +kernel, Or.inl wt_58⟩
theorem fp_X7_62 : FP RX7 62 7 0 .int := ⟨RX8, TX8, 4, tyX8, rfl, by decide, inX8, tyX8_ok, nmX8, rfl, by decide +kernel, Or.inr ⟨_, wt_43⟩⟩
theorem fp_X7_63 : FP RX7 63 6 10 .int := ⟨RX7, TX7, 19, tyX7, rfl, by decide, inX7, tyX7_ok, nmX7, rfl, by decide +kernel, Or.inl wt_95⟩
theorem fp_X7_66 : FP RX7 66 6 13 .int := ⟨RX7, TX7, 19, tyX7, rfl, by decide, inX7, tyX7_ok, nmX7, rfl, by decide +kernel, Or.inl wt_106⟩
theorem fp_X7_69 : FP RX7 69 6 14 .int := ⟨RX7, TX7, 19, tyX7, rfl, by decide, inX7, tyX7_ok, nmX7, rfl, by decide +kernel, Or.inl wt_108⟩
theorem fp_X7_72 : FP RX7 72 6 18 .int := ⟨RX7, TX7, 19, tyX7, rfl, by decide, inX7, tyX7_ok, nmX7, rfl, by decide +kernel, Or.inl wt_123⟩
theorem fp_X8_21 : FP RX8 21 7 0 .int := ⟨RX8, TX8, 4, tyX8, rfl, by decide, inX8, tyX8_ok, nmX8, rfl, by decide +kernel, Or.inl wt_42⟩
theorem cs_X3_21 : CSw RX3 21 yX3_low cX3_low 3 (some .int) 2 := ⟨Or.inl wt_1137, wt_1138, wt_21, wt_1139, by decide, by decide, by decide +kernel⟩
theorem cs_X3_25 : CSw RX3 25 yJM_min cJM_min 2 (some .int) 2 := ⟨Or.inl wt_1141, wt_468, wt_17, wt_469, by decide, by decide, by decide +kernel⟩
theorem cs_X3_31 : CSw RX3 31 yX3_high cX3_high 3 (some .int) 2 := ⟨Or.inl wt_1142, wt_1143, wt_21, wt_1144, by decide, by decide, by decide +kernel⟩
theorem cs_X3_34 : CSw RX3 34 yJM_max cJM_max 2 (some .int) 2 := ⟨Or.inl wt_1145, wt_475, wt_17, wt_476, by decide, by decide, by decide +kernel⟩
theorem cs_X3_37 : CSw RX3 37 yX3_withRange cX3_withRange 9 (some .long) 4 := ⟨Or.inl wt_1146, wt_1147, wt_21, wt_1148, by decide, by decide, by decide +kernel⟩
theorem cs_X4_23 : CSw RX4 23 yJM_floorMod cJM_floorMod 3 (some .int) 2 := ⟨Or.inl wt_877, wt_878, wt_17, wt_879, by decide, by decide, by decide +kernel⟩
theorem cs_X6_74 : CVw RX6 74 yX7_empty cX7_empty 1 none 0 := ⟨Or.inr ⟨_, wt_460⟩, wt_462, in_sl (n := 19) 2 (by decide +kernel), wt_2, wt_463, by decide, by decide, by decide +kernel⟩
theorem cs_X6_83 : CSw RX6 83 yJA_fillI cJA_fillI 4 none 2 := ⟨Or.inl wt_464, wt_465, wt_16, wt_466, by decide, by decide, by decide +kernel⟩
theorem cs_X6_94 : CSw RX6 94 yJM_max cJM_max 2 (some .int) 2 := ⟨Or.inl wt_474, wt_475, wt_17, wt_476, by decide, by decide, by decide +kernel⟩
theorem cs_X6_97 : CSw RX6 97 yX6_isDigit cX6_isDigit 1 (some .boolean) 1 := ⟨Or.inl wt_477, wt_478, wt_4, wt_479, by decide, by decide, by decide +kernel⟩
theorem cs_X7_75 : CVw RX7 75 yX7_has cX7_has 2 (some .boolean) 1 := ⟨Or.inl wt_526, wt_528, in_sl (n := 19) 14 (by decide +kernel), wt_2, wt_529, by decide, by decide, by decide +kernel⟩
theorem cs_X7_79 : CVw RX7 79 yX7_standsAsHub cX7_standsAsHub 2 (some .boolean) 1 := ⟨Or.inl wt_944, wt_812, in_sl (n := 19) 40 (by decide +kernel), wt_2, wt_813, by decide, by decide, by decide +kernel⟩
theorem cs_X8_25 : CSw RX8 25 yJM_min cJM_min 2 (some .int) 2 := ⟨Or.inl wt_900, wt_468, wt_17, wt_469, by decide, by decide, by decide +kernel⟩
theorem cs_X8_31 : CSw RX8 31 yJM_max cJM_max 2 (some .int) 2 := ⟨Or.inl wt_901, wt_475, wt_17, wt_476, by decide, by decide, by decide +kernel⟩
theorem cs_X8_34 : CVw RX8 34 yX8_oneHolds cX8_oneHolds 6 (some .boolean) 3 := ⟨Or.inl wt_902, wt_904, in_sl (n := 4) 53 (by decide +kernel), wt_3, wt_905, by decide, by decide, by decide +kernel⟩
theorem cs_X8_40 : CVw RX8 40 yX8_narrowed cX8_narrowed 8 (some .long) 2 := ⟨Or.inl wt_1182, wt_1184, in_sl (n := 4) 81 (by decide +kernel), wt_3, wt_1185, by decide, by decide, by decide +kernel⟩
theorem cs_X8_44 : CVw RX8 44 yX8_narrowedByOpposite cX8_narrowedByOpposite 8 (some .long) 2 := ⟨Or.inl wt_1200, wt_1202, in_sl (n := 4) 84 (by decide +kernel), wt_3, wt_1203, by decide, by decide, by decide +kernel⟩
theorem cs_X8_47 : CSw RX8 47 yX3_low cX3_low 3 (some .int) 2 := ⟨Or.inr ⟨_, wt_1186⟩, wt_1138, wt_21, wt_1139, by decide, by decide, by decide +kernel⟩
theorem cs_X8_51 : CSw RX8 51 yX3_high cX3_high 3 (some .int) 2 := ⟨Or.inr ⟨_, wt_1187⟩, wt_1143, wt_21, wt_1144, by decide, by decide, by decide +kernel⟩
theorem cs_X8_54 : CSw RX8 54 yX3_keepingFlag cX3_keepingFlag 7 (some .long) 3 := ⟨Or.inr ⟨_, wt_1188⟩, wt_1189, wt_21, wt_1190, by decide, by decide, by decide +kernel⟩
theorem cs_X8_58 : CSw RX8 58 yX3_withRange cX3_withRange 9 (some .long) 4 := ⟨Or.inr ⟨_, wt_1191⟩, wt_1147, wt_21, wt_1148, by decide, by decide, by decide +kernel⟩
theorem cs_X9_317 : CSw RX9 317 yJM_min cJM_min 2 (some .int) 2 := ⟨Or.inl wt_890, wt_468, wt_17, wt_469, by decide, by decide, by decide +kernel⟩
theorem cs_X9_322 : CSw RX9 322 yJM_max cJM_max 2 (some .int) 2 := ⟨Or.inl wt_891, wt_475, wt_17, wt_476, by decide, by decide, by decide +kernel⟩
/-! java/lang/Math.max(II)I -/
def f_JM_max (a0 : Int) (a1 : Int) (σ : St) (Q : St → Int → Prop) : Prop :=
  inR a0 ∧ inR a1 ∧ ((a0 < a1 → Q σ a1) ∧ (¬ a0 < a1 → Q σ a0))
set_option maxRecDepth 100000 in
set_option maxHeartbeats 4000000 in
theorem c_JM_max (l : Launch) (Y : Cy) (hD : ∀ σ, va_D Y.2.2.2 (wsOf KC Y.2.1 Y.2.2.1 σ)) {a0 : Int} {a1 : Int} {σ : St} {Q : St → Int → Prop} (h : f_JM_max a0 a1 σ Q) : ConI l yJM_max cJM_max 2 .int (rm0q 0 0) Y KC σ [.inl a0, .inl a1] Q := con_ofF (lv := [(0, .inl a0), (1, .inl a1)]) (by decide +kernel) hD (Nat.le_of_ble_eq_true rfl) rfl (fun X _ ok => by
  have ok : Ok X Y KC cJM_max 2 "java/lang/Math" (rm0q 0 0) (some .int) := ok
  unfold f_JM_max at h
  refine q_iload_n ok dJM_max_0 0 rfl ?_
  refine q_iload_n ok dJM_max_1 1 rfl ?_
  obtain ⟨g1, g2, hT1a, hT1b⟩ := h
  refine q_icmp_lt (tgt := 9) ok dJM_max_2 (by decide) g1 g2 (fun c1 => ?_) (fun c1 => ?_)
  · have h := hT1a c1
    refine q_iload_n ok dJM_max_9 1 rfl ?_
    exact q_iret ok dJM_max_10 h
  · have h := hT1b c1
    refine q_iload_n ok dJM_max_5 0 rfl ?_
    refine q_goto (tgt := 10) ok dJM_max_6 (by decide) ?_
    exact q_iret ok dJM_max_10 h)
/-! java/lang/Math.min(II)I -/
def f_JM_min (a0 : Int) (a1 : Int) (σ : St) (Q : St → Int → Prop) : Prop :=
  inR a0 ∧ inR a1 ∧ ((a1 < a0 → Q σ a1) ∧ (¬ a1 < a0 → Q σ a0))
set_option maxRecDepth 100000 in
set_option maxHeartbeats 4000000 in
theorem c_JM_min (l : Launch) (Y : Cy) (hD : ∀ σ, va_D Y.2.2.2 (wsOf KC Y.2.1 Y.2.2.1 σ)) {a0 : Int} {a1 : Int} {σ : St} {Q : St → Int → Prop} (h : f_JM_min a0 a1 σ Q) : ConI l yJM_min cJM_min 2 .int (rm0q 0 0) Y KC σ [.inl a0, .inl a1] Q := con_ofF (lv := [(0, .inl a0), (1, .inl a1)]) (by decide +kernel) hD (Nat.le_of_ble_eq_true rfl) rfl (fun X _ ok => by
  have ok : Ok X Y KC cJM_min 2 "java/lang/Math" (rm0q 0 0) (some .int) := ok
  unfold f_JM_min at h
  refine q_iload_n ok dJM_min_0 0 rfl ?_
  refine q_iload_n ok dJM_min_1 1 rfl ?_
  obtain ⟨g1, g2, hT1a, hT1b⟩ := h
  refine q_icmp_gt (tgt := 9) ok dJM_min_2 (by decide) g1 g2 (fun c1 => ?_) (fun c1 => ?_)
  · have h := hT1a c1
    refine q_iload_n ok dJM_min_9 1 rfl ?_
    exact q_iret ok dJM_min_10 h
  · have h := hT1b c1
    refine q_iload_n ok dJM_min_5 0 rfl ?_
    refine q_goto (tgt := 10) ok dJM_min_6 (by decide) ?_
    exact q_iret ok dJM_min_10 h)
/-! java/lang/Math.floorMod(II)I -/
def f_JM_floorMod (a0 : Int) (a1 : Int) (σ : St) (Q : St → Int → Prop) : Prop :=
  inR a1 ∧ ¬ a1 = 0 ∧ ∀ x1 : Int, x1 = (irem32 a0 a1) → inR (ixor32 a0 a1) ∧ ((0 ≤ (ixor32 a0 a1) → Q σ x1) ∧ (¬ 0 ≤ (ixor32 a0 a1) → inR x1 ∧ ((x1 = 0 → Q σ x1) ∧ (¬ x1 = 0 → Q σ (x1 + a1)))))
set_option maxRecDepth 100000 in
set_option maxHeartbeats 4000000 in
theorem c_JM_floorMod (l : Launch) (Y : Cy) (hD : ∀ σ, va_D Y.2.2.2 (wsOf KC Y.2.1 Y.2.2.1 σ)) {a0 : Int} {a1 : Int} {σ : St} {Q : St → Int → Prop} (h : f_JM_floorMod a0 a1 σ Q) : ConI l yJM_floorMod cJM_floorMod 3 .int (rm0q 0 0) Y KC σ [.inl a0, .inl a1] Q := con_ofF (lv := [(0, .inl a0), (1, .inl a1)]) (by decide +kernel) hD (Nat.le_of_ble_eq_true rfl) rfl (fun X _ ok => by
  have ok : Ok X Y KC cJM_floorMod 3 "java/lang/Math" (rm0q 0 0) (some .int) := ok
  unfold f_JM_floorMod at h
  refine q_iload_n ok dJM_floorMod_0 0 rfl ?_
  refine q_iload_n ok dJM_floorMod_1 1 rfl ?_
  obtain ⟨g1a, g1b, h⟩ := h
  refine q_irem ok dJM_floorMod_2 g1a g1b ?_
  refine wq_i (fun x1 ex1 => ?_)
  have h := h x1 ex1
  refine q_istore_n (lv' := [(2, .inl x1), (0, .inl a0), (1, .inl a1)]) ok dJM_floorMod_3 (by decide) rfl ?_
  refine q_iload_n ok dJM_floorMod_4 1 rfl ?_
  refine q_iload_n ok dJM_floorMod_5 2 rfl ?_
  refine q_ixor ok dJM_floorMod_6 ?_
  obtain ⟨g2, hT2a, hT2b⟩ := h
  refine q_if_ge (tgt := 18) ok dJM_floorMod_7 (by decide) g2 (fun c2 => ?_) (fun c2 => ?_)
  · have h := hT2a c2
    refine q_iload_n ok dJM_floorMod_18 0 rfl ?_
    exact q_iret ok dJM_floorMod_19 h
  · have h := hT2b c2
    refine q_iload_n ok dJM_floorMod_10 0 rfl ?_
    obtain ⟨g3, hT1a, hT1b⟩ := h
    refine q_if_eq (tgt := 18) ok dJM_floorMod_11 (by decide) g3 (fun c1 => ?_) (fun c1 => ?_)
    · have h := hT1a c1
      refine q_iload_n ok dJM_floorMod_18 0 rfl ?_
      exact q_iret ok dJM_floorMod_19 h
    · have h := hT1b c1
      refine q_iload_n ok dJM_floorMod_14 0 rfl ?_
      refine q_iload_n ok dJM_floorMod_15 2 rfl ?_
      refine q_iadd ok dJM_floorMod_16 ?_
      exact q_iret ok dJM_floorMod_17 h)
/-! java/lang/Integer.bitCount(I)I -/
def f_JI_bitCount (a0 : Int) (σ : St) (Q : St → Int → Prop) : Prop :=
  ∀ x1 : Int, x1 = (a0 - (iand32 (iushr32 a0 1) 1431655765)) → ∀ x2 : Int, x2 = ((iand32 x1 858993459) + (iand32 (iushr32 x1 2) 858993459)) → ∀ x3 : Int, x3 = (iand32 (x2 + (iushr32 x2 4)) 252645135) → ∀ x4 : Int, x4 = (x3 + (iushr32 x3 8)) → ∀ x5 : Int, x5 = (x4 + (iushr32 x4 16)) → Q σ (iand32 x5 63)
set_option maxRecDepth 100000 in
set_option maxHeartbeats 4000000 in
theorem c_JI_bitCount (l : Launch) (Y : Cy) (hD : ∀ σ, va_D Y.2.2.2 (wsOf KC Y.2.1 Y.2.2.1 σ)) {a0 : Int} {σ : St} {Q : St → Int → Prop} (h : f_JI_bitCount a0 σ Q) : ConI l yJI_bitCount cJI_bitCount 1 .int (rm0q 0 0) Y KC σ [.inl a0] Q := con_of (lv := [(0, .inl a0)]) (by decide) hD (Nat.le_of_ble_eq_true rfl) rfl (fun X _ ok => by
  have ok : Ok X Y KC cJI_bitCount 1 "java/lang/Integer" (rm0q 0 0) (some .int) := ok
  unfold f_JI_bitCount at h
  refine q_iload_n ok dJI_bitCount_0 0 rfl ?_
  refine q_iload_n ok dJI_bitCount_1 0 rfl ?_
  refine q_iconst ok dJI_bitCount_2 ?_
  refine q_iushr ok dJI_bitCount_3 ?_
  refine q_ldcw (v := 1431655765) ok wt_634 rfl dJI_bitCount_4 ?_
  refine q_iand ok dJI_bitCount_7 ?_
  refine q_isub ok dJI_bitCount_8 ?_
  refine wq_i (fun x1 ex1 => ?_)
  have h := h x1 ex1
  refine q_istore_n (lv' := [(0, .inl x1)]) ok dJI_bitCount_9 (by decide) rfl ?_
  refine q_iload_n ok dJI_bitCount_10 0 rfl ?_
  refine q_ldcw (v := 858993459) ok wt_635 rfl dJI_bitCount_11 ?_
  refine q_iand ok dJI_bitCount_14 ?_
  refine q_iload_n ok dJI_bitCount_15 0 rfl ?_
  refine q_iconst ok dJI_bitCount_16 ?_
  refine q_iushr ok dJI_bitCount_17 ?_
  refine q_ldcw (v := 858993459) ok wt_635 rfl dJI_bitCount_18 ?_
  refine q_iand ok dJI_bitCount_21 ?_
  refine q_iadd ok dJI_bitCount_22 ?_
  refine wq_i (fun x2 ex2 => ?_)
  have h := h x2 ex2
  refine q_istore_n (lv' := [(0, .inl x2)]) ok dJI_bitCount_23 (by decide) rfl ?_
  refine q_iload_n ok dJI_bitCount_24 0 rfl ?_
  refine q_iload_n ok dJI_bitCount_25 0 rfl ?_
  refine q_iconst ok dJI_bitCount_26 ?_
  refine q_iushr ok dJI_bitCount_27 ?_
  refine q_iadd ok dJI_bitCount_28 ?_
  refine q_ldcw (v := 252645135) ok wt_636 rfl dJI_bitCount_29 ?_
  refine q_iand ok dJI_bitCount_32 ?_
  refine wq_i (fun x3 ex3 => ?_)
  have h := h x3 ex3
  refine q_istore_n (lv' := [(0, .inl x3)]) ok dJI_bitCount_33 (by decide) rfl ?_
  refine q_iload_n ok dJI_bitCount_34 0 rfl ?_
  refine q_iload_n ok dJI_bitCount_35 0 rfl ?_
  refine q_bipush ok dJI_bitCount_36 rfl ?_
  refine q_iushr ok dJI_bitCount_38 ?_
  refine q_iadd ok dJI_bitCount_39 ?_
  refine wq_i (fun x4 ex4 => ?_)
  have h := h x4 ex4
  refine q_istore_n (lv' := [(0, .inl x4)]) ok dJI_bitCount_40 (by decide) rfl ?_
  refine q_iload_n ok dJI_bitCount_41 0 rfl ?_
  refine q_iload_n ok dJI_bitCount_42 0 rfl ?_
  refine q_bipush ok dJI_bitCount_43 rfl ?_
  refine q_iushr ok dJI_bitCount_45 ?_
  refine q_iadd ok dJI_bitCount_46 ?_
  refine wq_i (fun x5 ex5 => ?_)
  have h := h x5 ex5
  refine q_istore_n (lv' := [(0, .inl x5)]) ok dJI_bitCount_47 (by decide) rfl ?_
  refine q_iload_n ok dJI_bitCount_48 0 rfl ?_
  refine q_bipush ok dJI_bitCount_49 rfl ?_
  refine q_iand ok dJI_bitCount_51 ?_
  exact q_iret ok dJI_bitCount_52 h)
/-! java/util/Arrays.fill([II)V -/
def f_JA_fillI_L5 (Q : St → Prop) : Nat → St → Nat → Int → Int → Int → Prop
  | 0, _, _, _, _, _ => False
  | n + 1, σ, v0, v1, v2, v3 => inR v2 ∧ inR v3 ∧ ((v3 ≤ v2 → Q σ) ∧ (¬ v3 ≤ v2 → isIA KC v0 ∧ 0 ≤ v2 ∧ v2 < ((alen KC v0 : Nat) : Int) ∧ ∀ σ1 : St, σ1 = sset σ v0 v2.toNat v1 → f_JA_fillI_L5 Q n σ1 v0 v1 (v2 + 1) v3))
def f_JA_fillI (a0 : Nat) (a1 : Int) (σ : St) (Q : St → Prop) : Prop :=
  isIA KC a0 ∧ ∀ x1 : Int, x1 = ((alen KC a0 : Nat) : Int) → f_JA_fillI_L5 Q FU σ a0 a1 0 x1
set_option maxRecDepth 100000 in
set_option maxHeartbeats 4000000 in
theorem w_JA_fillI_L5 {X : Cx} {Y : Cy} {Q : St → Prop} (ok : Ok X Y KC cJA_fillI 4 "java/util/Arrays" (rm0q 0 0) none) : ∀ (n : Nat) (σ : St) (v0 : Nat) (v1 : Int) (v2 : Int) (v3 : Int) , f_JA_fillI_L5 Q n σ v0 v1 v2 v3 → Wq X Y KC 4 (QF X Y (Qvq Y KC Q)) σ 5 [(0, .inr (.inr v0)), (1, .inl v1), (2, .inl v2), (3, .inl v3)] [] := by
  intro n
  induction n with
  | zero => intro σ v0 v1 v2 v3 h; exact h.elim
  | succ n ih =>
    intro σ v0 v1 v2 v3 h
    rw [f_JA_fillI_L5] at h
    refine q_iload_n ok dJA_fillI_5 2 rfl ?_
    refine q_iload_n ok dJA_fillI_6 3 rfl ?_
    obtain ⟨g1, g2, hT1a, hT1b⟩ := h
    refine q_icmp_ge (tgt := 20) ok dJA_fillI_7 (by decide) g1 g2 (fun c1 => ?_) (fun c1 => ?_)
    · have h := hT1a c1
      exact q_vret ok dJA_fillI_20 h
    · have h := hT1b c1
      refine q_aload_n ok dJA_fillI_10 0 rfl ?_
      refine q_iload_n ok dJA_fillI_11 2 rfl ?_
      refine q_iload_n ok dJA_fillI_12 1 rfl ?_
      obtain ⟨g3, h⟩ := h
      obtain ⟨g4, g5, h⟩ := h
      refine q_iast ok kC_ok g3 g4 g5 dJA_fillI_13 (wq_s (fun σ1 eσ1 => ?_))
      have h := h σ1 eσ1
      refine q_iinc (lv' := [(2, .inl (v2 + 1)), (0, .inr (.inr v0)), (1, .inl v1), (3, .inl v3)]) ok dJA_fillI_14 2 rfl (by decide) rfl ?_
      refine q_goto (tgt := 5) ok dJA_fillI_17 (by decide) ?_
      refine q_sub [1, 2, 0, 3] rfl ?_
      exact ih σ1 v0 v1 (v2 + 1) v3 h
set_option maxRecDepth 100000 in
set_option maxHeartbeats 4000000 in
theorem c_JA_fillI (l : Launch) (Y : Cy) (hD : ∀ σ, va_D Y.2.2.2 (wsOf KC Y.2.1 Y.2.2.1 σ)) {a0 : Nat} {a1 : Int} {σ : St} {Q : St → Prop} (h : f_JA_fillI a0 a1 σ Q) : ConV l yJA_fillI cJA_fillI 4 (rm0q 0 0) Y KC σ [.inr (.inr a0), .inl a1] Q := con_of (lv := [(0, .inr (.inr a0)), (1, .inl a1)]) (by decide) hD (Nat.le_of_ble_eq_true rfl) rfl (fun X _ ok => by
  have ok : Ok X Y KC cJA_fillI 4 "java/util/Arrays" (rm0q 0 0) none := ok
  unfold f_JA_fillI at h
  refine q_iconst ok dJA_fillI_0 ?_
  refine q_istore_n (lv' := [(2, .inl 0), (0, .inr (.inr a0)), (1, .inl a1)]) ok dJA_fillI_1 (by decide) rfl ?_
  refine q_aload_n ok dJA_fillI_2 1 rfl ?_
  obtain ⟨g1, h⟩ := h
  refine q_alenI ok g1 dJA_fillI_3 ?_
  refine wq_i (fun x1 ex1 => ?_)
  have h := h x1 ex1
  refine q_istore_n (lv' := [(3, .inl x1), (2, .inl 0), (0, .inr (.inr a0)), (1, .inl a1)]) ok dJA_fillI_4 (by decide) rfl ?_
  refine q_sub [2, 3, 1, 0] rfl ?_
  exact w_JA_fillI_L5 ok FU σ a0 a1 0 x1 h)
/-! java/util/Arrays.fill([JJ)V -/
def f_JA_fillL_L6 (Q : St → Prop) : Nat → St → Nat → Int → Int → Int → Prop
  | 0, _, _, _, _, _ => False
  | n + 1, σ, v0, v1, v3, v4 => inR v3 ∧ inR v4 ∧ ((v4 ≤ v3 → Q σ) ∧ (¬ v4 ≤ v3 → isLA KC v0 ∧ 0 ≤ v3 ∧ v3 < ((alen KC v0 : Nat) : Int) ∧ ∀ σ1 : St, σ1 = sset σ v0 v3.toNat v1 → f_JA_fillL_L6 Q n σ1 v0 v1 (v3 + 1) v4))
def f_JA_fillL (a0 : Nat) (a1 : Int) (σ : St) (Q : St → Prop) : Prop :=
  isLA KC a0 ∧ ∀ x1 : Int, x1 = ((alen KC a0 : Nat) : Int) → f_JA_fillL_L6 Q FU σ a0 a1 0 x1
set_option maxRecDepth 100000 in
set_option maxHeartbeats 4000000 in
theorem w_JA_fillL_L6 {X : Cx} {Y : Cy} {Q : St → Prop} (ok : Ok X Y KC cJA_fillL 5 "java/util/Arrays" (rm0q 0 0) none) : ∀ (n : Nat) (σ : St) (v0 : Nat) (v1 : Int) (v3 : Int) (v4 : Int) , f_JA_fillL_L6 Q n σ v0 v1 v3 v4 → Wq X Y KC 5 (QF X Y (Qvq Y KC Q)) σ 6 [(0, .inr (.inr v0)), (1, .inr (.inl v1)), (3, .inl v3), (4, .inl v4)] [] := by
  intro n
  induction n with
  | zero => intro σ v0 v1 v3 v4 h; exact h.elim
  | succ n ih =>
    intro σ v0 v1 v3 v4 h
    rw [f_JA_fillL_L6] at h
    refine q_iload_n ok dJA_fillL_6 2 rfl ?_
    refine q_iload ok dJA_fillL_7 3 rfl ?_
    obtain ⟨g1, g2, hT1a, hT1b⟩ := h
    refine q_icmp_ge (tgt := 22) ok dJA_fillL_9 (by decide) g1 g2 (fun c1 => ?_) (fun c1 => ?_)
    · have h := hT1a c1
      exact q_vret ok dJA_fillL_22 h
    · have h := hT1b c1
      refine q_aload_n ok dJA_fillL_12 0 rfl ?_
      refine q_iload_n ok dJA_fillL_13 2 rfl ?_
      refine q_lload_n ok dJA_fillL_14 1 rfl ?_
      obtain ⟨g3, h⟩ := h
      obtain ⟨g4, g5, h⟩ := h
      refine q_last ok kC_ok g3 g4 g5 dJA_fillL_15 (wq_s (fun σ1 eσ1 => ?_))
      have h := h σ1 eσ1
      refine q_iinc (lv' := [(3, .inl (v3 + 1)), (0, .inr (.inr v0)), (1, .inr (.inl v1)), (4, .inl v4)]) ok dJA_fillL_16 2 rfl (by decide) rfl ?_
      refine q_goto (tgt := 6) ok dJA_fillL_19 (by decide) ?_
      refine q_sub [1, 2, 0, 3] rfl ?_
      exact ih σ1 v0 v1 (v3 + 1) v4 h
set_option maxRecDepth 100000 in
set_option maxHeartbeats 4000000 in
theorem c_JA_fillL (l : Launch) (Y : Cy) (hD : ∀ σ, va_D Y.2.2.2 (wsOf KC Y.2.1 Y.2.2.1 σ)) {a0 : Nat} {a1 : Int} {σ : St} {Q : St → Prop} (h : f_JA_fillL a0 a1 σ Q) : ConV l yJA_fillL cJA_fillL 5 (rm0q 0 0) Y KC σ [.inr (.inr a0), .inr (.inl a1)] Q := con_of (lv := [(0, .inr (.inr a0)), (1, .inr (.inl a1))]) (by decide) hD (Nat.le_of_ble_eq_true rfl) rfl (fun X _ ok => by
  have ok : Ok X Y KC cJA_fillL 5 "java/util/Arrays" (rm0q 0 0) none := ok
  unfold f_JA_fillL at h
  refine q_iconst ok dJA_fillL_0 ?_
  refine q_istore_n (lv' := [(3, .inl 0), (0, .inr (.inr a0)), (1, .inr (.inl a1))]) ok dJA_fillL_1 (by decide) rfl ?_
  refine q_aload_n ok dJA_fillL_2 1 rfl ?_
  obtain ⟨g1, h⟩ := h
  refine q_alenL ok g1 dJA_fillL_3 ?_
  refine wq_i (fun x1 ex1 => ?_)
  have h := h x1 ex1
  refine q_istore (lv' := [(4, .inl x1), (3, .inl 0), (0, .inr (.inr a0)), (1, .inr (.inl a1))]) ok dJA_fillL_4 (by decide) rfl ?_
  refine q_sub [2, 3, 1, 0] rfl ?_
  exact w_JA_fillL_L6 ok FU σ a0 a1 0 x1 h)
/-! BranchingStory.meterIn(II)I -/
def f_X9_meterIn (a0 : Int) (a1 : Int) (σ : St) (Q : St → Int → Prop) : Prop :=
  Q σ (iand32 (ishr32 a0 (4 * a1)) 15)
set_option maxRecDepth 100000 in
set_option maxHeartbeats 4000000 in
theorem c_X9_meterIn (l : Launch) (Y : Cy) (hD : ∀ σ, va_D Y.2.2.2 (wsOf KC Y.2.1 Y.2.2.1 σ)) {a0 : Int} {a1 : Int} {σ : St} {Q : St → Int → Prop} (h : f_X9_meterIn a0 a1 σ Q) : ConI l yX9_meterIn cX9_meterIn 2 .int (rm0q 0 0) Y KC σ [.inl a0, .inl a1] Q := con_of (lv := [(0, .inl a0), (1, .inl a1)]) (by decide) hD (Nat.le_of_ble_eq_true rfl) rfl (fun X _ ok => by
  have ok : Ok X Y KC cX9_meterIn 2 RX9 (rm0q 0 0) (some .int) := ok
  unfold f_X9_meterIn at h
  refine q_iload_n ok dX9_meterIn_0 0 rfl ?_
  refine q_iconst ok dX9_meterIn_1 ?_
  refine q_iload_n ok dX9_meterIn_2 1 rfl ?_
  refine q_imul ok dX9_meterIn_3 ?_
  refine q_ishr ok dX9_meterIn_4 ?_
  refine q_bipush ok dX9_meterIn_5 rfl ?_
  refine q_iand ok dX9_meterIn_7 ?_
  exact q_iret ok dX9_meterIn_8 h)
/-! BranchingStory.changedMeter(III)I -/
def f_X9_changedMeter (a0 : Int) (a1 : Int) (a2 : Int) (σ : St) (Q : St → Int → Prop) : Prop :=
  inR a0 ∧ ((a0 = 4 → f_JM_min (a1 + a2) 9 σ (fun σ1 r1 => Q σ1 r1)) ∧ (a0 = 5 → f_JM_max (a1 - a2) 0 σ (fun σ2 r2 => Q σ2 r2)) ∧ (¬ a0 = 4 → ¬ a0 = 5 → Q σ a2))
set_option maxRecDepth 100000 in
set_option maxHeartbeats 4000000 in
theorem c_X9_changedMeter (l : Launch) (Y : Cy) (hD : ∀ σ, va_D Y.2.2.2 (wsOf KC Y.2.1 Y.2.2.1 σ)) {a0 : Int} {a1 : Int} {a2 : Int} {σ : St} {Q : St → Int → Prop} (h : f_X9_changedMeter a0 a1 a2 σ Q) : ConI l yX9_changedMeter cX9_changedMeter 3 .int (rm0q 1 21) Y KC σ [.inl a0, .inl a1, .inl a2] Q := con_of (lv := [(0, .inl a0), (1, .inl a1), (2, .inl a2)]) (by decide) hD (Nat.le_of_ble_eq_true rfl) rfl (fun X _ ok => by
  have ok : Ok X Y KC cX9_changedMeter 3 RX9 (rm0q 1 21) (some .int) := ok
  unfold f_X9_changedMeter at h
  refine q_iload_n ok dX9_changedMeter_0 0 rfl ?_
  obtain ⟨g1, hs1, hs2, hs3⟩ := h
  by_cases c1 : a0 = 4
  · have h := hs1 c1
    refine q_lsw (off := 27) (tgt := 28) ok dX9_changedMeter_1 rfl g1 (by rw [c1]; first | done | rfl) (by decide) ?_
    refine q_iload_n ok dX9_changedMeter_28 1 rfl ?_
    refine q_iload_n ok dX9_changedMeter_29 2 rfl ?_
    refine q_iadd ok dX9_changedMeter_30 ?_
    refine q_bipush ok dX9_changedMeter_31 rfl ?_
    refine q_callSI (st := []) ok cs_X9_317 (c_JM_min X.2.1 Y ok.2.2.2.2.2.2.2.2 h) ⟨rfl, rfl, Nat.le_of_ble_eq_true rfl, Nat.le_of_ble_eq_true rfl⟩ rfl rfl (Nat.le_of_ble_eq_true rfl) dX9_changedMeter_33 (fun σ1 r1 h => ?_)
    exact q_iret ok dX9_changedMeter_36 h
  by_cases c2 : a0 = 5
  · have h := hs2 c2
    refine q_lsw (off := 36) (tgt := 37) ok dX9_changedMeter_1 rfl g1 (by rw [c2]; first | done | rfl) (by decide) ?_
    refine q_iload_n ok dX9_changedMeter_37 1 rfl ?_
    refine q_iload_n ok dX9_changedMeter_38 2 rfl ?_
    refine q_isub ok dX9_changedMeter_39 ?_
    refine q_iconst ok dX9_changedMeter_40 ?_
    refine q_callSI (st := []) ok cs_X9_322 (c_JM_max X.2.1 Y ok.2.2.2.2.2.2.2.2 h) ⟨rfl, rfl, Nat.le_of_ble_eq_true rfl, Nat.le_of_ble_eq_true rfl⟩ rfl rfl (Nat.le_of_ble_eq_true rfl) dX9_changedMeter_41 (fun σ2 r2 h => ?_)
    exact q_iret ok dX9_changedMeter_44 h
  have h := hs3 c1 c2
  refine q_lsw (off := 44) (tgt := 45) ok dX9_changedMeter_1 rfl g1 (by show Op.lookupswitch.offset _ _ _ = _; rw [Op.lookupswitch.offset_cons, if_neg (fun e => c1 e.symm), Op.lookupswitch.offset_cons, if_neg (fun e => c2 e.symm)]; first | done | rfl) (by decide) ?_
  refine q_iload_n ok dX9_changedMeter_45 2 rfl ?_
  exact q_iret ok dX9_changedMeter_46 h)
/-! BranchingStory.entryOf([II)I -/
def f_X9_entryOf (a0 : Nat) (a1 : Int) (σ : St) (Q : St → Int → Prop) : Prop :=
  inR a1 ∧ ((a1 < 0 → Q σ (-1)) ∧ (¬ a1 < 0 → isIA KC a0 ∧ inR a1 ∧ inR ((alen KC a0 : Nat) : Int) ∧ ((((alen KC a0 : Nat) : Int) ≤ a1 → Q σ (-1)) ∧ (¬ ((alen KC a0 : Nat) : Int) ≤ a1 → 0 ≤ a1 ∧ a1 < ((alen KC a0 : Nat) : Int) ∧ Q σ (σ a0 a1.toNat)))))
set_option maxRecDepth 100000 in
set_option maxHeartbeats 4000000 in
theorem c_X9_entryOf (l : Launch) (Y : Cy) (hD : ∀ σ, va_D Y.2.2.2 (wsOf KC Y.2.1 Y.2.2.1 σ)) {a0 : Nat} {a1 : Int} {σ : St} {Q : St → Int → Prop} (h : f_X9_entryOf a0 a1 σ Q) : ConI l yX9_entryOf cX9_entryOf 2 .int (rm0q 0 0) Y KC σ [.inr (.inr a0), .inl a1] Q := con_of (lv := [(0, .inr (.inr a0)), (1, .inl a1)]) (by decide) hD (Nat.le_of_ble_eq_true rfl) rfl (fun X _ ok => by
  have ok : Ok X Y KC cX9_entryOf 2 RX9 (rm0q 0 0) (some .int) := ok
  unfold f_X9_entryOf at h
  refine q_iload_n ok dX9_entryOf_0 1 rfl ?_
  obtain ⟨g1, hT2a, hT2b⟩ := h
  refine q_if_lt (tgt := 16) ok dX9_entryOf_1 (by decide) g1 (fun c2 => ?_) (fun c2 => ?_)
  · have h := hT2a c2
    refine q_iconst ok dX9_entryOf_16 ?_
    exact q_iret ok dX9_entryOf_17 h
  · have h := hT2b c2
    refine q_iload_n ok dX9_entryOf_4 1 rfl ?_
    refine q_aload_n ok dX9_entryOf_5 0 rfl ?_
    obtain ⟨g2, h⟩ := h
    refine q_alenI ok g2 dX9_entryOf_6 ?_
    obtain ⟨g3, g4, hT1a, hT1b⟩ := h
    refine q_icmp_ge (tgt := 16) ok dX9_entryOf_7 (by decide) g3 g4 (fun c1 => ?_) (fun c1 => ?_)
    · have h := hT1a c1
      refine q_iconst ok dX9_entryOf_16 ?_
      exact q_iret ok dX9_entryOf_17 h
    · have h := hT1b c1
      refine q_aload_n ok dX9_entryOf_10 0 rfl ?_
      refine q_iload_n ok dX9_entryOf_11 1 rfl ?_
      obtain ⟨g5, g6, h⟩ := h
      refine q_iald ok kC_ok g2 g5 g6 dX9_entryOf_12 ?_
      refine q_goto (tgt := 17) ok dX9_entryOf_13 (by decide) ?_
      exact q_iret ok dX9_entryOf_17 h)
/-! BranchingStory.putEntry([III)V -/
def f_X9_putEntry (a0 : Nat) (a1 : Int) (a2 : Int) (σ : St) (Q : St → Prop) : Prop :=
  inR a1 ∧ ((a1 < 0 → Q σ) ∧ (¬ a1 < 0 → isIA KC a0 ∧ inR a1 ∧ inR ((alen KC a0 : Nat) : Int) ∧ ((((alen KC a0 : Nat) : Int) ≤ a1 → Q σ) ∧ (¬ ((alen KC a0 : Nat) : Int) ≤ a1 → 0 ≤ a1 ∧ a1 < ((alen KC a0 : Nat) : Int) ∧ ∀ σ1 : St, σ1 = sset σ a0 a1.toNat a2 → Q σ1))))
set_option maxRecDepth 100000 in
set_option maxHeartbeats 4000000 in
theorem c_X9_putEntry (l : Launch) (Y : Cy) (hD : ∀ σ, va_D Y.2.2.2 (wsOf KC Y.2.1 Y.2.2.1 σ)) {a0 : Nat} {a1 : Int} {a2 : Int} {σ : St} {Q : St → Prop} (h : f_X9_putEntry a0 a1 a2 σ Q) : ConV l yX9_putEntry cX9_putEntry 3 (rm0q 0 0) Y KC σ [.inr (.inr a0), .inl a1, .inl a2] Q := con_of (lv := [(0, .inr (.inr a0)), (1, .inl a1), (2, .inl a2)]) (by decide) hD (Nat.le_of_ble_eq_true rfl) rfl (fun X _ ok => by
  have ok : Ok X Y KC cX9_putEntry 3 RX9 (rm0q 0 0) none := ok
  unfold f_X9_putEntry at h
  refine q_iload_n ok dX9_putEntry_0 1 rfl ?_
  obtain ⟨g1, hT2a, hT2b⟩ := h
  refine q_if_lt (tgt := 14) ok dX9_putEntry_1 (by decide) g1 (fun c2 => ?_) (fun c2 => ?_)
  · have h := hT2a c2
    exact q_vret ok dX9_putEntry_14 h
  · have h := hT2b c2
    refine q_iload_n ok dX9_putEntry_4 1 rfl ?_
    refine q_aload_n ok dX9_putEntry_5 0 rfl ?_
    obtain ⟨g2, h⟩ := h
    refine q_alenI ok g2 dX9_putEntry_6 ?_
    obtain ⟨g3, g4, hT1a, hT1b⟩ := h
    refine q_icmp_ge (tgt := 14) ok dX9_putEntry_7 (by decide) g3 g4 (fun c1 => ?_) (fun c1 => ?_)
    · have h := hT1a c1
      exact q_vret ok dX9_putEntry_14 h
    · have h := hT1b c1
      refine q_aload_n ok dX9_putEntry_10 0 rfl ?_
      refine q_iload_n ok dX9_putEntry_11 1 rfl ?_
      refine q_iload_n ok dX9_putEntry_12 2 rfl ?_
      obtain ⟨g5, g6, h⟩ := h
      refine q_iast ok kC_ok g2 g5 g6 dX9_putEntry_13 (wq_s (fun σ1 eσ1 => ?_))
      have h := h σ1 eσ1
      exact q_vret ok dX9_putEntry_14 h)
/-! BranchingStory$Knowledge.low(JI)I -/
def f_X3_low (a0 : Int) (a1 : Int) (σ : St) (Q : St → Int → Prop) : Prop :=
  Q σ (l2i32 (land64 (lshr64 a0 (4 * a1)) 15))
set_option maxRecDepth 100000 in
set_option maxHeartbeats 4000000 in
theorem c_X3_low (l : Launch) (Y : Cy) (hD : ∀ σ, va_D Y.2.2.2 (wsOf KC Y.2.1 Y.2.2.1 σ)) {a0 : Int} {a1 : Int} {σ : St} {Q : St → Int → Prop} (h : f_X3_low a0 a1 σ Q) : ConI l yX3_low cX3_low 3 .int (rm0q 0 0) Y KC σ [.inr (.inl a0), .inl a1] Q := con_of (lv := [(0, .inr (.inl a0)), (2, .inl a1)]) (by decide) hD (Nat.le_of_ble_eq_true rfl) rfl (fun X _ ok => by
  have ok : Ok X Y KC cX3_low 3 RX3 (rm0q 0 0) (some .int) := ok
  unfold f_X3_low at h
  refine q_lload_n ok dX3_low_0 0 rfl ?_
  refine q_iconst ok dX3_low_1 ?_
  refine q_iload_n ok dX3_low_2 1 rfl ?_
  refine q_imul ok dX3_low_3 ?_
  refine q_lshr ok dX3_low_4 ?_
  refine q_ldc2 (v := 15) ok wt_1140 rfl dX3_low_5 ?_
  refine q_land ok dX3_low_8 ?_
  refine q_l2i ok dX3_low_9 ?_
  exact q_iret ok dX3_low_10 h)
/-! BranchingStory$Knowledge.high(JI)I -/
def f_X3_high (a0 : Int) (a1 : Int) (σ : St) (Q : St → Int → Prop) : Prop :=
  Q σ (l2i32 (land64 (lshr64 a0 (12 + (4 * a1))) 15))
set_option maxRecDepth 100000 in
set_option maxHeartbeats 4000000 in
theorem c_X3_high (l : Launch) (Y : Cy) (hD : ∀ σ, va_D Y.2.2.2 (wsOf KC Y.2.1 Y.2.2.1 σ)) {a0 : Int} {a1 : Int} {σ : St} {Q : St → Int → Prop} (h : f_X3_high a0 a1 σ Q) : ConI l yX3_high cX3_high 3 .int (rm0q 0 0) Y KC σ [.inr (.inl a0), .inl a1] Q := con_of (lv := [(0, .inr (.inl a0)), (2, .inl a1)]) (by decide) hD (Nat.le_of_ble_eq_true rfl) rfl (fun X _ ok => by
  have ok : Ok X Y KC cX3_high 3 RX3 (rm0q 0 0) (some .int) := ok
  unfold f_X3_high at h
  refine q_lload_n ok dX3_high_0 0 rfl ?_
  refine q_bipush ok dX3_high_1 rfl ?_
  refine q_iconst ok dX3_high_3 ?_
  refine q_iload_n ok dX3_high_4 1 rfl ?_
  refine q_imul ok dX3_high_5 ?_
  refine q_iadd ok dX3_high_6 ?_
  refine q_lshr ok dX3_high_7 ?_
  refine q_ldc2 (v := 15) ok wt_1140 rfl dX3_high_8 ?_
  refine q_land ok dX3_high_11 ?_
  refine q_l2i ok dX3_high_12 ?_
  exact q_iret ok dX3_high_13 h)
/-! BranchingStory$Knowledge.flagSet(JI)I -/
def f_X3_flagSet (a0 : Int) (a1 : Int) (σ : St) (Q : St → Int → Prop) : Prop :=
  Q σ (l2i32 (land64 (lshr64 a0 (24 + (2 * a1))) 3))
set_option maxRecDepth 100000 in
set_option maxHeartbeats 4000000 in
theorem c_X3_flagSet (l : Launch) (Y : Cy) (hD : ∀ σ, va_D Y.2.2.2 (wsOf KC Y.2.1 Y.2.2.1 σ)) {a0 : Int} {a1 : Int} {σ : St} {Q : St → Int → Prop} (h : f_X3_flagSet a0 a1 σ Q) : ConI l yX3_flagSet cX3_flagSet 3 .int (rm0q 0 0) Y KC σ [.inr (.inl a0), .inl a1] Q := con_of (lv := [(0, .inr (.inl a0)), (2, .inl a1)]) (by decide) hD (Nat.le_of_ble_eq_true rfl) rfl (fun X _ ok => by
  have ok : Ok X Y KC cX3_flagSet 3 RX3 (rm0q 0 0) (some .int) := ok
  unfold f_X3_flagSet at h
  refine q_lload_n ok dX3_flagSet_0 0 rfl ?_
  refine q_bipush ok dX3_flagSet_1 rfl ?_
  refine q_iconst ok dX3_flagSet_3 ?_
  refine q_iload_n ok dX3_flagSet_4 1 rfl ?_
  refine q_imul ok dX3_flagSet_5 ?_
  refine q_iadd ok dX3_flagSet_6 ?_
  refine q_lshr ok dX3_flagSet_7 ?_
  refine q_ldc2 (v := 3) ok wt_1157 rfl dX3_flagSet_8 ?_
  refine q_land ok dX3_flagSet_11 ?_
  refine q_l2i ok dX3_flagSet_12 ?_
  exact q_iret ok dX3_flagSet_13 h)
/-! BranchingStory$Knowledge.hubSet(J)I -/
def f_X3_hubSet (a0 : Int) (σ : St) (Q : St → Int → Prop) : Prop :=
  Q σ (l2i32 (land64 (lshr64 a0 36) 8191))
set_option maxRecDepth 100000 in
set_option maxHeartbeats 4000000 in
theorem c_X3_hubSet (l : Launch) (Y : Cy) (hD : ∀ σ, va_D Y.2.2.2 (wsOf KC Y.2.1 Y.2.2.1 σ)) {a0 : Int} {σ : St} {Q : St → Int → Prop} (h : f_X3_hubSet a0 σ Q) : ConI l yX3_hubSet cX3_hubSet 2 .int (rm0q 0 0) Y KC σ [.inr (.inl a0)] Q := con_of (lv := [(0, .inr (.inl a0))]) (by decide) hD (Nat.le_of_ble_eq_true rfl) rfl (fun X _ ok => by
  have ok : Ok X Y KC cX3_hubSet 2 RX3 (rm0q 0 0) (some .int) := ok
  unfold f_X3_hubSet at h
  refine q_lload_n ok dX3_hubSet_0 0 rfl ?_
  refine q_bipush ok dX3_hubSet_1 rfl ?_
  refine q_lshr ok dX3_hubSet_3 ?_
  refine q_ldc2 (v := 8191) ok wt_1221 rfl dX3_hubSet_4 ?_
  refine q_land ok dX3_hubSet_7 ?_
  refine q_l2i ok dX3_hubSet_8 ?_
  exact q_iret ok dX3_hubSet_9 h)
/-! BranchingStory$Knowledge.withRange(JIII)J -/
def f_X3_withRange (a0 : Int) (a1 : Int) (a2 : Int) (a3 : Int) (σ : St) (Q : St → Int → Prop) : Prop :=
  inR a2 ∧ inR a3 ∧ ((a2 ≤ a3 → ∀ x1 : Int, x1 = (4 * a1) → ∀ x2 : Int, x2 = (12 + x1) → ∀ x3 : Int, x3 = (land64 a0 (lxor64 (lor64 (lshl64 15 x1) (lshl64 15 x2)) (-1))) → Q σ (lor64 (lor64 x3 (lshl64 (i2l64 a2) x1)) (lshl64 (i2l64 a3) x2))) ∧ (¬ a2 ≤ a3 → Q σ 0))
set_option maxRecDepth 100000 in
set_option maxHeartbeats 4000000 in
theorem c_X3_withRange (l : Launch) (Y : Cy) (hD : ∀ σ, va_D Y.2.2.2 (wsOf KC Y.2.1 Y.2.2.1 σ)) {a0 : Int} {a1 : Int} {a2 : Int} {a3 : Int} {σ : St} {Q : St → Int → Prop} (h : f_X3_withRange a0 a1 a2 a3 σ Q) : ConL l yX3_withRange cX3_withRange 9 (rm0q 0 0) Y KC σ [.inr (.inl a0), .inl a1, .inl a2, .inl a3] Q := con_of (lv := [(0, .inr (.inl a0)), (2, .inl a1), (3, .inl a2), (4, .inl a3)]) (by decide) hD (Nat.le_of_ble_eq_true rfl) rfl (fun X _ ok => by
  have ok : Ok X Y KC cX3_withRange 9 RX3 (rm0q 0 0) (some .long) := ok
  unfold f_X3_withRange at h
  refine q_iload_n ok dX3_withRange_0 2 rfl ?_
  refine q_iload ok dX3_withRange_1 3 rfl ?_
  obtain ⟨g1, g2, hT1a, hT1b⟩ := h
  refine q_icmp_le (tgt := 8) ok dX3_withRange_3 (by decide) g1 g2 (fun c1 => ?_) (fun c1 => ?_)
  · have h := hT1a c1
    refine q_iconst ok dX3_withRange_8 ?_
    refine q_iload_n ok dX3_withRange_9 1 rfl ?_
    refine q_imul ok dX3_withRange_10 ?_
    refine wq_i (fun x1 ex1 => ?_)
    have h := h x1 ex1
    refine q_istore (lv' := [(5, .inl x1), (0, .inr (.inl a0)), (2, .inl a1), (3, .inl a2), (4, .inl a3)]) ok dX3_withRange_11 (by decide) rfl ?_
    refine q_bipush ok dX3_withRange_13 rfl ?_
    refine q_iload ok dX3_withRange_15 0 rfl ?_
    refine q_iadd ok dX3_withRange_17 ?_
    refine wq_i (fun x2 ex2 => ?_)
    have h := h x2 ex2
    refine q_istore (lv' := [(6, .inl x2), (5, .inl x1), (0, .inr (.inl a0)), (2, .inl a1), (3, .inl a2), (4, .inl a3)]) ok dX3_withRange_18 (by decide) rfl ?_
    refine q_lload_n ok dX3_withRange_20 2 rfl ?_
    refine q_ldc2 (v := 15) ok wt_1140 rfl dX3_withRange_21 ?_
    refine q_iload ok dX3_withRange_24 1 rfl ?_
    refine q_lshl ok dX3_withRange_26 ?_
    refine q_ldc2 (v := 15) ok wt_1140 rfl dX3_withRange_27 ?_
    refine q_iload ok dX3_withRange_30 0 rfl ?_
    refine q_lshl ok dX3_withRange_32 ?_
    refine q_lor ok dX3_withRange_33 ?_
    refine q_ldc2 (v := (-1)) ok wt_1149 rfl dX3_withRange_34 ?_
    refine q_lxor ok dX3_withRange_37 ?_
    refine q_land ok dX3_withRange_38 ?_
    refine wq_l (fun x3 ex3 => ?_)
    have h := h x3 ex3
    refine q_lstore (lv' := [(7, .inr (.inl x3)), (6, .inl x2), (5, .inl x1), (0, .inr (.inl a0)), (2, .inl a1), (3, .inl a2), (4, .inl a3)]) ok dX3_withRange_39 (by decide) rfl ?_
    refine q_lload ok dX3_withRange_41 0 rfl ?_
    refine q_iload_n ok dX3_withRange_43 5 rfl ?_
    refine q_i2l ok dX3_withRange_44 ?_
    refine q_iload ok dX3_withRange_45 2 rfl ?_
    refine q_lshl ok dX3_withRange_47 ?_
    refine q_lor ok dX3_withRange_48 ?_
    refine q_iload ok dX3_withRange_49 6 rfl ?_
    refine q_i2l ok dX3_withRange_51 ?_
    refine q_iload ok dX3_withRange_52 1 rfl ?_
    refine q_lshl ok dX3_withRange_54 ?_
    refine q_lor ok dX3_withRange_55 ?_
    exact q_lret ok dX3_withRange_56 h
  · have h := hT1b c1
    refine q_lconst ok dX3_withRange_6 0 rfl ?_
    exact q_lret ok dX3_withRange_7 h)
/-! BranchingStory$Knowledge.withFlag(JII)J -/
def f_X3_withFlag (a0 : Int) (a1 : Int) (a2 : Int) (σ : St) (Q : St → Int → Prop) : Prop :=
  ∀ x1 : Int, x1 = (24 + (2 * a1)) → Q σ (lor64 (land64 a0 (lxor64 (lshl64 3 x1) (-1))) (lshl64 (i2l64 a2) x1))
set_option maxRecDepth 100000 in
set_option maxHeartbeats 4000000 in
theorem c_X3_withFlag (l : Launch) (Y : Cy) (hD : ∀ σ, va_D Y.2.2.2 (wsOf KC Y.2.1 Y.2.2.1 σ)) {a0 : Int} {a1 : Int} {a2 : Int} {σ : St} {Q : St → Int → Prop} (h : f_X3_withFlag a0 a1 a2 σ Q) : ConL l yX3_withFlag cX3_withFlag 5 (rm0q 0 0) Y KC σ [.inr (.inl a0), .inl a1, .inl a2] Q := con_of (lv := [(0, .inr (.inl a0)), (2, .inl a1), (3, .inl a2)]) (by decide) hD (Nat.le_of_ble_eq_true rfl) rfl (fun X _ ok => by
  have ok : Ok X Y KC cX3_withFlag 5 RX3 (rm0q 0 0) (some .long) := ok
  unfold f_X3_withFlag at h
  refine q_bipush ok dX3_withFlag_0 rfl ?_
  refine q_iconst ok dX3_withFlag_2 ?_
  refine q_iload_n ok dX3_withFlag_3 1 rfl ?_
  refine q_imul ok dX3_withFlag_4 ?_
  refine q_iadd ok dX3_withFlag_5 ?_
  refine wq_i (fun x1 ex1 => ?_)
  have h := h x1 ex1
  refine q_istore (lv' := [(4, .inl x1), (0, .inr (.inl a0)), (2, .inl a1), (3, .inl a2)]) ok dX3_withFlag_6 (by decide) rfl ?_
  refine q_lload_n ok dX3_withFlag_8 1 rfl ?_
  refine q_ldc2 (v := 3) ok wt_1157 rfl dX3_withFlag_9 ?_
  refine q_iload ok dX3_withFlag_12 0 rfl ?_
  refine q_lshl ok dX3_withFlag_14 ?_
  refine q_ldc2 (v := (-1)) ok wt_1149 rfl dX3_withFlag_15 ?_
  refine q_lxor ok dX3_withFlag_18 ?_
  refine q_land ok dX3_withFlag_19 ?_
  refine q_iload_n ok dX3_withFlag_20 3 rfl ?_
  refine q_i2l ok dX3_withFlag_21 ?_
  refine q_iload ok dX3_withFlag_22 0 rfl ?_
  refine q_lshl ok dX3_withFlag_24 ?_
  refine q_lor ok dX3_withFlag_25 ?_
  exact q_lret ok dX3_withFlag_26 h)
/-! BranchingStory$Knowledge.keepingFlag(JII)J -/
def f_X3_keepingFlag (a0 : Int) (a1 : Int) (a2 : Int) (σ : St) (Q : St → Int → Prop) : Prop :=
  ∀ x1 : Int, x1 = (24 + (2 * a1)) → ∀ x2 : Int, x2 = (land64 a0 (lxor64 (lshl64 (i2l64 (3 - a2)) x1) (-1))) → inR (lcmp64 (land64 (lshr64 x2 x1) 3) 0) ∧ ((¬ (lcmp64 (land64 (lshr64 x2 x1) 3) 0) = 0 → Q σ x2) ∧ ((lcmp64 (land64 (lshr64 x2 x1) 3) 0) = 0 → Q σ 0))
set_option maxRecDepth 100000 in
set_option maxHeartbeats 4000000 in
theorem c_X3_keepingFlag (l : Launch) (Y : Cy) (hD : ∀ σ, va_D Y.2.2.2 (wsOf KC Y.2.1 Y.2.2.1 σ)) {a0 : Int} {a1 : Int} {a2 : Int} {σ : St} {Q : St → Int → Prop} (h : f_X3_keepingFlag a0 a1 a2 σ Q) : ConL l yX3_keepingFlag cX3_keepingFlag 7 (rm0q 0 0) Y KC σ [.inr (.inl a0), .inl a1, .inl a2] Q := con_of (lv := [(0, .inr (.inl a0)), (2, .inl a1), (3, .inl a2)]) (by decide) hD (Nat.le_of_ble_eq_true rfl) rfl (fun X _ ok => by
  have ok : Ok X Y KC cX3_keepingFlag 7 RX3 (rm0q 0 0) (some .long) := ok
  unfold f_X3_keepingFlag at h
  refine q_bipush ok dX3_keepingFlag_0 rfl ?_
  refine q_iconst ok dX3_keepingFlag_2 ?_
  refine q_iload_n ok dX3_keepingFlag_3 1 rfl ?_
  refine q_imul ok dX3_keepingFlag_4 ?_
  refine q_iadd ok dX3_keepingFlag_5 ?_
  refine wq_i (fun x1 ex1 => ?_)
  have h := h x1 ex1
  refine q_istore (lv' := [(4, .inl x1), (0, .inr (.inl a0)), (2, .inl a1), (3, .inl a2)]) ok dX3_keepingFlag_6 (by decide) rfl ?_
  refine q_lload_n ok dX3_keepingFlag_8 1 rfl ?_
  refine q_iconst ok dX3_keepingFlag_9 ?_
  refine q_iload_n ok dX3_keepingFlag_10 3 rfl ?_
  refine q_isub ok dX3_keepingFlag_11 ?_
  refine q_i2l ok dX3_keepingFlag_12 ?_
  refine q_iload ok dX3_keepingFlag_13 0 rfl ?_
  refine q_lshl ok dX3_keepingFlag_15 ?_
  refine q_ldc2 (v := (-1)) ok wt_1149 rfl dX3_keepingFlag_16 ?_
  refine q_lxor ok dX3_keepingFlag_19 ?_
  refine q_land ok dX3_keepingFlag_20 ?_
  refine wq_l (fun x2 ex2 => ?_)
  have h := h x2 ex2
  refine q_lstore (lv' := [(5, .inr (.inl x2)), (4, .inl x1), (0, .inr (.inl a0)), (2, .inl a1), (3, .inl a2)]) ok dX3_keepingFlag_21 (by decide) rfl ?_
  refine q_lload ok dX3_keepingFlag_23 0 rfl ?_
  refine q_iload ok dX3_keepingFlag_25 1 rfl ?_
  refine q_lshr ok dX3_keepingFlag_27 ?_
  refine q_ldc2 (v := 3) ok wt_1157 rfl dX3_keepingFlag_28 ?_
  refine q_land ok dX3_keepingFlag_31 ?_
  refine q_lconst ok dX3_keepingFlag_32 0 rfl ?_
  refine q_lcmp ok dX3_keepingFlag_33 ?_
  obtain ⟨g1, hT1a, hT1b⟩ := h
  refine q_if_ne (tgt := 41) ok dX3_keepingFlag_34 (by decide) g1 (fun c1 => ?_) (fun c1 => ?_)
  · have h := hT1a c1
    refine q_lload ok dX3_keepingFlag_41 0 rfl ?_
    exact q_lret ok dX3_keepingFlag_43 h
  · have h := hT1b c1
    refine q_lconst ok dX3_keepingFlag_37 0 rfl ?_
    refine q_goto (tgt := 43) ok dX3_keepingFlag_38 (by decide) ?_
    exact q_lret ok dX3_keepingFlag_43 h)
/-! BranchingStory$Knowledge.withHubs(JI)J -/
def f_X3_withHubs (a0 : Int) (a1 : Int) (σ : St) (Q : St → Int → Prop) : Prop :=
  Q σ (lor64 (land64 a0 (-562881233944577)) (lshl64 (i2l64 a1) 36))
set_option maxRecDepth 100000 in
set_option maxHeartbeats 4000000 in
theorem c_X3_withHubs (l : Launch) (Y : Cy) (hD : ∀ σ, va_D Y.2.2.2 (wsOf KC Y.2.1 Y.2.2.1 σ)) {a0 : Int} {a1 : Int} {σ : St} {Q : St → Int → Prop} (h : f_X3_withHubs a0 a1 σ Q) : ConL l yX3_withHubs cX3_withHubs 3 (rm0q 0 0) Y KC σ [.inr (.inl a0), .inl a1] Q := con_of (lv := [(0, .inr (.inl a0)), (2, .inl a1)]) (by decide) hD (Nat.le_of_ble_eq_true rfl) rfl (fun X _ ok => by
  have ok : Ok X Y KC cX3_withHubs 3 RX3 (rm0q 0 0) (some .long) := ok
  unfold f_X3_withHubs at h
  refine q_lload_n ok dX3_withHubs_0 0 rfl ?_
  refine q_ldc2 (v := (-562881233944577)) ok wt_1128 rfl dX3_withHubs_1 ?_
  refine q_land ok dX3_withHubs_4 ?_
  refine q_iload_n ok dX3_withHubs_5 1 rfl ?_
  refine q_i2l ok dX3_withHubs_6 ?_
  refine q_bipush ok dX3_withHubs_7 rfl ?_
  refine q_lshl ok dX3_withHubs_9 ?_
  refine q_lor ok dX3_withHubs_10 ?_
  exact q_lret ok dX3_withHubs_11 h)
/-! BranchingStory$Knowledge.union(JJ)J -/
def f_X3_union_L30 (Q : St → Int → Prop) : Nat → St → Int → Int → Int → Int → Prop
  | 0, _, _, _, _, _ => False
  | n + 1, σ, v0, v2, v4, v6 => inR v6 ∧ ((3 ≤ v6 → Q σ v4) ∧ (¬ 3 ≤ v6 → f_X3_low v0 v6 σ (fun σ1 r1 => f_X3_low v2 v6 σ1 (fun σ2 r2 => f_JM_min r1 r2 σ2 (fun σ3 r3 => f_X3_high v0 v6 σ3 (fun σ4 r4 => f_X3_high v2 v6 σ4 (fun σ5 r5 => f_JM_max r4 r5 σ5 (fun σ6 r6 => f_X3_withRange v4 v6 r3 r6 σ6 (fun σ7 r7 => f_X3_union_L30 Q n σ7 v0 v2 r7 (v6 + 1))))))))))
def f_X3_union (a0 : Int) (a1 : Int) (σ : St) (Q : St → Int → Prop) : Prop :=
  inR (lcmp64 a0 0) ∧ (((lcmp64 a0 0) = 0 → Q σ a1) ∧ (¬ (lcmp64 a0 0) = 0 → inR (lcmp64 a0 a1) ∧ ((¬ (lcmp64 a0 a1) = 0 → inR (lcmp64 a1 0) ∧ ((¬ (lcmp64 a1 0) = 0 → ∀ x1 : Int, x1 = (lor64 a0 a1) → f_X3_union_L30 Q FU σ a0 a1 x1 0) ∧ ((lcmp64 a1 0) = 0 → Q σ a0))) ∧ ((lcmp64 a0 a1) = 0 → Q σ a1))))
set_option maxRecDepth 100000 in
set_option maxHeartbeats 4000000 in
theorem w_X3_union_L30 {X : Cx} {Y : Cy} {Q : St → Int → Prop} (ok : Ok X Y KC cX3_union 7 RX3 (rm0q 1 28) (some .long)) : ∀ (n : Nat) (σ : St) (v0 : Int) (v2 : Int) (v4 : Int) (v6 : Int) , f_X3_union_L30 Q n σ v0 v2 v4 v6 → Wq X Y KC 7 (QF X Y (Qlq Y KC Q)) σ 30 [(0, .inr (.inl v0)), (2, .inr (.inl v2)), (4, .inr (.inl v4)), (6, .inl v6)] [] := by
  intro n
  induction n with
  | zero => intro σ v0 v2 v4 v6 h; exact h.elim
  | succ n ih =>
    intro σ v0 v2 v4 v6 h
    rw [f_X3_union_L30] at h
    refine q_iload ok dX3_union_30 3 rfl ?_
    refine q_iconst ok dX3_union_32 ?_
    obtain ⟨g1, hT1a, hT1b⟩ := h
    refine q_icmp_ge (tgt := 81) ok dX3_union_33 (by decide) g1 (by unfold inR; decide) (fun c1 => ?_) (fun c1 => ?_)
    · have h := hT1a c1
      refine q_lload ok dX3_union_81 2 rfl ?_
      exact q_lret ok dX3_union_83 h
    · have h := hT1b c1
      refine q_lload ok dX3_union_36 2 rfl ?_
      refine q_iload ok dX3_union_38 3 rfl ?_
      refine q_lload_n ok dX3_union_40 0 rfl ?_
      refine q_iload ok dX3_union_41 3 rfl ?_
      refine q_callSI (st := [.inl v6, .inr (.inl v4)]) ok cs_X3_21 (c_X3_low X.2.1 Y ok.2.2.2.2.2.2.2.2 h) ⟨rfl, rfl, Nat.le_of_ble_eq_true rfl, Nat.le_of_ble_eq_true rfl⟩ rfl rfl (Nat.le_of_ble_eq_true rfl) dX3_union_43 (fun σ1 r1 h => ?_)
      refine q_lload_n ok dX3_union_46 1 rfl ?_
      refine q_iload ok dX3_union_47 3 rfl ?_
      refine q_callSI (st := [.inl r1, .inl v6, .inr (.inl v4)]) ok cs_X3_21 (c_X3_low X.2.1 Y ok.2.2.2.2.2.2.2.2 h) ⟨rfl, rfl, Nat.le_of_ble_eq_true rfl, Nat.le_of_ble_eq_true rfl⟩ rfl rfl (Nat.le_of_ble_eq_true rfl) dX3_union_49 (fun σ2 r2 h => ?_)
      refine q_callSI (st := [.inl v6, .inr (.inl v4)]) ok cs_X3_25 (c_JM_min X.2.1 Y ok.2.2.2.2.2.2.2.2 h) ⟨rfl, rfl, Nat.le_of_ble_eq_true rfl, Nat.le_of_ble_eq_true rfl⟩ rfl rfl (Nat.le_of_ble_eq_true rfl) dX3_union_52 (fun σ3 r3 h => ?_)
      refine q_lload_n ok dX3_union_55 0 rfl ?_
      refine q_iload ok dX3_union_56 3 rfl ?_
      refine q_callSI (st := [.inl r3, .inl v6, .inr (.inl v4)]) ok cs_X3_31 (c_X3_high X.2.1 Y ok.2.2.2.2.2.2.2.2 h) ⟨rfl, rfl, Nat.le_of_ble_eq_true rfl, Nat.le_of_ble_eq_true rfl⟩ rfl rfl (Nat.le_of_ble_eq_true rfl) dX3_union_58 (fun σ4 r4 h => ?_)
      refine q_lload_n ok dX3_union_61 1 rfl ?_
      refine q_iload ok dX3_union_62 3 rfl ?_
      refine q_callSI (st := [.inl r4, .inl r3, .inl v6, .inr (.inl v4)]) ok cs_X3_31 (c_X3_high X.2.1 Y ok.2.2.2.2.2.2.2.2 h) ⟨rfl, rfl, Nat.le_of_ble_eq_true rfl, Nat.le_of_ble_eq_true rfl⟩ rfl rfl (Nat.le_of_ble_eq_true rfl) dX3_union_64 (fun σ5 r5 h => ?_)
      refine q_callSI (st := [.inl r3, .inl v6, .inr (.inl v4)]) ok cs_X3_34 (c_JM_max X.2.1 Y ok.2.2.2.2.2.2.2.2 h) ⟨rfl, rfl, Nat.le_of_ble_eq_true rfl, Nat.le_of_ble_eq_true rfl⟩ rfl rfl (Nat.le_of_ble_eq_true rfl) dX3_union_67 (fun σ6 r6 h => ?_)
      refine q_callSL (st := []) ok cs_X3_37 (c_X3_withRange X.2.1 Y ok.2.2.2.2.2.2.2.2 h) ⟨rfl, rfl, Nat.le_of_ble_eq_true rfl, Nat.le_of_ble_eq_true rfl⟩ rfl rfl (Nat.le_of_ble_eq_true rfl) dX3_union_70 (fun σ7 r7 h => ?_)
      refine q_lstore (lv' := [(4, .inr (.inl r7)), (0, .inr (.inl v0)), (2, .inr (.inl v2)), (6, .inl v6)]) ok dX3_union_73 (by decide) rfl ?_
      refine q_iinc (lv' := [(6, .inl (v6 + 1)), (4, .inr (.inl r7)), (0, .inr (.inl v0)), (2, .inr (.inl v2))]) ok dX3_union_75 3 rfl (by decide) rfl ?_
      refine q_goto (tgt := 30) ok dX3_union_78 (by decide) ?_
      refine q_sub [2, 3, 1, 0] rfl ?_
      exact ih σ7 v0 v2 r7 (v6 + 1) h
set_option maxRecDepth 100000 in
set_option maxHeartbeats 4000000 in
theorem c_X3_union (l : Launch) (Y : Cy) (hD : ∀ σ, va_D Y.2.2.2 (wsOf KC Y.2.1 Y.2.2.1 σ)) {a0 : Int} {a1 : Int} {σ : St} {Q : St → Int → Prop} (h : f_X3_union a0 a1 σ Q) : ConL l yX3_union cX3_union 7 (rm0q 1 28) Y KC σ [.inr (.inl a0), .inr (.inl a1)] Q := con_of (lv := [(0, .inr (.inl a0)), (2, .inr (.inl a1))]) (by decide) hD (Nat.le_of_ble_eq_true rfl) rfl (fun X _ ok => by
  have ok : Ok X Y KC cX3_union 7 RX3 (rm0q 1 28) (some .long) := ok
  unfold f_X3_union at h
  refine q_lload_n ok dX3_union_0 0 rfl ?_
  refine q_lconst ok dX3_union_1 0 rfl ?_
  refine q_lcmp ok dX3_union_2 ?_
  obtain ⟨g1, hT3a, hT3b⟩ := h
  refine q_if_eq (tgt := 12) ok dX3_union_3 (by decide) g1 (fun c3 => ?_) (fun c3 => ?_)
  · have h := hT3a c3
    refine q_lload_n ok dX3_union_12 1 rfl ?_
    exact q_lret ok dX3_union_13 h
  · have h := hT3b c3
    refine q_lload_n ok dX3_union_6 0 rfl ?_
    refine q_lload_n ok dX3_union_7 1 rfl ?_
    refine q_lcmp ok dX3_union_8 ?_
    obtain ⟨g2, hT2a, hT2b⟩ := h
    refine q_if_ne (tgt := 14) ok dX3_union_9 (by decide) g2 (fun c2 => ?_) (fun c2 => ?_)
    · have h := hT2a c2
      refine q_lload_n ok dX3_union_14 1 rfl ?_
      refine q_lconst ok dX3_union_15 0 rfl ?_
      refine q_lcmp ok dX3_union_16 ?_
      obtain ⟨g3, hT1a, hT1b⟩ := h
      refine q_if_ne (tgt := 22) ok dX3_union_17 (by decide) g3 (fun c1 => ?_) (fun c1 => ?_)
      · have h := hT1a c1
        refine q_lload_n ok dX3_union_22 0 rfl ?_
        refine q_lload_n ok dX3_union_23 1 rfl ?_
        refine q_lor ok dX3_union_24 ?_
        refine wq_l (fun x1 ex1 => ?_)
        have h := h x1 ex1
        refine q_lstore (lv' := [(4, .inr (.inl x1)), (0, .inr (.inl a0)), (2, .inr (.inl a1))]) ok dX3_union_25 (by decide) rfl ?_
        refine q_iconst ok dX3_union_27 ?_
        refine q_istore (lv' := [(6, .inl 0), (4, .inr (.inl x1)), (0, .inr (.inl a0)), (2, .inr (.inl a1))]) ok dX3_union_28 (by decide) rfl ?_
        refine q_sub [2, 3, 1, 0] rfl ?_
        exact w_X3_union_L30 ok FU σ a0 a1 x1 0 h
      · have h := hT1b c1
        refine q_lload_n ok dX3_union_20 0 rfl ?_
        exact q_lret ok dX3_union_21 h
    · have h := hT2b c2
      refine q_lload_n ok dX3_union_12 1 rfl ?_
      exact q_lret ok dX3_union_13 h)
/-! BranchingStory$Lines.empty()V -/
def f_X4_empty_L7 (Q : St → Prop) : Nat → St → Nat → Int → Prop
  | 0, _, _, _ => False
  | n + 1, σ, v0, v1 => inR v1 ∧ ((100 ≤ v1 → Q σ) ∧ (¬ 100 ≤ v1 → isN v0 ∧ 0 ≤ v1 ∧ v1 < 100 ∧ ∀ σ1 : St, σ1 = sset σ (v0 + 2) v1.toNat 0 → f_X4_empty_L7 Q n σ1 v0 (v1 + 1)))
def f_X4_empty (c : Nat) (σ : St) (Q : St → Prop) : Prop :=
  isN c ∧ ∀ σ1 : St, σ1 = sset σ c 0 0 → f_X4_empty_L7 Q FU σ1 c 0
set_option maxRecDepth 100000 in
set_option maxHeartbeats 4000000 in
theorem w_X4_empty_L7 {X : Cx} {Y : Cy} {Q : St → Prop} (ok : Ok X Y KC cX4_empty 2 RX4 (rm0q 0 0) none) : ∀ (n : Nat) (σ : St) (v0 : Nat) (v1 : Int) , f_X4_empty_L7 Q n σ v0 v1 → Wq X Y KC 2 (QF X Y (Qvq Y KC Q)) σ 7 [(0, .inr (.inr v0)), (1, .inl v1)] [] := by
  intro n
  induction n with
  | zero => intro σ v0 v1 h; exact h.elim
  | succ n ih =>
    intro σ v0 v1 h
    rw [f_X4_empty_L7] at h
    refine q_iload_n ok dX4_empty_7 1 rfl ?_
    refine q_bipush ok dX4_empty_8 rfl ?_
    obtain ⟨g1, hT1a, hT1b⟩ := h
    refine q_icmp_ge (tgt := 26) ok dX4_empty_10 (by decide) g1 (by unfold inR; decide) (fun c1 => ?_) (fun c1 => ?_)
    · have h := hT1a c1
      exact q_vret ok dX4_empty_26 h
    · have h := hT1b c1
      refine q_aload_n ok dX4_empty_13 0 rfl ?_
      obtain ⟨g2, h⟩ := h
      refine q_getC ok fl_X4_15 (kX4_0 g2) (fIX4_2 v0) dX4_empty_14 ?_
      refine q_iload_n ok dX4_empty_17 1 rfl ?_
      refine q_iconst ok dX4_empty_18 ?_
      obtain ⟨g3, g4, h⟩ := h
      refine q_zast ok kC_ok (kX4_2 g2) g3 g4 (by decide) dX4_empty_19 (wq_s (fun σ1 eσ1 => ?_))
      have h := h σ1 eσ1
      refine q_iinc (lv' := [(1, .inl (v1 + 1)), (0, .inr (.inr v0))]) ok dX4_empty_20 1 rfl (by decide) rfl ?_
      refine q_goto (tgt := 7) ok dX4_empty_23 (by decide) ?_
      refine q_sub [1, 0] rfl ?_
      exact ih σ1 v0 (v1 + 1) h
set_option maxRecDepth 100000 in
set_option maxHeartbeats 4000000 in
theorem c_X4_empty (l : Launch) (Y : Cy) (hD : ∀ σ, va_D Y.2.2.2 (wsOf KC Y.2.1 Y.2.2.1 σ)) {c : Nat} {σ : St} {Q : St → Prop} (h : f_X4_empty c σ Q) : ConV l yX4_empty cX4_empty 2 (rm0q 0 0) Y KC σ [.inr (.inr c)] Q := con_of (lv := [(0, .inr (.inr c))]) (by decide) hD (Nat.le_of_ble_eq_true rfl) rfl (fun X _ ok => by
  have ok : Ok X Y KC cX4_empty 2 RX4 (rm0q 0 0) none := ok
  unfold f_X4_empty at h
  refine q_aload_n ok dX4_empty_0 0 rfl ?_
  refine q_iconst ok dX4_empty_1 ?_
  obtain ⟨g1, h⟩ := h
  refine q_putI ok fp_X4_19 (kX4_0 g1) (fIX4_0 c) dX4_empty_2 (wq_s (fun σ1 eσ1 => ?_))
  have h := h σ1 eσ1
  refine q_iconst ok dX4_empty_5 ?_
  refine q_istore_n (lv' := [(1, .inl 0), (0, .inr (.inr c))]) ok dX4_empty_6 (by decide) rfl ?_
  refine q_sub [1, 0] rfl ?_
  exact w_X4_empty_L7 ok FU σ1 c 0 h)
/-! BranchingStory$Lines.append(I)V -/
def f_X4_append (c : Nat) (a0 : Int) (σ : St) (Q : St → Prop) : Prop :=
  isN c ∧ f_JM_floorMod (σ c 0) 20 σ (fun σ1 r1 => 0 ≤ r1 ∧ r1 < 20 ∧ ∀ σ2 : St, σ2 = sset σ1 (c + 1) r1.toNat a0 → ∀ σ3 : St, σ3 = sset σ2 c 0 ((σ2 c 0) + 1) → inR a0 ∧ ((a0 < 0 → Q σ3) ∧ (¬ a0 < 0 → inR a0 ∧ ((100 ≤ a0 → Q σ3) ∧ (¬ 100 ≤ a0 → 0 ≤ a0 ∧ a0 < 100 ∧ ∀ σ4 : St, σ4 = sset σ3 (c + 2) a0.toNat 1 → Q σ4)))))
set_option maxRecDepth 100000 in
set_option maxHeartbeats 4000000 in
theorem c_X4_append (l : Launch) (Y : Cy) (hD : ∀ σ, va_D Y.2.2.2 (wsOf KC Y.2.1 Y.2.2.1 σ)) {c : Nat} {a0 : Int} {σ : St} {Q : St → Prop} (h : f_X4_append c a0 σ Q) : ConV l yX4_append cX4_append 2 (rm0q 1 22) Y KC σ [.inr (.inr c), .inl a0] Q := con_of (lv := [(0, .inr (.inr c)), (1, .inl a0)]) (by decide) hD (Nat.le_of_ble_eq_true rfl) rfl (fun X _ ok => by
  have ok : Ok X Y KC cX4_append 2 RX4 (rm0q 1 22) none := ok
  unfold f_X4_append at h
  refine q_aload_n ok dX4_append_0 0 rfl ?_
  obtain ⟨g1, h⟩ := h
  refine q_getC ok fl_X4_9 (kX4_0 g1) (fIX4_1 c) dX4_append_1 ?_
  refine q_aload_n ok dX4_append_4 0 rfl ?_
  refine q_getI ok fl_X4_19 (kX4_0 g1) (fIX4_0 c) dX4_append_5 ?_
  refine q_bipush ok dX4_append_8 rfl ?_
  refine q_callSI (st := [.inr (.inr (c + 1))]) ok cs_X4_23 (c_JM_floorMod X.2.1 Y ok.2.2.2.2.2.2.2.2 h) ⟨rfl, rfl, Nat.le_of_ble_eq_true rfl, Nat.le_of_ble_eq_true rfl⟩ rfl rfl (Nat.le_of_ble_eq_true rfl) dX4_append_10 (fun σ1 r1 h => ?_)
  refine q_iload_n ok dX4_append_13 1 rfl ?_
  obtain ⟨g2, g3, h⟩ := h
  refine q_iast ok kC_ok (kX4_1 g1) g2 g3 dX4_append_14 (wq_s (fun σ2 eσ2 => ?_))
  have h := h σ2 eσ2
  refine q_aload_n ok dX4_append_15 0 rfl ?_
  refine q_dup ok dX4_append_16 rfl ?_
  refine q_getI ok fl_X4_19 (kX4_0 g1) (fIX4_0 c) dX4_append_17 ?_
  refine q_iconst ok dX4_append_20 ?_
  refine q_iadd ok dX4_append_21 ?_
  refine q_putI ok fp_X4_19 (kX4_0 g1) (fIX4_0 c) dX4_append_22 (wq_s (fun σ3 eσ3 => ?_))
  have h := h σ3 eσ3
  refine q_iload_n ok dX4_append_25 1 rfl ?_
  obtain ⟨g4, hT2a, hT2b⟩ := h
  refine q_if_lt (tgt := 42) ok dX4_append_26 (by decide) g4 (fun c2 => ?_) (fun c2 => ?_)
  · have h := hT2a c2
    exact q_vret ok dX4_append_42 h
  · have h := hT2b c2
    refine q_iload_n ok dX4_append_29 1 rfl ?_
    refine q_bipush ok dX4_append_30 rfl ?_
    obtain ⟨g5, hT1a, hT1b⟩ := h
    refine q_icmp_ge (tgt := 42) ok dX4_append_32 (by decide) g5 (by unfold inR; decide) (fun c1 => ?_) (fun c1 => ?_)
    · have h := hT1a c1
      exact q_vret ok dX4_append_42 h
    · have h := hT1b c1
      refine q_aload_n ok dX4_append_35 0 rfl ?_
      refine q_getC ok fl_X4_15 (kX4_0 g1) (fIX4_2 c) dX4_append_36 ?_
      refine q_iload_n ok dX4_append_39 1 rfl ?_
      refine q_iconst ok dX4_append_40 ?_
      obtain ⟨g6, g7, h⟩ := h
      refine q_zast ok kC_ok (kX4_2 g1) g6 g7 (by decide) dX4_append_41 (wq_s (fun σ4 eσ4 => ?_))
      have h := h σ4 eσ4
      exact q_vret ok dX4_append_42 h)
/-! BranchingStory$Lines.before(I)I -/
def f_X4_before (c : Nat) (a0 : Int) (σ : St) (Q : St → Int → Prop) : Prop :=
  isN c ∧ inR a0 ∧ inR (σ c 0) ∧ (((σ c 0) ≤ a0 → Q σ (-1)) ∧ (¬ (σ c 0) ≤ a0 → f_JM_floorMod (((σ c 0) - 1) - a0) 20 σ (fun σ1 r1 => 0 ≤ r1 ∧ r1 < 20 ∧ Q σ1 (σ1 (c + 1) r1.toNat))))
set_option maxRecDepth 100000 in
set_option maxHeartbeats 4000000 in
theorem c_X4_before (l : Launch) (Y : Cy) (hD : ∀ σ, va_D Y.2.2.2 (wsOf KC Y.2.1 Y.2.2.1 σ)) {c : Nat} {a0 : Int} {σ : St} {Q : St → Int → Prop} (h : f_X4_before c a0 σ Q) : ConI l yX4_before cX4_before 2 .int (rm0q 1 22) Y KC σ [.inr (.inr c), .inl a0] Q := con_of (lv := [(0, .inr (.inr c)), (1, .inl a0)]) (by decide) hD (Nat.le_of_ble_eq_true rfl) rfl (fun X _ ok => by
  have ok : Ok X Y KC cX4_before 2 RX4 (rm0q 1 22) (some .int) := ok
  unfold f_X4_before at h
  refine q_iload_n ok dX4_before_0 1 rfl ?_
  refine q_aload_n ok dX4_before_1 0 rfl ?_
  obtain ⟨g1, h⟩ := h
  refine q_getI ok fl_X4_19 (kX4_0 g1) (fIX4_0 c) dX4_before_2 ?_
  obtain ⟨g2, g3, hT1a, hT1b⟩ := h
  refine q_icmp_ge (tgt := 29) ok dX4_before_5 (by decide) g2 g3 (fun c1 => ?_) (fun c1 => ?_)
  · have h := hT1a c1
    refine q_iconst ok dX4_before_29 ?_
    exact q_iret ok dX4_before_30 h
  · have h := hT1b c1
    refine q_aload_n ok dX4_before_8 0 rfl ?_
    refine q_getC ok fl_X4_9 (kX4_0 g1) (fIX4_1 c) dX4_before_9 ?_
    refine q_aload_n ok dX4_before_12 0 rfl ?_
    refine q_getI ok fl_X4_19 (kX4_0 g1) (fIX4_0 c) dX4_before_13 ?_
    refine q_iconst ok dX4_before_16 ?_
    refine q_isub ok dX4_before_17 ?_
    refine q_iload_n ok dX4_before_18 1 rfl ?_
    refine q_isub ok dX4_before_19 ?_
    refine q_bipush ok dX4_before_20 rfl ?_
    refine q_callSI (st := [.inr (.inr (c + 1))]) ok cs_X4_23 (c_JM_floorMod X.2.1 Y ok.2.2.2.2.2.2.2.2 h) ⟨rfl, rfl, Nat.le_of_ble_eq_true rfl, Nat.le_of_ble_eq_true rfl⟩ rfl rfl (Nat.le_of_ble_eq_true rfl) dX4_before_22 (fun σ1 r1 h => ?_)
    obtain ⟨g4, g5, h⟩ := h
    refine q_iald ok kC_ok (kX4_1 g1) g4 g5 dX4_before_25 ?_
    refine q_goto (tgt := 30) ok dX4_before_26 (by decide) ?_
    exact q_iret ok dX4_before_30 h)
/-! BranchingStory$Terms.append(III)V -/
def f_X8_append (c : Nat) (a0 : Int) (a1 : Int) (a2 : Int) (σ : St) (Q : St → Prop) : Prop :=
  isT c ∧ inR (σ c 0) ∧ (((σ c 0) < 0 → Q σ) ∧ (¬ (σ c 0) < 0 → inR (σ c 0) ∧ (((σ c 0) < 200 → 0 ≤ (σ c 0) ∧ (σ c 0) < 200 ∧ ∀ σ1 : St, σ1 = sset σ (c + 1) (σ c 0).toNat a0 → 0 ≤ (σ1 c 0) ∧ (σ1 c 0) < 200 ∧ ∀ σ2 : St, σ2 = sset σ1 (c + 2) (σ1 c 0).toNat a1 → 0 ≤ (σ2 c 0) ∧ (σ2 c 0) < 200 ∧ ∀ σ3 : St, σ3 = sset σ2 (c + 3) (σ2 c 0).toNat a2 → ∀ σ4 : St, σ4 = sset σ3 c 0 ((σ3 c 0) + 1) → Q σ4) ∧ (¬ (σ c 0) < 200 → Q σ))))
set_option maxRecDepth 100000 in
set_option maxHeartbeats 4000000 in
theorem c_X8_append (l : Launch) (Y : Cy) (hD : ∀ σ, va_D Y.2.2.2 (wsOf KC Y.2.1 Y.2.2.1 σ)) {c : Nat} {a0 : Int} {a1 : Int} {a2 : Int} {σ : St} {Q : St → Prop} (h : f_X8_append c a0 a1 a2 σ Q) : ConV l yX8_append cX8_append 4 (rm0q 0 0) Y KC σ [.inr (.inr c), .inl a0, .inl a1, .inl a2] Q := con_of (lv := [(0, .inr (.inr c)), (1, .inl a0), (2, .inl a1), (3, .inl a2)]) (by decide) hD (Nat.le_of_ble_eq_true rfl) rfl (fun X _ ok => by
  have ok : Ok X Y KC cX8_append 4 RX8 (rm0q 0 0) none := ok
  unfold f_X8_append at h
  refine q_aload_n ok dX8_append_0 0 rfl ?_
  obtain ⟨g1, h⟩ := h
  refine q_getI ok fl_X8_21 (kX8_0 g1) (fIX8_0 c) dX8_append_1 ?_
  obtain ⟨g2, hT2a, hT2b⟩ := h
  refine q_if_lt (tgt := 17) ok dX8_append_4 (by decide) g2 (fun c2 => ?_) (fun c2 => ?_)
  · have h := hT2a c2
    exact q_vret ok dX8_append_17 h
  · have h := hT2b c2
    refine q_aload_n ok dX8_append_7 0 rfl ?_
    refine q_getI ok fl_X8_21 (kX8_0 g1) (fIX8_0 c) dX8_append_8 ?_
    refine q_sipush ok dX8_append_11 rfl ?_
    obtain ⟨g3, hT1a, hT1b⟩ := h
    refine q_icmp_lt (tgt := 18) ok dX8_append_14 (by decide) g3 (by unfold inR; decide) (fun c1 => ?_) (fun c1 => ?_)
    · have h := hT1a c1
      refine q_aload_n ok dX8_append_18 0 rfl ?_
      refine q_getC ok fl_X8_9 (kX8_0 g1) (fIX8_1 c) dX8_append_19 ?_
      refine q_aload_n ok dX8_append_22 0 rfl ?_
      refine q_getI ok fl_X8_21 (kX8_0 g1) (fIX8_0 c) dX8_append_23 ?_
      refine q_iload_n ok dX8_append_26 1 rfl ?_
      obtain ⟨g4, g5, h⟩ := h
      refine q_iast ok kC_ok (kX8_1 g1) g4 g5 dX8_append_27 (wq_s (fun σ1 eσ1 => ?_))
      have h := h σ1 eσ1
      refine q_aload_n ok dX8_append_28 0 rfl ?_
      refine q_getC ok fl_X8_15 (kX8_0 g1) (fIX8_2 c) dX8_append_29 ?_
      refine q_aload_n ok dX8_append_32 0 rfl ?_
      refine q_getI ok fl_X8_21 (kX8_0 g1) (fIX8_0 c) dX8_append_33 ?_
      refine q_iload_n ok dX8_append_36 2 rfl ?_
      obtain ⟨g6, g7, h⟩ := h
      refine q_iast ok kC_ok (kX8_2 g1) g6 g7 dX8_append_37 (wq_s (fun σ2 eσ2 => ?_))
      have h := h σ2 eσ2
      refine q_aload_n ok dX8_append_38 0 rfl ?_
      refine q_getC ok fl_X8_18 (kX8_0 g1) (fIX8_3 c) dX8_append_39 ?_
      refine q_aload_n ok dX8_append_42 0 rfl ?_
      refine q_getI ok fl_X8_21 (kX8_0 g1) (fIX8_0 c) dX8_append_43 ?_
      refine q_iload_n ok dX8_append_46 3 rfl ?_
      obtain ⟨g8, g9, h⟩ := h
      refine q_iast ok kC_ok (kX8_3 g1) g8 g9 dX8_append_47 (wq_s (fun σ3 eσ3 => ?_))
      have h := h σ3 eσ3
      refine q_aload_n ok dX8_append_48 0 rfl ?_
      refine q_dup ok dX8_append_49 rfl ?_
      refine q_getI ok fl_X8_21 (kX8_0 g1) (fIX8_0 c) dX8_append_50 ?_
      refine q_iconst ok dX8_append_53 ?_
      refine q_iadd ok dX8_append_54 ?_
      refine q_putI ok fp_X8_21 (kX8_0 g1) (fIX8_0 c) dX8_append_55 (wq_s (fun σ4 eσ4 => ?_))
      have h := h σ4 eσ4
      exact q_vret ok dX8_append_58 h
    · have h := hT1b c1
      exact q_vret ok dX8_append_17 h)
/-! BranchingStory$Terms.oneHolds(III)Z -/
def f_X8_oneHolds_J19 (Q : St → Int → Prop) (σ : St) (v0 : Nat) (v1 : Int) (v3 : Int) (s0 : Int) : Prop :=
  isT v0 ∧ 0 ≤ v1 ∧ v1 < 200 ∧ ∀ x1 : Int, x1 = (iand32 (ishr32 v3 (4 * (σ (v0 + 2) v1.toNat))) 15) → 0 ≤ v1 ∧ v1 < 200 ∧ inR (σ (v0 + 1) v1.toNat) ∧ (((σ (v0 + 1) v1.toNat) = 0 → (s0 = 0 ∨ s0 = 1) ∧ Q σ s0) ∧ ((σ (v0 + 1) v1.toNat) = 1 → inR s0 ∧ ((¬ s0 = 0 → Q σ 0) ∧ (s0 = 0 → Q σ 1))) ∧ ((σ (v0 + 1) v1.toNat) = 2 → 0 ≤ v1 ∧ v1 < 200 ∧ inR x1 ∧ inR (σ (v0 + 3) v1.toNat) ∧ (((σ (v0 + 3) v1.toNat) ≤ x1 → Q σ 0) ∧ (¬ (σ (v0 + 3) v1.toNat) ≤ x1 → Q σ 1))) ∧ ((σ (v0 + 1) v1.toNat) = 3 → 0 ≤ v1 ∧ v1 < 200 ∧ inR x1 ∧ inR (σ (v0 + 3) v1.toNat) ∧ ((x1 ≤ (σ (v0 + 3) v1.toNat) → Q σ 0) ∧ (¬ x1 ≤ (σ (v0 + 3) v1.toNat) → Q σ 1))) ∧ (((σ (v0 + 1) v1.toNat) < 0 ∨ 3 < (σ (v0 + 1) v1.toNat)) → 0 ≤ v1 ∧ v1 < 200 ∧ inR x1 ∧ inR (σ (v0 + 3) v1.toNat) ∧ ((¬ x1 = (σ (v0 + 3) v1.toNat) → Q σ 0) ∧ (x1 = (σ (v0 + 3) v1.toNat) → Q σ 1))))
def f_X8_oneHolds (c : Nat) (a0 : Int) (a1 : Int) (a2 : Int) (σ : St) (Q : St → Int → Prop) : Prop :=
  isT c ∧ 0 ≤ a0 ∧ a0 < 200 ∧ inR (iand32 (ishr32 a1 (σ (c + 2) a0.toNat)) 1) ∧ ((¬ (iand32 (ishr32 a1 (σ (c + 2) a0.toNat)) 1) = 1 → f_X8_oneHolds_J19 Q σ c a0 a2 0) ∧ ((iand32 (ishr32 a1 (σ (c + 2) a0.toNat)) 1) = 1 → f_X8_oneHolds_J19 Q σ c a0 a2 1))
set_option maxRecDepth 100000 in
set_option maxHeartbeats 4000000 in
theorem w_X8_oneHolds_J19 {X : Cx} {Y : Cy} {Q : St → Int → Prop} (ok : Ok X Y KC cX8_oneHolds 6 RX8 (rm0q 0 0) (some .boolean)) (σ : St) (v0 : Nat) (v1 : Int) (v3 : Int) (s0 : Int) (h : f_X8_oneHolds_J19 Q σ v0 v1 v3 s0) : Wq X Y KC 6 (QF X Y (Qiq Y KC Q)) σ 19 [(0, .inr (.inr v0)), (1, .inl v1), (3, .inl v3)] [.inl s0] := by
  unfold f_X8_oneHolds_J19 at h
  refine q_istore (lv' := [(4, .inl s0), (0, .inr (.inr v0)), (1, .inl v1), (3, .inl v3)]) ok dX8_oneHolds_19 (by decide) rfl ?_
  refine q_iload_n ok dX8_oneHolds_21 3 rfl ?_
  refine q_iconst ok dX8_oneHolds_22 ?_
  refine q_aload_n ok dX8_oneHolds_23 1 rfl ?_
  obtain ⟨g1, h⟩ := h
  refine q_getC ok fl_X8_15 (kX8_0 g1) (fIX8_2 v0) dX8_oneHolds_24 ?_
  refine q_iload_n ok dX8_oneHolds_27 2 rfl ?_
  obtain ⟨g2, g3, h⟩ := h
  refine q_iald ok kC_ok (kX8_2 g1) g2 g3 dX8_oneHolds_28 ?_
  refine q_imul ok dX8_oneHolds_29 ?_
  refine q_ishr ok dX8_oneHolds_30 ?_
  refine q_bipush ok dX8_oneHolds_31 rfl ?_
  refine q_iand ok dX8_oneHolds_33 ?_
  refine wq_i (fun x1 ex1 => ?_)
  have h := h x1 ex1
  refine q_istore (lv' := [(5, .inl x1), (4, .inl s0), (0, .inr (.inr v0)), (1, .inl v1), (3, .inl v3)]) ok dX8_oneHolds_34 (by decide) rfl ?_
  refine q_aload_n ok dX8_oneHolds_36 2 rfl ?_
  refine q_getC ok fl_X8_9 (kX8_0 g1) (fIX8_1 v0) dX8_oneHolds_37 ?_
  refine q_iload_n ok dX8_oneHolds_40 3 rfl ?_
  obtain ⟨g4, g5, h⟩ := h
  refine q_iald ok kC_ok (kX8_1 g1) g4 g5 dX8_oneHolds_41 ?_
  obtain ⟨g6, hs1, hs2, hs3, hs4, hs5⟩ := h
  by_cases c1 : (σ (v0 + 1) v1.toNat) = 0
  · have h := hs1 c1
    refine q_tsIn (tgt := 72) ok dX8_oneHolds_42 g6 (by omega) (by omega) (by rw [c1]; rfl) (by decide) ?_
    refine q_iload ok dX8_oneHolds_72 1 rfl ?_
    exact q_zret ok dX8_oneHolds_74 h.1 h.2
  by_cases c3 : (σ (v0 + 1) v1.toNat) = 1
  · have h := hs2 c3
    refine q_tsIn (tgt := 75) ok dX8_oneHolds_42 g6 (by omega) (by omega) (by rw [c3]; rfl) (by decide) ?_
    refine q_iload ok dX8_oneHolds_75 1 rfl ?_
    obtain ⟨g7, hT1a, hT1b⟩ := h
    refine q_if_ne (tgt := 84) ok dX8_oneHolds_77 (by decide) g7 (fun c2 => ?_) (fun c2 => ?_)
    · have h := hT1a c2
      refine q_iconst ok dX8_oneHolds_84 ?_
      exact q_zret ok dX8_oneHolds_85 (by decide) h
    · have h := hT1b c2
      refine q_iconst ok dX8_oneHolds_80 ?_
      refine q_goto (tgt := 85) ok dX8_oneHolds_81 (by decide) ?_
      exact q_zret ok dX8_oneHolds_85 (by decide) h
  by_cases c5 : (σ (v0 + 1) v1.toNat) = 2
  · have h := hs3 c5
    refine q_tsIn (tgt := 86) ok dX8_oneHolds_42 g6 (by omega) (by omega) (by rw [c5]; rfl) (by decide) ?_
    refine q_iload ok dX8_oneHolds_86 0 rfl ?_
    refine q_aload_n ok dX8_oneHolds_88 2 rfl ?_
    refine q_getC ok fl_X8_18 (kX8_0 g1) (fIX8_3 v0) dX8_oneHolds_89 ?_
    refine q_iload_n ok dX8_oneHolds_92 3 rfl ?_
    obtain ⟨g8, g9, h⟩ := h
    refine q_iald ok kC_ok (kX8_3 g1) g8 g9 dX8_oneHolds_93 ?_
    obtain ⟨g10, g11, hT2a, hT2b⟩ := h
    refine q_icmp_ge (tgt := 101) ok dX8_oneHolds_94 (by decide) g10 g11 (fun c4 => ?_) (fun c4 => ?_)
    · have h := hT2a c4
      refine q_iconst ok dX8_oneHolds_101 ?_
      exact q_zret ok dX8_oneHolds_102 (by decide) h
    · have h := hT2b c4
      refine q_iconst ok dX8_oneHolds_97 ?_
      refine q_goto (tgt := 102) ok dX8_oneHolds_98 (by decide) ?_
      exact q_zret ok dX8_oneHolds_102 (by decide) h
  by_cases c7 : (σ (v0 + 1) v1.toNat) = 3
  · have h := hs4 c7
    refine q_tsIn (tgt := 103) ok dX8_oneHolds_42 g6 (by omega) (by omega) (by rw [c7]; rfl) (by decide) ?_
    refine q_iload ok dX8_oneHolds_103 0 rfl ?_
    refine q_aload_n ok dX8_oneHolds_105 2 rfl ?_
    refine q_getC ok fl_X8_18 (kX8_0 g1) (fIX8_3 v0) dX8_oneHolds_106 ?_
    refine q_iload_n ok dX8_oneHolds_109 3 rfl ?_
    obtain ⟨g12, g13, h⟩ := h
    refine q_iald ok kC_ok (kX8_3 g1) g12 g13 dX8_oneHolds_110 ?_
    obtain ⟨g14, g15, hT3a, hT3b⟩ := h
    refine q_icmp_le (tgt := 118) ok dX8_oneHolds_111 (by decide) g14 g15 (fun c6 => ?_) (fun c6 => ?_)
    · have h := hT3a c6
      refine q_iconst ok dX8_oneHolds_118 ?_
      exact q_zret ok dX8_oneHolds_119 (by decide) h
    · have h := hT3b c6
      refine q_iconst ok dX8_oneHolds_114 ?_
      refine q_goto (tgt := 119) ok dX8_oneHolds_115 (by decide) ?_
      exact q_zret ok dX8_oneHolds_119 (by decide) h
  have h := hs5 (by omega)
  refine q_tsOut (tgt := 120) ok dX8_oneHolds_42 g6 (by omega) (by decide) ?_
  refine q_iload ok dX8_oneHolds_120 0 rfl ?_
  refine q_aload_n ok dX8_oneHolds_122 2 rfl ?_
  refine q_getC ok fl_X8_18 (kX8_0 g1) (fIX8_3 v0) dX8_oneHolds_123 ?_
  refine q_iload_n ok dX8_oneHolds_126 3 rfl ?_
  obtain ⟨g16, g17, h⟩ := h
  refine q_iald ok kC_ok (kX8_3 g1) g16 g17 dX8_oneHolds_127 ?_
  obtain ⟨g18, g19, hT4a, hT4b⟩ := h
  refine q_icmp_ne (tgt := 135) ok dX8_oneHolds_128 (by decide) g18 g19 (fun c8 => ?_) (fun c8 => ?_)
  · have h := hT4a c8
    refine q_iconst ok dX8_oneHolds_135 ?_
    exact q_zret ok dX8_oneHolds_136 (by decide) h
  · have h := hT4b c8
    refine q_iconst ok dX8_oneHolds_131 ?_
    refine q_goto (tgt := 136) ok dX8_oneHolds_132 (by decide) ?_
    exact q_zret ok dX8_oneHolds_136 (by decide) h
set_option maxRecDepth 100000 in
set_option maxHeartbeats 4000000 in
theorem c_X8_oneHolds (l : Launch) (Y : Cy) (hD : ∀ σ, va_D Y.2.2.2 (wsOf KC Y.2.1 Y.2.2.1 σ)) {c : Nat} {a0 : Int} {a1 : Int} {a2 : Int} {σ : St} {Q : St → Int → Prop} (h : f_X8_oneHolds c a0 a1 a2 σ Q) : ConI l yX8_oneHolds cX8_oneHolds 6 .boolean (rm0q 0 0) Y KC σ [.inr (.inr c), .inl a0, .inl a1, .inl a2] Q := con_of (lv := [(0, .inr (.inr c)), (1, .inl a0), (2, .inl a1), (3, .inl a2)]) (by decide) hD (Nat.le_of_ble_eq_true rfl) rfl (fun X _ ok => by
  have ok : Ok X Y KC cX8_oneHolds 6 RX8 (rm0q 0 0) (some .boolean) := ok
  unfold f_X8_oneHolds at h
  refine q_iload_n ok dX8_oneHolds_0 2 rfl ?_
  refine q_aload_n ok dX8_oneHolds_1 0 rfl ?_
  obtain ⟨g1, h⟩ := h
  refine q_getC ok fl_X8_15 (kX8_0 g1) (fIX8_2 c) dX8_oneHolds_2 ?_
  refine q_iload_n ok dX8_oneHolds_5 1 rfl ?_
  obtain ⟨g2, g3, h⟩ := h
  refine q_iald ok kC_ok (kX8_2 g1) g2 g3 dX8_oneHolds_6 ?_
  refine q_ishr ok dX8_oneHolds_7 ?_
  refine q_iconst ok dX8_oneHolds_8 ?_
  refine q_iand ok dX8_oneHolds_9 ?_
  refine q_iconst ok dX8_oneHolds_10 ?_
  obtain ⟨g4, hT1a, hT1b⟩ := h
  refine q_icmp_ne (tgt := 18) ok dX8_oneHolds_11 (by decide) g4 (by unfold inR; decide) (fun c1 => ?_) (fun c1 => ?_)
  · have h := hT1a c1
    refine q_iconst ok dX8_oneHolds_18 ?_
    refine q_sub [0, 1, 3] rfl ?_
    exact w_X8_oneHolds_J19 ok σ c a0 a2 0 h
  · have h := hT1b c1
    refine q_iconst ok dX8_oneHolds_14 ?_
    refine q_goto (tgt := 19) ok dX8_oneHolds_15 (by decide) ?_
    refine q_sub [0, 1, 3] rfl ?_
    exact w_X8_oneHolds_J19 ok σ c a0 a2 1 h)
/-! BranchingStory$Terms.allHold(IIII)Z -/
def f_X8_allHold_L17 (Q : St → Int → Prop) : Nat → St → Nat → Int → Int → Int → Int → Prop
  | 0, _, _, _, _, _, _ => False
  | n + 1, σ, v0, v3, v4, v5, v6 => inR v6 ∧ ((200 ≤ v6 → Q σ 1) ∧ (¬ 200 ≤ v6 → inR v6 ∧ inR v5 ∧ ((v5 ≤ v6 → Q σ 1) ∧ (¬ v5 ≤ v6 → isT v0 ∧ f_X8_oneHolds v0 v6 v3 v4 σ (fun σ1 r1 => inR r1 ∧ ((¬ r1 = 0 → f_X8_allHold_L17 Q n σ1 v0 v3 v4 v5 (v6 + 1)) ∧ (r1 = 0 → Q σ1 0)))))))
def f_X8_allHold (c : Nat) (a0 : Int) (a1 : Int) (a2 : Int) (a3 : Int) (σ : St) (Q : St → Int → Prop) : Prop :=
  isT c ∧ f_JM_min a1 (σ c 0) σ (fun σ1 r1 => f_JM_max a0 0 σ1 (fun σ2 r2 => f_X8_allHold_L17 Q FU σ2 c a2 a3 r1 r2))
set_option maxRecDepth 100000 in
set_option maxHeartbeats 4000000 in
theorem w_X8_allHold_L17 {X : Cx} {Y : Cy} {Q : St → Int → Prop} (ok : Ok X Y KC cX8_allHold 7 RX8 (rm0q 1 25) (some .boolean)) : ∀ (n : Nat) (σ : St) (v0 : Nat) (v3 : Int) (v4 : Int) (v5 : Int) (v6 : Int) , f_X8_allHold_L17 Q n σ v0 v3 v4 v5 v6 → Wq X Y KC 7 (QF X Y (Qiq Y KC Q)) σ 17 [(0, .inr (.inr v0)), (3, .inl v3), (4, .inl v4), (5, .inl v5), (6, .inl v6)] [] := by
  intro n
  induction n with
  | zero => intro σ v0 v3 v4 v5 v6 h; exact h.elim
  | succ n ih =>
    intro σ v0 v3 v4 v5 v6 h
    rw [f_X8_allHold_L17] at h
    refine q_iload ok dX8_allHold_17 4 rfl ?_
    refine q_sipush ok dX8_allHold_19 rfl ?_
    obtain ⟨g1, hT3a, hT3b⟩ := h
    refine q_icmp_ge (tgt := 52) ok dX8_allHold_22 (by decide) g1 (by unfold inR; decide) (fun c3 => ?_) (fun c3 => ?_)
    · have h := hT3a c3
      refine q_iconst ok dX8_allHold_52 ?_
      exact q_zret ok dX8_allHold_53 (by decide) h
    · have h := hT3b c3
      refine q_iload ok dX8_allHold_25 4 rfl ?_
      refine q_iload ok dX8_allHold_27 3 rfl ?_
      obtain ⟨g2, g3, hT2a, hT2b⟩ := h
      refine q_icmp_ge (tgt := 52) ok dX8_allHold_29 (by decide) g2 g3 (fun c2 => ?_) (fun c2 => ?_)
      · have h := hT2a c2
        refine q_iconst ok dX8_allHold_52 ?_
        exact q_zret ok dX8_allHold_53 (by decide) h
      · have h := hT2b c2
        refine q_aload_n ok dX8_allHold_32 0 rfl ?_
        refine q_iload ok dX8_allHold_33 4 rfl ?_
        refine q_iload_n ok dX8_allHold_35 1 rfl ?_
        refine q_iload ok dX8_allHold_36 2 rfl ?_
        obtain ⟨g4, h⟩ := h
        refine q_callVI (st := []) ok cs_X8_34 (kX8_0 g4) rfl (c_X8_oneHolds X.2.1 Y ok.2.2.2.2.2.2.2.2 h) ⟨rfl, rfl, Nat.le_of_ble_eq_true rfl, Nat.le_of_ble_eq_true rfl⟩ rfl rfl (Nat.le_of_ble_eq_true rfl) dX8_allHold_38 (fun σ1 r1 h => ?_)
        obtain ⟨g5, hT1a, hT1b⟩ := h
        refine q_if_ne (tgt := 46) ok dX8_allHold_41 (by decide) g5 (fun c1 => ?_) (fun c1 => ?_)
        · have h := hT1a c1
          refine q_iinc (lv' := [(6, .inl (v6 + 1)), (0, .inr (.inr v0)), (3, .inl v3), (4, .inl v4), (5, .inl v5)]) ok dX8_allHold_46 4 rfl (by decide) rfl ?_
          refine q_goto (tgt := 17) ok dX8_allHold_49 (by decide) ?_
          refine q_sub [1, 2, 3, 4, 0] rfl ?_
          exact ih σ1 v0 v3 v4 v5 (v6 + 1) h
        · have h := hT1b c1
          refine q_iconst ok dX8_allHold_44 ?_
          exact q_zret ok dX8_allHold_45 (by decide) h
set_option maxRecDepth 100000 in
set_option maxHeartbeats 4000000 in
theorem c_X8_allHold (l : Launch) (Y : Cy) (hD : ∀ σ, va_D Y.2.2.2 (wsOf KC Y.2.1 Y.2.2.1 σ)) {c : Nat} {a0 : Int} {a1 : Int} {a2 : Int} {a3 : Int} {σ : St} {Q : St → Int → Prop} (h : f_X8_allHold c a0 a1 a2 a3 σ Q) : ConI l yX8_allHold cX8_allHold 7 .boolean (rm0q 1 25) Y KC σ [.inr (.inr c), .inl a0, .inl a1, .inl a2, .inl a3] Q := con_of (lv := [(0, .inr (.inr c)), (1, .inl a0), (2, .inl a1), (3, .inl a2), (4, .inl a3)]) (by decide) hD (Nat.le_of_ble_eq_true rfl) rfl (fun X _ ok => by
  have ok : Ok X Y KC cX8_allHold 7 RX8 (rm0q 1 25) (some .boolean) := ok
  unfold f_X8_allHold at h
  refine q_iload_n ok dX8_allHold_0 2 rfl ?_
  refine q_aload_n ok dX8_allHold_1 0 rfl ?_
  obtain ⟨g1, h⟩ := h
  refine q_getI ok fl_X8_21 (kX8_0 g1) (fIX8_0 c) dX8_allHold_2 ?_
  refine q_callSI (st := []) ok cs_X8_25 (c_JM_min X.2.1 Y ok.2.2.2.2.2.2.2.2 h) ⟨rfl, rfl, Nat.le_of_ble_eq_true rfl, Nat.le_of_ble_eq_true rfl⟩ rfl rfl (Nat.le_of_ble_eq_true rfl) dX8_allHold_5 (fun σ1 r1 h => ?_)
  refine q_istore (lv' := [(5, .inl r1), (0, .inr (.inr c)), (1, .inl a0), (2, .inl a1), (3, .inl a2), (4, .inl a3)]) ok dX8_allHold_8 (by decide) rfl ?_
  refine q_iload_n ok dX8_allHold_10 2 rfl ?_
  refine q_iconst ok dX8_allHold_11 ?_
  refine q_callSI (st := []) ok cs_X8_31 (c_JM_max X.2.1 Y ok.2.2.2.2.2.2.2.2 h) ⟨rfl, rfl, Nat.le_of_ble_eq_true rfl, Nat.le_of_ble_eq_true rfl⟩ rfl rfl (Nat.le_of_ble_eq_true rfl) dX8_allHold_12 (fun σ2 r2 h => ?_)
  refine q_istore (lv' := [(6, .inl r2), (5, .inl r1), (0, .inr (.inr c)), (1, .inl a0), (2, .inl a1), (3, .inl a2), (4, .inl a3)]) ok dX8_allHold_15 (by decide) rfl ?_
  refine q_sub [2, 5, 6, 1, 0] rfl ?_
  exact w_X8_allHold_L17 ok FU σ2 c a2 a3 r1 r2 h)
/-! BranchingStory$Terms.narrowed(IJ)J -/
def f_X8_narrowed (c : Nat) (a0 : Int) (a1 : Int) (σ : St) (Q : St → Int → Prop) : Prop :=
  isT c ∧ 0 ≤ a0 ∧ a0 < 200 ∧ ∀ x1 : Int, x1 = (σ (c + 2) a0.toNat) → 0 ≤ a0 ∧ a0 < 200 ∧ ∀ x2 : Int, x2 = (σ (c + 3) a0.toNat) → f_X3_low a1 x1 σ (fun σ1 r1 => f_X3_high a1 x1 σ1 (fun σ2 r2 => 0 ≤ a0 ∧ a0 < 200 ∧ inR (σ2 (c + 1) a0.toNat) ∧ (((σ2 (c + 1) a0.toNat) = 0 → f_X3_keepingFlag a1 x1 2 σ2 (fun σ3 r3 => Q σ3 r3)) ∧ ((σ2 (c + 1) a0.toNat) = 1 → f_X3_keepingFlag a1 x1 1 σ2 (fun σ4 r4 => Q σ4 r4)) ∧ ((σ2 (c + 1) a0.toNat) = 2 → f_JM_min r2 (x2 - 1) σ2 (fun σ5 r5 => f_X3_withRange a1 x1 r1 r5 σ5 (fun σ6 r6 => Q σ6 r6))) ∧ ((σ2 (c + 1) a0.toNat) = 3 → f_JM_max r1 (x2 + 1) σ2 (fun σ7 r7 => f_X3_withRange a1 x1 r7 r2 σ7 (fun σ8 r8 => Q σ8 r8))) ∧ (((σ2 (c + 1) a0.toNat) < 0 ∨ 3 < (σ2 (c + 1) a0.toNat)) → f_JM_max r1 x2 σ2 (fun σ9 r9 => f_JM_min r2 x2 σ9 (fun σ10 r10 => f_X3_withRange a1 x1 r9 r10 σ10 (fun σ11 r11 => Q σ11 r11)))))))
set_option maxRecDepth 100000 in
set_option maxHeartbeats 4000000 in
theorem c_X8_narrowed (l : Launch) (Y : Cy) (hD : ∀ σ, va_D Y.2.2.2 (wsOf KC Y.2.1 Y.2.2.1 σ)) {c : Nat} {a0 : Int} {a1 : Int} {σ : St} {Q : St → Int → Prop} (h : f_X8_narrowed c a0 a1 σ Q) : ConL l yX8_narrowed cX8_narrowed 8 (rm0q 1 28) Y KC σ [.inr (.inr c), .inl a0, .inr (.inl a1)] Q := con_of (lv := [(0, .inr (.inr c)), (1, .inl a0), (2, .inr (.inl a1))]) (by decide) hD (Nat.le_of_ble_eq_true rfl) rfl (fun X _ ok => by
  have ok : Ok X Y KC cX8_narrowed 8 RX8 (rm0q 1 28) (some .long) := ok
  unfold f_X8_narrowed at h
  refine q_aload_n ok dX8_narrowed_0 0 rfl ?_
  obtain ⟨g1, h⟩ := h
  refine q_getC ok fl_X8_15 (kX8_0 g1) (fIX8_2 c) dX8_narrowed_1 ?_
  refine q_iload_n ok dX8_narrowed_4 1 rfl ?_
  obtain ⟨g2, g3, h⟩ := h
  refine q_iald ok kC_ok (kX8_2 g1) g2 g3 dX8_narrowed_5 ?_
  refine wq_i (fun x1 ex1 => ?_)
  have h := h x1 ex1
  refine q_istore (lv' := [(4, .inl x1), (0, .inr (.inr c)), (1, .inl a0), (2, .inr (.inl a1))]) ok dX8_narrowed_6 (by decide) rfl ?_
  refine q_aload_n ok dX8_narrowed_8 1 rfl ?_
  refine q_getC ok fl_X8_18 (kX8_0 g1) (fIX8_3 c) dX8_narrowed_9 ?_
  refine q_iload_n ok dX8_narrowed_12 2 rfl ?_
  obtain ⟨g4, g5, h⟩ := h
  refine q_iald ok kC_ok (kX8_3 g1) g4 g5 dX8_narrowed_13 ?_
  refine wq_i (fun x2 ex2 => ?_)
  have h := h x2 ex2
  refine q_istore (lv' := [(5, .inl x2), (4, .inl x1), (0, .inr (.inr c)), (1, .inl a0), (2, .inr (.inl a1))]) ok dX8_narrowed_14 (by decide) rfl ?_
  refine q_lload_n ok dX8_narrowed_16 4 rfl ?_
  refine q_iload ok dX8_narrowed_17 1 rfl ?_
  refine q_callSI (st := []) ok cs_X8_47 (c_X3_low X.2.1 Y ok.2.2.2.2.2.2.2.2 h) ⟨rfl, rfl, Nat.le_of_ble_eq_true rfl, Nat.le_of_ble_eq_true rfl⟩ rfl rfl (Nat.le_of_ble_eq_true rfl) dX8_narrowed_19 (fun σ1 r1 h => ?_)
  refine q_istore (lv' := [(6, .inl r1), (5, .inl x2), (4, .inl x1), (0, .inr (.inr c)), (1, .inl a0), (2, .inr (.inl a1))]) ok dX8_narrowed_22 (by decide) rfl ?_
  refine q_lload_n ok dX8_narrowed_24 5 rfl ?_
  refine q_iload ok dX8_narrowed_25 2 rfl ?_
  refine q_callSI (st := []) ok cs_X8_51 (c_X3_high X.2.1 Y ok.2.2.2.2.2.2.2.2 h) ⟨rfl, rfl, Nat.le_of_ble_eq_true rfl, Nat.le_of_ble_eq_true rfl⟩ rfl rfl (Nat.le_of_ble_eq_true rfl) dX8_narrowed_27 (fun σ2 r2 h => ?_)
  refine q_istore (lv' := [(7, .inl r2), (6, .inl r1), (5, .inl x2), (4, .inl x1), (0, .inr (.inr c)), (1, .inl a0), (2, .inr (.inl a1))]) ok dX8_narrowed_30 (by decide) rfl ?_
  refine q_aload_n ok dX8_narrowed_32 4 rfl ?_
  refine q_getC ok fl_X8_9 (kX8_0 g1) (fIX8_1 c) dX8_narrowed_33 ?_
  refine q_iload_n ok dX8_narrowed_36 5 rfl ?_
  obtain ⟨g6, g7, h⟩ := h
  refine q_iald ok kC_ok (kX8_1 g1) g6 g7 dX8_narrowed_37 ?_
  obtain ⟨g8, hs1, hs2, hs3, hs4, hs5⟩ := h
  by_cases c1 : (σ2 (c + 1) a0.toNat) = 0
  · have h := hs1 c1
    refine q_tsIn (tgt := 68) ok dX8_narrowed_38 g8 (by omega) (by omega) (by rw [c1]; rfl) (by decide) ?_
    refine q_lload_n ok dX8_narrowed_68 6 rfl ?_
    refine q_iload ok dX8_narrowed_69 3 rfl ?_
    refine q_iconst ok dX8_narrowed_71 ?_
    refine q_callSL (st := []) ok cs_X8_54 (c_X3_keepingFlag X.2.1 Y ok.2.2.2.2.2.2.2.2 h) ⟨rfl, rfl, Nat.le_of_ble_eq_true rfl, Nat.le_of_ble_eq_true rfl⟩ rfl rfl (Nat.le_of_ble_eq_true rfl) dX8_narrowed_72 (fun σ3 r3 h => ?_)
    exact q_lret ok dX8_narrowed_75 h
  by_cases c2 : (σ2 (c + 1) a0.toNat) = 1
  · have h := hs2 c2
    refine q_tsIn (tgt := 76) ok dX8_narrowed_38 g8 (by omega) (by omega) (by rw [c2]; rfl) (by decide) ?_
    refine q_lload_n ok dX8_narrowed_76 6 rfl ?_
    refine q_iload ok dX8_narrowed_77 3 rfl ?_
    refine q_iconst ok dX8_narrowed_79 ?_
    refine q_callSL (st := []) ok cs_X8_54 (c_X3_keepingFlag X.2.1 Y ok.2.2.2.2.2.2.2.2 h) ⟨rfl, rfl, Nat.le_of_ble_eq_true rfl, Nat.le_of_ble_eq_true rfl⟩ rfl rfl (Nat.le_of_ble_eq_true rfl) dX8_narrowed_80 (fun σ4 r4 h => ?_)
    exact q_lret ok dX8_narrowed_83 h
  by_cases c3 : (σ2 (c + 1) a0.toNat) = 2
  · have h := hs3 c3
    refine q_tsIn (tgt := 84) ok dX8_narrowed_38 g8 (by omega) (by omega) (by rw [c3]; rfl) (by decide) ?_
    refine q_lload_n ok dX8_narrowed_84 6 rfl ?_
    refine q_iload ok dX8_narrowed_85 3 rfl ?_
    refine q_iload ok dX8_narrowed_87 1 rfl ?_
    refine q_iload ok dX8_narrowed_89 0 rfl ?_
    refine q_iload ok dX8_narrowed_91 2 rfl ?_
    refine q_iconst ok dX8_narrowed_93 ?_
    refine q_isub ok dX8_narrowed_94 ?_
    refine q_callSI (st := [.inl r1, .inl x1, .inr (.inl a1)]) ok cs_X8_25 (c_JM_min X.2.1 Y ok.2.2.2.2.2.2.2.2 h) ⟨rfl, rfl, Nat.le_of_ble_eq_true rfl, Nat.le_of_ble_eq_true rfl⟩ rfl rfl (Nat.le_of_ble_eq_true rfl) dX8_narrowed_95 (fun σ5 r5 h => ?_)
    refine q_callSL (st := []) ok cs_X8_58 (c_X3_withRange X.2.1 Y ok.2.2.2.2.2.2.2.2 h) ⟨rfl, rfl, Nat.le_of_ble_eq_true rfl, Nat.le_of_ble_eq_true rfl⟩ rfl rfl (Nat.le_of_ble_eq_true rfl) dX8_narrowed_98 (fun σ6 r6 h => ?_)
    exact q_lret ok dX8_narrowed_101 h
  by_cases c4 : (σ2 (c + 1) a0.toNat) = 3
  · have h := hs4 c4
    refine q_tsIn (tgt := 102) ok dX8_narrowed_38 g8 (by omega) (by omega) (by rw [c4]; rfl) (by decide) ?_
    refine q_lload_n ok dX8_narrowed_102 6 rfl ?_
    refine q_iload ok dX8_narrowed_103 3 rfl ?_
    refine q_iload ok dX8_narrowed_105 1 rfl ?_
    refine q_iload ok dX8_narrowed_107 2 rfl ?_
    refine q_iconst ok dX8_narrowed_109 ?_
    refine q_iadd ok dX8_narrowed_110 ?_
    refine q_callSI (st := [.inl x1, .inr (.inl a1)]) ok cs_X8_31 (c_JM_max X.2.1 Y ok.2.2.2.2.2.2.2.2 h) ⟨rfl, rfl, Nat.le_of_ble_eq_true rfl, Nat.le_of_ble_eq_true rfl⟩ rfl rfl (Nat.le_of_ble_eq_true rfl) dX8_narrowed_111 (fun σ7 r7 h => ?_)
    refine q_iload ok dX8_narrowed_114 0 rfl ?_
    refine q_callSL (st := []) ok cs_X8_58 (c_X3_withRange X.2.1 Y ok.2.2.2.2.2.2.2.2 h) ⟨rfl, rfl, Nat.le_of_ble_eq_true rfl, Nat.le_of_ble_eq_true rfl⟩ rfl rfl (Nat.le_of_ble_eq_true rfl) dX8_narrowed_116 (fun σ8 r8 h => ?_)
    exact q_lret ok dX8_narrowed_119 h
  have h := hs5 (by omega)
  refine q_tsOut (tgt := 120) ok dX8_narrowed_38 g8 (by omega) (by decide) ?_
  refine q_lload_n ok dX8_narrowed_120 6 rfl ?_
  refine q_iload ok dX8_narrowed_121 3 rfl ?_
  refine q_iload ok dX8_narrowed_123 1 rfl ?_
  refine q_iload ok dX8_narrowed_125 2 rfl ?_
  refine q_callSI (st := [.inl x1, .inr (.inl a1)]) ok cs_X8_31 (c_JM_max X.2.1 Y ok.2.2.2.2.2.2.2.2 h) ⟨rfl, rfl, Nat.le_of_ble_eq_true rfl, Nat.le_of_ble_eq_true rfl⟩ rfl rfl (Nat.le_of_ble_eq_true rfl) dX8_narrowed_127 (fun σ9 r9 h => ?_)
  refine q_iload ok dX8_narrowed_130 0 rfl ?_
  refine q_iload ok dX8_narrowed_132 2 rfl ?_
  refine q_callSI (st := [.inl r9, .inl x1, .inr (.inl a1)]) ok cs_X8_25 (c_JM_min X.2.1 Y ok.2.2.2.2.2.2.2.2 h) ⟨rfl, rfl, Nat.le_of_ble_eq_true rfl, Nat.le_of_ble_eq_true rfl⟩ rfl rfl (Nat.le_of_ble_eq_true rfl) dX8_narrowed_134 (fun σ10 r10 h => ?_)
  refine q_callSL (st := []) ok cs_X8_58 (c_X3_withRange X.2.1 Y ok.2.2.2.2.2.2.2.2 h) ⟨rfl, rfl, Nat.le_of_ble_eq_true rfl, Nat.le_of_ble_eq_true rfl⟩ rfl rfl (Nat.le_of_ble_eq_true rfl) dX8_narrowed_137 (fun σ11 r11 h => ?_)
  exact q_lret ok dX8_narrowed_140 h)
/-! BranchingStory$Terms.truePart(IIJ)J -/
def f_X8_truePart_L20 (Q : St → Int → Prop) : Nat → St → Nat → Int → Int → Int → Prop
  | 0, _, _, _, _, _ => False
  | n + 1, σ, v0, v5, v6, v8 => inR v8 ∧ ((200 ≤ v8 → Q σ v6) ∧ (¬ 200 ≤ v8 → inR v8 ∧ inR v5 ∧ ((v5 ≤ v8 → Q σ v6) ∧ (¬ v5 ≤ v8 → inR (lcmp64 v6 0) ∧ (((lcmp64 v6 0) = 0 → f_X8_truePart_L20 Q n σ v0 v5 v6 (v8 + 1)) ∧ (¬ (lcmp64 v6 0) = 0 → isT v0 ∧ f_X8_narrowed v0 v8 v6 σ (fun σ1 r1 => f_X8_truePart_L20 Q n σ1 v0 v5 r1 (v8 + 1))))))))
def f_X8_truePart (c : Nat) (a0 : Int) (a1 : Int) (a2 : Int) (σ : St) (Q : St → Int → Prop) : Prop :=
  isT c ∧ f_JM_min a1 (σ c 0) σ (fun σ1 r1 => f_JM_max a0 0 σ1 (fun σ2 r2 => f_X8_truePart_L20 Q FU σ2 c r1 a2 r2))
set_option maxRecDepth 100000 in
set_option maxHeartbeats 4000000 in
theorem w_X8_truePart_L20 {X : Cx} {Y : Cy} {Q : St → Int → Prop} (ok : Ok X Y KC cX8_truePart 9 RX8 (rm0q 2 55) (some .long)) : ∀ (n : Nat) (σ : St) (v0 : Nat) (v5 : Int) (v6 : Int) (v8 : Int) , f_X8_truePart_L20 Q n σ v0 v5 v6 v8 → Wq X Y KC 9 (QF X Y (Qlq Y KC Q)) σ 20 [(0, .inr (.inr v0)), (5, .inl v5), (6, .inr (.inl v6)), (8, .inl v8)] [] := by
  intro n
  induction n with
  | zero => intro σ v0 v5 v6 v8 h; exact h.elim
  | succ n ih =>
    intro σ v0 v5 v6 v8 h
    rw [f_X8_truePart_L20] at h
    refine q_iload ok dX8_truePart_20 3 rfl ?_
    refine q_sipush ok dX8_truePart_22 rfl ?_
    obtain ⟨g1, hT3a, hT3b⟩ := h
    refine q_icmp_ge (tgt := 58) ok dX8_truePart_25 (by decide) g1 (by unfold inR; decide) (fun c3 => ?_) (fun c3 => ?_)
    · have h := hT3a c3
      refine q_lload ok dX8_truePart_58 2 rfl ?_
      exact q_lret ok dX8_truePart_60 h
    · have h := hT3b c3
      refine q_iload ok dX8_truePart_28 3 rfl ?_
      refine q_iload ok dX8_truePart_30 1 rfl ?_
      obtain ⟨g2, g3, hT2a, hT2b⟩ := h
      refine q_icmp_ge (tgt := 58) ok dX8_truePart_32 (by decide) g2 g3 (fun c2 => ?_) (fun c2 => ?_)
      · have h := hT2a c2
        refine q_lload ok dX8_truePart_58 2 rfl ?_
        exact q_lret ok dX8_truePart_60 h
      · have h := hT2b c2
        refine q_lload ok dX8_truePart_35 2 rfl ?_
        refine q_lconst ok dX8_truePart_37 0 rfl ?_
        refine q_lcmp ok dX8_truePart_38 ?_
        obtain ⟨g4, hT1a, hT1b⟩ := h
        refine q_if_eq (tgt := 52) ok dX8_truePart_39 (by decide) g4 (fun c1 => ?_) (fun c1 => ?_)
        · have h := hT1a c1
          refine q_iinc (lv' := [(8, .inl (v8 + 1)), (0, .inr (.inr v0)), (5, .inl v5), (6, .inr (.inl v6))]) ok dX8_truePart_52 3 rfl (by decide) rfl ?_
          refine q_goto (tgt := 20) ok dX8_truePart_55 (by decide) ?_
          refine q_sub [1, 2, 3, 0] rfl ?_
          exact ih σ v0 v5 v6 (v8 + 1) h
        · have h := hT1b c1
          refine q_aload_n ok dX8_truePart_42 0 rfl ?_
          refine q_iload ok dX8_truePart_43 3 rfl ?_
          refine q_lload ok dX8_truePart_45 2 rfl ?_
          obtain ⟨g5, h⟩ := h
          refine q_callVL (st := []) ok cs_X8_40 (kX8_0 g5) rfl (c_X8_narrowed X.2.1 Y ok.2.2.2.2.2.2.2.2 h) ⟨rfl, rfl, Nat.le_of_ble_eq_true rfl, Nat.le_of_ble_eq_true rfl⟩ rfl rfl (Nat.le_of_ble_eq_true rfl) dX8_truePart_47 (fun σ1 r1 h => ?_)
          refine q_lstore (lv' := [(6, .inr (.inl r1)), (0, .inr (.inr v0)), (5, .inl v5), (8, .inl v8)]) ok dX8_truePart_50 (by decide) rfl ?_
          refine q_iinc (lv' := [(8, .inl (v8 + 1)), (6, .inr (.inl r1)), (0, .inr (.inr v0)), (5, .inl v5)]) ok dX8_truePart_52 3 rfl (by decide) rfl ?_
          refine q_goto (tgt := 20) ok dX8_truePart_55 (by decide) ?_
          refine q_sub [2, 3, 1, 0] rfl ?_
          exact ih σ1 v0 v5 r1 (v8 + 1) h
set_option maxRecDepth 100000 in
set_option maxHeartbeats 4000000 in
theorem c_X8_truePart (l : Launch) (Y : Cy) (hD : ∀ σ, va_D Y.2.2.2 (wsOf KC Y.2.1 Y.2.2.1 σ)) {c : Nat} {a0 : Int} {a1 : Int} {a2 : Int} {σ : St} {Q : St → Int → Prop} (h : f_X8_truePart c a0 a1 a2 σ Q) : ConL l yX8_truePart cX8_truePart 9 (rm0q 2 55) Y KC σ [.inr (.inr c), .inl a0, .inl a1, .inr (.inl a2)] Q := con_of (lv := [(0, .inr (.inr c)), (1, .inl a0), (2, .inl a1), (3, .inr (.inl a2))]) (by decide) hD (Nat.le_of_ble_eq_true rfl) rfl (fun X _ ok => by
  have ok : Ok X Y KC cX8_truePart 9 RX8 (rm0q 2 55) (some .long) := ok
  unfold f_X8_truePart at h
  refine q_iload_n ok dX8_truePart_0 2 rfl ?_
  refine q_aload_n ok dX8_truePart_1 0 rfl ?_
  obtain ⟨g1, h⟩ := h
  refine q_getI ok fl_X8_21 (kX8_0 g1) (fIX8_0 c) dX8_truePart_2 ?_
  refine q_callSI (st := []) ok cs_X8_25 (c_JM_min X.2.1 Y ok.2.2.2.2.2.2.2.2 h) ⟨rfl, rfl, Nat.le_of_ble_eq_true rfl, Nat.le_of_ble_eq_true rfl⟩ rfl rfl (Nat.le_of_ble_eq_true rfl) dX8_truePart_5 (fun σ1 r1 h => ?_)
  refine q_istore (lv' := [(5, .inl r1), (0, .inr (.inr c)), (1, .inl a0), (2, .inl a1), (3, .inr (.inl a2))]) ok dX8_truePart_8 (by decide) rfl ?_
  refine q_lload_n ok dX8_truePart_10 4 rfl ?_
  refine q_lstore (lv' := [(6, .inr (.inl a2)), (5, .inl r1), (0, .inr (.inr c)), (1, .inl a0), (2, .inl a1), (3, .inr (.inl a2))]) ok dX8_truePart_11 (by decide) rfl ?_
  refine q_iload_n ok dX8_truePart_13 3 rfl ?_
  refine q_iconst ok dX8_truePart_14 ?_
  refine q_callSI (st := []) ok cs_X8_31 (c_JM_max X.2.1 Y ok.2.2.2.2.2.2.2.2 h) ⟨rfl, rfl, Nat.le_of_ble_eq_true rfl, Nat.le_of_ble_eq_true rfl⟩ rfl rfl (Nat.le_of_ble_eq_true rfl) dX8_truePart_15 (fun σ2 r2 h => ?_)
  refine q_istore (lv' := [(8, .inl r2), (6, .inr (.inl a2)), (5, .inl r1), (0, .inr (.inr c)), (1, .inl a0), (2, .inl a1), (3, .inr (.inl a2))]) ok dX8_truePart_18 (by decide) rfl ?_
  refine q_sub [3, 2, 1, 0] rfl ?_
  exact w_X8_truePart_L20 ok FU σ2 c r1 a2 r2 h)
/-! BranchingStory$Terms.narrowedByOpposite(IJ)J -/
def f_X8_narrowedByOpposite_J151 (Q : St → Int → Prop) (σ : St) (s0 : Int) (s1 : Int) (s2 : Int) (s3 : Int) : Prop :=
  f_X3_withRange s0 s1 s2 s3 σ (fun σ1 r1 => Q σ1 r1)
def f_X8_narrowedByOpposite_J135 (Q : St → Int → Prop) (σ : St) (v5 : Int) (v7 : Int) (s0 : Int) (s1 : Int) (s2 : Int) : Prop :=
  inR v7 ∧ inR v5 ∧ ((¬ v7 = v5 → f_X8_narrowedByOpposite_J151 Q σ s0 s1 s2 v7) ∧ (v7 = v5 → f_X8_narrowedByOpposite_J151 Q σ s0 s1 s2 (v7 - 1)))
def f_X8_narrowedByOpposite (c : Nat) (a0 : Int) (a1 : Int) (σ : St) (Q : St → Int → Prop) : Prop :=
  isT c ∧ 0 ≤ a0 ∧ a0 < 200 ∧ ∀ x1 : Int, x1 = (σ (c + 2) a0.toNat) → 0 ≤ a0 ∧ a0 < 200 ∧ ∀ x2 : Int, x2 = (σ (c + 3) a0.toNat) → f_X3_low a1 x1 σ (fun σ1 r1 => f_X3_high a1 x1 σ1 (fun σ2 r2 => 0 ≤ a0 ∧ a0 < 200 ∧ inR (σ2 (c + 1) a0.toNat) ∧ (((σ2 (c + 1) a0.toNat) = 0 → f_X3_keepingFlag a1 x1 1 σ2 (fun σ3 r3 => Q σ3 r3)) ∧ ((σ2 (c + 1) a0.toNat) = 1 → f_X3_keepingFlag a1 x1 2 σ2 (fun σ4 r4 => Q σ4 r4)) ∧ ((σ2 (c + 1) a0.toNat) = 2 → f_JM_max r1 x2 σ2 (fun σ5 r5 => f_X3_withRange a1 x1 r5 r2 σ5 (fun σ6 r6 => Q σ6 r6))) ∧ ((σ2 (c + 1) a0.toNat) = 3 → f_JM_min r2 x2 σ2 (fun σ7 r7 => f_X3_withRange a1 x1 r1 r7 σ7 (fun σ8 r8 => Q σ8 r8))) ∧ (((σ2 (c + 1) a0.toNat) < 0 ∨ 3 < (σ2 (c + 1) a0.toNat)) → inR r1 ∧ inR x2 ∧ ((¬ r1 = x2 → f_X8_narrowedByOpposite_J135 Q σ2 x2 r2 a1 x1 r1) ∧ (r1 = x2 → f_X8_narrowedByOpposite_J135 Q σ2 x2 r2 a1 x1 (r1 + 1)))))))
set_option maxRecDepth 100000 in
set_option maxHeartbeats 4000000 in
theorem w_X8_narrowedByOpposite_J151 {X : Cx} {Y : Cy} {Q : St → Int → Prop} (ok : Ok X Y KC cX8_narrowedByOpposite 8 RX8 (rm0q 1 28) (some .long)) (σ : St) (s0 : Int) (s1 : Int) (s2 : Int) (s3 : Int) (h : f_X8_narrowedByOpposite_J151 Q σ s0 s1 s2 s3) : Wq X Y KC 8 (QF X Y (Qlq Y KC Q)) σ 151 [] [.inl s3, .inl s2, .inl s1, .inr (.inl s0)] := by
  unfold f_X8_narrowedByOpposite_J151 at h
  refine q_callSL (st := []) ok cs_X8_58 (c_X3_withRange X.2.1 Y ok.2.2.2.2.2.2.2.2 h) ⟨rfl, rfl, Nat.le_of_ble_eq_true rfl, Nat.le_of_ble_eq_true rfl⟩ rfl rfl (Nat.le_of_ble_eq_true rfl) dX8_narrowedByOpposite_151 (fun σ1 r1 h => ?_)
  exact q_lret ok dX8_narrowedByOpposite_154 h
set_option maxRecDepth 100000 in
set_option maxHeartbeats 4000000 in
theorem w_X8_narrowedByOpposite_J135 {X : Cx} {Y : Cy} {Q : St → Int → Prop} (ok : Ok X Y KC cX8_narrowedByOpposite 8 RX8 (rm0q 1 28) (some .long)) (σ : St) (v5 : Int) (v7 : Int) (s0 : Int) (s1 : Int) (s2 : Int) (h : f_X8_narrowedByOpposite_J135 Q σ v5 v7 s0 s1 s2) : Wq X Y KC 8 (QF X Y (Qlq Y KC Q)) σ 135 [(5, .inl v5), (7, .inl v7)] [.inl s2, .inl s1, .inr (.inl s0)] := by
  unfold f_X8_narrowedByOpposite_J135 at h
  refine q_iload ok dX8_narrowedByOpposite_135 1 rfl ?_
  refine q_iload ok dX8_narrowedByOpposite_137 0 rfl ?_
  obtain ⟨g1, g2, hT1a, hT1b⟩ := h
  refine q_icmp_ne (tgt := 149) ok dX8_narrowedByOpposite_139 (by decide) g1 g2 (fun c1 => ?_) (fun c1 => ?_)
  · have h := hT1a c1
    refine q_iload ok dX8_narrowedByOpposite_149 1 rfl ?_
    refine q_sub [] rfl ?_
    exact w_X8_narrowedByOpposite_J151 ok σ s0 s1 s2 v7 h
  · have h := hT1b c1
    refine q_iload ok dX8_narrowedByOpposite_142 1 rfl ?_
    refine q_iconst ok dX8_narrowedByOpposite_144 ?_
    refine q_isub ok dX8_narrowedByOpposite_145 ?_
    refine q_goto (tgt := 151) ok dX8_narrowedByOpposite_146 (by decide) ?_
    refine q_sub [] rfl ?_
    exact w_X8_narrowedByOpposite_J151 ok σ s0 s1 s2 (v7 - 1) h
set_option maxRecDepth 100000 in
set_option maxHeartbeats 4000000 in
theorem c_X8_narrowedByOpposite (l : Launch) (Y : Cy) (hD : ∀ σ, va_D Y.2.2.2 (wsOf KC Y.2.1 Y.2.2.1 σ)) {c : Nat} {a0 : Int} {a1 : Int} {σ : St} {Q : St → Int → Prop} (h : f_X8_narrowedByOpposite c a0 a1 σ Q) : ConL l yX8_narrowedByOpposite cX8_narrowedByOpposite 8 (rm0q 1 28) Y KC σ [.inr (.inr c), .inl a0, .inr (.inl a1)] Q := con_of (lv := [(0, .inr (.inr c)), (1, .inl a0), (2, .inr (.inl a1))]) (by decide) hD (Nat.le_of_ble_eq_true rfl) rfl (fun X _ ok => by
  have ok : Ok X Y KC cX8_narrowedByOpposite 8 RX8 (rm0q 1 28) (some .long) := ok
  unfold f_X8_narrowedByOpposite at h
  refine q_aload_n ok dX8_narrowedByOpposite_0 0 rfl ?_
  obtain ⟨g1, h⟩ := h
  refine q_getC ok fl_X8_15 (kX8_0 g1) (fIX8_2 c) dX8_narrowedByOpposite_1 ?_
  refine q_iload_n ok dX8_narrowedByOpposite_4 1 rfl ?_
  obtain ⟨g2, g3, h⟩ := h
  refine q_iald ok kC_ok (kX8_2 g1) g2 g3 dX8_narrowedByOpposite_5 ?_
  refine wq_i (fun x1 ex1 => ?_)
  have h := h x1 ex1
  refine q_istore (lv' := [(4, .inl x1), (0, .inr (.inr c)), (1, .inl a0), (2, .inr (.inl a1))]) ok dX8_narrowedByOpposite_6 (by decide) rfl ?_
  refine q_aload_n ok dX8_narrowedByOpposite_8 1 rfl ?_
  refine q_getC ok fl_X8_18 (kX8_0 g1) (fIX8_3 c) dX8_narrowedByOpposite_9 ?_
  refine q_iload_n ok dX8_narrowedByOpposite_12 2 rfl ?_
  obtain ⟨g4, g5, h⟩ := h
  refine q_iald ok kC_ok (kX8_3 g1) g4 g5 dX8_narrowedByOpposite_13 ?_
  refine wq_i (fun x2 ex2 => ?_)
  have h := h x2 ex2
  refine q_istore (lv' := [(5, .inl x2), (4, .inl x1), (0, .inr (.inr c)), (1, .inl a0), (2, .inr (.inl a1))]) ok dX8_narrowedByOpposite_14 (by decide) rfl ?_
  refine q_lload_n ok dX8_narrowedByOpposite_16 4 rfl ?_
  refine q_iload ok dX8_narrowedByOpposite_17 1 rfl ?_
  refine q_callSI (st := []) ok cs_X8_47 (c_X3_low X.2.1 Y ok.2.2.2.2.2.2.2.2 h) ⟨rfl, rfl, Nat.le_of_ble_eq_true rfl, Nat.le_of_ble_eq_true rfl⟩ rfl rfl (Nat.le_of_ble_eq_true rfl) dX8_narrowedByOpposite_19 (fun σ1 r1 h => ?_)
  refine q_istore (lv' := [(6, .inl r1), (5, .inl x2), (4, .inl x1), (0, .inr (.inr c)), (1, .inl a0), (2, .inr (.inl a1))]) ok dX8_narrowedByOpposite_22 (by decide) rfl ?_
  refine q_lload_n ok dX8_narrowedByOpposite_24 5 rfl ?_
  refine q_iload ok dX8_narrowedByOpposite_25 2 rfl ?_
  refine q_callSI (st := []) ok cs_X8_51 (c_X3_high X.2.1 Y ok.2.2.2.2.2.2.2.2 h) ⟨rfl, rfl, Nat.le_of_ble_eq_true rfl, Nat.le_of_ble_eq_true rfl⟩ rfl rfl (Nat.le_of_ble_eq_true rfl) dX8_narrowedByOpposite_27 (fun σ2 r2 h => ?_)
  refine q_istore (lv' := [(7, .inl r2), (6, .inl r1), (5, .inl x2), (4, .inl x1), (0, .inr (.inr c)), (1, .inl a0), (2, .inr (.inl a1))]) ok dX8_narrowedByOpposite_30 (by decide) rfl ?_
  refine q_aload_n ok dX8_narrowedByOpposite_32 4 rfl ?_
  refine q_getC ok fl_X8_9 (kX8_0 g1) (fIX8_1 c) dX8_narrowedByOpposite_33 ?_
  refine q_iload_n ok dX8_narrowedByOpposite_36 5 rfl ?_
  obtain ⟨g6, g7, h⟩ := h
  refine q_iald ok kC_ok (kX8_1 g1) g6 g7 dX8_narrowedByOpposite_37 ?_
  obtain ⟨g8, hs1, hs2, hs3, hs4, hs5⟩ := h
  by_cases c1 : (σ2 (c + 1) a0.toNat) = 0
  · have h := hs1 c1
    refine q_tsIn (tgt := 68) ok dX8_narrowedByOpposite_38 g8 (by omega) (by omega) (by rw [c1]; rfl) (by decide) ?_
    refine q_lload_n ok dX8_narrowedByOpposite_68 6 rfl ?_
    refine q_iload ok dX8_narrowedByOpposite_69 3 rfl ?_
    refine q_iconst ok dX8_narrowedByOpposite_71 ?_
    refine q_callSL (st := []) ok cs_X8_54 (c_X3_keepingFlag X.2.1 Y ok.2.2.2.2.2.2.2.2 h) ⟨rfl, rfl, Nat.le_of_ble_eq_true rfl, Nat.le_of_ble_eq_true rfl⟩ rfl rfl (Nat.le_of_ble_eq_true rfl) dX8_narrowedByOpposite_72 (fun σ3 r3 h => ?_)
    exact q_lret ok dX8_narrowedByOpposite_75 h
  by_cases c2 : (σ2 (c + 1) a0.toNat) = 1
  · have h := hs2 c2
    refine q_tsIn (tgt := 76) ok dX8_narrowedByOpposite_38 g8 (by omega) (by omega) (by rw [c2]; rfl) (by decide) ?_
    refine q_lload_n ok dX8_narrowedByOpposite_76 6 rfl ?_
    refine q_iload ok dX8_narrowedByOpposite_77 3 rfl ?_
    refine q_iconst ok dX8_narrowedByOpposite_79 ?_
    refine q_callSL (st := []) ok cs_X8_54 (c_X3_keepingFlag X.2.1 Y ok.2.2.2.2.2.2.2.2 h) ⟨rfl, rfl, Nat.le_of_ble_eq_true rfl, Nat.le_of_ble_eq_true rfl⟩ rfl rfl (Nat.le_of_ble_eq_true rfl) dX8_narrowedByOpposite_80 (fun σ4 r4 h => ?_)
    exact q_lret ok dX8_narrowedByOpposite_83 h
  by_cases c3 : (σ2 (c + 1) a0.toNat) = 2
  · have h := hs3 c3
    refine q_tsIn (tgt := 84) ok dX8_narrowedByOpposite_38 g8 (by omega) (by omega) (by rw [c3]; rfl) (by decide) ?_
    refine q_lload_n ok dX8_narrowedByOpposite_84 6 rfl ?_
    refine q_iload ok dX8_narrowedByOpposite_85 3 rfl ?_
    refine q_iload ok dX8_narrowedByOpposite_87 1 rfl ?_
    refine q_iload ok dX8_narrowedByOpposite_89 2 rfl ?_
    refine q_callSI (st := [.inl x1, .inr (.inl a1)]) ok cs_X8_31 (c_JM_max X.2.1 Y ok.2.2.2.2.2.2.2.2 h) ⟨rfl, rfl, Nat.le_of_ble_eq_true rfl, Nat.le_of_ble_eq_true rfl⟩ rfl rfl (Nat.le_of_ble_eq_true rfl) dX8_narrowedByOpposite_91 (fun σ5 r5 h => ?_)
    refine q_iload ok dX8_narrowedByOpposite_94 0 rfl ?_
    refine q_callSL (st := []) ok cs_X8_58 (c_X3_withRange X.2.1 Y ok.2.2.2.2.2.2.2.2 h) ⟨rfl, rfl, Nat.le_of_ble_eq_true rfl, Nat.le_of_ble_eq_true rfl⟩ rfl rfl (Nat.le_of_ble_eq_true rfl) dX8_narrowedByOpposite_96 (fun σ6 r6 h => ?_)
    exact q_lret ok dX8_narrowedByOpposite_99 h
  by_cases c4 : (σ2 (c + 1) a0.toNat) = 3
  · have h := hs4 c4
    refine q_tsIn (tgt := 100) ok dX8_narrowedByOpposite_38 g8 (by omega) (by omega) (by rw [c4]; rfl) (by decide) ?_
    refine q_lload_n ok dX8_narrowedByOpposite_100 6 rfl ?_
    refine q_iload ok dX8_narrowedByOpposite_101 3 rfl ?_
    refine q_iload ok dX8_narrowedByOpposite_103 1 rfl ?_
    refine q_iload ok dX8_narrowedByOpposite_105 0 rfl ?_
    refine q_iload ok dX8_narrowedByOpposite_107 2 rfl ?_
    refine q_callSI (st := [.inl r1, .inl x1, .inr (.inl a1)]) ok cs_X8_25 (c_JM_min X.2.1 Y ok.2.2.2.2.2.2.2.2 h) ⟨rfl, rfl, Nat.le_of_ble_eq_true rfl, Nat.le_of_ble_eq_true rfl⟩ rfl rfl (Nat.le_of_ble_eq_true rfl) dX8_narrowedByOpposite_109 (fun σ7 r7 h => ?_)
    refine q_callSL (st := []) ok cs_X8_58 (c_X3_withRange X.2.1 Y ok.2.2.2.2.2.2.2.2 h) ⟨rfl, rfl, Nat.le_of_ble_eq_true rfl, Nat.le_of_ble_eq_true rfl⟩ rfl rfl (Nat.le_of_ble_eq_true rfl) dX8_narrowedByOpposite_112 (fun σ8 r8 h => ?_)
    exact q_lret ok dX8_narrowedByOpposite_115 h
  have h := hs5 (by omega)
  refine q_tsOut (tgt := 116) ok dX8_narrowedByOpposite_38 g8 (by omega) (by decide) ?_
  refine q_lload_n ok dX8_narrowedByOpposite_116 6 rfl ?_
  refine q_iload ok dX8_narrowedByOpposite_117 3 rfl ?_
  refine q_iload ok dX8_narrowedByOpposite_119 1 rfl ?_
  refine q_iload ok dX8_narrowedByOpposite_121 2 rfl ?_
  obtain ⟨g9, g10, hT1a, hT1b⟩ := h
  refine q_icmp_ne (tgt := 133) ok dX8_narrowedByOpposite_123 (by decide) g9 g10 (fun c5 => ?_) (fun c5 => ?_)
  · have h := hT1a c5
    refine q_iload ok dX8_narrowedByOpposite_133 1 rfl ?_
    refine q_sub [2, 0] rfl ?_
    exact w_X8_narrowedByOpposite_J135 ok σ2 x2 r2 a1 x1 r1 h
  · have h := hT1b c5
    refine q_iload ok dX8_narrowedByOpposite_126 1 rfl ?_
    refine q_iconst ok dX8_narrowedByOpposite_128 ?_
    refine q_iadd ok dX8_narrowedByOpposite_129 ?_
    refine q_goto (tgt := 135) ok dX8_narrowedByOpposite_130 (by decide) ?_
    refine q_sub [2, 0] rfl ?_
    exact w_X8_narrowedByOpposite_J135 ok σ2 x2 r2 a1 x1 (r1 + 1) h)
/-! BranchingStory$Terms.falsePart(IIJ)J -/
def f_X8_falsePart_J31 (Q : St → Int → Prop) (σ : St) (v0 : Nat) (v1 : Int) (v3 : Int) (s0 : Int) : Prop :=
  inR s0 ∧ ((s0 = 0 → Q σ v3) ∧ (¬ s0 = 0 → inR (lcmp64 v3 0) ∧ (((lcmp64 v3 0) = 0 → Q σ v3) ∧ (¬ (lcmp64 v3 0) = 0 → isT v0 ∧ f_X8_narrowedByOpposite v0 v1 v3 σ (fun σ1 r1 => Q σ1 r1)))))
def f_X8_falsePart_J30 (Q : St → Int → Prop) (σ : St) (v0 : Nat) (v1 : Int) (v3 : Int) : Prop :=
  f_X8_falsePart_J31 Q σ v0 v1 v3 0
def f_X8_falsePart (c : Nat) (a0 : Int) (a1 : Int) (a2 : Int) (σ : St) (Q : St → Int → Prop) : Prop :=
  inR (a1 - a0) ∧ ((¬ (a1 - a0) = 1 → f_X8_falsePart_J30 Q σ c a0 a2) ∧ ((a1 - a0) = 1 → inR a0 ∧ ((a0 < 0 → f_X8_falsePart_J30 Q σ c a0 a2) ∧ (¬ a0 < 0 → isT c ∧ inR a0 ∧ inR (σ c 0) ∧ (((σ c 0) ≤ a0 → f_X8_falsePart_J30 Q σ c a0 a2) ∧ (¬ (σ c 0) ≤ a0 → inR a0 ∧ ((200 ≤ a0 → f_X8_falsePart_J30 Q σ c a0 a2) ∧ (¬ 200 ≤ a0 → f_X8_falsePart_J31 Q σ c a0 a2 1))))))))
set_option maxRecDepth 100000 in
set_option maxHeartbeats 4000000 in
theorem w_X8_falsePart_J31 {X : Cx} {Y : Cy} {Q : St → Int → Prop} (ok : Ok X Y KC cX8_falsePart 6 RX8 (rm0q 2 55) (some .long)) (σ : St) (v0 : Nat) (v1 : Int) (v3 : Int) (s0 : Int) (h : f_X8_falsePart_J31 Q σ v0 v1 v3 s0) : Wq X Y KC 6 (QF X Y (Qlq Y KC Q)) σ 31 [(0, .inr (.inr v0)), (1, .inl v1), (3, .inr (.inl v3))] [.inl s0] := by
  unfold f_X8_falsePart_J31 at h
  refine q_istore (lv' := [(5, .inl s0), (0, .inr (.inr v0)), (1, .inl v1), (3, .inr (.inl v3))]) ok dX8_falsePart_31 (by decide) rfl ?_
  refine q_iload ok dX8_falsePart_33 0 rfl ?_
  obtain ⟨g1, hT2a, hT2b⟩ := h
  refine q_if_eq (tgt := 53) ok dX8_falsePart_35 (by decide) g1 (fun c2 => ?_) (fun c2 => ?_)
  · have h := hT2a c2
    refine q_lload_n ok dX8_falsePart_53 3 rfl ?_
    exact q_lret ok dX8_falsePart_54 h
  · have h := hT2b c2
    refine q_lload_n ok dX8_falsePart_38 3 rfl ?_
    refine q_lconst ok dX8_falsePart_39 0 rfl ?_
    refine q_lcmp ok dX8_falsePart_40 ?_
    obtain ⟨g2, hT1a, hT1b⟩ := h
    refine q_if_eq (tgt := 53) ok dX8_falsePart_41 (by decide) g2 (fun c1 => ?_) (fun c1 => ?_)
    · have h := hT1a c1
      refine q_lload_n ok dX8_falsePart_53 3 rfl ?_
      exact q_lret ok dX8_falsePart_54 h
    · have h := hT1b c1
      refine q_aload_n ok dX8_falsePart_44 1 rfl ?_
      refine q_iload_n ok dX8_falsePart_45 2 rfl ?_
      refine q_lload_n ok dX8_falsePart_46 3 rfl ?_
      obtain ⟨g3, h⟩ := h
      refine q_callVL (st := []) ok cs_X8_44 (kX8_0 g3) rfl (c_X8_narrowedByOpposite X.2.1 Y ok.2.2.2.2.2.2.2.2 h) ⟨rfl, rfl, Nat.le_of_ble_eq_true rfl, Nat.le_of_ble_eq_true rfl⟩ rfl rfl (Nat.le_of_ble_eq_true rfl) dX8_falsePart_47 (fun σ1 r1 h => ?_)
      refine q_goto (tgt := 54) ok dX8_falsePart_50 (by decide) ?_
      exact q_lret ok dX8_falsePart_54 h
set_option maxRecDepth 100000 in
set_option maxHeartbeats 4000000 in
theorem w_X8_falsePart_J30 {X : Cx} {Y : Cy} {Q : St → Int → Prop} (ok : Ok X Y KC cX8_falsePart 6 RX8 (rm0q 2 55) (some .long)) (σ : St) (v0 : Nat) (v1 : Int) (v3 : Int) (h : f_X8_falsePart_J30 Q σ v0 v1 v3) : Wq X Y KC 6 (QF X Y (Qlq Y KC Q)) σ 30 [(0, .inr (.inr v0)), (1, .inl v1), (3, .inr (.inl v3))] [] := by
  unfold f_X8_falsePart_J30 at h
  refine q_iconst ok dX8_falsePart_30 ?_
  exact w_X8_falsePart_J31 ok σ v0 v1 v3 0 h
set_option maxRecDepth 100000 in
set_option maxHeartbeats 4000000 in
theorem c_X8_falsePart (l : Launch) (Y : Cy) (hD : ∀ σ, va_D Y.2.2.2 (wsOf KC Y.2.1 Y.2.2.1 σ)) {c : Nat} {a0 : Int} {a1 : Int} {a2 : Int} {σ : St} {Q : St → Int → Prop} (h : f_X8_falsePart c a0 a1 a2 σ Q) : ConL l yX8_falsePart cX8_falsePart 6 (rm0q 2 55) Y KC σ [.inr (.inr c), .inl a0, .inl a1, .inr (.inl a2)] Q := con_of (lv := [(0, .inr (.inr c)), (1, .inl a0), (2, .inl a1), (3, .inr (.inl a2))]) (by decide) hD (Nat.le_of_ble_eq_true rfl) rfl (fun X _ ok => by
  have ok : Ok X Y KC cX8_falsePart 6 RX8 (rm0q 2 55) (some .long) := ok
  unfold f_X8_falsePart at h
  refine q_iload_n ok dX8_falsePart_0 2 rfl ?_
  refine q_iload_n ok dX8_falsePart_1 1 rfl ?_
  refine q_isub ok dX8_falsePart_2 ?_
  refine q_iconst ok dX8_falsePart_3 ?_
  obtain ⟨g1, hT4a, hT4b⟩ := h
  refine q_icmp_ne (tgt := 30) ok dX8_falsePart_4 (by decide) g1 (by unfold inR; decide) (fun c4 => ?_) (fun c4 => ?_)
  · have h := hT4a c4
    refine q_sub [0, 1, 3] rfl ?_
    exact w_X8_falsePart_J30 ok σ c a0 a2 h
  · have h := hT4b c4
    refine q_iload_n ok dX8_falsePart_7 1 rfl ?_
    obtain ⟨g2, hT3a, hT3b⟩ := h
    refine q_if_lt (tgt := 30) ok dX8_falsePart_8 (by decide) g2 (fun c3 => ?_) (fun c3 => ?_)
    · have h := hT3a c3
      refine q_sub [0, 1, 3] rfl ?_
      exact w_X8_falsePart_J30 ok σ c a0 a2 h
    · have h := hT3b c3
      refine q_iload_n ok dX8_falsePart_11 1 rfl ?_
      refine q_aload_n ok dX8_falsePart_12 0 rfl ?_
      obtain ⟨g3, h⟩ := h
      refine q_getI ok fl_X8_21 (kX8_0 g3) (fIX8_0 c) dX8_falsePart_13 ?_
      obtain ⟨g4, g5, hT2a, hT2b⟩ := h
      refine q_icmp_ge (tgt := 30) ok dX8_falsePart_16 (by decide) g4 g5 (fun c2 => ?_) (fun c2 => ?_)
      · have h := hT2a c2
        refine q_sub [0, 1, 3] rfl ?_
        exact w_X8_falsePart_J30 ok σ c a0 a2 h
      · have h := hT2b c2
        refine q_iload_n ok dX8_falsePart_19 1 rfl ?_
        refine q_sipush ok dX8_falsePart_20 rfl ?_
        obtain ⟨g6, hT1a, hT1b⟩ := h
        refine q_icmp_ge (tgt := 30) ok dX8_falsePart_23 (by decide) g6 (by unfold inR; decide) (fun c1 => ?_) (fun c1 => ?_)
        · have h := hT1a c1
          refine q_sub [0, 1, 3] rfl ?_
          exact w_X8_falsePart_J30 ok σ c a0 a2 h
        · have h := hT1b c1
          refine q_iconst ok dX8_falsePart_26 ?_
          refine q_goto (tgt := 31) ok dX8_falsePart_27 (by decide) ?_
          refine q_sub [0, 1, 3] rfl ?_
          exact w_X8_falsePart_J31 ok σ c a0 a2 1 h)
/-! BranchingStory$Story.empty()V -/
def f_X7_empty (c : Nat) (σ : St) (Q : St → Prop) : Prop :=
  isS c ∧ ∀ σ1 : St, σ1 = sset σ c 0 0 → ∀ σ2 : St, σ2 = sset σ1 (c + 9) 0 0 → ∀ σ3 : St, σ3 = sset σ2 c 10 0 → ∀ σ4 : St, σ4 = sset σ3 c 13 0 → ∀ σ5 : St, σ5 = sset σ4 c 14 0 → ∀ σ6 : St, σ6 = sset σ5 c 18 0 → Q σ6
set_option maxRecDepth 100000 in
set_option maxHeartbeats 4000000 in
theorem c_X7_empty (l : Launch) (Y : Cy) (hD : ∀ σ, va_D Y.2.2.2 (wsOf KC Y.2.1 Y.2.2.1 σ)) {c : Nat} {σ : St} {Q : St → Prop} (h : f_X7_empty c σ Q) : ConV l yX7_empty cX7_empty 1 (rm0q 0 0) Y KC σ [.inr (.inr c)] Q := con_of (lv := [(0, .inr (.inr c))]) (by decide) hD (Nat.le_of_ble_eq_true rfl) rfl (fun X _ ok => by
  have ok : Ok X Y KC cX7_empty 1 RX7 (rm0q 0 0) none := ok
  unfold f_X7_empty at h
  refine q_aload_n ok dX7_empty_0 0 rfl ?_
  refine q_iconst ok dX7_empty_1 ?_
  obtain ⟨g1, h⟩ := h
  refine q_putI ok fp_X7_58 (kX7_0 g1) (fIX7_0 c) dX7_empty_2 (wq_s (fun σ1 eσ1 => ?_))
  have h := h σ1 eσ1
  refine q_aload_n ok dX7_empty_5 0 rfl ?_
  refine q_getC ok fl_X7_39 (kX7_0 g1) (fIX7_9 c) dX7_empty_6 ?_
  refine q_iconst ok dX7_empty_9 ?_
  refine q_putI ok fp_X7_62 (kX7_9 g1) (fOX7_9_0 c) dX7_empty_10 (wq_s (fun σ2 eσ2 => ?_))
  have h := h σ2 eσ2
  refine q_aload_n ok dX7_empty_13 0 rfl ?_
  refine q_iconst ok dX7_empty_14 ?_
  refine q_putI ok fp_X7_63 (kX7_0 g1) (fIX7_10 c) dX7_empty_15 (wq_s (fun σ3 eσ3 => ?_))
  have h := h σ3 eσ3
  refine q_aload_n ok dX7_empty_18 0 rfl ?_
  refine q_iconst ok dX7_empty_19 ?_
  refine q_putI ok fp_X7_66 (kX7_0 g1) (fIX7_13 c) dX7_empty_20 (wq_s (fun σ4 eσ4 => ?_))
  have h := h σ4 eσ4
  refine q_aload_n ok dX7_empty_23 0 rfl ?_
  refine q_iconst ok dX7_empty_24 ?_
  refine q_putI ok fp_X7_69 (kX7_0 g1) (fIX7_14 c) dX7_empty_25 (wq_s (fun σ5 eσ5 => ?_))
  have h := h σ5 eσ5
  refine q_aload_n ok dX7_empty_28 0 rfl ?_
  refine q_iconst ok dX7_empty_29 ?_
  refine q_putI ok fp_X7_72 (kX7_0 g1) (fIX7_18 c) dX7_empty_30 (wq_s (fun σ6 eσ6 => ?_))
  have h := h σ6 eσ6
  exact q_vret ok dX7_empty_33 h)
/-! BranchingStory$Story.append(III)I -/
def f_X7_append (c : Nat) (a0 : Int) (a1 : Int) (a2 : Int) (σ : St) (Q : St → Int → Prop) : Prop :=
  isS c ∧ inR (σ c 0) ∧ (((σ c 0) < 0 → Q σ (-1)) ∧ (¬ (σ c 0) < 0 → inR (σ c 0) ∧ (((σ c 0) < 400 → ∀ x1 : Int, x1 = (σ c 0) → 0 ≤ x1 ∧ x1 < 400 ∧ ∀ σ1 : St, σ1 = sset σ (c + 1) x1.toNat a0 → 0 ≤ x1 ∧ x1 < 400 ∧ ∀ σ2 : St, σ2 = sset σ1 (c + 2) x1.toNat a1 → 0 ≤ x1 ∧ x1 < 400 ∧ ∀ σ3 : St, σ3 = sset σ2 (c + 3) x1.toNat a2 → 0 ≤ x1 ∧ x1 < 400 ∧ ∀ σ4 : St, σ4 = sset σ3 (c + 4) x1.toNat (-1) → 0 ≤ x1 ∧ x1 < 400 ∧ ∀ σ5 : St, σ5 = sset σ4 (c + 5) x1.toNat (-1) → 0 ≤ x1 ∧ x1 < 400 ∧ ∀ σ6 : St, σ6 = sset σ5 (c + 6) x1.toNat (-1) → 0 ≤ x1 ∧ x1 < 400 ∧ ∀ σ7 : St, σ7 = sset σ6 (c + 7) x1.toNat (σ6 (c + 9) 0) → 0 ≤ x1 ∧ x1 < 400 ∧ ∀ σ8 : St, σ8 = sset σ7 (c + 8) x1.toNat (σ7 (c + 9) 0) → ∀ σ9 : St, σ9 = sset σ8 c 0 ((σ8 c 0) + 1) → Q σ9 x1) ∧ (¬ (σ c 0) < 400 → Q σ (-1)))))
set_option maxRecDepth 100000 in
set_option maxHeartbeats 4000000 in
theorem c_X7_append (l : Launch) (Y : Cy) (hD : ∀ σ, va_D Y.2.2.2 (wsOf KC Y.2.1 Y.2.2.1 σ)) {c : Nat} {a0 : Int} {a1 : Int} {a2 : Int} {σ : St} {Q : St → Int → Prop} (h : f_X7_append c a0 a1 a2 σ Q) : ConI l yX7_append cX7_append 5 .int (rm0q 0 0) Y KC σ [.inr (.inr c), .inl a0, .inl a1, .inl a2] Q := con_of (lv := [(0, .inr (.inr c)), (1, .inl a0), (2, .inl a1), (3, .inl a2)]) (by decide) hD (Nat.le_of_ble_eq_true rfl) rfl (fun X _ ok => by
  have ok : Ok X Y KC cX7_append 5 RX7 (rm0q 0 0) (some .int) := ok
  unfold f_X7_append at h
  refine q_aload_n ok dX7_append_0 0 rfl ?_
  obtain ⟨g1, h⟩ := h
  refine q_getI ok fl_X7_58 (kX7_0 g1) (fIX7_0 c) dX7_append_1 ?_
  obtain ⟨g2, hT2a, hT2b⟩ := h
  refine q_if_lt (tgt := 17) ok dX7_append_4 (by decide) g2 (fun c2 => ?_) (fun c2 => ?_)
  · have h := hT2a c2
    refine q_iconst ok dX7_append_17 ?_
    exact q_iret ok dX7_append_18 h
  · have h := hT2b c2
    refine q_aload_n ok dX7_append_7 0 rfl ?_
    refine q_getI ok fl_X7_58 (kX7_0 g1) (fIX7_0 c) dX7_append_8 ?_
    refine q_sipush ok dX7_append_11 rfl ?_
    obtain ⟨g3, hT1a, hT1b⟩ := h
    refine q_icmp_lt (tgt := 19) ok dX7_append_14 (by decide) g3 (by unfold inR; decide) (fun c1 => ?_) (fun c1 => ?_)
    · have h := hT1a c1
      refine q_aload_n ok dX7_append_19 0 rfl ?_
      refine q_getI ok fl_X7_58 (kX7_0 g1) (fIX7_0 c) dX7_append_20 ?_
      refine wq_i (fun x1 ex1 => ?_)
      have h := h x1 ex1
      refine q_istore (lv' := [(4, .inl x1), (0, .inr (.inr c)), (1, .inl a0), (2, .inl a1), (3, .inl a2)]) ok dX7_append_23 (by decide) rfl ?_
      refine q_aload_n ok dX7_append_25 1 rfl ?_
      refine q_getC ok fl_X7_9 (kX7_0 g1) (fIX7_1 c) dX7_append_26 ?_
      refine q_iload ok dX7_append_29 0 rfl ?_
      refine q_iload_n ok dX7_append_31 2 rfl ?_
      obtain ⟨g4, g5, h⟩ := h
      refine q_iast ok kC_ok (kX7_1 g1) g4 g5 dX7_append_32 (wq_s (fun σ1 eσ1 => ?_))
      have h := h σ1 eσ1
      refine q_aload_n ok dX7_append_33 1 rfl ?_
      refine q_getC ok fl_X7_15 (kX7_0 g1) (fIX7_2 c) dX7_append_34 ?_
      refine q_iload ok dX7_append_37 0 rfl ?_
      refine q_iload_n ok dX7_append_39 3 rfl ?_
      obtain ⟨g6, g7, h⟩ := h
      refine q_iast ok kC_ok (kX7_2 g1) g6 g7 dX7_append_40 (wq_s (fun σ2 eσ2 => ?_))
      have h := h σ2 eσ2
      refine q_aload_n ok dX7_append_41 1 rfl ?_
      refine q_getC ok fl_X7_18 (kX7_0 g1) (fIX7_3 c) dX7_append_42 ?_
      refine q_iload ok dX7_append_45 0 rfl ?_
      refine q_iload_n ok dX7_append_47 4 rfl ?_
      obtain ⟨g8, g9, h⟩ := h
      refine q_iast ok kC_ok (kX7_3 g1) g8 g9 dX7_append_48 (wq_s (fun σ3 eσ3 => ?_))
      have h := h σ3 eσ3
      refine q_aload_n ok dX7_append_49 1 rfl ?_
      refine q_getC ok fl_X7_21 (kX7_0 g1) (fIX7_4 c) dX7_append_50 ?_
      refine q_iload ok dX7_append_53 0 rfl ?_
      refine q_iconst ok dX7_append_55 ?_
      obtain ⟨g10, g11, h⟩ := h
      refine q_iast ok kC_ok (kX7_4 g1) g10 g11 dX7_append_56 (wq_s (fun σ4 eσ4 => ?_))
      have h := h σ4 eσ4
      refine q_aload_n ok dX7_append_57 1 rfl ?_
      refine q_getC ok fl_X7_24 (kX7_0 g1) (fIX7_5 c) dX7_append_58 ?_
      refine q_iload ok dX7_append_61 0 rfl ?_
      refine q_iconst ok dX7_append_63 ?_
      obtain ⟨g12, g13, h⟩ := h
      refine q_iast ok kC_ok (kX7_5 g1) g12 g13 dX7_append_64 (wq_s (fun σ5 eσ5 => ?_))
      have h := h σ5 eσ5
      refine q_aload_n ok dX7_append_65 1 rfl ?_
      refine q_getC ok fl_X7_27 (kX7_0 g1) (fIX7_6 c) dX7_append_66 ?_
      refine q_iload ok dX7_append_69 0 rfl ?_
      refine q_iconst ok dX7_append_71 ?_
      obtain ⟨g14, g15, h⟩ := h
      refine q_iast ok kC_ok (kX7_6 g1) g14 g15 dX7_append_72 (wq_s (fun σ6 eσ6 => ?_))
      have h := h σ6 eσ6
      refine q_aload_n ok dX7_append_73 1 rfl ?_
      refine q_getC ok fl_X7_30 (kX7_0 g1) (fIX7_7 c) dX7_append_74 ?_
      refine q_iload ok dX7_append_77 0 rfl ?_
      refine q_aload_n ok dX7_append_79 1 rfl ?_
      refine q_getC ok fl_X7_39 (kX7_0 g1) (fIX7_9 c) dX7_append_80 ?_
      refine q_getI ok fl_X7_62 (kX7_9 g1) (fOX7_9_0 c) dX7_append_83 ?_
      obtain ⟨g16, g17, h⟩ := h
      refine q_iast ok kC_ok (kX7_7 g1) g16 g17 dX7_append_86 (wq_s (fun σ7 eσ7 => ?_))
      have h := h σ7 eσ7
      refine q_aload_n ok dX7_append_87 1 rfl ?_
      refine q_getC ok fl_X7_33 (kX7_0 g1) (fIX7_8 c) dX7_append_88 ?_
      refine q_iload ok dX7_append_91 0 rfl ?_
      refine q_aload_n ok dX7_append_93 1 rfl ?_
      refine q_getC ok fl_X7_39 (kX7_0 g1) (fIX7_9 c) dX7_append_94 ?_
      refine q_getI ok fl_X7_62 (kX7_9 g1) (fOX7_9_0 c) dX7_append_97 ?_
      obtain ⟨g18, g19, h⟩ := h
      refine q_iast ok kC_ok (kX7_8 g1) g18 g19 dX7_append_100 (wq_s (fun σ8 eσ8 => ?_))
      have h := h σ8 eσ8
      refine q_aload_n ok dX7_append_101 1 rfl ?_
      refine q_dup ok dX7_append_102 rfl ?_
      refine q_getI ok fl_X7_58 (kX7_0 g1) (fIX7_0 c) dX7_append_103 ?_
      refine q_iconst ok dX7_append_106 ?_
      refine q_iadd ok dX7_append_107 ?_
      refine q_putI ok fp_X7_58 (kX7_0 g1) (fIX7_0 c) dX7_append_108 (wq_s (fun σ9 eσ9 => ?_))
      have h := h σ9 eσ9
      refine q_iload ok dX7_append_111 0 rfl ?_
      exact q_iret ok dX7_append_113 h
    · have h := hT1b c1
      refine q_iconst ok dX7_append_17 ?_
      exact q_iret ok dX7_append_18 h)
/-! BranchingStory$Story.has(I)Z -/
def f_X7_has (c : Nat) (a0 : Int) (σ : St) (Q : St → Int → Prop) : Prop :=
  inR a0 ∧ ((a0 < 0 → Q σ 0) ∧ (¬ a0 < 0 → isS c ∧ inR a0 ∧ inR (σ c 0) ∧ (((σ c 0) ≤ a0 → Q σ 0) ∧ (¬ (σ c 0) ≤ a0 → inR a0 ∧ ((400 ≤ a0 → Q σ 0) ∧ (¬ 400 ≤ a0 → Q σ 1))))))
set_option maxRecDepth 100000 in
set_option maxHeartbeats 4000000 in
theorem c_X7_has (l : Launch) (Y : Cy) (hD : ∀ σ, va_D Y.2.2.2 (wsOf KC Y.2.1 Y.2.2.1 σ)) {c : Nat} {a0 : Int} {σ : St} {Q : St → Int → Prop} (h : f_X7_has c a0 σ Q) : ConI l yX7_has cX7_has 2 .boolean (rm0q 0 0) Y KC σ [.inr (.inr c), .inl a0] Q := con_of (lv := [(0, .inr (.inr c)), (1, .inl a0)]) (by decide) hD (Nat.le_of_ble_eq_true rfl) rfl (fun X _ ok => by
  have ok : Ok X Y KC cX7_has 2 RX7 (rm0q 0 0) (some .boolean) := ok
  unfold f_X7_has at h
  refine q_iload_n ok dX7_has_0 1 rfl ?_
  obtain ⟨g1, hT3a, hT3b⟩ := h
  refine q_if_lt (tgt := 23) ok dX7_has_1 (by decide) g1 (fun c3 => ?_) (fun c3 => ?_)
  · have h := hT3a c3
    refine q_iconst ok dX7_has_23 ?_
    exact q_zret ok dX7_has_24 (by decide) h
  · have h := hT3b c3
    refine q_iload_n ok dX7_has_4 1 rfl ?_
    refine q_aload_n ok dX7_has_5 0 rfl ?_
    obtain ⟨g2, h⟩ := h
    refine q_getI ok fl_X7_58 (kX7_0 g2) (fIX7_0 c) dX7_has_6 ?_
    obtain ⟨g3, g4, hT2a, hT2b⟩ := h
    refine q_icmp_ge (tgt := 23) ok dX7_has_9 (by decide) g3 g4 (fun c2 => ?_) (fun c2 => ?_)
    · have h := hT2a c2
      refine q_iconst ok dX7_has_23 ?_
      exact q_zret ok dX7_has_24 (by decide) h
    · have h := hT2b c2
      refine q_iload_n ok dX7_has_12 1 rfl ?_
      refine q_sipush ok dX7_has_13 rfl ?_
      obtain ⟨g5, hT1a, hT1b⟩ := h
      refine q_icmp_ge (tgt := 23) ok dX7_has_16 (by decide) g5 (by unfold inR; decide) (fun c1 => ?_) (fun c1 => ?_)
      · have h := hT1a c1
        refine q_iconst ok dX7_has_23 ?_
        exact q_zret ok dX7_has_24 (by decide) h
      · have h := hT1b c1
        refine q_iconst ok dX7_has_19 ?_
        refine q_goto (tgt := 24) ok dX7_has_20 (by decide) ?_
        exact q_zret ok dX7_has_24 (by decide) h)
/-! BranchingStory$Story.isOfSort(II)Z -/
def f_X7_isOfSort (c : Nat) (a0 : Int) (a1 : Int) (σ : St) (Q : St → Int → Prop) : Prop :=
  isS c ∧ f_X7_has c a0 σ (fun σ1 r1 => inR r1 ∧ ((r1 = 0 → Q σ1 0) ∧ (¬ r1 = 0 → 0 ≤ a0 ∧ a0 < 400 ∧ inR (σ1 (c + 1) a0.toNat) ∧ inR a1 ∧ ((¬ (σ1 (c + 1) a0.toNat) = a1 → Q σ1 0) ∧ ((σ1 (c + 1) a0.toNat) = a1 → Q σ1 1)))))
set_option maxRecDepth 100000 in
set_option maxHeartbeats 4000000 in
theorem c_X7_isOfSort (l : Launch) (Y : Cy) (hD : ∀ σ, va_D Y.2.2.2 (wsOf KC Y.2.1 Y.2.2.1 σ)) {c : Nat} {a0 : Int} {a1 : Int} {σ : St} {Q : St → Int → Prop} (h : f_X7_isOfSort c a0 a1 σ Q) : ConI l yX7_isOfSort cX7_isOfSort 3 .boolean (rm0q 1 21) Y KC σ [.inr (.inr c), .inl a0, .inl a1] Q := con_of (lv := [(0, .inr (.inr c)), (1, .inl a0), (2, .inl a1)]) (by decide) hD (Nat.le_of_ble_eq_true rfl) rfl (fun X _ ok => by
  have ok : Ok X Y KC cX7_isOfSort 3 RX7 (rm0q 1 21) (some .boolean) := ok
  unfold f_X7_isOfSort at h
  refine q_aload_n ok dX7_isOfSort_0 0 rfl ?_
  refine q_iload_n ok dX7_isOfSort_1 1 rfl ?_
  obtain ⟨g1, h⟩ := h
  refine q_callVI (st := []) ok cs_X7_75 (kX7_0 g1) rfl (c_X7_has X.2.1 Y ok.2.2.2.2.2.2.2.2 h) ⟨rfl, rfl, Nat.le_of_ble_eq_true rfl, Nat.le_of_ble_eq_true rfl⟩ rfl rfl (Nat.le_of_ble_eq_true rfl) dX7_isOfSort_2 (fun σ1 r1 h => ?_)
  obtain ⟨g2, hT2a, hT2b⟩ := h
  refine q_if_eq (tgt := 22) ok dX7_isOfSort_5 (by decide) g2 (fun c2 => ?_) (fun c2 => ?_)
  · have h := hT2a c2
    refine q_iconst ok dX7_isOfSort_22 ?_
    exact q_zret ok dX7_isOfSort_23 (by decide) h
  · have h := hT2b c2
    refine q_aload_n ok dX7_isOfSort_8 0 rfl ?_
    refine q_getC ok fl_X7_9 (kX7_0 g1) (fIX7_1 c) dX7_isOfSort_9 ?_
    refine q_iload_n ok dX7_isOfSort_12 1 rfl ?_
    obtain ⟨g3, g4, h⟩ := h
    refine q_iald ok kC_ok (kX7_1 g1) g3 g4 dX7_isOfSort_13 ?_
    refine q_iload_n ok dX7_isOfSort_14 2 rfl ?_
    obtain ⟨g5, g6, hT1a, hT1b⟩ := h
    refine q_icmp_ne (tgt := 22) ok dX7_isOfSort_15 (by decide) g5 g6 (fun c1 => ?_) (fun c1 => ?_)
    · have h := hT1a c1
      refine q_iconst ok dX7_isOfSort_22 ?_
      exact q_zret ok dX7_isOfSort_23 (by decide) h
    · have h := hT1b c1
      refine q_iconst ok dX7_isOfSort_18 ?_
      refine q_goto (tgt := 23) ok dX7_isOfSort_19 (by decide) ?_
      exact q_zret ok dX7_isOfSort_23 (by decide) h)
/-! BranchingStory$Story.standsAsHub(I)Z -/
def f_X7_standsAsHub (c : Nat) (a0 : Int) (σ : St) (Q : St → Int → Prop) : Prop :=
  isS c ∧ inR (iand32 (ishr32 (σ c 13) a0) 1) ∧ ((¬ (iand32 (ishr32 (σ c 13) a0) 1) = 1 → Q σ 0) ∧ ((iand32 (ishr32 (σ c 13) a0) 1) = 1 → Q σ 1))
set_option maxRecDepth 100000 in
set_option maxHeartbeats 4000000 in
theorem c_X7_standsAsHub (l : Launch) (Y : Cy) (hD : ∀ σ, va_D Y.2.2.2 (wsOf KC Y.2.1 Y.2.2.1 σ)) {c : Nat} {a0 : Int} {σ : St} {Q : St → Int → Prop} (h : f_X7_standsAsHub c a0 σ Q) : ConI l yX7_standsAsHub cX7_standsAsHub 2 .boolean (rm0q 0 0) Y KC σ [.inr (.inr c), .inl a0] Q := con_of (lv := [(0, .inr (.inr c)), (1, .inl a0)]) (by decide) hD (Nat.le_of_ble_eq_true rfl) rfl (fun X _ ok => by
  have ok : Ok X Y KC cX7_standsAsHub 2 RX7 (rm0q 0 0) (some .boolean) := ok
  unfold f_X7_standsAsHub at h
  refine q_aload_n ok dX7_standsAsHub_0 0 rfl ?_
  obtain ⟨g1, h⟩ := h
  refine q_getI ok fl_X7_66 (kX7_0 g1) (fIX7_13 c) dX7_standsAsHub_1 ?_
  refine q_iload_n ok dX7_standsAsHub_4 1 rfl ?_
  refine q_ishr ok dX7_standsAsHub_5 ?_
  refine q_iconst ok dX7_standsAsHub_6 ?_
  refine q_iand ok dX7_standsAsHub_7 ?_
  refine q_iconst ok dX7_standsAsHub_8 ?_
  obtain ⟨g2, hT1a, hT1b⟩ := h
  refine q_icmp_ne (tgt := 16) ok dX7_standsAsHub_9 (by decide) g2 (by unfold inR; decide) (fun c1 => ?_) (fun c1 => ?_)
  · have h := hT1a c1
    refine q_iconst ok dX7_standsAsHub_16 ?_
    exact q_zret ok dX7_standsAsHub_17 (by decide) h
  · have h := hT1b c1
    refine q_iconst ok dX7_standsAsHub_12 ?_
    refine q_goto (tgt := 17) ok dX7_standsAsHub_13 (by decide) ?_
    exact q_zret ok dX7_standsAsHub_17 (by decide) h)
/-! BranchingStory$Story.standsInHub(I)Z -/
def f_X7_standsInHub (c : Nat) (a0 : Int) (σ : St) (Q : St → Int → Prop) : Prop :=
  inR a0 ∧ ((a0 < 0 → Q σ 0) ∧ (¬ a0 < 0 → isS c ∧ inR a0 ∧ inR (σ c 14) ∧ (((σ c 14) ≤ a0 → Q σ 0) ∧ (¬ (σ c 14) ≤ a0 → inR a0 ∧ ((16 ≤ a0 → Q σ 0) ∧ (¬ 16 ≤ a0 → 0 ≤ a0 ∧ a0 < 16 ∧ f_X7_standsAsHub c (σ (c + 16) a0.toNat) σ (fun σ1 r1 => inR r1 ∧ ((r1 = 0 → Q σ1 0) ∧ (¬ r1 = 0 → Q σ1 1)))))))))
set_option maxRecDepth 100000 in
set_option maxHeartbeats 4000000 in
theorem c_X7_standsInHub (l : Launch) (Y : Cy) (hD : ∀ σ, va_D Y.2.2.2 (wsOf KC Y.2.1 Y.2.2.1 σ)) {c : Nat} {a0 : Int} {σ : St} {Q : St → Int → Prop} (h : f_X7_standsInHub c a0 σ Q) : ConI l yX7_standsInHub cX7_standsInHub 2 .boolean (rm0q 1 21) Y KC σ [.inr (.inr c), .inl a0] Q := con_of (lv := [(0, .inr (.inr c)), (1, .inl a0)]) (by decide) hD (Nat.le_of_ble_eq_true rfl) rfl (fun X _ ok => by
  have ok : Ok X Y KC cX7_standsInHub 2 RX7 (rm0q 1 21) (some .boolean) := ok
  unfold f_X7_standsInHub at h
  refine q_iload_n ok dX7_standsInHub_0 1 rfl ?_
  obtain ⟨g1, hT4a, hT4b⟩ := h
  refine q_if_lt (tgt := 35) ok dX7_standsInHub_1 (by decide) g1 (fun c4 => ?_) (fun c4 => ?_)
  · have h := hT4a c4
    refine q_iconst ok dX7_standsInHub_35 ?_
    exact q_zret ok dX7_standsInHub_36 (by decide) h
  · have h := hT4b c4
    refine q_iload_n ok dX7_standsInHub_4 1 rfl ?_
    refine q_aload_n ok dX7_standsInHub_5 0 rfl ?_
    obtain ⟨g2, h⟩ := h
    refine q_getI ok fl_X7_69 (kX7_0 g2) (fIX7_14 c) dX7_standsInHub_6 ?_
    obtain ⟨g3, g4, hT3a, hT3b⟩ := h
    refine q_icmp_ge (tgt := 35) ok dX7_standsInHub_9 (by decide) g3 g4 (fun c3 => ?_) (fun c3 => ?_)
    · have h := hT3a c3
      refine q_iconst ok dX7_standsInHub_35 ?_
      exact q_zret ok dX7_standsInHub_36 (by decide) h
    · have h := hT3b c3
      refine q_iload_n ok dX7_standsInHub_12 1 rfl ?_
      refine q_bipush ok dX7_standsInHub_13 rfl ?_
      obtain ⟨g5, hT2a, hT2b⟩ := h
      refine q_icmp_ge (tgt := 35) ok dX7_standsInHub_15 (by decide) g5 (by unfold inR; decide) (fun c2 => ?_) (fun c2 => ?_)
      · have h := hT2a c2
        refine q_iconst ok dX7_standsInHub_35 ?_
        exact q_zret ok dX7_standsInHub_36 (by decide) h
      · have h := hT2b c2
        refine q_aload_n ok dX7_standsInHub_18 0 rfl ?_
        refine q_aload_n ok dX7_standsInHub_19 0 rfl ?_
        refine q_getC ok fl_X7_52 (kX7_0 g2) (fIX7_16 c) dX7_standsInHub_20 ?_
        refine q_iload_n ok dX7_standsInHub_23 1 rfl ?_
        obtain ⟨g6, g7, h⟩ := h
        refine q_iald ok kC_ok (kX7_16 g2) g6 g7 dX7_standsInHub_24 ?_
        refine q_callVI (st := []) ok cs_X7_79 (kX7_0 g2) rfl (c_X7_standsAsHub X.2.1 Y ok.2.2.2.2.2.2.2.2 h) ⟨rfl, rfl, Nat.le_of_ble_eq_true rfl, Nat.le_of_ble_eq_true rfl⟩ rfl rfl (Nat.le_of_ble_eq_true rfl) dX7_standsInHub_25 (fun σ1 r1 h => ?_)
        obtain ⟨g8, hT1a, hT1b⟩ := h
        refine q_if_eq (tgt := 35) ok dX7_standsInHub_28 (by decide) g8 (fun c1 => ?_) (fun c1 => ?_)
        · have h := hT1a c1
          refine q_iconst ok dX7_standsInHub_35 ?_
          exact q_zret ok dX7_standsInHub_36 (by decide) h
        · have h := hT1b c1
          refine q_iconst ok dX7_standsInHub_31 ?_
          refine q_goto (tgt := 36) ok dX7_standsInHub_32 (by decide) ?_
          exact q_zret ok dX7_standsInHub_36 (by decide) h)
/-! BranchingStory$Reader.begin(LBranchingStory$Story;)V -/
def f_X6_begin (a0 : Nat) (σ : St) (Q : St → Prop) : Prop :=
  ∀ σ1 : St, σ1 = sset σ 38 0 ((a0 : Nat) : Int) → isS ((σ1 38 0).toNat) ∧ f_X7_empty ((σ1 38 0).toNat) σ1 (fun σ2 => ∀ σ3 : St, σ3 = sset σ2 38 1 0 → ∀ σ4 : St, σ4 = sset σ3 38 2 0 → ∀ σ5 : St, σ5 = sset σ4 38 3 0 → f_JA_fillI 39 (-1) σ5 (fun σ6 => Q σ6))
set_option maxRecDepth 100000 in
set_option maxHeartbeats 4000000 in
theorem c_X6_begin (l : Launch) (Y : Cy) (hD : ∀ σ, va_D Y.2.2.2 (wsOf KC Y.2.1 Y.2.2.1 σ)) {a0 : Nat} {σ : St} {Q : St → Prop} (h : f_X6_begin a0 σ Q) : ConV l yX6_begin cX6_begin 2 (rm0q 1 23) Y KC σ [.inr (.inr 38), .inr (.inr a0)] Q := con_of (lv := [(0, .inr (.inr 38)), (1, .inr (.inr a0))]) (by decide) hD (Nat.le_of_ble_eq_true rfl) rfl (fun X _ ok => by
  have ok : Ok X Y KC cX6_begin 2 RX6 (rm0q 1 23) none := ok
  unfold f_X6_begin at h
  refine q_aload_n ok dX6_begin_0 0 rfl ?_
  refine q_aload_n ok dX6_begin_1 1 rfl ?_
  refine q_putR ok fp_X6_28 kC_38 fC_38_0 dX6_begin_2 (wq_s (fun σ1 eσ1 => ?_))
  have h := h σ1 eσ1
  refine q_aload_n ok dX6_begin_5 0 rfl ?_
  refine q_getR ok fl_X6_28 kC_38 fC_38_0 dX6_begin_6 ?_
  obtain ⟨g1, h⟩ := h
  refine q_callVV (st := []) ok cs_X6_74 (kX7_0 g1) rfl (c_X7_empty X.2.1 Y ok.2.2.2.2.2.2.2.2 h) ⟨rfl, rfl, Nat.le_of_ble_eq_true rfl, Nat.le_of_ble_eq_true rfl⟩ rfl rfl (Nat.le_of_ble_eq_true rfl) dX6_begin_9 (fun σ2 h => ?_)
  refine q_aload_n ok dX6_begin_12 0 rfl ?_
  refine q_iconst ok dX6_begin_13 ?_
  refine q_putI ok fp_X6_77 kC_38 fC_38_1 dX6_begin_14 (wq_s (fun σ3 eσ3 => ?_))
  have h := h σ3 eσ3
  refine q_aload_n ok dX6_begin_17 0 rfl ?_
  refine q_iconst ok dX6_begin_18 ?_
  refine q_putI ok fp_X6_80 kC_38 fC_38_2 dX6_begin_19 (wq_s (fun σ4 eσ4 => ?_))
  have h := h σ4 eσ4
  refine q_aload_n ok dX6_begin_22 0 rfl ?_
  refine q_iconst ok dX6_begin_23 ?_
  refine q_putI ok fp_X6_42 kC_38 fC_38_3 dX6_begin_24 (wq_s (fun σ5 eσ5 => ?_))
  have h := h σ5 eσ5
  refine q_aload_n ok dX6_begin_27 0 rfl ?_
  refine q_getC ok fl_X6_9 kC_38 fC_38_9 dX6_begin_28 ?_
  refine q_iconst ok dX6_begin_31 ?_
  refine q_callSV (st := []) ok cs_X6_83 (c_JA_fillI X.2.1 Y ok.2.2.2.2.2.2.2.2 h) ⟨rfl, rfl, Nat.le_of_ble_eq_true rfl, Nat.le_of_ble_eq_true rfl⟩ rfl rfl (Nat.le_of_ble_eq_true rfl) dX6_begin_32 (fun σ6 h => ?_)
  exact q_vret ok dX6_begin_35 h)
/-! BranchingStory$Reader.isDigit(I)Z -/
def f_X6_isDigit (a0 : Int) (σ : St) (Q : St → Int → Prop) : Prop :=
  inR a0 ∧ ((a0 < 48 → Q σ 0) ∧ (¬ a0 < 48 → inR a0 ∧ ((57 < a0 → Q σ 0) ∧ (¬ 57 < a0 → Q σ 1))))
set_option maxRecDepth 100000 in
set_option maxHeartbeats 4000000 in
theorem c_X6_isDigit (l : Launch) (Y : Cy) (hD : ∀ σ, va_D Y.2.2.2 (wsOf KC Y.2.1 Y.2.2.1 σ)) {a0 : Int} {σ : St} {Q : St → Int → Prop} (h : f_X6_isDigit a0 σ Q) : ConI l yX6_isDigit cX6_isDigit 1 .boolean (rm0q 0 0) Y KC σ [.inl a0] Q := con_of (lv := [(0, .inl a0)]) (by decide) hD (Nat.le_of_ble_eq_true rfl) rfl (fun X _ ok => by
  have ok : Ok X Y KC cX6_isDigit 1 RX6 (rm0q 0 0) (some .boolean) := ok
  unfold f_X6_isDigit at h
  refine q_iload_n ok dX6_isDigit_0 0 rfl ?_
  refine q_bipush ok dX6_isDigit_1 rfl ?_
  obtain ⟨g1, hT2a, hT2b⟩ := h
  refine q_icmp_lt (tgt := 16) ok dX6_isDigit_3 (by decide) g1 (by unfold inR; decide) (fun c2 => ?_) (fun c2 => ?_)
  · have h := hT2a c2
    refine q_iconst ok dX6_isDigit_16 ?_
    exact q_zret ok dX6_isDigit_17 (by decide) h
  · have h := hT2b c2
    refine q_iload_n ok dX6_isDigit_6 0 rfl ?_
    refine q_bipush ok dX6_isDigit_7 rfl ?_
    obtain ⟨g2, hT1a, hT1b⟩ := h
    refine q_icmp_gt (tgt := 16) ok dX6_isDigit_9 (by decide) g2 (by unfold inR; decide) (fun c1 => ?_) (fun c1 => ?_)
    · have h := hT1a c1
      refine q_iconst ok dX6_isDigit_16 ?_
      exact q_zret ok dX6_isDigit_17 (by decide) h
    · have h := hT1b c1
      refine q_iconst ok dX6_isDigit_12 ?_
      refine q_goto (tgt := 17) ok dX6_isDigit_13 (by decide) ?_
      exact q_zret ok dX6_isDigit_17 (by decide) h)
/-! BranchingStory$Reader.measureNumber([II)V -/
def f_X6_measureNumber_L19 (Q : St → Prop) : Nat → St → Nat → Int → Int → Prop
  | 0, _, _, _, _ => False
  | n + 1, σ, v1, v2, v3 => inR v3 ∧ inR v2 ∧ ((v2 ≤ v3 → Q σ) ∧ (¬ v2 ≤ v3 → isIA KC v1 ∧ 0 ≤ v3 ∧ v3 < ((alen KC v1 : Nat) : Int) ∧ f_X6_isDigit (σ v1 v3.toNat) σ (fun σ1 r1 => inR r1 ∧ ((r1 = 0 → Q σ1) ∧ (¬ r1 = 0 → ∀ σ2 : St, σ2 = sset σ1 38 5 ((σ1 38 5) + 1) → inR (σ2 38 5) ∧ ((2 < (σ2 38 5) → f_X6_measureNumber_L19 Q n σ2 v1 v2 (v3 + 1)) ∧ (¬ 2 < (σ2 38 5) → 0 ≤ v3 ∧ v3 < ((alen KC v1 : Nat) : Int) ∧ ∀ σ3 : St, σ3 = sset σ2 38 6 (((10 * (σ2 38 6)) + (σ2 v1 v3.toNat)) - 48) → f_X6_measureNumber_L19 Q n σ3 v1 v2 (v3 + 1))))))))
def f_X6_measureNumber (a0 : Nat) (a1 : Int) (σ : St) (Q : St → Prop) : Prop :=
  ∀ σ1 : St, σ1 = sset σ 38 5 0 → ∀ σ2 : St, σ2 = sset σ1 38 6 0 → f_JM_max (σ2 38 3) 0 σ2 (fun σ3 r1 => f_X6_measureNumber_L19 Q FU σ3 a0 a1 r1)
set_option maxRecDepth 100000 in
set_option maxHeartbeats 4000000 in
theorem w_X6_measureNumber_L19 {X : Cx} {Y : Cy} {Q : St → Prop} (ok : Ok X Y KC cX6_measureNumber 4 RX6 (rm0q 1 21) none) : ∀ (n : Nat) (σ : St) (v1 : Nat) (v2 : Int) (v3 : Int) , f_X6_measureNumber_L19 Q n σ v1 v2 v3 → Wq X Y KC 4 (QF X Y (Qvq Y KC Q)) σ 19 [(0, .inr (.inr 38)), (1, .inr (.inr v1)), (2, .inl v2), (3, .inl v3)] [] := by
  intro n
  induction n with
  | zero => intro σ v1 v2 v3 h; exact h.elim
  | succ n ih =>
    intro σ v1 v2 v3 h
    rw [f_X6_measureNumber_L19] at h
    refine q_iload_n ok dX6_measureNumber_19 3 rfl ?_
    refine q_iload_n ok dX6_measureNumber_20 2 rfl ?_
    obtain ⟨g1, g2, hT3a, hT3b⟩ := h
    refine q_icmp_ge (tgt := 75) ok dX6_measureNumber_21 (by decide) g1 g2 (fun c3 => ?_) (fun c3 => ?_)
    · have h := hT3a c3
      exact q_vret ok dX6_measureNumber_75 h
    · have h := hT3b c3
      refine q_aload_n ok dX6_measureNumber_24 1 rfl ?_
      refine q_iload_n ok dX6_measureNumber_25 3 rfl ?_
      obtain ⟨g3, h⟩ := h
      obtain ⟨g4, g5, h⟩ := h
      refine q_iald ok kC_ok g3 g4 g5 dX6_measureNumber_26 ?_
      refine q_callSI (st := []) ok cs_X6_97 (c_X6_isDigit X.2.1 Y ok.2.2.2.2.2.2.2.2 h) ⟨rfl, rfl, Nat.le_of_ble_eq_true rfl, Nat.le_of_ble_eq_true rfl⟩ rfl rfl (Nat.le_of_ble_eq_true rfl) dX6_measureNumber_27 (fun σ1 r1 h => ?_)
      obtain ⟨g6, hT2a, hT2b⟩ := h
      refine q_if_eq (tgt := 75) ok dX6_measureNumber_30 (by decide) g6 (fun c2 => ?_) (fun c2 => ?_)
      · have h := hT2a c2
        exact q_vret ok dX6_measureNumber_75 h
      · have h := hT2b c2
        refine q_aload_n ok dX6_measureNumber_33 0 rfl ?_
        refine q_dup ok dX6_measureNumber_34 rfl ?_
        refine q_getI ok fl_X6_88 kC_38 fC_38_5 dX6_measureNumber_35 ?_
        refine q_iconst ok dX6_measureNumber_38 ?_
        refine q_iadd ok dX6_measureNumber_39 ?_
        refine q_putI ok fp_X6_88 kC_38 fC_38_5 dX6_measureNumber_40 (wq_s (fun σ2 eσ2 => ?_))
        have h := h σ2 eσ2
        refine q_aload_n ok dX6_measureNumber_43 0 rfl ?_
        refine q_getI ok fl_X6_88 kC_38 fC_38_5 dX6_measureNumber_44 ?_
        refine q_iconst ok dX6_measureNumber_47 ?_
        obtain ⟨g7, hT1a, hT1b⟩ := h
        refine q_icmp_gt (tgt := 69) ok dX6_measureNumber_48 (by decide) g7 (by unfold inR; decide) (fun c1 => ?_) (fun c1 => ?_)
        · have h := hT1a c1
          refine q_iinc (lv' := [(3, .inl (v3 + 1)), (0, .inr (.inr 38)), (1, .inr (.inr v1)), (2, .inl v2)]) ok dX6_measureNumber_69 3 rfl (by decide) rfl ?_
          refine q_goto (tgt := 19) ok dX6_measureNumber_72 (by decide) ?_
          refine q_sub [1, 2, 3, 0] rfl ?_
          exact ih σ2 v1 v2 (v3 + 1) h
        · have h := hT1b c1
          refine q_aload_n ok dX6_measureNumber_51 0 rfl ?_
          refine q_bipush ok dX6_measureNumber_52 rfl ?_
          refine q_aload_n ok dX6_measureNumber_54 0 rfl ?_
          refine q_getI ok fl_X6_91 kC_38 fC_38_6 dX6_measureNumber_55 ?_
          refine q_imul ok dX6_measureNumber_58 ?_
          refine q_aload_n ok dX6_measureNumber_59 1 rfl ?_
          refine q_iload_n ok dX6_measureNumber_60 3 rfl ?_
          obtain ⟨g8, g9, h⟩ := h
          refine q_iald ok kC_ok g3 g8 g9 dX6_measureNumber_61 ?_
          refine q_iadd ok dX6_measureNumber_62 ?_
          refine q_bipush ok dX6_measureNumber_63 rfl ?_
          refine q_isub ok dX6_measureNumber_65 ?_
          refine q_putI ok fp_X6_91 kC_38 fC_38_6 dX6_measureNumber_66 (wq_s (fun σ3 eσ3 => ?_))
          have h := h σ3 eσ3
          refine q_iinc (lv' := [(3, .inl (v3 + 1)), (0, .inr (.inr 38)), (1, .inr (.inr v1)), (2, .inl v2)]) ok dX6_measureNumber_69 3 rfl (by decide) rfl ?_
          refine q_goto (tgt := 19) ok dX6_measureNumber_72 (by decide) ?_
          refine q_sub [1, 2, 3, 0] rfl ?_
          exact ih σ3 v1 v2 (v3 + 1) h
set_option maxRecDepth 100000 in
set_option maxHeartbeats 4000000 in
theorem c_X6_measureNumber (l : Launch) (Y : Cy) (hD : ∀ σ, va_D Y.2.2.2 (wsOf KC Y.2.1 Y.2.2.1 σ)) {a0 : Nat} {a1 : Int} {σ : St} {Q : St → Prop} (h : f_X6_measureNumber a0 a1 σ Q) : ConV l yX6_measureNumber cX6_measureNumber 4 (rm0q 1 21) Y KC σ [.inr (.inr 38), .inr (.inr a0), .inl a1] Q := con_of (lv := [(0, .inr (.inr 38)), (1, .inr (.inr a0)), (2, .inl a1)]) (by decide) hD (Nat.le_of_ble_eq_true rfl) rfl (fun X _ ok => by
  have ok : Ok X Y KC cX6_measureNumber 4 RX6 (rm0q 1 21) none := ok
  unfold f_X6_measureNumber at h
  refine q_aload_n ok dX6_measureNumber_0 0 rfl ?_
  refine q_iconst ok dX6_measureNumber_1 ?_
  refine q_putI ok fp_X6_88 kC_38 fC_38_5 dX6_measureNumber_2 (wq_s (fun σ1 eσ1 => ?_))
  have h := h σ1 eσ1
  refine q_aload_n ok dX6_measureNumber_5 0 rfl ?_
  refine q_iconst ok dX6_measureNumber_6 ?_
  refine q_putI ok fp_X6_91 kC_38 fC_38_6 dX6_measureNumber_7 (wq_s (fun σ2 eσ2 => ?_))
  have h := h σ2 eσ2
  refine q_aload_n ok dX6_measureNumber_10 0 rfl ?_
  refine q_getI ok fl_X6_42 kC_38 fC_38_3 dX6_measureNumber_11 ?_
  refine q_iconst ok dX6_measureNumber_14 ?_
  refine q_callSI (st := []) ok cs_X6_94 (c_JM_max X.2.1 Y ok.2.2.2.2.2.2.2.2 h) ⟨rfl, rfl, Nat.le_of_ble_eq_true rfl, Nat.le_of_ble_eq_true rfl⟩ rfl rfl (Nat.le_of_ble_eq_true rfl) dX6_measureNumber_15 (fun σ3 r1 h => ?_)
  refine q_istore_n (lv' := [(3, .inl r1), (0, .inr (.inr 38)), (1, .inr (.inr a0)), (2, .inl a1)]) ok dX6_measureNumber_18 (by decide) rfl ?_
  refine q_sub [1, 2, 3, 0] rfl ?_
  exact w_X6_measureNumber_L19 ok FU σ3 a0 a1 r1 h)
