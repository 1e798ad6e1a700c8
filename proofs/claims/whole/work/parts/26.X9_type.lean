theorem dX9_type_0 : decode cX9_type 0 = .ok (.iload_n 1, 1) := by decide +kernel
theorem dX9_type_1 : decode cX9_type 1 = .ok (.ifCond .lt 10, 3) := by decide +kernel
theorem dX9_type_4 : decode cX9_type 4 = .ok (.iload_n 1, 1) := by decide +kernel
theorem dX9_type_5 : decode cX9_type 5 = .ok (.sipush 255, 3) := by decide +kernel
theorem dX9_type_8 : decode cX9_type 8 = .ok (.if_icmp .le 13, 3) := by decide +kernel
theorem dX9_type_11 : decode cX9_type 11 = .ok (.new 60, 3) := by decide +kernel
theorem dX9_type_14 : decode cX9_type 14 = .ok (.dup, 1) := by decide +kernel
theorem dX9_type_15 : decode cX9_type 15 = .ok (.ldc 62, 2) := by decide +kernel
theorem dX9_type_17 : decode cX9_type 17 = .ok (.invokespecial 64, 3) := by decide +kernel
theorem dX9_type_20 : decode cX9_type 20 = .ok (.athrow, 1) := by decide +kernel
theorem dX9_type_21 : decode cX9_type 21 = .ok (.aload_n 0, 1) := by decide +kernel
theorem dX9_type_22 : decode cX9_type 22 = .ok (.getfield 67, 3) := by decide +kernel
theorem dX9_type_25 : decode cX9_type 25 = .ok (.ifCond .lt 15, 3) := by decide +kernel
theorem dX9_type_28 : decode cX9_type 28 = .ok (.aload_n 0, 1) := by decide +kernel
theorem dX9_type_29 : decode cX9_type 29 = .ok (.getfield 67, 3) := by decide +kernel
theorem dX9_type_32 : decode cX9_type 32 = .ok (.aload_n 0, 1) := by decide +kernel
theorem dX9_type_33 : decode cX9_type 33 = .ok (.getfield 9, 3) := by decide +kernel
theorem dX9_type_36 : decode cX9_type 36 = .ok (.arraylength, 1) := by decide +kernel
theorem dX9_type_37 : decode cX9_type 37 = .ok (.if_icmp .lt 13, 3) := by decide +kernel
theorem dX9_type_40 : decode cX9_type 40 = .ok (.new 71, 3) := by decide +kernel
theorem dX9_type_43 : decode cX9_type 43 = .ok (.dup, 1) := by decide +kernel
theorem dX9_type_44 : decode cX9_type 44 = .ok (.ldc 73, 2) := by decide +kernel
theorem dX9_type_46 : decode cX9_type 46 = .ok (.invokespecial 75, 3) := by decide +kernel
theorem dX9_type_49 : decode cX9_type 49 = .ok (.athrow, 1) := by decide +kernel
theorem dX9_type_50 : decode cX9_type 50 = .ok (.aload_n 0, 1) := by decide +kernel
theorem dX9_type_51 : decode cX9_type 51 = .ok (.getfield 9, 3) := by decide +kernel
theorem dX9_type_54 : decode cX9_type 54 = .ok (.aload_n 0, 1) := by decide +kernel
theorem dX9_type_55 : decode cX9_type 55 = .ok (.getfield 67, 3) := by decide +kernel
theorem dX9_type_58 : decode cX9_type 58 = .ok (.iload_n 1, 1) := by decide +kernel
theorem dX9_type_59 : decode cX9_type 59 = .ok (.iastore, 1) := by decide +kernel
theorem dX9_type_60 : decode cX9_type 60 = .ok (.aload_n 0, 1) := by decide +kernel
theorem dX9_type_61 : decode cX9_type 61 = .ok (.dup, 1) := by decide +kernel
theorem dX9_type_62 : decode cX9_type 62 = .ok (.getfield 67, 3) := by decide +kernel
theorem dX9_type_65 : decode cX9_type 65 = .ok (.iconst 1, 1) := by decide +kernel
theorem dX9_type_66 : decode cX9_type 66 = .ok (.iadd, 1) := by decide +kernel
theorem dX9_type_67 : decode cX9_type 67 = .ok (.putfield 67, 3) := by decide +kernel
theorem dX9_type_70 : decode cX9_type 70 = .ok (.aload_n 0, 1) := by decide +kernel
theorem dX9_type_71 : decode cX9_type 71 = .ok (.getfield 67, 3) := by decide +kernel
theorem dX9_type_74 : decode cX9_type 74 = .ok (.ireturn, 1) := by decide +kernel
theorem dX9_build_0 : decode cX9_build 0 = .ok (.aload_n 0, 1) := by decide +kernel
theorem dX9_build_1 : decode cX9_build 1 = .ok (.getfield 28, 3) := by decide +kernel
theorem dX9_build_4 : decode cX9_build 4 = .ok (.aload_n 0, 1) := by decide +kernel
theorem dX9_build_5 : decode cX9_build 5 = .ok (.getfield 9, 3) := by decide +kernel
theorem dX9_build_8 : decode cX9_build 8 = .ok (.aload_n 0, 1) := by decide +kernel
theorem dX9_build_9 : decode cX9_build 9 = .ok (.getfield 67, 3) := by decide +kernel
theorem dX9_build_12 : decode cX9_build 12 = .ok (.aload_n 0, 1) := by decide +kernel
theorem dX9_build_13 : decode cX9_build 13 = .ok (.getfield 20, 3) := by decide +kernel
theorem dX9_build_16 : decode cX9_build 16 = .ok (.invokevirtual 76, 3) := by decide +kernel
theorem dX9_build_19 : decode cX9_build 19 = .ok (.iconst (-1), 1) := by decide +kernel
theorem dX9_build_20 : decode cX9_build 20 = .ok (.if_icmp .eq 13, 3) := by decide +kernel
theorem dX9_build_23 : decode cX9_build 23 = .ok (.new 71, 3) := by decide +kernel
theorem dX9_build_26 : decode cX9_build 26 = .ok (.dup, 1) := by decide +kernel
theorem dX9_build_27 : decode cX9_build 27 = .ok (.ldc 80, 2) := by decide +kernel
theorem dX9_build_29 : decode cX9_build 29 = .ok (.invokespecial 75, 3) := by decide +kernel
theorem dX9_build_32 : decode cX9_build 32 = .ok (.athrow, 1) := by decide +kernel
theorem dX9_build_33 : decode cX9_build 33 = .ok (.aload_n 0, 1) := by decide +kernel
theorem dX9_build_34 : decode cX9_build 34 = .ok (.getfield 16, 3) := by decide +kernel
theorem dX9_build_37 : decode cX9_build 37 = .ok (.astore_n 1, 1) := by decide +kernel
theorem dX9_build_38 : decode cX9_build 38 = .ok (.aload_n 0, 1) := by decide +kernel
theorem dX9_build_39 : decode cX9_build 39 = .ok (.aload_n 0, 1) := by decide +kernel
theorem dX9_build_40 : decode cX9_build 40 = .ok (.getfield 20, 3) := by decide +kernel
theorem dX9_build_43 : decode cX9_build 43 = .ok (.putfield 16, 3) := by decide +kernel
theorem dX9_build_46 : decode cX9_build 46 = .ok (.aload_n 0, 1) := by decide +kernel
theorem dX9_build_47 : decode cX9_build 47 = .ok (.aload_n 1, 1) := by decide +kernel
theorem dX9_build_48 : decode cX9_build 48 = .ok (.putfield 20, 3) := by decide +kernel
theorem dX9_build_51 : decode cX9_build 51 = .ok (.aload_n 0, 1) := by decide +kernel
theorem dX9_build_52 : decode cX9_build 52 = .ok (.getfield 35, 3) := by decide +kernel
theorem dX9_build_55 : decode cX9_build 55 = .ok (.aload_n 0, 1) := by decide +kernel
theorem dX9_build_56 : decode cX9_build 56 = .ok (.getfield 16, 3) := by decide +kernel
theorem dX9_build_59 : decode cX9_build 59 = .ok (.invokevirtual 82, 3) := by decide +kernel
theorem dX9_build_62 : decode cX9_build 62 = .ok (.aload_n 0, 1) := by decide +kernel
theorem dX9_build_63 : decode cX9_build 63 = .ok (.getfield 42, 3) := by decide +kernel
theorem dX9_build_66 : decode cX9_build 66 = .ok (.invokevirtual 85, 3) := by decide +kernel
theorem dX9_build_69 : decode cX9_build 69 = .ok (.aload_n 0, 1) := by decide +kernel
theorem dX9_build_70 : decode cX9_build 70 = .ok (.getfield 49, 3) := by decide +kernel
theorem dX9_build_73 : decode cX9_build 73 = .ok (.aload_n 0, 1) := by decide +kernel
theorem dX9_build_74 : decode cX9_build 74 = .ok (.getfield 16, 3) := by decide +kernel
theorem dX9_build_77 : decode cX9_build 77 = .ok (.invokevirtual 87, 3) := by decide +kernel
theorem dX9_build_80 : decode cX9_build 80 = .ok (.aload_n 0, 1) := by decide +kernel
theorem dX9_build_81 : decode cX9_build 81 = .ok (.getfield 56, 3) := by decide +kernel
theorem dX9_build_84 : decode cX9_build 84 = .ok (.aload_n 0, 1) := by decide +kernel
theorem dX9_build_85 : decode cX9_build 85 = .ok (.getfield 16, 3) := by decide +kernel
theorem dX9_build_88 : decode cX9_build 88 = .ok (.invokevirtual 88, 3) := by decide +kernel
theorem dX9_build_91 : decode cX9_build 91 = .ok (.aload_n 0, 1) := by decide +kernel
theorem dX9_build_92 : decode cX9_build 92 = .ok (.getfield 16, 3) := by decide +kernel
theorem dX9_build_95 : decode cX9_build 95 = .ok (.getfield 89, 3) := by decide +kernel
theorem dX9_build_98 : decode cX9_build 98 = .ok (.ireturn, 1) := by decide +kernel
theorem dX9_count_0 : decode cX9_count 0 = .ok (.iload_n 1, 1) := by decide +kernel
theorem dX9_count_1 : decode cX9_count 1 = .ok (.tableswitch 51 0 2 #[27, 35, 43], 27) := by decide +kernel
theorem dX9_count_28 : decode cX9_count 28 = .ok (.aload_n 0, 1) := by decide +kernel
theorem dX9_count_29 : decode cX9_count 29 = .ok (.getfield 16, 3) := by decide +kernel
theorem dX9_count_32 : decode cX9_count 32 = .ok (.getfield 89, 3) := by decide +kernel
theorem dX9_count_35 : decode cX9_count 35 = .ok (.ireturn, 1) := by decide +kernel
theorem dX9_count_36 : decode cX9_count 36 = .ok (.aload_n 0, 1) := by decide +kernel
theorem dX9_count_37 : decode cX9_count 37 = .ok (.getfield 16, 3) := by decide +kernel
theorem dX9_count_40 : decode cX9_count 40 = .ok (.getfield 92, 3) := by decide +kernel
theorem dX9_count_43 : decode cX9_count 43 = .ok (.ireturn, 1) := by decide +kernel
theorem dX9_count_44 : decode cX9_count 44 = .ok (.aload_n 0, 1) := by decide +kernel
theorem dX9_count_45 : decode cX9_count 45 = .ok (.getfield 16, 3) := by decide +kernel
theorem dX9_count_48 : decode cX9_count 48 = .ok (.getfield 95, 3) := by decide +kernel
theorem dX9_count_51 : decode cX9_count 51 = .ok (.ireturn, 1) := by decide +kernel
theorem dX9_count_52 : decode cX9_count 52 = .ok (.new 60, 3) := by decide +kernel
theorem dX9_count_55 : decode cX9_count 55 = .ok (.dup, 1) := by decide +kernel
theorem dX9_count_56 : decode cX9_count 56 = .ok (.ldc 98, 2) := by decide +kernel
theorem dX9_count_58 : decode cX9_count 58 = .ok (.invokespecial 64, 3) := by decide +kernel
theorem dX9_count_61 : decode cX9_count 61 = .ok (.athrow, 1) := by decide +kernel
theorem dX9_needNode_0 : decode cX9_needNode 0 = .ok (.iload_n 1, 1) := by decide +kernel
theorem dX9_needNode_1 : decode cX9_needNode 1 = .ok (.ifCond .lt 20, 3) := by decide +kernel
theorem dX9_needNode_4 : decode cX9_needNode 4 = .ok (.iload_n 1, 1) := by decide +kernel
theorem dX9_needNode_5 : decode cX9_needNode 5 = .ok (.aload_n 0, 1) := by decide +kernel
theorem dX9_needNode_6 : decode cX9_needNode 6 = .ok (.getfield 16, 3) := by decide +kernel
theorem dX9_needNode_9 : decode cX9_needNode 9 = .ok (.getfield 89, 3) := by decide +kernel
theorem dX9_needNode_12 : decode cX9_needNode 12 = .ok (.if_icmp .ge 9, 3) := by decide +kernel
theorem dX9_needNode_15 : decode cX9_needNode 15 = .ok (.iload_n 1, 1) := by decide +kernel
theorem dX9_needNode_16 : decode cX9_needNode 16 = .ok (.bipush 12, 2) := by decide +kernel
theorem dX9_needNode_18 : decode cX9_needNode 18 = .ok (.if_icmp .lt 14, 3) := by decide +kernel
theorem dX9_needNode_21 : decode cX9_needNode 21 = .ok (.new 222, 3) := by decide +kernel
theorem dX9_needNode_24 : decode cX9_needNode 24 = .ok (.dup, 1) := by decide +kernel
theorem dX9_needNode_25 : decode cX9_needNode 25 = .ok (.ldc_w 303, 3) := by decide +kernel
theorem dX9_needNode_28 : decode cX9_needNode 28 = .ok (.invokespecial 226, 3) := by decide +kernel
theorem dX9_needNode_31 : decode cX9_needNode 31 = .ok (.athrow, 1) := by decide +kernel
theorem dX9_needNode_32 : decode cX9_needNode 32 = .ok (.return_, 1) := by decide +kernel
theorem dX9_name_0 : decode cX9_name 0 = .ok (.aload_n 0, 1) := by decide +kernel
theorem dX9_name_1 : decode cX9_name 1 = .ok (.iload_n 1, 1) := by decide +kernel
theorem dX9_name_2 : decode cX9_name 2 = .ok (.invokevirtual 100, 3) := by decide +kernel
theorem dX9_name_5 : decode cX9_name 5 = .ok (.aload_n 0, 1) := by decide +kernel
theorem dX9_name_6 : decode cX9_name 6 = .ok (.getfield 16, 3) := by decide +kernel
theorem dX9_name_9 : decode cX9_name 9 = .ok (.getfield 104, 3) := by decide +kernel
theorem dX9_name_12 : decode cX9_name 12 = .ok (.iload_n 1, 1) := by decide +kernel
theorem dX9_name_13 : decode cX9_name 13 = .ok (.iaload, 1) := by decide +kernel
theorem dX9_name_14 : decode cX9_name 14 = .ok (.ireturn, 1) := by decide +kernel
theorem dX9_isHub_0 : decode cX9_isHub 0 = .ok (.aload_n 0, 1) := by decide +kernel
theorem dX9_isHub_1 : decode cX9_isHub 1 = .ok (.iload_n 1, 1) := by decide +kernel
theorem dX9_isHub_2 : decode cX9_isHub 2 = .ok (.invokevirtual 100, 3) := by decide +kernel
theorem dX9_isHub_5 : decode cX9_isHub 5 = .ok (.aload_n 0, 1) := by decide +kernel
theorem dX9_isHub_6 : decode cX9_isHub 6 = .ok (.getfield 16, 3) := by decide +kernel
theorem dX9_isHub_9 : decode cX9_isHub 9 = .ok (.iload_n 1, 1) := by decide +kernel
theorem dX9_isHub_10 : decode cX9_isHub 10 = .ok (.invokevirtual 107, 3) := by decide +kernel
theorem dX9_isHub_13 : decode cX9_isHub 13 = .ok (.ireturn, 1) := by decide +kernel
theorem dX9_needChoice_0 : decode cX9_needChoice 0 = .ok (.iload_n 1, 1) := by decide +kernel
theorem dX9_needChoice_1 : decode cX9_needChoice 1 = .ok (.ifCond .lt 20, 3) := by decide +kernel
theorem dX9_needChoice_4 : decode cX9_needChoice 4 = .ok (.iload_n 1, 1) := by decide +kernel
theorem dX9_needChoice_5 : decode cX9_needChoice 5 = .ok (.aload_n 0, 1) := by decide +kernel
theorem dX9_needChoice_6 : decode cX9_needChoice 6 = .ok (.getfield 16, 3) := by decide +kernel
theorem dX9_needChoice_9 : decode cX9_needChoice 9 = .ok (.getfield 92, 3) := by decide +kernel
theorem dX9_needChoice_12 : decode cX9_needChoice 12 = .ok (.if_icmp .ge 9, 3) := by decide +kernel
theorem dX9_needChoice_15 : decode cX9_needChoice 15 = .ok (.iload_n 1, 1) := by decide +kernel
theorem dX9_needChoice_16 : decode cX9_needChoice 16 = .ok (.bipush 16, 2) := by decide +kernel
theorem dX9_needChoice_18 : decode cX9_needChoice 18 = .ok (.if_icmp .lt 14, 3) := by decide +kernel
theorem dX9_needChoice_21 : decode cX9_needChoice 21 = .ok (.new 222, 3) := by decide +kernel
theorem dX9_needChoice_24 : decode cX9_needChoice 24 = .ok (.dup, 1) := by decide +kernel
theorem dX9_needChoice_25 : decode cX9_needChoice 25 = .ok (.ldc_w 305, 3) := by decide +kernel
theorem dX9_needChoice_28 : decode cX9_needChoice 28 = .ok (.invokespecial 226, 3) := by decide +kernel
theorem dX9_needChoice_31 : decode cX9_needChoice 31 = .ok (.athrow, 1) := by decide +kernel
theorem dX9_needChoice_32 : decode cX9_needChoice 32 = .ok (.return_, 1) := by decide +kernel
theorem dX9_label_0 : decode cX9_label 0 = .ok (.aload_n 0, 1) := by decide +kernel
theorem dX9_label_1 : decode cX9_label 1 = .ok (.iload_n 1, 1) := by decide +kernel
theorem dX9_label_2 : decode cX9_label 2 = .ok (.invokevirtual 111, 3) := by decide +kernel
theorem dX9_label_5 : decode cX9_label 5 = .ok (.aload_n 0, 1) := by decide +kernel
theorem dX9_label_6 : decode cX9_label 6 = .ok (.getfield 16, 3) := by decide +kernel
theorem dX9_label_9 : decode cX9_label 9 = .ok (.getfield 114, 3) := by decide +kernel
theorem dX9_label_12 : decode cX9_label 12 = .ok (.iload_n 1, 1) := by decide +kernel
theorem dX9_label_13 : decode cX9_label 13 = .ok (.iaload, 1) := by decide +kernel
theorem dX9_label_14 : decode cX9_label 14 = .ok (.ireturn, 1) := by decide +kernel
theorem dX9_nodeOf_0 : decode cX9_nodeOf 0 = .ok (.aload_n 0, 1) := by decide +kernel
theorem dX9_nodeOf_1 : decode cX9_nodeOf 1 = .ok (.iload_n 1, 1) := by decide +kernel
theorem dX9_nodeOf_2 : decode cX9_nodeOf 2 = .ok (.invokevirtual 111, 3) := by decide +kernel
theorem dX9_nodeOf_5 : decode cX9_nodeOf 5 = .ok (.aload_n 0, 1) := by decide +kernel
theorem dX9_nodeOf_6 : decode cX9_nodeOf 6 = .ok (.getfield 16, 3) := by decide +kernel
theorem dX9_nodeOf_9 : decode cX9_nodeOf 9 = .ok (.getfield 117, 3) := by decide +kernel
theorem dX9_nodeOf_12 : decode cX9_nodeOf 12 = .ok (.iload_n 1, 1) := by decide +kernel
theorem dX9_nodeOf_13 : decode cX9_nodeOf 13 = .ok (.iaload, 1) := by decide +kernel
theorem dX9_nodeOf_14 : decode cX9_nodeOf 14 = .ok (.ireturn, 1) := by decide +kernel
theorem dX9_needStory_0 : decode cX9_needStory 0 = .ok (.aload_n 0, 1) := by decide +kernel
theorem dX9_needStory_1 : decode cX9_needStory 1 = .ok (.getfield 16, 3) := by decide +kernel
theorem dX9_needStory_4 : decode cX9_needStory 4 = .ok (.getfield 89, 3) := by decide +kernel
theorem dX9_needStory_7 : decode cX9_needStory 7 = .ok (.ifCond .ne 14, 3) := by decide +kernel
theorem dX9_needStory_10 : decode cX9_needStory 10 = .ok (.new 71, 3) := by decide +kernel
theorem dX9_needStory_13 : decode cX9_needStory 13 = .ok (.dup, 1) := by decide +kernel
theorem dX9_needStory_14 : decode cX9_needStory 14 = .ok (.ldc_w 291, 3) := by decide +kernel
theorem dX9_needStory_17 : decode cX9_needStory 17 = .ok (.invokespecial 75, 3) := by decide +kernel
theorem dX9_needStory_20 : decode cX9_needStory 20 = .ok (.athrow, 1) := by decide +kernel
theorem dX9_needStory_21 : decode cX9_needStory 21 = .ok (.return_, 1) := by decide +kernel
theorem dX9_start_0 : decode cX9_start 0 = .ok (.aload_n 0, 1) := by decide +kernel
theorem dX9_start_1 : decode cX9_start 1 = .ok (.invokevirtual 120, 3) := by decide +kernel
theorem dX9_start_4 : decode cX9_start 4 = .ok (.aload_n 0, 1) := by decide +kernel
theorem dX9_start_5 : decode cX9_start 5 = .ok (.getfield 42, 3) := by decide +kernel
theorem dX9_start_8 : decode cX9_start 8 = .ok (.invokevirtual 85, 3) := by decide +kernel
theorem dX9_start_11 : decode cX9_start 11 = .ok (.aload_n 0, 1) := by decide +kernel
theorem dX9_start_12 : decode cX9_start 12 = .ok (.getfield 35, 3) := by decide +kernel
theorem dX9_start_15 : decode cX9_start 15 = .ok (.aload_n 0, 1) := by decide +kernel
theorem dX9_start_16 : decode cX9_start 16 = .ok (.getfield 16, 3) := by decide +kernel
theorem dX9_start_19 : decode cX9_start 19 = .ok (.invokevirtual 123, 3) := by decide +kernel
theorem dX9_start_22 : decode cX9_start 22 = .ok (.aload_n 0, 1) := by decide +kernel
theorem dX9_start_23 : decode cX9_start 23 = .ok (.getfield 35, 3) := by decide +kernel
theorem dX9_start_26 : decode cX9_start 26 = .ok (.getfield 126, 3) := by decide +kernel
theorem dX9_start_29 : decode cX9_start 29 = .ok (.ireturn, 1) := by decide +kernel
theorem dX9_needPosition_0 : decode cX9_needPosition 0 = .ok (.iload_n 1, 1) := by decide +kernel
theorem dX9_needPosition_1 : decode cX9_needPosition 1 = .ok (.ifCond .lt 17, 3) := by decide +kernel
theorem dX9_needPosition_4 : decode cX9_needPosition 4 = .ok (.iload_n 1, 1) := by decide +kernel
theorem dX9_needPosition_5 : decode cX9_needPosition 5 = .ok (.aload_n 0, 1) := by decide +kernel
theorem dX9_needPosition_6 : decode cX9_needPosition 6 = .ok (.getfield 35, 3) := by decide +kernel
theorem dX9_needPosition_9 : decode cX9_needPosition 9 = .ok (.getfield 158, 3) := by decide +kernel
theorem dX9_needPosition_12 : decode cX9_needPosition 12 = .ok (.invokestatic 161, 3) := by decide +kernel
theorem dX9_needPosition_15 : decode cX9_needPosition 15 = .ok (.if_icmp .lt 14, 3) := by decide +kernel
theorem dX9_needPosition_18 : decode cX9_needPosition 18 = .ok (.new 222, 3) := by decide +kernel
theorem dX9_needPosition_21 : decode cX9_needPosition 21 = .ok (.dup, 1) := by decide +kernel
theorem dX9_needPosition_22 : decode cX9_needPosition 22 = .ok (.ldc_w 307, 3) := by decide +kernel
theorem dX9_needPosition_25 : decode cX9_needPosition 25 = .ok (.invokespecial 226, 3) := by decide +kernel
theorem dX9_needPosition_28 : decode cX9_needPosition 28 = .ok (.athrow, 1) := by decide +kernel
theorem dX9_needPosition_29 : decode cX9_needPosition 29 = .ok (.return_, 1) := by decide +kernel
theorem dX9_choose_0 : decode cX9_choose 0 = .ok (.aload_n 0, 1) := by decide +kernel
theorem dX9_choose_1 : decode cX9_choose 1 = .ok (.getfield 35, 3) := by decide +kernel
theorem dX9_choose_4 : decode cX9_choose 4 = .ok (.getfield 126, 3) := by decide +kernel
theorem dX9_choose_7 : decode cX9_choose 7 = .ok (.iconst 1, 1) := by decide +kernel
theorem dX9_choose_8 : decode cX9_choose 8 = .ok (.if_icmp .eq 13, 3) := by decide +kernel
theorem dX9_choose_11 : decode cX9_choose 11 = .ok (.new 71, 3) := by decide +kernel
theorem dX9_choose_14 : decode cX9_choose 14 = .ok (.dup, 1) := by decide +kernel
theorem dX9_choose_15 : decode cX9_choose 15 = .ok (.ldc 129, 2) := by decide +kernel
theorem dX9_choose_17 : decode cX9_choose 17 = .ok (.invokespecial 75, 3) := by decide +kernel
theorem dX9_choose_20 : decode cX9_choose 20 = .ok (.athrow, 1) := by decide +kernel
theorem dX9_choose_21 : decode cX9_choose 21 = .ok (.aload_n 0, 1) := by decide +kernel
theorem dX9_choose_22 : decode cX9_choose 22 = .ok (.iload_n 1, 1) := by decide +kernel
theorem dX9_choose_23 : decode cX9_choose 23 = .ok (.invokevirtual 131, 3) := by decide +kernel
theorem dX9_choose_26 : decode cX9_choose 26 = .ok (.aload_n 0, 1) := by decide +kernel
theorem dX9_choose_27 : decode cX9_choose 27 = .ok (.getfield 42, 3) := by decide +kernel
theorem dX9_choose_30 : decode cX9_choose 30 = .ok (.aload_n 0, 1) := by decide +kernel
theorem dX9_choose_31 : decode cX9_choose 31 = .ok (.getfield 35, 3) := by decide +kernel
theorem dX9_choose_34 : decode cX9_choose 34 = .ok (.invokevirtual 134, 3) := by decide +kernel
theorem dX9_choose_37 : decode cX9_choose 37 = .ok (.aload_n 0, 1) := by decide +kernel
theorem dX9_choose_38 : decode cX9_choose 38 = .ok (.getfield 35, 3) := by decide +kernel
theorem dX9_choose_41 : decode cX9_choose 41 = .ok (.iload_n 1, 1) := by decide +kernel
theorem dX9_choose_42 : decode cX9_choose 42 = .ok (.invokevirtual 138, 3) := by decide +kernel
theorem dX9_choose_45 : decode cX9_choose 45 = .ok (.aload_n 0, 1) := by decide +kernel
theorem dX9_choose_46 : decode cX9_choose 46 = .ok (.getfield 35, 3) := by decide +kernel
theorem dX9_choose_49 : decode cX9_choose 49 = .ok (.getfield 126, 3) := by decide +kernel
theorem dX9_choose_52 : decode cX9_choose 52 = .ok (.ireturn, 1) := by decide +kernel
theorem dX9_back_0 : decode cX9_back 0 = .ok (.aload_n 0, 1) := by decide +kernel
theorem dX9_back_1 : decode cX9_back 1 = .ok (.getfield 42, 3) := by decide +kernel
theorem dX9_back_4 : decode cX9_back 4 = .ok (.getfield 141, 3) := by decide +kernel
theorem dX9_back_7 : decode cX9_back 7 = .ok (.ifCond .ne 13, 3) := by decide +kernel
theorem dX9_back_10 : decode cX9_back 10 = .ok (.new 71, 3) := by decide +kernel
theorem dX9_back_13 : decode cX9_back 13 = .ok (.dup, 1) := by decide +kernel
theorem dX9_back_14 : decode cX9_back 14 = .ok (.ldc 144, 2) := by decide +kernel
theorem dX9_back_16 : decode cX9_back 16 = .ok (.invokespecial 75, 3) := by decide +kernel
theorem dX9_back_19 : decode cX9_back 19 = .ok (.athrow, 1) := by decide +kernel
theorem dX9_back_20 : decode cX9_back 20 = .ok (.aload_n 0, 1) := by decide +kernel
theorem dX9_back_21 : decode cX9_back 21 = .ok (.getfield 42, 3) := by decide +kernel
theorem dX9_back_24 : decode cX9_back 24 = .ok (.aload_n 0, 1) := by decide +kernel
theorem dX9_back_25 : decode cX9_back 25 = .ok (.getfield 35, 3) := by decide +kernel
theorem dX9_back_28 : decode cX9_back 28 = .ok (.invokevirtual 146, 3) := by decide +kernel
theorem dX9_back_31 : decode cX9_back 31 = .ok (.aload_n 0, 1) := by decide +kernel
theorem dX9_back_32 : decode cX9_back 32 = .ok (.getfield 42, 3) := by decide +kernel
theorem dX9_back_35 : decode cX9_back 35 = .ok (.getfield 141, 3) := by decide +kernel
theorem dX9_back_38 : decode cX9_back 38 = .ok (.ireturn, 1) := by decide +kernel
theorem dX9_choice_0 : decode cX9_choice 0 = .ok (.aload_n 0, 1) := by decide +kernel
theorem dX9_choice_1 : decode cX9_choice 1 = .ok (.iload_n 1, 1) := by decide +kernel
theorem dX9_choice_2 : decode cX9_choice 2 = .ok (.invokevirtual 131, 3) := by decide +kernel
theorem dX9_choice_5 : decode cX9_choice 5 = .ok (.aload_n 0, 1) := by decide +kernel
theorem dX9_choice_6 : decode cX9_choice 6 = .ok (.getfield 35, 3) := by decide +kernel
theorem dX9_choice_9 : decode cX9_choice 9 = .ok (.iload_n 1, 1) := by decide +kernel
theorem dX9_choice_10 : decode cX9_choice 10 = .ok (.invokevirtual 167, 3) := by decide +kernel
theorem dX9_choice_13 : decode cX9_choice 13 = .ok (.ireturn, 1) := by decide +kernel
theorem dX9_needFlag_0 : decode cX9_needFlag 0 = .ok (.iload_n 0, 1) := by decide +kernel
theorem dX9_needFlag_1 : decode cX9_needFlag 1 = .ok (.ifCond .lt 9, 3) := by decide +kernel
theorem dX9_needFlag_4 : decode cX9_needFlag 4 = .ok (.iload_n 0, 1) := by decide +kernel
theorem dX9_needFlag_5 : decode cX9_needFlag 5 = .ok (.bipush 6, 2) := by decide +kernel
theorem dX9_needFlag_7 : decode cX9_needFlag 7 = .ok (.if_icmp .lt 14, 3) := by decide +kernel
theorem dX9_needFlag_10 : decode cX9_needFlag 10 = .ok (.new 60, 3) := by decide +kernel
theorem dX9_needFlag_13 : decode cX9_needFlag 13 = .ok (.dup, 1) := by decide +kernel
theorem dX9_needFlag_14 : decode cX9_needFlag 14 = .ok (.ldc_w 311, 3) := by decide +kernel
theorem dX9_needFlag_17 : decode cX9_needFlag 17 = .ok (.invokespecial 64, 3) := by decide +kernel
theorem dX9_needFlag_20 : decode cX9_needFlag 20 = .ok (.athrow, 1) := by decide +kernel
theorem dX9_needFlag_21 : decode cX9_needFlag 21 = .ok (.return_, 1) := by decide +kernel
theorem dX9_flag_0 : decode cX9_flag 0 = .ok (.iload_n 1, 1) := by decide +kernel
theorem dX9_flag_1 : decode cX9_flag 1 = .ok (.invokestatic 170, 3) := by decide +kernel
theorem dX9_flag_4 : decode cX9_flag 4 = .ok (.aload_n 0, 1) := by decide +kernel
theorem dX9_flag_5 : decode cX9_flag 5 = .ok (.getfield 35, 3) := by decide +kernel
theorem dX9_flag_8 : decode cX9_flag 8 = .ok (.getfield 173, 3) := by decide +kernel
theorem dX9_flag_11 : decode cX9_flag 11 = .ok (.iload_n 1, 1) := by decide +kernel
theorem dX9_flag_12 : decode cX9_flag 12 = .ok (.ishr, 1) := by decide +kernel
theorem dX9_flag_13 : decode cX9_flag 13 = .ok (.iconst 1, 1) := by decide +kernel
theorem dX9_flag_14 : decode cX9_flag 14 = .ok (.iand, 1) := by decide +kernel
theorem dX9_flag_15 : decode cX9_flag 15 = .ok (.ireturn, 1) := by decide +kernel
theorem dX9_needMeter_0 : decode cX9_needMeter 0 = .ok (.iload_n 0, 1) := by decide +kernel
theorem dX9_needMeter_1 : decode cX9_needMeter 1 = .ok (.ifCond .lt 8, 3) := by decide +kernel
theorem dX9_needMeter_4 : decode cX9_needMeter 4 = .ok (.iload_n 0, 1) := by decide +kernel
theorem dX9_needMeter_5 : decode cX9_needMeter 5 = .ok (.iconst 3, 1) := by decide +kernel
theorem dX9_needMeter_6 : decode cX9_needMeter 6 = .ok (.if_icmp .lt 14, 3) := by decide +kernel
theorem dX9_needMeter_9 : decode cX9_needMeter 9 = .ok (.new 60, 3) := by decide +kernel
theorem dX9_needMeter_12 : decode cX9_needMeter 12 = .ok (.dup, 1) := by decide +kernel
theorem dX9_needMeter_13 : decode cX9_needMeter 13 = .ok (.ldc_w 313, 3) := by decide +kernel
theorem dX9_needMeter_16 : decode cX9_needMeter 16 = .ok (.invokespecial 64, 3) := by decide +kernel
theorem dX9_needMeter_19 : decode cX9_needMeter 19 = .ok (.athrow, 1) := by decide +kernel
theorem dX9_needMeter_20 : decode cX9_needMeter 20 = .ok (.return_, 1) := by decide +kernel
theorem dX9_meter_0 : decode cX9_meter 0 = .ok (.iload_n 1, 1) := by decide +kernel
theorem dX9_meter_1 : decode cX9_meter 1 = .ok (.invokestatic 176, 3) := by decide +kernel
theorem dX9_meter_4 : decode cX9_meter 4 = .ok (.aload_n 0, 1) := by decide +kernel
theorem dX9_meter_5 : decode cX9_meter 5 = .ok (.getfield 35, 3) := by decide +kernel
theorem dX9_meter_8 : decode cX9_meter 8 = .ok (.getfield 179, 3) := by decide +kernel
theorem dX9_meter_11 : decode cX9_meter 11 = .ok (.iload_n 1, 1) := by decide +kernel
theorem dX9_meter_12 : decode cX9_meter 12 = .ok (.invokestatic 182, 3) := by decide +kernel
theorem dX9_meter_15 : decode cX9_meter 15 = .ok (.ireturn, 1) := by decide +kernel
theorem dX9_line_0 : decode cX9_line 0 = .ok (.iload_n 1, 1) := by decide +kernel
theorem dX9_line_1 : decode cX9_line 1 = .ok (.ifCond .lt 9, 3) := by decide +kernel
theorem dX9_line_4 : decode cX9_line 4 = .ok (.iload_n 1, 1) := by decide +kernel
theorem dX9_line_5 : decode cX9_line 5 = .ok (.bipush 20, 2) := by decide +kernel
theorem dX9_line_7 : decode cX9_line 7 = .ok (.if_icmp .lt 13, 3) := by decide +kernel
theorem dX9_line_10 : decode cX9_line 10 = .ok (.new 60, 3) := by decide +kernel
theorem dX9_line_13 : decode cX9_line 13 = .ok (.dup, 1) := by decide +kernel
theorem dX9_line_14 : decode cX9_line 14 = .ok (.ldc 195, 2) := by decide +kernel
theorem dX9_line_16 : decode cX9_line 16 = .ok (.invokespecial 64, 3) := by decide +kernel
theorem dX9_line_19 : decode cX9_line 19 = .ok (.athrow, 1) := by decide +kernel
theorem dX9_line_20 : decode cX9_line 20 = .ok (.aload_n 0, 1) := by decide +kernel
theorem dX9_line_21 : decode cX9_line 21 = .ok (.getfield 35, 3) := by decide +kernel
theorem dX9_line_24 : decode cX9_line 24 = .ok (.getfield 186, 3) := by decide +kernel
theorem dX9_line_27 : decode cX9_line 27 = .ok (.iload_n 1, 1) := by decide +kernel
theorem dX9_line_28 : decode cX9_line 28 = .ok (.invokevirtual 197, 3) := by decide +kernel
theorem dX9_line_31 : decode cX9_line 31 = .ok (.ireturn, 1) := by decide +kernel
theorem dX9_explore_0 : decode cX9_explore 0 = .ok (.iload_n 1, 1) := by decide +kernel
theorem dX9_explore_1 : decode cX9_explore 1 = .ok (.iconst 1, 1) := by decide +kernel
theorem dX9_explore_2 : decode cX9_explore 2 = .ok (.if_icmp .lt 10, 3) := by decide +kernel
theorem dX9_explore_5 : decode cX9_explore 5 = .ok (.iload_n 1, 1) := by decide +kernel
theorem dX9_explore_6 : decode cX9_explore 6 = .ok (.sipush 300, 3) := by decide +kernel
theorem dX9_explore_9 : decode cX9_explore 9 = .ok (.if_icmp .le 13, 3) := by decide +kernel
theorem dX9_explore_12 : decode cX9_explore 12 = .ok (.new 60, 3) := by decide +kernel
theorem dX9_explore_15 : decode cX9_explore 15 = .ok (.dup, 1) := by decide +kernel
theorem dX9_explore_16 : decode cX9_explore 16 = .ok (.ldc 200, 2) := by decide +kernel
theorem dX9_explore_18 : decode cX9_explore 18 = .ok (.invokespecial 64, 3) := by decide +kernel
theorem dX9_explore_21 : decode cX9_explore 21 = .ok (.athrow, 1) := by decide +kernel
theorem dX9_explore_22 : decode cX9_explore 22 = .ok (.aload_n 0, 1) := by decide +kernel
theorem dX9_explore_23 : decode cX9_explore 23 = .ok (.invokevirtual 120, 3) := by decide +kernel
theorem dX9_explore_26 : decode cX9_explore 26 = .ok (.aload_n 0, 1) := by decide +kernel
theorem dX9_explore_27 : decode cX9_explore 27 = .ok (.getfield 49, 3) := by decide +kernel
theorem dX9_explore_30 : decode cX9_explore 30 = .ok (.aload_n 0, 1) := by decide +kernel
theorem dX9_explore_31 : decode cX9_explore 31 = .ok (.getfield 16, 3) := by decide +kernel
theorem dX9_explore_34 : decode cX9_explore 34 = .ok (.iload_n 1, 1) := by decide +kernel
theorem dX9_explore_35 : decode cX9_explore 35 = .ok (.invokevirtual 202, 3) := by decide +kernel
theorem dX9_explore_38 : decode cX9_explore 38 = .ok (.aload_n 0, 1) := by decide +kernel
theorem dX9_explore_39 : decode cX9_explore 39 = .ok (.getfield 49, 3) := by decide +kernel
theorem dX9_explore_42 : decode cX9_explore 42 = .ok (.getfield 206, 3) := by decide +kernel
theorem dX9_explore_45 : decode cX9_explore 45 = .ok (.ireturn, 1) := by decide +kernel
theorem dX9_needExploration_0 : decode cX9_needExploration 0 = .ok (.aload_n 0, 1) := by decide +kernel
theorem dX9_needExploration_1 : decode cX9_needExploration 1 = .ok (.getfield 49, 3) := by decide +kernel
theorem dX9_needExploration_4 : decode cX9_needExploration 4 = .ok (.getfield 293, 3) := by decide +kernel
theorem dX9_needExploration_7 : decode cX9_needExploration 7 = .ok (.ifCond .ne 14, 3) := by decide +kernel
theorem dX9_needExploration_10 : decode cX9_needExploration 10 = .ok (.new 71, 3) := by decide +kernel
theorem dX9_needExploration_13 : decode cX9_needExploration 13 = .ok (.dup, 1) := by decide +kernel
theorem dX9_needExploration_14 : decode cX9_needExploration 14 = .ok (.ldc_w 296, 3) := by decide +kernel
theorem dX9_needExploration_17 : decode cX9_needExploration 17 = .ok (.invokespecial 75, 3) := by decide +kernel
theorem dX9_needExploration_20 : decode cX9_needExploration 20 = .ok (.athrow, 1) := by decide +kernel
theorem dX9_needExploration_21 : decode cX9_needExploration 21 = .ok (.return_, 1) := by decide +kernel
theorem dX9_isComplete_0 : decode cX9_isComplete 0 = .ok (.aload_n 0, 1) := by decide +kernel
theorem dX9_isComplete_1 : decode cX9_isComplete 1 = .ok (.invokevirtual 209, 3) := by decide +kernel
theorem dX9_isComplete_4 : decode cX9_isComplete 4 = .ok (.aload_n 0, 1) := by decide +kernel
theorem dX9_isComplete_5 : decode cX9_isComplete 5 = .ok (.getfield 49, 3) := by decide +kernel
theorem dX9_isComplete_8 : decode cX9_isComplete 8 = .ok (.getfield 212, 3) := by decide +kernel
theorem dX9_isComplete_11 : decode cX9_isComplete 11 = .ok (.ireturn, 1) := by decide +kernel
theorem dX9_needOutcome_0 : decode cX9_needOutcome 0 = .ok (.iload_n 0, 1) := by decide +kernel
theorem dX9_needOutcome_1 : decode cX9_needOutcome 1 = .ok (.ifCond .lt 9, 3) := by decide +kernel
theorem dX9_needOutcome_4 : decode cX9_needOutcome 4 = .ok (.iload_n 0, 1) := by decide +kernel
theorem dX9_needOutcome_5 : decode cX9_needOutcome 5 = .ok (.bipush 12, 2) := by decide +kernel
theorem dX9_needOutcome_7 : decode cX9_needOutcome 7 = .ok (.if_icmp .lt 14, 3) := by decide +kernel
theorem dX9_needOutcome_10 : decode cX9_needOutcome 10 = .ok (.new 60, 3) := by decide +kernel
theorem dX9_needOutcome_13 : decode cX9_needOutcome 13 = .ok (.dup, 1) := by decide +kernel
theorem dX9_needOutcome_14 : decode cX9_needOutcome 14 = .ok (.ldc_w 315, 3) := by decide +kernel
theorem dX9_needOutcome_17 : decode cX9_needOutcome 17 = .ok (.invokespecial 64, 3) := by decide +kernel
theorem dX9_needOutcome_20 : decode cX9_needOutcome 20 = .ok (.athrow, 1) := by decide +kernel
theorem dX9_needOutcome_21 : decode cX9_needOutcome 21 = .ok (.return_, 1) := by decide +kernel
theorem dX9_wayLength_0 : decode cX9_wayLength 0 = .ok (.iload_n 1, 1) := by decide +kernel
theorem dX9_wayLength_1 : decode cX9_wayLength 1 = .ok (.invokestatic 216, 3) := by decide +kernel
theorem dX9_wayLength_4 : decode cX9_wayLength 4 = .ok (.aload_n 0, 1) := by decide +kernel
theorem dX9_wayLength_5 : decode cX9_wayLength 5 = .ok (.invokevirtual 209, 3) := by decide +kernel
theorem dX9_wayLength_8 : decode cX9_wayLength 8 = .ok (.aload_n 0, 1) := by decide +kernel
theorem dX9_wayLength_9 : decode cX9_wayLength 9 = .ok (.getfield 49, 3) := by decide +kernel
theorem dX9_wayLength_12 : decode cX9_wayLength 12 = .ok (.getfield 219, 3) := by decide +kernel
theorem dX9_wayLength_15 : decode cX9_wayLength 15 = .ok (.iload_n 1, 1) := by decide +kernel
theorem dX9_wayLength_16 : decode cX9_wayLength 16 = .ok (.iaload, 1) := by decide +kernel
theorem dX9_wayLength_17 : decode cX9_wayLength 17 = .ok (.ireturn, 1) := by decide +kernel
theorem dX9_way_0 : decode cX9_way 0 = .ok (.iload_n 1, 1) := by decide +kernel
theorem dX9_way_1 : decode cX9_way 1 = .ok (.invokestatic 216, 3) := by decide +kernel
theorem dX9_way_4 : decode cX9_way 4 = .ok (.aload_n 0, 1) := by decide +kernel
theorem dX9_way_5 : decode cX9_way 5 = .ok (.invokevirtual 209, 3) := by decide +kernel
theorem dX9_way_8 : decode cX9_way 8 = .ok (.iload_n 2, 1) := by decide +kernel
theorem dX9_way_9 : decode cX9_way 9 = .ok (.ifCond .lt 16, 3) := by decide +kernel
theorem dX9_way_12 : decode cX9_way 12 = .ok (.iload_n 2, 1) := by decide +kernel
theorem dX9_way_13 : decode cX9_way 13 = .ok (.aload_n 0, 1) := by decide +kernel
theorem dX9_way_14 : decode cX9_way 14 = .ok (.getfield 49, 3) := by decide +kernel
theorem dX9_way_17 : decode cX9_way 17 = .ok (.getfield 219, 3) := by decide +kernel
theorem dX9_way_20 : decode cX9_way 20 = .ok (.iload_n 1, 1) := by decide +kernel
theorem dX9_way_21 : decode cX9_way 21 = .ok (.iaload, 1) := by decide +kernel
theorem dX9_way_22 : decode cX9_way 22 = .ok (.if_icmp .lt 13, 3) := by decide +kernel
theorem dX9_way_25 : decode cX9_way 25 = .ok (.new 222, 3) := by decide +kernel
theorem dX9_way_28 : decode cX9_way 28 = .ok (.dup, 1) := by decide +kernel
theorem dX9_way_29 : decode cX9_way 29 = .ok (.ldc 224, 2) := by decide +kernel
theorem dX9_way_31 : decode cX9_way 31 = .ok (.invokespecial 226, 3) := by decide +kernel
theorem dX9_way_34 : decode cX9_way 34 = .ok (.athrow, 1) := by decide +kernel
theorem dX9_way_35 : decode cX9_way 35 = .ok (.aload_n 0, 1) := by decide +kernel
theorem dX9_way_36 : decode cX9_way 36 = .ok (.getfield 49, 3) := by decide +kernel
theorem dX9_way_39 : decode cX9_way 39 = .ok (.iload_n 1, 1) := by decide +kernel
theorem dX9_way_40 : decode cX9_way 40 = .ok (.iload_n 2, 1) := by decide +kernel
theorem dX9_way_41 : decode cX9_way 41 = .ok (.invokevirtual 227, 3) := by decide +kernel
theorem dX9_way_44 : decode cX9_way 44 = .ok (.ireturn, 1) := by decide +kernel
theorem dX9_outcomes_0 : decode cX9_outcomes 0 = .ok (.iload_n 1, 1) := by decide +kernel
theorem dX9_outcomes_1 : decode cX9_outcomes 1 = .ok (.invokestatic 216, 3) := by decide +kernel
theorem dX9_outcomes_4 : decode cX9_outcomes 4 = .ok (.aload_n 0, 1) := by decide +kernel
theorem dX9_outcomes_5 : decode cX9_outcomes 5 = .ok (.invokevirtual 209, 3) := by decide +kernel
theorem dX9_outcomes_8 : decode cX9_outcomes 8 = .ok (.aload_n 0, 1) := by decide +kernel
theorem dX9_outcomes_9 : decode cX9_outcomes 9 = .ok (.getfield 49, 3) := by decide +kernel
theorem dX9_outcomes_12 : decode cX9_outcomes 12 = .ok (.getfield 230, 3) := by decide +kernel
theorem dX9_outcomes_15 : decode cX9_outcomes 15 = .ok (.iload_n 1, 1) := by decide +kernel
theorem dX9_outcomes_16 : decode cX9_outcomes 16 = .ok (.iaload, 1) := by decide +kernel
theorem dX9_outcomes_17 : decode cX9_outcomes 17 = .ok (.ireturn, 1) := by decide +kernel
theorem dX9_needLine_0 : decode cX9_needLine 0 = .ok (.iload_n 0, 1) := by decide +kernel
theorem dX9_needLine_1 : decode cX9_needLine 1 = .ok (.ifCond .lt 9, 3) := by decide +kernel
theorem dX9_needLine_4 : decode cX9_needLine 4 = .ok (.iload_n 0, 1) := by decide +kernel
theorem dX9_needLine_5 : decode cX9_needLine 5 = .ok (.bipush 100, 2) := by decide +kernel
theorem dX9_needLine_7 : decode cX9_needLine 7 = .ok (.if_icmp .lt 14, 3) := by decide +kernel
theorem dX9_needLine_10 : decode cX9_needLine 10 = .ok (.new 222, 3) := by decide +kernel
theorem dX9_needLine_13 : decode cX9_needLine 13 = .ok (.dup, 1) := by decide +kernel
theorem dX9_needLine_14 : decode cX9_needLine 14 = .ok (.ldc_w 309, 3) := by decide +kernel
theorem dX9_needLine_17 : decode cX9_needLine 17 = .ok (.invokespecial 226, 3) := by decide +kernel
theorem dX9_needLine_20 : decode cX9_needLine 20 = .ok (.athrow, 1) := by decide +kernel
theorem dX9_needLine_21 : decode cX9_needLine 21 = .ok (.return_, 1) := by decide +kernel
theorem dX9_occurred_0 : decode cX9_occurred 0 = .ok (.iload_n 1, 1) := by decide +kernel
theorem dX9_occurred_1 : decode cX9_occurred 1 = .ok (.ifCond .lt 8, 3) := by decide +kernel
theorem dX9_occurred_4 : decode cX9_occurred 4 = .ok (.iload_n 1, 1) := by decide +kernel
theorem dX9_occurred_5 : decode cX9_occurred 5 = .ok (.iconst 2, 1) := by decide +kernel
theorem dX9_occurred_6 : decode cX9_occurred 6 = .ok (.if_icmp .le 13, 3) := by decide +kernel
theorem dX9_occurred_9 : decode cX9_occurred 9 = .ok (.new 60, 3) := by decide +kernel
theorem dX9_occurred_12 : decode cX9_occurred 12 = .ok (.dup, 1) := by decide +kernel
theorem dX9_occurred_13 : decode cX9_occurred 13 = .ok (.ldc 98, 2) := by decide +kernel
theorem dX9_occurred_15 : decode cX9_occurred 15 = .ok (.invokespecial 64, 3) := by decide +kernel
theorem dX9_occurred_18 : decode cX9_occurred 18 = .ok (.athrow, 1) := by decide +kernel
theorem dX9_occurred_19 : decode cX9_occurred 19 = .ok (.aload_n 0, 1) := by decide +kernel
theorem dX9_occurred_20 : decode cX9_occurred 20 = .ok (.invokevirtual 209, 3) := by decide +kernel
theorem dX9_occurred_23 : decode cX9_occurred 23 = .ok (.iload_n 1, 1) := by decide +kernel
theorem dX9_occurred_24 : decode cX9_occurred 24 = .ok (.ifCond .ne 23, 3) := by decide +kernel
theorem dX9_occurred_27 : decode cX9_occurred 27 = .ok (.iload_n 2, 1) := by decide +kernel
theorem dX9_occurred_28 : decode cX9_occurred 28 = .ok (.invokestatic 233, 3) := by decide +kernel
theorem dX9_occurred_31 : decode cX9_occurred 31 = .ok (.aload_n 0, 1) := by decide +kernel
theorem dX9_occurred_32 : decode cX9_occurred 32 = .ok (.getfield 49, 3) := by decide +kernel
theorem dX9_occurred_35 : decode cX9_occurred 35 = .ok (.getfield 236, 3) := by decide +kernel
theorem dX9_occurred_38 : decode cX9_occurred 38 = .ok (.getfield 186, 3) := by decide +kernel
theorem dX9_occurred_41 : decode cX9_occurred 41 = .ok (.getfield 237, 3) := by decide +kernel
theorem dX9_occurred_44 : decode cX9_occurred 44 = .ok (.iload_n 2, 1) := by decide +kernel
theorem dX9_occurred_45 : decode cX9_occurred 45 = .ok (.baload, 1) := by decide +kernel
theorem dX9_occurred_46 : decode cX9_occurred 46 = .ok (.ireturn, 1) := by decide +kernel
theorem dX9_occurred_47 : decode cX9_occurred 47 = .ok (.iload_n 1, 1) := by decide +kernel
theorem dX9_occurred_48 : decode cX9_occurred 48 = .ok (.iconst 1, 1) := by decide +kernel
theorem dX9_occurred_49 : decode cX9_occurred 49 = .ok (.if_icmp .ne 32, 3) := by decide +kernel
theorem dX9_occurred_52 : decode cX9_occurred 52 = .ok (.aload_n 0, 1) := by decide +kernel
theorem dX9_occurred_53 : decode cX9_occurred 53 = .ok (.iload_n 2, 1) := by decide +kernel
theorem dX9_occurred_54 : decode cX9_occurred 54 = .ok (.invokevirtual 100, 3) := by decide +kernel
theorem dX9_occurred_57 : decode cX9_occurred 57 = .ok (.aload_n 0, 1) := by decide +kernel
theorem dX9_occurred_58 : decode cX9_occurred 58 = .ok (.getfield 49, 3) := by decide +kernel
theorem dX9_occurred_61 : decode cX9_occurred 61 = .ok (.getfield 236, 3) := by decide +kernel
theorem dX9_occurred_64 : decode cX9_occurred 64 = .ok (.getfield 241, 3) := by decide +kernel
theorem dX9_occurred_67 : decode cX9_occurred 67 = .ok (.iload_n 2, 1) := by decide +kernel
theorem dX9_occurred_68 : decode cX9_occurred 68 = .ok (.ishr, 1) := by decide +kernel
theorem dX9_occurred_69 : decode cX9_occurred 69 = .ok (.iconst 1, 1) := by decide +kernel
theorem dX9_occurred_70 : decode cX9_occurred 70 = .ok (.iand, 1) := by decide +kernel
theorem dX9_occurred_71 : decode cX9_occurred 71 = .ok (.iconst 1, 1) := by decide +kernel
theorem dX9_occurred_72 : decode cX9_occurred 72 = .ok (.if_icmp .ne 7, 3) := by decide +kernel
theorem dX9_occurred_75 : decode cX9_occurred 75 = .ok (.iconst 1, 1) := by decide +kernel
theorem dX9_occurred_76 : decode cX9_occurred 76 = .ok (.goto 4, 3) := by decide +kernel
theorem dX9_occurred_79 : decode cX9_occurred 79 = .ok (.iconst 0, 1) := by decide +kernel
theorem dX9_occurred_80 : decode cX9_occurred 80 = .ok (.ireturn, 1) := by decide +kernel
theorem dX9_occurred_81 : decode cX9_occurred 81 = .ok (.aload_n 0, 1) := by decide +kernel
theorem dX9_occurred_82 : decode cX9_occurred 82 = .ok (.iload_n 2, 1) := by decide +kernel
theorem dX9_occurred_83 : decode cX9_occurred 83 = .ok (.invokevirtual 111, 3) := by decide +kernel
theorem dX9_occurred_86 : decode cX9_occurred 86 = .ok (.aload_n 0, 1) := by decide +kernel
theorem dX9_occurred_87 : decode cX9_occurred 87 = .ok (.getfield 49, 3) := by decide +kernel
theorem dX9_occurred_90 : decode cX9_occurred 90 = .ok (.getfield 244, 3) := by decide +kernel
theorem dX9_occurred_93 : decode cX9_occurred 93 = .ok (.iload_n 2, 1) := by decide +kernel
theorem dX9_occurred_94 : decode cX9_occurred 94 = .ok (.ishr, 1) := by decide +kernel
theorem dX9_occurred_95 : decode cX9_occurred 95 = .ok (.iconst 1, 1) := by decide +kernel
theorem dX9_occurred_96 : decode cX9_occurred 96 = .ok (.iand, 1) := by decide +kernel
theorem dX9_occurred_97 : decode cX9_occurred 97 = .ok (.iconst 1, 1) := by decide +kernel
theorem dX9_occurred_98 : decode cX9_occurred 98 = .ok (.if_icmp .ne 7, 3) := by decide +kernel
theorem dX9_occurred_101 : decode cX9_occurred 101 = .ok (.iconst 1, 1) := by decide +kernel
theorem dX9_occurred_102 : decode cX9_occurred 102 = .ok (.goto 4, 3) := by decide +kernel
theorem dX9_occurred_105 : decode cX9_occurred 105 = .ok (.iconst 0, 1) := by decide +kernel
theorem dX9_occurred_106 : decode cX9_occurred 106 = .ok (.ireturn, 1) := by decide +kernel
theorem dX9_analyze_0 : decode cX9_analyze 0 = .ok (.aload_n 0, 1) := by decide +kernel
theorem dX9_analyze_1 : decode cX9_analyze 1 = .ok (.invokevirtual 120, 3) := by decide +kernel
theorem dX9_analyze_4 : decode cX9_analyze 4 = .ok (.aload_n 0, 1) := by decide +kernel
theorem dX9_analyze_5 : decode cX9_analyze 5 = .ok (.getfield 56, 3) := by decide +kernel
theorem dX9_analyze_8 : decode cX9_analyze 8 = .ok (.aload_n 0, 1) := by decide +kernel
theorem dX9_analyze_9 : decode cX9_analyze 9 = .ok (.getfield 16, 3) := by decide +kernel
theorem dX9_analyze_12 : decode cX9_analyze 12 = .ok (.invokevirtual 247, 3) := by decide +kernel
theorem dX9_analyze_15 : decode cX9_analyze 15 = .ok (.aload_n 0, 1) := by decide +kernel
theorem dX9_analyze_16 : decode cX9_analyze 16 = .ok (.getfield 56, 3) := by decide +kernel
theorem dX9_analyze_19 : decode cX9_analyze 19 = .ok (.invokevirtual 250, 3) := by decide +kernel
theorem dX9_analyze_22 : decode cX9_analyze 22 = .ok (.ireturn, 1) := by decide +kernel
theorem dX9_needAnalysis_0 : decode cX9_needAnalysis 0 = .ok (.aload_n 0, 1) := by decide +kernel
theorem dX9_needAnalysis_1 : decode cX9_needAnalysis 1 = .ok (.getfield 56, 3) := by decide +kernel
theorem dX9_needAnalysis_4 : decode cX9_needAnalysis 4 = .ok (.getfield 298, 3) := by decide +kernel
theorem dX9_needAnalysis_7 : decode cX9_needAnalysis 7 = .ok (.ifCond .ne 14, 3) := by decide +kernel
theorem dX9_needAnalysis_10 : decode cX9_needAnalysis 10 = .ok (.new 71, 3) := by decide +kernel
theorem dX9_needAnalysis_13 : decode cX9_needAnalysis 13 = .ok (.dup, 1) := by decide +kernel
theorem dX9_needAnalysis_14 : decode cX9_needAnalysis 14 = .ok (.ldc_w 301, 3) := by decide +kernel
theorem dX9_needAnalysis_17 : decode cX9_needAnalysis 17 = .ok (.invokespecial 75, 3) := by decide +kernel
theorem dX9_needAnalysis_20 : decode cX9_needAnalysis 20 = .ok (.athrow, 1) := by decide +kernel
theorem dX9_needAnalysis_21 : decode cX9_needAnalysis 21 = .ok (.return_, 1) := by decide +kernel
theorem dX9_isReached_0 : decode cX9_isReached 0 = .ok (.iload_n 1, 1) := by decide +kernel
theorem dX9_isReached_1 : decode cX9_isReached 1 = .ok (.ifCond .lt 8, 3) := by decide +kernel
theorem dX9_isReached_4 : decode cX9_isReached 4 = .ok (.iload_n 1, 1) := by decide +kernel
theorem dX9_isReached_5 : decode cX9_isReached 5 = .ok (.iconst 1, 1) := by decide +kernel
theorem dX9_isReached_6 : decode cX9_isReached 6 = .ok (.if_icmp .le 13, 3) := by decide +kernel
theorem dX9_isReached_9 : decode cX9_isReached 9 = .ok (.new 60, 3) := by decide +kernel
theorem dX9_isReached_12 : decode cX9_isReached 12 = .ok (.dup, 1) := by decide +kernel
theorem dX9_isReached_13 : decode cX9_isReached 13 = .ok (.ldc 98, 2) := by decide +kernel
theorem dX9_isReached_15 : decode cX9_isReached 15 = .ok (.invokespecial 64, 3) := by decide +kernel
theorem dX9_isReached_18 : decode cX9_isReached 18 = .ok (.athrow, 1) := by decide +kernel
theorem dX9_isReached_19 : decode cX9_isReached 19 = .ok (.aload_n 0, 1) := by decide +kernel
theorem dX9_isReached_20 : decode cX9_isReached 20 = .ok (.invokevirtual 254, 3) := by decide +kernel
theorem dX9_isReached_23 : decode cX9_isReached 23 = .ok (.iload_n 1, 1) := by decide +kernel
theorem dX9_isReached_24 : decode cX9_isReached 24 = .ok (.ifCond .ne 28, 3) := by decide +kernel
theorem dX9_isReached_27 : decode cX9_isReached 27 = .ok (.aload_n 0, 1) := by decide +kernel
theorem dX9_isReached_28 : decode cX9_isReached 28 = .ok (.iload_n 2, 1) := by decide +kernel
theorem dX9_isReached_29 : decode cX9_isReached 29 = .ok (.invokevirtual 100, 3) := by decide +kernel
theorem dX9_isReached_32 : decode cX9_isReached 32 = .ok (.aload_n 0, 1) := by decide +kernel
theorem dX9_isReached_33 : decode cX9_isReached 33 = .ok (.getfield 56, 3) := by decide +kernel
theorem dX9_isReached_36 : decode cX9_isReached 36 = .ok (.getfield 257, 3) := by decide +kernel
theorem dX9_isReached_39 : decode cX9_isReached 39 = .ok (.iload_n 2, 1) := by decide +kernel
theorem dX9_isReached_40 : decode cX9_isReached 40 = .ok (.laload, 1) := by decide +kernel
theorem dX9_isReached_41 : decode cX9_isReached 41 = .ok (.lconst 0, 1) := by decide +kernel
theorem dX9_isReached_42 : decode cX9_isReached 42 = .ok (.lcmp, 1) := by decide +kernel
theorem dX9_isReached_43 : decode cX9_isReached 43 = .ok (.ifCond .eq 7, 3) := by decide +kernel
theorem dX9_isReached_46 : decode cX9_isReached 46 = .ok (.iconst 1, 1) := by decide +kernel
theorem dX9_isReached_47 : decode cX9_isReached 47 = .ok (.goto 4, 3) := by decide +kernel
theorem dX9_isReached_50 : decode cX9_isReached 50 = .ok (.iconst 0, 1) := by decide +kernel
theorem dX9_isReached_51 : decode cX9_isReached 51 = .ok (.ireturn, 1) := by decide +kernel
theorem dX9_isReached_52 : decode cX9_isReached 52 = .ok (.aload_n 0, 1) := by decide +kernel
theorem dX9_isReached_53 : decode cX9_isReached 53 = .ok (.iload_n 2, 1) := by decide +kernel
theorem dX9_isReached_54 : decode cX9_isReached 54 = .ok (.invokevirtual 111, 3) := by decide +kernel
theorem dX9_isReached_57 : decode cX9_isReached 57 = .ok (.aload_n 0, 1) := by decide +kernel
theorem dX9_isReached_58 : decode cX9_isReached 58 = .ok (.getfield 56, 3) := by decide +kernel
theorem dX9_isReached_61 : decode cX9_isReached 61 = .ok (.getfield 263, 3) := by decide +kernel
theorem dX9_isReached_64 : decode cX9_isReached 64 = .ok (.iload_n 2, 1) := by decide +kernel
theorem dX9_isReached_65 : decode cX9_isReached 65 = .ok (.laload, 1) := by decide +kernel
theorem dX9_isReached_66 : decode cX9_isReached 66 = .ok (.lconst 0, 1) := by decide +kernel
theorem dX9_isReached_67 : decode cX9_isReached 67 = .ok (.lcmp, 1) := by decide +kernel
theorem dX9_isReached_68 : decode cX9_isReached 68 = .ok (.ifCond .eq 7, 3) := by decide +kernel
theorem dX9_isReached_71 : decode cX9_isReached 71 = .ok (.iconst 1, 1) := by decide +kernel
theorem dX9_isReached_72 : decode cX9_isReached 72 = .ok (.goto 4, 3) := by decide +kernel
theorem dX9_isReached_75 : decode cX9_isReached 75 = .ok (.iconst 0, 1) := by decide +kernel
theorem dX9_isReached_76 : decode cX9_isReached 76 = .ok (.ireturn, 1) := by decide +kernel
theorem dX9_lowest_0 : decode cX9_lowest 0 = .ok (.iload_n 2, 1) := by decide +kernel
theorem dX9_lowest_1 : decode cX9_lowest 1 = .ok (.invokestatic 176, 3) := by decide +kernel
theorem dX9_lowest_4 : decode cX9_lowest 4 = .ok (.aload_n 0, 1) := by decide +kernel
theorem dX9_lowest_5 : decode cX9_lowest 5 = .ok (.invokevirtual 254, 3) := by decide +kernel
theorem dX9_lowest_8 : decode cX9_lowest 8 = .ok (.aload_n 0, 1) := by decide +kernel
theorem dX9_lowest_9 : decode cX9_lowest 9 = .ok (.iload_n 1, 1) := by decide +kernel
theorem dX9_lowest_10 : decode cX9_lowest 10 = .ok (.invokevirtual 100, 3) := by decide +kernel
theorem dX9_lowest_13 : decode cX9_lowest 13 = .ok (.aload_n 0, 1) := by decide +kernel
theorem dX9_lowest_14 : decode cX9_lowest 14 = .ok (.getfield 56, 3) := by decide +kernel
theorem dX9_lowest_17 : decode cX9_lowest 17 = .ok (.getfield 257, 3) := by decide +kernel
theorem dX9_lowest_20 : decode cX9_lowest 20 = .ok (.iload_n 1, 1) := by decide +kernel
theorem dX9_lowest_21 : decode cX9_lowest 21 = .ok (.laload, 1) := by decide +kernel
theorem dX9_lowest_22 : decode cX9_lowest 22 = .ok (.lstore_n 3, 1) := by decide +kernel
theorem dX9_lowest_23 : decode cX9_lowest 23 = .ok (.lload_n 3, 1) := by decide +kernel
theorem dX9_lowest_24 : decode cX9_lowest 24 = .ok (.lconst 0, 1) := by decide +kernel
theorem dX9_lowest_25 : decode cX9_lowest 25 = .ok (.lcmp, 1) := by decide +kernel
theorem dX9_lowest_26 : decode cX9_lowest 26 = .ok (.ifCond .ne 7, 3) := by decide +kernel
theorem dX9_lowest_29 : decode cX9_lowest 29 = .ok (.iconst (-1), 1) := by decide +kernel
theorem dX9_lowest_30 : decode cX9_lowest 30 = .ok (.goto 8, 3) := by decide +kernel
theorem dX9_lowest_33 : decode cX9_lowest 33 = .ok (.lload_n 3, 1) := by decide +kernel
theorem dX9_lowest_34 : decode cX9_lowest 34 = .ok (.iload_n 2, 1) := by decide +kernel
theorem dX9_lowest_35 : decode cX9_lowest 35 = .ok (.invokestatic 266, 3) := by decide +kernel
theorem dX9_lowest_38 : decode cX9_lowest 38 = .ok (.ireturn, 1) := by decide +kernel
theorem dX9_greatest_0 : decode cX9_greatest 0 = .ok (.iload_n 2, 1) := by decide +kernel
theorem dX9_greatest_1 : decode cX9_greatest 1 = .ok (.invokestatic 176, 3) := by decide +kernel
theorem dX9_greatest_4 : decode cX9_greatest 4 = .ok (.aload_n 0, 1) := by decide +kernel
theorem dX9_greatest_5 : decode cX9_greatest 5 = .ok (.invokevirtual 254, 3) := by decide +kernel
theorem dX9_greatest_8 : decode cX9_greatest 8 = .ok (.aload_n 0, 1) := by decide +kernel
theorem dX9_greatest_9 : decode cX9_greatest 9 = .ok (.iload_n 1, 1) := by decide +kernel
theorem dX9_greatest_10 : decode cX9_greatest 10 = .ok (.invokevirtual 100, 3) := by decide +kernel
theorem dX9_greatest_13 : decode cX9_greatest 13 = .ok (.aload_n 0, 1) := by decide +kernel
theorem dX9_greatest_14 : decode cX9_greatest 14 = .ok (.getfield 56, 3) := by decide +kernel
theorem dX9_greatest_17 : decode cX9_greatest 17 = .ok (.getfield 257, 3) := by decide +kernel
theorem dX9_greatest_20 : decode cX9_greatest 20 = .ok (.iload_n 1, 1) := by decide +kernel
theorem dX9_greatest_21 : decode cX9_greatest 21 = .ok (.laload, 1) := by decide +kernel
theorem dX9_greatest_22 : decode cX9_greatest 22 = .ok (.lstore_n 3, 1) := by decide +kernel
theorem dX9_greatest_23 : decode cX9_greatest 23 = .ok (.lload_n 3, 1) := by decide +kernel
theorem dX9_greatest_24 : decode cX9_greatest 24 = .ok (.lconst 0, 1) := by decide +kernel
theorem dX9_greatest_25 : decode cX9_greatest 25 = .ok (.lcmp, 1) := by decide +kernel
theorem dX9_greatest_26 : decode cX9_greatest 26 = .ok (.ifCond .ne 7, 3) := by decide +kernel
theorem dX9_greatest_29 : decode cX9_greatest 29 = .ok (.iconst (-1), 1) := by decide +kernel
theorem dX9_greatest_30 : decode cX9_greatest 30 = .ok (.goto 8, 3) := by decide +kernel
theorem dX9_greatest_33 : decode cX9_greatest 33 = .ok (.lload_n 3, 1) := by decide +kernel
theorem dX9_greatest_34 : decode cX9_greatest 34 = .ok (.iload_n 2, 1) := by decide +kernel
theorem dX9_greatest_35 : decode cX9_greatest 35 = .ok (.invokestatic 270, 3) := by decide +kernel
theorem dX9_greatest_38 : decode cX9_greatest 38 = .ok (.ireturn, 1) := by decide +kernel
theorem dX9_values_0 : decode cX9_values 0 = .ok (.iload_n 2, 1) := by decide +kernel
theorem dX9_values_1 : decode cX9_values 1 = .ok (.invokestatic 170, 3) := by decide +kernel
theorem dX9_values_4 : decode cX9_values 4 = .ok (.aload_n 0, 1) := by decide +kernel
theorem dX9_values_5 : decode cX9_values 5 = .ok (.invokevirtual 254, 3) := by decide +kernel
theorem dX9_values_8 : decode cX9_values 8 = .ok (.aload_n 0, 1) := by decide +kernel
theorem dX9_values_9 : decode cX9_values 9 = .ok (.iload_n 1, 1) := by decide +kernel
theorem dX9_values_10 : decode cX9_values 10 = .ok (.invokevirtual 100, 3) := by decide +kernel
theorem dX9_values_13 : decode cX9_values 13 = .ok (.aload_n 0, 1) := by decide +kernel
theorem dX9_values_14 : decode cX9_values 14 = .ok (.getfield 56, 3) := by decide +kernel
theorem dX9_values_17 : decode cX9_values 17 = .ok (.getfield 257, 3) := by decide +kernel
theorem dX9_values_20 : decode cX9_values 20 = .ok (.iload_n 1, 1) := by decide +kernel
theorem dX9_values_21 : decode cX9_values 21 = .ok (.laload, 1) := by decide +kernel
theorem dX9_values_22 : decode cX9_values 22 = .ok (.iload_n 2, 1) := by decide +kernel
theorem dX9_values_23 : decode cX9_values 23 = .ok (.invokestatic 273, 3) := by decide +kernel
theorem dX9_values_26 : decode cX9_values 26 = .ok (.ireturn, 1) := by decide +kernel
theorem dX9_hubs_0 : decode cX9_hubs 0 = .ok (.aload_n 0, 1) := by decide +kernel
theorem dX9_hubs_1 : decode cX9_hubs 1 = .ok (.invokevirtual 254, 3) := by decide +kernel
theorem dX9_hubs_4 : decode cX9_hubs 4 = .ok (.aload_n 0, 1) := by decide +kernel
theorem dX9_hubs_5 : decode cX9_hubs 5 = .ok (.iload_n 1, 1) := by decide +kernel
theorem dX9_hubs_6 : decode cX9_hubs 6 = .ok (.invokevirtual 100, 3) := by decide +kernel
theorem dX9_hubs_9 : decode cX9_hubs 9 = .ok (.aload_n 0, 1) := by decide +kernel
theorem dX9_hubs_10 : decode cX9_hubs 10 = .ok (.getfield 56, 3) := by decide +kernel
theorem dX9_hubs_13 : decode cX9_hubs 13 = .ok (.getfield 257, 3) := by decide +kernel
theorem dX9_hubs_16 : decode cX9_hubs 16 = .ok (.iload_n 1, 1) := by decide +kernel
theorem dX9_hubs_17 : decode cX9_hubs 17 = .ok (.laload, 1) := by decide +kernel
theorem dX9_hubs_18 : decode cX9_hubs 18 = .ok (.invokestatic 276, 3) := by decide +kernel
theorem dX9_hubs_21 : decode cX9_hubs 21 = .ok (.ireturn, 1) := by decide +kernel
theorem dX9_verdict_0 : decode cX9_verdict 0 = .ok (.aload_n 0, 1) := by decide +kernel
theorem dX9_verdict_1 : decode cX9_verdict 1 = .ok (.invokevirtual 254, 3) := by decide +kernel
theorem dX9_verdict_4 : decode cX9_verdict 4 = .ok (.iload_n 1, 1) := by decide +kernel
theorem dX9_verdict_5 : decode cX9_verdict 5 = .ok (.ifCond .lt 20, 3) := by decide +kernel
theorem dX9_verdict_8 : decode cX9_verdict 8 = .ok (.iload_n 1, 1) := by decide +kernel
theorem dX9_verdict_9 : decode cX9_verdict 9 = .ok (.aload_n 0, 1) := by decide +kernel
theorem dX9_verdict_10 : decode cX9_verdict 10 = .ok (.getfield 16, 3) := by decide +kernel
theorem dX9_verdict_13 : decode cX9_verdict 13 = .ok (.getfield 95, 3) := by decide +kernel
theorem dX9_verdict_16 : decode cX9_verdict 16 = .ok (.if_icmp .ge 9, 3) := by decide +kernel
theorem dX9_verdict_19 : decode cX9_verdict 19 = .ok (.iload_n 1, 1) := by decide +kernel
theorem dX9_verdict_20 : decode cX9_verdict 20 = .ok (.bipush 16, 2) := by decide +kernel
theorem dX9_verdict_22 : decode cX9_verdict 22 = .ok (.if_icmp .lt 14, 3) := by decide +kernel
theorem dX9_verdict_25 : decode cX9_verdict 25 = .ok (.new 222, 3) := by decide +kernel
theorem dX9_verdict_28 : decode cX9_verdict 28 = .ok (.dup, 1) := by decide +kernel
theorem dX9_verdict_29 : decode cX9_verdict 29 = .ok (.ldc_w 280, 3) := by decide +kernel
theorem dX9_verdict_32 : decode cX9_verdict 32 = .ok (.invokespecial 226, 3) := by decide +kernel
theorem dX9_verdict_35 : decode cX9_verdict 35 = .ok (.athrow, 1) := by decide +kernel
theorem dX9_verdict_36 : decode cX9_verdict 36 = .ok (.aload_n 0, 1) := by decide +kernel
theorem dX9_verdict_37 : decode cX9_verdict 37 = .ok (.getfield 56, 3) := by decide +kernel
theorem dX9_verdict_40 : decode cX9_verdict 40 = .ok (.getfield 282, 3) := by decide +kernel
theorem dX9_verdict_43 : decode cX9_verdict 43 = .ok (.iload_n 1, 1) := by decide +kernel
theorem dX9_verdict_44 : decode cX9_verdict 44 = .ok (.iaload, 1) := by decide +kernel
theorem dX9_verdict_45 : decode cX9_verdict 45 = .ok (.ireturn, 1) := by decide +kernel
theorem dX9_possible_0 : decode cX9_possible 0 = .ok (.iload_n 1, 1) := by decide +kernel
theorem dX9_possible_1 : decode cX9_possible 1 = .ok (.ifCond .lt 8, 3) := by decide +kernel
theorem dX9_possible_4 : decode cX9_possible 4 = .ok (.iload_n 1, 1) := by decide +kernel
theorem dX9_possible_5 : decode cX9_possible 5 = .ok (.iconst 1, 1) := by decide +kernel
theorem dX9_possible_6 : decode cX9_possible 6 = .ok (.if_icmp .le 13, 3) := by decide +kernel
theorem dX9_possible_9 : decode cX9_possible 9 = .ok (.new 60, 3) := by decide +kernel
theorem dX9_possible_12 : decode cX9_possible 12 = .ok (.dup, 1) := by decide +kernel
theorem dX9_possible_13 : decode cX9_possible 13 = .ok (.ldc 98, 2) := by decide +kernel
theorem dX9_possible_15 : decode cX9_possible 15 = .ok (.invokespecial 64, 3) := by decide +kernel
theorem dX9_possible_18 : decode cX9_possible 18 = .ok (.athrow, 1) := by decide +kernel
theorem dX9_possible_19 : decode cX9_possible 19 = .ok (.aload_n 0, 1) := by decide +kernel
theorem dX9_possible_20 : decode cX9_possible 20 = .ok (.invokevirtual 254, 3) := by decide +kernel
theorem dX9_possible_23 : decode cX9_possible 23 = .ok (.iload_n 1, 1) := by decide +kernel
theorem dX9_possible_24 : decode cX9_possible 24 = .ok (.ifCond .ne 13, 3) := by decide +kernel
theorem dX9_possible_27 : decode cX9_possible 27 = .ok (.aload_n 0, 1) := by decide +kernel
theorem dX9_possible_28 : decode cX9_possible 28 = .ok (.getfield 56, 3) := by decide +kernel
theorem dX9_possible_31 : decode cX9_possible 31 = .ok (.getfield 285, 3) := by decide +kernel
theorem dX9_possible_34 : decode cX9_possible 34 = .ok (.goto 10, 3) := by decide +kernel
theorem dX9_possible_37 : decode cX9_possible 37 = .ok (.aload_n 0, 1) := by decide +kernel
theorem dX9_possible_38 : decode cX9_possible 38 = .ok (.getfield 56, 3) := by decide +kernel
theorem dX9_possible_41 : decode cX9_possible 41 = .ok (.getfield 288, 3) := by decide +kernel
theorem dX9_possible_44 : decode cX9_possible 44 = .ok (.ireturn, 1) := by decide +kernel
theorem wt_7 : (Jvm.Cond.initialized "BranchingStory$History") ∈ lw_tbl := in_tb 7 (by decide +kernel)
theorem wt_14 : (Jvm.Cond.initialized "java/lang/IllegalArgumentException") ∈ lw_tbl := in_tb 14 (by decide +kernel)
theorem wt_15 : (Jvm.Cond.initialized "java/lang/IllegalStateException") ∈ lw_tbl := in_tb 15 (by decide +kernel)
theorem wt_18 : (Jvm.Cond.initialized "java/lang/IndexOutOfBoundsException") ∈ lw_tbl := in_tb 18 (by decide +kernel)
theorem wt_97 : (Jvm.Cond.fieldLinkNest "BranchingStory" (89 : Nat) "BranchingStory$Story" "nodes" "I" "BranchingStory") ∈ lw_tbl := in_tb 97 (by decide +kernel)
theorem wt_100 : (Jvm.Cond.fieldLinkNest "BranchingStory" (104 : Nat) "BranchingStory$Story" "nodeName" "[I" "BranchingStory") ∈ lw_tbl := in_tb 100 (by decide +kernel)
theorem wt_109 : (Jvm.Cond.fieldLinkNest "BranchingStory" (92 : Nat) "BranchingStory$Story" "choices" "I" "BranchingStory") ∈ lw_tbl := in_tb 109 (by decide +kernel)
theorem wt_113 : (Jvm.Cond.fieldLinkNest "BranchingStory" (114 : Nat) "BranchingStory$Story" "choiceLabel" "[I" "BranchingStory") ∈ lw_tbl := in_tb 113 (by decide +kernel)
theorem wt_116 : (Jvm.Cond.fieldLinkNest "BranchingStory" (117 : Nat) "BranchingStory$Story" "choiceNode" "[I" "BranchingStory") ∈ lw_tbl := in_tb 116 (by decide +kernel)
theorem wt_124 : (Jvm.Cond.fieldLinkNest "BranchingStory" (95 : Nat) "BranchingStory$Story" "tests" "I" "BranchingStory") ∈ lw_tbl := in_tb 124 (by decide +kernel)
theorem wt_233 : (Jvm.Cond.fieldLinkNest "BranchingStory" (237 : Nat) "BranchingStory$Lines" "ever" "[Z" "BranchingStory") ∈ lw_tbl := in_tb 233 (by decide +kernel)
theorem wt_253 : (Jvm.Cond.fieldLinkNest "BranchingStory" (173 : Nat) "BranchingStory$Play" "flags" "I" "BranchingStory") ∈ lw_tbl := in_tb 253 (by decide +kernel)
theorem wt_255 : (Jvm.Cond.fieldLinkNest "BranchingStory" (179 : Nat) "BranchingStory$Play" "meters" "I" "BranchingStory") ∈ lw_tbl := in_tb 255 (by decide +kernel)
theorem wt_261 : (Jvm.Cond.fieldLinkNest "BranchingStory" (241 : Nat) "BranchingStory$Play" "entered" "I" "BranchingStory") ∈ lw_tbl := in_tb 261 (by decide +kernel)
theorem wt_295 : (Jvm.Cond.fieldLinkNest "BranchingStory" (141 : Nat) "BranchingStory$History" "size" "I" "BranchingStory") ∈ lw_tbl := in_tb 295 (by decide +kernel)
theorem wt_321 : (Jvm.Cond.fieldLinkNest "BranchingStory" (236 : Nat) "BranchingStory$Explorer" "play" "LBranchingStory$Play;" "BranchingStory") ∈ lw_tbl := in_tb 321 (by decide +kernel)
theorem wt_323 : (Jvm.Cond.fieldLinkNest "BranchingStory" (293 : Nat) "BranchingStory$Explorer" "explored" "Z" "BranchingStory") ∈ lw_tbl := in_tb 323 (by decide +kernel)
theorem wt_325 : (Jvm.Cond.fieldLinkNest "BranchingStory" (212 : Nat) "BranchingStory$Explorer" "complete" "Z" "BranchingStory") ∈ lw_tbl := in_tb 325 (by decide +kernel)
theorem wt_328 : (Jvm.Cond.fieldLinkNest "BranchingStory" (244 : Nat) "BranchingStory$Explorer" "everOffered" "I" "BranchingStory") ∈ lw_tbl := in_tb 328 (by decide +kernel)
theorem wt_330 : (Jvm.Cond.fieldLinkNest "BranchingStory" (206 : Nat) "BranchingStory$Explorer" "found" "I" "BranchingStory") ∈ lw_tbl := in_tb 330 (by decide +kernel)
theorem wt_336 : (Jvm.Cond.fieldLinkNest "BranchingStory" (230 : Nat) "BranchingStory$Explorer" "endFlows" "[I" "BranchingStory") ∈ lw_tbl := in_tb 336 (by decide +kernel)
theorem wt_340 : (Jvm.Cond.fieldLinkNest "BranchingStory" (219 : Nat) "BranchingStory$Explorer" "endLength" "[I" "BranchingStory") ∈ lw_tbl := in_tb 340 (by decide +kernel)
theorem wt_378 : (Jvm.Cond.fieldLinkNest "BranchingStory" (298 : Nat) "BranchingStory$Analyzer" "settled" "Z" "BranchingStory") ∈ lw_tbl := in_tb 378 (by decide +kernel)
theorem wt_381 : (Jvm.Cond.fieldLinkNest "BranchingStory" (257 : Nat) "BranchingStory$Analyzer" "nodeEntry" "[J" "BranchingStory") ∈ lw_tbl := in_tb 381 (by decide +kernel)
theorem wt_383 : (Jvm.Cond.fieldLinkNest "BranchingStory" (263 : Nat) "BranchingStory$Analyzer" "choiceEntry" "[J" "BranchingStory") ∈ lw_tbl := in_tb 383 (by decide +kernel)
theorem wt_388 : (Jvm.Cond.fieldLinkNest "BranchingStory" (282 : Nat) "BranchingStory$Analyzer" "verdicts" "[I" "BranchingStory") ∈ lw_tbl := in_tb 388 (by decide +kernel)
theorem wt_390 : (Jvm.Cond.fieldLinkNest "BranchingStory" (285 : Nat) "BranchingStory$Analyzer" "endings" "I" "BranchingStory") ∈ lw_tbl := in_tb 390 (by decide +kernel)
theorem wt_392 : (Jvm.Cond.fieldLinkNest "BranchingStory" (288 : Nat) "BranchingStory$Analyzer" "deadEnds" "I" "BranchingStory") ∈ lw_tbl := in_tb 392 (by decide +kernel)
theorem wt_418 : (Jvm.Cond.fieldLink "BranchingStory" (16 : Nat) "BranchingStory" "story" "LBranchingStory$Story;") ∈ lw_tbl := in_tb 418 (by decide +kernel)
theorem wt_422 : (Jvm.Cond.fieldLink "BranchingStory" (42 : Nat) "BranchingStory" "history" "LBranchingStory$History;") ∈ lw_tbl := in_tb 422 (by decide +kernel)
theorem wt_423 : (Jvm.Cond.fieldLink "BranchingStory" (49 : Nat) "BranchingStory" "explorer" "LBranchingStory$Explorer;") ∈ lw_tbl := in_tb 423 (by decide +kernel)
theorem wt_424 : (Jvm.Cond.fieldLink "BranchingStory" (56 : Nat) "BranchingStory" "analyzer" "LBranchingStory$Analyzer;") ∈ lw_tbl := in_tb 424 (by decide +kernel)
theorem wt_650 : (Jvm.Cond.classLink "BranchingStory" (60 : Nat) "java/lang/IllegalArgumentException") ∈ lw_tbl := in_tb 650 (by decide +kernel)
theorem wt_718 : (Jvm.Cond.classLink "BranchingStory" (71 : Nat) "java/lang/IllegalStateException") ∈ lw_tbl := in_tb 718 (by decide +kernel)
theorem wt_742 : (Jvm.Cond.methodLinkNest "BranchingStory" (82 : Nat) ({ cls := "BranchingStory$Play", name := "forget", desc := "(LBranchingStory$Story;)V" } : Jvm.MethodName) "BranchingStory") ∈ lw_tbl := in_tb 742 (by decide +kernel)
theorem wt_750 : (Jvm.Cond.methodLinkNest "BranchingStory" (85 : Nat) ({ cls := "BranchingStory$History", name := "forget", desc := "()V" } : Jvm.MethodName) "BranchingStory") ∈ lw_tbl := in_tb 750 (by decide +kernel)
theorem wt_752 : (Jvm.Cond.instanceMethod ({ cls := "BranchingStory$History", name := "forget", desc := "()V" } : Jvm.MethodName)) ∈ lw_tbl := in_tb 752 (by decide +kernel)
theorem wt_753 : (Jvm.Cond.code ({ cls := "BranchingStory$History", name := "forget", desc := "()V" } : Jvm.MethodName) prog_4_method_2_code (1 : Nat) (Option.none : Option Jvm.ClassFile.FieldType)) ∈ lw_tbl := in_tb 753 (by decide +kernel)
theorem wt_754 : (Jvm.Cond.methodLinkNest "BranchingStory" (87 : Nat) ({ cls := "BranchingStory$Explorer", name := "forget", desc := "(LBranchingStory$Story;)V" } : Jvm.MethodName) "BranchingStory") ∈ lw_tbl := in_tb 754 (by decide +kernel)
theorem wt_760 : (Jvm.Cond.methodLinkNest "BranchingStory" (88 : Nat) ({ cls := "BranchingStory$Analyzer", name := "forget", desc := "(LBranchingStory$Story;)V" } : Jvm.MethodName) "BranchingStory") ∈ lw_tbl := in_tb 760 (by decide +kernel)
theorem wt_783 : (Jvm.Cond.methodLink "BranchingStory" (100 : Nat) ({ cls := "BranchingStory", name := "needNode", desc := "(I)V" } : Jvm.MethodName)) ∈ lw_tbl := in_tb 783 (by decide +kernel)
theorem wt_785 : (Jvm.Cond.instanceMethod ({ cls := "BranchingStory", name := "needNode", desc := "(I)V" } : Jvm.MethodName)) ∈ lw_tbl := in_tb 785 (by decide +kernel)
theorem wt_786 : (Jvm.Cond.code ({ cls := "BranchingStory", name := "needNode", desc := "(I)V" } : Jvm.MethodName) prog_1_method_41_code (2 : Nat) (Option.none : Option Jvm.ClassFile.FieldType)) ∈ lw_tbl := in_tb 786 (by decide +kernel)
theorem wt_787 : (Jvm.Cond.classLink "BranchingStory" (222 : Nat) "java/lang/IndexOutOfBoundsException") ∈ lw_tbl := in_tb 787 (by decide +kernel)
theorem wt_810 : (Jvm.Cond.methodLinkNest "BranchingStory" (107 : Nat) ({ cls := "BranchingStory$Story", name := "standsAsHub", desc := "(I)Z" } : Jvm.MethodName) "BranchingStory") ∈ lw_tbl := in_tb 810 (by decide +kernel)
theorem wt_821 : (Jvm.Cond.methodLink "BranchingStory" (111 : Nat) ({ cls := "BranchingStory", name := "needChoice", desc := "(I)V" } : Jvm.MethodName)) ∈ lw_tbl := in_tb 821 (by decide +kernel)
theorem wt_823 : (Jvm.Cond.instanceMethod ({ cls := "BranchingStory", name := "needChoice", desc := "(I)V" } : Jvm.MethodName)) ∈ lw_tbl := in_tb 823 (by decide +kernel)
theorem wt_824 : (Jvm.Cond.code ({ cls := "BranchingStory", name := "needChoice", desc := "(I)V" } : Jvm.MethodName) prog_1_method_42_code (2 : Nat) (Option.none : Option Jvm.ClassFile.FieldType)) ∈ lw_tbl := in_tb 824 (by decide +kernel)
theorem wt_840 : (Jvm.Cond.methodLink "BranchingStory" (120 : Nat) ({ cls := "BranchingStory", name := "needStory", desc := "()V" } : Jvm.MethodName)) ∈ lw_tbl := in_tb 840 (by decide +kernel)
theorem wt_842 : (Jvm.Cond.instanceMethod ({ cls := "BranchingStory", name := "needStory", desc := "()V" } : Jvm.MethodName)) ∈ lw_tbl := in_tb 842 (by decide +kernel)
theorem wt_843 : (Jvm.Cond.code ({ cls := "BranchingStory", name := "needStory", desc := "()V" } : Jvm.MethodName) prog_1_method_38_code (1 : Nat) (Option.none : Option Jvm.ClassFile.FieldType)) ∈ lw_tbl := in_tb 843 (by decide +kernel)
theorem wt_845 : (Jvm.Cond.methodLinkNest "BranchingStory" (123 : Nat) ({ cls := "BranchingStory$Play", name := "begin", desc := "(LBranchingStory$Story;)V" } : Jvm.MethodName) "BranchingStory") ∈ lw_tbl := in_tb 845 (by decide +kernel)
theorem wt_914 : (Jvm.Cond.methodLink "BranchingStory" (131 : Nat) ({ cls := "BranchingStory", name := "needPosition", desc := "(I)V" } : Jvm.MethodName)) ∈ lw_tbl := in_tb 914 (by decide +kernel)
theorem wt_916 : (Jvm.Cond.instanceMethod ({ cls := "BranchingStory", name := "needPosition", desc := "(I)V" } : Jvm.MethodName)) ∈ lw_tbl := in_tb 916 (by decide +kernel)
theorem wt_917 : (Jvm.Cond.code ({ cls := "BranchingStory", name := "needPosition", desc := "(I)V" } : Jvm.MethodName) prog_1_method_43_code (2 : Nat) (Option.none : Option Jvm.ClassFile.FieldType)) ∈ lw_tbl := in_tb 917 (by decide +kernel)
theorem wt_919 : (Jvm.Cond.methodLinkNest "BranchingStory" (134 : Nat) ({ cls := "BranchingStory$History", name := "keep", desc := "(LBranchingStory$Play;)V" } : Jvm.MethodName) "BranchingStory") ∈ lw_tbl := in_tb 919 (by decide +kernel)
theorem wt_921 : (Jvm.Cond.instanceMethod ({ cls := "BranchingStory$History", name := "keep", desc := "(LBranchingStory$Play;)V" } : Jvm.MethodName)) ∈ lw_tbl := in_tb 921 (by decide +kernel)
theorem wt_922 : (Jvm.Cond.code ({ cls := "BranchingStory$History", name := "keep", desc := "(LBranchingStory$Play;)V" } : Jvm.MethodName) prog_4_method_3_code (3 : Nat) (Option.none : Option Jvm.ClassFile.FieldType)) ∈ lw_tbl := in_tb 922 (by decide +kernel)
theorem wt_932 : (Jvm.Cond.methodLinkNest "BranchingStory" (138 : Nat) ({ cls := "BranchingStory$Play", name := "take", desc := "(I)V" } : Jvm.MethodName) "BranchingStory") ∈ lw_tbl := in_tb 932 (by decide +kernel)
theorem wt_953 : (Jvm.Cond.methodLinkNest "BranchingStory" (146 : Nat) ({ cls := "BranchingStory$History", name := "restore", desc := "(LBranchingStory$Play;)V" } : Jvm.MethodName) "BranchingStory") ∈ lw_tbl := in_tb 953 (by decide +kernel)
theorem wt_955 : (Jvm.Cond.instanceMethod ({ cls := "BranchingStory$History", name := "restore", desc := "(LBranchingStory$Play;)V" } : Jvm.MethodName)) ∈ lw_tbl := in_tb 955 (by decide +kernel)
theorem wt_956 : (Jvm.Cond.code ({ cls := "BranchingStory$History", name := "restore", desc := "(LBranchingStory$Play;)V" } : Jvm.MethodName) prog_4_method_4_code (3 : Nat) (Option.none : Option Jvm.ClassFile.FieldType)) ∈ lw_tbl := in_tb 956 (by decide +kernel)
theorem wt_973 : (Jvm.Cond.methodLinkNest "BranchingStory" (167 : Nat) ({ cls := "BranchingStory$Play", name := "choiceAt", desc := "(I)I" } : Jvm.MethodName) "BranchingStory") ∈ lw_tbl := in_tb 973 (by decide +kernel)
theorem wt_981 : (Jvm.Cond.methodLink "BranchingStory" (170 : Nat) ({ cls := "BranchingStory", name := "needFlag", desc := "(I)V" } : Jvm.MethodName)) ∈ lw_tbl := in_tb 981 (by decide +kernel)
theorem wt_982 : (Jvm.Cond.static ({ cls := "BranchingStory", name := "needFlag", desc := "(I)V" } : Jvm.MethodName)) ∈ lw_tbl := in_tb 982 (by decide +kernel)
theorem wt_983 : (Jvm.Cond.code ({ cls := "BranchingStory", name := "needFlag", desc := "(I)V" } : Jvm.MethodName) prog_1_method_45_code (1 : Nat) (Option.none : Option Jvm.ClassFile.FieldType)) ∈ lw_tbl := in_tb 983 (by decide +kernel)
theorem wt_992 : (Jvm.Cond.methodLink "BranchingStory" (176 : Nat) ({ cls := "BranchingStory", name := "needMeter", desc := "(I)V" } : Jvm.MethodName)) ∈ lw_tbl := in_tb 992 (by decide +kernel)
theorem wt_993 : (Jvm.Cond.static ({ cls := "BranchingStory", name := "needMeter", desc := "(I)V" } : Jvm.MethodName)) ∈ lw_tbl := in_tb 993 (by decide +kernel)
theorem wt_994 : (Jvm.Cond.code ({ cls := "BranchingStory", name := "needMeter", desc := "(I)V" } : Jvm.MethodName) prog_1_method_46_code (1 : Nat) (Option.none : Option Jvm.ClassFile.FieldType)) ∈ lw_tbl := in_tb 994 (by decide +kernel)
theorem wt_996 : (Jvm.Cond.methodLink "BranchingStory" (182 : Nat) ({ cls := "BranchingStory", name := "meterIn", desc := "(II)I" } : Jvm.MethodName)) ∈ lw_tbl := in_tb 996 (by decide +kernel)
theorem wt_1005 : (Jvm.Cond.methodLinkNest "BranchingStory" (197 : Nat) ({ cls := "BranchingStory$Lines", name := "before", desc := "(I)I" } : Jvm.MethodName) "BranchingStory") ∈ lw_tbl := in_tb 1005 (by decide +kernel)
theorem wt_1007 : (Jvm.Cond.instanceMethod ({ cls := "BranchingStory$Lines", name := "before", desc := "(I)I" } : Jvm.MethodName)) ∈ lw_tbl := in_tb 1007 (by decide +kernel)
theorem wt_1008 : (Jvm.Cond.code ({ cls := "BranchingStory$Lines", name := "before", desc := "(I)I" } : Jvm.MethodName) prog_6_method_4_code (2 : Nat) (Option.some Jvm.ClassFile.FieldType.int)) ∈ lw_tbl := in_tb 1008 (by decide +kernel)
theorem wt_1017 : (Jvm.Cond.methodLinkNest "BranchingStory" (202 : Nat) ({ cls := "BranchingStory$Explorer", name := "search", desc := "(LBranchingStory$Story;I)V" } : Jvm.MethodName) "BranchingStory") ∈ lw_tbl := in_tb 1017 (by decide +kernel)
theorem wt_1019 : (Jvm.Cond.instanceMethod ({ cls := "BranchingStory$Explorer", name := "search", desc := "(LBranchingStory$Story;I)V" } : Jvm.MethodName)) ∈ lw_tbl := in_tb 1019 (by decide +kernel)
theorem wt_1020 : (Jvm.Cond.code ({ cls := "BranchingStory$Explorer", name := "search", desc := "(LBranchingStory$Story;I)V" } : Jvm.MethodName) prog_3_method_3_code (6 : Nat) (Option.none : Option Jvm.ClassFile.FieldType)) ∈ lw_tbl := in_tb 1020 (by decide +kernel)
theorem wt_1056 : (Jvm.Cond.methodLink "BranchingStory" (209 : Nat) ({ cls := "BranchingStory", name := "needExploration", desc := "()V" } : Jvm.MethodName)) ∈ lw_tbl := in_tb 1056 (by decide +kernel)
theorem wt_1058 : (Jvm.Cond.instanceMethod ({ cls := "BranchingStory", name := "needExploration", desc := "()V" } : Jvm.MethodName)) ∈ lw_tbl := in_tb 1058 (by decide +kernel)
theorem wt_1059 : (Jvm.Cond.code ({ cls := "BranchingStory", name := "needExploration", desc := "()V" } : Jvm.MethodName) prog_1_method_39_code (1 : Nat) (Option.none : Option Jvm.ClassFile.FieldType)) ∈ lw_tbl := in_tb 1059 (by decide +kernel)
theorem wt_1068 : (Jvm.Cond.methodLink "BranchingStory" (216 : Nat) ({ cls := "BranchingStory", name := "needOutcome", desc := "(I)V" } : Jvm.MethodName)) ∈ lw_tbl := in_tb 1068 (by decide +kernel)
theorem wt_1069 : (Jvm.Cond.static ({ cls := "BranchingStory", name := "needOutcome", desc := "(I)V" } : Jvm.MethodName)) ∈ lw_tbl := in_tb 1069 (by decide +kernel)
theorem wt_1070 : (Jvm.Cond.code ({ cls := "BranchingStory", name := "needOutcome", desc := "(I)V" } : Jvm.MethodName) prog_1_method_47_code (1 : Nat) (Option.none : Option Jvm.ClassFile.FieldType)) ∈ lw_tbl := in_tb 1070 (by decide +kernel)
theorem wt_1080 : (Jvm.Cond.methodLinkNest "BranchingStory" (227 : Nat) ({ cls := "BranchingStory$Explorer", name := "positionOnWay", desc := "(II)I" } : Jvm.MethodName) "BranchingStory") ∈ lw_tbl := in_tb 1080 (by decide +kernel)
theorem wt_1082 : (Jvm.Cond.instanceMethod ({ cls := "BranchingStory$Explorer", name := "positionOnWay", desc := "(II)I" } : Jvm.MethodName)) ∈ lw_tbl := in_tb 1082 (by decide +kernel)
theorem wt_1083 : (Jvm.Cond.code ({ cls := "BranchingStory$Explorer", name := "positionOnWay", desc := "(II)I" } : Jvm.MethodName) prog_3_method_9_code (7 : Nat) (Option.some Jvm.ClassFile.FieldType.int)) ∈ lw_tbl := in_tb 1083 (by decide +kernel)
theorem wt_1098 : (Jvm.Cond.methodLink "BranchingStory" (233 : Nat) ({ cls := "BranchingStory", name := "needLine", desc := "(I)V" } : Jvm.MethodName)) ∈ lw_tbl := in_tb 1098 (by decide +kernel)
theorem wt_1099 : (Jvm.Cond.static ({ cls := "BranchingStory", name := "needLine", desc := "(I)V" } : Jvm.MethodName)) ∈ lw_tbl := in_tb 1099 (by decide +kernel)
theorem wt_1100 : (Jvm.Cond.code ({ cls := "BranchingStory", name := "needLine", desc := "(I)V" } : Jvm.MethodName) prog_1_method_44_code (1 : Nat) (Option.none : Option Jvm.ClassFile.FieldType)) ∈ lw_tbl := in_tb 1100 (by decide +kernel)
theorem wt_1109 : (Jvm.Cond.methodLinkNest "BranchingStory" (247 : Nat) ({ cls := "BranchingStory$Analyzer", name := "settle", desc := "(LBranchingStory$Story;)V" } : Jvm.MethodName) "BranchingStory") ∈ lw_tbl := in_tb 1109 (by decide +kernel)
theorem wt_1111 : (Jvm.Cond.instanceMethod ({ cls := "BranchingStory$Analyzer", name := "settle", desc := "(LBranchingStory$Story;)V" } : Jvm.MethodName)) ∈ lw_tbl := in_tb 1111 (by decide +kernel)
theorem wt_1112 : (Jvm.Cond.code ({ cls := "BranchingStory$Analyzer", name := "settle", desc := "(LBranchingStory$Story;)V" } : Jvm.MethodName) prog_2_method_3_code (4 : Nat) (Option.none : Option Jvm.ClassFile.FieldType)) ∈ lw_tbl := in_tb 1112 (by decide +kernel)
theorem wt_1235 : (Jvm.Cond.methodLinkNest "BranchingStory" (250 : Nat) ({ cls := "BranchingStory$Analyzer", name := "reachedNodes", desc := "()I" } : Jvm.MethodName) "BranchingStory") ∈ lw_tbl := in_tb 1235 (by decide +kernel)
theorem wt_1237 : (Jvm.Cond.instanceMethod ({ cls := "BranchingStory$Analyzer", name := "reachedNodes", desc := "()I" } : Jvm.MethodName)) ∈ lw_tbl := in_tb 1237 (by decide +kernel)
theorem wt_1238 : (Jvm.Cond.code ({ cls := "BranchingStory$Analyzer", name := "reachedNodes", desc := "()I" } : Jvm.MethodName) prog_2_method_4_code (3 : Nat) (Option.some Jvm.ClassFile.FieldType.int)) ∈ lw_tbl := in_tb 1238 (by decide +kernel)
theorem wt_1246 : (Jvm.Cond.methodLink "BranchingStory" (254 : Nat) ({ cls := "BranchingStory", name := "needAnalysis", desc := "()V" } : Jvm.MethodName)) ∈ lw_tbl := in_tb 1246 (by decide +kernel)
theorem wt_1248 : (Jvm.Cond.instanceMethod ({ cls := "BranchingStory", name := "needAnalysis", desc := "()V" } : Jvm.MethodName)) ∈ lw_tbl := in_tb 1248 (by decide +kernel)
theorem wt_1249 : (Jvm.Cond.code ({ cls := "BranchingStory", name := "needAnalysis", desc := "()V" } : Jvm.MethodName) prog_1_method_40_code (1 : Nat) (Option.none : Option Jvm.ClassFile.FieldType)) ∈ lw_tbl := in_tb 1249 (by decide +kernel)
theorem wt_1258 : (Jvm.Cond.methodLinkNest "BranchingStory" (266 : Nat) ({ cls := "BranchingStory$Knowledge", name := "low", desc := "(JI)I" } : Jvm.MethodName) "BranchingStory") ∈ lw_tbl := in_tb 1258 (by decide +kernel)
theorem wt_1266 : (Jvm.Cond.methodLinkNest "BranchingStory" (270 : Nat) ({ cls := "BranchingStory$Knowledge", name := "high", desc := "(JI)I" } : Jvm.MethodName) "BranchingStory") ∈ lw_tbl := in_tb 1266 (by decide +kernel)
theorem wt_1274 : (Jvm.Cond.methodLinkNest "BranchingStory" (273 : Nat) ({ cls := "BranchingStory$Knowledge", name := "flagSet", desc := "(JI)I" } : Jvm.MethodName) "BranchingStory") ∈ lw_tbl := in_tb 1274 (by decide +kernel)
theorem wt_1275 : (Jvm.Cond.static ({ cls := "BranchingStory$Knowledge", name := "flagSet", desc := "(JI)I" } : Jvm.MethodName)) ∈ lw_tbl := in_tb 1275 (by decide +kernel)
theorem wt_1276 : (Jvm.Cond.code ({ cls := "BranchingStory$Knowledge", name := "flagSet", desc := "(JI)I" } : Jvm.MethodName) prog_5_method_4_code (3 : Nat) (Option.some Jvm.ClassFile.FieldType.int)) ∈ lw_tbl := in_tb 1276 (by decide +kernel)
theorem wt_1284 : (Jvm.Cond.methodLinkNest "BranchingStory" (276 : Nat) ({ cls := "BranchingStory$Knowledge", name := "hubSet", desc := "(J)I" } : Jvm.MethodName) "BranchingStory") ∈ lw_tbl := in_tb 1284 (by decide +kernel)
theorem fl_X9_16 : FL RX9 16 8 2 := ⟨RX9, TX9, 9, rfl, by decide, inX9, Or.inl wt_418⟩
theorem fl_X9_42 : FL RX9 42 8 6 := ⟨RX9, TX9, 9, rfl, by decide, inX9, Or.inl wt_422⟩
theorem fl_X9_49 : FL RX9 49 8 7 := ⟨RX9, TX9, 9, rfl, by decide, inX9, Or.inl wt_423⟩
theorem fl_X9_56 : FL RX9 56 8 8 := ⟨RX9, TX9, 9, rfl, by decide, inX9, Or.inl wt_424⟩
theorem fl_X9_89 : FL RX9 89 6 10 := ⟨RX7, TX7, 19, rfl, by decide, inX7, Or.inr ⟨_, wt_97⟩⟩
theorem fl_X9_92 : FL RX9 92 6 14 := ⟨RX7, TX7, 19, rfl, by decide, inX7, Or.inr ⟨_, wt_109⟩⟩
theorem fl_X9_95 : FL RX9 95 6 18 := ⟨RX7, TX7, 19, rfl, by decide, inX7, Or.inr ⟨_, wt_124⟩⟩
theorem fl_X9_104 : FL RX9 104 6 11 := ⟨RX7, TX7, 19, rfl, by decide, inX7, Or.inr ⟨_, wt_100⟩⟩
theorem fl_X9_114 : FL RX9 114 6 15 := ⟨RX7, TX7, 19, rfl, by decide, inX7, Or.inr ⟨_, wt_113⟩⟩
theorem fl_X9_117 : FL RX9 117 6 16 := ⟨RX7, TX7, 19, rfl, by decide, inX7, Or.inr ⟨_, wt_116⟩⟩
theorem fl_X9_141 : FL RX9 141 2 0 := ⟨RX2, TX2, 5, rfl, by decide, inX2, Or.inr ⟨_, wt_295⟩⟩
theorem fl_X9_173 : FL RX9 173 4 5 := ⟨RX5, TX5, 11, rfl, by decide, inX5, Or.inr ⟨_, wt_253⟩⟩
theorem fl_X9_179 : FL RX9 179 4 6 := ⟨RX5, TX5, 11, rfl, by decide, inX5, Or.inr ⟨_, wt_255⟩⟩
theorem fl_X9_206 : FL RX9 206 1 5 := ⟨RX1, TX1, 14, rfl, by decide, inX1, Or.inr ⟨_, wt_330⟩⟩
theorem fl_X9_212 : FL RX9 212 1 2 := ⟨RX1, TX1, 14, rfl, by decide, inX1, Or.inr ⟨_, wt_325⟩⟩
theorem fl_X9_219 : FL RX9 219 1 13 := ⟨RX1, TX1, 14, rfl, by decide, inX1, Or.inr ⟨_, wt_340⟩⟩
theorem fl_X9_230 : FL RX9 230 1 10 := ⟨RX1, TX1, 14, rfl, by decide, inX1, Or.inr ⟨_, wt_336⟩⟩
theorem fl_X9_236 : FL RX9 236 1 0 := ⟨RX1, TX1, 14, rfl, by decide, inX1, Or.inr ⟨_, wt_321⟩⟩
theorem fl_X9_237 : FL RX9 237 3 2 := ⟨RX4, TX4, 3, rfl, by decide, inX4, Or.inr ⟨_, wt_233⟩⟩
theorem fl_X9_241 : FL RX9 241 4 9 := ⟨RX5, TX5, 11, rfl, by decide, inX5, Or.inr ⟨_, wt_261⟩⟩
theorem fl_X9_244 : FL RX9 244 1 4 := ⟨RX1, TX1, 14, rfl, by decide, inX1, Or.inr ⟨_, wt_328⟩⟩
theorem fl_X9_257 : FL RX9 257 0 3 := ⟨RX0, TX0, 11, rfl, by decide, inX0, Or.inr ⟨_, wt_381⟩⟩
theorem fl_X9_263 : FL RX9 263 0 4 := ⟨RX0, TX0, 11, rfl, by decide, inX0, Or.inr ⟨_, wt_383⟩⟩
theorem fl_X9_282 : FL RX9 282 0 8 := ⟨RX0, TX0, 11, rfl, by decide, inX0, Or.inr ⟨_, wt_388⟩⟩
theorem fl_X9_285 : FL RX9 285 0 9 := ⟨RX0, TX0, 11, rfl, by decide, inX0, Or.inr ⟨_, wt_390⟩⟩
theorem fl_X9_288 : FL RX9 288 0 10 := ⟨RX0, TX0, 11, rfl, by decide, inX0, Or.inr ⟨_, wt_392⟩⟩
theorem fl_X9_293 : FL RX9 293 1 1 := ⟨RX1, TX1, 14, rfl, by decide, inX1, Or.inr ⟨_, wt_323⟩⟩
theorem fl_X9_298 : FL RX9 298 0 1 := ⟨RX0, TX0, 11, rfl, by decide, inX0, Or.inr ⟨_, wt_378⟩⟩
theorem fp_X9_16 : FP RX9 16 8 2 (.object "BranchingStory$Story") := ⟨RX9, TX9, 9, tyX9, rfl, by decide, inX9, tyX9_ok, nmX9, rfl, by decide +kernel, Or.inl wt_418⟩
theorem fp_X9_20 : FP RX9 20 8 3 (.object "BranchingStory$Story") := ⟨RX9, TX9, 9, tyX9, rfl, by decide, inX9, tyX9_ok, nmX9, rfl, by decide +kernel, Or.inl wt_419⟩
theorem cs_X9_82 : CVw RX9 82 yX5_forget cX5_forget 2 none 1 := ⟨Or.inr ⟨_, wt_742⟩, wt_744, in_sl (n := 11) 34 (by decide +kernel), wt_5, wt_745, by decide, by decide, by decide +kernel⟩
theorem cs_X9_85 : CVw RX9 85 yX2_forget cX2_forget 1 none 0 := ⟨Or.inr ⟨_, wt_750⟩, wt_752, in_sl (n := 5) 36 (by decide +kernel), wt_7, wt_753, by decide, by decide, by decide +kernel⟩
theorem cs_X9_87 : CVw RX9 87 yX1_forget cX1_forget 2 none 1 := ⟨Or.inr ⟨_, wt_754⟩, wt_756, in_sl (n := 14) 37 (by decide +kernel), wt_8, wt_757, by decide, by decide, by decide +kernel⟩
theorem cs_X9_88 : CVw RX9 88 yX0_forget cX0_forget 2 none 1 := ⟨Or.inr ⟨_, wt_760⟩, wt_762, in_sl (n := 11) 38 (by decide +kernel), wt_9, wt_763, by decide, by decide, by decide +kernel⟩
theorem cs_X9_100 : CVw RX9 100 yX9_needNode cX9_needNode 2 none 1 := ⟨Or.inl wt_783, wt_785, in_sl (n := 9) 39 (by decide +kernel), wt_1, wt_786, by decide, by decide, by decide +kernel⟩
theorem cs_X9_107 : CVw RX9 107 yX7_standsAsHub cX7_standsAsHub 2 (some .boolean) 1 := ⟨Or.inr ⟨_, wt_810⟩, wt_812, in_sl (n := 19) 40 (by decide +kernel), wt_2, wt_813, by decide, by decide, by decide +kernel⟩
theorem cs_X9_111 : CVw RX9 111 yX9_needChoice cX9_needChoice 2 none 1 := ⟨Or.inl wt_821, wt_823, in_sl (n := 9) 41 (by decide +kernel), wt_1, wt_824, by decide, by decide, by decide +kernel⟩
theorem cs_X9_120 : CVw RX9 120 yX9_needStory cX9_needStory 1 none 0 := ⟨Or.inl wt_840, wt_842, in_sl (n := 9) 42 (by decide +kernel), wt_1, wt_843, by decide, by decide, by decide +kernel⟩
theorem cs_X9_123 : CVw RX9 123 yX5_begin cX5_begin 2 none 1 := ⟨Or.inr ⟨_, wt_845⟩, wt_847, in_sl (n := 11) 43 (by decide +kernel), wt_5, wt_848, by decide, by decide, by decide +kernel⟩
theorem cs_X9_131 : CVw RX9 131 yX9_needPosition cX9_needPosition 2 none 1 := ⟨Or.inl wt_914, wt_916, in_sl (n := 9) 54 (by decide +kernel), wt_1, wt_917, by decide, by decide, by decide +kernel⟩
theorem cs_X9_134 : CVw RX9 134 yX2_keep cX2_keep 3 none 1 := ⟨Or.inr ⟨_, wt_919⟩, wt_921, in_sl (n := 5) 55 (by decide +kernel), wt_7, wt_922, by decide, by decide, by decide +kernel⟩
theorem cs_X9_138 : CVw RX9 138 yX5_take cX5_take 3 none 1 := ⟨Or.inr ⟨_, wt_932⟩, wt_934, in_sl (n := 11) 57 (by decide +kernel), wt_5, wt_935, by decide, by decide, by decide +kernel⟩
theorem cs_X9_146 : CVw RX9 146 yX2_restore cX2_restore 3 none 1 := ⟨Or.inr ⟨_, wt_953⟩, wt_955, in_sl (n := 5) 60 (by decide +kernel), wt_7, wt_956, by decide, by decide, by decide +kernel⟩
theorem cs_X9_167 : CVw RX9 167 yX5_choiceAt cX5_choiceAt 4 (some .int) 1 := ⟨Or.inr ⟨_, wt_973⟩, wt_938, in_sl (n := 11) 58 (by decide +kernel), wt_5, wt_939, by decide, by decide, by decide +kernel⟩
theorem cs_X9_170 : CSw RX9 170 yX9_needFlag cX9_needFlag 1 none 1 := ⟨Or.inl wt_981, wt_982, wt_1, wt_983, by decide, by decide, by decide +kernel⟩
theorem cs_X9_176 : CSw RX9 176 yX9_needMeter cX9_needMeter 1 none 1 := ⟨Or.inl wt_992, wt_993, wt_1, wt_994, by decide, by decide, by decide +kernel⟩
theorem cs_X9_182 : CSw RX9 182 yX9_meterIn cX9_meterIn 2 (some .int) 2 := ⟨Or.inl wt_996, wt_885, wt_1, wt_886, by decide, by decide, by decide +kernel⟩
theorem cs_X9_197 : CVw RX9 197 yX4_before cX4_before 2 (some .int) 1 := ⟨Or.inr ⟨_, wt_1005⟩, wt_1007, in_sl (n := 3) 62 (by decide +kernel), wt_6, wt_1008, by decide, by decide, by decide +kernel⟩
theorem cs_X9_202 : CVw RX9 202 yX1_search cX1_search 6 none 2 := ⟨Or.inr ⟨_, wt_1017⟩, wt_1019, in_sl (n := 14) 63 (by decide +kernel), wt_8, wt_1020, by decide, by decide, by decide +kernel⟩
theorem cs_X9_209 : CVw RX9 209 yX9_needExploration cX9_needExploration 1 none 0 := ⟨Or.inl wt_1056, wt_1058, in_sl (n := 9) 69 (by decide +kernel), wt_1, wt_1059, by decide, by decide, by decide +kernel⟩
theorem cs_X9_216 : CSw RX9 216 yX9_needOutcome cX9_needOutcome 1 none 1 := ⟨Or.inl wt_1068, wt_1069, wt_1, wt_1070, by decide, by decide, by decide +kernel⟩
theorem cs_X9_227 : CVw RX9 227 yX1_positionOnWay cX1_positionOnWay 7 (some .int) 2 := ⟨Or.inr ⟨_, wt_1080⟩, wt_1082, in_sl (n := 14) 70 (by decide +kernel), wt_8, wt_1083, by decide, by decide, by decide +kernel⟩
theorem cs_X9_233 : CSw RX9 233 yX9_needLine cX9_needLine 1 none 1 := ⟨Or.inl wt_1098, wt_1099, wt_1, wt_1100, by decide, by decide, by decide +kernel⟩
theorem cs_X9_247 : CVw RX9 247 yX0_settle cX0_settle 4 none 1 := ⟨Or.inr ⟨_, wt_1109⟩, wt_1111, in_sl (n := 11) 71 (by decide +kernel), wt_9, wt_1112, by decide, by decide, by decide +kernel⟩
theorem cs_X9_250 : CVw RX9 250 yX0_reachedNodes cX0_reachedNodes 3 (some .int) 0 := ⟨Or.inr ⟨_, wt_1235⟩, wt_1237, in_sl (n := 11) 91 (by decide +kernel), wt_9, wt_1238, by decide, by decide, by decide +kernel⟩
theorem cs_X9_254 : CVw RX9 254 yX9_needAnalysis cX9_needAnalysis 1 none 0 := ⟨Or.inl wt_1246, wt_1248, in_sl (n := 9) 92 (by decide +kernel), wt_1, wt_1249, by decide, by decide, by decide +kernel⟩
theorem cs_X9_266 : CSw RX9 266 yX3_low cX3_low 3 (some .int) 2 := ⟨Or.inr ⟨_, wt_1258⟩, wt_1138, wt_21, wt_1139, by decide, by decide, by decide +kernel⟩
theorem cs_X9_270 : CSw RX9 270 yX3_high cX3_high 3 (some .int) 2 := ⟨Or.inr ⟨_, wt_1266⟩, wt_1143, wt_21, wt_1144, by decide, by decide, by decide +kernel⟩
theorem cs_X9_273 : CSw RX9 273 yX3_flagSet cX3_flagSet 3 (some .int) 2 := ⟨Or.inr ⟨_, wt_1274⟩, wt_1275, wt_21, wt_1276, by decide, by decide, by decide +kernel⟩
theorem cs_X9_276 : CSw RX9 276 yX3_hubSet cX3_hubSet 2 (some .int) 1 := ⟨Or.inr ⟨_, wt_1284⟩, wt_1219, wt_21, wt_1220, by decide, by decide, by decide +kernel⟩
/-! BranchingStory.type(I)I -/
def f_X9_type_J11 (Q : St → Int → Prop) (E : String → St → Prop) (σ : St) : Prop :=
  E IAE σ
def f_X9_type_J40 (Q : St → Int → Prop) (E : String → St → Prop) (σ : St) : Prop :=
  E ISE σ
def f_X9_type (a0 : Int) (σ : St) (Q : St → Int → Prop) (E : String → St → Prop) : Prop :=
  inR a0 ∧ ((a0 < 0 → f_X9_type_J11 Q E σ) ∧ (¬ a0 < 0 → inR a0 ∧ ((a0 ≤ 255 → inR (σ 0 1) ∧ (((σ 0 1) < 0 → f_X9_type_J40 Q E σ) ∧ (¬ (σ 0 1) < 0 → inR (σ 0 1) ∧ (((σ 0 1) < 400 → 0 ≤ (σ 0 1) ∧ (σ 0 1) < 400 ∧ ∀ σ1 : St, σ1 = sset σ 1 (σ 0 1).toNat a0 → ∀ σ2 : St, σ2 = sset σ1 0 1 ((σ1 0 1) + 1) → Q σ2 (σ2 0 1)) ∧ (¬ (σ 0 1) < 400 → f_X9_type_J40 Q E σ))))) ∧ (¬ a0 ≤ 255 → f_X9_type_J11 Q E σ))))
set_option maxRecDepth 100000 in
set_option maxHeartbeats 4000000 in
theorem w_X9_type_J11 {X : Cx} {Y : Cy} {Q : St → Int → Prop} {E : String → St → Prop} (ok : Ok X Y KC cX9_type 2 RX9 (rmX 6 90) (some .int)) (ox : Ox X Y) (σ : St) (h : f_X9_type_J11 Q E σ ) : Wq X Y KC 2 (QX X Y (Qiq Y KC Q) (XCq Y KC E)) σ 11 [] [] := by
  unfold f_X9_type_J11 at h
  exact q_throw (text := "code is out of range") ok ox (by decide) wt_650 wt_14 (by decide) ox.2.2.2.1.2.1 at_f64 at_g64 dX9_type_11 dX9_type_14 dX9_type_15 dX9_type_17 dX9_type_20 ⟨Nat.le_of_ble_eq_true rfl, Nat.le_of_ble_eq_true rfl, Nat.le_of_ble_eq_true rfl, Nat.le_of_ble_eq_true rfl⟩ h
set_option maxRecDepth 100000 in
set_option maxHeartbeats 4000000 in
theorem w_X9_type_J40 {X : Cx} {Y : Cy} {Q : St → Int → Prop} {E : String → St → Prop} (ok : Ok X Y KC cX9_type 2 RX9 (rmX 6 90) (some .int)) (ox : Ox X Y) (σ : St) (h : f_X9_type_J40 Q E σ ) : Wq X Y KC 2 (QX X Y (Qiq Y KC Q) (XCq Y KC E)) σ 40 [] [] := by
  unfold f_X9_type_J40 at h
  exact q_throw (text := "the text is full") ok ox (by decide) wt_718 wt_15 (by decide) ox.2.2.2.1.1 at_f75 at_g75 dX9_type_40 dX9_type_43 dX9_type_44 dX9_type_46 dX9_type_49 ⟨Nat.le_of_ble_eq_true rfl, Nat.le_of_ble_eq_true rfl, Nat.le_of_ble_eq_true rfl, Nat.le_of_ble_eq_true rfl⟩ h
set_option maxRecDepth 100000 in
set_option maxHeartbeats 4000000 in
theorem c_X9_type (l : Launch) (hst : l.stackTraces = false) (Y : Cy) (hD : ∀ σ, va_D Y.2.2.2 (wsOf KC Y.2.1 Y.2.2.1 σ)) {a0 : Int} {σ : St} {Q : St → Int → Prop} {E : String → St → Prop} (h : f_X9_type a0 σ Q E) : Xon l yX9_type cX9_type 2 (some .int) (rmX 6 90) Y KC σ [.inr (.inr 0), .inl a0] (Qiq Y KC Q) E := xcon_of (lv := [(0, .inr (.inr 0)), (1, .inl a0)]) (by decide) hst hD (Nat.le_of_ble_eq_true rfl) rfl (fun X _ ok ox => by
  have ok : Ok X Y KC cX9_type 2 RX9 (rmX 6 90) (some .int) := ok
  unfold f_X9_type at h
  refine q_iload_n ok dX9_type_0 1 rfl ?_
  obtain ⟨g1, hT4a, hT4b⟩ := h
  refine q_if_lt (tgt := 11) ok dX9_type_1 (by decide) g1 (fun c4 => ?_) (fun c4 => ?_)
  · have h := hT4a c4
    refine q_sub [] rfl ?_
    exact w_X9_type_J11 ok ox σ h
  · have h := hT4b c4
    refine q_iload_n ok dX9_type_4 1 rfl ?_
    refine q_sipush ok dX9_type_5 rfl ?_
    obtain ⟨g2, hT3a, hT3b⟩ := h
    refine q_icmp_le (tgt := 21) ok dX9_type_8 (by decide) g2 (by unfold inR; decide) (fun c3 => ?_) (fun c3 => ?_)
    · have h := hT3a c3
      refine q_aload_n ok dX9_type_21 0 rfl ?_
      refine q_getI ok fl_X9_67 kC_0 fC_0_1 dX9_type_22 ?_
      obtain ⟨g3, hT2a, hT2b⟩ := h
      refine q_if_lt (tgt := 40) ok dX9_type_25 (by decide) g3 (fun c2 => ?_) (fun c2 => ?_)
      · have h := hT2a c2
        refine q_sub [] rfl ?_
        exact w_X9_type_J40 ok ox σ h
      · have h := hT2b c2
        refine q_aload_n ok dX9_type_28 0 rfl ?_
        refine q_getI ok fl_X9_67 kC_0 fC_0_1 dX9_type_29 ?_
        refine q_aload_n ok dX9_type_32 0 rfl ?_
        refine q_getC ok fl_X9_9 kC_0 fC_0_0 dX9_type_33 ?_
        refine q_alenI ok kC_1 dX9_type_36 ?_
        obtain ⟨g4, hT1a, hT1b⟩ := h
        refine q_icmp_lt (tgt := 50) ok dX9_type_37 (by decide) g4 (by unfold inR; decide) (fun c1 => ?_) (fun c1 => ?_)
        · have h := hT1a c1
          refine q_aload_n ok dX9_type_50 0 rfl ?_
          refine q_getC ok fl_X9_9 kC_0 fC_0_0 dX9_type_51 ?_
          refine q_aload_n ok dX9_type_54 0 rfl ?_
          refine q_getI ok fl_X9_67 kC_0 fC_0_1 dX9_type_55 ?_
          refine q_iload_n ok dX9_type_58 1 rfl ?_
          obtain ⟨g5, g6, h⟩ := h
          refine q_iast ok kC_ok kC_1 g5 g6 dX9_type_59 (wq_s (fun σ1 eσ1 => ?_))
          have h := h σ1 eσ1
          refine q_aload_n ok dX9_type_60 0 rfl ?_
          refine q_dup ok dX9_type_61 rfl ?_
          refine q_getI ok fl_X9_67 kC_0 fC_0_1 dX9_type_62 ?_
          refine q_iconst ok dX9_type_65 ?_
          refine q_iadd ok dX9_type_66 ?_
          refine q_putI ok fp_X9_67 kC_0 fC_0_1 dX9_type_67 (wq_s (fun σ2 eσ2 => ?_))
          have h := h σ2 eσ2
          refine q_aload_n ok dX9_type_70 0 rfl ?_
          refine q_getI ok fl_X9_67 kC_0 fC_0_1 dX9_type_71 ?_
          exact wq_ret (q_iret ok dX9_type_74 h)
        · have h := hT1b c1
          refine q_sub [] rfl ?_
          exact w_X9_type_J40 ok ox σ h
    · have h := hT3b c3
      refine q_sub [] rfl ?_
      exact w_X9_type_J11 ok ox σ h)
/-! BranchingStory.build()I -/
def f_X9_build (σ : St) (Q : St → Int → Prop) (E : String → St → Prop) : Prop :=
  f_X6_read 1 (σ 0 1) ((σ 0 3).toNat) σ (fun σ1 r1 => inR r1 ∧ ((r1 = (-1) → ∀ σ2 : St, σ2 = sset σ1 0 2 ((((σ1 0 3).toNat) : Nat) : Int) → ∀ σ3 : St, σ3 = sset σ2 0 3 ((((σ1 0 2).toNat) : Nat) : Int) → f_X5_forget 44 ((σ3 0 2).toNat) σ3 (fun σ4 => f_X2_forget σ4 (fun σ5 => f_X1_forget ((σ5 0 2).toNat) σ5 (fun σ6 => f_X0_forget ((σ6 0 2).toNat) σ6 (fun σ7 => isS ((σ7 0 2).toNat) ∧ Q σ7 (σ7 ((σ7 0 2).toNat) 10)))))) ∧ (¬ r1 = (-1) → E ISE σ1)))
set_option maxRecDepth 100000 in
set_option maxHeartbeats 4000000 in
theorem c_X9_build (l : Launch) (hst : l.stackTraces = false) (Y : Cy) (hD : ∀ σ, va_D Y.2.2.2 (wsOf KC Y.2.1 Y.2.2.1 σ)) {σ : St} {Q : St → Int → Prop} {E : String → St → Prop} (h : f_X9_build  σ Q E) : Xon l yX9_build cX9_build 2 (some .int) (rmX 7 158) Y KC σ [.inr (.inr 0)] (Qiq Y KC Q) E := xcon_of (lv := [(0, .inr (.inr 0))]) (by decide) hst hD (Nat.le_of_ble_eq_true rfl) rfl (fun X _ ok ox => by
  have ok : Ok X Y KC cX9_build 2 RX9 (rmX 7 158) (some .int) := ok
  unfold f_X9_build at h
  refine q_aload_n ok dX9_build_0 0 rfl ?_
  refine q_getC ok fl_X9_28 kC_0 fC_0_4 dX9_build_1 ?_
  refine q_aload_n ok dX9_build_4 0 rfl ?_
  refine q_getC ok fl_X9_9 kC_0 fC_0_0 dX9_build_5 ?_
  refine q_aload_n ok dX9_build_8 0 rfl ?_
  refine q_getI ok fl_X9_67 kC_0 fC_0_1 dX9_build_9 ?_
  refine q_aload_n ok dX9_build_12 0 rfl ?_
  refine q_getR ok fl_X9_20 kC_0 fC_0_3 dX9_build_13 ?_
  refine q_callVI (st := []) ok cs_X9_76 kC_38 rfl (c_X6_read X.2.1 Y ok.2.2.2.2.2.2.2.2 h) ⟨rfl, rfl, Nat.le_of_ble_eq_true rfl, Nat.le_of_ble_eq_true rfl⟩ rfl rfl (Nat.le_of_ble_eq_true rfl) dX9_build_16 (fun σ1 r1 h => ?_)
  refine q_iconst ok dX9_build_19 ?_
  obtain ⟨g1, hT1a, hT1b⟩ := h
  refine q_icmp_eq (tgt := 33) ok dX9_build_20 (by decide) g1 (by unfold inR; decide) (fun c1 => ?_) (fun c1 => ?_)
  · have h := hT1a c1
    refine q_aload_n ok dX9_build_33 0 rfl ?_
    refine q_getR ok fl_X9_16 kC_0 fC_0_2 dX9_build_34 ?_
    refine q_astore_n (lv' := [(1, .inr (.inr ((σ1 0 2).toNat))), (0, .inr (.inr 0))]) ok dX9_build_37 (by decide) rfl ?_
    refine q_aload_n ok dX9_build_38 1 rfl ?_
    refine q_aload_n ok dX9_build_39 1 rfl ?_
    refine q_getR ok fl_X9_20 kC_0 fC_0_3 dX9_build_40 ?_
    refine q_putR ok fp_X9_16 kC_0 fC_0_2 dX9_build_43 (wq_s (fun σ2 eσ2 => ?_))
    have h := h σ2 eσ2
    refine q_aload_n ok dX9_build_46 1 rfl ?_
    refine q_aload_n ok dX9_build_47 0 rfl ?_
    refine q_putR ok fp_X9_20 kC_0 fC_0_3 dX9_build_48 (wq_s (fun σ3 eσ3 => ?_))
    have h := h σ3 eσ3
    refine q_aload_n ok dX9_build_51 1 rfl ?_
    refine q_getC ok fl_X9_35 kC_0 fC_0_5 dX9_build_52 ?_
    refine q_aload_n ok dX9_build_55 1 rfl ?_
    refine q_getR ok fl_X9_16 kC_0 fC_0_2 dX9_build_56 ?_
    refine q_callVV (st := []) ok cs_X9_82 kC_44 rfl (c_X5_forget X.2.1 Y ok.2.2.2.2.2.2.2.2 h) ⟨rfl, rfl, Nat.le_of_ble_eq_true rfl, Nat.le_of_ble_eq_true rfl⟩ rfl rfl (Nat.le_of_ble_eq_true rfl) dX9_build_59 (fun σ4 h => ?_)
    refine q_aload_n ok dX9_build_62 1 rfl ?_
    refine q_getC ok fl_X9_42 kC_0 fC_0_6 dX9_build_63 ?_
    refine q_callVV (st := []) ok cs_X9_85 kC_48 rfl (c_X2_forget X.2.1 Y ok.2.2.2.2.2.2.2.2 h) ⟨rfl, rfl, Nat.le_of_ble_eq_true rfl, Nat.le_of_ble_eq_true rfl⟩ rfl rfl (Nat.le_of_ble_eq_true rfl) dX9_build_66 (fun σ5 h => ?_)
    refine q_aload_n ok dX9_build_69 1 rfl ?_
    refine q_getC ok fl_X9_49 kC_0 fC_0_7 dX9_build_70 ?_
    refine q_aload_n ok dX9_build_73 1 rfl ?_
    refine q_getR ok fl_X9_16 kC_0 fC_0_2 dX9_build_74 ?_
    refine q_callVV (st := []) ok cs_X9_87 kC_52 rfl (c_X1_forget X.2.1 Y ok.2.2.2.2.2.2.2.2 h) ⟨rfl, rfl, Nat.le_of_ble_eq_true rfl, Nat.le_of_ble_eq_true rfl⟩ rfl rfl (Nat.le_of_ble_eq_true rfl) dX9_build_77 (fun σ6 h => ?_)
    refine q_aload_n ok dX9_build_80 1 rfl ?_
    refine q_getC ok fl_X9_56 kC_0 fC_0_8 dX9_build_81 ?_
    refine q_aload_n ok dX9_build_84 1 rfl ?_
    refine q_getR ok fl_X9_16 kC_0 fC_0_2 dX9_build_85 ?_
    refine q_callVV (st := []) ok cs_X9_88 kC_65 rfl (c_X0_forget X.2.1 Y ok.2.2.2.2.2.2.2.2 h) ⟨rfl, rfl, Nat.le_of_ble_eq_true rfl, Nat.le_of_ble_eq_true rfl⟩ rfl rfl (Nat.le_of_ble_eq_true rfl) dX9_build_88 (fun σ7 h => ?_)
    refine q_aload_n ok dX9_build_91 1 rfl ?_
    refine q_getR ok fl_X9_16 kC_0 fC_0_2 dX9_build_92 ?_
    obtain ⟨g2, h⟩ := h
    refine q_getI ok fl_X9_89 (kX7_0 g2) (fIX7_10 ((σ7 0 2).toNat)) dX9_build_95 ?_
    exact wq_ret (q_iret ok dX9_build_98 h)
  · have h := hT1b c1
    exact q_throw (text := "the text has a fault") ok ox (by decide) wt_718 wt_15 (by decide) ox.2.2.2.1.1 at_f75 at_g75 dX9_build_23 dX9_build_26 dX9_build_27 dX9_build_29 dX9_build_32 ⟨Nat.le_of_ble_eq_true rfl, Nat.le_of_ble_eq_true rfl, Nat.le_of_ble_eq_true rfl, Nat.le_of_ble_eq_true rfl⟩ h)
/-! BranchingStory.count(I)I -/
def f_X9_count (a0 : Int) (σ : St) (Q : St → Int → Prop) (E : String → St → Prop) : Prop :=
  inR a0 ∧ ((a0 = 0 → isS ((σ 0 2).toNat) ∧ Q σ (σ ((σ 0 2).toNat) 10)) ∧ (a0 = 1 → isS ((σ 0 2).toNat) ∧ Q σ (σ ((σ 0 2).toNat) 14)) ∧ (a0 = 2 → isS ((σ 0 2).toNat) ∧ Q σ (σ ((σ 0 2).toNat) 18)) ∧ ((a0 < 0 ∨ 2 < a0) → E IAE σ))
set_option maxRecDepth 100000 in
set_option maxHeartbeats 4000000 in
theorem c_X9_count (l : Launch) (hst : l.stackTraces = false) (Y : Cy) (hD : ∀ σ, va_D Y.2.2.2 (wsOf KC Y.2.1 Y.2.2.1 σ)) {a0 : Int} {σ : St} {Q : St → Int → Prop} {E : String → St → Prop} (h : f_X9_count a0 σ Q E) : Xon l yX9_count cX9_count 2 (some .int) (rmX 6 90) Y KC σ [.inr (.inr 0), .inl a0] (Qiq Y KC Q) E := xcon_of (lv := [(0, .inr (.inr 0)), (1, .inl a0)]) (by decide) hst hD (Nat.le_of_ble_eq_true rfl) rfl (fun X _ ok ox => by
  have ok : Ok X Y KC cX9_count 2 RX9 (rmX 6 90) (some .int) := ok
  unfold f_X9_count at h
  refine q_iload_n ok dX9_count_0 1 rfl ?_
  obtain ⟨g1, hs1, hs2, hs3, hs4⟩ := h
  by_cases c1 : a0 = 0
  · have h := hs1 c1
    refine q_tsIn (tgt := 28) ok dX9_count_1 g1 (by omega) (by omega) (by rw [c1]; rfl) (by decide) ?_
    refine q_aload_n ok dX9_count_28 0 rfl ?_
    refine q_getR ok fl_X9_16 kC_0 fC_0_2 dX9_count_29 ?_
    obtain ⟨g2, h⟩ := h
    refine q_getI ok fl_X9_89 (kX7_0 g2) (fIX7_10 ((σ 0 2).toNat)) dX9_count_32 ?_
    exact wq_ret (q_iret ok dX9_count_35 h)
  by_cases c2 : a0 = 1
  · have h := hs2 c2
    refine q_tsIn (tgt := 36) ok dX9_count_1 g1 (by omega) (by omega) (by rw [c2]; rfl) (by decide) ?_
    refine q_aload_n ok dX9_count_36 0 rfl ?_
    refine q_getR ok fl_X9_16 kC_0 fC_0_2 dX9_count_37 ?_
    obtain ⟨g3, h⟩ := h
    refine q_getI ok fl_X9_92 (kX7_0 g3) (fIX7_14 ((σ 0 2).toNat)) dX9_count_40 ?_
    exact wq_ret (q_iret ok dX9_count_43 h)
  by_cases c3 : a0 = 2
  · have h := hs3 c3
    refine q_tsIn (tgt := 44) ok dX9_count_1 g1 (by omega) (by omega) (by rw [c3]; rfl) (by decide) ?_
    refine q_aload_n ok dX9_count_44 0 rfl ?_
    refine q_getR ok fl_X9_16 kC_0 fC_0_2 dX9_count_45 ?_
    obtain ⟨g4, h⟩ := h
    refine q_getI ok fl_X9_95 (kX7_0 g4) (fIX7_18 ((σ 0 2).toNat)) dX9_count_48 ?_
    exact wq_ret (q_iret ok dX9_count_51 h)
  have h := hs4 (by omega)
  refine q_tsOut (tgt := 52) ok dX9_count_1 g1 (by omega) (by decide) ?_
  exact q_throw (text := "what is out of range") ok ox (by decide) wt_650 wt_14 (by decide) ox.2.2.2.1.2.1 at_f64 at_g64 dX9_count_52 dX9_count_55 dX9_count_56 dX9_count_58 dX9_count_61 ⟨Nat.le_of_ble_eq_true rfl, Nat.le_of_ble_eq_true rfl, Nat.le_of_ble_eq_true rfl, Nat.le_of_ble_eq_true rfl⟩ h)
/-! BranchingStory.needNode(I)V -/
def f_X9_needNode_J21 (Q : St → Prop) (E : String → St → Prop) (σ : St) : Prop :=
  E IOE σ
def f_X9_needNode (a0 : Int) (σ : St) (Q : St → Prop) (E : String → St → Prop) : Prop :=
  inR a0 ∧ ((a0 < 0 → f_X9_needNode_J21 Q E σ) ∧ (¬ a0 < 0 → isS ((σ 0 2).toNat) ∧ inR a0 ∧ inR (σ ((σ 0 2).toNat) 10) ∧ (((σ ((σ 0 2).toNat) 10) ≤ a0 → f_X9_needNode_J21 Q E σ) ∧ (¬ (σ ((σ 0 2).toNat) 10) ≤ a0 → inR a0 ∧ ((a0 < 12 → Q σ) ∧ (¬ a0 < 12 → f_X9_needNode_J21 Q E σ))))))
set_option maxRecDepth 100000 in
set_option maxHeartbeats 4000000 in
theorem w_X9_needNode_J21 {X : Cx} {Y : Cy} {Q : St → Prop} {E : String → St → Prop} (ok : Ok X Y KC cX9_needNode 2 RX9 (rmX 6 90) none) (ox : Ox X Y) (σ : St) (h : f_X9_needNode_J21 Q E σ ) : Wq X Y KC 2 (QX X Y (Qvq Y KC Q) (XCq Y KC E)) σ 21 [] [] := by
  unfold f_X9_needNode_J21 at h
  exact q_throwW (text := "there is no such node") ok ox (by decide) wt_787 wt_18 (by decide) ox.2.2.2.1.2.2 at_f226 at_g226 dX9_needNode_21 dX9_needNode_24 dX9_needNode_25 dX9_needNode_28 dX9_needNode_31 ⟨Nat.le_of_ble_eq_true rfl, Nat.le_of_ble_eq_true rfl, Nat.le_of_ble_eq_true rfl, Nat.le_of_ble_eq_true rfl⟩ h
set_option maxRecDepth 100000 in
set_option maxHeartbeats 4000000 in
theorem c_X9_needNode (l : Launch) (hst : l.stackTraces = false) (Y : Cy) (hD : ∀ σ, va_D Y.2.2.2 (wsOf KC Y.2.1 Y.2.2.1 σ)) {a0 : Int} {σ : St} {Q : St → Prop} {E : String → St → Prop} (h : f_X9_needNode a0 σ Q E) : Xon l yX9_needNode cX9_needNode 2 none (rmX 6 90) Y KC σ [.inr (.inr 0), .inl a0] (Qvq Y KC Q) E := xcon_of (lv := [(0, .inr (.inr 0)), (1, .inl a0)]) (by decide) hst hD (Nat.le_of_ble_eq_true rfl) rfl (fun X _ ok ox => by
  have ok : Ok X Y KC cX9_needNode 2 RX9 (rmX 6 90) none := ok
  unfold f_X9_needNode at h
  refine q_iload_n ok dX9_needNode_0 1 rfl ?_
  obtain ⟨g1, hT3a, hT3b⟩ := h
  refine q_if_lt (tgt := 21) ok dX9_needNode_1 (by decide) g1 (fun c3 => ?_) (fun c3 => ?_)
  · have h := hT3a c3
    refine q_sub [] rfl ?_
    exact w_X9_needNode_J21 ok ox σ h
  · have h := hT3b c3
    refine q_iload_n ok dX9_needNode_4 1 rfl ?_
    refine q_aload_n ok dX9_needNode_5 0 rfl ?_
    refine q_getR ok fl_X9_16 kC_0 fC_0_2 dX9_needNode_6 ?_
    obtain ⟨g2, h⟩ := h
    refine q_getI ok fl_X9_89 (kX7_0 g2) (fIX7_10 ((σ 0 2).toNat)) dX9_needNode_9 ?_
    obtain ⟨g3, g4, hT2a, hT2b⟩ := h
    refine q_icmp_ge (tgt := 21) ok dX9_needNode_12 (by decide) g3 g4 (fun c2 => ?_) (fun c2 => ?_)
    · have h := hT2a c2
      refine q_sub [] rfl ?_
      exact w_X9_needNode_J21 ok ox σ h
    · have h := hT2b c2
      refine q_iload_n ok dX9_needNode_15 1 rfl ?_
      refine q_bipush ok dX9_needNode_16 rfl ?_
      obtain ⟨g5, hT1a, hT1b⟩ := h
      refine q_icmp_lt (tgt := 32) ok dX9_needNode_18 (by decide) g5 (by unfold inR; decide) (fun c1 => ?_) (fun c1 => ?_)
      · have h := hT1a c1
        exact wq_ret (q_vret ok dX9_needNode_32 h)
      · have h := hT1b c1
        refine q_sub [] rfl ?_
        exact w_X9_needNode_J21 ok ox σ h)
/-! BranchingStory.name(I)I -/
def f_X9_name (a0 : Int) (σ : St) (Q : St → Int → Prop) (E : String → St → Prop) : Prop :=
  f_X9_needNode a0 σ (fun σ1 => isS ((σ1 0 2).toNat) ∧ 0 ≤ a0 ∧ a0 < 12 ∧ Q σ1 (σ1 ((σ1 0 2).toNat + 13) a0.toNat)) E
set_option maxRecDepth 100000 in
set_option maxHeartbeats 4000000 in
theorem c_X9_name (l : Launch) (hst : l.stackTraces = false) (Y : Cy) (hD : ∀ σ, va_D Y.2.2.2 (wsOf KC Y.2.1 Y.2.2.1 σ)) {a0 : Int} {σ : St} {Q : St → Int → Prop} {E : String → St → Prop} (h : f_X9_name a0 σ Q E) : Xon l yX9_name cX9_name 2 (some .int) (rmX 7 111) Y KC σ [.inr (.inr 0), .inl a0] (Qiq Y KC Q) E := xcon_of (lv := [(0, .inr (.inr 0)), (1, .inl a0)]) (by decide) hst hD (Nat.le_of_ble_eq_true rfl) rfl (fun X _ ok ox => by
  have ok : Ok X Y KC cX9_name 2 RX9 (rmX 7 111) (some .int) := ok
  unfold f_X9_name at h
  refine q_aload_n ok dX9_name_0 0 rfl ?_
  refine q_iload_n ok dX9_name_1 1 rfl ?_
  refine q_xV (st := []) ok ox cs_X9_100 wt_783 kC_0 rfl (c_X9_needNode X.2.1 ox.1 Y ok.2.2.2.2.2.2.2.2 h) ⟨rfl, rfl, Nat.le_of_ble_eq_true rfl, Nat.le_of_ble_eq_true rfl⟩ ⟨Nat.le_of_ble_eq_true rfl, Nat.le_of_ble_eq_true rfl⟩ rfl rfl (Nat.le_of_ble_eq_true rfl) dX9_name_2 (fun σ1 h => ?_)
  refine q_aload_n ok dX9_name_5 0 rfl ?_
  refine q_getR ok fl_X9_16 kC_0 fC_0_2 dX9_name_6 ?_
  obtain ⟨g1, h⟩ := h
  refine q_getC ok fl_X9_104 (kX7_0 g1) (fIX7_11 ((σ1 0 2).toNat)) dX9_name_9 ?_
  refine q_iload_n ok dX9_name_12 1 rfl ?_
  obtain ⟨g2, g3, h⟩ := h
  refine q_iald ok kC_ok (kX7_13 g1) g2 g3 dX9_name_13 ?_
  exact wq_ret (q_iret ok dX9_name_14 h))
/-! BranchingStory.isHub(I)Z -/
def f_X9_isHub (a0 : Int) (σ : St) (Q : St → Int → Prop) (E : String → St → Prop) : Prop :=
  f_X9_needNode a0 σ (fun σ1 => isS ((σ1 0 2).toNat) ∧ f_X7_standsAsHub ((σ1 0 2).toNat) a0 σ1 (fun σ2 r1 => (r1 = 0 ∨ r1 = 1) ∧ Q σ2 r1)) E
set_option maxRecDepth 100000 in
set_option maxHeartbeats 4000000 in
theorem c_X9_isHub (l : Launch) (hst : l.stackTraces = false) (Y : Cy) (hD : ∀ σ, va_D Y.2.2.2 (wsOf KC Y.2.1 Y.2.2.1 σ)) {a0 : Int} {σ : St} {Q : St → Int → Prop} {E : String → St → Prop} (h : f_X9_isHub a0 σ Q E) : Xon l yX9_isHub cX9_isHub 2 (some .boolean) (rmX 7 111) Y KC σ [.inr (.inr 0), .inl a0] (Qiq Y KC Q) E := xcon_of (lv := [(0, .inr (.inr 0)), (1, .inl a0)]) (by decide) hst hD (Nat.le_of_ble_eq_true rfl) rfl (fun X _ ok ox => by
  have ok : Ok X Y KC cX9_isHub 2 RX9 (rmX 7 111) (some .boolean) := ok
  unfold f_X9_isHub at h
  refine q_aload_n ok dX9_isHub_0 0 rfl ?_
  refine q_iload_n ok dX9_isHub_1 1 rfl ?_
  refine q_xV (st := []) ok ox cs_X9_100 wt_783 kC_0 rfl (c_X9_needNode X.2.1 ox.1 Y ok.2.2.2.2.2.2.2.2 h) ⟨rfl, rfl, Nat.le_of_ble_eq_true rfl, Nat.le_of_ble_eq_true rfl⟩ ⟨Nat.le_of_ble_eq_true rfl, Nat.le_of_ble_eq_true rfl⟩ rfl rfl (Nat.le_of_ble_eq_true rfl) dX9_isHub_2 (fun σ1 h => ?_)
  refine q_aload_n ok dX9_isHub_5 0 rfl ?_
  refine q_getR ok fl_X9_16 kC_0 fC_0_2 dX9_isHub_6 ?_
  refine q_iload_n ok dX9_isHub_9 1 rfl ?_
  obtain ⟨g1, h⟩ := h
  refine q_callVI (st := []) ok cs_X9_107 (kX7_0 g1) rfl (c_X7_standsAsHub X.2.1 Y ok.2.2.2.2.2.2.2.2 h) ⟨rfl, rfl, Nat.le_of_ble_eq_true rfl, Nat.le_of_ble_eq_true rfl⟩ rfl rfl (Nat.le_of_ble_eq_true rfl) dX9_isHub_10 (fun σ2 r1 h => ?_)
  exact wq_ret (q_zret ok dX9_isHub_13 h.1 h.2))
/-! BranchingStory.needChoice(I)V -/
def f_X9_needChoice_J21 (Q : St → Prop) (E : String → St → Prop) (σ : St) : Prop :=
  E IOE σ
def f_X9_needChoice (a0 : Int) (σ : St) (Q : St → Prop) (E : String → St → Prop) : Prop :=
  inR a0 ∧ ((a0 < 0 → f_X9_needChoice_J21 Q E σ) ∧ (¬ a0 < 0 → isS ((σ 0 2).toNat) ∧ inR a0 ∧ inR (σ ((σ 0 2).toNat) 14) ∧ (((σ ((σ 0 2).toNat) 14) ≤ a0 → f_X9_needChoice_J21 Q E σ) ∧ (¬ (σ ((σ 0 2).toNat) 14) ≤ a0 → inR a0 ∧ ((a0 < 16 → Q σ) ∧ (¬ a0 < 16 → f_X9_needChoice_J21 Q E σ))))))
set_option maxRecDepth 100000 in
set_option maxHeartbeats 4000000 in
theorem w_X9_needChoice_J21 {X : Cx} {Y : Cy} {Q : St → Prop} {E : String → St → Prop} (ok : Ok X Y KC cX9_needChoice 2 RX9 (rmX 6 90) none) (ox : Ox X Y) (σ : St) (h : f_X9_needChoice_J21 Q E σ ) : Wq X Y KC 2 (QX X Y (Qvq Y KC Q) (XCq Y KC E)) σ 21 [] [] := by
  unfold f_X9_needChoice_J21 at h
  exact q_throwW (text := "there is no such choice") ok ox (by decide) wt_787 wt_18 (by decide) ox.2.2.2.1.2.2 at_f226 at_g226 dX9_needChoice_21 dX9_needChoice_24 dX9_needChoice_25 dX9_needChoice_28 dX9_needChoice_31 ⟨Nat.le_of_ble_eq_true rfl, Nat.le_of_ble_eq_true rfl, Nat.le_of_ble_eq_true rfl, Nat.le_of_ble_eq_true rfl⟩ h
set_option maxRecDepth 100000 in
set_option maxHeartbeats 4000000 in
theorem c_X9_needChoice (l : Launch) (hst : l.stackTraces = false) (Y : Cy) (hD : ∀ σ, va_D Y.2.2.2 (wsOf KC Y.2.1 Y.2.2.1 σ)) {a0 : Int} {σ : St} {Q : St → Prop} {E : String → St → Prop} (h : f_X9_needChoice a0 σ Q E) : Xon l yX9_needChoice cX9_needChoice 2 none (rmX 6 90) Y KC σ [.inr (.inr 0), .inl a0] (Qvq Y KC Q) E := xcon_of (lv := [(0, .inr (.inr 0)), (1, .inl a0)]) (by decide) hst hD (Nat.le_of_ble_eq_true rfl) rfl (fun X _ ok ox => by
  have ok : Ok X Y KC cX9_needChoice 2 RX9 (rmX 6 90) none := ok
  unfold f_X9_needChoice at h
  refine q_iload_n ok dX9_needChoice_0 1 rfl ?_
  obtain ⟨g1, hT3a, hT3b⟩ := h
  refine q_if_lt (tgt := 21) ok dX9_needChoice_1 (by decide) g1 (fun c3 => ?_) (fun c3 => ?_)
  · have h := hT3a c3
    refine q_sub [] rfl ?_
    exact w_X9_needChoice_J21 ok ox σ h
  · have h := hT3b c3
    refine q_iload_n ok dX9_needChoice_4 1 rfl ?_
    refine q_aload_n ok dX9_needChoice_5 0 rfl ?_
    refine q_getR ok fl_X9_16 kC_0 fC_0_2 dX9_needChoice_6 ?_
    obtain ⟨g2, h⟩ := h
    refine q_getI ok fl_X9_92 (kX7_0 g2) (fIX7_14 ((σ 0 2).toNat)) dX9_needChoice_9 ?_
    obtain ⟨g3, g4, hT2a, hT2b⟩ := h
    refine q_icmp_ge (tgt := 21) ok dX9_needChoice_12 (by decide) g3 g4 (fun c2 => ?_) (fun c2 => ?_)
    · have h := hT2a c2
      refine q_sub [] rfl ?_
      exact w_X9_needChoice_J21 ok ox σ h
    · have h := hT2b c2
      refine q_iload_n ok dX9_needChoice_15 1 rfl ?_
      refine q_bipush ok dX9_needChoice_16 rfl ?_
      obtain ⟨g5, hT1a, hT1b⟩ := h
      refine q_icmp_lt (tgt := 32) ok dX9_needChoice_18 (by decide) g5 (by unfold inR; decide) (fun c1 => ?_) (fun c1 => ?_)
      · have h := hT1a c1
        exact wq_ret (q_vret ok dX9_needChoice_32 h)
      · have h := hT1b c1
        refine q_sub [] rfl ?_
        exact w_X9_needChoice_J21 ok ox σ h)
/-! BranchingStory.label(I)I -/
def f_X9_label (a0 : Int) (σ : St) (Q : St → Int → Prop) (E : String → St → Prop) : Prop :=
  f_X9_needChoice a0 σ (fun σ1 => isS ((σ1 0 2).toNat) ∧ 0 ≤ a0 ∧ a0 < 16 ∧ Q σ1 (σ1 ((σ1 0 2).toNat + 15) a0.toNat)) E
set_option maxRecDepth 100000 in
set_option maxHeartbeats 4000000 in
theorem c_X9_label (l : Launch) (hst : l.stackTraces = false) (Y : Cy) (hD : ∀ σ, va_D Y.2.2.2 (wsOf KC Y.2.1 Y.2.2.1 σ)) {a0 : Int} {σ : St} {Q : St → Int → Prop} {E : String → St → Prop} (h : f_X9_label a0 σ Q E) : Xon l yX9_label cX9_label 2 (some .int) (rmX 7 111) Y KC σ [.inr (.inr 0), .inl a0] (Qiq Y KC Q) E := xcon_of (lv := [(0, .inr (.inr 0)), (1, .inl a0)]) (by decide) hst hD (Nat.le_of_ble_eq_true rfl) rfl (fun X _ ok ox => by
  have ok : Ok X Y KC cX9_label 2 RX9 (rmX 7 111) (some .int) := ok
  unfold f_X9_label at h
  refine q_aload_n ok dX9_label_0 0 rfl ?_
  refine q_iload_n ok dX9_label_1 1 rfl ?_
  refine q_xV (st := []) ok ox cs_X9_111 wt_821 kC_0 rfl (c_X9_needChoice X.2.1 ox.1 Y ok.2.2.2.2.2.2.2.2 h) ⟨rfl, rfl, Nat.le_of_ble_eq_true rfl, Nat.le_of_ble_eq_true rfl⟩ ⟨Nat.le_of_ble_eq_true rfl, Nat.le_of_ble_eq_true rfl⟩ rfl rfl (Nat.le_of_ble_eq_true rfl) dX9_label_2 (fun σ1 h => ?_)
  refine q_aload_n ok dX9_label_5 0 rfl ?_
  refine q_getR ok fl_X9_16 kC_0 fC_0_2 dX9_label_6 ?_
  obtain ⟨g1, h⟩ := h
  refine q_getC ok fl_X9_114 (kX7_0 g1) (fIX7_15 ((σ1 0 2).toNat)) dX9_label_9 ?_
  refine q_iload_n ok dX9_label_12 1 rfl ?_
  obtain ⟨g2, g3, h⟩ := h
  refine q_iald ok kC_ok (kX7_15 g1) g2 g3 dX9_label_13 ?_
  exact wq_ret (q_iret ok dX9_label_14 h))
/-! BranchingStory.nodeOf(I)I -/
def f_X9_nodeOf (a0 : Int) (σ : St) (Q : St → Int → Prop) (E : String → St → Prop) : Prop :=
  f_X9_needChoice a0 σ (fun σ1 => isS ((σ1 0 2).toNat) ∧ 0 ≤ a0 ∧ a0 < 16 ∧ Q σ1 (σ1 ((σ1 0 2).toNat + 16) a0.toNat)) E
set_option maxRecDepth 100000 in
set_option maxHeartbeats 4000000 in
theorem c_X9_nodeOf (l : Launch) (hst : l.stackTraces = false) (Y : Cy) (hD : ∀ σ, va_D Y.2.2.2 (wsOf KC Y.2.1 Y.2.2.1 σ)) {a0 : Int} {σ : St} {Q : St → Int → Prop} {E : String → St → Prop} (h : f_X9_nodeOf a0 σ Q E) : Xon l yX9_nodeOf cX9_nodeOf 2 (some .int) (rmX 7 111) Y KC σ [.inr (.inr 0), .inl a0] (Qiq Y KC Q) E := xcon_of (lv := [(0, .inr (.inr 0)), (1, .inl a0)]) (by decide) hst hD (Nat.le_of_ble_eq_true rfl) rfl (fun X _ ok ox => by
  have ok : Ok X Y KC cX9_nodeOf 2 RX9 (rmX 7 111) (some .int) := ok
  unfold f_X9_nodeOf at h
  refine q_aload_n ok dX9_nodeOf_0 0 rfl ?_
  refine q_iload_n ok dX9_nodeOf_1 1 rfl ?_
  refine q_xV (st := []) ok ox cs_X9_111 wt_821 kC_0 rfl (c_X9_needChoice X.2.1 ox.1 Y ok.2.2.2.2.2.2.2.2 h) ⟨rfl, rfl, Nat.le_of_ble_eq_true rfl, Nat.le_of_ble_eq_true rfl⟩ ⟨Nat.le_of_ble_eq_true rfl, Nat.le_of_ble_eq_true rfl⟩ rfl rfl (Nat.le_of_ble_eq_true rfl) dX9_nodeOf_2 (fun σ1 h => ?_)
  refine q_aload_n ok dX9_nodeOf_5 0 rfl ?_
  refine q_getR ok fl_X9_16 kC_0 fC_0_2 dX9_nodeOf_6 ?_
  obtain ⟨g1, h⟩ := h
  refine q_getC ok fl_X9_117 (kX7_0 g1) (fIX7_16 ((σ1 0 2).toNat)) dX9_nodeOf_9 ?_
  refine q_iload_n ok dX9_nodeOf_12 1 rfl ?_
  obtain ⟨g2, g3, h⟩ := h
  refine q_iald ok kC_ok (kX7_16 g1) g2 g3 dX9_nodeOf_13 ?_
  exact wq_ret (q_iret ok dX9_nodeOf_14 h))
/-! BranchingStory.needStory()V -/
def f_X9_needStory (σ : St) (Q : St → Prop) (E : String → St → Prop) : Prop :=
  isS ((σ 0 2).toNat) ∧ inR (σ ((σ 0 2).toNat) 10) ∧ ((¬ (σ ((σ 0 2).toNat) 10) = 0 → Q σ) ∧ ((σ ((σ 0 2).toNat) 10) = 0 → E ISE σ))
set_option maxRecDepth 100000 in
set_option maxHeartbeats 4000000 in
theorem c_X9_needStory (l : Launch) (hst : l.stackTraces = false) (Y : Cy) (hD : ∀ σ, va_D Y.2.2.2 (wsOf KC Y.2.1 Y.2.2.1 σ)) {σ : St} {Q : St → Prop} {E : String → St → Prop} (h : f_X9_needStory  σ Q E) : Xon l yX9_needStory cX9_needStory 1 none (rmX 6 90) Y KC σ [.inr (.inr 0)] (Qvq Y KC Q) E := xcon_of (lv := [(0, .inr (.inr 0))]) (by decide) hst hD (Nat.le_of_ble_eq_true rfl) rfl (fun X _ ok ox => by
  have ok : Ok X Y KC cX9_needStory 1 RX9 (rmX 6 90) none := ok
  unfold f_X9_needStory at h
  refine q_aload_n ok dX9_needStory_0 0 rfl ?_
  refine q_getR ok fl_X9_16 kC_0 fC_0_2 dX9_needStory_1 ?_
  obtain ⟨g1, h⟩ := h
  refine q_getI ok fl_X9_89 (kX7_0 g1) (fIX7_10 ((σ 0 2).toNat)) dX9_needStory_4 ?_
  obtain ⟨g2, hT1a, hT1b⟩ := h
  refine q_if_ne (tgt := 21) ok dX9_needStory_7 (by decide) g2 (fun c1 => ?_) (fun c1 => ?_)
  · have h := hT1a c1
    exact wq_ret (q_vret ok dX9_needStory_21 h)
  · have h := hT1b c1
    exact q_throwW (text := "there is no story") ok ox (by decide) wt_718 wt_15 (by decide) ox.2.2.2.1.1 at_f75 at_g75 dX9_needStory_10 dX9_needStory_13 dX9_needStory_14 dX9_needStory_17 dX9_needStory_20 ⟨Nat.le_of_ble_eq_true rfl, Nat.le_of_ble_eq_true rfl, Nat.le_of_ble_eq_true rfl, Nat.le_of_ble_eq_true rfl⟩ h)
/-! BranchingStory.start()I -/
def f_X9_start (σ : St) (Q : St → Int → Prop) (E : String → St → Prop) : Prop :=
  f_X9_needStory σ (fun σ1 => f_X2_forget σ1 (fun σ2 => f_X5_begin 44 ((σ2 0 2).toNat) σ2 (fun σ3 => Q σ3 (σ3 44 1)))) E
set_option maxRecDepth 100000 in
set_option maxHeartbeats 4000000 in
theorem c_X9_start (l : Launch) (hst : l.stackTraces = false) (Y : Cy) (hD : ∀ σ, va_D Y.2.2.2 (wsOf KC Y.2.1 Y.2.2.1 σ)) {σ : St} {Q : St → Int → Prop} {E : String → St → Prop} (h : f_X9_start  σ Q E) : Xon l yX9_start cX9_start 1 (some .int) (rmX 7 141) Y KC σ [.inr (.inr 0)] (Qiq Y KC Q) E := xcon_of (lv := [(0, .inr (.inr 0))]) (by decide) hst hD (Nat.le_of_ble_eq_true rfl) rfl (fun X _ ok ox => by
  have ok : Ok X Y KC cX9_start 1 RX9 (rmX 7 141) (some .int) := ok
  unfold f_X9_start at h
  refine q_aload_n ok dX9_start_0 0 rfl ?_
  refine q_xV (st := []) ok ox cs_X9_120 wt_840 kC_0 rfl (c_X9_needStory X.2.1 ox.1 Y ok.2.2.2.2.2.2.2.2 h) ⟨rfl, rfl, Nat.le_of_ble_eq_true rfl, Nat.le_of_ble_eq_true rfl⟩ ⟨Nat.le_of_ble_eq_true rfl, Nat.le_of_ble_eq_true rfl⟩ rfl rfl (Nat.le_of_ble_eq_true rfl) dX9_start_1 (fun σ1 h => ?_)
  refine q_aload_n ok dX9_start_4 0 rfl ?_
  refine q_getC ok fl_X9_42 kC_0 fC_0_6 dX9_start_5 ?_
  refine q_callVV (st := []) ok cs_X9_85 kC_48 rfl (c_X2_forget X.2.1 Y ok.2.2.2.2.2.2.2.2 h) ⟨rfl, rfl, Nat.le_of_ble_eq_true rfl, Nat.le_of_ble_eq_true rfl⟩ rfl rfl (Nat.le_of_ble_eq_true rfl) dX9_start_8 (fun σ2 h => ?_)
  refine q_aload_n ok dX9_start_11 0 rfl ?_
  refine q_getC ok fl_X9_35 kC_0 fC_0_5 dX9_start_12 ?_
  refine q_aload_n ok dX9_start_15 0 rfl ?_
  refine q_getR ok fl_X9_16 kC_0 fC_0_2 dX9_start_16 ?_
  refine q_callVV (st := []) ok cs_X9_123 kC_44 rfl (c_X5_begin X.2.1 Y ok.2.2.2.2.2.2.2.2 h) ⟨rfl, rfl, Nat.le_of_ble_eq_true rfl, Nat.le_of_ble_eq_true rfl⟩ rfl rfl (Nat.le_of_ble_eq_true rfl) dX9_start_19 (fun σ3 h => ?_)
  refine q_aload_n ok dX9_start_22 0 rfl ?_
  refine q_getC ok fl_X9_35 kC_0 fC_0_5 dX9_start_23 ?_
  refine q_getI ok fl_X9_126 kC_44 fC_44_1 dX9_start_26 ?_
  exact wq_ret (q_iret ok dX9_start_29 h))
/-! BranchingStory.needPosition(I)V -/
def f_X9_needPosition_J18 (Q : St → Prop) (E : String → St → Prop) (σ : St) : Prop :=
  E IOE σ
def f_X9_needPosition (a0 : Int) (σ : St) (Q : St → Prop) (E : String → St → Prop) : Prop :=
  inR a0 ∧ ((a0 < 0 → f_X9_needPosition_J18 Q E σ) ∧ (¬ a0 < 0 → f_JI_bitCount (σ 44 8) σ (fun σ1 r1 => inR a0 ∧ inR r1 ∧ ((a0 < r1 → Q σ1) ∧ (¬ a0 < r1 → f_X9_needPosition_J18 Q E σ1)))))
set_option maxRecDepth 100000 in
set_option maxHeartbeats 4000000 in
theorem w_X9_needPosition_J18 {X : Cx} {Y : Cy} {Q : St → Prop} {E : String → St → Prop} (ok : Ok X Y KC cX9_needPosition 2 RX9 (rmX 6 90) none) (ox : Ox X Y) (σ : St) (h : f_X9_needPosition_J18 Q E σ ) : Wq X Y KC 2 (QX X Y (Qvq Y KC Q) (XCq Y KC E)) σ 18 [] [] := by
  unfold f_X9_needPosition_J18 at h
  exact q_throwW (text := "there is no such position") ok ox (by decide) wt_787 wt_18 (by decide) ox.2.2.2.1.2.2 at_f226 at_g226 dX9_needPosition_18 dX9_needPosition_21 dX9_needPosition_22 dX9_needPosition_25 dX9_needPosition_28 ⟨Nat.le_of_ble_eq_true rfl, Nat.le_of_ble_eq_true rfl, Nat.le_of_ble_eq_true rfl, Nat.le_of_ble_eq_true rfl⟩ h
set_option maxRecDepth 100000 in
set_option maxHeartbeats 4000000 in
theorem c_X9_needPosition (l : Launch) (hst : l.stackTraces = false) (Y : Cy) (hD : ∀ σ, va_D Y.2.2.2 (wsOf KC Y.2.1 Y.2.2.1 σ)) {a0 : Int} {σ : St} {Q : St → Prop} {E : String → St → Prop} (h : f_X9_needPosition a0 σ Q E) : Xon l yX9_needPosition cX9_needPosition 2 none (rmX 6 90) Y KC σ [.inr (.inr 0), .inl a0] (Qvq Y KC Q) E := xcon_of (lv := [(0, .inr (.inr 0)), (1, .inl a0)]) (by decide) hst hD (Nat.le_of_ble_eq_true rfl) rfl (fun X _ ok ox => by
  have ok : Ok X Y KC cX9_needPosition 2 RX9 (rmX 6 90) none := ok
  unfold f_X9_needPosition at h
  refine q_iload_n ok dX9_needPosition_0 1 rfl ?_
  obtain ⟨g1, hT2a, hT2b⟩ := h
  refine q_if_lt (tgt := 18) ok dX9_needPosition_1 (by decide) g1 (fun c2 => ?_) (fun c2 => ?_)
  · have h := hT2a c2
    refine q_sub [] rfl ?_
    exact w_X9_needPosition_J18 ok ox σ h
  · have h := hT2b c2
    refine q_iload_n ok dX9_needPosition_4 1 rfl ?_
    refine q_aload_n ok dX9_needPosition_5 0 rfl ?_
    refine q_getC ok fl_X9_35 kC_0 fC_0_5 dX9_needPosition_6 ?_
    refine q_getI ok fl_X9_158 kC_44 fC_44_8 dX9_needPosition_9 ?_
    refine q_callSI (st := [.inl a0]) ok cs_X9_161 (c_JI_bitCount X.2.1 Y ok.2.2.2.2.2.2.2.2 h) ⟨rfl, rfl, Nat.le_of_ble_eq_true rfl, Nat.le_of_ble_eq_true rfl⟩ rfl rfl (Nat.le_of_ble_eq_true rfl) dX9_needPosition_12 (fun σ1 r1 h => ?_)
    obtain ⟨g2, g3, hT1a, hT1b⟩ := h
    refine q_icmp_lt (tgt := 29) ok dX9_needPosition_15 (by decide) g2 g3 (fun c1 => ?_) (fun c1 => ?_)
    · have h := hT1a c1
      exact wq_ret (q_vret ok dX9_needPosition_29 h)
    · have h := hT1b c1
      refine q_sub [] rfl ?_
      exact w_X9_needPosition_J18 ok ox σ1 h)
/-! BranchingStory.choose(I)I -/
def f_X9_choose (a0 : Int) (σ : St) (Q : St → Int → Prop) (E : String → St → Prop) : Prop :=
  inR (σ 44 1) ∧ (((σ 44 1) = 1 → f_X9_needPosition a0 σ (fun σ1 => f_X2_keep 44 σ1 (fun σ2 => f_X5_take 44 a0 σ2 (fun σ3 => Q σ3 (σ3 44 1)))) E) ∧ (¬ (σ 44 1) = 1 → E ISE σ))
set_option maxRecDepth 100000 in
set_option maxHeartbeats 4000000 in
theorem c_X9_choose (l : Launch) (hst : l.stackTraces = false) (Y : Cy) (hD : ∀ σ, va_D Y.2.2.2 (wsOf KC Y.2.1 Y.2.2.1 σ)) {a0 : Int} {σ : St} {Q : St → Int → Prop} {E : String → St → Prop} (h : f_X9_choose a0 σ Q E) : Xon l yX9_choose cX9_choose 2 (some .int) (rmX 7 142) Y KC σ [.inr (.inr 0), .inl a0] (Qiq Y KC Q) E := xcon_of (lv := [(0, .inr (.inr 0)), (1, .inl a0)]) (by decide) hst hD (Nat.le_of_ble_eq_true rfl) rfl (fun X _ ok ox => by
  have ok : Ok X Y KC cX9_choose 2 RX9 (rmX 7 142) (some .int) := ok
  unfold f_X9_choose at h
  refine q_aload_n ok dX9_choose_0 0 rfl ?_
  refine q_getC ok fl_X9_35 kC_0 fC_0_5 dX9_choose_1 ?_
  refine q_getI ok fl_X9_126 kC_44 fC_44_1 dX9_choose_4 ?_
  refine q_iconst ok dX9_choose_7 ?_
  obtain ⟨g1, hT1a, hT1b⟩ := h
  refine q_icmp_eq (tgt := 21) ok dX9_choose_8 (by decide) g1 (by unfold inR; decide) (fun c1 => ?_) (fun c1 => ?_)
  · have h := hT1a c1
    refine q_aload_n ok dX9_choose_21 0 rfl ?_
    refine q_iload_n ok dX9_choose_22 1 rfl ?_
    refine q_xV (st := []) ok ox cs_X9_131 wt_914 kC_0 rfl (c_X9_needPosition X.2.1 ox.1 Y ok.2.2.2.2.2.2.2.2 h) ⟨rfl, rfl, Nat.le_of_ble_eq_true rfl, Nat.le_of_ble_eq_true rfl⟩ ⟨Nat.le_of_ble_eq_true rfl, Nat.le_of_ble_eq_true rfl⟩ rfl rfl (Nat.le_of_ble_eq_true rfl) dX9_choose_23 (fun σ1 h => ?_)
    refine q_aload_n ok dX9_choose_26 0 rfl ?_
    refine q_getC ok fl_X9_42 kC_0 fC_0_6 dX9_choose_27 ?_
    refine q_aload_n ok dX9_choose_30 0 rfl ?_
    refine q_getC ok fl_X9_35 kC_0 fC_0_5 dX9_choose_31 ?_
    refine q_callVV (st := []) ok cs_X9_134 kC_48 rfl (c_X2_keep X.2.1 Y ok.2.2.2.2.2.2.2.2 h) ⟨rfl, rfl, Nat.le_of_ble_eq_true rfl, Nat.le_of_ble_eq_true rfl⟩ rfl rfl (Nat.le_of_ble_eq_true rfl) dX9_choose_34 (fun σ2 h => ?_)
    refine q_aload_n ok dX9_choose_37 0 rfl ?_
    refine q_getC ok fl_X9_35 kC_0 fC_0_5 dX9_choose_38 ?_
    refine q_iload_n ok dX9_choose_41 1 rfl ?_
    refine q_callVV (st := []) ok cs_X9_138 kC_44 rfl (c_X5_take X.2.1 Y ok.2.2.2.2.2.2.2.2 h) ⟨rfl, rfl, Nat.le_of_ble_eq_true rfl, Nat.le_of_ble_eq_true rfl⟩ rfl rfl (Nat.le_of_ble_eq_true rfl) dX9_choose_42 (fun σ3 h => ?_)
    refine q_aload_n ok dX9_choose_45 0 rfl ?_
    refine q_getC ok fl_X9_35 kC_0 fC_0_5 dX9_choose_46 ?_
    refine q_getI ok fl_X9_126 kC_44 fC_44_1 dX9_choose_49 ?_
    exact wq_ret (q_iret ok dX9_choose_52 h)
  · have h := hT1b c1
    exact q_throw (text := "the story does not wait") ok ox (by decide) wt_718 wt_15 (by decide) ox.2.2.2.1.1 at_f75 at_g75 dX9_choose_11 dX9_choose_14 dX9_choose_15 dX9_choose_17 dX9_choose_20 ⟨Nat.le_of_ble_eq_true rfl, Nat.le_of_ble_eq_true rfl, Nat.le_of_ble_eq_true rfl, Nat.le_of_ble_eq_true rfl⟩ h)
/-! BranchingStory.back()I -/
def f_X9_back (σ : St) (Q : St → Int → Prop) (E : String → St → Prop) : Prop :=
  inR (σ 48 0) ∧ ((¬ (σ 48 0) = 0 → f_X2_restore 44 σ (fun σ1 => Q σ1 (σ1 48 0))) ∧ ((σ 48 0) = 0 → E ISE σ))
set_option maxRecDepth 100000 in
set_option maxHeartbeats 4000000 in
theorem c_X9_back (l : Launch) (hst : l.stackTraces = false) (Y : Cy) (hD : ∀ σ, va_D Y.2.2.2 (wsOf KC Y.2.1 Y.2.2.1 σ)) {σ : St} {Q : St → Int → Prop} {E : String → St → Prop} (h : f_X9_back  σ Q E) : Xon l yX9_back cX9_back 1 (some .int) (rmX 6 90) Y KC σ [.inr (.inr 0)] (Qiq Y KC Q) E := xcon_of (lv := [(0, .inr (.inr 0))]) (by decide) hst hD (Nat.le_of_ble_eq_true rfl) rfl (fun X _ ok ox => by
  have ok : Ok X Y KC cX9_back 1 RX9 (rmX 6 90) (some .int) := ok
  unfold f_X9_back at h
  refine q_aload_n ok dX9_back_0 0 rfl ?_
  refine q_getC ok fl_X9_42 kC_0 fC_0_6 dX9_back_1 ?_
  refine q_getI ok fl_X9_141 kC_48 fC_48_0 dX9_back_4 ?_
  obtain ⟨g1, hT1a, hT1b⟩ := h
  refine q_if_ne (tgt := 20) ok dX9_back_7 (by decide) g1 (fun c1 => ?_) (fun c1 => ?_)
  · have h := hT1a c1
    refine q_aload_n ok dX9_back_20 0 rfl ?_
    refine q_getC ok fl_X9_42 kC_0 fC_0_6 dX9_back_21 ?_
    refine q_aload_n ok dX9_back_24 0 rfl ?_
    refine q_getC ok fl_X9_35 kC_0 fC_0_5 dX9_back_25 ?_
    refine q_callVV (st := []) ok cs_X9_146 kC_48 rfl (c_X2_restore X.2.1 Y ok.2.2.2.2.2.2.2.2 h) ⟨rfl, rfl, Nat.le_of_ble_eq_true rfl, Nat.le_of_ble_eq_true rfl⟩ rfl rfl (Nat.le_of_ble_eq_true rfl) dX9_back_28 (fun σ1 h => ?_)
    refine q_aload_n ok dX9_back_31 0 rfl ?_
    refine q_getC ok fl_X9_42 kC_0 fC_0_6 dX9_back_32 ?_
    refine q_getI ok fl_X9_141 kC_48 fC_48_0 dX9_back_35 ?_
    exact wq_ret (q_iret ok dX9_back_38 h)
  · have h := hT1b c1
    exact q_throw (text := "nothing can be taken back") ok ox (by decide) wt_718 wt_15 (by decide) ox.2.2.2.1.1 at_f75 at_g75 dX9_back_10 dX9_back_13 dX9_back_14 dX9_back_16 dX9_back_19 ⟨Nat.le_of_ble_eq_true rfl, Nat.le_of_ble_eq_true rfl, Nat.le_of_ble_eq_true rfl, Nat.le_of_ble_eq_true rfl⟩ h)
/-! BranchingStory.choice(I)I -/
def f_X9_choice (a0 : Int) (σ : St) (Q : St → Int → Prop) (E : String → St → Prop) : Prop :=
  f_X9_needPosition a0 σ (fun σ1 => f_X5_choiceAt 44 a0 σ1 (fun σ2 r1 => Q σ2 r1)) E
set_option maxRecDepth 100000 in
set_option maxHeartbeats 4000000 in
theorem c_X9_choice (l : Launch) (hst : l.stackTraces = false) (Y : Cy) (hD : ∀ σ, va_D Y.2.2.2 (wsOf KC Y.2.1 Y.2.2.1 σ)) {a0 : Int} {σ : St} {Q : St → Int → Prop} {E : String → St → Prop} (h : f_X9_choice a0 σ Q E) : Xon l yX9_choice cX9_choice 2 (some .int) (rmX 7 111) Y KC σ [.inr (.inr 0), .inl a0] (Qiq Y KC Q) E := xcon_of (lv := [(0, .inr (.inr 0)), (1, .inl a0)]) (by decide) hst hD (Nat.le_of_ble_eq_true rfl) rfl (fun X _ ok ox => by
  have ok : Ok X Y KC cX9_choice 2 RX9 (rmX 7 111) (some .int) := ok
  unfold f_X9_choice at h
  refine q_aload_n ok dX9_choice_0 0 rfl ?_
  refine q_iload_n ok dX9_choice_1 1 rfl ?_
  refine q_xV (st := []) ok ox cs_X9_131 wt_914 kC_0 rfl (c_X9_needPosition X.2.1 ox.1 Y ok.2.2.2.2.2.2.2.2 h) ⟨rfl, rfl, Nat.le_of_ble_eq_true rfl, Nat.le_of_ble_eq_true rfl⟩ ⟨Nat.le_of_ble_eq_true rfl, Nat.le_of_ble_eq_true rfl⟩ rfl rfl (Nat.le_of_ble_eq_true rfl) dX9_choice_2 (fun σ1 h => ?_)
  refine q_aload_n ok dX9_choice_5 0 rfl ?_
  refine q_getC ok fl_X9_35 kC_0 fC_0_5 dX9_choice_6 ?_
  refine q_iload_n ok dX9_choice_9 1 rfl ?_
  refine q_callVI (st := []) ok cs_X9_167 kC_44 rfl (c_X5_choiceAt X.2.1 Y ok.2.2.2.2.2.2.2.2 h) ⟨rfl, rfl, Nat.le_of_ble_eq_true rfl, Nat.le_of_ble_eq_true rfl⟩ rfl rfl (Nat.le_of_ble_eq_true rfl) dX9_choice_10 (fun σ2 r1 h => ?_)
  exact wq_ret (q_iret ok dX9_choice_13 h))
/-! BranchingStory.needFlag(I)V -/
def f_X9_needFlag_J10 (Q : St → Prop) (E : String → St → Prop) (σ : St) : Prop :=
  E IAE σ
def f_X9_needFlag (a0 : Int) (σ : St) (Q : St → Prop) (E : String → St → Prop) : Prop :=
  inR a0 ∧ ((a0 < 0 → f_X9_needFlag_J10 Q E σ) ∧ (¬ a0 < 0 → inR a0 ∧ ((a0 < 6 → Q σ) ∧ (¬ a0 < 6 → f_X9_needFlag_J10 Q E σ))))
set_option maxRecDepth 100000 in
set_option maxHeartbeats 4000000 in
theorem w_X9_needFlag_J10 {X : Cx} {Y : Cy} {Q : St → Prop} {E : String → St → Prop} (ok : Ok X Y KC cX9_needFlag 1 RX9 (rmX 6 90) none) (ox : Ox X Y) (σ : St) (h : f_X9_needFlag_J10 Q E σ ) : Wq X Y KC 1 (QX X Y (Qvq Y KC Q) (XCq Y KC E)) σ 10 [] [] := by
  unfold f_X9_needFlag_J10 at h
  exact q_throwW (text := "flag is out of range") ok ox (by decide) wt_650 wt_14 (by decide) ox.2.2.2.1.2.1 at_f64 at_g64 dX9_needFlag_10 dX9_needFlag_13 dX9_needFlag_14 dX9_needFlag_17 dX9_needFlag_20 ⟨Nat.le_of_ble_eq_true rfl, Nat.le_of_ble_eq_true rfl, Nat.le_of_ble_eq_true rfl, Nat.le_of_ble_eq_true rfl⟩ h
set_option maxRecDepth 100000 in
set_option maxHeartbeats 4000000 in
theorem c_X9_needFlag (l : Launch) (hst : l.stackTraces = false) (Y : Cy) (hD : ∀ σ, va_D Y.2.2.2 (wsOf KC Y.2.1 Y.2.2.1 σ)) {a0 : Int} {σ : St} {Q : St → Prop} {E : String → St → Prop} (h : f_X9_needFlag a0 σ Q E) : Xon l yX9_needFlag cX9_needFlag 1 none (rmX 6 90) Y KC σ [.inl a0] (Qvq Y KC Q) E := xcon_of (lv := [(0, .inl a0)]) (by decide) hst hD (Nat.le_of_ble_eq_true rfl) rfl (fun X _ ok ox => by
  have ok : Ok X Y KC cX9_needFlag 1 RX9 (rmX 6 90) none := ok
  unfold f_X9_needFlag at h
  refine q_iload_n ok dX9_needFlag_0 0 rfl ?_
  obtain ⟨g1, hT2a, hT2b⟩ := h
  refine q_if_lt (tgt := 10) ok dX9_needFlag_1 (by decide) g1 (fun c2 => ?_) (fun c2 => ?_)
  · have h := hT2a c2
    refine q_sub [] rfl ?_
    exact w_X9_needFlag_J10 ok ox σ h
  · have h := hT2b c2
    refine q_iload_n ok dX9_needFlag_4 0 rfl ?_
    refine q_bipush ok dX9_needFlag_5 rfl ?_
    obtain ⟨g2, hT1a, hT1b⟩ := h
    refine q_icmp_lt (tgt := 21) ok dX9_needFlag_7 (by decide) g2 (by unfold inR; decide) (fun c1 => ?_) (fun c1 => ?_)
    · have h := hT1a c1
      exact wq_ret (q_vret ok dX9_needFlag_21 h)
    · have h := hT1b c1
      refine q_sub [] rfl ?_
      exact w_X9_needFlag_J10 ok ox σ h)
/-! BranchingStory.flag(I)I -/
def f_X9_flag (a0 : Int) (σ : St) (Q : St → Int → Prop) (E : String → St → Prop) : Prop :=
  f_X9_needFlag a0 σ (fun σ1 => Q σ1 (iand32 (ishr32 (σ1 44 5) a0) 1)) E
set_option maxRecDepth 100000 in
set_option maxHeartbeats 4000000 in
theorem c_X9_flag (l : Launch) (hst : l.stackTraces = false) (Y : Cy) (hD : ∀ σ, va_D Y.2.2.2 (wsOf KC Y.2.1 Y.2.2.1 σ)) {a0 : Int} {σ : St} {Q : St → Int → Prop} {E : String → St → Prop} (h : f_X9_flag a0 σ Q E) : Xon l yX9_flag cX9_flag 2 (some .int) (rmX 7 110) Y KC σ [.inr (.inr 0), .inl a0] (Qiq Y KC Q) E := xcon_of (lv := [(0, .inr (.inr 0)), (1, .inl a0)]) (by decide) hst hD (Nat.le_of_ble_eq_true rfl) rfl (fun X _ ok ox => by
  have ok : Ok X Y KC cX9_flag 2 RX9 (rmX 7 110) (some .int) := ok
  unfold f_X9_flag at h
  refine q_iload_n ok dX9_flag_0 1 rfl ?_
  refine q_xS (st := []) ok ox cs_X9_170 wt_981 (c_X9_needFlag X.2.1 ox.1 Y ok.2.2.2.2.2.2.2.2 h) ⟨rfl, rfl, Nat.le_of_ble_eq_true rfl, Nat.le_of_ble_eq_true rfl⟩ ⟨Nat.le_of_ble_eq_true rfl, Nat.le_of_ble_eq_true rfl⟩ rfl rfl (Nat.le_of_ble_eq_true rfl) dX9_flag_1 (fun σ1 h => ?_)
  refine q_aload_n ok dX9_flag_4 0 rfl ?_
  refine q_getC ok fl_X9_35 kC_0 fC_0_5 dX9_flag_5 ?_
  refine q_getI ok fl_X9_173 kC_44 fC_44_5 dX9_flag_8 ?_
  refine q_iload_n ok dX9_flag_11 1 rfl ?_
  refine q_ishr ok dX9_flag_12 ?_
  refine q_iconst ok dX9_flag_13 ?_
  refine q_iand ok dX9_flag_14 ?_
  exact wq_ret (q_iret ok dX9_flag_15 h))
/-! BranchingStory.needMeter(I)V -/
def f_X9_needMeter_J9 (Q : St → Prop) (E : String → St → Prop) (σ : St) : Prop :=
  E IAE σ
def f_X9_needMeter (a0 : Int) (σ : St) (Q : St → Prop) (E : String → St → Prop) : Prop :=
  inR a0 ∧ ((a0 < 0 → f_X9_needMeter_J9 Q E σ) ∧ (¬ a0 < 0 → inR a0 ∧ ((a0 < 3 → Q σ) ∧ (¬ a0 < 3 → f_X9_needMeter_J9 Q E σ))))
set_option maxRecDepth 100000 in
set_option maxHeartbeats 4000000 in
theorem w_X9_needMeter_J9 {X : Cx} {Y : Cy} {Q : St → Prop} {E : String → St → Prop} (ok : Ok X Y KC cX9_needMeter 1 RX9 (rmX 6 90) none) (ox : Ox X Y) (σ : St) (h : f_X9_needMeter_J9 Q E σ ) : Wq X Y KC 1 (QX X Y (Qvq Y KC Q) (XCq Y KC E)) σ 9 [] [] := by
  unfold f_X9_needMeter_J9 at h
  exact q_throwW (text := "meter is out of range") ok ox (by decide) wt_650 wt_14 (by decide) ox.2.2.2.1.2.1 at_f64 at_g64 dX9_needMeter_9 dX9_needMeter_12 dX9_needMeter_13 dX9_needMeter_16 dX9_needMeter_19 ⟨Nat.le_of_ble_eq_true rfl, Nat.le_of_ble_eq_true rfl, Nat.le_of_ble_eq_true rfl, Nat.le_of_ble_eq_true rfl⟩ h
set_option maxRecDepth 100000 in
set_option maxHeartbeats 4000000 in
theorem c_X9_needMeter (l : Launch) (hst : l.stackTraces = false) (Y : Cy) (hD : ∀ σ, va_D Y.2.2.2 (wsOf KC Y.2.1 Y.2.2.1 σ)) {a0 : Int} {σ : St} {Q : St → Prop} {E : String → St → Prop} (h : f_X9_needMeter a0 σ Q E) : Xon l yX9_needMeter cX9_needMeter 1 none (rmX 6 90) Y KC σ [.inl a0] (Qvq Y KC Q) E := xcon_of (lv := [(0, .inl a0)]) (by decide) hst hD (Nat.le_of_ble_eq_true rfl) rfl (fun X _ ok ox => by
  have ok : Ok X Y KC cX9_needMeter 1 RX9 (rmX 6 90) none := ok
  unfold f_X9_needMeter at h
  refine q_iload_n ok dX9_needMeter_0 0 rfl ?_
  obtain ⟨g1, hT2a, hT2b⟩ := h
  refine q_if_lt (tgt := 9) ok dX9_needMeter_1 (by decide) g1 (fun c2 => ?_) (fun c2 => ?_)
  · have h := hT2a c2
    refine q_sub [] rfl ?_
    exact w_X9_needMeter_J9 ok ox σ h
  · have h := hT2b c2
    refine q_iload_n ok dX9_needMeter_4 0 rfl ?_
    refine q_iconst ok dX9_needMeter_5 ?_
    obtain ⟨g2, hT1a, hT1b⟩ := h
    refine q_icmp_lt (tgt := 20) ok dX9_needMeter_6 (by decide) g2 (by unfold inR; decide) (fun c1 => ?_) (fun c1 => ?_)
    · have h := hT1a c1
      exact wq_ret (q_vret ok dX9_needMeter_20 h)
    · have h := hT1b c1
      refine q_sub [] rfl ?_
      exact w_X9_needMeter_J9 ok ox σ h)
/-! BranchingStory.meter(I)I -/
def f_X9_meter (a0 : Int) (σ : St) (Q : St → Int → Prop) (E : String → St → Prop) : Prop :=
  f_X9_needMeter a0 σ (fun σ1 => f_X9_meterIn (σ1 44 6) a0 σ1 (fun σ2 r1 => Q σ2 r1)) E
set_option maxRecDepth 100000 in
set_option maxHeartbeats 4000000 in
theorem c_X9_meter (l : Launch) (hst : l.stackTraces = false) (Y : Cy) (hD : ∀ σ, va_D Y.2.2.2 (wsOf KC Y.2.1 Y.2.2.1 σ)) {a0 : Int} {σ : St} {Q : St → Int → Prop} {E : String → St → Prop} (h : f_X9_meter a0 σ Q E) : Xon l yX9_meter cX9_meter 2 (some .int) (rmX 7 110) Y KC σ [.inr (.inr 0), .inl a0] (Qiq Y KC Q) E := xcon_of (lv := [(0, .inr (.inr 0)), (1, .inl a0)]) (by decide) hst hD (Nat.le_of_ble_eq_true rfl) rfl (fun X _ ok ox => by
  have ok : Ok X Y KC cX9_meter 2 RX9 (rmX 7 110) (some .int) := ok
  unfold f_X9_meter at h
  refine q_iload_n ok dX9_meter_0 1 rfl ?_
  refine q_xS (st := []) ok ox cs_X9_176 wt_992 (c_X9_needMeter X.2.1 ox.1 Y ok.2.2.2.2.2.2.2.2 h) ⟨rfl, rfl, Nat.le_of_ble_eq_true rfl, Nat.le_of_ble_eq_true rfl⟩ ⟨Nat.le_of_ble_eq_true rfl, Nat.le_of_ble_eq_true rfl⟩ rfl rfl (Nat.le_of_ble_eq_true rfl) dX9_meter_1 (fun σ1 h => ?_)
  refine q_aload_n ok dX9_meter_4 0 rfl ?_
  refine q_getC ok fl_X9_35 kC_0 fC_0_5 dX9_meter_5 ?_
  refine q_getI ok fl_X9_179 kC_44 fC_44_6 dX9_meter_8 ?_
  refine q_iload_n ok dX9_meter_11 1 rfl ?_
  refine q_callSI (st := []) ok cs_X9_182 (c_X9_meterIn X.2.1 Y ok.2.2.2.2.2.2.2.2 h) ⟨rfl, rfl, Nat.le_of_ble_eq_true rfl, Nat.le_of_ble_eq_true rfl⟩ rfl rfl (Nat.le_of_ble_eq_true rfl) dX9_meter_12 (fun σ2 r1 h => ?_)
  exact wq_ret (q_iret ok dX9_meter_15 h))
/-! BranchingStory.line(I)I -/
def f_X9_line_J10 (Q : St → Int → Prop) (E : String → St → Prop) (σ : St) : Prop :=
  E IAE σ
def f_X9_line (a0 : Int) (σ : St) (Q : St → Int → Prop) (E : String → St → Prop) : Prop :=
  inR a0 ∧ ((a0 < 0 → f_X9_line_J10 Q E σ) ∧ (¬ a0 < 0 → inR a0 ∧ ((a0 < 20 → f_X4_before 45 a0 σ (fun σ1 r1 => Q σ1 r1)) ∧ (¬ a0 < 20 → f_X9_line_J10 Q E σ))))
set_option maxRecDepth 100000 in
set_option maxHeartbeats 4000000 in
theorem w_X9_line_J10 {X : Cx} {Y : Cy} {Q : St → Int → Prop} {E : String → St → Prop} (ok : Ok X Y KC cX9_line 2 RX9 (rmX 6 90) (some .int)) (ox : Ox X Y) (σ : St) (h : f_X9_line_J10 Q E σ ) : Wq X Y KC 2 (QX X Y (Qiq Y KC Q) (XCq Y KC E)) σ 10 [] [] := by
  unfold f_X9_line_J10 at h
  exact q_throw (text := "back is out of range") ok ox (by decide) wt_650 wt_14 (by decide) ox.2.2.2.1.2.1 at_f64 at_g64 dX9_line_10 dX9_line_13 dX9_line_14 dX9_line_16 dX9_line_19 ⟨Nat.le_of_ble_eq_true rfl, Nat.le_of_ble_eq_true rfl, Nat.le_of_ble_eq_true rfl, Nat.le_of_ble_eq_true rfl⟩ h
set_option maxRecDepth 100000 in
set_option maxHeartbeats 4000000 in
theorem c_X9_line (l : Launch) (hst : l.stackTraces = false) (Y : Cy) (hD : ∀ σ, va_D Y.2.2.2 (wsOf KC Y.2.1 Y.2.2.1 σ)) {a0 : Int} {σ : St} {Q : St → Int → Prop} {E : String → St → Prop} (h : f_X9_line a0 σ Q E) : Xon l yX9_line cX9_line 2 (some .int) (rmX 6 90) Y KC σ [.inr (.inr 0), .inl a0] (Qiq Y KC Q) E := xcon_of (lv := [(0, .inr (.inr 0)), (1, .inl a0)]) (by decide) hst hD (Nat.le_of_ble_eq_true rfl) rfl (fun X _ ok ox => by
  have ok : Ok X Y KC cX9_line 2 RX9 (rmX 6 90) (some .int) := ok
  unfold f_X9_line at h
  refine q_iload_n ok dX9_line_0 1 rfl ?_
  obtain ⟨g1, hT2a, hT2b⟩ := h
  refine q_if_lt (tgt := 10) ok dX9_line_1 (by decide) g1 (fun c2 => ?_) (fun c2 => ?_)
  · have h := hT2a c2
    refine q_sub [] rfl ?_
    exact w_X9_line_J10 ok ox σ h
  · have h := hT2b c2
    refine q_iload_n ok dX9_line_4 1 rfl ?_
    refine q_bipush ok dX9_line_5 rfl ?_
    obtain ⟨g2, hT1a, hT1b⟩ := h
    refine q_icmp_lt (tgt := 20) ok dX9_line_7 (by decide) g2 (by unfold inR; decide) (fun c1 => ?_) (fun c1 => ?_)
    · have h := hT1a c1
      refine q_aload_n ok dX9_line_20 0 rfl ?_
      refine q_getC ok fl_X9_35 kC_0 fC_0_5 dX9_line_21 ?_
      refine q_getC ok fl_X9_186 kC_44 fC_44_10 dX9_line_24 ?_
      refine q_iload_n ok dX9_line_27 1 rfl ?_
      refine q_callVI (st := []) ok cs_X9_197 kC_45 rfl (c_X4_before X.2.1 Y ok.2.2.2.2.2.2.2.2 h) ⟨rfl, rfl, Nat.le_of_ble_eq_true rfl, Nat.le_of_ble_eq_true rfl⟩ rfl rfl (Nat.le_of_ble_eq_true rfl) dX9_line_28 (fun σ1 r1 h => ?_)
      exact wq_ret (q_iret ok dX9_line_31 h)
    · have h := hT1b c1
      refine q_sub [] rfl ?_
      exact w_X9_line_J10 ok ox σ h)
/-! BranchingStory.explore(I)I -/
def f_X9_explore_J12 (Q : St → Int → Prop) (E : String → St → Prop) (σ : St) : Prop :=
  E IAE σ
def f_X9_explore (a0 : Int) (σ : St) (Q : St → Int → Prop) (E : String → St → Prop) : Prop :=
  inR a0 ∧ ((a0 < 1 → f_X9_explore_J12 Q E σ) ∧ (¬ a0 < 1 → inR a0 ∧ ((a0 ≤ 300 → f_X9_needStory σ (fun σ1 => f_X1_search ((σ1 0 2).toNat) a0 σ1 (fun σ2 => Q σ2 (σ2 52 5))) E) ∧ (¬ a0 ≤ 300 → f_X9_explore_J12 Q E σ))))
set_option maxRecDepth 100000 in
set_option maxHeartbeats 4000000 in
theorem w_X9_explore_J12 {X : Cx} {Y : Cy} {Q : St → Int → Prop} {E : String → St → Prop} (ok : Ok X Y KC cX9_explore 2 RX9 (rmX 7 167) (some .int)) (ox : Ox X Y) (σ : St) (h : f_X9_explore_J12 Q E σ ) : Wq X Y KC 2 (QX X Y (Qiq Y KC Q) (XCq Y KC E)) σ 12 [] [] := by
  unfold f_X9_explore_J12 at h
  exact q_throw (text := "limit is out of range") ok ox (by decide) wt_650 wt_14 (by decide) ox.2.2.2.1.2.1 at_f64 at_g64 dX9_explore_12 dX9_explore_15 dX9_explore_16 dX9_explore_18 dX9_explore_21 ⟨Nat.le_of_ble_eq_true rfl, Nat.le_of_ble_eq_true rfl, Nat.le_of_ble_eq_true rfl, Nat.le_of_ble_eq_true rfl⟩ h
set_option maxRecDepth 100000 in
set_option maxHeartbeats 4000000 in
theorem c_X9_explore (l : Launch) (hst : l.stackTraces = false) (Y : Cy) (hD : ∀ σ, va_D Y.2.2.2 (wsOf KC Y.2.1 Y.2.2.1 σ)) {a0 : Int} {σ : St} {Q : St → Int → Prop} {E : String → St → Prop} (h : f_X9_explore a0 σ Q E) : Xon l yX9_explore cX9_explore 2 (some .int) (rmX 7 167) Y KC σ [.inr (.inr 0), .inl a0] (Qiq Y KC Q) E := xcon_of (lv := [(0, .inr (.inr 0)), (1, .inl a0)]) (by decide) hst hD (Nat.le_of_ble_eq_true rfl) rfl (fun X _ ok ox => by
  have ok : Ok X Y KC cX9_explore 2 RX9 (rmX 7 167) (some .int) := ok
  unfold f_X9_explore at h
  refine q_iload_n ok dX9_explore_0 1 rfl ?_
  refine q_iconst ok dX9_explore_1 ?_
  obtain ⟨g1, hT2a, hT2b⟩ := h
  refine q_icmp_lt (tgt := 12) ok dX9_explore_2 (by decide) g1 (by unfold inR; decide) (fun c2 => ?_) (fun c2 => ?_)
  · have h := hT2a c2
    refine q_sub [] rfl ?_
    exact w_X9_explore_J12 ok ox σ h
  · have h := hT2b c2
    refine q_iload_n ok dX9_explore_5 1 rfl ?_
    refine q_sipush ok dX9_explore_6 rfl ?_
    obtain ⟨g2, hT1a, hT1b⟩ := h
    refine q_icmp_le (tgt := 22) ok dX9_explore_9 (by decide) g2 (by unfold inR; decide) (fun c1 => ?_) (fun c1 => ?_)
    · have h := hT1a c1
      refine q_aload_n ok dX9_explore_22 0 rfl ?_
      refine q_xV (st := []) ok ox cs_X9_120 wt_840 kC_0 rfl (c_X9_needStory X.2.1 ox.1 Y ok.2.2.2.2.2.2.2.2 h) ⟨rfl, rfl, Nat.le_of_ble_eq_true rfl, Nat.le_of_ble_eq_true rfl⟩ ⟨Nat.le_of_ble_eq_true rfl, Nat.le_of_ble_eq_true rfl⟩ rfl rfl (Nat.le_of_ble_eq_true rfl) dX9_explore_23 (fun σ1 h => ?_)
      refine q_aload_n ok dX9_explore_26 0 rfl ?_
      refine q_getC ok fl_X9_49 kC_0 fC_0_7 dX9_explore_27 ?_
      refine q_aload_n ok dX9_explore_30 0 rfl ?_
      refine q_getR ok fl_X9_16 kC_0 fC_0_2 dX9_explore_31 ?_
      refine q_iload_n ok dX9_explore_34 1 rfl ?_
      refine q_callVV (st := []) ok cs_X9_202 kC_52 rfl (c_X1_search X.2.1 Y ok.2.2.2.2.2.2.2.2 h) ⟨rfl, rfl, Nat.le_of_ble_eq_true rfl, Nat.le_of_ble_eq_true rfl⟩ rfl rfl (Nat.le_of_ble_eq_true rfl) dX9_explore_35 (fun σ2 h => ?_)
      refine q_aload_n ok dX9_explore_38 0 rfl ?_
      refine q_getC ok fl_X9_49 kC_0 fC_0_7 dX9_explore_39 ?_
      refine q_getI ok fl_X9_206 kC_52 fC_52_5 dX9_explore_42 ?_
      exact wq_ret (q_iret ok dX9_explore_45 h)
    · have h := hT1b c1
      refine q_sub [] rfl ?_
      exact w_X9_explore_J12 ok ox σ h)
/-! BranchingStory.needExploration()V -/
def f_X9_needExploration (σ : St) (Q : St → Prop) (E : String → St → Prop) : Prop :=
  inR (σ 52 1) ∧ ((¬ (σ 52 1) = 0 → Q σ) ∧ ((σ 52 1) = 0 → E ISE σ))
set_option maxRecDepth 100000 in
set_option maxHeartbeats 4000000 in
theorem c_X9_needExploration (l : Launch) (hst : l.stackTraces = false) (Y : Cy) (hD : ∀ σ, va_D Y.2.2.2 (wsOf KC Y.2.1 Y.2.2.1 σ)) {σ : St} {Q : St → Prop} {E : String → St → Prop} (h : f_X9_needExploration  σ Q E) : Xon l yX9_needExploration cX9_needExploration 1 none (rmX 6 90) Y KC σ [.inr (.inr 0)] (Qvq Y KC Q) E := xcon_of (lv := [(0, .inr (.inr 0))]) (by decide) hst hD (Nat.le_of_ble_eq_true rfl) rfl (fun X _ ok ox => by
  have ok : Ok X Y KC cX9_needExploration 1 RX9 (rmX 6 90) none := ok
  unfold f_X9_needExploration at h
  refine q_aload_n ok dX9_needExploration_0 0 rfl ?_
  refine q_getC ok fl_X9_49 kC_0 fC_0_7 dX9_needExploration_1 ?_
  refine q_getI ok fl_X9_293 kC_52 fC_52_1 dX9_needExploration_4 ?_
  obtain ⟨g1, hT1a, hT1b⟩ := h
  refine q_if_ne (tgt := 21) ok dX9_needExploration_7 (by decide) g1 (fun c1 => ?_) (fun c1 => ?_)
  · have h := hT1a c1
    exact wq_ret (q_vret ok dX9_needExploration_21 h)
  · have h := hT1b c1
    exact q_throwW (text := "this story has not been explored") ok ox (by decide) wt_718 wt_15 (by decide) ox.2.2.2.1.1 at_f75 at_g75 dX9_needExploration_10 dX9_needExploration_13 dX9_needExploration_14 dX9_needExploration_17 dX9_needExploration_20 ⟨Nat.le_of_ble_eq_true rfl, Nat.le_of_ble_eq_true rfl, Nat.le_of_ble_eq_true rfl, Nat.le_of_ble_eq_true rfl⟩ h)
/-! BranchingStory.isComplete()Z -/
def f_X9_isComplete (σ : St) (Q : St → Int → Prop) (E : String → St → Prop) : Prop :=
  f_X9_needExploration σ (fun σ1 => ((σ1 52 2) = 0 ∨ (σ1 52 2) = 1) ∧ Q σ1 (σ1 52 2)) E
set_option maxRecDepth 100000 in
set_option maxHeartbeats 4000000 in
theorem c_X9_isComplete (l : Launch) (hst : l.stackTraces = false) (Y : Cy) (hD : ∀ σ, va_D Y.2.2.2 (wsOf KC Y.2.1 Y.2.2.1 σ)) {σ : St} {Q : St → Int → Prop} {E : String → St → Prop} (h : f_X9_isComplete  σ Q E) : Xon l yX9_isComplete cX9_isComplete 1 (some .boolean) (rmX 7 110) Y KC σ [.inr (.inr 0)] (Qiq Y KC Q) E := xcon_of (lv := [(0, .inr (.inr 0))]) (by decide) hst hD (Nat.le_of_ble_eq_true rfl) rfl (fun X _ ok ox => by
  have ok : Ok X Y KC cX9_isComplete 1 RX9 (rmX 7 110) (some .boolean) := ok
  unfold f_X9_isComplete at h
  refine q_aload_n ok dX9_isComplete_0 0 rfl ?_
  refine q_xV (st := []) ok ox cs_X9_209 wt_1056 kC_0 rfl (c_X9_needExploration X.2.1 ox.1 Y ok.2.2.2.2.2.2.2.2 h) ⟨rfl, rfl, Nat.le_of_ble_eq_true rfl, Nat.le_of_ble_eq_true rfl⟩ ⟨Nat.le_of_ble_eq_true rfl, Nat.le_of_ble_eq_true rfl⟩ rfl rfl (Nat.le_of_ble_eq_true rfl) dX9_isComplete_1 (fun σ1 h => ?_)
  refine q_aload_n ok dX9_isComplete_4 0 rfl ?_
  refine q_getC ok fl_X9_49 kC_0 fC_0_7 dX9_isComplete_5 ?_
  refine q_getI ok fl_X9_212 kC_52 fC_52_2 dX9_isComplete_8 ?_
  exact wq_ret (q_zret ok dX9_isComplete_11 h.1 h.2))
/-! BranchingStory.needOutcome(I)V -/
def f_X9_needOutcome_J10 (Q : St → Prop) (E : String → St → Prop) (σ : St) : Prop :=
  E IAE σ
def f_X9_needOutcome (a0 : Int) (σ : St) (Q : St → Prop) (E : String → St → Prop) : Prop :=
  inR a0 ∧ ((a0 < 0 → f_X9_needOutcome_J10 Q E σ) ∧ (¬ a0 < 0 → inR a0 ∧ ((a0 < 12 → Q σ) ∧ (¬ a0 < 12 → f_X9_needOutcome_J10 Q E σ))))
set_option maxRecDepth 100000 in
set_option maxHeartbeats 4000000 in
theorem w_X9_needOutcome_J10 {X : Cx} {Y : Cy} {Q : St → Prop} {E : String → St → Prop} (ok : Ok X Y KC cX9_needOutcome 1 RX9 (rmX 6 90) none) (ox : Ox X Y) (σ : St) (h : f_X9_needOutcome_J10 Q E σ ) : Wq X Y KC 1 (QX X Y (Qvq Y KC Q) (XCq Y KC E)) σ 10 [] [] := by
  unfold f_X9_needOutcome_J10 at h
  exact q_throwW (text := "outcome is out of range") ok ox (by decide) wt_650 wt_14 (by decide) ox.2.2.2.1.2.1 at_f64 at_g64 dX9_needOutcome_10 dX9_needOutcome_13 dX9_needOutcome_14 dX9_needOutcome_17 dX9_needOutcome_20 ⟨Nat.le_of_ble_eq_true rfl, Nat.le_of_ble_eq_true rfl, Nat.le_of_ble_eq_true rfl, Nat.le_of_ble_eq_true rfl⟩ h
set_option maxRecDepth 100000 in
set_option maxHeartbeats 4000000 in
theorem c_X9_needOutcome (l : Launch) (hst : l.stackTraces = false) (Y : Cy) (hD : ∀ σ, va_D Y.2.2.2 (wsOf KC Y.2.1 Y.2.2.1 σ)) {a0 : Int} {σ : St} {Q : St → Prop} {E : String → St → Prop} (h : f_X9_needOutcome a0 σ Q E) : Xon l yX9_needOutcome cX9_needOutcome 1 none (rmX 6 90) Y KC σ [.inl a0] (Qvq Y KC Q) E := xcon_of (lv := [(0, .inl a0)]) (by decide) hst hD (Nat.le_of_ble_eq_true rfl) rfl (fun X _ ok ox => by
  have ok : Ok X Y KC cX9_needOutcome 1 RX9 (rmX 6 90) none := ok
  unfold f_X9_needOutcome at h
  refine q_iload_n ok dX9_needOutcome_0 0 rfl ?_
  obtain ⟨g1, hT2a, hT2b⟩ := h
  refine q_if_lt (tgt := 10) ok dX9_needOutcome_1 (by decide) g1 (fun c2 => ?_) (fun c2 => ?_)
  · have h := hT2a c2
    refine q_sub [] rfl ?_
    exact w_X9_needOutcome_J10 ok ox σ h
  · have h := hT2b c2
    refine q_iload_n ok dX9_needOutcome_4 0 rfl ?_
    refine q_bipush ok dX9_needOutcome_5 rfl ?_
    obtain ⟨g2, hT1a, hT1b⟩ := h
    refine q_icmp_lt (tgt := 21) ok dX9_needOutcome_7 (by decide) g2 (by unfold inR; decide) (fun c1 => ?_) (fun c1 => ?_)
    · have h := hT1a c1
      exact wq_ret (q_vret ok dX9_needOutcome_21 h)
    · have h := hT1b c1
      refine q_sub [] rfl ?_
      exact w_X9_needOutcome_J10 ok ox σ h)
/-! BranchingStory.wayLength(I)I -/
def f_X9_wayLength (a0 : Int) (σ : St) (Q : St → Int → Prop) (E : String → St → Prop) : Prop :=
  f_X9_needOutcome a0 σ (fun σ1 => f_X9_needExploration σ1 (fun σ2 => 0 ≤ a0 ∧ a0 < 12 ∧ Q σ2 (σ2 60 a0.toNat)) E) E
set_option maxRecDepth 100000 in
set_option maxHeartbeats 4000000 in
theorem c_X9_wayLength (l : Launch) (hst : l.stackTraces = false) (Y : Cy) (hD : ∀ σ, va_D Y.2.2.2 (wsOf KC Y.2.1 Y.2.2.1 σ)) {a0 : Int} {σ : St} {Q : St → Int → Prop} {E : String → St → Prop} (h : f_X9_wayLength a0 σ Q E) : Xon l yX9_wayLength cX9_wayLength 2 (some .int) (rmX 7 110) Y KC σ [.inr (.inr 0), .inl a0] (Qiq Y KC Q) E := xcon_of (lv := [(0, .inr (.inr 0)), (1, .inl a0)]) (by decide) hst hD (Nat.le_of_ble_eq_true rfl) rfl (fun X _ ok ox => by
  have ok : Ok X Y KC cX9_wayLength 2 RX9 (rmX 7 110) (some .int) := ok
  unfold f_X9_wayLength at h
  refine q_iload_n ok dX9_wayLength_0 1 rfl ?_
  refine q_xS (st := []) ok ox cs_X9_216 wt_1068 (c_X9_needOutcome X.2.1 ox.1 Y ok.2.2.2.2.2.2.2.2 h) ⟨rfl, rfl, Nat.le_of_ble_eq_true rfl, Nat.le_of_ble_eq_true rfl⟩ ⟨Nat.le_of_ble_eq_true rfl, Nat.le_of_ble_eq_true rfl⟩ rfl rfl (Nat.le_of_ble_eq_true rfl) dX9_wayLength_1 (fun σ1 h => ?_)
  refine q_aload_n ok dX9_wayLength_4 0 rfl ?_
  refine q_xV (st := []) ok ox cs_X9_209 wt_1056 kC_0 rfl (c_X9_needExploration X.2.1 ox.1 Y ok.2.2.2.2.2.2.2.2 h) ⟨rfl, rfl, Nat.le_of_ble_eq_true rfl, Nat.le_of_ble_eq_true rfl⟩ ⟨Nat.le_of_ble_eq_true rfl, Nat.le_of_ble_eq_true rfl⟩ rfl rfl (Nat.le_of_ble_eq_true rfl) dX9_wayLength_5 (fun σ2 h => ?_)
  refine q_aload_n ok dX9_wayLength_8 0 rfl ?_
  refine q_getC ok fl_X9_49 kC_0 fC_0_7 dX9_wayLength_9 ?_
  refine q_getC ok fl_X9_219 kC_52 fC_52_13 dX9_wayLength_12 ?_
  refine q_iload_n ok dX9_wayLength_15 1 rfl ?_
  obtain ⟨g1, g2, h⟩ := h
  refine q_iald ok kC_ok kC_60 g1 g2 dX9_wayLength_16 ?_
  exact wq_ret (q_iret ok dX9_wayLength_17 h))
/-! BranchingStory.way(II)I -/
def f_X9_way_J25 (Q : St → Int → Prop) (E : String → St → Prop) (σ : St) : Prop :=
  E IOE σ
def f_X9_way (a0 : Int) (a1 : Int) (σ : St) (Q : St → Int → Prop) (E : String → St → Prop) : Prop :=
  f_X9_needOutcome a0 σ (fun σ1 => f_X9_needExploration σ1 (fun σ2 => inR a1 ∧ ((a1 < 0 → f_X9_way_J25 Q E σ2) ∧ (¬ a1 < 0 → 0 ≤ a0 ∧ a0 < 12 ∧ inR a1 ∧ inR (σ2 60 a0.toNat) ∧ ((a1 < (σ2 60 a0.toNat) → f_X1_positionOnWay a0 a1 σ2 (fun σ3 r1 => Q σ3 r1)) ∧ (¬ a1 < (σ2 60 a0.toNat) → f_X9_way_J25 Q E σ2))))) E) E
set_option maxRecDepth 100000 in
set_option maxHeartbeats 4000000 in
theorem w_X9_way_J25 {X : Cx} {Y : Cy} {Q : St → Int → Prop} {E : String → St → Prop} (ok : Ok X Y KC cX9_way 3 RX9 (rmX 7 110) (some .int)) (ox : Ox X Y) (σ : St) (h : f_X9_way_J25 Q E σ ) : Wq X Y KC 3 (QX X Y (Qiq Y KC Q) (XCq Y KC E)) σ 25 [] [] := by
  unfold f_X9_way_J25 at h
  exact q_throw (text := "the way has no such index") ok ox (by decide) wt_787 wt_18 (by decide) ox.2.2.2.1.2.2 at_f226 at_g226 dX9_way_25 dX9_way_28 dX9_way_29 dX9_way_31 dX9_way_34 ⟨Nat.le_of_ble_eq_true rfl, Nat.le_of_ble_eq_true rfl, Nat.le_of_ble_eq_true rfl, Nat.le_of_ble_eq_true rfl⟩ h
set_option maxRecDepth 100000 in
set_option maxHeartbeats 4000000 in
theorem c_X9_way (l : Launch) (hst : l.stackTraces = false) (Y : Cy) (hD : ∀ σ, va_D Y.2.2.2 (wsOf KC Y.2.1 Y.2.2.1 σ)) {a0 : Int} {a1 : Int} {σ : St} {Q : St → Int → Prop} {E : String → St → Prop} (h : f_X9_way a0 a1 σ Q E) : Xon l yX9_way cX9_way 3 (some .int) (rmX 7 110) Y KC σ [.inr (.inr 0), .inl a0, .inl a1] (Qiq Y KC Q) E := xcon_of (lv := [(0, .inr (.inr 0)), (1, .inl a0), (2, .inl a1)]) (by decide) hst hD (Nat.le_of_ble_eq_true rfl) rfl (fun X _ ok ox => by
  have ok : Ok X Y KC cX9_way 3 RX9 (rmX 7 110) (some .int) := ok
  unfold f_X9_way at h
  refine q_iload_n ok dX9_way_0 1 rfl ?_
  refine q_xS (st := []) ok ox cs_X9_216 wt_1068 (c_X9_needOutcome X.2.1 ox.1 Y ok.2.2.2.2.2.2.2.2 h) ⟨rfl, rfl, Nat.le_of_ble_eq_true rfl, Nat.le_of_ble_eq_true rfl⟩ ⟨Nat.le_of_ble_eq_true rfl, Nat.le_of_ble_eq_true rfl⟩ rfl rfl (Nat.le_of_ble_eq_true rfl) dX9_way_1 (fun σ1 h => ?_)
  refine q_aload_n ok dX9_way_4 0 rfl ?_
  refine q_xV (st := []) ok ox cs_X9_209 wt_1056 kC_0 rfl (c_X9_needExploration X.2.1 ox.1 Y ok.2.2.2.2.2.2.2.2 h) ⟨rfl, rfl, Nat.le_of_ble_eq_true rfl, Nat.le_of_ble_eq_true rfl⟩ ⟨Nat.le_of_ble_eq_true rfl, Nat.le_of_ble_eq_true rfl⟩ rfl rfl (Nat.le_of_ble_eq_true rfl) dX9_way_5 (fun σ2 h => ?_)
  refine q_iload_n ok dX9_way_8 2 rfl ?_
  obtain ⟨g1, hT2a, hT2b⟩ := h
  refine q_if_lt (tgt := 25) ok dX9_way_9 (by decide) g1 (fun c2 => ?_) (fun c2 => ?_)
  · have h := hT2a c2
    refine q_sub [] rfl ?_
    exact w_X9_way_J25 ok ox σ2 h
  · have h := hT2b c2
    refine q_iload_n ok dX9_way_12 2 rfl ?_
    refine q_aload_n ok dX9_way_13 0 rfl ?_
    refine q_getC ok fl_X9_49 kC_0 fC_0_7 dX9_way_14 ?_
    refine q_getC ok fl_X9_219 kC_52 fC_52_13 dX9_way_17 ?_
    refine q_iload_n ok dX9_way_20 1 rfl ?_
    obtain ⟨g2, g3, h⟩ := h
    refine q_iald ok kC_ok kC_60 g2 g3 dX9_way_21 ?_
    obtain ⟨g4, g5, hT1a, hT1b⟩ := h
    refine q_icmp_lt (tgt := 35) ok dX9_way_22 (by decide) g4 g5 (fun c1 => ?_) (fun c1 => ?_)
    · have h := hT1a c1
      refine q_aload_n ok dX9_way_35 0 rfl ?_
      refine q_getC ok fl_X9_49 kC_0 fC_0_7 dX9_way_36 ?_
      refine q_iload_n ok dX9_way_39 1 rfl ?_
      refine q_iload_n ok dX9_way_40 2 rfl ?_
      refine q_callVI (st := []) ok cs_X9_227 kC_52 rfl (c_X1_positionOnWay X.2.1 Y ok.2.2.2.2.2.2.2.2 h) ⟨rfl, rfl, Nat.le_of_ble_eq_true rfl, Nat.le_of_ble_eq_true rfl⟩ rfl rfl (Nat.le_of_ble_eq_true rfl) dX9_way_41 (fun σ3 r1 h => ?_)
      exact wq_ret (q_iret ok dX9_way_44 h)
    · have h := hT1b c1
      refine q_sub [] rfl ?_
      exact w_X9_way_J25 ok ox σ2 h)
/-! BranchingStory.outcomes(I)I -/
def f_X9_outcomes (a0 : Int) (σ : St) (Q : St → Int → Prop) (E : String → St → Prop) : Prop :=
  f_X9_needOutcome a0 σ (fun σ1 => f_X9_needExploration σ1 (fun σ2 => 0 ≤ a0 ∧ a0 < 12 ∧ Q σ2 (σ2 57 a0.toNat)) E) E
set_option maxRecDepth 100000 in
set_option maxHeartbeats 4000000 in
theorem c_X9_outcomes (l : Launch) (hst : l.stackTraces = false) (Y : Cy) (hD : ∀ σ, va_D Y.2.2.2 (wsOf KC Y.2.1 Y.2.2.1 σ)) {a0 : Int} {σ : St} {Q : St → Int → Prop} {E : String → St → Prop} (h : f_X9_outcomes a0 σ Q E) : Xon l yX9_outcomes cX9_outcomes 2 (some .int) (rmX 7 110) Y KC σ [.inr (.inr 0), .inl a0] (Qiq Y KC Q) E := xcon_of (lv := [(0, .inr (.inr 0)), (1, .inl a0)]) (by decide) hst hD (Nat.le_of_ble_eq_true rfl) rfl (fun X _ ok ox => by
  have ok : Ok X Y KC cX9_outcomes 2 RX9 (rmX 7 110) (some .int) := ok
  unfold f_X9_outcomes at h
  refine q_iload_n ok dX9_outcomes_0 1 rfl ?_
  refine q_xS (st := []) ok ox cs_X9_216 wt_1068 (c_X9_needOutcome X.2.1 ox.1 Y ok.2.2.2.2.2.2.2.2 h) ⟨rfl, rfl, Nat.le_of_ble_eq_true rfl, Nat.le_of_ble_eq_true rfl⟩ ⟨Nat.le_of_ble_eq_true rfl, Nat.le_of_ble_eq_true rfl⟩ rfl rfl (Nat.le_of_ble_eq_true rfl) dX9_outcomes_1 (fun σ1 h => ?_)
  refine q_aload_n ok dX9_outcomes_4 0 rfl ?_
  refine q_xV (st := []) ok ox cs_X9_209 wt_1056 kC_0 rfl (c_X9_needExploration X.2.1 ox.1 Y ok.2.2.2.2.2.2.2.2 h) ⟨rfl, rfl, Nat.le_of_ble_eq_true rfl, Nat.le_of_ble_eq_true rfl⟩ ⟨Nat.le_of_ble_eq_true rfl, Nat.le_of_ble_eq_true rfl⟩ rfl rfl (Nat.le_of_ble_eq_true rfl) dX9_outcomes_5 (fun σ2 h => ?_)
  refine q_aload_n ok dX9_outcomes_8 0 rfl ?_
  refine q_getC ok fl_X9_49 kC_0 fC_0_7 dX9_outcomes_9 ?_
  refine q_getC ok fl_X9_230 kC_52 fC_52_10 dX9_outcomes_12 ?_
  refine q_iload_n ok dX9_outcomes_15 1 rfl ?_
  obtain ⟨g1, g2, h⟩ := h
  refine q_iald ok kC_ok kC_57 g1 g2 dX9_outcomes_16 ?_
  exact wq_ret (q_iret ok dX9_outcomes_17 h))
/-! BranchingStory.needLine(I)V -/
def f_X9_needLine_J10 (Q : St → Prop) (E : String → St → Prop) (σ : St) : Prop :=
  E IOE σ
def f_X9_needLine (a0 : Int) (σ : St) (Q : St → Prop) (E : String → St → Prop) : Prop :=
  inR a0 ∧ ((a0 < 0 → f_X9_needLine_J10 Q E σ) ∧ (¬ a0 < 0 → inR a0 ∧ ((a0 < 100 → Q σ) ∧ (¬ a0 < 100 → f_X9_needLine_J10 Q E σ))))
set_option maxRecDepth 100000 in
set_option maxHeartbeats 4000000 in
theorem w_X9_needLine_J10 {X : Cx} {Y : Cy} {Q : St → Prop} {E : String → St → Prop} (ok : Ok X Y KC cX9_needLine 1 RX9 (rmX 6 90) none) (ox : Ox X Y) (σ : St) (h : f_X9_needLine_J10 Q E σ ) : Wq X Y KC 1 (QX X Y (Qvq Y KC Q) (XCq Y KC E)) σ 10 [] [] := by
  unfold f_X9_needLine_J10 at h
  exact q_throwW (text := "there is no such line") ok ox (by decide) wt_787 wt_18 (by decide) ox.2.2.2.1.2.2 at_f226 at_g226 dX9_needLine_10 dX9_needLine_13 dX9_needLine_14 dX9_needLine_17 dX9_needLine_20 ⟨Nat.le_of_ble_eq_true rfl, Nat.le_of_ble_eq_true rfl, Nat.le_of_ble_eq_true rfl, Nat.le_of_ble_eq_true rfl⟩ h
set_option maxRecDepth 100000 in
set_option maxHeartbeats 4000000 in
theorem c_X9_needLine (l : Launch) (hst : l.stackTraces = false) (Y : Cy) (hD : ∀ σ, va_D Y.2.2.2 (wsOf KC Y.2.1 Y.2.2.1 σ)) {a0 : Int} {σ : St} {Q : St → Prop} {E : String → St → Prop} (h : f_X9_needLine a0 σ Q E) : Xon l yX9_needLine cX9_needLine 1 none (rmX 6 90) Y KC σ [.inl a0] (Qvq Y KC Q) E := xcon_of (lv := [(0, .inl a0)]) (by decide) hst hD (Nat.le_of_ble_eq_true rfl) rfl (fun X _ ok ox => by
  have ok : Ok X Y KC cX9_needLine 1 RX9 (rmX 6 90) none := ok
  unfold f_X9_needLine at h
  refine q_iload_n ok dX9_needLine_0 0 rfl ?_
  obtain ⟨g1, hT2a, hT2b⟩ := h
  refine q_if_lt (tgt := 10) ok dX9_needLine_1 (by decide) g1 (fun c2 => ?_) (fun c2 => ?_)
  · have h := hT2a c2
    refine q_sub [] rfl ?_
    exact w_X9_needLine_J10 ok ox σ h
  · have h := hT2b c2
    refine q_iload_n ok dX9_needLine_4 0 rfl ?_
    refine q_bipush ok dX9_needLine_5 rfl ?_
    obtain ⟨g2, hT1a, hT1b⟩ := h
    refine q_icmp_lt (tgt := 21) ok dX9_needLine_7 (by decide) g2 (by unfold inR; decide) (fun c1 => ?_) (fun c1 => ?_)
    · have h := hT1a c1
      exact wq_ret (q_vret ok dX9_needLine_21 h)
    · have h := hT1b c1
      refine q_sub [] rfl ?_
      exact w_X9_needLine_J10 ok ox σ h)
/-! BranchingStory.occurred(II)Z -/
def f_X9_occurred_J9 (Q : St → Int → Prop) (E : String → St → Prop) (σ : St) : Prop :=
  E IAE σ
def f_X9_occurred (a0 : Int) (a1 : Int) (σ : St) (Q : St → Int → Prop) (E : String → St → Prop) : Prop :=
  inR a0 ∧ ((a0 < 0 → f_X9_occurred_J9 Q E σ) ∧ (¬ a0 < 0 → inR a0 ∧ ((a0 ≤ 2 → f_X9_needExploration σ (fun σ1 => inR a0 ∧ ((¬ a0 = 0 → inR a0 ∧ ((¬ a0 = 1 → f_X9_needChoice a1 σ1 (fun σ2 => inR (iand32 (ishr32 (σ2 52 4) a1) 1) ∧ ((¬ (iand32 (ishr32 (σ2 52 4) a1) 1) = 1 → Q σ2 0) ∧ ((iand32 (ishr32 (σ2 52 4) a1) 1) = 1 → Q σ2 1))) E) ∧ (a0 = 1 → f_X9_needNode a1 σ1 (fun σ3 => inR (iand32 (ishr32 (σ3 61 9) a1) 1) ∧ ((¬ (iand32 (ishr32 (σ3 61 9) a1) 1) = 1 → Q σ3 0) ∧ ((iand32 (ishr32 (σ3 61 9) a1) 1) = 1 → Q σ3 1))) E))) ∧ (a0 = 0 → f_X9_needLine a1 σ1 (fun σ4 => 0 ≤ a1 ∧ a1 < 100 ∧ ((σ4 64 a1.toNat) = 0 ∨ (σ4 64 a1.toNat) = 1) ∧ Q σ4 (σ4 64 a1.toNat)) E))) E) ∧ (¬ a0 ≤ 2 → f_X9_occurred_J9 Q E σ))))
set_option maxRecDepth 100000 in
set_option maxHeartbeats 4000000 in
theorem w_X9_occurred_J9 {X : Cx} {Y : Cy} {Q : St → Int → Prop} {E : String → St → Prop} (ok : Ok X Y KC cX9_occurred 3 RX9 (rmX 7 111) (some .boolean)) (ox : Ox X Y) (σ : St) (h : f_X9_occurred_J9 Q E σ ) : Wq X Y KC 3 (QX X Y (Qiq Y KC Q) (XCq Y KC E)) σ 9 [] [] := by
  unfold f_X9_occurred_J9 at h
  exact q_throw (text := "what is out of range") ok ox (by decide) wt_650 wt_14 (by decide) ox.2.2.2.1.2.1 at_f64 at_g64 dX9_occurred_9 dX9_occurred_12 dX9_occurred_13 dX9_occurred_15 dX9_occurred_18 ⟨Nat.le_of_ble_eq_true rfl, Nat.le_of_ble_eq_true rfl, Nat.le_of_ble_eq_true rfl, Nat.le_of_ble_eq_true rfl⟩ h
set_option maxRecDepth 100000 in
set_option maxHeartbeats 4000000 in
theorem c_X9_occurred (l : Launch) (hst : l.stackTraces = false) (Y : Cy) (hD : ∀ σ, va_D Y.2.2.2 (wsOf KC Y.2.1 Y.2.2.1 σ)) {a0 : Int} {a1 : Int} {σ : St} {Q : St → Int → Prop} {E : String → St → Prop} (h : f_X9_occurred a0 a1 σ Q E) : Xon l yX9_occurred cX9_occurred 3 (some .boolean) (rmX 7 111) Y KC σ [.inr (.inr 0), .inl a0, .inl a1] (Qiq Y KC Q) E := xcon_of (lv := [(0, .inr (.inr 0)), (1, .inl a0), (2, .inl a1)]) (by decide) hst hD (Nat.le_of_ble_eq_true rfl) rfl (fun X _ ok ox => by
  have ok : Ok X Y KC cX9_occurred 3 RX9 (rmX 7 111) (some .boolean) := ok
  unfold f_X9_occurred at h
  refine q_iload_n ok dX9_occurred_0 1 rfl ?_
  obtain ⟨g1, hT6a, hT6b⟩ := h
  refine q_if_lt (tgt := 9) ok dX9_occurred_1 (by decide) g1 (fun c6 => ?_) (fun c6 => ?_)
  · have h := hT6a c6
    refine q_sub [] rfl ?_
    exact w_X9_occurred_J9 ok ox σ h
  · have h := hT6b c6
    refine q_iload_n ok dX9_occurred_4 1 rfl ?_
    refine q_iconst ok dX9_occurred_5 ?_
    obtain ⟨g2, hT5a, hT5b⟩ := h
    refine q_icmp_le (tgt := 19) ok dX9_occurred_6 (by decide) g2 (by unfold inR; decide) (fun c5 => ?_) (fun c5 => ?_)
    · have h := hT5a c5
      refine q_aload_n ok dX9_occurred_19 0 rfl ?_
      refine q_xV (st := []) ok ox cs_X9_209 wt_1056 kC_0 rfl (c_X9_needExploration X.2.1 ox.1 Y ok.2.2.2.2.2.2.2.2 h) ⟨rfl, rfl, Nat.le_of_ble_eq_true rfl, Nat.le_of_ble_eq_true rfl⟩ ⟨Nat.le_of_ble_eq_true rfl, Nat.le_of_ble_eq_true rfl⟩ rfl rfl (Nat.le_of_ble_eq_true rfl) dX9_occurred_20 (fun σ1 h => ?_)
      refine q_iload_n ok dX9_occurred_23 1 rfl ?_
      obtain ⟨g3, hT4a, hT4b⟩ := h
      refine q_if_ne (tgt := 47) ok dX9_occurred_24 (by decide) g3 (fun c4 => ?_) (fun c4 => ?_)
      · have h := hT4a c4
        refine q_iload_n ok dX9_occurred_47 1 rfl ?_
        refine q_iconst ok dX9_occurred_48 ?_
        obtain ⟨g4, hT3a, hT3b⟩ := h
        refine q_icmp_ne (tgt := 81) ok dX9_occurred_49 (by decide) g4 (by unfold inR; decide) (fun c3 => ?_) (fun c3 => ?_)
        · have h := hT3a c3
          refine q_aload_n ok dX9_occurred_81 0 rfl ?_
          refine q_iload_n ok dX9_occurred_82 2 rfl ?_
          refine q_xV (st := []) ok ox cs_X9_111 wt_821 kC_0 rfl (c_X9_needChoice X.2.1 ox.1 Y ok.2.2.2.2.2.2.2.2 h) ⟨rfl, rfl, Nat.le_of_ble_eq_true rfl, Nat.le_of_ble_eq_true rfl⟩ ⟨Nat.le_of_ble_eq_true rfl, Nat.le_of_ble_eq_true rfl⟩ rfl rfl (Nat.le_of_ble_eq_true rfl) dX9_occurred_83 (fun σ2 h => ?_)
          refine q_aload_n ok dX9_occurred_86 0 rfl ?_
          refine q_getC ok fl_X9_49 kC_0 fC_0_7 dX9_occurred_87 ?_
          refine q_getI ok fl_X9_244 kC_52 fC_52_4 dX9_occurred_90 ?_
          refine q_iload_n ok dX9_occurred_93 2 rfl ?_
          refine q_ishr ok dX9_occurred_94 ?_
          refine q_iconst ok dX9_occurred_95 ?_
          refine q_iand ok dX9_occurred_96 ?_
          refine q_iconst ok dX9_occurred_97 ?_
          obtain ⟨g5, hT1a, hT1b⟩ := h
          refine q_icmp_ne (tgt := 105) ok dX9_occurred_98 (by decide) g5 (by unfold inR; decide) (fun c1 => ?_) (fun c1 => ?_)
          · have h := hT1a c1
            refine q_iconst ok dX9_occurred_105 ?_
            exact wq_ret (q_zret ok dX9_occurred_106 (by decide) h)
          · have h := hT1b c1
            refine q_iconst ok dX9_occurred_101 ?_
            refine q_goto (tgt := 106) ok dX9_occurred_102 (by decide) ?_
            exact wq_ret (q_zret ok dX9_occurred_106 (by decide) h)
        · have h := hT3b c3
          refine q_aload_n ok dX9_occurred_52 0 rfl ?_
          refine q_iload_n ok dX9_occurred_53 2 rfl ?_
          refine q_xV (st := []) ok ox cs_X9_100 wt_783 kC_0 rfl (c_X9_needNode X.2.1 ox.1 Y ok.2.2.2.2.2.2.2.2 h) ⟨rfl, rfl, Nat.le_of_ble_eq_true rfl, Nat.le_of_ble_eq_true rfl⟩ ⟨Nat.le_of_ble_eq_true rfl, Nat.le_of_ble_eq_true rfl⟩ rfl rfl (Nat.le_of_ble_eq_true rfl) dX9_occurred_54 (fun σ3 h => ?_)
          refine q_aload_n ok dX9_occurred_57 0 rfl ?_
          refine q_getC ok fl_X9_49 kC_0 fC_0_7 dX9_occurred_58 ?_
          refine q_getC ok fl_X9_236 kC_52 fC_52_0 dX9_occurred_61 ?_
          refine q_getI ok fl_X9_241 kC_61 fC_61_9 dX9_occurred_64 ?_
          refine q_iload_n ok dX9_occurred_67 2 rfl ?_
          refine q_ishr ok dX9_occurred_68 ?_
          refine q_iconst ok dX9_occurred_69 ?_
          refine q_iand ok dX9_occurred_70 ?_
          refine q_iconst ok dX9_occurred_71 ?_
          obtain ⟨g6, hT2a, hT2b⟩ := h
          refine q_icmp_ne (tgt := 79) ok dX9_occurred_72 (by decide) g6 (by unfold inR; decide) (fun c2 => ?_) (fun c2 => ?_)
          · have h := hT2a c2
            refine q_iconst ok dX9_occurred_79 ?_
            exact wq_ret (q_zret ok dX9_occurred_80 (by decide) h)
          · have h := hT2b c2
            refine q_iconst ok dX9_occurred_75 ?_
            refine q_goto (tgt := 80) ok dX9_occurred_76 (by decide) ?_
            exact wq_ret (q_zret ok dX9_occurred_80 (by decide) h)
      · have h := hT4b c4
        refine q_iload_n ok dX9_occurred_27 2 rfl ?_
        refine q_xS (st := []) ok ox cs_X9_233 wt_1098 (c_X9_needLine X.2.1 ox.1 Y ok.2.2.2.2.2.2.2.2 h) ⟨rfl, rfl, Nat.le_of_ble_eq_true rfl, Nat.le_of_ble_eq_true rfl⟩ ⟨Nat.le_of_ble_eq_true rfl, Nat.le_of_ble_eq_true rfl⟩ rfl rfl (Nat.le_of_ble_eq_true rfl) dX9_occurred_28 (fun σ4 h => ?_)
        refine q_aload_n ok dX9_occurred_31 0 rfl ?_
        refine q_getC ok fl_X9_49 kC_0 fC_0_7 dX9_occurred_32 ?_
        refine q_getC ok fl_X9_236 kC_52 fC_52_0 dX9_occurred_35 ?_
        refine q_getC ok fl_X9_186 kC_61 fC_61_10 dX9_occurred_38 ?_
        refine q_getC ok fl_X9_237 kC_62 fC_62_2 dX9_occurred_41 ?_
        refine q_iload_n ok dX9_occurred_44 2 rfl ?_
        obtain ⟨g7, g8, h⟩ := h
        refine q_zald ok kC_ok kC_64 g7 g8 dX9_occurred_45 ?_
        exact wq_ret (q_zret ok dX9_occurred_46 h.1 h.2)
    · have h := hT5b c5
      refine q_sub [] rfl ?_
      exact w_X9_occurred_J9 ok ox σ h)
/-! BranchingStory.analyze()I -/
def f_X9_analyze (σ : St) (Q : St → Int → Prop) (E : String → St → Prop) : Prop :=
  f_X9_needStory σ (fun σ1 => f_X0_settle ((σ1 0 2).toNat) σ1 (fun σ2 => f_X0_reachedNodes σ2 (fun σ3 r1 => Q σ3 r1))) E
set_option maxRecDepth 100000 in
set_option maxHeartbeats 4000000 in
theorem c_X9_analyze (l : Launch) (hst : l.stackTraces = false) (Y : Cy) (hD : ∀ σ, va_D Y.2.2.2 (wsOf KC Y.2.1 Y.2.2.1 σ)) {σ : St} {Q : St → Int → Prop} {E : String → St → Prop} (h : f_X9_analyze  σ Q E) : Xon l yX9_analyze cX9_analyze 1 (some .int) (rmX 7 182) Y KC σ [.inr (.inr 0)] (Qiq Y KC Q) E := xcon_of (lv := [(0, .inr (.inr 0))]) (by decide) hst hD (Nat.le_of_ble_eq_true rfl) rfl (fun X _ ok ox => by
  have ok : Ok X Y KC cX9_analyze 1 RX9 (rmX 7 182) (some .int) := ok
  unfold f_X9_analyze at h
  refine q_aload_n ok dX9_analyze_0 0 rfl ?_
  refine q_xV (st := []) ok ox cs_X9_120 wt_840 kC_0 rfl (c_X9_needStory X.2.1 ox.1 Y ok.2.2.2.2.2.2.2.2 h) ⟨rfl, rfl, Nat.le_of_ble_eq_true rfl, Nat.le_of_ble_eq_true rfl⟩ ⟨Nat.le_of_ble_eq_true rfl, Nat.le_of_ble_eq_true rfl⟩ rfl rfl (Nat.le_of_ble_eq_true rfl) dX9_analyze_1 (fun σ1 h => ?_)
  refine q_aload_n ok dX9_analyze_4 0 rfl ?_
  refine q_getC ok fl_X9_56 kC_0 fC_0_8 dX9_analyze_5 ?_
  refine q_aload_n ok dX9_analyze_8 0 rfl ?_
  refine q_getR ok fl_X9_16 kC_0 fC_0_2 dX9_analyze_9 ?_
  refine q_callVV (st := []) ok cs_X9_247 kC_65 rfl (c_X0_settle X.2.1 Y ok.2.2.2.2.2.2.2.2 h) ⟨rfl, rfl, Nat.le_of_ble_eq_true rfl, Nat.le_of_ble_eq_true rfl⟩ rfl rfl (Nat.le_of_ble_eq_true rfl) dX9_analyze_12 (fun σ2 h => ?_)
  refine q_aload_n ok dX9_analyze_15 0 rfl ?_
  refine q_getC ok fl_X9_56 kC_0 fC_0_8 dX9_analyze_16 ?_
  refine q_callVI (st := []) ok cs_X9_250 kC_65 rfl (c_X0_reachedNodes X.2.1 Y ok.2.2.2.2.2.2.2.2 h) ⟨rfl, rfl, Nat.le_of_ble_eq_true rfl, Nat.le_of_ble_eq_true rfl⟩ rfl rfl (Nat.le_of_ble_eq_true rfl) dX9_analyze_19 (fun σ3 r1 h => ?_)
  exact wq_ret (q_iret ok dX9_analyze_22 h))
/-! BranchingStory.needAnalysis()V -/
def f_X9_needAnalysis (σ : St) (Q : St → Prop) (E : String → St → Prop) : Prop :=
  inR (σ 65 1) ∧ ((¬ (σ 65 1) = 0 → Q σ) ∧ ((σ 65 1) = 0 → E ISE σ))
set_option maxRecDepth 100000 in
set_option maxHeartbeats 4000000 in
theorem c_X9_needAnalysis (l : Launch) (hst : l.stackTraces = false) (Y : Cy) (hD : ∀ σ, va_D Y.2.2.2 (wsOf KC Y.2.1 Y.2.2.1 σ)) {σ : St} {Q : St → Prop} {E : String → St → Prop} (h : f_X9_needAnalysis  σ Q E) : Xon l yX9_needAnalysis cX9_needAnalysis 1 none (rmX 6 90) Y KC σ [.inr (.inr 0)] (Qvq Y KC Q) E := xcon_of (lv := [(0, .inr (.inr 0))]) (by decide) hst hD (Nat.le_of_ble_eq_true rfl) rfl (fun X _ ok ox => by
  have ok : Ok X Y KC cX9_needAnalysis 1 RX9 (rmX 6 90) none := ok
  unfold f_X9_needAnalysis at h
  refine q_aload_n ok dX9_needAnalysis_0 0 rfl ?_
  refine q_getC ok fl_X9_56 kC_0 fC_0_8 dX9_needAnalysis_1 ?_
  refine q_getI ok fl_X9_298 kC_65 fC_65_1 dX9_needAnalysis_4 ?_
  obtain ⟨g1, hT1a, hT1b⟩ := h
  refine q_if_ne (tgt := 21) ok dX9_needAnalysis_7 (by decide) g1 (fun c1 => ?_) (fun c1 => ?_)
  · have h := hT1a c1
    exact wq_ret (q_vret ok dX9_needAnalysis_21 h)
  · have h := hT1b c1
    exact q_throwW (text := "this story has not been analyzed") ok ox (by decide) wt_718 wt_15 (by decide) ox.2.2.2.1.1 at_f75 at_g75 dX9_needAnalysis_10 dX9_needAnalysis_13 dX9_needAnalysis_14 dX9_needAnalysis_17 dX9_needAnalysis_20 ⟨Nat.le_of_ble_eq_true rfl, Nat.le_of_ble_eq_true rfl, Nat.le_of_ble_eq_true rfl, Nat.le_of_ble_eq_true rfl⟩ h)
/-! BranchingStory.isReached(II)Z -/
def f_X9_isReached_J9 (Q : St → Int → Prop) (E : String → St → Prop) (σ : St) : Prop :=
  E IAE σ
def f_X9_isReached (a0 : Int) (a1 : Int) (σ : St) (Q : St → Int → Prop) (E : String → St → Prop) : Prop :=
  inR a0 ∧ ((a0 < 0 → f_X9_isReached_J9 Q E σ) ∧ (¬ a0 < 0 → inR a0 ∧ ((a0 ≤ 1 → f_X9_needAnalysis σ (fun σ1 => inR a0 ∧ ((¬ a0 = 0 → f_X9_needChoice a1 σ1 (fun σ2 => 0 ≤ a1 ∧ a1 < 16 ∧ inR (lcmp64 (σ2 67 a1.toNat) 0) ∧ (((lcmp64 (σ2 67 a1.toNat) 0) = 0 → Q σ2 0) ∧ (¬ (lcmp64 (σ2 67 a1.toNat) 0) = 0 → Q σ2 1))) E) ∧ (a0 = 0 → f_X9_needNode a1 σ1 (fun σ3 => 0 ≤ a1 ∧ a1 < 12 ∧ inR (lcmp64 (σ3 66 a1.toNat) 0) ∧ (((lcmp64 (σ3 66 a1.toNat) 0) = 0 → Q σ3 0) ∧ (¬ (lcmp64 (σ3 66 a1.toNat) 0) = 0 → Q σ3 1))) E))) E) ∧ (¬ a0 ≤ 1 → f_X9_isReached_J9 Q E σ))))
set_option maxRecDepth 100000 in
set_option maxHeartbeats 4000000 in
theorem w_X9_isReached_J9 {X : Cx} {Y : Cy} {Q : St → Int → Prop} {E : String → St → Prop} (ok : Ok X Y KC cX9_isReached 3 RX9 (rmX 7 111) (some .boolean)) (ox : Ox X Y) (σ : St) (h : f_X9_isReached_J9 Q E σ ) : Wq X Y KC 3 (QX X Y (Qiq Y KC Q) (XCq Y KC E)) σ 9 [] [] := by
  unfold f_X9_isReached_J9 at h
  exact q_throw (text := "what is out of range") ok ox (by decide) wt_650 wt_14 (by decide) ox.2.2.2.1.2.1 at_f64 at_g64 dX9_isReached_9 dX9_isReached_12 dX9_isReached_13 dX9_isReached_15 dX9_isReached_18 ⟨Nat.le_of_ble_eq_true rfl, Nat.le_of_ble_eq_true rfl, Nat.le_of_ble_eq_true rfl, Nat.le_of_ble_eq_true rfl⟩ h
set_option maxRecDepth 100000 in
set_option maxHeartbeats 4000000 in
theorem c_X9_isReached (l : Launch) (hst : l.stackTraces = false) (Y : Cy) (hD : ∀ σ, va_D Y.2.2.2 (wsOf KC Y.2.1 Y.2.2.1 σ)) {a0 : Int} {a1 : Int} {σ : St} {Q : St → Int → Prop} {E : String → St → Prop} (h : f_X9_isReached a0 a1 σ Q E) : Xon l yX9_isReached cX9_isReached 3 (some .boolean) (rmX 7 111) Y KC σ [.inr (.inr 0), .inl a0, .inl a1] (Qiq Y KC Q) E := xcon_of (lv := [(0, .inr (.inr 0)), (1, .inl a0), (2, .inl a1)]) (by decide) hst hD (Nat.le_of_ble_eq_true rfl) rfl (fun X _ ok ox => by
  have ok : Ok X Y KC cX9_isReached 3 RX9 (rmX 7 111) (some .boolean) := ok
  unfold f_X9_isReached at h
  refine q_iload_n ok dX9_isReached_0 1 rfl ?_
  obtain ⟨g1, hT5a, hT5b⟩ := h
  refine q_if_lt (tgt := 9) ok dX9_isReached_1 (by decide) g1 (fun c5 => ?_) (fun c5 => ?_)
  · have h := hT5a c5
    refine q_sub [] rfl ?_
    exact w_X9_isReached_J9 ok ox σ h
  · have h := hT5b c5
    refine q_iload_n ok dX9_isReached_4 1 rfl ?_
    refine q_iconst ok dX9_isReached_5 ?_
    obtain ⟨g2, hT4a, hT4b⟩ := h
    refine q_icmp_le (tgt := 19) ok dX9_isReached_6 (by decide) g2 (by unfold inR; decide) (fun c4 => ?_) (fun c4 => ?_)
    · have h := hT4a c4
      refine q_aload_n ok dX9_isReached_19 0 rfl ?_
      refine q_xV (st := []) ok ox cs_X9_254 wt_1246 kC_0 rfl (c_X9_needAnalysis X.2.1 ox.1 Y ok.2.2.2.2.2.2.2.2 h) ⟨rfl, rfl, Nat.le_of_ble_eq_true rfl, Nat.le_of_ble_eq_true rfl⟩ ⟨Nat.le_of_ble_eq_true rfl, Nat.le_of_ble_eq_true rfl⟩ rfl rfl (Nat.le_of_ble_eq_true rfl) dX9_isReached_20 (fun σ1 h => ?_)
      refine q_iload_n ok dX9_isReached_23 1 rfl ?_
      obtain ⟨g3, hT3a, hT3b⟩ := h
      refine q_if_ne (tgt := 52) ok dX9_isReached_24 (by decide) g3 (fun c3 => ?_) (fun c3 => ?_)
      · have h := hT3a c3
        refine q_aload_n ok dX9_isReached_52 0 rfl ?_
        refine q_iload_n ok dX9_isReached_53 2 rfl ?_
        refine q_xV (st := []) ok ox cs_X9_111 wt_821 kC_0 rfl (c_X9_needChoice X.2.1 ox.1 Y ok.2.2.2.2.2.2.2.2 h) ⟨rfl, rfl, Nat.le_of_ble_eq_true rfl, Nat.le_of_ble_eq_true rfl⟩ ⟨Nat.le_of_ble_eq_true rfl, Nat.le_of_ble_eq_true rfl⟩ rfl rfl (Nat.le_of_ble_eq_true rfl) dX9_isReached_54 (fun σ2 h => ?_)
        refine q_aload_n ok dX9_isReached_57 0 rfl ?_
        refine q_getC ok fl_X9_56 kC_0 fC_0_8 dX9_isReached_58 ?_
        refine q_getC ok fl_X9_263 kC_65 fC_65_4 dX9_isReached_61 ?_
        refine q_iload_n ok dX9_isReached_64 2 rfl ?_
        obtain ⟨g4, g5, h⟩ := h
        refine q_lald ok kC_ok kC_67 g4 g5 dX9_isReached_65 ?_
        refine q_lconst ok dX9_isReached_66 0 rfl ?_
        refine q_lcmp ok dX9_isReached_67 ?_
        obtain ⟨g6, hT1a, hT1b⟩ := h
        refine q_if_eq (tgt := 75) ok dX9_isReached_68 (by decide) g6 (fun c1 => ?_) (fun c1 => ?_)
        · have h := hT1a c1
          refine q_iconst ok dX9_isReached_75 ?_
          exact wq_ret (q_zret ok dX9_isReached_76 (by decide) h)
        · have h := hT1b c1
          refine q_iconst ok dX9_isReached_71 ?_
          refine q_goto (tgt := 76) ok dX9_isReached_72 (by decide) ?_
          exact wq_ret (q_zret ok dX9_isReached_76 (by decide) h)
      · have h := hT3b c3
        refine q_aload_n ok dX9_isReached_27 0 rfl ?_
        refine q_iload_n ok dX9_isReached_28 2 rfl ?_
        refine q_xV (st := []) ok ox cs_X9_100 wt_783 kC_0 rfl (c_X9_needNode X.2.1 ox.1 Y ok.2.2.2.2.2.2.2.2 h) ⟨rfl, rfl, Nat.le_of_ble_eq_true rfl, Nat.le_of_ble_eq_true rfl⟩ ⟨Nat.le_of_ble_eq_true rfl, Nat.le_of_ble_eq_true rfl⟩ rfl rfl (Nat.le_of_ble_eq_true rfl) dX9_isReached_29 (fun σ3 h => ?_)
        refine q_aload_n ok dX9_isReached_32 0 rfl ?_
        refine q_getC ok fl_X9_56 kC_0 fC_0_8 dX9_isReached_33 ?_
        refine q_getC ok fl_X9_257 kC_65 fC_65_3 dX9_isReached_36 ?_
        refine q_iload_n ok dX9_isReached_39 2 rfl ?_
        obtain ⟨g7, g8, h⟩ := h
        refine q_lald ok kC_ok kC_66 g7 g8 dX9_isReached_40 ?_
        refine q_lconst ok dX9_isReached_41 0 rfl ?_
        refine q_lcmp ok dX9_isReached_42 ?_
        obtain ⟨g9, hT2a, hT2b⟩ := h
        refine q_if_eq (tgt := 50) ok dX9_isReached_43 (by decide) g9 (fun c2 => ?_) (fun c2 => ?_)
        · have h := hT2a c2
          refine q_iconst ok dX9_isReached_50 ?_
          exact wq_ret (q_zret ok dX9_isReached_51 (by decide) h)
        · have h := hT2b c2
          refine q_iconst ok dX9_isReached_46 ?_
          refine q_goto (tgt := 51) ok dX9_isReached_47 (by decide) ?_
          exact wq_ret (q_zret ok dX9_isReached_51 (by decide) h)
    · have h := hT4b c4
      refine q_sub [] rfl ?_
      exact w_X9_isReached_J9 ok ox σ h)
/-! BranchingStory.lowest(II)I -/
def f_X9_lowest (a0 : Int) (a1 : Int) (σ : St) (Q : St → Int → Prop) (E : String → St → Prop) : Prop :=
  f_X9_needMeter a1 σ (fun σ1 => f_X9_needAnalysis σ1 (fun σ2 => f_X9_needNode a0 σ2 (fun σ3 => 0 ≤ a0 ∧ a0 < 12 ∧ ∀ x1 : Int, x1 = (σ3 66 a0.toNat) → inR (lcmp64 x1 0) ∧ ((¬ (lcmp64 x1 0) = 0 → f_X3_low x1 a1 σ3 (fun σ4 r1 => Q σ4 r1)) ∧ ((lcmp64 x1 0) = 0 → Q σ3 (-1)))) E) E) E
set_option maxRecDepth 100000 in
set_option maxHeartbeats 4000000 in
theorem c_X9_lowest (l : Launch) (hst : l.stackTraces = false) (Y : Cy) (hD : ∀ σ, va_D Y.2.2.2 (wsOf KC Y.2.1 Y.2.2.1 σ)) {a0 : Int} {a1 : Int} {σ : St} {Q : St → Int → Prop} {E : String → St → Prop} (h : f_X9_lowest a0 a1 σ Q E) : Xon l yX9_lowest cX9_lowest 5 (some .int) (rmX 7 111) Y KC σ [.inr (.inr 0), .inl a0, .inl a1] (Qiq Y KC Q) E := xcon_of (lv := [(0, .inr (.inr 0)), (1, .inl a0), (2, .inl a1)]) (by decide) hst hD (Nat.le_of_ble_eq_true rfl) rfl (fun X _ ok ox => by
  have ok : Ok X Y KC cX9_lowest 5 RX9 (rmX 7 111) (some .int) := ok
  unfold f_X9_lowest at h
  refine q_iload_n ok dX9_lowest_0 2 rfl ?_
  refine q_xS (st := []) ok ox cs_X9_176 wt_992 (c_X9_needMeter X.2.1 ox.1 Y ok.2.2.2.2.2.2.2.2 h) ⟨rfl, rfl, Nat.le_of_ble_eq_true rfl, Nat.le_of_ble_eq_true rfl⟩ ⟨Nat.le_of_ble_eq_true rfl, Nat.le_of_ble_eq_true rfl⟩ rfl rfl (Nat.le_of_ble_eq_true rfl) dX9_lowest_1 (fun σ1 h => ?_)
  refine q_aload_n ok dX9_lowest_4 0 rfl ?_
  refine q_xV (st := []) ok ox cs_X9_254 wt_1246 kC_0 rfl (c_X9_needAnalysis X.2.1 ox.1 Y ok.2.2.2.2.2.2.2.2 h) ⟨rfl, rfl, Nat.le_of_ble_eq_true rfl, Nat.le_of_ble_eq_true rfl⟩ ⟨Nat.le_of_ble_eq_true rfl, Nat.le_of_ble_eq_true rfl⟩ rfl rfl (Nat.le_of_ble_eq_true rfl) dX9_lowest_5 (fun σ2 h => ?_)
  refine q_aload_n ok dX9_lowest_8 0 rfl ?_
  refine q_iload_n ok dX9_lowest_9 1 rfl ?_
  refine q_xV (st := []) ok ox cs_X9_100 wt_783 kC_0 rfl (c_X9_needNode X.2.1 ox.1 Y ok.2.2.2.2.2.2.2.2 h) ⟨rfl, rfl, Nat.le_of_ble_eq_true rfl, Nat.le_of_ble_eq_true rfl⟩ ⟨Nat.le_of_ble_eq_true rfl, Nat.le_of_ble_eq_true rfl⟩ rfl rfl (Nat.le_of_ble_eq_true rfl) dX9_lowest_10 (fun σ3 h => ?_)
  refine q_aload_n ok dX9_lowest_13 0 rfl ?_
  refine q_getC ok fl_X9_56 kC_0 fC_0_8 dX9_lowest_14 ?_
  refine q_getC ok fl_X9_257 kC_65 fC_65_3 dX9_lowest_17 ?_
  refine q_iload_n ok dX9_lowest_20 1 rfl ?_
  obtain ⟨g1, g2, h⟩ := h
  refine q_lald ok kC_ok kC_66 g1 g2 dX9_lowest_21 ?_
  refine wq_l (fun x1 ex1 => ?_)
  have h := h x1 ex1
  refine q_lstore_n (lv' := [(3, .inr (.inl x1)), (0, .inr (.inr 0)), (1, .inl a0), (2, .inl a1)]) ok dX9_lowest_22 (by decide) rfl ?_
  refine q_lload_n ok dX9_lowest_23 0 rfl ?_
  refine q_lconst ok dX9_lowest_24 0 rfl ?_
  refine q_lcmp ok dX9_lowest_25 ?_
  obtain ⟨g3, hT1a, hT1b⟩ := h
  refine q_if_ne (tgt := 33) ok dX9_lowest_26 (by decide) g3 (fun c1 => ?_) (fun c1 => ?_)
  · have h := hT1a c1
    refine q_lload_n ok dX9_lowest_33 0 rfl ?_
    refine q_iload_n ok dX9_lowest_34 3 rfl ?_
    refine q_callSI (st := []) ok cs_X9_266 (c_X3_low X.2.1 Y ok.2.2.2.2.2.2.2.2 h) ⟨rfl, rfl, Nat.le_of_ble_eq_true rfl, Nat.le_of_ble_eq_true rfl⟩ rfl rfl (Nat.le_of_ble_eq_true rfl) dX9_lowest_35 (fun σ4 r1 h => ?_)
    exact wq_ret (q_iret ok dX9_lowest_38 h)
  · have h := hT1b c1
    refine q_iconst ok dX9_lowest_29 ?_
    refine q_goto (tgt := 38) ok dX9_lowest_30 (by decide) ?_
    exact wq_ret (q_iret ok dX9_lowest_38 h))
/-! BranchingStory.greatest(II)I -/
def f_X9_greatest (a0 : Int) (a1 : Int) (σ : St) (Q : St → Int → Prop) (E : String → St → Prop) : Prop :=
  f_X9_needMeter a1 σ (fun σ1 => f_X9_needAnalysis σ1 (fun σ2 => f_X9_needNode a0 σ2 (fun σ3 => 0 ≤ a0 ∧ a0 < 12 ∧ ∀ x1 : Int, x1 = (σ3 66 a0.toNat) → inR (lcmp64 x1 0) ∧ ((¬ (lcmp64 x1 0) = 0 → f_X3_high x1 a1 σ3 (fun σ4 r1 => Q σ4 r1)) ∧ ((lcmp64 x1 0) = 0 → Q σ3 (-1)))) E) E) E
set_option maxRecDepth 100000 in
set_option maxHeartbeats 4000000 in
theorem c_X9_greatest (l : Launch) (hst : l.stackTraces = false) (Y : Cy) (hD : ∀ σ, va_D Y.2.2.2 (wsOf KC Y.2.1 Y.2.2.1 σ)) {a0 : Int} {a1 : Int} {σ : St} {Q : St → Int → Prop} {E : String → St → Prop} (h : f_X9_greatest a0 a1 σ Q E) : Xon l yX9_greatest cX9_greatest 5 (some .int) (rmX 7 111) Y KC σ [.inr (.inr 0), .inl a0, .inl a1] (Qiq Y KC Q) E := xcon_of (lv := [(0, .inr (.inr 0)), (1, .inl a0), (2, .inl a1)]) (by decide) hst hD (Nat.le_of_ble_eq_true rfl) rfl (fun X _ ok ox => by
  have ok : Ok X Y KC cX9_greatest 5 RX9 (rmX 7 111) (some .int) := ok
  unfold f_X9_greatest at h
  refine q_iload_n ok dX9_greatest_0 2 rfl ?_
  refine q_xS (st := []) ok ox cs_X9_176 wt_992 (c_X9_needMeter X.2.1 ox.1 Y ok.2.2.2.2.2.2.2.2 h) ⟨rfl, rfl, Nat.le_of_ble_eq_true rfl, Nat.le_of_ble_eq_true rfl⟩ ⟨Nat.le_of_ble_eq_true rfl, Nat.le_of_ble_eq_true rfl⟩ rfl rfl (Nat.le_of_ble_eq_true rfl) dX9_greatest_1 (fun σ1 h => ?_)
  refine q_aload_n ok dX9_greatest_4 0 rfl ?_
  refine q_xV (st := []) ok ox cs_X9_254 wt_1246 kC_0 rfl (c_X9_needAnalysis X.2.1 ox.1 Y ok.2.2.2.2.2.2.2.2 h) ⟨rfl, rfl, Nat.le_of_ble_eq_true rfl, Nat.le_of_ble_eq_true rfl⟩ ⟨Nat.le_of_ble_eq_true rfl, Nat.le_of_ble_eq_true rfl⟩ rfl rfl (Nat.le_of_ble_eq_true rfl) dX9_greatest_5 (fun σ2 h => ?_)
  refine q_aload_n ok dX9_greatest_8 0 rfl ?_
  refine q_iload_n ok dX9_greatest_9 1 rfl ?_
  refine q_xV (st := []) ok ox cs_X9_100 wt_783 kC_0 rfl (c_X9_needNode X.2.1 ox.1 Y ok.2.2.2.2.2.2.2.2 h) ⟨rfl, rfl, Nat.le_of_ble_eq_true rfl, Nat.le_of_ble_eq_true rfl⟩ ⟨Nat.le_of_ble_eq_true rfl, Nat.le_of_ble_eq_true rfl⟩ rfl rfl (Nat.le_of_ble_eq_true rfl) dX9_greatest_10 (fun σ3 h => ?_)
  refine q_aload_n ok dX9_greatest_13 0 rfl ?_
  refine q_getC ok fl_X9_56 kC_0 fC_0_8 dX9_greatest_14 ?_
  refine q_getC ok fl_X9_257 kC_65 fC_65_3 dX9_greatest_17 ?_
  refine q_iload_n ok dX9_greatest_20 1 rfl ?_
  obtain ⟨g1, g2, h⟩ := h
  refine q_lald ok kC_ok kC_66 g1 g2 dX9_greatest_21 ?_
  refine wq_l (fun x1 ex1 => ?_)
  have h := h x1 ex1
  refine q_lstore_n (lv' := [(3, .inr (.inl x1)), (0, .inr (.inr 0)), (1, .inl a0), (2, .inl a1)]) ok dX9_greatest_22 (by decide) rfl ?_
  refine q_lload_n ok dX9_greatest_23 0 rfl ?_
  refine q_lconst ok dX9_greatest_24 0 rfl ?_
  refine q_lcmp ok dX9_greatest_25 ?_
  obtain ⟨g3, hT1a, hT1b⟩ := h
  refine q_if_ne (tgt := 33) ok dX9_greatest_26 (by decide) g3 (fun c1 => ?_) (fun c1 => ?_)
  · have h := hT1a c1
    refine q_lload_n ok dX9_greatest_33 0 rfl ?_
    refine q_iload_n ok dX9_greatest_34 3 rfl ?_
    refine q_callSI (st := []) ok cs_X9_270 (c_X3_high X.2.1 Y ok.2.2.2.2.2.2.2.2 h) ⟨rfl, rfl, Nat.le_of_ble_eq_true rfl, Nat.le_of_ble_eq_true rfl⟩ rfl rfl (Nat.le_of_ble_eq_true rfl) dX9_greatest_35 (fun σ4 r1 h => ?_)
    exact wq_ret (q_iret ok dX9_greatest_38 h)
  · have h := hT1b c1
    refine q_iconst ok dX9_greatest_29 ?_
    refine q_goto (tgt := 38) ok dX9_greatest_30 (by decide) ?_
    exact wq_ret (q_iret ok dX9_greatest_38 h))
/-! BranchingStory.values(II)I -/
def f_X9_values (a0 : Int) (a1 : Int) (σ : St) (Q : St → Int → Prop) (E : String → St → Prop) : Prop :=
  f_X9_needFlag a1 σ (fun σ1 => f_X9_needAnalysis σ1 (fun σ2 => f_X9_needNode a0 σ2 (fun σ3 => 0 ≤ a0 ∧ a0 < 12 ∧ f_X3_flagSet (σ3 66 a0.toNat) a1 σ3 (fun σ4 r1 => Q σ4 r1)) E) E) E
set_option maxRecDepth 100000 in
set_option maxHeartbeats 4000000 in
theorem c_X9_values (l : Launch) (hst : l.stackTraces = false) (Y : Cy) (hD : ∀ σ, va_D Y.2.2.2 (wsOf KC Y.2.1 Y.2.2.1 σ)) {a0 : Int} {a1 : Int} {σ : St} {Q : St → Int → Prop} {E : String → St → Prop} (h : f_X9_values a0 a1 σ Q E) : Xon l yX9_values cX9_values 3 (some .int) (rmX 7 111) Y KC σ [.inr (.inr 0), .inl a0, .inl a1] (Qiq Y KC Q) E := xcon_of (lv := [(0, .inr (.inr 0)), (1, .inl a0), (2, .inl a1)]) (by decide) hst hD (Nat.le_of_ble_eq_true rfl) rfl (fun X _ ok ox => by
  have ok : Ok X Y KC cX9_values 3 RX9 (rmX 7 111) (some .int) := ok
  unfold f_X9_values at h
  refine q_iload_n ok dX9_values_0 2 rfl ?_
  refine q_xS (st := []) ok ox cs_X9_170 wt_981 (c_X9_needFlag X.2.1 ox.1 Y ok.2.2.2.2.2.2.2.2 h) ⟨rfl, rfl, Nat.le_of_ble_eq_true rfl, Nat.le_of_ble_eq_true rfl⟩ ⟨Nat.le_of_ble_eq_true rfl, Nat.le_of_ble_eq_true rfl⟩ rfl rfl (Nat.le_of_ble_eq_true rfl) dX9_values_1 (fun σ1 h => ?_)
  refine q_aload_n ok dX9_values_4 0 rfl ?_
  refine q_xV (st := []) ok ox cs_X9_254 wt_1246 kC_0 rfl (c_X9_needAnalysis X.2.1 ox.1 Y ok.2.2.2.2.2.2.2.2 h) ⟨rfl, rfl, Nat.le_of_ble_eq_true rfl, Nat.le_of_ble_eq_true rfl⟩ ⟨Nat.le_of_ble_eq_true rfl, Nat.le_of_ble_eq_true rfl⟩ rfl rfl (Nat.le_of_ble_eq_true rfl) dX9_values_5 (fun σ2 h => ?_)
  refine q_aload_n ok dX9_values_8 0 rfl ?_
  refine q_iload_n ok dX9_values_9 1 rfl ?_
  refine q_xV (st := []) ok ox cs_X9_100 wt_783 kC_0 rfl (c_X9_needNode X.2.1 ox.1 Y ok.2.2.2.2.2.2.2.2 h) ⟨rfl, rfl, Nat.le_of_ble_eq_true rfl, Nat.le_of_ble_eq_true rfl⟩ ⟨Nat.le_of_ble_eq_true rfl, Nat.le_of_ble_eq_true rfl⟩ rfl rfl (Nat.le_of_ble_eq_true rfl) dX9_values_10 (fun σ3 h => ?_)
  refine q_aload_n ok dX9_values_13 0 rfl ?_
  refine q_getC ok fl_X9_56 kC_0 fC_0_8 dX9_values_14 ?_
  refine q_getC ok fl_X9_257 kC_65 fC_65_3 dX9_values_17 ?_
  refine q_iload_n ok dX9_values_20 1 rfl ?_
  obtain ⟨g1, g2, h⟩ := h
  refine q_lald ok kC_ok kC_66 g1 g2 dX9_values_21 ?_
  refine q_iload_n ok dX9_values_22 2 rfl ?_
  refine q_callSI (st := []) ok cs_X9_273 (c_X3_flagSet X.2.1 Y ok.2.2.2.2.2.2.2.2 h) ⟨rfl, rfl, Nat.le_of_ble_eq_true rfl, Nat.le_of_ble_eq_true rfl⟩ rfl rfl (Nat.le_of_ble_eq_true rfl) dX9_values_23 (fun σ4 r1 h => ?_)
  exact wq_ret (q_iret ok dX9_values_26 h))
/-! BranchingStory.hubs(I)I -/
def f_X9_hubs (a0 : Int) (σ : St) (Q : St → Int → Prop) (E : String → St → Prop) : Prop :=
  f_X9_needAnalysis σ (fun σ1 => f_X9_needNode a0 σ1 (fun σ2 => 0 ≤ a0 ∧ a0 < 12 ∧ f_X3_hubSet (σ2 66 a0.toNat) σ2 (fun σ3 r1 => Q σ3 r1)) E) E
set_option maxRecDepth 100000 in
set_option maxHeartbeats 4000000 in
theorem c_X9_hubs (l : Launch) (hst : l.stackTraces = false) (Y : Cy) (hD : ∀ σ, va_D Y.2.2.2 (wsOf KC Y.2.1 Y.2.2.1 σ)) {a0 : Int} {σ : St} {Q : St → Int → Prop} {E : String → St → Prop} (h : f_X9_hubs a0 σ Q E) : Xon l yX9_hubs cX9_hubs 2 (some .int) (rmX 7 111) Y KC σ [.inr (.inr 0), .inl a0] (Qiq Y KC Q) E := xcon_of (lv := [(0, .inr (.inr 0)), (1, .inl a0)]) (by decide) hst hD (Nat.le_of_ble_eq_true rfl) rfl (fun X _ ok ox => by
  have ok : Ok X Y KC cX9_hubs 2 RX9 (rmX 7 111) (some .int) := ok
  unfold f_X9_hubs at h
  refine q_aload_n ok dX9_hubs_0 0 rfl ?_
  refine q_xV (st := []) ok ox cs_X9_254 wt_1246 kC_0 rfl (c_X9_needAnalysis X.2.1 ox.1 Y ok.2.2.2.2.2.2.2.2 h) ⟨rfl, rfl, Nat.le_of_ble_eq_true rfl, Nat.le_of_ble_eq_true rfl⟩ ⟨Nat.le_of_ble_eq_true rfl, Nat.le_of_ble_eq_true rfl⟩ rfl rfl (Nat.le_of_ble_eq_true rfl) dX9_hubs_1 (fun σ1 h => ?_)
  refine q_aload_n ok dX9_hubs_4 0 rfl ?_
  refine q_iload_n ok dX9_hubs_5 1 rfl ?_
  refine q_xV (st := []) ok ox cs_X9_100 wt_783 kC_0 rfl (c_X9_needNode X.2.1 ox.1 Y ok.2.2.2.2.2.2.2.2 h) ⟨rfl, rfl, Nat.le_of_ble_eq_true rfl, Nat.le_of_ble_eq_true rfl⟩ ⟨Nat.le_of_ble_eq_true rfl, Nat.le_of_ble_eq_true rfl⟩ rfl rfl (Nat.le_of_ble_eq_true rfl) dX9_hubs_6 (fun σ2 h => ?_)
  refine q_aload_n ok dX9_hubs_9 0 rfl ?_
  refine q_getC ok fl_X9_56 kC_0 fC_0_8 dX9_hubs_10 ?_
  refine q_getC ok fl_X9_257 kC_65 fC_65_3 dX9_hubs_13 ?_
  refine q_iload_n ok dX9_hubs_16 1 rfl ?_
  obtain ⟨g1, g2, h⟩ := h
  refine q_lald ok kC_ok kC_66 g1 g2 dX9_hubs_17 ?_
  refine q_callSI (st := []) ok cs_X9_276 (c_X3_hubSet X.2.1 Y ok.2.2.2.2.2.2.2.2 h) ⟨rfl, rfl, Nat.le_of_ble_eq_true rfl, Nat.le_of_ble_eq_true rfl⟩ rfl rfl (Nat.le_of_ble_eq_true rfl) dX9_hubs_18 (fun σ3 r1 h => ?_)
  exact wq_ret (q_iret ok dX9_hubs_21 h))
/-! BranchingStory.verdict(I)I -/
def f_X9_verdict_J25 (Q : St → Int → Prop) (E : String → St → Prop) (σ : St) : Prop :=
  E IOE σ
def f_X9_verdict (a0 : Int) (σ : St) (Q : St → Int → Prop) (E : String → St → Prop) : Prop :=
  f_X9_needAnalysis σ (fun σ1 => inR a0 ∧ ((a0 < 0 → f_X9_verdict_J25 Q E σ1) ∧ (¬ a0 < 0 → isS ((σ1 0 2).toNat) ∧ inR a0 ∧ inR (σ1 ((σ1 0 2).toNat) 18) ∧ (((σ1 ((σ1 0 2).toNat) 18) ≤ a0 → f_X9_verdict_J25 Q E σ1) ∧ (¬ (σ1 ((σ1 0 2).toNat) 18) ≤ a0 → inR a0 ∧ ((a0 < 16 → 0 ≤ a0 ∧ a0 < 16 ∧ Q σ1 (σ1 71 a0.toNat)) ∧ (¬ a0 < 16 → f_X9_verdict_J25 Q E σ1))))))) E
set_option maxRecDepth 100000 in
set_option maxHeartbeats 4000000 in
theorem w_X9_verdict_J25 {X : Cx} {Y : Cy} {Q : St → Int → Prop} {E : String → St → Prop} (ok : Ok X Y KC cX9_verdict 2 RX9 (rmX 7 110) (some .int)) (ox : Ox X Y) (σ : St) (h : f_X9_verdict_J25 Q E σ ) : Wq X Y KC 2 (QX X Y (Qiq Y KC Q) (XCq Y KC E)) σ 25 [] [] := by
  unfold f_X9_verdict_J25 at h
  exact q_throwW (text := "there is no such test") ok ox (by decide) wt_787 wt_18 (by decide) ox.2.2.2.1.2.2 at_f226 at_g226 dX9_verdict_25 dX9_verdict_28 dX9_verdict_29 dX9_verdict_32 dX9_verdict_35 ⟨Nat.le_of_ble_eq_true rfl, Nat.le_of_ble_eq_true rfl, Nat.le_of_ble_eq_true rfl, Nat.le_of_ble_eq_true rfl⟩ h
set_option maxRecDepth 100000 in
set_option maxHeartbeats 4000000 in
theorem c_X9_verdict (l : Launch) (hst : l.stackTraces = false) (Y : Cy) (hD : ∀ σ, va_D Y.2.2.2 (wsOf KC Y.2.1 Y.2.2.1 σ)) {a0 : Int} {σ : St} {Q : St → Int → Prop} {E : String → St → Prop} (h : f_X9_verdict a0 σ Q E) : Xon l yX9_verdict cX9_verdict 2 (some .int) (rmX 7 110) Y KC σ [.inr (.inr 0), .inl a0] (Qiq Y KC Q) E := xcon_of (lv := [(0, .inr (.inr 0)), (1, .inl a0)]) (by decide) hst hD (Nat.le_of_ble_eq_true rfl) rfl (fun X _ ok ox => by
  have ok : Ok X Y KC cX9_verdict 2 RX9 (rmX 7 110) (some .int) := ok
  unfold f_X9_verdict at h
  refine q_aload_n ok dX9_verdict_0 0 rfl ?_
  refine q_xV (st := []) ok ox cs_X9_254 wt_1246 kC_0 rfl (c_X9_needAnalysis X.2.1 ox.1 Y ok.2.2.2.2.2.2.2.2 h) ⟨rfl, rfl, Nat.le_of_ble_eq_true rfl, Nat.le_of_ble_eq_true rfl⟩ ⟨Nat.le_of_ble_eq_true rfl, Nat.le_of_ble_eq_true rfl⟩ rfl rfl (Nat.le_of_ble_eq_true rfl) dX9_verdict_1 (fun σ1 h => ?_)
  refine q_iload_n ok dX9_verdict_4 1 rfl ?_
  obtain ⟨g1, hT3a, hT3b⟩ := h
  refine q_if_lt (tgt := 25) ok dX9_verdict_5 (by decide) g1 (fun c3 => ?_) (fun c3 => ?_)
  · have h := hT3a c3
    refine q_sub [] rfl ?_
    exact w_X9_verdict_J25 ok ox σ1 h
  · have h := hT3b c3
    refine q_iload_n ok dX9_verdict_8 1 rfl ?_
    refine q_aload_n ok dX9_verdict_9 0 rfl ?_
    refine q_getR ok fl_X9_16 kC_0 fC_0_2 dX9_verdict_10 ?_
    obtain ⟨g2, h⟩ := h
    refine q_getI ok fl_X9_95 (kX7_0 g2) (fIX7_18 ((σ1 0 2).toNat)) dX9_verdict_13 ?_
    obtain ⟨g3, g4, hT2a, hT2b⟩ := h
    refine q_icmp_ge (tgt := 25) ok dX9_verdict_16 (by decide) g3 g4 (fun c2 => ?_) (fun c2 => ?_)
    · have h := hT2a c2
      refine q_sub [] rfl ?_
      exact w_X9_verdict_J25 ok ox σ1 h
    · have h := hT2b c2
      refine q_iload_n ok dX9_verdict_19 1 rfl ?_
      refine q_bipush ok dX9_verdict_20 rfl ?_
      obtain ⟨g5, hT1a, hT1b⟩ := h
      refine q_icmp_lt (tgt := 36) ok dX9_verdict_22 (by decide) g5 (by unfold inR; decide) (fun c1 => ?_) (fun c1 => ?_)
      · have h := hT1a c1
        refine q_aload_n ok dX9_verdict_36 0 rfl ?_
        refine q_getC ok fl_X9_56 kC_0 fC_0_8 dX9_verdict_37 ?_
        refine q_getC ok fl_X9_282 kC_65 fC_65_8 dX9_verdict_40 ?_
        refine q_iload_n ok dX9_verdict_43 1 rfl ?_
        obtain ⟨g6, g7, h⟩ := h
        refine q_iald ok kC_ok kC_71 g6 g7 dX9_verdict_44 ?_
        exact wq_ret (q_iret ok dX9_verdict_45 h)
      · have h := hT1b c1
        refine q_sub [] rfl ?_
        exact w_X9_verdict_J25 ok ox σ1 h)
/-! BranchingStory.possible(I)I -/
def f_X9_possible_J9 (Q : St → Int → Prop) (E : String → St → Prop) (σ : St) : Prop :=
  E IAE σ
def f_X9_possible (a0 : Int) (σ : St) (Q : St → Int → Prop) (E : String → St → Prop) : Prop :=
  inR a0 ∧ ((a0 < 0 → f_X9_possible_J9 Q E σ) ∧ (¬ a0 < 0 → inR a0 ∧ ((a0 ≤ 1 → f_X9_needAnalysis σ (fun σ1 => inR a0 ∧ ((¬ a0 = 0 → Q σ1 (σ1 65 10)) ∧ (a0 = 0 → Q σ1 (σ1 65 9)))) E) ∧ (¬ a0 ≤ 1 → f_X9_possible_J9 Q E σ))))
set_option maxRecDepth 100000 in
set_option maxHeartbeats 4000000 in
theorem w_X9_possible_J9 {X : Cx} {Y : Cy} {Q : St → Int → Prop} {E : String → St → Prop} (ok : Ok X Y KC cX9_possible 2 RX9 (rmX 7 110) (some .int)) (ox : Ox X Y) (σ : St) (h : f_X9_possible_J9 Q E σ ) : Wq X Y KC 2 (QX X Y (Qiq Y KC Q) (XCq Y KC E)) σ 9 [] [] := by
  unfold f_X9_possible_J9 at h
  exact q_throw (text := "what is out of range") ok ox (by decide) wt_650 wt_14 (by decide) ox.2.2.2.1.2.1 at_f64 at_g64 dX9_possible_9 dX9_possible_12 dX9_possible_13 dX9_possible_15 dX9_possible_18 ⟨Nat.le_of_ble_eq_true rfl, Nat.le_of_ble_eq_true rfl, Nat.le_of_ble_eq_true rfl, Nat.le_of_ble_eq_true rfl⟩ h
set_option maxRecDepth 100000 in
set_option maxHeartbeats 4000000 in
theorem c_X9_possible (l : Launch) (hst : l.stackTraces = false) (Y : Cy) (hD : ∀ σ, va_D Y.2.2.2 (wsOf KC Y.2.1 Y.2.2.1 σ)) {a0 : Int} {σ : St} {Q : St → Int → Prop} {E : String → St → Prop} (h : f_X9_possible a0 σ Q E) : Xon l yX9_possible cX9_possible 2 (some .int) (rmX 7 110) Y KC σ [.inr (.inr 0), .inl a0] (Qiq Y KC Q) E := xcon_of (lv := [(0, .inr (.inr 0)), (1, .inl a0)]) (by decide) hst hD (Nat.le_of_ble_eq_true rfl) rfl (fun X _ ok ox => by
  have ok : Ok X Y KC cX9_possible 2 RX9 (rmX 7 110) (some .int) := ok
  unfold f_X9_possible at h
  refine q_iload_n ok dX9_possible_0 1 rfl ?_
  obtain ⟨g1, hT3a, hT3b⟩ := h
  refine q_if_lt (tgt := 9) ok dX9_possible_1 (by decide) g1 (fun c3 => ?_) (fun c3 => ?_)
  · have h := hT3a c3
    refine q_sub [] rfl ?_
    exact w_X9_possible_J9 ok ox σ h
  · have h := hT3b c3
    refine q_iload_n ok dX9_possible_4 1 rfl ?_
    refine q_iconst ok dX9_possible_5 ?_
    obtain ⟨g2, hT2a, hT2b⟩ := h
    refine q_icmp_le (tgt := 19) ok dX9_possible_6 (by decide) g2 (by unfold inR; decide) (fun c2 => ?_) (fun c2 => ?_)
    · have h := hT2a c2
      refine q_aload_n ok dX9_possible_19 0 rfl ?_
      refine q_xV (st := []) ok ox cs_X9_254 wt_1246 kC_0 rfl (c_X9_needAnalysis X.2.1 ox.1 Y ok.2.2.2.2.2.2.2.2 h) ⟨rfl, rfl, Nat.le_of_ble_eq_true rfl, Nat.le_of_ble_eq_true rfl⟩ ⟨Nat.le_of_ble_eq_true rfl, Nat.le_of_ble_eq_true rfl⟩ rfl rfl (Nat.le_of_ble_eq_true rfl) dX9_possible_20 (fun σ1 h => ?_)
      refine q_iload_n ok dX9_possible_23 1 rfl ?_
      obtain ⟨g3, hT1a, hT1b⟩ := h
      refine q_if_ne (tgt := 37) ok dX9_possible_24 (by decide) g3 (fun c1 => ?_) (fun c1 => ?_)
      · have h := hT1a c1
        refine q_aload_n ok dX9_possible_37 0 rfl ?_
        refine q_getC ok fl_X9_56 kC_0 fC_0_8 dX9_possible_38 ?_
        refine q_getI ok fl_X9_288 kC_65 fC_65_10 dX9_possible_41 ?_
        exact wq_ret (q_iret ok dX9_possible_44 h)
      · have h := hT1b c1
        refine q_aload_n ok dX9_possible_27 0 rfl ?_
        refine q_getC ok fl_X9_56 kC_0 fC_0_8 dX9_possible_28 ?_
        refine q_getI ok fl_X9_285 kC_65 fC_65_9 dX9_possible_31 ?_
        refine q_goto (tgt := 44) ok dX9_possible_34 (by decide) ?_
        exact wq_ret (q_iret ok dX9_possible_44 h)
    · have h := hT2b c2
      refine q_sub [] rfl ?_
      exact w_X9_possible_J9 ok ox σ h)
