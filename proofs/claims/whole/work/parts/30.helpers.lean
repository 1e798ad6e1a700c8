theorem dL_type_0 : decode cL_type 0 = .ok (.aload_n 2, 1) := by decide +kernel
theorem dL_type_1 : decode cL_type 1 = .ok (.iconst 0, 1) := by decide +kernel
theorem dL_type_2 : decode cL_type 2 = .ok (.aload_n 0, 1) := by decide +kernel
theorem dL_type_3 : decode cL_type 3 = .ok (.iload_n 1, 1) := by decide +kernel
theorem dL_type_4 : decode cL_type 4 = .ok (.invokevirtual 7, 3) := by decide +kernel
theorem dL_type_7 : decode cL_type 7 = .ok (.i2l, 1) := by decide +kernel
theorem dL_type_8 : decode cL_type 8 = .ok (.lastore, 1) := by decide +kernel
theorem dL_type_9 : decode cL_type 9 = .ok (.goto 9, 3) := by decide +kernel
theorem dL_type_12 : decode cL_type 12 = .ok (.astore_n 3, 1) := by decide +kernel
theorem dL_type_13 : decode cL_type 13 = .ok (.iconst 1, 1) := by decide +kernel
theorem dL_type_14 : decode cL_type 14 = .ok (.ireturn, 1) := by decide +kernel
theorem dL_type_15 : decode cL_type 15 = .ok (.astore_n 3, 1) := by decide +kernel
theorem dL_type_16 : decode cL_type 16 = .ok (.iconst 2, 1) := by decide +kernel
theorem dL_type_17 : decode cL_type 17 = .ok (.ireturn, 1) := by decide +kernel
theorem dL_type_18 : decode cL_type 18 = .ok (.iconst 0, 1) := by decide +kernel
theorem dL_type_19 : decode cL_type 19 = .ok (.ireturn, 1) := by decide +kernel
theorem dL_build_0 : decode cL_build 0 = .ok (.aload_n 1, 1) := by decide +kernel
theorem dL_build_1 : decode cL_build 1 = .ok (.iconst 0, 1) := by decide +kernel
theorem dL_build_2 : decode cL_build 2 = .ok (.aload_n 0, 1) := by decide +kernel
theorem dL_build_3 : decode cL_build 3 = .ok (.invokevirtual 17, 3) := by decide +kernel
theorem dL_build_6 : decode cL_build 6 = .ok (.i2l, 1) := by decide +kernel
theorem dL_build_7 : decode cL_build 7 = .ok (.lastore, 1) := by decide +kernel
theorem dL_build_8 : decode cL_build 8 = .ok (.goto 6, 3) := by decide +kernel
theorem dL_build_11 : decode cL_build 11 = .ok (.astore_n 2, 1) := by decide +kernel
theorem dL_build_12 : decode cL_build 12 = .ok (.iconst 1, 1) := by decide +kernel
theorem dL_build_13 : decode cL_build 13 = .ok (.ireturn, 1) := by decide +kernel
theorem dL_build_14 : decode cL_build 14 = .ok (.iconst 0, 1) := by decide +kernel
theorem dL_build_15 : decode cL_build 15 = .ok (.ireturn, 1) := by decide +kernel
theorem dL_count_0 : decode cL_count 0 = .ok (.aload_n 2, 1) := by decide +kernel
theorem dL_count_1 : decode cL_count 1 = .ok (.iconst 0, 1) := by decide +kernel
theorem dL_count_2 : decode cL_count 2 = .ok (.aload_n 0, 1) := by decide +kernel
theorem dL_count_3 : decode cL_count 3 = .ok (.iload_n 1, 1) := by decide +kernel
theorem dL_count_4 : decode cL_count 4 = .ok (.invokevirtual 21, 3) := by decide +kernel
theorem dL_count_7 : decode cL_count 7 = .ok (.i2l, 1) := by decide +kernel
theorem dL_count_8 : decode cL_count 8 = .ok (.lastore, 1) := by decide +kernel
theorem dL_count_9 : decode cL_count 9 = .ok (.goto 6, 3) := by decide +kernel
theorem dL_count_12 : decode cL_count 12 = .ok (.astore_n 3, 1) := by decide +kernel
theorem dL_count_13 : decode cL_count 13 = .ok (.iconst 1, 1) := by decide +kernel
theorem dL_count_14 : decode cL_count 14 = .ok (.ireturn, 1) := by decide +kernel
theorem dL_count_15 : decode cL_count 15 = .ok (.iconst 0, 1) := by decide +kernel
theorem dL_count_16 : decode cL_count 16 = .ok (.ireturn, 1) := by decide +kernel
theorem dL_name_0 : decode cL_name 0 = .ok (.aload_n 2, 1) := by decide +kernel
theorem dL_name_1 : decode cL_name 1 = .ok (.iconst 0, 1) := by decide +kernel
theorem dL_name_2 : decode cL_name 2 = .ok (.aload_n 0, 1) := by decide +kernel
theorem dL_name_3 : decode cL_name 3 = .ok (.iload_n 1, 1) := by decide +kernel
theorem dL_name_4 : decode cL_name 4 = .ok (.invokevirtual 24, 3) := by decide +kernel
theorem dL_name_7 : decode cL_name 7 = .ok (.i2l, 1) := by decide +kernel
theorem dL_name_8 : decode cL_name 8 = .ok (.lastore, 1) := by decide +kernel
theorem dL_name_9 : decode cL_name 9 = .ok (.goto 6, 3) := by decide +kernel
theorem dL_name_12 : decode cL_name 12 = .ok (.astore_n 3, 1) := by decide +kernel
theorem dL_name_13 : decode cL_name 13 = .ok (.iconst 1, 1) := by decide +kernel
theorem dL_name_14 : decode cL_name 14 = .ok (.ireturn, 1) := by decide +kernel
theorem dL_name_15 : decode cL_name 15 = .ok (.iconst 0, 1) := by decide +kernel
theorem dL_name_16 : decode cL_name 16 = .ok (.ireturn, 1) := by decide +kernel
theorem dL_isHub_0 : decode cL_isHub 0 = .ok (.aload_n 2, 1) := by decide +kernel
theorem dL_isHub_1 : decode cL_isHub 1 = .ok (.iconst 0, 1) := by decide +kernel
theorem dL_isHub_2 : decode cL_isHub 2 = .ok (.aload_n 0, 1) := by decide +kernel
theorem dL_isHub_3 : decode cL_isHub 3 = .ok (.iload_n 1, 1) := by decide +kernel
theorem dL_isHub_4 : decode cL_isHub 4 = .ok (.invokevirtual 29, 3) := by decide +kernel
theorem dL_isHub_7 : decode cL_isHub 7 = .ok (.ifCond .eq 7, 3) := by decide +kernel
theorem dL_isHub_10 : decode cL_isHub 10 = .ok (.lconst 1, 1) := by decide +kernel
theorem dL_isHub_11 : decode cL_isHub 11 = .ok (.goto 4, 3) := by decide +kernel
theorem dL_isHub_14 : decode cL_isHub 14 = .ok (.lconst 0, 1) := by decide +kernel
theorem dL_isHub_15 : decode cL_isHub 15 = .ok (.lastore, 1) := by decide +kernel
theorem dL_isHub_16 : decode cL_isHub 16 = .ok (.goto 6, 3) := by decide +kernel
theorem dL_isHub_19 : decode cL_isHub 19 = .ok (.astore_n 3, 1) := by decide +kernel
theorem dL_isHub_20 : decode cL_isHub 20 = .ok (.iconst 1, 1) := by decide +kernel
theorem dL_isHub_21 : decode cL_isHub 21 = .ok (.ireturn, 1) := by decide +kernel
theorem dL_isHub_22 : decode cL_isHub 22 = .ok (.iconst 0, 1) := by decide +kernel
theorem dL_isHub_23 : decode cL_isHub 23 = .ok (.ireturn, 1) := by decide +kernel
theorem dL_label_0 : decode cL_label 0 = .ok (.aload_n 2, 1) := by decide +kernel
theorem dL_label_1 : decode cL_label 1 = .ok (.iconst 0, 1) := by decide +kernel
theorem dL_label_2 : decode cL_label 2 = .ok (.aload_n 0, 1) := by decide +kernel
theorem dL_label_3 : decode cL_label 3 = .ok (.iload_n 1, 1) := by decide +kernel
theorem dL_label_4 : decode cL_label 4 = .ok (.invokevirtual 33, 3) := by decide +kernel
theorem dL_label_7 : decode cL_label 7 = .ok (.i2l, 1) := by decide +kernel
theorem dL_label_8 : decode cL_label 8 = .ok (.lastore, 1) := by decide +kernel
theorem dL_label_9 : decode cL_label 9 = .ok (.goto 6, 3) := by decide +kernel
theorem dL_label_12 : decode cL_label 12 = .ok (.astore_n 3, 1) := by decide +kernel
theorem dL_label_13 : decode cL_label 13 = .ok (.iconst 1, 1) := by decide +kernel
theorem dL_label_14 : decode cL_label 14 = .ok (.ireturn, 1) := by decide +kernel
theorem dL_label_15 : decode cL_label 15 = .ok (.iconst 0, 1) := by decide +kernel
theorem dL_label_16 : decode cL_label 16 = .ok (.ireturn, 1) := by decide +kernel
theorem dL_nodeOf_0 : decode cL_nodeOf 0 = .ok (.aload_n 2, 1) := by decide +kernel
theorem dL_nodeOf_1 : decode cL_nodeOf 1 = .ok (.iconst 0, 1) := by decide +kernel
theorem dL_nodeOf_2 : decode cL_nodeOf 2 = .ok (.aload_n 0, 1) := by decide +kernel
theorem dL_nodeOf_3 : decode cL_nodeOf 3 = .ok (.iload_n 1, 1) := by decide +kernel
theorem dL_nodeOf_4 : decode cL_nodeOf 4 = .ok (.invokevirtual 36, 3) := by decide +kernel
theorem dL_nodeOf_7 : decode cL_nodeOf 7 = .ok (.i2l, 1) := by decide +kernel
theorem dL_nodeOf_8 : decode cL_nodeOf 8 = .ok (.lastore, 1) := by decide +kernel
theorem dL_nodeOf_9 : decode cL_nodeOf 9 = .ok (.goto 6, 3) := by decide +kernel
theorem dL_nodeOf_12 : decode cL_nodeOf 12 = .ok (.astore_n 3, 1) := by decide +kernel
theorem dL_nodeOf_13 : decode cL_nodeOf 13 = .ok (.iconst 1, 1) := by decide +kernel
theorem dL_nodeOf_14 : decode cL_nodeOf 14 = .ok (.ireturn, 1) := by decide +kernel
theorem dL_nodeOf_15 : decode cL_nodeOf 15 = .ok (.iconst 0, 1) := by decide +kernel
theorem dL_nodeOf_16 : decode cL_nodeOf 16 = .ok (.ireturn, 1) := by decide +kernel
theorem dL_start_0 : decode cL_start 0 = .ok (.aload_n 1, 1) := by decide +kernel
theorem dL_start_1 : decode cL_start 1 = .ok (.iconst 0, 1) := by decide +kernel
theorem dL_start_2 : decode cL_start 2 = .ok (.aload_n 0, 1) := by decide +kernel
theorem dL_start_3 : decode cL_start 3 = .ok (.invokevirtual 39, 3) := by decide +kernel
theorem dL_start_6 : decode cL_start 6 = .ok (.i2l, 1) := by decide +kernel
theorem dL_start_7 : decode cL_start 7 = .ok (.lastore, 1) := by decide +kernel
theorem dL_start_8 : decode cL_start 8 = .ok (.goto 6, 3) := by decide +kernel
theorem dL_start_11 : decode cL_start 11 = .ok (.astore_n 2, 1) := by decide +kernel
theorem dL_start_12 : decode cL_start 12 = .ok (.iconst 1, 1) := by decide +kernel
theorem dL_start_13 : decode cL_start 13 = .ok (.ireturn, 1) := by decide +kernel
theorem dL_start_14 : decode cL_start 14 = .ok (.iconst 0, 1) := by decide +kernel
theorem dL_start_15 : decode cL_start 15 = .ok (.ireturn, 1) := by decide +kernel
theorem dL_choose_0 : decode cL_choose 0 = .ok (.aload_n 2, 1) := by decide +kernel
theorem dL_choose_1 : decode cL_choose 1 = .ok (.iconst 0, 1) := by decide +kernel
theorem dL_choose_2 : decode cL_choose 2 = .ok (.aload_n 0, 1) := by decide +kernel
theorem dL_choose_3 : decode cL_choose 3 = .ok (.iload_n 1, 1) := by decide +kernel
theorem dL_choose_4 : decode cL_choose 4 = .ok (.invokevirtual 42, 3) := by decide +kernel
theorem dL_choose_7 : decode cL_choose 7 = .ok (.i2l, 1) := by decide +kernel
theorem dL_choose_8 : decode cL_choose 8 = .ok (.lastore, 1) := by decide +kernel
theorem dL_choose_9 : decode cL_choose 9 = .ok (.goto 9, 3) := by decide +kernel
theorem dL_choose_12 : decode cL_choose 12 = .ok (.astore_n 3, 1) := by decide +kernel
theorem dL_choose_13 : decode cL_choose 13 = .ok (.iconst 1, 1) := by decide +kernel
theorem dL_choose_14 : decode cL_choose 14 = .ok (.ireturn, 1) := by decide +kernel
theorem dL_choose_15 : decode cL_choose 15 = .ok (.astore_n 3, 1) := by decide +kernel
theorem dL_choose_16 : decode cL_choose 16 = .ok (.iconst 2, 1) := by decide +kernel
theorem dL_choose_17 : decode cL_choose 17 = .ok (.ireturn, 1) := by decide +kernel
theorem dL_choose_18 : decode cL_choose 18 = .ok (.iconst 0, 1) := by decide +kernel
theorem dL_choose_19 : decode cL_choose 19 = .ok (.ireturn, 1) := by decide +kernel
theorem dL_back_0 : decode cL_back 0 = .ok (.aload_n 1, 1) := by decide +kernel
theorem dL_back_1 : decode cL_back 1 = .ok (.iconst 0, 1) := by decide +kernel
theorem dL_back_2 : decode cL_back 2 = .ok (.aload_n 0, 1) := by decide +kernel
theorem dL_back_3 : decode cL_back 3 = .ok (.invokevirtual 45, 3) := by decide +kernel
theorem dL_back_6 : decode cL_back 6 = .ok (.i2l, 1) := by decide +kernel
theorem dL_back_7 : decode cL_back 7 = .ok (.lastore, 1) := by decide +kernel
theorem dL_back_8 : decode cL_back 8 = .ok (.goto 6, 3) := by decide +kernel
theorem dL_back_11 : decode cL_back 11 = .ok (.astore_n 2, 1) := by decide +kernel
theorem dL_back_12 : decode cL_back 12 = .ok (.iconst 1, 1) := by decide +kernel
theorem dL_back_13 : decode cL_back 13 = .ok (.ireturn, 1) := by decide +kernel
theorem dL_back_14 : decode cL_back 14 = .ok (.iconst 0, 1) := by decide +kernel
theorem dL_back_15 : decode cL_back 15 = .ok (.ireturn, 1) := by decide +kernel
theorem dL_choice_0 : decode cL_choice 0 = .ok (.aload_n 2, 1) := by decide +kernel
theorem dL_choice_1 : decode cL_choice 1 = .ok (.iconst 0, 1) := by decide +kernel
theorem dL_choice_2 : decode cL_choice 2 = .ok (.aload_n 0, 1) := by decide +kernel
theorem dL_choice_3 : decode cL_choice 3 = .ok (.iload_n 1, 1) := by decide +kernel
theorem dL_choice_4 : decode cL_choice 4 = .ok (.invokevirtual 48, 3) := by decide +kernel
theorem dL_choice_7 : decode cL_choice 7 = .ok (.i2l, 1) := by decide +kernel
theorem dL_choice_8 : decode cL_choice 8 = .ok (.lastore, 1) := by decide +kernel
theorem dL_choice_9 : decode cL_choice 9 = .ok (.goto 6, 3) := by decide +kernel
theorem dL_choice_12 : decode cL_choice 12 = .ok (.astore_n 3, 1) := by decide +kernel
theorem dL_choice_13 : decode cL_choice 13 = .ok (.iconst 1, 1) := by decide +kernel
theorem dL_choice_14 : decode cL_choice 14 = .ok (.ireturn, 1) := by decide +kernel
theorem dL_choice_15 : decode cL_choice 15 = .ok (.iconst 0, 1) := by decide +kernel
theorem dL_choice_16 : decode cL_choice 16 = .ok (.ireturn, 1) := by decide +kernel
theorem dL_flag_0 : decode cL_flag 0 = .ok (.aload_n 2, 1) := by decide +kernel
theorem dL_flag_1 : decode cL_flag 1 = .ok (.iconst 0, 1) := by decide +kernel
theorem dL_flag_2 : decode cL_flag 2 = .ok (.aload_n 0, 1) := by decide +kernel
theorem dL_flag_3 : decode cL_flag 3 = .ok (.iload_n 1, 1) := by decide +kernel
theorem dL_flag_4 : decode cL_flag 4 = .ok (.invokevirtual 51, 3) := by decide +kernel
theorem dL_flag_7 : decode cL_flag 7 = .ok (.i2l, 1) := by decide +kernel
theorem dL_flag_8 : decode cL_flag 8 = .ok (.lastore, 1) := by decide +kernel
theorem dL_flag_9 : decode cL_flag 9 = .ok (.goto 6, 3) := by decide +kernel
theorem dL_flag_12 : decode cL_flag 12 = .ok (.astore_n 3, 1) := by decide +kernel
theorem dL_flag_13 : decode cL_flag 13 = .ok (.iconst 1, 1) := by decide +kernel
theorem dL_flag_14 : decode cL_flag 14 = .ok (.ireturn, 1) := by decide +kernel
theorem dL_flag_15 : decode cL_flag 15 = .ok (.iconst 0, 1) := by decide +kernel
theorem dL_flag_16 : decode cL_flag 16 = .ok (.ireturn, 1) := by decide +kernel
theorem dL_meter_0 : decode cL_meter 0 = .ok (.aload_n 2, 1) := by decide +kernel
theorem dL_meter_1 : decode cL_meter 1 = .ok (.iconst 0, 1) := by decide +kernel
theorem dL_meter_2 : decode cL_meter 2 = .ok (.aload_n 0, 1) := by decide +kernel
theorem dL_meter_3 : decode cL_meter 3 = .ok (.iload_n 1, 1) := by decide +kernel
theorem dL_meter_4 : decode cL_meter 4 = .ok (.invokevirtual 54, 3) := by decide +kernel
theorem dL_meter_7 : decode cL_meter 7 = .ok (.i2l, 1) := by decide +kernel
theorem dL_meter_8 : decode cL_meter 8 = .ok (.lastore, 1) := by decide +kernel
theorem dL_meter_9 : decode cL_meter 9 = .ok (.goto 6, 3) := by decide +kernel
theorem dL_meter_12 : decode cL_meter 12 = .ok (.astore_n 3, 1) := by decide +kernel
theorem dL_meter_13 : decode cL_meter 13 = .ok (.iconst 1, 1) := by decide +kernel
theorem dL_meter_14 : decode cL_meter 14 = .ok (.ireturn, 1) := by decide +kernel
theorem dL_meter_15 : decode cL_meter 15 = .ok (.iconst 0, 1) := by decide +kernel
theorem dL_meter_16 : decode cL_meter 16 = .ok (.ireturn, 1) := by decide +kernel
theorem dL_line_0 : decode cL_line 0 = .ok (.aload_n 2, 1) := by decide +kernel
theorem dL_line_1 : decode cL_line 1 = .ok (.iconst 0, 1) := by decide +kernel
theorem dL_line_2 : decode cL_line 2 = .ok (.aload_n 0, 1) := by decide +kernel
theorem dL_line_3 : decode cL_line 3 = .ok (.iload_n 1, 1) := by decide +kernel
theorem dL_line_4 : decode cL_line 4 = .ok (.invokevirtual 57, 3) := by decide +kernel
theorem dL_line_7 : decode cL_line 7 = .ok (.i2l, 1) := by decide +kernel
theorem dL_line_8 : decode cL_line 8 = .ok (.lastore, 1) := by decide +kernel
theorem dL_line_9 : decode cL_line 9 = .ok (.goto 6, 3) := by decide +kernel
theorem dL_line_12 : decode cL_line 12 = .ok (.astore_n 3, 1) := by decide +kernel
theorem dL_line_13 : decode cL_line 13 = .ok (.iconst 1, 1) := by decide +kernel
theorem dL_line_14 : decode cL_line 14 = .ok (.ireturn, 1) := by decide +kernel
theorem dL_line_15 : decode cL_line 15 = .ok (.iconst 0, 1) := by decide +kernel
theorem dL_line_16 : decode cL_line 16 = .ok (.ireturn, 1) := by decide +kernel
theorem dL_explore_0 : decode cL_explore 0 = .ok (.aload_n 2, 1) := by decide +kernel
theorem dL_explore_1 : decode cL_explore 1 = .ok (.iconst 0, 1) := by decide +kernel
theorem dL_explore_2 : decode cL_explore 2 = .ok (.aload_n 0, 1) := by decide +kernel
theorem dL_explore_3 : decode cL_explore 3 = .ok (.iload_n 1, 1) := by decide +kernel
theorem dL_explore_4 : decode cL_explore 4 = .ok (.invokevirtual 60, 3) := by decide +kernel
theorem dL_explore_7 : decode cL_explore 7 = .ok (.i2l, 1) := by decide +kernel
theorem dL_explore_8 : decode cL_explore 8 = .ok (.lastore, 1) := by decide +kernel
theorem dL_explore_9 : decode cL_explore 9 = .ok (.goto 9, 3) := by decide +kernel
theorem dL_explore_12 : decode cL_explore 12 = .ok (.astore_n 3, 1) := by decide +kernel
theorem dL_explore_13 : decode cL_explore 13 = .ok (.iconst 1, 1) := by decide +kernel
theorem dL_explore_14 : decode cL_explore 14 = .ok (.ireturn, 1) := by decide +kernel
theorem dL_explore_15 : decode cL_explore 15 = .ok (.astore_n 3, 1) := by decide +kernel
theorem dL_explore_16 : decode cL_explore 16 = .ok (.iconst 2, 1) := by decide +kernel
theorem dL_explore_17 : decode cL_explore 17 = .ok (.ireturn, 1) := by decide +kernel
theorem dL_explore_18 : decode cL_explore 18 = .ok (.iconst 0, 1) := by decide +kernel
theorem dL_explore_19 : decode cL_explore 19 = .ok (.ireturn, 1) := by decide +kernel
theorem dL_isComplete_0 : decode cL_isComplete 0 = .ok (.aload_n 1, 1) := by decide +kernel
theorem dL_isComplete_1 : decode cL_isComplete 1 = .ok (.iconst 0, 1) := by decide +kernel
theorem dL_isComplete_2 : decode cL_isComplete 2 = .ok (.aload_n 0, 1) := by decide +kernel
theorem dL_isComplete_3 : decode cL_isComplete 3 = .ok (.invokevirtual 63, 3) := by decide +kernel
theorem dL_isComplete_6 : decode cL_isComplete 6 = .ok (.ifCond .eq 7, 3) := by decide +kernel
theorem dL_isComplete_9 : decode cL_isComplete 9 = .ok (.lconst 1, 1) := by decide +kernel
theorem dL_isComplete_10 : decode cL_isComplete 10 = .ok (.goto 4, 3) := by decide +kernel
theorem dL_isComplete_13 : decode cL_isComplete 13 = .ok (.lconst 0, 1) := by decide +kernel
theorem dL_isComplete_14 : decode cL_isComplete 14 = .ok (.lastore, 1) := by decide +kernel
theorem dL_isComplete_15 : decode cL_isComplete 15 = .ok (.goto 6, 3) := by decide +kernel
theorem dL_isComplete_18 : decode cL_isComplete 18 = .ok (.astore_n 2, 1) := by decide +kernel
theorem dL_isComplete_19 : decode cL_isComplete 19 = .ok (.iconst 1, 1) := by decide +kernel
theorem dL_isComplete_20 : decode cL_isComplete 20 = .ok (.ireturn, 1) := by decide +kernel
theorem dL_isComplete_21 : decode cL_isComplete 21 = .ok (.iconst 0, 1) := by decide +kernel
theorem dL_isComplete_22 : decode cL_isComplete 22 = .ok (.ireturn, 1) := by decide +kernel
theorem dL_wayLength_0 : decode cL_wayLength 0 = .ok (.aload_n 2, 1) := by decide +kernel
theorem dL_wayLength_1 : decode cL_wayLength 1 = .ok (.iconst 0, 1) := by decide +kernel
theorem dL_wayLength_2 : decode cL_wayLength 2 = .ok (.aload_n 0, 1) := by decide +kernel
theorem dL_wayLength_3 : decode cL_wayLength 3 = .ok (.iload_n 1, 1) := by decide +kernel
theorem dL_wayLength_4 : decode cL_wayLength 4 = .ok (.invokevirtual 67, 3) := by decide +kernel
theorem dL_wayLength_7 : decode cL_wayLength 7 = .ok (.i2l, 1) := by decide +kernel
theorem dL_wayLength_8 : decode cL_wayLength 8 = .ok (.lastore, 1) := by decide +kernel
theorem dL_wayLength_9 : decode cL_wayLength 9 = .ok (.goto 9, 3) := by decide +kernel
theorem dL_wayLength_12 : decode cL_wayLength 12 = .ok (.astore_n 3, 1) := by decide +kernel
theorem dL_wayLength_13 : decode cL_wayLength 13 = .ok (.iconst 1, 1) := by decide +kernel
theorem dL_wayLength_14 : decode cL_wayLength 14 = .ok (.ireturn, 1) := by decide +kernel
theorem dL_wayLength_15 : decode cL_wayLength 15 = .ok (.astore_n 3, 1) := by decide +kernel
theorem dL_wayLength_16 : decode cL_wayLength 16 = .ok (.iconst 2, 1) := by decide +kernel
theorem dL_wayLength_17 : decode cL_wayLength 17 = .ok (.ireturn, 1) := by decide +kernel
theorem dL_wayLength_18 : decode cL_wayLength 18 = .ok (.iconst 0, 1) := by decide +kernel
theorem dL_wayLength_19 : decode cL_wayLength 19 = .ok (.ireturn, 1) := by decide +kernel
theorem dL_way_0 : decode cL_way 0 = .ok (.aload_n 3, 1) := by decide +kernel
theorem dL_way_1 : decode cL_way 1 = .ok (.iconst 0, 1) := by decide +kernel
theorem dL_way_2 : decode cL_way 2 = .ok (.aload_n 0, 1) := by decide +kernel
theorem dL_way_3 : decode cL_way 3 = .ok (.iload_n 1, 1) := by decide +kernel
theorem dL_way_4 : decode cL_way 4 = .ok (.iload_n 2, 1) := by decide +kernel
theorem dL_way_5 : decode cL_way 5 = .ok (.invokevirtual 70, 3) := by decide +kernel
theorem dL_way_8 : decode cL_way 8 = .ok (.i2l, 1) := by decide +kernel
theorem dL_way_9 : decode cL_way 9 = .ok (.lastore, 1) := by decide +kernel
theorem dL_way_10 : decode cL_way 10 = .ok (.goto 15, 3) := by decide +kernel
theorem dL_way_13 : decode cL_way 13 = .ok (.astore 4, 2) := by decide +kernel
theorem dL_way_15 : decode cL_way 15 = .ok (.iconst 1, 1) := by decide +kernel
theorem dL_way_16 : decode cL_way 16 = .ok (.ireturn, 1) := by decide +kernel
theorem dL_way_17 : decode cL_way 17 = .ok (.astore 4, 2) := by decide +kernel
theorem dL_way_19 : decode cL_way 19 = .ok (.iconst 2, 1) := by decide +kernel
theorem dL_way_20 : decode cL_way 20 = .ok (.ireturn, 1) := by decide +kernel
theorem dL_way_21 : decode cL_way 21 = .ok (.astore 4, 2) := by decide +kernel
theorem dL_way_23 : decode cL_way 23 = .ok (.iconst 3, 1) := by decide +kernel
theorem dL_way_24 : decode cL_way 24 = .ok (.ireturn, 1) := by decide +kernel
theorem dL_way_25 : decode cL_way 25 = .ok (.iconst 0, 1) := by decide +kernel
theorem dL_way_26 : decode cL_way 26 = .ok (.ireturn, 1) := by decide +kernel
theorem dL_outcomes_0 : decode cL_outcomes 0 = .ok (.aload_n 2, 1) := by decide +kernel
theorem dL_outcomes_1 : decode cL_outcomes 1 = .ok (.iconst 0, 1) := by decide +kernel
theorem dL_outcomes_2 : decode cL_outcomes 2 = .ok (.aload_n 0, 1) := by decide +kernel
theorem dL_outcomes_3 : decode cL_outcomes 3 = .ok (.iload_n 1, 1) := by decide +kernel
theorem dL_outcomes_4 : decode cL_outcomes 4 = .ok (.invokevirtual 74, 3) := by decide +kernel
theorem dL_outcomes_7 : decode cL_outcomes 7 = .ok (.i2l, 1) := by decide +kernel
theorem dL_outcomes_8 : decode cL_outcomes 8 = .ok (.lastore, 1) := by decide +kernel
theorem dL_outcomes_9 : decode cL_outcomes 9 = .ok (.goto 9, 3) := by decide +kernel
theorem dL_outcomes_12 : decode cL_outcomes 12 = .ok (.astore_n 3, 1) := by decide +kernel
theorem dL_outcomes_13 : decode cL_outcomes 13 = .ok (.iconst 1, 1) := by decide +kernel
theorem dL_outcomes_14 : decode cL_outcomes 14 = .ok (.ireturn, 1) := by decide +kernel
theorem dL_outcomes_15 : decode cL_outcomes 15 = .ok (.astore_n 3, 1) := by decide +kernel
theorem dL_outcomes_16 : decode cL_outcomes 16 = .ok (.iconst 2, 1) := by decide +kernel
theorem dL_outcomes_17 : decode cL_outcomes 17 = .ok (.ireturn, 1) := by decide +kernel
theorem dL_outcomes_18 : decode cL_outcomes 18 = .ok (.iconst 0, 1) := by decide +kernel
theorem dL_outcomes_19 : decode cL_outcomes 19 = .ok (.ireturn, 1) := by decide +kernel
theorem dL_occurred_0 : decode cL_occurred 0 = .ok (.aload_n 3, 1) := by decide +kernel
theorem dL_occurred_1 : decode cL_occurred 1 = .ok (.iconst 0, 1) := by decide +kernel
theorem dL_occurred_2 : decode cL_occurred 2 = .ok (.aload_n 0, 1) := by decide +kernel
theorem dL_occurred_3 : decode cL_occurred 3 = .ok (.iload_n 1, 1) := by decide +kernel
theorem dL_occurred_4 : decode cL_occurred 4 = .ok (.iload_n 2, 1) := by decide +kernel
theorem dL_occurred_5 : decode cL_occurred 5 = .ok (.invokevirtual 77, 3) := by decide +kernel
theorem dL_occurred_8 : decode cL_occurred 8 = .ok (.ifCond .eq 7, 3) := by decide +kernel
theorem dL_occurred_11 : decode cL_occurred 11 = .ok (.lconst 1, 1) := by decide +kernel
theorem dL_occurred_12 : decode cL_occurred 12 = .ok (.goto 4, 3) := by decide +kernel
theorem dL_occurred_15 : decode cL_occurred 15 = .ok (.lconst 0, 1) := by decide +kernel
theorem dL_occurred_16 : decode cL_occurred 16 = .ok (.lastore, 1) := by decide +kernel
theorem dL_occurred_17 : decode cL_occurred 17 = .ok (.goto 15, 3) := by decide +kernel
theorem dL_occurred_20 : decode cL_occurred 20 = .ok (.astore 4, 2) := by decide +kernel
theorem dL_occurred_22 : decode cL_occurred 22 = .ok (.iconst 1, 1) := by decide +kernel
theorem dL_occurred_23 : decode cL_occurred 23 = .ok (.ireturn, 1) := by decide +kernel
theorem dL_occurred_24 : decode cL_occurred 24 = .ok (.astore 4, 2) := by decide +kernel
theorem dL_occurred_26 : decode cL_occurred 26 = .ok (.iconst 2, 1) := by decide +kernel
theorem dL_occurred_27 : decode cL_occurred 27 = .ok (.ireturn, 1) := by decide +kernel
theorem dL_occurred_28 : decode cL_occurred 28 = .ok (.astore 4, 2) := by decide +kernel
theorem dL_occurred_30 : decode cL_occurred 30 = .ok (.iconst 3, 1) := by decide +kernel
theorem dL_occurred_31 : decode cL_occurred 31 = .ok (.ireturn, 1) := by decide +kernel
theorem dL_occurred_32 : decode cL_occurred 32 = .ok (.iconst 0, 1) := by decide +kernel
theorem dL_occurred_33 : decode cL_occurred 33 = .ok (.ireturn, 1) := by decide +kernel
theorem dL_analyze_0 : decode cL_analyze 0 = .ok (.aload_n 1, 1) := by decide +kernel
theorem dL_analyze_1 : decode cL_analyze 1 = .ok (.iconst 0, 1) := by decide +kernel
theorem dL_analyze_2 : decode cL_analyze 2 = .ok (.aload_n 0, 1) := by decide +kernel
theorem dL_analyze_3 : decode cL_analyze 3 = .ok (.invokevirtual 81, 3) := by decide +kernel
theorem dL_analyze_6 : decode cL_analyze 6 = .ok (.i2l, 1) := by decide +kernel
theorem dL_analyze_7 : decode cL_analyze 7 = .ok (.lastore, 1) := by decide +kernel
theorem dL_analyze_8 : decode cL_analyze 8 = .ok (.goto 6, 3) := by decide +kernel
theorem dL_analyze_11 : decode cL_analyze 11 = .ok (.astore_n 2, 1) := by decide +kernel
theorem dL_analyze_12 : decode cL_analyze 12 = .ok (.iconst 1, 1) := by decide +kernel
theorem dL_analyze_13 : decode cL_analyze 13 = .ok (.ireturn, 1) := by decide +kernel
theorem dL_analyze_14 : decode cL_analyze 14 = .ok (.iconst 0, 1) := by decide +kernel
theorem dL_analyze_15 : decode cL_analyze 15 = .ok (.ireturn, 1) := by decide +kernel
theorem dL_isReached_0 : decode cL_isReached 0 = .ok (.aload_n 3, 1) := by decide +kernel
theorem dL_isReached_1 : decode cL_isReached 1 = .ok (.iconst 0, 1) := by decide +kernel
theorem dL_isReached_2 : decode cL_isReached 2 = .ok (.aload_n 0, 1) := by decide +kernel
theorem dL_isReached_3 : decode cL_isReached 3 = .ok (.iload_n 1, 1) := by decide +kernel
theorem dL_isReached_4 : decode cL_isReached 4 = .ok (.iload_n 2, 1) := by decide +kernel
theorem dL_isReached_5 : decode cL_isReached 5 = .ok (.invokevirtual 84, 3) := by decide +kernel
theorem dL_isReached_8 : decode cL_isReached 8 = .ok (.ifCond .eq 7, 3) := by decide +kernel
theorem dL_isReached_11 : decode cL_isReached 11 = .ok (.lconst 1, 1) := by decide +kernel
theorem dL_isReached_12 : decode cL_isReached 12 = .ok (.goto 4, 3) := by decide +kernel
theorem dL_isReached_15 : decode cL_isReached 15 = .ok (.lconst 0, 1) := by decide +kernel
theorem dL_isReached_16 : decode cL_isReached 16 = .ok (.lastore, 1) := by decide +kernel
theorem dL_isReached_17 : decode cL_isReached 17 = .ok (.goto 15, 3) := by decide +kernel
theorem dL_isReached_20 : decode cL_isReached 20 = .ok (.astore 4, 2) := by decide +kernel
theorem dL_isReached_22 : decode cL_isReached 22 = .ok (.iconst 1, 1) := by decide +kernel
theorem dL_isReached_23 : decode cL_isReached 23 = .ok (.ireturn, 1) := by decide +kernel
theorem dL_isReached_24 : decode cL_isReached 24 = .ok (.astore 4, 2) := by decide +kernel
theorem dL_isReached_26 : decode cL_isReached 26 = .ok (.iconst 2, 1) := by decide +kernel
theorem dL_isReached_27 : decode cL_isReached 27 = .ok (.ireturn, 1) := by decide +kernel
theorem dL_isReached_28 : decode cL_isReached 28 = .ok (.astore 4, 2) := by decide +kernel
theorem dL_isReached_30 : decode cL_isReached 30 = .ok (.iconst 3, 1) := by decide +kernel
theorem dL_isReached_31 : decode cL_isReached 31 = .ok (.ireturn, 1) := by decide +kernel
theorem dL_isReached_32 : decode cL_isReached 32 = .ok (.iconst 0, 1) := by decide +kernel
theorem dL_isReached_33 : decode cL_isReached 33 = .ok (.ireturn, 1) := by decide +kernel
theorem dL_lowest_0 : decode cL_lowest 0 = .ok (.aload_n 3, 1) := by decide +kernel
theorem dL_lowest_1 : decode cL_lowest 1 = .ok (.iconst 0, 1) := by decide +kernel
theorem dL_lowest_2 : decode cL_lowest 2 = .ok (.aload_n 0, 1) := by decide +kernel
theorem dL_lowest_3 : decode cL_lowest 3 = .ok (.iload_n 1, 1) := by decide +kernel
theorem dL_lowest_4 : decode cL_lowest 4 = .ok (.iload_n 2, 1) := by decide +kernel
theorem dL_lowest_5 : decode cL_lowest 5 = .ok (.invokevirtual 87, 3) := by decide +kernel
theorem dL_lowest_8 : decode cL_lowest 8 = .ok (.i2l, 1) := by decide +kernel
theorem dL_lowest_9 : decode cL_lowest 9 = .ok (.lastore, 1) := by decide +kernel
theorem dL_lowest_10 : decode cL_lowest 10 = .ok (.goto 15, 3) := by decide +kernel
theorem dL_lowest_13 : decode cL_lowest 13 = .ok (.astore 4, 2) := by decide +kernel
theorem dL_lowest_15 : decode cL_lowest 15 = .ok (.iconst 1, 1) := by decide +kernel
theorem dL_lowest_16 : decode cL_lowest 16 = .ok (.ireturn, 1) := by decide +kernel
theorem dL_lowest_17 : decode cL_lowest 17 = .ok (.astore 4, 2) := by decide +kernel
theorem dL_lowest_19 : decode cL_lowest 19 = .ok (.iconst 2, 1) := by decide +kernel
theorem dL_lowest_20 : decode cL_lowest 20 = .ok (.ireturn, 1) := by decide +kernel
theorem dL_lowest_21 : decode cL_lowest 21 = .ok (.astore 4, 2) := by decide +kernel
theorem dL_lowest_23 : decode cL_lowest 23 = .ok (.iconst 3, 1) := by decide +kernel
theorem dL_lowest_24 : decode cL_lowest 24 = .ok (.ireturn, 1) := by decide +kernel
theorem dL_lowest_25 : decode cL_lowest 25 = .ok (.iconst 0, 1) := by decide +kernel
theorem dL_lowest_26 : decode cL_lowest 26 = .ok (.ireturn, 1) := by decide +kernel
theorem dL_greatest_0 : decode cL_greatest 0 = .ok (.aload_n 3, 1) := by decide +kernel
theorem dL_greatest_1 : decode cL_greatest 1 = .ok (.iconst 0, 1) := by decide +kernel
theorem dL_greatest_2 : decode cL_greatest 2 = .ok (.aload_n 0, 1) := by decide +kernel
theorem dL_greatest_3 : decode cL_greatest 3 = .ok (.iload_n 1, 1) := by decide +kernel
theorem dL_greatest_4 : decode cL_greatest 4 = .ok (.iload_n 2, 1) := by decide +kernel
theorem dL_greatest_5 : decode cL_greatest 5 = .ok (.invokevirtual 90, 3) := by decide +kernel
theorem dL_greatest_8 : decode cL_greatest 8 = .ok (.i2l, 1) := by decide +kernel
theorem dL_greatest_9 : decode cL_greatest 9 = .ok (.lastore, 1) := by decide +kernel
theorem dL_greatest_10 : decode cL_greatest 10 = .ok (.goto 15, 3) := by decide +kernel
theorem dL_greatest_13 : decode cL_greatest 13 = .ok (.astore 4, 2) := by decide +kernel
theorem dL_greatest_15 : decode cL_greatest 15 = .ok (.iconst 1, 1) := by decide +kernel
theorem dL_greatest_16 : decode cL_greatest 16 = .ok (.ireturn, 1) := by decide +kernel
theorem dL_greatest_17 : decode cL_greatest 17 = .ok (.astore 4, 2) := by decide +kernel
theorem dL_greatest_19 : decode cL_greatest 19 = .ok (.iconst 2, 1) := by decide +kernel
theorem dL_greatest_20 : decode cL_greatest 20 = .ok (.ireturn, 1) := by decide +kernel
theorem dL_greatest_21 : decode cL_greatest 21 = .ok (.astore 4, 2) := by decide +kernel
theorem dL_greatest_23 : decode cL_greatest 23 = .ok (.iconst 3, 1) := by decide +kernel
theorem dL_greatest_24 : decode cL_greatest 24 = .ok (.ireturn, 1) := by decide +kernel
theorem dL_greatest_25 : decode cL_greatest 25 = .ok (.iconst 0, 1) := by decide +kernel
theorem dL_greatest_26 : decode cL_greatest 26 = .ok (.ireturn, 1) := by decide +kernel
theorem dL_values_0 : decode cL_values 0 = .ok (.aload_n 3, 1) := by decide +kernel
theorem dL_values_1 : decode cL_values 1 = .ok (.iconst 0, 1) := by decide +kernel
theorem dL_values_2 : decode cL_values 2 = .ok (.aload_n 0, 1) := by decide +kernel
theorem dL_values_3 : decode cL_values 3 = .ok (.iload_n 1, 1) := by decide +kernel
theorem dL_values_4 : decode cL_values 4 = .ok (.iload_n 2, 1) := by decide +kernel
theorem dL_values_5 : decode cL_values 5 = .ok (.invokevirtual 93, 3) := by decide +kernel
theorem dL_values_8 : decode cL_values 8 = .ok (.i2l, 1) := by decide +kernel
theorem dL_values_9 : decode cL_values 9 = .ok (.lastore, 1) := by decide +kernel
theorem dL_values_10 : decode cL_values 10 = .ok (.goto 15, 3) := by decide +kernel
theorem dL_values_13 : decode cL_values 13 = .ok (.astore 4, 2) := by decide +kernel
theorem dL_values_15 : decode cL_values 15 = .ok (.iconst 1, 1) := by decide +kernel
theorem dL_values_16 : decode cL_values 16 = .ok (.ireturn, 1) := by decide +kernel
theorem dL_values_17 : decode cL_values 17 = .ok (.astore 4, 2) := by decide +kernel
theorem dL_values_19 : decode cL_values 19 = .ok (.iconst 2, 1) := by decide +kernel
theorem dL_values_20 : decode cL_values 20 = .ok (.ireturn, 1) := by decide +kernel
theorem dL_values_21 : decode cL_values 21 = .ok (.astore 4, 2) := by decide +kernel
theorem dL_values_23 : decode cL_values 23 = .ok (.iconst 3, 1) := by decide +kernel
theorem dL_values_24 : decode cL_values 24 = .ok (.ireturn, 1) := by decide +kernel
theorem dL_values_25 : decode cL_values 25 = .ok (.iconst 0, 1) := by decide +kernel
theorem dL_values_26 : decode cL_values 26 = .ok (.ireturn, 1) := by decide +kernel
theorem dL_hubs_0 : decode cL_hubs 0 = .ok (.aload_n 2, 1) := by decide +kernel
theorem dL_hubs_1 : decode cL_hubs 1 = .ok (.iconst 0, 1) := by decide +kernel
theorem dL_hubs_2 : decode cL_hubs 2 = .ok (.aload_n 0, 1) := by decide +kernel
theorem dL_hubs_3 : decode cL_hubs 3 = .ok (.iload_n 1, 1) := by decide +kernel
theorem dL_hubs_4 : decode cL_hubs 4 = .ok (.invokevirtual 96, 3) := by decide +kernel
theorem dL_hubs_7 : decode cL_hubs 7 = .ok (.i2l, 1) := by decide +kernel
theorem dL_hubs_8 : decode cL_hubs 8 = .ok (.lastore, 1) := by decide +kernel
theorem dL_hubs_9 : decode cL_hubs 9 = .ok (.goto 9, 3) := by decide +kernel
theorem dL_hubs_12 : decode cL_hubs 12 = .ok (.astore_n 3, 1) := by decide +kernel
theorem dL_hubs_13 : decode cL_hubs 13 = .ok (.iconst 1, 1) := by decide +kernel
theorem dL_hubs_14 : decode cL_hubs 14 = .ok (.ireturn, 1) := by decide +kernel
theorem dL_hubs_15 : decode cL_hubs 15 = .ok (.astore_n 3, 1) := by decide +kernel
theorem dL_hubs_16 : decode cL_hubs 16 = .ok (.iconst 2, 1) := by decide +kernel
theorem dL_hubs_17 : decode cL_hubs 17 = .ok (.ireturn, 1) := by decide +kernel
theorem dL_hubs_18 : decode cL_hubs 18 = .ok (.iconst 0, 1) := by decide +kernel
theorem dL_hubs_19 : decode cL_hubs 19 = .ok (.ireturn, 1) := by decide +kernel
theorem dL_verdict_0 : decode cL_verdict 0 = .ok (.aload_n 2, 1) := by decide +kernel
theorem dL_verdict_1 : decode cL_verdict 1 = .ok (.iconst 0, 1) := by decide +kernel
theorem dL_verdict_2 : decode cL_verdict 2 = .ok (.aload_n 0, 1) := by decide +kernel
theorem dL_verdict_3 : decode cL_verdict 3 = .ok (.iload_n 1, 1) := by decide +kernel
theorem dL_verdict_4 : decode cL_verdict 4 = .ok (.invokevirtual 99, 3) := by decide +kernel
theorem dL_verdict_7 : decode cL_verdict 7 = .ok (.i2l, 1) := by decide +kernel
theorem dL_verdict_8 : decode cL_verdict 8 = .ok (.lastore, 1) := by decide +kernel
theorem dL_verdict_9 : decode cL_verdict 9 = .ok (.goto 9, 3) := by decide +kernel
theorem dL_verdict_12 : decode cL_verdict 12 = .ok (.astore_n 3, 1) := by decide +kernel
theorem dL_verdict_13 : decode cL_verdict 13 = .ok (.iconst 1, 1) := by decide +kernel
theorem dL_verdict_14 : decode cL_verdict 14 = .ok (.ireturn, 1) := by decide +kernel
theorem dL_verdict_15 : decode cL_verdict 15 = .ok (.astore_n 3, 1) := by decide +kernel
theorem dL_verdict_16 : decode cL_verdict 16 = .ok (.iconst 2, 1) := by decide +kernel
theorem dL_verdict_17 : decode cL_verdict 17 = .ok (.ireturn, 1) := by decide +kernel
theorem dL_verdict_18 : decode cL_verdict 18 = .ok (.iconst 0, 1) := by decide +kernel
theorem dL_verdict_19 : decode cL_verdict 19 = .ok (.ireturn, 1) := by decide +kernel
theorem dL_possible_0 : decode cL_possible 0 = .ok (.aload_n 2, 1) := by decide +kernel
theorem dL_possible_1 : decode cL_possible 1 = .ok (.iconst 0, 1) := by decide +kernel
theorem dL_possible_2 : decode cL_possible 2 = .ok (.aload_n 0, 1) := by decide +kernel
theorem dL_possible_3 : decode cL_possible 3 = .ok (.iload_n 1, 1) := by decide +kernel
theorem dL_possible_4 : decode cL_possible 4 = .ok (.invokevirtual 102, 3) := by decide +kernel
theorem dL_possible_7 : decode cL_possible 7 = .ok (.i2l, 1) := by decide +kernel
theorem dL_possible_8 : decode cL_possible 8 = .ok (.lastore, 1) := by decide +kernel
theorem dL_possible_9 : decode cL_possible 9 = .ok (.goto 9, 3) := by decide +kernel
theorem dL_possible_12 : decode cL_possible 12 = .ok (.astore_n 3, 1) := by decide +kernel
theorem dL_possible_13 : decode cL_possible 13 = .ok (.iconst 1, 1) := by decide +kernel
theorem dL_possible_14 : decode cL_possible 14 = .ok (.ireturn, 1) := by decide +kernel
theorem dL_possible_15 : decode cL_possible 15 = .ok (.astore_n 3, 1) := by decide +kernel
theorem dL_possible_16 : decode cL_possible 16 = .ok (.iconst 2, 1) := by decide +kernel
theorem dL_possible_17 : decode cL_possible 17 = .ok (.ireturn, 1) := by decide +kernel
theorem dL_possible_18 : decode cL_possible 18 = .ok (.iconst 0, 1) := by decide +kernel
theorem dL_possible_19 : decode cL_possible 19 = .ok (.ireturn, 1) := by decide +kernel
theorem wt_644 : (Jvm.Cond.classLink "BranchingStoryLaw" (13 : Nat) "java/lang/IllegalArgumentException") ∈ lw_tbl := in_tb 644 (by decide +kernel)
theorem wt_645 : (Jvm.Cond.classLink "BranchingStoryLaw" (15 : Nat) "java/lang/IllegalStateException") ∈ lw_tbl := in_tb 645 (by decide +kernel)
theorem wt_646 : (Jvm.Cond.methodLink "BranchingStoryLaw" (7 : Nat) ({ cls := "BranchingStory", name := "type", desc := "(I)I" } : Jvm.MethodName)) ∈ lw_tbl := in_tb 646 (by decide +kernel)
theorem wt_647 : (Jvm.Cond.instanceMethod ({ cls := "BranchingStory", name := "type", desc := "(I)I" } : Jvm.MethodName)) ∈ lw_tbl := in_tb 647 (by decide +kernel)
theorem wt_648 : (Jvm.Cond.selects "BranchingStory" ({ cls := "BranchingStory", name := "type", desc := "(I)I" } : Jvm.MethodName) ({ cls := "BranchingStory", name := "type", desc := "(I)I" } : Jvm.MethodName)) ∈ lw_tbl := in_tb 648 (by decide +kernel)
theorem wt_649 : (Jvm.Cond.code ({ cls := "BranchingStory", name := "type", desc := "(I)I" } : Jvm.MethodName) prog_1_method_2_code (2 : Nat) (Option.some Jvm.ClassFile.FieldType.int)) ∈ lw_tbl := in_tb 649 (by decide +kernel)
theorem wt_737 : (Jvm.Cond.methodLink "BranchingStoryLaw" (17 : Nat) ({ cls := "BranchingStory", name := "build", desc := "()I" } : Jvm.MethodName)) ∈ lw_tbl := in_tb 737 (by decide +kernel)
theorem wt_738 : (Jvm.Cond.instanceMethod ({ cls := "BranchingStory", name := "build", desc := "()I" } : Jvm.MethodName)) ∈ lw_tbl := in_tb 738 (by decide +kernel)
theorem wt_739 : (Jvm.Cond.selects "BranchingStory" ({ cls := "BranchingStory", name := "build", desc := "()I" } : Jvm.MethodName) ({ cls := "BranchingStory", name := "build", desc := "()I" } : Jvm.MethodName)) ∈ lw_tbl := in_tb 739 (by decide +kernel)
theorem wt_740 : (Jvm.Cond.code ({ cls := "BranchingStory", name := "build", desc := "()I" } : Jvm.MethodName) prog_1_method_5_code (2 : Nat) (Option.some Jvm.ClassFile.FieldType.int)) ∈ lw_tbl := in_tb 740 (by decide +kernel)
theorem wt_770 : (Jvm.Cond.methodLink "BranchingStoryLaw" (21 : Nat) ({ cls := "BranchingStory", name := "count", desc := "(I)I" } : Jvm.MethodName)) ∈ lw_tbl := in_tb 770 (by decide +kernel)
theorem wt_771 : (Jvm.Cond.instanceMethod ({ cls := "BranchingStory", name := "count", desc := "(I)I" } : Jvm.MethodName)) ∈ lw_tbl := in_tb 771 (by decide +kernel)
theorem wt_772 : (Jvm.Cond.selects "BranchingStory" ({ cls := "BranchingStory", name := "count", desc := "(I)I" } : Jvm.MethodName) ({ cls := "BranchingStory", name := "count", desc := "(I)I" } : Jvm.MethodName)) ∈ lw_tbl := in_tb 772 (by decide +kernel)
theorem wt_773 : (Jvm.Cond.code ({ cls := "BranchingStory", name := "count", desc := "(I)I" } : Jvm.MethodName) prog_1_method_6_code (2 : Nat) (Option.some Jvm.ClassFile.FieldType.int)) ∈ lw_tbl := in_tb 773 (by decide +kernel)
theorem wt_778 : (Jvm.Cond.classLink "BranchingStoryLaw" (27 : Nat) "java/lang/IndexOutOfBoundsException") ∈ lw_tbl := in_tb 778 (by decide +kernel)
theorem wt_779 : (Jvm.Cond.methodLink "BranchingStoryLaw" (24 : Nat) ({ cls := "BranchingStory", name := "name", desc := "(I)I" } : Jvm.MethodName)) ∈ lw_tbl := in_tb 779 (by decide +kernel)
theorem wt_780 : (Jvm.Cond.instanceMethod ({ cls := "BranchingStory", name := "name", desc := "(I)I" } : Jvm.MethodName)) ∈ lw_tbl := in_tb 780 (by decide +kernel)
theorem wt_781 : (Jvm.Cond.selects "BranchingStory" ({ cls := "BranchingStory", name := "name", desc := "(I)I" } : Jvm.MethodName) ({ cls := "BranchingStory", name := "name", desc := "(I)I" } : Jvm.MethodName)) ∈ lw_tbl := in_tb 781 (by decide +kernel)
theorem wt_782 : (Jvm.Cond.code ({ cls := "BranchingStory", name := "name", desc := "(I)I" } : Jvm.MethodName) prog_1_method_7_code (2 : Nat) (Option.some Jvm.ClassFile.FieldType.int)) ∈ lw_tbl := in_tb 782 (by decide +kernel)
theorem wt_806 : (Jvm.Cond.methodLink "BranchingStoryLaw" (29 : Nat) ({ cls := "BranchingStory", name := "isHub", desc := "(I)Z" } : Jvm.MethodName)) ∈ lw_tbl := in_tb 806 (by decide +kernel)
theorem wt_807 : (Jvm.Cond.instanceMethod ({ cls := "BranchingStory", name := "isHub", desc := "(I)Z" } : Jvm.MethodName)) ∈ lw_tbl := in_tb 807 (by decide +kernel)
theorem wt_808 : (Jvm.Cond.selects "BranchingStory" ({ cls := "BranchingStory", name := "isHub", desc := "(I)Z" } : Jvm.MethodName) ({ cls := "BranchingStory", name := "isHub", desc := "(I)Z" } : Jvm.MethodName)) ∈ lw_tbl := in_tb 808 (by decide +kernel)
theorem wt_809 : (Jvm.Cond.code ({ cls := "BranchingStory", name := "isHub", desc := "(I)Z" } : Jvm.MethodName) prog_1_method_8_code (2 : Nat) (Option.some Jvm.ClassFile.FieldType.boolean)) ∈ lw_tbl := in_tb 809 (by decide +kernel)
theorem wt_817 : (Jvm.Cond.methodLink "BranchingStoryLaw" (33 : Nat) ({ cls := "BranchingStory", name := "label", desc := "(I)I" } : Jvm.MethodName)) ∈ lw_tbl := in_tb 817 (by decide +kernel)
theorem wt_818 : (Jvm.Cond.instanceMethod ({ cls := "BranchingStory", name := "label", desc := "(I)I" } : Jvm.MethodName)) ∈ lw_tbl := in_tb 818 (by decide +kernel)
theorem wt_819 : (Jvm.Cond.selects "BranchingStory" ({ cls := "BranchingStory", name := "label", desc := "(I)I" } : Jvm.MethodName) ({ cls := "BranchingStory", name := "label", desc := "(I)I" } : Jvm.MethodName)) ∈ lw_tbl := in_tb 819 (by decide +kernel)
theorem wt_820 : (Jvm.Cond.code ({ cls := "BranchingStory", name := "label", desc := "(I)I" } : Jvm.MethodName) prog_1_method_9_code (2 : Nat) (Option.some Jvm.ClassFile.FieldType.int)) ∈ lw_tbl := in_tb 820 (by decide +kernel)
theorem wt_829 : (Jvm.Cond.methodLink "BranchingStoryLaw" (36 : Nat) ({ cls := "BranchingStory", name := "nodeOf", desc := "(I)I" } : Jvm.MethodName)) ∈ lw_tbl := in_tb 829 (by decide +kernel)
theorem wt_830 : (Jvm.Cond.instanceMethod ({ cls := "BranchingStory", name := "nodeOf", desc := "(I)I" } : Jvm.MethodName)) ∈ lw_tbl := in_tb 830 (by decide +kernel)
theorem wt_831 : (Jvm.Cond.selects "BranchingStory" ({ cls := "BranchingStory", name := "nodeOf", desc := "(I)I" } : Jvm.MethodName) ({ cls := "BranchingStory", name := "nodeOf", desc := "(I)I" } : Jvm.MethodName)) ∈ lw_tbl := in_tb 831 (by decide +kernel)
theorem wt_832 : (Jvm.Cond.code ({ cls := "BranchingStory", name := "nodeOf", desc := "(I)I" } : Jvm.MethodName) prog_1_method_10_code (2 : Nat) (Option.some Jvm.ClassFile.FieldType.int)) ∈ lw_tbl := in_tb 832 (by decide +kernel)
theorem wt_836 : (Jvm.Cond.methodLink "BranchingStoryLaw" (39 : Nat) ({ cls := "BranchingStory", name := "start", desc := "()I" } : Jvm.MethodName)) ∈ lw_tbl := in_tb 836 (by decide +kernel)
theorem wt_837 : (Jvm.Cond.instanceMethod ({ cls := "BranchingStory", name := "start", desc := "()I" } : Jvm.MethodName)) ∈ lw_tbl := in_tb 837 (by decide +kernel)
theorem wt_838 : (Jvm.Cond.selects "BranchingStory" ({ cls := "BranchingStory", name := "start", desc := "()I" } : Jvm.MethodName) ({ cls := "BranchingStory", name := "start", desc := "()I" } : Jvm.MethodName)) ∈ lw_tbl := in_tb 838 (by decide +kernel)
theorem wt_839 : (Jvm.Cond.code ({ cls := "BranchingStory", name := "start", desc := "()I" } : Jvm.MethodName) prog_1_method_11_code (1 : Nat) (Option.some Jvm.ClassFile.FieldType.int)) ∈ lw_tbl := in_tb 839 (by decide +kernel)
theorem wt_909 : (Jvm.Cond.methodLink "BranchingStoryLaw" (42 : Nat) ({ cls := "BranchingStory", name := "choose", desc := "(I)I" } : Jvm.MethodName)) ∈ lw_tbl := in_tb 909 (by decide +kernel)
theorem wt_910 : (Jvm.Cond.instanceMethod ({ cls := "BranchingStory", name := "choose", desc := "(I)I" } : Jvm.MethodName)) ∈ lw_tbl := in_tb 910 (by decide +kernel)
theorem wt_911 : (Jvm.Cond.selects "BranchingStory" ({ cls := "BranchingStory", name := "choose", desc := "(I)I" } : Jvm.MethodName) ({ cls := "BranchingStory", name := "choose", desc := "(I)I" } : Jvm.MethodName)) ∈ lw_tbl := in_tb 911 (by decide +kernel)
theorem wt_912 : (Jvm.Cond.code ({ cls := "BranchingStory", name := "choose", desc := "(I)I" } : Jvm.MethodName) prog_1_method_12_code (2 : Nat) (Option.some Jvm.ClassFile.FieldType.int)) ∈ lw_tbl := in_tb 912 (by decide +kernel)
theorem wt_948 : (Jvm.Cond.methodLink "BranchingStoryLaw" (45 : Nat) ({ cls := "BranchingStory", name := "back", desc := "()I" } : Jvm.MethodName)) ∈ lw_tbl := in_tb 948 (by decide +kernel)
theorem wt_949 : (Jvm.Cond.instanceMethod ({ cls := "BranchingStory", name := "back", desc := "()I" } : Jvm.MethodName)) ∈ lw_tbl := in_tb 949 (by decide +kernel)
theorem wt_950 : (Jvm.Cond.selects "BranchingStory" ({ cls := "BranchingStory", name := "back", desc := "()I" } : Jvm.MethodName) ({ cls := "BranchingStory", name := "back", desc := "()I" } : Jvm.MethodName)) ∈ lw_tbl := in_tb 950 (by decide +kernel)
theorem wt_951 : (Jvm.Cond.code ({ cls := "BranchingStory", name := "back", desc := "()I" } : Jvm.MethodName) prog_1_method_13_code (1 : Nat) (Option.some Jvm.ClassFile.FieldType.int)) ∈ lw_tbl := in_tb 951 (by decide +kernel)
theorem wt_969 : (Jvm.Cond.methodLink "BranchingStoryLaw" (48 : Nat) ({ cls := "BranchingStory", name := "choice", desc := "(I)I" } : Jvm.MethodName)) ∈ lw_tbl := in_tb 969 (by decide +kernel)
theorem wt_970 : (Jvm.Cond.instanceMethod ({ cls := "BranchingStory", name := "choice", desc := "(I)I" } : Jvm.MethodName)) ∈ lw_tbl := in_tb 970 (by decide +kernel)
theorem wt_971 : (Jvm.Cond.selects "BranchingStory" ({ cls := "BranchingStory", name := "choice", desc := "(I)I" } : Jvm.MethodName) ({ cls := "BranchingStory", name := "choice", desc := "(I)I" } : Jvm.MethodName)) ∈ lw_tbl := in_tb 971 (by decide +kernel)
theorem wt_972 : (Jvm.Cond.code ({ cls := "BranchingStory", name := "choice", desc := "(I)I" } : Jvm.MethodName) prog_1_method_19_code (2 : Nat) (Option.some Jvm.ClassFile.FieldType.int)) ∈ lw_tbl := in_tb 972 (by decide +kernel)
theorem wt_977 : (Jvm.Cond.methodLink "BranchingStoryLaw" (51 : Nat) ({ cls := "BranchingStory", name := "flag", desc := "(I)I" } : Jvm.MethodName)) ∈ lw_tbl := in_tb 977 (by decide +kernel)
theorem wt_978 : (Jvm.Cond.instanceMethod ({ cls := "BranchingStory", name := "flag", desc := "(I)I" } : Jvm.MethodName)) ∈ lw_tbl := in_tb 978 (by decide +kernel)
theorem wt_979 : (Jvm.Cond.selects "BranchingStory" ({ cls := "BranchingStory", name := "flag", desc := "(I)I" } : Jvm.MethodName) ({ cls := "BranchingStory", name := "flag", desc := "(I)I" } : Jvm.MethodName)) ∈ lw_tbl := in_tb 979 (by decide +kernel)
theorem wt_980 : (Jvm.Cond.code ({ cls := "BranchingStory", name := "flag", desc := "(I)I" } : Jvm.MethodName) prog_1_method_20_code (2 : Nat) (Option.some Jvm.ClassFile.FieldType.int)) ∈ lw_tbl := in_tb 980 (by decide +kernel)
theorem wt_988 : (Jvm.Cond.methodLink "BranchingStoryLaw" (54 : Nat) ({ cls := "BranchingStory", name := "meter", desc := "(I)I" } : Jvm.MethodName)) ∈ lw_tbl := in_tb 988 (by decide +kernel)
theorem wt_989 : (Jvm.Cond.instanceMethod ({ cls := "BranchingStory", name := "meter", desc := "(I)I" } : Jvm.MethodName)) ∈ lw_tbl := in_tb 989 (by decide +kernel)
theorem wt_990 : (Jvm.Cond.selects "BranchingStory" ({ cls := "BranchingStory", name := "meter", desc := "(I)I" } : Jvm.MethodName) ({ cls := "BranchingStory", name := "meter", desc := "(I)I" } : Jvm.MethodName)) ∈ lw_tbl := in_tb 990 (by decide +kernel)
theorem wt_991 : (Jvm.Cond.code ({ cls := "BranchingStory", name := "meter", desc := "(I)I" } : Jvm.MethodName) prog_1_method_21_code (2 : Nat) (Option.some Jvm.ClassFile.FieldType.int)) ∈ lw_tbl := in_tb 991 (by decide +kernel)
theorem wt_1000 : (Jvm.Cond.methodLink "BranchingStoryLaw" (57 : Nat) ({ cls := "BranchingStory", name := "line", desc := "(I)I" } : Jvm.MethodName)) ∈ lw_tbl := in_tb 1000 (by decide +kernel)
theorem wt_1001 : (Jvm.Cond.instanceMethod ({ cls := "BranchingStory", name := "line", desc := "(I)I" } : Jvm.MethodName)) ∈ lw_tbl := in_tb 1001 (by decide +kernel)
theorem wt_1002 : (Jvm.Cond.selects "BranchingStory" ({ cls := "BranchingStory", name := "line", desc := "(I)I" } : Jvm.MethodName) ({ cls := "BranchingStory", name := "line", desc := "(I)I" } : Jvm.MethodName)) ∈ lw_tbl := in_tb 1002 (by decide +kernel)
theorem wt_1003 : (Jvm.Cond.code ({ cls := "BranchingStory", name := "line", desc := "(I)I" } : Jvm.MethodName) prog_1_method_23_code (2 : Nat) (Option.some Jvm.ClassFile.FieldType.int)) ∈ lw_tbl := in_tb 1003 (by decide +kernel)
theorem wt_1012 : (Jvm.Cond.methodLink "BranchingStoryLaw" (60 : Nat) ({ cls := "BranchingStory", name := "explore", desc := "(I)I" } : Jvm.MethodName)) ∈ lw_tbl := in_tb 1012 (by decide +kernel)
theorem wt_1013 : (Jvm.Cond.instanceMethod ({ cls := "BranchingStory", name := "explore", desc := "(I)I" } : Jvm.MethodName)) ∈ lw_tbl := in_tb 1013 (by decide +kernel)
theorem wt_1014 : (Jvm.Cond.selects "BranchingStory" ({ cls := "BranchingStory", name := "explore", desc := "(I)I" } : Jvm.MethodName) ({ cls := "BranchingStory", name := "explore", desc := "(I)I" } : Jvm.MethodName)) ∈ lw_tbl := in_tb 1014 (by decide +kernel)
theorem wt_1015 : (Jvm.Cond.code ({ cls := "BranchingStory", name := "explore", desc := "(I)I" } : Jvm.MethodName) prog_1_method_24_code (2 : Nat) (Option.some Jvm.ClassFile.FieldType.int)) ∈ lw_tbl := in_tb 1015 (by decide +kernel)
theorem wt_1052 : (Jvm.Cond.methodLink "BranchingStoryLaw" (63 : Nat) ({ cls := "BranchingStory", name := "isComplete", desc := "()Z" } : Jvm.MethodName)) ∈ lw_tbl := in_tb 1052 (by decide +kernel)
theorem wt_1053 : (Jvm.Cond.instanceMethod ({ cls := "BranchingStory", name := "isComplete", desc := "()Z" } : Jvm.MethodName)) ∈ lw_tbl := in_tb 1053 (by decide +kernel)
theorem wt_1054 : (Jvm.Cond.selects "BranchingStory" ({ cls := "BranchingStory", name := "isComplete", desc := "()Z" } : Jvm.MethodName) ({ cls := "BranchingStory", name := "isComplete", desc := "()Z" } : Jvm.MethodName)) ∈ lw_tbl := in_tb 1054 (by decide +kernel)
theorem wt_1055 : (Jvm.Cond.code ({ cls := "BranchingStory", name := "isComplete", desc := "()Z" } : Jvm.MethodName) prog_1_method_25_code (1 : Nat) (Option.some Jvm.ClassFile.FieldType.boolean)) ∈ lw_tbl := in_tb 1055 (by decide +kernel)
theorem wt_1064 : (Jvm.Cond.methodLink "BranchingStoryLaw" (67 : Nat) ({ cls := "BranchingStory", name := "wayLength", desc := "(I)I" } : Jvm.MethodName)) ∈ lw_tbl := in_tb 1064 (by decide +kernel)
theorem wt_1065 : (Jvm.Cond.instanceMethod ({ cls := "BranchingStory", name := "wayLength", desc := "(I)I" } : Jvm.MethodName)) ∈ lw_tbl := in_tb 1065 (by decide +kernel)
theorem wt_1066 : (Jvm.Cond.selects "BranchingStory" ({ cls := "BranchingStory", name := "wayLength", desc := "(I)I" } : Jvm.MethodName) ({ cls := "BranchingStory", name := "wayLength", desc := "(I)I" } : Jvm.MethodName)) ∈ lw_tbl := in_tb 1066 (by decide +kernel)
theorem wt_1067 : (Jvm.Cond.code ({ cls := "BranchingStory", name := "wayLength", desc := "(I)I" } : Jvm.MethodName) prog_1_method_26_code (2 : Nat) (Option.some Jvm.ClassFile.FieldType.int)) ∈ lw_tbl := in_tb 1067 (by decide +kernel)
theorem wt_1075 : (Jvm.Cond.methodLink "BranchingStoryLaw" (70 : Nat) ({ cls := "BranchingStory", name := "way", desc := "(II)I" } : Jvm.MethodName)) ∈ lw_tbl := in_tb 1075 (by decide +kernel)
theorem wt_1076 : (Jvm.Cond.instanceMethod ({ cls := "BranchingStory", name := "way", desc := "(II)I" } : Jvm.MethodName)) ∈ lw_tbl := in_tb 1076 (by decide +kernel)
theorem wt_1077 : (Jvm.Cond.selects "BranchingStory" ({ cls := "BranchingStory", name := "way", desc := "(II)I" } : Jvm.MethodName) ({ cls := "BranchingStory", name := "way", desc := "(II)I" } : Jvm.MethodName)) ∈ lw_tbl := in_tb 1077 (by decide +kernel)
theorem wt_1078 : (Jvm.Cond.code ({ cls := "BranchingStory", name := "way", desc := "(II)I" } : Jvm.MethodName) prog_1_method_27_code (3 : Nat) (Option.some Jvm.ClassFile.FieldType.int)) ∈ lw_tbl := in_tb 1078 (by decide +kernel)
theorem wt_1087 : (Jvm.Cond.methodLink "BranchingStoryLaw" (74 : Nat) ({ cls := "BranchingStory", name := "outcomes", desc := "(I)I" } : Jvm.MethodName)) ∈ lw_tbl := in_tb 1087 (by decide +kernel)
theorem wt_1088 : (Jvm.Cond.instanceMethod ({ cls := "BranchingStory", name := "outcomes", desc := "(I)I" } : Jvm.MethodName)) ∈ lw_tbl := in_tb 1088 (by decide +kernel)
theorem wt_1089 : (Jvm.Cond.selects "BranchingStory" ({ cls := "BranchingStory", name := "outcomes", desc := "(I)I" } : Jvm.MethodName) ({ cls := "BranchingStory", name := "outcomes", desc := "(I)I" } : Jvm.MethodName)) ∈ lw_tbl := in_tb 1089 (by decide +kernel)
theorem wt_1090 : (Jvm.Cond.code ({ cls := "BranchingStory", name := "outcomes", desc := "(I)I" } : Jvm.MethodName) prog_1_method_28_code (2 : Nat) (Option.some Jvm.ClassFile.FieldType.int)) ∈ lw_tbl := in_tb 1090 (by decide +kernel)
theorem wt_1094 : (Jvm.Cond.methodLink "BranchingStoryLaw" (77 : Nat) ({ cls := "BranchingStory", name := "occurred", desc := "(II)Z" } : Jvm.MethodName)) ∈ lw_tbl := in_tb 1094 (by decide +kernel)
theorem wt_1095 : (Jvm.Cond.instanceMethod ({ cls := "BranchingStory", name := "occurred", desc := "(II)Z" } : Jvm.MethodName)) ∈ lw_tbl := in_tb 1095 (by decide +kernel)
theorem wt_1096 : (Jvm.Cond.selects "BranchingStory" ({ cls := "BranchingStory", name := "occurred", desc := "(II)Z" } : Jvm.MethodName) ({ cls := "BranchingStory", name := "occurred", desc := "(II)Z" } : Jvm.MethodName)) ∈ lw_tbl := in_tb 1096 (by decide +kernel)
theorem wt_1097 : (Jvm.Cond.code ({ cls := "BranchingStory", name := "occurred", desc := "(II)Z" } : Jvm.MethodName) prog_1_method_29_code (3 : Nat) (Option.some Jvm.ClassFile.FieldType.boolean)) ∈ lw_tbl := in_tb 1097 (by decide +kernel)
theorem wt_1105 : (Jvm.Cond.methodLink "BranchingStoryLaw" (81 : Nat) ({ cls := "BranchingStory", name := "analyze", desc := "()I" } : Jvm.MethodName)) ∈ lw_tbl := in_tb 1105 (by decide +kernel)
theorem wt_1106 : (Jvm.Cond.instanceMethod ({ cls := "BranchingStory", name := "analyze", desc := "()I" } : Jvm.MethodName)) ∈ lw_tbl := in_tb 1106 (by decide +kernel)
theorem wt_1107 : (Jvm.Cond.selects "BranchingStory" ({ cls := "BranchingStory", name := "analyze", desc := "()I" } : Jvm.MethodName) ({ cls := "BranchingStory", name := "analyze", desc := "()I" } : Jvm.MethodName)) ∈ lw_tbl := in_tb 1107 (by decide +kernel)
theorem wt_1108 : (Jvm.Cond.code ({ cls := "BranchingStory", name := "analyze", desc := "()I" } : Jvm.MethodName) prog_1_method_30_code (1 : Nat) (Option.some Jvm.ClassFile.FieldType.int)) ∈ lw_tbl := in_tb 1108 (by decide +kernel)
theorem wt_1242 : (Jvm.Cond.methodLink "BranchingStoryLaw" (84 : Nat) ({ cls := "BranchingStory", name := "isReached", desc := "(II)Z" } : Jvm.MethodName)) ∈ lw_tbl := in_tb 1242 (by decide +kernel)
theorem wt_1243 : (Jvm.Cond.instanceMethod ({ cls := "BranchingStory", name := "isReached", desc := "(II)Z" } : Jvm.MethodName)) ∈ lw_tbl := in_tb 1243 (by decide +kernel)
theorem wt_1244 : (Jvm.Cond.selects "BranchingStory" ({ cls := "BranchingStory", name := "isReached", desc := "(II)Z" } : Jvm.MethodName) ({ cls := "BranchingStory", name := "isReached", desc := "(II)Z" } : Jvm.MethodName)) ∈ lw_tbl := in_tb 1244 (by decide +kernel)
theorem wt_1245 : (Jvm.Cond.code ({ cls := "BranchingStory", name := "isReached", desc := "(II)Z" } : Jvm.MethodName) prog_1_method_31_code (3 : Nat) (Option.some Jvm.ClassFile.FieldType.boolean)) ∈ lw_tbl := in_tb 1245 (by decide +kernel)
theorem wt_1254 : (Jvm.Cond.methodLink "BranchingStoryLaw" (87 : Nat) ({ cls := "BranchingStory", name := "lowest", desc := "(II)I" } : Jvm.MethodName)) ∈ lw_tbl := in_tb 1254 (by decide +kernel)
theorem wt_1255 : (Jvm.Cond.instanceMethod ({ cls := "BranchingStory", name := "lowest", desc := "(II)I" } : Jvm.MethodName)) ∈ lw_tbl := in_tb 1255 (by decide +kernel)
theorem wt_1256 : (Jvm.Cond.selects "BranchingStory" ({ cls := "BranchingStory", name := "lowest", desc := "(II)I" } : Jvm.MethodName) ({ cls := "BranchingStory", name := "lowest", desc := "(II)I" } : Jvm.MethodName)) ∈ lw_tbl := in_tb 1256 (by decide +kernel)
theorem wt_1257 : (Jvm.Cond.code ({ cls := "BranchingStory", name := "lowest", desc := "(II)I" } : Jvm.MethodName) prog_1_method_32_code (5 : Nat) (Option.some Jvm.ClassFile.FieldType.int)) ∈ lw_tbl := in_tb 1257 (by decide +kernel)
theorem wt_1262 : (Jvm.Cond.methodLink "BranchingStoryLaw" (90 : Nat) ({ cls := "BranchingStory", name := "greatest", desc := "(II)I" } : Jvm.MethodName)) ∈ lw_tbl := in_tb 1262 (by decide +kernel)
theorem wt_1263 : (Jvm.Cond.instanceMethod ({ cls := "BranchingStory", name := "greatest", desc := "(II)I" } : Jvm.MethodName)) ∈ lw_tbl := in_tb 1263 (by decide +kernel)
theorem wt_1264 : (Jvm.Cond.selects "BranchingStory" ({ cls := "BranchingStory", name := "greatest", desc := "(II)I" } : Jvm.MethodName) ({ cls := "BranchingStory", name := "greatest", desc := "(II)I" } : Jvm.MethodName)) ∈ lw_tbl := in_tb 1264 (by decide +kernel)
theorem wt_1265 : (Jvm.Cond.code ({ cls := "BranchingStory", name := "greatest", desc := "(II)I" } : Jvm.MethodName) prog_1_method_33_code (5 : Nat) (Option.some Jvm.ClassFile.FieldType.int)) ∈ lw_tbl := in_tb 1265 (by decide +kernel)
theorem wt_1270 : (Jvm.Cond.methodLink "BranchingStoryLaw" (93 : Nat) ({ cls := "BranchingStory", name := "values", desc := "(II)I" } : Jvm.MethodName)) ∈ lw_tbl := in_tb 1270 (by decide +kernel)
theorem wt_1271 : (Jvm.Cond.instanceMethod ({ cls := "BranchingStory", name := "values", desc := "(II)I" } : Jvm.MethodName)) ∈ lw_tbl := in_tb 1271 (by decide +kernel)
theorem wt_1272 : (Jvm.Cond.selects "BranchingStory" ({ cls := "BranchingStory", name := "values", desc := "(II)I" } : Jvm.MethodName) ({ cls := "BranchingStory", name := "values", desc := "(II)I" } : Jvm.MethodName)) ∈ lw_tbl := in_tb 1272 (by decide +kernel)
theorem wt_1273 : (Jvm.Cond.code ({ cls := "BranchingStory", name := "values", desc := "(II)I" } : Jvm.MethodName) prog_1_method_34_code (3 : Nat) (Option.some Jvm.ClassFile.FieldType.int)) ∈ lw_tbl := in_tb 1273 (by decide +kernel)
theorem wt_1280 : (Jvm.Cond.methodLink "BranchingStoryLaw" (96 : Nat) ({ cls := "BranchingStory", name := "hubs", desc := "(I)I" } : Jvm.MethodName)) ∈ lw_tbl := in_tb 1280 (by decide +kernel)
theorem wt_1281 : (Jvm.Cond.instanceMethod ({ cls := "BranchingStory", name := "hubs", desc := "(I)I" } : Jvm.MethodName)) ∈ lw_tbl := in_tb 1281 (by decide +kernel)
theorem wt_1282 : (Jvm.Cond.selects "BranchingStory" ({ cls := "BranchingStory", name := "hubs", desc := "(I)I" } : Jvm.MethodName) ({ cls := "BranchingStory", name := "hubs", desc := "(I)I" } : Jvm.MethodName)) ∈ lw_tbl := in_tb 1282 (by decide +kernel)
theorem wt_1283 : (Jvm.Cond.code ({ cls := "BranchingStory", name := "hubs", desc := "(I)I" } : Jvm.MethodName) prog_1_method_35_code (2 : Nat) (Option.some Jvm.ClassFile.FieldType.int)) ∈ lw_tbl := in_tb 1283 (by decide +kernel)
theorem wt_1288 : (Jvm.Cond.methodLink "BranchingStoryLaw" (99 : Nat) ({ cls := "BranchingStory", name := "verdict", desc := "(I)I" } : Jvm.MethodName)) ∈ lw_tbl := in_tb 1288 (by decide +kernel)
theorem wt_1289 : (Jvm.Cond.instanceMethod ({ cls := "BranchingStory", name := "verdict", desc := "(I)I" } : Jvm.MethodName)) ∈ lw_tbl := in_tb 1289 (by decide +kernel)
theorem wt_1290 : (Jvm.Cond.selects "BranchingStory" ({ cls := "BranchingStory", name := "verdict", desc := "(I)I" } : Jvm.MethodName) ({ cls := "BranchingStory", name := "verdict", desc := "(I)I" } : Jvm.MethodName)) ∈ lw_tbl := in_tb 1290 (by decide +kernel)
theorem wt_1291 : (Jvm.Cond.code ({ cls := "BranchingStory", name := "verdict", desc := "(I)I" } : Jvm.MethodName) prog_1_method_36_code (2 : Nat) (Option.some Jvm.ClassFile.FieldType.int)) ∈ lw_tbl := in_tb 1291 (by decide +kernel)
theorem wt_1296 : (Jvm.Cond.methodLink "BranchingStoryLaw" (102 : Nat) ({ cls := "BranchingStory", name := "possible", desc := "(I)I" } : Jvm.MethodName)) ∈ lw_tbl := in_tb 1296 (by decide +kernel)
theorem wt_1297 : (Jvm.Cond.instanceMethod ({ cls := "BranchingStory", name := "possible", desc := "(I)I" } : Jvm.MethodName)) ∈ lw_tbl := in_tb 1297 (by decide +kernel)
theorem wt_1298 : (Jvm.Cond.selects "BranchingStory" ({ cls := "BranchingStory", name := "possible", desc := "(I)I" } : Jvm.MethodName) ({ cls := "BranchingStory", name := "possible", desc := "(I)I" } : Jvm.MethodName)) ∈ lw_tbl := in_tb 1298 (by decide +kernel)
theorem wt_1299 : (Jvm.Cond.code ({ cls := "BranchingStory", name := "possible", desc := "(I)I" } : Jvm.MethodName) prog_1_method_37_code (2 : Nat) (Option.some Jvm.ClassFile.FieldType.int)) ∈ lw_tbl := in_tb 1299 (by decide +kernel)
theorem cs_L_7 : CVw RL 7 yX9_type cX9_type 2 (some .int) 1 := ⟨Or.inl wt_646, wt_647, wt_648, wt_1, wt_649, by decide, by decide, by decide +kernel⟩
theorem cs_L_17 : CVw RL 17 yX9_build cX9_build 2 (some .int) 0 := ⟨Or.inl wt_737, wt_738, wt_739, wt_1, wt_740, by decide, by decide, by decide +kernel⟩
theorem cs_L_21 : CVw RL 21 yX9_count cX9_count 2 (some .int) 1 := ⟨Or.inl wt_770, wt_771, wt_772, wt_1, wt_773, by decide, by decide, by decide +kernel⟩
theorem cs_L_24 : CVw RL 24 yX9_name cX9_name 2 (some .int) 1 := ⟨Or.inl wt_779, wt_780, wt_781, wt_1, wt_782, by decide, by decide, by decide +kernel⟩
theorem cs_L_29 : CVw RL 29 yX9_isHub cX9_isHub 2 (some .boolean) 1 := ⟨Or.inl wt_806, wt_807, wt_808, wt_1, wt_809, by decide, by decide, by decide +kernel⟩
theorem cs_L_33 : CVw RL 33 yX9_label cX9_label 2 (some .int) 1 := ⟨Or.inl wt_817, wt_818, wt_819, wt_1, wt_820, by decide, by decide, by decide +kernel⟩
theorem cs_L_36 : CVw RL 36 yX9_nodeOf cX9_nodeOf 2 (some .int) 1 := ⟨Or.inl wt_829, wt_830, wt_831, wt_1, wt_832, by decide, by decide, by decide +kernel⟩
theorem cs_L_39 : CVw RL 39 yX9_start cX9_start 1 (some .int) 0 := ⟨Or.inl wt_836, wt_837, wt_838, wt_1, wt_839, by decide, by decide, by decide +kernel⟩
theorem cs_L_42 : CVw RL 42 yX9_choose cX9_choose 2 (some .int) 1 := ⟨Or.inl wt_909, wt_910, wt_911, wt_1, wt_912, by decide, by decide, by decide +kernel⟩
theorem cs_L_45 : CVw RL 45 yX9_back cX9_back 1 (some .int) 0 := ⟨Or.inl wt_948, wt_949, wt_950, wt_1, wt_951, by decide, by decide, by decide +kernel⟩
theorem cs_L_48 : CVw RL 48 yX9_choice cX9_choice 2 (some .int) 1 := ⟨Or.inl wt_969, wt_970, wt_971, wt_1, wt_972, by decide, by decide, by decide +kernel⟩
theorem cs_L_51 : CVw RL 51 yX9_flag cX9_flag 2 (some .int) 1 := ⟨Or.inl wt_977, wt_978, wt_979, wt_1, wt_980, by decide, by decide, by decide +kernel⟩
theorem cs_L_54 : CVw RL 54 yX9_meter cX9_meter 2 (some .int) 1 := ⟨Or.inl wt_988, wt_989, wt_990, wt_1, wt_991, by decide, by decide, by decide +kernel⟩
theorem cs_L_57 : CVw RL 57 yX9_line cX9_line 2 (some .int) 1 := ⟨Or.inl wt_1000, wt_1001, wt_1002, wt_1, wt_1003, by decide, by decide, by decide +kernel⟩
theorem cs_L_60 : CVw RL 60 yX9_explore cX9_explore 2 (some .int) 1 := ⟨Or.inl wt_1012, wt_1013, wt_1014, wt_1, wt_1015, by decide, by decide, by decide +kernel⟩
theorem cs_L_63 : CVw RL 63 yX9_isComplete cX9_isComplete 1 (some .boolean) 0 := ⟨Or.inl wt_1052, wt_1053, wt_1054, wt_1, wt_1055, by decide, by decide, by decide +kernel⟩
theorem cs_L_67 : CVw RL 67 yX9_wayLength cX9_wayLength 2 (some .int) 1 := ⟨Or.inl wt_1064, wt_1065, wt_1066, wt_1, wt_1067, by decide, by decide, by decide +kernel⟩
theorem cs_L_70 : CVw RL 70 yX9_way cX9_way 3 (some .int) 2 := ⟨Or.inl wt_1075, wt_1076, wt_1077, wt_1, wt_1078, by decide, by decide, by decide +kernel⟩
theorem cs_L_74 : CVw RL 74 yX9_outcomes cX9_outcomes 2 (some .int) 1 := ⟨Or.inl wt_1087, wt_1088, wt_1089, wt_1, wt_1090, by decide, by decide, by decide +kernel⟩
theorem cs_L_77 : CVw RL 77 yX9_occurred cX9_occurred 3 (some .boolean) 2 := ⟨Or.inl wt_1094, wt_1095, wt_1096, wt_1, wt_1097, by decide, by decide, by decide +kernel⟩
theorem cs_L_81 : CVw RL 81 yX9_analyze cX9_analyze 1 (some .int) 0 := ⟨Or.inl wt_1105, wt_1106, wt_1107, wt_1, wt_1108, by decide, by decide, by decide +kernel⟩
theorem cs_L_84 : CVw RL 84 yX9_isReached cX9_isReached 3 (some .boolean) 2 := ⟨Or.inl wt_1242, wt_1243, wt_1244, wt_1, wt_1245, by decide, by decide, by decide +kernel⟩
theorem cs_L_87 : CVw RL 87 yX9_lowest cX9_lowest 5 (some .int) 2 := ⟨Or.inl wt_1254, wt_1255, wt_1256, wt_1, wt_1257, by decide, by decide, by decide +kernel⟩
theorem cs_L_90 : CVw RL 90 yX9_greatest cX9_greatest 5 (some .int) 2 := ⟨Or.inl wt_1262, wt_1263, wt_1264, wt_1, wt_1265, by decide, by decide, by decide +kernel⟩
theorem cs_L_93 : CVw RL 93 yX9_values cX9_values 3 (some .int) 2 := ⟨Or.inl wt_1270, wt_1271, wt_1272, wt_1, wt_1273, by decide, by decide, by decide +kernel⟩
theorem cs_L_96 : CVw RL 96 yX9_hubs cX9_hubs 2 (some .int) 1 := ⟨Or.inl wt_1280, wt_1281, wt_1282, wt_1, wt_1283, by decide, by decide, by decide +kernel⟩
theorem cs_L_99 : CVw RL 99 yX9_verdict cX9_verdict 2 (some .int) 1 := ⟨Or.inl wt_1288, wt_1289, wt_1290, wt_1, wt_1291, by decide, by decide, by decide +kernel⟩
theorem cs_L_102 : CVw RL 102 yX9_possible cX9_possible 2 (some .int) 1 := ⟨Or.inl wt_1296, wt_1297, wt_1298, wt_1, wt_1299, by decide, by decide, by decide +kernel⟩
def f_L_type (a1 : Int) (σ : St) (Q : St → Int → Prop) : Prop :=
  f_X9_type a1 (ssub σ 0) (fun u r => ∀ σ1 : St, σ1 = mC σ u → ∀ σ2 : St, σ2 = sset σ1 117 0 (i2l64 r) → Q σ2 0) (fun e u => ∀ σ1 : St, σ1 = mC σ u → (e = IAE ∧ Q σ1 1) ∨ (e = ISE ∧ Q σ1 2))
set_option maxRecDepth 100000 in
set_option maxHeartbeats 4000000 in
theorem c_L_type (l : Launch) (hst : l.stackTraces = false) (Y : Cy) (hD : ∀ σ, va_D Y.2.2.2 (wsOf KW Y.2.1 Y.2.2.1 σ)) {a1 : Int} {σ : St} {Q : St → Int → Prop} (h : f_L_type a1 σ Q) : Hon l yL_type cL_type 4 [(0, 9, 12, 13), (0, 9, 15, 15)] (rmX 7 111) Y σ [.inr (.inr 0), .inl a1, .inr (.inr 117)] Q := hcon_of (lv := [(0, .inr (.inr 0)), (1, .inl a1), (2, .inr (.inr 117))]) (by decide) hst hD (Nat.le_of_ble_eq_true rfl) rfl (fun X _ ok oh => by
  have ok : Ok X Y KW cL_type 4 RL (rmX 7 111) (some .int) := ok
  unfold f_L_type at h
  refine l_aload_n ok dL_type_0 2 rfl ?_
  refine l_iconst ok dL_type_1 ?_
  refine l_aload_n ok dL_type_2 0 rfl ?_
  refine l_iload_n ok dL_type_3 1 rfl ?_
  refine h_try (st := [.inl 0, .inr (.inr 117)]) ok oh.2.2.1 cs_L_7 wt_646 kW_0 rfl (fr_X sub_C (inj_ok ok) (A_ok ok sub_C) (c_X9_type X.2.1 oh.1 (Ysub Y 0 KC.length) (Ysub_D sub_C (inj_ok ok)) h)) ⟨rfl, rfl, Nat.le_of_ble_eq_true rfl, Nat.le_of_ble_eq_true rfl⟩ ⟨Nat.le_of_ble_eq_true rfl, Nat.le_of_ble_eq_true rfl⟩ rfl rfl (Nat.le_of_ble_eq_true rfl) dL_type_4 (fun e σ' hE => ?_) (fun σ1 r1 h => ?_)
  · obtain ⟨u, hE, hu⟩ := hE
    rcases hE σ' hu with ⟨rfl, hq⟩ | ⟨rfl, hq⟩
    · exact h_handN ok [] ⟨0, 9, 12, 13⟩ [⟨0, 9, 15, 15⟩] oh.2.1 (fun z hz => by cases hz) rfl (by decide) wt_644 (cast_IAE oh.2.2.1 _) dL_type_12 (by decide) dL_type_13 dL_type_14 hq
    · exact h_handN ok [⟨0, 9, 12, 13⟩] ⟨0, 9, 15, 15⟩ [] oh.2.1 (fun z hz => Or.inr (by rw [List.mem_singleton.mp hz]; exact ⟨by decide, IAE, ok.2.2.2.2.2.2.2.1.word wt_644 rfl _, oh.2.2.2.1⟩)) rfl (by decide) wt_645 (cast_ISE oh.2.2.1 _) dL_type_15 (by decide) dL_type_16 dL_type_17 hq
  · obtain ⟨u, h, hu⟩ := h
    have h := h σ1 hu
    refine l_i2l ok dL_type_7 ?_
    refine l_last ok kW_ok kW_117 (by decide) (by decide) dL_type_8 (l_s (fun σ2 eσ2 => ?_))
    have h := h σ2 eσ2
    refine l_goto (tgt := 18) ok dL_type_9 (by decide) ?_
    refine l_iconst ok dL_type_18 ?_
    exact h_iret ok dL_type_19 h)
def f_L_build (σ : St) (Q : St → Int → Prop) : Prop :=
  f_X9_build (ssub σ 0) (fun u r => ∀ σ1 : St, σ1 = mC σ u → ∀ σ2 : St, σ2 = sset σ1 117 0 (i2l64 r) → Q σ2 0) (fun e u => ∀ σ1 : St, σ1 = mC σ u → (e = ISE ∧ Q σ1 1))
set_option maxRecDepth 100000 in
set_option maxHeartbeats 4000000 in
theorem c_L_build (l : Launch) (hst : l.stackTraces = false) (Y : Cy) (hD : ∀ σ, va_D Y.2.2.2 (wsOf KW Y.2.1 Y.2.2.1 σ)) {σ : St} {Q : St → Int → Prop} (h : f_L_build σ Q) : Hon l yL_build cL_build 3 [(0, 8, 11, 15)] (rmX 8 179) Y σ [.inr (.inr 0), .inr (.inr 117)] Q := hcon_of (lv := [(0, .inr (.inr 0)), (1, .inr (.inr 117))]) (by decide) hst hD (Nat.le_of_ble_eq_true rfl) rfl (fun X _ ok oh => by
  have ok : Ok X Y KW cL_build 3 RL (rmX 8 179) (some .int) := ok
  unfold f_L_build at h
  refine l_aload_n ok dL_build_0 1 rfl ?_
  refine l_iconst ok dL_build_1 ?_
  refine l_aload_n ok dL_build_2 0 rfl ?_
  refine h_try (st := [.inl 0, .inr (.inr 117)]) ok oh.2.2.1 cs_L_17 wt_737 kW_0 rfl (fr_X sub_C (inj_ok ok) (A_ok ok sub_C) (c_X9_build X.2.1 oh.1 (Ysub Y 0 KC.length) (Ysub_D sub_C (inj_ok ok)) h)) ⟨rfl, rfl, Nat.le_of_ble_eq_true rfl, Nat.le_of_ble_eq_true rfl⟩ ⟨Nat.le_of_ble_eq_true rfl, Nat.le_of_ble_eq_true rfl⟩ rfl rfl (Nat.le_of_ble_eq_true rfl) dL_build_3 (fun e σ' hE => ?_) (fun σ1 r1 h => ?_)
  · obtain ⟨u, hE, hu⟩ := hE
    obtain ⟨rfl, hq⟩ := hE σ' hu
    exact h_handN ok [] ⟨0, 8, 11, 15⟩ [] oh.2.1 (fun z hz => by cases hz) rfl (by decide) wt_645 (cast_ISE oh.2.2.1 _) dL_build_11 (by decide) dL_build_12 dL_build_13 hq
  · obtain ⟨u, h, hu⟩ := h
    have h := h σ1 hu
    refine l_i2l ok dL_build_6 ?_
    refine l_last ok kW_ok kW_117 (by decide) (by decide) dL_build_7 (l_s (fun σ2 eσ2 => ?_))
    have h := h σ2 eσ2
    refine l_goto (tgt := 14) ok dL_build_8 (by decide) ?_
    refine l_iconst ok dL_build_14 ?_
    exact h_iret ok dL_build_15 h)
def f_L_count (a1 : Int) (σ : St) (Q : St → Int → Prop) : Prop :=
  f_X9_count a1 (ssub σ 0) (fun u r => ∀ σ1 : St, σ1 = mC σ u → ∀ σ2 : St, σ2 = sset σ1 117 0 (i2l64 r) → Q σ2 0) (fun e u => ∀ σ1 : St, σ1 = mC σ u → (e = IAE ∧ Q σ1 1))
set_option maxRecDepth 100000 in
set_option maxHeartbeats 4000000 in
theorem c_L_count (l : Launch) (hst : l.stackTraces = false) (Y : Cy) (hD : ∀ σ, va_D Y.2.2.2 (wsOf KW Y.2.1 Y.2.2.1 σ)) {a1 : Int} {σ : St} {Q : St → Int → Prop} (h : f_L_count a1 σ Q) : Hon l yL_count cL_count 4 [(0, 9, 12, 13)] (rmX 7 111) Y σ [.inr (.inr 0), .inl a1, .inr (.inr 117)] Q := hcon_of (lv := [(0, .inr (.inr 0)), (1, .inl a1), (2, .inr (.inr 117))]) (by decide) hst hD (Nat.le_of_ble_eq_true rfl) rfl (fun X _ ok oh => by
  have ok : Ok X Y KW cL_count 4 RL (rmX 7 111) (some .int) := ok
  unfold f_L_count at h
  refine l_aload_n ok dL_count_0 2 rfl ?_
  refine l_iconst ok dL_count_1 ?_
  refine l_aload_n ok dL_count_2 0 rfl ?_
  refine l_iload_n ok dL_count_3 1 rfl ?_
  refine h_try (st := [.inl 0, .inr (.inr 117)]) ok oh.2.2.1 cs_L_21 wt_770 kW_0 rfl (fr_X sub_C (inj_ok ok) (A_ok ok sub_C) (c_X9_count X.2.1 oh.1 (Ysub Y 0 KC.length) (Ysub_D sub_C (inj_ok ok)) h)) ⟨rfl, rfl, Nat.le_of_ble_eq_true rfl, Nat.le_of_ble_eq_true rfl⟩ ⟨Nat.le_of_ble_eq_true rfl, Nat.le_of_ble_eq_true rfl⟩ rfl rfl (Nat.le_of_ble_eq_true rfl) dL_count_4 (fun e σ' hE => ?_) (fun σ1 r1 h => ?_)
  · obtain ⟨u, hE, hu⟩ := hE
    obtain ⟨rfl, hq⟩ := hE σ' hu
    exact h_handN ok [] ⟨0, 9, 12, 13⟩ [] oh.2.1 (fun z hz => by cases hz) rfl (by decide) wt_644 (cast_IAE oh.2.2.1 _) dL_count_12 (by decide) dL_count_13 dL_count_14 hq
  · obtain ⟨u, h, hu⟩ := h
    have h := h σ1 hu
    refine l_i2l ok dL_count_7 ?_
    refine l_last ok kW_ok kW_117 (by decide) (by decide) dL_count_8 (l_s (fun σ2 eσ2 => ?_))
    have h := h σ2 eσ2
    refine l_goto (tgt := 15) ok dL_count_9 (by decide) ?_
    refine l_iconst ok dL_count_15 ?_
    exact h_iret ok dL_count_16 h)
def f_L_name (a1 : Int) (σ : St) (Q : St → Int → Prop) : Prop :=
  f_X9_name a1 (ssub σ 0) (fun u r => ∀ σ1 : St, σ1 = mC σ u → ∀ σ2 : St, σ2 = sset σ1 117 0 (i2l64 r) → Q σ2 0) (fun e u => ∀ σ1 : St, σ1 = mC σ u → (e = IOE ∧ Q σ1 1))
set_option maxRecDepth 100000 in
set_option maxHeartbeats 4000000 in
theorem c_L_name (l : Launch) (hst : l.stackTraces = false) (Y : Cy) (hD : ∀ σ, va_D Y.2.2.2 (wsOf KW Y.2.1 Y.2.2.1 σ)) {a1 : Int} {σ : St} {Q : St → Int → Prop} (h : f_L_name a1 σ Q) : Hon l yL_name cL_name 4 [(0, 9, 12, 27)] (rmX 8 132) Y σ [.inr (.inr 0), .inl a1, .inr (.inr 117)] Q := hcon_of (lv := [(0, .inr (.inr 0)), (1, .inl a1), (2, .inr (.inr 117))]) (by decide) hst hD (Nat.le_of_ble_eq_true rfl) rfl (fun X _ ok oh => by
  have ok : Ok X Y KW cL_name 4 RL (rmX 8 132) (some .int) := ok
  unfold f_L_name at h
  refine l_aload_n ok dL_name_0 2 rfl ?_
  refine l_iconst ok dL_name_1 ?_
  refine l_aload_n ok dL_name_2 0 rfl ?_
  refine l_iload_n ok dL_name_3 1 rfl ?_
  refine h_try (st := [.inl 0, .inr (.inr 117)]) ok oh.2.2.1 cs_L_24 wt_779 kW_0 rfl (fr_X sub_C (inj_ok ok) (A_ok ok sub_C) (c_X9_name X.2.1 oh.1 (Ysub Y 0 KC.length) (Ysub_D sub_C (inj_ok ok)) h)) ⟨rfl, rfl, Nat.le_of_ble_eq_true rfl, Nat.le_of_ble_eq_true rfl⟩ ⟨Nat.le_of_ble_eq_true rfl, Nat.le_of_ble_eq_true rfl⟩ rfl rfl (Nat.le_of_ble_eq_true rfl) dL_name_4 (fun e σ' hE => ?_) (fun σ1 r1 h => ?_)
  · obtain ⟨u, hE, hu⟩ := hE
    obtain ⟨rfl, hq⟩ := hE σ' hu
    exact h_handN ok [] ⟨0, 9, 12, 27⟩ [] oh.2.1 (fun z hz => by cases hz) rfl (by decide) wt_778 (cast_IOE oh.2.2.1 _) dL_name_12 (by decide) dL_name_13 dL_name_14 hq
  · obtain ⟨u, h, hu⟩ := h
    have h := h σ1 hu
    refine l_i2l ok dL_name_7 ?_
    refine l_last ok kW_ok kW_117 (by decide) (by decide) dL_name_8 (l_s (fun σ2 eσ2 => ?_))
    have h := h σ2 eσ2
    refine l_goto (tgt := 15) ok dL_name_9 (by decide) ?_
    refine l_iconst ok dL_name_15 ?_
    exact h_iret ok dL_name_16 h)
def f_L_isHub (a1 : Int) (σ : St) (Q : St → Int → Prop) : Prop :=
  f_X9_isHub a1 (ssub σ 0) (fun u r => ∀ σ1 : St, σ1 = mC σ u → inR r ∧ ((r = 0 → ∀ σ2 : St, σ2 = sset σ1 117 0 0 → Q σ2 0) ∧ (¬ r = 0 → ∀ σ2 : St, σ2 = sset σ1 117 0 1 → Q σ2 0))) (fun e u => ∀ σ1 : St, σ1 = mC σ u → (e = IOE ∧ Q σ1 1))
set_option maxRecDepth 100000 in
set_option maxHeartbeats 4000000 in
theorem c_L_isHub (l : Launch) (hst : l.stackTraces = false) (Y : Cy) (hD : ∀ σ, va_D Y.2.2.2 (wsOf KW Y.2.1 Y.2.2.1 σ)) {a1 : Int} {σ : St} {Q : St → Int → Prop} (h : f_L_isHub a1 σ Q) : Hon l yL_isHub cL_isHub 4 [(0, 16, 19, 27)] (rmX 8 132) Y σ [.inr (.inr 0), .inl a1, .inr (.inr 117)] Q := hcon_of (lv := [(0, .inr (.inr 0)), (1, .inl a1), (2, .inr (.inr 117))]) (by decide) hst hD (Nat.le_of_ble_eq_true rfl) rfl (fun X _ ok oh => by
  have ok : Ok X Y KW cL_isHub 4 RL (rmX 8 132) (some .int) := ok
  unfold f_L_isHub at h
  refine l_aload_n ok dL_isHub_0 2 rfl ?_
  refine l_iconst ok dL_isHub_1 ?_
  refine l_aload_n ok dL_isHub_2 0 rfl ?_
  refine l_iload_n ok dL_isHub_3 1 rfl ?_
  refine h_try (st := [.inl 0, .inr (.inr 117)]) ok oh.2.2.1 cs_L_29 wt_806 kW_0 rfl (fr_X sub_C (inj_ok ok) (A_ok ok sub_C) (c_X9_isHub X.2.1 oh.1 (Ysub Y 0 KC.length) (Ysub_D sub_C (inj_ok ok)) h)) ⟨rfl, rfl, Nat.le_of_ble_eq_true rfl, Nat.le_of_ble_eq_true rfl⟩ ⟨Nat.le_of_ble_eq_true rfl, Nat.le_of_ble_eq_true rfl⟩ rfl rfl (Nat.le_of_ble_eq_true rfl) dL_isHub_4 (fun e σ' hE => ?_) (fun σ1 r1 h => ?_)
  · obtain ⟨u, hE, hu⟩ := hE
    obtain ⟨rfl, hq⟩ := hE σ' hu
    exact h_handN ok [] ⟨0, 16, 19, 27⟩ [] oh.2.1 (fun z hz => by cases hz) rfl (by decide) wt_778 (cast_IOE oh.2.2.1 _) dL_isHub_19 (by decide) dL_isHub_20 dL_isHub_21 hq
  · obtain ⟨u, h, hu⟩ := h
    have h := h σ1 hu
    obtain ⟨g1, ha, hb⟩ := h
    refine l_if_eq (tgt := 14) ok dL_isHub_7 (by decide) g1 (fun c1 => ?_) (fun c1 => ?_)
    · have h := ha c1
      refine l_lconst ok dL_isHub_14 0 rfl ?_
      refine l_last ok kW_ok kW_117 (by decide) (by decide) dL_isHub_15 (l_s (fun σ2 eσ2 => ?_))
      have h := h σ2 eσ2
      refine l_goto (tgt := 22) ok dL_isHub_16 (by decide) ?_
      refine l_iconst ok dL_isHub_22 ?_
      exact h_iret ok dL_isHub_23 h
    · have h := hb c1
      refine l_lconst ok dL_isHub_10 1 rfl ?_
      refine l_goto (tgt := 15) ok dL_isHub_11 (by decide) ?_
      refine l_last ok kW_ok kW_117 (by decide) (by decide) dL_isHub_15 (l_s (fun σ2 eσ2 => ?_))
      have h := h σ2 eσ2
      refine l_goto (tgt := 22) ok dL_isHub_16 (by decide) ?_
      refine l_iconst ok dL_isHub_22 ?_
      exact h_iret ok dL_isHub_23 h)
def f_L_label (a1 : Int) (σ : St) (Q : St → Int → Prop) : Prop :=
  f_X9_label a1 (ssub σ 0) (fun u r => ∀ σ1 : St, σ1 = mC σ u → ∀ σ2 : St, σ2 = sset σ1 117 0 (i2l64 r) → Q σ2 0) (fun e u => ∀ σ1 : St, σ1 = mC σ u → (e = IOE ∧ Q σ1 1))
set_option maxRecDepth 100000 in
set_option maxHeartbeats 4000000 in
theorem c_L_label (l : Launch) (hst : l.stackTraces = false) (Y : Cy) (hD : ∀ σ, va_D Y.2.2.2 (wsOf KW Y.2.1 Y.2.2.1 σ)) {a1 : Int} {σ : St} {Q : St → Int → Prop} (h : f_L_label a1 σ Q) : Hon l yL_label cL_label 4 [(0, 9, 12, 27)] (rmX 8 132) Y σ [.inr (.inr 0), .inl a1, .inr (.inr 117)] Q := hcon_of (lv := [(0, .inr (.inr 0)), (1, .inl a1), (2, .inr (.inr 117))]) (by decide) hst hD (Nat.le_of_ble_eq_true rfl) rfl (fun X _ ok oh => by
  have ok : Ok X Y KW cL_label 4 RL (rmX 8 132) (some .int) := ok
  unfold f_L_label at h
  refine l_aload_n ok dL_label_0 2 rfl ?_
  refine l_iconst ok dL_label_1 ?_
  refine l_aload_n ok dL_label_2 0 rfl ?_
  refine l_iload_n ok dL_label_3 1 rfl ?_
  refine h_try (st := [.inl 0, .inr (.inr 117)]) ok oh.2.2.1 cs_L_33 wt_817 kW_0 rfl (fr_X sub_C (inj_ok ok) (A_ok ok sub_C) (c_X9_label X.2.1 oh.1 (Ysub Y 0 KC.length) (Ysub_D sub_C (inj_ok ok)) h)) ⟨rfl, rfl, Nat.le_of_ble_eq_true rfl, Nat.le_of_ble_eq_true rfl⟩ ⟨Nat.le_of_ble_eq_true rfl, Nat.le_of_ble_eq_true rfl⟩ rfl rfl (Nat.le_of_ble_eq_true rfl) dL_label_4 (fun e σ' hE => ?_) (fun σ1 r1 h => ?_)
  · obtain ⟨u, hE, hu⟩ := hE
    obtain ⟨rfl, hq⟩ := hE σ' hu
    exact h_handN ok [] ⟨0, 9, 12, 27⟩ [] oh.2.1 (fun z hz => by cases hz) rfl (by decide) wt_778 (cast_IOE oh.2.2.1 _) dL_label_12 (by decide) dL_label_13 dL_label_14 hq
  · obtain ⟨u, h, hu⟩ := h
    have h := h σ1 hu
    refine l_i2l ok dL_label_7 ?_
    refine l_last ok kW_ok kW_117 (by decide) (by decide) dL_label_8 (l_s (fun σ2 eσ2 => ?_))
    have h := h σ2 eσ2
    refine l_goto (tgt := 15) ok dL_label_9 (by decide) ?_
    refine l_iconst ok dL_label_15 ?_
    exact h_iret ok dL_label_16 h)
def f_L_nodeOf (a1 : Int) (σ : St) (Q : St → Int → Prop) : Prop :=
  f_X9_nodeOf a1 (ssub σ 0) (fun u r => ∀ σ1 : St, σ1 = mC σ u → ∀ σ2 : St, σ2 = sset σ1 117 0 (i2l64 r) → Q σ2 0) (fun e u => ∀ σ1 : St, σ1 = mC σ u → (e = IOE ∧ Q σ1 1))
set_option maxRecDepth 100000 in
set_option maxHeartbeats 4000000 in
theorem c_L_nodeOf (l : Launch) (hst : l.stackTraces = false) (Y : Cy) (hD : ∀ σ, va_D Y.2.2.2 (wsOf KW Y.2.1 Y.2.2.1 σ)) {a1 : Int} {σ : St} {Q : St → Int → Prop} (h : f_L_nodeOf a1 σ Q) : Hon l yL_nodeOf cL_nodeOf 4 [(0, 9, 12, 27)] (rmX 8 132) Y σ [.inr (.inr 0), .inl a1, .inr (.inr 117)] Q := hcon_of (lv := [(0, .inr (.inr 0)), (1, .inl a1), (2, .inr (.inr 117))]) (by decide) hst hD (Nat.le_of_ble_eq_true rfl) rfl (fun X _ ok oh => by
  have ok : Ok X Y KW cL_nodeOf 4 RL (rmX 8 132) (some .int) := ok
  unfold f_L_nodeOf at h
  refine l_aload_n ok dL_nodeOf_0 2 rfl ?_
  refine l_iconst ok dL_nodeOf_1 ?_
  refine l_aload_n ok dL_nodeOf_2 0 rfl ?_
  refine l_iload_n ok dL_nodeOf_3 1 rfl ?_
  refine h_try (st := [.inl 0, .inr (.inr 117)]) ok oh.2.2.1 cs_L_36 wt_829 kW_0 rfl (fr_X sub_C (inj_ok ok) (A_ok ok sub_C) (c_X9_nodeOf X.2.1 oh.1 (Ysub Y 0 KC.length) (Ysub_D sub_C (inj_ok ok)) h)) ⟨rfl, rfl, Nat.le_of_ble_eq_true rfl, Nat.le_of_ble_eq_true rfl⟩ ⟨Nat.le_of_ble_eq_true rfl, Nat.le_of_ble_eq_true rfl⟩ rfl rfl (Nat.le_of_ble_eq_true rfl) dL_nodeOf_4 (fun e σ' hE => ?_) (fun σ1 r1 h => ?_)
  · obtain ⟨u, hE, hu⟩ := hE
    obtain ⟨rfl, hq⟩ := hE σ' hu
    exact h_handN ok [] ⟨0, 9, 12, 27⟩ [] oh.2.1 (fun z hz => by cases hz) rfl (by decide) wt_778 (cast_IOE oh.2.2.1 _) dL_nodeOf_12 (by decide) dL_nodeOf_13 dL_nodeOf_14 hq
  · obtain ⟨u, h, hu⟩ := h
    have h := h σ1 hu
    refine l_i2l ok dL_nodeOf_7 ?_
    refine l_last ok kW_ok kW_117 (by decide) (by decide) dL_nodeOf_8 (l_s (fun σ2 eσ2 => ?_))
    have h := h σ2 eσ2
    refine l_goto (tgt := 15) ok dL_nodeOf_9 (by decide) ?_
    refine l_iconst ok dL_nodeOf_15 ?_
    exact h_iret ok dL_nodeOf_16 h)
def f_L_start (σ : St) (Q : St → Int → Prop) : Prop :=
  f_X9_start (ssub σ 0) (fun u r => ∀ σ1 : St, σ1 = mC σ u → ∀ σ2 : St, σ2 = sset σ1 117 0 (i2l64 r) → Q σ2 0) (fun e u => ∀ σ1 : St, σ1 = mC σ u → (e = ISE ∧ Q σ1 1))
set_option maxRecDepth 100000 in
set_option maxHeartbeats 4000000 in
theorem c_L_start (l : Launch) (hst : l.stackTraces = false) (Y : Cy) (hD : ∀ σ, va_D Y.2.2.2 (wsOf KW Y.2.1 Y.2.2.1 σ)) {σ : St} {Q : St → Int → Prop} (h : f_L_start σ Q) : Hon l yL_start cL_start 3 [(0, 8, 11, 15)] (rmX 8 161) Y σ [.inr (.inr 0), .inr (.inr 117)] Q := hcon_of (lv := [(0, .inr (.inr 0)), (1, .inr (.inr 117))]) (by decide) hst hD (Nat.le_of_ble_eq_true rfl) rfl (fun X _ ok oh => by
  have ok : Ok X Y KW cL_start 3 RL (rmX 8 161) (some .int) := ok
  unfold f_L_start at h
  refine l_aload_n ok dL_start_0 1 rfl ?_
  refine l_iconst ok dL_start_1 ?_
  refine l_aload_n ok dL_start_2 0 rfl ?_
  refine h_try (st := [.inl 0, .inr (.inr 117)]) ok oh.2.2.1 cs_L_39 wt_836 kW_0 rfl (fr_X sub_C (inj_ok ok) (A_ok ok sub_C) (c_X9_start X.2.1 oh.1 (Ysub Y 0 KC.length) (Ysub_D sub_C (inj_ok ok)) h)) ⟨rfl, rfl, Nat.le_of_ble_eq_true rfl, Nat.le_of_ble_eq_true rfl⟩ ⟨Nat.le_of_ble_eq_true rfl, Nat.le_of_ble_eq_true rfl⟩ rfl rfl (Nat.le_of_ble_eq_true rfl) dL_start_3 (fun e σ' hE => ?_) (fun σ1 r1 h => ?_)
  · obtain ⟨u, hE, hu⟩ := hE
    obtain ⟨rfl, hq⟩ := hE σ' hu
    exact h_handN ok [] ⟨0, 8, 11, 15⟩ [] oh.2.1 (fun z hz => by cases hz) rfl (by decide) wt_645 (cast_ISE oh.2.2.1 _) dL_start_11 (by decide) dL_start_12 dL_start_13 hq
  · obtain ⟨u, h, hu⟩ := h
    have h := h σ1 hu
    refine l_i2l ok dL_start_6 ?_
    refine l_last ok kW_ok kW_117 (by decide) (by decide) dL_start_7 (l_s (fun σ2 eσ2 => ?_))
    have h := h σ2 eσ2
    refine l_goto (tgt := 14) ok dL_start_8 (by decide) ?_
    refine l_iconst ok dL_start_14 ?_
    exact h_iret ok dL_start_15 h)
def f_L_choose (a1 : Int) (σ : St) (Q : St → Int → Prop) : Prop :=
  f_X9_choose a1 (ssub σ 0) (fun u r => ∀ σ1 : St, σ1 = mC σ u → ∀ σ2 : St, σ2 = sset σ1 117 0 (i2l64 r) → Q σ2 0) (fun e u => ∀ σ1 : St, σ1 = mC σ u → (e = ISE ∧ Q σ1 1) ∨ (e = IOE ∧ Q σ1 2))
set_option maxRecDepth 100000 in
set_option maxHeartbeats 4000000 in
theorem c_L_choose (l : Launch) (hst : l.stackTraces = false) (Y : Cy) (hD : ∀ σ, va_D Y.2.2.2 (wsOf KW Y.2.1 Y.2.2.1 σ)) {a1 : Int} {σ : St} {Q : St → Int → Prop} (h : f_L_choose a1 σ Q) : Hon l yL_choose cL_choose 4 [(0, 9, 12, 15), (0, 9, 15, 27)] (rmX 8 163) Y σ [.inr (.inr 0), .inl a1, .inr (.inr 117)] Q := hcon_of (lv := [(0, .inr (.inr 0)), (1, .inl a1), (2, .inr (.inr 117))]) (by decide) hst hD (Nat.le_of_ble_eq_true rfl) rfl (fun X _ ok oh => by
  have ok : Ok X Y KW cL_choose 4 RL (rmX 8 163) (some .int) := ok
  unfold f_L_choose at h
  refine l_aload_n ok dL_choose_0 2 rfl ?_
  refine l_iconst ok dL_choose_1 ?_
  refine l_aload_n ok dL_choose_2 0 rfl ?_
  refine l_iload_n ok dL_choose_3 1 rfl ?_
  refine h_try (st := [.inl 0, .inr (.inr 117)]) ok oh.2.2.1 cs_L_42 wt_909 kW_0 rfl (fr_X sub_C (inj_ok ok) (A_ok ok sub_C) (c_X9_choose X.2.1 oh.1 (Ysub Y 0 KC.length) (Ysub_D sub_C (inj_ok ok)) h)) ⟨rfl, rfl, Nat.le_of_ble_eq_true rfl, Nat.le_of_ble_eq_true rfl⟩ ⟨Nat.le_of_ble_eq_true rfl, Nat.le_of_ble_eq_true rfl⟩ rfl rfl (Nat.le_of_ble_eq_true rfl) dL_choose_4 (fun e σ' hE => ?_) (fun σ1 r1 h => ?_)
  · obtain ⟨u, hE, hu⟩ := hE
    rcases hE σ' hu with ⟨rfl, hq⟩ | ⟨rfl, hq⟩
    · exact h_handN ok [] ⟨0, 9, 12, 15⟩ [⟨0, 9, 15, 27⟩] oh.2.1 (fun z hz => by cases hz) rfl (by decide) wt_645 (cast_ISE oh.2.2.1 _) dL_choose_12 (by decide) dL_choose_13 dL_choose_14 hq
    · exact h_handN ok [⟨0, 9, 12, 15⟩] ⟨0, 9, 15, 27⟩ [] oh.2.1 (fun z hz => Or.inr (by rw [List.mem_singleton.mp hz]; exact ⟨by decide, ISE, ok.2.2.2.2.2.2.2.1.word wt_645 rfl _, oh.2.2.2.2.2⟩)) rfl (by decide) wt_778 (cast_IOE oh.2.2.1 _) dL_choose_15 (by decide) dL_choose_16 dL_choose_17 hq
  · obtain ⟨u, h, hu⟩ := h
    have h := h σ1 hu
    refine l_i2l ok dL_choose_7 ?_
    refine l_last ok kW_ok kW_117 (by decide) (by decide) dL_choose_8 (l_s (fun σ2 eσ2 => ?_))
    have h := h σ2 eσ2
    refine l_goto (tgt := 18) ok dL_choose_9 (by decide) ?_
    refine l_iconst ok dL_choose_18 ?_
    exact h_iret ok dL_choose_19 h)
def f_L_back (σ : St) (Q : St → Int → Prop) : Prop :=
  f_X9_back (ssub σ 0) (fun u r => ∀ σ1 : St, σ1 = mC σ u → ∀ σ2 : St, σ2 = sset σ1 117 0 (i2l64 r) → Q σ2 0) (fun e u => ∀ σ1 : St, σ1 = mC σ u → (e = ISE ∧ Q σ1 1))
set_option maxRecDepth 100000 in
set_option maxHeartbeats 4000000 in
theorem c_L_back (l : Launch) (hst : l.stackTraces = false) (Y : Cy) (hD : ∀ σ, va_D Y.2.2.2 (wsOf KW Y.2.1 Y.2.2.1 σ)) {σ : St} {Q : St → Int → Prop} (h : f_L_back σ Q) : Hon l yL_back cL_back 3 [(0, 8, 11, 15)] (rmX 7 110) Y σ [.inr (.inr 0), .inr (.inr 117)] Q := hcon_of (lv := [(0, .inr (.inr 0)), (1, .inr (.inr 117))]) (by decide) hst hD (Nat.le_of_ble_eq_true rfl) rfl (fun X _ ok oh => by
  have ok : Ok X Y KW cL_back 3 RL (rmX 7 110) (some .int) := ok
  unfold f_L_back at h
  refine l_aload_n ok dL_back_0 1 rfl ?_
  refine l_iconst ok dL_back_1 ?_
  refine l_aload_n ok dL_back_2 0 rfl ?_
  refine h_try (st := [.inl 0, .inr (.inr 117)]) ok oh.2.2.1 cs_L_45 wt_948 kW_0 rfl (fr_X sub_C (inj_ok ok) (A_ok ok sub_C) (c_X9_back X.2.1 oh.1 (Ysub Y 0 KC.length) (Ysub_D sub_C (inj_ok ok)) h)) ⟨rfl, rfl, Nat.le_of_ble_eq_true rfl, Nat.le_of_ble_eq_true rfl⟩ ⟨Nat.le_of_ble_eq_true rfl, Nat.le_of_ble_eq_true rfl⟩ rfl rfl (Nat.le_of_ble_eq_true rfl) dL_back_3 (fun e σ' hE => ?_) (fun σ1 r1 h => ?_)
  · obtain ⟨u, hE, hu⟩ := hE
    obtain ⟨rfl, hq⟩ := hE σ' hu
    exact h_handN ok [] ⟨0, 8, 11, 15⟩ [] oh.2.1 (fun z hz => by cases hz) rfl (by decide) wt_645 (cast_ISE oh.2.2.1 _) dL_back_11 (by decide) dL_back_12 dL_back_13 hq
  · obtain ⟨u, h, hu⟩ := h
    have h := h σ1 hu
    refine l_i2l ok dL_back_6 ?_
    refine l_last ok kW_ok kW_117 (by decide) (by decide) dL_back_7 (l_s (fun σ2 eσ2 => ?_))
    have h := h σ2 eσ2
    refine l_goto (tgt := 14) ok dL_back_8 (by decide) ?_
    refine l_iconst ok dL_back_14 ?_
    exact h_iret ok dL_back_15 h)
def f_L_choice (a1 : Int) (σ : St) (Q : St → Int → Prop) : Prop :=
  f_X9_choice a1 (ssub σ 0) (fun u r => ∀ σ1 : St, σ1 = mC σ u → ∀ σ2 : St, σ2 = sset σ1 117 0 (i2l64 r) → Q σ2 0) (fun e u => ∀ σ1 : St, σ1 = mC σ u → (e = IOE ∧ Q σ1 1))
set_option maxRecDepth 100000 in
set_option maxHeartbeats 4000000 in
theorem c_L_choice (l : Launch) (hst : l.stackTraces = false) (Y : Cy) (hD : ∀ σ, va_D Y.2.2.2 (wsOf KW Y.2.1 Y.2.2.1 σ)) {a1 : Int} {σ : St} {Q : St → Int → Prop} (h : f_L_choice a1 σ Q) : Hon l yL_choice cL_choice 4 [(0, 9, 12, 27)] (rmX 8 132) Y σ [.inr (.inr 0), .inl a1, .inr (.inr 117)] Q := hcon_of (lv := [(0, .inr (.inr 0)), (1, .inl a1), (2, .inr (.inr 117))]) (by decide) hst hD (Nat.le_of_ble_eq_true rfl) rfl (fun X _ ok oh => by
  have ok : Ok X Y KW cL_choice 4 RL (rmX 8 132) (some .int) := ok
  unfold f_L_choice at h
  refine l_aload_n ok dL_choice_0 2 rfl ?_
  refine l_iconst ok dL_choice_1 ?_
  refine l_aload_n ok dL_choice_2 0 rfl ?_
  refine l_iload_n ok dL_choice_3 1 rfl ?_
  refine h_try (st := [.inl 0, .inr (.inr 117)]) ok oh.2.2.1 cs_L_48 wt_969 kW_0 rfl (fr_X sub_C (inj_ok ok) (A_ok ok sub_C) (c_X9_choice X.2.1 oh.1 (Ysub Y 0 KC.length) (Ysub_D sub_C (inj_ok ok)) h)) ⟨rfl, rfl, Nat.le_of_ble_eq_true rfl, Nat.le_of_ble_eq_true rfl⟩ ⟨Nat.le_of_ble_eq_true rfl, Nat.le_of_ble_eq_true rfl⟩ rfl rfl (Nat.le_of_ble_eq_true rfl) dL_choice_4 (fun e σ' hE => ?_) (fun σ1 r1 h => ?_)
  · obtain ⟨u, hE, hu⟩ := hE
    obtain ⟨rfl, hq⟩ := hE σ' hu
    exact h_handN ok [] ⟨0, 9, 12, 27⟩ [] oh.2.1 (fun z hz => by cases hz) rfl (by decide) wt_778 (cast_IOE oh.2.2.1 _) dL_choice_12 (by decide) dL_choice_13 dL_choice_14 hq
  · obtain ⟨u, h, hu⟩ := h
    have h := h σ1 hu
    refine l_i2l ok dL_choice_7 ?_
    refine l_last ok kW_ok kW_117 (by decide) (by decide) dL_choice_8 (l_s (fun σ2 eσ2 => ?_))
    have h := h σ2 eσ2
    refine l_goto (tgt := 15) ok dL_choice_9 (by decide) ?_
    refine l_iconst ok dL_choice_15 ?_
    exact h_iret ok dL_choice_16 h)
def f_L_flag (a1 : Int) (σ : St) (Q : St → Int → Prop) : Prop :=
  f_X9_flag a1 (ssub σ 0) (fun u r => ∀ σ1 : St, σ1 = mC σ u → ∀ σ2 : St, σ2 = sset σ1 117 0 (i2l64 r) → Q σ2 0) (fun e u => ∀ σ1 : St, σ1 = mC σ u → (e = IAE ∧ Q σ1 1))
set_option maxRecDepth 100000 in
set_option maxHeartbeats 4000000 in
theorem c_L_flag (l : Launch) (hst : l.stackTraces = false) (Y : Cy) (hD : ∀ σ, va_D Y.2.2.2 (wsOf KW Y.2.1 Y.2.2.1 σ)) {a1 : Int} {σ : St} {Q : St → Int → Prop} (h : f_L_flag a1 σ Q) : Hon l yL_flag cL_flag 4 [(0, 9, 12, 13)] (rmX 8 131) Y σ [.inr (.inr 0), .inl a1, .inr (.inr 117)] Q := hcon_of (lv := [(0, .inr (.inr 0)), (1, .inl a1), (2, .inr (.inr 117))]) (by decide) hst hD (Nat.le_of_ble_eq_true rfl) rfl (fun X _ ok oh => by
  have ok : Ok X Y KW cL_flag 4 RL (rmX 8 131) (some .int) := ok
  unfold f_L_flag at h
  refine l_aload_n ok dL_flag_0 2 rfl ?_
  refine l_iconst ok dL_flag_1 ?_
  refine l_aload_n ok dL_flag_2 0 rfl ?_
  refine l_iload_n ok dL_flag_3 1 rfl ?_
  refine h_try (st := [.inl 0, .inr (.inr 117)]) ok oh.2.2.1 cs_L_51 wt_977 kW_0 rfl (fr_X sub_C (inj_ok ok) (A_ok ok sub_C) (c_X9_flag X.2.1 oh.1 (Ysub Y 0 KC.length) (Ysub_D sub_C (inj_ok ok)) h)) ⟨rfl, rfl, Nat.le_of_ble_eq_true rfl, Nat.le_of_ble_eq_true rfl⟩ ⟨Nat.le_of_ble_eq_true rfl, Nat.le_of_ble_eq_true rfl⟩ rfl rfl (Nat.le_of_ble_eq_true rfl) dL_flag_4 (fun e σ' hE => ?_) (fun σ1 r1 h => ?_)
  · obtain ⟨u, hE, hu⟩ := hE
    obtain ⟨rfl, hq⟩ := hE σ' hu
    exact h_handN ok [] ⟨0, 9, 12, 13⟩ [] oh.2.1 (fun z hz => by cases hz) rfl (by decide) wt_644 (cast_IAE oh.2.2.1 _) dL_flag_12 (by decide) dL_flag_13 dL_flag_14 hq
  · obtain ⟨u, h, hu⟩ := h
    have h := h σ1 hu
    refine l_i2l ok dL_flag_7 ?_
    refine l_last ok kW_ok kW_117 (by decide) (by decide) dL_flag_8 (l_s (fun σ2 eσ2 => ?_))
    have h := h σ2 eσ2
    refine l_goto (tgt := 15) ok dL_flag_9 (by decide) ?_
    refine l_iconst ok dL_flag_15 ?_
    exact h_iret ok dL_flag_16 h)
def f_L_meter (a1 : Int) (σ : St) (Q : St → Int → Prop) : Prop :=
  f_X9_meter a1 (ssub σ 0) (fun u r => ∀ σ1 : St, σ1 = mC σ u → ∀ σ2 : St, σ2 = sset σ1 117 0 (i2l64 r) → Q σ2 0) (fun e u => ∀ σ1 : St, σ1 = mC σ u → (e = IAE ∧ Q σ1 1))
set_option maxRecDepth 100000 in
set_option maxHeartbeats 4000000 in
theorem c_L_meter (l : Launch) (hst : l.stackTraces = false) (Y : Cy) (hD : ∀ σ, va_D Y.2.2.2 (wsOf KW Y.2.1 Y.2.2.1 σ)) {a1 : Int} {σ : St} {Q : St → Int → Prop} (h : f_L_meter a1 σ Q) : Hon l yL_meter cL_meter 4 [(0, 9, 12, 13)] (rmX 8 131) Y σ [.inr (.inr 0), .inl a1, .inr (.inr 117)] Q := hcon_of (lv := [(0, .inr (.inr 0)), (1, .inl a1), (2, .inr (.inr 117))]) (by decide) hst hD (Nat.le_of_ble_eq_true rfl) rfl (fun X _ ok oh => by
  have ok : Ok X Y KW cL_meter 4 RL (rmX 8 131) (some .int) := ok
  unfold f_L_meter at h
  refine l_aload_n ok dL_meter_0 2 rfl ?_
  refine l_iconst ok dL_meter_1 ?_
  refine l_aload_n ok dL_meter_2 0 rfl ?_
  refine l_iload_n ok dL_meter_3 1 rfl ?_
  refine h_try (st := [.inl 0, .inr (.inr 117)]) ok oh.2.2.1 cs_L_54 wt_988 kW_0 rfl (fr_X sub_C (inj_ok ok) (A_ok ok sub_C) (c_X9_meter X.2.1 oh.1 (Ysub Y 0 KC.length) (Ysub_D sub_C (inj_ok ok)) h)) ⟨rfl, rfl, Nat.le_of_ble_eq_true rfl, Nat.le_of_ble_eq_true rfl⟩ ⟨Nat.le_of_ble_eq_true rfl, Nat.le_of_ble_eq_true rfl⟩ rfl rfl (Nat.le_of_ble_eq_true rfl) dL_meter_4 (fun e σ' hE => ?_) (fun σ1 r1 h => ?_)
  · obtain ⟨u, hE, hu⟩ := hE
    obtain ⟨rfl, hq⟩ := hE σ' hu
    exact h_handN ok [] ⟨0, 9, 12, 13⟩ [] oh.2.1 (fun z hz => by cases hz) rfl (by decide) wt_644 (cast_IAE oh.2.2.1 _) dL_meter_12 (by decide) dL_meter_13 dL_meter_14 hq
  · obtain ⟨u, h, hu⟩ := h
    have h := h σ1 hu
    refine l_i2l ok dL_meter_7 ?_
    refine l_last ok kW_ok kW_117 (by decide) (by decide) dL_meter_8 (l_s (fun σ2 eσ2 => ?_))
    have h := h σ2 eσ2
    refine l_goto (tgt := 15) ok dL_meter_9 (by decide) ?_
    refine l_iconst ok dL_meter_15 ?_
    exact h_iret ok dL_meter_16 h)
def f_L_line (a1 : Int) (σ : St) (Q : St → Int → Prop) : Prop :=
  f_X9_line a1 (ssub σ 0) (fun u r => ∀ σ1 : St, σ1 = mC σ u → ∀ σ2 : St, σ2 = sset σ1 117 0 (i2l64 r) → Q σ2 0) (fun e u => ∀ σ1 : St, σ1 = mC σ u → (e = IAE ∧ Q σ1 1))
set_option maxRecDepth 100000 in
set_option maxHeartbeats 4000000 in
theorem c_L_line (l : Launch) (hst : l.stackTraces = false) (Y : Cy) (hD : ∀ σ, va_D Y.2.2.2 (wsOf KW Y.2.1 Y.2.2.1 σ)) {a1 : Int} {σ : St} {Q : St → Int → Prop} (h : f_L_line a1 σ Q) : Hon l yL_line cL_line 4 [(0, 9, 12, 13)] (rmX 7 111) Y σ [.inr (.inr 0), .inl a1, .inr (.inr 117)] Q := hcon_of (lv := [(0, .inr (.inr 0)), (1, .inl a1), (2, .inr (.inr 117))]) (by decide) hst hD (Nat.le_of_ble_eq_true rfl) rfl (fun X _ ok oh => by
  have ok : Ok X Y KW cL_line 4 RL (rmX 7 111) (some .int) := ok
  unfold f_L_line at h
  refine l_aload_n ok dL_line_0 2 rfl ?_
  refine l_iconst ok dL_line_1 ?_
  refine l_aload_n ok dL_line_2 0 rfl ?_
  refine l_iload_n ok dL_line_3 1 rfl ?_
  refine h_try (st := [.inl 0, .inr (.inr 117)]) ok oh.2.2.1 cs_L_57 wt_1000 kW_0 rfl (fr_X sub_C (inj_ok ok) (A_ok ok sub_C) (c_X9_line X.2.1 oh.1 (Ysub Y 0 KC.length) (Ysub_D sub_C (inj_ok ok)) h)) ⟨rfl, rfl, Nat.le_of_ble_eq_true rfl, Nat.le_of_ble_eq_true rfl⟩ ⟨Nat.le_of_ble_eq_true rfl, Nat.le_of_ble_eq_true rfl⟩ rfl rfl (Nat.le_of_ble_eq_true rfl) dL_line_4 (fun e σ' hE => ?_) (fun σ1 r1 h => ?_)
  · obtain ⟨u, hE, hu⟩ := hE
    obtain ⟨rfl, hq⟩ := hE σ' hu
    exact h_handN ok [] ⟨0, 9, 12, 13⟩ [] oh.2.1 (fun z hz => by cases hz) rfl (by decide) wt_644 (cast_IAE oh.2.2.1 _) dL_line_12 (by decide) dL_line_13 dL_line_14 hq
  · obtain ⟨u, h, hu⟩ := h
    have h := h σ1 hu
    refine l_i2l ok dL_line_7 ?_
    refine l_last ok kW_ok kW_117 (by decide) (by decide) dL_line_8 (l_s (fun σ2 eσ2 => ?_))
    have h := h σ2 eσ2
    refine l_goto (tgt := 15) ok dL_line_9 (by decide) ?_
    refine l_iconst ok dL_line_15 ?_
    exact h_iret ok dL_line_16 h)
def f_L_explore (a1 : Int) (σ : St) (Q : St → Int → Prop) : Prop :=
  f_X9_explore a1 (ssub σ 0) (fun u r => ∀ σ1 : St, σ1 = mC σ u → ∀ σ2 : St, σ2 = sset σ1 117 0 (i2l64 r) → Q σ2 0) (fun e u => ∀ σ1 : St, σ1 = mC σ u → (e = IAE ∧ Q σ1 1) ∨ (e = ISE ∧ Q σ1 2))
set_option maxRecDepth 100000 in
set_option maxHeartbeats 4000000 in
theorem c_L_explore (l : Launch) (hst : l.stackTraces = false) (Y : Cy) (hD : ∀ σ, va_D Y.2.2.2 (wsOf KW Y.2.1 Y.2.2.1 σ)) {a1 : Int} {σ : St} {Q : St → Int → Prop} (h : f_L_explore a1 σ Q) : Hon l yL_explore cL_explore 4 [(0, 9, 12, 13), (0, 9, 15, 15)] (rmX 8 188) Y σ [.inr (.inr 0), .inl a1, .inr (.inr 117)] Q := hcon_of (lv := [(0, .inr (.inr 0)), (1, .inl a1), (2, .inr (.inr 117))]) (by decide) hst hD (Nat.le_of_ble_eq_true rfl) rfl (fun X _ ok oh => by
  have ok : Ok X Y KW cL_explore 4 RL (rmX 8 188) (some .int) := ok
  unfold f_L_explore at h
  refine l_aload_n ok dL_explore_0 2 rfl ?_
  refine l_iconst ok dL_explore_1 ?_
  refine l_aload_n ok dL_explore_2 0 rfl ?_
  refine l_iload_n ok dL_explore_3 1 rfl ?_
  refine h_try (st := [.inl 0, .inr (.inr 117)]) ok oh.2.2.1 cs_L_60 wt_1012 kW_0 rfl (fr_X sub_C (inj_ok ok) (A_ok ok sub_C) (c_X9_explore X.2.1 oh.1 (Ysub Y 0 KC.length) (Ysub_D sub_C (inj_ok ok)) h)) ⟨rfl, rfl, Nat.le_of_ble_eq_true rfl, Nat.le_of_ble_eq_true rfl⟩ ⟨Nat.le_of_ble_eq_true rfl, Nat.le_of_ble_eq_true rfl⟩ rfl rfl (Nat.le_of_ble_eq_true rfl) dL_explore_4 (fun e σ' hE => ?_) (fun σ1 r1 h => ?_)
  · obtain ⟨u, hE, hu⟩ := hE
    rcases hE σ' hu with ⟨rfl, hq⟩ | ⟨rfl, hq⟩
    · exact h_handN ok [] ⟨0, 9, 12, 13⟩ [⟨0, 9, 15, 15⟩] oh.2.1 (fun z hz => by cases hz) rfl (by decide) wt_644 (cast_IAE oh.2.2.1 _) dL_explore_12 (by decide) dL_explore_13 dL_explore_14 hq
    · exact h_handN ok [⟨0, 9, 12, 13⟩] ⟨0, 9, 15, 15⟩ [] oh.2.1 (fun z hz => Or.inr (by rw [List.mem_singleton.mp hz]; exact ⟨by decide, IAE, ok.2.2.2.2.2.2.2.1.word wt_644 rfl _, oh.2.2.2.1⟩)) rfl (by decide) wt_645 (cast_ISE oh.2.2.1 _) dL_explore_15 (by decide) dL_explore_16 dL_explore_17 hq
  · obtain ⟨u, h, hu⟩ := h
    have h := h σ1 hu
    refine l_i2l ok dL_explore_7 ?_
    refine l_last ok kW_ok kW_117 (by decide) (by decide) dL_explore_8 (l_s (fun σ2 eσ2 => ?_))
    have h := h σ2 eσ2
    refine l_goto (tgt := 18) ok dL_explore_9 (by decide) ?_
    refine l_iconst ok dL_explore_18 ?_
    exact h_iret ok dL_explore_19 h)
def f_L_isComplete (σ : St) (Q : St → Int → Prop) : Prop :=
  f_X9_isComplete (ssub σ 0) (fun u r => ∀ σ1 : St, σ1 = mC σ u → inR r ∧ ((r = 0 → ∀ σ2 : St, σ2 = sset σ1 117 0 0 → Q σ2 0) ∧ (¬ r = 0 → ∀ σ2 : St, σ2 = sset σ1 117 0 1 → Q σ2 0))) (fun e u => ∀ σ1 : St, σ1 = mC σ u → (e = ISE ∧ Q σ1 1))
set_option maxRecDepth 100000 in
set_option maxHeartbeats 4000000 in
theorem c_L_isComplete (l : Launch) (hst : l.stackTraces = false) (Y : Cy) (hD : ∀ σ, va_D Y.2.2.2 (wsOf KW Y.2.1 Y.2.2.1 σ)) {σ : St} {Q : St → Int → Prop} (h : f_L_isComplete σ Q) : Hon l yL_isComplete cL_isComplete 3 [(0, 15, 18, 15)] (rmX 8 130) Y σ [.inr (.inr 0), .inr (.inr 117)] Q := hcon_of (lv := [(0, .inr (.inr 0)), (1, .inr (.inr 117))]) (by decide) hst hD (Nat.le_of_ble_eq_true rfl) rfl (fun X _ ok oh => by
  have ok : Ok X Y KW cL_isComplete 3 RL (rmX 8 130) (some .int) := ok
  unfold f_L_isComplete at h
  refine l_aload_n ok dL_isComplete_0 1 rfl ?_
  refine l_iconst ok dL_isComplete_1 ?_
  refine l_aload_n ok dL_isComplete_2 0 rfl ?_
  refine h_try (st := [.inl 0, .inr (.inr 117)]) ok oh.2.2.1 cs_L_63 wt_1052 kW_0 rfl (fr_X sub_C (inj_ok ok) (A_ok ok sub_C) (c_X9_isComplete X.2.1 oh.1 (Ysub Y 0 KC.length) (Ysub_D sub_C (inj_ok ok)) h)) ⟨rfl, rfl, Nat.le_of_ble_eq_true rfl, Nat.le_of_ble_eq_true rfl⟩ ⟨Nat.le_of_ble_eq_true rfl, Nat.le_of_ble_eq_true rfl⟩ rfl rfl (Nat.le_of_ble_eq_true rfl) dL_isComplete_3 (fun e σ' hE => ?_) (fun σ1 r1 h => ?_)
  · obtain ⟨u, hE, hu⟩ := hE
    obtain ⟨rfl, hq⟩ := hE σ' hu
    exact h_handN ok [] ⟨0, 15, 18, 15⟩ [] oh.2.1 (fun z hz => by cases hz) rfl (by decide) wt_645 (cast_ISE oh.2.2.1 _) dL_isComplete_18 (by decide) dL_isComplete_19 dL_isComplete_20 hq
  · obtain ⟨u, h, hu⟩ := h
    have h := h σ1 hu
    obtain ⟨g1, ha, hb⟩ := h
    refine l_if_eq (tgt := 13) ok dL_isComplete_6 (by decide) g1 (fun c1 => ?_) (fun c1 => ?_)
    · have h := ha c1
      refine l_lconst ok dL_isComplete_13 0 rfl ?_
      refine l_last ok kW_ok kW_117 (by decide) (by decide) dL_isComplete_14 (l_s (fun σ2 eσ2 => ?_))
      have h := h σ2 eσ2
      refine l_goto (tgt := 21) ok dL_isComplete_15 (by decide) ?_
      refine l_iconst ok dL_isComplete_21 ?_
      exact h_iret ok dL_isComplete_22 h
    · have h := hb c1
      refine l_lconst ok dL_isComplete_9 1 rfl ?_
      refine l_goto (tgt := 14) ok dL_isComplete_10 (by decide) ?_
      refine l_last ok kW_ok kW_117 (by decide) (by decide) dL_isComplete_14 (l_s (fun σ2 eσ2 => ?_))
      have h := h σ2 eσ2
      refine l_goto (tgt := 21) ok dL_isComplete_15 (by decide) ?_
      refine l_iconst ok dL_isComplete_21 ?_
      exact h_iret ok dL_isComplete_22 h)
def f_L_wayLength (a1 : Int) (σ : St) (Q : St → Int → Prop) : Prop :=
  f_X9_wayLength a1 (ssub σ 0) (fun u r => ∀ σ1 : St, σ1 = mC σ u → ∀ σ2 : St, σ2 = sset σ1 117 0 (i2l64 r) → Q σ2 0) (fun e u => ∀ σ1 : St, σ1 = mC σ u → (e = IAE ∧ Q σ1 1) ∨ (e = ISE ∧ Q σ1 2))
set_option maxRecDepth 100000 in
set_option maxHeartbeats 4000000 in
theorem c_L_wayLength (l : Launch) (hst : l.stackTraces = false) (Y : Cy) (hD : ∀ σ, va_D Y.2.2.2 (wsOf KW Y.2.1 Y.2.2.1 σ)) {a1 : Int} {σ : St} {Q : St → Int → Prop} (h : f_L_wayLength a1 σ Q) : Hon l yL_wayLength cL_wayLength 4 [(0, 9, 12, 13), (0, 9, 15, 15)] (rmX 8 131) Y σ [.inr (.inr 0), .inl a1, .inr (.inr 117)] Q := hcon_of (lv := [(0, .inr (.inr 0)), (1, .inl a1), (2, .inr (.inr 117))]) (by decide) hst hD (Nat.le_of_ble_eq_true rfl) rfl (fun X _ ok oh => by
  have ok : Ok X Y KW cL_wayLength 4 RL (rmX 8 131) (some .int) := ok
  unfold f_L_wayLength at h
  refine l_aload_n ok dL_wayLength_0 2 rfl ?_
  refine l_iconst ok dL_wayLength_1 ?_
  refine l_aload_n ok dL_wayLength_2 0 rfl ?_
  refine l_iload_n ok dL_wayLength_3 1 rfl ?_
  refine h_try (st := [.inl 0, .inr (.inr 117)]) ok oh.2.2.1 cs_L_67 wt_1064 kW_0 rfl (fr_X sub_C (inj_ok ok) (A_ok ok sub_C) (c_X9_wayLength X.2.1 oh.1 (Ysub Y 0 KC.length) (Ysub_D sub_C (inj_ok ok)) h)) ⟨rfl, rfl, Nat.le_of_ble_eq_true rfl, Nat.le_of_ble_eq_true rfl⟩ ⟨Nat.le_of_ble_eq_true rfl, Nat.le_of_ble_eq_true rfl⟩ rfl rfl (Nat.le_of_ble_eq_true rfl) dL_wayLength_4 (fun e σ' hE => ?_) (fun σ1 r1 h => ?_)
  · obtain ⟨u, hE, hu⟩ := hE
    rcases hE σ' hu with ⟨rfl, hq⟩ | ⟨rfl, hq⟩
    · exact h_handN ok [] ⟨0, 9, 12, 13⟩ [⟨0, 9, 15, 15⟩] oh.2.1 (fun z hz => by cases hz) rfl (by decide) wt_644 (cast_IAE oh.2.2.1 _) dL_wayLength_12 (by decide) dL_wayLength_13 dL_wayLength_14 hq
    · exact h_handN ok [⟨0, 9, 12, 13⟩] ⟨0, 9, 15, 15⟩ [] oh.2.1 (fun z hz => Or.inr (by rw [List.mem_singleton.mp hz]; exact ⟨by decide, IAE, ok.2.2.2.2.2.2.2.1.word wt_644 rfl _, oh.2.2.2.1⟩)) rfl (by decide) wt_645 (cast_ISE oh.2.2.1 _) dL_wayLength_15 (by decide) dL_wayLength_16 dL_wayLength_17 hq
  · obtain ⟨u, h, hu⟩ := h
    have h := h σ1 hu
    refine l_i2l ok dL_wayLength_7 ?_
    refine l_last ok kW_ok kW_117 (by decide) (by decide) dL_wayLength_8 (l_s (fun σ2 eσ2 => ?_))
    have h := h σ2 eσ2
    refine l_goto (tgt := 18) ok dL_wayLength_9 (by decide) ?_
    refine l_iconst ok dL_wayLength_18 ?_
    exact h_iret ok dL_wayLength_19 h)
def f_L_way (a1 : Int) (a2 : Int) (σ : St) (Q : St → Int → Prop) : Prop :=
  f_X9_way a1 a2 (ssub σ 0) (fun u r => ∀ σ1 : St, σ1 = mC σ u → ∀ σ2 : St, σ2 = sset σ1 117 0 (i2l64 r) → Q σ2 0) (fun e u => ∀ σ1 : St, σ1 = mC σ u → (e = IAE ∧ Q σ1 1) ∨ (e = ISE ∧ Q σ1 2) ∨ (e = IOE ∧ Q σ1 3))
set_option maxRecDepth 100000 in
set_option maxHeartbeats 4000000 in
theorem c_L_way (l : Launch) (hst : l.stackTraces = false) (Y : Cy) (hD : ∀ σ, va_D Y.2.2.2 (wsOf KW Y.2.1 Y.2.2.1 σ)) {a1 : Int} {a2 : Int} {σ : St} {Q : St → Int → Prop} (h : f_L_way a1 a2 σ Q) : Hon l yL_way cL_way 5 [(0, 10, 13, 13), (0, 10, 17, 15), (0, 10, 21, 27)] (rmX 8 132) Y σ [.inr (.inr 0), .inl a1, .inl a2, .inr (.inr 117)] Q := hcon_of (lv := [(0, .inr (.inr 0)), (1, .inl a1), (2, .inl a2), (3, .inr (.inr 117))]) (by decide) hst hD (Nat.le_of_ble_eq_true rfl) rfl (fun X _ ok oh => by
  have ok : Ok X Y KW cL_way 5 RL (rmX 8 132) (some .int) := ok
  unfold f_L_way at h
  refine l_aload_n ok dL_way_0 3 rfl ?_
  refine l_iconst ok dL_way_1 ?_
  refine l_aload_n ok dL_way_2 0 rfl ?_
  refine l_iload_n ok dL_way_3 1 rfl ?_
  refine l_iload_n ok dL_way_4 2 rfl ?_
  refine h_try (st := [.inl 0, .inr (.inr 117)]) ok oh.2.2.1 cs_L_70 wt_1075 kW_0 rfl (fr_X sub_C (inj_ok ok) (A_ok ok sub_C) (c_X9_way X.2.1 oh.1 (Ysub Y 0 KC.length) (Ysub_D sub_C (inj_ok ok)) h)) ⟨rfl, rfl, Nat.le_of_ble_eq_true rfl, Nat.le_of_ble_eq_true rfl⟩ ⟨Nat.le_of_ble_eq_true rfl, Nat.le_of_ble_eq_true rfl⟩ rfl rfl (Nat.le_of_ble_eq_true rfl) dL_way_5 (fun e σ' hE => ?_) (fun σ1 r1 h => ?_)
  · obtain ⟨u, hE, hu⟩ := hE
    rcases hE σ' hu with ⟨rfl, hq⟩ | ⟨rfl, hq⟩ | ⟨rfl, hq⟩
    · exact h_hand ok [] ⟨0, 10, 13, 13⟩ [⟨0, 10, 17, 15⟩, ⟨0, 10, 21, 27⟩] oh.2.1 (fun z hz => by cases hz) rfl (by decide) wt_644 (cast_IAE oh.2.2.1 _) dL_way_13 (by decide) dL_way_15 dL_way_16 hq
    · exact h_hand ok [⟨0, 10, 13, 13⟩] ⟨0, 10, 17, 15⟩ [⟨0, 10, 21, 27⟩] oh.2.1 (fun z hz => Or.inr (by rw [List.mem_singleton.mp hz]; exact ⟨by decide, IAE, ok.2.2.2.2.2.2.2.1.word wt_644 rfl _, oh.2.2.2.1⟩)) rfl (by decide) wt_645 (cast_ISE oh.2.2.1 _) dL_way_17 (by decide) dL_way_19 dL_way_20 hq
    · exact h_hand ok [⟨0, 10, 13, 13⟩, ⟨0, 10, 17, 15⟩] ⟨0, 10, 21, 27⟩ [] oh.2.1 (fun z hz => Or.inr (by rcases List.mem_cons.mp hz with hz | hz; (· rw [hz]; exact ⟨by decide, IAE, ok.2.2.2.2.2.2.2.1.word wt_644 rfl _, oh.2.2.2.2.1⟩); (· rw [List.mem_singleton.mp hz]; exact ⟨by decide, ISE, ok.2.2.2.2.2.2.2.1.word wt_645 rfl _, oh.2.2.2.2.2⟩))) rfl (by decide) wt_778 (cast_IOE oh.2.2.1 _) dL_way_21 (by decide) dL_way_23 dL_way_24 hq
  · obtain ⟨u, h, hu⟩ := h
    have h := h σ1 hu
    refine l_i2l ok dL_way_8 ?_
    refine l_last ok kW_ok kW_117 (by decide) (by decide) dL_way_9 (l_s (fun σ2 eσ2 => ?_))
    have h := h σ2 eσ2
    refine l_goto (tgt := 25) ok dL_way_10 (by decide) ?_
    refine l_iconst ok dL_way_25 ?_
    exact h_iret ok dL_way_26 h)
def f_L_outcomes (a1 : Int) (σ : St) (Q : St → Int → Prop) : Prop :=
  f_X9_outcomes a1 (ssub σ 0) (fun u r => ∀ σ1 : St, σ1 = mC σ u → ∀ σ2 : St, σ2 = sset σ1 117 0 (i2l64 r) → Q σ2 0) (fun e u => ∀ σ1 : St, σ1 = mC σ u → (e = IAE ∧ Q σ1 1) ∨ (e = ISE ∧ Q σ1 2))
set_option maxRecDepth 100000 in
set_option maxHeartbeats 4000000 in
theorem c_L_outcomes (l : Launch) (hst : l.stackTraces = false) (Y : Cy) (hD : ∀ σ, va_D Y.2.2.2 (wsOf KW Y.2.1 Y.2.2.1 σ)) {a1 : Int} {σ : St} {Q : St → Int → Prop} (h : f_L_outcomes a1 σ Q) : Hon l yL_outcomes cL_outcomes 4 [(0, 9, 12, 13), (0, 9, 15, 15)] (rmX 8 131) Y σ [.inr (.inr 0), .inl a1, .inr (.inr 117)] Q := hcon_of (lv := [(0, .inr (.inr 0)), (1, .inl a1), (2, .inr (.inr 117))]) (by decide) hst hD (Nat.le_of_ble_eq_true rfl) rfl (fun X _ ok oh => by
  have ok : Ok X Y KW cL_outcomes 4 RL (rmX 8 131) (some .int) := ok
  unfold f_L_outcomes at h
  refine l_aload_n ok dL_outcomes_0 2 rfl ?_
  refine l_iconst ok dL_outcomes_1 ?_
  refine l_aload_n ok dL_outcomes_2 0 rfl ?_
  refine l_iload_n ok dL_outcomes_3 1 rfl ?_
  refine h_try (st := [.inl 0, .inr (.inr 117)]) ok oh.2.2.1 cs_L_74 wt_1087 kW_0 rfl (fr_X sub_C (inj_ok ok) (A_ok ok sub_C) (c_X9_outcomes X.2.1 oh.1 (Ysub Y 0 KC.length) (Ysub_D sub_C (inj_ok ok)) h)) ⟨rfl, rfl, Nat.le_of_ble_eq_true rfl, Nat.le_of_ble_eq_true rfl⟩ ⟨Nat.le_of_ble_eq_true rfl, Nat.le_of_ble_eq_true rfl⟩ rfl rfl (Nat.le_of_ble_eq_true rfl) dL_outcomes_4 (fun e σ' hE => ?_) (fun σ1 r1 h => ?_)
  · obtain ⟨u, hE, hu⟩ := hE
    rcases hE σ' hu with ⟨rfl, hq⟩ | ⟨rfl, hq⟩
    · exact h_handN ok [] ⟨0, 9, 12, 13⟩ [⟨0, 9, 15, 15⟩] oh.2.1 (fun z hz => by cases hz) rfl (by decide) wt_644 (cast_IAE oh.2.2.1 _) dL_outcomes_12 (by decide) dL_outcomes_13 dL_outcomes_14 hq
    · exact h_handN ok [⟨0, 9, 12, 13⟩] ⟨0, 9, 15, 15⟩ [] oh.2.1 (fun z hz => Or.inr (by rw [List.mem_singleton.mp hz]; exact ⟨by decide, IAE, ok.2.2.2.2.2.2.2.1.word wt_644 rfl _, oh.2.2.2.1⟩)) rfl (by decide) wt_645 (cast_ISE oh.2.2.1 _) dL_outcomes_15 (by decide) dL_outcomes_16 dL_outcomes_17 hq
  · obtain ⟨u, h, hu⟩ := h
    have h := h σ1 hu
    refine l_i2l ok dL_outcomes_7 ?_
    refine l_last ok kW_ok kW_117 (by decide) (by decide) dL_outcomes_8 (l_s (fun σ2 eσ2 => ?_))
    have h := h σ2 eσ2
    refine l_goto (tgt := 18) ok dL_outcomes_9 (by decide) ?_
    refine l_iconst ok dL_outcomes_18 ?_
    exact h_iret ok dL_outcomes_19 h)
def f_L_occurred (a1 : Int) (a2 : Int) (σ : St) (Q : St → Int → Prop) : Prop :=
  f_X9_occurred a1 a2 (ssub σ 0) (fun u r => ∀ σ1 : St, σ1 = mC σ u → inR r ∧ ((r = 0 → ∀ σ2 : St, σ2 = sset σ1 117 0 0 → Q σ2 0) ∧ (¬ r = 0 → ∀ σ2 : St, σ2 = sset σ1 117 0 1 → Q σ2 0))) (fun e u => ∀ σ1 : St, σ1 = mC σ u → (e = IAE ∧ Q σ1 1) ∨ (e = ISE ∧ Q σ1 2) ∨ (e = IOE ∧ Q σ1 3))
set_option maxRecDepth 100000 in
set_option maxHeartbeats 4000000 in
theorem c_L_occurred (l : Launch) (hst : l.stackTraces = false) (Y : Cy) (hD : ∀ σ, va_D Y.2.2.2 (wsOf KW Y.2.1 Y.2.2.1 σ)) {a1 : Int} {a2 : Int} {σ : St} {Q : St → Int → Prop} (h : f_L_occurred a1 a2 σ Q) : Hon l yL_occurred cL_occurred 5 [(0, 17, 20, 13), (0, 17, 24, 15), (0, 17, 28, 27)] (rmX 8 133) Y σ [.inr (.inr 0), .inl a1, .inl a2, .inr (.inr 117)] Q := hcon_of (lv := [(0, .inr (.inr 0)), (1, .inl a1), (2, .inl a2), (3, .inr (.inr 117))]) (by decide) hst hD (Nat.le_of_ble_eq_true rfl) rfl (fun X _ ok oh => by
  have ok : Ok X Y KW cL_occurred 5 RL (rmX 8 133) (some .int) := ok
  unfold f_L_occurred at h
  refine l_aload_n ok dL_occurred_0 3 rfl ?_
  refine l_iconst ok dL_occurred_1 ?_
  refine l_aload_n ok dL_occurred_2 0 rfl ?_
  refine l_iload_n ok dL_occurred_3 1 rfl ?_
  refine l_iload_n ok dL_occurred_4 2 rfl ?_
  refine h_try (st := [.inl 0, .inr (.inr 117)]) ok oh.2.2.1 cs_L_77 wt_1094 kW_0 rfl (fr_X sub_C (inj_ok ok) (A_ok ok sub_C) (c_X9_occurred X.2.1 oh.1 (Ysub Y 0 KC.length) (Ysub_D sub_C (inj_ok ok)) h)) ⟨rfl, rfl, Nat.le_of_ble_eq_true rfl, Nat.le_of_ble_eq_true rfl⟩ ⟨Nat.le_of_ble_eq_true rfl, Nat.le_of_ble_eq_true rfl⟩ rfl rfl (Nat.le_of_ble_eq_true rfl) dL_occurred_5 (fun e σ' hE => ?_) (fun σ1 r1 h => ?_)
  · obtain ⟨u, hE, hu⟩ := hE
    rcases hE σ' hu with ⟨rfl, hq⟩ | ⟨rfl, hq⟩ | ⟨rfl, hq⟩
    · exact h_hand ok [] ⟨0, 17, 20, 13⟩ [⟨0, 17, 24, 15⟩, ⟨0, 17, 28, 27⟩] oh.2.1 (fun z hz => by cases hz) rfl (by decide) wt_644 (cast_IAE oh.2.2.1 _) dL_occurred_20 (by decide) dL_occurred_22 dL_occurred_23 hq
    · exact h_hand ok [⟨0, 17, 20, 13⟩] ⟨0, 17, 24, 15⟩ [⟨0, 17, 28, 27⟩] oh.2.1 (fun z hz => Or.inr (by rw [List.mem_singleton.mp hz]; exact ⟨by decide, IAE, ok.2.2.2.2.2.2.2.1.word wt_644 rfl _, oh.2.2.2.1⟩)) rfl (by decide) wt_645 (cast_ISE oh.2.2.1 _) dL_occurred_24 (by decide) dL_occurred_26 dL_occurred_27 hq
    · exact h_hand ok [⟨0, 17, 20, 13⟩, ⟨0, 17, 24, 15⟩] ⟨0, 17, 28, 27⟩ [] oh.2.1 (fun z hz => Or.inr (by rcases List.mem_cons.mp hz with hz | hz; (· rw [hz]; exact ⟨by decide, IAE, ok.2.2.2.2.2.2.2.1.word wt_644 rfl _, oh.2.2.2.2.1⟩); (· rw [List.mem_singleton.mp hz]; exact ⟨by decide, ISE, ok.2.2.2.2.2.2.2.1.word wt_645 rfl _, oh.2.2.2.2.2⟩))) rfl (by decide) wt_778 (cast_IOE oh.2.2.1 _) dL_occurred_28 (by decide) dL_occurred_30 dL_occurred_31 hq
  · obtain ⟨u, h, hu⟩ := h
    have h := h σ1 hu
    obtain ⟨g1, ha, hb⟩ := h
    refine l_if_eq (tgt := 15) ok dL_occurred_8 (by decide) g1 (fun c1 => ?_) (fun c1 => ?_)
    · have h := ha c1
      refine l_lconst ok dL_occurred_15 0 rfl ?_
      refine l_last ok kW_ok kW_117 (by decide) (by decide) dL_occurred_16 (l_s (fun σ2 eσ2 => ?_))
      have h := h σ2 eσ2
      refine l_goto (tgt := 32) ok dL_occurred_17 (by decide) ?_
      refine l_iconst ok dL_occurred_32 ?_
      exact h_iret ok dL_occurred_33 h
    · have h := hb c1
      refine l_lconst ok dL_occurred_11 1 rfl ?_
      refine l_goto (tgt := 16) ok dL_occurred_12 (by decide) ?_
      refine l_last ok kW_ok kW_117 (by decide) (by decide) dL_occurred_16 (l_s (fun σ2 eσ2 => ?_))
      have h := h σ2 eσ2
      refine l_goto (tgt := 32) ok dL_occurred_17 (by decide) ?_
      refine l_iconst ok dL_occurred_32 ?_
      exact h_iret ok dL_occurred_33 h)
def f_L_analyze (σ : St) (Q : St → Int → Prop) : Prop :=
  f_X9_analyze (ssub σ 0) (fun u r => ∀ σ1 : St, σ1 = mC σ u → ∀ σ2 : St, σ2 = sset σ1 117 0 (i2l64 r) → Q σ2 0) (fun e u => ∀ σ1 : St, σ1 = mC σ u → (e = ISE ∧ Q σ1 1))
set_option maxRecDepth 100000 in
set_option maxHeartbeats 4000000 in
theorem c_L_analyze (l : Launch) (hst : l.stackTraces = false) (Y : Cy) (hD : ∀ σ, va_D Y.2.2.2 (wsOf KW Y.2.1 Y.2.2.1 σ)) {σ : St} {Q : St → Int → Prop} (h : f_L_analyze σ Q) : Hon l yL_analyze cL_analyze 3 [(0, 8, 11, 15)] (rmX 8 202) Y σ [.inr (.inr 0), .inr (.inr 117)] Q := hcon_of (lv := [(0, .inr (.inr 0)), (1, .inr (.inr 117))]) (by decide) hst hD (Nat.le_of_ble_eq_true rfl) rfl (fun X _ ok oh => by
  have ok : Ok X Y KW cL_analyze 3 RL (rmX 8 202) (some .int) := ok
  unfold f_L_analyze at h
  refine l_aload_n ok dL_analyze_0 1 rfl ?_
  refine l_iconst ok dL_analyze_1 ?_
  refine l_aload_n ok dL_analyze_2 0 rfl ?_
  refine h_try (st := [.inl 0, .inr (.inr 117)]) ok oh.2.2.1 cs_L_81 wt_1105 kW_0 rfl (fr_X sub_C (inj_ok ok) (A_ok ok sub_C) (c_X9_analyze X.2.1 oh.1 (Ysub Y 0 KC.length) (Ysub_D sub_C (inj_ok ok)) h)) ⟨rfl, rfl, Nat.le_of_ble_eq_true rfl, Nat.le_of_ble_eq_true rfl⟩ ⟨Nat.le_of_ble_eq_true rfl, Nat.le_of_ble_eq_true rfl⟩ rfl rfl (Nat.le_of_ble_eq_true rfl) dL_analyze_3 (fun e σ' hE => ?_) (fun σ1 r1 h => ?_)
  · obtain ⟨u, hE, hu⟩ := hE
    obtain ⟨rfl, hq⟩ := hE σ' hu
    exact h_handN ok [] ⟨0, 8, 11, 15⟩ [] oh.2.1 (fun z hz => by cases hz) rfl (by decide) wt_645 (cast_ISE oh.2.2.1 _) dL_analyze_11 (by decide) dL_analyze_12 dL_analyze_13 hq
  · obtain ⟨u, h, hu⟩ := h
    have h := h σ1 hu
    refine l_i2l ok dL_analyze_6 ?_
    refine l_last ok kW_ok kW_117 (by decide) (by decide) dL_analyze_7 (l_s (fun σ2 eσ2 => ?_))
    have h := h σ2 eσ2
    refine l_goto (tgt := 14) ok dL_analyze_8 (by decide) ?_
    refine l_iconst ok dL_analyze_14 ?_
    exact h_iret ok dL_analyze_15 h)
def f_L_isReached (a1 : Int) (a2 : Int) (σ : St) (Q : St → Int → Prop) : Prop :=
  f_X9_isReached a1 a2 (ssub σ 0) (fun u r => ∀ σ1 : St, σ1 = mC σ u → inR r ∧ ((r = 0 → ∀ σ2 : St, σ2 = sset σ1 117 0 0 → Q σ2 0) ∧ (¬ r = 0 → ∀ σ2 : St, σ2 = sset σ1 117 0 1 → Q σ2 0))) (fun e u => ∀ σ1 : St, σ1 = mC σ u → (e = IAE ∧ Q σ1 1) ∨ (e = ISE ∧ Q σ1 2) ∨ (e = IOE ∧ Q σ1 3))
set_option maxRecDepth 100000 in
set_option maxHeartbeats 4000000 in
theorem c_L_isReached (l : Launch) (hst : l.stackTraces = false) (Y : Cy) (hD : ∀ σ, va_D Y.2.2.2 (wsOf KW Y.2.1 Y.2.2.1 σ)) {a1 : Int} {a2 : Int} {σ : St} {Q : St → Int → Prop} (h : f_L_isReached a1 a2 σ Q) : Hon l yL_isReached cL_isReached 5 [(0, 17, 20, 13), (0, 17, 24, 15), (0, 17, 28, 27)] (rmX 8 133) Y σ [.inr (.inr 0), .inl a1, .inl a2, .inr (.inr 117)] Q := hcon_of (lv := [(0, .inr (.inr 0)), (1, .inl a1), (2, .inl a2), (3, .inr (.inr 117))]) (by decide) hst hD (Nat.le_of_ble_eq_true rfl) rfl (fun X _ ok oh => by
  have ok : Ok X Y KW cL_isReached 5 RL (rmX 8 133) (some .int) := ok
  unfold f_L_isReached at h
  refine l_aload_n ok dL_isReached_0 3 rfl ?_
  refine l_iconst ok dL_isReached_1 ?_
  refine l_aload_n ok dL_isReached_2 0 rfl ?_
  refine l_iload_n ok dL_isReached_3 1 rfl ?_
  refine l_iload_n ok dL_isReached_4 2 rfl ?_
  refine h_try (st := [.inl 0, .inr (.inr 117)]) ok oh.2.2.1 cs_L_84 wt_1242 kW_0 rfl (fr_X sub_C (inj_ok ok) (A_ok ok sub_C) (c_X9_isReached X.2.1 oh.1 (Ysub Y 0 KC.length) (Ysub_D sub_C (inj_ok ok)) h)) ⟨rfl, rfl, Nat.le_of_ble_eq_true rfl, Nat.le_of_ble_eq_true rfl⟩ ⟨Nat.le_of_ble_eq_true rfl, Nat.le_of_ble_eq_true rfl⟩ rfl rfl (Nat.le_of_ble_eq_true rfl) dL_isReached_5 (fun e σ' hE => ?_) (fun σ1 r1 h => ?_)
  · obtain ⟨u, hE, hu⟩ := hE
    rcases hE σ' hu with ⟨rfl, hq⟩ | ⟨rfl, hq⟩ | ⟨rfl, hq⟩
    · exact h_hand ok [] ⟨0, 17, 20, 13⟩ [⟨0, 17, 24, 15⟩, ⟨0, 17, 28, 27⟩] oh.2.1 (fun z hz => by cases hz) rfl (by decide) wt_644 (cast_IAE oh.2.2.1 _) dL_isReached_20 (by decide) dL_isReached_22 dL_isReached_23 hq
    · exact h_hand ok [⟨0, 17, 20, 13⟩] ⟨0, 17, 24, 15⟩ [⟨0, 17, 28, 27⟩] oh.2.1 (fun z hz => Or.inr (by rw [List.mem_singleton.mp hz]; exact ⟨by decide, IAE, ok.2.2.2.2.2.2.2.1.word wt_644 rfl _, oh.2.2.2.1⟩)) rfl (by decide) wt_645 (cast_ISE oh.2.2.1 _) dL_isReached_24 (by decide) dL_isReached_26 dL_isReached_27 hq
    · exact h_hand ok [⟨0, 17, 20, 13⟩, ⟨0, 17, 24, 15⟩] ⟨0, 17, 28, 27⟩ [] oh.2.1 (fun z hz => Or.inr (by rcases List.mem_cons.mp hz with hz | hz; (· rw [hz]; exact ⟨by decide, IAE, ok.2.2.2.2.2.2.2.1.word wt_644 rfl _, oh.2.2.2.2.1⟩); (· rw [List.mem_singleton.mp hz]; exact ⟨by decide, ISE, ok.2.2.2.2.2.2.2.1.word wt_645 rfl _, oh.2.2.2.2.2⟩))) rfl (by decide) wt_778 (cast_IOE oh.2.2.1 _) dL_isReached_28 (by decide) dL_isReached_30 dL_isReached_31 hq
  · obtain ⟨u, h, hu⟩ := h
    have h := h σ1 hu
    obtain ⟨g1, ha, hb⟩ := h
    refine l_if_eq (tgt := 15) ok dL_isReached_8 (by decide) g1 (fun c1 => ?_) (fun c1 => ?_)
    · have h := ha c1
      refine l_lconst ok dL_isReached_15 0 rfl ?_
      refine l_last ok kW_ok kW_117 (by decide) (by decide) dL_isReached_16 (l_s (fun σ2 eσ2 => ?_))
      have h := h σ2 eσ2
      refine l_goto (tgt := 32) ok dL_isReached_17 (by decide) ?_
      refine l_iconst ok dL_isReached_32 ?_
      exact h_iret ok dL_isReached_33 h
    · have h := hb c1
      refine l_lconst ok dL_isReached_11 1 rfl ?_
      refine l_goto (tgt := 16) ok dL_isReached_12 (by decide) ?_
      refine l_last ok kW_ok kW_117 (by decide) (by decide) dL_isReached_16 (l_s (fun σ2 eσ2 => ?_))
      have h := h σ2 eσ2
      refine l_goto (tgt := 32) ok dL_isReached_17 (by decide) ?_
      refine l_iconst ok dL_isReached_32 ?_
      exact h_iret ok dL_isReached_33 h)
def f_L_lowest (a1 : Int) (a2 : Int) (σ : St) (Q : St → Int → Prop) : Prop :=
  f_X9_lowest a1 a2 (ssub σ 0) (fun u r => ∀ σ1 : St, σ1 = mC σ u → ∀ σ2 : St, σ2 = sset σ1 117 0 (i2l64 r) → Q σ2 0) (fun e u => ∀ σ1 : St, σ1 = mC σ u → (e = IAE ∧ Q σ1 1) ∨ (e = ISE ∧ Q σ1 2) ∨ (e = IOE ∧ Q σ1 3))
set_option maxRecDepth 100000 in
set_option maxHeartbeats 4000000 in
theorem c_L_lowest (l : Launch) (hst : l.stackTraces = false) (Y : Cy) (hD : ∀ σ, va_D Y.2.2.2 (wsOf KW Y.2.1 Y.2.2.1 σ)) {a1 : Int} {a2 : Int} {σ : St} {Q : St → Int → Prop} (h : f_L_lowest a1 a2 σ Q) : Hon l yL_lowest cL_lowest 5 [(0, 10, 13, 13), (0, 10, 17, 15), (0, 10, 21, 27)] (rmX 8 135) Y σ [.inr (.inr 0), .inl a1, .inl a2, .inr (.inr 117)] Q := hcon_of (lv := [(0, .inr (.inr 0)), (1, .inl a1), (2, .inl a2), (3, .inr (.inr 117))]) (by decide) hst hD (Nat.le_of_ble_eq_true rfl) rfl (fun X _ ok oh => by
  have ok : Ok X Y KW cL_lowest 5 RL (rmX 8 135) (some .int) := ok
  unfold f_L_lowest at h
  refine l_aload_n ok dL_lowest_0 3 rfl ?_
  refine l_iconst ok dL_lowest_1 ?_
  refine l_aload_n ok dL_lowest_2 0 rfl ?_
  refine l_iload_n ok dL_lowest_3 1 rfl ?_
  refine l_iload_n ok dL_lowest_4 2 rfl ?_
  refine h_try (st := [.inl 0, .inr (.inr 117)]) ok oh.2.2.1 cs_L_87 wt_1254 kW_0 rfl (fr_X sub_C (inj_ok ok) (A_ok ok sub_C) (c_X9_lowest X.2.1 oh.1 (Ysub Y 0 KC.length) (Ysub_D sub_C (inj_ok ok)) h)) ⟨rfl, rfl, Nat.le_of_ble_eq_true rfl, Nat.le_of_ble_eq_true rfl⟩ ⟨Nat.le_of_ble_eq_true rfl, Nat.le_of_ble_eq_true rfl⟩ rfl rfl (Nat.le_of_ble_eq_true rfl) dL_lowest_5 (fun e σ' hE => ?_) (fun σ1 r1 h => ?_)
  · obtain ⟨u, hE, hu⟩ := hE
    rcases hE σ' hu with ⟨rfl, hq⟩ | ⟨rfl, hq⟩ | ⟨rfl, hq⟩
    · exact h_hand ok [] ⟨0, 10, 13, 13⟩ [⟨0, 10, 17, 15⟩, ⟨0, 10, 21, 27⟩] oh.2.1 (fun z hz => by cases hz) rfl (by decide) wt_644 (cast_IAE oh.2.2.1 _) dL_lowest_13 (by decide) dL_lowest_15 dL_lowest_16 hq
    · exact h_hand ok [⟨0, 10, 13, 13⟩] ⟨0, 10, 17, 15⟩ [⟨0, 10, 21, 27⟩] oh.2.1 (fun z hz => Or.inr (by rw [List.mem_singleton.mp hz]; exact ⟨by decide, IAE, ok.2.2.2.2.2.2.2.1.word wt_644 rfl _, oh.2.2.2.1⟩)) rfl (by decide) wt_645 (cast_ISE oh.2.2.1 _) dL_lowest_17 (by decide) dL_lowest_19 dL_lowest_20 hq
    · exact h_hand ok [⟨0, 10, 13, 13⟩, ⟨0, 10, 17, 15⟩] ⟨0, 10, 21, 27⟩ [] oh.2.1 (fun z hz => Or.inr (by rcases List.mem_cons.mp hz with hz | hz; (· rw [hz]; exact ⟨by decide, IAE, ok.2.2.2.2.2.2.2.1.word wt_644 rfl _, oh.2.2.2.2.1⟩); (· rw [List.mem_singleton.mp hz]; exact ⟨by decide, ISE, ok.2.2.2.2.2.2.2.1.word wt_645 rfl _, oh.2.2.2.2.2⟩))) rfl (by decide) wt_778 (cast_IOE oh.2.2.1 _) dL_lowest_21 (by decide) dL_lowest_23 dL_lowest_24 hq
  · obtain ⟨u, h, hu⟩ := h
    have h := h σ1 hu
    refine l_i2l ok dL_lowest_8 ?_
    refine l_last ok kW_ok kW_117 (by decide) (by decide) dL_lowest_9 (l_s (fun σ2 eσ2 => ?_))
    have h := h σ2 eσ2
    refine l_goto (tgt := 25) ok dL_lowest_10 (by decide) ?_
    refine l_iconst ok dL_lowest_25 ?_
    exact h_iret ok dL_lowest_26 h)
def f_L_greatest (a1 : Int) (a2 : Int) (σ : St) (Q : St → Int → Prop) : Prop :=
  f_X9_greatest a1 a2 (ssub σ 0) (fun u r => ∀ σ1 : St, σ1 = mC σ u → ∀ σ2 : St, σ2 = sset σ1 117 0 (i2l64 r) → Q σ2 0) (fun e u => ∀ σ1 : St, σ1 = mC σ u → (e = IAE ∧ Q σ1 1) ∨ (e = ISE ∧ Q σ1 2) ∨ (e = IOE ∧ Q σ1 3))
set_option maxRecDepth 100000 in
set_option maxHeartbeats 4000000 in
theorem c_L_greatest (l : Launch) (hst : l.stackTraces = false) (Y : Cy) (hD : ∀ σ, va_D Y.2.2.2 (wsOf KW Y.2.1 Y.2.2.1 σ)) {a1 : Int} {a2 : Int} {σ : St} {Q : St → Int → Prop} (h : f_L_greatest a1 a2 σ Q) : Hon l yL_greatest cL_greatest 5 [(0, 10, 13, 13), (0, 10, 17, 15), (0, 10, 21, 27)] (rmX 8 135) Y σ [.inr (.inr 0), .inl a1, .inl a2, .inr (.inr 117)] Q := hcon_of (lv := [(0, .inr (.inr 0)), (1, .inl a1), (2, .inl a2), (3, .inr (.inr 117))]) (by decide) hst hD (Nat.le_of_ble_eq_true rfl) rfl (fun X _ ok oh => by
  have ok : Ok X Y KW cL_greatest 5 RL (rmX 8 135) (some .int) := ok
  unfold f_L_greatest at h
  refine l_aload_n ok dL_greatest_0 3 rfl ?_
  refine l_iconst ok dL_greatest_1 ?_
  refine l_aload_n ok dL_greatest_2 0 rfl ?_
  refine l_iload_n ok dL_greatest_3 1 rfl ?_
  refine l_iload_n ok dL_greatest_4 2 rfl ?_
  refine h_try (st := [.inl 0, .inr (.inr 117)]) ok oh.2.2.1 cs_L_90 wt_1262 kW_0 rfl (fr_X sub_C (inj_ok ok) (A_ok ok sub_C) (c_X9_greatest X.2.1 oh.1 (Ysub Y 0 KC.length) (Ysub_D sub_C (inj_ok ok)) h)) ⟨rfl, rfl, Nat.le_of_ble_eq_true rfl, Nat.le_of_ble_eq_true rfl⟩ ⟨Nat.le_of_ble_eq_true rfl, Nat.le_of_ble_eq_true rfl⟩ rfl rfl (Nat.le_of_ble_eq_true rfl) dL_greatest_5 (fun e σ' hE => ?_) (fun σ1 r1 h => ?_)
  · obtain ⟨u, hE, hu⟩ := hE
    rcases hE σ' hu with ⟨rfl, hq⟩ | ⟨rfl, hq⟩ | ⟨rfl, hq⟩
    · exact h_hand ok [] ⟨0, 10, 13, 13⟩ [⟨0, 10, 17, 15⟩, ⟨0, 10, 21, 27⟩] oh.2.1 (fun z hz => by cases hz) rfl (by decide) wt_644 (cast_IAE oh.2.2.1 _) dL_greatest_13 (by decide) dL_greatest_15 dL_greatest_16 hq
    · exact h_hand ok [⟨0, 10, 13, 13⟩] ⟨0, 10, 17, 15⟩ [⟨0, 10, 21, 27⟩] oh.2.1 (fun z hz => Or.inr (by rw [List.mem_singleton.mp hz]; exact ⟨by decide, IAE, ok.2.2.2.2.2.2.2.1.word wt_644 rfl _, oh.2.2.2.1⟩)) rfl (by decide) wt_645 (cast_ISE oh.2.2.1 _) dL_greatest_17 (by decide) dL_greatest_19 dL_greatest_20 hq
    · exact h_hand ok [⟨0, 10, 13, 13⟩, ⟨0, 10, 17, 15⟩] ⟨0, 10, 21, 27⟩ [] oh.2.1 (fun z hz => Or.inr (by rcases List.mem_cons.mp hz with hz | hz; (· rw [hz]; exact ⟨by decide, IAE, ok.2.2.2.2.2.2.2.1.word wt_644 rfl _, oh.2.2.2.2.1⟩); (· rw [List.mem_singleton.mp hz]; exact ⟨by decide, ISE, ok.2.2.2.2.2.2.2.1.word wt_645 rfl _, oh.2.2.2.2.2⟩))) rfl (by decide) wt_778 (cast_IOE oh.2.2.1 _) dL_greatest_21 (by decide) dL_greatest_23 dL_greatest_24 hq
  · obtain ⟨u, h, hu⟩ := h
    have h := h σ1 hu
    refine l_i2l ok dL_greatest_8 ?_
    refine l_last ok kW_ok kW_117 (by decide) (by decide) dL_greatest_9 (l_s (fun σ2 eσ2 => ?_))
    have h := h σ2 eσ2
    refine l_goto (tgt := 25) ok dL_greatest_10 (by decide) ?_
    refine l_iconst ok dL_greatest_25 ?_
    exact h_iret ok dL_greatest_26 h)
def f_L_values (a1 : Int) (a2 : Int) (σ : St) (Q : St → Int → Prop) : Prop :=
  f_X9_values a1 a2 (ssub σ 0) (fun u r => ∀ σ1 : St, σ1 = mC σ u → ∀ σ2 : St, σ2 = sset σ1 117 0 (i2l64 r) → Q σ2 0) (fun e u => ∀ σ1 : St, σ1 = mC σ u → (e = IAE ∧ Q σ1 1) ∨ (e = ISE ∧ Q σ1 2) ∨ (e = IOE ∧ Q σ1 3))
set_option maxRecDepth 100000 in
set_option maxHeartbeats 4000000 in
theorem c_L_values (l : Launch) (hst : l.stackTraces = false) (Y : Cy) (hD : ∀ σ, va_D Y.2.2.2 (wsOf KW Y.2.1 Y.2.2.1 σ)) {a1 : Int} {a2 : Int} {σ : St} {Q : St → Int → Prop} (h : f_L_values a1 a2 σ Q) : Hon l yL_values cL_values 5 [(0, 10, 13, 13), (0, 10, 17, 15), (0, 10, 21, 27)] (rmX 8 133) Y σ [.inr (.inr 0), .inl a1, .inl a2, .inr (.inr 117)] Q := hcon_of (lv := [(0, .inr (.inr 0)), (1, .inl a1), (2, .inl a2), (3, .inr (.inr 117))]) (by decide) hst hD (Nat.le_of_ble_eq_true rfl) rfl (fun X _ ok oh => by
  have ok : Ok X Y KW cL_values 5 RL (rmX 8 133) (some .int) := ok
  unfold f_L_values at h
  refine l_aload_n ok dL_values_0 3 rfl ?_
  refine l_iconst ok dL_values_1 ?_
  refine l_aload_n ok dL_values_2 0 rfl ?_
  refine l_iload_n ok dL_values_3 1 rfl ?_
  refine l_iload_n ok dL_values_4 2 rfl ?_
  refine h_try (st := [.inl 0, .inr (.inr 117)]) ok oh.2.2.1 cs_L_93 wt_1270 kW_0 rfl (fr_X sub_C (inj_ok ok) (A_ok ok sub_C) (c_X9_values X.2.1 oh.1 (Ysub Y 0 KC.length) (Ysub_D sub_C (inj_ok ok)) h)) ⟨rfl, rfl, Nat.le_of_ble_eq_true rfl, Nat.le_of_ble_eq_true rfl⟩ ⟨Nat.le_of_ble_eq_true rfl, Nat.le_of_ble_eq_true rfl⟩ rfl rfl (Nat.le_of_ble_eq_true rfl) dL_values_5 (fun e σ' hE => ?_) (fun σ1 r1 h => ?_)
  · obtain ⟨u, hE, hu⟩ := hE
    rcases hE σ' hu with ⟨rfl, hq⟩ | ⟨rfl, hq⟩ | ⟨rfl, hq⟩
    · exact h_hand ok [] ⟨0, 10, 13, 13⟩ [⟨0, 10, 17, 15⟩, ⟨0, 10, 21, 27⟩] oh.2.1 (fun z hz => by cases hz) rfl (by decide) wt_644 (cast_IAE oh.2.2.1 _) dL_values_13 (by decide) dL_values_15 dL_values_16 hq
    · exact h_hand ok [⟨0, 10, 13, 13⟩] ⟨0, 10, 17, 15⟩ [⟨0, 10, 21, 27⟩] oh.2.1 (fun z hz => Or.inr (by rw [List.mem_singleton.mp hz]; exact ⟨by decide, IAE, ok.2.2.2.2.2.2.2.1.word wt_644 rfl _, oh.2.2.2.1⟩)) rfl (by decide) wt_645 (cast_ISE oh.2.2.1 _) dL_values_17 (by decide) dL_values_19 dL_values_20 hq
    · exact h_hand ok [⟨0, 10, 13, 13⟩, ⟨0, 10, 17, 15⟩] ⟨0, 10, 21, 27⟩ [] oh.2.1 (fun z hz => Or.inr (by rcases List.mem_cons.mp hz with hz | hz; (· rw [hz]; exact ⟨by decide, IAE, ok.2.2.2.2.2.2.2.1.word wt_644 rfl _, oh.2.2.2.2.1⟩); (· rw [List.mem_singleton.mp hz]; exact ⟨by decide, ISE, ok.2.2.2.2.2.2.2.1.word wt_645 rfl _, oh.2.2.2.2.2⟩))) rfl (by decide) wt_778 (cast_IOE oh.2.2.1 _) dL_values_21 (by decide) dL_values_23 dL_values_24 hq
  · obtain ⟨u, h, hu⟩ := h
    have h := h σ1 hu
    refine l_i2l ok dL_values_8 ?_
    refine l_last ok kW_ok kW_117 (by decide) (by decide) dL_values_9 (l_s (fun σ2 eσ2 => ?_))
    have h := h σ2 eσ2
    refine l_goto (tgt := 25) ok dL_values_10 (by decide) ?_
    refine l_iconst ok dL_values_25 ?_
    exact h_iret ok dL_values_26 h)
def f_L_hubs (a1 : Int) (σ : St) (Q : St → Int → Prop) : Prop :=
  f_X9_hubs a1 (ssub σ 0) (fun u r => ∀ σ1 : St, σ1 = mC σ u → ∀ σ2 : St, σ2 = sset σ1 117 0 (i2l64 r) → Q σ2 0) (fun e u => ∀ σ1 : St, σ1 = mC σ u → (e = ISE ∧ Q σ1 1) ∨ (e = IOE ∧ Q σ1 2))
set_option maxRecDepth 100000 in
set_option maxHeartbeats 4000000 in
theorem c_L_hubs (l : Launch) (hst : l.stackTraces = false) (Y : Cy) (hD : ∀ σ, va_D Y.2.2.2 (wsOf KW Y.2.1 Y.2.2.1 σ)) {a1 : Int} {σ : St} {Q : St → Int → Prop} (h : f_L_hubs a1 σ Q) : Hon l yL_hubs cL_hubs 4 [(0, 9, 12, 15), (0, 9, 15, 27)] (rmX 8 132) Y σ [.inr (.inr 0), .inl a1, .inr (.inr 117)] Q := hcon_of (lv := [(0, .inr (.inr 0)), (1, .inl a1), (2, .inr (.inr 117))]) (by decide) hst hD (Nat.le_of_ble_eq_true rfl) rfl (fun X _ ok oh => by
  have ok : Ok X Y KW cL_hubs 4 RL (rmX 8 132) (some .int) := ok
  unfold f_L_hubs at h
  refine l_aload_n ok dL_hubs_0 2 rfl ?_
  refine l_iconst ok dL_hubs_1 ?_
  refine l_aload_n ok dL_hubs_2 0 rfl ?_
  refine l_iload_n ok dL_hubs_3 1 rfl ?_
  refine h_try (st := [.inl 0, .inr (.inr 117)]) ok oh.2.2.1 cs_L_96 wt_1280 kW_0 rfl (fr_X sub_C (inj_ok ok) (A_ok ok sub_C) (c_X9_hubs X.2.1 oh.1 (Ysub Y 0 KC.length) (Ysub_D sub_C (inj_ok ok)) h)) ⟨rfl, rfl, Nat.le_of_ble_eq_true rfl, Nat.le_of_ble_eq_true rfl⟩ ⟨Nat.le_of_ble_eq_true rfl, Nat.le_of_ble_eq_true rfl⟩ rfl rfl (Nat.le_of_ble_eq_true rfl) dL_hubs_4 (fun e σ' hE => ?_) (fun σ1 r1 h => ?_)
  · obtain ⟨u, hE, hu⟩ := hE
    rcases hE σ' hu with ⟨rfl, hq⟩ | ⟨rfl, hq⟩
    · exact h_handN ok [] ⟨0, 9, 12, 15⟩ [⟨0, 9, 15, 27⟩] oh.2.1 (fun z hz => by cases hz) rfl (by decide) wt_645 (cast_ISE oh.2.2.1 _) dL_hubs_12 (by decide) dL_hubs_13 dL_hubs_14 hq
    · exact h_handN ok [⟨0, 9, 12, 15⟩] ⟨0, 9, 15, 27⟩ [] oh.2.1 (fun z hz => Or.inr (by rw [List.mem_singleton.mp hz]; exact ⟨by decide, ISE, ok.2.2.2.2.2.2.2.1.word wt_645 rfl _, oh.2.2.2.2.2⟩)) rfl (by decide) wt_778 (cast_IOE oh.2.2.1 _) dL_hubs_15 (by decide) dL_hubs_16 dL_hubs_17 hq
  · obtain ⟨u, h, hu⟩ := h
    have h := h σ1 hu
    refine l_i2l ok dL_hubs_7 ?_
    refine l_last ok kW_ok kW_117 (by decide) (by decide) dL_hubs_8 (l_s (fun σ2 eσ2 => ?_))
    have h := h σ2 eσ2
    refine l_goto (tgt := 18) ok dL_hubs_9 (by decide) ?_
    refine l_iconst ok dL_hubs_18 ?_
    exact h_iret ok dL_hubs_19 h)
def f_L_verdict (a1 : Int) (σ : St) (Q : St → Int → Prop) : Prop :=
  f_X9_verdict a1 (ssub σ 0) (fun u r => ∀ σ1 : St, σ1 = mC σ u → ∀ σ2 : St, σ2 = sset σ1 117 0 (i2l64 r) → Q σ2 0) (fun e u => ∀ σ1 : St, σ1 = mC σ u → (e = ISE ∧ Q σ1 1) ∨ (e = IOE ∧ Q σ1 2))
set_option maxRecDepth 100000 in
set_option maxHeartbeats 4000000 in
theorem c_L_verdict (l : Launch) (hst : l.stackTraces = false) (Y : Cy) (hD : ∀ σ, va_D Y.2.2.2 (wsOf KW Y.2.1 Y.2.2.1 σ)) {a1 : Int} {σ : St} {Q : St → Int → Prop} (h : f_L_verdict a1 σ Q) : Hon l yL_verdict cL_verdict 4 [(0, 9, 12, 15), (0, 9, 15, 27)] (rmX 8 131) Y σ [.inr (.inr 0), .inl a1, .inr (.inr 117)] Q := hcon_of (lv := [(0, .inr (.inr 0)), (1, .inl a1), (2, .inr (.inr 117))]) (by decide) hst hD (Nat.le_of_ble_eq_true rfl) rfl (fun X _ ok oh => by
  have ok : Ok X Y KW cL_verdict 4 RL (rmX 8 131) (some .int) := ok
  unfold f_L_verdict at h
  refine l_aload_n ok dL_verdict_0 2 rfl ?_
  refine l_iconst ok dL_verdict_1 ?_
  refine l_aload_n ok dL_verdict_2 0 rfl ?_
  refine l_iload_n ok dL_verdict_3 1 rfl ?_
  refine h_try (st := [.inl 0, .inr (.inr 117)]) ok oh.2.2.1 cs_L_99 wt_1288 kW_0 rfl (fr_X sub_C (inj_ok ok) (A_ok ok sub_C) (c_X9_verdict X.2.1 oh.1 (Ysub Y 0 KC.length) (Ysub_D sub_C (inj_ok ok)) h)) ⟨rfl, rfl, Nat.le_of_ble_eq_true rfl, Nat.le_of_ble_eq_true rfl⟩ ⟨Nat.le_of_ble_eq_true rfl, Nat.le_of_ble_eq_true rfl⟩ rfl rfl (Nat.le_of_ble_eq_true rfl) dL_verdict_4 (fun e σ' hE => ?_) (fun σ1 r1 h => ?_)
  · obtain ⟨u, hE, hu⟩ := hE
    rcases hE σ' hu with ⟨rfl, hq⟩ | ⟨rfl, hq⟩
    · exact h_handN ok [] ⟨0, 9, 12, 15⟩ [⟨0, 9, 15, 27⟩] oh.2.1 (fun z hz => by cases hz) rfl (by decide) wt_645 (cast_ISE oh.2.2.1 _) dL_verdict_12 (by decide) dL_verdict_13 dL_verdict_14 hq
    · exact h_handN ok [⟨0, 9, 12, 15⟩] ⟨0, 9, 15, 27⟩ [] oh.2.1 (fun z hz => Or.inr (by rw [List.mem_singleton.mp hz]; exact ⟨by decide, ISE, ok.2.2.2.2.2.2.2.1.word wt_645 rfl _, oh.2.2.2.2.2⟩)) rfl (by decide) wt_778 (cast_IOE oh.2.2.1 _) dL_verdict_15 (by decide) dL_verdict_16 dL_verdict_17 hq
  · obtain ⟨u, h, hu⟩ := h
    have h := h σ1 hu
    refine l_i2l ok dL_verdict_7 ?_
    refine l_last ok kW_ok kW_117 (by decide) (by decide) dL_verdict_8 (l_s (fun σ2 eσ2 => ?_))
    have h := h σ2 eσ2
    refine l_goto (tgt := 18) ok dL_verdict_9 (by decide) ?_
    refine l_iconst ok dL_verdict_18 ?_
    exact h_iret ok dL_verdict_19 h)
def f_L_possible (a1 : Int) (σ : St) (Q : St → Int → Prop) : Prop :=
  f_X9_possible a1 (ssub σ 0) (fun u r => ∀ σ1 : St, σ1 = mC σ u → ∀ σ2 : St, σ2 = sset σ1 117 0 (i2l64 r) → Q σ2 0) (fun e u => ∀ σ1 : St, σ1 = mC σ u → (e = IAE ∧ Q σ1 1) ∨ (e = ISE ∧ Q σ1 2))
set_option maxRecDepth 100000 in
set_option maxHeartbeats 4000000 in
theorem c_L_possible (l : Launch) (hst : l.stackTraces = false) (Y : Cy) (hD : ∀ σ, va_D Y.2.2.2 (wsOf KW Y.2.1 Y.2.2.1 σ)) {a1 : Int} {σ : St} {Q : St → Int → Prop} (h : f_L_possible a1 σ Q) : Hon l yL_possible cL_possible 4 [(0, 9, 12, 13), (0, 9, 15, 15)] (rmX 8 131) Y σ [.inr (.inr 0), .inl a1, .inr (.inr 117)] Q := hcon_of (lv := [(0, .inr (.inr 0)), (1, .inl a1), (2, .inr (.inr 117))]) (by decide) hst hD (Nat.le_of_ble_eq_true rfl) rfl (fun X _ ok oh => by
  have ok : Ok X Y KW cL_possible 4 RL (rmX 8 131) (some .int) := ok
  unfold f_L_possible at h
  refine l_aload_n ok dL_possible_0 2 rfl ?_
  refine l_iconst ok dL_possible_1 ?_
  refine l_aload_n ok dL_possible_2 0 rfl ?_
  refine l_iload_n ok dL_possible_3 1 rfl ?_
  refine h_try (st := [.inl 0, .inr (.inr 117)]) ok oh.2.2.1 cs_L_102 wt_1296 kW_0 rfl (fr_X sub_C (inj_ok ok) (A_ok ok sub_C) (c_X9_possible X.2.1 oh.1 (Ysub Y 0 KC.length) (Ysub_D sub_C (inj_ok ok)) h)) ⟨rfl, rfl, Nat.le_of_ble_eq_true rfl, Nat.le_of_ble_eq_true rfl⟩ ⟨Nat.le_of_ble_eq_true rfl, Nat.le_of_ble_eq_true rfl⟩ rfl rfl (Nat.le_of_ble_eq_true rfl) dL_possible_4 (fun e σ' hE => ?_) (fun σ1 r1 h => ?_)
  · obtain ⟨u, hE, hu⟩ := hE
    rcases hE σ' hu with ⟨rfl, hq⟩ | ⟨rfl, hq⟩
    · exact h_handN ok [] ⟨0, 9, 12, 13⟩ [⟨0, 9, 15, 15⟩] oh.2.1 (fun z hz => by cases hz) rfl (by decide) wt_644 (cast_IAE oh.2.2.1 _) dL_possible_12 (by decide) dL_possible_13 dL_possible_14 hq
    · exact h_handN ok [⟨0, 9, 12, 13⟩] ⟨0, 9, 15, 15⟩ [] oh.2.1 (fun z hz => Or.inr (by rw [List.mem_singleton.mp hz]; exact ⟨by decide, IAE, ok.2.2.2.2.2.2.2.1.word wt_644 rfl _, oh.2.2.2.1⟩)) rfl (by decide) wt_645 (cast_ISE oh.2.2.1 _) dL_possible_15 (by decide) dL_possible_16 dL_possible_17 hq
  · obtain ⟨u, h, hu⟩ := h
    have h := h σ1 hu
    refine l_i2l ok dL_possible_7 ?_
    refine l_last ok kW_ok kW_117 (by decide) (by decide) dL_possible_8 (l_s (fun σ2 eσ2 => ?_))
    have h := h σ2 eσ2
    refine l_goto (tgt := 18) ok dL_possible_9 (by decide) ?_
    refine l_iconst ok dL_possible_18 ?_
    exact h_iret ok dL_possible_19 h)
