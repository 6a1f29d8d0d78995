theorem dL_feed_0 : decode cL_feed 0 = .ok (.aload_n 2, 1) := by decide +kernel
theorem dL_feed_1 : decode cL_feed 1 = .ok (.iconst 0, 1) := by decide +kernel
theorem dL_feed_2 : decode cL_feed 2 = .ok (.aload_n 0, 1) := by decide +kernel
theorem dL_feed_3 : decode cL_feed 3 = .ok (.iload_n 1, 1) := by decide +kernel
theorem dL_feed_4 : decode cL_feed 4 = .ok (.invokevirtual 7, 3) := by decide +kernel
theorem dL_feed_7 : decode cL_feed 7 = .ok (.i2l, 1) := by decide +kernel
theorem dL_feed_8 : decode cL_feed 8 = .ok (.lastore, 1) := by decide +kernel
theorem dL_feed_9 : decode cL_feed 9 = .ok (.goto 6, 3) := by decide +kernel
theorem dL_feed_12 : decode cL_feed 12 = .ok (.astore_n 3, 1) := by decide +kernel
theorem dL_feed_13 : decode cL_feed 13 = .ok (.iconst 1, 1) := by decide +kernel
theorem dL_feed_14 : decode cL_feed 14 = .ok (.ireturn, 1) := by decide +kernel
theorem dL_feed_15 : decode cL_feed 15 = .ok (.iconst 0, 1) := by decide +kernel
theorem dL_feed_16 : decode cL_feed 16 = .ok (.ireturn, 1) := by decide +kernel
theorem dL_extend_0 : decode cL_extend 0 = .ok (.aload_n 1, 1) := by decide +kernel
theorem dL_extend_1 : decode cL_extend 1 = .ok (.iconst 0, 1) := by decide +kernel
theorem dL_extend_2 : decode cL_extend 2 = .ok (.aload_n 0, 1) := by decide +kernel
theorem dL_extend_3 : decode cL_extend 3 = .ok (.invokevirtual 15, 3) := by decide +kernel
theorem dL_extend_6 : decode cL_extend 6 = .ok (.i2l, 1) := by decide +kernel
theorem dL_extend_7 : decode cL_extend 7 = .ok (.lastore, 1) := by decide +kernel
theorem dL_extend_8 : decode cL_extend 8 = .ok (.goto 6, 3) := by decide +kernel
theorem dL_extend_11 : decode cL_extend 11 = .ok (.astore_n 2, 1) := by decide +kernel
theorem dL_extend_12 : decode cL_extend 12 = .ok (.iconst 1, 1) := by decide +kernel
theorem dL_extend_13 : decode cL_extend 13 = .ok (.ireturn, 1) := by decide +kernel
theorem dL_extend_14 : decode cL_extend 14 = .ok (.iconst 0, 1) := by decide +kernel
theorem dL_extend_15 : decode cL_extend 15 = .ok (.ireturn, 1) := by decide +kernel
theorem dL_impossible_0 : decode cL_impossible 0 = .ok (.aload_n 1, 1) := by decide +kernel
theorem dL_impossible_1 : decode cL_impossible 1 = .ok (.iconst 0, 1) := by decide +kernel
theorem dL_impossible_2 : decode cL_impossible 2 = .ok (.aload_n 0, 1) := by decide +kernel
theorem dL_impossible_3 : decode cL_impossible 3 = .ok (.invokevirtual 21, 3) := by decide +kernel
theorem dL_impossible_6 : decode cL_impossible 6 = .ok (.i2l, 1) := by decide +kernel
theorem dL_impossible_7 : decode cL_impossible 7 = .ok (.lastore, 1) := by decide +kernel
theorem dL_impossible_8 : decode cL_impossible 8 = .ok (.goto 6, 3) := by decide +kernel
theorem dL_impossible_11 : decode cL_impossible 11 = .ok (.astore_n 2, 1) := by decide +kernel
theorem dL_impossible_12 : decode cL_impossible 12 = .ok (.iconst 1, 1) := by decide +kernel
theorem dL_impossible_13 : decode cL_impossible 13 = .ok (.ireturn, 1) := by decide +kernel
theorem dL_impossible_14 : decode cL_impossible 14 = .ok (.iconst 0, 1) := by decide +kernel
theorem dL_impossible_15 : decode cL_impossible 15 = .ok (.ireturn, 1) := by decide +kernel
theorem dL_unit_0 : decode cL_unit 0 = .ok (.aload_n 3, 1) := by decide +kernel
theorem dL_unit_1 : decode cL_unit 1 = .ok (.iconst 0, 1) := by decide +kernel
theorem dL_unit_2 : decode cL_unit 2 = .ok (.aload_n 0, 1) := by decide +kernel
theorem dL_unit_3 : decode cL_unit 3 = .ok (.iload_n 1, 1) := by decide +kernel
theorem dL_unit_4 : decode cL_unit 4 = .ok (.iload_n 2, 1) := by decide +kernel
theorem dL_unit_5 : decode cL_unit 5 = .ok (.invokevirtual 26, 3) := by decide +kernel
theorem dL_unit_8 : decode cL_unit 8 = .ok (.i2l, 1) := by decide +kernel
theorem dL_unit_9 : decode cL_unit 9 = .ok (.lastore, 1) := by decide +kernel
theorem dL_unit_10 : decode cL_unit 10 = .ok (.goto 11, 3) := by decide +kernel
theorem dL_unit_13 : decode cL_unit 13 = .ok (.astore 4, 2) := by decide +kernel
theorem dL_unit_15 : decode cL_unit 15 = .ok (.iconst 1, 1) := by decide +kernel
theorem dL_unit_16 : decode cL_unit 16 = .ok (.ireturn, 1) := by decide +kernel
theorem dL_unit_17 : decode cL_unit 17 = .ok (.astore 4, 2) := by decide +kernel
theorem dL_unit_19 : decode cL_unit 19 = .ok (.iconst 2, 1) := by decide +kernel
theorem dL_unit_20 : decode cL_unit 20 = .ok (.ireturn, 1) := by decide +kernel
theorem dL_unit_21 : decode cL_unit 21 = .ok (.iconst 0, 1) := by decide +kernel
theorem dL_unit_22 : decode cL_unit 22 = .ok (.ireturn, 1) := by decide +kernel
theorem dL_border_0 : decode cL_border 0 = .ok (.aload_n 3, 1) := by decide +kernel
theorem dL_border_1 : decode cL_border 1 = .ok (.iconst 0, 1) := by decide +kernel
theorem dL_border_2 : decode cL_border 2 = .ok (.aload_n 0, 1) := by decide +kernel
theorem dL_border_3 : decode cL_border 3 = .ok (.iload_n 1, 1) := by decide +kernel
theorem dL_border_4 : decode cL_border 4 = .ok (.iload_n 2, 1) := by decide +kernel
theorem dL_border_5 : decode cL_border 5 = .ok (.invokevirtual 34, 3) := by decide +kernel
theorem dL_border_8 : decode cL_border 8 = .ok (.i2l, 1) := by decide +kernel
theorem dL_border_9 : decode cL_border 9 = .ok (.lastore, 1) := by decide +kernel
theorem dL_border_10 : decode cL_border 10 = .ok (.goto 7, 3) := by decide +kernel
theorem dL_border_13 : decode cL_border 13 = .ok (.astore 4, 2) := by decide +kernel
theorem dL_border_15 : decode cL_border 15 = .ok (.iconst 1, 1) := by decide +kernel
theorem dL_border_16 : decode cL_border 16 = .ok (.ireturn, 1) := by decide +kernel
theorem dL_border_17 : decode cL_border 17 = .ok (.iconst 0, 1) := by decide +kernel
theorem dL_border_18 : decode cL_border 18 = .ok (.ireturn, 1) := by decide +kernel
theorem dL_count_0 : decode cL_count 0 = .ok (.aload_n 2, 1) := by decide +kernel
theorem dL_count_1 : decode cL_count 1 = .ok (.iconst 0, 1) := by decide +kernel
theorem dL_count_2 : decode cL_count 2 = .ok (.aload_n 0, 1) := by decide +kernel
theorem dL_count_3 : decode cL_count 3 = .ok (.iload_n 1, 1) := by decide +kernel
theorem dL_count_4 : decode cL_count 4 = .ok (.invokevirtual 37, 3) := by decide +kernel
theorem dL_count_7 : decode cL_count 7 = .ok (.i2l, 1) := by decide +kernel
theorem dL_count_8 : decode cL_count 8 = .ok (.lastore, 1) := by decide +kernel
theorem dL_count_9 : decode cL_count 9 = .ok (.goto 6, 3) := by decide +kernel
theorem dL_count_12 : decode cL_count 12 = .ok (.astore_n 3, 1) := by decide +kernel
theorem dL_count_13 : decode cL_count 13 = .ok (.iconst 1, 1) := by decide +kernel
theorem dL_count_14 : decode cL_count 14 = .ok (.ireturn, 1) := by decide +kernel
theorem dL_count_15 : decode cL_count 15 = .ok (.iconst 0, 1) := by decide +kernel
theorem dL_count_16 : decode cL_count 16 = .ok (.ireturn, 1) := by decide +kernel
theorem dL_setDistricts_0 : decode cL_setDistricts 0 = .ok (.aload_n 2, 1) := by decide +kernel
theorem dL_setDistricts_1 : decode cL_setDistricts 1 = .ok (.iconst 0, 1) := by decide +kernel
theorem dL_setDistricts_2 : decode cL_setDistricts 2 = .ok (.aload_n 0, 1) := by decide +kernel
theorem dL_setDistricts_3 : decode cL_setDistricts 3 = .ok (.iload_n 1, 1) := by decide +kernel
theorem dL_setDistricts_4 : decode cL_setDistricts 4 = .ok (.invokevirtual 41, 3) := by decide +kernel
theorem dL_setDistricts_7 : decode cL_setDistricts 7 = .ok (.i2l, 1) := by decide +kernel
theorem dL_setDistricts_8 : decode cL_setDistricts 8 = .ok (.lastore, 1) := by decide +kernel
theorem dL_setDistricts_9 : decode cL_setDistricts 9 = .ok (.goto 6, 3) := by decide +kernel
theorem dL_setDistricts_12 : decode cL_setDistricts 12 = .ok (.astore_n 3, 1) := by decide +kernel
theorem dL_setDistricts_13 : decode cL_setDistricts 13 = .ok (.iconst 1, 1) := by decide +kernel
theorem dL_setDistricts_14 : decode cL_setDistricts 14 = .ok (.ireturn, 1) := by decide +kernel
theorem dL_setDistricts_15 : decode cL_setDistricts 15 = .ok (.iconst 0, 1) := by decide +kernel
theorem dL_setDistricts_16 : decode cL_setDistricts 16 = .ok (.ireturn, 1) := by decide +kernel
theorem dL_setTolerance_0 : decode cL_setTolerance 0 = .ok (.aload_n 2, 1) := by decide +kernel
theorem dL_setTolerance_1 : decode cL_setTolerance 1 = .ok (.iconst 0, 1) := by decide +kernel
theorem dL_setTolerance_2 : decode cL_setTolerance 2 = .ok (.aload_n 0, 1) := by decide +kernel
theorem dL_setTolerance_3 : decode cL_setTolerance 3 = .ok (.iload_n 1, 1) := by decide +kernel
theorem dL_setTolerance_4 : decode cL_setTolerance 4 = .ok (.invokevirtual 44, 3) := by decide +kernel
theorem dL_setTolerance_7 : decode cL_setTolerance 7 = .ok (.i2l, 1) := by decide +kernel
theorem dL_setTolerance_8 : decode cL_setTolerance 8 = .ok (.lastore, 1) := by decide +kernel
theorem dL_setTolerance_9 : decode cL_setTolerance 9 = .ok (.goto 6, 3) := by decide +kernel
theorem dL_setTolerance_12 : decode cL_setTolerance 12 = .ok (.astore_n 3, 1) := by decide +kernel
theorem dL_setTolerance_13 : decode cL_setTolerance 13 = .ok (.iconst 1, 1) := by decide +kernel
theorem dL_setTolerance_14 : decode cL_setTolerance 14 = .ok (.ireturn, 1) := by decide +kernel
theorem dL_setTolerance_15 : decode cL_setTolerance 15 = .ok (.iconst 0, 1) := by decide +kernel
theorem dL_setTolerance_16 : decode cL_setTolerance 16 = .ok (.ireturn, 1) := by decide +kernel
theorem dL_readPlan_0 : decode cL_readPlan 0 = .ok (.aload_n 1, 1) := by decide +kernel
theorem dL_readPlan_1 : decode cL_readPlan 1 = .ok (.iconst 0, 1) := by decide +kernel
theorem dL_readPlan_2 : decode cL_readPlan 2 = .ok (.aload_n 0, 1) := by decide +kernel
theorem dL_readPlan_3 : decode cL_readPlan 3 = .ok (.invokevirtual 47, 3) := by decide +kernel
theorem dL_readPlan_6 : decode cL_readPlan 6 = .ok (.i2l, 1) := by decide +kernel
theorem dL_readPlan_7 : decode cL_readPlan 7 = .ok (.lastore, 1) := by decide +kernel
theorem dL_readPlan_8 : decode cL_readPlan 8 = .ok (.goto 6, 3) := by decide +kernel
theorem dL_readPlan_11 : decode cL_readPlan 11 = .ok (.astore_n 2, 1) := by decide +kernel
theorem dL_readPlan_12 : decode cL_readPlan 12 = .ok (.iconst 1, 1) := by decide +kernel
theorem dL_readPlan_13 : decode cL_readPlan 13 = .ok (.ireturn, 1) := by decide +kernel
theorem dL_readPlan_14 : decode cL_readPlan 14 = .ok (.iconst 0, 1) := by decide +kernel
theorem dL_readPlan_15 : decode cL_readPlan 15 = .ok (.ireturn, 1) := by decide +kernel
theorem dL_move_0 : decode cL_move 0 = .ok (.aload_n 3, 1) := by decide +kernel
theorem dL_move_1 : decode cL_move 1 = .ok (.iconst 0, 1) := by decide +kernel
theorem dL_move_2 : decode cL_move 2 = .ok (.aload_n 0, 1) := by decide +kernel
theorem dL_move_3 : decode cL_move 3 = .ok (.iload_n 1, 1) := by decide +kernel
theorem dL_move_4 : decode cL_move 4 = .ok (.iload_n 2, 1) := by decide +kernel
theorem dL_move_5 : decode cL_move 5 = .ok (.invokevirtual 50, 3) := by decide +kernel
theorem dL_move_8 : decode cL_move 8 = .ok (.i2l, 1) := by decide +kernel
theorem dL_move_9 : decode cL_move 9 = .ok (.lastore, 1) := by decide +kernel
theorem dL_move_10 : decode cL_move 10 = .ok (.goto 19, 3) := by decide +kernel
theorem dL_move_13 : decode cL_move 13 = .ok (.astore 4, 2) := by decide +kernel
theorem dL_move_15 : decode cL_move 15 = .ok (.iconst 1, 1) := by decide +kernel
theorem dL_move_16 : decode cL_move 16 = .ok (.ireturn, 1) := by decide +kernel
theorem dL_move_17 : decode cL_move 17 = .ok (.astore 4, 2) := by decide +kernel
theorem dL_move_19 : decode cL_move 19 = .ok (.iconst 2, 1) := by decide +kernel
theorem dL_move_20 : decode cL_move 20 = .ok (.ireturn, 1) := by decide +kernel
theorem dL_move_21 : decode cL_move 21 = .ok (.astore 4, 2) := by decide +kernel
theorem dL_move_23 : decode cL_move 23 = .ok (.iconst 3, 1) := by decide +kernel
theorem dL_move_24 : decode cL_move 24 = .ok (.ireturn, 1) := by decide +kernel
theorem dL_move_25 : decode cL_move 25 = .ok (.astore 4, 2) := by decide +kernel
theorem dL_move_27 : decode cL_move 27 = .ok (.iconst 4, 1) := by decide +kernel
theorem dL_move_28 : decode cL_move 28 = .ok (.ireturn, 1) := by decide +kernel
theorem dL_move_29 : decode cL_move 29 = .ok (.iconst 0, 1) := by decide +kernel
theorem dL_move_30 : decode cL_move 30 = .ok (.ireturn, 1) := by decide +kernel
theorem dL_swap_0 : decode cL_swap 0 = .ok (.aload_n 3, 1) := by decide +kernel
theorem dL_swap_1 : decode cL_swap 1 = .ok (.iconst 0, 1) := by decide +kernel
theorem dL_swap_2 : decode cL_swap 2 = .ok (.aload_n 0, 1) := by decide +kernel
theorem dL_swap_3 : decode cL_swap 3 = .ok (.iload_n 1, 1) := by decide +kernel
theorem dL_swap_4 : decode cL_swap 4 = .ok (.iload_n 2, 1) := by decide +kernel
theorem dL_swap_5 : decode cL_swap 5 = .ok (.invokevirtual 53, 3) := by decide +kernel
theorem dL_swap_8 : decode cL_swap 8 = .ok (.i2l, 1) := by decide +kernel
theorem dL_swap_9 : decode cL_swap 9 = .ok (.lastore, 1) := by decide +kernel
theorem dL_swap_10 : decode cL_swap 10 = .ok (.goto 19, 3) := by decide +kernel
theorem dL_swap_13 : decode cL_swap 13 = .ok (.astore 4, 2) := by decide +kernel
theorem dL_swap_15 : decode cL_swap 15 = .ok (.iconst 1, 1) := by decide +kernel
theorem dL_swap_16 : decode cL_swap 16 = .ok (.ireturn, 1) := by decide +kernel
theorem dL_swap_17 : decode cL_swap 17 = .ok (.astore 4, 2) := by decide +kernel
theorem dL_swap_19 : decode cL_swap 19 = .ok (.iconst 2, 1) := by decide +kernel
theorem dL_swap_20 : decode cL_swap 20 = .ok (.ireturn, 1) := by decide +kernel
theorem dL_swap_21 : decode cL_swap 21 = .ok (.astore 4, 2) := by decide +kernel
theorem dL_swap_23 : decode cL_swap 23 = .ok (.iconst 3, 1) := by decide +kernel
theorem dL_swap_24 : decode cL_swap 24 = .ok (.ireturn, 1) := by decide +kernel
theorem dL_swap_25 : decode cL_swap 25 = .ok (.astore 4, 2) := by decide +kernel
theorem dL_swap_27 : decode cL_swap 27 = .ok (.iconst 4, 1) := by decide +kernel
theorem dL_swap_28 : decode cL_swap 28 = .ok (.ireturn, 1) := by decide +kernel
theorem dL_swap_29 : decode cL_swap 29 = .ok (.iconst 0, 1) := by decide +kernel
theorem dL_swap_30 : decode cL_swap 30 = .ok (.ireturn, 1) := by decide +kernel
theorem dL_refuses_0 : decode cL_refuses 0 = .ok (.aload_n 3, 1) := by decide +kernel
theorem dL_refuses_1 : decode cL_refuses 1 = .ok (.iconst 0, 1) := by decide +kernel
theorem dL_refuses_2 : decode cL_refuses 2 = .ok (.aload_n 0, 1) := by decide +kernel
theorem dL_refuses_3 : decode cL_refuses 3 = .ok (.iload_n 1, 1) := by decide +kernel
theorem dL_refuses_4 : decode cL_refuses 4 = .ok (.iload_n 2, 1) := by decide +kernel
theorem dL_refuses_5 : decode cL_refuses 5 = .ok (.invokevirtual 56, 3) := by decide +kernel
theorem dL_refuses_8 : decode cL_refuses 8 = .ok (.i2l, 1) := by decide +kernel
theorem dL_refuses_9 : decode cL_refuses 9 = .ok (.lastore, 1) := by decide +kernel
theorem dL_refuses_10 : decode cL_refuses 10 = .ok (.goto 15, 3) := by decide +kernel
theorem dL_refuses_13 : decode cL_refuses 13 = .ok (.astore 4, 2) := by decide +kernel
theorem dL_refuses_15 : decode cL_refuses 15 = .ok (.iconst 1, 1) := by decide +kernel
theorem dL_refuses_16 : decode cL_refuses 16 = .ok (.ireturn, 1) := by decide +kernel
theorem dL_refuses_17 : decode cL_refuses 17 = .ok (.astore 4, 2) := by decide +kernel
theorem dL_refuses_19 : decode cL_refuses 19 = .ok (.iconst 2, 1) := by decide +kernel
theorem dL_refuses_20 : decode cL_refuses 20 = .ok (.ireturn, 1) := by decide +kernel
theorem dL_refuses_21 : decode cL_refuses 21 = .ok (.astore 4, 2) := by decide +kernel
theorem dL_refuses_23 : decode cL_refuses 23 = .ok (.iconst 3, 1) := by decide +kernel
theorem dL_refuses_24 : decode cL_refuses 24 = .ok (.ireturn, 1) := by decide +kernel
theorem dL_refuses_25 : decode cL_refuses 25 = .ok (.iconst 0, 1) := by decide +kernel
theorem dL_refuses_26 : decode cL_refuses 26 = .ok (.ireturn, 1) := by decide +kernel
theorem dL_refusal_0 : decode cL_refusal 0 = .ok (.aload_n 2, 1) := by decide +kernel
theorem dL_refusal_1 : decode cL_refusal 1 = .ok (.iconst 0, 1) := by decide +kernel
theorem dL_refusal_2 : decode cL_refusal 2 = .ok (.aload_n 0, 1) := by decide +kernel
theorem dL_refusal_3 : decode cL_refusal 3 = .ok (.iload_n 1, 1) := by decide +kernel
theorem dL_refusal_4 : decode cL_refusal 4 = .ok (.invokevirtual 59, 3) := by decide +kernel
theorem dL_refusal_7 : decode cL_refusal 7 = .ok (.i2l, 1) := by decide +kernel
theorem dL_refusal_8 : decode cL_refusal 8 = .ok (.lastore, 1) := by decide +kernel
theorem dL_refusal_9 : decode cL_refusal 9 = .ok (.goto 6, 3) := by decide +kernel
theorem dL_refusal_12 : decode cL_refusal 12 = .ok (.astore_n 3, 1) := by decide +kernel
theorem dL_refusal_13 : decode cL_refusal 13 = .ok (.iconst 1, 1) := by decide +kernel
theorem dL_refusal_14 : decode cL_refusal 14 = .ok (.ireturn, 1) := by decide +kernel
theorem dL_refusal_15 : decode cL_refusal 15 = .ok (.iconst 0, 1) := by decide +kernel
theorem dL_refusal_16 : decode cL_refusal 16 = .ok (.ireturn, 1) := by decide +kernel
theorem dL_district_0 : decode cL_district 0 = .ok (.aload_n 3, 1) := by decide +kernel
theorem dL_district_1 : decode cL_district 1 = .ok (.iconst 0, 1) := by decide +kernel
theorem dL_district_2 : decode cL_district 2 = .ok (.aload_n 0, 1) := by decide +kernel
theorem dL_district_3 : decode cL_district 3 = .ok (.iload_n 1, 1) := by decide +kernel
theorem dL_district_4 : decode cL_district 4 = .ok (.iload_n 2, 1) := by decide +kernel
theorem dL_district_5 : decode cL_district 5 = .ok (.invokevirtual 63, 3) := by decide +kernel
theorem dL_district_8 : decode cL_district 8 = .ok (.i2l, 1) := by decide +kernel
theorem dL_district_9 : decode cL_district 9 = .ok (.lastore, 1) := by decide +kernel
theorem dL_district_10 : decode cL_district 10 = .ok (.goto 15, 3) := by decide +kernel
theorem dL_district_13 : decode cL_district 13 = .ok (.astore 4, 2) := by decide +kernel
theorem dL_district_15 : decode cL_district 15 = .ok (.iconst 1, 1) := by decide +kernel
theorem dL_district_16 : decode cL_district 16 = .ok (.ireturn, 1) := by decide +kernel
theorem dL_district_17 : decode cL_district 17 = .ok (.astore 4, 2) := by decide +kernel
theorem dL_district_19 : decode cL_district 19 = .ok (.iconst 2, 1) := by decide +kernel
theorem dL_district_20 : decode cL_district 20 = .ok (.ireturn, 1) := by decide +kernel
theorem dL_district_21 : decode cL_district 21 = .ok (.astore 4, 2) := by decide +kernel
theorem dL_district_23 : decode cL_district 23 = .ok (.iconst 3, 1) := by decide +kernel
theorem dL_district_24 : decode cL_district 24 = .ok (.ireturn, 1) := by decide +kernel
theorem dL_district_25 : decode cL_district 25 = .ok (.iconst 0, 1) := by decide +kernel
theorem dL_district_26 : decode cL_district 26 = .ok (.ireturn, 1) := by decide +kernel
theorem dL_measure_0 : decode cL_measure 0 = .ok (.aload_n 3, 1) := by decide +kernel
theorem dL_measure_1 : decode cL_measure 1 = .ok (.iconst 0, 1) := by decide +kernel
theorem dL_measure_2 : decode cL_measure 2 = .ok (.aload_n 0, 1) := by decide +kernel
theorem dL_measure_3 : decode cL_measure 3 = .ok (.iload_n 1, 1) := by decide +kernel
theorem dL_measure_4 : decode cL_measure 4 = .ok (.iload_n 2, 1) := by decide +kernel
theorem dL_measure_5 : decode cL_measure 5 = .ok (.invokevirtual 66, 3) := by decide +kernel
theorem dL_measure_8 : decode cL_measure 8 = .ok (.lastore, 1) := by decide +kernel
theorem dL_measure_9 : decode cL_measure 9 = .ok (.goto 11, 3) := by decide +kernel
theorem dL_measure_12 : decode cL_measure 12 = .ok (.astore 4, 2) := by decide +kernel
theorem dL_measure_14 : decode cL_measure 14 = .ok (.iconst 1, 1) := by decide +kernel
theorem dL_measure_15 : decode cL_measure 15 = .ok (.ireturn, 1) := by decide +kernel
theorem dL_measure_16 : decode cL_measure 16 = .ok (.astore 4, 2) := by decide +kernel
theorem dL_measure_18 : decode cL_measure 18 = .ok (.iconst 2, 1) := by decide +kernel
theorem dL_measure_19 : decode cL_measure 19 = .ok (.ireturn, 1) := by decide +kernel
theorem dL_measure_20 : decode cL_measure 20 = .ok (.iconst 0, 1) := by decide +kernel
theorem dL_measure_21 : decode cL_measure 21 = .ok (.ireturn, 1) := by decide +kernel
theorem dL_meanCompactness_0 : decode cL_meanCompactness 0 = .ok (.aload_n 1, 1) := by decide +kernel
theorem dL_meanCompactness_1 : decode cL_meanCompactness 1 = .ok (.iconst 0, 1) := by decide +kernel
theorem dL_meanCompactness_2 : decode cL_meanCompactness 2 = .ok (.aload_n 0, 1) := by decide +kernel
theorem dL_meanCompactness_3 : decode cL_meanCompactness 3 = .ok (.invokevirtual 70, 3) := by decide +kernel
theorem dL_meanCompactness_6 : decode cL_meanCompactness 6 = .ok (.f2d, 1) := by decide +kernel
theorem dL_meanCompactness_7 : decode cL_meanCompactness 7 = .ok (.dastore, 1) := by decide +kernel
theorem dL_meanCompactness_8 : decode cL_meanCompactness 8 = .ok (.goto 6, 3) := by decide +kernel
theorem dL_meanCompactness_11 : decode cL_meanCompactness 11 = .ok (.astore_n 2, 1) := by decide +kernel
theorem dL_meanCompactness_12 : decode cL_meanCompactness 12 = .ok (.iconst 1, 1) := by decide +kernel
theorem dL_meanCompactness_13 : decode cL_meanCompactness 13 = .ok (.ireturn, 1) := by decide +kernel
theorem dL_meanCompactness_14 : decode cL_meanCompactness 14 = .ok (.iconst 0, 1) := by decide +kernel
theorem dL_meanCompactness_15 : decode cL_meanCompactness 15 = .ok (.ireturn, 1) := by decide +kernel
theorem dL_improve_0 : decode cL_improve 0 = .ok (.aload_n 2, 1) := by decide +kernel
theorem dL_improve_1 : decode cL_improve 1 = .ok (.iconst 0, 1) := by decide +kernel
theorem dL_improve_2 : decode cL_improve 2 = .ok (.aload_n 0, 1) := by decide +kernel
theorem dL_improve_3 : decode cL_improve 3 = .ok (.iload_n 1, 1) := by decide +kernel
theorem dL_improve_4 : decode cL_improve 4 = .ok (.invokevirtual 74, 3) := by decide +kernel
theorem dL_improve_7 : decode cL_improve 7 = .ok (.i2l, 1) := by decide +kernel
theorem dL_improve_8 : decode cL_improve 8 = .ok (.lastore, 1) := by decide +kernel
theorem dL_improve_9 : decode cL_improve 9 = .ok (.goto 9, 3) := by decide +kernel
theorem dL_improve_12 : decode cL_improve 12 = .ok (.astore_n 3, 1) := by decide +kernel
theorem dL_improve_13 : decode cL_improve 13 = .ok (.iconst 1, 1) := by decide +kernel
theorem dL_improve_14 : decode cL_improve 14 = .ok (.ireturn, 1) := by decide +kernel
theorem dL_improve_15 : decode cL_improve 15 = .ok (.astore_n 3, 1) := by decide +kernel
theorem dL_improve_16 : decode cL_improve 16 = .ok (.iconst 2, 1) := by decide +kernel
theorem dL_improve_17 : decode cL_improve 17 = .ok (.ireturn, 1) := by decide +kernel
theorem dL_improve_18 : decode cL_improve 18 = .ok (.iconst 0, 1) := by decide +kernel
theorem dL_improve_19 : decode cL_improve 19 = .ok (.ireturn, 1) := by decide +kernel
theorem dL_possible_0 : decode cL_possible 0 = .ok (.aload_n 2, 1) := by decide +kernel
theorem dL_possible_1 : decode cL_possible 1 = .ok (.iconst 0, 1) := by decide +kernel
theorem dL_possible_2 : decode cL_possible 2 = .ok (.aload_n 0, 1) := by decide +kernel
theorem dL_possible_3 : decode cL_possible 3 = .ok (.iload_n 1, 1) := by decide +kernel
theorem dL_possible_4 : decode cL_possible 4 = .ok (.invokevirtual 77, 3) := by decide +kernel
theorem dL_possible_7 : decode cL_possible 7 = .ok (.i2l, 1) := by decide +kernel
theorem dL_possible_8 : decode cL_possible 8 = .ok (.lastore, 1) := by decide +kernel
theorem dL_possible_9 : decode cL_possible 9 = .ok (.goto 6, 3) := by decide +kernel
theorem dL_possible_12 : decode cL_possible 12 = .ok (.astore_n 3, 1) := by decide +kernel
theorem dL_possible_13 : decode cL_possible 13 = .ok (.iconst 1, 1) := by decide +kernel
theorem dL_possible_14 : decode cL_possible 14 = .ok (.ireturn, 1) := by decide +kernel
theorem dL_possible_15 : decode cL_possible 15 = .ok (.iconst 0, 1) := by decide +kernel
theorem dL_possible_16 : decode cL_possible 16 = .ok (.ireturn, 1) := by decide +kernel
theorem dL_plans_0 : decode cL_plans 0 = .ok (.aload_n 1, 1) := by decide +kernel
theorem dL_plans_1 : decode cL_plans 1 = .ok (.iconst 0, 1) := by decide +kernel
theorem dL_plans_2 : decode cL_plans 2 = .ok (.aload_n 0, 1) := by decide +kernel
theorem dL_plans_3 : decode cL_plans 3 = .ok (.invokevirtual 80, 3) := by decide +kernel
theorem dL_plans_6 : decode cL_plans 6 = .ok (.i2l, 1) := by decide +kernel
theorem dL_plans_7 : decode cL_plans 7 = .ok (.lastore, 1) := by decide +kernel
theorem dL_plans_8 : decode cL_plans 8 = .ok (.goto 6, 3) := by decide +kernel
theorem dL_plans_11 : decode cL_plans 11 = .ok (.astore_n 2, 1) := by decide +kernel
theorem dL_plans_12 : decode cL_plans 12 = .ok (.iconst 1, 1) := by decide +kernel
theorem dL_plans_13 : decode cL_plans 13 = .ok (.ireturn, 1) := by decide +kernel
theorem dL_plans_14 : decode cL_plans 14 = .ok (.iconst 0, 1) := by decide +kernel
theorem dL_plans_15 : decode cL_plans 15 = .ok (.ireturn, 1) := by decide +kernel
theorem dL_counted_0 : decode cL_counted 0 = .ok (.aload_n 1, 1) := by decide +kernel
theorem dL_counted_1 : decode cL_counted 1 = .ok (.iconst 0, 1) := by decide +kernel
theorem dL_counted_2 : decode cL_counted 2 = .ok (.aload_n 0, 1) := by decide +kernel
theorem dL_counted_3 : decode cL_counted 3 = .ok (.invokevirtual 83, 3) := by decide +kernel
theorem dL_counted_6 : decode cL_counted 6 = .ok (.i2l, 1) := by decide +kernel
theorem dL_counted_7 : decode cL_counted 7 = .ok (.lastore, 1) := by decide +kernel
theorem dL_counted_8 : decode cL_counted 8 = .ok (.goto 6, 3) := by decide +kernel
theorem dL_counted_11 : decode cL_counted 11 = .ok (.astore_n 2, 1) := by decide +kernel
theorem dL_counted_12 : decode cL_counted 12 = .ok (.iconst 1, 1) := by decide +kernel
theorem dL_counted_13 : decode cL_counted 13 = .ok (.ireturn, 1) := by decide +kernel
theorem dL_counted_14 : decode cL_counted 14 = .ok (.iconst 0, 1) := by decide +kernel
theorem dL_counted_15 : decode cL_counted 15 = .ok (.ireturn, 1) := by decide +kernel
theorem dL_planned_0 : decode cL_planned 0 = .ok (.aload_n 3, 1) := by decide +kernel
theorem dL_planned_1 : decode cL_planned 1 = .ok (.iconst 0, 1) := by decide +kernel
theorem dL_planned_2 : decode cL_planned 2 = .ok (.aload_n 0, 1) := by decide +kernel
theorem dL_planned_3 : decode cL_planned 3 = .ok (.iload_n 1, 1) := by decide +kernel
theorem dL_planned_4 : decode cL_planned 4 = .ok (.iload_n 2, 1) := by decide +kernel
theorem dL_planned_5 : decode cL_planned 5 = .ok (.invokevirtual 86, 3) := by decide +kernel
theorem dL_planned_8 : decode cL_planned 8 = .ok (.i2l, 1) := by decide +kernel
theorem dL_planned_9 : decode cL_planned 9 = .ok (.lastore, 1) := by decide +kernel
theorem dL_planned_10 : decode cL_planned 10 = .ok (.goto 15, 3) := by decide +kernel
theorem dL_planned_13 : decode cL_planned 13 = .ok (.astore 4, 2) := by decide +kernel
theorem dL_planned_15 : decode cL_planned 15 = .ok (.iconst 1, 1) := by decide +kernel
theorem dL_planned_16 : decode cL_planned 16 = .ok (.ireturn, 1) := by decide +kernel
theorem dL_planned_17 : decode cL_planned 17 = .ok (.astore 4, 2) := by decide +kernel
theorem dL_planned_19 : decode cL_planned 19 = .ok (.iconst 2, 1) := by decide +kernel
theorem dL_planned_20 : decode cL_planned 20 = .ok (.ireturn, 1) := by decide +kernel
theorem dL_planned_21 : decode cL_planned 21 = .ok (.astore 4, 2) := by decide +kernel
theorem dL_planned_23 : decode cL_planned 23 = .ok (.iconst 3, 1) := by decide +kernel
theorem dL_planned_24 : decode cL_planned 24 = .ok (.ireturn, 1) := by decide +kernel
theorem dL_planned_25 : decode cL_planned 25 = .ok (.iconst 0, 1) := by decide +kernel
theorem dL_planned_26 : decode cL_planned 26 = .ok (.ireturn, 1) := by decide +kernel
theorem dL_best_0 : decode cL_best 0 = .ok (.aload_n 2, 1) := by decide +kernel
theorem dL_best_1 : decode cL_best 1 = .ok (.iconst 0, 1) := by decide +kernel
theorem dL_best_2 : decode cL_best 2 = .ok (.aload_n 0, 1) := by decide +kernel
theorem dL_best_3 : decode cL_best 3 = .ok (.iload_n 1, 1) := by decide +kernel
theorem dL_best_4 : decode cL_best 4 = .ok (.invokevirtual 89, 3) := by decide +kernel
theorem dL_best_7 : decode cL_best 7 = .ok (.i2l, 1) := by decide +kernel
theorem dL_best_8 : decode cL_best 8 = .ok (.lastore, 1) := by decide +kernel
theorem dL_best_9 : decode cL_best 9 = .ok (.goto 12, 3) := by decide +kernel
theorem dL_best_12 : decode cL_best 12 = .ok (.astore_n 3, 1) := by decide +kernel
theorem dL_best_13 : decode cL_best 13 = .ok (.iconst 1, 1) := by decide +kernel
theorem dL_best_14 : decode cL_best 14 = .ok (.ireturn, 1) := by decide +kernel
theorem dL_best_15 : decode cL_best 15 = .ok (.astore_n 3, 1) := by decide +kernel
theorem dL_best_16 : decode cL_best 16 = .ok (.iconst 2, 1) := by decide +kernel
theorem dL_best_17 : decode cL_best 17 = .ok (.ireturn, 1) := by decide +kernel
theorem dL_best_18 : decode cL_best 18 = .ok (.astore_n 3, 1) := by decide +kernel
theorem dL_best_19 : decode cL_best 19 = .ok (.iconst 3, 1) := by decide +kernel
theorem dL_best_20 : decode cL_best 20 = .ok (.ireturn, 1) := by decide +kernel
theorem dL_best_21 : decode cL_best 21 = .ok (.iconst 0, 1) := by decide +kernel
theorem dL_best_22 : decode cL_best 22 = .ok (.ireturn, 1) := by decide +kernel
theorem dL_choose_0 : decode cL_choose 0 = .ok (.aload_n 2, 1) := by decide +kernel
theorem dL_choose_1 : decode cL_choose 1 = .ok (.iconst 0, 1) := by decide +kernel
theorem dL_choose_2 : decode cL_choose 2 = .ok (.aload_n 0, 1) := by decide +kernel
theorem dL_choose_3 : decode cL_choose 3 = .ok (.iload_n 1, 1) := by decide +kernel
theorem dL_choose_4 : decode cL_choose 4 = .ok (.invokevirtual 92, 3) := by decide +kernel
theorem dL_choose_7 : decode cL_choose 7 = .ok (.i2l, 1) := by decide +kernel
theorem dL_choose_8 : decode cL_choose 8 = .ok (.lastore, 1) := by decide +kernel
theorem dL_choose_9 : decode cL_choose 9 = .ok (.goto 9, 3) := by decide +kernel
theorem dL_choose_12 : decode cL_choose 12 = .ok (.astore_n 3, 1) := by decide +kernel
theorem dL_choose_13 : decode cL_choose 13 = .ok (.iconst 1, 1) := by decide +kernel
theorem dL_choose_14 : decode cL_choose 14 = .ok (.ireturn, 1) := by decide +kernel
theorem dL_choose_15 : decode cL_choose 15 = .ok (.astore_n 3, 1) := by decide +kernel
theorem dL_choose_16 : decode cL_choose 16 = .ok (.iconst 2, 1) := by decide +kernel
theorem dL_choose_17 : decode cL_choose 17 = .ok (.ireturn, 1) := by decide +kernel
theorem dL_choose_18 : decode cL_choose 18 = .ok (.iconst 0, 1) := by decide +kernel
theorem dL_choose_19 : decode cL_choose 19 = .ok (.ireturn, 1) := by decide +kernel
theorem dL_store_0 : decode cL_store 0 = .ok (.aload_n 3, 1) := by decide +kernel
theorem dL_store_1 : decode cL_store 1 = .ok (.iconst 0, 1) := by decide +kernel
theorem dL_store_2 : decode cL_store 2 = .ok (.aload_n 0, 1) := by decide +kernel
theorem dL_store_3 : decode cL_store 3 = .ok (.iload_n 1, 1) := by decide +kernel
theorem dL_store_4 : decode cL_store 4 = .ok (.iload_n 2, 1) := by decide +kernel
theorem dL_store_5 : decode cL_store 5 = .ok (.invokevirtual 95, 3) := by decide +kernel
theorem dL_store_8 : decode cL_store 8 = .ok (.i2l, 1) := by decide +kernel
theorem dL_store_9 : decode cL_store 9 = .ok (.lastore, 1) := by decide +kernel
theorem dL_store_10 : decode cL_store 10 = .ok (.goto 11, 3) := by decide +kernel
theorem dL_store_13 : decode cL_store 13 = .ok (.astore 4, 2) := by decide +kernel
theorem dL_store_15 : decode cL_store 15 = .ok (.iconst 1, 1) := by decide +kernel
theorem dL_store_16 : decode cL_store 16 = .ok (.ireturn, 1) := by decide +kernel
theorem dL_store_17 : decode cL_store 17 = .ok (.astore 4, 2) := by decide +kernel
theorem dL_store_19 : decode cL_store 19 = .ok (.iconst 2, 1) := by decide +kernel
theorem dL_store_20 : decode cL_store 20 = .ok (.ireturn, 1) := by decide +kernel
theorem dL_store_21 : decode cL_store 21 = .ok (.iconst 0, 1) := by decide +kernel
theorem dL_store_22 : decode cL_store 22 = .ok (.ireturn, 1) := by decide +kernel
theorem dL_copyRow_0 : decode cL_copyRow 0 = .ok (.aload 4, 2) := by decide +kernel
theorem dL_copyRow_2 : decode cL_copyRow 2 = .ok (.iconst 0, 1) := by decide +kernel
theorem dL_copyRow_3 : decode cL_copyRow 3 = .ok (.aload_n 0, 1) := by decide +kernel
theorem dL_copyRow_4 : decode cL_copyRow 4 = .ok (.iload_n 1, 1) := by decide +kernel
theorem dL_copyRow_5 : decode cL_copyRow 5 = .ok (.iload_n 2, 1) := by decide +kernel
theorem dL_copyRow_6 : decode cL_copyRow 6 = .ok (.iload_n 3, 1) := by decide +kernel
theorem dL_copyRow_7 : decode cL_copyRow 7 = .ok (.invokevirtual 99, 3) := by decide +kernel
theorem dL_copyRow_10 : decode cL_copyRow 10 = .ok (.i2l, 1) := by decide +kernel
theorem dL_copyRow_11 : decode cL_copyRow 11 = .ok (.lastore, 1) := by decide +kernel
theorem dL_copyRow_12 : decode cL_copyRow 12 = .ok (.goto 19, 3) := by decide +kernel
theorem dL_copyRow_15 : decode cL_copyRow 15 = .ok (.astore 5, 2) := by decide +kernel
theorem dL_copyRow_17 : decode cL_copyRow 17 = .ok (.iconst 1, 1) := by decide +kernel
theorem dL_copyRow_18 : decode cL_copyRow 18 = .ok (.ireturn, 1) := by decide +kernel
theorem dL_copyRow_19 : decode cL_copyRow 19 = .ok (.astore 5, 2) := by decide +kernel
theorem dL_copyRow_21 : decode cL_copyRow 21 = .ok (.iconst 2, 1) := by decide +kernel
theorem dL_copyRow_22 : decode cL_copyRow 22 = .ok (.ireturn, 1) := by decide +kernel
theorem dL_copyRow_23 : decode cL_copyRow 23 = .ok (.astore 5, 2) := by decide +kernel
theorem dL_copyRow_25 : decode cL_copyRow 25 = .ok (.iconst 3, 1) := by decide +kernel
theorem dL_copyRow_26 : decode cL_copyRow 26 = .ok (.ireturn, 1) := by decide +kernel
theorem dL_copyRow_27 : decode cL_copyRow 27 = .ok (.astore 5, 2) := by decide +kernel
theorem dL_copyRow_29 : decode cL_copyRow 29 = .ok (.iconst 4, 1) := by decide +kernel
theorem dL_copyRow_30 : decode cL_copyRow 30 = .ok (.ireturn, 1) := by decide +kernel
theorem dL_copyRow_31 : decode cL_copyRow 31 = .ok (.iconst 0, 1) := by decide +kernel
theorem dL_copyRow_32 : decode cL_copyRow 32 = .ok (.ireturn, 1) := by decide +kernel
theorem dL_bits_0 : decode cL_bits 0 = .ok (.aload_n 3, 1) := by decide +kernel
theorem dL_bits_1 : decode cL_bits 1 = .ok (.iconst 0, 1) := by decide +kernel
theorem dL_bits_2 : decode cL_bits 2 = .ok (.aload_n 0, 1) := by decide +kernel
theorem dL_bits_3 : decode cL_bits 3 = .ok (.iload_n 1, 1) := by decide +kernel
theorem dL_bits_4 : decode cL_bits 4 = .ok (.iload_n 2, 1) := by decide +kernel
theorem dL_bits_5 : decode cL_bits 5 = .ok (.invokevirtual 103, 3) := by decide +kernel
theorem dL_bits_8 : decode cL_bits 8 = .ok (.i2l, 1) := by decide +kernel
theorem dL_bits_9 : decode cL_bits 9 = .ok (.lastore, 1) := by decide +kernel
theorem dL_bits_10 : decode cL_bits 10 = .ok (.goto 11, 3) := by decide +kernel
theorem dL_bits_13 : decode cL_bits 13 = .ok (.astore 4, 2) := by decide +kernel
theorem dL_bits_15 : decode cL_bits 15 = .ok (.iconst 1, 1) := by decide +kernel
theorem dL_bits_16 : decode cL_bits 16 = .ok (.ireturn, 1) := by decide +kernel
theorem dL_bits_17 : decode cL_bits 17 = .ok (.astore 4, 2) := by decide +kernel
theorem dL_bits_19 : decode cL_bits 19 = .ok (.iconst 2, 1) := by decide +kernel
theorem dL_bits_20 : decode cL_bits 20 = .ok (.ireturn, 1) := by decide +kernel
theorem dL_bits_21 : decode cL_bits 21 = .ok (.iconst 0, 1) := by decide +kernel
theorem dL_bits_22 : decode cL_bits 22 = .ok (.ireturn, 1) := by decide +kernel
theorem dL_undo_0 : decode cL_undo 0 = .ok (.aload_n 1, 1) := by decide +kernel
theorem dL_undo_1 : decode cL_undo 1 = .ok (.iconst 0, 1) := by decide +kernel
theorem dL_undo_2 : decode cL_undo 2 = .ok (.aload_n 0, 1) := by decide +kernel
theorem dL_undo_3 : decode cL_undo 3 = .ok (.invokevirtual 106, 3) := by decide +kernel
theorem dL_undo_6 : decode cL_undo 6 = .ok (.i2l, 1) := by decide +kernel
theorem dL_undo_7 : decode cL_undo 7 = .ok (.lastore, 1) := by decide +kernel
theorem dL_undo_8 : decode cL_undo 8 = .ok (.goto 6, 3) := by decide +kernel
theorem dL_undo_11 : decode cL_undo 11 = .ok (.astore_n 2, 1) := by decide +kernel
theorem dL_undo_12 : decode cL_undo 12 = .ok (.iconst 1, 1) := by decide +kernel
theorem dL_undo_13 : decode cL_undo 13 = .ok (.ireturn, 1) := by decide +kernel
theorem dL_undo_14 : decode cL_undo 14 = .ok (.iconst 0, 1) := by decide +kernel
theorem dL_undo_15 : decode cL_undo 15 = .ok (.ireturn, 1) := by decide +kernel
theorem dL_restoreSnapshot_0 : decode cL_restoreSnapshot 0 = .ok (.aload_n 1, 1) := by decide +kernel
theorem dL_restoreSnapshot_1 : decode cL_restoreSnapshot 1 = .ok (.iconst 0, 1) := by decide +kernel
theorem dL_restoreSnapshot_2 : decode cL_restoreSnapshot 2 = .ok (.aload_n 0, 1) := by decide +kernel
theorem dL_restoreSnapshot_3 : decode cL_restoreSnapshot 3 = .ok (.invokevirtual 109, 3) := by decide +kernel
theorem dL_restoreSnapshot_6 : decode cL_restoreSnapshot 6 = .ok (.i2l, 1) := by decide +kernel
theorem dL_restoreSnapshot_7 : decode cL_restoreSnapshot 7 = .ok (.lastore, 1) := by decide +kernel
theorem dL_restoreSnapshot_8 : decode cL_restoreSnapshot 8 = .ok (.goto 6, 3) := by decide +kernel
theorem dL_restoreSnapshot_11 : decode cL_restoreSnapshot 11 = .ok (.astore_n 2, 1) := by decide +kernel
theorem dL_restoreSnapshot_12 : decode cL_restoreSnapshot 12 = .ok (.iconst 1, 1) := by decide +kernel
theorem dL_restoreSnapshot_13 : decode cL_restoreSnapshot 13 = .ok (.ireturn, 1) := by decide +kernel
theorem dL_restoreSnapshot_14 : decode cL_restoreSnapshot 14 = .ok (.iconst 0, 1) := by decide +kernel
theorem dL_restoreSnapshot_15 : decode cL_restoreSnapshot 15 = .ok (.ireturn, 1) := by decide +kernel
theorem dL_letter_0 : decode cL_letter 0 = .ok (.aload_n 2, 1) := by decide +kernel
theorem dL_letter_1 : decode cL_letter 1 = .ok (.iconst 0, 1) := by decide +kernel
theorem dL_letter_2 : decode cL_letter 2 = .ok (.aload_n 0, 1) := by decide +kernel
theorem dL_letter_3 : decode cL_letter 3 = .ok (.iload_n 1, 1) := by decide +kernel
theorem dL_letter_4 : decode cL_letter 4 = .ok (.invokevirtual 112, 3) := by decide +kernel
theorem dL_letter_7 : decode cL_letter 7 = .ok (.i2l, 1) := by decide +kernel
theorem dL_letter_8 : decode cL_letter 8 = .ok (.lastore, 1) := by decide +kernel
theorem dL_letter_9 : decode cL_letter 9 = .ok (.goto 9, 3) := by decide +kernel
theorem dL_letter_12 : decode cL_letter 12 = .ok (.astore_n 3, 1) := by decide +kernel
theorem dL_letter_13 : decode cL_letter 13 = .ok (.iconst 1, 1) := by decide +kernel
theorem dL_letter_14 : decode cL_letter 14 = .ok (.ireturn, 1) := by decide +kernel
theorem dL_letter_15 : decode cL_letter 15 = .ok (.astore_n 3, 1) := by decide +kernel
theorem dL_letter_16 : decode cL_letter 16 = .ok (.iconst 2, 1) := by decide +kernel
theorem dL_letter_17 : decode cL_letter 17 = .ok (.ireturn, 1) := by decide +kernel
theorem dL_letter_18 : decode cL_letter 18 = .ok (.iconst 0, 1) := by decide +kernel
theorem dL_letter_19 : decode cL_letter 19 = .ok (.ireturn, 1) := by decide +kernel
