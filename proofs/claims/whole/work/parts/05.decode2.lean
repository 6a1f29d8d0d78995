theorem dX10_checkListedPlan_30 : decode cX10_checkListedPlan 30 = .ok (.return_, 1) := by decide +kernel
theorem dX10_isRow_0 : decode cX10_isRow 0 = .ok (.iload_n 0, 1) := by decide +kernel
theorem dX10_isRow_1 : decode cX10_isRow 1 = .ok (.ifCond .lt 12, 3) := by decide +kernel
theorem dX10_isRow_4 : decode cX10_isRow 4 = .ok (.iload_n 0, 1) := by decide +kernel
theorem dX10_isRow_5 : decode cX10_isRow 5 = .ok (.iconst 3, 1) := by decide +kernel
theorem dX10_isRow_6 : decode cX10_isRow 6 = .ok (.if_icmp .ge 7, 3) := by decide +kernel
theorem dX10_isRow_9 : decode cX10_isRow 9 = .ok (.iconst 1, 1) := by decide +kernel
theorem dX10_isRow_10 : decode cX10_isRow 10 = .ok (.goto 4, 3) := by decide +kernel
theorem dX10_isRow_13 : decode cX10_isRow 13 = .ok (.iconst 0, 1) := by decide +kernel
theorem dX10_isRow_14 : decode cX10_isRow 14 = .ok (.ireturn, 1) := by decide +kernel
theorem dX10_forgetPlans_0 : decode cX10_forgetPlans 0 = .ok (.aload_n 0, 1) := by decide +kernel
theorem dX10_forgetPlans_1 : decode cX10_forgetPlans 1 = .ok (.getfield 33, 3) := by decide +kernel
theorem dX10_forgetPlans_4 : decode cX10_forgetPlans 4 = .ok (.invokevirtual 420, 3) := by decide +kernel
theorem dX10_forgetPlans_7 : decode cX10_forgetPlans 7 = .ok (.aload_n 0, 1) := by decide +kernel
theorem dX10_forgetPlans_8 : decode cX10_forgetPlans 8 = .ok (.getfield 74, 3) := by decide +kernel
theorem dX10_forgetPlans_11 : decode cX10_forgetPlans 11 = .ok (.invokevirtual 400, 3) := by decide +kernel
theorem dX10_forgetPlans_14 : decode cX10_forgetPlans 14 = .ok (.return_, 1) := by decide +kernel
theorem dX10_keepRefusal_0 : decode cX10_keepRefusal 0 = .ok (.aload_n 0, 1) := by decide +kernel
theorem dX10_keepRefusal_1 : decode cX10_keepRefusal 1 = .ok (.aload_n 0, 1) := by decide +kernel
theorem dX10_keepRefusal_2 : decode cX10_keepRefusal 2 = .ok (.getfield 60, 3) := by decide +kernel
theorem dX10_keepRefusal_5 : decode cX10_keepRefusal 5 = .ok (.getfield 240, 3) := by decide +kernel
theorem dX10_keepRefusal_8 : decode cX10_keepRefusal 8 = .ok (.putfield 20, 3) := by decide +kernel
theorem dX10_keepRefusal_11 : decode cX10_keepRefusal 11 = .ok (.aload_n 0, 1) := by decide +kernel
theorem dX10_keepRefusal_12 : decode cX10_keepRefusal 12 = .ok (.aload_n 0, 1) := by decide +kernel
theorem dX10_keepRefusal_13 : decode cX10_keepRefusal 13 = .ok (.getfield 60, 3) := by decide +kernel
theorem dX10_keepRefusal_16 : decode cX10_keepRefusal 16 = .ok (.getfield 423, 3) := by decide +kernel
theorem dX10_keepRefusal_19 : decode cX10_keepRefusal 19 = .ok (.putfield 23, 3) := by decide +kernel
theorem dX10_keepRefusal_22 : decode cX10_keepRefusal 22 = .ok (.return_, 1) := by decide +kernel
theorem dX10_becomePresent_0 : decode cX10_becomePresent 0 = .ok (.aload_n 0, 1) := by decide +kernel
theorem dX10_becomePresent_1 : decode cX10_becomePresent 1 = .ok (.getfield 81, 3) := by decide +kernel
theorem dX10_becomePresent_4 : decode cX10_becomePresent 4 = .ok (.aload_n 0, 1) := by decide +kernel
theorem dX10_becomePresent_5 : decode cX10_becomePresent 5 = .ok (.getfield 33, 3) := by decide +kernel
theorem dX10_becomePresent_8 : decode cX10_becomePresent 8 = .ok (.invokevirtual 123, 3) := by decide +kernel
theorem dX10_becomePresent_11 : decode cX10_becomePresent 11 = .ok (.aload_n 0, 1) := by decide +kernel
theorem dX10_becomePresent_12 : decode cX10_becomePresent 12 = .ok (.getfield 33, 3) := by decide +kernel
theorem dX10_becomePresent_15 : decode cX10_becomePresent 15 = .ok (.getfield 166, 3) := by decide +kernel
theorem dX10_becomePresent_18 : decode cX10_becomePresent 18 = .ok (.aload_n 1, 1) := by decide +kernel
theorem dX10_becomePresent_19 : decode cX10_becomePresent 19 = .ok (.invokevirtual 324, 3) := by decide +kernel
theorem dX10_becomePresent_22 : decode cX10_becomePresent 22 = .ok (.aload_n 0, 1) := by decide +kernel
theorem dX10_becomePresent_23 : decode cX10_becomePresent 23 = .ok (.getfield 33, 3) := by decide +kernel
theorem dX10_becomePresent_26 : decode cX10_becomePresent 26 = .ok (.iconst 1, 1) := by decide +kernel
theorem dX10_becomePresent_27 : decode cX10_becomePresent 27 = .ok (.putfield 163, 3) := by decide +kernel
theorem dX10_becomePresent_30 : decode cX10_becomePresent 30 = .ok (.return_, 1) := by decide +kernel
theorem dX10_findPlanFault_0 : decode cX10_findPlanFault 0 = .ok (.iconst 0, 1) := by decide +kernel
theorem dX10_findPlanFault_1 : decode cX10_findPlanFault 1 = .ok (.istore_n 2, 1) := by decide +kernel
theorem dX10_findPlanFault_2 : decode cX10_findPlanFault 2 = .ok (.iload_n 2, 1) := by decide +kernel
theorem dX10_findPlanFault_3 : decode cX10_findPlanFault 3 = .ok (.iload_n 1, 1) := by decide +kernel
theorem dX10_findPlanFault_4 : decode cX10_findPlanFault 4 = .ok (.if_icmp .ge 35, 3) := by decide +kernel
theorem dX10_findPlanFault_7 : decode cX10_findPlanFault 7 = .ok (.iload_n 2, 1) := by decide +kernel
theorem dX10_findPlanFault_8 : decode cX10_findPlanFault 8 = .ok (.aload_n 0, 1) := by decide +kernel
theorem dX10_findPlanFault_9 : decode cX10_findPlanFault 9 = .ok (.getfield 33, 3) := by decide +kernel
theorem dX10_findPlanFault_12 : decode cX10_findPlanFault 12 = .ok (.getfield 129, 3) := by decide +kernel
theorem dX10_findPlanFault_15 : decode cX10_findPlanFault 15 = .ok (.if_icmp .ge 16, 3) := by decide +kernel
theorem dX10_findPlanFault_18 : decode cX10_findPlanFault 18 = .ok (.aload_n 0, 1) := by decide +kernel
theorem dX10_findPlanFault_19 : decode cX10_findPlanFault 19 = .ok (.aload_n 0, 1) := by decide +kernel
theorem dX10_findPlanFault_20 : decode cX10_findPlanFault 20 = .ok (.getfield 9, 3) := by decide +kernel
theorem dX10_findPlanFault_23 : decode cX10_findPlanFault 23 = .ok (.iload_n 2, 1) := by decide +kernel
theorem dX10_findPlanFault_24 : decode cX10_findPlanFault 24 = .ok (.caload, 1) := by decide +kernel
theorem dX10_findPlanFault_25 : decode cX10_findPlanFault 25 = .ok (.invokevirtual 225, 3) := by decide +kernel
theorem dX10_findPlanFault_28 : decode cX10_findPlanFault 28 = .ok (.ifCond .ge 5, 3) := by decide +kernel
theorem dX10_findPlanFault_31 : decode cX10_findPlanFault 31 = .ok (.iload_n 2, 1) := by decide +kernel
theorem dX10_findPlanFault_32 : decode cX10_findPlanFault 32 = .ok (.ireturn, 1) := by decide +kernel
theorem dX10_findPlanFault_33 : decode cX10_findPlanFault 33 = .ok (.iinc 2 1, 3) := by decide +kernel
theorem dX10_findPlanFault_36 : decode cX10_findPlanFault 36 = .ok (.goto (-34), 3) := by decide +kernel
theorem dX10_findPlanFault_39 : decode cX10_findPlanFault 39 = .ok (.iload_n 1, 1) := by decide +kernel
theorem dX10_findPlanFault_40 : decode cX10_findPlanFault 40 = .ok (.aload_n 0, 1) := by decide +kernel
theorem dX10_findPlanFault_41 : decode cX10_findPlanFault 41 = .ok (.getfield 33, 3) := by decide +kernel
theorem dX10_findPlanFault_44 : decode cX10_findPlanFault 44 = .ok (.getfield 129, 3) := by decide +kernel
theorem dX10_findPlanFault_47 : decode cX10_findPlanFault 47 = .ok (.if_icmp .ge 7, 3) := by decide +kernel
theorem dX10_findPlanFault_50 : decode cX10_findPlanFault 50 = .ok (.iload_n 1, 1) := by decide +kernel
theorem dX10_findPlanFault_51 : decode cX10_findPlanFault 51 = .ok (.goto 4, 3) := by decide +kernel
theorem dX10_findPlanFault_54 : decode cX10_findPlanFault 54 = .ok (.iconst (-1), 1) := by decide +kernel
theorem dX10_findPlanFault_55 : decode cX10_findPlanFault 55 = .ok (.ireturn, 1) := by decide +kernel
theorem dX10_districtOf_0 : decode cX10_districtOf 0 = .ok (.iload_n 1, 1) := by decide +kernel
theorem dX10_districtOf_1 : decode cX10_districtOf 1 = .ok (.bipush 65, 2) := by decide +kernel
theorem dX10_districtOf_3 : decode cX10_districtOf 3 = .ok (.isub, 1) := by decide +kernel
theorem dX10_districtOf_4 : decode cX10_districtOf 4 = .ok (.istore_n 2, 1) := by decide +kernel
theorem dX10_districtOf_5 : decode cX10_districtOf 5 = .ok (.iload_n 2, 1) := by decide +kernel
theorem dX10_districtOf_6 : decode cX10_districtOf 6 = .ok (.ifCond .lt 16, 3) := by decide +kernel
theorem dX10_districtOf_9 : decode cX10_districtOf 9 = .ok (.iload_n 2, 1) := by decide +kernel
theorem dX10_districtOf_10 : decode cX10_districtOf 10 = .ok (.aload_n 0, 1) := by decide +kernel
theorem dX10_districtOf_11 : decode cX10_districtOf 11 = .ok (.getfield 33, 3) := by decide +kernel
theorem dX10_districtOf_14 : decode cX10_districtOf 14 = .ok (.getfield 199, 3) := by decide +kernel
theorem dX10_districtOf_17 : decode cX10_districtOf 17 = .ok (.if_icmp .ge 5, 3) := by decide +kernel
theorem dX10_districtOf_20 : decode cX10_districtOf 20 = .ok (.iload_n 2, 1) := by decide +kernel
theorem dX10_districtOf_21 : decode cX10_districtOf 21 = .ok (.ireturn, 1) := by decide +kernel
theorem dX10_districtOf_22 : decode cX10_districtOf 22 = .ok (.iload_n 1, 1) := by decide +kernel
theorem dX10_districtOf_23 : decode cX10_districtOf 23 = .ok (.bipush 97, 2) := by decide +kernel
theorem dX10_districtOf_25 : decode cX10_districtOf 25 = .ok (.isub, 1) := by decide +kernel
theorem dX10_districtOf_26 : decode cX10_districtOf 26 = .ok (.istore_n 3, 1) := by decide +kernel
theorem dX10_districtOf_27 : decode cX10_districtOf 27 = .ok (.iload_n 3, 1) := by decide +kernel
theorem dX10_districtOf_28 : decode cX10_districtOf 28 = .ok (.ifCond .lt 18, 3) := by decide +kernel
theorem dX10_districtOf_31 : decode cX10_districtOf 31 = .ok (.iload_n 3, 1) := by decide +kernel
theorem dX10_districtOf_32 : decode cX10_districtOf 32 = .ok (.aload_n 0, 1) := by decide +kernel
theorem dX10_districtOf_33 : decode cX10_districtOf 33 = .ok (.getfield 33, 3) := by decide +kernel
theorem dX10_districtOf_36 : decode cX10_districtOf 36 = .ok (.getfield 199, 3) := by decide +kernel
theorem dX10_districtOf_39 : decode cX10_districtOf 39 = .ok (.if_icmp .ge 7, 3) := by decide +kernel
theorem dX10_districtOf_42 : decode cX10_districtOf 42 = .ok (.iload_n 3, 1) := by decide +kernel
theorem dX10_districtOf_43 : decode cX10_districtOf 43 = .ok (.goto 4, 3) := by decide +kernel
theorem dX10_districtOf_46 : decode cX10_districtOf 46 = .ok (.iconst (-1), 1) := by decide +kernel
theorem dX10_districtOf_47 : decode cX10_districtOf 47 = .ok (.ireturn, 1) := by decide +kernel
theorem dX11_init_0 : decode cX11_init 0 = .ok (.aload_n 0, 1) := by decide +kernel
theorem dX11_init_1 : decode cX11_init 1 = .ok (.invokespecial 1, 3) := by decide +kernel
theorem dX11_init_4 : decode cX11_init 4 = .ok (.aload_n 0, 1) := by decide +kernel
theorem dX11_init_5 : decode cX11_init 5 = .ok (.sipush 221, 3) := by decide +kernel
theorem dX11_init_8 : decode cX11_init 8 = .ok (.newarray .int, 2) := by decide +kernel
theorem dX11_init_10 : decode cX11_init 10 = .ok (.putfield 7, 3) := by decide +kernel
theorem dX11_init_13 : decode cX11_init 13 = .ok (.aload_n 0, 1) := by decide +kernel
theorem dX11_init_14 : decode cX11_init 14 = .ok (.sipush 221, 3) := by decide +kernel
theorem dX11_init_17 : decode cX11_init 17 = .ok (.newarray .int, 2) := by decide +kernel
theorem dX11_init_19 : decode cX11_init 19 = .ok (.putfield 13, 3) := by decide +kernel
theorem dX11_init_22 : decode cX11_init 22 = .ok (.aload_n 0, 1) := by decide +kernel
theorem dX11_init_23 : decode cX11_init 23 = .ok (.sipush 1768, 3) := by decide +kernel
theorem dX11_init_26 : decode cX11_init 26 = .ok (.newarray .int, 2) := by decide +kernel
theorem dX11_init_28 : decode cX11_init 28 = .ok (.putfield 16, 3) := by decide +kernel
theorem dX11_init_31 : decode cX11_init 31 = .ok (.aload_n 0, 1) := by decide +kernel
theorem dX11_init_32 : decode cX11_init 32 = .ok (.sipush 221, 3) := by decide +kernel
theorem dX11_init_35 : decode cX11_init 35 = .ok (.newarray .int, 2) := by decide +kernel
theorem dX11_init_37 : decode cX11_init 37 = .ok (.putfield 19, 3) := by decide +kernel
theorem dX11_init_40 : decode cX11_init 40 = .ok (.aload_n 0, 1) := by decide +kernel
theorem dX11_init_41 : decode cX11_init 41 = .ok (.bipush 80, 2) := by decide +kernel
theorem dX11_init_43 : decode cX11_init 43 = .ok (.newarray .char, 2) := by decide +kernel
theorem dX11_init_45 : decode cX11_init 45 = .ok (.putfield 22, 3) := by decide +kernel
theorem dX11_init_48 : decode cX11_init 48 = .ok (.aload_n 0, 1) := by decide +kernel
theorem dX11_init_49 : decode cX11_init 49 = .ok (.iconst (-1), 1) := by decide +kernel
theorem dX11_init_50 : decode cX11_init 50 = .ok (.putfield 26, 3) := by decide +kernel
theorem dX11_init_53 : decode cX11_init 53 = .ok (.aload_n 0, 1) := by decide +kernel
theorem dX11_init_54 : decode cX11_init 54 = .ok (.iconst 4, 1) := by decide +kernel
theorem dX11_init_55 : decode cX11_init 55 = .ok (.newarray .int, 2) := by decide +kernel
theorem dX11_init_57 : decode cX11_init 57 = .ok (.putfield 30, 3) := by decide +kernel
theorem dX11_init_60 : decode cX11_init 60 = .ok (.aload_n 0, 1) := by decide +kernel
theorem dX11_init_61 : decode cX11_init 61 = .ok (.bipush 12, 2) := by decide +kernel
theorem dX11_init_63 : decode cX11_init 63 = .ok (.newarray .int, 2) := by decide +kernel
theorem dX11_init_65 : decode cX11_init 65 = .ok (.putfield 33, 3) := by decide +kernel
theorem dX11_init_68 : decode cX11_init 68 = .ok (.aload_n 0, 1) := by decide +kernel
theorem dX11_init_69 : decode cX11_init 69 = .ok (.bipush 12, 2) := by decide +kernel
theorem dX11_init_71 : decode cX11_init 71 = .ok (.newarray .int, 2) := by decide +kernel
theorem dX11_init_73 : decode cX11_init 73 = .ok (.putfield 36, 3) := by decide +kernel
theorem dX11_init_76 : decode cX11_init 76 = .ok (.aload_n 0, 1) := by decide +kernel
theorem dX11_init_77 : decode cX11_init 77 = .ok (.iconst 3, 1) := by decide +kernel
theorem dX11_init_78 : decode cX11_init 78 = .ok (.newarray .int, 2) := by decide +kernel
theorem dX11_init_80 : decode cX11_init 80 = .ok (.putfield 39, 3) := by decide +kernel
theorem dX11_init_83 : decode cX11_init 83 = .ok (.aload_n 0, 1) := by decide +kernel
theorem dX11_init_84 : decode cX11_init 84 = .ok (.iconst 3, 1) := by decide +kernel
theorem dX11_init_85 : decode cX11_init 85 = .ok (.newarray .int, 2) := by decide +kernel
theorem dX11_init_87 : decode cX11_init 87 = .ok (.putfield 42, 3) := by decide +kernel
theorem dX11_init_90 : decode cX11_init 90 = .ok (.aload_n 0, 1) := by decide +kernel
theorem dX11_init_91 : decode cX11_init 91 = .ok (.bipush 12, 2) := by decide +kernel
theorem dX11_init_93 : decode cX11_init 93 = .ok (.newarray .int, 2) := by decide +kernel
theorem dX11_init_95 : decode cX11_init 95 = .ok (.putfield 45, 3) := by decide +kernel
theorem dX11_init_98 : decode cX11_init 98 = .ok (.aload_n 0, 1) := by decide +kernel
theorem dX11_init_99 : decode cX11_init 99 = .ok (.bipush 12, 2) := by decide +kernel
theorem dX11_init_101 : decode cX11_init 101 = .ok (.newarray .float, 2) := by decide +kernel
theorem dX11_init_103 : decode cX11_init 103 = .ok (.putfield 48, 3) := by decide +kernel
theorem dX11_init_106 : decode cX11_init 106 = .ok (.aload_n 0, 1) := by decide +kernel
theorem dX11_init_107 : decode cX11_init 107 = .ok (.getfield 7, 3) := by decide +kernel
theorem dX11_init_110 : decode cX11_init 110 = .ok (.sipush 205, 3) := by decide +kernel
theorem dX11_init_113 : decode cX11_init 113 = .ok (.iconst 2, 1) := by decide +kernel
theorem dX11_init_114 : decode cX11_init 114 = .ok (.iastore, 1) := by decide +kernel
theorem dX11_init_115 : decode cX11_init 115 = .ok (.aload_n 0, 1) := by decide +kernel
theorem dX11_init_116 : decode cX11_init 116 = .ok (.getfield 7, 3) := by decide +kernel
theorem dX11_init_119 : decode cX11_init 119 = .ok (.sipush 206, 3) := by decide +kernel
theorem dX11_init_122 : decode cX11_init 122 = .ok (.bipush 10, 2) := by decide +kernel
theorem dX11_init_124 : decode cX11_init 124 = .ok (.iastore, 1) := by decide +kernel
theorem dX11_init_125 : decode cX11_init 125 = .ok (.return_, 1) := by decide +kernel
theorem dX11_thrown_0 : decode cX11_thrown 0 = .ok (.aload_n 0, 1) := by decide +kernel
theorem dX11_thrown_1 : decode cX11_thrown 1 = .ok (.getfield 52, 3) := by decide +kernel
theorem dX11_thrown_4 : decode cX11_thrown 4 = .ok (.ireturn, 1) := by decide +kernel
theorem dX11_in_0 : decode cX11_in 0 = .ok (.iload_n 0, 1) := by decide +kernel
theorem dX11_in_1 : decode cX11_in 1 = .ok (.iload_n 1, 1) := by decide +kernel
theorem dX11_in_2 : decode cX11_in 2 = .ok (.if_icmp .lt 12, 3) := by decide +kernel
theorem dX11_in_5 : decode cX11_in 5 = .ok (.iload_n 0, 1) := by decide +kernel
theorem dX11_in_6 : decode cX11_in 6 = .ok (.iload_n 2, 1) := by decide +kernel
theorem dX11_in_7 : decode cX11_in 7 = .ok (.if_icmp .gt 7, 3) := by decide +kernel
theorem dX11_in_10 : decode cX11_in 10 = .ok (.iconst 1, 1) := by decide +kernel
theorem dX11_in_11 : decode cX11_in 11 = .ok (.goto 4, 3) := by decide +kernel
theorem dX11_in_14 : decode cX11_in 14 = .ok (.iconst 0, 1) := by decide +kernel
theorem dX11_in_15 : decode cX11_in 15 = .ok (.ireturn, 1) := by decide +kernel
theorem dX11_fails_0 : decode cX11_fails 0 = .ok (.aload_n 0, 1) := by decide +kernel
theorem dX11_fails_1 : decode cX11_fails 1 = .ok (.iload_n 1, 1) := by decide +kernel
theorem dX11_fails_2 : decode cX11_fails 2 = .ok (.putfield 52, 3) := by decide +kernel
theorem dX11_fails_5 : decode cX11_fails 5 = .ok (.iconst 0, 1) := by decide +kernel
theorem dX11_fails_6 : decode cX11_fails 6 = .ok (.ireturn, 1) := by decide +kernel
theorem dX11_done_0 : decode cX11_done 0 = .ok (.aload_n 0, 1) := by decide +kernel
theorem dX11_done_1 : decode cX11_done 1 = .ok (.iconst 0, 1) := by decide +kernel
theorem dX11_done_2 : decode cX11_done 2 = .ok (.putfield 52, 3) := by decide +kernel
theorem dX11_done_5 : decode cX11_done 5 = .ok (.iload_n 1, 1) := by decide +kernel
theorem dX11_done_6 : decode cX11_done 6 = .ok (.ireturn, 1) := by decide +kernel
theorem dX11_isUnit_0 : decode cX11_isUnit 0 = .ok (.iload_n 1, 1) := by decide +kernel
theorem dX11_isUnit_1 : decode cX11_isUnit 1 = .ok (.iconst 0, 1) := by decide +kernel
theorem dX11_isUnit_2 : decode cX11_isUnit 2 = .ok (.aload_n 0, 1) := by decide +kernel
theorem dX11_isUnit_3 : decode cX11_isUnit 3 = .ok (.getfield 7, 3) := by decide +kernel
theorem dX11_isUnit_6 : decode cX11_isUnit 6 = .ok (.sipush 204, 3) := by decide +kernel
theorem dX11_isUnit_9 : decode cX11_isUnit 9 = .ok (.iaload, 1) := by decide +kernel
theorem dX11_isUnit_10 : decode cX11_isUnit 10 = .ok (.iconst 1, 1) := by decide +kernel
theorem dX11_isUnit_11 : decode cX11_isUnit 11 = .ok (.isub, 1) := by decide +kernel
theorem dX11_isUnit_12 : decode cX11_isUnit 12 = .ok (.invokestatic 55, 3) := by decide +kernel
theorem dX11_isUnit_15 : decode cX11_isUnit 15 = .ok (.ireturn, 1) := by decide +kernel
theorem dX11_isDistrict_0 : decode cX11_isDistrict 0 = .ok (.iload_n 1, 1) := by decide +kernel
theorem dX11_isDistrict_1 : decode cX11_isDistrict 1 = .ok (.iconst 0, 1) := by decide +kernel
theorem dX11_isDistrict_2 : decode cX11_isDistrict 2 = .ok (.aload_n 0, 1) := by decide +kernel
theorem dX11_isDistrict_3 : decode cX11_isDistrict 3 = .ok (.getfield 7, 3) := by decide +kernel
theorem dX11_isDistrict_6 : decode cX11_isDistrict 6 = .ok (.sipush 205, 3) := by decide +kernel
theorem dX11_isDistrict_9 : decode cX11_isDistrict 9 = .ok (.iaload, 1) := by decide +kernel
theorem dX11_isDistrict_10 : decode cX11_isDistrict 10 = .ok (.iconst 1, 1) := by decide +kernel
theorem dX11_isDistrict_11 : decode cX11_isDistrict 11 = .ok (.isub, 1) := by decide +kernel
theorem dX11_isDistrict_12 : decode cX11_isDistrict 12 = .ok (.invokestatic 55, 3) := by decide +kernel
theorem dX11_isDistrict_15 : decode cX11_isDistrict 15 = .ok (.ireturn, 1) := by decide +kernel
theorem dX11_of_0 : decode cX11_of 0 = .ok (.aload_n 0, 1) := by decide +kernel
theorem dX11_of_1 : decode cX11_of 1 = .ok (.getfield 7, 3) := by decide +kernel
theorem dX11_of_4 : decode cX11_of 4 = .ok (.iconst 0, 1) := by decide +kernel
theorem dX11_of_5 : decode cX11_of 5 = .ok (.iconst 5, 1) := by decide +kernel
theorem dX11_of_6 : decode cX11_of 6 = .ok (.iload_n 1, 1) := by decide +kernel
theorem dX11_of_7 : decode cX11_of 7 = .ok (.imul, 1) := by decide +kernel
theorem dX11_of_8 : decode cX11_of 8 = .ok (.iadd, 1) := by decide +kernel
theorem dX11_of_9 : decode cX11_of 9 = .ok (.iload_n 2, 1) := by decide +kernel
theorem dX11_of_10 : decode cX11_of 10 = .ok (.iadd, 1) := by decide +kernel
theorem dX11_of_11 : decode cX11_of 11 = .ok (.iaload, 1) := by decide +kernel
theorem dX11_of_12 : decode cX11_of 12 = .ok (.ireturn, 1) := by decide +kernel
theorem dX11_borderOf_0 : decode cX11_borderOf 0 = .ok (.aload_n 0, 1) := by decide +kernel
theorem dX11_borderOf_1 : decode cX11_borderOf 1 = .ok (.getfield 7, 3) := by decide +kernel
theorem dX11_borderOf_4 : decode cX11_borderOf 4 = .ok (.bipush 60, 2) := by decide +kernel
theorem dX11_borderOf_6 : decode cX11_borderOf 6 = .ok (.bipush 12, 2) := by decide +kernel
theorem dX11_borderOf_8 : decode cX11_borderOf 8 = .ok (.iload_n 1, 1) := by decide +kernel
theorem dX11_borderOf_9 : decode cX11_borderOf 9 = .ok (.imul, 1) := by decide +kernel
theorem dX11_borderOf_10 : decode cX11_borderOf 10 = .ok (.iadd, 1) := by decide +kernel
theorem dX11_borderOf_11 : decode cX11_borderOf 11 = .ok (.iload_n 2, 1) := by decide +kernel
theorem dX11_borderOf_12 : decode cX11_borderOf 12 = .ok (.iadd, 1) := by decide +kernel
theorem dX11_borderOf_13 : decode cX11_borderOf 13 = .ok (.iaload, 1) := by decide +kernel
theorem dX11_borderOf_14 : decode cX11_borderOf 14 = .ok (.ireturn, 1) := by decide +kernel
theorem dX11_remembers_0 : decode cX11_remembers 0 = .ok (.iconst 0, 1) := by decide +kernel
theorem dX11_remembers_1 : decode cX11_remembers 1 = .ok (.istore_n 1, 1) := by decide +kernel
theorem dX11_remembers_2 : decode cX11_remembers 2 = .ok (.iload_n 1, 1) := by decide +kernel
theorem dX11_remembers_3 : decode cX11_remembers 3 = .ok (.sipush 221, 3) := by decide +kernel
theorem dX11_remembers_6 : decode cX11_remembers 6 = .ok (.if_icmp .ge 21, 3) := by decide +kernel
theorem dX11_remembers_9 : decode cX11_remembers 9 = .ok (.aload_n 0, 1) := by decide +kernel
theorem dX11_remembers_10 : decode cX11_remembers 10 = .ok (.getfield 13, 3) := by decide +kernel
theorem dX11_remembers_13 : decode cX11_remembers 13 = .ok (.iload_n 1, 1) := by decide +kernel
theorem dX11_remembers_14 : decode cX11_remembers 14 = .ok (.aload_n 0, 1) := by decide +kernel
theorem dX11_remembers_15 : decode cX11_remembers 15 = .ok (.getfield 7, 3) := by decide +kernel
theorem dX11_remembers_18 : decode cX11_remembers 18 = .ok (.iload_n 1, 1) := by decide +kernel
theorem dX11_remembers_19 : decode cX11_remembers 19 = .ok (.iaload, 1) := by decide +kernel
theorem dX11_remembers_20 : decode cX11_remembers 20 = .ok (.iastore, 1) := by decide +kernel
theorem dX11_remembers_21 : decode cX11_remembers 21 = .ok (.iinc 1 1, 3) := by decide +kernel
theorem dX11_remembers_24 : decode cX11_remembers 24 = .ok (.goto (-22), 3) := by decide +kernel
theorem dX11_remembers_27 : decode cX11_remembers 27 = .ok (.return_, 1) := by decide +kernel
theorem dX11_changes_0 : decode cX11_changes 0 = .ok (.aload_n 0, 1) := by decide +kernel
theorem dX11_changes_1 : decode cX11_changes 1 = .ok (.getfield 59, 3) := by decide +kernel
theorem dX11_changes_4 : decode cX11_changes 4 = .ok (.bipush 8, 2) := by decide +kernel
theorem dX11_changes_6 : decode cX11_changes 6 = .ok (.if_icmp .ne 44, 3) := by decide +kernel
theorem dX11_changes_9 : decode cX11_changes 9 = .ok (.iconst 0, 1) := by decide +kernel
theorem dX11_changes_10 : decode cX11_changes 10 = .ok (.istore_n 1, 1) := by decide +kernel
theorem dX11_changes_11 : decode cX11_changes 11 = .ok (.iload_n 1, 1) := by decide +kernel
theorem dX11_changes_12 : decode cX11_changes 12 = .ok (.sipush 1547, 3) := by decide +kernel
theorem dX11_changes_15 : decode cX11_changes 15 = .ok (.if_icmp .ge 25, 3) := by decide +kernel
theorem dX11_changes_18 : decode cX11_changes 18 = .ok (.aload_n 0, 1) := by decide +kernel
theorem dX11_changes_19 : decode cX11_changes 19 = .ok (.getfield 16, 3) := by decide +kernel
theorem dX11_changes_22 : decode cX11_changes 22 = .ok (.iload_n 1, 1) := by decide +kernel
theorem dX11_changes_23 : decode cX11_changes 23 = .ok (.aload_n 0, 1) := by decide +kernel
theorem dX11_changes_24 : decode cX11_changes 24 = .ok (.getfield 16, 3) := by decide +kernel
theorem dX11_changes_27 : decode cX11_changes 27 = .ok (.iload_n 1, 1) := by decide +kernel
theorem dX11_changes_28 : decode cX11_changes 28 = .ok (.sipush 221, 3) := by decide +kernel
theorem dX11_changes_31 : decode cX11_changes 31 = .ok (.iadd, 1) := by decide +kernel
theorem dX11_changes_32 : decode cX11_changes 32 = .ok (.iaload, 1) := by decide +kernel
theorem dX11_changes_33 : decode cX11_changes 33 = .ok (.iastore, 1) := by decide +kernel
theorem dX11_changes_34 : decode cX11_changes 34 = .ok (.iinc 1 1, 3) := by decide +kernel
theorem dX11_changes_37 : decode cX11_changes 37 = .ok (.goto (-26), 3) := by decide +kernel
theorem dX11_changes_40 : decode cX11_changes 40 = .ok (.aload_n 0, 1) := by decide +kernel
theorem dX11_changes_41 : decode cX11_changes 41 = .ok (.dup, 1) := by decide +kernel
theorem dX11_changes_42 : decode cX11_changes 42 = .ok (.getfield 59, 3) := by decide +kernel
theorem dX11_changes_45 : decode cX11_changes 45 = .ok (.iconst 1, 1) := by decide +kernel
theorem dX11_changes_46 : decode cX11_changes 46 = .ok (.isub, 1) := by decide +kernel
theorem dX11_changes_47 : decode cX11_changes 47 = .ok (.putfield 59, 3) := by decide +kernel
theorem dX11_changes_50 : decode cX11_changes 50 = .ok (.iconst 0, 1) := by decide +kernel
theorem dX11_changes_51 : decode cX11_changes 51 = .ok (.istore_n 1, 1) := by decide +kernel
theorem dX11_changes_52 : decode cX11_changes 52 = .ok (.iload_n 1, 1) := by decide +kernel
theorem dX11_changes_53 : decode cX11_changes 53 = .ok (.sipush 221, 3) := by decide +kernel
theorem dX11_changes_56 : decode cX11_changes 56 = .ok (.if_icmp .ge 30, 3) := by decide +kernel
theorem dX11_changes_59 : decode cX11_changes 59 = .ok (.aload_n 0, 1) := by decide +kernel
theorem dX11_changes_60 : decode cX11_changes 60 = .ok (.getfield 16, 3) := by decide +kernel
theorem dX11_changes_63 : decode cX11_changes 63 = .ok (.sipush 221, 3) := by decide +kernel
theorem dX11_changes_66 : decode cX11_changes 66 = .ok (.aload_n 0, 1) := by decide +kernel
theorem dX11_changes_67 : decode cX11_changes 67 = .ok (.getfield 59, 3) := by decide +kernel
theorem dX11_changes_70 : decode cX11_changes 70 = .ok (.imul, 1) := by decide +kernel
theorem dX11_changes_71 : decode cX11_changes 71 = .ok (.iload_n 1, 1) := by decide +kernel
theorem dX11_changes_72 : decode cX11_changes 72 = .ok (.iadd, 1) := by decide +kernel
theorem dX11_changes_73 : decode cX11_changes 73 = .ok (.aload_n 0, 1) := by decide +kernel
theorem dX11_changes_74 : decode cX11_changes 74 = .ok (.getfield 13, 3) := by decide +kernel
theorem dX11_changes_77 : decode cX11_changes 77 = .ok (.iload_n 1, 1) := by decide +kernel
theorem dX11_changes_78 : decode cX11_changes 78 = .ok (.iaload, 1) := by decide +kernel
theorem dX11_changes_79 : decode cX11_changes 79 = .ok (.iastore, 1) := by decide +kernel
theorem dX11_changes_80 : decode cX11_changes 80 = .ok (.iinc 1 1, 3) := by decide +kernel
theorem dX11_changes_83 : decode cX11_changes 83 = .ok (.goto (-31), 3) := by decide +kernel
theorem dX11_changes_86 : decode cX11_changes 86 = .ok (.aload_n 0, 1) := by decide +kernel
theorem dX11_changes_87 : decode cX11_changes 87 = .ok (.dup, 1) := by decide +kernel
theorem dX11_changes_88 : decode cX11_changes 88 = .ok (.getfield 59, 3) := by decide +kernel
theorem dX11_changes_91 : decode cX11_changes 91 = .ok (.iconst 1, 1) := by decide +kernel
theorem dX11_changes_92 : decode cX11_changes 92 = .ok (.iadd, 1) := by decide +kernel
theorem dX11_changes_93 : decode cX11_changes 93 = .ok (.putfield 59, 3) := by decide +kernel
theorem dX11_changes_96 : decode cX11_changes 96 = .ok (.return_, 1) := by decide +kernel
theorem dX11_feed_0 : decode cX11_feed 0 = .ok (.aload_n 0, 1) := by decide +kernel
theorem dX11_feed_1 : decode cX11_feed 1 = .ok (.getfield 62, 3) := by decide +kernel
theorem dX11_feed_4 : decode cX11_feed 4 = .ok (.bipush 80, 2) := by decide +kernel
theorem dX11_feed_6 : decode cX11_feed 6 = .ok (.if_icmp .ne 9, 3) := by decide +kernel
theorem dX11_feed_9 : decode cX11_feed 9 = .ok (.aload_n 0, 1) := by decide +kernel
theorem dX11_feed_10 : decode cX11_feed 10 = .ok (.iconst 1, 1) := by decide +kernel
theorem dX11_feed_11 : decode cX11_feed 11 = .ok (.invokevirtual 65, 3) := by decide +kernel
theorem dX11_feed_14 : decode cX11_feed 14 = .ok (.ireturn, 1) := by decide +kernel
theorem dX11_feed_15 : decode cX11_feed 15 = .ok (.aload_n 0, 1) := by decide +kernel
theorem dX11_feed_16 : decode cX11_feed 16 = .ok (.getfield 22, 3) := by decide +kernel
theorem dX11_feed_19 : decode cX11_feed 19 = .ok (.aload_n 0, 1) := by decide +kernel
theorem dX11_feed_20 : decode cX11_feed 20 = .ok (.getfield 62, 3) := by decide +kernel
theorem dX11_feed_23 : decode cX11_feed 23 = .ok (.iload_n 1, 1) := by decide +kernel
theorem dX11_feed_24 : decode cX11_feed 24 = .ok (.castore, 1) := by decide +kernel
theorem dX11_feed_25 : decode cX11_feed 25 = .ok (.aload_n 0, 1) := by decide +kernel
theorem dX11_feed_26 : decode cX11_feed 26 = .ok (.dup, 1) := by decide +kernel
theorem dX11_feed_27 : decode cX11_feed 27 = .ok (.getfield 62, 3) := by decide +kernel
theorem dX11_feed_30 : decode cX11_feed 30 = .ok (.iconst 1, 1) := by decide +kernel
theorem dX11_feed_31 : decode cX11_feed 31 = .ok (.iadd, 1) := by decide +kernel
theorem dX11_feed_32 : decode cX11_feed 32 = .ok (.putfield 62, 3) := by decide +kernel
theorem dX11_feed_35 : decode cX11_feed 35 = .ok (.aload_n 0, 1) := by decide +kernel
theorem dX11_feed_36 : decode cX11_feed 36 = .ok (.aload_n 0, 1) := by decide +kernel
theorem dX11_feed_37 : decode cX11_feed 37 = .ok (.getfield 62, 3) := by decide +kernel
theorem dX11_feed_40 : decode cX11_feed 40 = .ok (.invokevirtual 69, 3) := by decide +kernel
theorem dX11_feed_43 : decode cX11_feed 43 = .ok (.ireturn, 1) := by decide +kernel
theorem dX11_here_0 : decode cX11_here 0 = .ok (.aload_n 0, 1) := by decide +kernel
theorem dX11_here_1 : decode cX11_here 1 = .ok (.getfield 72, 3) := by decide +kernel
theorem dX11_here_4 : decode cX11_here 4 = .ok (.aload_n 0, 1) := by decide +kernel
theorem dX11_here_5 : decode cX11_here 5 = .ok (.getfield 62, 3) := by decide +kernel
theorem dX11_here_8 : decode cX11_here 8 = .ok (.if_icmp .ge 15, 3) := by decide +kernel
theorem dX11_here_11 : decode cX11_here 11 = .ok (.aload_n 0, 1) := by decide +kernel
theorem dX11_here_12 : decode cX11_here 12 = .ok (.getfield 22, 3) := by decide +kernel
theorem dX11_here_15 : decode cX11_here 15 = .ok (.aload_n 0, 1) := by decide +kernel
theorem dX11_here_16 : decode cX11_here 16 = .ok (.getfield 72, 3) := by decide +kernel
theorem dX11_here_19 : decode cX11_here 19 = .ok (.caload, 1) := by decide +kernel
theorem dX11_here_20 : decode cX11_here 20 = .ok (.goto 4, 3) := by decide +kernel
theorem dX11_here_23 : decode cX11_here 23 = .ok (.iconst 0, 1) := by decide +kernel
theorem dX11_here_24 : decode cX11_here 24 = .ok (.ireturn, 1) := by decide +kernel
theorem dX11_eats_0 : decode cX11_eats 0 = .ok (.aload_n 0, 1) := by decide +kernel
theorem dX11_eats_1 : decode cX11_eats 1 = .ok (.getfield 72, 3) := by decide +kernel
theorem dX11_eats_4 : decode cX11_eats 4 = .ok (.aload_n 0, 1) := by decide +kernel
theorem dX11_eats_5 : decode cX11_eats 5 = .ok (.getfield 62, 3) := by decide +kernel
theorem dX11_eats_8 : decode cX11_eats 8 = .ok (.if_icmp .ge 15, 3) := by decide +kernel
theorem dX11_eats_11 : decode cX11_eats 11 = .ok (.aload_n 0, 1) := by decide +kernel
theorem dX11_eats_12 : decode cX11_eats 12 = .ok (.invokevirtual 75, 3) := by decide +kernel
theorem dX11_eats_15 : decode cX11_eats 15 = .ok (.iload_n 1, 1) := by decide +kernel
theorem dX11_eats_16 : decode cX11_eats 16 = .ok (.if_icmp .ne 7, 3) := by decide +kernel
theorem dX11_eats_19 : decode cX11_eats 19 = .ok (.iconst 1, 1) := by decide +kernel
theorem dX11_eats_20 : decode cX11_eats 20 = .ok (.goto 4, 3) := by decide +kernel
theorem dX11_eats_23 : decode cX11_eats 23 = .ok (.iconst 0, 1) := by decide +kernel
theorem dX11_eats_24 : decode cX11_eats 24 = .ok (.istore_n 2, 1) := by decide +kernel
theorem dX11_eats_25 : decode cX11_eats 25 = .ok (.aload_n 0, 1) := by decide +kernel
theorem dX11_eats_26 : decode cX11_eats 26 = .ok (.dup, 1) := by decide +kernel
theorem dX11_eats_27 : decode cX11_eats 27 = .ok (.getfield 72, 3) := by decide +kernel
theorem dX11_eats_30 : decode cX11_eats 30 = .ok (.iload_n 2, 1) := by decide +kernel
theorem dX11_eats_31 : decode cX11_eats 31 = .ok (.ifCond .eq 7, 3) := by decide +kernel
theorem dX11_eats_34 : decode cX11_eats 34 = .ok (.iconst 1, 1) := by decide +kernel
theorem dX11_eats_35 : decode cX11_eats 35 = .ok (.goto 4, 3) := by decide +kernel
theorem dX11_eats_38 : decode cX11_eats 38 = .ok (.iconst 0, 1) := by decide +kernel
theorem dX11_eats_39 : decode cX11_eats 39 = .ok (.iadd, 1) := by decide +kernel
theorem dX11_eats_40 : decode cX11_eats 40 = .ok (.putfield 72, 3) := by decide +kernel
theorem dX11_eats_43 : decode cX11_eats 43 = .ok (.iload_n 2, 1) := by decide +kernel
theorem dX11_eats_44 : decode cX11_eats 44 = .ok (.ireturn, 1) := by decide +kernel
theorem dX11_readsNumber_0 : decode cX11_readsNumber 0 = .ok (.aload_n 0, 1) := by decide +kernel
theorem dX11_readsNumber_1 : decode cX11_readsNumber 1 = .ok (.getfield 72, 3) := by decide +kernel
theorem dX11_readsNumber_4 : decode cX11_readsNumber 4 = .ok (.istore_n 3, 1) := by decide +kernel
theorem dX11_readsNumber_5 : decode cX11_readsNumber 5 = .ok (.aload_n 0, 1) := by decide +kernel
theorem dX11_readsNumber_6 : decode cX11_readsNumber 6 = .ok (.getfield 30, 3) := by decide +kernel
theorem dX11_readsNumber_9 : decode cX11_readsNumber 9 = .ok (.iload_n 1, 1) := by decide +kernel
theorem dX11_readsNumber_10 : decode cX11_readsNumber 10 = .ok (.iconst 0, 1) := by decide +kernel
theorem dX11_readsNumber_11 : decode cX11_readsNumber 11 = .ok (.iastore, 1) := by decide +kernel
theorem dX11_readsNumber_12 : decode cX11_readsNumber 12 = .ok (.aload_n 0, 1) := by decide +kernel
theorem dX11_readsNumber_13 : decode cX11_readsNumber 13 = .ok (.getfield 72, 3) := by decide +kernel
theorem dX11_readsNumber_16 : decode cX11_readsNumber 16 = .ok (.iload_n 3, 1) := by decide +kernel
theorem dX11_readsNumber_17 : decode cX11_readsNumber 17 = .ok (.isub, 1) := by decide +kernel
theorem dX11_readsNumber_18 : decode cX11_readsNumber 18 = .ok (.iload_n 2, 1) := by decide +kernel
theorem dX11_readsNumber_19 : decode cX11_readsNumber 19 = .ok (.if_icmp .ge 53, 3) := by decide +kernel
theorem dX11_readsNumber_22 : decode cX11_readsNumber 22 = .ok (.aload_n 0, 1) := by decide +kernel
theorem dX11_readsNumber_23 : decode cX11_readsNumber 23 = .ok (.invokevirtual 75, 3) := by decide +kernel
theorem dX11_readsNumber_26 : decode cX11_readsNumber 26 = .ok (.bipush 48, 2) := by decide +kernel
theorem dX11_readsNumber_28 : decode cX11_readsNumber 28 = .ok (.bipush 57, 2) := by decide +kernel
theorem dX11_readsNumber_30 : decode cX11_readsNumber 30 = .ok (.invokestatic 55, 3) := by decide +kernel
theorem dX11_readsNumber_33 : decode cX11_readsNumber 33 = .ok (.ifCond .eq 39, 3) := by decide +kernel
theorem dX11_readsNumber_36 : decode cX11_readsNumber 36 = .ok (.aload_n 0, 1) := by decide +kernel
theorem dX11_readsNumber_37 : decode cX11_readsNumber 37 = .ok (.getfield 30, 3) := by decide +kernel
theorem dX11_readsNumber_40 : decode cX11_readsNumber 40 = .ok (.iload_n 1, 1) := by decide +kernel
theorem dX11_readsNumber_41 : decode cX11_readsNumber 41 = .ok (.bipush 10, 2) := by decide +kernel
theorem dX11_readsNumber_43 : decode cX11_readsNumber 43 = .ok (.aload_n 0, 1) := by decide +kernel
theorem dX11_readsNumber_44 : decode cX11_readsNumber 44 = .ok (.getfield 30, 3) := by decide +kernel
theorem dX11_readsNumber_47 : decode cX11_readsNumber 47 = .ok (.iload_n 1, 1) := by decide +kernel
theorem dX11_readsNumber_48 : decode cX11_readsNumber 48 = .ok (.iaload, 1) := by decide +kernel
theorem dX11_readsNumber_49 : decode cX11_readsNumber 49 = .ok (.imul, 1) := by decide +kernel
theorem dX11_readsNumber_50 : decode cX11_readsNumber 50 = .ok (.aload_n 0, 1) := by decide +kernel
theorem dX11_readsNumber_51 : decode cX11_readsNumber 51 = .ok (.invokevirtual 75, 3) := by decide +kernel
theorem dX11_readsNumber_54 : decode cX11_readsNumber 54 = .ok (.iadd, 1) := by decide +kernel
theorem dX11_readsNumber_55 : decode cX11_readsNumber 55 = .ok (.bipush 48, 2) := by decide +kernel
theorem dX11_readsNumber_57 : decode cX11_readsNumber 57 = .ok (.isub, 1) := by decide +kernel
theorem dX11_readsNumber_58 : decode cX11_readsNumber 58 = .ok (.iastore, 1) := by decide +kernel
theorem dX11_readsNumber_59 : decode cX11_readsNumber 59 = .ok (.aload_n 0, 1) := by decide +kernel
theorem dX11_readsNumber_60 : decode cX11_readsNumber 60 = .ok (.dup, 1) := by decide +kernel
theorem dX11_readsNumber_61 : decode cX11_readsNumber 61 = .ok (.getfield 72, 3) := by decide +kernel
theorem dX11_readsNumber_64 : decode cX11_readsNumber 64 = .ok (.iconst 1, 1) := by decide +kernel
theorem dX11_readsNumber_65 : decode cX11_readsNumber 65 = .ok (.iadd, 1) := by decide +kernel
theorem dX11_readsNumber_66 : decode cX11_readsNumber 66 = .ok (.putfield 72, 3) := by decide +kernel
theorem dX11_readsNumber_69 : decode cX11_readsNumber 69 = .ok (.goto (-57), 3) := by decide +kernel
theorem dX11_readsNumber_72 : decode cX11_readsNumber 72 = .ok (.aload_n 0, 1) := by decide +kernel
theorem dX11_readsNumber_73 : decode cX11_readsNumber 73 = .ok (.getfield 72, 3) := by decide +kernel
theorem dX11_readsNumber_76 : decode cX11_readsNumber 76 = .ok (.iload_n 3, 1) := by decide +kernel
theorem dX11_readsNumber_77 : decode cX11_readsNumber 77 = .ok (.if_icmp .le 7, 3) := by decide +kernel
theorem dX11_readsNumber_80 : decode cX11_readsNumber 80 = .ok (.iconst 1, 1) := by decide +kernel
theorem dX11_readsNumber_81 : decode cX11_readsNumber 81 = .ok (.goto 4, 3) := by decide +kernel
theorem dX11_readsNumber_84 : decode cX11_readsNumber 84 = .ok (.iconst 0, 1) := by decide +kernel
theorem dX11_readsNumber_85 : decode cX11_readsNumber 85 = .ok (.ireturn, 1) := by decide +kernel
theorem dX11_readsStatement_0 : decode cX11_readsStatement 0 = .ok (.aload_n 0, 1) := by decide +kernel
theorem dX11_readsStatement_1 : decode cX11_readsStatement 1 = .ok (.aload_n 0, 1) := by decide +kernel
theorem dX11_readsStatement_2 : decode cX11_readsStatement 2 = .ok (.invokevirtual 75, 3) := by decide +kernel
theorem dX11_readsStatement_5 : decode cX11_readsStatement 5 = .ok (.putfield 79, 3) := by decide +kernel
theorem dX11_readsStatement_8 : decode cX11_readsStatement 8 = .ok (.aload_n 0, 1) := by decide +kernel
theorem dX11_readsStatement_9 : decode cX11_readsStatement 9 = .ok (.getfield 79, 3) := by decide +kernel
theorem dX11_readsStatement_12 : decode cX11_readsStatement 12 = .ok (.bipush 117, 2) := by decide +kernel
theorem dX11_readsStatement_14 : decode cX11_readsStatement 14 = .ok (.if_icmp .eq 23, 3) := by decide +kernel
theorem dX11_readsStatement_17 : decode cX11_readsStatement 17 = .ok (.aload_n 0, 1) := by decide +kernel
theorem dX11_readsStatement_18 : decode cX11_readsStatement 18 = .ok (.getfield 79, 3) := by decide +kernel
theorem dX11_readsStatement_21 : decode cX11_readsStatement 21 = .ok (.bipush 98, 2) := by decide +kernel
theorem dX11_readsStatement_23 : decode cX11_readsStatement 23 = .ok (.if_icmp .eq 14, 3) := by decide +kernel
theorem dX11_readsStatement_26 : decode cX11_readsStatement 26 = .ok (.aload_n 0, 1) := by decide +kernel
theorem dX11_readsStatement_27 : decode cX11_readsStatement 27 = .ok (.getfield 79, 3) := by decide +kernel
theorem dX11_readsStatement_30 : decode cX11_readsStatement 30 = .ok (.bipush 111, 2) := by decide +kernel
theorem dX11_readsStatement_32 : decode cX11_readsStatement 32 = .ok (.if_icmp .eq 5, 3) := by decide +kernel
theorem dX11_readsStatement_35 : decode cX11_readsStatement 35 = .ok (.iconst 0, 1) := by decide +kernel
theorem dX11_readsStatement_36 : decode cX11_readsStatement 36 = .ok (.ireturn, 1) := by decide +kernel
theorem dX11_readsStatement_37 : decode cX11_readsStatement 37 = .ok (.aload_n 0, 1) := by decide +kernel
theorem dX11_readsStatement_38 : decode cX11_readsStatement 38 = .ok (.dup, 1) := by decide +kernel
theorem dX11_readsStatement_39 : decode cX11_readsStatement 39 = .ok (.getfield 72, 3) := by decide +kernel
theorem dX11_readsStatement_42 : decode cX11_readsStatement 42 = .ok (.iconst 1, 1) := by decide +kernel
theorem dX11_readsStatement_43 : decode cX11_readsStatement 43 = .ok (.iadd, 1) := by decide +kernel
theorem dX11_readsStatement_44 : decode cX11_readsStatement 44 = .ok (.putfield 72, 3) := by decide +kernel
theorem dX11_readsStatement_47 : decode cX11_readsStatement 47 = .ok (.aload_n 0, 1) := by decide +kernel
theorem dX11_readsStatement_48 : decode cX11_readsStatement 48 = .ok (.getfield 30, 3) := by decide +kernel
theorem dX11_readsStatement_51 : decode cX11_readsStatement 51 = .ok (.iconst 2, 1) := by decide +kernel
theorem dX11_readsStatement_52 : decode cX11_readsStatement 52 = .ok (.iconst (-1), 1) := by decide +kernel
theorem dX11_readsStatement_53 : decode cX11_readsStatement 53 = .ok (.iastore, 1) := by decide +kernel
theorem dX11_readsStatement_54 : decode cX11_readsStatement 54 = .ok (.aload_n 0, 1) := by decide +kernel
theorem dX11_readsStatement_55 : decode cX11_readsStatement 55 = .ok (.getfield 30, 3) := by decide +kernel
theorem dX11_readsStatement_58 : decode cX11_readsStatement 58 = .ok (.iconst 3, 1) := by decide +kernel
theorem dX11_readsStatement_59 : decode cX11_readsStatement 59 = .ok (.iconst 0, 1) := by decide +kernel
theorem dX11_readsStatement_60 : decode cX11_readsStatement 60 = .ok (.iastore, 1) := by decide +kernel
theorem dX11_readsStatement_61 : decode cX11_readsStatement 61 = .ok (.aload_n 0, 1) := by decide +kernel
theorem dX11_readsStatement_62 : decode cX11_readsStatement 62 = .ok (.iconst 0, 1) := by decide +kernel
theorem dX11_readsStatement_63 : decode cX11_readsStatement 63 = .ok (.iconst 2, 1) := by decide +kernel
theorem dX11_readsStatement_64 : decode cX11_readsStatement 64 = .ok (.invokevirtual 82, 3) := by decide +kernel
theorem dX11_readsStatement_67 : decode cX11_readsStatement 67 = .ok (.ifCond .ne 5, 3) := by decide +kernel
theorem dX11_readsStatement_70 : decode cX11_readsStatement 70 = .ok (.iconst 0, 1) := by decide +kernel
theorem dX11_readsStatement_71 : decode cX11_readsStatement 71 = .ok (.ireturn, 1) := by decide +kernel
theorem dX11_readsStatement_72 : decode cX11_readsStatement 72 = .ok (.aload_n 0, 1) := by decide +kernel
theorem dX11_readsStatement_73 : decode cX11_readsStatement 73 = .ok (.getfield 79, 3) := by decide +kernel
theorem dX11_readsStatement_76 : decode cX11_readsStatement 76 = .ok (.bipush 111, 2) := by decide +kernel
theorem dX11_readsStatement_78 : decode cX11_readsStatement 78 = .ok (.if_icmp .ne 27, 3) := by decide +kernel
theorem dX11_readsStatement_81 : decode cX11_readsStatement 81 = .ok (.aload_n 0, 1) := by decide +kernel
theorem dX11_readsStatement_82 : decode cX11_readsStatement 82 = .ok (.bipush 58, 2) := by decide +kernel
theorem dX11_readsStatement_84 : decode cX11_readsStatement 84 = .ok (.invokevirtual 86, 3) := by decide +kernel
theorem dX11_readsStatement_87 : decode cX11_readsStatement 87 = .ok (.ifCond .eq 16, 3) := by decide +kernel
theorem dX11_readsStatement_90 : decode cX11_readsStatement 90 = .ok (.aload_n 0, 1) := by decide +kernel
theorem dX11_readsStatement_91 : decode cX11_readsStatement 91 = .ok (.iconst 2, 1) := by decide +kernel
theorem dX11_readsStatement_92 : decode cX11_readsStatement 92 = .ok (.iconst 1, 1) := by decide +kernel
theorem dX11_readsStatement_93 : decode cX11_readsStatement 93 = .ok (.invokevirtual 82, 3) := by decide +kernel
theorem dX11_readsStatement_96 : decode cX11_readsStatement 96 = .ok (.ifCond .eq 7, 3) := by decide +kernel
theorem dX11_readsStatement_99 : decode cX11_readsStatement 99 = .ok (.iconst 1, 1) := by decide +kernel
theorem dX11_readsStatement_100 : decode cX11_readsStatement 100 = .ok (.goto 4, 3) := by decide +kernel
theorem dX11_readsStatement_103 : decode cX11_readsStatement 103 = .ok (.iconst 0, 1) := by decide +kernel
theorem dX11_readsStatement_104 : decode cX11_readsStatement 104 = .ok (.ireturn, 1) := by decide +kernel
theorem dX11_readsStatement_105 : decode cX11_readsStatement 105 = .ok (.aload_n 0, 1) := by decide +kernel
theorem dX11_readsStatement_106 : decode cX11_readsStatement 106 = .ok (.aload_n 0, 1) := by decide +kernel
theorem dX11_readsStatement_107 : decode cX11_readsStatement 107 = .ok (.getfield 79, 3) := by decide +kernel
theorem dX11_readsStatement_110 : decode cX11_readsStatement 110 = .ok (.bipush 117, 2) := by decide +kernel
theorem dX11_readsStatement_112 : decode cX11_readsStatement 112 = .ok (.if_icmp .ne 8, 3) := by decide +kernel
theorem dX11_readsStatement_115 : decode cX11_readsStatement 115 = .ok (.bipush 47, 2) := by decide +kernel
theorem dX11_readsStatement_117 : decode cX11_readsStatement 117 = .ok (.goto 5, 3) := by decide +kernel
theorem dX11_readsStatement_120 : decode cX11_readsStatement 120 = .ok (.bipush 45, 2) := by decide +kernel
theorem dX11_readsStatement_122 : decode cX11_readsStatement 122 = .ok (.invokevirtual 86, 3) := by decide +kernel
theorem dX11_readsStatement_125 : decode cX11_readsStatement 125 = .ok (.ifCond .eq 12, 3) := by decide +kernel
theorem dX11_readsStatement_128 : decode cX11_readsStatement 128 = .ok (.aload_n 0, 1) := by decide +kernel
theorem dX11_readsStatement_129 : decode cX11_readsStatement 129 = .ok (.iconst 1, 1) := by decide +kernel
theorem dX11_readsStatement_130 : decode cX11_readsStatement 130 = .ok (.iconst 2, 1) := by decide +kernel
theorem dX11_readsStatement_131 : decode cX11_readsStatement 131 = .ok (.invokevirtual 82, 3) := by decide +kernel
theorem dX11_readsStatement_134 : decode cX11_readsStatement 134 = .ok (.ifCond .ne 5, 3) := by decide +kernel
theorem dX11_readsStatement_137 : decode cX11_readsStatement 137 = .ok (.iconst 0, 1) := by decide +kernel
theorem dX11_readsStatement_138 : decode cX11_readsStatement 138 = .ok (.ireturn, 1) := by decide +kernel
theorem dX11_readsStatement_139 : decode cX11_readsStatement 139 = .ok (.aload_n 0, 1) := by decide +kernel
theorem dX11_readsStatement_140 : decode cX11_readsStatement 140 = .ok (.getfield 79, 3) := by decide +kernel
theorem dX11_readsStatement_143 : decode cX11_readsStatement 143 = .ok (.bipush 98, 2) := by decide +kernel
theorem dX11_readsStatement_145 : decode cX11_readsStatement 145 = .ok (.if_icmp .ne 27, 3) := by decide +kernel
theorem dX11_readsStatement_148 : decode cX11_readsStatement 148 = .ok (.aload_n 0, 1) := by decide +kernel
theorem dX11_readsStatement_149 : decode cX11_readsStatement 149 = .ok (.bipush 58, 2) := by decide +kernel
theorem dX11_readsStatement_151 : decode cX11_readsStatement 151 = .ok (.invokevirtual 86, 3) := by decide +kernel
theorem dX11_readsStatement_154 : decode cX11_readsStatement 154 = .ok (.ifCond .eq 16, 3) := by decide +kernel
theorem dX11_readsStatement_157 : decode cX11_readsStatement 157 = .ok (.aload_n 0, 1) := by decide +kernel
theorem dX11_readsStatement_158 : decode cX11_readsStatement 158 = .ok (.iconst 2, 1) := by decide +kernel
theorem dX11_readsStatement_159 : decode cX11_readsStatement 159 = .ok (.iconst 1, 1) := by decide +kernel
theorem dX11_readsStatement_160 : decode cX11_readsStatement 160 = .ok (.invokevirtual 82, 3) := by decide +kernel
theorem dX11_readsStatement_163 : decode cX11_readsStatement 163 = .ok (.ifCond .eq 7, 3) := by decide +kernel
theorem dX11_readsStatement_166 : decode cX11_readsStatement 166 = .ok (.iconst 1, 1) := by decide +kernel
theorem dX11_readsStatement_167 : decode cX11_readsStatement 167 = .ok (.goto 4, 3) := by decide +kernel
theorem dX11_readsStatement_170 : decode cX11_readsStatement 170 = .ok (.iconst 0, 1) := by decide +kernel
theorem dX11_readsStatement_171 : decode cX11_readsStatement 171 = .ok (.ireturn, 1) := by decide +kernel
theorem dX11_readsStatement_172 : decode cX11_readsStatement 172 = .ok (.aload_n 0, 1) := by decide +kernel
theorem dX11_readsStatement_173 : decode cX11_readsStatement 173 = .ok (.bipush 64, 2) := by decide +kernel
theorem dX11_readsStatement_175 : decode cX11_readsStatement 175 = .ok (.invokevirtual 86, 3) := by decide +kernel
theorem dX11_readsStatement_178 : decode cX11_readsStatement 178 = .ok (.ifCond .eq 34, 3) := by decide +kernel
theorem dX11_readsStatement_181 : decode cX11_readsStatement 181 = .ok (.aload_n 0, 1) := by decide +kernel
theorem dX11_readsStatement_182 : decode cX11_readsStatement 182 = .ok (.iconst 2, 1) := by decide +kernel
theorem dX11_readsStatement_183 : decode cX11_readsStatement 183 = .ok (.iconst 1, 1) := by decide +kernel
theorem dX11_readsStatement_184 : decode cX11_readsStatement 184 = .ok (.invokevirtual 82, 3) := by decide +kernel
theorem dX11_readsStatement_187 : decode cX11_readsStatement 187 = .ok (.ifCond .ne 5, 3) := by decide +kernel
theorem dX11_readsStatement_190 : decode cX11_readsStatement 190 = .ok (.iconst 0, 1) := by decide +kernel
theorem dX11_readsStatement_191 : decode cX11_readsStatement 191 = .ok (.ireturn, 1) := by decide +kernel
theorem dX11_readsStatement_192 : decode cX11_readsStatement 192 = .ok (.aload_n 0, 1) := by decide +kernel
theorem dX11_readsStatement_193 : decode cX11_readsStatement 193 = .ok (.getfield 30, 3) := by decide +kernel
theorem dX11_readsStatement_196 : decode cX11_readsStatement 196 = .ok (.iconst 3, 1) := by decide +kernel
theorem dX11_readsStatement_197 : decode cX11_readsStatement 197 = .ok (.aload_n 0, 1) := by decide +kernel
theorem dX11_readsStatement_198 : decode cX11_readsStatement 198 = .ok (.bipush 33, 2) := by decide +kernel
theorem dX11_readsStatement_200 : decode cX11_readsStatement 200 = .ok (.invokevirtual 86, 3) := by decide +kernel
theorem dX11_readsStatement_203 : decode cX11_readsStatement 203 = .ok (.ifCond .eq 7, 3) := by decide +kernel
theorem dX11_readsStatement_206 : decode cX11_readsStatement 206 = .ok (.iconst 1, 1) := by decide +kernel
theorem dX11_readsStatement_207 : decode cX11_readsStatement 207 = .ok (.goto 4, 3) := by decide +kernel
theorem dX11_readsStatement_210 : decode cX11_readsStatement 210 = .ok (.iconst 0, 1) := by decide +kernel
theorem dX11_readsStatement_211 : decode cX11_readsStatement 211 = .ok (.iastore, 1) := by decide +kernel
theorem dX11_readsStatement_212 : decode cX11_readsStatement 212 = .ok (.iconst 1, 1) := by decide +kernel
theorem dX11_readsStatement_213 : decode cX11_readsStatement 213 = .ok (.ireturn, 1) := by decide +kernel
theorem dX11_does_0 : decode cX11_does 0 = .ok (.aload_n 0, 1) := by decide +kernel
theorem dX11_does_1 : decode cX11_does 1 = .ok (.getfield 79, 3) := by decide +kernel
theorem dX11_does_4 : decode cX11_does 4 = .ok (.bipush 117, 2) := by decide +kernel
theorem dX11_does_6 : decode cX11_does 6 = .ok (.if_icmp .ne 176, 3) := by decide +kernel
theorem dX11_does_9 : decode cX11_does 9 = .ok (.aload_n 0, 1) := by decide +kernel
theorem dX11_does_10 : decode cX11_does 10 = .ok (.getfield 7, 3) := by decide +kernel
theorem dX11_does_13 : decode cX11_does 13 = .ok (.sipush 204, 3) := by decide +kernel
theorem dX11_does_16 : decode cX11_does 16 = .ok (.iaload, 1) := by decide +kernel
theorem dX11_does_17 : decode cX11_does 17 = .ok (.bipush 12, 2) := by decide +kernel
theorem dX11_does_19 : decode cX11_does 19 = .ok (.if_icmp .eq 31, 3) := by decide +kernel
theorem dX11_does_22 : decode cX11_does 22 = .ok (.aload_n 0, 1) := by decide +kernel
theorem dX11_does_23 : decode cX11_does 23 = .ok (.getfield 30, 3) := by decide +kernel
theorem dX11_does_26 : decode cX11_does 26 = .ok (.iconst 0, 1) := by decide +kernel
theorem dX11_does_27 : decode cX11_does 27 = .ok (.iaload, 1) := by decide +kernel
theorem dX11_does_28 : decode cX11_does 28 = .ok (.ifCond .eq 22, 3) := by decide +kernel
theorem dX11_does_31 : decode cX11_does 31 = .ok (.aload_n 0, 1) := by decide +kernel
theorem dX11_does_32 : decode cX11_does 32 = .ok (.getfield 30, 3) := by decide +kernel
theorem dX11_does_35 : decode cX11_does 35 = .ok (.iconst 1, 1) := by decide +kernel
theorem dX11_does_36 : decode cX11_does 36 = .ok (.iaload, 1) := by decide +kernel
theorem dX11_does_37 : decode cX11_does 37 = .ok (.ifCond .eq 13, 3) := by decide +kernel
theorem dX11_does_40 : decode cX11_does 40 = .ok (.aload_n 0, 1) := by decide +kernel
theorem dX11_does_41 : decode cX11_does 41 = .ok (.getfield 30, 3) := by decide +kernel
theorem dX11_does_44 : decode cX11_does 44 = .ok (.iconst 2, 1) := by decide +kernel
theorem dX11_does_45 : decode cX11_does 45 = .ok (.iaload, 1) := by decide +kernel
theorem dX11_does_46 : decode cX11_does 46 = .ok (.iconst 4, 1) := by decide +kernel
theorem dX11_does_47 : decode cX11_does 47 = .ok (.if_icmp .lt 5, 3) := by decide +kernel
theorem dX11_does_50 : decode cX11_does 50 = .ok (.iconst 0, 1) := by decide +kernel
theorem dX11_does_51 : decode cX11_does 51 = .ok (.ireturn, 1) := by decide +kernel
theorem dX11_does_52 : decode cX11_does 52 = .ok (.iconst 0, 1) := by decide +kernel
theorem dX11_does_53 : decode cX11_does 53 = .ok (.istore_n 1, 1) := by decide +kernel
theorem dX11_does_54 : decode cX11_does 54 = .ok (.iload_n 1, 1) := by decide +kernel
theorem dX11_does_55 : decode cX11_does 55 = .ok (.iconst 4, 1) := by decide +kernel
theorem dX11_does_56 : decode cX11_does 56 = .ok (.if_icmp .ge 34, 3) := by decide +kernel
theorem dX11_does_59 : decode cX11_does 59 = .ok (.aload_n 0, 1) := by decide +kernel
theorem dX11_does_60 : decode cX11_does 60 = .ok (.getfield 7, 3) := by decide +kernel
theorem dX11_does_63 : decode cX11_does 63 = .ok (.iconst 0, 1) := by decide +kernel
theorem dX11_does_64 : decode cX11_does 64 = .ok (.iconst 5, 1) := by decide +kernel
theorem dX11_does_65 : decode cX11_does 65 = .ok (.aload_n 0, 1) := by decide +kernel
theorem dX11_does_66 : decode cX11_does 66 = .ok (.getfield 7, 3) := by decide +kernel
theorem dX11_does_69 : decode cX11_does 69 = .ok (.sipush 204, 3) := by decide +kernel
theorem dX11_does_72 : decode cX11_does 72 = .ok (.iaload, 1) := by decide +kernel
theorem dX11_does_73 : decode cX11_does 73 = .ok (.imul, 1) := by decide +kernel
theorem dX11_does_74 : decode cX11_does 74 = .ok (.iadd, 1) := by decide +kernel
theorem dX11_does_75 : decode cX11_does 75 = .ok (.iload_n 1, 1) := by decide +kernel
theorem dX11_does_76 : decode cX11_does 76 = .ok (.iadd, 1) := by decide +kernel
theorem dX11_does_77 : decode cX11_does 77 = .ok (.aload_n 0, 1) := by decide +kernel
theorem dX11_does_78 : decode cX11_does 78 = .ok (.getfield 30, 3) := by decide +kernel
theorem dX11_does_81 : decode cX11_does 81 = .ok (.iload_n 1, 1) := by decide +kernel
theorem dX11_does_82 : decode cX11_does 82 = .ok (.iaload, 1) := by decide +kernel
theorem dX11_does_83 : decode cX11_does 83 = .ok (.iastore, 1) := by decide +kernel
theorem dX11_does_84 : decode cX11_does 84 = .ok (.iinc 1 1, 3) := by decide +kernel
theorem dX11_does_87 : decode cX11_does 87 = .ok (.goto (-33), 3) := by decide +kernel
theorem dX11_does_90 : decode cX11_does 90 = .ok (.aload_n 0, 1) := by decide +kernel
theorem dX11_does_91 : decode cX11_does 91 = .ok (.getfield 7, 3) := by decide +kernel
theorem dX11_does_94 : decode cX11_does 94 = .ok (.iconst 0, 1) := by decide +kernel
theorem dX11_does_95 : decode cX11_does 95 = .ok (.iconst 5, 1) := by decide +kernel
theorem dX11_does_96 : decode cX11_does 96 = .ok (.aload_n 0, 1) := by decide +kernel
theorem dX11_does_97 : decode cX11_does 97 = .ok (.getfield 7, 3) := by decide +kernel
theorem dX11_does_100 : decode cX11_does 100 = .ok (.sipush 204, 3) := by decide +kernel
theorem dX11_does_103 : decode cX11_does 103 = .ok (.iaload, 1) := by decide +kernel
theorem dX11_does_104 : decode cX11_does 104 = .ok (.imul, 1) := by decide +kernel
theorem dX11_does_105 : decode cX11_does 105 = .ok (.iadd, 1) := by decide +kernel
theorem dX11_does_106 : decode cX11_does 106 = .ok (.iconst 4, 1) := by decide +kernel
theorem dX11_does_107 : decode cX11_does 107 = .ok (.iadd, 1) := by decide +kernel
theorem dX11_does_108 : decode cX11_does 108 = .ok (.iconst 0, 1) := by decide +kernel
theorem dX11_does_109 : decode cX11_does 109 = .ok (.iastore, 1) := by decide +kernel
theorem dX11_does_110 : decode cX11_does 110 = .ok (.iconst 0, 1) := by decide +kernel
theorem dX11_does_111 : decode cX11_does 111 = .ok (.istore_n 1, 1) := by decide +kernel
theorem dX11_does_112 : decode cX11_does 112 = .ok (.iload_n 1, 1) := by decide +kernel
theorem dX11_does_113 : decode cX11_does 113 = .ok (.bipush 12, 2) := by decide +kernel
theorem dX11_does_115 : decode cX11_does 115 = .ok (.if_icmp .ge 53, 3) := by decide +kernel
theorem dX11_does_118 : decode cX11_does 118 = .ok (.aload_n 0, 1) := by decide +kernel
theorem dX11_does_119 : decode cX11_does 119 = .ok (.getfield 7, 3) := by decide +kernel
theorem dX11_does_122 : decode cX11_does 122 = .ok (.bipush 60, 2) := by decide +kernel
theorem dX11_does_124 : decode cX11_does 124 = .ok (.bipush 12, 2) := by decide +kernel
theorem dX11_does_126 : decode cX11_does 126 = .ok (.aload_n 0, 1) := by decide +kernel
theorem dX11_does_127 : decode cX11_does 127 = .ok (.getfield 7, 3) := by decide +kernel
theorem dX11_does_130 : decode cX11_does 130 = .ok (.sipush 204, 3) := by decide +kernel
theorem dX11_does_133 : decode cX11_does 133 = .ok (.iaload, 1) := by decide +kernel
theorem dX11_does_134 : decode cX11_does 134 = .ok (.imul, 1) := by decide +kernel
theorem dX11_does_135 : decode cX11_does 135 = .ok (.iadd, 1) := by decide +kernel
theorem dX11_does_136 : decode cX11_does 136 = .ok (.iload_n 1, 1) := by decide +kernel
theorem dX11_does_137 : decode cX11_does 137 = .ok (.iadd, 1) := by decide +kernel
theorem dX11_does_138 : decode cX11_does 138 = .ok (.iconst 0, 1) := by decide +kernel
theorem dX11_does_139 : decode cX11_does 139 = .ok (.iastore, 1) := by decide +kernel
theorem dX11_does_140 : decode cX11_does 140 = .ok (.aload_n 0, 1) := by decide +kernel
theorem dX11_does_141 : decode cX11_does 141 = .ok (.getfield 7, 3) := by decide +kernel
theorem dX11_does_144 : decode cX11_does 144 = .ok (.bipush 60, 2) := by decide +kernel
theorem dX11_does_146 : decode cX11_does 146 = .ok (.bipush 12, 2) := by decide +kernel
theorem dX11_does_148 : decode cX11_does 148 = .ok (.iload_n 1, 1) := by decide +kernel
theorem dX11_does_149 : decode cX11_does 149 = .ok (.imul, 1) := by decide +kernel
theorem dX11_does_150 : decode cX11_does 150 = .ok (.iadd, 1) := by decide +kernel
theorem dX11_does_151 : decode cX11_does 151 = .ok (.aload_n 0, 1) := by decide +kernel
theorem dX11_does_152 : decode cX11_does 152 = .ok (.getfield 7, 3) := by decide +kernel
theorem dX11_does_155 : decode cX11_does 155 = .ok (.sipush 204, 3) := by decide +kernel
theorem dX11_does_158 : decode cX11_does 158 = .ok (.iaload, 1) := by decide +kernel
theorem dX11_does_159 : decode cX11_does 159 = .ok (.iadd, 1) := by decide +kernel
theorem dX11_does_160 : decode cX11_does 160 = .ok (.iconst 0, 1) := by decide +kernel
theorem dX11_does_161 : decode cX11_does 161 = .ok (.iastore, 1) := by decide +kernel
theorem dX11_does_162 : decode cX11_does 162 = .ok (.iinc 1 1, 3) := by decide +kernel
theorem dX11_does_165 : decode cX11_does 165 = .ok (.goto (-53), 3) := by decide +kernel
theorem dX11_does_168 : decode cX11_does 168 = .ok (.aload_n 0, 1) := by decide +kernel
theorem dX11_does_169 : decode cX11_does 169 = .ok (.getfield 7, 3) := by decide +kernel
theorem dX11_does_172 : decode cX11_does 172 = .ok (.sipush 204, 3) := by decide +kernel
theorem dX11_does_175 : decode cX11_does 175 = .ok (.dup2, 1) := by decide +kernel
theorem dX11_does_176 : decode cX11_does 176 = .ok (.iaload, 1) := by decide +kernel
theorem dX11_does_177 : decode cX11_does 177 = .ok (.iconst 1, 1) := by decide +kernel
theorem dX11_does_178 : decode cX11_does 178 = .ok (.iadd, 1) := by decide +kernel
theorem dX11_does_179 : decode cX11_does 179 = .ok (.iastore, 1) := by decide +kernel
theorem dX11_does_180 : decode cX11_does 180 = .ok (.iconst 1, 1) := by decide +kernel
theorem dX11_does_181 : decode cX11_does 181 = .ok (.ireturn, 1) := by decide +kernel
theorem dX11_does_182 : decode cX11_does 182 = .ok (.aload_n 0, 1) := by decide +kernel
theorem dX11_does_183 : decode cX11_does 183 = .ok (.aload_n 0, 1) := by decide +kernel
theorem dX11_does_184 : decode cX11_does 184 = .ok (.getfield 30, 3) := by decide +kernel
theorem dX11_does_187 : decode cX11_does 187 = .ok (.iconst 0, 1) := by decide +kernel
theorem dX11_does_188 : decode cX11_does 188 = .ok (.iaload, 1) := by decide +kernel
theorem dX11_does_189 : decode cX11_does 189 = .ok (.invokevirtual 90, 3) := by decide +kernel
theorem dX11_does_192 : decode cX11_does 192 = .ok (.ifCond .ne 5, 3) := by decide +kernel
theorem dX11_does_195 : decode cX11_does 195 = .ok (.iconst 0, 1) := by decide +kernel
theorem dX11_does_196 : decode cX11_does 196 = .ok (.ireturn, 1) := by decide +kernel
theorem dX11_does_197 : decode cX11_does 197 = .ok (.aload_n 0, 1) := by decide +kernel
theorem dX11_does_198 : decode cX11_does 198 = .ok (.getfield 79, 3) := by decide +kernel
theorem dX11_does_201 : decode cX11_does 201 = .ok (.bipush 111, 2) := by decide +kernel
theorem dX11_does_203 : decode cX11_does 203 = .ok (.if_icmp .ne 28, 3) := by decide +kernel
theorem dX11_does_206 : decode cX11_does 206 = .ok (.aload_n 0, 1) := by decide +kernel
theorem dX11_does_207 : decode cX11_does 207 = .ok (.getfield 7, 3) := by decide +kernel
theorem dX11_does_210 : decode cX11_does 210 = .ok (.iconst 0, 1) := by decide +kernel
theorem dX11_does_211 : decode cX11_does 211 = .ok (.iconst 5, 1) := by decide +kernel
theorem dX11_does_212 : decode cX11_does 212 = .ok (.aload_n 0, 1) := by decide +kernel
theorem dX11_does_213 : decode cX11_does 213 = .ok (.getfield 30, 3) := by decide +kernel
theorem dX11_does_216 : decode cX11_does 216 = .ok (.iconst 0, 1) := by decide +kernel
theorem dX11_does_217 : decode cX11_does 217 = .ok (.iaload, 1) := by decide +kernel
theorem dX11_does_218 : decode cX11_does 218 = .ok (.imul, 1) := by decide +kernel
theorem dX11_does_219 : decode cX11_does 219 = .ok (.iadd, 1) := by decide +kernel
theorem dX11_does_220 : decode cX11_does 220 = .ok (.iconst 4, 1) := by decide +kernel
theorem dX11_does_221 : decode cX11_does 221 = .ok (.iadd, 1) := by decide +kernel
theorem dX11_does_222 : decode cX11_does 222 = .ok (.aload_n 0, 1) := by decide +kernel
theorem dX11_does_223 : decode cX11_does 223 = .ok (.getfield 30, 3) := by decide +kernel
theorem dX11_does_226 : decode cX11_does 226 = .ok (.iconst 2, 1) := by decide +kernel
theorem dX11_does_227 : decode cX11_does 227 = .ok (.iaload, 1) := by decide +kernel
theorem dX11_does_228 : decode cX11_does 228 = .ok (.iastore, 1) := by decide +kernel
theorem dX11_does_229 : decode cX11_does 229 = .ok (.iconst 1, 1) := by decide +kernel
theorem dX11_does_230 : decode cX11_does 230 = .ok (.ireturn, 1) := by decide +kernel
theorem dX11_does_231 : decode cX11_does 231 = .ok (.aload_n 0, 1) := by decide +kernel
theorem dX11_does_232 : decode cX11_does 232 = .ok (.aload_n 0, 1) := by decide +kernel
theorem dX11_does_233 : decode cX11_does 233 = .ok (.getfield 30, 3) := by decide +kernel
theorem dX11_does_236 : decode cX11_does 236 = .ok (.iconst 1, 1) := by decide +kernel
theorem dX11_does_237 : decode cX11_does 237 = .ok (.iaload, 1) := by decide +kernel
theorem dX11_does_238 : decode cX11_does 238 = .ok (.invokevirtual 90, 3) := by decide +kernel
theorem dX11_does_241 : decode cX11_does 241 = .ok (.ifCond .eq 46, 3) := by decide +kernel
theorem dX11_does_244 : decode cX11_does 244 = .ok (.aload_n 0, 1) := by decide +kernel
theorem dX11_does_245 : decode cX11_does 245 = .ok (.getfield 30, 3) := by decide +kernel
theorem dX11_does_248 : decode cX11_does 248 = .ok (.iconst 0, 1) := by decide +kernel
theorem dX11_does_249 : decode cX11_does 249 = .ok (.iaload, 1) := by decide +kernel
theorem dX11_does_250 : decode cX11_does 250 = .ok (.aload_n 0, 1) := by decide +kernel
theorem dX11_does_251 : decode cX11_does 251 = .ok (.getfield 30, 3) := by decide +kernel
theorem dX11_does_254 : decode cX11_does 254 = .ok (.iconst 1, 1) := by decide +kernel
theorem dX11_does_255 : decode cX11_does 255 = .ok (.iaload, 1) := by decide +kernel
theorem dX11_does_256 : decode cX11_does 256 = .ok (.if_icmp .eq 31, 3) := by decide +kernel
theorem dX11_does_259 : decode cX11_does 259 = .ok (.aload_n 0, 1) := by decide +kernel
theorem dX11_does_260 : decode cX11_does 260 = .ok (.getfield 30, 3) := by decide +kernel
theorem dX11_does_263 : decode cX11_does 263 = .ok (.iconst 2, 1) := by decide +kernel
theorem dX11_does_264 : decode cX11_does 264 = .ok (.iaload, 1) := by decide +kernel
theorem dX11_does_265 : decode cX11_does 265 = .ok (.ifCond .ne 24, 3) := by decide +kernel
theorem dX11_does_268 : decode cX11_does 268 = .ok (.aload_n 0, 1) := by decide +kernel
theorem dX11_does_269 : decode cX11_does 269 = .ok (.aload_n 0, 1) := by decide +kernel
theorem dX11_does_270 : decode cX11_does 270 = .ok (.getfield 30, 3) := by decide +kernel
theorem dX11_does_273 : decode cX11_does 273 = .ok (.iconst 0, 1) := by decide +kernel
theorem dX11_does_274 : decode cX11_does 274 = .ok (.iaload, 1) := by decide +kernel
theorem dX11_does_275 : decode cX11_does 275 = .ok (.aload_n 0, 1) := by decide +kernel
theorem dX11_does_276 : decode cX11_does 276 = .ok (.getfield 30, 3) := by decide +kernel
theorem dX11_does_279 : decode cX11_does 279 = .ok (.iconst 1, 1) := by decide +kernel
theorem dX11_does_280 : decode cX11_does 280 = .ok (.iaload, 1) := by decide +kernel
theorem dX11_does_281 : decode cX11_does 281 = .ok (.invokevirtual 93, 3) := by decide +kernel
theorem dX11_does_284 : decode cX11_does 284 = .ok (.ifCond .ne 5, 3) := by decide +kernel
theorem dX11_does_287 : decode cX11_does 287 = .ok (.iconst 0, 1) := by decide +kernel
theorem dX11_does_288 : decode cX11_does 288 = .ok (.ireturn, 1) := by decide +kernel
theorem dX11_does_289 : decode cX11_does 289 = .ok (.aload_n 0, 1) := by decide +kernel
theorem dX11_does_290 : decode cX11_does 290 = .ok (.getfield 7, 3) := by decide +kernel
theorem dX11_does_293 : decode cX11_does 293 = .ok (.bipush 60, 2) := by decide +kernel
theorem dX11_does_295 : decode cX11_does 295 = .ok (.bipush 12, 2) := by decide +kernel
theorem dX11_does_297 : decode cX11_does 297 = .ok (.aload_n 0, 1) := by decide +kernel
theorem dX11_does_298 : decode cX11_does 298 = .ok (.getfield 30, 3) := by decide +kernel
theorem dX11_does_301 : decode cX11_does 301 = .ok (.iconst 0, 1) := by decide +kernel
theorem dX11_does_302 : decode cX11_does 302 = .ok (.iaload, 1) := by decide +kernel
theorem dX11_does_303 : decode cX11_does 303 = .ok (.imul, 1) := by decide +kernel
theorem dX11_does_304 : decode cX11_does 304 = .ok (.iadd, 1) := by decide +kernel
theorem dX11_does_305 : decode cX11_does 305 = .ok (.aload_n 0, 1) := by decide +kernel
theorem dX11_does_306 : decode cX11_does 306 = .ok (.getfield 30, 3) := by decide +kernel
theorem dX11_does_309 : decode cX11_does 309 = .ok (.iconst 1, 1) := by decide +kernel
theorem dX11_does_310 : decode cX11_does 310 = .ok (.iaload, 1) := by decide +kernel
theorem dX11_does_311 : decode cX11_does 311 = .ok (.iadd, 1) := by decide +kernel
theorem dX11_does_312 : decode cX11_does 312 = .ok (.aload_n 0, 1) := by decide +kernel
theorem dX11_does_313 : decode cX11_does 313 = .ok (.getfield 30, 3) := by decide +kernel
theorem dX11_does_316 : decode cX11_does 316 = .ok (.iconst 2, 1) := by decide +kernel
theorem dX11_does_317 : decode cX11_does 317 = .ok (.iaload, 1) := by decide +kernel
theorem dX11_does_318 : decode cX11_does 318 = .ok (.iastore, 1) := by decide +kernel
theorem dX11_does_319 : decode cX11_does 319 = .ok (.aload_n 0, 1) := by decide +kernel
theorem dX11_does_320 : decode cX11_does 320 = .ok (.getfield 7, 3) := by decide +kernel
theorem dX11_does_323 : decode cX11_does 323 = .ok (.bipush 60, 2) := by decide +kernel
theorem dX11_does_325 : decode cX11_does 325 = .ok (.bipush 12, 2) := by decide +kernel
theorem dX11_does_327 : decode cX11_does 327 = .ok (.aload_n 0, 1) := by decide +kernel
theorem dX11_does_328 : decode cX11_does 328 = .ok (.getfield 30, 3) := by decide +kernel
theorem dX11_does_331 : decode cX11_does 331 = .ok (.iconst 1, 1) := by decide +kernel
theorem dX11_does_332 : decode cX11_does 332 = .ok (.iaload, 1) := by decide +kernel
theorem dX11_does_333 : decode cX11_does 333 = .ok (.imul, 1) := by decide +kernel
theorem dX11_does_334 : decode cX11_does 334 = .ok (.iadd, 1) := by decide +kernel
theorem dX11_does_335 : decode cX11_does 335 = .ok (.aload_n 0, 1) := by decide +kernel
theorem dX11_does_336 : decode cX11_does 336 = .ok (.getfield 30, 3) := by decide +kernel
theorem dX11_does_339 : decode cX11_does 339 = .ok (.iconst 0, 1) := by decide +kernel
theorem dX11_does_340 : decode cX11_does 340 = .ok (.iaload, 1) := by decide +kernel
theorem dX11_does_341 : decode cX11_does 341 = .ok (.iadd, 1) := by decide +kernel
theorem dX11_does_342 : decode cX11_does 342 = .ok (.aload_n 0, 1) := by decide +kernel
theorem dX11_does_343 : decode cX11_does 343 = .ok (.getfield 30, 3) := by decide +kernel
theorem dX11_does_346 : decode cX11_does 346 = .ok (.iconst 2, 1) := by decide +kernel
theorem dX11_does_347 : decode cX11_does 347 = .ok (.iaload, 1) := by decide +kernel
theorem dX11_does_348 : decode cX11_does 348 = .ok (.iastore, 1) := by decide +kernel
theorem dX11_does_349 : decode cX11_does 349 = .ok (.iconst 1, 1) := by decide +kernel
theorem dX11_does_350 : decode cX11_does 350 = .ok (.ireturn, 1) := by decide +kernel
theorem dX11_extend_0 : decode cX11_extend 0 = .ok (.aload_n 0, 1) := by decide +kernel
theorem dX11_extend_1 : decode cX11_extend 1 = .ok (.iconst 0, 1) := by decide +kernel
theorem dX11_extend_2 : decode cX11_extend 2 = .ok (.putfield 72, 3) := by decide +kernel
theorem dX11_extend_5 : decode cX11_extend 5 = .ok (.aload_n 0, 1) := by decide +kernel
theorem dX11_extend_6 : decode cX11_extend 6 = .ok (.invokevirtual 97, 3) := by decide +kernel
theorem dX11_extend_9 : decode cX11_extend 9 = .ok (.istore_n 1, 1) := by decide +kernel
theorem dX11_extend_10 : decode cX11_extend 10 = .ok (.iload_n 1, 1) := by decide +kernel
theorem dX11_extend_11 : decode cX11_extend 11 = .ok (.ifCond .eq 20, 3) := by decide +kernel
theorem dX11_extend_14 : decode cX11_extend 14 = .ok (.aload_n 0, 1) := by decide +kernel
theorem dX11_extend_15 : decode cX11_extend 15 = .ok (.bipush 59, 2) := by decide +kernel
theorem dX11_extend_17 : decode cX11_extend 17 = .ok (.invokevirtual 86, 3) := by decide +kernel
theorem dX11_extend_20 : decode cX11_extend 20 = .ok (.ifCond .eq 11, 3) := by decide +kernel
theorem dX11_extend_23 : decode cX11_extend 23 = .ok (.aload_n 0, 1) := by decide +kernel
theorem dX11_extend_24 : decode cX11_extend 24 = .ok (.invokevirtual 97, 3) := by decide +kernel
theorem dX11_extend_27 : decode cX11_extend 27 = .ok (.istore_n 1, 1) := by decide +kernel
theorem dX11_extend_28 : decode cX11_extend 28 = .ok (.goto (-18), 3) := by decide +kernel
theorem dX11_extend_31 : decode cX11_extend 31 = .ok (.iload_n 1, 1) := by decide +kernel
theorem dX11_extend_32 : decode cX11_extend 32 = .ok (.ifCond .eq 14, 3) := by decide +kernel
theorem dX11_extend_35 : decode cX11_extend 35 = .ok (.aload_n 0, 1) := by decide +kernel
theorem dX11_extend_36 : decode cX11_extend 36 = .ok (.getfield 72, 3) := by decide +kernel
theorem dX11_extend_39 : decode cX11_extend 39 = .ok (.aload_n 0, 1) := by decide +kernel
theorem dX11_extend_40 : decode cX11_extend 40 = .ok (.getfield 62, 3) := by decide +kernel
theorem dX11_extend_43 : decode cX11_extend 43 = .ok (.if_icmp .ge 20, 3) := by decide +kernel
theorem dX11_extend_46 : decode cX11_extend 46 = .ok (.aload_n 0, 1) := by decide +kernel
theorem dX11_extend_47 : decode cX11_extend 47 = .ok (.iconst 0, 1) := by decide +kernel
theorem dX11_extend_48 : decode cX11_extend 48 = .ok (.putfield 62, 3) := by decide +kernel
theorem dX11_extend_51 : decode cX11_extend 51 = .ok (.aload_n 0, 1) := by decide +kernel
theorem dX11_extend_52 : decode cX11_extend 52 = .ok (.bipush (-100), 2) := by decide +kernel
theorem dX11_extend_54 : decode cX11_extend 54 = .ok (.aload_n 0, 1) := by decide +kernel
theorem dX11_extend_55 : decode cX11_extend 55 = .ok (.getfield 72, 3) := by decide +kernel
theorem dX11_extend_58 : decode cX11_extend 58 = .ok (.isub, 1) := by decide +kernel
theorem dX11_extend_59 : decode cX11_extend 59 = .ok (.invokevirtual 69, 3) := by decide +kernel
theorem dX11_extend_62 : decode cX11_extend 62 = .ok (.ireturn, 1) := by decide +kernel
theorem dX11_extend_63 : decode cX11_extend 63 = .ok (.aload_n 0, 1) := by decide +kernel
theorem dX11_extend_64 : decode cX11_extend 64 = .ok (.invokevirtual 101, 3) := by decide +kernel
theorem dX11_extend_67 : decode cX11_extend 67 = .ok (.aload_n 0, 1) := by decide +kernel
theorem dX11_extend_68 : decode cX11_extend 68 = .ok (.iconst 0, 1) := by decide +kernel
theorem dX11_extend_69 : decode cX11_extend 69 = .ok (.putfield 72, 3) := by decide +kernel
theorem dX11_extend_72 : decode cX11_extend 72 = .ok (.iconst 0, 1) := by decide +kernel
theorem dX11_extend_73 : decode cX11_extend 73 = .ok (.istore_n 2, 1) := by decide +kernel
theorem dX11_extend_74 : decode cX11_extend 74 = .ok (.aload_n 0, 1) := by decide +kernel
theorem dX11_extend_75 : decode cX11_extend 75 = .ok (.getfield 72, 3) := by decide +kernel
theorem dX11_extend_78 : decode cX11_extend 78 = .ok (.aload_n 0, 1) := by decide +kernel
theorem dX11_extend_79 : decode cX11_extend 79 = .ok (.getfield 62, 3) := by decide +kernel
theorem dX11_extend_82 : decode cX11_extend 82 = .ok (.if_icmp .ge 71, 3) := by decide +kernel
theorem dX11_extend_85 : decode cX11_extend 85 = .ok (.aload_n 0, 1) := by decide +kernel
theorem dX11_extend_86 : decode cX11_extend 86 = .ok (.invokevirtual 97, 3) := by decide +kernel
theorem dX11_extend_89 : decode cX11_extend 89 = .ok (.istore_n 1, 1) := by decide +kernel
theorem dX11_extend_90 : decode cX11_extend 90 = .ok (.aload_n 0, 1) := by decide +kernel
theorem dX11_extend_91 : decode cX11_extend 91 = .ok (.invokevirtual 104, 3) := by decide +kernel
theorem dX11_extend_94 : decode cX11_extend 94 = .ok (.ifCond .ne 46, 3) := by decide +kernel
theorem dX11_extend_97 : decode cX11_extend 97 = .ok (.aload_n 0, 1) := by decide +kernel
theorem dX11_extend_98 : decode cX11_extend 98 = .ok (.iload_n 2, 1) := by decide +kernel
theorem dX11_extend_99 : decode cX11_extend 99 = .ok (.putfield 26, 3) := by decide +kernel
theorem dX11_extend_102 : decode cX11_extend 102 = .ok (.iconst 0, 1) := by decide +kernel
theorem dX11_extend_103 : decode cX11_extend 103 = .ok (.istore_n 3, 1) := by decide +kernel
theorem dX11_extend_104 : decode cX11_extend 104 = .ok (.iload_n 3, 1) := by decide +kernel
theorem dX11_extend_105 : decode cX11_extend 105 = .ok (.sipush 221, 3) := by decide +kernel
theorem dX11_extend_108 : decode cX11_extend 108 = .ok (.if_icmp .ge 21, 3) := by decide +kernel
theorem dX11_extend_111 : decode cX11_extend 111 = .ok (.aload_n 0, 1) := by decide +kernel
theorem dX11_extend_112 : decode cX11_extend 112 = .ok (.getfield 7, 3) := by decide +kernel
theorem dX11_extend_115 : decode cX11_extend 115 = .ok (.iload_n 3, 1) := by decide +kernel
theorem dX11_extend_116 : decode cX11_extend 116 = .ok (.aload_n 0, 1) := by decide +kernel
theorem dX11_extend_117 : decode cX11_extend 117 = .ok (.getfield 13, 3) := by decide +kernel
theorem dX11_extend_120 : decode cX11_extend 120 = .ok (.iload_n 3, 1) := by decide +kernel
theorem dX11_extend_121 : decode cX11_extend 121 = .ok (.iaload, 1) := by decide +kernel
theorem dX11_extend_122 : decode cX11_extend 122 = .ok (.iastore, 1) := by decide +kernel
theorem dX11_extend_123 : decode cX11_extend 123 = .ok (.iinc 3 1, 3) := by decide +kernel
theorem dX11_extend_126 : decode cX11_extend 126 = .ok (.goto (-22), 3) := by decide +kernel
theorem dX11_extend_129 : decode cX11_extend 129 = .ok (.aload_n 0, 1) := by decide +kernel
theorem dX11_extend_130 : decode cX11_extend 130 = .ok (.iconst 0, 1) := by decide +kernel
theorem dX11_extend_131 : decode cX11_extend 131 = .ok (.putfield 62, 3) := by decide +kernel
theorem dX11_extend_134 : decode cX11_extend 134 = .ok (.aload_n 0, 1) := by decide +kernel
theorem dX11_extend_135 : decode cX11_extend 135 = .ok (.iconst 1, 1) := by decide +kernel
theorem dX11_extend_136 : decode cX11_extend 136 = .ok (.invokevirtual 65, 3) := by decide +kernel
theorem dX11_extend_139 : decode cX11_extend 139 = .ok (.ireturn, 1) := by decide +kernel
theorem dX11_extend_140 : decode cX11_extend 140 = .ok (.iinc 2 1, 3) := by decide +kernel
theorem dX11_extend_143 : decode cX11_extend 143 = .ok (.aload_n 0, 1) := by decide +kernel
theorem dX11_extend_144 : decode cX11_extend 144 = .ok (.bipush 59, 2) := by decide +kernel
theorem dX11_extend_146 : decode cX11_extend 146 = .ok (.invokevirtual 86, 3) := by decide +kernel
theorem dX11_extend_149 : decode cX11_extend 149 = .ok (.istore_n 1, 1) := by decide +kernel
theorem dX11_extend_150 : decode cX11_extend 150 = .ok (.goto (-76), 3) := by decide +kernel
theorem dX11_extend_153 : decode cX11_extend 153 = .ok (.aload_n 0, 1) := by decide +kernel
theorem dX11_extend_154 : decode cX11_extend 154 = .ok (.iconst 0, 1) := by decide +kernel
theorem dX11_extend_155 : decode cX11_extend 155 = .ok (.putfield 62, 3) := by decide +kernel
theorem dX11_extend_158 : decode cX11_extend 158 = .ok (.aload_n 0, 1) := by decide +kernel
theorem dX11_extend_159 : decode cX11_extend 159 = .ok (.getfield 7, 3) := by decide +kernel
theorem dX11_extend_162 : decode cX11_extend 162 = .ok (.sipush 219, 3) := by decide +kernel
theorem dX11_extend_165 : decode cX11_extend 165 = .ok (.iconst 0, 1) := by decide +kernel
theorem dX11_extend_166 : decode cX11_extend 166 = .ok (.iastore, 1) := by decide +kernel
theorem dX11_extend_167 : decode cX11_extend 167 = .ok (.aload_n 0, 1) := by decide +kernel
theorem dX11_extend_168 : decode cX11_extend 168 = .ok (.invokevirtual 107, 3) := by decide +kernel
theorem dX11_extend_171 : decode cX11_extend 171 = .ok (.aload_n 0, 1) := by decide +kernel
theorem dX11_extend_172 : decode cX11_extend 172 = .ok (.aload_n 0, 1) := by decide +kernel
theorem dX11_extend_173 : decode cX11_extend 173 = .ok (.getfield 7, 3) := by decide +kernel
theorem dX11_extend_176 : decode cX11_extend 176 = .ok (.sipush 204, 3) := by decide +kernel
theorem dX11_extend_179 : decode cX11_extend 179 = .ok (.iaload, 1) := by decide +kernel
theorem dX11_extend_180 : decode cX11_extend 180 = .ok (.invokevirtual 69, 3) := by decide +kernel
theorem dX11_extend_183 : decode cX11_extend 183 = .ok (.ireturn, 1) := by decide +kernel
theorem dX11_impossible_0 : decode cX11_impossible 0 = .ok (.aload_n 0, 1) := by decide +kernel
theorem dX11_impossible_1 : decode cX11_impossible 1 = .ok (.getfield 26, 3) := by decide +kernel
theorem dX11_impossible_4 : decode cX11_impossible 4 = .ok (.iconst (-1), 1) := by decide +kernel
theorem dX11_impossible_5 : decode cX11_impossible 5 = .ok (.if_icmp .ne 11, 3) := by decide +kernel
theorem dX11_impossible_8 : decode cX11_impossible 8 = .ok (.aload_n 0, 1) := by decide +kernel
theorem dX11_impossible_9 : decode cX11_impossible 9 = .ok (.iconst 1, 1) := by decide +kernel
theorem dX11_impossible_10 : decode cX11_impossible 10 = .ok (.invokevirtual 65, 3) := by decide +kernel
theorem dX11_impossible_13 : decode cX11_impossible 13 = .ok (.goto 11, 3) := by decide +kernel
theorem dX11_impossible_16 : decode cX11_impossible 16 = .ok (.aload_n 0, 1) := by decide +kernel
theorem dX11_impossible_17 : decode cX11_impossible 17 = .ok (.aload_n 0, 1) := by decide +kernel
theorem dX11_impossible_18 : decode cX11_impossible 18 = .ok (.getfield 26, 3) := by decide +kernel
theorem dX11_impossible_21 : decode cX11_impossible 21 = .ok (.invokevirtual 69, 3) := by decide +kernel
theorem dX11_impossible_24 : decode cX11_impossible 24 = .ok (.ireturn, 1) := by decide +kernel
theorem dX11_clearMap_0 : decode cX11_clearMap 0 = .ok (.aload_n 0, 1) := by decide +kernel
theorem dX11_clearMap_1 : decode cX11_clearMap 1 = .ok (.invokevirtual 101, 3) := by decide +kernel
theorem dX11_clearMap_4 : decode cX11_clearMap 4 = .ok (.aload_n 0, 1) := by decide +kernel
theorem dX11_clearMap_5 : decode cX11_clearMap 5 = .ok (.getfield 7, 3) := by decide +kernel
theorem dX11_clearMap_8 : decode cX11_clearMap 8 = .ok (.sipush 204, 3) := by decide +kernel
theorem dX11_clearMap_11 : decode cX11_clearMap 11 = .ok (.iaload, 1) := by decide +kernel
theorem dX11_clearMap_12 : decode cX11_clearMap 12 = .ok (.istore_n 1, 1) := by decide +kernel
theorem dX11_clearMap_13 : decode cX11_clearMap 13 = .ok (.aload_n 0, 1) := by decide +kernel
theorem dX11_clearMap_14 : decode cX11_clearMap 14 = .ok (.getfield 7, 3) := by decide +kernel
theorem dX11_clearMap_17 : decode cX11_clearMap 17 = .ok (.sipush 204, 3) := by decide +kernel
theorem dX11_clearMap_20 : decode cX11_clearMap 20 = .ok (.iconst 0, 1) := by decide +kernel
theorem dX11_clearMap_21 : decode cX11_clearMap 21 = .ok (.iastore, 1) := by decide +kernel
theorem dX11_clearMap_22 : decode cX11_clearMap 22 = .ok (.aload_n 0, 1) := by decide +kernel
theorem dX11_clearMap_23 : decode cX11_clearMap 23 = .ok (.getfield 7, 3) := by decide +kernel
theorem dX11_clearMap_26 : decode cX11_clearMap 26 = .ok (.sipush 219, 3) := by decide +kernel
theorem dX11_clearMap_29 : decode cX11_clearMap 29 = .ok (.iconst 0, 1) := by decide +kernel
theorem dX11_clearMap_30 : decode cX11_clearMap 30 = .ok (.iastore, 1) := by decide +kernel
theorem dX11_clearMap_31 : decode cX11_clearMap 31 = .ok (.aload_n 0, 1) := by decide +kernel
theorem dX11_clearMap_32 : decode cX11_clearMap 32 = .ok (.invokevirtual 107, 3) := by decide +kernel
theorem dX11_clearMap_35 : decode cX11_clearMap 35 = .ok (.aload_n 0, 1) := by decide +kernel
theorem dX11_clearMap_36 : decode cX11_clearMap 36 = .ok (.iload_n 1, 1) := by decide +kernel
theorem dX11_clearMap_37 : decode cX11_clearMap 37 = .ok (.invokevirtual 69, 3) := by decide +kernel
theorem dX11_clearMap_40 : decode cX11_clearMap 40 = .ok (.ireturn, 1) := by decide +kernel
theorem dX11_neighbors_0 : decode cX11_neighbors 0 = .ok (.iconst 0, 1) := by decide +kernel
theorem dX11_neighbors_1 : decode cX11_neighbors 1 = .ok (.istore_n 2, 1) := by decide +kernel
theorem dX11_neighbors_2 : decode cX11_neighbors 2 = .ok (.iconst 0, 1) := by decide +kernel
theorem dX11_neighbors_3 : decode cX11_neighbors 3 = .ok (.istore_n 3, 1) := by decide +kernel
theorem dX11_neighbors_4 : decode cX11_neighbors 4 = .ok (.iload_n 3, 1) := by decide +kernel
theorem dX11_neighbors_5 : decode cX11_neighbors 5 = .ok (.aload_n 0, 1) := by decide +kernel
theorem dX11_neighbors_6 : decode cX11_neighbors 6 = .ok (.getfield 7, 3) := by decide +kernel
theorem dX11_neighbors_9 : decode cX11_neighbors 9 = .ok (.sipush 204, 3) := by decide +kernel
theorem dX11_neighbors_12 : decode cX11_neighbors 12 = .ok (.iaload, 1) := by decide +kernel
theorem dX11_neighbors_13 : decode cX11_neighbors 13 = .ok (.if_icmp .ge 28, 3) := by decide +kernel
theorem dX11_neighbors_16 : decode cX11_neighbors 16 = .ok (.iload_n 2, 1) := by decide +kernel
theorem dX11_neighbors_17 : decode cX11_neighbors 17 = .ok (.aload_n 0, 1) := by decide +kernel
theorem dX11_neighbors_18 : decode cX11_neighbors 18 = .ok (.iload_n 1, 1) := by decide +kernel
theorem dX11_neighbors_19 : decode cX11_neighbors 19 = .ok (.iload_n 3, 1) := by decide +kernel
theorem dX11_neighbors_20 : decode cX11_neighbors 20 = .ok (.invokevirtual 93, 3) := by decide +kernel
theorem dX11_neighbors_23 : decode cX11_neighbors 23 = .ok (.ifCond .le 9, 3) := by decide +kernel
theorem dX11_neighbors_26 : decode cX11_neighbors 26 = .ok (.iconst 1, 1) := by decide +kernel
theorem dX11_neighbors_27 : decode cX11_neighbors 27 = .ok (.iload_n 3, 1) := by decide +kernel
theorem dX11_neighbors_28 : decode cX11_neighbors 28 = .ok (.ishl, 1) := by decide +kernel
theorem dX11_neighbors_29 : decode cX11_neighbors 29 = .ok (.goto 4, 3) := by decide +kernel
theorem dX11_neighbors_32 : decode cX11_neighbors 32 = .ok (.iconst 0, 1) := by decide +kernel
theorem dX11_neighbors_33 : decode cX11_neighbors 33 = .ok (.ior, 1) := by decide +kernel
theorem dX11_neighbors_34 : decode cX11_neighbors 34 = .ok (.istore_n 2, 1) := by decide +kernel
theorem dX11_neighbors_35 : decode cX11_neighbors 35 = .ok (.iinc 3 1, 3) := by decide +kernel
theorem dX11_neighbors_38 : decode cX11_neighbors 38 = .ok (.goto (-34), 3) := by decide +kernel
theorem dX11_neighbors_41 : decode cX11_neighbors 41 = .ok (.iload_n 2, 1) := by decide +kernel
theorem dX11_neighbors_42 : decode cX11_neighbors 42 = .ok (.ireturn, 1) := by decide +kernel
theorem dX11_districtOf_0 : decode cX11_districtOf 0 = .ok (.aload_n 0, 1) := by decide +kernel
theorem dX11_districtOf_1 : decode cX11_districtOf 1 = .ok (.getfield 7, 3) := by decide +kernel
theorem dX11_districtOf_4 : decode cX11_districtOf 4 = .ok (.sipush 219, 3) := by decide +kernel
theorem dX11_districtOf_7 : decode cX11_districtOf 7 = .ok (.iaload, 1) := by decide +kernel
theorem dX11_districtOf_8 : decode cX11_districtOf 8 = .ok (.iconst 1, 1) := by decide +kernel
theorem dX11_districtOf_9 : decode cX11_districtOf 9 = .ok (.if_icmp .ne 16, 3) := by decide +kernel
theorem dX11_districtOf_12 : decode cX11_districtOf 12 = .ok (.aload_n 0, 1) := by decide +kernel
theorem dX11_districtOf_13 : decode cX11_districtOf 13 = .ok (.getfield 7, 3) := by decide +kernel
theorem dX11_districtOf_16 : decode cX11_districtOf 16 = .ok (.sipush 207, 3) := by decide +kernel
theorem dX11_districtOf_19 : decode cX11_districtOf 19 = .ok (.iload_n 1, 1) := by decide +kernel
theorem dX11_districtOf_20 : decode cX11_districtOf 20 = .ok (.iadd, 1) := by decide +kernel
theorem dX11_districtOf_21 : decode cX11_districtOf 21 = .ok (.iaload, 1) := by decide +kernel
theorem dX11_districtOf_22 : decode cX11_districtOf 22 = .ok (.goto 4, 3) := by decide +kernel
theorem dX11_districtOf_25 : decode cX11_districtOf 25 = .ok (.iconst (-1), 1) := by decide +kernel
theorem dX11_districtOf_26 : decode cX11_districtOf 26 = .ok (.ireturn, 1) := by decide +kernel
theorem dX11_unit_0 : decode cX11_unit 0 = .ok (.aload_n 0, 1) := by decide +kernel
theorem dX11_unit_1 : decode cX11_unit 1 = .ok (.iload_n 1, 1) := by decide +kernel
theorem dX11_unit_2 : decode cX11_unit 2 = .ok (.invokevirtual 90, 3) := by decide +kernel
theorem dX11_unit_5 : decode cX11_unit 5 = .ok (.ifCond .ne 9, 3) := by decide +kernel
theorem dX11_unit_8 : decode cX11_unit 8 = .ok (.aload_n 0, 1) := by decide +kernel
theorem dX11_unit_9 : decode cX11_unit 9 = .ok (.iconst 1, 1) := by decide +kernel
theorem dX11_unit_10 : decode cX11_unit 10 = .ok (.invokevirtual 65, 3) := by decide +kernel
theorem dX11_unit_13 : decode cX11_unit 13 = .ok (.ireturn, 1) := by decide +kernel
theorem dX11_unit_14 : decode cX11_unit 14 = .ok (.iload_n 2, 1) := by decide +kernel
theorem dX11_unit_15 : decode cX11_unit 15 = .ok (.tableswitch 136 0 7 #[45, 45, 45, 45, 45, 56, 66, 76], 45) := by decide +kernel
theorem dX11_unit_60 : decode cX11_unit 60 = .ok (.aload_n 0, 1) := by decide +kernel
theorem dX11_unit_61 : decode cX11_unit 61 = .ok (.aload_n 0, 1) := by decide +kernel
theorem dX11_unit_62 : decode cX11_unit 62 = .ok (.iload_n 1, 1) := by decide +kernel
theorem dX11_unit_63 : decode cX11_unit 63 = .ok (.iload_n 2, 1) := by decide +kernel
theorem dX11_unit_64 : decode cX11_unit 64 = .ok (.invokevirtual 110, 3) := by decide +kernel
theorem dX11_unit_67 : decode cX11_unit 67 = .ok (.invokevirtual 69, 3) := by decide +kernel
theorem dX11_unit_70 : decode cX11_unit 70 = .ok (.ireturn, 1) := by decide +kernel
theorem dX11_unit_71 : decode cX11_unit 71 = .ok (.aload_n 0, 1) := by decide +kernel
theorem dX11_unit_72 : decode cX11_unit 72 = .ok (.aload_n 0, 1) := by decide +kernel
theorem dX11_unit_73 : decode cX11_unit 73 = .ok (.iload_n 1, 1) := by decide +kernel
theorem dX11_unit_74 : decode cX11_unit 74 = .ok (.invokevirtual 113, 3) := by decide +kernel
theorem dX11_unit_77 : decode cX11_unit 77 = .ok (.invokevirtual 69, 3) := by decide +kernel
theorem dX11_unit_80 : decode cX11_unit 80 = .ok (.ireturn, 1) := by decide +kernel
theorem dX11_unit_81 : decode cX11_unit 81 = .ok (.aload_n 0, 1) := by decide +kernel
theorem dX11_unit_82 : decode cX11_unit 82 = .ok (.aload_n 0, 1) := by decide +kernel
theorem dX11_unit_83 : decode cX11_unit 83 = .ok (.iload_n 1, 1) := by decide +kernel
theorem dX11_unit_84 : decode cX11_unit 84 = .ok (.invokevirtual 116, 3) := by decide +kernel
theorem dX11_unit_87 : decode cX11_unit 87 = .ok (.invokevirtual 69, 3) := by decide +kernel
theorem dX11_unit_90 : decode cX11_unit 90 = .ok (.ireturn, 1) := by decide +kernel
theorem dX11_unit_91 : decode cX11_unit 91 = .ok (.iconst 0, 1) := by decide +kernel
theorem dX11_unit_92 : decode cX11_unit 92 = .ok (.istore_n 3, 1) := by decide +kernel
theorem dX11_unit_93 : decode cX11_unit 93 = .ok (.iconst 0, 1) := by decide +kernel
theorem dX11_unit_94 : decode cX11_unit 94 = .ok (.istore 4, 2) := by decide +kernel
theorem dX11_unit_96 : decode cX11_unit 96 = .ok (.iload 4, 2) := by decide +kernel
theorem dX11_unit_98 : decode cX11_unit 98 = .ok (.aload_n 0, 1) := by decide +kernel
theorem dX11_unit_99 : decode cX11_unit 99 = .ok (.getfield 7, 3) := by decide +kernel
theorem dX11_unit_102 : decode cX11_unit 102 = .ok (.sipush 204, 3) := by decide +kernel
theorem dX11_unit_105 : decode cX11_unit 105 = .ok (.iaload, 1) := by decide +kernel
theorem dX11_unit_106 : decode cX11_unit 106 = .ok (.if_icmp .ge 39, 3) := by decide +kernel
theorem dX11_unit_109 : decode cX11_unit 109 = .ok (.aload_n 0, 1) := by decide +kernel
theorem dX11_unit_110 : decode cX11_unit 110 = .ok (.iload_n 1, 1) := by decide +kernel
theorem dX11_unit_111 : decode cX11_unit 111 = .ok (.iload 4, 2) := by decide +kernel
theorem dX11_unit_113 : decode cX11_unit 113 = .ok (.invokevirtual 93, 3) := by decide +kernel
theorem dX11_unit_116 : decode cX11_unit 116 = .ok (.ifCond .le 21, 3) := by decide +kernel
theorem dX11_unit_119 : decode cX11_unit 119 = .ok (.aload_n 0, 1) := by decide +kernel
theorem dX11_unit_120 : decode cX11_unit 120 = .ok (.iload 4, 2) := by decide +kernel
theorem dX11_unit_122 : decode cX11_unit 122 = .ok (.invokevirtual 116, 3) := by decide +kernel
theorem dX11_unit_125 : decode cX11_unit 125 = .ok (.aload_n 0, 1) := by decide +kernel
theorem dX11_unit_126 : decode cX11_unit 126 = .ok (.iload_n 1, 1) := by decide +kernel
theorem dX11_unit_127 : decode cX11_unit 127 = .ok (.invokevirtual 116, 3) := by decide +kernel
theorem dX11_unit_130 : decode cX11_unit 130 = .ok (.if_icmp .eq 7, 3) := by decide +kernel
theorem dX11_unit_133 : decode cX11_unit 133 = .ok (.iconst 1, 1) := by decide +kernel
theorem dX11_unit_134 : decode cX11_unit 134 = .ok (.goto 4, 3) := by decide +kernel
theorem dX11_unit_137 : decode cX11_unit 137 = .ok (.iload_n 3, 1) := by decide +kernel
theorem dX11_unit_138 : decode cX11_unit 138 = .ok (.istore_n 3, 1) := by decide +kernel
theorem dX11_unit_139 : decode cX11_unit 139 = .ok (.iinc 4 1, 3) := by decide +kernel
theorem dX11_unit_142 : decode cX11_unit 142 = .ok (.goto (-46), 3) := by decide +kernel
theorem dX11_unit_145 : decode cX11_unit 145 = .ok (.aload_n 0, 1) := by decide +kernel
theorem dX11_unit_146 : decode cX11_unit 146 = .ok (.iload_n 3, 1) := by decide +kernel
theorem dX11_unit_147 : decode cX11_unit 147 = .ok (.invokevirtual 69, 3) := by decide +kernel
theorem dX11_unit_150 : decode cX11_unit 150 = .ok (.ireturn, 1) := by decide +kernel
theorem dX11_unit_151 : decode cX11_unit 151 = .ok (.aload_n 0, 1) := by decide +kernel
theorem dX11_unit_152 : decode cX11_unit 152 = .ok (.iconst 2, 1) := by decide +kernel
theorem dX11_unit_153 : decode cX11_unit 153 = .ok (.invokevirtual 65, 3) := by decide +kernel
theorem dX11_unit_156 : decode cX11_unit 156 = .ok (.ireturn, 1) := by decide +kernel
theorem dX11_border_0 : decode cX11_border 0 = .ok (.aload_n 0, 1) := by decide +kernel
theorem dX11_border_1 : decode cX11_border 1 = .ok (.iload_n 1, 1) := by decide +kernel
theorem dX11_border_2 : decode cX11_border 2 = .ok (.invokevirtual 90, 3) := by decide +kernel
theorem dX11_border_5 : decode cX11_border 5 = .ok (.ifCond .eq 24, 3) := by decide +kernel
theorem dX11_border_8 : decode cX11_border 8 = .ok (.aload_n 0, 1) := by decide +kernel
theorem dX11_border_9 : decode cX11_border 9 = .ok (.iload_n 2, 1) := by decide +kernel
theorem dX11_border_10 : decode cX11_border 10 = .ok (.invokevirtual 90, 3) := by decide +kernel
theorem dX11_border_13 : decode cX11_border 13 = .ok (.ifCond .eq 16, 3) := by decide +kernel
theorem dX11_border_16 : decode cX11_border 16 = .ok (.aload_n 0, 1) := by decide +kernel
theorem dX11_border_17 : decode cX11_border 17 = .ok (.aload_n 0, 1) := by decide +kernel
theorem dX11_border_18 : decode cX11_border 18 = .ok (.iload_n 1, 1) := by decide +kernel
theorem dX11_border_19 : decode cX11_border 19 = .ok (.iload_n 2, 1) := by decide +kernel
theorem dX11_border_20 : decode cX11_border 20 = .ok (.invokevirtual 93, 3) := by decide +kernel
theorem dX11_border_23 : decode cX11_border 23 = .ok (.invokevirtual 69, 3) := by decide +kernel
theorem dX11_border_26 : decode cX11_border 26 = .ok (.goto 8, 3) := by decide +kernel
theorem dX11_border_29 : decode cX11_border 29 = .ok (.aload_n 0, 1) := by decide +kernel
theorem dX11_border_30 : decode cX11_border 30 = .ok (.iconst 1, 1) := by decide +kernel
theorem dX11_border_31 : decode cX11_border 31 = .ok (.invokevirtual 65, 3) := by decide +kernel
theorem dX11_border_34 : decode cX11_border 34 = .ok (.ireturn, 1) := by decide +kernel
theorem dX11_reached_0 : decode cX11_reached 0 = .ok (.iload_n 1, 1) := by decide +kernel
theorem dX11_reached_1 : decode cX11_reached 1 = .ok (.iload_n 1, 1) := by decide +kernel
theorem dX11_reached_2 : decode cX11_reached 2 = .ok (.ineg, 1) := by decide +kernel
theorem dX11_reached_3 : decode cX11_reached 3 = .ok (.iand, 1) := by decide +kernel
theorem dX11_reached_4 : decode cX11_reached 4 = .ok (.istore_n 2, 1) := by decide +kernel
theorem dX11_reached_5 : decode cX11_reached 5 = .ok (.iconst 0, 1) := by decide +kernel
theorem dX11_reached_6 : decode cX11_reached 6 = .ok (.istore_n 3, 1) := by decide +kernel
theorem dX11_reached_7 : decode cX11_reached 7 = .ok (.iload_n 2, 1) := by decide +kernel
theorem dX11_reached_8 : decode cX11_reached 8 = .ok (.iload_n 3, 1) := by decide +kernel
theorem dX11_reached_9 : decode cX11_reached 9 = .ok (.if_icmp .eq 55, 3) := by decide +kernel
theorem dX11_reached_12 : decode cX11_reached 12 = .ok (.iload_n 2, 1) := by decide +kernel
theorem dX11_reached_13 : decode cX11_reached 13 = .ok (.istore_n 3, 1) := by decide +kernel
theorem dX11_reached_14 : decode cX11_reached 14 = .ok (.iconst 0, 1) := by decide +kernel
theorem dX11_reached_15 : decode cX11_reached 15 = .ok (.istore 4, 2) := by decide +kernel
theorem dX11_reached_17 : decode cX11_reached 17 = .ok (.iload 4, 2) := by decide +kernel
theorem dX11_reached_19 : decode cX11_reached 19 = .ok (.aload_n 0, 1) := by decide +kernel
theorem dX11_reached_20 : decode cX11_reached 20 = .ok (.getfield 7, 3) := by decide +kernel
theorem dX11_reached_23 : decode cX11_reached 23 = .ok (.sipush 204, 3) := by decide +kernel
theorem dX11_reached_26 : decode cX11_reached 26 = .ok (.iaload, 1) := by decide +kernel
theorem dX11_reached_27 : decode cX11_reached 27 = .ok (.if_icmp .ge 34, 3) := by decide +kernel
theorem dX11_reached_30 : decode cX11_reached 30 = .ok (.iload_n 2, 1) := by decide +kernel
theorem dX11_reached_31 : decode cX11_reached 31 = .ok (.iload_n 3, 1) := by decide +kernel
theorem dX11_reached_32 : decode cX11_reached 32 = .ok (.iload 4, 2) := by decide +kernel
theorem dX11_reached_34 : decode cX11_reached 34 = .ok (.ishr, 1) := by decide +kernel
theorem dX11_reached_35 : decode cX11_reached 35 = .ok (.iconst 1, 1) := by decide +kernel
theorem dX11_reached_36 : decode cX11_reached 36 = .ok (.iand, 1) := by decide +kernel
theorem dX11_reached_37 : decode cX11_reached 37 = .ok (.iconst 1, 1) := by decide +kernel
theorem dX11_reached_38 : decode cX11_reached 38 = .ok (.if_icmp .ne 14, 3) := by decide +kernel
theorem dX11_reached_41 : decode cX11_reached 41 = .ok (.aload_n 0, 1) := by decide +kernel
theorem dX11_reached_42 : decode cX11_reached 42 = .ok (.iload 4, 2) := by decide +kernel
theorem dX11_reached_44 : decode cX11_reached 44 = .ok (.invokevirtual 113, 3) := by decide +kernel
theorem dX11_reached_47 : decode cX11_reached 47 = .ok (.iload_n 1, 1) := by decide +kernel
theorem dX11_reached_48 : decode cX11_reached 48 = .ok (.iand, 1) := by decide +kernel
theorem dX11_reached_49 : decode cX11_reached 49 = .ok (.goto 4, 3) := by decide +kernel
theorem dX11_reached_52 : decode cX11_reached 52 = .ok (.iconst 0, 1) := by decide +kernel
theorem dX11_reached_53 : decode cX11_reached 53 = .ok (.ior, 1) := by decide +kernel
theorem dX11_reached_54 : decode cX11_reached 54 = .ok (.istore_n 2, 1) := by decide +kernel
theorem dX11_reached_55 : decode cX11_reached 55 = .ok (.iinc 4 1, 3) := by decide +kernel
theorem dX11_reached_58 : decode cX11_reached 58 = .ok (.goto (-41), 3) := by decide +kernel
theorem dX11_reached_61 : decode cX11_reached 61 = .ok (.goto (-54), 3) := by decide +kernel
theorem dX11_reached_64 : decode cX11_reached 64 = .ok (.iload_n 2, 1) := by decide +kernel
theorem dX11_reached_65 : decode cX11_reached 65 = .ok (.ireturn, 1) := by decide +kernel
theorem dX11_sum_0 : decode cX11_sum 0 = .ok (.iconst 0, 1) := by decide +kernel
theorem dX11_sum_1 : decode cX11_sum 1 = .ok (.istore_n 3, 1) := by decide +kernel
theorem dX11_sum_2 : decode cX11_sum 2 = .ok (.iconst 0, 1) := by decide +kernel
theorem dX11_sum_3 : decode cX11_sum 3 = .ok (.istore 4, 2) := by decide +kernel
theorem dX11_sum_5 : decode cX11_sum 5 = .ok (.iload 4, 2) := by decide +kernel
theorem dX11_sum_7 : decode cX11_sum 7 = .ok (.aload_n 0, 1) := by decide +kernel
theorem dX11_sum_8 : decode cX11_sum 8 = .ok (.getfield 7, 3) := by decide +kernel
theorem dX11_sum_11 : decode cX11_sum 11 = .ok (.sipush 204, 3) := by decide +kernel
theorem dX11_sum_14 : decode cX11_sum 14 = .ok (.iaload, 1) := by decide +kernel
theorem dX11_sum_15 : decode cX11_sum 15 = .ok (.if_icmp .ge 33, 3) := by decide +kernel
theorem dX11_sum_18 : decode cX11_sum 18 = .ok (.iload_n 3, 1) := by decide +kernel
theorem dX11_sum_19 : decode cX11_sum 19 = .ok (.iload_n 1, 1) := by decide +kernel
theorem dX11_sum_20 : decode cX11_sum 20 = .ok (.iload 4, 2) := by decide +kernel
theorem dX11_sum_22 : decode cX11_sum 22 = .ok (.ishr, 1) := by decide +kernel
theorem dX11_sum_23 : decode cX11_sum 23 = .ok (.iconst 1, 1) := by decide +kernel
theorem dX11_sum_24 : decode cX11_sum 24 = .ok (.iand, 1) := by decide +kernel
theorem dX11_sum_25 : decode cX11_sum 25 = .ok (.iconst 1, 1) := by decide +kernel
theorem dX11_sum_26 : decode cX11_sum 26 = .ok (.if_icmp .ne 13, 3) := by decide +kernel
theorem dX11_sum_29 : decode cX11_sum 29 = .ok (.aload_n 0, 1) := by decide +kernel
theorem dX11_sum_30 : decode cX11_sum 30 = .ok (.iload 4, 2) := by decide +kernel
theorem dX11_sum_32 : decode cX11_sum 32 = .ok (.iload_n 2, 1) := by decide +kernel
theorem dX11_sum_33 : decode cX11_sum 33 = .ok (.invokevirtual 110, 3) := by decide +kernel
theorem dX11_sum_36 : decode cX11_sum 36 = .ok (.goto 4, 3) := by decide +kernel
theorem dX11_sum_39 : decode cX11_sum 39 = .ok (.iconst 0, 1) := by decide +kernel
theorem dX11_sum_40 : decode cX11_sum 40 = .ok (.iadd, 1) := by decide +kernel
theorem dX11_sum_41 : decode cX11_sum 41 = .ok (.istore_n 3, 1) := by decide +kernel
theorem dX11_sum_42 : decode cX11_sum 42 = .ok (.iinc 4 1, 3) := by decide +kernel
theorem dX11_sum_45 : decode cX11_sum 45 = .ok (.goto (-40), 3) := by decide +kernel
theorem dX11_sum_48 : decode cX11_sum 48 = .ok (.iload_n 3, 1) := by decide +kernel
theorem dX11_sum_49 : decode cX11_sum 49 = .ok (.ireturn, 1) := by decide +kernel
theorem dX11_all_0 : decode cX11_all 0 = .ok (.iconst 1, 1) := by decide +kernel
theorem dX11_all_1 : decode cX11_all 1 = .ok (.aload_n 0, 1) := by decide +kernel
theorem dX11_all_2 : decode cX11_all 2 = .ok (.getfield 7, 3) := by decide +kernel
theorem dX11_all_5 : decode cX11_all 5 = .ok (.sipush 204, 3) := by decide +kernel
theorem dX11_all_8 : decode cX11_all 8 = .ok (.iaload, 1) := by decide +kernel
theorem dX11_all_9 : decode cX11_all 9 = .ok (.ishl, 1) := by decide +kernel
theorem dX11_all_10 : decode cX11_all 10 = .ok (.iconst 1, 1) := by decide +kernel
theorem dX11_all_11 : decode cX11_all 11 = .ok (.isub, 1) := by decide +kernel
theorem dX11_all_12 : decode cX11_all 12 = .ok (.ireturn, 1) := by decide +kernel
theorem dX11_communities_0 : decode cX11_communities 0 = .ok (.iconst 0, 1) := by decide +kernel
theorem dX11_communities_1 : decode cX11_communities 1 = .ok (.istore_n 2, 1) := by decide +kernel
theorem dX11_communities_2 : decode cX11_communities 2 = .ok (.iconst 0, 1) := by decide +kernel
theorem dX11_communities_3 : decode cX11_communities 3 = .ok (.istore_n 3, 1) := by decide +kernel
theorem dX11_communities_4 : decode cX11_communities 4 = .ok (.iload_n 3, 1) := by decide +kernel
theorem dX11_communities_5 : decode cX11_communities 5 = .ok (.aload_n 0, 1) := by decide +kernel
theorem dX11_communities_6 : decode cX11_communities 6 = .ok (.getfield 7, 3) := by decide +kernel
theorem dX11_communities_9 : decode cX11_communities 9 = .ok (.sipush 204, 3) := by decide +kernel
theorem dX11_communities_12 : decode cX11_communities 12 = .ok (.iaload, 1) := by decide +kernel
theorem dX11_communities_13 : decode cX11_communities 13 = .ok (.if_icmp .ge 42, 3) := by decide +kernel
theorem dX11_communities_16 : decode cX11_communities 16 = .ok (.iload_n 2, 1) := by decide +kernel
theorem dX11_communities_17 : decode cX11_communities 17 = .ok (.iload_n 1, 1) := by decide +kernel
theorem dX11_communities_18 : decode cX11_communities 18 = .ok (.iload_n 3, 1) := by decide +kernel
theorem dX11_communities_19 : decode cX11_communities 19 = .ok (.ishr, 1) := by decide +kernel
theorem dX11_communities_20 : decode cX11_communities 20 = .ok (.iconst 1, 1) := by decide +kernel
theorem dX11_communities_21 : decode cX11_communities 21 = .ok (.iand, 1) := by decide +kernel
theorem dX11_communities_22 : decode cX11_communities 22 = .ok (.iconst 1, 1) := by decide +kernel
theorem dX11_communities_23 : decode cX11_communities 23 = .ok (.if_icmp .ne 23, 3) := by decide +kernel
theorem dX11_communities_26 : decode cX11_communities 26 = .ok (.aload_n 0, 1) := by decide +kernel
theorem dX11_communities_27 : decode cX11_communities 27 = .ok (.iload_n 3, 1) := by decide +kernel
theorem dX11_communities_28 : decode cX11_communities 28 = .ok (.iconst 2, 1) := by decide +kernel
theorem dX11_communities_29 : decode cX11_communities 29 = .ok (.invokevirtual 110, 3) := by decide +kernel
theorem dX11_communities_32 : decode cX11_communities 32 = .ok (.ifCond .lt 14, 3) := by decide +kernel
theorem dX11_communities_35 : decode cX11_communities 35 = .ok (.iconst 1, 1) := by decide +kernel
theorem dX11_communities_36 : decode cX11_communities 36 = .ok (.aload_n 0, 1) := by decide +kernel
theorem dX11_communities_37 : decode cX11_communities 37 = .ok (.iload_n 3, 1) := by decide +kernel
theorem dX11_communities_38 : decode cX11_communities 38 = .ok (.iconst 2, 1) := by decide +kernel
theorem dX11_communities_39 : decode cX11_communities 39 = .ok (.invokevirtual 110, 3) := by decide +kernel
theorem dX11_communities_42 : decode cX11_communities 42 = .ok (.ishl, 1) := by decide +kernel
theorem dX11_communities_43 : decode cX11_communities 43 = .ok (.goto 4, 3) := by decide +kernel
theorem dX11_communities_46 : decode cX11_communities 46 = .ok (.iconst 0, 1) := by decide +kernel
theorem dX11_communities_47 : decode cX11_communities 47 = .ok (.ior, 1) := by decide +kernel
theorem dX11_communities_48 : decode cX11_communities 48 = .ok (.istore_n 2, 1) := by decide +kernel
theorem dX11_communities_49 : decode cX11_communities 49 = .ok (.iinc 3 1, 3) := by decide +kernel
theorem dX11_communities_52 : decode cX11_communities 52 = .ok (.goto (-48), 3) := by decide +kernel
theorem dX11_communities_55 : decode cX11_communities 55 = .ok (.iconst 0, 1) := by decide +kernel
theorem dX11_communities_56 : decode cX11_communities 56 = .ok (.istore_n 3, 1) := by decide +kernel
theorem dX11_communities_57 : decode cX11_communities 57 = .ok (.iconst 0, 1) := by decide +kernel
theorem dX11_communities_58 : decode cX11_communities 58 = .ok (.istore 4, 2) := by decide +kernel
theorem dX11_communities_60 : decode cX11_communities 60 = .ok (.iload 4, 2) := by decide +kernel
theorem dX11_communities_62 : decode cX11_communities 62 = .ok (.iconst 4, 1) := by decide +kernel
theorem dX11_communities_63 : decode cX11_communities 63 = .ok (.if_icmp .ge 18, 3) := by decide +kernel
theorem dX11_communities_66 : decode cX11_communities 66 = .ok (.iload_n 3, 1) := by decide +kernel
theorem dX11_communities_67 : decode cX11_communities 67 = .ok (.iload_n 2, 1) := by decide +kernel
theorem dX11_communities_68 : decode cX11_communities 68 = .ok (.iload 4, 2) := by decide +kernel
theorem dX11_communities_70 : decode cX11_communities 70 = .ok (.ishr, 1) := by decide +kernel
theorem dX11_communities_71 : decode cX11_communities 71 = .ok (.iconst 1, 1) := by decide +kernel
theorem dX11_communities_72 : decode cX11_communities 72 = .ok (.iand, 1) := by decide +kernel
theorem dX11_communities_73 : decode cX11_communities 73 = .ok (.iadd, 1) := by decide +kernel
theorem dX11_communities_74 : decode cX11_communities 74 = .ok (.istore_n 3, 1) := by decide +kernel
theorem dX11_communities_75 : decode cX11_communities 75 = .ok (.iinc 4 1, 3) := by decide +kernel
theorem dX11_communities_78 : decode cX11_communities 78 = .ok (.goto (-18), 3) := by decide +kernel
theorem dX11_communities_81 : decode cX11_communities 81 = .ok (.iload_n 3, 1) := by decide +kernel
theorem dX11_communities_82 : decode cX11_communities 82 = .ok (.ireturn, 1) := by decide +kernel
theorem dX11_count_0 : decode cX11_count 0 = .ok (.iconst 0, 1) := by decide +kernel
theorem dX11_count_1 : decode cX11_count 1 = .ok (.istore_n 2, 1) := by decide +kernel
theorem dX11_count_2 : decode cX11_count 2 = .ok (.iload_n 1, 1) := by decide +kernel
theorem dX11_count_3 : decode cX11_count 3 = .ok (.tableswitch 233 0 9 #[53, 66, 125, 125, 141, 154, 167, 180, 211, 224], 53) := by decide +kernel
theorem dX11_count_56 : decode cX11_count 56 = .ok (.aload_n 0, 1) := by decide +kernel
theorem dX11_count_57 : decode cX11_count 57 = .ok (.aload_n 0, 1) := by decide +kernel
theorem dX11_count_58 : decode cX11_count 58 = .ok (.getfield 7, 3) := by decide +kernel
theorem dX11_count_61 : decode cX11_count 61 = .ok (.sipush 204, 3) := by decide +kernel
theorem dX11_count_64 : decode cX11_count 64 = .ok (.iaload, 1) := by decide +kernel
theorem dX11_count_65 : decode cX11_count 65 = .ok (.invokevirtual 69, 3) := by decide +kernel
theorem dX11_count_68 : decode cX11_count 68 = .ok (.ireturn, 1) := by decide +kernel
theorem dX11_count_69 : decode cX11_count 69 = .ok (.iconst 0, 1) := by decide +kernel
theorem dX11_count_70 : decode cX11_count 70 = .ok (.istore_n 3, 1) := by decide +kernel
theorem dX11_count_71 : decode cX11_count 71 = .ok (.iload_n 3, 1) := by decide +kernel
theorem dX11_count_72 : decode cX11_count 72 = .ok (.aload_n 0, 1) := by decide +kernel
theorem dX11_count_73 : decode cX11_count 73 = .ok (.getfield 7, 3) := by decide +kernel
theorem dX11_count_76 : decode cX11_count 76 = .ok (.sipush 204, 3) := by decide +kernel
theorem dX11_count_79 : decode cX11_count 79 = .ok (.iaload, 1) := by decide +kernel
theorem dX11_count_80 : decode cX11_count 80 = .ok (.if_icmp .ge 42, 3) := by decide +kernel
theorem dX11_count_83 : decode cX11_count 83 = .ok (.iconst 0, 1) := by decide +kernel
theorem dX11_count_84 : decode cX11_count 84 = .ok (.istore 4, 2) := by decide +kernel
theorem dX11_count_86 : decode cX11_count 86 = .ok (.iload 4, 2) := by decide +kernel
theorem dX11_count_88 : decode cX11_count 88 = .ok (.iload_n 3, 1) := by decide +kernel
theorem dX11_count_89 : decode cX11_count 89 = .ok (.if_icmp .ge 27, 3) := by decide +kernel
theorem dX11_count_92 : decode cX11_count 92 = .ok (.iload_n 2, 1) := by decide +kernel
theorem dX11_count_93 : decode cX11_count 93 = .ok (.aload_n 0, 1) := by decide +kernel
theorem dX11_count_94 : decode cX11_count 94 = .ok (.iload_n 3, 1) := by decide +kernel
theorem dX11_count_95 : decode cX11_count 95 = .ok (.iload 4, 2) := by decide +kernel
theorem dX11_count_97 : decode cX11_count 97 = .ok (.invokevirtual 93, 3) := by decide +kernel
theorem dX11_count_100 : decode cX11_count 100 = .ok (.ifCond .le 7, 3) := by decide +kernel
theorem dX11_count_103 : decode cX11_count 103 = .ok (.iconst 1, 1) := by decide +kernel
theorem dX11_count_104 : decode cX11_count 104 = .ok (.goto 4, 3) := by decide +kernel
theorem dX11_count_107 : decode cX11_count 107 = .ok (.iconst 0, 1) := by decide +kernel
theorem dX11_count_108 : decode cX11_count 108 = .ok (.iadd, 1) := by decide +kernel
theorem dX11_count_109 : decode cX11_count 109 = .ok (.istore_n 2, 1) := by decide +kernel
theorem dX11_count_110 : decode cX11_count 110 = .ok (.iinc 4 1, 3) := by decide +kernel
theorem dX11_count_113 : decode cX11_count 113 = .ok (.goto (-27), 3) := by decide +kernel
theorem dX11_count_116 : decode cX11_count 116 = .ok (.iinc 3 1, 3) := by decide +kernel
theorem dX11_count_119 : decode cX11_count 119 = .ok (.goto (-48), 3) := by decide +kernel
theorem dX11_count_122 : decode cX11_count 122 = .ok (.aload_n 0, 1) := by decide +kernel
theorem dX11_count_123 : decode cX11_count 123 = .ok (.iload_n 2, 1) := by decide +kernel
theorem dX11_count_124 : decode cX11_count 124 = .ok (.invokevirtual 69, 3) := by decide +kernel
theorem dX11_count_127 : decode cX11_count 127 = .ok (.ireturn, 1) := by decide +kernel
theorem dX11_count_128 : decode cX11_count 128 = .ok (.aload_n 0, 1) := by decide +kernel
theorem dX11_count_129 : decode cX11_count 129 = .ok (.aload_n 0, 1) := by decide +kernel
theorem dX11_count_130 : decode cX11_count 130 = .ok (.aload_n 0, 1) := by decide +kernel
theorem dX11_count_131 : decode cX11_count 131 = .ok (.invokevirtual 119, 3) := by decide +kernel
theorem dX11_count_134 : decode cX11_count 134 = .ok (.iload_n 1, 1) := by decide +kernel
theorem dX11_count_135 : decode cX11_count 135 = .ok (.iconst 2, 1) := by decide +kernel
theorem dX11_count_136 : decode cX11_count 136 = .ok (.isub, 1) := by decide +kernel
theorem dX11_count_137 : decode cX11_count 137 = .ok (.invokevirtual 122, 3) := by decide +kernel
theorem dX11_count_140 : decode cX11_count 140 = .ok (.invokevirtual 69, 3) := by decide +kernel
theorem dX11_count_143 : decode cX11_count 143 = .ok (.ireturn, 1) := by decide +kernel
theorem dX11_count_144 : decode cX11_count 144 = .ok (.aload_n 0, 1) := by decide +kernel
theorem dX11_count_145 : decode cX11_count 145 = .ok (.aload_n 0, 1) := by decide +kernel
theorem dX11_count_146 : decode cX11_count 146 = .ok (.getfield 7, 3) := by decide +kernel
theorem dX11_count_149 : decode cX11_count 149 = .ok (.sipush 205, 3) := by decide +kernel
theorem dX11_count_152 : decode cX11_count 152 = .ok (.iaload, 1) := by decide +kernel
theorem dX11_count_153 : decode cX11_count 153 = .ok (.invokevirtual 69, 3) := by decide +kernel
theorem dX11_count_156 : decode cX11_count 156 = .ok (.ireturn, 1) := by decide +kernel
theorem dX11_count_157 : decode cX11_count 157 = .ok (.aload_n 0, 1) := by decide +kernel
theorem dX11_count_158 : decode cX11_count 158 = .ok (.aload_n 0, 1) := by decide +kernel
theorem dX11_count_159 : decode cX11_count 159 = .ok (.getfield 7, 3) := by decide +kernel
theorem dX11_count_162 : decode cX11_count 162 = .ok (.sipush 206, 3) := by decide +kernel
theorem dX11_count_165 : decode cX11_count 165 = .ok (.iaload, 1) := by decide +kernel
theorem dX11_count_166 : decode cX11_count 166 = .ok (.invokevirtual 69, 3) := by decide +kernel
theorem dX11_count_169 : decode cX11_count 169 = .ok (.ireturn, 1) := by decide +kernel
theorem dX11_count_170 : decode cX11_count 170 = .ok (.aload_n 0, 1) := by decide +kernel
theorem dX11_count_171 : decode cX11_count 171 = .ok (.aload_n 0, 1) := by decide +kernel
theorem dX11_count_172 : decode cX11_count 172 = .ok (.getfield 7, 3) := by decide +kernel
theorem dX11_count_175 : decode cX11_count 175 = .ok (.sipush 219, 3) := by decide +kernel
theorem dX11_count_178 : decode cX11_count 178 = .ok (.iaload, 1) := by decide +kernel
theorem dX11_count_179 : decode cX11_count 179 = .ok (.invokevirtual 69, 3) := by decide +kernel
theorem dX11_count_182 : decode cX11_count 182 = .ok (.ireturn, 1) := by decide +kernel
theorem dX11_count_183 : decode cX11_count 183 = .ok (.aload_n 0, 1) := by decide +kernel
theorem dX11_count_184 : decode cX11_count 184 = .ok (.invokevirtual 119, 3) := by decide +kernel
theorem dX11_count_187 : decode cX11_count 187 = .ok (.istore_n 3, 1) := by decide +kernel
theorem dX11_count_188 : decode cX11_count 188 = .ok (.iload_n 3, 1) := by decide +kernel
theorem dX11_count_189 : decode cX11_count 189 = .ok (.ifCond .eq 19, 3) := by decide +kernel
theorem dX11_count_192 : decode cX11_count 192 = .ok (.iload_n 3, 1) := by decide +kernel
theorem dX11_count_193 : decode cX11_count 193 = .ok (.aload_n 0, 1) := by decide +kernel
theorem dX11_count_194 : decode cX11_count 194 = .ok (.iload_n 3, 1) := by decide +kernel
theorem dX11_count_195 : decode cX11_count 195 = .ok (.invokevirtual 125, 3) := by decide +kernel
theorem dX11_count_198 : decode cX11_count 198 = .ok (.iconst (-1), 1) := by decide +kernel
theorem dX11_count_199 : decode cX11_count 199 = .ok (.ixor, 1) := by decide +kernel
theorem dX11_count_200 : decode cX11_count 200 = .ok (.iand, 1) := by decide +kernel
theorem dX11_count_201 : decode cX11_count 201 = .ok (.istore_n 3, 1) := by decide +kernel
theorem dX11_count_202 : decode cX11_count 202 = .ok (.iinc 2 1, 3) := by decide +kernel
theorem dX11_count_205 : decode cX11_count 205 = .ok (.goto (-17), 3) := by decide +kernel
theorem dX11_count_208 : decode cX11_count 208 = .ok (.aload_n 0, 1) := by decide +kernel
theorem dX11_count_209 : decode cX11_count 209 = .ok (.iload_n 2, 1) := by decide +kernel
theorem dX11_count_210 : decode cX11_count 210 = .ok (.invokevirtual 69, 3) := by decide +kernel
theorem dX11_count_213 : decode cX11_count 213 = .ok (.ireturn, 1) := by decide +kernel
theorem dX11_count_214 : decode cX11_count 214 = .ok (.aload_n 0, 1) := by decide +kernel
theorem dX11_count_215 : decode cX11_count 215 = .ok (.aload_n 0, 1) := by decide +kernel
theorem dX11_count_216 : decode cX11_count 216 = .ok (.aload_n 0, 1) := by decide +kernel
theorem dX11_count_217 : decode cX11_count 217 = .ok (.invokevirtual 119, 3) := by decide +kernel
theorem dX11_count_220 : decode cX11_count 220 = .ok (.invokevirtual 128, 3) := by decide +kernel
theorem dX11_count_223 : decode cX11_count 223 = .ok (.invokevirtual 69, 3) := by decide +kernel
theorem dX11_count_226 : decode cX11_count 226 = .ok (.ireturn, 1) := by decide +kernel
theorem dX11_count_227 : decode cX11_count 227 = .ok (.aload_n 0, 1) := by decide +kernel
theorem dX11_count_228 : decode cX11_count 228 = .ok (.aload_n 0, 1) := by decide +kernel
theorem dX11_count_229 : decode cX11_count 229 = .ok (.getfield 62, 3) := by decide +kernel
theorem dX11_count_232 : decode cX11_count 232 = .ok (.invokevirtual 69, 3) := by decide +kernel
theorem dX11_count_235 : decode cX11_count 235 = .ok (.ireturn, 1) := by decide +kernel
theorem dX11_count_236 : decode cX11_count 236 = .ok (.aload_n 0, 1) := by decide +kernel
theorem dX11_count_237 : decode cX11_count 237 = .ok (.iconst 1, 1) := by decide +kernel
theorem dX11_count_238 : decode cX11_count 238 = .ok (.invokevirtual 65, 3) := by decide +kernel
theorem dX11_count_241 : decode cX11_count 241 = .ok (.ireturn, 1) := by decide +kernel
theorem dX11_setDistricts_0 : decode cX11_setDistricts 0 = .ok (.iload_n 1, 1) := by decide +kernel
theorem dX11_setDistricts_1 : decode cX11_setDistricts 1 = .ok (.iconst 2, 1) := by decide +kernel
theorem dX11_setDistricts_2 : decode cX11_setDistricts 2 = .ok (.iconst 4, 1) := by decide +kernel
theorem dX11_setDistricts_3 : decode cX11_setDistricts 3 = .ok (.invokestatic 55, 3) := by decide +kernel
theorem dX11_setDistricts_6 : decode cX11_setDistricts 6 = .ok (.ifCond .ne 9, 3) := by decide +kernel
theorem dX11_setDistricts_9 : decode cX11_setDistricts 9 = .ok (.aload_n 0, 1) := by decide +kernel
theorem dX11_setDistricts_10 : decode cX11_setDistricts 10 = .ok (.iconst 1, 1) := by decide +kernel
theorem dX11_setDistricts_11 : decode cX11_setDistricts 11 = .ok (.invokevirtual 65, 3) := by decide +kernel
theorem dX11_setDistricts_14 : decode cX11_setDistricts 14 = .ok (.ireturn, 1) := by decide +kernel
theorem dX11_setDistricts_15 : decode cX11_setDistricts 15 = .ok (.aload_n 0, 1) := by decide +kernel
theorem dX11_setDistricts_16 : decode cX11_setDistricts 16 = .ok (.invokevirtual 101, 3) := by decide +kernel
theorem dX11_setDistricts_19 : decode cX11_setDistricts 19 = .ok (.aload_n 0, 1) := by decide +kernel
theorem dX11_setDistricts_20 : decode cX11_setDistricts 20 = .ok (.getfield 7, 3) := by decide +kernel
theorem dX11_setDistricts_23 : decode cX11_setDistricts 23 = .ok (.sipush 205, 3) := by decide +kernel
theorem dX11_setDistricts_26 : decode cX11_setDistricts 26 = .ok (.iaload, 1) := by decide +kernel
theorem dX11_setDistricts_27 : decode cX11_setDistricts 27 = .ok (.istore_n 2, 1) := by decide +kernel
theorem dX11_setDistricts_28 : decode cX11_setDistricts 28 = .ok (.aload_n 0, 1) := by decide +kernel
theorem dX11_setDistricts_29 : decode cX11_setDistricts 29 = .ok (.getfield 7, 3) := by decide +kernel
theorem dX11_setDistricts_32 : decode cX11_setDistricts 32 = .ok (.sipush 205, 3) := by decide +kernel
theorem dX11_setDistricts_35 : decode cX11_setDistricts 35 = .ok (.iload_n 1, 1) := by decide +kernel
theorem dX11_setDistricts_36 : decode cX11_setDistricts 36 = .ok (.iastore, 1) := by decide +kernel
theorem dX11_setDistricts_37 : decode cX11_setDistricts 37 = .ok (.aload_n 0, 1) := by decide +kernel
theorem dX11_setDistricts_38 : decode cX11_setDistricts 38 = .ok (.getfield 7, 3) := by decide +kernel
theorem dX11_setDistricts_41 : decode cX11_setDistricts 41 = .ok (.sipush 219, 3) := by decide +kernel
theorem dX11_setDistricts_44 : decode cX11_setDistricts 44 = .ok (.iconst 0, 1) := by decide +kernel
theorem dX11_setDistricts_45 : decode cX11_setDistricts 45 = .ok (.iastore, 1) := by decide +kernel
theorem dX11_setDistricts_46 : decode cX11_setDistricts 46 = .ok (.aload_n 0, 1) := by decide +kernel
theorem dX11_setDistricts_47 : decode cX11_setDistricts 47 = .ok (.invokevirtual 107, 3) := by decide +kernel
theorem dX11_setDistricts_50 : decode cX11_setDistricts 50 = .ok (.aload_n 0, 1) := by decide +kernel
theorem dX11_setDistricts_51 : decode cX11_setDistricts 51 = .ok (.iload_n 2, 1) := by decide +kernel
theorem dX11_setDistricts_52 : decode cX11_setDistricts 52 = .ok (.invokevirtual 69, 3) := by decide +kernel
theorem dX11_setDistricts_55 : decode cX11_setDistricts 55 = .ok (.ireturn, 1) := by decide +kernel
theorem dX11_setTolerance_0 : decode cX11_setTolerance 0 = .ok (.iload_n 1, 1) := by decide +kernel
theorem dX11_setTolerance_1 : decode cX11_setTolerance 1 = .ok (.iconst 0, 1) := by decide +kernel
theorem dX11_setTolerance_2 : decode cX11_setTolerance 2 = .ok (.bipush 99, 2) := by decide +kernel
theorem dX11_setTolerance_4 : decode cX11_setTolerance 4 = .ok (.invokestatic 55, 3) := by decide +kernel
theorem dX11_setTolerance_7 : decode cX11_setTolerance 7 = .ok (.ifCond .ne 9, 3) := by decide +kernel
theorem dX11_setTolerance_10 : decode cX11_setTolerance 10 = .ok (.aload_n 0, 1) := by decide +kernel
theorem dX11_setTolerance_11 : decode cX11_setTolerance 11 = .ok (.iconst 1, 1) := by decide +kernel
theorem dX11_setTolerance_12 : decode cX11_setTolerance 12 = .ok (.invokevirtual 65, 3) := by decide +kernel
theorem dX11_setTolerance_15 : decode cX11_setTolerance 15 = .ok (.ireturn, 1) := by decide +kernel
theorem dX11_setTolerance_16 : decode cX11_setTolerance 16 = .ok (.aload_n 0, 1) := by decide +kernel
theorem dX11_setTolerance_17 : decode cX11_setTolerance 17 = .ok (.invokevirtual 101, 3) := by decide +kernel
theorem dX11_setTolerance_20 : decode cX11_setTolerance 20 = .ok (.aload_n 0, 1) := by decide +kernel
theorem dX11_setTolerance_21 : decode cX11_setTolerance 21 = .ok (.getfield 7, 3) := by decide +kernel
theorem dX11_setTolerance_24 : decode cX11_setTolerance 24 = .ok (.sipush 206, 3) := by decide +kernel
theorem dX11_setTolerance_27 : decode cX11_setTolerance 27 = .ok (.iaload, 1) := by decide +kernel
theorem dX11_setTolerance_28 : decode cX11_setTolerance 28 = .ok (.istore_n 2, 1) := by decide +kernel
theorem dX11_setTolerance_29 : decode cX11_setTolerance 29 = .ok (.aload_n 0, 1) := by decide +kernel
theorem dX11_setTolerance_30 : decode cX11_setTolerance 30 = .ok (.getfield 7, 3) := by decide +kernel
theorem dX11_setTolerance_33 : decode cX11_setTolerance 33 = .ok (.sipush 206, 3) := by decide +kernel
theorem dX11_setTolerance_36 : decode cX11_setTolerance 36 = .ok (.iload_n 1, 1) := by decide +kernel
theorem dX11_setTolerance_37 : decode cX11_setTolerance 37 = .ok (.iastore, 1) := by decide +kernel
theorem dX11_setTolerance_38 : decode cX11_setTolerance 38 = .ok (.aload_n 0, 1) := by decide +kernel
theorem dX11_setTolerance_39 : decode cX11_setTolerance 39 = .ok (.getfield 7, 3) := by decide +kernel
theorem dX11_setTolerance_42 : decode cX11_setTolerance 42 = .ok (.sipush 219, 3) := by decide +kernel
theorem dX11_setTolerance_45 : decode cX11_setTolerance 45 = .ok (.iconst 0, 1) := by decide +kernel
theorem dX11_setTolerance_46 : decode cX11_setTolerance 46 = .ok (.iastore, 1) := by decide +kernel
theorem dX11_setTolerance_47 : decode cX11_setTolerance 47 = .ok (.aload_n 0, 1) := by decide +kernel
theorem dX11_setTolerance_48 : decode cX11_setTolerance 48 = .ok (.invokevirtual 107, 3) := by decide +kernel
theorem dX11_setTolerance_51 : decode cX11_setTolerance 51 = .ok (.aload_n 0, 1) := by decide +kernel
theorem dX11_setTolerance_52 : decode cX11_setTolerance 52 = .ok (.iload_n 2, 1) := by decide +kernel
theorem dX11_setTolerance_53 : decode cX11_setTolerance 53 = .ok (.invokevirtual 69, 3) := by decide +kernel
theorem dX11_setTolerance_56 : decode cX11_setTolerance 56 = .ok (.ireturn, 1) := by decide +kernel
theorem dX11_set_0 : decode cX11_set 0 = .ok (.iconst 0, 1) := by decide +kernel
theorem dX11_set_1 : decode cX11_set 1 = .ok (.istore_n 2, 1) := by decide +kernel
theorem dX11_set_2 : decode cX11_set 2 = .ok (.iconst 0, 1) := by decide +kernel
theorem dX11_set_3 : decode cX11_set 3 = .ok (.istore_n 3, 1) := by decide +kernel
theorem dX11_set_4 : decode cX11_set 4 = .ok (.iload_n 3, 1) := by decide +kernel
theorem dX11_set_5 : decode cX11_set 5 = .ok (.aload_n 0, 1) := by decide +kernel
theorem dX11_set_6 : decode cX11_set 6 = .ok (.getfield 7, 3) := by decide +kernel
theorem dX11_set_9 : decode cX11_set 9 = .ok (.sipush 204, 3) := by decide +kernel
theorem dX11_set_12 : decode cX11_set 12 = .ok (.iaload, 1) := by decide +kernel
theorem dX11_set_13 : decode cX11_set 13 = .ok (.if_icmp .ge 29, 3) := by decide +kernel
theorem dX11_set_16 : decode cX11_set 16 = .ok (.iload_n 2, 1) := by decide +kernel
theorem dX11_set_17 : decode cX11_set 17 = .ok (.aload_n 0, 1) := by decide +kernel
theorem dX11_set_18 : decode cX11_set 18 = .ok (.getfield 33, 3) := by decide +kernel
theorem dX11_set_21 : decode cX11_set 21 = .ok (.iload_n 3, 1) := by decide +kernel
theorem dX11_set_22 : decode cX11_set 22 = .ok (.iaload, 1) := by decide +kernel
theorem dX11_set_23 : decode cX11_set 23 = .ok (.iload_n 1, 1) := by decide +kernel
theorem dX11_set_24 : decode cX11_set 24 = .ok (.if_icmp .ne 9, 3) := by decide +kernel
theorem dX11_set_27 : decode cX11_set 27 = .ok (.iconst 1, 1) := by decide +kernel
theorem dX11_set_28 : decode cX11_set 28 = .ok (.iload_n 3, 1) := by decide +kernel
theorem dX11_set_29 : decode cX11_set 29 = .ok (.ishl, 1) := by decide +kernel
theorem dX11_set_30 : decode cX11_set 30 = .ok (.goto 4, 3) := by decide +kernel
theorem dX11_set_33 : decode cX11_set 33 = .ok (.iconst 0, 1) := by decide +kernel
theorem dX11_set_34 : decode cX11_set 34 = .ok (.ior, 1) := by decide +kernel
theorem dX11_set_35 : decode cX11_set 35 = .ok (.istore_n 2, 1) := by decide +kernel
theorem dX11_set_36 : decode cX11_set 36 = .ok (.iinc 3 1, 3) := by decide +kernel
theorem dX11_set_39 : decode cX11_set 39 = .ok (.goto (-35), 3) := by decide +kernel
theorem dX11_set_42 : decode cX11_set 42 = .ok (.iload_n 2, 1) := by decide +kernel
theorem dX11_set_43 : decode cX11_set 43 = .ok (.ireturn, 1) := by decide +kernel
theorem dX11_off_0 : decode cX11_off 0 = .ok (.aload_n 0, 1) := by decide +kernel
theorem dX11_off_1 : decode cX11_off 1 = .ok (.aload_n 0, 1) := by decide +kernel
theorem dX11_off_2 : decode cX11_off 2 = .ok (.iload_n 1, 1) := by decide +kernel
theorem dX11_off_3 : decode cX11_off 3 = .ok (.invokevirtual 131, 3) := by decide +kernel
theorem dX11_off_6 : decode cX11_off 6 = .ok (.iconst 0, 1) := by decide +kernel
theorem dX11_off_7 : decode cX11_off 7 = .ok (.invokevirtual 122, 3) := by decide +kernel
theorem dX11_off_10 : decode cX11_off 10 = .ok (.aload_n 0, 1) := by decide +kernel
theorem dX11_off_11 : decode cX11_off 11 = .ok (.getfield 7, 3) := by decide +kernel
theorem dX11_off_14 : decode cX11_off 14 = .ok (.sipush 205, 3) := by decide +kernel
theorem dX11_off_17 : decode cX11_off 17 = .ok (.iaload, 1) := by decide +kernel
theorem dX11_off_18 : decode cX11_off 18 = .ok (.imul, 1) := by decide +kernel
theorem dX11_off_19 : decode cX11_off 19 = .ok (.aload_n 0, 1) := by decide +kernel
theorem dX11_off_20 : decode cX11_off 20 = .ok (.aload_n 0, 1) := by decide +kernel
theorem dX11_off_21 : decode cX11_off 21 = .ok (.invokevirtual 119, 3) := by decide +kernel
theorem dX11_off_24 : decode cX11_off 24 = .ok (.iconst 0, 1) := by decide +kernel
theorem dX11_off_25 : decode cX11_off 25 = .ok (.invokevirtual 122, 3) := by decide +kernel
theorem dX11_off_28 : decode cX11_off 28 = .ok (.isub, 1) := by decide +kernel
theorem dX11_off_29 : decode cX11_off 29 = .ok (.istore_n 2, 1) := by decide +kernel
theorem dX11_off_30 : decode cX11_off 30 = .ok (.iload_n 2, 1) := by decide +kernel
theorem dX11_off_31 : decode cX11_off 31 = .ok (.ifCond .ge 8, 3) := by decide +kernel
theorem dX11_off_34 : decode cX11_off 34 = .ok (.iload_n 2, 1) := by decide +kernel
theorem dX11_off_35 : decode cX11_off 35 = .ok (.ineg, 1) := by decide +kernel
theorem dX11_off_36 : decode cX11_off 36 = .ok (.goto 4, 3) := by decide +kernel
theorem dX11_off_39 : decode cX11_off 39 = .ok (.iload_n 2, 1) := by decide +kernel
theorem dX11_off_40 : decode cX11_off 40 = .ok (.ireturn, 1) := by decide +kernel
theorem dX11_reason_0 : decode cX11_reason 0 = .ok (.iconst 0, 1) := by decide +kernel
theorem dX11_reason_1 : decode cX11_reason 1 = .ok (.istore_n 1, 1) := by decide +kernel
theorem dX11_reason_2 : decode cX11_reason 2 = .ok (.iload_n 1, 1) := by decide +kernel
theorem dX11_reason_3 : decode cX11_reason 3 = .ok (.aload_n 0, 1) := by decide +kernel
theorem dX11_reason_4 : decode cX11_reason 4 = .ok (.getfield 7, 3) := by decide +kernel
theorem dX11_reason_7 : decode cX11_reason 7 = .ok (.sipush 205, 3) := by decide +kernel
theorem dX11_reason_10 : decode cX11_reason 10 = .ok (.iaload, 1) := by decide +kernel
theorem dX11_reason_11 : decode cX11_reason 11 = .ok (.if_icmp .ge 24, 3) := by decide +kernel
theorem dX11_reason_14 : decode cX11_reason 14 = .ok (.aload_n 0, 1) := by decide +kernel
theorem dX11_reason_15 : decode cX11_reason 15 = .ok (.iload_n 1, 1) := by decide +kernel
theorem dX11_reason_16 : decode cX11_reason 16 = .ok (.invokevirtual 131, 3) := by decide +kernel
theorem dX11_reason_19 : decode cX11_reason 19 = .ok (.ifCond .ne 10, 3) := by decide +kernel
theorem dX11_reason_22 : decode cX11_reason 22 = .ok (.aload_n 0, 1) := by decide +kernel
theorem dX11_reason_23 : decode cX11_reason 23 = .ok (.iload_n 1, 1) := by decide +kernel
theorem dX11_reason_24 : decode cX11_reason 24 = .ok (.putfield 134, 3) := by decide +kernel
theorem dX11_reason_27 : decode cX11_reason 27 = .ok (.iconst 1, 1) := by decide +kernel
theorem dX11_reason_28 : decode cX11_reason 28 = .ok (.ireturn, 1) := by decide +kernel
theorem dX11_reason_29 : decode cX11_reason 29 = .ok (.iinc 1 1, 3) := by decide +kernel
theorem dX11_reason_32 : decode cX11_reason 32 = .ok (.goto (-30), 3) := by decide +kernel
theorem dX11_reason_35 : decode cX11_reason 35 = .ok (.iconst 0, 1) := by decide +kernel
theorem dX11_reason_36 : decode cX11_reason 36 = .ok (.istore_n 1, 1) := by decide +kernel
theorem dX11_reason_37 : decode cX11_reason 37 = .ok (.iload_n 1, 1) := by decide +kernel
theorem dX11_reason_38 : decode cX11_reason 38 = .ok (.aload_n 0, 1) := by decide +kernel
theorem dX11_reason_39 : decode cX11_reason 39 = .ok (.getfield 7, 3) := by decide +kernel
theorem dX11_reason_42 : decode cX11_reason 42 = .ok (.sipush 205, 3) := by decide +kernel
theorem dX11_reason_45 : decode cX11_reason 45 = .ok (.iaload, 1) := by decide +kernel
theorem dX11_reason_46 : decode cX11_reason 46 = .ok (.if_icmp .ge 33, 3) := by decide +kernel
theorem dX11_reason_49 : decode cX11_reason 49 = .ok (.aload_n 0, 1) := by decide +kernel
theorem dX11_reason_50 : decode cX11_reason 50 = .ok (.aload_n 0, 1) := by decide +kernel
theorem dX11_reason_51 : decode cX11_reason 51 = .ok (.iload_n 1, 1) := by decide +kernel
theorem dX11_reason_52 : decode cX11_reason 52 = .ok (.invokevirtual 131, 3) := by decide +kernel
theorem dX11_reason_55 : decode cX11_reason 55 = .ok (.invokevirtual 125, 3) := by decide +kernel
theorem dX11_reason_58 : decode cX11_reason 58 = .ok (.aload_n 0, 1) := by decide +kernel
theorem dX11_reason_59 : decode cX11_reason 59 = .ok (.iload_n 1, 1) := by decide +kernel
theorem dX11_reason_60 : decode cX11_reason 60 = .ok (.invokevirtual 131, 3) := by decide +kernel
theorem dX11_reason_63 : decode cX11_reason 63 = .ok (.if_icmp .eq 10, 3) := by decide +kernel
theorem dX11_reason_66 : decode cX11_reason 66 = .ok (.aload_n 0, 1) := by decide +kernel
theorem dX11_reason_67 : decode cX11_reason 67 = .ok (.iload_n 1, 1) := by decide +kernel
theorem dX11_reason_68 : decode cX11_reason 68 = .ok (.putfield 134, 3) := by decide +kernel
theorem dX11_reason_71 : decode cX11_reason 71 = .ok (.iconst 2, 1) := by decide +kernel
theorem dX11_reason_72 : decode cX11_reason 72 = .ok (.ireturn, 1) := by decide +kernel
theorem dX11_reason_73 : decode cX11_reason 73 = .ok (.iinc 1 1, 3) := by decide +kernel
theorem dX11_reason_76 : decode cX11_reason 76 = .ok (.goto (-39), 3) := by decide +kernel
theorem dX11_reason_79 : decode cX11_reason 79 = .ok (.iconst 0, 1) := by decide +kernel
theorem dX11_reason_80 : decode cX11_reason 80 = .ok (.istore_n 1, 1) := by decide +kernel
theorem dX11_reason_81 : decode cX11_reason 81 = .ok (.iload_n 1, 1) := by decide +kernel
theorem dX11_reason_82 : decode cX11_reason 82 = .ok (.iconst 4, 1) := by decide +kernel
theorem dX11_reason_83 : decode cX11_reason 83 = .ok (.if_icmp .ge 81, 3) := by decide +kernel
theorem dX11_reason_86 : decode cX11_reason 86 = .ok (.iconst 0, 1) := by decide +kernel
theorem dX11_reason_87 : decode cX11_reason 87 = .ok (.istore_n 2, 1) := by decide +kernel
theorem dX11_reason_88 : decode cX11_reason 88 = .ok (.iconst 0, 1) := by decide +kernel
theorem dX11_reason_89 : decode cX11_reason 89 = .ok (.istore_n 3, 1) := by decide +kernel
theorem dX11_reason_90 : decode cX11_reason 90 = .ok (.iload_n 3, 1) := by decide +kernel
theorem dX11_reason_91 : decode cX11_reason 91 = .ok (.aload_n 0, 1) := by decide +kernel
theorem dX11_reason_92 : decode cX11_reason 92 = .ok (.getfield 7, 3) := by decide +kernel
theorem dX11_reason_95 : decode cX11_reason 95 = .ok (.sipush 204, 3) := by decide +kernel
theorem dX11_reason_98 : decode cX11_reason 98 = .ok (.iaload, 1) := by decide +kernel
theorem dX11_reason_99 : decode cX11_reason 99 = .ok (.if_icmp .ge 44, 3) := by decide +kernel
theorem dX11_reason_102 : decode cX11_reason 102 = .ok (.iload_n 2, 1) := by decide +kernel
theorem dX11_reason_103 : decode cX11_reason 103 = .ok (.aload_n 0, 1) := by decide +kernel
theorem dX11_reason_104 : decode cX11_reason 104 = .ok (.iload_n 3, 1) := by decide +kernel
theorem dX11_reason_105 : decode cX11_reason 105 = .ok (.iconst 2, 1) := by decide +kernel
theorem dX11_reason_106 : decode cX11_reason 106 = .ok (.invokevirtual 110, 3) := by decide +kernel
theorem dX11_reason_109 : decode cX11_reason 109 = .ok (.iload_n 1, 1) := by decide +kernel
theorem dX11_reason_110 : decode cX11_reason 110 = .ok (.if_icmp .ne 24, 3) := by decide +kernel
theorem dX11_reason_113 : decode cX11_reason 113 = .ok (.aload_n 0, 1) := by decide +kernel
theorem dX11_reason_114 : decode cX11_reason 114 = .ok (.iload_n 3, 1) := by decide +kernel
theorem dX11_reason_115 : decode cX11_reason 115 = .ok (.iconst 3, 1) := by decide +kernel
theorem dX11_reason_116 : decode cX11_reason 116 = .ok (.invokevirtual 110, 3) := by decide +kernel
theorem dX11_reason_119 : decode cX11_reason 119 = .ok (.iconst 1, 1) := by decide +kernel
theorem dX11_reason_120 : decode cX11_reason 120 = .ok (.if_icmp .ne 14, 3) := by decide +kernel
theorem dX11_reason_123 : decode cX11_reason 123 = .ok (.iconst 1, 1) := by decide +kernel
theorem dX11_reason_124 : decode cX11_reason 124 = .ok (.aload_n 0, 1) := by decide +kernel
theorem dX11_reason_125 : decode cX11_reason 125 = .ok (.getfield 33, 3) := by decide +kernel
theorem dX11_reason_128 : decode cX11_reason 128 = .ok (.iload_n 3, 1) := by decide +kernel
theorem dX11_reason_129 : decode cX11_reason 129 = .ok (.iaload, 1) := by decide +kernel
theorem dX11_reason_130 : decode cX11_reason 130 = .ok (.ishl, 1) := by decide +kernel
theorem dX11_reason_131 : decode cX11_reason 131 = .ok (.goto 4, 3) := by decide +kernel
theorem dX11_reason_134 : decode cX11_reason 134 = .ok (.iconst 0, 1) := by decide +kernel
theorem dX11_reason_135 : decode cX11_reason 135 = .ok (.ior, 1) := by decide +kernel
theorem dX11_reason_136 : decode cX11_reason 136 = .ok (.istore_n 2, 1) := by decide +kernel
theorem dX11_reason_137 : decode cX11_reason 137 = .ok (.iinc 3 1, 3) := by decide +kernel
theorem dX11_reason_140 : decode cX11_reason 140 = .ok (.goto (-50), 3) := by decide +kernel
theorem dX11_reason_143 : decode cX11_reason 143 = .ok (.iload_n 2, 1) := by decide +kernel
theorem dX11_reason_144 : decode cX11_reason 144 = .ok (.iload_n 2, 1) := by decide +kernel
theorem dX11_reason_145 : decode cX11_reason 145 = .ok (.iconst 1, 1) := by decide +kernel
theorem dX11_reason_146 : decode cX11_reason 146 = .ok (.isub, 1) := by decide +kernel
theorem dX11_reason_147 : decode cX11_reason 147 = .ok (.iand, 1) := by decide +kernel
theorem dX11_reason_148 : decode cX11_reason 148 = .ok (.ifCond .eq 10, 3) := by decide +kernel
theorem dX11_reason_151 : decode cX11_reason 151 = .ok (.aload_n 0, 1) := by decide +kernel
theorem dX11_reason_152 : decode cX11_reason 152 = .ok (.iload_n 1, 1) := by decide +kernel
theorem dX11_reason_153 : decode cX11_reason 153 = .ok (.putfield 134, 3) := by decide +kernel
theorem dX11_reason_156 : decode cX11_reason 156 = .ok (.iconst 3, 1) := by decide +kernel
theorem dX11_reason_157 : decode cX11_reason 157 = .ok (.ireturn, 1) := by decide +kernel
theorem dX11_reason_158 : decode cX11_reason 158 = .ok (.iinc 1 1, 3) := by decide +kernel
theorem dX11_reason_161 : decode cX11_reason 161 = .ok (.goto (-80), 3) := by decide +kernel
theorem dX11_reason_164 : decode cX11_reason 164 = .ok (.iconst 0, 1) := by decide +kernel
theorem dX11_reason_165 : decode cX11_reason 165 = .ok (.istore_n 1, 1) := by decide +kernel
theorem dX11_reason_166 : decode cX11_reason 166 = .ok (.iload_n 1, 1) := by decide +kernel
theorem dX11_reason_167 : decode cX11_reason 167 = .ok (.aload_n 0, 1) := by decide +kernel
theorem dX11_reason_168 : decode cX11_reason 168 = .ok (.getfield 7, 3) := by decide +kernel
theorem dX11_reason_171 : decode cX11_reason 171 = .ok (.sipush 205, 3) := by decide +kernel
theorem dX11_reason_174 : decode cX11_reason 174 = .ok (.iaload, 1) := by decide +kernel
theorem dX11_reason_175 : decode cX11_reason 175 = .ok (.if_icmp .ge 45, 3) := by decide +kernel
theorem dX11_reason_178 : decode cX11_reason 178 = .ok (.bipush 100, 2) := by decide +kernel
theorem dX11_reason_180 : decode cX11_reason 180 = .ok (.aload_n 0, 1) := by decide +kernel
theorem dX11_reason_181 : decode cX11_reason 181 = .ok (.iload_n 1, 1) := by decide +kernel
theorem dX11_reason_182 : decode cX11_reason 182 = .ok (.invokevirtual 137, 3) := by decide +kernel
theorem dX11_reason_185 : decode cX11_reason 185 = .ok (.imul, 1) := by decide +kernel
theorem dX11_reason_186 : decode cX11_reason 186 = .ok (.aload_n 0, 1) := by decide +kernel
theorem dX11_reason_187 : decode cX11_reason 187 = .ok (.getfield 7, 3) := by decide +kernel
theorem dX11_reason_190 : decode cX11_reason 190 = .ok (.sipush 206, 3) := by decide +kernel
theorem dX11_reason_193 : decode cX11_reason 193 = .ok (.iaload, 1) := by decide +kernel
theorem dX11_reason_194 : decode cX11_reason 194 = .ok (.aload_n 0, 1) := by decide +kernel
theorem dX11_reason_195 : decode cX11_reason 195 = .ok (.aload_n 0, 1) := by decide +kernel
theorem dX11_reason_196 : decode cX11_reason 196 = .ok (.invokevirtual 119, 3) := by decide +kernel
theorem dX11_reason_199 : decode cX11_reason 199 = .ok (.iconst 0, 1) := by decide +kernel
theorem dX11_reason_200 : decode cX11_reason 200 = .ok (.invokevirtual 122, 3) := by decide +kernel
theorem dX11_reason_203 : decode cX11_reason 203 = .ok (.imul, 1) := by decide +kernel
theorem dX11_reason_204 : decode cX11_reason 204 = .ok (.if_icmp .le 10, 3) := by decide +kernel
theorem dX11_reason_207 : decode cX11_reason 207 = .ok (.aload_n 0, 1) := by decide +kernel
theorem dX11_reason_208 : decode cX11_reason 208 = .ok (.iload_n 1, 1) := by decide +kernel
theorem dX11_reason_209 : decode cX11_reason 209 = .ok (.putfield 134, 3) := by decide +kernel
theorem dX11_reason_212 : decode cX11_reason 212 = .ok (.iconst 4, 1) := by decide +kernel
theorem dX11_reason_213 : decode cX11_reason 213 = .ok (.ireturn, 1) := by decide +kernel
theorem dX11_reason_214 : decode cX11_reason 214 = .ok (.iinc 1 1, 3) := by decide +kernel
theorem dX11_reason_217 : decode cX11_reason 217 = .ok (.goto (-51), 3) := by decide +kernel
theorem dX11_reason_220 : decode cX11_reason 220 = .ok (.iconst 0, 1) := by decide +kernel
theorem dX11_reason_221 : decode cX11_reason 221 = .ok (.ireturn, 1) := by decide +kernel
theorem dX11_tells_0 : decode cX11_tells 0 = .ok (.iconst 0, 1) := by decide +kernel
theorem dX11_tells_1 : decode cX11_tells 1 = .ok (.istore_n 1, 1) := by decide +kernel
theorem dX11_tells_2 : decode cX11_tells 2 = .ok (.iload_n 1, 1) := by decide +kernel
theorem dX11_tells_3 : decode cX11_tells 3 = .ok (.bipush 12, 2) := by decide +kernel
theorem dX11_tells_5 : decode cX11_tells 5 = .ok (.if_icmp .ge 25, 3) := by decide +kernel
theorem dX11_tells_8 : decode cX11_tells 8 = .ok (.aload_n 0, 1) := by decide +kernel
theorem dX11_tells_9 : decode cX11_tells 9 = .ok (.getfield 33, 3) := by decide +kernel
theorem dX11_tells_12 : decode cX11_tells 12 = .ok (.iload_n 1, 1) := by decide +kernel
theorem dX11_tells_13 : decode cX11_tells 13 = .ok (.aload_n 0, 1) := by decide +kernel
theorem dX11_tells_14 : decode cX11_tells 14 = .ok (.getfield 7, 3) := by decide +kernel
theorem dX11_tells_17 : decode cX11_tells 17 = .ok (.sipush 207, 3) := by decide +kernel
theorem dX11_tells_20 : decode cX11_tells 20 = .ok (.iload_n 1, 1) := by decide +kernel
theorem dX11_tells_21 : decode cX11_tells 21 = .ok (.iadd, 1) := by decide +kernel
theorem dX11_tells_22 : decode cX11_tells 22 = .ok (.iaload, 1) := by decide +kernel
theorem dX11_tells_23 : decode cX11_tells 23 = .ok (.iastore, 1) := by decide +kernel
theorem dX11_tells_24 : decode cX11_tells 24 = .ok (.iinc 1 1, 3) := by decide +kernel
theorem dX11_tells_27 : decode cX11_tells 27 = .ok (.goto (-25), 3) := by decide +kernel
theorem dX11_tells_30 : decode cX11_tells 30 = .ok (.return_, 1) := by decide +kernel
theorem dX11_keeps_0 : decode cX11_keeps 0 = .ok (.iconst 0, 1) := by decide +kernel
theorem dX11_keeps_1 : decode cX11_keeps 1 = .ok (.istore_n 1, 1) := by decide +kernel
theorem dX11_keeps_2 : decode cX11_keeps 2 = .ok (.iload_n 1, 1) := by decide +kernel
theorem dX11_keeps_3 : decode cX11_keeps 3 = .ok (.bipush 12, 2) := by decide +kernel
theorem dX11_keeps_5 : decode cX11_keeps 5 = .ok (.if_icmp .ge 25, 3) := by decide +kernel
theorem dX11_keeps_8 : decode cX11_keeps 8 = .ok (.aload_n 0, 1) := by decide +kernel
theorem dX11_keeps_9 : decode cX11_keeps 9 = .ok (.getfield 7, 3) := by decide +kernel
theorem dX11_keeps_12 : decode cX11_keeps 12 = .ok (.sipush 207, 3) := by decide +kernel
theorem dX11_keeps_15 : decode cX11_keeps 15 = .ok (.iload_n 1, 1) := by decide +kernel
theorem dX11_keeps_16 : decode cX11_keeps 16 = .ok (.iadd, 1) := by decide +kernel
theorem dX11_keeps_17 : decode cX11_keeps 17 = .ok (.aload_n 0, 1) := by decide +kernel
theorem dX11_keeps_18 : decode cX11_keeps 18 = .ok (.getfield 33, 3) := by decide +kernel
theorem dX11_keeps_21 : decode cX11_keeps 21 = .ok (.iload_n 1, 1) := by decide +kernel
theorem dX11_keeps_22 : decode cX11_keeps 22 = .ok (.iaload, 1) := by decide +kernel
theorem dX11_keeps_23 : decode cX11_keeps 23 = .ok (.iastore, 1) := by decide +kernel
theorem dX11_keeps_24 : decode cX11_keeps 24 = .ok (.iinc 1 1, 3) := by decide +kernel
theorem dX11_keeps_27 : decode cX11_keeps 27 = .ok (.goto (-25), 3) := by decide +kernel
theorem dX11_keeps_30 : decode cX11_keeps 30 = .ok (.aload_n 0, 1) := by decide +kernel
theorem dX11_keeps_31 : decode cX11_keeps 31 = .ok (.getfield 7, 3) := by decide +kernel
theorem dX11_keeps_34 : decode cX11_keeps 34 = .ok (.sipush 219, 3) := by decide +kernel
theorem dX11_keeps_37 : decode cX11_keeps 37 = .ok (.iconst 1, 1) := by decide +kernel
theorem dX11_keeps_38 : decode cX11_keeps 38 = .ok (.iastore, 1) := by decide +kernel
theorem dX11_keeps_39 : decode cX11_keeps 39 = .ok (.return_, 1) := by decide +kernel
theorem dX11_keepsReason_0 : decode cX11_keepsReason 0 = .ok (.aload_n 0, 1) := by decide +kernel
theorem dX11_keepsReason_1 : decode cX11_keepsReason 1 = .ok (.iload_n 1, 1) := by decide +kernel
theorem dX11_keepsReason_2 : decode cX11_keepsReason 2 = .ok (.putfield 140, 3) := by decide +kernel
theorem dX11_keepsReason_5 : decode cX11_keepsReason 5 = .ok (.aload_n 0, 1) := by decide +kernel
theorem dX11_keepsReason_6 : decode cX11_keepsReason 6 = .ok (.aload_n 0, 1) := by decide +kernel
theorem dX11_keepsReason_7 : decode cX11_keepsReason 7 = .ok (.getfield 134, 3) := by decide +kernel
theorem dX11_keepsReason_10 : decode cX11_keepsReason 10 = .ok (.putfield 143, 3) := by decide +kernel
theorem dX11_keepsReason_13 : decode cX11_keepsReason 13 = .ok (.iload_n 1, 1) := by decide +kernel
theorem dX11_keepsReason_14 : decode cX11_keepsReason 14 = .ok (.ireturn, 1) := by decide +kernel
theorem dX11_readPlan_0 : decode cX11_readPlan 0 = .ok (.aload_n 0, 1) := by decide +kernel
theorem dX11_readPlan_1 : decode cX11_readPlan 1 = .ok (.getfield 62, 3) := by decide +kernel
theorem dX11_readPlan_4 : decode cX11_readPlan 4 = .ok (.istore_n 1, 1) := by decide +kernel
theorem dX11_readPlan_5 : decode cX11_readPlan 5 = .ok (.aload_n 0, 1) := by decide +kernel
theorem dX11_readPlan_6 : decode cX11_readPlan 6 = .ok (.iconst 0, 1) := by decide +kernel
theorem dX11_readPlan_7 : decode cX11_readPlan 7 = .ok (.putfield 62, 3) := by decide +kernel
theorem dX11_readPlan_10 : decode cX11_readPlan 10 = .ok (.aload_n 0, 1) := by decide +kernel
theorem dX11_readPlan_11 : decode cX11_readPlan 11 = .ok (.getfield 7, 3) := by decide +kernel
theorem dX11_readPlan_14 : decode cX11_readPlan 14 = .ok (.sipush 204, 3) := by decide +kernel
theorem dX11_readPlan_17 : decode cX11_readPlan 17 = .ok (.iaload, 1) := by decide +kernel
theorem dX11_readPlan_18 : decode cX11_readPlan 18 = .ok (.ifCond .ne 9, 3) := by decide +kernel
theorem dX11_readPlan_21 : decode cX11_readPlan 21 = .ok (.aload_n 0, 1) := by decide +kernel
theorem dX11_readPlan_22 : decode cX11_readPlan 22 = .ok (.iconst 1, 1) := by decide +kernel
theorem dX11_readPlan_23 : decode cX11_readPlan 23 = .ok (.invokevirtual 65, 3) := by decide +kernel
theorem dX11_readPlan_26 : decode cX11_readPlan 26 = .ok (.ireturn, 1) := by decide +kernel
theorem dX11_readPlan_27 : decode cX11_readPlan 27 = .ok (.iconst 0, 1) := by decide +kernel
theorem dX11_readPlan_28 : decode cX11_readPlan 28 = .ok (.istore_n 2, 1) := by decide +kernel
theorem dX11_readPlan_29 : decode cX11_readPlan 29 = .ok (.iload_n 2, 1) := by decide +kernel
theorem dX11_readPlan_30 : decode cX11_readPlan 30 = .ok (.bipush 12, 2) := by decide +kernel
theorem dX11_readPlan_32 : decode cX11_readPlan 32 = .ok (.if_icmp .ge 16, 3) := by decide +kernel
theorem dX11_readPlan_35 : decode cX11_readPlan 35 = .ok (.aload_n 0, 1) := by decide +kernel
theorem dX11_readPlan_36 : decode cX11_readPlan 36 = .ok (.getfield 33, 3) := by decide +kernel
theorem dX11_readPlan_39 : decode cX11_readPlan 39 = .ok (.iload_n 2, 1) := by decide +kernel
theorem dX11_readPlan_40 : decode cX11_readPlan 40 = .ok (.iconst 0, 1) := by decide +kernel
theorem dX11_readPlan_41 : decode cX11_readPlan 41 = .ok (.iastore, 1) := by decide +kernel
theorem dX11_readPlan_42 : decode cX11_readPlan 42 = .ok (.iinc 2 1, 3) := by decide +kernel
theorem dX11_readPlan_45 : decode cX11_readPlan 45 = .ok (.goto (-16), 3) := by decide +kernel
theorem dX11_readPlan_48 : decode cX11_readPlan 48 = .ok (.iconst 0, 1) := by decide +kernel
theorem dX11_readPlan_49 : decode cX11_readPlan 49 = .ok (.istore_n 2, 1) := by decide +kernel
theorem dX11_readPlan_50 : decode cX11_readPlan 50 = .ok (.iload_n 2, 1) := by decide +kernel
theorem dX11_readPlan_51 : decode cX11_readPlan 51 = .ok (.iload_n 1, 1) := by decide +kernel
theorem dX11_readPlan_52 : decode cX11_readPlan 52 = .ok (.if_icmp .ge 103, 3) := by decide +kernel
theorem dX11_readPlan_55 : decode cX11_readPlan 55 = .ok (.aload_n 0, 1) := by decide +kernel
theorem dX11_readPlan_56 : decode cX11_readPlan 56 = .ok (.getfield 22, 3) := by decide +kernel
theorem dX11_readPlan_59 : decode cX11_readPlan 59 = .ok (.iload_n 2, 1) := by decide +kernel
theorem dX11_readPlan_60 : decode cX11_readPlan 60 = .ok (.caload, 1) := by decide +kernel
theorem dX11_readPlan_61 : decode cX11_readPlan 61 = .ok (.bipush 65, 2) := by decide +kernel
theorem dX11_readPlan_63 : decode cX11_readPlan 63 = .ok (.bipush 90, 2) := by decide +kernel
theorem dX11_readPlan_65 : decode cX11_readPlan 65 = .ok (.invokestatic 55, 3) := by decide +kernel
theorem dX11_readPlan_68 : decode cX11_readPlan 68 = .ok (.ifCond .eq 15, 3) := by decide +kernel
theorem dX11_readPlan_71 : decode cX11_readPlan 71 = .ok (.aload_n 0, 1) := by decide +kernel
theorem dX11_readPlan_72 : decode cX11_readPlan 72 = .ok (.getfield 22, 3) := by decide +kernel
theorem dX11_readPlan_75 : decode cX11_readPlan 75 = .ok (.iload_n 2, 1) := by decide +kernel
theorem dX11_readPlan_76 : decode cX11_readPlan 76 = .ok (.caload, 1) := by decide +kernel
theorem dX11_readPlan_77 : decode cX11_readPlan 77 = .ok (.bipush 65, 2) := by decide +kernel
theorem dX11_readPlan_79 : decode cX11_readPlan 79 = .ok (.isub, 1) := by decide +kernel
theorem dX11_readPlan_80 : decode cX11_readPlan 80 = .ok (.goto 32, 3) := by decide +kernel
theorem dX11_readPlan_83 : decode cX11_readPlan 83 = .ok (.aload_n 0, 1) := by decide +kernel
theorem dX11_readPlan_84 : decode cX11_readPlan 84 = .ok (.getfield 22, 3) := by decide +kernel
theorem dX11_readPlan_87 : decode cX11_readPlan 87 = .ok (.iload_n 2, 1) := by decide +kernel
theorem dX11_readPlan_88 : decode cX11_readPlan 88 = .ok (.caload, 1) := by decide +kernel
theorem dX11_readPlan_89 : decode cX11_readPlan 89 = .ok (.bipush 97, 2) := by decide +kernel
theorem dX11_readPlan_91 : decode cX11_readPlan 91 = .ok (.bipush 122, 2) := by decide +kernel
theorem dX11_readPlan_93 : decode cX11_readPlan 93 = .ok (.invokestatic 55, 3) := by decide +kernel
theorem dX11_readPlan_96 : decode cX11_readPlan 96 = .ok (.ifCond .eq 15, 3) := by decide +kernel
theorem dX11_readPlan_99 : decode cX11_readPlan 99 = .ok (.aload_n 0, 1) := by decide +kernel
theorem dX11_readPlan_100 : decode cX11_readPlan 100 = .ok (.getfield 22, 3) := by decide +kernel
theorem dX11_readPlan_103 : decode cX11_readPlan 103 = .ok (.iload_n 2, 1) := by decide +kernel
theorem dX11_readPlan_104 : decode cX11_readPlan 104 = .ok (.caload, 1) := by decide +kernel
theorem dX11_readPlan_105 : decode cX11_readPlan 105 = .ok (.bipush 97, 2) := by decide +kernel
theorem dX11_readPlan_107 : decode cX11_readPlan 107 = .ok (.isub, 1) := by decide +kernel
theorem dX11_readPlan_108 : decode cX11_readPlan 108 = .ok (.goto 4, 3) := by decide +kernel
theorem dX11_readPlan_111 : decode cX11_readPlan 111 = .ok (.iconst (-1), 1) := by decide +kernel
theorem dX11_readPlan_112 : decode cX11_readPlan 112 = .ok (.istore_n 3, 1) := by decide +kernel
theorem dX11_readPlan_113 : decode cX11_readPlan 113 = .ok (.aload_n 0, 1) := by decide +kernel
theorem dX11_readPlan_114 : decode cX11_readPlan 114 = .ok (.iload_n 3, 1) := by decide +kernel
theorem dX11_readPlan_115 : decode cX11_readPlan 115 = .ok (.invokevirtual 146, 3) := by decide +kernel
theorem dX11_readPlan_118 : decode cX11_readPlan 118 = .ok (.ifCond .eq 15, 3) := by decide +kernel
theorem dX11_readPlan_121 : decode cX11_readPlan 121 = .ok (.iload_n 2, 1) := by decide +kernel
theorem dX11_readPlan_122 : decode cX11_readPlan 122 = .ok (.aload_n 0, 1) := by decide +kernel
theorem dX11_readPlan_123 : decode cX11_readPlan 123 = .ok (.getfield 7, 3) := by decide +kernel
theorem dX11_readPlan_126 : decode cX11_readPlan 126 = .ok (.sipush 204, 3) := by decide +kernel
theorem dX11_readPlan_129 : decode cX11_readPlan 129 = .ok (.iaload, 1) := by decide +kernel
theorem dX11_readPlan_130 : decode cX11_readPlan 130 = .ok (.if_icmp .lt 12, 3) := by decide +kernel
theorem dX11_readPlan_133 : decode cX11_readPlan 133 = .ok (.aload_n 0, 1) := by decide +kernel
theorem dX11_readPlan_134 : decode cX11_readPlan 134 = .ok (.bipush (-100), 2) := by decide +kernel
theorem dX11_readPlan_136 : decode cX11_readPlan 136 = .ok (.iload_n 2, 1) := by decide +kernel
theorem dX11_readPlan_137 : decode cX11_readPlan 137 = .ok (.isub, 1) := by decide +kernel
theorem dX11_readPlan_138 : decode cX11_readPlan 138 = .ok (.invokevirtual 69, 3) := by decide +kernel
theorem dX11_readPlan_141 : decode cX11_readPlan 141 = .ok (.ireturn, 1) := by decide +kernel
theorem dX11_readPlan_142 : decode cX11_readPlan 142 = .ok (.aload_n 0, 1) := by decide +kernel
theorem dX11_readPlan_143 : decode cX11_readPlan 143 = .ok (.getfield 33, 3) := by decide +kernel
theorem dX11_readPlan_146 : decode cX11_readPlan 146 = .ok (.iload_n 2, 1) := by decide +kernel
theorem dX11_readPlan_147 : decode cX11_readPlan 147 = .ok (.iload_n 3, 1) := by decide +kernel
theorem dX11_readPlan_148 : decode cX11_readPlan 148 = .ok (.iastore, 1) := by decide +kernel
theorem dX11_readPlan_149 : decode cX11_readPlan 149 = .ok (.iinc 2 1, 3) := by decide +kernel
theorem dX11_readPlan_152 : decode cX11_readPlan 152 = .ok (.goto (-102), 3) := by decide +kernel
theorem dX11_readPlan_155 : decode cX11_readPlan 155 = .ok (.iload_n 1, 1) := by decide +kernel
theorem dX11_readPlan_156 : decode cX11_readPlan 156 = .ok (.aload_n 0, 1) := by decide +kernel
theorem dX11_readPlan_157 : decode cX11_readPlan 157 = .ok (.getfield 7, 3) := by decide +kernel
theorem dX11_readPlan_160 : decode cX11_readPlan 160 = .ok (.sipush 204, 3) := by decide +kernel
theorem dX11_readPlan_163 : decode cX11_readPlan 163 = .ok (.iaload, 1) := by decide +kernel
theorem dX11_readPlan_164 : decode cX11_readPlan 164 = .ok (.if_icmp .ge 12, 3) := by decide +kernel
theorem dX11_readPlan_167 : decode cX11_readPlan 167 = .ok (.aload_n 0, 1) := by decide +kernel
theorem dX11_readPlan_168 : decode cX11_readPlan 168 = .ok (.bipush (-100), 2) := by decide +kernel
theorem dX11_readPlan_170 : decode cX11_readPlan 170 = .ok (.iload_n 1, 1) := by decide +kernel
theorem dX11_readPlan_171 : decode cX11_readPlan 171 = .ok (.isub, 1) := by decide +kernel
theorem dX11_readPlan_172 : decode cX11_readPlan 172 = .ok (.invokevirtual 69, 3) := by decide +kernel
theorem dX11_readPlan_175 : decode cX11_readPlan 175 = .ok (.ireturn, 1) := by decide +kernel
theorem dX11_readPlan_176 : decode cX11_readPlan 176 = .ok (.aload_n 0, 1) := by decide +kernel
theorem dX11_readPlan_177 : decode cX11_readPlan 177 = .ok (.invokevirtual 149, 3) := by decide +kernel
theorem dX11_readPlan_180 : decode cX11_readPlan 180 = .ok (.istore_n 2, 1) := by decide +kernel
theorem dX11_readPlan_181 : decode cX11_readPlan 181 = .ok (.iload_n 2, 1) := by decide +kernel
theorem dX11_readPlan_182 : decode cX11_readPlan 182 = .ok (.ifCond .eq 13, 3) := by decide +kernel
theorem dX11_readPlan_185 : decode cX11_readPlan 185 = .ok (.aload_n 0, 1) := by decide +kernel
theorem dX11_readPlan_186 : decode cX11_readPlan 186 = .ok (.aload_n 0, 1) := by decide +kernel
theorem dX11_readPlan_187 : decode cX11_readPlan 187 = .ok (.iload_n 2, 1) := by decide +kernel
theorem dX11_readPlan_188 : decode cX11_readPlan 188 = .ok (.invokevirtual 152, 3) := by decide +kernel
theorem dX11_readPlan_191 : decode cX11_readPlan 191 = .ok (.invokevirtual 69, 3) := by decide +kernel
theorem dX11_readPlan_194 : decode cX11_readPlan 194 = .ok (.ireturn, 1) := by decide +kernel
theorem dX11_readPlan_195 : decode cX11_readPlan 195 = .ok (.aload_n 0, 1) := by decide +kernel
theorem dX11_readPlan_196 : decode cX11_readPlan 196 = .ok (.invokevirtual 101, 3) := by decide +kernel
theorem dX11_readPlan_199 : decode cX11_readPlan 199 = .ok (.aload_n 0, 1) := by decide +kernel
theorem dX11_readPlan_200 : decode cX11_readPlan 200 = .ok (.invokevirtual 155, 3) := by decide +kernel
theorem dX11_readPlan_203 : decode cX11_readPlan 203 = .ok (.aload_n 0, 1) := by decide +kernel
theorem dX11_readPlan_204 : decode cX11_readPlan 204 = .ok (.invokevirtual 107, 3) := by decide +kernel
theorem dX11_readPlan_207 : decode cX11_readPlan 207 = .ok (.aload_n 0, 1) := by decide +kernel
theorem dX11_readPlan_208 : decode cX11_readPlan 208 = .ok (.iconst 0, 1) := by decide +kernel
theorem dX11_readPlan_209 : decode cX11_readPlan 209 = .ok (.invokevirtual 69, 3) := by decide +kernel
theorem dX11_readPlan_212 : decode cX11_readPlan 212 = .ok (.ireturn, 1) := by decide +kernel
theorem dX11_hasNeighbor_0 : decode cX11_hasNeighbor 0 = .ok (.iconst 0, 1) := by decide +kernel
theorem dX11_hasNeighbor_1 : decode cX11_hasNeighbor 1 = .ok (.istore_n 3, 1) := by decide +kernel
theorem dX11_hasNeighbor_2 : decode cX11_hasNeighbor 2 = .ok (.iconst 0, 1) := by decide +kernel
theorem dX11_hasNeighbor_3 : decode cX11_hasNeighbor 3 = .ok (.istore 4, 2) := by decide +kernel
theorem dX11_hasNeighbor_5 : decode cX11_hasNeighbor 5 = .ok (.iload 4, 2) := by decide +kernel
theorem dX11_hasNeighbor_7 : decode cX11_hasNeighbor 7 = .ok (.aload_n 0, 1) := by decide +kernel
theorem dX11_hasNeighbor_8 : decode cX11_hasNeighbor 8 = .ok (.getfield 7, 3) := by decide +kernel
theorem dX11_hasNeighbor_11 : decode cX11_hasNeighbor 11 = .ok (.sipush 204, 3) := by decide +kernel
theorem dX11_hasNeighbor_14 : decode cX11_hasNeighbor 14 = .ok (.iaload, 1) := by decide +kernel
theorem dX11_hasNeighbor_15 : decode cX11_hasNeighbor 15 = .ok (.if_icmp .ge 40, 3) := by decide +kernel
theorem dX11_hasNeighbor_18 : decode cX11_hasNeighbor 18 = .ok (.iload_n 3, 1) := by decide +kernel
theorem dX11_hasNeighbor_19 : decode cX11_hasNeighbor 19 = .ok (.ifCond .ne 24, 3) := by decide +kernel
theorem dX11_hasNeighbor_22 : decode cX11_hasNeighbor 22 = .ok (.aload_n 0, 1) := by decide +kernel
theorem dX11_hasNeighbor_23 : decode cX11_hasNeighbor 23 = .ok (.iload_n 1, 1) := by decide +kernel
theorem dX11_hasNeighbor_24 : decode cX11_hasNeighbor 24 = .ok (.iload 4, 2) := by decide +kernel
theorem dX11_hasNeighbor_26 : decode cX11_hasNeighbor 26 = .ok (.invokevirtual 93, 3) := by decide +kernel
theorem dX11_hasNeighbor_29 : decode cX11_hasNeighbor 29 = .ok (.ifCond .le 18, 3) := by decide +kernel
theorem dX11_hasNeighbor_32 : decode cX11_hasNeighbor 32 = .ok (.aload_n 0, 1) := by decide +kernel
theorem dX11_hasNeighbor_33 : decode cX11_hasNeighbor 33 = .ok (.getfield 33, 3) := by decide +kernel
theorem dX11_hasNeighbor_36 : decode cX11_hasNeighbor 36 = .ok (.iload 4, 2) := by decide +kernel
theorem dX11_hasNeighbor_38 : decode cX11_hasNeighbor 38 = .ok (.iaload, 1) := by decide +kernel
theorem dX11_hasNeighbor_39 : decode cX11_hasNeighbor 39 = .ok (.iload_n 2, 1) := by decide +kernel
theorem dX11_hasNeighbor_40 : decode cX11_hasNeighbor 40 = .ok (.if_icmp .ne 7, 3) := by decide +kernel
theorem dX11_hasNeighbor_43 : decode cX11_hasNeighbor 43 = .ok (.iconst 1, 1) := by decide +kernel
theorem dX11_hasNeighbor_44 : decode cX11_hasNeighbor 44 = .ok (.goto 4, 3) := by decide +kernel
theorem dX11_hasNeighbor_47 : decode cX11_hasNeighbor 47 = .ok (.iconst 0, 1) := by decide +kernel
theorem dX11_hasNeighbor_48 : decode cX11_hasNeighbor 48 = .ok (.istore_n 3, 1) := by decide +kernel
theorem dX11_hasNeighbor_49 : decode cX11_hasNeighbor 49 = .ok (.iinc 4 1, 3) := by decide +kernel
theorem dX11_hasNeighbor_52 : decode cX11_hasNeighbor 52 = .ok (.goto (-47), 3) := by decide +kernel
theorem dX11_hasNeighbor_55 : decode cX11_hasNeighbor 55 = .ok (.iload_n 3, 1) := by decide +kernel
theorem dX11_hasNeighbor_56 : decode cX11_hasNeighbor 56 = .ok (.ireturn, 1) := by decide +kernel
theorem dX11_moves_0 : decode cX11_moves 0 = .ok (.aload_n 0, 1) := by decide +kernel
theorem dX11_moves_1 : decode cX11_moves 1 = .ok (.iload_n 1, 1) := by decide +kernel
theorem dX11_moves_2 : decode cX11_moves 2 = .ok (.iload_n 2, 1) := by decide +kernel
theorem dX11_moves_3 : decode cX11_moves 3 = .ok (.invokevirtual 158, 3) := by decide +kernel
theorem dX11_moves_6 : decode cX11_moves 6 = .ok (.ifCond .ne 10, 3) := by decide +kernel
theorem dX11_moves_9 : decode cX11_moves 9 = .ok (.aload_n 0, 1) := by decide +kernel
theorem dX11_moves_10 : decode cX11_moves 10 = .ok (.iload_n 1, 1) := by decide +kernel
theorem dX11_moves_11 : decode cX11_moves 11 = .ok (.putfield 134, 3) := by decide +kernel
theorem dX11_moves_14 : decode cX11_moves 14 = .ok (.iconst 5, 1) := by decide +kernel
theorem dX11_moves_15 : decode cX11_moves 15 = .ok (.ireturn, 1) := by decide +kernel
theorem dX11_moves_16 : decode cX11_moves 16 = .ok (.aload_n 0, 1) := by decide +kernel
theorem dX11_moves_17 : decode cX11_moves 17 = .ok (.getfield 33, 3) := by decide +kernel
theorem dX11_moves_20 : decode cX11_moves 20 = .ok (.iload_n 1, 1) := by decide +kernel
theorem dX11_moves_21 : decode cX11_moves 21 = .ok (.iload_n 2, 1) := by decide +kernel
theorem dX11_moves_22 : decode cX11_moves 22 = .ok (.iastore, 1) := by decide +kernel
theorem dX11_moves_23 : decode cX11_moves 23 = .ok (.aload_n 0, 1) := by decide +kernel
theorem dX11_moves_24 : decode cX11_moves 24 = .ok (.invokevirtual 149, 3) := by decide +kernel
theorem dX11_moves_27 : decode cX11_moves 27 = .ok (.ireturn, 1) := by decide +kernel
theorem dX11_swaps_0 : decode cX11_swaps 0 = .ok (.aload_n 0, 1) := by decide +kernel
theorem dX11_swaps_1 : decode cX11_swaps 1 = .ok (.iload_n 1, 1) := by decide +kernel
theorem dX11_swaps_2 : decode cX11_swaps 2 = .ok (.aload_n 0, 1) := by decide +kernel
theorem dX11_swaps_3 : decode cX11_swaps 3 = .ok (.getfield 33, 3) := by decide +kernel
theorem dX11_swaps_6 : decode cX11_swaps 6 = .ok (.iload_n 2, 1) := by decide +kernel
theorem dX11_swaps_7 : decode cX11_swaps 7 = .ok (.iaload, 1) := by decide +kernel
theorem dX11_swaps_8 : decode cX11_swaps 8 = .ok (.invokevirtual 158, 3) := by decide +kernel
theorem dX11_swaps_11 : decode cX11_swaps 11 = .ok (.istore_n 3, 1) := by decide +kernel
theorem dX11_swaps_12 : decode cX11_swaps 12 = .ok (.aload_n 0, 1) := by decide +kernel
theorem dX11_swaps_13 : decode cX11_swaps 13 = .ok (.iload_n 2, 1) := by decide +kernel
theorem dX11_swaps_14 : decode cX11_swaps 14 = .ok (.aload_n 0, 1) := by decide +kernel
theorem dX11_swaps_15 : decode cX11_swaps 15 = .ok (.getfield 33, 3) := by decide +kernel
theorem dX11_swaps_18 : decode cX11_swaps 18 = .ok (.iload_n 1, 1) := by decide +kernel
theorem dX11_swaps_19 : decode cX11_swaps 19 = .ok (.iaload, 1) := by decide +kernel
theorem dX11_swaps_20 : decode cX11_swaps 20 = .ok (.invokevirtual 158, 3) := by decide +kernel
theorem dX11_swaps_23 : decode cX11_swaps 23 = .ok (.istore 4, 2) := by decide +kernel
theorem dX11_swaps_25 : decode cX11_swaps 25 = .ok (.iload_n 3, 1) := by decide +kernel
theorem dX11_swaps_26 : decode cX11_swaps 26 = .ok (.ifCond .eq 8, 3) := by decide +kernel
theorem dX11_swaps_29 : decode cX11_swaps 29 = .ok (.iload 4, 2) := by decide +kernel
theorem dX11_swaps_31 : decode cX11_swaps 31 = .ok (.ifCond .ne 18, 3) := by decide +kernel
theorem dX11_swaps_34 : decode cX11_swaps 34 = .ok (.aload_n 0, 1) := by decide +kernel
theorem dX11_swaps_35 : decode cX11_swaps 35 = .ok (.iload_n 3, 1) := by decide +kernel
theorem dX11_swaps_36 : decode cX11_swaps 36 = .ok (.ifCond .eq 7, 3) := by decide +kernel
theorem dX11_swaps_39 : decode cX11_swaps 39 = .ok (.iload_n 2, 1) := by decide +kernel
theorem dX11_swaps_40 : decode cX11_swaps 40 = .ok (.goto 4, 3) := by decide +kernel
theorem dX11_swaps_43 : decode cX11_swaps 43 = .ok (.iload_n 1, 1) := by decide +kernel
theorem dX11_swaps_44 : decode cX11_swaps 44 = .ok (.putfield 134, 3) := by decide +kernel
theorem dX11_swaps_47 : decode cX11_swaps 47 = .ok (.iconst 5, 1) := by decide +kernel
theorem dX11_swaps_48 : decode cX11_swaps 48 = .ok (.ireturn, 1) := by decide +kernel
theorem dX11_swaps_49 : decode cX11_swaps 49 = .ok (.aload_n 0, 1) := by decide +kernel
theorem dX11_swaps_50 : decode cX11_swaps 50 = .ok (.getfield 33, 3) := by decide +kernel
theorem dX11_swaps_53 : decode cX11_swaps 53 = .ok (.iload_n 1, 1) := by decide +kernel
theorem dX11_swaps_54 : decode cX11_swaps 54 = .ok (.iaload, 1) := by decide +kernel
theorem dX11_swaps_55 : decode cX11_swaps 55 = .ok (.istore 5, 2) := by decide +kernel
theorem dX11_swaps_57 : decode cX11_swaps 57 = .ok (.aload_n 0, 1) := by decide +kernel
theorem dX11_swaps_58 : decode cX11_swaps 58 = .ok (.getfield 33, 3) := by decide +kernel
theorem dX11_swaps_61 : decode cX11_swaps 61 = .ok (.iload_n 1, 1) := by decide +kernel
theorem dX11_swaps_62 : decode cX11_swaps 62 = .ok (.aload_n 0, 1) := by decide +kernel
theorem dX11_swaps_63 : decode cX11_swaps 63 = .ok (.getfield 33, 3) := by decide +kernel
theorem dX11_swaps_66 : decode cX11_swaps 66 = .ok (.iload_n 2, 1) := by decide +kernel
theorem dX11_swaps_67 : decode cX11_swaps 67 = .ok (.iaload, 1) := by decide +kernel
theorem dX11_swaps_68 : decode cX11_swaps 68 = .ok (.iastore, 1) := by decide +kernel
theorem dX11_swaps_69 : decode cX11_swaps 69 = .ok (.aload_n 0, 1) := by decide +kernel
theorem dX11_swaps_70 : decode cX11_swaps 70 = .ok (.getfield 33, 3) := by decide +kernel
theorem dX11_swaps_73 : decode cX11_swaps 73 = .ok (.iload_n 2, 1) := by decide +kernel
theorem dX11_swaps_74 : decode cX11_swaps 74 = .ok (.iload 5, 2) := by decide +kernel
theorem dX11_swaps_76 : decode cX11_swaps 76 = .ok (.iastore, 1) := by decide +kernel
theorem dX11_swaps_77 : decode cX11_swaps 77 = .ok (.aload_n 0, 1) := by decide +kernel
theorem dX11_swaps_78 : decode cX11_swaps 78 = .ok (.invokevirtual 149, 3) := by decide +kernel
theorem dX11_swaps_81 : decode cX11_swaps 81 = .ok (.ireturn, 1) := by decide +kernel
theorem dX11_lacksMove_0 : decode cX11_lacksMove 0 = .ok (.aload_n 0, 1) := by decide +kernel
theorem dX11_lacksMove_1 : decode cX11_lacksMove 1 = .ok (.iload_n 1, 1) := by decide +kernel
theorem dX11_lacksMove_2 : decode cX11_lacksMove 2 = .ok (.invokevirtual 90, 3) := by decide +kernel
theorem dX11_lacksMove_5 : decode cX11_lacksMove 5 = .ok (.ifCond .eq 11, 3) := by decide +kernel
theorem dX11_lacksMove_8 : decode cX11_lacksMove 8 = .ok (.aload_n 0, 1) := by decide +kernel
theorem dX11_lacksMove_9 : decode cX11_lacksMove 9 = .ok (.iload_n 2, 1) := by decide +kernel
theorem dX11_lacksMove_10 : decode cX11_lacksMove 10 = .ok (.invokevirtual 146, 3) := by decide +kernel
theorem dX11_lacksMove_13 : decode cX11_lacksMove 13 = .ok (.ifCond .ne 7, 3) := by decide +kernel
theorem dX11_lacksMove_16 : decode cX11_lacksMove 16 = .ok (.iconst 1, 1) := by decide +kernel
theorem dX11_lacksMove_17 : decode cX11_lacksMove 17 = .ok (.goto 37, 3) := by decide +kernel
theorem dX11_lacksMove_20 : decode cX11_lacksMove 20 = .ok (.aload_n 0, 1) := by decide +kernel
theorem dX11_lacksMove_21 : decode cX11_lacksMove 21 = .ok (.getfield 7, 3) := by decide +kernel
theorem dX11_lacksMove_24 : decode cX11_lacksMove 24 = .ok (.sipush 219, 3) := by decide +kernel
theorem dX11_lacksMove_27 : decode cX11_lacksMove 27 = .ok (.iaload, 1) := by decide +kernel
theorem dX11_lacksMove_28 : decode cX11_lacksMove 28 = .ok (.ifCond .ne 7, 3) := by decide +kernel
theorem dX11_lacksMove_31 : decode cX11_lacksMove 31 = .ok (.iconst 2, 1) := by decide +kernel
theorem dX11_lacksMove_32 : decode cX11_lacksMove 32 = .ok (.goto 22, 3) := by decide +kernel
theorem dX11_lacksMove_35 : decode cX11_lacksMove 35 = .ok (.aload_n 0, 1) := by decide +kernel
theorem dX11_lacksMove_36 : decode cX11_lacksMove 36 = .ok (.getfield 7, 3) := by decide +kernel
theorem dX11_lacksMove_39 : decode cX11_lacksMove 39 = .ok (.sipush 207, 3) := by decide +kernel
theorem dX11_lacksMove_42 : decode cX11_lacksMove 42 = .ok (.iload_n 1, 1) := by decide +kernel
theorem dX11_lacksMove_43 : decode cX11_lacksMove 43 = .ok (.iadd, 1) := by decide +kernel
theorem dX11_lacksMove_44 : decode cX11_lacksMove 44 = .ok (.iaload, 1) := by decide +kernel
theorem dX11_lacksMove_45 : decode cX11_lacksMove 45 = .ok (.iload_n 2, 1) := by decide +kernel
theorem dX11_lacksMove_46 : decode cX11_lacksMove 46 = .ok (.if_icmp .ne 7, 3) := by decide +kernel
theorem dX11_lacksMove_49 : decode cX11_lacksMove 49 = .ok (.iconst 3, 1) := by decide +kernel
theorem dX11_lacksMove_50 : decode cX11_lacksMove 50 = .ok (.goto 4, 3) := by decide +kernel
theorem dX11_lacksMove_53 : decode cX11_lacksMove 53 = .ok (.iconst 0, 1) := by decide +kernel
theorem dX11_lacksMove_54 : decode cX11_lacksMove 54 = .ok (.ireturn, 1) := by decide +kernel
theorem dX11_move_0 : decode cX11_move 0 = .ok (.aload_n 0, 1) := by decide +kernel
theorem dX11_move_1 : decode cX11_move 1 = .ok (.iload_n 1, 1) := by decide +kernel
theorem dX11_move_2 : decode cX11_move 2 = .ok (.iload_n 2, 1) := by decide +kernel
theorem dX11_move_3 : decode cX11_move 3 = .ok (.invokevirtual 161, 3) := by decide +kernel
theorem dX11_move_6 : decode cX11_move 6 = .ok (.istore_n 3, 1) := by decide +kernel
theorem dX11_move_7 : decode cX11_move 7 = .ok (.iload_n 3, 1) := by decide +kernel
theorem dX11_move_8 : decode cX11_move 8 = .ok (.ifCond .eq 9, 3) := by decide +kernel
theorem dX11_move_11 : decode cX11_move 11 = .ok (.aload_n 0, 1) := by decide +kernel
theorem dX11_move_12 : decode cX11_move 12 = .ok (.iload_n 3, 1) := by decide +kernel
theorem dX11_move_13 : decode cX11_move 13 = .ok (.invokevirtual 65, 3) := by decide +kernel
theorem dX11_move_16 : decode cX11_move 16 = .ok (.ireturn, 1) := by decide +kernel
theorem dX11_move_17 : decode cX11_move 17 = .ok (.aload_n 0, 1) := by decide +kernel
theorem dX11_move_18 : decode cX11_move 18 = .ok (.invokevirtual 164, 3) := by decide +kernel
theorem dX11_move_21 : decode cX11_move 21 = .ok (.aload_n 0, 1) := by decide +kernel
theorem dX11_move_22 : decode cX11_move 22 = .ok (.iload_n 1, 1) := by decide +kernel
theorem dX11_move_23 : decode cX11_move 23 = .ok (.iload_n 2, 1) := by decide +kernel
theorem dX11_move_24 : decode cX11_move 24 = .ok (.invokevirtual 167, 3) := by decide +kernel
theorem dX11_move_27 : decode cX11_move 27 = .ok (.istore 4, 2) := by decide +kernel
theorem dX11_move_29 : decode cX11_move 29 = .ok (.iload 4, 2) := by decide +kernel
theorem dX11_move_31 : decode cX11_move 31 = .ok (.ifCond .eq 17, 3) := by decide +kernel
theorem dX11_move_34 : decode cX11_move 34 = .ok (.aload_n 0, 1) := by decide +kernel
theorem dX11_move_35 : decode cX11_move 35 = .ok (.iload 4, 2) := by decide +kernel
theorem dX11_move_37 : decode cX11_move 37 = .ok (.invokevirtual 152, 3) := by decide +kernel
theorem dX11_move_40 : decode cX11_move 40 = .ok (.istore 4, 2) := by decide +kernel
theorem dX11_move_42 : decode cX11_move 42 = .ok (.aload_n 0, 1) := by decide +kernel
theorem dX11_move_43 : decode cX11_move 43 = .ok (.iconst 4, 1) := by decide +kernel
theorem dX11_move_44 : decode cX11_move 44 = .ok (.invokevirtual 65, 3) := by decide +kernel
theorem dX11_move_47 : decode cX11_move 47 = .ok (.ireturn, 1) := by decide +kernel
theorem dX11_move_48 : decode cX11_move 48 = .ok (.aload_n 0, 1) := by decide +kernel
theorem dX11_move_49 : decode cX11_move 49 = .ok (.invokevirtual 101, 3) := by decide +kernel
theorem dX11_move_52 : decode cX11_move 52 = .ok (.aload_n 0, 1) := by decide +kernel
theorem dX11_move_53 : decode cX11_move 53 = .ok (.getfield 7, 3) := by decide +kernel
theorem dX11_move_56 : decode cX11_move 56 = .ok (.sipush 207, 3) := by decide +kernel
theorem dX11_move_59 : decode cX11_move 59 = .ok (.iload_n 1, 1) := by decide +kernel
theorem dX11_move_60 : decode cX11_move 60 = .ok (.iadd, 1) := by decide +kernel
theorem dX11_move_61 : decode cX11_move 61 = .ok (.iaload, 1) := by decide +kernel
theorem dX11_move_62 : decode cX11_move 62 = .ok (.istore 5, 2) := by decide +kernel
theorem dX11_move_64 : decode cX11_move 64 = .ok (.aload_n 0, 1) := by decide +kernel
theorem dX11_move_65 : decode cX11_move 65 = .ok (.invokevirtual 155, 3) := by decide +kernel
theorem dX11_move_68 : decode cX11_move 68 = .ok (.aload_n 0, 1) := by decide +kernel
theorem dX11_move_69 : decode cX11_move 69 = .ok (.invokevirtual 107, 3) := by decide +kernel
theorem dX11_move_72 : decode cX11_move 72 = .ok (.aload_n 0, 1) := by decide +kernel
theorem dX11_move_73 : decode cX11_move 73 = .ok (.iload 5, 2) := by decide +kernel
theorem dX11_move_75 : decode cX11_move 75 = .ok (.invokevirtual 69, 3) := by decide +kernel
theorem dX11_move_78 : decode cX11_move 78 = .ok (.ireturn, 1) := by decide +kernel
theorem dX11_swap_0 : decode cX11_swap 0 = .ok (.aload_n 0, 1) := by decide +kernel
theorem dX11_swap_1 : decode cX11_swap 1 = .ok (.iload_n 1, 1) := by decide +kernel
theorem dX11_swap_2 : decode cX11_swap 2 = .ok (.invokevirtual 90, 3) := by decide +kernel
theorem dX11_swap_5 : decode cX11_swap 5 = .ok (.ifCond .eq 11, 3) := by decide +kernel
theorem dX11_swap_8 : decode cX11_swap 8 = .ok (.aload_n 0, 1) := by decide +kernel
theorem dX11_swap_9 : decode cX11_swap 9 = .ok (.iload_n 2, 1) := by decide +kernel
theorem dX11_swap_10 : decode cX11_swap 10 = .ok (.invokevirtual 90, 3) := by decide +kernel
theorem dX11_swap_13 : decode cX11_swap 13 = .ok (.ifCond .ne 9, 3) := by decide +kernel
theorem dX11_swap_16 : decode cX11_swap 16 = .ok (.aload_n 0, 1) := by decide +kernel
theorem dX11_swap_17 : decode cX11_swap 17 = .ok (.iconst 1, 1) := by decide +kernel
theorem dX11_swap_18 : decode cX11_swap 18 = .ok (.invokevirtual 65, 3) := by decide +kernel
theorem dX11_swap_21 : decode cX11_swap 21 = .ok (.ireturn, 1) := by decide +kernel
theorem dX11_swap_22 : decode cX11_swap 22 = .ok (.aload_n 0, 1) := by decide +kernel
theorem dX11_swap_23 : decode cX11_swap 23 = .ok (.getfield 7, 3) := by decide +kernel
theorem dX11_swap_26 : decode cX11_swap 26 = .ok (.sipush 219, 3) := by decide +kernel
theorem dX11_swap_29 : decode cX11_swap 29 = .ok (.iaload, 1) := by decide +kernel
theorem dX11_swap_30 : decode cX11_swap 30 = .ok (.ifCond .ne 9, 3) := by decide +kernel
theorem dX11_swap_33 : decode cX11_swap 33 = .ok (.aload_n 0, 1) := by decide +kernel
theorem dX11_swap_34 : decode cX11_swap 34 = .ok (.iconst 2, 1) := by decide +kernel
theorem dX11_swap_35 : decode cX11_swap 35 = .ok (.invokevirtual 65, 3) := by decide +kernel
theorem dX11_swap_38 : decode cX11_swap 38 = .ok (.ireturn, 1) := by decide +kernel
theorem dX11_swap_39 : decode cX11_swap 39 = .ok (.aload_n 0, 1) := by decide +kernel
theorem dX11_swap_40 : decode cX11_swap 40 = .ok (.getfield 7, 3) := by decide +kernel
theorem dX11_swap_43 : decode cX11_swap 43 = .ok (.sipush 207, 3) := by decide +kernel
theorem dX11_swap_46 : decode cX11_swap 46 = .ok (.iload_n 1, 1) := by decide +kernel
theorem dX11_swap_47 : decode cX11_swap 47 = .ok (.iadd, 1) := by decide +kernel
theorem dX11_swap_48 : decode cX11_swap 48 = .ok (.iaload, 1) := by decide +kernel
theorem dX11_swap_49 : decode cX11_swap 49 = .ok (.aload_n 0, 1) := by decide +kernel
theorem dX11_swap_50 : decode cX11_swap 50 = .ok (.getfield 7, 3) := by decide +kernel
theorem dX11_swap_53 : decode cX11_swap 53 = .ok (.sipush 207, 3) := by decide +kernel
theorem dX11_swap_56 : decode cX11_swap 56 = .ok (.iload_n 2, 1) := by decide +kernel
theorem dX11_swap_57 : decode cX11_swap 57 = .ok (.iadd, 1) := by decide +kernel
theorem dX11_swap_58 : decode cX11_swap 58 = .ok (.iaload, 1) := by decide +kernel
theorem dX11_swap_59 : decode cX11_swap 59 = .ok (.if_icmp .ne 9, 3) := by decide +kernel
theorem dX11_swap_62 : decode cX11_swap 62 = .ok (.aload_n 0, 1) := by decide +kernel
theorem dX11_swap_63 : decode cX11_swap 63 = .ok (.iconst 3, 1) := by decide +kernel
theorem dX11_swap_64 : decode cX11_swap 64 = .ok (.invokevirtual 65, 3) := by decide +kernel
theorem dX11_swap_67 : decode cX11_swap 67 = .ok (.ireturn, 1) := by decide +kernel
theorem dX11_swap_68 : decode cX11_swap 68 = .ok (.aload_n 0, 1) := by decide +kernel
theorem dX11_swap_69 : decode cX11_swap 69 = .ok (.invokevirtual 164, 3) := by decide +kernel
theorem dX11_swap_72 : decode cX11_swap 72 = .ok (.aload_n 0, 1) := by decide +kernel
theorem dX11_swap_73 : decode cX11_swap 73 = .ok (.iload_n 1, 1) := by decide +kernel
theorem dX11_swap_74 : decode cX11_swap 74 = .ok (.iload_n 2, 1) := by decide +kernel
theorem dX11_swap_75 : decode cX11_swap 75 = .ok (.invokevirtual 170, 3) := by decide +kernel
theorem dX11_swap_78 : decode cX11_swap 78 = .ok (.istore_n 3, 1) := by decide +kernel
theorem dX11_swap_79 : decode cX11_swap 79 = .ok (.iload_n 3, 1) := by decide +kernel
theorem dX11_swap_80 : decode cX11_swap 80 = .ok (.ifCond .eq 15, 3) := by decide +kernel
theorem dX11_swap_83 : decode cX11_swap 83 = .ok (.aload_n 0, 1) := by decide +kernel
theorem dX11_swap_84 : decode cX11_swap 84 = .ok (.iload_n 3, 1) := by decide +kernel
theorem dX11_swap_85 : decode cX11_swap 85 = .ok (.invokevirtual 152, 3) := by decide +kernel
theorem dX11_swap_88 : decode cX11_swap 88 = .ok (.istore_n 3, 1) := by decide +kernel
theorem dX11_swap_89 : decode cX11_swap 89 = .ok (.aload_n 0, 1) := by decide +kernel
theorem dX11_swap_90 : decode cX11_swap 90 = .ok (.iconst 4, 1) := by decide +kernel
theorem dX11_swap_91 : decode cX11_swap 91 = .ok (.invokevirtual 65, 3) := by decide +kernel
theorem dX11_swap_94 : decode cX11_swap 94 = .ok (.ireturn, 1) := by decide +kernel
theorem dX11_swap_95 : decode cX11_swap 95 = .ok (.aload_n 0, 1) := by decide +kernel
theorem dX11_swap_96 : decode cX11_swap 96 = .ok (.invokevirtual 101, 3) := by decide +kernel
theorem dX11_swap_99 : decode cX11_swap 99 = .ok (.aload_n 0, 1) := by decide +kernel
theorem dX11_swap_100 : decode cX11_swap 100 = .ok (.getfield 7, 3) := by decide +kernel
theorem dX11_swap_103 : decode cX11_swap 103 = .ok (.sipush 207, 3) := by decide +kernel
theorem dX11_swap_106 : decode cX11_swap 106 = .ok (.iload_n 1, 1) := by decide +kernel
theorem dX11_swap_107 : decode cX11_swap 107 = .ok (.iadd, 1) := by decide +kernel
theorem dX11_swap_108 : decode cX11_swap 108 = .ok (.iaload, 1) := by decide +kernel
theorem dX11_swap_109 : decode cX11_swap 109 = .ok (.istore 4, 2) := by decide +kernel
theorem dX11_swap_111 : decode cX11_swap 111 = .ok (.aload_n 0, 1) := by decide +kernel
theorem dX11_swap_112 : decode cX11_swap 112 = .ok (.invokevirtual 155, 3) := by decide +kernel
theorem dX11_swap_115 : decode cX11_swap 115 = .ok (.aload_n 0, 1) := by decide +kernel
theorem dX11_swap_116 : decode cX11_swap 116 = .ok (.invokevirtual 107, 3) := by decide +kernel
theorem dX11_swap_119 : decode cX11_swap 119 = .ok (.aload_n 0, 1) := by decide +kernel
theorem dX11_swap_120 : decode cX11_swap 120 = .ok (.iload 4, 2) := by decide +kernel
theorem dX11_swap_122 : decode cX11_swap 122 = .ok (.invokevirtual 69, 3) := by decide +kernel
theorem dX11_swap_125 : decode cX11_swap 125 = .ok (.ireturn, 1) := by decide +kernel
theorem dX11_refuses_0 : decode cX11_refuses 0 = .ok (.aload_n 0, 1) := by decide +kernel
theorem dX11_refuses_1 : decode cX11_refuses 1 = .ok (.iload_n 1, 1) := by decide +kernel
theorem dX11_refuses_2 : decode cX11_refuses 2 = .ok (.iload_n 2, 1) := by decide +kernel
theorem dX11_refuses_3 : decode cX11_refuses 3 = .ok (.invokevirtual 161, 3) := by decide +kernel
theorem dX11_refuses_6 : decode cX11_refuses 6 = .ok (.istore_n 3, 1) := by decide +kernel
theorem dX11_refuses_7 : decode cX11_refuses 7 = .ok (.iload_n 3, 1) := by decide +kernel
theorem dX11_refuses_8 : decode cX11_refuses 8 = .ok (.ifCond .eq 9, 3) := by decide +kernel
theorem dX11_refuses_11 : decode cX11_refuses 11 = .ok (.aload_n 0, 1) := by decide +kernel
theorem dX11_refuses_12 : decode cX11_refuses 12 = .ok (.iload_n 3, 1) := by decide +kernel
theorem dX11_refuses_13 : decode cX11_refuses 13 = .ok (.invokevirtual 65, 3) := by decide +kernel
theorem dX11_refuses_16 : decode cX11_refuses 16 = .ok (.ireturn, 1) := by decide +kernel
theorem dX11_refuses_17 : decode cX11_refuses 17 = .ok (.aload_n 0, 1) := by decide +kernel
theorem dX11_refuses_18 : decode cX11_refuses 18 = .ok (.invokevirtual 164, 3) := by decide +kernel
theorem dX11_refuses_21 : decode cX11_refuses 21 = .ok (.aload_n 0, 1) := by decide +kernel
theorem dX11_refuses_22 : decode cX11_refuses 22 = .ok (.aload_n 0, 1) := by decide +kernel
theorem dX11_refuses_23 : decode cX11_refuses 23 = .ok (.iload_n 1, 1) := by decide +kernel
theorem dX11_refuses_24 : decode cX11_refuses 24 = .ok (.iload_n 2, 1) := by decide +kernel
theorem dX11_refuses_25 : decode cX11_refuses 25 = .ok (.invokevirtual 167, 3) := by decide +kernel
theorem dX11_refuses_28 : decode cX11_refuses 28 = .ok (.invokevirtual 69, 3) := by decide +kernel
theorem dX11_refuses_31 : decode cX11_refuses 31 = .ok (.ireturn, 1) := by decide +kernel
theorem dX11_refusal_0 : decode cX11_refusal 0 = .ok (.aload_n 0, 1) := by decide +kernel
theorem dX11_refusal_1 : decode cX11_refusal 1 = .ok (.getfield 140, 3) := by decide +kernel
theorem dX11_refusal_4 : decode cX11_refusal 4 = .ok (.ifCond .ne 11, 3) := by decide +kernel
theorem dX11_refusal_7 : decode cX11_refusal 7 = .ok (.aload_n 0, 1) := by decide +kernel
theorem dX11_refusal_8 : decode cX11_refusal 8 = .ok (.iconst 1, 1) := by decide +kernel
theorem dX11_refusal_9 : decode cX11_refusal 9 = .ok (.invokevirtual 65, 3) := by decide +kernel
theorem dX11_refusal_12 : decode cX11_refusal 12 = .ok (.goto 22, 3) := by decide +kernel
theorem dX11_refusal_15 : decode cX11_refusal 15 = .ok (.aload_n 0, 1) := by decide +kernel
theorem dX11_refusal_16 : decode cX11_refusal 16 = .ok (.iload_n 1, 1) := by decide +kernel
theorem dX11_refusal_17 : decode cX11_refusal 17 = .ok (.ifCond .eq 10, 3) := by decide +kernel
theorem dX11_refusal_20 : decode cX11_refusal 20 = .ok (.aload_n 0, 1) := by decide +kernel
theorem dX11_refusal_21 : decode cX11_refusal 21 = .ok (.getfield 143, 3) := by decide +kernel
theorem dX11_refusal_24 : decode cX11_refusal 24 = .ok (.goto 7, 3) := by decide +kernel
theorem dX11_refusal_27 : decode cX11_refusal 27 = .ok (.aload_n 0, 1) := by decide +kernel
theorem dX11_refusal_28 : decode cX11_refusal 28 = .ok (.getfield 140, 3) := by decide +kernel
theorem dX11_refusal_31 : decode cX11_refusal 31 = .ok (.invokevirtual 69, 3) := by decide +kernel
theorem dX11_refusal_34 : decode cX11_refusal 34 = .ok (.ireturn, 1) := by decide +kernel
theorem dX11_perimeter_0 : decode cX11_perimeter 0 = .ok (.aload_n 0, 1) := by decide +kernel
theorem dX11_perimeter_1 : decode cX11_perimeter 1 = .ok (.aload_n 0, 1) := by decide +kernel
theorem dX11_perimeter_2 : decode cX11_perimeter 2 = .ok (.iload_n 1, 1) := by decide +kernel
theorem dX11_perimeter_3 : decode cX11_perimeter 3 = .ok (.invokevirtual 131, 3) := by decide +kernel
theorem dX11_perimeter_6 : decode cX11_perimeter 6 = .ok (.iconst 4, 1) := by decide +kernel
theorem dX11_perimeter_7 : decode cX11_perimeter 7 = .ok (.invokevirtual 122, 3) := by decide +kernel
theorem dX11_perimeter_10 : decode cX11_perimeter 10 = .ok (.istore_n 2, 1) := by decide +kernel
theorem dX11_perimeter_11 : decode cX11_perimeter 11 = .ok (.iconst 0, 1) := by decide +kernel
theorem dX11_perimeter_12 : decode cX11_perimeter 12 = .ok (.istore_n 3, 1) := by decide +kernel
theorem dX11_perimeter_13 : decode cX11_perimeter 13 = .ok (.iload_n 3, 1) := by decide +kernel
theorem dX11_perimeter_14 : decode cX11_perimeter 14 = .ok (.aload_n 0, 1) := by decide +kernel
theorem dX11_perimeter_15 : decode cX11_perimeter 15 = .ok (.getfield 7, 3) := by decide +kernel
theorem dX11_perimeter_18 : decode cX11_perimeter 18 = .ok (.sipush 204, 3) := by decide +kernel
theorem dX11_perimeter_21 : decode cX11_perimeter 21 = .ok (.iaload, 1) := by decide +kernel
theorem dX11_perimeter_22 : decode cX11_perimeter 22 = .ok (.if_icmp .ge 66, 3) := by decide +kernel
theorem dX11_perimeter_25 : decode cX11_perimeter 25 = .ok (.iconst 0, 1) := by decide +kernel
theorem dX11_perimeter_26 : decode cX11_perimeter 26 = .ok (.istore 4, 2) := by decide +kernel
theorem dX11_perimeter_28 : decode cX11_perimeter 28 = .ok (.iload 4, 2) := by decide +kernel
theorem dX11_perimeter_30 : decode cX11_perimeter 30 = .ok (.aload_n 0, 1) := by decide +kernel
theorem dX11_perimeter_31 : decode cX11_perimeter 31 = .ok (.getfield 7, 3) := by decide +kernel
theorem dX11_perimeter_34 : decode cX11_perimeter 34 = .ok (.sipush 204, 3) := by decide +kernel
theorem dX11_perimeter_37 : decode cX11_perimeter 37 = .ok (.iaload, 1) := by decide +kernel
theorem dX11_perimeter_38 : decode cX11_perimeter 38 = .ok (.if_icmp .ge 44, 3) := by decide +kernel
theorem dX11_perimeter_41 : decode cX11_perimeter 41 = .ok (.iload_n 2, 1) := by decide +kernel
theorem dX11_perimeter_42 : decode cX11_perimeter 42 = .ok (.aload_n 0, 1) := by decide +kernel
theorem dX11_perimeter_43 : decode cX11_perimeter 43 = .ok (.getfield 33, 3) := by decide +kernel
theorem dX11_perimeter_46 : decode cX11_perimeter 46 = .ok (.iload_n 3, 1) := by decide +kernel
theorem dX11_perimeter_47 : decode cX11_perimeter 47 = .ok (.iaload, 1) := by decide +kernel
theorem dX11_perimeter_48 : decode cX11_perimeter 48 = .ok (.iload_n 1, 1) := by decide +kernel
theorem dX11_perimeter_49 : decode cX11_perimeter 49 = .ok (.if_icmp .ne 24, 3) := by decide +kernel
theorem dX11_perimeter_52 : decode cX11_perimeter 52 = .ok (.aload_n 0, 1) := by decide +kernel
theorem dX11_perimeter_53 : decode cX11_perimeter 53 = .ok (.getfield 33, 3) := by decide +kernel
theorem dX11_perimeter_56 : decode cX11_perimeter 56 = .ok (.iload 4, 2) := by decide +kernel
theorem dX11_perimeter_58 : decode cX11_perimeter 58 = .ok (.iaload, 1) := by decide +kernel
theorem dX11_perimeter_59 : decode cX11_perimeter 59 = .ok (.iload_n 1, 1) := by decide +kernel
theorem dX11_perimeter_60 : decode cX11_perimeter 60 = .ok (.if_icmp .eq 13, 3) := by decide +kernel
theorem dX11_perimeter_63 : decode cX11_perimeter 63 = .ok (.aload_n 0, 1) := by decide +kernel
theorem dX11_perimeter_64 : decode cX11_perimeter 64 = .ok (.iload_n 3, 1) := by decide +kernel
theorem dX11_perimeter_65 : decode cX11_perimeter 65 = .ok (.iload 4, 2) := by decide +kernel
theorem dX11_perimeter_67 : decode cX11_perimeter 67 = .ok (.invokevirtual 93, 3) := by decide +kernel
theorem dX11_perimeter_70 : decode cX11_perimeter 70 = .ok (.goto 4, 3) := by decide +kernel
theorem dX11_perimeter_73 : decode cX11_perimeter 73 = .ok (.iconst 0, 1) := by decide +kernel
theorem dX11_perimeter_74 : decode cX11_perimeter 74 = .ok (.iadd, 1) := by decide +kernel
theorem dX11_perimeter_75 : decode cX11_perimeter 75 = .ok (.istore_n 2, 1) := by decide +kernel
theorem dX11_perimeter_76 : decode cX11_perimeter 76 = .ok (.iinc 4 1, 3) := by decide +kernel
theorem dX11_perimeter_79 : decode cX11_perimeter 79 = .ok (.goto (-51), 3) := by decide +kernel
theorem dX11_perimeter_82 : decode cX11_perimeter 82 = .ok (.iinc 3 1, 3) := by decide +kernel
theorem dX11_perimeter_85 : decode cX11_perimeter 85 = .ok (.goto (-72), 3) := by decide +kernel
theorem dX11_perimeter_88 : decode cX11_perimeter 88 = .ok (.iload_n 2, 1) := by decide +kernel
theorem dX11_perimeter_89 : decode cX11_perimeter 89 = .ok (.ireturn, 1) := by decide +kernel
theorem dX11_others_0 : decode cX11_others 0 = .ok (.iconst 0, 1) := by decide +kernel
theorem dX11_others_1 : decode cX11_others 1 = .ok (.istore_n 2, 1) := by decide +kernel
theorem dX11_others_2 : decode cX11_others 2 = .ok (.iconst 0, 1) := by decide +kernel
theorem dX11_others_3 : decode cX11_others 3 = .ok (.istore_n 3, 1) := by decide +kernel
theorem dX11_others_4 : decode cX11_others 4 = .ok (.iload_n 3, 1) := by decide +kernel
theorem dX11_others_5 : decode cX11_others 5 = .ok (.aload_n 0, 1) := by decide +kernel
theorem dX11_others_6 : decode cX11_others 6 = .ok (.getfield 7, 3) := by decide +kernel
theorem dX11_others_9 : decode cX11_others 9 = .ok (.sipush 204, 3) := by decide +kernel
theorem dX11_others_12 : decode cX11_others 12 = .ok (.iaload, 1) := by decide +kernel
theorem dX11_others_13 : decode cX11_others 13 = .ok (.if_icmp .ge 78, 3) := by decide +kernel
theorem dX11_others_16 : decode cX11_others 16 = .ok (.iconst 0, 1) := by decide +kernel
theorem dX11_others_17 : decode cX11_others 17 = .ok (.istore 4, 2) := by decide +kernel
theorem dX11_others_19 : decode cX11_others 19 = .ok (.iload 4, 2) := by decide +kernel
theorem dX11_others_21 : decode cX11_others 21 = .ok (.aload_n 0, 1) := by decide +kernel
theorem dX11_others_22 : decode cX11_others 22 = .ok (.getfield 7, 3) := by decide +kernel
theorem dX11_others_25 : decode cX11_others 25 = .ok (.sipush 204, 3) := by decide +kernel
theorem dX11_others_28 : decode cX11_others 28 = .ok (.iaload, 1) := by decide +kernel
theorem dX11_others_29 : decode cX11_others 29 = .ok (.if_icmp .ge 56, 3) := by decide +kernel
theorem dX11_others_32 : decode cX11_others 32 = .ok (.iload_n 2, 1) := by decide +kernel
theorem dX11_others_33 : decode cX11_others 33 = .ok (.aload_n 0, 1) := by decide +kernel
theorem dX11_others_34 : decode cX11_others 34 = .ok (.getfield 33, 3) := by decide +kernel
theorem dX11_others_37 : decode cX11_others 37 = .ok (.iload_n 3, 1) := by decide +kernel
theorem dX11_others_38 : decode cX11_others 38 = .ok (.iaload, 1) := by decide +kernel
theorem dX11_others_39 : decode cX11_others 39 = .ok (.iload_n 1, 1) := by decide +kernel
theorem dX11_others_40 : decode cX11_others 40 = .ok (.if_icmp .ne 36, 3) := by decide +kernel
theorem dX11_others_43 : decode cX11_others 43 = .ok (.aload_n 0, 1) := by decide +kernel
theorem dX11_others_44 : decode cX11_others 44 = .ok (.getfield 33, 3) := by decide +kernel
theorem dX11_others_47 : decode cX11_others 47 = .ok (.iload 4, 2) := by decide +kernel
theorem dX11_others_49 : decode cX11_others 49 = .ok (.iaload, 1) := by decide +kernel
theorem dX11_others_50 : decode cX11_others 50 = .ok (.iload_n 1, 1) := by decide +kernel
theorem dX11_others_51 : decode cX11_others 51 = .ok (.if_icmp .eq 25, 3) := by decide +kernel
theorem dX11_others_54 : decode cX11_others 54 = .ok (.aload_n 0, 1) := by decide +kernel
theorem dX11_others_55 : decode cX11_others 55 = .ok (.iload_n 3, 1) := by decide +kernel
theorem dX11_others_56 : decode cX11_others 56 = .ok (.iload 4, 2) := by decide +kernel
theorem dX11_others_58 : decode cX11_others 58 = .ok (.invokevirtual 93, 3) := by decide +kernel
theorem dX11_others_61 : decode cX11_others 61 = .ok (.ifCond .le 15, 3) := by decide +kernel
theorem dX11_others_64 : decode cX11_others 64 = .ok (.iconst 1, 1) := by decide +kernel
theorem dX11_others_65 : decode cX11_others 65 = .ok (.aload_n 0, 1) := by decide +kernel
theorem dX11_others_66 : decode cX11_others 66 = .ok (.getfield 33, 3) := by decide +kernel
theorem dX11_others_69 : decode cX11_others 69 = .ok (.iload 4, 2) := by decide +kernel
theorem dX11_others_71 : decode cX11_others 71 = .ok (.iaload, 1) := by decide +kernel
theorem dX11_others_72 : decode cX11_others 72 = .ok (.ishl, 1) := by decide +kernel
theorem dX11_others_73 : decode cX11_others 73 = .ok (.goto 4, 3) := by decide +kernel
theorem dX11_others_76 : decode cX11_others 76 = .ok (.iconst 0, 1) := by decide +kernel
theorem dX11_others_77 : decode cX11_others 77 = .ok (.ior, 1) := by decide +kernel
theorem dX11_others_78 : decode cX11_others 78 = .ok (.istore_n 2, 1) := by decide +kernel
theorem dX11_others_79 : decode cX11_others 79 = .ok (.iinc 4 1, 3) := by decide +kernel
theorem dX11_others_82 : decode cX11_others 82 = .ok (.goto (-63), 3) := by decide +kernel
theorem dX11_others_85 : decode cX11_others 85 = .ok (.iinc 3 1, 3) := by decide +kernel
theorem dX11_others_88 : decode cX11_others 88 = .ok (.goto (-84), 3) := by decide +kernel
theorem dX11_others_91 : decode cX11_others 91 = .ok (.iload_n 2, 1) := by decide +kernel
theorem dX11_others_92 : decode cX11_others 92 = .ok (.ireturn, 1) := by decide +kernel
theorem dX11_district_0 : decode cX11_district 0 = .ok (.aload_n 0, 1) := by decide +kernel
theorem dX11_district_1 : decode cX11_district 1 = .ok (.iload_n 1, 1) := by decide +kernel
theorem dX11_district_2 : decode cX11_district 2 = .ok (.invokevirtual 146, 3) := by decide +kernel
theorem dX11_district_5 : decode cX11_district 5 = .ok (.ifCond .ne 9, 3) := by decide +kernel
theorem dX11_district_8 : decode cX11_district 8 = .ok (.aload_n 0, 1) := by decide +kernel
theorem dX11_district_9 : decode cX11_district 9 = .ok (.iconst 1, 1) := by decide +kernel
theorem dX11_district_10 : decode cX11_district 10 = .ok (.invokevirtual 65, 3) := by decide +kernel
theorem dX11_district_13 : decode cX11_district 13 = .ok (.ireturn, 1) := by decide +kernel
theorem dX11_district_14 : decode cX11_district 14 = .ok (.iload_n 2, 1) := by decide +kernel
theorem dX11_district_15 : decode cX11_district 15 = .ok (.iconst 0, 1) := by decide +kernel
theorem dX11_district_16 : decode cX11_district 16 = .ok (.bipush 6, 2) := by decide +kernel
theorem dX11_district_18 : decode cX11_district 18 = .ok (.invokestatic 55, 3) := by decide +kernel
theorem dX11_district_21 : decode cX11_district 21 = .ok (.ifCond .ne 9, 3) := by decide +kernel
theorem dX11_district_24 : decode cX11_district 24 = .ok (.aload_n 0, 1) := by decide +kernel
theorem dX11_district_25 : decode cX11_district 25 = .ok (.iconst 2, 1) := by decide +kernel
theorem dX11_district_26 : decode cX11_district 26 = .ok (.invokevirtual 65, 3) := by decide +kernel
theorem dX11_district_29 : decode cX11_district 29 = .ok (.ireturn, 1) := by decide +kernel
theorem dX11_district_30 : decode cX11_district 30 = .ok (.aload_n 0, 1) := by decide +kernel
theorem dX11_district_31 : decode cX11_district 31 = .ok (.getfield 7, 3) := by decide +kernel
theorem dX11_district_34 : decode cX11_district 34 = .ok (.sipush 219, 3) := by decide +kernel
theorem dX11_district_37 : decode cX11_district 37 = .ok (.iaload, 1) := by decide +kernel
theorem dX11_district_38 : decode cX11_district 38 = .ok (.ifCond .ne 9, 3) := by decide +kernel
theorem dX11_district_41 : decode cX11_district 41 = .ok (.aload_n 0, 1) := by decide +kernel
theorem dX11_district_42 : decode cX11_district 42 = .ok (.iconst 3, 1) := by decide +kernel
theorem dX11_district_43 : decode cX11_district 43 = .ok (.invokevirtual 65, 3) := by decide +kernel
theorem dX11_district_46 : decode cX11_district 46 = .ok (.ireturn, 1) := by decide +kernel
theorem dX11_district_47 : decode cX11_district 47 = .ok (.aload_n 0, 1) := by decide +kernel
theorem dX11_district_48 : decode cX11_district 48 = .ok (.invokevirtual 164, 3) := by decide +kernel
theorem dX11_district_51 : decode cX11_district 51 = .ok (.aload_n 0, 1) := by decide +kernel
theorem dX11_district_52 : decode cX11_district 52 = .ok (.iload_n 1, 1) := by decide +kernel
theorem dX11_district_53 : decode cX11_district 53 = .ok (.invokevirtual 131, 3) := by decide +kernel
theorem dX11_district_56 : decode cX11_district 56 = .ok (.istore_n 3, 1) := by decide +kernel
theorem dX11_district_57 : decode cX11_district 57 = .ok (.iload_n 2, 1) := by decide +kernel
theorem dX11_district_58 : decode cX11_district 58 = .ok (.tableswitch 120 0 5 #[38, 81, 87, 87, 100, 110], 38) := by decide +kernel
theorem dX11_district_96 : decode cX11_district 96 = .ok (.iconst 0, 1) := by decide +kernel
theorem dX11_district_97 : decode cX11_district 97 = .ok (.istore 4, 2) := by decide +kernel
theorem dX11_district_99 : decode cX11_district 99 = .ok (.iconst 0, 1) := by decide +kernel
theorem dX11_district_100 : decode cX11_district 100 = .ok (.istore 5, 2) := by decide +kernel
theorem dX11_district_102 : decode cX11_district 102 = .ok (.iload 5, 2) := by decide +kernel
theorem dX11_district_104 : decode cX11_district 104 = .ok (.aload_n 0, 1) := by decide +kernel
theorem dX11_district_105 : decode cX11_district 105 = .ok (.getfield 7, 3) := by decide +kernel
theorem dX11_district_108 : decode cX11_district 108 = .ok (.sipush 204, 3) := by decide +kernel
theorem dX11_district_111 : decode cX11_district 111 = .ok (.iaload, 1) := by decide +kernel
theorem dX11_district_112 : decode cX11_district 112 = .ok (.if_icmp .ge 20, 3) := by decide +kernel
theorem dX11_district_115 : decode cX11_district 115 = .ok (.iload 4, 2) := by decide +kernel
theorem dX11_district_117 : decode cX11_district 117 = .ok (.iload_n 3, 1) := by decide +kernel
theorem dX11_district_118 : decode cX11_district 118 = .ok (.iload 5, 2) := by decide +kernel
theorem dX11_district_120 : decode cX11_district 120 = .ok (.ishr, 1) := by decide +kernel
theorem dX11_district_121 : decode cX11_district 121 = .ok (.iconst 1, 1) := by decide +kernel
theorem dX11_district_122 : decode cX11_district 122 = .ok (.iand, 1) := by decide +kernel
theorem dX11_district_123 : decode cX11_district 123 = .ok (.iadd, 1) := by decide +kernel
theorem dX11_district_124 : decode cX11_district 124 = .ok (.istore 4, 2) := by decide +kernel
theorem dX11_district_126 : decode cX11_district 126 = .ok (.iinc 5 1, 3) := by decide +kernel
theorem dX11_district_129 : decode cX11_district 129 = .ok (.goto (-27), 3) := by decide +kernel
theorem dX11_district_132 : decode cX11_district 132 = .ok (.aload_n 0, 1) := by decide +kernel
theorem dX11_district_133 : decode cX11_district 133 = .ok (.iload 4, 2) := by decide +kernel
theorem dX11_district_135 : decode cX11_district 135 = .ok (.invokevirtual 69, 3) := by decide +kernel
theorem dX11_district_138 : decode cX11_district 138 = .ok (.ireturn, 1) := by decide +kernel
theorem dX11_district_139 : decode cX11_district 139 = .ok (.aload_n 0, 1) := by decide +kernel
theorem dX11_district_140 : decode cX11_district 140 = .ok (.iload_n 3, 1) := by decide +kernel
theorem dX11_district_141 : decode cX11_district 141 = .ok (.invokevirtual 69, 3) := by decide +kernel
theorem dX11_district_144 : decode cX11_district 144 = .ok (.ireturn, 1) := by decide +kernel
theorem dX11_district_145 : decode cX11_district 145 = .ok (.aload_n 0, 1) := by decide +kernel
theorem dX11_district_146 : decode cX11_district 146 = .ok (.aload_n 0, 1) := by decide +kernel
theorem dX11_district_147 : decode cX11_district 147 = .ok (.iload_n 3, 1) := by decide +kernel
theorem dX11_district_148 : decode cX11_district 148 = .ok (.iload_n 2, 1) := by decide +kernel
theorem dX11_district_149 : decode cX11_district 149 = .ok (.iconst 2, 1) := by decide +kernel
theorem dX11_district_150 : decode cX11_district 150 = .ok (.isub, 1) := by decide +kernel
theorem dX11_district_151 : decode cX11_district 151 = .ok (.invokevirtual 122, 3) := by decide +kernel
theorem dX11_district_154 : decode cX11_district 154 = .ok (.invokevirtual 69, 3) := by decide +kernel
theorem dX11_district_157 : decode cX11_district 157 = .ok (.ireturn, 1) := by decide +kernel
theorem dX11_district_158 : decode cX11_district 158 = .ok (.aload_n 0, 1) := by decide +kernel
theorem dX11_district_159 : decode cX11_district 159 = .ok (.aload_n 0, 1) := by decide +kernel
theorem dX11_district_160 : decode cX11_district 160 = .ok (.iload_n 1, 1) := by decide +kernel
theorem dX11_district_161 : decode cX11_district 161 = .ok (.invokevirtual 173, 3) := by decide +kernel
theorem dX11_district_164 : decode cX11_district 164 = .ok (.invokevirtual 69, 3) := by decide +kernel
theorem dX11_district_167 : decode cX11_district 167 = .ok (.ireturn, 1) := by decide +kernel
theorem dX11_district_168 : decode cX11_district 168 = .ok (.aload_n 0, 1) := by decide +kernel
theorem dX11_district_169 : decode cX11_district 169 = .ok (.aload_n 0, 1) := by decide +kernel
theorem dX11_district_170 : decode cX11_district 170 = .ok (.iload_n 1, 1) := by decide +kernel
theorem dX11_district_171 : decode cX11_district 171 = .ok (.invokevirtual 176, 3) := by decide +kernel
theorem dX11_district_174 : decode cX11_district 174 = .ok (.invokevirtual 69, 3) := by decide +kernel
theorem dX11_district_177 : decode cX11_district 177 = .ok (.ireturn, 1) := by decide +kernel
theorem dX11_district_178 : decode cX11_district 178 = .ok (.aload_n 0, 1) := by decide +kernel
theorem dX11_district_179 : decode cX11_district 179 = .ok (.aload_n 0, 1) := by decide +kernel
theorem dX11_district_180 : decode cX11_district 180 = .ok (.iload_n 3, 1) := by decide +kernel
theorem dX11_district_181 : decode cX11_district 181 = .ok (.invokevirtual 128, 3) := by decide +kernel
theorem dX11_district_184 : decode cX11_district 184 = .ok (.invokevirtual 69, 3) := by decide +kernel
theorem dX11_district_187 : decode cX11_district 187 = .ok (.ireturn, 1) := by decide +kernel
theorem dX11_divisor_0 : decode cX11_divisor 0 = .ok (.lload_n 0, 1) := by decide +kernel
theorem dX11_divisor_1 : decode cX11_divisor 1 = .ok (.lstore 4, 2) := by decide +kernel
theorem dX11_divisor_3 : decode cX11_divisor 3 = .ok (.lload_n 2, 1) := by decide +kernel
theorem dX11_divisor_4 : decode cX11_divisor 4 = .ok (.lstore 6, 2) := by decide +kernel
theorem dX11_divisor_6 : decode cX11_divisor 6 = .ok (.lload 6, 2) := by decide +kernel
theorem dX11_divisor_8 : decode cX11_divisor 8 = .ok (.lconst 0, 1) := by decide +kernel
theorem dX11_divisor_9 : decode cX11_divisor 9 = .ok (.lcmp, 1) := by decide +kernel
theorem dX11_divisor_10 : decode cX11_divisor 10 = .ok (.ifCond .eq 21, 3) := by decide +kernel
theorem dX11_divisor_13 : decode cX11_divisor 13 = .ok (.lload 4, 2) := by decide +kernel
theorem dX11_divisor_15 : decode cX11_divisor 15 = .ok (.lload 6, 2) := by decide +kernel
theorem dX11_divisor_17 : decode cX11_divisor 17 = .ok (.lrem, 1) := by decide +kernel
theorem dX11_divisor_18 : decode cX11_divisor 18 = .ok (.lstore 8, 2) := by decide +kernel
theorem dX11_divisor_20 : decode cX11_divisor 20 = .ok (.lload 6, 2) := by decide +kernel
theorem dX11_divisor_22 : decode cX11_divisor 22 = .ok (.lstore 4, 2) := by decide +kernel
theorem dX11_divisor_24 : decode cX11_divisor 24 = .ok (.lload 8, 2) := by decide +kernel
theorem dX11_divisor_26 : decode cX11_divisor 26 = .ok (.lstore 6, 2) := by decide +kernel
theorem dX11_divisor_28 : decode cX11_divisor 28 = .ok (.goto (-22), 3) := by decide +kernel
theorem dX11_divisor_31 : decode cX11_divisor 31 = .ok (.lload 4, 2) := by decide +kernel
theorem dX11_divisor_33 : decode cX11_divisor 33 = .ok (.lreturn, 1) := by decide +kernel
theorem dX11_tellCompactness_0 : decode cX11_tellCompactness 0 = .ok (.aload_n 0, 1) := by decide +kernel
theorem dX11_tellCompactness_1 : decode cX11_tellCompactness 1 = .ok (.iload_n 1, 1) := by decide +kernel
theorem dX11_tellCompactness_2 : decode cX11_tellCompactness 2 = .ok (.invokevirtual 173, 3) := by decide +kernel
theorem dX11_tellCompactness_5 : decode cX11_tellCompactness 5 = .ok (.i2l, 1) := by decide +kernel
theorem dX11_tellCompactness_6 : decode cX11_tellCompactness 6 = .ok (.lstore_n 2, 1) := by decide +kernel
theorem dX11_tellCompactness_7 : decode cX11_tellCompactness 7 = .ok (.aload_n 0, 1) := by decide +kernel
theorem dX11_tellCompactness_8 : decode cX11_tellCompactness 8 = .ok (.lload_n 2, 1) := by decide +kernel
theorem dX11_tellCompactness_9 : decode cX11_tellCompactness 9 = .ok (.lconst 0, 1) := by decide +kernel
theorem dX11_tellCompactness_10 : decode cX11_tellCompactness 10 = .ok (.lcmp, 1) := by decide +kernel
theorem dX11_tellCompactness_11 : decode cX11_tellCompactness 11 = .ok (.ifCond .ne 7, 3) := by decide +kernel
theorem dX11_tellCompactness_14 : decode cX11_tellCompactness 14 = .ok (.lconst 0, 1) := by decide +kernel
theorem dX11_tellCompactness_15 : decode cX11_tellCompactness 15 = .ok (.goto 18, 3) := by decide +kernel
theorem dX11_tellCompactness_18 : decode cX11_tellCompactness 18 = .ok (.ldc2_w 179, 3) := by decide +kernel
theorem dX11_tellCompactness_21 : decode cX11_tellCompactness 21 = .ok (.aload_n 0, 1) := by decide +kernel
theorem dX11_tellCompactness_22 : decode cX11_tellCompactness 22 = .ok (.aload_n 0, 1) := by decide +kernel
theorem dX11_tellCompactness_23 : decode cX11_tellCompactness 23 = .ok (.iload_n 1, 1) := by decide +kernel
theorem dX11_tellCompactness_24 : decode cX11_tellCompactness 24 = .ok (.invokevirtual 131, 3) := by decide +kernel
theorem dX11_tellCompactness_27 : decode cX11_tellCompactness 27 = .ok (.iconst 1, 1) := by decide +kernel
theorem dX11_tellCompactness_28 : decode cX11_tellCompactness 28 = .ok (.invokevirtual 122, 3) := by decide +kernel
theorem dX11_tellCompactness_31 : decode cX11_tellCompactness 31 = .ok (.i2l, 1) := by decide +kernel
theorem dX11_tellCompactness_32 : decode cX11_tellCompactness 32 = .ok (.lmul, 1) := by decide +kernel
theorem dX11_tellCompactness_33 : decode cX11_tellCompactness 33 = .ok (.putfield 181, 3) := by decide +kernel
theorem dX11_tellCompactness_36 : decode cX11_tellCompactness 36 = .ok (.aload_n 0, 1) := by decide +kernel
theorem dX11_tellCompactness_37 : decode cX11_tellCompactness 37 = .ok (.lload_n 2, 1) := by decide +kernel
theorem dX11_tellCompactness_38 : decode cX11_tellCompactness 38 = .ok (.lconst 0, 1) := by decide +kernel
theorem dX11_tellCompactness_39 : decode cX11_tellCompactness 39 = .ok (.lcmp, 1) := by decide +kernel
theorem dX11_tellCompactness_40 : decode cX11_tellCompactness 40 = .ok (.ifCond .ne 7, 3) := by decide +kernel
theorem dX11_tellCompactness_43 : decode cX11_tellCompactness 43 = .ok (.lconst 1, 1) := by decide +kernel
theorem dX11_tellCompactness_44 : decode cX11_tellCompactness 44 = .ok (.goto 6, 3) := by decide +kernel
theorem dX11_tellCompactness_47 : decode cX11_tellCompactness 47 = .ok (.lload_n 2, 1) := by decide +kernel
theorem dX11_tellCompactness_48 : decode cX11_tellCompactness 48 = .ok (.lload_n 2, 1) := by decide +kernel
theorem dX11_tellCompactness_49 : decode cX11_tellCompactness 49 = .ok (.lmul, 1) := by decide +kernel
theorem dX11_tellCompactness_50 : decode cX11_tellCompactness 50 = .ok (.putfield 185, 3) := by decide +kernel
theorem dX11_tellCompactness_53 : decode cX11_tellCompactness 53 = .ok (.return_, 1) := by decide +kernel
theorem dX11_cutLengths_0 : decode cX11_cutLengths 0 = .ok (.iconst 0, 1) := by decide +kernel
theorem dX11_cutLengths_1 : decode cX11_cutLengths 1 = .ok (.istore_n 1, 1) := by decide +kernel
theorem dX11_cutLengths_2 : decode cX11_cutLengths 2 = .ok (.iconst 0, 1) := by decide +kernel
theorem dX11_cutLengths_3 : decode cX11_cutLengths 3 = .ok (.istore_n 2, 1) := by decide +kernel
theorem dX11_cutLengths_4 : decode cX11_cutLengths 4 = .ok (.iload_n 2, 1) := by decide +kernel
theorem dX11_cutLengths_5 : decode cX11_cutLengths 5 = .ok (.aload_n 0, 1) := by decide +kernel
theorem dX11_cutLengths_6 : decode cX11_cutLengths 6 = .ok (.getfield 7, 3) := by decide +kernel
theorem dX11_cutLengths_9 : decode cX11_cutLengths 9 = .ok (.sipush 204, 3) := by decide +kernel
theorem dX11_cutLengths_12 : decode cX11_cutLengths 12 = .ok (.iaload, 1) := by decide +kernel
theorem dX11_cutLengths_13 : decode cX11_cutLengths 13 = .ok (.if_icmp .ge 50, 3) := by decide +kernel
theorem dX11_cutLengths_16 : decode cX11_cutLengths 16 = .ok (.iconst 0, 1) := by decide +kernel
theorem dX11_cutLengths_17 : decode cX11_cutLengths 17 = .ok (.istore_n 3, 1) := by decide +kernel
theorem dX11_cutLengths_18 : decode cX11_cutLengths 18 = .ok (.iload_n 3, 1) := by decide +kernel
theorem dX11_cutLengths_19 : decode cX11_cutLengths 19 = .ok (.iload_n 2, 1) := by decide +kernel
theorem dX11_cutLengths_20 : decode cX11_cutLengths 20 = .ok (.if_icmp .ge 37, 3) := by decide +kernel
theorem dX11_cutLengths_23 : decode cX11_cutLengths 23 = .ok (.iload_n 1, 1) := by decide +kernel
theorem dX11_cutLengths_24 : decode cX11_cutLengths 24 = .ok (.aload_n 0, 1) := by decide +kernel
theorem dX11_cutLengths_25 : decode cX11_cutLengths 25 = .ok (.getfield 33, 3) := by decide +kernel
theorem dX11_cutLengths_28 : decode cX11_cutLengths 28 = .ok (.iload_n 2, 1) := by decide +kernel
theorem dX11_cutLengths_29 : decode cX11_cutLengths 29 = .ok (.iaload, 1) := by decide +kernel
theorem dX11_cutLengths_30 : decode cX11_cutLengths 30 = .ok (.aload_n 0, 1) := by decide +kernel
theorem dX11_cutLengths_31 : decode cX11_cutLengths 31 = .ok (.getfield 33, 3) := by decide +kernel
theorem dX11_cutLengths_34 : decode cX11_cutLengths 34 = .ok (.iload_n 3, 1) := by decide +kernel
theorem dX11_cutLengths_35 : decode cX11_cutLengths 35 = .ok (.iaload, 1) := by decide +kernel
theorem dX11_cutLengths_36 : decode cX11_cutLengths 36 = .ok (.if_icmp .eq 12, 3) := by decide +kernel
theorem dX11_cutLengths_39 : decode cX11_cutLengths 39 = .ok (.aload_n 0, 1) := by decide +kernel
theorem dX11_cutLengths_40 : decode cX11_cutLengths 40 = .ok (.iload_n 2, 1) := by decide +kernel
theorem dX11_cutLengths_41 : decode cX11_cutLengths 41 = .ok (.iload_n 3, 1) := by decide +kernel
theorem dX11_cutLengths_42 : decode cX11_cutLengths 42 = .ok (.invokevirtual 93, 3) := by decide +kernel
theorem dX11_cutLengths_45 : decode cX11_cutLengths 45 = .ok (.goto 4, 3) := by decide +kernel
theorem dX11_cutLengths_48 : decode cX11_cutLengths 48 = .ok (.iconst 0, 1) := by decide +kernel
theorem dX11_cutLengths_49 : decode cX11_cutLengths 49 = .ok (.iadd, 1) := by decide +kernel
theorem dX11_cutLengths_50 : decode cX11_cutLengths 50 = .ok (.istore_n 1, 1) := by decide +kernel
theorem dX11_cutLengths_51 : decode cX11_cutLengths 51 = .ok (.iinc 3 1, 3) := by decide +kernel
theorem dX11_cutLengths_54 : decode cX11_cutLengths 54 = .ok (.goto (-36), 3) := by decide +kernel
theorem dX11_cutLengths_57 : decode cX11_cutLengths 57 = .ok (.iinc 2 1, 3) := by decide +kernel
theorem dX11_cutLengths_60 : decode cX11_cutLengths 60 = .ok (.goto (-56), 3) := by decide +kernel
theorem dX11_cutLengths_63 : decode cX11_cutLengths 63 = .ok (.iload_n 1, 1) := by decide +kernel
theorem dX11_cutLengths_64 : decode cX11_cutLengths 64 = .ok (.ireturn, 1) := by decide +kernel
theorem dX11_torn_0 : decode cX11_torn 0 = .ok (.iconst 0, 1) := by decide +kernel
theorem dX11_torn_1 : decode cX11_torn 1 = .ok (.istore_n 1, 1) := by decide +kernel
theorem dX11_torn_2 : decode cX11_torn 2 = .ok (.iconst 0, 1) := by decide +kernel
theorem dX11_torn_3 : decode cX11_torn 3 = .ok (.istore_n 2, 1) := by decide +kernel
theorem dX11_torn_4 : decode cX11_torn 4 = .ok (.iload_n 2, 1) := by decide +kernel
theorem dX11_torn_5 : decode cX11_torn 5 = .ok (.iconst 4, 1) := by decide +kernel
theorem dX11_torn_6 : decode cX11_torn 6 = .ok (.if_icmp .ge 76, 3) := by decide +kernel
theorem dX11_torn_9 : decode cX11_torn 9 = .ok (.iconst 0, 1) := by decide +kernel
theorem dX11_torn_10 : decode cX11_torn 10 = .ok (.istore_n 3, 1) := by decide +kernel
theorem dX11_torn_11 : decode cX11_torn 11 = .ok (.iconst 0, 1) := by decide +kernel
theorem dX11_torn_12 : decode cX11_torn 12 = .ok (.istore 4, 2) := by decide +kernel
theorem dX11_torn_14 : decode cX11_torn 14 = .ok (.iload 4, 2) := by decide +kernel
theorem dX11_torn_16 : decode cX11_torn 16 = .ok (.aload_n 0, 1) := by decide +kernel
theorem dX11_torn_17 : decode cX11_torn 17 = .ok (.getfield 7, 3) := by decide +kernel
theorem dX11_torn_20 : decode cX11_torn 20 = .ok (.sipush 204, 3) := by decide +kernel
theorem dX11_torn_23 : decode cX11_torn 23 = .ok (.iaload, 1) := by decide +kernel
theorem dX11_torn_24 : decode cX11_torn 24 = .ok (.if_icmp .ge 36, 3) := by decide +kernel
theorem dX11_torn_27 : decode cX11_torn 27 = .ok (.iload_n 3, 1) := by decide +kernel
theorem dX11_torn_28 : decode cX11_torn 28 = .ok (.aload_n 0, 1) := by decide +kernel
theorem dX11_torn_29 : decode cX11_torn 29 = .ok (.iload 4, 2) := by decide +kernel
theorem dX11_torn_31 : decode cX11_torn 31 = .ok (.iconst 2, 1) := by decide +kernel
theorem dX11_torn_32 : decode cX11_torn 32 = .ok (.invokevirtual 110, 3) := by decide +kernel
theorem dX11_torn_35 : decode cX11_torn 35 = .ok (.iload_n 2, 1) := by decide +kernel
theorem dX11_torn_36 : decode cX11_torn 36 = .ok (.if_icmp .ne 15, 3) := by decide +kernel
theorem dX11_torn_39 : decode cX11_torn 39 = .ok (.iconst 1, 1) := by decide +kernel
theorem dX11_torn_40 : decode cX11_torn 40 = .ok (.aload_n 0, 1) := by decide +kernel
theorem dX11_torn_41 : decode cX11_torn 41 = .ok (.getfield 33, 3) := by decide +kernel
theorem dX11_torn_44 : decode cX11_torn 44 = .ok (.iload 4, 2) := by decide +kernel
theorem dX11_torn_46 : decode cX11_torn 46 = .ok (.iaload, 1) := by decide +kernel
theorem dX11_torn_47 : decode cX11_torn 47 = .ok (.ishl, 1) := by decide +kernel
theorem dX11_torn_48 : decode cX11_torn 48 = .ok (.goto 4, 3) := by decide +kernel
theorem dX11_torn_51 : decode cX11_torn 51 = .ok (.iconst 0, 1) := by decide +kernel
theorem dX11_torn_52 : decode cX11_torn 52 = .ok (.ior, 1) := by decide +kernel
theorem dX11_torn_53 : decode cX11_torn 53 = .ok (.istore_n 3, 1) := by decide +kernel
theorem dX11_torn_54 : decode cX11_torn 54 = .ok (.iinc 4 1, 3) := by decide +kernel
theorem dX11_torn_57 : decode cX11_torn 57 = .ok (.goto (-43), 3) := by decide +kernel
theorem dX11_torn_60 : decode cX11_torn 60 = .ok (.iload_n 1, 1) := by decide +kernel
theorem dX11_torn_61 : decode cX11_torn 61 = .ok (.iload_n 3, 1) := by decide +kernel
theorem dX11_torn_62 : decode cX11_torn 62 = .ok (.iload_n 3, 1) := by decide +kernel
theorem dX11_torn_63 : decode cX11_torn 63 = .ok (.iconst 1, 1) := by decide +kernel
theorem dX11_torn_64 : decode cX11_torn 64 = .ok (.isub, 1) := by decide +kernel
theorem dX11_torn_65 : decode cX11_torn 65 = .ok (.iand, 1) := by decide +kernel
theorem dX11_torn_66 : decode cX11_torn 66 = .ok (.ifCond .eq 7, 3) := by decide +kernel
theorem dX11_torn_69 : decode cX11_torn 69 = .ok (.iconst 1, 1) := by decide +kernel
theorem dX11_torn_70 : decode cX11_torn 70 = .ok (.goto 4, 3) := by decide +kernel
theorem dX11_torn_73 : decode cX11_torn 73 = .ok (.iconst 0, 1) := by decide +kernel
theorem dX11_torn_74 : decode cX11_torn 74 = .ok (.iadd, 1) := by decide +kernel
theorem dX11_torn_75 : decode cX11_torn 75 = .ok (.istore_n 1, 1) := by decide +kernel
theorem dX11_torn_76 : decode cX11_torn 76 = .ok (.iinc 2 1, 3) := by decide +kernel
theorem dX11_torn_79 : decode cX11_torn 79 = .ok (.goto (-75), 3) := by decide +kernel
theorem dX11_torn_82 : decode cX11_torn 82 = .ok (.iload_n 1, 1) := by decide +kernel
theorem dX11_torn_83 : decode cX11_torn 83 = .ok (.ireturn, 1) := by decide +kernel
theorem dX11_tellMeasure_0 : decode cX11_tellMeasure 0 = .ok (.aload_n 0, 1) := by decide +kernel
theorem dX11_tellMeasure_1 : decode cX11_tellMeasure 1 = .ok (.lconst 1, 1) := by decide +kernel
theorem dX11_tellMeasure_2 : decode cX11_tellMeasure 2 = .ok (.putfield 185, 3) := by decide +kernel
theorem dX11_tellMeasure_5 : decode cX11_tellMeasure 5 = .ok (.iload_n 1, 1) := by decide +kernel
theorem dX11_tellMeasure_6 : decode cX11_tellMeasure 6 = .ok (.ifCond .ne 85, 3) := by decide +kernel
theorem dX11_tellMeasure_9 : decode cX11_tellMeasure 9 = .ok (.lconst 0, 1) := by decide +kernel
theorem dX11_tellMeasure_10 : decode cX11_tellMeasure 10 = .ok (.lstore_n 2, 1) := by decide +kernel
theorem dX11_tellMeasure_11 : decode cX11_tellMeasure 11 = .ok (.lconst 0, 1) := by decide +kernel
theorem dX11_tellMeasure_12 : decode cX11_tellMeasure 12 = .ok (.lstore 4, 2) := by decide +kernel
theorem dX11_tellMeasure_14 : decode cX11_tellMeasure 14 = .ok (.iconst 0, 1) := by decide +kernel
theorem dX11_tellMeasure_15 : decode cX11_tellMeasure 15 = .ok (.istore 6, 2) := by decide +kernel
theorem dX11_tellMeasure_17 : decode cX11_tellMeasure 17 = .ok (.iload 6, 2) := by decide +kernel
theorem dX11_tellMeasure_19 : decode cX11_tellMeasure 19 = .ok (.aload_n 0, 1) := by decide +kernel
theorem dX11_tellMeasure_20 : decode cX11_tellMeasure 20 = .ok (.getfield 7, 3) := by decide +kernel
theorem dX11_tellMeasure_23 : decode cX11_tellMeasure 23 = .ok (.sipush 205, 3) := by decide +kernel
theorem dX11_tellMeasure_26 : decode cX11_tellMeasure 26 = .ok (.iaload, 1) := by decide +kernel
theorem dX11_tellMeasure_27 : decode cX11_tellMeasure 27 = .ok (.if_icmp .ge 50, 3) := by decide +kernel
theorem dX11_tellMeasure_30 : decode cX11_tellMeasure 30 = .ok (.aload_n 0, 1) := by decide +kernel
theorem dX11_tellMeasure_31 : decode cX11_tellMeasure 31 = .ok (.iload 6, 2) := by decide +kernel
theorem dX11_tellMeasure_33 : decode cX11_tellMeasure 33 = .ok (.invokevirtual 188, 3) := by decide +kernel
theorem dX11_tellMeasure_36 : decode cX11_tellMeasure 36 = .ok (.lload 4, 2) := by decide +kernel
theorem dX11_tellMeasure_38 : decode cX11_tellMeasure 38 = .ok (.lconst 0, 1) := by decide +kernel
theorem dX11_tellMeasure_39 : decode cX11_tellMeasure 39 = .ok (.lcmp, 1) := by decide +kernel
theorem dX11_tellMeasure_40 : decode cX11_tellMeasure 40 = .ok (.ifCond .eq 20, 3) := by decide +kernel
theorem dX11_tellMeasure_43 : decode cX11_tellMeasure 43 = .ok (.aload_n 0, 1) := by decide +kernel
theorem dX11_tellMeasure_44 : decode cX11_tellMeasure 44 = .ok (.getfield 181, 3) := by decide +kernel
theorem dX11_tellMeasure_47 : decode cX11_tellMeasure 47 = .ok (.lload 4, 2) := by decide +kernel
theorem dX11_tellMeasure_49 : decode cX11_tellMeasure 49 = .ok (.lmul, 1) := by decide +kernel
theorem dX11_tellMeasure_50 : decode cX11_tellMeasure 50 = .ok (.lload_n 2, 1) := by decide +kernel
theorem dX11_tellMeasure_51 : decode cX11_tellMeasure 51 = .ok (.aload_n 0, 1) := by decide +kernel
theorem dX11_tellMeasure_52 : decode cX11_tellMeasure 52 = .ok (.getfield 185, 3) := by decide +kernel
theorem dX11_tellMeasure_55 : decode cX11_tellMeasure 55 = .ok (.lmul, 1) := by decide +kernel
theorem dX11_tellMeasure_56 : decode cX11_tellMeasure 56 = .ok (.lcmp, 1) := by decide +kernel
theorem dX11_tellMeasure_57 : decode cX11_tellMeasure 57 = .ok (.ifCond .ge 14, 3) := by decide +kernel
theorem dX11_tellMeasure_60 : decode cX11_tellMeasure 60 = .ok (.aload_n 0, 1) := by decide +kernel
theorem dX11_tellMeasure_61 : decode cX11_tellMeasure 61 = .ok (.getfield 181, 3) := by decide +kernel
theorem dX11_tellMeasure_64 : decode cX11_tellMeasure 64 = .ok (.lstore_n 2, 1) := by decide +kernel
theorem dX11_tellMeasure_65 : decode cX11_tellMeasure 65 = .ok (.aload_n 0, 1) := by decide +kernel
theorem dX11_tellMeasure_66 : decode cX11_tellMeasure 66 = .ok (.getfield 185, 3) := by decide +kernel
theorem dX11_tellMeasure_69 : decode cX11_tellMeasure 69 = .ok (.lstore 4, 2) := by decide +kernel
theorem dX11_tellMeasure_71 : decode cX11_tellMeasure 71 = .ok (.iinc 6 1, 3) := by decide +kernel
theorem dX11_tellMeasure_74 : decode cX11_tellMeasure 74 = .ok (.goto (-57), 3) := by decide +kernel
theorem dX11_tellMeasure_77 : decode cX11_tellMeasure 77 = .ok (.aload_n 0, 1) := by decide +kernel
theorem dX11_tellMeasure_78 : decode cX11_tellMeasure 78 = .ok (.lload_n 2, 1) := by decide +kernel
theorem dX11_tellMeasure_79 : decode cX11_tellMeasure 79 = .ok (.putfield 181, 3) := by decide +kernel
theorem dX11_tellMeasure_82 : decode cX11_tellMeasure 82 = .ok (.aload_n 0, 1) := by decide +kernel
theorem dX11_tellMeasure_83 : decode cX11_tellMeasure 83 = .ok (.lload 4, 2) := by decide +kernel
theorem dX11_tellMeasure_85 : decode cX11_tellMeasure 85 = .ok (.putfield 185, 3) := by decide +kernel
theorem dX11_tellMeasure_88 : decode cX11_tellMeasure 88 = .ok (.goto 98, 3) := by decide +kernel
theorem dX11_tellMeasure_91 : decode cX11_tellMeasure 91 = .ok (.iload_n 1, 1) := by decide +kernel
theorem dX11_tellMeasure_92 : decode cX11_tellMeasure 92 = .ok (.iconst 1, 1) := by decide +kernel
theorem dX11_tellMeasure_93 : decode cX11_tellMeasure 93 = .ok (.if_icmp .ne 15, 3) := by decide +kernel
theorem dX11_tellMeasure_96 : decode cX11_tellMeasure 96 = .ok (.aload_n 0, 1) := by decide +kernel
theorem dX11_tellMeasure_97 : decode cX11_tellMeasure 97 = .ok (.aload_n 0, 1) := by decide +kernel
theorem dX11_tellMeasure_98 : decode cX11_tellMeasure 98 = .ok (.invokevirtual 192, 3) := by decide +kernel
theorem dX11_tellMeasure_101 : decode cX11_tellMeasure 101 = .ok (.i2l, 1) := by decide +kernel
theorem dX11_tellMeasure_102 : decode cX11_tellMeasure 102 = .ok (.putfield 181, 3) := by decide +kernel
theorem dX11_tellMeasure_105 : decode cX11_tellMeasure 105 = .ok (.goto 81, 3) := by decide +kernel
theorem dX11_tellMeasure_108 : decode cX11_tellMeasure 108 = .ok (.iload_n 1, 1) := by decide +kernel
theorem dX11_tellMeasure_109 : decode cX11_tellMeasure 109 = .ok (.iconst 2, 1) := by decide +kernel
theorem dX11_tellMeasure_110 : decode cX11_tellMeasure 110 = .ok (.if_icmp .ne 15, 3) := by decide +kernel
theorem dX11_tellMeasure_113 : decode cX11_tellMeasure 113 = .ok (.aload_n 0, 1) := by decide +kernel
theorem dX11_tellMeasure_114 : decode cX11_tellMeasure 114 = .ok (.aload_n 0, 1) := by decide +kernel
theorem dX11_tellMeasure_115 : decode cX11_tellMeasure 115 = .ok (.invokevirtual 195, 3) := by decide +kernel
theorem dX11_tellMeasure_118 : decode cX11_tellMeasure 118 = .ok (.i2l, 1) := by decide +kernel
theorem dX11_tellMeasure_119 : decode cX11_tellMeasure 119 = .ok (.putfield 181, 3) := by decide +kernel
theorem dX11_tellMeasure_122 : decode cX11_tellMeasure 122 = .ok (.goto 64, 3) := by decide +kernel
theorem dX11_tellMeasure_125 : decode cX11_tellMeasure 125 = .ok (.iconst 0, 1) := by decide +kernel
theorem dX11_tellMeasure_126 : decode cX11_tellMeasure 126 = .ok (.istore_n 2, 1) := by decide +kernel
theorem dX11_tellMeasure_127 : decode cX11_tellMeasure 127 = .ok (.iconst 0, 1) := by decide +kernel
theorem dX11_tellMeasure_128 : decode cX11_tellMeasure 128 = .ok (.istore_n 3, 1) := by decide +kernel
theorem dX11_tellMeasure_129 : decode cX11_tellMeasure 129 = .ok (.iload_n 3, 1) := by decide +kernel
theorem dX11_tellMeasure_130 : decode cX11_tellMeasure 130 = .ok (.aload_n 0, 1) := by decide +kernel
theorem dX11_tellMeasure_131 : decode cX11_tellMeasure 131 = .ok (.getfield 7, 3) := by decide +kernel
theorem dX11_tellMeasure_134 : decode cX11_tellMeasure 134 = .ok (.sipush 205, 3) := by decide +kernel
theorem dX11_tellMeasure_137 : decode cX11_tellMeasure 137 = .ok (.iaload, 1) := by decide +kernel
theorem dX11_tellMeasure_138 : decode cX11_tellMeasure 138 = .ok (.if_icmp .ge 28, 3) := by decide +kernel
theorem dX11_tellMeasure_141 : decode cX11_tellMeasure 141 = .ok (.aload_n 0, 1) := by decide +kernel
theorem dX11_tellMeasure_142 : decode cX11_tellMeasure 142 = .ok (.iload_n 3, 1) := by decide +kernel
theorem dX11_tellMeasure_143 : decode cX11_tellMeasure 143 = .ok (.invokevirtual 137, 3) := by decide +kernel
theorem dX11_tellMeasure_146 : decode cX11_tellMeasure 146 = .ok (.iload_n 2, 1) := by decide +kernel
theorem dX11_tellMeasure_147 : decode cX11_tellMeasure 147 = .ok (.if_icmp .le 11, 3) := by decide +kernel
theorem dX11_tellMeasure_150 : decode cX11_tellMeasure 150 = .ok (.aload_n 0, 1) := by decide +kernel
theorem dX11_tellMeasure_151 : decode cX11_tellMeasure 151 = .ok (.iload_n 3, 1) := by decide +kernel
theorem dX11_tellMeasure_152 : decode cX11_tellMeasure 152 = .ok (.invokevirtual 137, 3) := by decide +kernel
theorem dX11_tellMeasure_155 : decode cX11_tellMeasure 155 = .ok (.goto 4, 3) := by decide +kernel
theorem dX11_tellMeasure_158 : decode cX11_tellMeasure 158 = .ok (.iload_n 2, 1) := by decide +kernel
theorem dX11_tellMeasure_159 : decode cX11_tellMeasure 159 = .ok (.istore_n 2, 1) := by decide +kernel
theorem dX11_tellMeasure_160 : decode cX11_tellMeasure 160 = .ok (.iinc 3 1, 3) := by decide +kernel
theorem dX11_tellMeasure_163 : decode cX11_tellMeasure 163 = .ok (.goto (-34), 3) := by decide +kernel
theorem dX11_tellMeasure_166 : decode cX11_tellMeasure 166 = .ok (.aload_n 0, 1) := by decide +kernel
theorem dX11_tellMeasure_167 : decode cX11_tellMeasure 167 = .ok (.iload_n 2, 1) := by decide +kernel
theorem dX11_tellMeasure_168 : decode cX11_tellMeasure 168 = .ok (.i2l, 1) := by decide +kernel
theorem dX11_tellMeasure_169 : decode cX11_tellMeasure 169 = .ok (.putfield 181, 3) := by decide +kernel
theorem dX11_tellMeasure_172 : decode cX11_tellMeasure 172 = .ok (.aload_n 0, 1) := by decide +kernel
theorem dX11_tellMeasure_173 : decode cX11_tellMeasure 173 = .ok (.aload_n 0, 1) := by decide +kernel
theorem dX11_tellMeasure_174 : decode cX11_tellMeasure 174 = .ok (.aload_n 0, 1) := by decide +kernel
theorem dX11_tellMeasure_175 : decode cX11_tellMeasure 175 = .ok (.invokevirtual 119, 3) := by decide +kernel
theorem dX11_tellMeasure_178 : decode cX11_tellMeasure 178 = .ok (.iconst 0, 1) := by decide +kernel
theorem dX11_tellMeasure_179 : decode cX11_tellMeasure 179 = .ok (.invokevirtual 122, 3) := by decide +kernel
theorem dX11_tellMeasure_182 : decode cX11_tellMeasure 182 = .ok (.i2l, 1) := by decide +kernel
theorem dX11_tellMeasure_183 : decode cX11_tellMeasure 183 = .ok (.putfield 185, 3) := by decide +kernel
theorem dX11_tellMeasure_186 : decode cX11_tellMeasure 186 = .ok (.aload_n 0, 1) := by decide +kernel
theorem dX11_tellMeasure_187 : decode cX11_tellMeasure 187 = .ok (.getfield 181, 3) := by decide +kernel
theorem dX11_tellMeasure_190 : decode cX11_tellMeasure 190 = .ok (.aload_n 0, 1) := by decide +kernel
theorem dX11_tellMeasure_191 : decode cX11_tellMeasure 191 = .ok (.getfield 185, 3) := by decide +kernel
theorem dX11_tellMeasure_194 : decode cX11_tellMeasure 194 = .ok (.invokestatic 198, 3) := by decide +kernel
theorem dX11_tellMeasure_197 : decode cX11_tellMeasure 197 = .ok (.lstore_n 2, 1) := by decide +kernel
theorem dX11_tellMeasure_198 : decode cX11_tellMeasure 198 = .ok (.aload_n 0, 1) := by decide +kernel
theorem dX11_tellMeasure_199 : decode cX11_tellMeasure 199 = .ok (.dup, 1) := by decide +kernel
theorem dX11_tellMeasure_200 : decode cX11_tellMeasure 200 = .ok (.getfield 181, 3) := by decide +kernel
theorem dX11_tellMeasure_203 : decode cX11_tellMeasure 203 = .ok (.lload_n 2, 1) := by decide +kernel
theorem dX11_tellMeasure_204 : decode cX11_tellMeasure 204 = .ok (.ldiv, 1) := by decide +kernel
theorem dX11_tellMeasure_205 : decode cX11_tellMeasure 205 = .ok (.putfield 181, 3) := by decide +kernel
theorem dX11_tellMeasure_208 : decode cX11_tellMeasure 208 = .ok (.aload_n 0, 1) := by decide +kernel
theorem dX11_tellMeasure_209 : decode cX11_tellMeasure 209 = .ok (.dup, 1) := by decide +kernel
theorem dX11_tellMeasure_210 : decode cX11_tellMeasure 210 = .ok (.getfield 185, 3) := by decide +kernel
theorem dX11_tellMeasure_213 : decode cX11_tellMeasure 213 = .ok (.lload_n 2, 1) := by decide +kernel
theorem dX11_tellMeasure_214 : decode cX11_tellMeasure 214 = .ok (.ldiv, 1) := by decide +kernel
theorem dX11_tellMeasure_215 : decode cX11_tellMeasure 215 = .ok (.putfield 185, 3) := by decide +kernel
theorem dX11_tellMeasure_218 : decode cX11_tellMeasure 218 = .ok (.return_, 1) := by decide +kernel
theorem dX11_measure_0 : decode cX11_measure 0 = .ok (.aload_n 0, 1) := by decide +kernel
theorem dX11_measure_1 : decode cX11_measure 1 = .ok (.iload_n 1, 1) := by decide +kernel
theorem dX11_measure_2 : decode cX11_measure 2 = .ok (.iconst 0, 1) := by decide +kernel
theorem dX11_measure_3 : decode cX11_measure 3 = .ok (.iconst 3, 1) := by decide +kernel
theorem dX11_measure_4 : decode cX11_measure 4 = .ok (.invokestatic 55, 3) := by decide +kernel
theorem dX11_measure_7 : decode cX11_measure 7 = .ok (.ifCond .ne 7, 3) := by decide +kernel
theorem dX11_measure_10 : decode cX11_measure 10 = .ok (.iconst 1, 1) := by decide +kernel
theorem dX11_measure_11 : decode cX11_measure 11 = .ok (.goto 19, 3) := by decide +kernel
theorem dX11_measure_14 : decode cX11_measure 14 = .ok (.aload_n 0, 1) := by decide +kernel
theorem dX11_measure_15 : decode cX11_measure 15 = .ok (.getfield 7, 3) := by decide +kernel
theorem dX11_measure_18 : decode cX11_measure 18 = .ok (.sipush 219, 3) := by decide +kernel
theorem dX11_measure_21 : decode cX11_measure 21 = .ok (.iaload, 1) := by decide +kernel
theorem dX11_measure_22 : decode cX11_measure 22 = .ok (.ifCond .ne 7, 3) := by decide +kernel
theorem dX11_measure_25 : decode cX11_measure 25 = .ok (.iconst 2, 1) := by decide +kernel
theorem dX11_measure_26 : decode cX11_measure 26 = .ok (.goto 4, 3) := by decide +kernel
theorem dX11_measure_29 : decode cX11_measure 29 = .ok (.iconst 0, 1) := by decide +kernel
theorem dX11_measure_30 : decode cX11_measure 30 = .ok (.putfield 52, 3) := by decide +kernel
theorem dX11_measure_33 : decode cX11_measure 33 = .ok (.aload_n 0, 1) := by decide +kernel
theorem dX11_measure_34 : decode cX11_measure 34 = .ok (.getfield 52, 3) := by decide +kernel
theorem dX11_measure_37 : decode cX11_measure 37 = .ok (.ifCond .eq 5, 3) := by decide +kernel
theorem dX11_measure_40 : decode cX11_measure 40 = .ok (.lconst 0, 1) := by decide +kernel
theorem dX11_measure_41 : decode cX11_measure 41 = .ok (.lreturn, 1) := by decide +kernel
theorem dX11_measure_42 : decode cX11_measure 42 = .ok (.aload_n 0, 1) := by decide +kernel
theorem dX11_measure_43 : decode cX11_measure 43 = .ok (.invokevirtual 164, 3) := by decide +kernel
theorem dX11_measure_46 : decode cX11_measure 46 = .ok (.aload_n 0, 1) := by decide +kernel
theorem dX11_measure_47 : decode cX11_measure 47 = .ok (.iload_n 1, 1) := by decide +kernel
theorem dX11_measure_48 : decode cX11_measure 48 = .ok (.invokevirtual 202, 3) := by decide +kernel
theorem dX11_measure_51 : decode cX11_measure 51 = .ok (.iload_n 2, 1) := by decide +kernel
theorem dX11_measure_52 : decode cX11_measure 52 = .ok (.ifCond .eq 10, 3) := by decide +kernel
theorem dX11_measure_55 : decode cX11_measure 55 = .ok (.aload_n 0, 1) := by decide +kernel
theorem dX11_measure_56 : decode cX11_measure 56 = .ok (.getfield 185, 3) := by decide +kernel
theorem dX11_measure_59 : decode cX11_measure 59 = .ok (.goto 7, 3) := by decide +kernel
theorem dX11_measure_62 : decode cX11_measure 62 = .ok (.aload_n 0, 1) := by decide +kernel
theorem dX11_measure_63 : decode cX11_measure 63 = .ok (.getfield 181, 3) := by decide +kernel
theorem dX11_measure_66 : decode cX11_measure 66 = .ok (.lreturn, 1) := by decide +kernel
theorem dX11_compactness_0 : decode cX11_compactness 0 = .ok (.aload_n 0, 1) := by decide +kernel
theorem dX11_compactness_1 : decode cX11_compactness 1 = .ok (.iload_n 1, 1) := by decide +kernel
theorem dX11_compactness_2 : decode cX11_compactness 2 = .ok (.invokevirtual 173, 3) := by decide +kernel
theorem dX11_compactness_5 : decode cX11_compactness 5 = .ok (.istore_n 2, 1) := by decide +kernel
theorem dX11_compactness_6 : decode cX11_compactness 6 = .ok (.iload_n 2, 1) := by decide +kernel
theorem dX11_compactness_7 : decode cX11_compactness 7 = .ok (.ifCond .ne 7, 3) := by decide +kernel
theorem dX11_compactness_10 : decode cX11_compactness 10 = .ok (.fconst 0, 1) := by decide +kernel
theorem dX11_compactness_11 : decode cX11_compactness 11 = .ok (.goto 22, 3) := by decide +kernel
theorem dX11_compactness_14 : decode cX11_compactness 14 = .ok (.bipush 16, 2) := by decide +kernel
theorem dX11_compactness_16 : decode cX11_compactness 16 = .ok (.aload_n 0, 1) := by decide +kernel
theorem dX11_compactness_17 : decode cX11_compactness 17 = .ok (.aload_n 0, 1) := by decide +kernel
theorem dX11_compactness_18 : decode cX11_compactness 18 = .ok (.iload_n 1, 1) := by decide +kernel
theorem dX11_compactness_19 : decode cX11_compactness 19 = .ok (.invokevirtual 131, 3) := by decide +kernel
theorem dX11_compactness_22 : decode cX11_compactness 22 = .ok (.iconst 1, 1) := by decide +kernel
theorem dX11_compactness_23 : decode cX11_compactness 23 = .ok (.invokevirtual 122, 3) := by decide +kernel
theorem dX11_compactness_26 : decode cX11_compactness 26 = .ok (.imul, 1) := by decide +kernel
theorem dX11_compactness_27 : decode cX11_compactness 27 = .ok (.i2f, 1) := by decide +kernel
theorem dX11_compactness_28 : decode cX11_compactness 28 = .ok (.iload_n 2, 1) := by decide +kernel
theorem dX11_compactness_29 : decode cX11_compactness 29 = .ok (.iload_n 2, 1) := by decide +kernel
theorem dX11_compactness_30 : decode cX11_compactness 30 = .ok (.imul, 1) := by decide +kernel
theorem dX11_compactness_31 : decode cX11_compactness 31 = .ok (.i2f, 1) := by decide +kernel
theorem dX11_compactness_32 : decode cX11_compactness 32 = .ok (.fdiv, 1) := by decide +kernel
theorem dX11_compactness_33 : decode cX11_compactness 33 = .ok (.freturn, 1) := by decide +kernel
theorem dX11_meanCompactness_0 : decode cX11_meanCompactness 0 = .ok (.aload_n 0, 1) := by decide +kernel
theorem dX11_meanCompactness_1 : decode cX11_meanCompactness 1 = .ok (.aload_n 0, 1) := by decide +kernel
theorem dX11_meanCompactness_2 : decode cX11_meanCompactness 2 = .ok (.getfield 7, 3) := by decide +kernel
theorem dX11_meanCompactness_5 : decode cX11_meanCompactness 5 = .ok (.sipush 219, 3) := by decide +kernel
theorem dX11_meanCompactness_8 : decode cX11_meanCompactness 8 = .ok (.iaload, 1) := by decide +kernel
theorem dX11_meanCompactness_9 : decode cX11_meanCompactness 9 = .ok (.ifCond .ne 7, 3) := by decide +kernel
theorem dX11_meanCompactness_12 : decode cX11_meanCompactness 12 = .ok (.iconst 1, 1) := by decide +kernel
theorem dX11_meanCompactness_13 : decode cX11_meanCompactness 13 = .ok (.goto 4, 3) := by decide +kernel
theorem dX11_meanCompactness_16 : decode cX11_meanCompactness 16 = .ok (.iconst 0, 1) := by decide +kernel
theorem dX11_meanCompactness_17 : decode cX11_meanCompactness 17 = .ok (.putfield 52, 3) := by decide +kernel
theorem dX11_meanCompactness_20 : decode cX11_meanCompactness 20 = .ok (.aload_n 0, 1) := by decide +kernel
theorem dX11_meanCompactness_21 : decode cX11_meanCompactness 21 = .ok (.getfield 52, 3) := by decide +kernel
theorem dX11_meanCompactness_24 : decode cX11_meanCompactness 24 = .ok (.ifCond .eq 5, 3) := by decide +kernel
theorem dX11_meanCompactness_27 : decode cX11_meanCompactness 27 = .ok (.fconst 0, 1) := by decide +kernel
theorem dX11_meanCompactness_28 : decode cX11_meanCompactness 28 = .ok (.freturn, 1) := by decide +kernel
theorem dX11_meanCompactness_29 : decode cX11_meanCompactness 29 = .ok (.aload_n 0, 1) := by decide +kernel
theorem dX11_meanCompactness_30 : decode cX11_meanCompactness 30 = .ok (.invokevirtual 164, 3) := by decide +kernel
theorem dX11_meanCompactness_33 : decode cX11_meanCompactness 33 = .ok (.fconst 0, 1) := by decide +kernel
theorem dX11_meanCompactness_34 : decode cX11_meanCompactness 34 = .ok (.fstore_n 1, 1) := by decide +kernel
theorem dX11_meanCompactness_35 : decode cX11_meanCompactness 35 = .ok (.iconst 0, 1) := by decide +kernel
theorem dX11_meanCompactness_36 : decode cX11_meanCompactness 36 = .ok (.istore_n 2, 1) := by decide +kernel
theorem dX11_meanCompactness_37 : decode cX11_meanCompactness 37 = .ok (.iload_n 2, 1) := by decide +kernel
theorem dX11_meanCompactness_38 : decode cX11_meanCompactness 38 = .ok (.aload_n 0, 1) := by decide +kernel
theorem dX11_meanCompactness_39 : decode cX11_meanCompactness 39 = .ok (.getfield 7, 3) := by decide +kernel
theorem dX11_meanCompactness_42 : decode cX11_meanCompactness 42 = .ok (.sipush 205, 3) := by decide +kernel
theorem dX11_meanCompactness_45 : decode cX11_meanCompactness 45 = .ok (.iaload, 1) := by decide +kernel
theorem dX11_meanCompactness_46 : decode cX11_meanCompactness 46 = .ok (.if_icmp .ge 17, 3) := by decide +kernel
theorem dX11_meanCompactness_49 : decode cX11_meanCompactness 49 = .ok (.fload_n 1, 1) := by decide +kernel
theorem dX11_meanCompactness_50 : decode cX11_meanCompactness 50 = .ok (.aload_n 0, 1) := by decide +kernel
theorem dX11_meanCompactness_51 : decode cX11_meanCompactness 51 = .ok (.iload_n 2, 1) := by decide +kernel
theorem dX11_meanCompactness_52 : decode cX11_meanCompactness 52 = .ok (.invokevirtual 205, 3) := by decide +kernel
theorem dX11_meanCompactness_55 : decode cX11_meanCompactness 55 = .ok (.fadd, 1) := by decide +kernel
theorem dX11_meanCompactness_56 : decode cX11_meanCompactness 56 = .ok (.fstore_n 1, 1) := by decide +kernel
theorem dX11_meanCompactness_57 : decode cX11_meanCompactness 57 = .ok (.iinc 2 1, 3) := by decide +kernel
theorem dX11_meanCompactness_60 : decode cX11_meanCompactness 60 = .ok (.goto (-23), 3) := by decide +kernel
theorem dX11_meanCompactness_63 : decode cX11_meanCompactness 63 = .ok (.fload_n 1, 1) := by decide +kernel
theorem dX11_meanCompactness_64 : decode cX11_meanCompactness 64 = .ok (.aload_n 0, 1) := by decide +kernel
theorem dX11_meanCompactness_65 : decode cX11_meanCompactness 65 = .ok (.getfield 7, 3) := by decide +kernel
theorem dX11_meanCompactness_68 : decode cX11_meanCompactness 68 = .ok (.sipush 205, 3) := by decide +kernel
theorem dX11_meanCompactness_71 : decode cX11_meanCompactness 71 = .ok (.iaload, 1) := by decide +kernel
theorem dX11_meanCompactness_72 : decode cX11_meanCompactness 72 = .ok (.i2f, 1) := by decide +kernel
theorem dX11_meanCompactness_73 : decode cX11_meanCompactness 73 = .ok (.fdiv, 1) := by decide +kernel
theorem dX11_meanCompactness_74 : decode cX11_meanCompactness 74 = .ok (.freturn, 1) := by decide +kernel
theorem dX11_isBetter_0 : decode cX11_isBetter 0 = .ok (.aload_n 0, 1) := by decide +kernel
theorem dX11_isBetter_1 : decode cX11_isBetter 1 = .ok (.iload_n 1, 1) := by decide +kernel
theorem dX11_isBetter_2 : decode cX11_isBetter 2 = .ok (.invokevirtual 202, 3) := by decide +kernel
theorem dX11_isBetter_5 : decode cX11_isBetter 5 = .ok (.aload_n 0, 1) := by decide +kernel
theorem dX11_isBetter_6 : decode cX11_isBetter 6 = .ok (.getfield 181, 3) := by decide +kernel
theorem dX11_isBetter_9 : decode cX11_isBetter 9 = .ok (.aload_n 0, 1) := by decide +kernel
theorem dX11_isBetter_10 : decode cX11_isBetter 10 = .ok (.getfield 209, 3) := by decide +kernel
theorem dX11_isBetter_13 : decode cX11_isBetter 13 = .ok (.lmul, 1) := by decide +kernel
theorem dX11_isBetter_14 : decode cX11_isBetter 14 = .ok (.lstore_n 2, 1) := by decide +kernel
theorem dX11_isBetter_15 : decode cX11_isBetter 15 = .ok (.aload_n 0, 1) := by decide +kernel
theorem dX11_isBetter_16 : decode cX11_isBetter 16 = .ok (.getfield 212, 3) := by decide +kernel
theorem dX11_isBetter_19 : decode cX11_isBetter 19 = .ok (.aload_n 0, 1) := by decide +kernel
theorem dX11_isBetter_20 : decode cX11_isBetter 20 = .ok (.getfield 185, 3) := by decide +kernel
theorem dX11_isBetter_23 : decode cX11_isBetter 23 = .ok (.lmul, 1) := by decide +kernel
theorem dX11_isBetter_24 : decode cX11_isBetter 24 = .ok (.lstore 4, 2) := by decide +kernel
theorem dX11_isBetter_26 : decode cX11_isBetter 26 = .ok (.iload_n 1, 1) := by decide +kernel
theorem dX11_isBetter_27 : decode cX11_isBetter 27 = .ok (.ifCond .ne 18, 3) := by decide +kernel
theorem dX11_isBetter_30 : decode cX11_isBetter 30 = .ok (.lload_n 2, 1) := by decide +kernel
theorem dX11_isBetter_31 : decode cX11_isBetter 31 = .ok (.lload 4, 2) := by decide +kernel
theorem dX11_isBetter_33 : decode cX11_isBetter 33 = .ok (.lcmp, 1) := by decide +kernel
theorem dX11_isBetter_34 : decode cX11_isBetter 34 = .ok (.ifCond .le 7, 3) := by decide +kernel
theorem dX11_isBetter_37 : decode cX11_isBetter 37 = .ok (.iconst 1, 1) := by decide +kernel
theorem dX11_isBetter_38 : decode cX11_isBetter 38 = .ok (.goto 19, 3) := by decide +kernel
theorem dX11_isBetter_41 : decode cX11_isBetter 41 = .ok (.iconst 0, 1) := by decide +kernel
theorem dX11_isBetter_42 : decode cX11_isBetter 42 = .ok (.goto 15, 3) := by decide +kernel
theorem dX11_isBetter_45 : decode cX11_isBetter 45 = .ok (.lload_n 2, 1) := by decide +kernel
theorem dX11_isBetter_46 : decode cX11_isBetter 46 = .ok (.lload 4, 2) := by decide +kernel
theorem dX11_isBetter_48 : decode cX11_isBetter 48 = .ok (.lcmp, 1) := by decide +kernel
theorem dX11_isBetter_49 : decode cX11_isBetter 49 = .ok (.ifCond .ge 7, 3) := by decide +kernel
theorem dX11_isBetter_52 : decode cX11_isBetter 52 = .ok (.iconst 1, 1) := by decide +kernel
theorem dX11_isBetter_53 : decode cX11_isBetter 53 = .ok (.goto 4, 3) := by decide +kernel
theorem dX11_isBetter_56 : decode cX11_isBetter 56 = .ok (.iconst 0, 1) := by decide +kernel
theorem dX11_isBetter_57 : decode cX11_isBetter 57 = .ok (.ireturn, 1) := by decide +kernel
theorem dX11_isBest_0 : decode cX11_isBest 0 = .ok (.aload_n 0, 1) := by decide +kernel
theorem dX11_isBest_1 : decode cX11_isBest 1 = .ok (.aload_n 0, 1) := by decide +kernel
theorem dX11_isBest_2 : decode cX11_isBest 2 = .ok (.getfield 181, 3) := by decide +kernel
theorem dX11_isBest_5 : decode cX11_isBest 5 = .ok (.putfield 212, 3) := by decide +kernel
theorem dX11_isBest_8 : decode cX11_isBest 8 = .ok (.aload_n 0, 1) := by decide +kernel
theorem dX11_isBest_9 : decode cX11_isBest 9 = .ok (.aload_n 0, 1) := by decide +kernel
theorem dX11_isBest_10 : decode cX11_isBest 10 = .ok (.getfield 185, 3) := by decide +kernel
theorem dX11_isBest_13 : decode cX11_isBest 13 = .ok (.putfield 209, 3) := by decide +kernel
theorem dX11_isBest_16 : decode cX11_isBest 16 = .ok (.iconst 0, 1) := by decide +kernel
theorem dX11_isBest_17 : decode cX11_isBest 17 = .ok (.istore_n 1, 1) := by decide +kernel
theorem dX11_isBest_18 : decode cX11_isBest 18 = .ok (.iload_n 1, 1) := by decide +kernel
theorem dX11_isBest_19 : decode cX11_isBest 19 = .ok (.bipush 12, 2) := by decide +kernel
theorem dX11_isBest_21 : decode cX11_isBest 21 = .ok (.if_icmp .ge 21, 3) := by decide +kernel
theorem dX11_isBest_24 : decode cX11_isBest 24 = .ok (.aload_n 0, 1) := by decide +kernel
theorem dX11_isBest_25 : decode cX11_isBest 25 = .ok (.getfield 36, 3) := by decide +kernel
theorem dX11_isBest_28 : decode cX11_isBest 28 = .ok (.iload_n 1, 1) := by decide +kernel
theorem dX11_isBest_29 : decode cX11_isBest 29 = .ok (.aload_n 0, 1) := by decide +kernel
theorem dX11_isBest_30 : decode cX11_isBest 30 = .ok (.getfield 33, 3) := by decide +kernel
theorem dX11_isBest_33 : decode cX11_isBest 33 = .ok (.iload_n 1, 1) := by decide +kernel
theorem dX11_isBest_34 : decode cX11_isBest 34 = .ok (.iaload, 1) := by decide +kernel
theorem dX11_isBest_35 : decode cX11_isBest 35 = .ok (.iastore, 1) := by decide +kernel
theorem dX11_isBest_36 : decode cX11_isBest 36 = .ok (.iinc 1 1, 3) := by decide +kernel
theorem dX11_isBest_39 : decode cX11_isBest 39 = .ok (.goto (-21), 3) := by decide +kernel
theorem dX11_isBest_42 : decode cX11_isBest 42 = .ok (.return_, 1) := by decide +kernel
theorem dX11_steps_0 : decode cX11_steps 0 = .ok (.aload_n 0, 1) := by decide +kernel
theorem dX11_steps_1 : decode cX11_steps 1 = .ok (.invokevirtual 164, 3) := by decide +kernel
theorem dX11_steps_4 : decode cX11_steps 4 = .ok (.aload_n 0, 1) := by decide +kernel
theorem dX11_steps_5 : decode cX11_steps 5 = .ok (.iload_n 1, 1) := by decide +kernel
theorem dX11_steps_6 : decode cX11_steps 6 = .ok (.invokevirtual 202, 3) := by decide +kernel
theorem dX11_steps_9 : decode cX11_steps 9 = .ok (.aload_n 0, 1) := by decide +kernel
theorem dX11_steps_10 : decode cX11_steps 10 = .ok (.invokevirtual 215, 3) := by decide +kernel
theorem dX11_steps_13 : decode cX11_steps 13 = .ok (.iconst 0, 1) := by decide +kernel
theorem dX11_steps_14 : decode cX11_steps 14 = .ok (.istore_n 2, 1) := by decide +kernel
theorem dX11_steps_15 : decode cX11_steps 15 = .ok (.iconst 0, 1) := by decide +kernel
theorem dX11_steps_16 : decode cX11_steps 16 = .ok (.istore_n 3, 1) := by decide +kernel
theorem dX11_steps_17 : decode cX11_steps 17 = .ok (.iload_n 3, 1) := by decide +kernel
theorem dX11_steps_18 : decode cX11_steps 18 = .ok (.aload_n 0, 1) := by decide +kernel
theorem dX11_steps_19 : decode cX11_steps 19 = .ok (.getfield 7, 3) := by decide +kernel
theorem dX11_steps_22 : decode cX11_steps 22 = .ok (.sipush 204, 3) := by decide +kernel
theorem dX11_steps_25 : decode cX11_steps 25 = .ok (.iaload, 1) := by decide +kernel
theorem dX11_steps_26 : decode cX11_steps 26 = .ok (.if_icmp .ge 70, 3) := by decide +kernel
theorem dX11_steps_29 : decode cX11_steps 29 = .ok (.iconst 0, 1) := by decide +kernel
theorem dX11_steps_30 : decode cX11_steps 30 = .ok (.istore 4, 2) := by decide +kernel
theorem dX11_steps_32 : decode cX11_steps 32 = .ok (.iload 4, 2) := by decide +kernel
theorem dX11_steps_34 : decode cX11_steps 34 = .ok (.aload_n 0, 1) := by decide +kernel
theorem dX11_steps_35 : decode cX11_steps 35 = .ok (.getfield 7, 3) := by decide +kernel
theorem dX11_steps_38 : decode cX11_steps 38 = .ok (.sipush 205, 3) := by decide +kernel
theorem dX11_steps_41 : decode cX11_steps 41 = .ok (.iaload, 1) := by decide +kernel
theorem dX11_steps_42 : decode cX11_steps 42 = .ok (.if_icmp .ge 48, 3) := by decide +kernel
theorem dX11_steps_45 : decode cX11_steps 45 = .ok (.aload_n 0, 1) := by decide +kernel
theorem dX11_steps_46 : decode cX11_steps 46 = .ok (.invokevirtual 164, 3) := by decide +kernel
theorem dX11_steps_49 : decode cX11_steps 49 = .ok (.aload_n 0, 1) := by decide +kernel
theorem dX11_steps_50 : decode cX11_steps 50 = .ok (.getfield 33, 3) := by decide +kernel
theorem dX11_steps_53 : decode cX11_steps 53 = .ok (.iload_n 3, 1) := by decide +kernel
theorem dX11_steps_54 : decode cX11_steps 54 = .ok (.iaload, 1) := by decide +kernel
theorem dX11_steps_55 : decode cX11_steps 55 = .ok (.iload 4, 2) := by decide +kernel
theorem dX11_steps_57 : decode cX11_steps 57 = .ok (.if_icmp .eq 27, 3) := by decide +kernel
theorem dX11_steps_60 : decode cX11_steps 60 = .ok (.aload_n 0, 1) := by decide +kernel
theorem dX11_steps_61 : decode cX11_steps 61 = .ok (.iload_n 3, 1) := by decide +kernel
theorem dX11_steps_62 : decode cX11_steps 62 = .ok (.iload 4, 2) := by decide +kernel
theorem dX11_steps_64 : decode cX11_steps 64 = .ok (.invokevirtual 167, 3) := by decide +kernel
theorem dX11_steps_67 : decode cX11_steps 67 = .ok (.ifCond .ne 17, 3) := by decide +kernel
theorem dX11_steps_70 : decode cX11_steps 70 = .ok (.aload_n 0, 1) := by decide +kernel
theorem dX11_steps_71 : decode cX11_steps 71 = .ok (.iload_n 1, 1) := by decide +kernel
theorem dX11_steps_72 : decode cX11_steps 72 = .ok (.invokevirtual 218, 3) := by decide +kernel
theorem dX11_steps_75 : decode cX11_steps 75 = .ok (.ifCond .eq 9, 3) := by decide +kernel
theorem dX11_steps_78 : decode cX11_steps 78 = .ok (.aload_n 0, 1) := by decide +kernel
theorem dX11_steps_79 : decode cX11_steps 79 = .ok (.invokevirtual 215, 3) := by decide +kernel
theorem dX11_steps_82 : decode cX11_steps 82 = .ok (.iconst 1, 1) := by decide +kernel
theorem dX11_steps_83 : decode cX11_steps 83 = .ok (.istore_n 2, 1) := by decide +kernel
theorem dX11_steps_84 : decode cX11_steps 84 = .ok (.iinc 4 1, 3) := by decide +kernel
theorem dX11_steps_87 : decode cX11_steps 87 = .ok (.goto (-55), 3) := by decide +kernel
theorem dX11_steps_90 : decode cX11_steps 90 = .ok (.iinc 3 1, 3) := by decide +kernel
theorem dX11_steps_93 : decode cX11_steps 93 = .ok (.goto (-76), 3) := by decide +kernel
theorem dX11_steps_96 : decode cX11_steps 96 = .ok (.iconst 0, 1) := by decide +kernel
theorem dX11_steps_97 : decode cX11_steps 97 = .ok (.istore_n 3, 1) := by decide +kernel
theorem dX11_steps_98 : decode cX11_steps 98 = .ok (.iload_n 3, 1) := by decide +kernel
theorem dX11_steps_99 : decode cX11_steps 99 = .ok (.aload_n 0, 1) := by decide +kernel
theorem dX11_steps_100 : decode cX11_steps 100 = .ok (.getfield 7, 3) := by decide +kernel
theorem dX11_steps_103 : decode cX11_steps 103 = .ok (.sipush 204, 3) := by decide +kernel
theorem dX11_steps_106 : decode cX11_steps 106 = .ok (.iaload, 1) := by decide +kernel
theorem dX11_steps_107 : decode cX11_steps 107 = .ok (.if_icmp .ge 77, 3) := by decide +kernel
theorem dX11_steps_110 : decode cX11_steps 110 = .ok (.iload_n 3, 1) := by decide +kernel
theorem dX11_steps_111 : decode cX11_steps 111 = .ok (.iconst 1, 1) := by decide +kernel
theorem dX11_steps_112 : decode cX11_steps 112 = .ok (.iadd, 1) := by decide +kernel
theorem dX11_steps_113 : decode cX11_steps 113 = .ok (.istore 4, 2) := by decide +kernel
theorem dX11_steps_115 : decode cX11_steps 115 = .ok (.iload 4, 2) := by decide +kernel
theorem dX11_steps_117 : decode cX11_steps 117 = .ok (.aload_n 0, 1) := by decide +kernel
theorem dX11_steps_118 : decode cX11_steps 118 = .ok (.getfield 7, 3) := by decide +kernel
theorem dX11_steps_121 : decode cX11_steps 121 = .ok (.sipush 204, 3) := by decide +kernel
theorem dX11_steps_124 : decode cX11_steps 124 = .ok (.iaload, 1) := by decide +kernel
theorem dX11_steps_125 : decode cX11_steps 125 = .ok (.if_icmp .ge 53, 3) := by decide +kernel
theorem dX11_steps_128 : decode cX11_steps 128 = .ok (.aload_n 0, 1) := by decide +kernel
theorem dX11_steps_129 : decode cX11_steps 129 = .ok (.invokevirtual 164, 3) := by decide +kernel
theorem dX11_steps_132 : decode cX11_steps 132 = .ok (.aload_n 0, 1) := by decide +kernel
theorem dX11_steps_133 : decode cX11_steps 133 = .ok (.getfield 33, 3) := by decide +kernel
theorem dX11_steps_136 : decode cX11_steps 136 = .ok (.iload_n 3, 1) := by decide +kernel
theorem dX11_steps_137 : decode cX11_steps 137 = .ok (.iaload, 1) := by decide +kernel
theorem dX11_steps_138 : decode cX11_steps 138 = .ok (.aload_n 0, 1) := by decide +kernel
theorem dX11_steps_139 : decode cX11_steps 139 = .ok (.getfield 33, 3) := by decide +kernel
theorem dX11_steps_142 : decode cX11_steps 142 = .ok (.iload 4, 2) := by decide +kernel
theorem dX11_steps_144 : decode cX11_steps 144 = .ok (.iaload, 1) := by decide +kernel
theorem dX11_steps_145 : decode cX11_steps 145 = .ok (.if_icmp .eq 27, 3) := by decide +kernel
theorem dX11_steps_148 : decode cX11_steps 148 = .ok (.aload_n 0, 1) := by decide +kernel
theorem dX11_steps_149 : decode cX11_steps 149 = .ok (.iload_n 3, 1) := by decide +kernel
theorem dX11_steps_150 : decode cX11_steps 150 = .ok (.iload 4, 2) := by decide +kernel
theorem dX11_steps_152 : decode cX11_steps 152 = .ok (.invokevirtual 170, 3) := by decide +kernel
theorem dX11_steps_155 : decode cX11_steps 155 = .ok (.ifCond .ne 17, 3) := by decide +kernel
theorem dX11_steps_158 : decode cX11_steps 158 = .ok (.aload_n 0, 1) := by decide +kernel
theorem dX11_steps_159 : decode cX11_steps 159 = .ok (.iload_n 1, 1) := by decide +kernel
theorem dX11_steps_160 : decode cX11_steps 160 = .ok (.invokevirtual 218, 3) := by decide +kernel
theorem dX11_steps_163 : decode cX11_steps 163 = .ok (.ifCond .eq 9, 3) := by decide +kernel
theorem dX11_steps_166 : decode cX11_steps 166 = .ok (.aload_n 0, 1) := by decide +kernel
theorem dX11_steps_167 : decode cX11_steps 167 = .ok (.invokevirtual 215, 3) := by decide +kernel
theorem dX11_steps_170 : decode cX11_steps 170 = .ok (.iconst 1, 1) := by decide +kernel
theorem dX11_steps_171 : decode cX11_steps 171 = .ok (.istore_n 2, 1) := by decide +kernel
theorem dX11_steps_172 : decode cX11_steps 172 = .ok (.iinc 4 1, 3) := by decide +kernel
theorem dX11_steps_175 : decode cX11_steps 175 = .ok (.goto (-60), 3) := by decide +kernel
theorem dX11_steps_178 : decode cX11_steps 178 = .ok (.iinc 3 1, 3) := by decide +kernel
theorem dX11_steps_181 : decode cX11_steps 181 = .ok (.goto (-83), 3) := by decide +kernel
theorem dX11_steps_184 : decode cX11_steps 184 = .ok (.iconst 0, 1) := by decide +kernel
theorem dX11_steps_185 : decode cX11_steps 185 = .ok (.istore_n 3, 1) := by decide +kernel
theorem dX11_steps_186 : decode cX11_steps 186 = .ok (.iload_n 3, 1) := by decide +kernel
theorem dX11_steps_187 : decode cX11_steps 187 = .ok (.bipush 12, 2) := by decide +kernel
theorem dX11_steps_189 : decode cX11_steps 189 = .ok (.if_icmp .ge 25, 3) := by decide +kernel
theorem dX11_steps_192 : decode cX11_steps 192 = .ok (.aload_n 0, 1) := by decide +kernel
theorem dX11_steps_193 : decode cX11_steps 193 = .ok (.getfield 7, 3) := by decide +kernel
theorem dX11_steps_196 : decode cX11_steps 196 = .ok (.sipush 207, 3) := by decide +kernel
theorem dX11_steps_199 : decode cX11_steps 199 = .ok (.iload_n 3, 1) := by decide +kernel
theorem dX11_steps_200 : decode cX11_steps 200 = .ok (.iadd, 1) := by decide +kernel
theorem dX11_steps_201 : decode cX11_steps 201 = .ok (.aload_n 0, 1) := by decide +kernel
theorem dX11_steps_202 : decode cX11_steps 202 = .ok (.getfield 36, 3) := by decide +kernel
theorem dX11_steps_205 : decode cX11_steps 205 = .ok (.iload_n 3, 1) := by decide +kernel
theorem dX11_steps_206 : decode cX11_steps 206 = .ok (.iaload, 1) := by decide +kernel
theorem dX11_steps_207 : decode cX11_steps 207 = .ok (.iastore, 1) := by decide +kernel
theorem dX11_steps_208 : decode cX11_steps 208 = .ok (.iinc 3 1, 3) := by decide +kernel
theorem dX11_steps_211 : decode cX11_steps 211 = .ok (.goto (-25), 3) := by decide +kernel
theorem dX11_steps_214 : decode cX11_steps 214 = .ok (.iload_n 2, 1) := by decide +kernel
theorem dX11_steps_215 : decode cX11_steps 215 = .ok (.ireturn, 1) := by decide +kernel
theorem dX11_improve_0 : decode cX11_improve 0 = .ok (.iload_n 1, 1) := by decide +kernel
theorem dX11_improve_1 : decode cX11_improve 1 = .ok (.iconst 0, 1) := by decide +kernel
theorem dX11_improve_2 : decode cX11_improve 2 = .ok (.iconst 3, 1) := by decide +kernel
theorem dX11_improve_3 : decode cX11_improve 3 = .ok (.invokestatic 55, 3) := by decide +kernel
theorem dX11_improve_6 : decode cX11_improve 6 = .ok (.ifCond .ne 9, 3) := by decide +kernel
theorem dX11_improve_9 : decode cX11_improve 9 = .ok (.aload_n 0, 1) := by decide +kernel
theorem dX11_improve_10 : decode cX11_improve 10 = .ok (.iconst 1, 1) := by decide +kernel
theorem dX11_improve_11 : decode cX11_improve 11 = .ok (.invokevirtual 65, 3) := by decide +kernel
theorem dX11_improve_14 : decode cX11_improve 14 = .ok (.ireturn, 1) := by decide +kernel
theorem dX11_improve_15 : decode cX11_improve 15 = .ok (.aload_n 0, 1) := by decide +kernel
theorem dX11_improve_16 : decode cX11_improve 16 = .ok (.getfield 7, 3) := by decide +kernel
theorem dX11_improve_19 : decode cX11_improve 19 = .ok (.sipush 219, 3) := by decide +kernel
theorem dX11_improve_22 : decode cX11_improve 22 = .ok (.iaload, 1) := by decide +kernel
theorem dX11_improve_23 : decode cX11_improve 23 = .ok (.ifCond .ne 9, 3) := by decide +kernel
theorem dX11_improve_26 : decode cX11_improve 26 = .ok (.aload_n 0, 1) := by decide +kernel
theorem dX11_improve_27 : decode cX11_improve 27 = .ok (.iconst 2, 1) := by decide +kernel
theorem dX11_improve_28 : decode cX11_improve 28 = .ok (.invokevirtual 65, 3) := by decide +kernel
theorem dX11_improve_31 : decode cX11_improve 31 = .ok (.ireturn, 1) := by decide +kernel
theorem dX11_improve_32 : decode cX11_improve 32 = .ok (.aload_n 0, 1) := by decide +kernel
theorem dX11_improve_33 : decode cX11_improve 33 = .ok (.invokevirtual 101, 3) := by decide +kernel
theorem dX11_improve_36 : decode cX11_improve 36 = .ok (.iconst 0, 1) := by decide +kernel
theorem dX11_improve_37 : decode cX11_improve 37 = .ok (.istore_n 2, 1) := by decide +kernel
theorem dX11_improve_38 : decode cX11_improve 38 = .ok (.iload_n 2, 1) := by decide +kernel
theorem dX11_improve_39 : decode cX11_improve 39 = .ok (.bipush 20, 2) := by decide +kernel
theorem dX11_improve_41 : decode cX11_improve 41 = .ok (.if_icmp .ge 17, 3) := by decide +kernel
theorem dX11_improve_44 : decode cX11_improve 44 = .ok (.aload_n 0, 1) := by decide +kernel
theorem dX11_improve_45 : decode cX11_improve 45 = .ok (.iload_n 1, 1) := by decide +kernel
theorem dX11_improve_46 : decode cX11_improve 46 = .ok (.invokevirtual 221, 3) := by decide +kernel
theorem dX11_improve_49 : decode cX11_improve 49 = .ok (.ifCond .eq 9, 3) := by decide +kernel
theorem dX11_improve_52 : decode cX11_improve 52 = .ok (.iinc 2 1, 3) := by decide +kernel
theorem dX11_improve_55 : decode cX11_improve 55 = .ok (.goto (-17), 3) := by decide +kernel
theorem dX11_improve_58 : decode cX11_improve 58 = .ok (.aload_n 0, 1) := by decide +kernel
theorem dX11_improve_59 : decode cX11_improve 59 = .ok (.invokevirtual 107, 3) := by decide +kernel
theorem dX11_improve_62 : decode cX11_improve 62 = .ok (.aload_n 0, 1) := by decide +kernel
theorem dX11_improve_63 : decode cX11_improve 63 = .ok (.iload_n 2, 1) := by decide +kernel
theorem dX11_improve_64 : decode cX11_improve 64 = .ok (.invokevirtual 69, 3) := by decide +kernel
theorem dX11_improve_67 : decode cX11_improve 67 = .ok (.ireturn, 1) := by decide +kernel
theorem dX11_possible_0 : decode cX11_possible 0 = .ok (.aload_n 0, 1) := by decide +kernel
theorem dX11_possible_1 : decode cX11_possible 1 = .ok (.getfield 7, 3) := by decide +kernel
theorem dX11_possible_4 : decode cX11_possible 4 = .ok (.sipush 219, 3) := by decide +kernel
theorem dX11_possible_7 : decode cX11_possible 7 = .ok (.iaload, 1) := by decide +kernel
theorem dX11_possible_8 : decode cX11_possible 8 = .ok (.ifCond .ne 9, 3) := by decide +kernel
theorem dX11_possible_11 : decode cX11_possible 11 = .ok (.aload_n 0, 1) := by decide +kernel
theorem dX11_possible_12 : decode cX11_possible 12 = .ok (.iconst 1, 1) := by decide +kernel
theorem dX11_possible_13 : decode cX11_possible 13 = .ok (.invokevirtual 65, 3) := by decide +kernel
theorem dX11_possible_16 : decode cX11_possible 16 = .ok (.ireturn, 1) := by decide +kernel
theorem dX11_possible_17 : decode cX11_possible 17 = .ok (.iconst 0, 1) := by decide +kernel
theorem dX11_possible_18 : decode cX11_possible 18 = .ok (.istore_n 2, 1) := by decide +kernel
theorem dX11_possible_19 : decode cX11_possible 19 = .ok (.iconst 0, 1) := by decide +kernel
theorem dX11_possible_20 : decode cX11_possible 20 = .ok (.istore_n 3, 1) := by decide +kernel
theorem dX11_possible_21 : decode cX11_possible 21 = .ok (.iload_n 3, 1) := by decide +kernel
theorem dX11_possible_22 : decode cX11_possible 22 = .ok (.aload_n 0, 1) := by decide +kernel
theorem dX11_possible_23 : decode cX11_possible 23 = .ok (.getfield 7, 3) := by decide +kernel
theorem dX11_possible_26 : decode cX11_possible 26 = .ok (.sipush 204, 3) := by decide +kernel
theorem dX11_possible_29 : decode cX11_possible 29 = .ok (.iaload, 1) := by decide +kernel
theorem dX11_possible_30 : decode cX11_possible 30 = .ok (.if_icmp .ge 139, 3) := by decide +kernel
theorem dX11_possible_33 : decode cX11_possible 33 = .ok (.iload_n 1, 1) := by decide +kernel
theorem dX11_possible_34 : decode cX11_possible 34 = .ok (.ifCond .eq 9, 3) := by decide +kernel
theorem dX11_possible_37 : decode cX11_possible 37 = .ok (.iload_n 3, 1) := by decide +kernel
theorem dX11_possible_38 : decode cX11_possible 38 = .ok (.iconst 1, 1) := by decide +kernel
theorem dX11_possible_39 : decode cX11_possible 39 = .ok (.iadd, 1) := by decide +kernel
theorem dX11_possible_40 : decode cX11_possible 40 = .ok (.goto 4, 3) := by decide +kernel
theorem dX11_possible_43 : decode cX11_possible 43 = .ok (.iconst 0, 1) := by decide +kernel
theorem dX11_possible_44 : decode cX11_possible 44 = .ok (.istore 4, 2) := by decide +kernel
theorem dX11_possible_46 : decode cX11_possible 46 = .ok (.iload 4, 2) := by decide +kernel
theorem dX11_possible_48 : decode cX11_possible 48 = .ok (.iload_n 1, 1) := by decide +kernel
theorem dX11_possible_49 : decode cX11_possible 49 = .ok (.ifCond .eq 14, 3) := by decide +kernel
theorem dX11_possible_52 : decode cX11_possible 52 = .ok (.aload_n 0, 1) := by decide +kernel
theorem dX11_possible_53 : decode cX11_possible 53 = .ok (.getfield 7, 3) := by decide +kernel
theorem dX11_possible_56 : decode cX11_possible 56 = .ok (.sipush 204, 3) := by decide +kernel
theorem dX11_possible_59 : decode cX11_possible 59 = .ok (.iaload, 1) := by decide +kernel
theorem dX11_possible_60 : decode cX11_possible 60 = .ok (.goto 11, 3) := by decide +kernel
theorem dX11_possible_63 : decode cX11_possible 63 = .ok (.aload_n 0, 1) := by decide +kernel
theorem dX11_possible_64 : decode cX11_possible 64 = .ok (.getfield 7, 3) := by decide +kernel
theorem dX11_possible_67 : decode cX11_possible 67 = .ok (.sipush 205, 3) := by decide +kernel
theorem dX11_possible_70 : decode cX11_possible 70 = .ok (.iaload, 1) := by decide +kernel
theorem dX11_possible_71 : decode cX11_possible 71 = .ok (.if_icmp .ge 92, 3) := by decide +kernel
theorem dX11_possible_74 : decode cX11_possible 74 = .ok (.aload_n 0, 1) := by decide +kernel
theorem dX11_possible_75 : decode cX11_possible 75 = .ok (.invokevirtual 164, 3) := by decide +kernel
theorem dX11_possible_78 : decode cX11_possible 78 = .ok (.iload_n 1, 1) := by decide +kernel
theorem dX11_possible_79 : decode cX11_possible 79 = .ok (.ifCond .eq 37, 3) := by decide +kernel
theorem dX11_possible_82 : decode cX11_possible 82 = .ok (.aload_n 0, 1) := by decide +kernel
theorem dX11_possible_83 : decode cX11_possible 83 = .ok (.getfield 33, 3) := by decide +kernel
theorem dX11_possible_86 : decode cX11_possible 86 = .ok (.iload_n 3, 1) := by decide +kernel
theorem dX11_possible_87 : decode cX11_possible 87 = .ok (.iaload, 1) := by decide +kernel
theorem dX11_possible_88 : decode cX11_possible 88 = .ok (.aload_n 0, 1) := by decide +kernel
theorem dX11_possible_89 : decode cX11_possible 89 = .ok (.getfield 33, 3) := by decide +kernel
theorem dX11_possible_92 : decode cX11_possible 92 = .ok (.iload 4, 2) := by decide +kernel
theorem dX11_possible_94 : decode cX11_possible 94 = .ok (.iaload, 1) := by decide +kernel
theorem dX11_possible_95 : decode cX11_possible 95 = .ok (.if_icmp .eq 17, 3) := by decide +kernel
theorem dX11_possible_98 : decode cX11_possible 98 = .ok (.aload_n 0, 1) := by decide +kernel
theorem dX11_possible_99 : decode cX11_possible 99 = .ok (.iload_n 3, 1) := by decide +kernel
theorem dX11_possible_100 : decode cX11_possible 100 = .ok (.iload 4, 2) := by decide +kernel
theorem dX11_possible_102 : decode cX11_possible 102 = .ok (.invokevirtual 170, 3) := by decide +kernel
theorem dX11_possible_105 : decode cX11_possible 105 = .ok (.ifCond .ne 7, 3) := by decide +kernel
theorem dX11_possible_108 : decode cX11_possible 108 = .ok (.iconst 1, 1) := by decide +kernel
theorem dX11_possible_109 : decode cX11_possible 109 = .ok (.goto 33, 3) := by decide +kernel
theorem dX11_possible_112 : decode cX11_possible 112 = .ok (.iconst 0, 1) := by decide +kernel
theorem dX11_possible_113 : decode cX11_possible 113 = .ok (.goto 29, 3) := by decide +kernel
theorem dX11_possible_116 : decode cX11_possible 116 = .ok (.aload_n 0, 1) := by decide +kernel
theorem dX11_possible_117 : decode cX11_possible 117 = .ok (.getfield 33, 3) := by decide +kernel
theorem dX11_possible_120 : decode cX11_possible 120 = .ok (.iload_n 3, 1) := by decide +kernel
theorem dX11_possible_121 : decode cX11_possible 121 = .ok (.iaload, 1) := by decide +kernel
theorem dX11_possible_122 : decode cX11_possible 122 = .ok (.iload 4, 2) := by decide +kernel
theorem dX11_possible_124 : decode cX11_possible 124 = .ok (.if_icmp .eq 17, 3) := by decide +kernel
theorem dX11_possible_127 : decode cX11_possible 127 = .ok (.aload_n 0, 1) := by decide +kernel
theorem dX11_possible_128 : decode cX11_possible 128 = .ok (.iload_n 3, 1) := by decide +kernel
theorem dX11_possible_129 : decode cX11_possible 129 = .ok (.iload 4, 2) := by decide +kernel
theorem dX11_possible_131 : decode cX11_possible 131 = .ok (.invokevirtual 167, 3) := by decide +kernel
theorem dX11_possible_134 : decode cX11_possible 134 = .ok (.ifCond .ne 7, 3) := by decide +kernel
theorem dX11_possible_137 : decode cX11_possible 137 = .ok (.iconst 1, 1) := by decide +kernel
theorem dX11_possible_138 : decode cX11_possible 138 = .ok (.goto 4, 3) := by decide +kernel
theorem dX11_possible_141 : decode cX11_possible 141 = .ok (.iconst 0, 1) := by decide +kernel
theorem dX11_possible_142 : decode cX11_possible 142 = .ok (.istore 5, 2) := by decide +kernel
theorem dX11_possible_144 : decode cX11_possible 144 = .ok (.iload_n 2, 1) := by decide +kernel
theorem dX11_possible_145 : decode cX11_possible 145 = .ok (.iload 5, 2) := by decide +kernel
theorem dX11_possible_147 : decode cX11_possible 147 = .ok (.ifCond .eq 7, 3) := by decide +kernel
theorem dX11_possible_150 : decode cX11_possible 150 = .ok (.iconst 1, 1) := by decide +kernel
theorem dX11_possible_151 : decode cX11_possible 151 = .ok (.goto 4, 3) := by decide +kernel
theorem dX11_possible_154 : decode cX11_possible 154 = .ok (.iconst 0, 1) := by decide +kernel
theorem dX11_possible_155 : decode cX11_possible 155 = .ok (.iadd, 1) := by decide +kernel
theorem dX11_possible_156 : decode cX11_possible 156 = .ok (.istore_n 2, 1) := by decide +kernel
theorem dX11_possible_157 : decode cX11_possible 157 = .ok (.iinc 4 1, 3) := by decide +kernel
theorem dX11_possible_160 : decode cX11_possible 160 = .ok (.goto (-114), 3) := by decide +kernel
theorem dX11_possible_163 : decode cX11_possible 163 = .ok (.iinc 3 1, 3) := by decide +kernel
theorem dX11_possible_166 : decode cX11_possible 166 = .ok (.goto (-145), 3) := by decide +kernel
theorem dX11_possible_169 : decode cX11_possible 169 = .ok (.aload_n 0, 1) := by decide +kernel
theorem dX11_possible_170 : decode cX11_possible 170 = .ok (.iload_n 2, 1) := by decide +kernel
theorem dX11_possible_171 : decode cX11_possible 171 = .ok (.invokevirtual 69, 3) := by decide +kernel
theorem dX11_possible_174 : decode cX11_possible 174 = .ok (.ireturn, 1) := by decide +kernel
theorem dX11_isSmall_0 : decode cX11_isSmall 0 = .ok (.aload_n 0, 1) := by decide +kernel
theorem dX11_isSmall_1 : decode cX11_isSmall 1 = .ok (.getfield 7, 3) := by decide +kernel
theorem dX11_isSmall_4 : decode cX11_isSmall 4 = .ok (.sipush 204, 3) := by decide +kernel
theorem dX11_isSmall_7 : decode cX11_isSmall 7 = .ok (.iaload, 1) := by decide +kernel
theorem dX11_isSmall_8 : decode cX11_isSmall 8 = .ok (.iconst 1, 1) := by decide +kernel
theorem dX11_isSmall_9 : decode cX11_isSmall 9 = .ok (.bipush 9, 2) := by decide +kernel
theorem dX11_isSmall_11 : decode cX11_isSmall 11 = .ok (.invokestatic 55, 3) := by decide +kernel
theorem dX11_isSmall_14 : decode cX11_isSmall 14 = .ok (.ireturn, 1) := by decide +kernel
theorem dX11_begins_0 : decode cX11_begins 0 = .ok (.iconst 0, 1) := by decide +kernel
theorem dX11_begins_1 : decode cX11_begins 1 = .ok (.istore_n 1, 1) := by decide +kernel
theorem dX11_begins_2 : decode cX11_begins 2 = .ok (.iload_n 1, 1) := by decide +kernel
theorem dX11_begins_3 : decode cX11_begins 3 = .ok (.bipush 12, 2) := by decide +kernel
theorem dX11_begins_5 : decode cX11_begins 5 = .ok (.if_icmp .ge 16, 3) := by decide +kernel
theorem dX11_begins_8 : decode cX11_begins 8 = .ok (.aload_n 0, 1) := by decide +kernel
theorem dX11_begins_9 : decode cX11_begins 9 = .ok (.getfield 33, 3) := by decide +kernel
theorem dX11_begins_12 : decode cX11_begins 12 = .ok (.iload_n 1, 1) := by decide +kernel
theorem dX11_begins_13 : decode cX11_begins 13 = .ok (.iconst 0, 1) := by decide +kernel
theorem dX11_begins_14 : decode cX11_begins 14 = .ok (.iastore, 1) := by decide +kernel
theorem dX11_begins_15 : decode cX11_begins 15 = .ok (.iinc 1 1, 3) := by decide +kernel
theorem dX11_begins_18 : decode cX11_begins 18 = .ok (.goto (-16), 3) := by decide +kernel
theorem dX11_begins_21 : decode cX11_begins 21 = .ok (.return_, 1) := by decide +kernel
theorem dX11_goesOn_0 : decode cX11_goesOn 0 = .ok (.aload_n 0, 1) := by decide +kernel
theorem dX11_goesOn_1 : decode cX11_goesOn 1 = .ok (.getfield 7, 3) := by decide +kernel
theorem dX11_goesOn_4 : decode cX11_goesOn 4 = .ok (.sipush 204, 3) := by decide +kernel
theorem dX11_goesOn_7 : decode cX11_goesOn 7 = .ok (.iaload, 1) := by decide +kernel
theorem dX11_goesOn_8 : decode cX11_goesOn 8 = .ok (.iconst 1, 1) := by decide +kernel
theorem dX11_goesOn_9 : decode cX11_goesOn 9 = .ok (.isub, 1) := by decide +kernel
theorem dX11_goesOn_10 : decode cX11_goesOn 10 = .ok (.istore_n 1, 1) := by decide +kernel
theorem dX11_goesOn_11 : decode cX11_goesOn 11 = .ok (.iload_n 1, 1) := by decide +kernel
theorem dX11_goesOn_12 : decode cX11_goesOn 12 = .ok (.ifCond .le 115, 3) := by decide +kernel
theorem dX11_goesOn_15 : decode cX11_goesOn 15 = .ok (.iconst 0, 1) := by decide +kernel
theorem dX11_goesOn_16 : decode cX11_goesOn 16 = .ok (.istore_n 2, 1) := by decide +kernel
theorem dX11_goesOn_17 : decode cX11_goesOn 17 = .ok (.iconst 0, 1) := by decide +kernel
theorem dX11_goesOn_18 : decode cX11_goesOn 18 = .ok (.istore_n 3, 1) := by decide +kernel
theorem dX11_goesOn_19 : decode cX11_goesOn 19 = .ok (.iload_n 3, 1) := by decide +kernel
theorem dX11_goesOn_20 : decode cX11_goesOn 20 = .ok (.iload_n 1, 1) := by decide +kernel
theorem dX11_goesOn_21 : decode cX11_goesOn 21 = .ok (.if_icmp .ge 30, 3) := by decide +kernel
theorem dX11_goesOn_24 : decode cX11_goesOn 24 = .ok (.aload_n 0, 1) := by decide +kernel
theorem dX11_goesOn_25 : decode cX11_goesOn 25 = .ok (.getfield 33, 3) := by decide +kernel
theorem dX11_goesOn_28 : decode cX11_goesOn 28 = .ok (.iload_n 3, 1) := by decide +kernel
theorem dX11_goesOn_29 : decode cX11_goesOn 29 = .ok (.iaload, 1) := by decide +kernel
theorem dX11_goesOn_30 : decode cX11_goesOn 30 = .ok (.iload_n 2, 1) := by decide +kernel
theorem dX11_goesOn_31 : decode cX11_goesOn 31 = .ok (.if_icmp .le 12, 3) := by decide +kernel
theorem dX11_goesOn_34 : decode cX11_goesOn 34 = .ok (.aload_n 0, 1) := by decide +kernel
theorem dX11_goesOn_35 : decode cX11_goesOn 35 = .ok (.getfield 33, 3) := by decide +kernel
theorem dX11_goesOn_38 : decode cX11_goesOn 38 = .ok (.iload_n 3, 1) := by decide +kernel
theorem dX11_goesOn_39 : decode cX11_goesOn 39 = .ok (.iaload, 1) := by decide +kernel
theorem dX11_goesOn_40 : decode cX11_goesOn 40 = .ok (.goto 4, 3) := by decide +kernel
theorem dX11_goesOn_43 : decode cX11_goesOn 43 = .ok (.iload_n 2, 1) := by decide +kernel
theorem dX11_goesOn_44 : decode cX11_goesOn 44 = .ok (.istore_n 2, 1) := by decide +kernel
theorem dX11_goesOn_45 : decode cX11_goesOn 45 = .ok (.iinc 3 1, 3) := by decide +kernel
theorem dX11_goesOn_48 : decode cX11_goesOn 48 = .ok (.goto (-29), 3) := by decide +kernel
theorem dX11_goesOn_51 : decode cX11_goesOn 51 = .ok (.aload_n 0, 1) := by decide +kernel
theorem dX11_goesOn_52 : decode cX11_goesOn 52 = .ok (.getfield 33, 3) := by decide +kernel
theorem dX11_goesOn_55 : decode cX11_goesOn 55 = .ok (.iload_n 1, 1) := by decide +kernel
theorem dX11_goesOn_56 : decode cX11_goesOn 56 = .ok (.iaload, 1) := by decide +kernel
theorem dX11_goesOn_57 : decode cX11_goesOn 57 = .ok (.iload_n 2, 1) := by decide +kernel
theorem dX11_goesOn_58 : decode cX11_goesOn 58 = .ok (.if_icmp .gt 63, 3) := by decide +kernel
theorem dX11_goesOn_61 : decode cX11_goesOn 61 = .ok (.aload_n 0, 1) := by decide +kernel
theorem dX11_goesOn_62 : decode cX11_goesOn 62 = .ok (.getfield 33, 3) := by decide +kernel
theorem dX11_goesOn_65 : decode cX11_goesOn 65 = .ok (.iload_n 1, 1) := by decide +kernel
theorem dX11_goesOn_66 : decode cX11_goesOn 66 = .ok (.iaload, 1) := by decide +kernel
theorem dX11_goesOn_67 : decode cX11_goesOn 67 = .ok (.aload_n 0, 1) := by decide +kernel
theorem dX11_goesOn_68 : decode cX11_goesOn 68 = .ok (.getfield 7, 3) := by decide +kernel
theorem dX11_goesOn_71 : decode cX11_goesOn 71 = .ok (.sipush 205, 3) := by decide +kernel
theorem dX11_goesOn_74 : decode cX11_goesOn 74 = .ok (.iaload, 1) := by decide +kernel
theorem dX11_goesOn_75 : decode cX11_goesOn 75 = .ok (.iconst 1, 1) := by decide +kernel
theorem dX11_goesOn_76 : decode cX11_goesOn 76 = .ok (.isub, 1) := by decide +kernel
theorem dX11_goesOn_77 : decode cX11_goesOn 77 = .ok (.if_icmp .ge 44, 3) := by decide +kernel
theorem dX11_goesOn_80 : decode cX11_goesOn 80 = .ok (.aload_n 0, 1) := by decide +kernel
theorem dX11_goesOn_81 : decode cX11_goesOn 81 = .ok (.getfield 33, 3) := by decide +kernel
theorem dX11_goesOn_84 : decode cX11_goesOn 84 = .ok (.iload_n 1, 1) := by decide +kernel
theorem dX11_goesOn_85 : decode cX11_goesOn 85 = .ok (.dup2, 1) := by decide +kernel
theorem dX11_goesOn_86 : decode cX11_goesOn 86 = .ok (.iaload, 1) := by decide +kernel
theorem dX11_goesOn_87 : decode cX11_goesOn 87 = .ok (.iconst 1, 1) := by decide +kernel
theorem dX11_goesOn_88 : decode cX11_goesOn 88 = .ok (.iadd, 1) := by decide +kernel
theorem dX11_goesOn_89 : decode cX11_goesOn 89 = .ok (.iastore, 1) := by decide +kernel
theorem dX11_goesOn_90 : decode cX11_goesOn 90 = .ok (.iload_n 1, 1) := by decide +kernel
theorem dX11_goesOn_91 : decode cX11_goesOn 91 = .ok (.iconst 1, 1) := by decide +kernel
theorem dX11_goesOn_92 : decode cX11_goesOn 92 = .ok (.iadd, 1) := by decide +kernel
theorem dX11_goesOn_93 : decode cX11_goesOn 93 = .ok (.istore_n 3, 1) := by decide +kernel
theorem dX11_goesOn_94 : decode cX11_goesOn 94 = .ok (.iload_n 3, 1) := by decide +kernel
theorem dX11_goesOn_95 : decode cX11_goesOn 95 = .ok (.aload_n 0, 1) := by decide +kernel
theorem dX11_goesOn_96 : decode cX11_goesOn 96 = .ok (.getfield 7, 3) := by decide +kernel
theorem dX11_goesOn_99 : decode cX11_goesOn 99 = .ok (.sipush 204, 3) := by decide +kernel
theorem dX11_goesOn_102 : decode cX11_goesOn 102 = .ok (.iaload, 1) := by decide +kernel
theorem dX11_goesOn_103 : decode cX11_goesOn 103 = .ok (.if_icmp .ge 16, 3) := by decide +kernel
theorem dX11_goesOn_106 : decode cX11_goesOn 106 = .ok (.aload_n 0, 1) := by decide +kernel
theorem dX11_goesOn_107 : decode cX11_goesOn 107 = .ok (.getfield 33, 3) := by decide +kernel
theorem dX11_goesOn_110 : decode cX11_goesOn 110 = .ok (.iload_n 3, 1) := by decide +kernel
theorem dX11_goesOn_111 : decode cX11_goesOn 111 = .ok (.iconst 0, 1) := by decide +kernel
theorem dX11_goesOn_112 : decode cX11_goesOn 112 = .ok (.iastore, 1) := by decide +kernel
theorem dX11_goesOn_113 : decode cX11_goesOn 113 = .ok (.iinc 3 1, 3) := by decide +kernel
theorem dX11_goesOn_116 : decode cX11_goesOn 116 = .ok (.goto (-22), 3) := by decide +kernel
theorem dX11_goesOn_119 : decode cX11_goesOn 119 = .ok (.iconst 1, 1) := by decide +kernel
theorem dX11_goesOn_120 : decode cX11_goesOn 120 = .ok (.ireturn, 1) := by decide +kernel
theorem dX11_goesOn_121 : decode cX11_goesOn 121 = .ok (.iinc 1 (-1), 3) := by decide +kernel
theorem dX11_goesOn_124 : decode cX11_goesOn 124 = .ok (.goto (-113), 3) := by decide +kernel
theorem dX11_goesOn_127 : decode cX11_goesOn 127 = .ok (.iconst 0, 1) := by decide +kernel
theorem dX11_goesOn_128 : decode cX11_goesOn 128 = .ok (.ireturn, 1) := by decide +kernel
theorem dX11_plansUpTo_0 : decode cX11_plansUpTo 0 = .ok (.aload_n 0, 1) := by decide +kernel
theorem dX11_plansUpTo_1 : decode cX11_plansUpTo 1 = .ok (.invokevirtual 224, 3) := by decide +kernel
theorem dX11_plansUpTo_4 : decode cX11_plansUpTo 4 = .ok (.iconst 0, 1) := by decide +kernel
theorem dX11_plansUpTo_5 : decode cX11_plansUpTo 5 = .ok (.istore_n 2, 1) := by decide +kernel
theorem dX11_plansUpTo_6 : decode cX11_plansUpTo 6 = .ok (.iconst 1, 1) := by decide +kernel
theorem dX11_plansUpTo_7 : decode cX11_plansUpTo 7 = .ok (.istore_n 3, 1) := by decide +kernel
theorem dX11_plansUpTo_8 : decode cX11_plansUpTo 8 = .ok (.iload_n 3, 1) := by decide +kernel
theorem dX11_plansUpTo_9 : decode cX11_plansUpTo 9 = .ok (.ifCond .eq 39, 3) := by decide +kernel
theorem dX11_plansUpTo_12 : decode cX11_plansUpTo 12 = .ok (.iload_n 2, 1) := by decide +kernel
theorem dX11_plansUpTo_13 : decode cX11_plansUpTo 13 = .ok (.aload_n 0, 1) := by decide +kernel
theorem dX11_plansUpTo_14 : decode cX11_plansUpTo 14 = .ok (.invokevirtual 149, 3) := by decide +kernel
theorem dX11_plansUpTo_17 : decode cX11_plansUpTo 17 = .ok (.ifCond .ne 7, 3) := by decide +kernel
theorem dX11_plansUpTo_20 : decode cX11_plansUpTo 20 = .ok (.iconst 1, 1) := by decide +kernel
theorem dX11_plansUpTo_21 : decode cX11_plansUpTo 21 = .ok (.goto 4, 3) := by decide +kernel
theorem dX11_plansUpTo_24 : decode cX11_plansUpTo 24 = .ok (.iconst 0, 1) := by decide +kernel
theorem dX11_plansUpTo_25 : decode cX11_plansUpTo 25 = .ok (.iadd, 1) := by decide +kernel
theorem dX11_plansUpTo_26 : decode cX11_plansUpTo 26 = .ok (.istore_n 2, 1) := by decide +kernel
theorem dX11_plansUpTo_27 : decode cX11_plansUpTo 27 = .ok (.iload_n 2, 1) := by decide +kernel
theorem dX11_plansUpTo_28 : decode cX11_plansUpTo 28 = .ok (.iload_n 1, 1) := by decide +kernel
theorem dX11_plansUpTo_29 : decode cX11_plansUpTo 29 = .ok (.if_icmp .gt 14, 3) := by decide +kernel
theorem dX11_plansUpTo_32 : decode cX11_plansUpTo 32 = .ok (.aload_n 0, 1) := by decide +kernel
theorem dX11_plansUpTo_33 : decode cX11_plansUpTo 33 = .ok (.invokevirtual 227, 3) := by decide +kernel
theorem dX11_plansUpTo_36 : decode cX11_plansUpTo 36 = .ok (.ifCond .eq 7, 3) := by decide +kernel
theorem dX11_plansUpTo_39 : decode cX11_plansUpTo 39 = .ok (.iconst 1, 1) := by decide +kernel
theorem dX11_plansUpTo_40 : decode cX11_plansUpTo 40 = .ok (.goto 4, 3) := by decide +kernel
theorem dX11_plansUpTo_43 : decode cX11_plansUpTo 43 = .ok (.iconst 0, 1) := by decide +kernel
theorem dX11_plansUpTo_44 : decode cX11_plansUpTo 44 = .ok (.istore_n 3, 1) := by decide +kernel
theorem dX11_plansUpTo_45 : decode cX11_plansUpTo 45 = .ok (.goto (-37), 3) := by decide +kernel
theorem dX11_plansUpTo_48 : decode cX11_plansUpTo 48 = .ok (.iload_n 2, 1) := by decide +kernel
theorem dX11_plansUpTo_49 : decode cX11_plansUpTo 49 = .ok (.ireturn, 1) := by decide +kernel
theorem dX11_allPlans_0 : decode cX11_allPlans 0 = .ok (.aload_n 0, 1) := by decide +kernel
theorem dX11_allPlans_1 : decode cX11_allPlans 1 = .ok (.ldc 230, 2) := by decide +kernel
theorem dX11_allPlans_3 : decode cX11_allPlans 3 = .ok (.invokevirtual 231, 3) := by decide +kernel
theorem dX11_allPlans_6 : decode cX11_allPlans 6 = .ok (.ireturn, 1) := by decide +kernel
theorem dX11_plans_0 : decode cX11_plans 0 = .ok (.aload_n 0, 1) := by decide +kernel
theorem dX11_plans_1 : decode cX11_plans 1 = .ok (.invokevirtual 234, 3) := by decide +kernel
theorem dX11_plans_4 : decode cX11_plans 4 = .ok (.ifCond .eq 14, 3) := by decide +kernel
theorem dX11_plans_7 : decode cX11_plans 7 = .ok (.aload_n 0, 1) := by decide +kernel
theorem dX11_plans_8 : decode cX11_plans 8 = .ok (.aload_n 0, 1) := by decide +kernel
theorem dX11_plans_9 : decode cX11_plans 9 = .ok (.invokevirtual 237, 3) := by decide +kernel
theorem dX11_plans_12 : decode cX11_plans 12 = .ok (.invokevirtual 69, 3) := by decide +kernel
theorem dX11_plans_15 : decode cX11_plans 15 = .ok (.goto 8, 3) := by decide +kernel
theorem dX11_plans_18 : decode cX11_plans 18 = .ok (.aload_n 0, 1) := by decide +kernel
theorem dX11_plans_19 : decode cX11_plans 19 = .ok (.iconst 1, 1) := by decide +kernel
theorem dX11_plans_20 : decode cX11_plans 20 = .ok (.invokevirtual 65, 3) := by decide +kernel
theorem dX11_plans_23 : decode cX11_plans 23 = .ok (.ireturn, 1) := by decide +kernel
theorem dX11_counted_0 : decode cX11_counted 0 = .ok (.aload_n 0, 1) := by decide +kernel
theorem dX11_counted_1 : decode cX11_counted 1 = .ok (.invokevirtual 234, 3) := by decide +kernel
theorem dX11_counted_4 : decode cX11_counted 4 = .ok (.ifCond .eq 14, 3) := by decide +kernel
theorem dX11_counted_7 : decode cX11_counted 7 = .ok (.aload_n 0, 1) := by decide +kernel
theorem dX11_counted_8 : decode cX11_counted 8 = .ok (.aload_n 0, 1) := by decide +kernel
theorem dX11_counted_9 : decode cX11_counted 9 = .ok (.invokevirtual 237, 3) := by decide +kernel
theorem dX11_counted_12 : decode cX11_counted 12 = .ok (.invokevirtual 69, 3) := by decide +kernel
theorem dX11_counted_15 : decode cX11_counted 15 = .ok (.goto 8, 3) := by decide +kernel
theorem dX11_counted_18 : decode cX11_counted 18 = .ok (.aload_n 0, 1) := by decide +kernel
theorem dX11_counted_19 : decode cX11_counted 19 = .ok (.iconst 1, 1) := by decide +kernel
theorem dX11_counted_20 : decode cX11_counted 20 = .ok (.invokevirtual 65, 3) := by decide +kernel
theorem dX11_counted_23 : decode cX11_counted 23 = .ok (.ireturn, 1) := by decide +kernel
theorem dX11_planned_0 : decode cX11_planned 0 = .ok (.aload_n 0, 1) := by decide +kernel
theorem dX11_planned_1 : decode cX11_planned 1 = .ok (.invokevirtual 234, 3) := by decide +kernel
theorem dX11_planned_4 : decode cX11_planned 4 = .ok (.ifCond .ne 9, 3) := by decide +kernel
theorem dX11_planned_7 : decode cX11_planned 7 = .ok (.aload_n 0, 1) := by decide +kernel
theorem dX11_planned_8 : decode cX11_planned 8 = .ok (.iconst 1, 1) := by decide +kernel
theorem dX11_planned_9 : decode cX11_planned 9 = .ok (.invokevirtual 65, 3) := by decide +kernel
theorem dX11_planned_12 : decode cX11_planned 12 = .ok (.ireturn, 1) := by decide +kernel
theorem dX11_planned_13 : decode cX11_planned 13 = .ok (.aload_n 0, 1) := by decide +kernel
theorem dX11_planned_14 : decode cX11_planned 14 = .ok (.iload_n 2, 1) := by decide +kernel
theorem dX11_planned_15 : decode cX11_planned 15 = .ok (.invokevirtual 90, 3) := by decide +kernel
theorem dX11_planned_18 : decode cX11_planned 18 = .ok (.ifCond .ne 9, 3) := by decide +kernel
theorem dX11_planned_21 : decode cX11_planned 21 = .ok (.aload_n 0, 1) := by decide +kernel
theorem dX11_planned_22 : decode cX11_planned 22 = .ok (.iconst 2, 1) := by decide +kernel
theorem dX11_planned_23 : decode cX11_planned 23 = .ok (.invokevirtual 65, 3) := by decide +kernel
theorem dX11_planned_26 : decode cX11_planned 26 = .ok (.ireturn, 1) := by decide +kernel
theorem dX11_planned_27 : decode cX11_planned 27 = .ok (.iload_n 1, 1) := by decide +kernel
theorem dX11_planned_28 : decode cX11_planned 28 = .ok (.ifCond .lt 18, 3) := by decide +kernel
theorem dX11_planned_31 : decode cX11_planned 31 = .ok (.iload_n 1, 1) := by decide +kernel
theorem dX11_planned_32 : decode cX11_planned 32 = .ok (.ldc 240, 2) := by decide +kernel
theorem dX11_planned_34 : decode cX11_planned 34 = .ok (.if_icmp .gt 12, 3) := by decide +kernel
theorem dX11_planned_37 : decode cX11_planned 37 = .ok (.aload_n 0, 1) := by decide +kernel
theorem dX11_planned_38 : decode cX11_planned 38 = .ok (.iload_n 1, 1) := by decide +kernel
theorem dX11_planned_39 : decode cX11_planned 39 = .ok (.invokevirtual 231, 3) := by decide +kernel
theorem dX11_planned_42 : decode cX11_planned 42 = .ok (.iload_n 1, 1) := by decide +kernel
theorem dX11_planned_43 : decode cX11_planned 43 = .ok (.if_icmp .gt 9, 3) := by decide +kernel
theorem dX11_planned_46 : decode cX11_planned 46 = .ok (.aload_n 0, 1) := by decide +kernel
theorem dX11_planned_47 : decode cX11_planned 47 = .ok (.iconst 3, 1) := by decide +kernel
theorem dX11_planned_48 : decode cX11_planned 48 = .ok (.invokevirtual 65, 3) := by decide +kernel
theorem dX11_planned_51 : decode cX11_planned 51 = .ok (.ireturn, 1) := by decide +kernel
theorem dX11_planned_52 : decode cX11_planned 52 = .ok (.aload_n 0, 1) := by decide +kernel
theorem dX11_planned_53 : decode cX11_planned 53 = .ok (.aload_n 0, 1) := by decide +kernel
theorem dX11_planned_54 : decode cX11_planned 54 = .ok (.getfield 33, 3) := by decide +kernel
theorem dX11_planned_57 : decode cX11_planned 57 = .ok (.iload_n 2, 1) := by decide +kernel
theorem dX11_planned_58 : decode cX11_planned 58 = .ok (.iaload, 1) := by decide +kernel
theorem dX11_planned_59 : decode cX11_planned 59 = .ok (.invokevirtual 69, 3) := by decide +kernel
theorem dX11_planned_62 : decode cX11_planned 62 = .ok (.ireturn, 1) := by decide +kernel
theorem dX11_best_0 : decode cX11_best 0 = .ok (.iload_n 1, 1) := by decide +kernel
theorem dX11_best_1 : decode cX11_best 1 = .ok (.iconst 0, 1) := by decide +kernel
theorem dX11_best_2 : decode cX11_best 2 = .ok (.iconst 3, 1) := by decide +kernel
theorem dX11_best_3 : decode cX11_best 3 = .ok (.invokestatic 55, 3) := by decide +kernel
theorem dX11_best_6 : decode cX11_best 6 = .ok (.ifCond .ne 9, 3) := by decide +kernel
theorem dX11_best_9 : decode cX11_best 9 = .ok (.aload_n 0, 1) := by decide +kernel
theorem dX11_best_10 : decode cX11_best 10 = .ok (.iconst 1, 1) := by decide +kernel
theorem dX11_best_11 : decode cX11_best 11 = .ok (.invokevirtual 65, 3) := by decide +kernel
theorem dX11_best_14 : decode cX11_best 14 = .ok (.ireturn, 1) := by decide +kernel
theorem dX11_best_15 : decode cX11_best 15 = .ok (.aload_n 0, 1) := by decide +kernel
theorem dX11_best_16 : decode cX11_best 16 = .ok (.invokevirtual 234, 3) := by decide +kernel
theorem dX11_best_19 : decode cX11_best 19 = .ok (.ifCond .ne 9, 3) := by decide +kernel
theorem dX11_best_22 : decode cX11_best 22 = .ok (.aload_n 0, 1) := by decide +kernel
theorem dX11_best_23 : decode cX11_best 23 = .ok (.iconst 2, 1) := by decide +kernel
theorem dX11_best_24 : decode cX11_best 24 = .ok (.invokevirtual 65, 3) := by decide +kernel
theorem dX11_best_27 : decode cX11_best 27 = .ok (.ireturn, 1) := by decide +kernel
theorem dX11_best_28 : decode cX11_best 28 = .ok (.iconst (-1), 1) := by decide +kernel
theorem dX11_best_29 : decode cX11_best 29 = .ok (.istore_n 2, 1) := by decide +kernel
theorem dX11_best_30 : decode cX11_best 30 = .ok (.iconst 0, 1) := by decide +kernel
theorem dX11_best_31 : decode cX11_best 31 = .ok (.istore_n 3, 1) := by decide +kernel
theorem dX11_best_32 : decode cX11_best 32 = .ok (.aload_n 0, 1) := by decide +kernel
theorem dX11_best_33 : decode cX11_best 33 = .ok (.invokevirtual 224, 3) := by decide +kernel
theorem dX11_best_36 : decode cX11_best 36 = .ok (.iconst 1, 1) := by decide +kernel
theorem dX11_best_37 : decode cX11_best 37 = .ok (.istore 4, 2) := by decide +kernel
theorem dX11_best_39 : decode cX11_best 39 = .ok (.iload 4, 2) := by decide +kernel
theorem dX11_best_41 : decode cX11_best 41 = .ok (.ifCond .eq 57, 3) := by decide +kernel
theorem dX11_best_44 : decode cX11_best 44 = .ok (.aload_n 0, 1) := by decide +kernel
theorem dX11_best_45 : decode cX11_best 45 = .ok (.invokevirtual 149, 3) := by decide +kernel
theorem dX11_best_48 : decode cX11_best 48 = .ok (.ifCond .ne 41, 3) := by decide +kernel
theorem dX11_best_51 : decode cX11_best 51 = .ok (.aload_n 0, 1) := by decide +kernel
theorem dX11_best_52 : decode cX11_best 52 = .ok (.iload_n 1, 1) := by decide +kernel
theorem dX11_best_53 : decode cX11_best 53 = .ok (.invokevirtual 202, 3) := by decide +kernel
theorem dX11_best_56 : decode cX11_best 56 = .ok (.iload_n 3, 1) := by decide +kernel
theorem dX11_best_57 : decode cX11_best 57 = .ok (.ifCond .eq 11, 3) := by decide +kernel
theorem dX11_best_60 : decode cX11_best 60 = .ok (.aload_n 0, 1) := by decide +kernel
theorem dX11_best_61 : decode cX11_best 61 = .ok (.iload_n 1, 1) := by decide +kernel
theorem dX11_best_62 : decode cX11_best 62 = .ok (.invokevirtual 218, 3) := by decide +kernel
theorem dX11_best_65 : decode cX11_best 65 = .ok (.ifCond .eq 21, 3) := by decide +kernel
theorem dX11_best_68 : decode cX11_best 68 = .ok (.aload_n 0, 1) := by decide +kernel
theorem dX11_best_69 : decode cX11_best 69 = .ok (.aload_n 0, 1) := by decide +kernel
theorem dX11_best_70 : decode cX11_best 70 = .ok (.getfield 181, 3) := by decide +kernel
theorem dX11_best_73 : decode cX11_best 73 = .ok (.putfield 212, 3) := by decide +kernel
theorem dX11_best_76 : decode cX11_best 76 = .ok (.aload_n 0, 1) := by decide +kernel
theorem dX11_best_77 : decode cX11_best 77 = .ok (.aload_n 0, 1) := by decide +kernel
theorem dX11_best_78 : decode cX11_best 78 = .ok (.getfield 185, 3) := by decide +kernel
theorem dX11_best_81 : decode cX11_best 81 = .ok (.putfield 209, 3) := by decide +kernel
theorem dX11_best_84 : decode cX11_best 84 = .ok (.iload_n 3, 1) := by decide +kernel
theorem dX11_best_85 : decode cX11_best 85 = .ok (.istore_n 2, 1) := by decide +kernel
theorem dX11_best_86 : decode cX11_best 86 = .ok (.iinc 3 1, 3) := by decide +kernel
theorem dX11_best_89 : decode cX11_best 89 = .ok (.aload_n 0, 1) := by decide +kernel
theorem dX11_best_90 : decode cX11_best 90 = .ok (.invokevirtual 227, 3) := by decide +kernel
theorem dX11_best_93 : decode cX11_best 93 = .ok (.istore 4, 2) := by decide +kernel
theorem dX11_best_95 : decode cX11_best 95 = .ok (.goto (-56), 3) := by decide +kernel
theorem dX11_best_98 : decode cX11_best 98 = .ok (.iload_n 2, 1) := by decide +kernel
theorem dX11_best_99 : decode cX11_best 99 = .ok (.iconst (-1), 1) := by decide +kernel
theorem dX11_best_100 : decode cX11_best 100 = .ok (.if_icmp .ne 11, 3) := by decide +kernel
theorem dX11_best_103 : decode cX11_best 103 = .ok (.aload_n 0, 1) := by decide +kernel
theorem dX11_best_104 : decode cX11_best 104 = .ok (.iconst 3, 1) := by decide +kernel
theorem dX11_best_105 : decode cX11_best 105 = .ok (.invokevirtual 65, 3) := by decide +kernel
theorem dX11_best_108 : decode cX11_best 108 = .ok (.goto 8, 3) := by decide +kernel
theorem dX11_best_111 : decode cX11_best 111 = .ok (.aload_n 0, 1) := by decide +kernel
theorem dX11_best_112 : decode cX11_best 112 = .ok (.iload_n 2, 1) := by decide +kernel
theorem dX11_best_113 : decode cX11_best 113 = .ok (.invokevirtual 69, 3) := by decide +kernel
theorem dX11_best_116 : decode cX11_best 116 = .ok (.ireturn, 1) := by decide +kernel
theorem dX11_choose_0 : decode cX11_choose 0 = .ok (.aload_n 0, 1) := by decide +kernel
theorem dX11_choose_1 : decode cX11_choose 1 = .ok (.invokevirtual 234, 3) := by decide +kernel
theorem dX11_choose_4 : decode cX11_choose 4 = .ok (.ifCond .ne 9, 3) := by decide +kernel
theorem dX11_choose_7 : decode cX11_choose 7 = .ok (.aload_n 0, 1) := by decide +kernel
theorem dX11_choose_8 : decode cX11_choose 8 = .ok (.iconst 1, 1) := by decide +kernel
theorem dX11_choose_9 : decode cX11_choose 9 = .ok (.invokevirtual 65, 3) := by decide +kernel
theorem dX11_choose_12 : decode cX11_choose 12 = .ok (.ireturn, 1) := by decide +kernel
theorem dX11_choose_13 : decode cX11_choose 13 = .ok (.iload_n 1, 1) := by decide +kernel
theorem dX11_choose_14 : decode cX11_choose 14 = .ok (.ifCond .lt 18, 3) := by decide +kernel
theorem dX11_choose_17 : decode cX11_choose 17 = .ok (.iload_n 1, 1) := by decide +kernel
theorem dX11_choose_18 : decode cX11_choose 18 = .ok (.ldc 240, 2) := by decide +kernel
theorem dX11_choose_20 : decode cX11_choose 20 = .ok (.if_icmp .gt 12, 3) := by decide +kernel
theorem dX11_choose_23 : decode cX11_choose 23 = .ok (.aload_n 0, 1) := by decide +kernel
theorem dX11_choose_24 : decode cX11_choose 24 = .ok (.iload_n 1, 1) := by decide +kernel
theorem dX11_choose_25 : decode cX11_choose 25 = .ok (.invokevirtual 231, 3) := by decide +kernel
theorem dX11_choose_28 : decode cX11_choose 28 = .ok (.iload_n 1, 1) := by decide +kernel
theorem dX11_choose_29 : decode cX11_choose 29 = .ok (.if_icmp .gt 9, 3) := by decide +kernel
theorem dX11_choose_32 : decode cX11_choose 32 = .ok (.aload_n 0, 1) := by decide +kernel
theorem dX11_choose_33 : decode cX11_choose 33 = .ok (.iconst 2, 1) := by decide +kernel
theorem dX11_choose_34 : decode cX11_choose 34 = .ok (.invokevirtual 65, 3) := by decide +kernel
theorem dX11_choose_37 : decode cX11_choose 37 = .ok (.ireturn, 1) := by decide +kernel
theorem dX11_choose_38 : decode cX11_choose 38 = .ok (.iconst 0, 1) := by decide +kernel
theorem dX11_choose_39 : decode cX11_choose 39 = .ok (.istore_n 2, 1) := by decide +kernel
theorem dX11_choose_40 : decode cX11_choose 40 = .ok (.iconst 0, 1) := by decide +kernel
theorem dX11_choose_41 : decode cX11_choose 41 = .ok (.istore_n 3, 1) := by decide +kernel
theorem dX11_choose_42 : decode cX11_choose 42 = .ok (.iload_n 3, 1) := by decide +kernel
theorem dX11_choose_43 : decode cX11_choose 43 = .ok (.aload_n 0, 1) := by decide +kernel
theorem dX11_choose_44 : decode cX11_choose 44 = .ok (.getfield 7, 3) := by decide +kernel
theorem dX11_choose_47 : decode cX11_choose 47 = .ok (.sipush 204, 3) := by decide +kernel
theorem dX11_choose_50 : decode cX11_choose 50 = .ok (.iaload, 1) := by decide +kernel
theorem dX11_choose_51 : decode cX11_choose 51 = .ok (.if_icmp .ge 31, 3) := by decide +kernel
theorem dX11_choose_54 : decode cX11_choose 54 = .ok (.iload_n 2, 1) := by decide +kernel
theorem dX11_choose_55 : decode cX11_choose 55 = .ok (.aload_n 0, 1) := by decide +kernel
theorem dX11_choose_56 : decode cX11_choose 56 = .ok (.getfield 33, 3) := by decide +kernel
theorem dX11_choose_59 : decode cX11_choose 59 = .ok (.iload_n 3, 1) := by decide +kernel
theorem dX11_choose_60 : decode cX11_choose 60 = .ok (.iaload, 1) := by decide +kernel
theorem dX11_choose_61 : decode cX11_choose 61 = .ok (.aload_n 0, 1) := by decide +kernel
theorem dX11_choose_62 : decode cX11_choose 62 = .ok (.iload_n 3, 1) := by decide +kernel
theorem dX11_choose_63 : decode cX11_choose 63 = .ok (.invokevirtual 116, 3) := by decide +kernel
theorem dX11_choose_66 : decode cX11_choose 66 = .ok (.if_icmp .eq 7, 3) := by decide +kernel
theorem dX11_choose_69 : decode cX11_choose 69 = .ok (.iconst 1, 1) := by decide +kernel
theorem dX11_choose_70 : decode cX11_choose 70 = .ok (.goto 4, 3) := by decide +kernel
theorem dX11_choose_73 : decode cX11_choose 73 = .ok (.iconst 0, 1) := by decide +kernel
theorem dX11_choose_74 : decode cX11_choose 74 = .ok (.iadd, 1) := by decide +kernel
theorem dX11_choose_75 : decode cX11_choose 75 = .ok (.istore_n 2, 1) := by decide +kernel
theorem dX11_choose_76 : decode cX11_choose 76 = .ok (.iinc 3 1, 3) := by decide +kernel
theorem dX11_choose_79 : decode cX11_choose 79 = .ok (.goto (-37), 3) := by decide +kernel
theorem dX11_choose_82 : decode cX11_choose 82 = .ok (.aload_n 0, 1) := by decide +kernel
theorem dX11_choose_83 : decode cX11_choose 83 = .ok (.invokevirtual 101, 3) := by decide +kernel
theorem dX11_choose_86 : decode cX11_choose 86 = .ok (.aload_n 0, 1) := by decide +kernel
theorem dX11_choose_87 : decode cX11_choose 87 = .ok (.invokevirtual 155, 3) := by decide +kernel
theorem dX11_choose_90 : decode cX11_choose 90 = .ok (.aload_n 0, 1) := by decide +kernel
theorem dX11_choose_91 : decode cX11_choose 91 = .ok (.invokevirtual 107, 3) := by decide +kernel
theorem dX11_choose_94 : decode cX11_choose 94 = .ok (.aload_n 0, 1) := by decide +kernel
theorem dX11_choose_95 : decode cX11_choose 95 = .ok (.iload_n 2, 1) := by decide +kernel
theorem dX11_choose_96 : decode cX11_choose 96 = .ok (.invokevirtual 69, 3) := by decide +kernel
theorem dX11_choose_99 : decode cX11_choose 99 = .ok (.ireturn, 1) := by decide +kernel
theorem dX11_isRow_0 : decode cX11_isRow 0 = .ok (.iload_n 0, 1) := by decide +kernel
theorem dX11_isRow_1 : decode cX11_isRow 1 = .ok (.iconst 0, 1) := by decide +kernel
theorem dX11_isRow_2 : decode cX11_isRow 2 = .ok (.iconst 2, 1) := by decide +kernel
theorem dX11_isRow_3 : decode cX11_isRow 3 = .ok (.invokestatic 55, 3) := by decide +kernel
theorem dX11_isRow_6 : decode cX11_isRow 6 = .ok (.ireturn, 1) := by decide +kernel
theorem dX11_store_0 : decode cX11_store 0 = .ok (.iload_n 1, 1) := by decide +kernel
theorem dX11_store_1 : decode cX11_store 1 = .ok (.invokestatic 241, 3) := by decide +kernel
theorem dX11_store_4 : decode cX11_store 4 = .ok (.ifCond .ne 9, 3) := by decide +kernel
theorem dX11_store_7 : decode cX11_store 7 = .ok (.aload_n 0, 1) := by decide +kernel
theorem dX11_store_8 : decode cX11_store 8 = .ok (.iconst 1, 1) := by decide +kernel
theorem dX11_store_9 : decode cX11_store 9 = .ok (.invokevirtual 65, 3) := by decide +kernel
theorem dX11_store_12 : decode cX11_store 12 = .ok (.ireturn, 1) := by decide +kernel
theorem dX11_store_13 : decode cX11_store 13 = .ok (.aload_n 0, 1) := by decide +kernel
theorem dX11_store_14 : decode cX11_store 14 = .ok (.getfield 7, 3) := by decide +kernel
theorem dX11_store_17 : decode cX11_store 17 = .ok (.sipush 219, 3) := by decide +kernel
theorem dX11_store_20 : decode cX11_store 20 = .ok (.iaload, 1) := by decide +kernel
theorem dX11_store_21 : decode cX11_store 21 = .ok (.ifCond .ne 9, 3) := by decide +kernel
theorem dX11_store_24 : decode cX11_store 24 = .ok (.aload_n 0, 1) := by decide +kernel
theorem dX11_store_25 : decode cX11_store 25 = .ok (.iconst 2, 1) := by decide +kernel
theorem dX11_store_26 : decode cX11_store 26 = .ok (.invokevirtual 65, 3) := by decide +kernel
theorem dX11_store_29 : decode cX11_store 29 = .ok (.ireturn, 1) := by decide +kernel
theorem dX11_store_30 : decode cX11_store 30 = .ok (.aload_n 0, 1) := by decide +kernel
theorem dX11_store_31 : decode cX11_store 31 = .ok (.invokevirtual 164, 3) := by decide +kernel
theorem dX11_store_34 : decode cX11_store 34 = .ok (.aload_n 0, 1) := by decide +kernel
theorem dX11_store_35 : decode cX11_store 35 = .ok (.getfield 39, 3) := by decide +kernel
theorem dX11_store_38 : decode cX11_store 38 = .ok (.iload_n 1, 1) := by decide +kernel
theorem dX11_store_39 : decode cX11_store 39 = .ok (.iload_n 2, 1) := by decide +kernel
theorem dX11_store_40 : decode cX11_store 40 = .ok (.ifCond .eq 7, 3) := by decide +kernel
theorem dX11_store_43 : decode cX11_store 43 = .ok (.iconst 1, 1) := by decide +kernel
theorem dX11_store_44 : decode cX11_store 44 = .ok (.goto 4, 3) := by decide +kernel
theorem dX11_store_47 : decode cX11_store 47 = .ok (.iconst 2, 1) := by decide +kernel
theorem dX11_store_48 : decode cX11_store 48 = .ok (.iastore, 1) := by decide +kernel
theorem dX11_store_49 : decode cX11_store 49 = .ok (.aload_n 0, 1) := by decide +kernel
theorem dX11_store_50 : decode cX11_store 50 = .ok (.getfield 42, 3) := by decide +kernel
theorem dX11_store_53 : decode cX11_store 53 = .ok (.iload_n 1, 1) := by decide +kernel
theorem dX11_store_54 : decode cX11_store 54 = .ok (.aload_n 0, 1) := by decide +kernel
theorem dX11_store_55 : decode cX11_store 55 = .ok (.getfield 7, 3) := by decide +kernel
theorem dX11_store_58 : decode cX11_store 58 = .ok (.sipush 205, 3) := by decide +kernel
theorem dX11_store_61 : decode cX11_store 61 = .ok (.iaload, 1) := by decide +kernel
theorem dX11_store_62 : decode cX11_store 62 = .ok (.iastore, 1) := by decide +kernel
theorem dX11_store_63 : decode cX11_store 63 = .ok (.iconst 0, 1) := by decide +kernel
theorem dX11_store_64 : decode cX11_store 64 = .ok (.istore_n 3, 1) := by decide +kernel
theorem dX11_store_65 : decode cX11_store 65 = .ok (.iload_n 3, 1) := by decide +kernel
theorem dX11_store_66 : decode cX11_store 66 = .ok (.aload_n 0, 1) := by decide +kernel
theorem dX11_store_67 : decode cX11_store 67 = .ok (.getfield 7, 3) := by decide +kernel
theorem dX11_store_70 : decode cX11_store 70 = .ok (.sipush 205, 3) := by decide +kernel
theorem dX11_store_73 : decode cX11_store 73 = .ok (.iaload, 1) := by decide +kernel
theorem dX11_store_74 : decode cX11_store 74 = .ok (.if_icmp .ge 44, 3) := by decide +kernel
theorem dX11_store_77 : decode cX11_store 77 = .ok (.aload_n 0, 1) := by decide +kernel
theorem dX11_store_78 : decode cX11_store 78 = .ok (.getfield 45, 3) := by decide +kernel
theorem dX11_store_81 : decode cX11_store 81 = .ok (.iconst 4, 1) := by decide +kernel
theorem dX11_store_82 : decode cX11_store 82 = .ok (.iload_n 1, 1) := by decide +kernel
theorem dX11_store_83 : decode cX11_store 83 = .ok (.imul, 1) := by decide +kernel
theorem dX11_store_84 : decode cX11_store 84 = .ok (.iload_n 3, 1) := by decide +kernel
theorem dX11_store_85 : decode cX11_store 85 = .ok (.iadd, 1) := by decide +kernel
theorem dX11_store_86 : decode cX11_store 86 = .ok (.aload_n 0, 1) := by decide +kernel
theorem dX11_store_87 : decode cX11_store 87 = .ok (.aload_n 0, 1) := by decide +kernel
theorem dX11_store_88 : decode cX11_store 88 = .ok (.iload_n 3, 1) := by decide +kernel
theorem dX11_store_89 : decode cX11_store 89 = .ok (.invokevirtual 131, 3) := by decide +kernel
theorem dX11_store_92 : decode cX11_store 92 = .ok (.iconst 0, 1) := by decide +kernel
theorem dX11_store_93 : decode cX11_store 93 = .ok (.invokevirtual 122, 3) := by decide +kernel
theorem dX11_store_96 : decode cX11_store 96 = .ok (.iastore, 1) := by decide +kernel
theorem dX11_store_97 : decode cX11_store 97 = .ok (.aload_n 0, 1) := by decide +kernel
theorem dX11_store_98 : decode cX11_store 98 = .ok (.getfield 48, 3) := by decide +kernel
theorem dX11_store_101 : decode cX11_store 101 = .ok (.iconst 4, 1) := by decide +kernel
theorem dX11_store_102 : decode cX11_store 102 = .ok (.iload_n 1, 1) := by decide +kernel
theorem dX11_store_103 : decode cX11_store 103 = .ok (.imul, 1) := by decide +kernel
theorem dX11_store_104 : decode cX11_store 104 = .ok (.iload_n 3, 1) := by decide +kernel
theorem dX11_store_105 : decode cX11_store 105 = .ok (.iadd, 1) := by decide +kernel
theorem dX11_store_106 : decode cX11_store 106 = .ok (.aload_n 0, 1) := by decide +kernel
theorem dX11_store_107 : decode cX11_store 107 = .ok (.iload_n 3, 1) := by decide +kernel
theorem dX11_store_108 : decode cX11_store 108 = .ok (.invokevirtual 205, 3) := by decide +kernel
theorem dX11_store_111 : decode cX11_store 111 = .ok (.fastore, 1) := by decide +kernel
theorem dX11_store_112 : decode cX11_store 112 = .ok (.iinc 3 1, 3) := by decide +kernel
theorem dX11_store_115 : decode cX11_store 115 = .ok (.goto (-50), 3) := by decide +kernel
theorem dX11_store_118 : decode cX11_store 118 = .ok (.aload_n 0, 1) := by decide +kernel
theorem dX11_store_119 : decode cX11_store 119 = .ok (.aload_n 0, 1) := by decide +kernel
theorem dX11_store_120 : decode cX11_store 120 = .ok (.getfield 7, 3) := by decide +kernel
theorem dX11_store_123 : decode cX11_store 123 = .ok (.sipush 205, 3) := by decide +kernel
theorem dX11_store_126 : decode cX11_store 126 = .ok (.iaload, 1) := by decide +kernel
theorem dX11_store_127 : decode cX11_store 127 = .ok (.invokevirtual 69, 3) := by decide +kernel
theorem dX11_store_130 : decode cX11_store 130 = .ok (.ireturn, 1) := by decide +kernel
theorem dX11_copyRow_0 : decode cX11_copyRow 0 = .ok (.iload_n 1, 1) := by decide +kernel
theorem dX11_copyRow_1 : decode cX11_copyRow 1 = .ok (.invokestatic 241, 3) := by decide +kernel
theorem dX11_copyRow_4 : decode cX11_copyRow 4 = .ok (.ifCond .eq 10, 3) := by decide +kernel
theorem dX11_copyRow_7 : decode cX11_copyRow 7 = .ok (.iload_n 2, 1) := by decide +kernel
theorem dX11_copyRow_8 : decode cX11_copyRow 8 = .ok (.invokestatic 241, 3) := by decide +kernel
theorem dX11_copyRow_11 : decode cX11_copyRow 11 = .ok (.ifCond .ne 9, 3) := by decide +kernel
theorem dX11_copyRow_14 : decode cX11_copyRow 14 = .ok (.aload_n 0, 1) := by decide +kernel
theorem dX11_copyRow_15 : decode cX11_copyRow 15 = .ok (.iconst 1, 1) := by decide +kernel
theorem dX11_copyRow_16 : decode cX11_copyRow 16 = .ok (.invokevirtual 65, 3) := by decide +kernel
theorem dX11_copyRow_19 : decode cX11_copyRow 19 = .ok (.ireturn, 1) := by decide +kernel
theorem dX11_copyRow_20 : decode cX11_copyRow 20 = .ok (.aload_n 0, 1) := by decide +kernel
theorem dX11_copyRow_21 : decode cX11_copyRow 21 = .ok (.getfield 39, 3) := by decide +kernel
theorem dX11_copyRow_24 : decode cX11_copyRow 24 = .ok (.iload_n 1, 1) := by decide +kernel
theorem dX11_copyRow_25 : decode cX11_copyRow 25 = .ok (.iaload, 1) := by decide +kernel
theorem dX11_copyRow_26 : decode cX11_copyRow 26 = .ok (.ifCond .eq 12, 3) := by decide +kernel
theorem dX11_copyRow_29 : decode cX11_copyRow 29 = .ok (.aload_n 0, 1) := by decide +kernel
theorem dX11_copyRow_30 : decode cX11_copyRow 30 = .ok (.getfield 39, 3) := by decide +kernel
theorem dX11_copyRow_33 : decode cX11_copyRow 33 = .ok (.iload_n 2, 1) := by decide +kernel
theorem dX11_copyRow_34 : decode cX11_copyRow 34 = .ok (.iaload, 1) := by decide +kernel
theorem dX11_copyRow_35 : decode cX11_copyRow 35 = .ok (.ifCond .ne 9, 3) := by decide +kernel
theorem dX11_copyRow_38 : decode cX11_copyRow 38 = .ok (.aload_n 0, 1) := by decide +kernel
theorem dX11_copyRow_39 : decode cX11_copyRow 39 = .ok (.iconst 2, 1) := by decide +kernel
theorem dX11_copyRow_40 : decode cX11_copyRow 40 = .ok (.invokevirtual 65, 3) := by decide +kernel
theorem dX11_copyRow_43 : decode cX11_copyRow 43 = .ok (.ireturn, 1) := by decide +kernel
theorem dX11_copyRow_44 : decode cX11_copyRow 44 = .ok (.aload_n 0, 1) := by decide +kernel
theorem dX11_copyRow_45 : decode cX11_copyRow 45 = .ok (.getfield 39, 3) := by decide +kernel
theorem dX11_copyRow_48 : decode cX11_copyRow 48 = .ok (.iload_n 1, 1) := by decide +kernel
theorem dX11_copyRow_49 : decode cX11_copyRow 49 = .ok (.iaload, 1) := by decide +kernel
theorem dX11_copyRow_50 : decode cX11_copyRow 50 = .ok (.aload_n 0, 1) := by decide +kernel
theorem dX11_copyRow_51 : decode cX11_copyRow 51 = .ok (.getfield 39, 3) := by decide +kernel
theorem dX11_copyRow_54 : decode cX11_copyRow 54 = .ok (.iload_n 2, 1) := by decide +kernel
theorem dX11_copyRow_55 : decode cX11_copyRow 55 = .ok (.iaload, 1) := by decide +kernel
theorem dX11_copyRow_56 : decode cX11_copyRow 56 = .ok (.if_icmp .eq 9, 3) := by decide +kernel
theorem dX11_copyRow_59 : decode cX11_copyRow 59 = .ok (.aload_n 0, 1) := by decide +kernel
theorem dX11_copyRow_60 : decode cX11_copyRow 60 = .ok (.iconst 3, 1) := by decide +kernel
theorem dX11_copyRow_61 : decode cX11_copyRow 61 = .ok (.invokevirtual 65, 3) := by decide +kernel
theorem dX11_copyRow_64 : decode cX11_copyRow 64 = .ok (.ireturn, 1) := by decide +kernel
theorem dX11_copyRow_65 : decode cX11_copyRow 65 = .ok (.iload_n 3, 1) := by decide +kernel
theorem dX11_copyRow_66 : decode cX11_copyRow 66 = .ok (.iconst 0, 1) := by decide +kernel
theorem dX11_copyRow_67 : decode cX11_copyRow 67 = .ok (.aload_n 0, 1) := by decide +kernel
theorem dX11_copyRow_68 : decode cX11_copyRow 68 = .ok (.getfield 42, 3) := by decide +kernel
theorem dX11_copyRow_71 : decode cX11_copyRow 71 = .ok (.iload_n 1, 1) := by decide +kernel
theorem dX11_copyRow_72 : decode cX11_copyRow 72 = .ok (.iaload, 1) := by decide +kernel
theorem dX11_copyRow_73 : decode cX11_copyRow 73 = .ok (.invokestatic 55, 3) := by decide +kernel
theorem dX11_copyRow_76 : decode cX11_copyRow 76 = .ok (.ifCond .eq 13, 3) := by decide +kernel
theorem dX11_copyRow_79 : decode cX11_copyRow 79 = .ok (.iload_n 3, 1) := by decide +kernel
theorem dX11_copyRow_80 : decode cX11_copyRow 80 = .ok (.aload_n 0, 1) := by decide +kernel
theorem dX11_copyRow_81 : decode cX11_copyRow 81 = .ok (.getfield 42, 3) := by decide +kernel
theorem dX11_copyRow_84 : decode cX11_copyRow 84 = .ok (.iload_n 2, 1) := by decide +kernel
theorem dX11_copyRow_85 : decode cX11_copyRow 85 = .ok (.iaload, 1) := by decide +kernel
theorem dX11_copyRow_86 : decode cX11_copyRow 86 = .ok (.if_icmp .le 9, 3) := by decide +kernel
theorem dX11_copyRow_89 : decode cX11_copyRow 89 = .ok (.aload_n 0, 1) := by decide +kernel
theorem dX11_copyRow_90 : decode cX11_copyRow 90 = .ok (.iconst 4, 1) := by decide +kernel
theorem dX11_copyRow_91 : decode cX11_copyRow 91 = .ok (.invokevirtual 65, 3) := by decide +kernel
theorem dX11_copyRow_94 : decode cX11_copyRow 94 = .ok (.ireturn, 1) := by decide +kernel
theorem dX11_copyRow_95 : decode cX11_copyRow 95 = .ok (.iconst 0, 1) := by decide +kernel
theorem dX11_copyRow_96 : decode cX11_copyRow 96 = .ok (.istore 4, 2) := by decide +kernel
theorem dX11_copyRow_98 : decode cX11_copyRow 98 = .ok (.iload 4, 2) := by decide +kernel
theorem dX11_copyRow_100 : decode cX11_copyRow 100 = .ok (.iload_n 3, 1) := by decide +kernel
theorem dX11_copyRow_101 : decode cX11_copyRow 101 = .ok (.if_icmp .ge 53, 3) := by decide +kernel
theorem dX11_copyRow_104 : decode cX11_copyRow 104 = .ok (.aload_n 0, 1) := by decide +kernel
theorem dX11_copyRow_105 : decode cX11_copyRow 105 = .ok (.getfield 45, 3) := by decide +kernel
theorem dX11_copyRow_108 : decode cX11_copyRow 108 = .ok (.iconst 4, 1) := by decide +kernel
theorem dX11_copyRow_109 : decode cX11_copyRow 109 = .ok (.iload_n 2, 1) := by decide +kernel
theorem dX11_copyRow_110 : decode cX11_copyRow 110 = .ok (.imul, 1) := by decide +kernel
theorem dX11_copyRow_111 : decode cX11_copyRow 111 = .ok (.iload 4, 2) := by decide +kernel
theorem dX11_copyRow_113 : decode cX11_copyRow 113 = .ok (.iadd, 1) := by decide +kernel
theorem dX11_copyRow_114 : decode cX11_copyRow 114 = .ok (.aload_n 0, 1) := by decide +kernel
theorem dX11_copyRow_115 : decode cX11_copyRow 115 = .ok (.getfield 45, 3) := by decide +kernel
theorem dX11_copyRow_118 : decode cX11_copyRow 118 = .ok (.iconst 4, 1) := by decide +kernel
theorem dX11_copyRow_119 : decode cX11_copyRow 119 = .ok (.iload_n 1, 1) := by decide +kernel
theorem dX11_copyRow_120 : decode cX11_copyRow 120 = .ok (.imul, 1) := by decide +kernel
theorem dX11_copyRow_121 : decode cX11_copyRow 121 = .ok (.iload 4, 2) := by decide +kernel
theorem dX11_copyRow_123 : decode cX11_copyRow 123 = .ok (.iadd, 1) := by decide +kernel
theorem dX11_copyRow_124 : decode cX11_copyRow 124 = .ok (.iaload, 1) := by decide +kernel
theorem dX11_copyRow_125 : decode cX11_copyRow 125 = .ok (.iastore, 1) := by decide +kernel
theorem dX11_copyRow_126 : decode cX11_copyRow 126 = .ok (.aload_n 0, 1) := by decide +kernel
theorem dX11_copyRow_127 : decode cX11_copyRow 127 = .ok (.getfield 48, 3) := by decide +kernel
theorem dX11_copyRow_130 : decode cX11_copyRow 130 = .ok (.iconst 4, 1) := by decide +kernel
theorem dX11_copyRow_131 : decode cX11_copyRow 131 = .ok (.iload_n 2, 1) := by decide +kernel
theorem dX11_copyRow_132 : decode cX11_copyRow 132 = .ok (.imul, 1) := by decide +kernel
theorem dX11_copyRow_133 : decode cX11_copyRow 133 = .ok (.iload 4, 2) := by decide +kernel
theorem dX11_copyRow_135 : decode cX11_copyRow 135 = .ok (.iadd, 1) := by decide +kernel
theorem dX11_copyRow_136 : decode cX11_copyRow 136 = .ok (.aload_n 0, 1) := by decide +kernel
theorem dX11_copyRow_137 : decode cX11_copyRow 137 = .ok (.getfield 48, 3) := by decide +kernel
theorem dX11_copyRow_140 : decode cX11_copyRow 140 = .ok (.iconst 4, 1) := by decide +kernel
theorem dX11_copyRow_141 : decode cX11_copyRow 141 = .ok (.iload_n 1, 1) := by decide +kernel
theorem dX11_copyRow_142 : decode cX11_copyRow 142 = .ok (.imul, 1) := by decide +kernel
theorem dX11_copyRow_143 : decode cX11_copyRow 143 = .ok (.iload 4, 2) := by decide +kernel
theorem dX11_copyRow_145 : decode cX11_copyRow 145 = .ok (.iadd, 1) := by decide +kernel
theorem dX11_copyRow_146 : decode cX11_copyRow 146 = .ok (.faload, 1) := by decide +kernel
theorem dX11_copyRow_147 : decode cX11_copyRow 147 = .ok (.fastore, 1) := by decide +kernel
theorem dX11_copyRow_148 : decode cX11_copyRow 148 = .ok (.iinc 4 1, 3) := by decide +kernel
theorem dX11_copyRow_151 : decode cX11_copyRow 151 = .ok (.goto (-53), 3) := by decide +kernel
theorem dX11_copyRow_154 : decode cX11_copyRow 154 = .ok (.iconst 0, 1) := by decide +kernel
theorem dX11_copyRow_155 : decode cX11_copyRow 155 = .ok (.istore 4, 2) := by decide +kernel
theorem dX11_copyRow_157 : decode cX11_copyRow 157 = .ok (.iconst 0, 1) := by decide +kernel
theorem dX11_copyRow_158 : decode cX11_copyRow 158 = .ok (.istore 5, 2) := by decide +kernel
theorem dX11_copyRow_160 : decode cX11_copyRow 160 = .ok (.iload 5, 2) := by decide +kernel
theorem dX11_copyRow_162 : decode cX11_copyRow 162 = .ok (.aload_n 0, 1) := by decide +kernel
theorem dX11_copyRow_163 : decode cX11_copyRow 163 = .ok (.getfield 42, 3) := by decide +kernel
theorem dX11_copyRow_166 : decode cX11_copyRow 166 = .ok (.iload_n 2, 1) := by decide +kernel
theorem dX11_copyRow_167 : decode cX11_copyRow 167 = .ok (.iaload, 1) := by decide +kernel
theorem dX11_copyRow_168 : decode cX11_copyRow 168 = .ok (.if_icmp .ge 50, 3) := by decide +kernel
theorem dX11_copyRow_171 : decode cX11_copyRow 171 = .ok (.iload 4, 2) := by decide +kernel
theorem dX11_copyRow_173 : decode cX11_copyRow 173 = .ok (.aload_n 0, 1) := by decide +kernel
theorem dX11_copyRow_174 : decode cX11_copyRow 174 = .ok (.getfield 39, 3) := by decide +kernel
theorem dX11_copyRow_177 : decode cX11_copyRow 177 = .ok (.iload_n 2, 1) := by decide +kernel
theorem dX11_copyRow_178 : decode cX11_copyRow 178 = .ok (.iaload, 1) := by decide +kernel
theorem dX11_copyRow_179 : decode cX11_copyRow 179 = .ok (.iconst 1, 1) := by decide +kernel
theorem dX11_copyRow_180 : decode cX11_copyRow 180 = .ok (.if_icmp .ne 17, 3) := by decide +kernel
theorem dX11_copyRow_183 : decode cX11_copyRow 183 = .ok (.aload_n 0, 1) := by decide +kernel
theorem dX11_copyRow_184 : decode cX11_copyRow 184 = .ok (.getfield 45, 3) := by decide +kernel
theorem dX11_copyRow_187 : decode cX11_copyRow 187 = .ok (.iconst 4, 1) := by decide +kernel
theorem dX11_copyRow_188 : decode cX11_copyRow 188 = .ok (.iload_n 2, 1) := by decide +kernel
theorem dX11_copyRow_189 : decode cX11_copyRow 189 = .ok (.imul, 1) := by decide +kernel
theorem dX11_copyRow_190 : decode cX11_copyRow 190 = .ok (.iload 5, 2) := by decide +kernel
theorem dX11_copyRow_192 : decode cX11_copyRow 192 = .ok (.iadd, 1) := by decide +kernel
theorem dX11_copyRow_193 : decode cX11_copyRow 193 = .ok (.iaload, 1) := by decide +kernel
theorem dX11_copyRow_194 : decode cX11_copyRow 194 = .ok (.goto 15, 3) := by decide +kernel
theorem dX11_copyRow_197 : decode cX11_copyRow 197 = .ok (.aload_n 0, 1) := by decide +kernel
theorem dX11_copyRow_198 : decode cX11_copyRow 198 = .ok (.getfield 48, 3) := by decide +kernel
theorem dX11_copyRow_201 : decode cX11_copyRow 201 = .ok (.iconst 4, 1) := by decide +kernel
theorem dX11_copyRow_202 : decode cX11_copyRow 202 = .ok (.iload_n 2, 1) := by decide +kernel
theorem dX11_copyRow_203 : decode cX11_copyRow 203 = .ok (.imul, 1) := by decide +kernel
theorem dX11_copyRow_204 : decode cX11_copyRow 204 = .ok (.iload 5, 2) := by decide +kernel
theorem dX11_copyRow_206 : decode cX11_copyRow 206 = .ok (.iadd, 1) := by decide +kernel
theorem dX11_copyRow_207 : decode cX11_copyRow 207 = .ok (.faload, 1) := by decide +kernel
theorem dX11_copyRow_208 : decode cX11_copyRow 208 = .ok (.f2i, 1) := by decide +kernel
theorem dX11_copyRow_209 : decode cX11_copyRow 209 = .ok (.iadd, 1) := by decide +kernel
theorem dX11_copyRow_210 : decode cX11_copyRow 210 = .ok (.istore 4, 2) := by decide +kernel
theorem dX11_copyRow_212 : decode cX11_copyRow 212 = .ok (.iinc 5 1, 3) := by decide +kernel
theorem dX11_copyRow_215 : decode cX11_copyRow 215 = .ok (.goto (-55), 3) := by decide +kernel
theorem dX11_copyRow_218 : decode cX11_copyRow 218 = .ok (.aload_n 0, 1) := by decide +kernel
theorem dX11_copyRow_219 : decode cX11_copyRow 219 = .ok (.iload 4, 2) := by decide +kernel
theorem dX11_copyRow_221 : decode cX11_copyRow 221 = .ok (.invokevirtual 69, 3) := by decide +kernel
theorem dX11_copyRow_224 : decode cX11_copyRow 224 = .ok (.ireturn, 1) := by decide +kernel
theorem dX11_bits_0 : decode cX11_bits 0 = .ok (.iload_n 1, 1) := by decide +kernel
theorem dX11_bits_1 : decode cX11_bits 1 = .ok (.invokestatic 241, 3) := by decide +kernel
theorem dX11_bits_4 : decode cX11_bits 4 = .ok (.ifCond .ne 9, 3) := by decide +kernel
theorem dX11_bits_7 : decode cX11_bits 7 = .ok (.aload_n 0, 1) := by decide +kernel
theorem dX11_bits_8 : decode cX11_bits 8 = .ok (.iconst 1, 1) := by decide +kernel
theorem dX11_bits_9 : decode cX11_bits 9 = .ok (.invokevirtual 65, 3) := by decide +kernel
theorem dX11_bits_12 : decode cX11_bits 12 = .ok (.ireturn, 1) := by decide +kernel
theorem dX11_bits_13 : decode cX11_bits 13 = .ok (.aload_n 0, 1) := by decide +kernel
theorem dX11_bits_14 : decode cX11_bits 14 = .ok (.getfield 39, 3) := by decide +kernel
theorem dX11_bits_17 : decode cX11_bits 17 = .ok (.iload_n 1, 1) := by decide +kernel
theorem dX11_bits_18 : decode cX11_bits 18 = .ok (.iaload, 1) := by decide +kernel
theorem dX11_bits_19 : decode cX11_bits 19 = .ok (.ifCond .eq 19, 3) := by decide +kernel
theorem dX11_bits_22 : decode cX11_bits 22 = .ok (.iload_n 2, 1) := by decide +kernel
theorem dX11_bits_23 : decode cX11_bits 23 = .ok (.iconst 0, 1) := by decide +kernel
theorem dX11_bits_24 : decode cX11_bits 24 = .ok (.aload_n 0, 1) := by decide +kernel
theorem dX11_bits_25 : decode cX11_bits 25 = .ok (.getfield 42, 3) := by decide +kernel
theorem dX11_bits_28 : decode cX11_bits 28 = .ok (.iload_n 1, 1) := by decide +kernel
theorem dX11_bits_29 : decode cX11_bits 29 = .ok (.iaload, 1) := by decide +kernel
theorem dX11_bits_30 : decode cX11_bits 30 = .ok (.iconst 1, 1) := by decide +kernel
theorem dX11_bits_31 : decode cX11_bits 31 = .ok (.isub, 1) := by decide +kernel
theorem dX11_bits_32 : decode cX11_bits 32 = .ok (.invokestatic 55, 3) := by decide +kernel
theorem dX11_bits_35 : decode cX11_bits 35 = .ok (.ifCond .ne 9, 3) := by decide +kernel
theorem dX11_bits_38 : decode cX11_bits 38 = .ok (.aload_n 0, 1) := by decide +kernel
theorem dX11_bits_39 : decode cX11_bits 39 = .ok (.iconst 2, 1) := by decide +kernel
theorem dX11_bits_40 : decode cX11_bits 40 = .ok (.invokevirtual 65, 3) := by decide +kernel
theorem dX11_bits_43 : decode cX11_bits 43 = .ok (.ireturn, 1) := by decide +kernel
theorem dX11_bits_44 : decode cX11_bits 44 = .ok (.aload_n 0, 1) := by decide +kernel
theorem dX11_bits_45 : decode cX11_bits 45 = .ok (.aload_n 0, 1) := by decide +kernel
theorem dX11_bits_46 : decode cX11_bits 46 = .ok (.getfield 39, 3) := by decide +kernel
theorem dX11_bits_49 : decode cX11_bits 49 = .ok (.iload_n 1, 1) := by decide +kernel
theorem dX11_bits_50 : decode cX11_bits 50 = .ok (.iaload, 1) := by decide +kernel
theorem dX11_bits_51 : decode cX11_bits 51 = .ok (.iconst 1, 1) := by decide +kernel
theorem dX11_bits_52 : decode cX11_bits 52 = .ok (.if_icmp .ne 17, 3) := by decide +kernel
theorem dX11_bits_55 : decode cX11_bits 55 = .ok (.aload_n 0, 1) := by decide +kernel
theorem dX11_bits_56 : decode cX11_bits 56 = .ok (.getfield 45, 3) := by decide +kernel
theorem dX11_bits_59 : decode cX11_bits 59 = .ok (.iconst 4, 1) := by decide +kernel
theorem dX11_bits_60 : decode cX11_bits 60 = .ok (.iload_n 1, 1) := by decide +kernel
theorem dX11_bits_61 : decode cX11_bits 61 = .ok (.imul, 1) := by decide +kernel
theorem dX11_bits_62 : decode cX11_bits 62 = .ok (.iload_n 2, 1) := by decide +kernel
theorem dX11_bits_63 : decode cX11_bits 63 = .ok (.iadd, 1) := by decide +kernel
theorem dX11_bits_64 : decode cX11_bits 64 = .ok (.iaload, 1) := by decide +kernel
theorem dX11_bits_65 : decode cX11_bits 65 = .ok (.i2f, 1) := by decide +kernel
theorem dX11_bits_66 : decode cX11_bits 66 = .ok (.goto 13, 3) := by decide +kernel
theorem dX11_bits_69 : decode cX11_bits 69 = .ok (.aload_n 0, 1) := by decide +kernel
theorem dX11_bits_70 : decode cX11_bits 70 = .ok (.getfield 48, 3) := by decide +kernel
theorem dX11_bits_73 : decode cX11_bits 73 = .ok (.iconst 4, 1) := by decide +kernel
theorem dX11_bits_74 : decode cX11_bits 74 = .ok (.iload_n 1, 1) := by decide +kernel
theorem dX11_bits_75 : decode cX11_bits 75 = .ok (.imul, 1) := by decide +kernel
theorem dX11_bits_76 : decode cX11_bits 76 = .ok (.iload_n 2, 1) := by decide +kernel
theorem dX11_bits_77 : decode cX11_bits 77 = .ok (.iadd, 1) := by decide +kernel
theorem dX11_bits_78 : decode cX11_bits 78 = .ok (.faload, 1) := by decide +kernel
theorem dX11_bits_79 : decode cX11_bits 79 = .ok (.invokestatic 244, 3) := by decide +kernel
theorem dX11_bits_82 : decode cX11_bits 82 = .ok (.invokevirtual 69, 3) := by decide +kernel
theorem dX11_bits_85 : decode cX11_bits 85 = .ok (.ireturn, 1) := by decide +kernel
theorem dX11_undo_0 : decode cX11_undo 0 = .ok (.aload_n 0, 1) := by decide +kernel
theorem dX11_undo_1 : decode cX11_undo 1 = .ok (.getfield 59, 3) := by decide +kernel
theorem dX11_undo_4 : decode cX11_undo 4 = .ok (.ifCond .ne 9, 3) := by decide +kernel
theorem dX11_undo_7 : decode cX11_undo 7 = .ok (.aload_n 0, 1) := by decide +kernel
theorem dX11_undo_8 : decode cX11_undo 8 = .ok (.iconst 1, 1) := by decide +kernel
theorem dX11_undo_9 : decode cX11_undo 9 = .ok (.invokevirtual 65, 3) := by decide +kernel
theorem dX11_undo_12 : decode cX11_undo 12 = .ok (.ireturn, 1) := by decide +kernel
theorem dX11_undo_13 : decode cX11_undo 13 = .ok (.aload_n 0, 1) := by decide +kernel
theorem dX11_undo_14 : decode cX11_undo 14 = .ok (.dup, 1) := by decide +kernel
theorem dX11_undo_15 : decode cX11_undo 15 = .ok (.getfield 59, 3) := by decide +kernel
theorem dX11_undo_18 : decode cX11_undo 18 = .ok (.iconst 1, 1) := by decide +kernel
theorem dX11_undo_19 : decode cX11_undo 19 = .ok (.isub, 1) := by decide +kernel
theorem dX11_undo_20 : decode cX11_undo 20 = .ok (.putfield 59, 3) := by decide +kernel
theorem dX11_undo_23 : decode cX11_undo 23 = .ok (.iconst 0, 1) := by decide +kernel
theorem dX11_undo_24 : decode cX11_undo 24 = .ok (.istore_n 1, 1) := by decide +kernel
theorem dX11_undo_25 : decode cX11_undo 25 = .ok (.iload_n 1, 1) := by decide +kernel
theorem dX11_undo_26 : decode cX11_undo 26 = .ok (.sipush 221, 3) := by decide +kernel
theorem dX11_undo_29 : decode cX11_undo 29 = .ok (.if_icmp .ge 30, 3) := by decide +kernel
theorem dX11_undo_32 : decode cX11_undo 32 = .ok (.aload_n 0, 1) := by decide +kernel
theorem dX11_undo_33 : decode cX11_undo 33 = .ok (.getfield 7, 3) := by decide +kernel
theorem dX11_undo_36 : decode cX11_undo 36 = .ok (.iload_n 1, 1) := by decide +kernel
theorem dX11_undo_37 : decode cX11_undo 37 = .ok (.aload_n 0, 1) := by decide +kernel
theorem dX11_undo_38 : decode cX11_undo 38 = .ok (.getfield 16, 3) := by decide +kernel
theorem dX11_undo_41 : decode cX11_undo 41 = .ok (.sipush 221, 3) := by decide +kernel
theorem dX11_undo_44 : decode cX11_undo 44 = .ok (.aload_n 0, 1) := by decide +kernel
theorem dX11_undo_45 : decode cX11_undo 45 = .ok (.getfield 59, 3) := by decide +kernel
theorem dX11_undo_48 : decode cX11_undo 48 = .ok (.imul, 1) := by decide +kernel
theorem dX11_undo_49 : decode cX11_undo 49 = .ok (.iload_n 1, 1) := by decide +kernel
theorem dX11_undo_50 : decode cX11_undo 50 = .ok (.iadd, 1) := by decide +kernel
theorem dX11_undo_51 : decode cX11_undo 51 = .ok (.iaload, 1) := by decide +kernel
theorem dX11_undo_52 : decode cX11_undo 52 = .ok (.iastore, 1) := by decide +kernel
theorem dX11_undo_53 : decode cX11_undo 53 = .ok (.iinc 1 1, 3) := by decide +kernel
theorem dX11_undo_56 : decode cX11_undo 56 = .ok (.goto (-31), 3) := by decide +kernel
theorem dX11_undo_59 : decode cX11_undo 59 = .ok (.aload_n 0, 1) := by decide +kernel
theorem dX11_undo_60 : decode cX11_undo 60 = .ok (.aload_n 0, 1) := by decide +kernel
theorem dX11_undo_61 : decode cX11_undo 61 = .ok (.getfield 59, 3) := by decide +kernel
theorem dX11_undo_64 : decode cX11_undo 64 = .ok (.invokevirtual 69, 3) := by decide +kernel
theorem dX11_undo_67 : decode cX11_undo 67 = .ok (.ireturn, 1) := by decide +kernel
theorem dX11_saveSnapshot_0 : decode cX11_saveSnapshot 0 = .ok (.aload_n 0, 1) := by decide +kernel
theorem dX11_saveSnapshot_1 : decode cX11_saveSnapshot 1 = .ok (.iconst 1, 1) := by decide +kernel
theorem dX11_saveSnapshot_2 : decode cX11_saveSnapshot 2 = .ok (.putfield 250, 3) := by decide +kernel
theorem dX11_saveSnapshot_5 : decode cX11_saveSnapshot 5 = .ok (.iconst 0, 1) := by decide +kernel
theorem dX11_saveSnapshot_6 : decode cX11_saveSnapshot 6 = .ok (.istore_n 1, 1) := by decide +kernel
theorem dX11_saveSnapshot_7 : decode cX11_saveSnapshot 7 = .ok (.iload_n 1, 1) := by decide +kernel
theorem dX11_saveSnapshot_8 : decode cX11_saveSnapshot 8 = .ok (.sipush 221, 3) := by decide +kernel
theorem dX11_saveSnapshot_11 : decode cX11_saveSnapshot 11 = .ok (.if_icmp .ge 21, 3) := by decide +kernel
theorem dX11_saveSnapshot_14 : decode cX11_saveSnapshot 14 = .ok (.aload_n 0, 1) := by decide +kernel
theorem dX11_saveSnapshot_15 : decode cX11_saveSnapshot 15 = .ok (.getfield 19, 3) := by decide +kernel
theorem dX11_saveSnapshot_18 : decode cX11_saveSnapshot 18 = .ok (.iload_n 1, 1) := by decide +kernel
theorem dX11_saveSnapshot_19 : decode cX11_saveSnapshot 19 = .ok (.aload_n 0, 1) := by decide +kernel
theorem dX11_saveSnapshot_20 : decode cX11_saveSnapshot 20 = .ok (.getfield 7, 3) := by decide +kernel
theorem dX11_saveSnapshot_23 : decode cX11_saveSnapshot 23 = .ok (.iload_n 1, 1) := by decide +kernel
theorem dX11_saveSnapshot_24 : decode cX11_saveSnapshot 24 = .ok (.iaload, 1) := by decide +kernel
theorem dX11_saveSnapshot_25 : decode cX11_saveSnapshot 25 = .ok (.iastore, 1) := by decide +kernel
theorem dX11_saveSnapshot_26 : decode cX11_saveSnapshot 26 = .ok (.iinc 1 1, 3) := by decide +kernel
theorem dX11_saveSnapshot_29 : decode cX11_saveSnapshot 29 = .ok (.goto (-22), 3) := by decide +kernel
theorem dX11_saveSnapshot_32 : decode cX11_saveSnapshot 32 = .ok (.aload_n 0, 1) := by decide +kernel
theorem dX11_saveSnapshot_33 : decode cX11_saveSnapshot 33 = .ok (.aload_n 0, 1) := by decide +kernel
theorem dX11_saveSnapshot_34 : decode cX11_saveSnapshot 34 = .ok (.getfield 7, 3) := by decide +kernel
theorem dX11_saveSnapshot_37 : decode cX11_saveSnapshot 37 = .ok (.sipush 204, 3) := by decide +kernel
theorem dX11_saveSnapshot_40 : decode cX11_saveSnapshot 40 = .ok (.iaload, 1) := by decide +kernel
theorem dX11_saveSnapshot_41 : decode cX11_saveSnapshot 41 = .ok (.invokevirtual 69, 3) := by decide +kernel
theorem dX11_saveSnapshot_44 : decode cX11_saveSnapshot 44 = .ok (.ireturn, 1) := by decide +kernel
theorem dX11_restoreSnapshot_0 : decode cX11_restoreSnapshot 0 = .ok (.aload_n 0, 1) := by decide +kernel
theorem dX11_restoreSnapshot_1 : decode cX11_restoreSnapshot 1 = .ok (.getfield 250, 3) := by decide +kernel
theorem dX11_restoreSnapshot_4 : decode cX11_restoreSnapshot 4 = .ok (.ifCond .ne 9, 3) := by decide +kernel
theorem dX11_restoreSnapshot_7 : decode cX11_restoreSnapshot 7 = .ok (.aload_n 0, 1) := by decide +kernel
theorem dX11_restoreSnapshot_8 : decode cX11_restoreSnapshot 8 = .ok (.iconst 1, 1) := by decide +kernel
theorem dX11_restoreSnapshot_9 : decode cX11_restoreSnapshot 9 = .ok (.invokevirtual 65, 3) := by decide +kernel
theorem dX11_restoreSnapshot_12 : decode cX11_restoreSnapshot 12 = .ok (.ireturn, 1) := by decide +kernel
theorem dX11_restoreSnapshot_13 : decode cX11_restoreSnapshot 13 = .ok (.iconst 0, 1) := by decide +kernel
theorem dX11_restoreSnapshot_14 : decode cX11_restoreSnapshot 14 = .ok (.istore_n 1, 1) := by decide +kernel
theorem dX11_restoreSnapshot_15 : decode cX11_restoreSnapshot 15 = .ok (.iload_n 1, 1) := by decide +kernel
theorem dX11_restoreSnapshot_16 : decode cX11_restoreSnapshot 16 = .ok (.sipush 221, 3) := by decide +kernel
theorem dX11_restoreSnapshot_19 : decode cX11_restoreSnapshot 19 = .ok (.if_icmp .ge 21, 3) := by decide +kernel
theorem dX11_restoreSnapshot_22 : decode cX11_restoreSnapshot 22 = .ok (.aload_n 0, 1) := by decide +kernel
theorem dX11_restoreSnapshot_23 : decode cX11_restoreSnapshot 23 = .ok (.getfield 7, 3) := by decide +kernel
theorem dX11_restoreSnapshot_26 : decode cX11_restoreSnapshot 26 = .ok (.iload_n 1, 1) := by decide +kernel
theorem dX11_restoreSnapshot_27 : decode cX11_restoreSnapshot 27 = .ok (.aload_n 0, 1) := by decide +kernel
theorem dX11_restoreSnapshot_28 : decode cX11_restoreSnapshot 28 = .ok (.getfield 19, 3) := by decide +kernel
theorem dX11_restoreSnapshot_31 : decode cX11_restoreSnapshot 31 = .ok (.iload_n 1, 1) := by decide +kernel
theorem dX11_restoreSnapshot_32 : decode cX11_restoreSnapshot 32 = .ok (.iaload, 1) := by decide +kernel
theorem dX11_restoreSnapshot_33 : decode cX11_restoreSnapshot 33 = .ok (.iastore, 1) := by decide +kernel
theorem dX11_restoreSnapshot_34 : decode cX11_restoreSnapshot 34 = .ok (.iinc 1 1, 3) := by decide +kernel
theorem dX11_restoreSnapshot_37 : decode cX11_restoreSnapshot 37 = .ok (.goto (-22), 3) := by decide +kernel
theorem dX11_restoreSnapshot_40 : decode cX11_restoreSnapshot 40 = .ok (.aload_n 0, 1) := by decide +kernel
theorem dX11_restoreSnapshot_41 : decode cX11_restoreSnapshot 41 = .ok (.iconst 0, 1) := by decide +kernel
theorem dX11_restoreSnapshot_42 : decode cX11_restoreSnapshot 42 = .ok (.putfield 59, 3) := by decide +kernel
theorem dX11_restoreSnapshot_45 : decode cX11_restoreSnapshot 45 = .ok (.aload_n 0, 1) := by decide +kernel
theorem dX11_restoreSnapshot_46 : decode cX11_restoreSnapshot 46 = .ok (.aload_n 0, 1) := by decide +kernel
theorem dX11_restoreSnapshot_47 : decode cX11_restoreSnapshot 47 = .ok (.getfield 7, 3) := by decide +kernel
theorem dX11_restoreSnapshot_50 : decode cX11_restoreSnapshot 50 = .ok (.sipush 204, 3) := by decide +kernel
theorem dX11_restoreSnapshot_53 : decode cX11_restoreSnapshot 53 = .ok (.iaload, 1) := by decide +kernel
theorem dX11_restoreSnapshot_54 : decode cX11_restoreSnapshot 54 = .ok (.invokevirtual 69, 3) := by decide +kernel
theorem dX11_restoreSnapshot_57 : decode cX11_restoreSnapshot 57 = .ok (.ireturn, 1) := by decide +kernel
theorem dX11_letter_0 : decode cX11_letter 0 = .ok (.aload_n 0, 1) := by decide +kernel
theorem dX11_letter_1 : decode cX11_letter 1 = .ok (.aload_n 0, 1) := by decide +kernel
theorem dX11_letter_2 : decode cX11_letter 2 = .ok (.iload_n 1, 1) := by decide +kernel
theorem dX11_letter_3 : decode cX11_letter 3 = .ok (.invokevirtual 90, 3) := by decide +kernel
theorem dX11_letter_6 : decode cX11_letter 6 = .ok (.ifCond .ne 7, 3) := by decide +kernel
theorem dX11_letter_9 : decode cX11_letter 9 = .ok (.iconst 1, 1) := by decide +kernel
theorem dX11_letter_10 : decode cX11_letter 10 = .ok (.goto 19, 3) := by decide +kernel
theorem dX11_letter_13 : decode cX11_letter 13 = .ok (.aload_n 0, 1) := by decide +kernel
theorem dX11_letter_14 : decode cX11_letter 14 = .ok (.getfield 7, 3) := by decide +kernel
theorem dX11_letter_17 : decode cX11_letter 17 = .ok (.sipush 219, 3) := by decide +kernel
theorem dX11_letter_20 : decode cX11_letter 20 = .ok (.iaload, 1) := by decide +kernel
theorem dX11_letter_21 : decode cX11_letter 21 = .ok (.ifCond .ne 7, 3) := by decide +kernel
theorem dX11_letter_24 : decode cX11_letter 24 = .ok (.iconst 2, 1) := by decide +kernel
theorem dX11_letter_25 : decode cX11_letter 25 = .ok (.goto 4, 3) := by decide +kernel
theorem dX11_letter_28 : decode cX11_letter 28 = .ok (.iconst 0, 1) := by decide +kernel
theorem dX11_letter_29 : decode cX11_letter 29 = .ok (.putfield 52, 3) := by decide +kernel
theorem dX11_letter_32 : decode cX11_letter 32 = .ok (.aload_n 0, 1) := by decide +kernel
theorem dX11_letter_33 : decode cX11_letter 33 = .ok (.getfield 52, 3) := by decide +kernel
theorem dX11_letter_36 : decode cX11_letter 36 = .ok (.ifCond .ne 20, 3) := by decide +kernel
theorem dX11_letter_39 : decode cX11_letter 39 = .ok (.bipush 65, 2) := by decide +kernel
theorem dX11_letter_41 : decode cX11_letter 41 = .ok (.aload_n 0, 1) := by decide +kernel
theorem dX11_letter_42 : decode cX11_letter 42 = .ok (.getfield 7, 3) := by decide +kernel
theorem dX11_letter_45 : decode cX11_letter 45 = .ok (.sipush 207, 3) := by decide +kernel
theorem dX11_letter_48 : decode cX11_letter 48 = .ok (.iload_n 1, 1) := by decide +kernel
theorem dX11_letter_49 : decode cX11_letter 49 = .ok (.iadd, 1) := by decide +kernel
theorem dX11_letter_50 : decode cX11_letter 50 = .ok (.iaload, 1) := by decide +kernel
theorem dX11_letter_51 : decode cX11_letter 51 = .ok (.iadd, 1) := by decide +kernel
theorem dX11_letter_52 : decode cX11_letter 52 = .ok (.i2c, 1) := by decide +kernel
theorem dX11_letter_53 : decode cX11_letter 53 = .ok (.goto 5, 3) := by decide +kernel
theorem dX11_letter_56 : decode cX11_letter 56 = .ok (.bipush 97, 2) := by decide +kernel
theorem dX11_letter_58 : decode cX11_letter 58 = .ok (.ireturn, 1) := by decide +kernel
theorem dJxf58ca_isNaN_12338_0 : decode cJxf58ca_isNaN_12338 0 = .ok (.fload_n 0, 1) := by decide +kernel
theorem dJxf58ca_isNaN_12338_1 : decode cJxf58ca_isNaN_12338 1 = .ok (.fload_n 0, 1) := by decide +kernel
theorem dJxf58ca_isNaN_12338_2 : decode cJxf58ca_isNaN_12338 2 = .ok (.fcmp .l, 1) := by decide +kernel
theorem dJxf58ca_isNaN_12338_3 : decode cJxf58ca_isNaN_12338 3 = .ok (.ifCond .eq 7, 3) := by decide +kernel
theorem dJxf58ca_isNaN_12338_6 : decode cJxf58ca_isNaN_12338 6 = .ok (.iconst 1, 1) := by decide +kernel
theorem dJxf58ca_isNaN_12338_7 : decode cJxf58ca_isNaN_12338 7 = .ok (.goto 4, 3) := by decide +kernel
theorem dJxf58ca_isNaN_12338_10 : decode cJxf58ca_isNaN_12338 10 = .ok (.iconst 0, 1) := by decide +kernel
theorem dJxf58ca_isNaN_12338_11 : decode cJxf58ca_isNaN_12338 11 = .ok (.ireturn, 1) := by decide +kernel
theorem dJxf58ca_floatToIntBits_5c35a_0 : decode cJxf58ca_floatToIntBits_5c35a 0 = .ok (.fload_n 0, 1) := by decide +kernel
theorem dJxf58ca_floatToIntBits_5c35a_1 : decode cJxf58ca_floatToIntBits_5c35a 1 = .ok (.invokestatic 59, 3) := by decide +kernel
theorem dJxf58ca_floatToIntBits_5c35a_4 : decode cJxf58ca_floatToIntBits_5c35a 4 = .ok (.ifCond .ne 8, 3) := by decide +kernel
theorem dJxf58ca_floatToIntBits_5c35a_7 : decode cJxf58ca_floatToIntBits_5c35a 7 = .ok (.fload_n 0, 1) := by decide +kernel
theorem dJxf58ca_floatToIntBits_5c35a_8 : decode cJxf58ca_floatToIntBits_5c35a 8 = .ok (.invokestatic 74, 3) := by decide +kernel
theorem dJxf58ca_floatToIntBits_5c35a_11 : decode cJxf58ca_floatToIntBits_5c35a 11 = .ok (.ireturn, 1) := by decide +kernel
theorem dJxf58ca_floatToIntBits_5c35a_12 : decode cJxf58ca_floatToIntBits_5c35a 12 = .ok (.ldc 77, 2) := by decide +kernel
theorem dJxf58ca_floatToIntBits_5c35a_14 : decode cJxf58ca_floatToIntBits_5c35a 14 = .ok (.ireturn, 1) := by decide +kernel
theorem dJ6_bitCount_0f7a4_0 : decode cJ6_bitCount_0f7a4 0 = .ok (.iload_n 0, 1) := by decide +kernel
theorem dJ6_bitCount_0f7a4_1 : decode cJ6_bitCount_0f7a4 1 = .ok (.iload_n 0, 1) := by decide +kernel
theorem dJ6_bitCount_0f7a4_2 : decode cJ6_bitCount_0f7a4 2 = .ok (.iconst 1, 1) := by decide +kernel
theorem dJ6_bitCount_0f7a4_3 : decode cJ6_bitCount_0f7a4 3 = .ok (.iushr, 1) := by decide +kernel
theorem dJ6_bitCount_0f7a4_4 : decode cJ6_bitCount_0f7a4 4 = .ok (.ldc_w 265, 3) := by decide +kernel
theorem dJ6_bitCount_0f7a4_7 : decode cJ6_bitCount_0f7a4 7 = .ok (.iand, 1) := by decide +kernel
theorem dJ6_bitCount_0f7a4_8 : decode cJ6_bitCount_0f7a4 8 = .ok (.isub, 1) := by decide +kernel
theorem dJ6_bitCount_0f7a4_9 : decode cJ6_bitCount_0f7a4 9 = .ok (.istore_n 0, 1) := by decide +kernel
theorem dJ6_bitCount_0f7a4_10 : decode cJ6_bitCount_0f7a4 10 = .ok (.iload_n 0, 1) := by decide +kernel
theorem dJ6_bitCount_0f7a4_11 : decode cJ6_bitCount_0f7a4 11 = .ok (.ldc_w 266, 3) := by decide +kernel
theorem dJ6_bitCount_0f7a4_14 : decode cJ6_bitCount_0f7a4 14 = .ok (.iand, 1) := by decide +kernel
theorem dJ6_bitCount_0f7a4_15 : decode cJ6_bitCount_0f7a4 15 = .ok (.iload_n 0, 1) := by decide +kernel
theorem dJ6_bitCount_0f7a4_16 : decode cJ6_bitCount_0f7a4 16 = .ok (.iconst 2, 1) := by decide +kernel
theorem dJ6_bitCount_0f7a4_17 : decode cJ6_bitCount_0f7a4 17 = .ok (.iushr, 1) := by decide +kernel
theorem dJ6_bitCount_0f7a4_18 : decode cJ6_bitCount_0f7a4 18 = .ok (.ldc_w 266, 3) := by decide +kernel
theorem dJ6_bitCount_0f7a4_21 : decode cJ6_bitCount_0f7a4 21 = .ok (.iand, 1) := by decide +kernel
theorem dJ6_bitCount_0f7a4_22 : decode cJ6_bitCount_0f7a4 22 = .ok (.iadd, 1) := by decide +kernel
theorem dJ6_bitCount_0f7a4_23 : decode cJ6_bitCount_0f7a4 23 = .ok (.istore_n 0, 1) := by decide +kernel
theorem dJ6_bitCount_0f7a4_24 : decode cJ6_bitCount_0f7a4 24 = .ok (.iload_n 0, 1) := by decide +kernel
theorem dJ6_bitCount_0f7a4_25 : decode cJ6_bitCount_0f7a4 25 = .ok (.iload_n 0, 1) := by decide +kernel
theorem dJ6_bitCount_0f7a4_26 : decode cJ6_bitCount_0f7a4 26 = .ok (.iconst 4, 1) := by decide +kernel
theorem dJ6_bitCount_0f7a4_27 : decode cJ6_bitCount_0f7a4 27 = .ok (.iushr, 1) := by decide +kernel
theorem dJ6_bitCount_0f7a4_28 : decode cJ6_bitCount_0f7a4 28 = .ok (.iadd, 1) := by decide +kernel
theorem dJ6_bitCount_0f7a4_29 : decode cJ6_bitCount_0f7a4 29 = .ok (.ldc_w 267, 3) := by decide +kernel
theorem dJ6_bitCount_0f7a4_32 : decode cJ6_bitCount_0f7a4 32 = .ok (.iand, 1) := by decide +kernel
theorem dJ6_bitCount_0f7a4_33 : decode cJ6_bitCount_0f7a4 33 = .ok (.istore_n 0, 1) := by decide +kernel
theorem dJ6_bitCount_0f7a4_34 : decode cJ6_bitCount_0f7a4 34 = .ok (.iload_n 0, 1) := by decide +kernel
theorem dJ6_bitCount_0f7a4_35 : decode cJ6_bitCount_0f7a4 35 = .ok (.iload_n 0, 1) := by decide +kernel
theorem dJ6_bitCount_0f7a4_36 : decode cJ6_bitCount_0f7a4 36 = .ok (.bipush 8, 2) := by decide +kernel
theorem dJ6_bitCount_0f7a4_38 : decode cJ6_bitCount_0f7a4 38 = .ok (.iushr, 1) := by decide +kernel
theorem dJ6_bitCount_0f7a4_39 : decode cJ6_bitCount_0f7a4 39 = .ok (.iadd, 1) := by decide +kernel
theorem dJ6_bitCount_0f7a4_40 : decode cJ6_bitCount_0f7a4 40 = .ok (.istore_n 0, 1) := by decide +kernel
theorem dJ6_bitCount_0f7a4_41 : decode cJ6_bitCount_0f7a4 41 = .ok (.iload_n 0, 1) := by decide +kernel
theorem dJ6_bitCount_0f7a4_42 : decode cJ6_bitCount_0f7a4 42 = .ok (.iload_n 0, 1) := by decide +kernel
theorem dJ6_bitCount_0f7a4_43 : decode cJ6_bitCount_0f7a4 43 = .ok (.bipush 16, 2) := by decide +kernel
theorem dJ6_bitCount_0f7a4_45 : decode cJ6_bitCount_0f7a4 45 = .ok (.iushr, 1) := by decide +kernel
theorem dJ6_bitCount_0f7a4_46 : decode cJ6_bitCount_0f7a4 46 = .ok (.iadd, 1) := by decide +kernel
theorem dJ6_bitCount_0f7a4_47 : decode cJ6_bitCount_0f7a4 47 = .ok (.istore_n 0, 1) := by decide +kernel
theorem dJ6_bitCount_0f7a4_48 : decode cJ6_bitCount_0f7a4 48 = .ok (.iload_n 0, 1) := by decide +kernel
theorem dJ6_bitCount_0f7a4_49 : decode cJ6_bitCount_0f7a4 49 = .ok (.bipush 63, 2) := by decide +kernel
theorem dJ6_bitCount_0f7a4_51 : decode cJ6_bitCount_0f7a4 51 = .ok (.iand, 1) := by decide +kernel
theorem dJ6_bitCount_0f7a4_52 : decode cJ6_bitCount_0f7a4 52 = .ok (.ireturn, 1) := by decide +kernel
theorem dJ13_compare_74951_0 : decode cJ13_compare_74951 0 = .ok (.lload_n 0, 1) := by decide +kernel
theorem dJ13_compare_74951_1 : decode cJ13_compare_74951 1 = .ok (.lload_n 2, 1) := by decide +kernel
theorem dJ13_compare_74951_2 : decode cJ13_compare_74951 2 = .ok (.lcmp, 1) := by decide +kernel
theorem dJ13_compare_74951_3 : decode cJ13_compare_74951 3 = .ok (.ifCond .ge 7, 3) := by decide +kernel
theorem dJ13_compare_74951_6 : decode cJ13_compare_74951 6 = .ok (.iconst (-1), 1) := by decide +kernel
theorem dJ13_compare_74951_7 : decode cJ13_compare_74951 7 = .ok (.goto 14, 3) := by decide +kernel
theorem dJ13_compare_74951_10 : decode cJ13_compare_74951 10 = .ok (.lload_n 0, 1) := by decide +kernel
theorem dJ13_compare_74951_11 : decode cJ13_compare_74951 11 = .ok (.lload_n 2, 1) := by decide +kernel
theorem dJ13_compare_74951_12 : decode cJ13_compare_74951 12 = .ok (.lcmp, 1) := by decide +kernel
theorem dJ13_compare_74951_13 : decode cJ13_compare_74951 13 = .ok (.ifCond .ne 7, 3) := by decide +kernel
theorem dJ13_compare_74951_16 : decode cJ13_compare_74951 16 = .ok (.iconst 0, 1) := by decide +kernel
theorem dJ13_compare_74951_17 : decode cJ13_compare_74951 17 = .ok (.goto 4, 3) := by decide +kernel
theorem dJ13_compare_74951_20 : decode cJ13_compare_74951 20 = .ok (.iconst 1, 1) := by decide +kernel
theorem dJ13_compare_74951_21 : decode cJ13_compare_74951 21 = .ok (.ireturn, 1) := by decide +kernel
theorem dJ9_abs_0f7a4_0 : decode cJ9_abs_0f7a4 0 = .ok (.iload_n 0, 1) := by decide +kernel
theorem dJ9_abs_0f7a4_1 : decode cJ9_abs_0f7a4 1 = .ok (.ifCond .ge 8, 3) := by decide +kernel
theorem dJ9_abs_0f7a4_4 : decode cJ9_abs_0f7a4 4 = .ok (.iload_n 0, 1) := by decide +kernel
theorem dJ9_abs_0f7a4_5 : decode cJ9_abs_0f7a4 5 = .ok (.ineg, 1) := by decide +kernel
theorem dJ9_abs_0f7a4_6 : decode cJ9_abs_0f7a4 6 = .ok (.goto 4, 3) := by decide +kernel
theorem dJ9_abs_0f7a4_9 : decode cJ9_abs_0f7a4 9 = .ok (.iload_n 0, 1) := by decide +kernel
theorem dJ9_abs_0f7a4_10 : decode cJ9_abs_0f7a4 10 = .ok (.ireturn, 1) := by decide +kernel
theorem dJ9_max_7cf53_0 : decode cJ9_max_7cf53 0 = .ok (.iload_n 0, 1) := by decide +kernel
theorem dJ9_max_7cf53_1 : decode cJ9_max_7cf53 1 = .ok (.iload_n 1, 1) := by decide +kernel
theorem dJ9_max_7cf53_2 : decode cJ9_max_7cf53 2 = .ok (.if_icmp .lt 7, 3) := by decide +kernel
theorem dJ9_max_7cf53_5 : decode cJ9_max_7cf53 5 = .ok (.iload_n 0, 1) := by decide +kernel
theorem dJ9_max_7cf53_6 : decode cJ9_max_7cf53 6 = .ok (.goto 4, 3) := by decide +kernel
theorem dJ9_max_7cf53_9 : decode cJ9_max_7cf53 9 = .ok (.iload_n 1, 1) := by decide +kernel
theorem dJ9_max_7cf53_10 : decode cJ9_max_7cf53 10 = .ok (.ireturn, 1) := by decide +kernel
theorem dJ9_min_7cf53_0 : decode cJ9_min_7cf53 0 = .ok (.iload_n 0, 1) := by decide +kernel
theorem dJ9_min_7cf53_1 : decode cJ9_min_7cf53 1 = .ok (.iload_n 1, 1) := by decide +kernel
theorem dJ9_min_7cf53_2 : decode cJ9_min_7cf53 2 = .ok (.if_icmp .gt 7, 3) := by decide +kernel
theorem dJ9_min_7cf53_5 : decode cJ9_min_7cf53 5 = .ok (.iload_n 0, 1) := by decide +kernel
theorem dJ9_min_7cf53_6 : decode cJ9_min_7cf53 6 = .ok (.goto 4, 3) := by decide +kernel
theorem dJ9_min_7cf53_9 : decode cJ9_min_7cf53 9 = .ok (.iload_n 1, 1) := by decide +kernel
theorem dJ9_min_7cf53_10 : decode cJ9_min_7cf53 10 = .ok (.ireturn, 1) := by decide +kernel
theorem dJ7_fill_53178_0 : decode cJ7_fill_53178 0 = .ok (.iconst 0, 1) := by decide +kernel
theorem dJ7_fill_53178_1 : decode cJ7_fill_53178 1 = .ok (.istore_n 2, 1) := by decide +kernel
theorem dJ7_fill_53178_2 : decode cJ7_fill_53178 2 = .ok (.aload_n 0, 1) := by decide +kernel
theorem dJ7_fill_53178_3 : decode cJ7_fill_53178 3 = .ok (.arraylength, 1) := by decide +kernel
theorem dJ7_fill_53178_4 : decode cJ7_fill_53178 4 = .ok (.istore_n 3, 1) := by decide +kernel
theorem dJ7_fill_53178_5 : decode cJ7_fill_53178 5 = .ok (.iload_n 2, 1) := by decide +kernel
theorem dJ7_fill_53178_6 : decode cJ7_fill_53178 6 = .ok (.iload_n 3, 1) := by decide +kernel
theorem dJ7_fill_53178_7 : decode cJ7_fill_53178 7 = .ok (.if_icmp .ge 13, 3) := by decide +kernel
theorem dJ7_fill_53178_10 : decode cJ7_fill_53178 10 = .ok (.aload_n 0, 1) := by decide +kernel
theorem dJ7_fill_53178_11 : decode cJ7_fill_53178 11 = .ok (.iload_n 2, 1) := by decide +kernel
theorem dJ7_fill_53178_12 : decode cJ7_fill_53178 12 = .ok (.iload_n 1, 1) := by decide +kernel
theorem dJ7_fill_53178_13 : decode cJ7_fill_53178 13 = .ok (.iastore, 1) := by decide +kernel
theorem dJ7_fill_53178_14 : decode cJ7_fill_53178 14 = .ok (.iinc 2 1, 3) := by decide +kernel
theorem dJ7_fill_53178_17 : decode cJ7_fill_53178 17 = .ok (.goto (-12), 3) := by decide +kernel
theorem dJ7_fill_53178_20 : decode cJ7_fill_53178 20 = .ok (.return_, 1) := by decide +kernel
