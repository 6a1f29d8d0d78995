theorem dX0_init_0 : decode cX0_init 0 = .ok (.aload_n 0, 1) := by decide +kernel
theorem dX0_init_1 : decode cX0_init 1 = .ok (.invokespecial 3, 3) := by decide +kernel
theorem dX0_init_4 : decode cX0_init 4 = .ok (.aload_n 0, 1) := by decide +kernel
theorem dX0_init_5 : decode cX0_init 5 = .ok (.sipush 7770, 3) := by decide +kernel
theorem dX0_init_8 : decode cX0_init 8 = .ok (.newarray .int, 2) := by decide +kernel
theorem dX0_init_10 : decode cX0_init 10 = .ok (.putfield 9, 3) := by decide +kernel
theorem dX0_init_13 : decode cX0_init 13 = .ok (.aload_n 0, 1) := by decide +kernel
theorem dX0_init_14 : decode cX0_init 14 = .ok (.sipush 512, 3) := by decide +kernel
theorem dX0_init_17 : decode cX0_init 17 = .ok (.newarray .boolean, 2) := by decide +kernel
theorem dX0_init_19 : decode cX0_init 19 = .ok (.putfield 15, 3) := by decide +kernel
theorem dX0_init_22 : decode cX0_init 22 = .ok (.aload_n 0, 1) := by decide +kernel
theorem dX0_init_23 : decode cX0_init 23 = .ok (.iconst 4, 1) := by decide +kernel
theorem dX0_init_24 : decode cX0_init 24 = .ok (.newarray .int, 2) := by decide +kernel
theorem dX0_init_26 : decode cX0_init 26 = .ok (.putfield 19, 3) := by decide +kernel
theorem dX0_init_29 : decode cX0_init 29 = .ok (.aload_n 0, 1) := by decide +kernel
theorem dX0_init_30 : decode cX0_init 30 = .ok (.new 22, 3) := by decide +kernel
theorem dX0_init_33 : decode cX0_init 33 = .ok (.dup, 1) := by decide +kernel
theorem dX0_init_34 : decode cX0_init 34 = .ok (.invokespecial 24, 3) := by decide +kernel
theorem dX0_init_37 : decode cX0_init 37 = .ok (.putfield 25, 3) := by decide +kernel
theorem dX0_init_40 : decode cX0_init 40 = .ok (.aload_n 0, 1) := by decide +kernel
theorem dX0_init_41 : decode cX0_init 41 = .ok (.new 29, 3) := by decide +kernel
theorem dX0_init_44 : decode cX0_init 44 = .ok (.dup, 1) := by decide +kernel
theorem dX0_init_45 : decode cX0_init 45 = .ok (.invokespecial 31, 3) := by decide +kernel
theorem dX0_init_48 : decode cX0_init 48 = .ok (.putfield 32, 3) := by decide +kernel
theorem dX0_init_51 : decode cX0_init 51 = .ok (.aload_n 0, 1) := by decide +kernel
theorem dX0_init_52 : decode cX0_init 52 = .ok (.new 29, 3) := by decide +kernel
theorem dX0_init_55 : decode cX0_init 55 = .ok (.dup, 1) := by decide +kernel
theorem dX0_init_56 : decode cX0_init 56 = .ok (.invokespecial 31, 3) := by decide +kernel
theorem dX0_init_59 : decode cX0_init 59 = .ok (.putfield 36, 3) := by decide +kernel
theorem dX0_init_62 : decode cX0_init 62 = .ok (.aload_n 0, 1) := by decide +kernel
theorem dX0_init_63 : decode cX0_init 63 = .ok (.iconst 0, 1) := by decide +kernel
theorem dX0_init_64 : decode cX0_init 64 = .ok (.putfield 39, 3) := by decide +kernel
theorem dX0_init_67 : decode cX0_init 67 = .ok (.aload_n 0, 1) := by decide +kernel
theorem dX0_init_68 : decode cX0_init 68 = .ok (.iconst 0, 1) := by decide +kernel
theorem dX0_init_69 : decode cX0_init 69 = .ok (.putfield 43, 3) := by decide +kernel
theorem dX0_init_72 : decode cX0_init 72 = .ok (.aload_n 0, 1) := by decide +kernel
theorem dX0_init_73 : decode cX0_init 73 = .ok (.iconst 0, 1) := by decide +kernel
theorem dX0_init_74 : decode cX0_init 74 = .ok (.putfield 47, 3) := by decide +kernel
theorem dX0_init_77 : decode cX0_init 77 = .ok (.return_, 1) := by decide +kernel
theorem dX0_forget_0 : decode cX0_forget 0 = .ok (.aload_n 0, 1) := by decide +kernel
theorem dX0_forget_1 : decode cX0_forget 1 = .ok (.iconst 0, 1) := by decide +kernel
theorem dX0_forget_2 : decode cX0_forget 2 = .ok (.putfield 43, 3) := by decide +kernel
theorem dX0_forget_5 : decode cX0_forget 5 = .ok (.aload_n 0, 1) := by decide +kernel
theorem dX0_forget_6 : decode cX0_forget 6 = .ok (.iconst 0, 1) := by decide +kernel
theorem dX0_forget_7 : decode cX0_forget 7 = .ok (.putfield 47, 3) := by decide +kernel
theorem dX0_forget_10 : decode cX0_forget 10 = .ok (.return_, 1) := by decide +kernel
theorem dX0_countPlans_0 : decode cX0_countPlans 0 = .ok (.aload_n 0, 1) := by decide +kernel
theorem dX0_countPlans_1 : decode cX0_countPlans 1 = .ok (.getfield 47, 3) := by decide +kernel
theorem dX0_countPlans_4 : decode cX0_countPlans 4 = .ok (.ifCond .ne 43, 3) := by decide +kernel
theorem dX0_countPlans_7 : decode cX0_countPlans 7 = .ok (.aload_n 1, 1) := by decide +kernel
theorem dX0_countPlans_8 : decode cX0_countPlans 8 = .ok (.getfield 50, 3) := by decide +kernel
theorem dX0_countPlans_11 : decode cX0_countPlans 11 = .ok (.bipush 9, 2) := by decide +kernel
theorem dX0_countPlans_13 : decode cX0_countPlans 13 = .ok (.if_icmp .gt 34, 3) := by decide +kernel
theorem dX0_countPlans_16 : decode cX0_countPlans 16 = .ok (.aload_n 0, 1) := by decide +kernel
theorem dX0_countPlans_17 : decode cX0_countPlans 17 = .ok (.aload_n 1, 1) := by decide +kernel
theorem dX0_countPlans_18 : decode cX0_countPlans 18 = .ok (.invokevirtual 55, 3) := by decide +kernel
theorem dX0_countPlans_21 : decode cX0_countPlans 21 = .ok (.aload_n 0, 1) := by decide +kernel
theorem dX0_countPlans_22 : decode cX0_countPlans 22 = .ok (.iconst 0, 1) := by decide +kernel
theorem dX0_countPlans_23 : decode cX0_countPlans 23 = .ok (.putfield 39, 3) := by decide +kernel
theorem dX0_countPlans_26 : decode cX0_countPlans 26 = .ok (.aload_n 0, 1) := by decide +kernel
theorem dX0_countPlans_27 : decode cX0_countPlans 27 = .ok (.getfield 19, 3) := by decide +kernel
theorem dX0_countPlans_30 : decode cX0_countPlans 30 = .ok (.iconst 0, 1) := by decide +kernel
theorem dX0_countPlans_31 : decode cX0_countPlans 31 = .ok (.invokestatic 59, 3) := by decide +kernel
theorem dX0_countPlans_34 : decode cX0_countPlans 34 = .ok (.aload_n 0, 1) := by decide +kernel
theorem dX0_countPlans_35 : decode cX0_countPlans 35 = .ok (.aload_n 1, 1) := by decide +kernel
theorem dX0_countPlans_36 : decode cX0_countPlans 36 = .ok (.iconst 0, 1) := by decide +kernel
theorem dX0_countPlans_37 : decode cX0_countPlans 37 = .ok (.iconst 0, 1) := by decide +kernel
theorem dX0_countPlans_38 : decode cX0_countPlans 38 = .ok (.iconst 0, 1) := by decide +kernel
theorem dX0_countPlans_39 : decode cX0_countPlans 39 = .ok (.invokestatic 65, 3) := by decide +kernel
theorem dX0_countPlans_42 : decode cX0_countPlans 42 = .ok (.aload_n 0, 1) := by decide +kernel
theorem dX0_countPlans_43 : decode cX0_countPlans 43 = .ok (.iconst 1, 1) := by decide +kernel
theorem dX0_countPlans_44 : decode cX0_countPlans 44 = .ok (.putfield 47, 3) := by decide +kernel
theorem dX0_countPlans_47 : decode cX0_countPlans 47 = .ok (.aload_n 0, 1) := by decide +kernel
theorem dX0_countPlans_48 : decode cX0_countPlans 48 = .ok (.getfield 39, 3) := by decide +kernel
theorem dX0_countPlans_51 : decode cX0_countPlans 51 = .ok (.ireturn, 1) := by decide +kernel
theorem dX0_countBySets_0 : decode cX0_countBySets 0 = .ok (.aload_n 1, 1) := by decide +kernel
theorem dX0_countBySets_1 : decode cX0_countBySets 1 = .ok (.getfield 50, 3) := by decide +kernel
theorem dX0_countBySets_4 : decode cX0_countBySets 4 = .ok (.bipush 9, 2) := by decide +kernel
theorem dX0_countBySets_6 : decode cX0_countBySets 6 = .ok (.if_icmp .le 5, 3) := by decide +kernel
theorem dX0_countBySets_9 : decode cX0_countBySets 9 = .ok (.iconst 0, 1) := by decide +kernel
theorem dX0_countBySets_10 : decode cX0_countBySets 10 = .ok (.ireturn, 1) := by decide +kernel
theorem dX0_countBySets_11 : decode cX0_countBySets 11 = .ok (.aload_n 0, 1) := by decide +kernel
theorem dX0_countBySets_12 : decode cX0_countBySets 12 = .ok (.aload_n 1, 1) := by decide +kernel
theorem dX0_countBySets_13 : decode cX0_countBySets 13 = .ok (.invokevirtual 55, 3) := by decide +kernel
theorem dX0_countBySets_16 : decode cX0_countBySets 16 = .ok (.aload_n 0, 1) := by decide +kernel
theorem dX0_countBySets_17 : decode cX0_countBySets 17 = .ok (.aload_n 1, 1) := by decide +kernel
theorem dX0_countBySets_18 : decode cX0_countBySets 18 = .ok (.invokevirtual 69, 3) := by decide +kernel
theorem dX0_countBySets_21 : decode cX0_countBySets 21 = .ok (.aload_n 1, 1) := by decide +kernel
theorem dX0_countBySets_22 : decode cX0_countBySets 22 = .ok (.getfield 73, 3) := by decide +kernel
theorem dX0_countBySets_25 : decode cX0_countBySets 25 = .ok (.invokestatic 76, 3) := by decide +kernel
theorem dX0_countBySets_28 : decode cX0_countBySets 28 = .ok (.ireturn, 1) := by decide +kernel
theorem dX0_copyPlan_0 : decode cX0_copyPlan 0 = .ok (.aload_n 3, 1) := by decide +kernel
theorem dX0_copyPlan_1 : decode cX0_copyPlan 1 = .ok (.invokevirtual 80, 3) := by decide +kernel
theorem dX0_copyPlan_4 : decode cX0_copyPlan 4 = .ok (.iload_n 1, 1) := by decide +kernel
theorem dX0_copyPlan_5 : decode cX0_copyPlan 5 = .ok (.ifCond .lt 11, 3) := by decide +kernel
theorem dX0_copyPlan_8 : decode cX0_copyPlan 8 = .ok (.iload_n 1, 1) := by decide +kernel
theorem dX0_copyPlan_9 : decode cX0_copyPlan 9 = .ok (.aload_n 0, 1) := by decide +kernel
theorem dX0_copyPlan_10 : decode cX0_copyPlan 10 = .ok (.getfield 39, 3) := by decide +kernel
theorem dX0_copyPlan_13 : decode cX0_copyPlan 13 = .ok (.if_icmp .lt 4, 3) := by decide +kernel
theorem dX0_copyPlan_16 : decode cX0_copyPlan 16 = .ok (.return_, 1) := by decide +kernel
theorem dX0_copyPlan_17 : decode cX0_copyPlan 17 = .ok (.iconst 0, 1) := by decide +kernel
theorem dX0_copyPlan_18 : decode cX0_copyPlan 18 = .ok (.istore 4, 2) := by decide +kernel
theorem dX0_copyPlan_20 : decode cX0_copyPlan 20 = .ok (.iload 4, 2) := by decide +kernel
theorem dX0_copyPlan_22 : decode cX0_copyPlan 22 = .ok (.aload_n 2, 1) := by decide +kernel
theorem dX0_copyPlan_23 : decode cX0_copyPlan 23 = .ok (.getfield 50, 3) := by decide +kernel
theorem dX0_copyPlan_26 : decode cX0_copyPlan 26 = .ok (.if_icmp .ge 28, 3) := by decide +kernel
theorem dX0_copyPlan_29 : decode cX0_copyPlan 29 = .ok (.aload_n 3, 1) := by decide +kernel
theorem dX0_copyPlan_30 : decode cX0_copyPlan 30 = .ok (.iload 4, 2) := by decide +kernel
theorem dX0_copyPlan_32 : decode cX0_copyPlan 32 = .ok (.aload_n 0, 1) := by decide +kernel
theorem dX0_copyPlan_33 : decode cX0_copyPlan 33 = .ok (.getfield 9, 3) := by decide +kernel
theorem dX0_copyPlan_36 : decode cX0_copyPlan 36 = .ok (.iload_n 1, 1) := by decide +kernel
theorem dX0_copyPlan_37 : decode cX0_copyPlan 37 = .ok (.iaload, 1) := by decide +kernel
theorem dX0_copyPlan_38 : decode cX0_copyPlan 38 = .ok (.iconst 2, 1) := by decide +kernel
theorem dX0_copyPlan_39 : decode cX0_copyPlan 39 = .ok (.iload 4, 2) := by decide +kernel
theorem dX0_copyPlan_41 : decode cX0_copyPlan 41 = .ok (.imul, 1) := by decide +kernel
theorem dX0_copyPlan_42 : decode cX0_copyPlan 42 = .ok (.ishr, 1) := by decide +kernel
theorem dX0_copyPlan_43 : decode cX0_copyPlan 43 = .ok (.iconst 3, 1) := by decide +kernel
theorem dX0_copyPlan_44 : decode cX0_copyPlan 44 = .ok (.iand, 1) := by decide +kernel
theorem dX0_copyPlan_45 : decode cX0_copyPlan 45 = .ok (.invokevirtual 83, 3) := by decide +kernel
theorem dX0_copyPlan_48 : decode cX0_copyPlan 48 = .ok (.iinc 4 1, 3) := by decide +kernel
theorem dX0_copyPlan_51 : decode cX0_copyPlan 51 = .ok (.goto (-31), 3) := by decide +kernel
theorem dX0_copyPlan_54 : decode cX0_copyPlan 54 = .ok (.return_, 1) := by decide +kernel
theorem dX0_findBest_0 : decode cX0_findBest 0 = .ok (.iconst 0, 1) := by decide +kernel
theorem dX0_findBest_1 : decode cX0_findBest 1 = .ok (.istore_n 3, 1) := by decide +kernel
theorem dX0_findBest_2 : decode cX0_findBest 2 = .ok (.iconst 0, 1) := by decide +kernel
theorem dX0_findBest_3 : decode cX0_findBest 3 = .ok (.istore 4, 2) := by decide +kernel
theorem dX0_findBest_5 : decode cX0_findBest 5 = .ok (.iload 4, 2) := by decide +kernel
theorem dX0_findBest_7 : decode cX0_findBest 7 = .ok (.aload_n 0, 1) := by decide +kernel
theorem dX0_findBest_8 : decode cX0_findBest 8 = .ok (.getfield 39, 3) := by decide +kernel
theorem dX0_findBest_11 : decode cX0_findBest 11 = .ok (.if_icmp .ge 67, 3) := by decide +kernel
theorem dX0_findBest_14 : decode cX0_findBest 14 = .ok (.aload_n 0, 1) := by decide +kernel
theorem dX0_findBest_15 : decode cX0_findBest 15 = .ok (.iload 4, 2) := by decide +kernel
theorem dX0_findBest_17 : decode cX0_findBest 17 = .ok (.aload_n 1, 1) := by decide +kernel
theorem dX0_findBest_18 : decode cX0_findBest 18 = .ok (.aload_n 0, 1) := by decide +kernel
theorem dX0_findBest_19 : decode cX0_findBest 19 = .ok (.getfield 25, 3) := by decide +kernel
theorem dX0_findBest_22 : decode cX0_findBest 22 = .ok (.invokevirtual 87, 3) := by decide +kernel
theorem dX0_findBest_25 : decode cX0_findBest 25 = .ok (.aload_n 1, 1) := by decide +kernel
theorem dX0_findBest_26 : decode cX0_findBest 26 = .ok (.aload_n 0, 1) := by decide +kernel
theorem dX0_findBest_27 : decode cX0_findBest 27 = .ok (.getfield 25, 3) := by decide +kernel
theorem dX0_findBest_30 : decode cX0_findBest 30 = .ok (.iload_n 2, 1) := by decide +kernel
theorem dX0_findBest_31 : decode cX0_findBest 31 = .ok (.aload_n 0, 1) := by decide +kernel
theorem dX0_findBest_32 : decode cX0_findBest 32 = .ok (.getfield 36, 3) := by decide +kernel
theorem dX0_findBest_35 : decode cX0_findBest 35 = .ok (.invokestatic 91, 3) := by decide +kernel
theorem dX0_findBest_38 : decode cX0_findBest 38 = .ok (.iload 4, 2) := by decide +kernel
theorem dX0_findBest_40 : decode cX0_findBest 40 = .ok (.ifCond .eq 18, 3) := by decide +kernel
theorem dX0_findBest_43 : decode cX0_findBest 43 = .ok (.iload_n 2, 1) := by decide +kernel
theorem dX0_findBest_44 : decode cX0_findBest 44 = .ok (.aload_n 0, 1) := by decide +kernel
theorem dX0_findBest_45 : decode cX0_findBest 45 = .ok (.getfield 36, 3) := by decide +kernel
theorem dX0_findBest_48 : decode cX0_findBest 48 = .ok (.aload_n 0, 1) := by decide +kernel
theorem dX0_findBest_49 : decode cX0_findBest 49 = .ok (.getfield 32, 3) := by decide +kernel
theorem dX0_findBest_52 : decode cX0_findBest 52 = .ok (.invokestatic 97, 3) := by decide +kernel
theorem dX0_findBest_55 : decode cX0_findBest 55 = .ok (.ifCond .eq 17, 3) := by decide +kernel
theorem dX0_findBest_58 : decode cX0_findBest 58 = .ok (.aload_n 0, 1) := by decide +kernel
theorem dX0_findBest_59 : decode cX0_findBest 59 = .ok (.getfield 32, 3) := by decide +kernel
theorem dX0_findBest_62 : decode cX0_findBest 62 = .ok (.aload_n 0, 1) := by decide +kernel
theorem dX0_findBest_63 : decode cX0_findBest 63 = .ok (.getfield 36, 3) := by decide +kernel
theorem dX0_findBest_66 : decode cX0_findBest 66 = .ok (.invokevirtual 101, 3) := by decide +kernel
theorem dX0_findBest_69 : decode cX0_findBest 69 = .ok (.iload 4, 2) := by decide +kernel
theorem dX0_findBest_71 : decode cX0_findBest 71 = .ok (.istore_n 3, 1) := by decide +kernel
theorem dX0_findBest_72 : decode cX0_findBest 72 = .ok (.iinc 4 1, 3) := by decide +kernel
theorem dX0_findBest_75 : decode cX0_findBest 75 = .ok (.goto (-70), 3) := by decide +kernel
theorem dX0_findBest_78 : decode cX0_findBest 78 = .ok (.iload_n 3, 1) := by decide +kernel
theorem dX0_findBest_79 : decode cX0_findBest 79 = .ok (.ireturn, 1) := by decide +kernel
theorem dX0_findSets_0 : decode cX0_findSets 0 = .ok (.aload_n 0, 1) := by decide +kernel
theorem dX0_findSets_1 : decode cX0_findSets 1 = .ok (.getfield 43, 3) := by decide +kernel
theorem dX0_findSets_4 : decode cX0_findSets 4 = .ok (.ifCond .eq 4, 3) := by decide +kernel
theorem dX0_findSets_7 : decode cX0_findSets 7 = .ok (.return_, 1) := by decide +kernel
theorem dX0_findSets_8 : decode cX0_findSets 8 = .ok (.aload_n 1, 1) := by decide +kernel
theorem dX0_findSets_9 : decode cX0_findSets 9 = .ok (.invokevirtual 69, 3) := by decide +kernel
theorem dX0_findSets_12 : decode cX0_findSets 12 = .ok (.aload_n 0, 1) := by decide +kernel
theorem dX0_findSets_13 : decode cX0_findSets 13 = .ok (.getfield 15, 3) := by decide +kernel
theorem dX0_findSets_16 : decode cX0_findSets 16 = .ok (.arraylength, 1) := by decide +kernel
theorem dX0_findSets_17 : decode cX0_findSets 17 = .ok (.iconst 1, 1) := by decide +kernel
theorem dX0_findSets_18 : decode cX0_findSets 18 = .ok (.isub, 1) := by decide +kernel
theorem dX0_findSets_19 : decode cX0_findSets 19 = .ok (.invokestatic 105, 3) := by decide +kernel
theorem dX0_findSets_22 : decode cX0_findSets 22 = .ok (.istore_n 2, 1) := by decide +kernel
theorem dX0_findSets_23 : decode cX0_findSets 23 = .ok (.iconst 0, 1) := by decide +kernel
theorem dX0_findSets_24 : decode cX0_findSets 24 = .ok (.istore_n 3, 1) := by decide +kernel
theorem dX0_findSets_25 : decode cX0_findSets 25 = .ok (.iload_n 3, 1) := by decide +kernel
theorem dX0_findSets_26 : decode cX0_findSets 26 = .ok (.iload_n 2, 1) := by decide +kernel
theorem dX0_findSets_27 : decode cX0_findSets 27 = .ok (.if_icmp .gt 48, 3) := by decide +kernel
theorem dX0_findSets_30 : decode cX0_findSets 30 = .ok (.aload_n 0, 1) := by decide +kernel
theorem dX0_findSets_31 : decode cX0_findSets 31 = .ok (.getfield 15, 3) := by decide +kernel
theorem dX0_findSets_34 : decode cX0_findSets 34 = .ok (.iload_n 3, 1) := by decide +kernel
theorem dX0_findSets_35 : decode cX0_findSets 35 = .ok (.iload_n 3, 1) := by decide +kernel
theorem dX0_findSets_36 : decode cX0_findSets 36 = .ok (.ifCond .eq 31, 3) := by decide +kernel
theorem dX0_findSets_39 : decode cX0_findSets 39 = .ok (.aload_n 1, 1) := by decide +kernel
theorem dX0_findSets_40 : decode cX0_findSets 40 = .ok (.iload_n 3, 1) := by decide +kernel
theorem dX0_findSets_41 : decode cX0_findSets 41 = .ok (.invokevirtual 111, 3) := by decide +kernel
theorem dX0_findSets_44 : decode cX0_findSets 44 = .ok (.ifCond .eq 23, 3) := by decide +kernel
theorem dX0_findSets_47 : decode cX0_findSets 47 = .ok (.aload_n 1, 1) := by decide +kernel
theorem dX0_findSets_48 : decode cX0_findSets 48 = .ok (.iload_n 3, 1) := by decide +kernel
theorem dX0_findSets_49 : decode cX0_findSets 49 = .ok (.invokevirtual 115, 3) := by decide +kernel
theorem dX0_findSets_52 : decode cX0_findSets 52 = .ok (.ifCond .ne 15, 3) := by decide +kernel
theorem dX0_findSets_55 : decode cX0_findSets 55 = .ok (.aload_n 1, 1) := by decide +kernel
theorem dX0_findSets_56 : decode cX0_findSets 56 = .ok (.iload_n 3, 1) := by decide +kernel
theorem dX0_findSets_57 : decode cX0_findSets 57 = .ok (.invokevirtual 118, 3) := by decide +kernel
theorem dX0_findSets_60 : decode cX0_findSets 60 = .ok (.ifCond .eq 7, 3) := by decide +kernel
theorem dX0_findSets_63 : decode cX0_findSets 63 = .ok (.iconst 1, 1) := by decide +kernel
theorem dX0_findSets_64 : decode cX0_findSets 64 = .ok (.goto 4, 3) := by decide +kernel
theorem dX0_findSets_67 : decode cX0_findSets 67 = .ok (.iconst 0, 1) := by decide +kernel
theorem dX0_findSets_68 : decode cX0_findSets 68 = .ok (.bastore, 1) := by decide +kernel
theorem dX0_findSets_69 : decode cX0_findSets 69 = .ok (.iinc 3 1, 3) := by decide +kernel
theorem dX0_findSets_72 : decode cX0_findSets 72 = .ok (.goto (-47), 3) := by decide +kernel
theorem dX0_findSets_75 : decode cX0_findSets 75 = .ok (.aload_n 0, 1) := by decide +kernel
theorem dX0_findSets_76 : decode cX0_findSets 76 = .ok (.iconst 1, 1) := by decide +kernel
theorem dX0_findSets_77 : decode cX0_findSets 77 = .ok (.putfield 43, 3) := by decide +kernel
theorem dX0_findSets_80 : decode cX0_findSets 80 = .ok (.return_, 1) := by decide +kernel
theorem dX0_listFrom_0 : decode cX0_listFrom 0 = .ok (.iload_n 2, 1) := by decide +kernel
theorem dX0_listFrom_1 : decode cX0_listFrom 1 = .ok (.aload_n 1, 1) := by decide +kernel
theorem dX0_listFrom_2 : decode cX0_listFrom 2 = .ok (.getfield 50, 3) := by decide +kernel
theorem dX0_listFrom_5 : decode cX0_listFrom 5 = .ok (.if_icmp .ge 9, 3) := by decide +kernel
theorem dX0_listFrom_8 : decode cX0_listFrom 8 = .ok (.iload_n 2, 1) := by decide +kernel
theorem dX0_listFrom_9 : decode cX0_listFrom 9 = .ok (.bipush 9, 2) := by decide +kernel
theorem dX0_listFrom_11 : decode cX0_listFrom 11 = .ok (.if_icmp .lt 15, 3) := by decide +kernel
theorem dX0_listFrom_14 : decode cX0_listFrom 14 = .ok (.aload_n 0, 1) := by decide +kernel
theorem dX0_listFrom_15 : decode cX0_listFrom 15 = .ok (.aload_n 1, 1) := by decide +kernel
theorem dX0_listFrom_16 : decode cX0_listFrom 16 = .ok (.getfield 73, 3) := by decide +kernel
theorem dX0_listFrom_19 : decode cX0_listFrom 19 = .ok (.iload_n 3, 1) := by decide +kernel
theorem dX0_listFrom_20 : decode cX0_listFrom 20 = .ok (.iload 4, 2) := by decide +kernel
theorem dX0_listFrom_22 : decode cX0_listFrom 22 = .ok (.invokevirtual 121, 3) := by decide +kernel
theorem dX0_listFrom_25 : decode cX0_listFrom 25 = .ok (.return_, 1) := by decide +kernel
theorem dX0_listFrom_26 : decode cX0_listFrom 26 = .ok (.iload_n 3, 1) := by decide +kernel
theorem dX0_listFrom_27 : decode cX0_listFrom 27 = .ok (.aload_n 1, 1) := by decide +kernel
theorem dX0_listFrom_28 : decode cX0_listFrom 28 = .ok (.getfield 73, 3) := by decide +kernel
theorem dX0_listFrom_31 : decode cX0_listFrom 31 = .ok (.iconst 1, 1) := by decide +kernel
theorem dX0_listFrom_32 : decode cX0_listFrom 32 = .ok (.isub, 1) := by decide +kernel
theorem dX0_listFrom_33 : decode cX0_listFrom 33 = .ok (.invokestatic 105, 3) := by decide +kernel
theorem dX0_listFrom_36 : decode cX0_listFrom 36 = .ok (.istore 5, 2) := by decide +kernel
theorem dX0_listFrom_38 : decode cX0_listFrom 38 = .ok (.iconst 0, 1) := by decide +kernel
theorem dX0_listFrom_39 : decode cX0_listFrom 39 = .ok (.istore 6, 2) := by decide +kernel
theorem dX0_listFrom_41 : decode cX0_listFrom 41 = .ok (.iload 6, 2) := by decide +kernel
theorem dX0_listFrom_43 : decode cX0_listFrom 43 = .ok (.iload 5, 2) := by decide +kernel
theorem dX0_listFrom_45 : decode cX0_listFrom 45 = .ok (.if_icmp .gt 62, 3) := by decide +kernel
theorem dX0_listFrom_48 : decode cX0_listFrom 48 = .ok (.aload_n 0, 1) := by decide +kernel
theorem dX0_listFrom_49 : decode cX0_listFrom 49 = .ok (.getfield 19, 3) := by decide +kernel
theorem dX0_listFrom_52 : decode cX0_listFrom 52 = .ok (.iload 6, 2) := by decide +kernel
theorem dX0_listFrom_54 : decode cX0_listFrom 54 = .ok (.dup2, 1) := by decide +kernel
theorem dX0_listFrom_55 : decode cX0_listFrom 55 = .ok (.iaload, 1) := by decide +kernel
theorem dX0_listFrom_56 : decode cX0_listFrom 56 = .ok (.iconst 1, 1) := by decide +kernel
theorem dX0_listFrom_57 : decode cX0_listFrom 57 = .ok (.iload_n 2, 1) := by decide +kernel
theorem dX0_listFrom_58 : decode cX0_listFrom 58 = .ok (.ishl, 1) := by decide +kernel
theorem dX0_listFrom_59 : decode cX0_listFrom 59 = .ok (.ior, 1) := by decide +kernel
theorem dX0_listFrom_60 : decode cX0_listFrom 60 = .ok (.iastore, 1) := by decide +kernel
theorem dX0_listFrom_61 : decode cX0_listFrom 61 = .ok (.aload_n 0, 1) := by decide +kernel
theorem dX0_listFrom_62 : decode cX0_listFrom 62 = .ok (.aload_n 1, 1) := by decide +kernel
theorem dX0_listFrom_63 : decode cX0_listFrom 63 = .ok (.iload_n 2, 1) := by decide +kernel
theorem dX0_listFrom_64 : decode cX0_listFrom 64 = .ok (.iconst 1, 1) := by decide +kernel
theorem dX0_listFrom_65 : decode cX0_listFrom 65 = .ok (.iadd, 1) := by decide +kernel
theorem dX0_listFrom_66 : decode cX0_listFrom 66 = .ok (.iload_n 3, 1) := by decide +kernel
theorem dX0_listFrom_67 : decode cX0_listFrom 67 = .ok (.iload 6, 2) := by decide +kernel
theorem dX0_listFrom_69 : decode cX0_listFrom 69 = .ok (.iconst 1, 1) := by decide +kernel
theorem dX0_listFrom_70 : decode cX0_listFrom 70 = .ok (.iadd, 1) := by decide +kernel
theorem dX0_listFrom_71 : decode cX0_listFrom 71 = .ok (.invokestatic 125, 3) := by decide +kernel
theorem dX0_listFrom_74 : decode cX0_listFrom 74 = .ok (.iload 4, 2) := by decide +kernel
theorem dX0_listFrom_76 : decode cX0_listFrom 76 = .ok (.iload 6, 2) := by decide +kernel
theorem dX0_listFrom_78 : decode cX0_listFrom 78 = .ok (.iconst 2, 1) := by decide +kernel
theorem dX0_listFrom_79 : decode cX0_listFrom 79 = .ok (.iload_n 2, 1) := by decide +kernel
theorem dX0_listFrom_80 : decode cX0_listFrom 80 = .ok (.imul, 1) := by decide +kernel
theorem dX0_listFrom_81 : decode cX0_listFrom 81 = .ok (.ishl, 1) := by decide +kernel
theorem dX0_listFrom_82 : decode cX0_listFrom 82 = .ok (.ior, 1) := by decide +kernel
theorem dX0_listFrom_83 : decode cX0_listFrom 83 = .ok (.invokestatic 65, 3) := by decide +kernel
theorem dX0_listFrom_86 : decode cX0_listFrom 86 = .ok (.aload_n 0, 1) := by decide +kernel
theorem dX0_listFrom_87 : decode cX0_listFrom 87 = .ok (.getfield 19, 3) := by decide +kernel
theorem dX0_listFrom_90 : decode cX0_listFrom 90 = .ok (.iload 6, 2) := by decide +kernel
theorem dX0_listFrom_92 : decode cX0_listFrom 92 = .ok (.dup2, 1) := by decide +kernel
theorem dX0_listFrom_93 : decode cX0_listFrom 93 = .ok (.iaload, 1) := by decide +kernel
theorem dX0_listFrom_94 : decode cX0_listFrom 94 = .ok (.iconst 1, 1) := by decide +kernel
theorem dX0_listFrom_95 : decode cX0_listFrom 95 = .ok (.iload_n 2, 1) := by decide +kernel
theorem dX0_listFrom_96 : decode cX0_listFrom 96 = .ok (.ishl, 1) := by decide +kernel
theorem dX0_listFrom_97 : decode cX0_listFrom 97 = .ok (.iconst (-1), 1) := by decide +kernel
theorem dX0_listFrom_98 : decode cX0_listFrom 98 = .ok (.ixor, 1) := by decide +kernel
theorem dX0_listFrom_99 : decode cX0_listFrom 99 = .ok (.iand, 1) := by decide +kernel
theorem dX0_listFrom_100 : decode cX0_listFrom 100 = .ok (.iastore, 1) := by decide +kernel
theorem dX0_listFrom_101 : decode cX0_listFrom 101 = .ok (.iinc 6 1, 3) := by decide +kernel
theorem dX0_listFrom_104 : decode cX0_listFrom 104 = .ok (.goto (-63), 3) := by decide +kernel
theorem dX0_listFrom_107 : decode cX0_listFrom 107 = .ok (.return_, 1) := by decide +kernel
theorem dX0_keepIfLawful_0 : decode cX0_keepIfLawful 0 = .ok (.iload_n 2, 1) := by decide +kernel
theorem dX0_keepIfLawful_1 : decode cX0_keepIfLawful 1 = .ok (.iload_n 1, 1) := by decide +kernel
theorem dX0_keepIfLawful_2 : decode cX0_keepIfLawful 2 = .ok (.if_icmp .lt 13, 3) := by decide +kernel
theorem dX0_keepIfLawful_5 : decode cX0_keepIfLawful 5 = .ok (.aload_n 0, 1) := by decide +kernel
theorem dX0_keepIfLawful_6 : decode cX0_keepIfLawful 6 = .ok (.getfield 39, 3) := by decide +kernel
theorem dX0_keepIfLawful_9 : decode cX0_keepIfLawful 9 = .ok (.sipush 7770, 3) := by decide +kernel
theorem dX0_keepIfLawful_12 : decode cX0_keepIfLawful 12 = .ok (.if_icmp .lt 4, 3) := by decide +kernel
theorem dX0_keepIfLawful_15 : decode cX0_keepIfLawful 15 = .ok (.return_, 1) := by decide +kernel
theorem dX0_keepIfLawful_16 : decode cX0_keepIfLawful 16 = .ok (.iconst 0, 1) := by decide +kernel
theorem dX0_keepIfLawful_17 : decode cX0_keepIfLawful 17 = .ok (.istore 4, 2) := by decide +kernel
theorem dX0_keepIfLawful_19 : decode cX0_keepIfLawful 19 = .ok (.iload 4, 2) := by decide +kernel
theorem dX0_keepIfLawful_21 : decode cX0_keepIfLawful 21 = .ok (.iload_n 1, 1) := by decide +kernel
theorem dX0_keepIfLawful_22 : decode cX0_keepIfLawful 22 = .ok (.if_icmp .ge 25, 3) := by decide +kernel
theorem dX0_keepIfLawful_25 : decode cX0_keepIfLawful 25 = .ok (.aload_n 0, 1) := by decide +kernel
theorem dX0_keepIfLawful_26 : decode cX0_keepIfLawful 26 = .ok (.getfield 15, 3) := by decide +kernel
theorem dX0_keepIfLawful_29 : decode cX0_keepIfLawful 29 = .ok (.aload_n 0, 1) := by decide +kernel
theorem dX0_keepIfLawful_30 : decode cX0_keepIfLawful 30 = .ok (.getfield 19, 3) := by decide +kernel
theorem dX0_keepIfLawful_33 : decode cX0_keepIfLawful 33 = .ok (.iload 4, 2) := by decide +kernel
theorem dX0_keepIfLawful_35 : decode cX0_keepIfLawful 35 = .ok (.iaload, 1) := by decide +kernel
theorem dX0_keepIfLawful_36 : decode cX0_keepIfLawful 36 = .ok (.baload, 1) := by decide +kernel
theorem dX0_keepIfLawful_37 : decode cX0_keepIfLawful 37 = .ok (.ifCond .ne 4, 3) := by decide +kernel
theorem dX0_keepIfLawful_40 : decode cX0_keepIfLawful 40 = .ok (.return_, 1) := by decide +kernel
theorem dX0_keepIfLawful_41 : decode cX0_keepIfLawful 41 = .ok (.iinc 4 1, 3) := by decide +kernel
theorem dX0_keepIfLawful_44 : decode cX0_keepIfLawful 44 = .ok (.goto (-25), 3) := by decide +kernel
theorem dX0_keepIfLawful_47 : decode cX0_keepIfLawful 47 = .ok (.aload_n 0, 1) := by decide +kernel
theorem dX0_keepIfLawful_48 : decode cX0_keepIfLawful 48 = .ok (.getfield 9, 3) := by decide +kernel
theorem dX0_keepIfLawful_51 : decode cX0_keepIfLawful 51 = .ok (.aload_n 0, 1) := by decide +kernel
theorem dX0_keepIfLawful_52 : decode cX0_keepIfLawful 52 = .ok (.getfield 39, 3) := by decide +kernel
theorem dX0_keepIfLawful_55 : decode cX0_keepIfLawful 55 = .ok (.iload_n 3, 1) := by decide +kernel
theorem dX0_keepIfLawful_56 : decode cX0_keepIfLawful 56 = .ok (.iastore, 1) := by decide +kernel
theorem dX0_keepIfLawful_57 : decode cX0_keepIfLawful 57 = .ok (.aload_n 0, 1) := by decide +kernel
theorem dX0_keepIfLawful_58 : decode cX0_keepIfLawful 58 = .ok (.dup, 1) := by decide +kernel
theorem dX0_keepIfLawful_59 : decode cX0_keepIfLawful 59 = .ok (.getfield 39, 3) := by decide +kernel
theorem dX0_keepIfLawful_62 : decode cX0_keepIfLawful 62 = .ok (.iconst 1, 1) := by decide +kernel
theorem dX0_keepIfLawful_63 : decode cX0_keepIfLawful 63 = .ok (.iadd, 1) := by decide +kernel
theorem dX0_keepIfLawful_64 : decode cX0_keepIfLawful 64 = .ok (.putfield 39, 3) := by decide +kernel
theorem dX0_keepIfLawful_67 : decode cX0_keepIfLawful 67 = .ok (.return_, 1) := by decide +kernel
theorem dX0_countFrom_0 : decode cX0_countFrom 0 = .ok (.iload_n 2, 1) := by decide +kernel
theorem dX0_countFrom_1 : decode cX0_countFrom 1 = .ok (.iconst 1, 1) := by decide +kernel
theorem dX0_countFrom_2 : decode cX0_countFrom 2 = .ok (.if_icmp .gt 18, 3) := by decide +kernel
theorem dX0_countFrom_5 : decode cX0_countFrom 5 = .ok (.aload_n 0, 1) := by decide +kernel
theorem dX0_countFrom_6 : decode cX0_countFrom 6 = .ok (.getfield 15, 3) := by decide +kernel
theorem dX0_countFrom_9 : decode cX0_countFrom 9 = .ok (.iload_n 1, 1) := by decide +kernel
theorem dX0_countFrom_10 : decode cX0_countFrom 10 = .ok (.baload, 1) := by decide +kernel
theorem dX0_countFrom_11 : decode cX0_countFrom 11 = .ok (.ifCond .eq 7, 3) := by decide +kernel
theorem dX0_countFrom_14 : decode cX0_countFrom 14 = .ok (.iconst 1, 1) := by decide +kernel
theorem dX0_countFrom_15 : decode cX0_countFrom 15 = .ok (.goto 4, 3) := by decide +kernel
theorem dX0_countFrom_18 : decode cX0_countFrom 18 = .ok (.iconst 0, 1) := by decide +kernel
theorem dX0_countFrom_19 : decode cX0_countFrom 19 = .ok (.ireturn, 1) := by decide +kernel
theorem dX0_countFrom_20 : decode cX0_countFrom 20 = .ok (.iload_n 1, 1) := by decide +kernel
theorem dX0_countFrom_21 : decode cX0_countFrom 21 = .ok (.iload_n 1, 1) := by decide +kernel
theorem dX0_countFrom_22 : decode cX0_countFrom 22 = .ok (.ineg, 1) := by decide +kernel
theorem dX0_countFrom_23 : decode cX0_countFrom 23 = .ok (.iand, 1) := by decide +kernel
theorem dX0_countFrom_24 : decode cX0_countFrom 24 = .ok (.istore_n 3, 1) := by decide +kernel
theorem dX0_countFrom_25 : decode cX0_countFrom 25 = .ok (.iload_n 1, 1) := by decide +kernel
theorem dX0_countFrom_26 : decode cX0_countFrom 26 = .ok (.iload_n 3, 1) := by decide +kernel
theorem dX0_countFrom_27 : decode cX0_countFrom 27 = .ok (.iconst (-1), 1) := by decide +kernel
theorem dX0_countFrom_28 : decode cX0_countFrom 28 = .ok (.ixor, 1) := by decide +kernel
theorem dX0_countFrom_29 : decode cX0_countFrom 29 = .ok (.iand, 1) := by decide +kernel
theorem dX0_countFrom_30 : decode cX0_countFrom 30 = .ok (.istore 4, 2) := by decide +kernel
theorem dX0_countFrom_32 : decode cX0_countFrom 32 = .ok (.iconst 0, 1) := by decide +kernel
theorem dX0_countFrom_33 : decode cX0_countFrom 33 = .ok (.istore 5, 2) := by decide +kernel
theorem dX0_countFrom_35 : decode cX0_countFrom 35 = .ok (.iload 4, 2) := by decide +kernel
theorem dX0_countFrom_37 : decode cX0_countFrom 37 = .ok (.istore 6, 2) := by decide +kernel
theorem dX0_countFrom_39 : decode cX0_countFrom 39 = .ok (.iconst 0, 1) := by decide +kernel
theorem dX0_countFrom_40 : decode cX0_countFrom 40 = .ok (.istore 7, 2) := by decide +kernel
theorem dX0_countFrom_42 : decode cX0_countFrom 42 = .ok (.iload 7, 2) := by decide +kernel
theorem dX0_countFrom_44 : decode cX0_countFrom 44 = .ok (.sipush 512, 3) := by decide +kernel
theorem dX0_countFrom_47 : decode cX0_countFrom 47 = .ok (.if_icmp .ge 57, 3) := by decide +kernel
theorem dX0_countFrom_50 : decode cX0_countFrom 50 = .ok (.aload_n 0, 1) := by decide +kernel
theorem dX0_countFrom_51 : decode cX0_countFrom 51 = .ok (.getfield 15, 3) := by decide +kernel
theorem dX0_countFrom_54 : decode cX0_countFrom 54 = .ok (.iload_n 3, 1) := by decide +kernel
theorem dX0_countFrom_55 : decode cX0_countFrom 55 = .ok (.iload 6, 2) := by decide +kernel
theorem dX0_countFrom_57 : decode cX0_countFrom 57 = .ok (.ior, 1) := by decide +kernel
theorem dX0_countFrom_58 : decode cX0_countFrom 58 = .ok (.baload, 1) := by decide +kernel
theorem dX0_countFrom_59 : decode cX0_countFrom 59 = .ok (.ifCond .eq 22, 3) := by decide +kernel
theorem dX0_countFrom_62 : decode cX0_countFrom 62 = .ok (.iload 5, 2) := by decide +kernel
theorem dX0_countFrom_64 : decode cX0_countFrom 64 = .ok (.aload_n 0, 1) := by decide +kernel
theorem dX0_countFrom_65 : decode cX0_countFrom 65 = .ok (.iload 4, 2) := by decide +kernel
theorem dX0_countFrom_67 : decode cX0_countFrom 67 = .ok (.iload 6, 2) := by decide +kernel
theorem dX0_countFrom_69 : decode cX0_countFrom 69 = .ok (.iconst (-1), 1) := by decide +kernel
theorem dX0_countFrom_70 : decode cX0_countFrom 70 = .ok (.ixor, 1) := by decide +kernel
theorem dX0_countFrom_71 : decode cX0_countFrom 71 = .ok (.iand, 1) := by decide +kernel
theorem dX0_countFrom_72 : decode cX0_countFrom 72 = .ok (.iload_n 2, 1) := by decide +kernel
theorem dX0_countFrom_73 : decode cX0_countFrom 73 = .ok (.iconst 1, 1) := by decide +kernel
theorem dX0_countFrom_74 : decode cX0_countFrom 74 = .ok (.isub, 1) := by decide +kernel
theorem dX0_countFrom_75 : decode cX0_countFrom 75 = .ok (.invokestatic 76, 3) := by decide +kernel
theorem dX0_countFrom_78 : decode cX0_countFrom 78 = .ok (.iadd, 1) := by decide +kernel
theorem dX0_countFrom_79 : decode cX0_countFrom 79 = .ok (.istore 5, 2) := by decide +kernel
theorem dX0_countFrom_81 : decode cX0_countFrom 81 = .ok (.iload 6, 2) := by decide +kernel
theorem dX0_countFrom_83 : decode cX0_countFrom 83 = .ok (.ifCond .ne 6, 3) := by decide +kernel
theorem dX0_countFrom_86 : decode cX0_countFrom 86 = .ok (.goto 18, 3) := by decide +kernel
theorem dX0_countFrom_89 : decode cX0_countFrom 89 = .ok (.iload 6, 2) := by decide +kernel
theorem dX0_countFrom_91 : decode cX0_countFrom 91 = .ok (.iconst 1, 1) := by decide +kernel
theorem dX0_countFrom_92 : decode cX0_countFrom 92 = .ok (.isub, 1) := by decide +kernel
theorem dX0_countFrom_93 : decode cX0_countFrom 93 = .ok (.iload 4, 2) := by decide +kernel
theorem dX0_countFrom_95 : decode cX0_countFrom 95 = .ok (.iand, 1) := by decide +kernel
theorem dX0_countFrom_96 : decode cX0_countFrom 96 = .ok (.istore 6, 2) := by decide +kernel
theorem dX0_countFrom_98 : decode cX0_countFrom 98 = .ok (.iinc 7 1, 3) := by decide +kernel
theorem dX0_countFrom_101 : decode cX0_countFrom 101 = .ok (.goto (-59), 3) := by decide +kernel
theorem dX0_countFrom_104 : decode cX0_countFrom 104 = .ok (.iload 5, 2) := by decide +kernel
theorem dX0_countFrom_106 : decode cX0_countFrom 106 = .ok (.ireturn, 1) := by decide +kernel
theorem dX1_init_0 : decode cX1_init 0 = .ok (.aload_n 0, 1) := by decide +kernel
theorem dX1_init_1 : decode cX1_init 1 = .ok (.invokespecial 1, 3) := by decide +kernel
theorem dX1_init_4 : decode cX1_init 4 = .ok (.aload_n 0, 1) := by decide +kernel
theorem dX1_init_5 : decode cX1_init 5 = .ok (.lconst 0, 1) := by decide +kernel
theorem dX1_init_6 : decode cX1_init 6 = .ok (.putfield 7, 3) := by decide +kernel
theorem dX1_init_9 : decode cX1_init 9 = .ok (.aload_n 0, 1) := by decide +kernel
theorem dX1_init_10 : decode cX1_init 10 = .ok (.lconst 1, 1) := by decide +kernel
theorem dX1_init_11 : decode cX1_init 11 = .ok (.putfield 13, 3) := by decide +kernel
theorem dX1_init_14 : decode cX1_init 14 = .ok (.return_, 1) := by decide +kernel
theorem dX1_become_0 : decode cX1_become 0 = .ok (.lload_n 1, 1) := by decide +kernel
theorem dX1_become_1 : decode cX1_become 1 = .ok (.lload_n 3, 1) := by decide +kernel
theorem dX1_become_2 : decode cX1_become 2 = .ok (.invokestatic 16, 3) := by decide +kernel
theorem dX1_become_5 : decode cX1_become 5 = .ok (.lstore 5, 2) := by decide +kernel
theorem dX1_become_7 : decode cX1_become 7 = .ok (.lload_n 1, 1) := by decide +kernel
theorem dX1_become_8 : decode cX1_become 8 = .ok (.lconst 0, 1) := by decide +kernel
theorem dX1_become_9 : decode cX1_become 9 = .ok (.lcmp, 1) := by decide +kernel
theorem dX1_become_10 : decode cX1_become 10 = .ok (.ifCond .eq 16, 3) := by decide +kernel
theorem dX1_become_13 : decode cX1_become 13 = .ok (.lload_n 3, 1) := by decide +kernel
theorem dX1_become_14 : decode cX1_become 14 = .ok (.lconst 0, 1) := by decide +kernel
theorem dX1_become_15 : decode cX1_become 15 = .ok (.lcmp, 1) := by decide +kernel
theorem dX1_become_16 : decode cX1_become 16 = .ok (.ifCond .eq 10, 3) := by decide +kernel
theorem dX1_become_19 : decode cX1_become 19 = .ok (.lload 5, 2) := by decide +kernel
theorem dX1_become_21 : decode cX1_become 21 = .ok (.lconst 0, 1) := by decide +kernel
theorem dX1_become_22 : decode cX1_become 22 = .ok (.lcmp, 1) := by decide +kernel
theorem dX1_become_23 : decode cX1_become 23 = .ok (.ifCond .ne 14, 3) := by decide +kernel
theorem dX1_become_26 : decode cX1_become 26 = .ok (.aload_n 0, 1) := by decide +kernel
theorem dX1_become_27 : decode cX1_become 27 = .ok (.lconst 0, 1) := by decide +kernel
theorem dX1_become_28 : decode cX1_become 28 = .ok (.putfield 7, 3) := by decide +kernel
theorem dX1_become_31 : decode cX1_become 31 = .ok (.aload_n 0, 1) := by decide +kernel
theorem dX1_become_32 : decode cX1_become 32 = .ok (.lconst 1, 1) := by decide +kernel
theorem dX1_become_33 : decode cX1_become 33 = .ok (.putfield 13, 3) := by decide +kernel
theorem dX1_become_36 : decode cX1_become 36 = .ok (.return_, 1) := by decide +kernel
theorem dX1_become_37 : decode cX1_become 37 = .ok (.aload_n 0, 1) := by decide +kernel
theorem dX1_become_38 : decode cX1_become 38 = .ok (.lload_n 1, 1) := by decide +kernel
theorem dX1_become_39 : decode cX1_become 39 = .ok (.lload 5, 2) := by decide +kernel
theorem dX1_become_41 : decode cX1_become 41 = .ok (.ldiv, 1) := by decide +kernel
theorem dX1_become_42 : decode cX1_become 42 = .ok (.putfield 7, 3) := by decide +kernel
theorem dX1_become_45 : decode cX1_become 45 = .ok (.aload_n 0, 1) := by decide +kernel
theorem dX1_become_46 : decode cX1_become 46 = .ok (.lload_n 3, 1) := by decide +kernel
theorem dX1_become_47 : decode cX1_become 47 = .ok (.lload 5, 2) := by decide +kernel
theorem dX1_become_49 : decode cX1_become 49 = .ok (.ldiv, 1) := by decide +kernel
theorem dX1_become_50 : decode cX1_become 50 = .ok (.putfield 13, 3) := by decide +kernel
theorem dX1_become_53 : decode cX1_become 53 = .ok (.return_, 1) := by decide +kernel
theorem dX1_copyFrom_0 : decode cX1_copyFrom 0 = .ok (.aload_n 0, 1) := by decide +kernel
theorem dX1_copyFrom_1 : decode cX1_copyFrom 1 = .ok (.aload_n 1, 1) := by decide +kernel
theorem dX1_copyFrom_2 : decode cX1_copyFrom 2 = .ok (.getfield 7, 3) := by decide +kernel
theorem dX1_copyFrom_5 : decode cX1_copyFrom 5 = .ok (.putfield 7, 3) := by decide +kernel
theorem dX1_copyFrom_8 : decode cX1_copyFrom 8 = .ok (.aload_n 0, 1) := by decide +kernel
theorem dX1_copyFrom_9 : decode cX1_copyFrom 9 = .ok (.aload_n 1, 1) := by decide +kernel
theorem dX1_copyFrom_10 : decode cX1_copyFrom 10 = .ok (.getfield 13, 3) := by decide +kernel
theorem dX1_copyFrom_13 : decode cX1_copyFrom 13 = .ok (.putfield 13, 3) := by decide +kernel
theorem dX1_copyFrom_16 : decode cX1_copyFrom 16 = .ok (.return_, 1) := by decide +kernel
theorem dX1_compareWith_0 : decode cX1_compareWith 0 = .ok (.aload_n 0, 1) := by decide +kernel
theorem dX1_compareWith_1 : decode cX1_compareWith 1 = .ok (.getfield 7, 3) := by decide +kernel
theorem dX1_compareWith_4 : decode cX1_compareWith 4 = .ok (.aload_n 1, 1) := by decide +kernel
theorem dX1_compareWith_5 : decode cX1_compareWith 5 = .ok (.getfield 13, 3) := by decide +kernel
theorem dX1_compareWith_8 : decode cX1_compareWith 8 = .ok (.lmul, 1) := by decide +kernel
theorem dX1_compareWith_9 : decode cX1_compareWith 9 = .ok (.aload_n 1, 1) := by decide +kernel
theorem dX1_compareWith_10 : decode cX1_compareWith 10 = .ok (.getfield 7, 3) := by decide +kernel
theorem dX1_compareWith_13 : decode cX1_compareWith 13 = .ok (.aload_n 0, 1) := by decide +kernel
theorem dX1_compareWith_14 : decode cX1_compareWith 14 = .ok (.getfield 13, 3) := by decide +kernel
theorem dX1_compareWith_17 : decode cX1_compareWith 17 = .ok (.lmul, 1) := by decide +kernel
theorem dX1_compareWith_18 : decode cX1_compareWith 18 = .ok (.invokestatic 20, 3) := by decide +kernel
theorem dX1_compareWith_21 : decode cX1_compareWith 21 = .ok (.ireturn, 1) := by decide +kernel
theorem dX1_commonDivisor_0 : decode cX1_commonDivisor 0 = .ok (.lload_n 0, 1) := by decide +kernel
theorem dX1_commonDivisor_1 : decode cX1_commonDivisor 1 = .ok (.lstore 4, 2) := by decide +kernel
theorem dX1_commonDivisor_3 : decode cX1_commonDivisor 3 = .ok (.lload_n 2, 1) := by decide +kernel
theorem dX1_commonDivisor_4 : decode cX1_commonDivisor 4 = .ok (.lstore 6, 2) := by decide +kernel
theorem dX1_commonDivisor_6 : decode cX1_commonDivisor 6 = .ok (.iconst 0, 1) := by decide +kernel
theorem dX1_commonDivisor_7 : decode cX1_commonDivisor 7 = .ok (.istore 8, 2) := by decide +kernel
theorem dX1_commonDivisor_9 : decode cX1_commonDivisor 9 = .ok (.iload 8, 2) := by decide +kernel
theorem dX1_commonDivisor_11 : decode cX1_commonDivisor 11 = .ok (.bipush 100, 2) := by decide +kernel
theorem dX1_commonDivisor_13 : decode cX1_commonDivisor 13 = .ok (.if_icmp .ge 31, 3) := by decide +kernel
theorem dX1_commonDivisor_16 : decode cX1_commonDivisor 16 = .ok (.lload 6, 2) := by decide +kernel
theorem dX1_commonDivisor_18 : decode cX1_commonDivisor 18 = .ok (.lconst 0, 1) := by decide +kernel
theorem dX1_commonDivisor_19 : decode cX1_commonDivisor 19 = .ok (.lcmp, 1) := by decide +kernel
theorem dX1_commonDivisor_20 : decode cX1_commonDivisor 20 = .ok (.ifCond .eq 24, 3) := by decide +kernel
theorem dX1_commonDivisor_23 : decode cX1_commonDivisor 23 = .ok (.lload 4, 2) := by decide +kernel
theorem dX1_commonDivisor_25 : decode cX1_commonDivisor 25 = .ok (.lload 6, 2) := by decide +kernel
theorem dX1_commonDivisor_27 : decode cX1_commonDivisor 27 = .ok (.lrem, 1) := by decide +kernel
theorem dX1_commonDivisor_28 : decode cX1_commonDivisor 28 = .ok (.lstore 9, 2) := by decide +kernel
theorem dX1_commonDivisor_30 : decode cX1_commonDivisor 30 = .ok (.lload 6, 2) := by decide +kernel
theorem dX1_commonDivisor_32 : decode cX1_commonDivisor 32 = .ok (.lstore 4, 2) := by decide +kernel
theorem dX1_commonDivisor_34 : decode cX1_commonDivisor 34 = .ok (.lload 9, 2) := by decide +kernel
theorem dX1_commonDivisor_36 : decode cX1_commonDivisor 36 = .ok (.lstore 6, 2) := by decide +kernel
theorem dX1_commonDivisor_38 : decode cX1_commonDivisor 38 = .ok (.iinc 8 1, 3) := by decide +kernel
theorem dX1_commonDivisor_41 : decode cX1_commonDivisor 41 = .ok (.goto (-32), 3) := by decide +kernel
theorem dX1_commonDivisor_44 : decode cX1_commonDivisor 44 = .ok (.lload 4, 2) := by decide +kernel
theorem dX1_commonDivisor_46 : decode cX1_commonDivisor 46 = .ok (.lreturn, 1) := by decide +kernel
theorem dX2_init_0 : decode cX2_init 0 = .ok (.aload_n 0, 1) := by decide +kernel
theorem dX2_init_1 : decode cX2_init 1 = .ok (.invokespecial 3, 3) := by decide +kernel
theorem dX2_init_4 : decode cX2_init 4 = .ok (.aload_n 0, 1) := by decide +kernel
theorem dX2_init_5 : decode cX2_init 5 = .ok (.bipush 8, 2) := by decide +kernel
theorem dX2_init_7 : decode cX2_init 7 = .ok (.anewarray 9, 3) := by decide +kernel
theorem dX2_init_10 : decode cX2_init 10 = .ok (.putfield 11, 3) := by decide +kernel
theorem dX2_init_13 : decode cX2_init 13 = .ok (.aload_n 0, 1) := by decide +kernel
theorem dX2_init_14 : decode cX2_init 14 = .ok (.iconst 0, 1) := by decide +kernel
theorem dX2_init_15 : decode cX2_init 15 = .ok (.putfield 17, 3) := by decide +kernel
theorem dX2_init_18 : decode cX2_init 18 = .ok (.aload_n 0, 1) := by decide +kernel
theorem dX2_init_19 : decode cX2_init 19 = .ok (.iconst 0, 1) := by decide +kernel
theorem dX2_init_20 : decode cX2_init 20 = .ok (.putfield 21, 3) := by decide +kernel
theorem dX2_init_23 : decode cX2_init 23 = .ok (.iconst 0, 1) := by decide +kernel
theorem dX2_init_24 : decode cX2_init 24 = .ok (.istore_n 1, 1) := by decide +kernel
theorem dX2_init_25 : decode cX2_init 25 = .ok (.iload_n 1, 1) := by decide +kernel
theorem dX2_init_26 : decode cX2_init 26 = .ok (.bipush 8, 2) := by decide +kernel
theorem dX2_init_28 : decode cX2_init 28 = .ok (.if_icmp .ge 22, 3) := by decide +kernel
theorem dX2_init_31 : decode cX2_init 31 = .ok (.aload_n 0, 1) := by decide +kernel
theorem dX2_init_32 : decode cX2_init 32 = .ok (.getfield 11, 3) := by decide +kernel
theorem dX2_init_35 : decode cX2_init 35 = .ok (.iload_n 1, 1) := by decide +kernel
theorem dX2_init_36 : decode cX2_init 36 = .ok (.new 9, 3) := by decide +kernel
theorem dX2_init_39 : decode cX2_init 39 = .ok (.dup, 1) := by decide +kernel
theorem dX2_init_40 : decode cX2_init 40 = .ok (.invokespecial 24, 3) := by decide +kernel
theorem dX2_init_43 : decode cX2_init 43 = .ok (.aastore, 1) := by decide +kernel
theorem dX2_init_44 : decode cX2_init 44 = .ok (.iinc 1 1, 3) := by decide +kernel
theorem dX2_init_47 : decode cX2_init 47 = .ok (.goto (-22), 3) := by decide +kernel
theorem dX2_init_50 : decode cX2_init 50 = .ok (.return_, 1) := by decide +kernel
theorem dX2_remember_0 : decode cX2_remember 0 = .ok (.aload_n 0, 1) := by decide +kernel
theorem dX2_remember_1 : decode cX2_remember 1 = .ok (.getfield 11, 3) := by decide +kernel
theorem dX2_remember_4 : decode cX2_remember 4 = .ok (.aload_n 0, 1) := by decide +kernel
theorem dX2_remember_5 : decode cX2_remember 5 = .ok (.getfield 17, 3) := by decide +kernel
theorem dX2_remember_8 : decode cX2_remember 8 = .ok (.aaload, 1) := by decide +kernel
theorem dX2_remember_9 : decode cX2_remember 9 = .ok (.aload_n 1, 1) := by decide +kernel
theorem dX2_remember_10 : decode cX2_remember 10 = .ok (.invokevirtual 25, 3) := by decide +kernel
theorem dX2_remember_13 : decode cX2_remember 13 = .ok (.aload_n 0, 1) := by decide +kernel
theorem dX2_remember_14 : decode cX2_remember 14 = .ok (.aload_n 0, 1) := by decide +kernel
theorem dX2_remember_15 : decode cX2_remember 15 = .ok (.getfield 17, 3) := by decide +kernel
theorem dX2_remember_18 : decode cX2_remember 18 = .ok (.iconst 1, 1) := by decide +kernel
theorem dX2_remember_19 : decode cX2_remember 19 = .ok (.iadd, 1) := by decide +kernel
theorem dX2_remember_20 : decode cX2_remember 20 = .ok (.bipush 8, 2) := by decide +kernel
theorem dX2_remember_22 : decode cX2_remember 22 = .ok (.irem, 1) := by decide +kernel
theorem dX2_remember_23 : decode cX2_remember 23 = .ok (.putfield 17, 3) := by decide +kernel
theorem dX2_remember_26 : decode cX2_remember 26 = .ok (.aload_n 0, 1) := by decide +kernel
theorem dX2_remember_27 : decode cX2_remember 27 = .ok (.aload_n 0, 1) := by decide +kernel
theorem dX2_remember_28 : decode cX2_remember 28 = .ok (.getfield 21, 3) := by decide +kernel
theorem dX2_remember_31 : decode cX2_remember 31 = .ok (.iconst 1, 1) := by decide +kernel
theorem dX2_remember_32 : decode cX2_remember 32 = .ok (.iadd, 1) := by decide +kernel
theorem dX2_remember_33 : decode cX2_remember 33 = .ok (.bipush 8, 2) := by decide +kernel
theorem dX2_remember_35 : decode cX2_remember 35 = .ok (.invokestatic 29, 3) := by decide +kernel
theorem dX2_remember_38 : decode cX2_remember 38 = .ok (.putfield 21, 3) := by decide +kernel
theorem dX2_remember_41 : decode cX2_remember 41 = .ok (.return_, 1) := by decide +kernel
theorem dX2_giveBack_0 : decode cX2_giveBack 0 = .ok (.aload_n 0, 1) := by decide +kernel
theorem dX2_giveBack_1 : decode cX2_giveBack 1 = .ok (.aload_n 0, 1) := by decide +kernel
theorem dX2_giveBack_2 : decode cX2_giveBack 2 = .ok (.getfield 17, 3) := by decide +kernel
theorem dX2_giveBack_5 : decode cX2_giveBack 5 = .ok (.bipush 8, 2) := by decide +kernel
theorem dX2_giveBack_7 : decode cX2_giveBack 7 = .ok (.iadd, 1) := by decide +kernel
theorem dX2_giveBack_8 : decode cX2_giveBack 8 = .ok (.iconst 1, 1) := by decide +kernel
theorem dX2_giveBack_9 : decode cX2_giveBack 9 = .ok (.isub, 1) := by decide +kernel
theorem dX2_giveBack_10 : decode cX2_giveBack 10 = .ok (.bipush 8, 2) := by decide +kernel
theorem dX2_giveBack_12 : decode cX2_giveBack 12 = .ok (.irem, 1) := by decide +kernel
theorem dX2_giveBack_13 : decode cX2_giveBack 13 = .ok (.putfield 17, 3) := by decide +kernel
theorem dX2_giveBack_16 : decode cX2_giveBack 16 = .ok (.aload_n 0, 1) := by decide +kernel
theorem dX2_giveBack_17 : decode cX2_giveBack 17 = .ok (.dup, 1) := by decide +kernel
theorem dX2_giveBack_18 : decode cX2_giveBack 18 = .ok (.getfield 21, 3) := by decide +kernel
theorem dX2_giveBack_21 : decode cX2_giveBack 21 = .ok (.iconst 1, 1) := by decide +kernel
theorem dX2_giveBack_22 : decode cX2_giveBack 22 = .ok (.isub, 1) := by decide +kernel
theorem dX2_giveBack_23 : decode cX2_giveBack 23 = .ok (.putfield 21, 3) := by decide +kernel
theorem dX2_giveBack_26 : decode cX2_giveBack 26 = .ok (.aload_n 1, 1) := by decide +kernel
theorem dX2_giveBack_27 : decode cX2_giveBack 27 = .ok (.aload_n 0, 1) := by decide +kernel
theorem dX2_giveBack_28 : decode cX2_giveBack 28 = .ok (.getfield 11, 3) := by decide +kernel
theorem dX2_giveBack_31 : decode cX2_giveBack 31 = .ok (.aload_n 0, 1) := by decide +kernel
theorem dX2_giveBack_32 : decode cX2_giveBack 32 = .ok (.getfield 17, 3) := by decide +kernel
theorem dX2_giveBack_35 : decode cX2_giveBack 35 = .ok (.aaload, 1) := by decide +kernel
theorem dX2_giveBack_36 : decode cX2_giveBack 36 = .ok (.invokevirtual 25, 3) := by decide +kernel
theorem dX2_giveBack_39 : decode cX2_giveBack 39 = .ok (.return_, 1) := by decide +kernel
theorem dX2_forget_0 : decode cX2_forget 0 = .ok (.aload_n 0, 1) := by decide +kernel
theorem dX2_forget_1 : decode cX2_forget 1 = .ok (.iconst 0, 1) := by decide +kernel
theorem dX2_forget_2 : decode cX2_forget 2 = .ok (.putfield 21, 3) := by decide +kernel
theorem dX2_forget_5 : decode cX2_forget 5 = .ok (.return_, 1) := by decide +kernel
theorem dX3_init_0 : decode cX3_init 0 = .ok (.aload_n 0, 1) := by decide +kernel
theorem dX3_init_1 : decode cX3_init 1 = .ok (.invokespecial 3, 3) := by decide +kernel
theorem dX3_init_4 : decode cX3_init 4 = .ok (.aload_n 0, 1) := by decide +kernel
theorem dX3_init_5 : decode cX3_init 5 = .ok (.iconst 0, 1) := by decide +kernel
theorem dX3_init_6 : decode cX3_init 6 = .ok (.putfield 9, 3) := by decide +kernel
theorem dX3_init_9 : decode cX3_init 9 = .ok (.aload_n 0, 1) := by decide +kernel
theorem dX3_init_10 : decode cX3_init 10 = .ok (.iconst 0, 1) := by decide +kernel
theorem dX3_init_11 : decode cX3_init 11 = .ok (.putfield 15, 3) := by decide +kernel
theorem dX3_init_14 : decode cX3_init 14 = .ok (.return_, 1) := by decide +kernel
theorem dX3_tell_0 : decode cX3_tell 0 = .ok (.aload_n 0, 1) := by decide +kernel
theorem dX3_tell_1 : decode cX3_tell 1 = .ok (.iload_n 1, 1) := by decide +kernel
theorem dX3_tell_2 : decode cX3_tell 2 = .ok (.putfield 9, 3) := by decide +kernel
theorem dX3_tell_5 : decode cX3_tell 5 = .ok (.aload_n 0, 1) := by decide +kernel
theorem dX3_tell_6 : decode cX3_tell 6 = .ok (.iload_n 2, 1) := by decide +kernel
theorem dX3_tell_7 : decode cX3_tell 7 = .ok (.putfield 15, 3) := by decide +kernel
theorem dX3_tell_10 : decode cX3_tell 10 = .ok (.iload_n 1, 1) := by decide +kernel
theorem dX3_tell_11 : decode cX3_tell 11 = .ok (.ireturn, 1) := by decide +kernel
theorem dX3_judgePlan_0 : decode cX3_judgePlan 0 = .ok (.iconst 0, 1) := by decide +kernel
theorem dX3_judgePlan_1 : decode cX3_judgePlan 1 = .ok (.istore_n 3, 1) := by decide +kernel
theorem dX3_judgePlan_2 : decode cX3_judgePlan 2 = .ok (.iload_n 3, 1) := by decide +kernel
theorem dX3_judgePlan_3 : decode cX3_judgePlan 3 = .ok (.aload_n 1, 1) := by decide +kernel
theorem dX3_judgePlan_4 : decode cX3_judgePlan 4 = .ok (.getfield 18, 3) := by decide +kernel
theorem dX3_judgePlan_7 : decode cX3_judgePlan 7 = .ok (.if_icmp .ge 25, 3) := by decide +kernel
theorem dX3_judgePlan_10 : decode cX3_judgePlan 10 = .ok (.aload_n 2, 1) := by decide +kernel
theorem dX3_judgePlan_11 : decode cX3_judgePlan 11 = .ok (.getfield 23, 3) := by decide +kernel
theorem dX3_judgePlan_14 : decode cX3_judgePlan 14 = .ok (.iload_n 3, 1) := by decide +kernel
theorem dX3_judgePlan_15 : decode cX3_judgePlan 15 = .ok (.iaload, 1) := by decide +kernel
theorem dX3_judgePlan_16 : decode cX3_judgePlan 16 = .ok (.ifCond .ne 10, 3) := by decide +kernel
theorem dX3_judgePlan_19 : decode cX3_judgePlan 19 = .ok (.aload_n 0, 1) := by decide +kernel
theorem dX3_judgePlan_20 : decode cX3_judgePlan 20 = .ok (.iconst 1, 1) := by decide +kernel
theorem dX3_judgePlan_21 : decode cX3_judgePlan 21 = .ok (.iload_n 3, 1) := by decide +kernel
theorem dX3_judgePlan_22 : decode cX3_judgePlan 22 = .ok (.invokevirtual 29, 3) := by decide +kernel
theorem dX3_judgePlan_25 : decode cX3_judgePlan 25 = .ok (.ireturn, 1) := by decide +kernel
theorem dX3_judgePlan_26 : decode cX3_judgePlan 26 = .ok (.iinc 3 1, 3) := by decide +kernel
theorem dX3_judgePlan_29 : decode cX3_judgePlan 29 = .ok (.goto (-27), 3) := by decide +kernel
theorem dX3_judgePlan_32 : decode cX3_judgePlan 32 = .ok (.iconst 0, 1) := by decide +kernel
theorem dX3_judgePlan_33 : decode cX3_judgePlan 33 = .ok (.istore_n 3, 1) := by decide +kernel
theorem dX3_judgePlan_34 : decode cX3_judgePlan 34 = .ok (.iload_n 3, 1) := by decide +kernel
theorem dX3_judgePlan_35 : decode cX3_judgePlan 35 = .ok (.aload_n 1, 1) := by decide +kernel
theorem dX3_judgePlan_36 : decode cX3_judgePlan 36 = .ok (.getfield 18, 3) := by decide +kernel
theorem dX3_judgePlan_39 : decode cX3_judgePlan 39 = .ok (.if_icmp .ge 29, 3) := by decide +kernel
theorem dX3_judgePlan_42 : decode cX3_judgePlan 42 = .ok (.aload_n 1, 1) := by decide +kernel
theorem dX3_judgePlan_43 : decode cX3_judgePlan 43 = .ok (.aload_n 2, 1) := by decide +kernel
theorem dX3_judgePlan_44 : decode cX3_judgePlan 44 = .ok (.getfield 23, 3) := by decide +kernel
theorem dX3_judgePlan_47 : decode cX3_judgePlan 47 = .ok (.iload_n 3, 1) := by decide +kernel
theorem dX3_judgePlan_48 : decode cX3_judgePlan 48 = .ok (.iaload, 1) := by decide +kernel
theorem dX3_judgePlan_49 : decode cX3_judgePlan 49 = .ok (.invokevirtual 33, 3) := by decide +kernel
theorem dX3_judgePlan_52 : decode cX3_judgePlan 52 = .ok (.ifCond .ne 10, 3) := by decide +kernel
theorem dX3_judgePlan_55 : decode cX3_judgePlan 55 = .ok (.aload_n 0, 1) := by decide +kernel
theorem dX3_judgePlan_56 : decode cX3_judgePlan 56 = .ok (.iconst 2, 1) := by decide +kernel
theorem dX3_judgePlan_57 : decode cX3_judgePlan 57 = .ok (.iload_n 3, 1) := by decide +kernel
theorem dX3_judgePlan_58 : decode cX3_judgePlan 58 = .ok (.invokevirtual 29, 3) := by decide +kernel
theorem dX3_judgePlan_61 : decode cX3_judgePlan 61 = .ok (.ireturn, 1) := by decide +kernel
theorem dX3_judgePlan_62 : decode cX3_judgePlan 62 = .ok (.iinc 3 1, 3) := by decide +kernel
theorem dX3_judgePlan_65 : decode cX3_judgePlan 65 = .ok (.goto (-31), 3) := by decide +kernel
theorem dX3_judgePlan_68 : decode cX3_judgePlan 68 = .ok (.iconst 0, 1) := by decide +kernel
theorem dX3_judgePlan_69 : decode cX3_judgePlan 69 = .ok (.istore_n 3, 1) := by decide +kernel
theorem dX3_judgePlan_70 : decode cX3_judgePlan 70 = .ok (.iload_n 3, 1) := by decide +kernel
theorem dX3_judgePlan_71 : decode cX3_judgePlan 71 = .ok (.iconst 4, 1) := by decide +kernel
theorem dX3_judgePlan_72 : decode cX3_judgePlan 72 = .ok (.if_icmp .ge 28, 3) := by decide +kernel
theorem dX3_judgePlan_75 : decode cX3_judgePlan 75 = .ok (.aload_n 2, 1) := by decide +kernel
theorem dX3_judgePlan_76 : decode cX3_judgePlan 76 = .ok (.aload_n 1, 1) := by decide +kernel
theorem dX3_judgePlan_77 : decode cX3_judgePlan 77 = .ok (.iload_n 3, 1) := by decide +kernel
theorem dX3_judgePlan_78 : decode cX3_judgePlan 78 = .ok (.invokevirtual 37, 3) := by decide +kernel
theorem dX3_judgePlan_81 : decode cX3_judgePlan 81 = .ok (.invokevirtual 41, 3) := by decide +kernel
theorem dX3_judgePlan_84 : decode cX3_judgePlan 84 = .ok (.ifCond .eq 10, 3) := by decide +kernel
theorem dX3_judgePlan_87 : decode cX3_judgePlan 87 = .ok (.aload_n 0, 1) := by decide +kernel
theorem dX3_judgePlan_88 : decode cX3_judgePlan 88 = .ok (.iconst 3, 1) := by decide +kernel
theorem dX3_judgePlan_89 : decode cX3_judgePlan 89 = .ok (.iload_n 3, 1) := by decide +kernel
theorem dX3_judgePlan_90 : decode cX3_judgePlan 90 = .ok (.invokevirtual 29, 3) := by decide +kernel
theorem dX3_judgePlan_93 : decode cX3_judgePlan 93 = .ok (.ireturn, 1) := by decide +kernel
theorem dX3_judgePlan_94 : decode cX3_judgePlan 94 = .ok (.iinc 3 1, 3) := by decide +kernel
theorem dX3_judgePlan_97 : decode cX3_judgePlan 97 = .ok (.goto (-27), 3) := by decide +kernel
theorem dX3_judgePlan_100 : decode cX3_judgePlan 100 = .ok (.iconst 0, 1) := by decide +kernel
theorem dX3_judgePlan_101 : decode cX3_judgePlan 101 = .ok (.istore_n 3, 1) := by decide +kernel
theorem dX3_judgePlan_102 : decode cX3_judgePlan 102 = .ok (.iload_n 3, 1) := by decide +kernel
theorem dX3_judgePlan_103 : decode cX3_judgePlan 103 = .ok (.aload_n 1, 1) := by decide +kernel
theorem dX3_judgePlan_104 : decode cX3_judgePlan 104 = .ok (.getfield 18, 3) := by decide +kernel
theorem dX3_judgePlan_107 : decode cX3_judgePlan 107 = .ok (.if_icmp .ge 29, 3) := by decide +kernel
theorem dX3_judgePlan_110 : decode cX3_judgePlan 110 = .ok (.aload_n 1, 1) := by decide +kernel
theorem dX3_judgePlan_111 : decode cX3_judgePlan 111 = .ok (.aload_n 2, 1) := by decide +kernel
theorem dX3_judgePlan_112 : decode cX3_judgePlan 112 = .ok (.getfield 23, 3) := by decide +kernel
theorem dX3_judgePlan_115 : decode cX3_judgePlan 115 = .ok (.iload_n 3, 1) := by decide +kernel
theorem dX3_judgePlan_116 : decode cX3_judgePlan 116 = .ok (.iaload, 1) := by decide +kernel
theorem dX3_judgePlan_117 : decode cX3_judgePlan 117 = .ok (.invokevirtual 44, 3) := by decide +kernel
theorem dX3_judgePlan_120 : decode cX3_judgePlan 120 = .ok (.ifCond .ne 10, 3) := by decide +kernel
theorem dX3_judgePlan_123 : decode cX3_judgePlan 123 = .ok (.aload_n 0, 1) := by decide +kernel
theorem dX3_judgePlan_124 : decode cX3_judgePlan 124 = .ok (.iconst 4, 1) := by decide +kernel
theorem dX3_judgePlan_125 : decode cX3_judgePlan 125 = .ok (.iload_n 3, 1) := by decide +kernel
theorem dX3_judgePlan_126 : decode cX3_judgePlan 126 = .ok (.invokevirtual 29, 3) := by decide +kernel
theorem dX3_judgePlan_129 : decode cX3_judgePlan 129 = .ok (.ireturn, 1) := by decide +kernel
theorem dX3_judgePlan_130 : decode cX3_judgePlan 130 = .ok (.iinc 3 1, 3) := by decide +kernel
theorem dX3_judgePlan_133 : decode cX3_judgePlan 133 = .ok (.goto (-31), 3) := by decide +kernel
theorem dX3_judgePlan_136 : decode cX3_judgePlan 136 = .ok (.aload_n 0, 1) := by decide +kernel
theorem dX3_judgePlan_137 : decode cX3_judgePlan 137 = .ok (.iconst 0, 1) := by decide +kernel
theorem dX3_judgePlan_138 : decode cX3_judgePlan 138 = .ok (.iconst 0, 1) := by decide +kernel
theorem dX3_judgePlan_139 : decode cX3_judgePlan 139 = .ok (.invokevirtual 29, 3) := by decide +kernel
theorem dX3_judgePlan_142 : decode cX3_judgePlan 142 = .ok (.ireturn, 1) := by decide +kernel
theorem dX3_judgeMove_0 : decode cX3_judgeMove 0 = .ok (.aload_n 1, 1) := by decide +kernel
theorem dX3_judgeMove_1 : decode cX3_judgeMove 1 = .ok (.getfield 47, 3) := by decide +kernel
theorem dX3_judgeMove_4 : decode cX3_judgeMove 4 = .ok (.iload_n 2, 1) := by decide +kernel
theorem dX3_judgeMove_5 : decode cX3_judgeMove 5 = .ok (.iaload, 1) := by decide +kernel
theorem dX3_judgeMove_6 : decode cX3_judgeMove 6 = .ok (.aload_n 1, 1) := by decide +kernel
theorem dX3_judgeMove_7 : decode cX3_judgeMove 7 = .ok (.getfield 50, 3) := by decide +kernel
theorem dX3_judgeMove_10 : decode cX3_judgeMove 10 = .ok (.getfield 23, 3) := by decide +kernel
theorem dX3_judgeMove_13 : decode cX3_judgeMove 13 = .ok (.iload_n 3, 1) := by decide +kernel
theorem dX3_judgeMove_14 : decode cX3_judgeMove 14 = .ok (.iaload, 1) := by decide +kernel
theorem dX3_judgeMove_15 : decode cX3_judgeMove 15 = .ok (.iand, 1) := by decide +kernel
theorem dX3_judgeMove_16 : decode cX3_judgeMove 16 = .ok (.ifCond .ne 10, 3) := by decide +kernel
theorem dX3_judgeMove_19 : decode cX3_judgeMove 19 = .ok (.aload_n 0, 1) := by decide +kernel
theorem dX3_judgeMove_20 : decode cX3_judgeMove 20 = .ok (.iconst 5, 1) := by decide +kernel
theorem dX3_judgeMove_21 : decode cX3_judgeMove 21 = .ok (.iload_n 2, 1) := by decide +kernel
theorem dX3_judgeMove_22 : decode cX3_judgeMove 22 = .ok (.invokevirtual 29, 3) := by decide +kernel
theorem dX3_judgeMove_25 : decode cX3_judgeMove 25 = .ok (.ireturn, 1) := by decide +kernel
theorem dX3_judgeMove_26 : decode cX3_judgeMove 26 = .ok (.aload 4, 2) := by decide +kernel
theorem dX3_judgeMove_28 : decode cX3_judgeMove 28 = .ok (.aload_n 1, 1) := by decide +kernel
theorem dX3_judgeMove_29 : decode cX3_judgeMove 29 = .ok (.getfield 50, 3) := by decide +kernel
theorem dX3_judgeMove_32 : decode cX3_judgeMove 32 = .ok (.invokevirtual 54, 3) := by decide +kernel
theorem dX3_judgeMove_35 : decode cX3_judgeMove 35 = .ok (.aload 4, 2) := by decide +kernel
theorem dX3_judgeMove_37 : decode cX3_judgeMove 37 = .ok (.iload_n 2, 1) := by decide +kernel
theorem dX3_judgeMove_38 : decode cX3_judgeMove 38 = .ok (.iload_n 3, 1) := by decide +kernel
theorem dX3_judgeMove_39 : decode cX3_judgeMove 39 = .ok (.invokevirtual 58, 3) := by decide +kernel
theorem dX3_judgeMove_42 : decode cX3_judgeMove 42 = .ok (.aload_n 0, 1) := by decide +kernel
theorem dX3_judgeMove_43 : decode cX3_judgeMove 43 = .ok (.aload_n 1, 1) := by decide +kernel
theorem dX3_judgeMove_44 : decode cX3_judgeMove 44 = .ok (.aload 4, 2) := by decide +kernel
theorem dX3_judgeMove_46 : decode cX3_judgeMove 46 = .ok (.invokevirtual 62, 3) := by decide +kernel
theorem dX3_judgeMove_49 : decode cX3_judgeMove 49 = .ok (.ireturn, 1) := by decide +kernel
theorem dX3_judgeSwap_0 : decode cX3_judgeSwap 0 = .ok (.aload_n 1, 1) := by decide +kernel
theorem dX3_judgeSwap_1 : decode cX3_judgeSwap 1 = .ok (.getfield 50, 3) := by decide +kernel
theorem dX3_judgeSwap_4 : decode cX3_judgeSwap 4 = .ok (.getfield 66, 3) := by decide +kernel
theorem dX3_judgeSwap_7 : decode cX3_judgeSwap 7 = .ok (.iload_n 2, 1) := by decide +kernel
theorem dX3_judgeSwap_8 : decode cX3_judgeSwap 8 = .ok (.iaload, 1) := by decide +kernel
theorem dX3_judgeSwap_9 : decode cX3_judgeSwap 9 = .ok (.istore 5, 2) := by decide +kernel
theorem dX3_judgeSwap_11 : decode cX3_judgeSwap 11 = .ok (.aload_n 1, 1) := by decide +kernel
theorem dX3_judgeSwap_12 : decode cX3_judgeSwap 12 = .ok (.getfield 50, 3) := by decide +kernel
theorem dX3_judgeSwap_15 : decode cX3_judgeSwap 15 = .ok (.getfield 66, 3) := by decide +kernel
theorem dX3_judgeSwap_18 : decode cX3_judgeSwap 18 = .ok (.iload_n 3, 1) := by decide +kernel
theorem dX3_judgeSwap_19 : decode cX3_judgeSwap 19 = .ok (.iaload, 1) := by decide +kernel
theorem dX3_judgeSwap_20 : decode cX3_judgeSwap 20 = .ok (.istore 6, 2) := by decide +kernel
theorem dX3_judgeSwap_22 : decode cX3_judgeSwap 22 = .ok (.aload_n 1, 1) := by decide +kernel
theorem dX3_judgeSwap_23 : decode cX3_judgeSwap 23 = .ok (.getfield 47, 3) := by decide +kernel
theorem dX3_judgeSwap_26 : decode cX3_judgeSwap 26 = .ok (.iload_n 2, 1) := by decide +kernel
theorem dX3_judgeSwap_27 : decode cX3_judgeSwap 27 = .ok (.iaload, 1) := by decide +kernel
theorem dX3_judgeSwap_28 : decode cX3_judgeSwap 28 = .ok (.aload_n 1, 1) := by decide +kernel
theorem dX3_judgeSwap_29 : decode cX3_judgeSwap 29 = .ok (.getfield 50, 3) := by decide +kernel
theorem dX3_judgeSwap_32 : decode cX3_judgeSwap 32 = .ok (.getfield 23, 3) := by decide +kernel
theorem dX3_judgeSwap_35 : decode cX3_judgeSwap 35 = .ok (.iload 6, 2) := by decide +kernel
theorem dX3_judgeSwap_37 : decode cX3_judgeSwap 37 = .ok (.iaload, 1) := by decide +kernel
theorem dX3_judgeSwap_38 : decode cX3_judgeSwap 38 = .ok (.iand, 1) := by decide +kernel
theorem dX3_judgeSwap_39 : decode cX3_judgeSwap 39 = .ok (.ifCond .ne 10, 3) := by decide +kernel
theorem dX3_judgeSwap_42 : decode cX3_judgeSwap 42 = .ok (.aload_n 0, 1) := by decide +kernel
theorem dX3_judgeSwap_43 : decode cX3_judgeSwap 43 = .ok (.iconst 5, 1) := by decide +kernel
theorem dX3_judgeSwap_44 : decode cX3_judgeSwap 44 = .ok (.iload_n 2, 1) := by decide +kernel
theorem dX3_judgeSwap_45 : decode cX3_judgeSwap 45 = .ok (.invokevirtual 29, 3) := by decide +kernel
theorem dX3_judgeSwap_48 : decode cX3_judgeSwap 48 = .ok (.ireturn, 1) := by decide +kernel
theorem dX3_judgeSwap_49 : decode cX3_judgeSwap 49 = .ok (.aload_n 1, 1) := by decide +kernel
theorem dX3_judgeSwap_50 : decode cX3_judgeSwap 50 = .ok (.getfield 47, 3) := by decide +kernel
theorem dX3_judgeSwap_53 : decode cX3_judgeSwap 53 = .ok (.iload_n 3, 1) := by decide +kernel
theorem dX3_judgeSwap_54 : decode cX3_judgeSwap 54 = .ok (.iaload, 1) := by decide +kernel
theorem dX3_judgeSwap_55 : decode cX3_judgeSwap 55 = .ok (.aload_n 1, 1) := by decide +kernel
theorem dX3_judgeSwap_56 : decode cX3_judgeSwap 56 = .ok (.getfield 50, 3) := by decide +kernel
theorem dX3_judgeSwap_59 : decode cX3_judgeSwap 59 = .ok (.getfield 23, 3) := by decide +kernel
theorem dX3_judgeSwap_62 : decode cX3_judgeSwap 62 = .ok (.iload 5, 2) := by decide +kernel
theorem dX3_judgeSwap_64 : decode cX3_judgeSwap 64 = .ok (.iaload, 1) := by decide +kernel
theorem dX3_judgeSwap_65 : decode cX3_judgeSwap 65 = .ok (.iand, 1) := by decide +kernel
theorem dX3_judgeSwap_66 : decode cX3_judgeSwap 66 = .ok (.ifCond .ne 10, 3) := by decide +kernel
theorem dX3_judgeSwap_69 : decode cX3_judgeSwap 69 = .ok (.aload_n 0, 1) := by decide +kernel
theorem dX3_judgeSwap_70 : decode cX3_judgeSwap 70 = .ok (.iconst 5, 1) := by decide +kernel
theorem dX3_judgeSwap_71 : decode cX3_judgeSwap 71 = .ok (.iload_n 3, 1) := by decide +kernel
theorem dX3_judgeSwap_72 : decode cX3_judgeSwap 72 = .ok (.invokevirtual 29, 3) := by decide +kernel
theorem dX3_judgeSwap_75 : decode cX3_judgeSwap 75 = .ok (.ireturn, 1) := by decide +kernel
theorem dX3_judgeSwap_76 : decode cX3_judgeSwap 76 = .ok (.aload 4, 2) := by decide +kernel
theorem dX3_judgeSwap_78 : decode cX3_judgeSwap 78 = .ok (.aload_n 1, 1) := by decide +kernel
theorem dX3_judgeSwap_79 : decode cX3_judgeSwap 79 = .ok (.getfield 50, 3) := by decide +kernel
theorem dX3_judgeSwap_82 : decode cX3_judgeSwap 82 = .ok (.invokevirtual 54, 3) := by decide +kernel
theorem dX3_judgeSwap_85 : decode cX3_judgeSwap 85 = .ok (.aload 4, 2) := by decide +kernel
theorem dX3_judgeSwap_87 : decode cX3_judgeSwap 87 = .ok (.iload_n 2, 1) := by decide +kernel
theorem dX3_judgeSwap_88 : decode cX3_judgeSwap 88 = .ok (.iload 6, 2) := by decide +kernel
theorem dX3_judgeSwap_90 : decode cX3_judgeSwap 90 = .ok (.invokevirtual 58, 3) := by decide +kernel
theorem dX3_judgeSwap_93 : decode cX3_judgeSwap 93 = .ok (.aload 4, 2) := by decide +kernel
theorem dX3_judgeSwap_95 : decode cX3_judgeSwap 95 = .ok (.iload_n 3, 1) := by decide +kernel
theorem dX3_judgeSwap_96 : decode cX3_judgeSwap 96 = .ok (.iload 5, 2) := by decide +kernel
theorem dX3_judgeSwap_98 : decode cX3_judgeSwap 98 = .ok (.invokevirtual 58, 3) := by decide +kernel
theorem dX3_judgeSwap_101 : decode cX3_judgeSwap 101 = .ok (.aload_n 0, 1) := by decide +kernel
theorem dX3_judgeSwap_102 : decode cX3_judgeSwap 102 = .ok (.aload_n 1, 1) := by decide +kernel
theorem dX3_judgeSwap_103 : decode cX3_judgeSwap 103 = .ok (.aload 4, 2) := by decide +kernel
theorem dX3_judgeSwap_105 : decode cX3_judgeSwap 105 = .ok (.invokevirtual 62, 3) := by decide +kernel
theorem dX3_judgeSwap_108 : decode cX3_judgeSwap 108 = .ok (.ireturn, 1) := by decide +kernel
theorem dX4_init_0 : decode cX4_init 0 = .ok (.aload_n 0, 1) := by decide +kernel
theorem dX4_init_1 : decode cX4_init 1 = .ok (.invokespecial 3, 3) := by decide +kernel
theorem dX4_init_4 : decode cX4_init 4 = .ok (.aload_n 0, 1) := by decide +kernel
theorem dX4_init_5 : decode cX4_init 5 = .ok (.bipush 12, 2) := by decide +kernel
theorem dX4_init_7 : decode cX4_init 7 = .ok (.newarray .int, 2) := by decide +kernel
theorem dX4_init_9 : decode cX4_init 9 = .ok (.putfield 9, 3) := by decide +kernel
theorem dX4_init_12 : decode cX4_init 12 = .ok (.aload_n 0, 1) := by decide +kernel
theorem dX4_init_13 : decode cX4_init 13 = .ok (.iconst 4, 1) := by decide +kernel
theorem dX4_init_14 : decode cX4_init 14 = .ok (.newarray .int, 2) := by decide +kernel
theorem dX4_init_16 : decode cX4_init 16 = .ok (.putfield 15, 3) := by decide +kernel
theorem dX4_init_19 : decode cX4_init 19 = .ok (.return_, 1) := by decide +kernel
theorem dX4_clear_0 : decode cX4_clear 0 = .ok (.aload_n 0, 1) := by decide +kernel
theorem dX4_clear_1 : decode cX4_clear 1 = .ok (.getfield 9, 3) := by decide +kernel
theorem dX4_clear_4 : decode cX4_clear 4 = .ok (.iconst 0, 1) := by decide +kernel
theorem dX4_clear_5 : decode cX4_clear 5 = .ok (.invokestatic 18, 3) := by decide +kernel
theorem dX4_clear_8 : decode cX4_clear 8 = .ok (.aload_n 0, 1) := by decide +kernel
theorem dX4_clear_9 : decode cX4_clear 9 = .ok (.getfield 15, 3) := by decide +kernel
theorem dX4_clear_12 : decode cX4_clear 12 = .ok (.iconst 0, 1) := by decide +kernel
theorem dX4_clear_13 : decode cX4_clear 13 = .ok (.invokestatic 18, 3) := by decide +kernel
theorem dX4_clear_16 : decode cX4_clear 16 = .ok (.return_, 1) := by decide +kernel
theorem dX4_copyFrom_0 : decode cX4_copyFrom 0 = .ok (.aload_n 1, 1) := by decide +kernel
theorem dX4_copyFrom_1 : decode cX4_copyFrom 1 = .ok (.getfield 9, 3) := by decide +kernel
theorem dX4_copyFrom_4 : decode cX4_copyFrom 4 = .ok (.iconst 0, 1) := by decide +kernel
theorem dX4_copyFrom_5 : decode cX4_copyFrom 5 = .ok (.aload_n 0, 1) := by decide +kernel
theorem dX4_copyFrom_6 : decode cX4_copyFrom 6 = .ok (.getfield 9, 3) := by decide +kernel
theorem dX4_copyFrom_9 : decode cX4_copyFrom 9 = .ok (.iconst 0, 1) := by decide +kernel
theorem dX4_copyFrom_10 : decode cX4_copyFrom 10 = .ok (.bipush 12, 2) := by decide +kernel
theorem dX4_copyFrom_12 : decode cX4_copyFrom 12 = .ok (.invokestatic 24, 3) := by decide +kernel
theorem dX4_copyFrom_15 : decode cX4_copyFrom 15 = .ok (.aload_n 1, 1) := by decide +kernel
theorem dX4_copyFrom_16 : decode cX4_copyFrom 16 = .ok (.getfield 15, 3) := by decide +kernel
theorem dX4_copyFrom_19 : decode cX4_copyFrom 19 = .ok (.iconst 0, 1) := by decide +kernel
theorem dX4_copyFrom_20 : decode cX4_copyFrom 20 = .ok (.aload_n 0, 1) := by decide +kernel
theorem dX4_copyFrom_21 : decode cX4_copyFrom 21 = .ok (.getfield 15, 3) := by decide +kernel
theorem dX4_copyFrom_24 : decode cX4_copyFrom 24 = .ok (.iconst 0, 1) := by decide +kernel
theorem dX4_copyFrom_25 : decode cX4_copyFrom 25 = .ok (.iconst 4, 1) := by decide +kernel
theorem dX4_copyFrom_26 : decode cX4_copyFrom 26 = .ok (.invokestatic 24, 3) := by decide +kernel
theorem dX4_copyFrom_29 : decode cX4_copyFrom 29 = .ok (.return_, 1) := by decide +kernel
theorem dX4_give_0 : decode cX4_give 0 = .ok (.aload_n 0, 1) := by decide +kernel
theorem dX4_give_1 : decode cX4_give 1 = .ok (.getfield 15, 3) := by decide +kernel
theorem dX4_give_4 : decode cX4_give 4 = .ok (.aload_n 0, 1) := by decide +kernel
theorem dX4_give_5 : decode cX4_give 5 = .ok (.getfield 9, 3) := by decide +kernel
theorem dX4_give_8 : decode cX4_give 8 = .ok (.iload_n 1, 1) := by decide +kernel
theorem dX4_give_9 : decode cX4_give 9 = .ok (.iaload, 1) := by decide +kernel
theorem dX4_give_10 : decode cX4_give 10 = .ok (.dup2, 1) := by decide +kernel
theorem dX4_give_11 : decode cX4_give 11 = .ok (.iaload, 1) := by decide +kernel
theorem dX4_give_12 : decode cX4_give 12 = .ok (.iconst 1, 1) := by decide +kernel
theorem dX4_give_13 : decode cX4_give 13 = .ok (.iload_n 1, 1) := by decide +kernel
theorem dX4_give_14 : decode cX4_give 14 = .ok (.ishl, 1) := by decide +kernel
theorem dX4_give_15 : decode cX4_give 15 = .ok (.iconst (-1), 1) := by decide +kernel
theorem dX4_give_16 : decode cX4_give 16 = .ok (.ixor, 1) := by decide +kernel
theorem dX4_give_17 : decode cX4_give 17 = .ok (.iand, 1) := by decide +kernel
theorem dX4_give_18 : decode cX4_give 18 = .ok (.iastore, 1) := by decide +kernel
theorem dX4_give_19 : decode cX4_give 19 = .ok (.aload_n 0, 1) := by decide +kernel
theorem dX4_give_20 : decode cX4_give 20 = .ok (.getfield 9, 3) := by decide +kernel
theorem dX4_give_23 : decode cX4_give 23 = .ok (.iload_n 1, 1) := by decide +kernel
theorem dX4_give_24 : decode cX4_give 24 = .ok (.iload_n 2, 1) := by decide +kernel
theorem dX4_give_25 : decode cX4_give 25 = .ok (.iastore, 1) := by decide +kernel
theorem dX4_give_26 : decode cX4_give 26 = .ok (.aload_n 0, 1) := by decide +kernel
theorem dX4_give_27 : decode cX4_give 27 = .ok (.getfield 15, 3) := by decide +kernel
theorem dX4_give_30 : decode cX4_give 30 = .ok (.iload_n 2, 1) := by decide +kernel
theorem dX4_give_31 : decode cX4_give 31 = .ok (.dup2, 1) := by decide +kernel
theorem dX4_give_32 : decode cX4_give 32 = .ok (.iaload, 1) := by decide +kernel
theorem dX4_give_33 : decode cX4_give 33 = .ok (.iconst 1, 1) := by decide +kernel
theorem dX4_give_34 : decode cX4_give 34 = .ok (.iload_n 1, 1) := by decide +kernel
theorem dX4_give_35 : decode cX4_give 35 = .ok (.ishl, 1) := by decide +kernel
theorem dX4_give_36 : decode cX4_give 36 = .ok (.ior, 1) := by decide +kernel
theorem dX4_give_37 : decode cX4_give 37 = .ok (.iastore, 1) := by decide +kernel
theorem dX4_give_38 : decode cX4_give 38 = .ok (.return_, 1) := by decide +kernel
theorem dX4_splits_0 : decode cX4_splits 0 = .ok (.iconst 0, 1) := by decide +kernel
theorem dX4_splits_1 : decode cX4_splits 1 = .ok (.istore_n 2, 1) := by decide +kernel
theorem dX4_splits_2 : decode cX4_splits 2 = .ok (.iload_n 2, 1) := by decide +kernel
theorem dX4_splits_3 : decode cX4_splits 3 = .ok (.iconst 4, 1) := by decide +kernel
theorem dX4_splits_4 : decode cX4_splits 4 = .ok (.if_icmp .ge 29, 3) := by decide +kernel
theorem dX4_splits_7 : decode cX4_splits 7 = .ok (.aload_n 0, 1) := by decide +kernel
theorem dX4_splits_8 : decode cX4_splits 8 = .ok (.getfield 15, 3) := by decide +kernel
theorem dX4_splits_11 : decode cX4_splits 11 = .ok (.iload_n 2, 1) := by decide +kernel
theorem dX4_splits_12 : decode cX4_splits 12 = .ok (.iaload, 1) := by decide +kernel
theorem dX4_splits_13 : decode cX4_splits 13 = .ok (.iload_n 1, 1) := by decide +kernel
theorem dX4_splits_14 : decode cX4_splits 14 = .ok (.iand, 1) := by decide +kernel
theorem dX4_splits_15 : decode cX4_splits 15 = .ok (.istore_n 3, 1) := by decide +kernel
theorem dX4_splits_16 : decode cX4_splits 16 = .ok (.iload_n 3, 1) := by decide +kernel
theorem dX4_splits_17 : decode cX4_splits 17 = .ok (.ifCond .eq 10, 3) := by decide +kernel
theorem dX4_splits_20 : decode cX4_splits 20 = .ok (.iload_n 3, 1) := by decide +kernel
theorem dX4_splits_21 : decode cX4_splits 21 = .ok (.iload_n 1, 1) := by decide +kernel
theorem dX4_splits_22 : decode cX4_splits 22 = .ok (.if_icmp .eq 5, 3) := by decide +kernel
theorem dX4_splits_25 : decode cX4_splits 25 = .ok (.iconst 1, 1) := by decide +kernel
theorem dX4_splits_26 : decode cX4_splits 26 = .ok (.ireturn, 1) := by decide +kernel
theorem dX4_splits_27 : decode cX4_splits 27 = .ok (.iinc 2 1, 3) := by decide +kernel
theorem dX4_splits_30 : decode cX4_splits 30 = .ok (.goto (-28), 3) := by decide +kernel
theorem dX4_splits_33 : decode cX4_splits 33 = .ok (.iconst 0, 1) := by decide +kernel
theorem dX4_splits_34 : decode cX4_splits 34 = .ok (.ireturn, 1) := by decide +kernel
theorem dX5_init_0 : decode cX5_init 0 = .ok (.aload_n 0, 1) := by decide +kernel
theorem dX5_init_1 : decode cX5_init 1 = .ok (.invokespecial 3, 3) := by decide +kernel
theorem dX5_init_4 : decode cX5_init 4 = .ok (.aload_n 0, 1) := by decide +kernel
theorem dX5_init_5 : decode cX5_init 5 = .ok (.iconst 4, 1) := by decide +kernel
theorem dX5_init_6 : decode cX5_init 6 = .ok (.newarray .int, 2) := by decide +kernel
theorem dX5_init_8 : decode cX5_init 8 = .ok (.putfield 9, 3) := by decide +kernel
theorem dX5_init_11 : decode cX5_init 11 = .ok (.aload_n 0, 1) := by decide +kernel
theorem dX5_init_12 : decode cX5_init 12 = .ok (.iconst 4, 1) := by decide +kernel
theorem dX5_init_13 : decode cX5_init 13 = .ok (.newarray .float, 2) := by decide +kernel
theorem dX5_init_15 : decode cX5_init 15 = .ok (.putfield 15, 3) := by decide +kernel
theorem dX5_init_18 : decode cX5_init 18 = .ok (.aload_n 0, 1) := by decide +kernel
theorem dX5_init_19 : decode cX5_init 19 = .ok (.iconst 0, 1) := by decide +kernel
theorem dX5_init_20 : decode cX5_init 20 = .ok (.putfield 19, 3) := by decide +kernel
theorem dX5_init_23 : decode cX5_init 23 = .ok (.aload_n 0, 1) := by decide +kernel
theorem dX5_init_24 : decode cX5_init 24 = .ok (.iconst 0, 1) := by decide +kernel
theorem dX5_init_25 : decode cX5_init 25 = .ok (.putfield 23, 3) := by decide +kernel
theorem dX5_init_28 : decode cX5_init 28 = .ok (.return_, 1) := by decide +kernel
theorem dX5_isMissing_0 : decode cX5_isMissing 0 = .ok (.aload_n 0, 1) := by decide +kernel
theorem dX5_isMissing_1 : decode cX5_isMissing 1 = .ok (.getfield 19, 3) := by decide +kernel
theorem dX5_isMissing_4 : decode cX5_isMissing 4 = .ok (.ifCond .ne 7, 3) := by decide +kernel
theorem dX5_isMissing_7 : decode cX5_isMissing 7 = .ok (.iconst 1, 1) := by decide +kernel
theorem dX5_isMissing_8 : decode cX5_isMissing 8 = .ok (.goto 4, 3) := by decide +kernel
theorem dX5_isMissing_11 : decode cX5_isMissing 11 = .ok (.iconst 0, 1) := by decide +kernel
theorem dX5_isMissing_12 : decode cX5_isMissing 12 = .ok (.ireturn, 1) := by decide +kernel
theorem dX5_takeFrom_0 : decode cX5_takeFrom 0 = .ok (.aload_n 0, 1) := by decide +kernel
theorem dX5_takeFrom_1 : decode cX5_takeFrom 1 = .ok (.aload_n 1, 1) := by decide +kernel
theorem dX5_takeFrom_2 : decode cX5_takeFrom 2 = .ok (.getfield 27, 3) := by decide +kernel
theorem dX5_takeFrom_5 : decode cX5_takeFrom 5 = .ok (.putfield 19, 3) := by decide +kernel
theorem dX5_takeFrom_8 : decode cX5_takeFrom 8 = .ok (.aload_n 0, 1) := by decide +kernel
theorem dX5_takeFrom_9 : decode cX5_takeFrom 9 = .ok (.iload_n 2, 1) := by decide +kernel
theorem dX5_takeFrom_10 : decode cX5_takeFrom 10 = .ok (.putfield 23, 3) := by decide +kernel
theorem dX5_takeFrom_13 : decode cX5_takeFrom 13 = .ok (.iconst 0, 1) := by decide +kernel
theorem dX5_takeFrom_14 : decode cX5_takeFrom 14 = .ok (.istore_n 3, 1) := by decide +kernel
theorem dX5_takeFrom_15 : decode cX5_takeFrom 15 = .ok (.iload_n 3, 1) := by decide +kernel
theorem dX5_takeFrom_16 : decode cX5_takeFrom 16 = .ok (.aload_n 0, 1) := by decide +kernel
theorem dX5_takeFrom_17 : decode cX5_takeFrom 17 = .ok (.getfield 19, 3) := by decide +kernel
theorem dX5_takeFrom_20 : decode cX5_takeFrom 20 = .ok (.if_icmp .ge 51, 3) := by decide +kernel
theorem dX5_takeFrom_23 : decode cX5_takeFrom 23 = .ok (.aload_n 1, 1) := by decide +kernel
theorem dX5_takeFrom_24 : decode cX5_takeFrom 24 = .ok (.getfield 32, 3) := by decide +kernel
theorem dX5_takeFrom_27 : decode cX5_takeFrom 27 = .ok (.getfield 36, 3) := by decide +kernel
theorem dX5_takeFrom_30 : decode cX5_takeFrom 30 = .ok (.iload_n 3, 1) := by decide +kernel
theorem dX5_takeFrom_31 : decode cX5_takeFrom 31 = .ok (.iaload, 1) := by decide +kernel
theorem dX5_takeFrom_32 : decode cX5_takeFrom 32 = .ok (.istore 4, 2) := by decide +kernel
theorem dX5_takeFrom_34 : decode cX5_takeFrom 34 = .ok (.iload_n 2, 1) := by decide +kernel
theorem dX5_takeFrom_35 : decode cX5_takeFrom 35 = .ok (.ifCond .eq 18, 3) := by decide +kernel
theorem dX5_takeFrom_38 : decode cX5_takeFrom 38 = .ok (.aload_n 0, 1) := by decide +kernel
theorem dX5_takeFrom_39 : decode cX5_takeFrom 39 = .ok (.getfield 9, 3) := by decide +kernel
theorem dX5_takeFrom_42 : decode cX5_takeFrom 42 = .ok (.iload_n 3, 1) := by decide +kernel
theorem dX5_takeFrom_43 : decode cX5_takeFrom 43 = .ok (.aload_n 1, 1) := by decide +kernel
theorem dX5_takeFrom_44 : decode cX5_takeFrom 44 = .ok (.iload 4, 2) := by decide +kernel
theorem dX5_takeFrom_46 : decode cX5_takeFrom 46 = .ok (.invokevirtual 41, 3) := by decide +kernel
theorem dX5_takeFrom_49 : decode cX5_takeFrom 49 = .ok (.iastore, 1) := by decide +kernel
theorem dX5_takeFrom_50 : decode cX5_takeFrom 50 = .ok (.goto 15, 3) := by decide +kernel
theorem dX5_takeFrom_53 : decode cX5_takeFrom 53 = .ok (.aload_n 0, 1) := by decide +kernel
theorem dX5_takeFrom_54 : decode cX5_takeFrom 54 = .ok (.getfield 15, 3) := by decide +kernel
theorem dX5_takeFrom_57 : decode cX5_takeFrom 57 = .ok (.iload_n 3, 1) := by decide +kernel
theorem dX5_takeFrom_58 : decode cX5_takeFrom 58 = .ok (.aload_n 1, 1) := by decide +kernel
theorem dX5_takeFrom_59 : decode cX5_takeFrom 59 = .ok (.iload 4, 2) := by decide +kernel
theorem dX5_takeFrom_61 : decode cX5_takeFrom 61 = .ok (.invokestatic 45, 3) := by decide +kernel
theorem dX5_takeFrom_64 : decode cX5_takeFrom 64 = .ok (.fastore, 1) := by decide +kernel
theorem dX5_takeFrom_65 : decode cX5_takeFrom 65 = .ok (.iinc 3 1, 3) := by decide +kernel
theorem dX5_takeFrom_68 : decode cX5_takeFrom 68 = .ok (.goto (-53), 3) := by decide +kernel
theorem dX5_takeFrom_71 : decode cX5_takeFrom 71 = .ok (.return_, 1) := by decide +kernel
theorem dX5_takeElements_0 : decode cX5_takeElements 0 = .ok (.aload_n 0, 1) := by decide +kernel
theorem dX5_takeElements_1 : decode cX5_takeElements 1 = .ok (.getfield 23, 3) := by decide +kernel
theorem dX5_takeElements_4 : decode cX5_takeElements 4 = .ok (.ifCond .eq 20, 3) := by decide +kernel
theorem dX5_takeElements_7 : decode cX5_takeElements 7 = .ok (.aload_n 1, 1) := by decide +kernel
theorem dX5_takeElements_8 : decode cX5_takeElements 8 = .ok (.getfield 9, 3) := by decide +kernel
theorem dX5_takeElements_11 : decode cX5_takeElements 11 = .ok (.iconst 0, 1) := by decide +kernel
theorem dX5_takeElements_12 : decode cX5_takeElements 12 = .ok (.aload_n 0, 1) := by decide +kernel
theorem dX5_takeElements_13 : decode cX5_takeElements 13 = .ok (.getfield 9, 3) := by decide +kernel
theorem dX5_takeElements_16 : decode cX5_takeElements 16 = .ok (.iconst 0, 1) := by decide +kernel
theorem dX5_takeElements_17 : decode cX5_takeElements 17 = .ok (.iload_n 2, 1) := by decide +kernel
theorem dX5_takeElements_18 : decode cX5_takeElements 18 = .ok (.invokestatic 51, 3) := by decide +kernel
theorem dX5_takeElements_21 : decode cX5_takeElements 21 = .ok (.goto 17, 3) := by decide +kernel
theorem dX5_takeElements_24 : decode cX5_takeElements 24 = .ok (.aload_n 1, 1) := by decide +kernel
theorem dX5_takeElements_25 : decode cX5_takeElements 25 = .ok (.getfield 15, 3) := by decide +kernel
theorem dX5_takeElements_28 : decode cX5_takeElements 28 = .ok (.iconst 0, 1) := by decide +kernel
theorem dX5_takeElements_29 : decode cX5_takeElements 29 = .ok (.aload_n 0, 1) := by decide +kernel
theorem dX5_takeElements_30 : decode cX5_takeElements 30 = .ok (.getfield 15, 3) := by decide +kernel
theorem dX5_takeElements_33 : decode cX5_takeElements 33 = .ok (.iconst 0, 1) := by decide +kernel
theorem dX5_takeElements_34 : decode cX5_takeElements 34 = .ok (.iload_n 2, 1) := by decide +kernel
theorem dX5_takeElements_35 : decode cX5_takeElements 35 = .ok (.invokestatic 51, 3) := by decide +kernel
theorem dX5_takeElements_38 : decode cX5_takeElements 38 = .ok (.return_, 1) := by decide +kernel
theorem dX5_sum_0 : decode cX5_sum 0 = .ok (.iconst 0, 1) := by decide +kernel
theorem dX5_sum_1 : decode cX5_sum 1 = .ok (.istore_n 1, 1) := by decide +kernel
theorem dX5_sum_2 : decode cX5_sum 2 = .ok (.iconst 0, 1) := by decide +kernel
theorem dX5_sum_3 : decode cX5_sum 3 = .ok (.istore_n 2, 1) := by decide +kernel
theorem dX5_sum_4 : decode cX5_sum 4 = .ok (.iload_n 2, 1) := by decide +kernel
theorem dX5_sum_5 : decode cX5_sum 5 = .ok (.aload_n 0, 1) := by decide +kernel
theorem dX5_sum_6 : decode cX5_sum 6 = .ok (.getfield 19, 3) := by decide +kernel
theorem dX5_sum_9 : decode cX5_sum 9 = .ok (.if_icmp .ge 35, 3) := by decide +kernel
theorem dX5_sum_12 : decode cX5_sum 12 = .ok (.iload_n 1, 1) := by decide +kernel
theorem dX5_sum_13 : decode cX5_sum 13 = .ok (.aload_n 0, 1) := by decide +kernel
theorem dX5_sum_14 : decode cX5_sum 14 = .ok (.getfield 23, 3) := by decide +kernel
theorem dX5_sum_17 : decode cX5_sum 17 = .ok (.ifCond .eq 12, 3) := by decide +kernel
theorem dX5_sum_20 : decode cX5_sum 20 = .ok (.aload_n 0, 1) := by decide +kernel
theorem dX5_sum_21 : decode cX5_sum 21 = .ok (.getfield 9, 3) := by decide +kernel
theorem dX5_sum_24 : decode cX5_sum 24 = .ok (.iload_n 2, 1) := by decide +kernel
theorem dX5_sum_25 : decode cX5_sum 25 = .ok (.iaload, 1) := by decide +kernel
theorem dX5_sum_26 : decode cX5_sum 26 = .ok (.goto 10, 3) := by decide +kernel
theorem dX5_sum_29 : decode cX5_sum 29 = .ok (.aload_n 0, 1) := by decide +kernel
theorem dX5_sum_30 : decode cX5_sum 30 = .ok (.getfield 15, 3) := by decide +kernel
theorem dX5_sum_33 : decode cX5_sum 33 = .ok (.iload_n 2, 1) := by decide +kernel
theorem dX5_sum_34 : decode cX5_sum 34 = .ok (.faload, 1) := by decide +kernel
theorem dX5_sum_35 : decode cX5_sum 35 = .ok (.f2i, 1) := by decide +kernel
theorem dX5_sum_36 : decode cX5_sum 36 = .ok (.iadd, 1) := by decide +kernel
theorem dX5_sum_37 : decode cX5_sum 37 = .ok (.istore_n 1, 1) := by decide +kernel
theorem dX5_sum_38 : decode cX5_sum 38 = .ok (.iinc 2 1, 3) := by decide +kernel
theorem dX5_sum_41 : decode cX5_sum 41 = .ok (.goto (-37), 3) := by decide +kernel
theorem dX5_sum_44 : decode cX5_sum 44 = .ok (.iload_n 1, 1) := by decide +kernel
theorem dX5_sum_45 : decode cX5_sum 45 = .ok (.ireturn, 1) := by decide +kernel
theorem dX5_element_0 : decode cX5_element 0 = .ok (.aload_n 0, 1) := by decide +kernel
theorem dX5_element_1 : decode cX5_element 1 = .ok (.getfield 23, 3) := by decide +kernel
theorem dX5_element_4 : decode cX5_element 4 = .ok (.ifCond .eq 13, 3) := by decide +kernel
theorem dX5_element_7 : decode cX5_element 7 = .ok (.aload_n 0, 1) := by decide +kernel
theorem dX5_element_8 : decode cX5_element 8 = .ok (.getfield 9, 3) := by decide +kernel
theorem dX5_element_11 : decode cX5_element 11 = .ok (.iload_n 1, 1) := by decide +kernel
theorem dX5_element_12 : decode cX5_element 12 = .ok (.iaload, 1) := by decide +kernel
theorem dX5_element_13 : decode cX5_element 13 = .ok (.i2f, 1) := by decide +kernel
theorem dX5_element_14 : decode cX5_element 14 = .ok (.goto 9, 3) := by decide +kernel
theorem dX5_element_17 : decode cX5_element 17 = .ok (.aload_n 0, 1) := by decide +kernel
theorem dX5_element_18 : decode cX5_element 18 = .ok (.getfield 15, 3) := by decide +kernel
theorem dX5_element_21 : decode cX5_element 21 = .ok (.iload_n 1, 1) := by decide +kernel
theorem dX5_element_22 : decode cX5_element 22 = .ok (.faload, 1) := by decide +kernel
theorem dX5_element_23 : decode cX5_element 23 = .ok (.freturn, 1) := by decide +kernel
theorem dX5_bitsOf_0 : decode cX5_bitsOf 0 = .ok (.fload_n 0, 1) := by decide +kernel
theorem dX5_bitsOf_1 : decode cX5_bitsOf 1 = .ok (.fconst 0, 1) := by decide +kernel
theorem dX5_bitsOf_2 : decode cX5_bitsOf 2 = .ok (.fcmp .g, 1) := by decide +kernel
theorem dX5_bitsOf_3 : decode cX5_bitsOf 3 = .ok (.ifCond .gt 5, 3) := by decide +kernel
theorem dX5_bitsOf_6 : decode cX5_bitsOf 6 = .ok (.iconst 0, 1) := by decide +kernel
theorem dX5_bitsOf_7 : decode cX5_bitsOf 7 = .ok (.ireturn, 1) := by decide +kernel
theorem dX5_bitsOf_8 : decode cX5_bitsOf 8 = .ok (.fload_n 0, 1) := by decide +kernel
theorem dX5_bitsOf_9 : decode cX5_bitsOf 9 = .ok (.fstore_n 1, 1) := by decide +kernel
theorem dX5_bitsOf_10 : decode cX5_bitsOf 10 = .ok (.bipush 127, 2) := by decide +kernel
theorem dX5_bitsOf_12 : decode cX5_bitsOf 12 = .ok (.istore_n 2, 1) := by decide +kernel
theorem dX5_bitsOf_13 : decode cX5_bitsOf 13 = .ok (.iconst 0, 1) := by decide +kernel
theorem dX5_bitsOf_14 : decode cX5_bitsOf 14 = .ok (.istore_n 3, 1) := by decide +kernel
theorem dX5_bitsOf_15 : decode cX5_bitsOf 15 = .ok (.iload_n 3, 1) := by decide +kernel
theorem dX5_bitsOf_16 : decode cX5_bitsOf 16 = .ok (.bipush 126, 2) := by decide +kernel
theorem dX5_bitsOf_18 : decode cX5_bitsOf 18 = .ok (.if_icmp .ge 22, 3) := by decide +kernel
theorem dX5_bitsOf_21 : decode cX5_bitsOf 21 = .ok (.fload_n 1, 1) := by decide +kernel
theorem dX5_bitsOf_22 : decode cX5_bitsOf 22 = .ok (.fconst 2, 1) := by decide +kernel
theorem dX5_bitsOf_23 : decode cX5_bitsOf 23 = .ok (.fcmp .l, 1) := by decide +kernel
theorem dX5_bitsOf_24 : decode cX5_bitsOf 24 = .ok (.ifCond .lt 16, 3) := by decide +kernel
theorem dX5_bitsOf_27 : decode cX5_bitsOf 27 = .ok (.fload_n 1, 1) := by decide +kernel
theorem dX5_bitsOf_28 : decode cX5_bitsOf 28 = .ok (.fconst 2, 1) := by decide +kernel
theorem dX5_bitsOf_29 : decode cX5_bitsOf 29 = .ok (.fdiv, 1) := by decide +kernel
theorem dX5_bitsOf_30 : decode cX5_bitsOf 30 = .ok (.fstore_n 1, 1) := by decide +kernel
theorem dX5_bitsOf_31 : decode cX5_bitsOf 31 = .ok (.iinc 2 1, 3) := by decide +kernel
theorem dX5_bitsOf_34 : decode cX5_bitsOf 34 = .ok (.iinc 3 1, 3) := by decide +kernel
theorem dX5_bitsOf_37 : decode cX5_bitsOf 37 = .ok (.goto (-22), 3) := by decide +kernel
theorem dX5_bitsOf_40 : decode cX5_bitsOf 40 = .ok (.iconst 0, 1) := by decide +kernel
theorem dX5_bitsOf_41 : decode cX5_bitsOf 41 = .ok (.istore_n 3, 1) := by decide +kernel
theorem dX5_bitsOf_42 : decode cX5_bitsOf 42 = .ok (.iload_n 3, 1) := by decide +kernel
theorem dX5_bitsOf_43 : decode cX5_bitsOf 43 = .ok (.bipush 126, 2) := by decide +kernel
theorem dX5_bitsOf_45 : decode cX5_bitsOf 45 = .ok (.if_icmp .ge 22, 3) := by decide +kernel
theorem dX5_bitsOf_48 : decode cX5_bitsOf 48 = .ok (.fload_n 1, 1) := by decide +kernel
theorem dX5_bitsOf_49 : decode cX5_bitsOf 49 = .ok (.fconst 1, 1) := by decide +kernel
theorem dX5_bitsOf_50 : decode cX5_bitsOf 50 = .ok (.fcmp .g, 1) := by decide +kernel
theorem dX5_bitsOf_51 : decode cX5_bitsOf 51 = .ok (.ifCond .ge 16, 3) := by decide +kernel
theorem dX5_bitsOf_54 : decode cX5_bitsOf 54 = .ok (.fload_n 1, 1) := by decide +kernel
theorem dX5_bitsOf_55 : decode cX5_bitsOf 55 = .ok (.fconst 2, 1) := by decide +kernel
theorem dX5_bitsOf_56 : decode cX5_bitsOf 56 = .ok (.fmul, 1) := by decide +kernel
theorem dX5_bitsOf_57 : decode cX5_bitsOf 57 = .ok (.fstore_n 1, 1) := by decide +kernel
theorem dX5_bitsOf_58 : decode cX5_bitsOf 58 = .ok (.iinc 2 (-1), 3) := by decide +kernel
theorem dX5_bitsOf_61 : decode cX5_bitsOf 61 = .ok (.iinc 3 1, 3) := by decide +kernel
theorem dX5_bitsOf_64 : decode cX5_bitsOf 64 = .ok (.goto (-22), 3) := by decide +kernel
theorem dX5_bitsOf_67 : decode cX5_bitsOf 67 = .ok (.fload_n 1, 1) := by decide +kernel
theorem dX5_bitsOf_68 : decode cX5_bitsOf 68 = .ok (.fconst 1, 1) := by decide +kernel
theorem dX5_bitsOf_69 : decode cX5_bitsOf 69 = .ok (.fsub, 1) := by decide +kernel
theorem dX5_bitsOf_70 : decode cX5_bitsOf 70 = .ok (.ldc 57, 2) := by decide +kernel
theorem dX5_bitsOf_72 : decode cX5_bitsOf 72 = .ok (.fmul, 1) := by decide +kernel
theorem dX5_bitsOf_73 : decode cX5_bitsOf 73 = .ok (.f2i, 1) := by decide +kernel
theorem dX5_bitsOf_74 : decode cX5_bitsOf 74 = .ok (.istore_n 3, 1) := by decide +kernel
theorem dX5_bitsOf_75 : decode cX5_bitsOf 75 = .ok (.iload_n 2, 1) := by decide +kernel
theorem dX5_bitsOf_76 : decode cX5_bitsOf 76 = .ok (.bipush 23, 2) := by decide +kernel
theorem dX5_bitsOf_78 : decode cX5_bitsOf 78 = .ok (.ishl, 1) := by decide +kernel
theorem dX5_bitsOf_79 : decode cX5_bitsOf 79 = .ok (.iload_n 3, 1) := by decide +kernel
theorem dX5_bitsOf_80 : decode cX5_bitsOf 80 = .ok (.iadd, 1) := by decide +kernel
theorem dX5_bitsOf_81 : decode cX5_bitsOf 81 = .ok (.ireturn, 1) := by decide +kernel
theorem dX6_weigh_0 : decode cX6_weigh 0 = .ok (.iload_n 2, 1) := by decide +kernel
theorem dX6_weigh_1 : decode cX6_weigh 1 = .ok (.tableswitch 64 0 2 #[27, 36, 50], 27) := by decide +kernel
theorem dX6_weigh_28 : decode cX6_weigh 28 = .ok (.aload_n 0, 1) := by decide +kernel
theorem dX6_weigh_29 : decode cX6_weigh 29 = .ok (.aload_n 1, 1) := by decide +kernel
theorem dX6_weigh_30 : decode cX6_weigh 30 = .ok (.aload_n 3, 1) := by decide +kernel
theorem dX6_weigh_31 : decode cX6_weigh 31 = .ok (.invokestatic 9, 3) := by decide +kernel
theorem dX6_weigh_34 : decode cX6_weigh 34 = .ok (.goto 50, 3) := by decide +kernel
theorem dX6_weigh_37 : decode cX6_weigh 37 = .ok (.aload_n 3, 1) := by decide +kernel
theorem dX6_weigh_38 : decode cX6_weigh 38 = .ok (.aload_n 0, 1) := by decide +kernel
theorem dX6_weigh_39 : decode cX6_weigh 39 = .ok (.aload_n 1, 1) := by decide +kernel
theorem dX6_weigh_40 : decode cX6_weigh 40 = .ok (.invokestatic 15, 3) := by decide +kernel
theorem dX6_weigh_43 : decode cX6_weigh 43 = .ok (.i2l, 1) := by decide +kernel
theorem dX6_weigh_44 : decode cX6_weigh 44 = .ok (.lconst 1, 1) := by decide +kernel
theorem dX6_weigh_45 : decode cX6_weigh 45 = .ok (.invokevirtual 19, 3) := by decide +kernel
theorem dX6_weigh_48 : decode cX6_weigh 48 = .ok (.goto 36, 3) := by decide +kernel
theorem dX6_weigh_51 : decode cX6_weigh 51 = .ok (.aload_n 3, 1) := by decide +kernel
theorem dX6_weigh_52 : decode cX6_weigh 52 = .ok (.aload_n 0, 1) := by decide +kernel
theorem dX6_weigh_53 : decode cX6_weigh 53 = .ok (.aload_n 1, 1) := by decide +kernel
theorem dX6_weigh_54 : decode cX6_weigh 54 = .ok (.invokestatic 25, 3) := by decide +kernel
theorem dX6_weigh_57 : decode cX6_weigh 57 = .ok (.i2l, 1) := by decide +kernel
theorem dX6_weigh_58 : decode cX6_weigh 58 = .ok (.lconst 1, 1) := by decide +kernel
theorem dX6_weigh_59 : decode cX6_weigh 59 = .ok (.invokevirtual 19, 3) := by decide +kernel
theorem dX6_weigh_62 : decode cX6_weigh 62 = .ok (.goto 22, 3) := by decide +kernel
theorem dX6_weigh_65 : decode cX6_weigh 65 = .ok (.aload_n 3, 1) := by decide +kernel
theorem dX6_weigh_66 : decode cX6_weigh 66 = .ok (.aload_n 0, 1) := by decide +kernel
theorem dX6_weigh_67 : decode cX6_weigh 67 = .ok (.aload_n 1, 1) := by decide +kernel
theorem dX6_weigh_68 : decode cX6_weigh 68 = .ok (.invokestatic 28, 3) := by decide +kernel
theorem dX6_weigh_71 : decode cX6_weigh 71 = .ok (.i2l, 1) := by decide +kernel
theorem dX6_weigh_72 : decode cX6_weigh 72 = .ok (.aload_n 0, 1) := by decide +kernel
theorem dX6_weigh_73 : decode cX6_weigh 73 = .ok (.aload_n 0, 1) := by decide +kernel
theorem dX6_weigh_74 : decode cX6_weigh 74 = .ok (.invokevirtual 31, 3) := by decide +kernel
theorem dX6_weigh_77 : decode cX6_weigh 77 = .ok (.invokevirtual 37, 3) := by decide +kernel
theorem dX6_weigh_80 : decode cX6_weigh 80 = .ok (.i2l, 1) := by decide +kernel
theorem dX6_weigh_81 : decode cX6_weigh 81 = .ok (.invokevirtual 19, 3) := by decide +kernel
theorem dX6_weigh_84 : decode cX6_weigh 84 = .ok (.return_, 1) := by decide +kernel
theorem dX6_isBetter_0 : decode cX6_isBetter 0 = .ok (.aload_n 1, 1) := by decide +kernel
theorem dX6_isBetter_1 : decode cX6_isBetter 1 = .ok (.aload_n 2, 1) := by decide +kernel
theorem dX6_isBetter_2 : decode cX6_isBetter 2 = .ok (.invokevirtual 41, 3) := by decide +kernel
theorem dX6_isBetter_5 : decode cX6_isBetter 5 = .ok (.istore_n 3, 1) := by decide +kernel
theorem dX6_isBetter_6 : decode cX6_isBetter 6 = .ok (.iload_n 0, 1) := by decide +kernel
theorem dX6_isBetter_7 : decode cX6_isBetter 7 = .ok (.ifCond .ne 15, 3) := by decide +kernel
theorem dX6_isBetter_10 : decode cX6_isBetter 10 = .ok (.iload_n 3, 1) := by decide +kernel
theorem dX6_isBetter_11 : decode cX6_isBetter 11 = .ok (.ifCond .le 7, 3) := by decide +kernel
theorem dX6_isBetter_14 : decode cX6_isBetter 14 = .ok (.iconst 1, 1) := by decide +kernel
theorem dX6_isBetter_15 : decode cX6_isBetter 15 = .ok (.goto 16, 3) := by decide +kernel
theorem dX6_isBetter_18 : decode cX6_isBetter 18 = .ok (.iconst 0, 1) := by decide +kernel
theorem dX6_isBetter_19 : decode cX6_isBetter 19 = .ok (.goto 12, 3) := by decide +kernel
theorem dX6_isBetter_22 : decode cX6_isBetter 22 = .ok (.iload_n 3, 1) := by decide +kernel
theorem dX6_isBetter_23 : decode cX6_isBetter 23 = .ok (.ifCond .ge 7, 3) := by decide +kernel
theorem dX6_isBetter_26 : decode cX6_isBetter 26 = .ok (.iconst 1, 1) := by decide +kernel
theorem dX6_isBetter_27 : decode cX6_isBetter 27 = .ok (.goto 4, 3) := by decide +kernel
theorem dX6_isBetter_30 : decode cX6_isBetter 30 = .ok (.iconst 0, 1) := by decide +kernel
theorem dX6_isBetter_31 : decode cX6_isBetter 31 = .ok (.ireturn, 1) := by decide +kernel
theorem dX6_roughCompactness_0 : decode cX6_roughCompactness 0 = .ok (.aload_n 0, 1) := by decide +kernel
theorem dX6_roughCompactness_1 : decode cX6_roughCompactness 1 = .ok (.iload_n 1, 1) := by decide +kernel
theorem dX6_roughCompactness_2 : decode cX6_roughCompactness 2 = .ok (.invokevirtual 45, 3) := by decide +kernel
theorem dX6_roughCompactness_5 : decode cX6_roughCompactness 5 = .ok (.istore_n 2, 1) := by decide +kernel
theorem dX6_roughCompactness_6 : decode cX6_roughCompactness 6 = .ok (.iload_n 2, 1) := by decide +kernel
theorem dX6_roughCompactness_7 : decode cX6_roughCompactness 7 = .ok (.ifCond .ne 5, 3) := by decide +kernel
theorem dX6_roughCompactness_10 : decode cX6_roughCompactness 10 = .ok (.fconst 0, 1) := by decide +kernel
theorem dX6_roughCompactness_11 : decode cX6_roughCompactness 11 = .ok (.freturn, 1) := by decide +kernel
theorem dX6_roughCompactness_12 : decode cX6_roughCompactness 12 = .ok (.bipush 16, 2) := by decide +kernel
theorem dX6_roughCompactness_14 : decode cX6_roughCompactness 14 = .ok (.aload_n 0, 1) := by decide +kernel
theorem dX6_roughCompactness_15 : decode cX6_roughCompactness 15 = .ok (.iload_n 1, 1) := by decide +kernel
theorem dX6_roughCompactness_16 : decode cX6_roughCompactness 16 = .ok (.invokevirtual 48, 3) := by decide +kernel
theorem dX6_roughCompactness_19 : decode cX6_roughCompactness 19 = .ok (.imul, 1) := by decide +kernel
theorem dX6_roughCompactness_20 : decode cX6_roughCompactness 20 = .ok (.i2f, 1) := by decide +kernel
theorem dX6_roughCompactness_21 : decode cX6_roughCompactness 21 = .ok (.iload_n 2, 1) := by decide +kernel
theorem dX6_roughCompactness_22 : decode cX6_roughCompactness 22 = .ok (.iload_n 2, 1) := by decide +kernel
theorem dX6_roughCompactness_23 : decode cX6_roughCompactness 23 = .ok (.imul, 1) := by decide +kernel
theorem dX6_roughCompactness_24 : decode cX6_roughCompactness 24 = .ok (.i2f, 1) := by decide +kernel
theorem dX6_roughCompactness_25 : decode cX6_roughCompactness 25 = .ok (.fdiv, 1) := by decide +kernel
theorem dX6_roughCompactness_26 : decode cX6_roughCompactness 26 = .ok (.freturn, 1) := by decide +kernel
theorem dX6_weighCompactness_0 : decode cX6_weighCompactness 0 = .ok (.lconst 0, 1) := by decide +kernel
theorem dX6_weighCompactness_1 : decode cX6_weighCompactness 1 = .ok (.lstore_n 3, 1) := by decide +kernel
theorem dX6_weighCompactness_2 : decode cX6_weighCompactness 2 = .ok (.lconst 1, 1) := by decide +kernel
theorem dX6_weighCompactness_3 : decode cX6_weighCompactness 3 = .ok (.lstore 5, 2) := by decide +kernel
theorem dX6_weighCompactness_5 : decode cX6_weighCompactness 5 = .ok (.iconst 0, 1) := by decide +kernel
theorem dX6_weighCompactness_6 : decode cX6_weighCompactness 6 = .ok (.istore 7, 2) := by decide +kernel
theorem dX6_weighCompactness_8 : decode cX6_weighCompactness 8 = .ok (.iload 7, 2) := by decide +kernel
theorem dX6_weighCompactness_10 : decode cX6_weighCompactness 10 = .ok (.aload_n 0, 1) := by decide +kernel
theorem dX6_weighCompactness_11 : decode cX6_weighCompactness 11 = .ok (.getfield 51, 3) := by decide +kernel
theorem dX6_weighCompactness_14 : decode cX6_weighCompactness 14 = .ok (.if_icmp .ge 95, 3) := by decide +kernel
theorem dX6_weighCompactness_17 : decode cX6_weighCompactness 17 = .ok (.aload_n 0, 1) := by decide +kernel
theorem dX6_weighCompactness_18 : decode cX6_weighCompactness 18 = .ok (.aload_n 1, 1) := by decide +kernel
theorem dX6_weighCompactness_19 : decode cX6_weighCompactness 19 = .ok (.getfield 55, 3) := by decide +kernel
theorem dX6_weighCompactness_22 : decode cX6_weighCompactness 22 = .ok (.iload 7, 2) := by decide +kernel
theorem dX6_weighCompactness_24 : decode cX6_weighCompactness 24 = .ok (.iaload, 1) := by decide +kernel
theorem dX6_weighCompactness_25 : decode cX6_weighCompactness 25 = .ok (.invokevirtual 45, 3) := by decide +kernel
theorem dX6_weighCompactness_28 : decode cX6_weighCompactness 28 = .ok (.i2l, 1) := by decide +kernel
theorem dX6_weighCompactness_29 : decode cX6_weighCompactness 29 = .ok (.lstore 8, 2) := by decide +kernel
theorem dX6_weighCompactness_31 : decode cX6_weighCompactness 31 = .ok (.lload 8, 2) := by decide +kernel
theorem dX6_weighCompactness_33 : decode cX6_weighCompactness 33 = .ok (.lconst 0, 1) := by decide +kernel
theorem dX6_weighCompactness_34 : decode cX6_weighCompactness 34 = .ok (.lcmp, 1) := by decide +kernel
theorem dX6_weighCompactness_35 : decode cX6_weighCompactness 35 = .ok (.ifCond .ne 7, 3) := by decide +kernel
theorem dX6_weighCompactness_38 : decode cX6_weighCompactness 38 = .ok (.lconst 0, 1) := by decide +kernel
theorem dX6_weighCompactness_39 : decode cX6_weighCompactness 39 = .ok (.goto 19, 3) := by decide +kernel
theorem dX6_weighCompactness_42 : decode cX6_weighCompactness 42 = .ok (.ldc2_w 61, 3) := by decide +kernel
theorem dX6_weighCompactness_45 : decode cX6_weighCompactness 45 = .ok (.aload_n 0, 1) := by decide +kernel
theorem dX6_weighCompactness_46 : decode cX6_weighCompactness 46 = .ok (.aload_n 1, 1) := by decide +kernel
theorem dX6_weighCompactness_47 : decode cX6_weighCompactness 47 = .ok (.getfield 55, 3) := by decide +kernel
theorem dX6_weighCompactness_50 : decode cX6_weighCompactness 50 = .ok (.iload 7, 2) := by decide +kernel
theorem dX6_weighCompactness_52 : decode cX6_weighCompactness 52 = .ok (.iaload, 1) := by decide +kernel
theorem dX6_weighCompactness_53 : decode cX6_weighCompactness 53 = .ok (.invokevirtual 48, 3) := by decide +kernel
theorem dX6_weighCompactness_56 : decode cX6_weighCompactness 56 = .ok (.i2l, 1) := by decide +kernel
theorem dX6_weighCompactness_57 : decode cX6_weighCompactness 57 = .ok (.lmul, 1) := by decide +kernel
theorem dX6_weighCompactness_58 : decode cX6_weighCompactness 58 = .ok (.lstore 10, 2) := by decide +kernel
theorem dX6_weighCompactness_60 : decode cX6_weighCompactness 60 = .ok (.lload 8, 2) := by decide +kernel
theorem dX6_weighCompactness_62 : decode cX6_weighCompactness 62 = .ok (.lconst 0, 1) := by decide +kernel
theorem dX6_weighCompactness_63 : decode cX6_weighCompactness 63 = .ok (.lcmp, 1) := by decide +kernel
theorem dX6_weighCompactness_64 : decode cX6_weighCompactness 64 = .ok (.ifCond .ne 7, 3) := by decide +kernel
theorem dX6_weighCompactness_67 : decode cX6_weighCompactness 67 = .ok (.lconst 1, 1) := by decide +kernel
theorem dX6_weighCompactness_68 : decode cX6_weighCompactness 68 = .ok (.goto 8, 3) := by decide +kernel
theorem dX6_weighCompactness_71 : decode cX6_weighCompactness 71 = .ok (.lload 8, 2) := by decide +kernel
theorem dX6_weighCompactness_73 : decode cX6_weighCompactness 73 = .ok (.lload 8, 2) := by decide +kernel
theorem dX6_weighCompactness_75 : decode cX6_weighCompactness 75 = .ok (.lmul, 1) := by decide +kernel
theorem dX6_weighCompactness_76 : decode cX6_weighCompactness 76 = .ok (.lstore 12, 2) := by decide +kernel
theorem dX6_weighCompactness_78 : decode cX6_weighCompactness 78 = .ok (.iload 7, 2) := by decide +kernel
theorem dX6_weighCompactness_80 : decode cX6_weighCompactness 80 = .ok (.ifCond .eq 16, 3) := by decide +kernel
theorem dX6_weighCompactness_83 : decode cX6_weighCompactness 83 = .ok (.lload 10, 2) := by decide +kernel
theorem dX6_weighCompactness_85 : decode cX6_weighCompactness 85 = .ok (.lload 5, 2) := by decide +kernel
theorem dX6_weighCompactness_87 : decode cX6_weighCompactness 87 = .ok (.lmul, 1) := by decide +kernel
theorem dX6_weighCompactness_88 : decode cX6_weighCompactness 88 = .ok (.lload_n 3, 1) := by decide +kernel
theorem dX6_weighCompactness_89 : decode cX6_weighCompactness 89 = .ok (.lload 12, 2) := by decide +kernel
theorem dX6_weighCompactness_91 : decode cX6_weighCompactness 91 = .ok (.lmul, 1) := by decide +kernel
theorem dX6_weighCompactness_92 : decode cX6_weighCompactness 92 = .ok (.lcmp, 1) := by decide +kernel
theorem dX6_weighCompactness_93 : decode cX6_weighCompactness 93 = .ok (.ifCond .ge 10, 3) := by decide +kernel
theorem dX6_weighCompactness_96 : decode cX6_weighCompactness 96 = .ok (.lload 10, 2) := by decide +kernel
theorem dX6_weighCompactness_98 : decode cX6_weighCompactness 98 = .ok (.lstore_n 3, 1) := by decide +kernel
theorem dX6_weighCompactness_99 : decode cX6_weighCompactness 99 = .ok (.lload 12, 2) := by decide +kernel
theorem dX6_weighCompactness_101 : decode cX6_weighCompactness 101 = .ok (.lstore 5, 2) := by decide +kernel
theorem dX6_weighCompactness_103 : decode cX6_weighCompactness 103 = .ok (.iinc 7 1, 3) := by decide +kernel
theorem dX6_weighCompactness_106 : decode cX6_weighCompactness 106 = .ok (.goto (-98), 3) := by decide +kernel
theorem dX6_weighCompactness_109 : decode cX6_weighCompactness 109 = .ok (.aload_n 2, 1) := by decide +kernel
theorem dX6_weighCompactness_110 : decode cX6_weighCompactness 110 = .ok (.lload_n 3, 1) := by decide +kernel
theorem dX6_weighCompactness_111 : decode cX6_weighCompactness 111 = .ok (.lload 5, 2) := by decide +kernel
theorem dX6_weighCompactness_113 : decode cX6_weighCompactness 113 = .ok (.invokevirtual 19, 3) := by decide +kernel
theorem dX6_weighCompactness_116 : decode cX6_weighCompactness 116 = .ok (.return_, 1) := by decide +kernel
theorem dX6_cutLength_0 : decode cX6_cutLength 0 = .ok (.iconst 0, 1) := by decide +kernel
theorem dX6_cutLength_1 : decode cX6_cutLength 1 = .ok (.istore_n 2, 1) := by decide +kernel
theorem dX6_cutLength_2 : decode cX6_cutLength 2 = .ok (.iconst 0, 1) := by decide +kernel
theorem dX6_cutLength_3 : decode cX6_cutLength 3 = .ok (.istore_n 3, 1) := by decide +kernel
theorem dX6_cutLength_4 : decode cX6_cutLength 4 = .ok (.iload_n 3, 1) := by decide +kernel
theorem dX6_cutLength_5 : decode cX6_cutLength 5 = .ok (.aload_n 0, 1) := by decide +kernel
theorem dX6_cutLength_6 : decode cX6_cutLength 6 = .ok (.getfield 63, 3) := by decide +kernel
theorem dX6_cutLength_9 : decode cX6_cutLength 9 = .ok (.if_icmp .ge 55, 3) := by decide +kernel
theorem dX6_cutLength_12 : decode cX6_cutLength 12 = .ok (.iload_n 3, 1) := by decide +kernel
theorem dX6_cutLength_13 : decode cX6_cutLength 13 = .ok (.iconst 1, 1) := by decide +kernel
theorem dX6_cutLength_14 : decode cX6_cutLength 14 = .ok (.iadd, 1) := by decide +kernel
theorem dX6_cutLength_15 : decode cX6_cutLength 15 = .ok (.istore 4, 2) := by decide +kernel
theorem dX6_cutLength_17 : decode cX6_cutLength 17 = .ok (.iload 4, 2) := by decide +kernel
theorem dX6_cutLength_19 : decode cX6_cutLength 19 = .ok (.aload_n 0, 1) := by decide +kernel
theorem dX6_cutLength_20 : decode cX6_cutLength 20 = .ok (.getfield 63, 3) := by decide +kernel
theorem dX6_cutLength_23 : decode cX6_cutLength 23 = .ok (.if_icmp .ge 35, 3) := by decide +kernel
theorem dX6_cutLength_26 : decode cX6_cutLength 26 = .ok (.aload_n 1, 1) := by decide +kernel
theorem dX6_cutLength_27 : decode cX6_cutLength 27 = .ok (.getfield 66, 3) := by decide +kernel
theorem dX6_cutLength_30 : decode cX6_cutLength 30 = .ok (.iload_n 3, 1) := by decide +kernel
theorem dX6_cutLength_31 : decode cX6_cutLength 31 = .ok (.iaload, 1) := by decide +kernel
theorem dX6_cutLength_32 : decode cX6_cutLength 32 = .ok (.aload_n 1, 1) := by decide +kernel
theorem dX6_cutLength_33 : decode cX6_cutLength 33 = .ok (.getfield 66, 3) := by decide +kernel
theorem dX6_cutLength_36 : decode cX6_cutLength 36 = .ok (.iload 4, 2) := by decide +kernel
theorem dX6_cutLength_38 : decode cX6_cutLength 38 = .ok (.iaload, 1) := by decide +kernel
theorem dX6_cutLength_39 : decode cX6_cutLength 39 = .ok (.if_icmp .eq 13, 3) := by decide +kernel
theorem dX6_cutLength_42 : decode cX6_cutLength 42 = .ok (.iload_n 2, 1) := by decide +kernel
theorem dX6_cutLength_43 : decode cX6_cutLength 43 = .ok (.aload_n 0, 1) := by decide +kernel
theorem dX6_cutLength_44 : decode cX6_cutLength 44 = .ok (.iload_n 3, 1) := by decide +kernel
theorem dX6_cutLength_45 : decode cX6_cutLength 45 = .ok (.iload 4, 2) := by decide +kernel
theorem dX6_cutLength_47 : decode cX6_cutLength 47 = .ok (.invokevirtual 69, 3) := by decide +kernel
theorem dX6_cutLength_50 : decode cX6_cutLength 50 = .ok (.iadd, 1) := by decide +kernel
theorem dX6_cutLength_51 : decode cX6_cutLength 51 = .ok (.istore_n 2, 1) := by decide +kernel
theorem dX6_cutLength_52 : decode cX6_cutLength 52 = .ok (.iinc 4 1, 3) := by decide +kernel
theorem dX6_cutLength_55 : decode cX6_cutLength 55 = .ok (.goto (-38), 3) := by decide +kernel
theorem dX6_cutLength_58 : decode cX6_cutLength 58 = .ok (.iinc 3 1, 3) := by decide +kernel
theorem dX6_cutLength_61 : decode cX6_cutLength 61 = .ok (.goto (-57), 3) := by decide +kernel
theorem dX6_cutLength_64 : decode cX6_cutLength 64 = .ok (.iload_n 2, 1) := by decide +kernel
theorem dX6_cutLength_65 : decode cX6_cutLength 65 = .ok (.ireturn, 1) := by decide +kernel
theorem dX6_countSplitCommunities_0 : decode cX6_countSplitCommunities 0 = .ok (.iconst 0, 1) := by decide +kernel
theorem dX6_countSplitCommunities_1 : decode cX6_countSplitCommunities 1 = .ok (.istore_n 2, 1) := by decide +kernel
theorem dX6_countSplitCommunities_2 : decode cX6_countSplitCommunities 2 = .ok (.iconst 0, 1) := by decide +kernel
theorem dX6_countSplitCommunities_3 : decode cX6_countSplitCommunities 3 = .ok (.istore_n 3, 1) := by decide +kernel
theorem dX6_countSplitCommunities_4 : decode cX6_countSplitCommunities 4 = .ok (.iload_n 3, 1) := by decide +kernel
theorem dX6_countSplitCommunities_5 : decode cX6_countSplitCommunities 5 = .ok (.iconst 4, 1) := by decide +kernel
theorem dX6_countSplitCommunities_6 : decode cX6_countSplitCommunities 6 = .ok (.if_icmp .ge 24, 3) := by decide +kernel
theorem dX6_countSplitCommunities_9 : decode cX6_countSplitCommunities 9 = .ok (.aload_n 1, 1) := by decide +kernel
theorem dX6_countSplitCommunities_10 : decode cX6_countSplitCommunities 10 = .ok (.aload_n 0, 1) := by decide +kernel
theorem dX6_countSplitCommunities_11 : decode cX6_countSplitCommunities 11 = .ok (.iload_n 3, 1) := by decide +kernel
theorem dX6_countSplitCommunities_12 : decode cX6_countSplitCommunities 12 = .ok (.invokevirtual 73, 3) := by decide +kernel
theorem dX6_countSplitCommunities_15 : decode cX6_countSplitCommunities 15 = .ok (.invokevirtual 76, 3) := by decide +kernel
theorem dX6_countSplitCommunities_18 : decode cX6_countSplitCommunities 18 = .ok (.ifCond .eq 6, 3) := by decide +kernel
theorem dX6_countSplitCommunities_21 : decode cX6_countSplitCommunities 21 = .ok (.iinc 2 1, 3) := by decide +kernel
theorem dX6_countSplitCommunities_24 : decode cX6_countSplitCommunities 24 = .ok (.iinc 3 1, 3) := by decide +kernel
theorem dX6_countSplitCommunities_27 : decode cX6_countSplitCommunities 27 = .ok (.goto (-23), 3) := by decide +kernel
theorem dX6_countSplitCommunities_30 : decode cX6_countSplitCommunities 30 = .ok (.iload_n 2, 1) := by decide +kernel
theorem dX6_countSplitCommunities_31 : decode cX6_countSplitCommunities 31 = .ok (.ireturn, 1) := by decide +kernel
theorem dX6_greatestImbalance_0 : decode cX6_greatestImbalance 0 = .ok (.iconst 0, 1) := by decide +kernel
theorem dX6_greatestImbalance_1 : decode cX6_greatestImbalance 1 = .ok (.istore_n 2, 1) := by decide +kernel
theorem dX6_greatestImbalance_2 : decode cX6_greatestImbalance 2 = .ok (.iconst 0, 1) := by decide +kernel
theorem dX6_greatestImbalance_3 : decode cX6_greatestImbalance 3 = .ok (.istore_n 3, 1) := by decide +kernel
theorem dX6_greatestImbalance_4 : decode cX6_greatestImbalance 4 = .ok (.iload_n 3, 1) := by decide +kernel
theorem dX6_greatestImbalance_5 : decode cX6_greatestImbalance 5 = .ok (.aload_n 0, 1) := by decide +kernel
theorem dX6_greatestImbalance_6 : decode cX6_greatestImbalance 6 = .ok (.getfield 51, 3) := by decide +kernel
theorem dX6_greatestImbalance_9 : decode cX6_greatestImbalance 9 = .ok (.if_icmp .ge 24, 3) := by decide +kernel
theorem dX6_greatestImbalance_12 : decode cX6_greatestImbalance 12 = .ok (.iload_n 2, 1) := by decide +kernel
theorem dX6_greatestImbalance_13 : decode cX6_greatestImbalance 13 = .ok (.aload_n 0, 1) := by decide +kernel
theorem dX6_greatestImbalance_14 : decode cX6_greatestImbalance 14 = .ok (.aload_n 1, 1) := by decide +kernel
theorem dX6_greatestImbalance_15 : decode cX6_greatestImbalance 15 = .ok (.getfield 55, 3) := by decide +kernel
theorem dX6_greatestImbalance_18 : decode cX6_greatestImbalance 18 = .ok (.iload_n 3, 1) := by decide +kernel
theorem dX6_greatestImbalance_19 : decode cX6_greatestImbalance 19 = .ok (.iaload, 1) := by decide +kernel
theorem dX6_greatestImbalance_20 : decode cX6_greatestImbalance 20 = .ok (.invokevirtual 80, 3) := by decide +kernel
theorem dX6_greatestImbalance_23 : decode cX6_greatestImbalance 23 = .ok (.invokestatic 83, 3) := by decide +kernel
theorem dX6_greatestImbalance_26 : decode cX6_greatestImbalance 26 = .ok (.istore_n 2, 1) := by decide +kernel
theorem dX6_greatestImbalance_27 : decode cX6_greatestImbalance 27 = .ok (.iinc 3 1, 3) := by decide +kernel
theorem dX6_greatestImbalance_30 : decode cX6_greatestImbalance 30 = .ok (.goto (-26), 3) := by decide +kernel
theorem dX6_greatestImbalance_33 : decode cX6_greatestImbalance 33 = .ok (.iload_n 2, 1) := by decide +kernel
theorem dX6_greatestImbalance_34 : decode cX6_greatestImbalance 34 = .ok (.ireturn, 1) := by decide +kernel
theorem dX7_init_0 : decode cX7_init 0 = .ok (.aload_n 0, 1) := by decide +kernel
theorem dX7_init_1 : decode cX7_init 1 = .ok (.invokespecial 3, 3) := by decide +kernel
theorem dX7_init_4 : decode cX7_init 4 = .ok (.aload_n 0, 1) := by decide +kernel
theorem dX7_init_5 : decode cX7_init 5 = .ok (.new 9, 3) := by decide +kernel
theorem dX7_init_8 : decode cX7_init 8 = .ok (.dup, 1) := by decide +kernel
theorem dX7_init_9 : decode cX7_init 9 = .ok (.invokespecial 11, 3) := by decide +kernel
theorem dX7_init_12 : decode cX7_init 12 = .ok (.putfield 12, 3) := by decide +kernel
theorem dX7_init_15 : decode cX7_init 15 = .ok (.aload_n 0, 1) := by decide +kernel
theorem dX7_init_16 : decode cX7_init 16 = .ok (.iconst 0, 1) := by decide +kernel
theorem dX7_init_17 : decode cX7_init 17 = .ok (.putfield 18, 3) := by decide +kernel
theorem dX7_init_20 : decode cX7_init 20 = .ok (.aload_n 0, 1) := by decide +kernel
theorem dX7_init_21 : decode cX7_init 21 = .ok (.iconst (-1), 1) := by decide +kernel
theorem dX7_init_22 : decode cX7_init 22 = .ok (.putfield 22, 3) := by decide +kernel
theorem dX7_init_25 : decode cX7_init 25 = .ok (.aload_n 0, 1) := by decide +kernel
theorem dX7_init_26 : decode cX7_init 26 = .ok (.new 9, 3) := by decide +kernel
theorem dX7_init_29 : decode cX7_init 29 = .ok (.dup, 1) := by decide +kernel
theorem dX7_init_30 : decode cX7_init 30 = .ok (.invokespecial 11, 3) := by decide +kernel
theorem dX7_init_33 : decode cX7_init 33 = .ok (.putfield 26, 3) := by decide +kernel
theorem dX7_init_36 : decode cX7_init 36 = .ok (.aload_n 0, 1) := by decide +kernel
theorem dX7_init_37 : decode cX7_init 37 = .ok (.new 29, 3) := by decide +kernel
theorem dX7_init_40 : decode cX7_init 40 = .ok (.dup, 1) := by decide +kernel
theorem dX7_init_41 : decode cX7_init 41 = .ok (.invokespecial 31, 3) := by decide +kernel
theorem dX7_init_44 : decode cX7_init 44 = .ok (.putfield 32, 3) := by decide +kernel
theorem dX7_init_47 : decode cX7_init 47 = .ok (.aload_n 0, 1) := by decide +kernel
theorem dX7_init_48 : decode cX7_init 48 = .ok (.new 29, 3) := by decide +kernel
theorem dX7_init_51 : decode cX7_init 51 = .ok (.dup, 1) := by decide +kernel
theorem dX7_init_52 : decode cX7_init 52 = .ok (.invokespecial 31, 3) := by decide +kernel
theorem dX7_init_55 : decode cX7_init 55 = .ok (.putfield 36, 3) := by decide +kernel
theorem dX7_init_58 : decode cX7_init 58 = .ok (.return_, 1) := by decide +kernel
theorem dX7_begin_0 : decode cX7_begin 0 = .ok (.aload_n 0, 1) := by decide +kernel
theorem dX7_begin_1 : decode cX7_begin 1 = .ok (.iload_n 2, 1) := by decide +kernel
theorem dX7_begin_2 : decode cX7_begin 2 = .ok (.putfield 22, 3) := by decide +kernel
theorem dX7_begin_5 : decode cX7_begin 5 = .ok (.aload_n 0, 1) := by decide +kernel
theorem dX7_begin_6 : decode cX7_begin 6 = .ok (.iconst 0, 1) := by decide +kernel
theorem dX7_begin_7 : decode cX7_begin 7 = .ok (.putfield 18, 3) := by decide +kernel
theorem dX7_begin_10 : decode cX7_begin 10 = .ok (.aload_n 0, 1) := by decide +kernel
theorem dX7_begin_11 : decode cX7_begin 11 = .ok (.getfield 22, 3) := by decide +kernel
theorem dX7_begin_14 : decode cX7_begin 14 = .ok (.iconst (-1), 1) := by decide +kernel
theorem dX7_begin_15 : decode cX7_begin 15 = .ok (.if_icmp .eq 19, 3) := by decide +kernel
theorem dX7_begin_18 : decode cX7_begin 18 = .ok (.aload_n 1, 1) := by decide +kernel
theorem dX7_begin_19 : decode cX7_begin 19 = .ok (.aload_n 1, 1) := by decide +kernel
theorem dX7_begin_20 : decode cX7_begin 20 = .ok (.getfield 39, 3) := by decide +kernel
theorem dX7_begin_23 : decode cX7_begin 23 = .ok (.aload_n 0, 1) := by decide +kernel
theorem dX7_begin_24 : decode cX7_begin 24 = .ok (.getfield 22, 3) := by decide +kernel
theorem dX7_begin_27 : decode cX7_begin 27 = .ok (.aload_n 0, 1) := by decide +kernel
theorem dX7_begin_28 : decode cX7_begin 28 = .ok (.getfield 32, 3) := by decide +kernel
theorem dX7_begin_31 : decode cX7_begin 31 = .ok (.invokestatic 44, 3) := by decide +kernel
theorem dX7_begin_34 : decode cX7_begin 34 = .ok (.return_, 1) := by decide +kernel
theorem dX7_tryMoves_0 : decode cX7_tryMoves 0 = .ok (.iconst 0, 1) := by decide +kernel
theorem dX7_tryMoves_1 : decode cX7_tryMoves 1 = .ok (.istore_n 3, 1) := by decide +kernel
theorem dX7_tryMoves_2 : decode cX7_tryMoves 2 = .ok (.iconst 0, 1) := by decide +kernel
theorem dX7_tryMoves_3 : decode cX7_tryMoves 3 = .ok (.istore 4, 2) := by decide +kernel
theorem dX7_tryMoves_5 : decode cX7_tryMoves 5 = .ok (.iload 4, 2) := by decide +kernel
theorem dX7_tryMoves_7 : decode cX7_tryMoves 7 = .ok (.aload_n 1, 1) := by decide +kernel
theorem dX7_tryMoves_8 : decode cX7_tryMoves 8 = .ok (.getfield 50, 3) := by decide +kernel
theorem dX7_tryMoves_11 : decode cX7_tryMoves 11 = .ok (.if_icmp .ge 66, 3) := by decide +kernel
theorem dX7_tryMoves_14 : decode cX7_tryMoves 14 = .ok (.iconst 0, 1) := by decide +kernel
theorem dX7_tryMoves_15 : decode cX7_tryMoves 15 = .ok (.istore 5, 2) := by decide +kernel
theorem dX7_tryMoves_17 : decode cX7_tryMoves 17 = .ok (.iload 5, 2) := by decide +kernel
theorem dX7_tryMoves_19 : decode cX7_tryMoves 19 = .ok (.aload_n 1, 1) := by decide +kernel
theorem dX7_tryMoves_20 : decode cX7_tryMoves 20 = .ok (.getfield 53, 3) := by decide +kernel
theorem dX7_tryMoves_23 : decode cX7_tryMoves 23 = .ok (.if_icmp .ge 48, 3) := by decide +kernel
theorem dX7_tryMoves_26 : decode cX7_tryMoves 26 = .ok (.iload 5, 2) := by decide +kernel
theorem dX7_tryMoves_28 : decode cX7_tryMoves 28 = .ok (.aload_n 1, 1) := by decide +kernel
theorem dX7_tryMoves_29 : decode cX7_tryMoves 29 = .ok (.getfield 39, 3) := by decide +kernel
theorem dX7_tryMoves_32 : decode cX7_tryMoves 32 = .ok (.getfield 56, 3) := by decide +kernel
theorem dX7_tryMoves_35 : decode cX7_tryMoves 35 = .ok (.iload 4, 2) := by decide +kernel
theorem dX7_tryMoves_37 : decode cX7_tryMoves 37 = .ok (.iaload, 1) := by decide +kernel
theorem dX7_tryMoves_38 : decode cX7_tryMoves 38 = .ok (.if_icmp .eq 27, 3) := by decide +kernel
theorem dX7_tryMoves_41 : decode cX7_tryMoves 41 = .ok (.aload_n 2, 1) := by decide +kernel
theorem dX7_tryMoves_42 : decode cX7_tryMoves 42 = .ok (.aload_n 1, 1) := by decide +kernel
theorem dX7_tryMoves_43 : decode cX7_tryMoves 43 = .ok (.iload 4, 2) := by decide +kernel
theorem dX7_tryMoves_45 : decode cX7_tryMoves 45 = .ok (.iload 5, 2) := by decide +kernel
theorem dX7_tryMoves_47 : decode cX7_tryMoves 47 = .ok (.aload_n 0, 1) := by decide +kernel
theorem dX7_tryMoves_48 : decode cX7_tryMoves 48 = .ok (.getfield 26, 3) := by decide +kernel
theorem dX7_tryMoves_51 : decode cX7_tryMoves 51 = .ok (.invokevirtual 60, 3) := by decide +kernel
theorem dX7_tryMoves_54 : decode cX7_tryMoves 54 = .ok (.ifCond .ne 11, 3) := by decide +kernel
theorem dX7_tryMoves_57 : decode cX7_tryMoves 57 = .ok (.aload_n 0, 1) := by decide +kernel
theorem dX7_tryMoves_58 : decode cX7_tryMoves 58 = .ok (.aload_n 1, 1) := by decide +kernel
theorem dX7_tryMoves_59 : decode cX7_tryMoves 59 = .ok (.invokevirtual 66, 3) := by decide +kernel
theorem dX7_tryMoves_62 : decode cX7_tryMoves 62 = .ok (.iinc 3 1, 3) := by decide +kernel
theorem dX7_tryMoves_65 : decode cX7_tryMoves 65 = .ok (.iinc 5 1, 3) := by decide +kernel
theorem dX7_tryMoves_68 : decode cX7_tryMoves 68 = .ok (.goto (-51), 3) := by decide +kernel
theorem dX7_tryMoves_71 : decode cX7_tryMoves 71 = .ok (.iinc 4 1, 3) := by decide +kernel
theorem dX7_tryMoves_74 : decode cX7_tryMoves 74 = .ok (.goto (-69), 3) := by decide +kernel
theorem dX7_tryMoves_77 : decode cX7_tryMoves 77 = .ok (.iload_n 3, 1) := by decide +kernel
theorem dX7_tryMoves_78 : decode cX7_tryMoves 78 = .ok (.ireturn, 1) := by decide +kernel
theorem dX7_trySwaps_0 : decode cX7_trySwaps 0 = .ok (.iconst 0, 1) := by decide +kernel
theorem dX7_trySwaps_1 : decode cX7_trySwaps 1 = .ok (.istore_n 3, 1) := by decide +kernel
theorem dX7_trySwaps_2 : decode cX7_trySwaps 2 = .ok (.iconst 0, 1) := by decide +kernel
theorem dX7_trySwaps_3 : decode cX7_trySwaps 3 = .ok (.istore 4, 2) := by decide +kernel
theorem dX7_trySwaps_5 : decode cX7_trySwaps 5 = .ok (.iload 4, 2) := by decide +kernel
theorem dX7_trySwaps_7 : decode cX7_trySwaps 7 = .ok (.aload_n 1, 1) := by decide +kernel
theorem dX7_trySwaps_8 : decode cX7_trySwaps 8 = .ok (.getfield 50, 3) := by decide +kernel
theorem dX7_trySwaps_11 : decode cX7_trySwaps 11 = .ok (.if_icmp .ge 77, 3) := by decide +kernel
theorem dX7_trySwaps_14 : decode cX7_trySwaps 14 = .ok (.iload 4, 2) := by decide +kernel
theorem dX7_trySwaps_16 : decode cX7_trySwaps 16 = .ok (.iconst 1, 1) := by decide +kernel
theorem dX7_trySwaps_17 : decode cX7_trySwaps 17 = .ok (.iadd, 1) := by decide +kernel
theorem dX7_trySwaps_18 : decode cX7_trySwaps 18 = .ok (.istore 5, 2) := by decide +kernel
theorem dX7_trySwaps_20 : decode cX7_trySwaps 20 = .ok (.iload 5, 2) := by decide +kernel
theorem dX7_trySwaps_22 : decode cX7_trySwaps 22 = .ok (.aload_n 1, 1) := by decide +kernel
theorem dX7_trySwaps_23 : decode cX7_trySwaps 23 = .ok (.getfield 50, 3) := by decide +kernel
theorem dX7_trySwaps_26 : decode cX7_trySwaps 26 = .ok (.if_icmp .ge 56, 3) := by decide +kernel
theorem dX7_trySwaps_29 : decode cX7_trySwaps 29 = .ok (.aload_n 1, 1) := by decide +kernel
theorem dX7_trySwaps_30 : decode cX7_trySwaps 30 = .ok (.getfield 39, 3) := by decide +kernel
theorem dX7_trySwaps_33 : decode cX7_trySwaps 33 = .ok (.getfield 56, 3) := by decide +kernel
theorem dX7_trySwaps_36 : decode cX7_trySwaps 36 = .ok (.iload 4, 2) := by decide +kernel
theorem dX7_trySwaps_38 : decode cX7_trySwaps 38 = .ok (.iaload, 1) := by decide +kernel
theorem dX7_trySwaps_39 : decode cX7_trySwaps 39 = .ok (.aload_n 1, 1) := by decide +kernel
theorem dX7_trySwaps_40 : decode cX7_trySwaps 40 = .ok (.getfield 39, 3) := by decide +kernel
theorem dX7_trySwaps_43 : decode cX7_trySwaps 43 = .ok (.getfield 56, 3) := by decide +kernel
theorem dX7_trySwaps_46 : decode cX7_trySwaps 46 = .ok (.iload 5, 2) := by decide +kernel
theorem dX7_trySwaps_48 : decode cX7_trySwaps 48 = .ok (.iaload, 1) := by decide +kernel
theorem dX7_trySwaps_49 : decode cX7_trySwaps 49 = .ok (.if_icmp .eq 27, 3) := by decide +kernel
theorem dX7_trySwaps_52 : decode cX7_trySwaps 52 = .ok (.aload_n 2, 1) := by decide +kernel
theorem dX7_trySwaps_53 : decode cX7_trySwaps 53 = .ok (.aload_n 1, 1) := by decide +kernel
theorem dX7_trySwaps_54 : decode cX7_trySwaps 54 = .ok (.iload 4, 2) := by decide +kernel
theorem dX7_trySwaps_56 : decode cX7_trySwaps 56 = .ok (.iload 5, 2) := by decide +kernel
theorem dX7_trySwaps_58 : decode cX7_trySwaps 58 = .ok (.aload_n 0, 1) := by decide +kernel
theorem dX7_trySwaps_59 : decode cX7_trySwaps 59 = .ok (.getfield 26, 3) := by decide +kernel
theorem dX7_trySwaps_62 : decode cX7_trySwaps 62 = .ok (.invokevirtual 70, 3) := by decide +kernel
theorem dX7_trySwaps_65 : decode cX7_trySwaps 65 = .ok (.ifCond .ne 11, 3) := by decide +kernel
theorem dX7_trySwaps_68 : decode cX7_trySwaps 68 = .ok (.aload_n 0, 1) := by decide +kernel
theorem dX7_trySwaps_69 : decode cX7_trySwaps 69 = .ok (.aload_n 1, 1) := by decide +kernel
theorem dX7_trySwaps_70 : decode cX7_trySwaps 70 = .ok (.invokevirtual 66, 3) := by decide +kernel
theorem dX7_trySwaps_73 : decode cX7_trySwaps 73 = .ok (.iinc 3 1, 3) := by decide +kernel
theorem dX7_trySwaps_76 : decode cX7_trySwaps 76 = .ok (.iinc 5 1, 3) := by decide +kernel
theorem dX7_trySwaps_79 : decode cX7_trySwaps 79 = .ok (.goto (-59), 3) := by decide +kernel
theorem dX7_trySwaps_82 : decode cX7_trySwaps 82 = .ok (.iinc 4 1, 3) := by decide +kernel
theorem dX7_trySwaps_85 : decode cX7_trySwaps 85 = .ok (.goto (-80), 3) := by decide +kernel
theorem dX7_trySwaps_88 : decode cX7_trySwaps 88 = .ok (.iload_n 3, 1) := by decide +kernel
theorem dX7_trySwaps_89 : decode cX7_trySwaps 89 = .ok (.ireturn, 1) := by decide +kernel
theorem dX7_consider_0 : decode cX7_consider 0 = .ok (.aload_n 0, 1) := by decide +kernel
theorem dX7_consider_1 : decode cX7_consider 1 = .ok (.getfield 22, 3) := by decide +kernel
theorem dX7_consider_4 : decode cX7_consider 4 = .ok (.iconst (-1), 1) := by decide +kernel
theorem dX7_consider_5 : decode cX7_consider 5 = .ok (.if_icmp .ne 4, 3) := by decide +kernel
theorem dX7_consider_8 : decode cX7_consider 8 = .ok (.return_, 1) := by decide +kernel
theorem dX7_consider_9 : decode cX7_consider 9 = .ok (.aload_n 1, 1) := by decide +kernel
theorem dX7_consider_10 : decode cX7_consider 10 = .ok (.aload_n 0, 1) := by decide +kernel
theorem dX7_consider_11 : decode cX7_consider 11 = .ok (.getfield 26, 3) := by decide +kernel
theorem dX7_consider_14 : decode cX7_consider 14 = .ok (.aload_n 0, 1) := by decide +kernel
theorem dX7_consider_15 : decode cX7_consider 15 = .ok (.getfield 22, 3) := by decide +kernel
theorem dX7_consider_18 : decode cX7_consider 18 = .ok (.aload_n 0, 1) := by decide +kernel
theorem dX7_consider_19 : decode cX7_consider 19 = .ok (.getfield 36, 3) := by decide +kernel
theorem dX7_consider_22 : decode cX7_consider 22 = .ok (.invokestatic 44, 3) := by decide +kernel
theorem dX7_consider_25 : decode cX7_consider 25 = .ok (.aload_n 0, 1) := by decide +kernel
theorem dX7_consider_26 : decode cX7_consider 26 = .ok (.getfield 22, 3) := by decide +kernel
theorem dX7_consider_29 : decode cX7_consider 29 = .ok (.aload_n 0, 1) := by decide +kernel
theorem dX7_consider_30 : decode cX7_consider 30 = .ok (.getfield 36, 3) := by decide +kernel
theorem dX7_consider_33 : decode cX7_consider 33 = .ok (.aload_n 0, 1) := by decide +kernel
theorem dX7_consider_34 : decode cX7_consider 34 = .ok (.getfield 32, 3) := by decide +kernel
theorem dX7_consider_37 : decode cX7_consider 37 = .ok (.invokestatic 73, 3) := by decide +kernel
theorem dX7_consider_40 : decode cX7_consider 40 = .ok (.ifCond .eq 30, 3) := by decide +kernel
theorem dX7_consider_43 : decode cX7_consider 43 = .ok (.aload_n 0, 1) := by decide +kernel
theorem dX7_consider_44 : decode cX7_consider 44 = .ok (.getfield 32, 3) := by decide +kernel
theorem dX7_consider_47 : decode cX7_consider 47 = .ok (.aload_n 0, 1) := by decide +kernel
theorem dX7_consider_48 : decode cX7_consider 48 = .ok (.getfield 36, 3) := by decide +kernel
theorem dX7_consider_51 : decode cX7_consider 51 = .ok (.invokevirtual 77, 3) := by decide +kernel
theorem dX7_consider_54 : decode cX7_consider 54 = .ok (.aload_n 0, 1) := by decide +kernel
theorem dX7_consider_55 : decode cX7_consider 55 = .ok (.getfield 12, 3) := by decide +kernel
theorem dX7_consider_58 : decode cX7_consider 58 = .ok (.aload_n 0, 1) := by decide +kernel
theorem dX7_consider_59 : decode cX7_consider 59 = .ok (.getfield 26, 3) := by decide +kernel
theorem dX7_consider_62 : decode cX7_consider 62 = .ok (.invokevirtual 81, 3) := by decide +kernel
theorem dX7_consider_65 : decode cX7_consider 65 = .ok (.aload_n 0, 1) := by decide +kernel
theorem dX7_consider_66 : decode cX7_consider 66 = .ok (.iconst 1, 1) := by decide +kernel
theorem dX7_consider_67 : decode cX7_consider 67 = .ok (.putfield 18, 3) := by decide +kernel
theorem dX7_consider_70 : decode cX7_consider 70 = .ok (.return_, 1) := by decide +kernel
theorem dX8_init_0 : decode cX8_init 0 = .ok (.aload_n 0, 1) := by decide +kernel
theorem dX8_init_1 : decode cX8_init 1 = .ok (.invokespecial 3, 3) := by decide +kernel
theorem dX8_init_4 : decode cX8_init 4 = .ok (.aload_n 0, 1) := by decide +kernel
theorem dX8_init_5 : decode cX8_init 5 = .ok (.iconst 0, 1) := by decide +kernel
theorem dX8_init_6 : decode cX8_init 6 = .ok (.newarray .char, 2) := by decide +kernel
theorem dX8_init_8 : decode cX8_init 8 = .ok (.putfield 9, 3) := by decide +kernel
theorem dX8_init_11 : decode cX8_init 11 = .ok (.aload_n 0, 1) := by decide +kernel
theorem dX8_init_12 : decode cX8_init 12 = .ok (.iconst 0, 1) := by decide +kernel
theorem dX8_init_13 : decode cX8_init 13 = .ok (.putfield 15, 3) := by decide +kernel
theorem dX8_init_16 : decode cX8_init 16 = .ok (.aload_n 0, 1) := by decide +kernel
theorem dX8_init_17 : decode cX8_init 17 = .ok (.iconst 0, 1) := by decide +kernel
theorem dX8_init_18 : decode cX8_init 18 = .ok (.putfield 19, 3) := by decide +kernel
theorem dX8_init_21 : decode cX8_init 21 = .ok (.aload_n 0, 1) := by decide +kernel
theorem dX8_init_22 : decode cX8_init 22 = .ok (.iconst 0, 1) := by decide +kernel
theorem dX8_init_23 : decode cX8_init 23 = .ok (.putfield 22, 3) := by decide +kernel
theorem dX8_init_26 : decode cX8_init 26 = .ok (.aload_n 0, 1) := by decide +kernel
theorem dX8_init_27 : decode cX8_init 27 = .ok (.iconst 0, 1) := by decide +kernel
theorem dX8_init_28 : decode cX8_init 28 = .ok (.putfield 25, 3) := by decide +kernel
theorem dX8_init_31 : decode cX8_init 31 = .ok (.aload_n 0, 1) := by decide +kernel
theorem dX8_init_32 : decode cX8_init 32 = .ok (.iconst 0, 1) := by decide +kernel
theorem dX8_init_33 : decode cX8_init 33 = .ok (.putfield 28, 3) := by decide +kernel
theorem dX8_init_36 : decode cX8_init 36 = .ok (.aload_n 0, 1) := by decide +kernel
theorem dX8_init_37 : decode cX8_init 37 = .ok (.iconst 0, 1) := by decide +kernel
theorem dX8_init_38 : decode cX8_init 38 = .ok (.putfield 31, 3) := by decide +kernel
theorem dX8_init_41 : decode cX8_init 41 = .ok (.aload_n 0, 1) := by decide +kernel
theorem dX8_init_42 : decode cX8_init 42 = .ok (.iconst 0, 1) := by decide +kernel
theorem dX8_init_43 : decode cX8_init 43 = .ok (.putfield 34, 3) := by decide +kernel
theorem dX8_init_46 : decode cX8_init 46 = .ok (.aload_n 0, 1) := by decide +kernel
theorem dX8_init_47 : decode cX8_init 47 = .ok (.iconst 0, 1) := by decide +kernel
theorem dX8_init_48 : decode cX8_init 48 = .ok (.putfield 37, 3) := by decide +kernel
theorem dX8_init_51 : decode cX8_init 51 = .ok (.return_, 1) := by decide +kernel
theorem dX8_findFault_0 : decode cX8_findFault 0 = .ok (.aload_n 0, 1) := by decide +kernel
theorem dX8_findFault_1 : decode cX8_findFault 1 = .ok (.aload_n 1, 1) := by decide +kernel
theorem dX8_findFault_2 : decode cX8_findFault 2 = .ok (.iload_n 2, 1) := by decide +kernel
theorem dX8_findFault_3 : decode cX8_findFault 3 = .ok (.invokevirtual 41, 3) := by decide +kernel
theorem dX8_findFault_6 : decode cX8_findFault 6 = .ok (.iconst 0, 1) := by decide +kernel
theorem dX8_findFault_7 : decode cX8_findFault 7 = .ok (.istore_n 3, 1) := by decide +kernel
theorem dX8_findFault_8 : decode cX8_findFault 8 = .ok (.iload_n 3, 1) := by decide +kernel
theorem dX8_findFault_9 : decode cX8_findFault 9 = .ok (.bipush 80, 2) := by decide +kernel
theorem dX8_findFault_11 : decode cX8_findFault 11 = .ok (.if_icmp .ge 48, 3) := by decide +kernel
theorem dX8_findFault_14 : decode cX8_findFault 14 = .ok (.aload_n 0, 1) := by decide +kernel
theorem dX8_findFault_15 : decode cX8_findFault 15 = .ok (.invokevirtual 45, 3) := by decide +kernel
theorem dX8_findFault_18 : decode cX8_findFault 18 = .ok (.ifCond .ne 8, 3) := by decide +kernel
theorem dX8_findFault_21 : decode cX8_findFault 21 = .ok (.aload_n 0, 1) := by decide +kernel
theorem dX8_findFault_22 : decode cX8_findFault 22 = .ok (.getfield 19, 3) := by decide +kernel
theorem dX8_findFault_25 : decode cX8_findFault 25 = .ok (.ireturn, 1) := by decide +kernel
theorem dX8_findFault_26 : decode cX8_findFault 26 = .ok (.aload_n 0, 1) := by decide +kernel
theorem dX8_findFault_27 : decode cX8_findFault 27 = .ok (.getfield 19, 3) := by decide +kernel
theorem dX8_findFault_30 : decode cX8_findFault 30 = .ok (.aload_n 0, 1) := by decide +kernel
theorem dX8_findFault_31 : decode cX8_findFault 31 = .ok (.getfield 15, 3) := by decide +kernel
theorem dX8_findFault_34 : decode cX8_findFault 34 = .ok (.if_icmp .ne 5, 3) := by decide +kernel
theorem dX8_findFault_37 : decode cX8_findFault 37 = .ok (.iconst (-1), 1) := by decide +kernel
theorem dX8_findFault_38 : decode cX8_findFault 38 = .ok (.ireturn, 1) := by decide +kernel
theorem dX8_findFault_39 : decode cX8_findFault 39 = .ok (.aload_n 0, 1) := by decide +kernel
theorem dX8_findFault_40 : decode cX8_findFault 40 = .ok (.bipush 59, 2) := by decide +kernel
theorem dX8_findFault_42 : decode cX8_findFault 42 = .ok (.invokevirtual 49, 3) := by decide +kernel
theorem dX8_findFault_45 : decode cX8_findFault 45 = .ok (.ifCond .ne 8, 3) := by decide +kernel
theorem dX8_findFault_48 : decode cX8_findFault 48 = .ok (.aload_n 0, 1) := by decide +kernel
theorem dX8_findFault_49 : decode cX8_findFault 49 = .ok (.getfield 19, 3) := by decide +kernel
theorem dX8_findFault_52 : decode cX8_findFault 52 = .ok (.ireturn, 1) := by decide +kernel
theorem dX8_findFault_53 : decode cX8_findFault 53 = .ok (.iinc 3 1, 3) := by decide +kernel
theorem dX8_findFault_56 : decode cX8_findFault 56 = .ok (.goto (-48), 3) := by decide +kernel
theorem dX8_findFault_59 : decode cX8_findFault 59 = .ok (.aload_n 0, 1) := by decide +kernel
theorem dX8_findFault_60 : decode cX8_findFault 60 = .ok (.getfield 19, 3) := by decide +kernel
theorem dX8_findFault_63 : decode cX8_findFault 63 = .ok (.ireturn, 1) := by decide +kernel
theorem dX8_carryOut_0 : decode cX8_carryOut 0 = .ok (.aload_n 0, 1) := by decide +kernel
theorem dX8_carryOut_1 : decode cX8_carryOut 1 = .ok (.aload_n 1, 1) := by decide +kernel
theorem dX8_carryOut_2 : decode cX8_carryOut 2 = .ok (.iload_n 2, 1) := by decide +kernel
theorem dX8_carryOut_3 : decode cX8_carryOut 3 = .ok (.invokevirtual 41, 3) := by decide +kernel
theorem dX8_carryOut_6 : decode cX8_carryOut 6 = .ok (.iconst 0, 1) := by decide +kernel
theorem dX8_carryOut_7 : decode cX8_carryOut 7 = .ok (.istore 4, 2) := by decide +kernel
theorem dX8_carryOut_9 : decode cX8_carryOut 9 = .ok (.iload 4, 2) := by decide +kernel
theorem dX8_carryOut_11 : decode cX8_carryOut 11 = .ok (.bipush 80, 2) := by decide +kernel
theorem dX8_carryOut_13 : decode cX8_carryOut 13 = .ok (.if_icmp .ge 38, 3) := by decide +kernel
theorem dX8_carryOut_16 : decode cX8_carryOut 16 = .ok (.aload_n 0, 1) := by decide +kernel
theorem dX8_carryOut_17 : decode cX8_carryOut 17 = .ok (.invokevirtual 45, 3) := by decide +kernel
theorem dX8_carryOut_20 : decode cX8_carryOut 20 = .ok (.ifCond .eq 31, 3) := by decide +kernel
theorem dX8_carryOut_23 : decode cX8_carryOut 23 = .ok (.aload_n 0, 1) := by decide +kernel
theorem dX8_carryOut_24 : decode cX8_carryOut 24 = .ok (.aload_n 3, 1) := by decide +kernel
theorem dX8_carryOut_25 : decode cX8_carryOut 25 = .ok (.invokevirtual 53, 3) := by decide +kernel
theorem dX8_carryOut_28 : decode cX8_carryOut 28 = .ok (.ifCond .ne 6, 3) := by decide +kernel
theorem dX8_carryOut_31 : decode cX8_carryOut 31 = .ok (.iload 4, 2) := by decide +kernel
theorem dX8_carryOut_33 : decode cX8_carryOut 33 = .ok (.ireturn, 1) := by decide +kernel
theorem dX8_carryOut_34 : decode cX8_carryOut 34 = .ok (.aload_n 0, 1) := by decide +kernel
theorem dX8_carryOut_35 : decode cX8_carryOut 35 = .ok (.bipush 59, 2) := by decide +kernel
theorem dX8_carryOut_37 : decode cX8_carryOut 37 = .ok (.invokevirtual 49, 3) := by decide +kernel
theorem dX8_carryOut_40 : decode cX8_carryOut 40 = .ok (.ifCond .ne 5, 3) := by decide +kernel
theorem dX8_carryOut_43 : decode cX8_carryOut 43 = .ok (.iconst (-1), 1) := by decide +kernel
theorem dX8_carryOut_44 : decode cX8_carryOut 44 = .ok (.ireturn, 1) := by decide +kernel
theorem dX8_carryOut_45 : decode cX8_carryOut 45 = .ok (.iinc 4 1, 3) := by decide +kernel
theorem dX8_carryOut_48 : decode cX8_carryOut 48 = .ok (.goto (-39), 3) := by decide +kernel
theorem dX8_carryOut_51 : decode cX8_carryOut 51 = .ok (.iconst (-1), 1) := by decide +kernel
theorem dX8_carryOut_52 : decode cX8_carryOut 52 = .ok (.ireturn, 1) := by decide +kernel
theorem dX8_begin_0 : decode cX8_begin 0 = .ok (.aload_n 0, 1) := by decide +kernel
theorem dX8_begin_1 : decode cX8_begin 1 = .ok (.aload_n 1, 1) := by decide +kernel
theorem dX8_begin_2 : decode cX8_begin 2 = .ok (.putfield 9, 3) := by decide +kernel
theorem dX8_begin_5 : decode cX8_begin 5 = .ok (.aload_n 0, 1) := by decide +kernel
theorem dX8_begin_6 : decode cX8_begin 6 = .ok (.iload_n 2, 1) := by decide +kernel
theorem dX8_begin_7 : decode cX8_begin 7 = .ok (.aload_n 1, 1) := by decide +kernel
theorem dX8_begin_8 : decode cX8_begin 8 = .ok (.arraylength, 1) := by decide +kernel
theorem dX8_begin_9 : decode cX8_begin 9 = .ok (.invokestatic 57, 3) := by decide +kernel
theorem dX8_begin_12 : decode cX8_begin 12 = .ok (.putfield 15, 3) := by decide +kernel
theorem dX8_begin_15 : decode cX8_begin 15 = .ok (.aload_n 0, 1) := by decide +kernel
theorem dX8_begin_16 : decode cX8_begin 16 = .ok (.iconst 0, 1) := by decide +kernel
theorem dX8_begin_17 : decode cX8_begin 17 = .ok (.putfield 19, 3) := by decide +kernel
theorem dX8_begin_20 : decode cX8_begin 20 = .ok (.return_, 1) := by decide +kernel
theorem dX8_carryOutStatement_0 : decode cX8_carryOutStatement 0 = .ok (.aload_n 0, 1) := by decide +kernel
theorem dX8_carryOutStatement_1 : decode cX8_carryOutStatement 1 = .ok (.getfield 25, 3) := by decide +kernel
theorem dX8_carryOutStatement_4 : decode cX8_carryOutStatement 4 = .ok (.bipush 117, 2) := by decide +kernel
theorem dX8_carryOutStatement_6 : decode cX8_carryOutStatement 6 = .ok (.if_icmp .ne 24, 3) := by decide +kernel
theorem dX8_carryOutStatement_9 : decode cX8_carryOutStatement 9 = .ok (.aload_n 1, 1) := by decide +kernel
theorem dX8_carryOutStatement_10 : decode cX8_carryOutStatement 10 = .ok (.aload_n 0, 1) := by decide +kernel
theorem dX8_carryOutStatement_11 : decode cX8_carryOutStatement 11 = .ok (.getfield 28, 3) := by decide +kernel
theorem dX8_carryOutStatement_14 : decode cX8_carryOutStatement 14 = .ok (.aload_n 0, 1) := by decide +kernel
theorem dX8_carryOutStatement_15 : decode cX8_carryOutStatement 15 = .ok (.getfield 31, 3) := by decide +kernel
theorem dX8_carryOutStatement_18 : decode cX8_carryOutStatement 18 = .ok (.aload_n 0, 1) := by decide +kernel
theorem dX8_carryOutStatement_19 : decode cX8_carryOutStatement 19 = .ok (.getfield 34, 3) := by decide +kernel
theorem dX8_carryOutStatement_22 : decode cX8_carryOutStatement 22 = .ok (.aload_n 0, 1) := by decide +kernel
theorem dX8_carryOutStatement_23 : decode cX8_carryOutStatement 23 = .ok (.getfield 37, 3) := by decide +kernel
theorem dX8_carryOutStatement_26 : decode cX8_carryOutStatement 26 = .ok (.invokevirtual 63, 3) := by decide +kernel
theorem dX8_carryOutStatement_29 : decode cX8_carryOutStatement 29 = .ok (.ireturn, 1) := by decide +kernel
theorem dX8_carryOutStatement_30 : decode cX8_carryOutStatement 30 = .ok (.aload_n 0, 1) := by decide +kernel
theorem dX8_carryOutStatement_31 : decode cX8_carryOutStatement 31 = .ok (.getfield 25, 3) := by decide +kernel
theorem dX8_carryOutStatement_34 : decode cX8_carryOutStatement 34 = .ok (.bipush 98, 2) := by decide +kernel
theorem dX8_carryOutStatement_36 : decode cX8_carryOutStatement 36 = .ok (.if_icmp .ne 20, 3) := by decide +kernel
theorem dX8_carryOutStatement_39 : decode cX8_carryOutStatement 39 = .ok (.aload_n 1, 1) := by decide +kernel
theorem dX8_carryOutStatement_40 : decode cX8_carryOutStatement 40 = .ok (.aload_n 0, 1) := by decide +kernel
theorem dX8_carryOutStatement_41 : decode cX8_carryOutStatement 41 = .ok (.getfield 28, 3) := by decide +kernel
theorem dX8_carryOutStatement_44 : decode cX8_carryOutStatement 44 = .ok (.aload_n 0, 1) := by decide +kernel
theorem dX8_carryOutStatement_45 : decode cX8_carryOutStatement 45 = .ok (.getfield 31, 3) := by decide +kernel
theorem dX8_carryOutStatement_48 : decode cX8_carryOutStatement 48 = .ok (.aload_n 0, 1) := by decide +kernel
theorem dX8_carryOutStatement_49 : decode cX8_carryOutStatement 49 = .ok (.getfield 34, 3) := by decide +kernel
theorem dX8_carryOutStatement_52 : decode cX8_carryOutStatement 52 = .ok (.invokevirtual 69, 3) := by decide +kernel
theorem dX8_carryOutStatement_55 : decode cX8_carryOutStatement 55 = .ok (.ireturn, 1) := by decide +kernel
theorem dX8_carryOutStatement_56 : decode cX8_carryOutStatement 56 = .ok (.aload_n 1, 1) := by decide +kernel
theorem dX8_carryOutStatement_57 : decode cX8_carryOutStatement 57 = .ok (.aload_n 0, 1) := by decide +kernel
theorem dX8_carryOutStatement_58 : decode cX8_carryOutStatement 58 = .ok (.getfield 28, 3) := by decide +kernel
theorem dX8_carryOutStatement_61 : decode cX8_carryOutStatement 61 = .ok (.aload_n 0, 1) := by decide +kernel
theorem dX8_carryOutStatement_62 : decode cX8_carryOutStatement 62 = .ok (.getfield 31, 3) := by decide +kernel
theorem dX8_carryOutStatement_65 : decode cX8_carryOutStatement 65 = .ok (.invokevirtual 73, 3) := by decide +kernel
theorem dX8_carryOutStatement_68 : decode cX8_carryOutStatement 68 = .ok (.ireturn, 1) := by decide +kernel
theorem dX8_readStatement_0 : decode cX8_readStatement 0 = .ok (.aload_n 0, 1) := by decide +kernel
theorem dX8_readStatement_1 : decode cX8_readStatement 1 = .ok (.aload_n 0, 1) := by decide +kernel
theorem dX8_readStatement_2 : decode cX8_readStatement 2 = .ok (.getfield 19, 3) := by decide +kernel
theorem dX8_readStatement_5 : decode cX8_readStatement 5 = .ok (.aload_n 0, 1) := by decide +kernel
theorem dX8_readStatement_6 : decode cX8_readStatement 6 = .ok (.getfield 15, 3) := by decide +kernel
theorem dX8_readStatement_9 : decode cX8_readStatement 9 = .ok (.if_icmp .ge 15, 3) := by decide +kernel
theorem dX8_readStatement_12 : decode cX8_readStatement 12 = .ok (.aload_n 0, 1) := by decide +kernel
theorem dX8_readStatement_13 : decode cX8_readStatement 13 = .ok (.getfield 9, 3) := by decide +kernel
theorem dX8_readStatement_16 : decode cX8_readStatement 16 = .ok (.aload_n 0, 1) := by decide +kernel
theorem dX8_readStatement_17 : decode cX8_readStatement 17 = .ok (.getfield 19, 3) := by decide +kernel
theorem dX8_readStatement_20 : decode cX8_readStatement 20 = .ok (.caload, 1) := by decide +kernel
theorem dX8_readStatement_21 : decode cX8_readStatement 21 = .ok (.goto 4, 3) := by decide +kernel
theorem dX8_readStatement_24 : decode cX8_readStatement 24 = .ok (.iconst 0, 1) := by decide +kernel
theorem dX8_readStatement_25 : decode cX8_readStatement 25 = .ok (.putfield 25, 3) := by decide +kernel
theorem dX8_readStatement_28 : decode cX8_readStatement 28 = .ok (.aload_n 0, 1) := by decide +kernel
theorem dX8_readStatement_29 : decode cX8_readStatement 29 = .ok (.bipush 117, 2) := by decide +kernel
theorem dX8_readStatement_31 : decode cX8_readStatement 31 = .ok (.invokevirtual 49, 3) := by decide +kernel
theorem dX8_readStatement_34 : decode cX8_readStatement 34 = .ok (.ifCond .eq 8, 3) := by decide +kernel
theorem dX8_readStatement_37 : decode cX8_readStatement 37 = .ok (.aload_n 0, 1) := by decide +kernel
theorem dX8_readStatement_38 : decode cX8_readStatement 38 = .ok (.invokevirtual 77, 3) := by decide +kernel
theorem dX8_readStatement_41 : decode cX8_readStatement 41 = .ok (.ireturn, 1) := by decide +kernel
theorem dX8_readStatement_42 : decode cX8_readStatement 42 = .ok (.aload_n 0, 1) := by decide +kernel
theorem dX8_readStatement_43 : decode cX8_readStatement 43 = .ok (.bipush 98, 2) := by decide +kernel
theorem dX8_readStatement_45 : decode cX8_readStatement 45 = .ok (.invokevirtual 49, 3) := by decide +kernel
theorem dX8_readStatement_48 : decode cX8_readStatement 48 = .ok (.ifCond .eq 8, 3) := by decide +kernel
theorem dX8_readStatement_51 : decode cX8_readStatement 51 = .ok (.aload_n 0, 1) := by decide +kernel
theorem dX8_readStatement_52 : decode cX8_readStatement 52 = .ok (.invokevirtual 80, 3) := by decide +kernel
theorem dX8_readStatement_55 : decode cX8_readStatement 55 = .ok (.ireturn, 1) := by decide +kernel
theorem dX8_readStatement_56 : decode cX8_readStatement 56 = .ok (.aload_n 0, 1) := by decide +kernel
theorem dX8_readStatement_57 : decode cX8_readStatement 57 = .ok (.bipush 111, 2) := by decide +kernel
theorem dX8_readStatement_59 : decode cX8_readStatement 59 = .ok (.invokevirtual 49, 3) := by decide +kernel
theorem dX8_readStatement_62 : decode cX8_readStatement 62 = .ok (.ifCond .eq 14, 3) := by decide +kernel
theorem dX8_readStatement_65 : decode cX8_readStatement 65 = .ok (.aload_n 0, 1) := by decide +kernel
theorem dX8_readStatement_66 : decode cX8_readStatement 66 = .ok (.invokevirtual 83, 3) := by decide +kernel
theorem dX8_readStatement_69 : decode cX8_readStatement 69 = .ok (.ifCond .eq 7, 3) := by decide +kernel
theorem dX8_readStatement_72 : decode cX8_readStatement 72 = .ok (.iconst 1, 1) := by decide +kernel
theorem dX8_readStatement_73 : decode cX8_readStatement 73 = .ok (.goto 4, 3) := by decide +kernel
theorem dX8_readStatement_76 : decode cX8_readStatement 76 = .ok (.iconst 0, 1) := by decide +kernel
theorem dX8_readStatement_77 : decode cX8_readStatement 77 = .ok (.ireturn, 1) := by decide +kernel
theorem dX8_readUnit_0 : decode cX8_readUnit 0 = .ok (.aload_n 0, 1) := by decide +kernel
theorem dX8_readUnit_1 : decode cX8_readUnit 1 = .ok (.iconst (-1), 1) := by decide +kernel
theorem dX8_readUnit_2 : decode cX8_readUnit 2 = .ok (.putfield 34, 3) := by decide +kernel
theorem dX8_readUnit_5 : decode cX8_readUnit 5 = .ok (.aload_n 0, 1) := by decide +kernel
theorem dX8_readUnit_6 : decode cX8_readUnit 6 = .ok (.iconst 0, 1) := by decide +kernel
theorem dX8_readUnit_7 : decode cX8_readUnit 7 = .ok (.putfield 37, 3) := by decide +kernel
theorem dX8_readUnit_10 : decode cX8_readUnit 10 = .ok (.aload_n 0, 1) := by decide +kernel
theorem dX8_readUnit_11 : decode cX8_readUnit 11 = .ok (.invokevirtual 86, 3) := by decide +kernel
theorem dX8_readUnit_14 : decode cX8_readUnit 14 = .ok (.ifCond .ne 5, 3) := by decide +kernel
theorem dX8_readUnit_17 : decode cX8_readUnit 17 = .ok (.iconst 0, 1) := by decide +kernel
theorem dX8_readUnit_18 : decode cX8_readUnit 18 = .ok (.ireturn, 1) := by decide +kernel
theorem dX8_readUnit_19 : decode cX8_readUnit 19 = .ok (.aload_n 0, 1) := by decide +kernel
theorem dX8_readUnit_20 : decode cX8_readUnit 20 = .ok (.aload_n 0, 1) := by decide +kernel
theorem dX8_readUnit_21 : decode cX8_readUnit 21 = .ok (.getfield 22, 3) := by decide +kernel
theorem dX8_readUnit_24 : decode cX8_readUnit 24 = .ok (.putfield 28, 3) := by decide +kernel
theorem dX8_readUnit_27 : decode cX8_readUnit 27 = .ok (.aload_n 0, 1) := by decide +kernel
theorem dX8_readUnit_28 : decode cX8_readUnit 28 = .ok (.bipush 47, 2) := by decide +kernel
theorem dX8_readUnit_30 : decode cX8_readUnit 30 = .ok (.invokevirtual 49, 3) := by decide +kernel
theorem dX8_readUnit_33 : decode cX8_readUnit 33 = .ok (.ifCond .eq 10, 3) := by decide +kernel
theorem dX8_readUnit_36 : decode cX8_readUnit 36 = .ok (.aload_n 0, 1) := by decide +kernel
theorem dX8_readUnit_37 : decode cX8_readUnit 37 = .ok (.invokevirtual 86, 3) := by decide +kernel
theorem dX8_readUnit_40 : decode cX8_readUnit 40 = .ok (.ifCond .ne 5, 3) := by decide +kernel
theorem dX8_readUnit_43 : decode cX8_readUnit 43 = .ok (.iconst 0, 1) := by decide +kernel
theorem dX8_readUnit_44 : decode cX8_readUnit 44 = .ok (.ireturn, 1) := by decide +kernel
theorem dX8_readUnit_45 : decode cX8_readUnit 45 = .ok (.aload_n 0, 1) := by decide +kernel
theorem dX8_readUnit_46 : decode cX8_readUnit 46 = .ok (.aload_n 0, 1) := by decide +kernel
theorem dX8_readUnit_47 : decode cX8_readUnit 47 = .ok (.getfield 22, 3) := by decide +kernel
theorem dX8_readUnit_50 : decode cX8_readUnit 50 = .ok (.putfield 31, 3) := by decide +kernel
theorem dX8_readUnit_53 : decode cX8_readUnit 53 = .ok (.aload_n 0, 1) := by decide +kernel
theorem dX8_readUnit_54 : decode cX8_readUnit 54 = .ok (.bipush 64, 2) := by decide +kernel
theorem dX8_readUnit_56 : decode cX8_readUnit 56 = .ok (.invokevirtual 49, 3) := by decide +kernel
theorem dX8_readUnit_59 : decode cX8_readUnit 59 = .ok (.ifCond .ne 5, 3) := by decide +kernel
theorem dX8_readUnit_62 : decode cX8_readUnit 62 = .ok (.iconst 1, 1) := by decide +kernel
theorem dX8_readUnit_63 : decode cX8_readUnit 63 = .ok (.ireturn, 1) := by decide +kernel
theorem dX8_readUnit_64 : decode cX8_readUnit 64 = .ok (.aload_n 0, 1) := by decide +kernel
theorem dX8_readUnit_65 : decode cX8_readUnit 65 = .ok (.invokevirtual 89, 3) := by decide +kernel
theorem dX8_readUnit_68 : decode cX8_readUnit 68 = .ok (.ifCond .ne 5, 3) := by decide +kernel
theorem dX8_readUnit_71 : decode cX8_readUnit 71 = .ok (.iconst 0, 1) := by decide +kernel
theorem dX8_readUnit_72 : decode cX8_readUnit 72 = .ok (.ireturn, 1) := by decide +kernel
theorem dX8_readUnit_73 : decode cX8_readUnit 73 = .ok (.aload_n 0, 1) := by decide +kernel
theorem dX8_readUnit_74 : decode cX8_readUnit 74 = .ok (.aload_n 0, 1) := by decide +kernel
theorem dX8_readUnit_75 : decode cX8_readUnit 75 = .ok (.getfield 22, 3) := by decide +kernel
theorem dX8_readUnit_78 : decode cX8_readUnit 78 = .ok (.putfield 34, 3) := by decide +kernel
theorem dX8_readUnit_81 : decode cX8_readUnit 81 = .ok (.aload_n 0, 1) := by decide +kernel
theorem dX8_readUnit_82 : decode cX8_readUnit 82 = .ok (.aload_n 0, 1) := by decide +kernel
theorem dX8_readUnit_83 : decode cX8_readUnit 83 = .ok (.bipush 33, 2) := by decide +kernel
theorem dX8_readUnit_85 : decode cX8_readUnit 85 = .ok (.invokevirtual 49, 3) := by decide +kernel
theorem dX8_readUnit_88 : decode cX8_readUnit 88 = .ok (.putfield 37, 3) := by decide +kernel
theorem dX8_readUnit_91 : decode cX8_readUnit 91 = .ok (.iconst 1, 1) := by decide +kernel
theorem dX8_readUnit_92 : decode cX8_readUnit 92 = .ok (.ireturn, 1) := by decide +kernel
theorem dX8_readBorder_0 : decode cX8_readBorder 0 = .ok (.aload_n 0, 1) := by decide +kernel
theorem dX8_readBorder_1 : decode cX8_readBorder 1 = .ok (.invokevirtual 86, 3) := by decide +kernel
theorem dX8_readBorder_4 : decode cX8_readBorder 4 = .ok (.ifCond .ne 5, 3) := by decide +kernel
theorem dX8_readBorder_7 : decode cX8_readBorder 7 = .ok (.iconst 0, 1) := by decide +kernel
theorem dX8_readBorder_8 : decode cX8_readBorder 8 = .ok (.ireturn, 1) := by decide +kernel
theorem dX8_readBorder_9 : decode cX8_readBorder 9 = .ok (.aload_n 0, 1) := by decide +kernel
theorem dX8_readBorder_10 : decode cX8_readBorder 10 = .ok (.aload_n 0, 1) := by decide +kernel
theorem dX8_readBorder_11 : decode cX8_readBorder 11 = .ok (.getfield 22, 3) := by decide +kernel
theorem dX8_readBorder_14 : decode cX8_readBorder 14 = .ok (.putfield 28, 3) := by decide +kernel
theorem dX8_readBorder_17 : decode cX8_readBorder 17 = .ok (.aload_n 0, 1) := by decide +kernel
theorem dX8_readBorder_18 : decode cX8_readBorder 18 = .ok (.bipush 45, 2) := by decide +kernel
theorem dX8_readBorder_20 : decode cX8_readBorder 20 = .ok (.invokevirtual 49, 3) := by decide +kernel
theorem dX8_readBorder_23 : decode cX8_readBorder 23 = .ok (.ifCond .eq 10, 3) := by decide +kernel
theorem dX8_readBorder_26 : decode cX8_readBorder 26 = .ok (.aload_n 0, 1) := by decide +kernel
theorem dX8_readBorder_27 : decode cX8_readBorder 27 = .ok (.invokevirtual 86, 3) := by decide +kernel
theorem dX8_readBorder_30 : decode cX8_readBorder 30 = .ok (.ifCond .ne 5, 3) := by decide +kernel
theorem dX8_readBorder_33 : decode cX8_readBorder 33 = .ok (.iconst 0, 1) := by decide +kernel
theorem dX8_readBorder_34 : decode cX8_readBorder 34 = .ok (.ireturn, 1) := by decide +kernel
theorem dX8_readBorder_35 : decode cX8_readBorder 35 = .ok (.aload_n 0, 1) := by decide +kernel
theorem dX8_readBorder_36 : decode cX8_readBorder 36 = .ok (.aload_n 0, 1) := by decide +kernel
theorem dX8_readBorder_37 : decode cX8_readBorder 37 = .ok (.getfield 22, 3) := by decide +kernel
theorem dX8_readBorder_40 : decode cX8_readBorder 40 = .ok (.putfield 31, 3) := by decide +kernel
theorem dX8_readBorder_43 : decode cX8_readBorder 43 = .ok (.aload_n 0, 1) := by decide +kernel
theorem dX8_readBorder_44 : decode cX8_readBorder 44 = .ok (.bipush 58, 2) := by decide +kernel
theorem dX8_readBorder_46 : decode cX8_readBorder 46 = .ok (.invokevirtual 49, 3) := by decide +kernel
theorem dX8_readBorder_49 : decode cX8_readBorder 49 = .ok (.ifCond .eq 10, 3) := by decide +kernel
theorem dX8_readBorder_52 : decode cX8_readBorder 52 = .ok (.aload_n 0, 1) := by decide +kernel
theorem dX8_readBorder_53 : decode cX8_readBorder 53 = .ok (.invokevirtual 89, 3) := by decide +kernel
theorem dX8_readBorder_56 : decode cX8_readBorder 56 = .ok (.ifCond .ne 5, 3) := by decide +kernel
theorem dX8_readBorder_59 : decode cX8_readBorder 59 = .ok (.iconst 0, 1) := by decide +kernel
theorem dX8_readBorder_60 : decode cX8_readBorder 60 = .ok (.ireturn, 1) := by decide +kernel
theorem dX8_readBorder_61 : decode cX8_readBorder 61 = .ok (.aload_n 0, 1) := by decide +kernel
theorem dX8_readBorder_62 : decode cX8_readBorder 62 = .ok (.aload_n 0, 1) := by decide +kernel
theorem dX8_readBorder_63 : decode cX8_readBorder 63 = .ok (.getfield 22, 3) := by decide +kernel
theorem dX8_readBorder_66 : decode cX8_readBorder 66 = .ok (.putfield 34, 3) := by decide +kernel
theorem dX8_readBorder_69 : decode cX8_readBorder 69 = .ok (.iconst 1, 1) := by decide +kernel
theorem dX8_readBorder_70 : decode cX8_readBorder 70 = .ok (.ireturn, 1) := by decide +kernel
theorem dX8_readOuter_0 : decode cX8_readOuter 0 = .ok (.aload_n 0, 1) := by decide +kernel
theorem dX8_readOuter_1 : decode cX8_readOuter 1 = .ok (.invokevirtual 86, 3) := by decide +kernel
theorem dX8_readOuter_4 : decode cX8_readOuter 4 = .ok (.ifCond .ne 5, 3) := by decide +kernel
theorem dX8_readOuter_7 : decode cX8_readOuter 7 = .ok (.iconst 0, 1) := by decide +kernel
theorem dX8_readOuter_8 : decode cX8_readOuter 8 = .ok (.ireturn, 1) := by decide +kernel
theorem dX8_readOuter_9 : decode cX8_readOuter 9 = .ok (.aload_n 0, 1) := by decide +kernel
theorem dX8_readOuter_10 : decode cX8_readOuter 10 = .ok (.aload_n 0, 1) := by decide +kernel
theorem dX8_readOuter_11 : decode cX8_readOuter 11 = .ok (.getfield 22, 3) := by decide +kernel
theorem dX8_readOuter_14 : decode cX8_readOuter 14 = .ok (.putfield 28, 3) := by decide +kernel
theorem dX8_readOuter_17 : decode cX8_readOuter 17 = .ok (.aload_n 0, 1) := by decide +kernel
theorem dX8_readOuter_18 : decode cX8_readOuter 18 = .ok (.bipush 58, 2) := by decide +kernel
theorem dX8_readOuter_20 : decode cX8_readOuter 20 = .ok (.invokevirtual 49, 3) := by decide +kernel
theorem dX8_readOuter_23 : decode cX8_readOuter 23 = .ok (.ifCond .eq 10, 3) := by decide +kernel
theorem dX8_readOuter_26 : decode cX8_readOuter 26 = .ok (.aload_n 0, 1) := by decide +kernel
theorem dX8_readOuter_27 : decode cX8_readOuter 27 = .ok (.invokevirtual 89, 3) := by decide +kernel
theorem dX8_readOuter_30 : decode cX8_readOuter 30 = .ok (.ifCond .ne 5, 3) := by decide +kernel
theorem dX8_readOuter_33 : decode cX8_readOuter 33 = .ok (.iconst 0, 1) := by decide +kernel
theorem dX8_readOuter_34 : decode cX8_readOuter 34 = .ok (.ireturn, 1) := by decide +kernel
theorem dX8_readOuter_35 : decode cX8_readOuter 35 = .ok (.aload_n 0, 1) := by decide +kernel
theorem dX8_readOuter_36 : decode cX8_readOuter 36 = .ok (.aload_n 0, 1) := by decide +kernel
theorem dX8_readOuter_37 : decode cX8_readOuter 37 = .ok (.getfield 22, 3) := by decide +kernel
theorem dX8_readOuter_40 : decode cX8_readOuter 40 = .ok (.putfield 31, 3) := by decide +kernel
theorem dX8_readOuter_43 : decode cX8_readOuter 43 = .ok (.iconst 1, 1) := by decide +kernel
theorem dX8_readOuter_44 : decode cX8_readOuter 44 = .ok (.ireturn, 1) := by decide +kernel
theorem dX8_readNumber_0 : decode cX8_readNumber 0 = .ok (.aload_n 0, 1) := by decide +kernel
theorem dX8_readNumber_1 : decode cX8_readNumber 1 = .ok (.invokevirtual 89, 3) := by decide +kernel
theorem dX8_readNumber_4 : decode cX8_readNumber 4 = .ok (.ifCond .ne 5, 3) := by decide +kernel
theorem dX8_readNumber_7 : decode cX8_readNumber 7 = .ok (.iconst 0, 1) := by decide +kernel
theorem dX8_readNumber_8 : decode cX8_readNumber 8 = .ok (.ireturn, 1) := by decide +kernel
theorem dX8_readNumber_9 : decode cX8_readNumber 9 = .ok (.aload_n 0, 1) := by decide +kernel
theorem dX8_readNumber_10 : decode cX8_readNumber 10 = .ok (.getfield 22, 3) := by decide +kernel
theorem dX8_readNumber_13 : decode cX8_readNumber 13 = .ok (.istore_n 1, 1) := by decide +kernel
theorem dX8_readNumber_14 : decode cX8_readNumber 14 = .ok (.aload_n 0, 1) := by decide +kernel
theorem dX8_readNumber_15 : decode cX8_readNumber 15 = .ok (.invokevirtual 89, 3) := by decide +kernel
theorem dX8_readNumber_18 : decode cX8_readNumber 18 = .ok (.ifCond .eq 16, 3) := by decide +kernel
theorem dX8_readNumber_21 : decode cX8_readNumber 21 = .ok (.aload_n 0, 1) := by decide +kernel
theorem dX8_readNumber_22 : decode cX8_readNumber 22 = .ok (.dup, 1) := by decide +kernel
theorem dX8_readNumber_23 : decode cX8_readNumber 23 = .ok (.getfield 22, 3) := by decide +kernel
theorem dX8_readNumber_26 : decode cX8_readNumber 26 = .ok (.bipush 10, 2) := by decide +kernel
theorem dX8_readNumber_28 : decode cX8_readNumber 28 = .ok (.iload_n 1, 1) := by decide +kernel
theorem dX8_readNumber_29 : decode cX8_readNumber 29 = .ok (.imul, 1) := by decide +kernel
theorem dX8_readNumber_30 : decode cX8_readNumber 30 = .ok (.iadd, 1) := by decide +kernel
theorem dX8_readNumber_31 : decode cX8_readNumber 31 = .ok (.putfield 22, 3) := by decide +kernel
theorem dX8_readNumber_34 : decode cX8_readNumber 34 = .ok (.iconst 1, 1) := by decide +kernel
theorem dX8_readNumber_35 : decode cX8_readNumber 35 = .ok (.ireturn, 1) := by decide +kernel
theorem dX8_readDigit_0 : decode cX8_readDigit 0 = .ok (.aload_n 0, 1) := by decide +kernel
theorem dX8_readDigit_1 : decode cX8_readDigit 1 = .ok (.getfield 19, 3) := by decide +kernel
theorem dX8_readDigit_4 : decode cX8_readDigit 4 = .ok (.aload_n 0, 1) := by decide +kernel
theorem dX8_readDigit_5 : decode cX8_readDigit 5 = .ok (.getfield 15, 3) := by decide +kernel
theorem dX8_readDigit_8 : decode cX8_readDigit 8 = .ok (.if_icmp .ge 31, 3) := by decide +kernel
theorem dX8_readDigit_11 : decode cX8_readDigit 11 = .ok (.aload_n 0, 1) := by decide +kernel
theorem dX8_readDigit_12 : decode cX8_readDigit 12 = .ok (.getfield 9, 3) := by decide +kernel
theorem dX8_readDigit_15 : decode cX8_readDigit 15 = .ok (.aload_n 0, 1) := by decide +kernel
theorem dX8_readDigit_16 : decode cX8_readDigit 16 = .ok (.getfield 19, 3) := by decide +kernel
theorem dX8_readDigit_19 : decode cX8_readDigit 19 = .ok (.caload, 1) := by decide +kernel
theorem dX8_readDigit_20 : decode cX8_readDigit 20 = .ok (.bipush 48, 2) := by decide +kernel
theorem dX8_readDigit_22 : decode cX8_readDigit 22 = .ok (.if_icmp .lt 17, 3) := by decide +kernel
theorem dX8_readDigit_25 : decode cX8_readDigit 25 = .ok (.aload_n 0, 1) := by decide +kernel
theorem dX8_readDigit_26 : decode cX8_readDigit 26 = .ok (.getfield 9, 3) := by decide +kernel
theorem dX8_readDigit_29 : decode cX8_readDigit 29 = .ok (.aload_n 0, 1) := by decide +kernel
theorem dX8_readDigit_30 : decode cX8_readDigit 30 = .ok (.getfield 19, 3) := by decide +kernel
theorem dX8_readDigit_33 : decode cX8_readDigit 33 = .ok (.caload, 1) := by decide +kernel
theorem dX8_readDigit_34 : decode cX8_readDigit 34 = .ok (.bipush 57, 2) := by decide +kernel
theorem dX8_readDigit_36 : decode cX8_readDigit 36 = .ok (.if_icmp .le 5, 3) := by decide +kernel
theorem dX8_readDigit_39 : decode cX8_readDigit 39 = .ok (.iconst 0, 1) := by decide +kernel
theorem dX8_readDigit_40 : decode cX8_readDigit 40 = .ok (.ireturn, 1) := by decide +kernel
theorem dX8_readDigit_41 : decode cX8_readDigit 41 = .ok (.aload_n 0, 1) := by decide +kernel
theorem dX8_readDigit_42 : decode cX8_readDigit 42 = .ok (.aload_n 0, 1) := by decide +kernel
theorem dX8_readDigit_43 : decode cX8_readDigit 43 = .ok (.getfield 9, 3) := by decide +kernel
theorem dX8_readDigit_46 : decode cX8_readDigit 46 = .ok (.aload_n 0, 1) := by decide +kernel
theorem dX8_readDigit_47 : decode cX8_readDigit 47 = .ok (.getfield 19, 3) := by decide +kernel
theorem dX8_readDigit_50 : decode cX8_readDigit 50 = .ok (.caload, 1) := by decide +kernel
theorem dX8_readDigit_51 : decode cX8_readDigit 51 = .ok (.bipush 48, 2) := by decide +kernel
theorem dX8_readDigit_53 : decode cX8_readDigit 53 = .ok (.isub, 1) := by decide +kernel
theorem dX8_readDigit_54 : decode cX8_readDigit 54 = .ok (.putfield 22, 3) := by decide +kernel
theorem dX8_readDigit_57 : decode cX8_readDigit 57 = .ok (.aload_n 0, 1) := by decide +kernel
theorem dX8_readDigit_58 : decode cX8_readDigit 58 = .ok (.dup, 1) := by decide +kernel
theorem dX8_readDigit_59 : decode cX8_readDigit 59 = .ok (.getfield 19, 3) := by decide +kernel
theorem dX8_readDigit_62 : decode cX8_readDigit 62 = .ok (.iconst 1, 1) := by decide +kernel
theorem dX8_readDigit_63 : decode cX8_readDigit 63 = .ok (.iadd, 1) := by decide +kernel
theorem dX8_readDigit_64 : decode cX8_readDigit 64 = .ok (.putfield 19, 3) := by decide +kernel
theorem dX8_readDigit_67 : decode cX8_readDigit 67 = .ok (.iconst 1, 1) := by decide +kernel
theorem dX8_readDigit_68 : decode cX8_readDigit 68 = .ok (.ireturn, 1) := by decide +kernel
theorem dX8_take_0 : decode cX8_take 0 = .ok (.aload_n 0, 1) := by decide +kernel
theorem dX8_take_1 : decode cX8_take 1 = .ok (.getfield 19, 3) := by decide +kernel
theorem dX8_take_4 : decode cX8_take 4 = .ok (.aload_n 0, 1) := by decide +kernel
theorem dX8_take_5 : decode cX8_take 5 = .ok (.getfield 15, 3) := by decide +kernel
theorem dX8_take_8 : decode cX8_take 8 = .ok (.if_icmp .ge 16, 3) := by decide +kernel
theorem dX8_take_11 : decode cX8_take 11 = .ok (.aload_n 0, 1) := by decide +kernel
theorem dX8_take_12 : decode cX8_take 12 = .ok (.getfield 9, 3) := by decide +kernel
theorem dX8_take_15 : decode cX8_take 15 = .ok (.aload_n 0, 1) := by decide +kernel
theorem dX8_take_16 : decode cX8_take 16 = .ok (.getfield 19, 3) := by decide +kernel
theorem dX8_take_19 : decode cX8_take 19 = .ok (.caload, 1) := by decide +kernel
theorem dX8_take_20 : decode cX8_take 20 = .ok (.iload_n 1, 1) := by decide +kernel
theorem dX8_take_21 : decode cX8_take 21 = .ok (.if_icmp .eq 5, 3) := by decide +kernel
theorem dX8_take_24 : decode cX8_take 24 = .ok (.iconst 0, 1) := by decide +kernel
theorem dX8_take_25 : decode cX8_take 25 = .ok (.ireturn, 1) := by decide +kernel
theorem dX8_take_26 : decode cX8_take 26 = .ok (.aload_n 0, 1) := by decide +kernel
theorem dX8_take_27 : decode cX8_take 27 = .ok (.dup, 1) := by decide +kernel
theorem dX8_take_28 : decode cX8_take 28 = .ok (.getfield 19, 3) := by decide +kernel
theorem dX8_take_31 : decode cX8_take 31 = .ok (.iconst 1, 1) := by decide +kernel
theorem dX8_take_32 : decode cX8_take 32 = .ok (.iadd, 1) := by decide +kernel
theorem dX8_take_33 : decode cX8_take 33 = .ok (.putfield 19, 3) := by decide +kernel
theorem dX8_take_36 : decode cX8_take 36 = .ok (.iconst 1, 1) := by decide +kernel
theorem dX8_take_37 : decode cX8_take 37 = .ok (.ireturn, 1) := by decide +kernel
theorem dX9_init_0 : decode cX9_init 0 = .ok (.aload_n 0, 1) := by decide +kernel
theorem dX9_init_1 : decode cX9_init 1 = .ok (.invokespecial 3, 3) := by decide +kernel
theorem dX9_init_4 : decode cX9_init 4 = .ok (.aload_n 0, 1) := by decide +kernel
theorem dX9_init_5 : decode cX9_init 5 = .ok (.iconst 0, 1) := by decide +kernel
theorem dX9_init_6 : decode cX9_init 6 = .ok (.putfield 9, 3) := by decide +kernel
theorem dX9_init_9 : decode cX9_init 9 = .ok (.aload_n 0, 1) := by decide +kernel
theorem dX9_init_10 : decode cX9_init 10 = .ok (.bipush 12, 2) := by decide +kernel
theorem dX9_init_12 : decode cX9_init 12 = .ok (.newarray .int, 2) := by decide +kernel
theorem dX9_init_14 : decode cX9_init 14 = .ok (.putfield 15, 3) := by decide +kernel
theorem dX9_init_17 : decode cX9_init 17 = .ok (.aload_n 0, 1) := by decide +kernel
theorem dX9_init_18 : decode cX9_init 18 = .ok (.bipush 12, 2) := by decide +kernel
theorem dX9_init_20 : decode cX9_init 20 = .ok (.newarray .int, 2) := by decide +kernel
theorem dX9_init_22 : decode cX9_init 22 = .ok (.putfield 19, 3) := by decide +kernel
theorem dX9_init_25 : decode cX9_init 25 = .ok (.aload_n 0, 1) := by decide +kernel
theorem dX9_init_26 : decode cX9_init 26 = .ok (.bipush 12, 2) := by decide +kernel
theorem dX9_init_28 : decode cX9_init 28 = .ok (.newarray .int, 2) := by decide +kernel
theorem dX9_init_30 : decode cX9_init 30 = .ok (.putfield 22, 3) := by decide +kernel
theorem dX9_init_33 : decode cX9_init 33 = .ok (.aload_n 0, 1) := by decide +kernel
theorem dX9_init_34 : decode cX9_init 34 = .ok (.bipush 12, 2) := by decide +kernel
theorem dX9_init_36 : decode cX9_init 36 = .ok (.newarray .int, 2) := by decide +kernel
theorem dX9_init_38 : decode cX9_init 38 = .ok (.putfield 25, 3) := by decide +kernel
theorem dX9_init_41 : decode cX9_init 41 = .ok (.aload_n 0, 1) := by decide +kernel
theorem dX9_init_42 : decode cX9_init 42 = .ok (.bipush 12, 2) := by decide +kernel
theorem dX9_init_44 : decode cX9_init 44 = .ok (.newarray .int, 2) := by decide +kernel
theorem dX9_init_46 : decode cX9_init 46 = .ok (.putfield 28, 3) := by decide +kernel
theorem dX9_init_49 : decode cX9_init 49 = .ok (.aload_n 0, 1) := by decide +kernel
theorem dX9_init_50 : decode cX9_init 50 = .ok (.sipush 144, 3) := by decide +kernel
theorem dX9_init_53 : decode cX9_init 53 = .ok (.newarray .int, 2) := by decide +kernel
theorem dX9_init_55 : decode cX9_init 55 = .ok (.putfield 31, 3) := by decide +kernel
theorem dX9_init_58 : decode cX9_init 58 = .ok (.aload_n 0, 1) := by decide +kernel
theorem dX9_init_59 : decode cX9_init 59 = .ok (.iconst 0, 1) := by decide +kernel
theorem dX9_init_60 : decode cX9_init 60 = .ok (.putfield 34, 3) := by decide +kernel
theorem dX9_init_63 : decode cX9_init 63 = .ok (.aload_n 0, 1) := by decide +kernel
theorem dX9_init_64 : decode cX9_init 64 = .ok (.iconst 2, 1) := by decide +kernel
theorem dX9_init_65 : decode cX9_init 65 = .ok (.putfield 37, 3) := by decide +kernel
theorem dX9_init_68 : decode cX9_init 68 = .ok (.aload_n 0, 1) := by decide +kernel
theorem dX9_init_69 : decode cX9_init 69 = .ok (.bipush 10, 2) := by decide +kernel
theorem dX9_init_71 : decode cX9_init 71 = .ok (.putfield 40, 3) := by decide +kernel
theorem dX9_init_74 : decode cX9_init 74 = .ok (.aload_n 0, 1) := by decide +kernel
theorem dX9_init_75 : decode cX9_init 75 = .ok (.iconst 0, 1) := by decide +kernel
theorem dX9_init_76 : decode cX9_init 76 = .ok (.putfield 43, 3) := by decide +kernel
theorem dX9_init_79 : decode cX9_init 79 = .ok (.aload_n 0, 1) := by decide +kernel
theorem dX9_init_80 : decode cX9_init 80 = .ok (.new 47, 3) := by decide +kernel
theorem dX9_init_83 : decode cX9_init 83 = .ok (.dup, 1) := by decide +kernel
theorem dX9_init_84 : decode cX9_init 84 = .ok (.invokespecial 49, 3) := by decide +kernel
theorem dX9_init_87 : decode cX9_init 87 = .ok (.putfield 50, 3) := by decide +kernel
theorem dX9_init_90 : decode cX9_init 90 = .ok (.return_, 1) := by decide +kernel
theorem dX9_copyFrom_0 : decode cX9_copyFrom 0 = .ok (.aload_n 0, 1) := by decide +kernel
theorem dX9_copyFrom_1 : decode cX9_copyFrom 1 = .ok (.aload_n 1, 1) := by decide +kernel
theorem dX9_copyFrom_2 : decode cX9_copyFrom 2 = .ok (.getfield 9, 3) := by decide +kernel
theorem dX9_copyFrom_5 : decode cX9_copyFrom 5 = .ok (.putfield 9, 3) := by decide +kernel
theorem dX9_copyFrom_8 : decode cX9_copyFrom 8 = .ok (.aload_n 1, 1) := by decide +kernel
theorem dX9_copyFrom_9 : decode cX9_copyFrom 9 = .ok (.getfield 15, 3) := by decide +kernel
theorem dX9_copyFrom_12 : decode cX9_copyFrom 12 = .ok (.iconst 0, 1) := by decide +kernel
theorem dX9_copyFrom_13 : decode cX9_copyFrom 13 = .ok (.aload_n 0, 1) := by decide +kernel
theorem dX9_copyFrom_14 : decode cX9_copyFrom 14 = .ok (.getfield 15, 3) := by decide +kernel
theorem dX9_copyFrom_17 : decode cX9_copyFrom 17 = .ok (.iconst 0, 1) := by decide +kernel
theorem dX9_copyFrom_18 : decode cX9_copyFrom 18 = .ok (.bipush 12, 2) := by decide +kernel
theorem dX9_copyFrom_20 : decode cX9_copyFrom 20 = .ok (.invokestatic 54, 3) := by decide +kernel
theorem dX9_copyFrom_23 : decode cX9_copyFrom 23 = .ok (.aload_n 1, 1) := by decide +kernel
theorem dX9_copyFrom_24 : decode cX9_copyFrom 24 = .ok (.getfield 19, 3) := by decide +kernel
theorem dX9_copyFrom_27 : decode cX9_copyFrom 27 = .ok (.iconst 0, 1) := by decide +kernel
theorem dX9_copyFrom_28 : decode cX9_copyFrom 28 = .ok (.aload_n 0, 1) := by decide +kernel
theorem dX9_copyFrom_29 : decode cX9_copyFrom 29 = .ok (.getfield 19, 3) := by decide +kernel
theorem dX9_copyFrom_32 : decode cX9_copyFrom 32 = .ok (.iconst 0, 1) := by decide +kernel
theorem dX9_copyFrom_33 : decode cX9_copyFrom 33 = .ok (.bipush 12, 2) := by decide +kernel
theorem dX9_copyFrom_35 : decode cX9_copyFrom 35 = .ok (.invokestatic 54, 3) := by decide +kernel
theorem dX9_copyFrom_38 : decode cX9_copyFrom 38 = .ok (.aload_n 1, 1) := by decide +kernel
theorem dX9_copyFrom_39 : decode cX9_copyFrom 39 = .ok (.getfield 22, 3) := by decide +kernel
theorem dX9_copyFrom_42 : decode cX9_copyFrom 42 = .ok (.iconst 0, 1) := by decide +kernel
theorem dX9_copyFrom_43 : decode cX9_copyFrom 43 = .ok (.aload_n 0, 1) := by decide +kernel
theorem dX9_copyFrom_44 : decode cX9_copyFrom 44 = .ok (.getfield 22, 3) := by decide +kernel
theorem dX9_copyFrom_47 : decode cX9_copyFrom 47 = .ok (.iconst 0, 1) := by decide +kernel
theorem dX9_copyFrom_48 : decode cX9_copyFrom 48 = .ok (.bipush 12, 2) := by decide +kernel
theorem dX9_copyFrom_50 : decode cX9_copyFrom 50 = .ok (.invokestatic 54, 3) := by decide +kernel
theorem dX9_copyFrom_53 : decode cX9_copyFrom 53 = .ok (.aload_n 1, 1) := by decide +kernel
theorem dX9_copyFrom_54 : decode cX9_copyFrom 54 = .ok (.getfield 25, 3) := by decide +kernel
theorem dX9_copyFrom_57 : decode cX9_copyFrom 57 = .ok (.iconst 0, 1) := by decide +kernel
theorem dX9_copyFrom_58 : decode cX9_copyFrom 58 = .ok (.aload_n 0, 1) := by decide +kernel
theorem dX9_copyFrom_59 : decode cX9_copyFrom 59 = .ok (.getfield 25, 3) := by decide +kernel
theorem dX9_copyFrom_62 : decode cX9_copyFrom 62 = .ok (.iconst 0, 1) := by decide +kernel
theorem dX9_copyFrom_63 : decode cX9_copyFrom 63 = .ok (.bipush 12, 2) := by decide +kernel
theorem dX9_copyFrom_65 : decode cX9_copyFrom 65 = .ok (.invokestatic 54, 3) := by decide +kernel
theorem dX9_copyFrom_68 : decode cX9_copyFrom 68 = .ok (.aload_n 1, 1) := by decide +kernel
theorem dX9_copyFrom_69 : decode cX9_copyFrom 69 = .ok (.getfield 28, 3) := by decide +kernel
theorem dX9_copyFrom_72 : decode cX9_copyFrom 72 = .ok (.iconst 0, 1) := by decide +kernel
theorem dX9_copyFrom_73 : decode cX9_copyFrom 73 = .ok (.aload_n 0, 1) := by decide +kernel
theorem dX9_copyFrom_74 : decode cX9_copyFrom 74 = .ok (.getfield 28, 3) := by decide +kernel
theorem dX9_copyFrom_77 : decode cX9_copyFrom 77 = .ok (.iconst 0, 1) := by decide +kernel
theorem dX9_copyFrom_78 : decode cX9_copyFrom 78 = .ok (.bipush 12, 2) := by decide +kernel
theorem dX9_copyFrom_80 : decode cX9_copyFrom 80 = .ok (.invokestatic 54, 3) := by decide +kernel
theorem dX9_copyFrom_83 : decode cX9_copyFrom 83 = .ok (.aload_n 1, 1) := by decide +kernel
theorem dX9_copyFrom_84 : decode cX9_copyFrom 84 = .ok (.getfield 31, 3) := by decide +kernel
theorem dX9_copyFrom_87 : decode cX9_copyFrom 87 = .ok (.iconst 0, 1) := by decide +kernel
theorem dX9_copyFrom_88 : decode cX9_copyFrom 88 = .ok (.aload_n 0, 1) := by decide +kernel
theorem dX9_copyFrom_89 : decode cX9_copyFrom 89 = .ok (.getfield 31, 3) := by decide +kernel
theorem dX9_copyFrom_92 : decode cX9_copyFrom 92 = .ok (.iconst 0, 1) := by decide +kernel
theorem dX9_copyFrom_93 : decode cX9_copyFrom 93 = .ok (.sipush 144, 3) := by decide +kernel
theorem dX9_copyFrom_96 : decode cX9_copyFrom 96 = .ok (.invokestatic 54, 3) := by decide +kernel
theorem dX9_copyFrom_99 : decode cX9_copyFrom 99 = .ok (.aload_n 0, 1) := by decide +kernel
theorem dX9_copyFrom_100 : decode cX9_copyFrom 100 = .ok (.aload_n 1, 1) := by decide +kernel
theorem dX9_copyFrom_101 : decode cX9_copyFrom 101 = .ok (.getfield 34, 3) := by decide +kernel
theorem dX9_copyFrom_104 : decode cX9_copyFrom 104 = .ok (.putfield 34, 3) := by decide +kernel
theorem dX9_copyFrom_107 : decode cX9_copyFrom 107 = .ok (.aload_n 0, 1) := by decide +kernel
theorem dX9_copyFrom_108 : decode cX9_copyFrom 108 = .ok (.aload_n 1, 1) := by decide +kernel
theorem dX9_copyFrom_109 : decode cX9_copyFrom 109 = .ok (.getfield 37, 3) := by decide +kernel
theorem dX9_copyFrom_112 : decode cX9_copyFrom 112 = .ok (.putfield 37, 3) := by decide +kernel
theorem dX9_copyFrom_115 : decode cX9_copyFrom 115 = .ok (.aload_n 0, 1) := by decide +kernel
theorem dX9_copyFrom_116 : decode cX9_copyFrom 116 = .ok (.aload_n 1, 1) := by decide +kernel
theorem dX9_copyFrom_117 : decode cX9_copyFrom 117 = .ok (.getfield 40, 3) := by decide +kernel
theorem dX9_copyFrom_120 : decode cX9_copyFrom 120 = .ok (.putfield 40, 3) := by decide +kernel
theorem dX9_copyFrom_123 : decode cX9_copyFrom 123 = .ok (.aload_n 0, 1) := by decide +kernel
theorem dX9_copyFrom_124 : decode cX9_copyFrom 124 = .ok (.aload_n 1, 1) := by decide +kernel
theorem dX9_copyFrom_125 : decode cX9_copyFrom 125 = .ok (.getfield 43, 3) := by decide +kernel
theorem dX9_copyFrom_128 : decode cX9_copyFrom 128 = .ok (.putfield 43, 3) := by decide +kernel
theorem dX9_copyFrom_131 : decode cX9_copyFrom 131 = .ok (.aload_n 0, 1) := by decide +kernel
theorem dX9_copyFrom_132 : decode cX9_copyFrom 132 = .ok (.getfield 50, 3) := by decide +kernel
theorem dX9_copyFrom_135 : decode cX9_copyFrom 135 = .ok (.aload_n 1, 1) := by decide +kernel
theorem dX9_copyFrom_136 : decode cX9_copyFrom 136 = .ok (.getfield 50, 3) := by decide +kernel
theorem dX9_copyFrom_139 : decode cX9_copyFrom 139 = .ok (.invokevirtual 60, 3) := by decide +kernel
theorem dX9_copyFrom_142 : decode cX9_copyFrom 142 = .ok (.return_, 1) := by decide +kernel
theorem dX9_removeUnits_0 : decode cX9_removeUnits 0 = .ok (.aload_n 0, 1) := by decide +kernel
theorem dX9_removeUnits_1 : decode cX9_removeUnits 1 = .ok (.iconst 0, 1) := by decide +kernel
theorem dX9_removeUnits_2 : decode cX9_removeUnits 2 = .ok (.putfield 9, 3) := by decide +kernel
theorem dX9_removeUnits_5 : decode cX9_removeUnits 5 = .ok (.aload_n 0, 1) := by decide +kernel
theorem dX9_removeUnits_6 : decode cX9_removeUnits 6 = .ok (.iconst 0, 1) := by decide +kernel
theorem dX9_removeUnits_7 : decode cX9_removeUnits 7 = .ok (.putfield 34, 3) := by decide +kernel
theorem dX9_removeUnits_10 : decode cX9_removeUnits 10 = .ok (.aload_n 0, 1) := by decide +kernel
theorem dX9_removeUnits_11 : decode cX9_removeUnits 11 = .ok (.getfield 28, 3) := by decide +kernel
theorem dX9_removeUnits_14 : decode cX9_removeUnits 14 = .ok (.iconst 0, 1) := by decide +kernel
theorem dX9_removeUnits_15 : decode cX9_removeUnits 15 = .ok (.invokestatic 64, 3) := by decide +kernel
theorem dX9_removeUnits_18 : decode cX9_removeUnits 18 = .ok (.aload_n 0, 1) := by decide +kernel
theorem dX9_removeUnits_19 : decode cX9_removeUnits 19 = .ok (.getfield 31, 3) := by decide +kernel
theorem dX9_removeUnits_22 : decode cX9_removeUnits 22 = .ok (.iconst 0, 1) := by decide +kernel
theorem dX9_removeUnits_23 : decode cX9_removeUnits 23 = .ok (.invokestatic 64, 3) := by decide +kernel
theorem dX9_removeUnits_26 : decode cX9_removeUnits 26 = .ok (.return_, 1) := by decide +kernel
theorem dX9_dropPlan_0 : decode cX9_dropPlan 0 = .ok (.aload_n 0, 1) := by decide +kernel
theorem dX9_dropPlan_1 : decode cX9_dropPlan 1 = .ok (.iconst 0, 1) := by decide +kernel
theorem dX9_dropPlan_2 : decode cX9_dropPlan 2 = .ok (.putfield 43, 3) := by decide +kernel
theorem dX9_dropPlan_5 : decode cX9_dropPlan 5 = .ok (.aload_n 0, 1) := by decide +kernel
theorem dX9_dropPlan_6 : decode cX9_dropPlan 6 = .ok (.getfield 50, 3) := by decide +kernel
theorem dX9_dropPlan_9 : decode cX9_dropPlan 9 = .ok (.invokevirtual 70, 3) := by decide +kernel
theorem dX9_dropPlan_12 : decode cX9_dropPlan 12 = .ok (.return_, 1) := by decide +kernel
theorem dX9_addUnit_0 : decode cX9_addUnit 0 = .ok (.aload_n 0, 1) := by decide +kernel
theorem dX9_addUnit_1 : decode cX9_addUnit 1 = .ok (.getfield 9, 3) := by decide +kernel
theorem dX9_addUnit_4 : decode cX9_addUnit 4 = .ok (.bipush 12, 2) := by decide +kernel
theorem dX9_addUnit_6 : decode cX9_addUnit 6 = .ok (.if_icmp .ge 16, 3) := by decide +kernel
theorem dX9_addUnit_9 : decode cX9_addUnit 9 = .ok (.iload_n 1, 1) := by decide +kernel
theorem dX9_addUnit_10 : decode cX9_addUnit 10 = .ok (.ifCond .eq 12, 3) := by decide +kernel
theorem dX9_addUnit_13 : decode cX9_addUnit 13 = .ok (.iload_n 2, 1) := by decide +kernel
theorem dX9_addUnit_14 : decode cX9_addUnit 14 = .ok (.ifCond .eq 8, 3) := by decide +kernel
theorem dX9_addUnit_17 : decode cX9_addUnit 17 = .ok (.iload_n 3, 1) := by decide +kernel
theorem dX9_addUnit_18 : decode cX9_addUnit 18 = .ok (.iconst 4, 1) := by decide +kernel
theorem dX9_addUnit_19 : decode cX9_addUnit 19 = .ok (.if_icmp .lt 5, 3) := by decide +kernel
theorem dX9_addUnit_22 : decode cX9_addUnit 22 = .ok (.iconst 0, 1) := by decide +kernel
theorem dX9_addUnit_23 : decode cX9_addUnit 23 = .ok (.ireturn, 1) := by decide +kernel
theorem dX9_addUnit_24 : decode cX9_addUnit 24 = .ok (.aload_n 0, 1) := by decide +kernel
theorem dX9_addUnit_25 : decode cX9_addUnit 25 = .ok (.getfield 15, 3) := by decide +kernel
theorem dX9_addUnit_28 : decode cX9_addUnit 28 = .ok (.aload_n 0, 1) := by decide +kernel
theorem dX9_addUnit_29 : decode cX9_addUnit 29 = .ok (.getfield 9, 3) := by decide +kernel
theorem dX9_addUnit_32 : decode cX9_addUnit 32 = .ok (.iload_n 1, 1) := by decide +kernel
theorem dX9_addUnit_33 : decode cX9_addUnit 33 = .ok (.iastore, 1) := by decide +kernel
theorem dX9_addUnit_34 : decode cX9_addUnit 34 = .ok (.aload_n 0, 1) := by decide +kernel
theorem dX9_addUnit_35 : decode cX9_addUnit 35 = .ok (.getfield 19, 3) := by decide +kernel
theorem dX9_addUnit_38 : decode cX9_addUnit 38 = .ok (.aload_n 0, 1) := by decide +kernel
theorem dX9_addUnit_39 : decode cX9_addUnit 39 = .ok (.getfield 9, 3) := by decide +kernel
theorem dX9_addUnit_42 : decode cX9_addUnit 42 = .ok (.iload_n 2, 1) := by decide +kernel
theorem dX9_addUnit_43 : decode cX9_addUnit 43 = .ok (.iastore, 1) := by decide +kernel
theorem dX9_addUnit_44 : decode cX9_addUnit 44 = .ok (.aload_n 0, 1) := by decide +kernel
theorem dX9_addUnit_45 : decode cX9_addUnit 45 = .ok (.getfield 22, 3) := by decide +kernel
theorem dX9_addUnit_48 : decode cX9_addUnit 48 = .ok (.aload_n 0, 1) := by decide +kernel
theorem dX9_addUnit_49 : decode cX9_addUnit 49 = .ok (.getfield 9, 3) := by decide +kernel
theorem dX9_addUnit_52 : decode cX9_addUnit 52 = .ok (.iload_n 3, 1) := by decide +kernel
theorem dX9_addUnit_53 : decode cX9_addUnit 53 = .ok (.iastore, 1) := by decide +kernel
theorem dX9_addUnit_54 : decode cX9_addUnit 54 = .ok (.aload_n 0, 1) := by decide +kernel
theorem dX9_addUnit_55 : decode cX9_addUnit 55 = .ok (.getfield 25, 3) := by decide +kernel
theorem dX9_addUnit_58 : decode cX9_addUnit 58 = .ok (.aload_n 0, 1) := by decide +kernel
theorem dX9_addUnit_59 : decode cX9_addUnit 59 = .ok (.getfield 9, 3) := by decide +kernel
theorem dX9_addUnit_62 : decode cX9_addUnit 62 = .ok (.iconst 0, 1) := by decide +kernel
theorem dX9_addUnit_63 : decode cX9_addUnit 63 = .ok (.iastore, 1) := by decide +kernel
theorem dX9_addUnit_64 : decode cX9_addUnit 64 = .ok (.iload 4, 2) := by decide +kernel
theorem dX9_addUnit_66 : decode cX9_addUnit 66 = .ok (.ifCond .eq 18, 3) := by decide +kernel
theorem dX9_addUnit_69 : decode cX9_addUnit 69 = .ok (.aload_n 0, 1) := by decide +kernel
theorem dX9_addUnit_70 : decode cX9_addUnit 70 = .ok (.dup, 1) := by decide +kernel
theorem dX9_addUnit_71 : decode cX9_addUnit 71 = .ok (.getfield 34, 3) := by decide +kernel
theorem dX9_addUnit_74 : decode cX9_addUnit 74 = .ok (.iconst 1, 1) := by decide +kernel
theorem dX9_addUnit_75 : decode cX9_addUnit 75 = .ok (.aload_n 0, 1) := by decide +kernel
theorem dX9_addUnit_76 : decode cX9_addUnit 76 = .ok (.getfield 9, 3) := by decide +kernel
theorem dX9_addUnit_79 : decode cX9_addUnit 79 = .ok (.ishl, 1) := by decide +kernel
theorem dX9_addUnit_80 : decode cX9_addUnit 80 = .ok (.ior, 1) := by decide +kernel
theorem dX9_addUnit_81 : decode cX9_addUnit 81 = .ok (.putfield 34, 3) := by decide +kernel
theorem dX9_addUnit_84 : decode cX9_addUnit 84 = .ok (.aload_n 0, 1) := by decide +kernel
theorem dX9_addUnit_85 : decode cX9_addUnit 85 = .ok (.dup, 1) := by decide +kernel
theorem dX9_addUnit_86 : decode cX9_addUnit 86 = .ok (.getfield 9, 3) := by decide +kernel
theorem dX9_addUnit_89 : decode cX9_addUnit 89 = .ok (.iconst 1, 1) := by decide +kernel
theorem dX9_addUnit_90 : decode cX9_addUnit 90 = .ok (.iadd, 1) := by decide +kernel
theorem dX9_addUnit_91 : decode cX9_addUnit 91 = .ok (.putfield 9, 3) := by decide +kernel
theorem dX9_addUnit_94 : decode cX9_addUnit 94 = .ok (.iconst 1, 1) := by decide +kernel
theorem dX9_addUnit_95 : decode cX9_addUnit 95 = .ok (.ireturn, 1) := by decide +kernel
theorem dX9_setLength_0 : decode cX9_setLength 0 = .ok (.iload_n 1, 1) := by decide +kernel
theorem dX9_setLength_1 : decode cX9_setLength 1 = .ok (.aload_n 0, 1) := by decide +kernel
theorem dX9_setLength_2 : decode cX9_setLength 2 = .ok (.getfield 9, 3) := by decide +kernel
theorem dX9_setLength_5 : decode cX9_setLength 5 = .ok (.if_icmp .ge 16, 3) := by decide +kernel
theorem dX9_setLength_8 : decode cX9_setLength 8 = .ok (.iload_n 2, 1) := by decide +kernel
theorem dX9_setLength_9 : decode cX9_setLength 9 = .ok (.aload_n 0, 1) := by decide +kernel
theorem dX9_setLength_10 : decode cX9_setLength 10 = .ok (.getfield 9, 3) := by decide +kernel
theorem dX9_setLength_13 : decode cX9_setLength 13 = .ok (.if_icmp .ge 8, 3) := by decide +kernel
theorem dX9_setLength_16 : decode cX9_setLength 16 = .ok (.iload_n 1, 1) := by decide +kernel
theorem dX9_setLength_17 : decode cX9_setLength 17 = .ok (.iload_n 2, 1) := by decide +kernel
theorem dX9_setLength_18 : decode cX9_setLength 18 = .ok (.if_icmp .ne 5, 3) := by decide +kernel
theorem dX9_setLength_21 : decode cX9_setLength 21 = .ok (.iconst 0, 1) := by decide +kernel
theorem dX9_setLength_22 : decode cX9_setLength 22 = .ok (.ireturn, 1) := by decide +kernel
theorem dX9_setLength_23 : decode cX9_setLength 23 = .ok (.iload_n 3, 1) := by decide +kernel
theorem dX9_setLength_24 : decode cX9_setLength 24 = .ok (.ifCond .ne 14, 3) := by decide +kernel
theorem dX9_setLength_27 : decode cX9_setLength 27 = .ok (.aload_n 0, 1) := by decide +kernel
theorem dX9_setLength_28 : decode cX9_setLength 28 = .ok (.iload_n 1, 1) := by decide +kernel
theorem dX9_setLength_29 : decode cX9_setLength 29 = .ok (.iload_n 2, 1) := by decide +kernel
theorem dX9_setLength_30 : decode cX9_setLength 30 = .ok (.invokevirtual 73, 3) := by decide +kernel
theorem dX9_setLength_33 : decode cX9_setLength 33 = .ok (.ifCond .ne 5, 3) := by decide +kernel
theorem dX9_setLength_36 : decode cX9_setLength 36 = .ok (.iconst 0, 1) := by decide +kernel
theorem dX9_setLength_37 : decode cX9_setLength 37 = .ok (.ireturn, 1) := by decide +kernel
theorem dX9_setLength_38 : decode cX9_setLength 38 = .ok (.aload_n 0, 1) := by decide +kernel
theorem dX9_setLength_39 : decode cX9_setLength 39 = .ok (.getfield 31, 3) := by decide +kernel
theorem dX9_setLength_42 : decode cX9_setLength 42 = .ok (.iload_n 1, 1) := by decide +kernel
theorem dX9_setLength_43 : decode cX9_setLength 43 = .ok (.bipush 12, 2) := by decide +kernel
theorem dX9_setLength_45 : decode cX9_setLength 45 = .ok (.imul, 1) := by decide +kernel
theorem dX9_setLength_46 : decode cX9_setLength 46 = .ok (.iload_n 2, 1) := by decide +kernel
theorem dX9_setLength_47 : decode cX9_setLength 47 = .ok (.iadd, 1) := by decide +kernel
theorem dX9_setLength_48 : decode cX9_setLength 48 = .ok (.iload_n 3, 1) := by decide +kernel
theorem dX9_setLength_49 : decode cX9_setLength 49 = .ok (.iastore, 1) := by decide +kernel
theorem dX9_setLength_50 : decode cX9_setLength 50 = .ok (.aload_n 0, 1) := by decide +kernel
theorem dX9_setLength_51 : decode cX9_setLength 51 = .ok (.getfield 31, 3) := by decide +kernel
theorem dX9_setLength_54 : decode cX9_setLength 54 = .ok (.iload_n 2, 1) := by decide +kernel
theorem dX9_setLength_55 : decode cX9_setLength 55 = .ok (.bipush 12, 2) := by decide +kernel
theorem dX9_setLength_57 : decode cX9_setLength 57 = .ok (.imul, 1) := by decide +kernel
theorem dX9_setLength_58 : decode cX9_setLength 58 = .ok (.iload_n 1, 1) := by decide +kernel
theorem dX9_setLength_59 : decode cX9_setLength 59 = .ok (.iadd, 1) := by decide +kernel
theorem dX9_setLength_60 : decode cX9_setLength 60 = .ok (.iload_n 3, 1) := by decide +kernel
theorem dX9_setLength_61 : decode cX9_setLength 61 = .ok (.iastore, 1) := by decide +kernel
theorem dX9_setLength_62 : decode cX9_setLength 62 = .ok (.aload_n 0, 1) := by decide +kernel
theorem dX9_setLength_63 : decode cX9_setLength 63 = .ok (.getfield 28, 3) := by decide +kernel
theorem dX9_setLength_66 : decode cX9_setLength 66 = .ok (.iload_n 1, 1) := by decide +kernel
theorem dX9_setLength_67 : decode cX9_setLength 67 = .ok (.dup2, 1) := by decide +kernel
theorem dX9_setLength_68 : decode cX9_setLength 68 = .ok (.iaload, 1) := by decide +kernel
theorem dX9_setLength_69 : decode cX9_setLength 69 = .ok (.iconst 1, 1) := by decide +kernel
theorem dX9_setLength_70 : decode cX9_setLength 70 = .ok (.iload_n 2, 1) := by decide +kernel
theorem dX9_setLength_71 : decode cX9_setLength 71 = .ok (.ishl, 1) := by decide +kernel
theorem dX9_setLength_72 : decode cX9_setLength 72 = .ok (.iconst (-1), 1) := by decide +kernel
theorem dX9_setLength_73 : decode cX9_setLength 73 = .ok (.ixor, 1) := by decide +kernel
theorem dX9_setLength_74 : decode cX9_setLength 74 = .ok (.iand, 1) := by decide +kernel
theorem dX9_setLength_75 : decode cX9_setLength 75 = .ok (.iastore, 1) := by decide +kernel
theorem dX9_setLength_76 : decode cX9_setLength 76 = .ok (.aload_n 0, 1) := by decide +kernel
theorem dX9_setLength_77 : decode cX9_setLength 77 = .ok (.getfield 28, 3) := by decide +kernel
theorem dX9_setLength_80 : decode cX9_setLength 80 = .ok (.iload_n 2, 1) := by decide +kernel
theorem dX9_setLength_81 : decode cX9_setLength 81 = .ok (.dup2, 1) := by decide +kernel
theorem dX9_setLength_82 : decode cX9_setLength 82 = .ok (.iaload, 1) := by decide +kernel
theorem dX9_setLength_83 : decode cX9_setLength 83 = .ok (.iconst 1, 1) := by decide +kernel
theorem dX9_setLength_84 : decode cX9_setLength 84 = .ok (.iload_n 1, 1) := by decide +kernel
theorem dX9_setLength_85 : decode cX9_setLength 85 = .ok (.ishl, 1) := by decide +kernel
theorem dX9_setLength_86 : decode cX9_setLength 86 = .ok (.iconst (-1), 1) := by decide +kernel
theorem dX9_setLength_87 : decode cX9_setLength 87 = .ok (.ixor, 1) := by decide +kernel
theorem dX9_setLength_88 : decode cX9_setLength 88 = .ok (.iand, 1) := by decide +kernel
theorem dX9_setLength_89 : decode cX9_setLength 89 = .ok (.iastore, 1) := by decide +kernel
theorem dX9_setLength_90 : decode cX9_setLength 90 = .ok (.iload_n 3, 1) := by decide +kernel
theorem dX9_setLength_91 : decode cX9_setLength 91 = .ok (.ifCond .le 27, 3) := by decide +kernel
theorem dX9_setLength_94 : decode cX9_setLength 94 = .ok (.aload_n 0, 1) := by decide +kernel
theorem dX9_setLength_95 : decode cX9_setLength 95 = .ok (.getfield 28, 3) := by decide +kernel
theorem dX9_setLength_98 : decode cX9_setLength 98 = .ok (.iload_n 1, 1) := by decide +kernel
theorem dX9_setLength_99 : decode cX9_setLength 99 = .ok (.dup2, 1) := by decide +kernel
theorem dX9_setLength_100 : decode cX9_setLength 100 = .ok (.iaload, 1) := by decide +kernel
theorem dX9_setLength_101 : decode cX9_setLength 101 = .ok (.iconst 1, 1) := by decide +kernel
theorem dX9_setLength_102 : decode cX9_setLength 102 = .ok (.iload_n 2, 1) := by decide +kernel
theorem dX9_setLength_103 : decode cX9_setLength 103 = .ok (.ishl, 1) := by decide +kernel
theorem dX9_setLength_104 : decode cX9_setLength 104 = .ok (.ior, 1) := by decide +kernel
theorem dX9_setLength_105 : decode cX9_setLength 105 = .ok (.iastore, 1) := by decide +kernel
theorem dX9_setLength_106 : decode cX9_setLength 106 = .ok (.aload_n 0, 1) := by decide +kernel
theorem dX9_setLength_107 : decode cX9_setLength 107 = .ok (.getfield 28, 3) := by decide +kernel
theorem dX9_setLength_110 : decode cX9_setLength 110 = .ok (.iload_n 2, 1) := by decide +kernel
theorem dX9_setLength_111 : decode cX9_setLength 111 = .ok (.dup2, 1) := by decide +kernel
theorem dX9_setLength_112 : decode cX9_setLength 112 = .ok (.iaload, 1) := by decide +kernel
theorem dX9_setLength_113 : decode cX9_setLength 113 = .ok (.iconst 1, 1) := by decide +kernel
theorem dX9_setLength_114 : decode cX9_setLength 114 = .ok (.iload_n 1, 1) := by decide +kernel
theorem dX9_setLength_115 : decode cX9_setLength 115 = .ok (.ishl, 1) := by decide +kernel
theorem dX9_setLength_116 : decode cX9_setLength 116 = .ok (.ior, 1) := by decide +kernel
theorem dX9_setLength_117 : decode cX9_setLength 117 = .ok (.iastore, 1) := by decide +kernel
theorem dX9_setLength_118 : decode cX9_setLength 118 = .ok (.iconst 1, 1) := by decide +kernel
theorem dX9_setLength_119 : decode cX9_setLength 119 = .ok (.ireturn, 1) := by decide +kernel
theorem dX9_setOuter_0 : decode cX9_setOuter 0 = .ok (.iload_n 1, 1) := by decide +kernel
theorem dX9_setOuter_1 : decode cX9_setOuter 1 = .ok (.aload_n 0, 1) := by decide +kernel
theorem dX9_setOuter_2 : decode cX9_setOuter 2 = .ok (.getfield 9, 3) := by decide +kernel
theorem dX9_setOuter_5 : decode cX9_setOuter 5 = .ok (.if_icmp .lt 5, 3) := by decide +kernel
theorem dX9_setOuter_8 : decode cX9_setOuter 8 = .ok (.iconst 0, 1) := by decide +kernel
theorem dX9_setOuter_9 : decode cX9_setOuter 9 = .ok (.ireturn, 1) := by decide +kernel
theorem dX9_setOuter_10 : decode cX9_setOuter 10 = .ok (.aload_n 0, 1) := by decide +kernel
theorem dX9_setOuter_11 : decode cX9_setOuter 11 = .ok (.getfield 25, 3) := by decide +kernel
theorem dX9_setOuter_14 : decode cX9_setOuter 14 = .ok (.iload_n 1, 1) := by decide +kernel
theorem dX9_setOuter_15 : decode cX9_setOuter 15 = .ok (.iload_n 2, 1) := by decide +kernel
theorem dX9_setOuter_16 : decode cX9_setOuter 16 = .ok (.iastore, 1) := by decide +kernel
theorem dX9_setOuter_17 : decode cX9_setOuter 17 = .ok (.iconst 1, 1) := by decide +kernel
theorem dX9_setOuter_18 : decode cX9_setOuter 18 = .ok (.ireturn, 1) := by decide +kernel
theorem dX9_lengthBetween_0 : decode cX9_lengthBetween 0 = .ok (.aload_n 0, 1) := by decide +kernel
theorem dX9_lengthBetween_1 : decode cX9_lengthBetween 1 = .ok (.getfield 31, 3) := by decide +kernel
theorem dX9_lengthBetween_4 : decode cX9_lengthBetween 4 = .ok (.iload_n 1, 1) := by decide +kernel
theorem dX9_lengthBetween_5 : decode cX9_lengthBetween 5 = .ok (.bipush 12, 2) := by decide +kernel
theorem dX9_lengthBetween_7 : decode cX9_lengthBetween 7 = .ok (.imul, 1) := by decide +kernel
theorem dX9_lengthBetween_8 : decode cX9_lengthBetween 8 = .ok (.iload_n 2, 1) := by decide +kernel
theorem dX9_lengthBetween_9 : decode cX9_lengthBetween 9 = .ok (.iadd, 1) := by decide +kernel
theorem dX9_lengthBetween_10 : decode cX9_lengthBetween 10 = .ok (.iaload, 1) := by decide +kernel
theorem dX9_lengthBetween_11 : decode cX9_lengthBetween 11 = .ok (.ireturn, 1) := by decide +kernel
theorem dX9_allUnits_0 : decode cX9_allUnits 0 = .ok (.iconst 1, 1) := by decide +kernel
theorem dX9_allUnits_1 : decode cX9_allUnits 1 = .ok (.aload_n 0, 1) := by decide +kernel
theorem dX9_allUnits_2 : decode cX9_allUnits 2 = .ok (.getfield 9, 3) := by decide +kernel
theorem dX9_allUnits_5 : decode cX9_allUnits 5 = .ok (.ishl, 1) := by decide +kernel
theorem dX9_allUnits_6 : decode cX9_allUnits 6 = .ok (.iconst 1, 1) := by decide +kernel
theorem dX9_allUnits_7 : decode cX9_allUnits 7 = .ok (.isub, 1) := by decide +kernel
theorem dX9_allUnits_8 : decode cX9_allUnits 8 = .ok (.ireturn, 1) := by decide +kernel
theorem dX9_isAtEdge_0 : decode cX9_isAtEdge 0 = .ok (.aload_n 0, 1) := by decide +kernel
theorem dX9_isAtEdge_1 : decode cX9_isAtEdge 1 = .ok (.getfield 43, 3) := by decide +kernel
theorem dX9_isAtEdge_4 : decode cX9_isAtEdge 4 = .ok (.ifCond .eq 36, 3) := by decide +kernel
theorem dX9_isAtEdge_7 : decode cX9_isAtEdge 7 = .ok (.aload_n 0, 1) := by decide +kernel
theorem dX9_isAtEdge_8 : decode cX9_isAtEdge 8 = .ok (.getfield 28, 3) := by decide +kernel
theorem dX9_isAtEdge_11 : decode cX9_isAtEdge 11 = .ok (.iload_n 1, 1) := by decide +kernel
theorem dX9_isAtEdge_12 : decode cX9_isAtEdge 12 = .ok (.iaload, 1) := by decide +kernel
theorem dX9_isAtEdge_13 : decode cX9_isAtEdge 13 = .ok (.aload_n 0, 1) := by decide +kernel
theorem dX9_isAtEdge_14 : decode cX9_isAtEdge 14 = .ok (.getfield 50, 3) := by decide +kernel
theorem dX9_isAtEdge_17 : decode cX9_isAtEdge 17 = .ok (.getfield 77, 3) := by decide +kernel
theorem dX9_isAtEdge_20 : decode cX9_isAtEdge 20 = .ok (.aload_n 0, 1) := by decide +kernel
theorem dX9_isAtEdge_21 : decode cX9_isAtEdge 21 = .ok (.getfield 50, 3) := by decide +kernel
theorem dX9_isAtEdge_24 : decode cX9_isAtEdge 24 = .ok (.getfield 80, 3) := by decide +kernel
theorem dX9_isAtEdge_27 : decode cX9_isAtEdge 27 = .ok (.iload_n 1, 1) := by decide +kernel
theorem dX9_isAtEdge_28 : decode cX9_isAtEdge 28 = .ok (.iaload, 1) := by decide +kernel
theorem dX9_isAtEdge_29 : decode cX9_isAtEdge 29 = .ok (.iaload, 1) := by decide +kernel
theorem dX9_isAtEdge_30 : decode cX9_isAtEdge 30 = .ok (.iconst (-1), 1) := by decide +kernel
theorem dX9_isAtEdge_31 : decode cX9_isAtEdge 31 = .ok (.ixor, 1) := by decide +kernel
theorem dX9_isAtEdge_32 : decode cX9_isAtEdge 32 = .ok (.iand, 1) := by decide +kernel
theorem dX9_isAtEdge_33 : decode cX9_isAtEdge 33 = .ok (.ifCond .eq 7, 3) := by decide +kernel
theorem dX9_isAtEdge_36 : decode cX9_isAtEdge 36 = .ok (.iconst 1, 1) := by decide +kernel
theorem dX9_isAtEdge_37 : decode cX9_isAtEdge 37 = .ok (.goto 4, 3) := by decide +kernel
theorem dX9_isAtEdge_40 : decode cX9_isAtEdge 40 = .ok (.iconst 0, 1) := by decide +kernel
theorem dX9_isAtEdge_41 : decode cX9_isAtEdge 41 = .ok (.ireturn, 1) := by decide +kernel
theorem dX9_countBorders_0 : decode cX9_countBorders 0 = .ok (.iconst 0, 1) := by decide +kernel
theorem dX9_countBorders_1 : decode cX9_countBorders 1 = .ok (.istore_n 1, 1) := by decide +kernel
theorem dX9_countBorders_2 : decode cX9_countBorders 2 = .ok (.iconst 0, 1) := by decide +kernel
theorem dX9_countBorders_3 : decode cX9_countBorders 3 = .ok (.istore_n 2, 1) := by decide +kernel
theorem dX9_countBorders_4 : decode cX9_countBorders 4 = .ok (.iload_n 2, 1) := by decide +kernel
theorem dX9_countBorders_5 : decode cX9_countBorders 5 = .ok (.aload_n 0, 1) := by decide +kernel
theorem dX9_countBorders_6 : decode cX9_countBorders 6 = .ok (.getfield 9, 3) := by decide +kernel
theorem dX9_countBorders_9 : decode cX9_countBorders 9 = .ok (.if_icmp .ge 21, 3) := by decide +kernel
theorem dX9_countBorders_12 : decode cX9_countBorders 12 = .ok (.iload_n 1, 1) := by decide +kernel
theorem dX9_countBorders_13 : decode cX9_countBorders 13 = .ok (.aload_n 0, 1) := by decide +kernel
theorem dX9_countBorders_14 : decode cX9_countBorders 14 = .ok (.getfield 28, 3) := by decide +kernel
theorem dX9_countBorders_17 : decode cX9_countBorders 17 = .ok (.iload_n 2, 1) := by decide +kernel
theorem dX9_countBorders_18 : decode cX9_countBorders 18 = .ok (.iaload, 1) := by decide +kernel
theorem dX9_countBorders_19 : decode cX9_countBorders 19 = .ok (.invokestatic 83, 3) := by decide +kernel
theorem dX9_countBorders_22 : decode cX9_countBorders 22 = .ok (.iadd, 1) := by decide +kernel
theorem dX9_countBorders_23 : decode cX9_countBorders 23 = .ok (.istore_n 1, 1) := by decide +kernel
theorem dX9_countBorders_24 : decode cX9_countBorders 24 = .ok (.iinc 2 1, 3) := by decide +kernel
theorem dX9_countBorders_27 : decode cX9_countBorders 27 = .ok (.goto (-23), 3) := by decide +kernel
theorem dX9_countBorders_30 : decode cX9_countBorders 30 = .ok (.iload_n 1, 1) := by decide +kernel
theorem dX9_countBorders_31 : decode cX9_countBorders 31 = .ok (.iconst 2, 1) := by decide +kernel
theorem dX9_countBorders_32 : decode cX9_countBorders 32 = .ok (.idiv, 1) := by decide +kernel
theorem dX9_countBorders_33 : decode cX9_countBorders 33 = .ok (.ireturn, 1) := by decide +kernel
theorem dX9_populationOf_0 : decode cX9_populationOf 0 = .ok (.iconst 0, 1) := by decide +kernel
theorem dX9_populationOf_1 : decode cX9_populationOf 1 = .ok (.istore_n 2, 1) := by decide +kernel
theorem dX9_populationOf_2 : decode cX9_populationOf 2 = .ok (.iconst 0, 1) := by decide +kernel
theorem dX9_populationOf_3 : decode cX9_populationOf 3 = .ok (.istore_n 3, 1) := by decide +kernel
theorem dX9_populationOf_4 : decode cX9_populationOf 4 = .ok (.iload_n 3, 1) := by decide +kernel
theorem dX9_populationOf_5 : decode cX9_populationOf 5 = .ok (.aload_n 0, 1) := by decide +kernel
theorem dX9_populationOf_6 : decode cX9_populationOf 6 = .ok (.getfield 9, 3) := by decide +kernel
theorem dX9_populationOf_9 : decode cX9_populationOf 9 = .ok (.if_icmp .ge 26, 3) := by decide +kernel
theorem dX9_populationOf_12 : decode cX9_populationOf 12 = .ok (.iload_n 1, 1) := by decide +kernel
theorem dX9_populationOf_13 : decode cX9_populationOf 13 = .ok (.iload_n 3, 1) := by decide +kernel
theorem dX9_populationOf_14 : decode cX9_populationOf 14 = .ok (.ishr, 1) := by decide +kernel
theorem dX9_populationOf_15 : decode cX9_populationOf 15 = .ok (.iconst 1, 1) := by decide +kernel
theorem dX9_populationOf_16 : decode cX9_populationOf 16 = .ok (.iand, 1) := by decide +kernel
theorem dX9_populationOf_17 : decode cX9_populationOf 17 = .ok (.ifCond .eq 12, 3) := by decide +kernel
theorem dX9_populationOf_20 : decode cX9_populationOf 20 = .ok (.iload_n 2, 1) := by decide +kernel
theorem dX9_populationOf_21 : decode cX9_populationOf 21 = .ok (.aload_n 0, 1) := by decide +kernel
theorem dX9_populationOf_22 : decode cX9_populationOf 22 = .ok (.getfield 15, 3) := by decide +kernel
theorem dX9_populationOf_25 : decode cX9_populationOf 25 = .ok (.iload_n 3, 1) := by decide +kernel
theorem dX9_populationOf_26 : decode cX9_populationOf 26 = .ok (.iaload, 1) := by decide +kernel
theorem dX9_populationOf_27 : decode cX9_populationOf 27 = .ok (.iadd, 1) := by decide +kernel
theorem dX9_populationOf_28 : decode cX9_populationOf 28 = .ok (.istore_n 2, 1) := by decide +kernel
theorem dX9_populationOf_29 : decode cX9_populationOf 29 = .ok (.iinc 3 1, 3) := by decide +kernel
theorem dX9_populationOf_32 : decode cX9_populationOf 32 = .ok (.goto (-28), 3) := by decide +kernel
theorem dX9_populationOf_35 : decode cX9_populationOf 35 = .ok (.iload_n 2, 1) := by decide +kernel
theorem dX9_populationOf_36 : decode cX9_populationOf 36 = .ok (.ireturn, 1) := by decide +kernel
theorem dX9_areaOf_0 : decode cX9_areaOf 0 = .ok (.iconst 0, 1) := by decide +kernel
theorem dX9_areaOf_1 : decode cX9_areaOf 1 = .ok (.istore_n 2, 1) := by decide +kernel
theorem dX9_areaOf_2 : decode cX9_areaOf 2 = .ok (.iconst 0, 1) := by decide +kernel
theorem dX9_areaOf_3 : decode cX9_areaOf 3 = .ok (.istore_n 3, 1) := by decide +kernel
theorem dX9_areaOf_4 : decode cX9_areaOf 4 = .ok (.iload_n 3, 1) := by decide +kernel
theorem dX9_areaOf_5 : decode cX9_areaOf 5 = .ok (.aload_n 0, 1) := by decide +kernel
theorem dX9_areaOf_6 : decode cX9_areaOf 6 = .ok (.getfield 9, 3) := by decide +kernel
theorem dX9_areaOf_9 : decode cX9_areaOf 9 = .ok (.if_icmp .ge 26, 3) := by decide +kernel
theorem dX9_areaOf_12 : decode cX9_areaOf 12 = .ok (.iload_n 1, 1) := by decide +kernel
theorem dX9_areaOf_13 : decode cX9_areaOf 13 = .ok (.iload_n 3, 1) := by decide +kernel
theorem dX9_areaOf_14 : decode cX9_areaOf 14 = .ok (.ishr, 1) := by decide +kernel
theorem dX9_areaOf_15 : decode cX9_areaOf 15 = .ok (.iconst 1, 1) := by decide +kernel
theorem dX9_areaOf_16 : decode cX9_areaOf 16 = .ok (.iand, 1) := by decide +kernel
theorem dX9_areaOf_17 : decode cX9_areaOf 17 = .ok (.ifCond .eq 12, 3) := by decide +kernel
theorem dX9_areaOf_20 : decode cX9_areaOf 20 = .ok (.iload_n 2, 1) := by decide +kernel
theorem dX9_areaOf_21 : decode cX9_areaOf 21 = .ok (.aload_n 0, 1) := by decide +kernel
theorem dX9_areaOf_22 : decode cX9_areaOf 22 = .ok (.getfield 19, 3) := by decide +kernel
theorem dX9_areaOf_25 : decode cX9_areaOf 25 = .ok (.iload_n 3, 1) := by decide +kernel
theorem dX9_areaOf_26 : decode cX9_areaOf 26 = .ok (.iaload, 1) := by decide +kernel
theorem dX9_areaOf_27 : decode cX9_areaOf 27 = .ok (.iadd, 1) := by decide +kernel
theorem dX9_areaOf_28 : decode cX9_areaOf 28 = .ok (.istore_n 2, 1) := by decide +kernel
theorem dX9_areaOf_29 : decode cX9_areaOf 29 = .ok (.iinc 3 1, 3) := by decide +kernel
theorem dX9_areaOf_32 : decode cX9_areaOf 32 = .ok (.goto (-28), 3) := by decide +kernel
theorem dX9_areaOf_35 : decode cX9_areaOf 35 = .ok (.iload_n 2, 1) := by decide +kernel
theorem dX9_areaOf_36 : decode cX9_areaOf 36 = .ok (.ireturn, 1) := by decide +kernel
theorem dX9_perimeterOf_0 : decode cX9_perimeterOf 0 = .ok (.iconst 0, 1) := by decide +kernel
theorem dX9_perimeterOf_1 : decode cX9_perimeterOf 1 = .ok (.istore_n 2, 1) := by decide +kernel
theorem dX9_perimeterOf_2 : decode cX9_perimeterOf 2 = .ok (.iconst 0, 1) := by decide +kernel
theorem dX9_perimeterOf_3 : decode cX9_perimeterOf 3 = .ok (.istore_n 3, 1) := by decide +kernel
theorem dX9_perimeterOf_4 : decode cX9_perimeterOf 4 = .ok (.iload_n 3, 1) := by decide +kernel
theorem dX9_perimeterOf_5 : decode cX9_perimeterOf 5 = .ok (.aload_n 0, 1) := by decide +kernel
theorem dX9_perimeterOf_6 : decode cX9_perimeterOf 6 = .ok (.getfield 9, 3) := by decide +kernel
theorem dX9_perimeterOf_9 : decode cX9_perimeterOf 9 = .ok (.if_icmp .ge 33, 3) := by decide +kernel
theorem dX9_perimeterOf_12 : decode cX9_perimeterOf 12 = .ok (.iload_n 1, 1) := by decide +kernel
theorem dX9_perimeterOf_13 : decode cX9_perimeterOf 13 = .ok (.iload_n 3, 1) := by decide +kernel
theorem dX9_perimeterOf_14 : decode cX9_perimeterOf 14 = .ok (.ishr, 1) := by decide +kernel
theorem dX9_perimeterOf_15 : decode cX9_perimeterOf 15 = .ok (.iconst 1, 1) := by decide +kernel
theorem dX9_perimeterOf_16 : decode cX9_perimeterOf 16 = .ok (.iand, 1) := by decide +kernel
theorem dX9_perimeterOf_17 : decode cX9_perimeterOf 17 = .ok (.ifCond .eq 19, 3) := by decide +kernel
theorem dX9_perimeterOf_20 : decode cX9_perimeterOf 20 = .ok (.iload_n 2, 1) := by decide +kernel
theorem dX9_perimeterOf_21 : decode cX9_perimeterOf 21 = .ok (.aload_n 0, 1) := by decide +kernel
theorem dX9_perimeterOf_22 : decode cX9_perimeterOf 22 = .ok (.getfield 25, 3) := by decide +kernel
theorem dX9_perimeterOf_25 : decode cX9_perimeterOf 25 = .ok (.iload_n 3, 1) := by decide +kernel
theorem dX9_perimeterOf_26 : decode cX9_perimeterOf 26 = .ok (.iaload, 1) := by decide +kernel
theorem dX9_perimeterOf_27 : decode cX9_perimeterOf 27 = .ok (.aload_n 0, 1) := by decide +kernel
theorem dX9_perimeterOf_28 : decode cX9_perimeterOf 28 = .ok (.iload_n 3, 1) := by decide +kernel
theorem dX9_perimeterOf_29 : decode cX9_perimeterOf 29 = .ok (.iload_n 1, 1) := by decide +kernel
theorem dX9_perimeterOf_30 : decode cX9_perimeterOf 30 = .ok (.invokevirtual 89, 3) := by decide +kernel
theorem dX9_perimeterOf_33 : decode cX9_perimeterOf 33 = .ok (.iadd, 1) := by decide +kernel
theorem dX9_perimeterOf_34 : decode cX9_perimeterOf 34 = .ok (.iadd, 1) := by decide +kernel
theorem dX9_perimeterOf_35 : decode cX9_perimeterOf 35 = .ok (.istore_n 2, 1) := by decide +kernel
theorem dX9_perimeterOf_36 : decode cX9_perimeterOf 36 = .ok (.iinc 3 1, 3) := by decide +kernel
theorem dX9_perimeterOf_39 : decode cX9_perimeterOf 39 = .ok (.goto (-35), 3) := by decide +kernel
theorem dX9_perimeterOf_42 : decode cX9_perimeterOf 42 = .ok (.iload_n 2, 1) := by decide +kernel
theorem dX9_perimeterOf_43 : decode cX9_perimeterOf 43 = .ok (.ireturn, 1) := by decide +kernel
theorem dX9_lengthToOutside_0 : decode cX9_lengthToOutside 0 = .ok (.iconst 0, 1) := by decide +kernel
theorem dX9_lengthToOutside_1 : decode cX9_lengthToOutside 1 = .ok (.istore_n 3, 1) := by decide +kernel
theorem dX9_lengthToOutside_2 : decode cX9_lengthToOutside 2 = .ok (.iconst 0, 1) := by decide +kernel
theorem dX9_lengthToOutside_3 : decode cX9_lengthToOutside 3 = .ok (.istore 4, 2) := by decide +kernel
theorem dX9_lengthToOutside_5 : decode cX9_lengthToOutside 5 = .ok (.iload 4, 2) := by decide +kernel
theorem dX9_lengthToOutside_7 : decode cX9_lengthToOutside 7 = .ok (.aload_n 0, 1) := by decide +kernel
theorem dX9_lengthToOutside_8 : decode cX9_lengthToOutside 8 = .ok (.getfield 9, 3) := by decide +kernel
theorem dX9_lengthToOutside_11 : decode cX9_lengthToOutside 11 = .ok (.if_icmp .ge 33, 3) := by decide +kernel
theorem dX9_lengthToOutside_14 : decode cX9_lengthToOutside 14 = .ok (.iload_n 2, 1) := by decide +kernel
theorem dX9_lengthToOutside_15 : decode cX9_lengthToOutside 15 = .ok (.iload 4, 2) := by decide +kernel
theorem dX9_lengthToOutside_17 : decode cX9_lengthToOutside 17 = .ok (.ishr, 1) := by decide +kernel
theorem dX9_lengthToOutside_18 : decode cX9_lengthToOutside 18 = .ok (.iconst 1, 1) := by decide +kernel
theorem dX9_lengthToOutside_19 : decode cX9_lengthToOutside 19 = .ok (.iand, 1) := by decide +kernel
theorem dX9_lengthToOutside_20 : decode cX9_lengthToOutside 20 = .ok (.ifCond .ne 18, 3) := by decide +kernel
theorem dX9_lengthToOutside_23 : decode cX9_lengthToOutside 23 = .ok (.iload_n 3, 1) := by decide +kernel
theorem dX9_lengthToOutside_24 : decode cX9_lengthToOutside 24 = .ok (.aload_n 0, 1) := by decide +kernel
theorem dX9_lengthToOutside_25 : decode cX9_lengthToOutside 25 = .ok (.getfield 31, 3) := by decide +kernel
theorem dX9_lengthToOutside_28 : decode cX9_lengthToOutside 28 = .ok (.iload_n 1, 1) := by decide +kernel
theorem dX9_lengthToOutside_29 : decode cX9_lengthToOutside 29 = .ok (.bipush 12, 2) := by decide +kernel
theorem dX9_lengthToOutside_31 : decode cX9_lengthToOutside 31 = .ok (.imul, 1) := by decide +kernel
theorem dX9_lengthToOutside_32 : decode cX9_lengthToOutside 32 = .ok (.iload 4, 2) := by decide +kernel
theorem dX9_lengthToOutside_34 : decode cX9_lengthToOutside 34 = .ok (.iadd, 1) := by decide +kernel
theorem dX9_lengthToOutside_35 : decode cX9_lengthToOutside 35 = .ok (.iaload, 1) := by decide +kernel
theorem dX9_lengthToOutside_36 : decode cX9_lengthToOutside 36 = .ok (.iadd, 1) := by decide +kernel
theorem dX9_lengthToOutside_37 : decode cX9_lengthToOutside 37 = .ok (.istore_n 3, 1) := by decide +kernel
theorem dX9_lengthToOutside_38 : decode cX9_lengthToOutside 38 = .ok (.iinc 4 1, 3) := by decide +kernel
theorem dX9_lengthToOutside_41 : decode cX9_lengthToOutside 41 = .ok (.goto (-36), 3) := by decide +kernel
theorem dX9_lengthToOutside_44 : decode cX9_lengthToOutside 44 = .ok (.iload_n 3, 1) := by decide +kernel
theorem dX9_lengthToOutside_45 : decode cX9_lengthToOutside 45 = .ok (.ireturn, 1) := by decide +kernel
theorem dX9_districtsAround_0 : decode cX9_districtsAround 0 = .ok (.iconst 0, 1) := by decide +kernel
theorem dX9_districtsAround_1 : decode cX9_districtsAround 1 = .ok (.istore_n 2, 1) := by decide +kernel
theorem dX9_districtsAround_2 : decode cX9_districtsAround 2 = .ok (.iconst 0, 1) := by decide +kernel
theorem dX9_districtsAround_3 : decode cX9_districtsAround 3 = .ok (.istore_n 3, 1) := by decide +kernel
theorem dX9_districtsAround_4 : decode cX9_districtsAround 4 = .ok (.iload_n 3, 1) := by decide +kernel
theorem dX9_districtsAround_5 : decode cX9_districtsAround 5 = .ok (.aload_n 0, 1) := by decide +kernel
theorem dX9_districtsAround_6 : decode cX9_districtsAround 6 = .ok (.getfield 9, 3) := by decide +kernel
theorem dX9_districtsAround_9 : decode cX9_districtsAround 9 = .ok (.if_icmp .ge 31, 3) := by decide +kernel
theorem dX9_districtsAround_12 : decode cX9_districtsAround 12 = .ok (.aload_n 0, 1) := by decide +kernel
theorem dX9_districtsAround_13 : decode cX9_districtsAround 13 = .ok (.getfield 50, 3) := by decide +kernel
theorem dX9_districtsAround_16 : decode cX9_districtsAround 16 = .ok (.getfield 80, 3) := by decide +kernel
theorem dX9_districtsAround_19 : decode cX9_districtsAround 19 = .ok (.iload_n 3, 1) := by decide +kernel
theorem dX9_districtsAround_20 : decode cX9_districtsAround 20 = .ok (.iaload, 1) := by decide +kernel
theorem dX9_districtsAround_21 : decode cX9_districtsAround 21 = .ok (.iload_n 1, 1) := by decide +kernel
theorem dX9_districtsAround_22 : decode cX9_districtsAround 22 = .ok (.if_icmp .ne 12, 3) := by decide +kernel
theorem dX9_districtsAround_25 : decode cX9_districtsAround 25 = .ok (.iload_n 2, 1) := by decide +kernel
theorem dX9_districtsAround_26 : decode cX9_districtsAround 26 = .ok (.aload_n 0, 1) := by decide +kernel
theorem dX9_districtsAround_27 : decode cX9_districtsAround 27 = .ok (.getfield 28, 3) := by decide +kernel
theorem dX9_districtsAround_30 : decode cX9_districtsAround 30 = .ok (.iload_n 3, 1) := by decide +kernel
theorem dX9_districtsAround_31 : decode cX9_districtsAround 31 = .ok (.iaload, 1) := by decide +kernel
theorem dX9_districtsAround_32 : decode cX9_districtsAround 32 = .ok (.ior, 1) := by decide +kernel
theorem dX9_districtsAround_33 : decode cX9_districtsAround 33 = .ok (.istore_n 2, 1) := by decide +kernel
theorem dX9_districtsAround_34 : decode cX9_districtsAround 34 = .ok (.iinc 3 1, 3) := by decide +kernel
theorem dX9_districtsAround_37 : decode cX9_districtsAround 37 = .ok (.goto (-33), 3) := by decide +kernel
theorem dX9_districtsAround_40 : decode cX9_districtsAround 40 = .ok (.iconst 0, 1) := by decide +kernel
theorem dX9_districtsAround_41 : decode cX9_districtsAround 41 = .ok (.istore_n 3, 1) := by decide +kernel
theorem dX9_districtsAround_42 : decode cX9_districtsAround 42 = .ok (.iconst 0, 1) := by decide +kernel
theorem dX9_districtsAround_43 : decode cX9_districtsAround 43 = .ok (.istore 4, 2) := by decide +kernel
theorem dX9_districtsAround_45 : decode cX9_districtsAround 45 = .ok (.iload 4, 2) := by decide +kernel
theorem dX9_districtsAround_47 : decode cX9_districtsAround 47 = .ok (.aload_n 0, 1) := by decide +kernel
theorem dX9_districtsAround_48 : decode cX9_districtsAround 48 = .ok (.getfield 37, 3) := by decide +kernel
theorem dX9_districtsAround_51 : decode cX9_districtsAround 51 = .ok (.if_icmp .ge 37, 3) := by decide +kernel
theorem dX9_districtsAround_54 : decode cX9_districtsAround 54 = .ok (.iload 4, 2) := by decide +kernel
theorem dX9_districtsAround_56 : decode cX9_districtsAround 56 = .ok (.iload_n 1, 1) := by decide +kernel
theorem dX9_districtsAround_57 : decode cX9_districtsAround 57 = .ok (.if_icmp .eq 25, 3) := by decide +kernel
theorem dX9_districtsAround_60 : decode cX9_districtsAround 60 = .ok (.iload_n 2, 1) := by decide +kernel
theorem dX9_districtsAround_61 : decode cX9_districtsAround 61 = .ok (.aload_n 0, 1) := by decide +kernel
theorem dX9_districtsAround_62 : decode cX9_districtsAround 62 = .ok (.getfield 50, 3) := by decide +kernel
theorem dX9_districtsAround_65 : decode cX9_districtsAround 65 = .ok (.getfield 77, 3) := by decide +kernel
theorem dX9_districtsAround_68 : decode cX9_districtsAround 68 = .ok (.iload 4, 2) := by decide +kernel
theorem dX9_districtsAround_70 : decode cX9_districtsAround 70 = .ok (.iaload, 1) := by decide +kernel
theorem dX9_districtsAround_71 : decode cX9_districtsAround 71 = .ok (.iand, 1) := by decide +kernel
theorem dX9_districtsAround_72 : decode cX9_districtsAround 72 = .ok (.ifCond .eq 10, 3) := by decide +kernel
theorem dX9_districtsAround_75 : decode cX9_districtsAround 75 = .ok (.iload_n 3, 1) := by decide +kernel
theorem dX9_districtsAround_76 : decode cX9_districtsAround 76 = .ok (.iconst 1, 1) := by decide +kernel
theorem dX9_districtsAround_77 : decode cX9_districtsAround 77 = .ok (.iload 4, 2) := by decide +kernel
theorem dX9_districtsAround_79 : decode cX9_districtsAround 79 = .ok (.ishl, 1) := by decide +kernel
theorem dX9_districtsAround_80 : decode cX9_districtsAround 80 = .ok (.ior, 1) := by decide +kernel
theorem dX9_districtsAround_81 : decode cX9_districtsAround 81 = .ok (.istore_n 3, 1) := by decide +kernel
theorem dX9_districtsAround_82 : decode cX9_districtsAround 82 = .ok (.iinc 4 1, 3) := by decide +kernel
theorem dX9_districtsAround_85 : decode cX9_districtsAround 85 = .ok (.goto (-40), 3) := by decide +kernel
theorem dX9_districtsAround_88 : decode cX9_districtsAround 88 = .ok (.iload_n 3, 1) := by decide +kernel
theorem dX9_districtsAround_89 : decode cX9_districtsAround 89 = .ok (.ireturn, 1) := by decide +kernel
theorem dX9_membersOf_0 : decode cX9_membersOf 0 = .ok (.iconst 0, 1) := by decide +kernel
theorem dX9_membersOf_1 : decode cX9_membersOf 1 = .ok (.istore_n 2, 1) := by decide +kernel
theorem dX9_membersOf_2 : decode cX9_membersOf 2 = .ok (.iconst 0, 1) := by decide +kernel
theorem dX9_membersOf_3 : decode cX9_membersOf 3 = .ok (.istore_n 3, 1) := by decide +kernel
theorem dX9_membersOf_4 : decode cX9_membersOf 4 = .ok (.iload_n 3, 1) := by decide +kernel
theorem dX9_membersOf_5 : decode cX9_membersOf 5 = .ok (.aload_n 0, 1) := by decide +kernel
theorem dX9_membersOf_6 : decode cX9_membersOf 6 = .ok (.getfield 9, 3) := by decide +kernel
theorem dX9_membersOf_9 : decode cX9_membersOf 9 = .ok (.if_icmp .ge 25, 3) := by decide +kernel
theorem dX9_membersOf_12 : decode cX9_membersOf 12 = .ok (.aload_n 0, 1) := by decide +kernel
theorem dX9_membersOf_13 : decode cX9_membersOf 13 = .ok (.getfield 22, 3) := by decide +kernel
theorem dX9_membersOf_16 : decode cX9_membersOf 16 = .ok (.iload_n 3, 1) := by decide +kernel
theorem dX9_membersOf_17 : decode cX9_membersOf 17 = .ok (.iaload, 1) := by decide +kernel
theorem dX9_membersOf_18 : decode cX9_membersOf 18 = .ok (.iload_n 1, 1) := by decide +kernel
theorem dX9_membersOf_19 : decode cX9_membersOf 19 = .ok (.if_icmp .ne 9, 3) := by decide +kernel
theorem dX9_membersOf_22 : decode cX9_membersOf 22 = .ok (.iload_n 2, 1) := by decide +kernel
theorem dX9_membersOf_23 : decode cX9_membersOf 23 = .ok (.iconst 1, 1) := by decide +kernel
theorem dX9_membersOf_24 : decode cX9_membersOf 24 = .ok (.iload_n 3, 1) := by decide +kernel
theorem dX9_membersOf_25 : decode cX9_membersOf 25 = .ok (.ishl, 1) := by decide +kernel
theorem dX9_membersOf_26 : decode cX9_membersOf 26 = .ok (.ior, 1) := by decide +kernel
theorem dX9_membersOf_27 : decode cX9_membersOf 27 = .ok (.istore_n 2, 1) := by decide +kernel
theorem dX9_membersOf_28 : decode cX9_membersOf 28 = .ok (.iinc 3 1, 3) := by decide +kernel
theorem dX9_membersOf_31 : decode cX9_membersOf 31 = .ok (.goto (-27), 3) := by decide +kernel
theorem dX9_membersOf_34 : decode cX9_membersOf 34 = .ok (.iload_n 2, 1) := by decide +kernel
theorem dX9_membersOf_35 : decode cX9_membersOf 35 = .ok (.ireturn, 1) := by decide +kernel
theorem dX9_coresOf_0 : decode cX9_coresOf 0 = .ok (.aload_n 0, 1) := by decide +kernel
theorem dX9_coresOf_1 : decode cX9_coresOf 1 = .ok (.iload_n 1, 1) := by decide +kernel
theorem dX9_coresOf_2 : decode cX9_coresOf 2 = .ok (.invokevirtual 92, 3) := by decide +kernel
theorem dX9_coresOf_5 : decode cX9_coresOf 5 = .ok (.aload_n 0, 1) := by decide +kernel
theorem dX9_coresOf_6 : decode cX9_coresOf 6 = .ok (.getfield 34, 3) := by decide +kernel
theorem dX9_coresOf_9 : decode cX9_coresOf 9 = .ok (.iand, 1) := by decide +kernel
theorem dX9_coresOf_10 : decode cX9_coresOf 10 = .ok (.ireturn, 1) := by decide +kernel
theorem dX9_countCommunities_0 : decode cX9_countCommunities 0 = .ok (.iconst 0, 1) := by decide +kernel
theorem dX9_countCommunities_1 : decode cX9_countCommunities 1 = .ok (.istore_n 2, 1) := by decide +kernel
theorem dX9_countCommunities_2 : decode cX9_countCommunities 2 = .ok (.iconst 0, 1) := by decide +kernel
theorem dX9_countCommunities_3 : decode cX9_countCommunities 3 = .ok (.istore_n 3, 1) := by decide +kernel
theorem dX9_countCommunities_4 : decode cX9_countCommunities 4 = .ok (.iload_n 3, 1) := by decide +kernel
theorem dX9_countCommunities_5 : decode cX9_countCommunities 5 = .ok (.iconst 4, 1) := by decide +kernel
theorem dX9_countCommunities_6 : decode cX9_countCommunities 6 = .ok (.if_icmp .ge 22, 3) := by decide +kernel
theorem dX9_countCommunities_9 : decode cX9_countCommunities 9 = .ok (.aload_n 0, 1) := by decide +kernel
theorem dX9_countCommunities_10 : decode cX9_countCommunities 10 = .ok (.iload_n 3, 1) := by decide +kernel
theorem dX9_countCommunities_11 : decode cX9_countCommunities 11 = .ok (.invokevirtual 92, 3) := by decide +kernel
theorem dX9_countCommunities_14 : decode cX9_countCommunities 14 = .ok (.iload_n 1, 1) := by decide +kernel
theorem dX9_countCommunities_15 : decode cX9_countCommunities 15 = .ok (.iand, 1) := by decide +kernel
theorem dX9_countCommunities_16 : decode cX9_countCommunities 16 = .ok (.ifCond .eq 6, 3) := by decide +kernel
theorem dX9_countCommunities_19 : decode cX9_countCommunities 19 = .ok (.iinc 2 1, 3) := by decide +kernel
theorem dX9_countCommunities_22 : decode cX9_countCommunities 22 = .ok (.iinc 3 1, 3) := by decide +kernel
theorem dX9_countCommunities_25 : decode cX9_countCommunities 25 = .ok (.goto (-21), 3) := by decide +kernel
theorem dX9_countCommunities_28 : decode cX9_countCommunities 28 = .ok (.iload_n 2, 1) := by decide +kernel
theorem dX9_countCommunities_29 : decode cX9_countCommunities 29 = .ok (.ireturn, 1) := by decide +kernel
theorem dX9_countParts_0 : decode cX9_countParts 0 = .ok (.iconst 0, 1) := by decide +kernel
theorem dX9_countParts_1 : decode cX9_countParts 1 = .ok (.istore_n 1, 1) := by decide +kernel
theorem dX9_countParts_2 : decode cX9_countParts 2 = .ok (.aload_n 0, 1) := by decide +kernel
theorem dX9_countParts_3 : decode cX9_countParts 3 = .ok (.invokevirtual 95, 3) := by decide +kernel
theorem dX9_countParts_6 : decode cX9_countParts 6 = .ok (.istore_n 2, 1) := by decide +kernel
theorem dX9_countParts_7 : decode cX9_countParts 7 = .ok (.iload_n 2, 1) := by decide +kernel
theorem dX9_countParts_8 : decode cX9_countParts 8 = .ok (.ifCond .eq 27, 3) := by decide +kernel
theorem dX9_countParts_11 : decode cX9_countParts 11 = .ok (.iload_n 1, 1) := by decide +kernel
theorem dX9_countParts_12 : decode cX9_countParts 12 = .ok (.aload_n 0, 1) := by decide +kernel
theorem dX9_countParts_13 : decode cX9_countParts 13 = .ok (.getfield 9, 3) := by decide +kernel
theorem dX9_countParts_16 : decode cX9_countParts 16 = .ok (.if_icmp .ge 19, 3) := by decide +kernel
theorem dX9_countParts_19 : decode cX9_countParts 19 = .ok (.iload_n 2, 1) := by decide +kernel
theorem dX9_countParts_20 : decode cX9_countParts 20 = .ok (.aload_n 0, 1) := by decide +kernel
theorem dX9_countParts_21 : decode cX9_countParts 21 = .ok (.iload_n 2, 1) := by decide +kernel
theorem dX9_countParts_22 : decode cX9_countParts 22 = .ok (.invokevirtual 99, 3) := by decide +kernel
theorem dX9_countParts_25 : decode cX9_countParts 25 = .ok (.iconst (-1), 1) := by decide +kernel
theorem dX9_countParts_26 : decode cX9_countParts 26 = .ok (.ixor, 1) := by decide +kernel
theorem dX9_countParts_27 : decode cX9_countParts 27 = .ok (.iand, 1) := by decide +kernel
theorem dX9_countParts_28 : decode cX9_countParts 28 = .ok (.istore_n 2, 1) := by decide +kernel
theorem dX9_countParts_29 : decode cX9_countParts 29 = .ok (.iinc 1 1, 3) := by decide +kernel
theorem dX9_countParts_32 : decode cX9_countParts 32 = .ok (.goto (-25), 3) := by decide +kernel
theorem dX9_countParts_35 : decode cX9_countParts 35 = .ok (.iload_n 1, 1) := by decide +kernel
theorem dX9_countParts_36 : decode cX9_countParts 36 = .ok (.ireturn, 1) := by decide +kernel
theorem dX9_reach_0 : decode cX9_reach 0 = .ok (.iload_n 1, 1) := by decide +kernel
theorem dX9_reach_1 : decode cX9_reach 1 = .ok (.iload_n 1, 1) := by decide +kernel
theorem dX9_reach_2 : decode cX9_reach 2 = .ok (.ineg, 1) := by decide +kernel
theorem dX9_reach_3 : decode cX9_reach 3 = .ok (.iand, 1) := by decide +kernel
theorem dX9_reach_4 : decode cX9_reach 4 = .ok (.istore_n 2, 1) := by decide +kernel
theorem dX9_reach_5 : decode cX9_reach 5 = .ok (.iconst 0, 1) := by decide +kernel
theorem dX9_reach_6 : decode cX9_reach 6 = .ok (.istore_n 3, 1) := by decide +kernel
theorem dX9_reach_7 : decode cX9_reach 7 = .ok (.iload_n 3, 1) := by decide +kernel
theorem dX9_reach_8 : decode cX9_reach 8 = .ok (.bipush 12, 2) := by decide +kernel
theorem dX9_reach_10 : decode cX9_reach 10 = .ok (.if_icmp .ge 60, 3) := by decide +kernel
theorem dX9_reach_13 : decode cX9_reach 13 = .ok (.iload_n 2, 1) := by decide +kernel
theorem dX9_reach_14 : decode cX9_reach 14 = .ok (.istore 4, 2) := by decide +kernel
theorem dX9_reach_16 : decode cX9_reach 16 = .ok (.iconst 0, 1) := by decide +kernel
theorem dX9_reach_17 : decode cX9_reach 17 = .ok (.istore 5, 2) := by decide +kernel
theorem dX9_reach_19 : decode cX9_reach 19 = .ok (.iload 5, 2) := by decide +kernel
theorem dX9_reach_21 : decode cX9_reach 21 = .ok (.aload_n 0, 1) := by decide +kernel
theorem dX9_reach_22 : decode cX9_reach 22 = .ok (.getfield 9, 3) := by decide +kernel
theorem dX9_reach_25 : decode cX9_reach 25 = .ok (.if_icmp .ge 30, 3) := by decide +kernel
theorem dX9_reach_28 : decode cX9_reach 28 = .ok (.iload_n 2, 1) := by decide +kernel
theorem dX9_reach_29 : decode cX9_reach 29 = .ok (.iload 5, 2) := by decide +kernel
theorem dX9_reach_31 : decode cX9_reach 31 = .ok (.ishr, 1) := by decide +kernel
theorem dX9_reach_32 : decode cX9_reach 32 = .ok (.iconst 1, 1) := by decide +kernel
theorem dX9_reach_33 : decode cX9_reach 33 = .ok (.iand, 1) := by decide +kernel
theorem dX9_reach_34 : decode cX9_reach 34 = .ok (.ifCond .eq 15, 3) := by decide +kernel
theorem dX9_reach_37 : decode cX9_reach 37 = .ok (.iload_n 2, 1) := by decide +kernel
theorem dX9_reach_38 : decode cX9_reach 38 = .ok (.aload_n 0, 1) := by decide +kernel
theorem dX9_reach_39 : decode cX9_reach 39 = .ok (.getfield 28, 3) := by decide +kernel
theorem dX9_reach_42 : decode cX9_reach 42 = .ok (.iload 5, 2) := by decide +kernel
theorem dX9_reach_44 : decode cX9_reach 44 = .ok (.iaload, 1) := by decide +kernel
theorem dX9_reach_45 : decode cX9_reach 45 = .ok (.iload_n 1, 1) := by decide +kernel
theorem dX9_reach_46 : decode cX9_reach 46 = .ok (.iand, 1) := by decide +kernel
theorem dX9_reach_47 : decode cX9_reach 47 = .ok (.ior, 1) := by decide +kernel
theorem dX9_reach_48 : decode cX9_reach 48 = .ok (.istore_n 2, 1) := by decide +kernel
theorem dX9_reach_49 : decode cX9_reach 49 = .ok (.iinc 5 1, 3) := by decide +kernel
theorem dX9_reach_52 : decode cX9_reach 52 = .ok (.goto (-33), 3) := by decide +kernel
theorem dX9_reach_55 : decode cX9_reach 55 = .ok (.iload_n 2, 1) := by decide +kernel
theorem dX9_reach_56 : decode cX9_reach 56 = .ok (.iload 4, 2) := by decide +kernel
theorem dX9_reach_58 : decode cX9_reach 58 = .ok (.if_icmp .ne 6, 3) := by decide +kernel
theorem dX9_reach_61 : decode cX9_reach 61 = .ok (.goto 9, 3) := by decide +kernel
theorem dX9_reach_64 : decode cX9_reach 64 = .ok (.iinc 3 1, 3) := by decide +kernel
theorem dX9_reach_67 : decode cX9_reach 67 = .ok (.goto (-60), 3) := by decide +kernel
theorem dX9_reach_70 : decode cX9_reach 70 = .ok (.iload_n 2, 1) := by decide +kernel
theorem dX9_reach_71 : decode cX9_reach 71 = .ok (.ireturn, 1) := by decide +kernel
theorem dX9_isContiguous_0 : decode cX9_isContiguous 0 = .ok (.aload_n 0, 1) := by decide +kernel
theorem dX9_isContiguous_1 : decode cX9_isContiguous 1 = .ok (.iload_n 1, 1) := by decide +kernel
theorem dX9_isContiguous_2 : decode cX9_isContiguous 2 = .ok (.invokevirtual 99, 3) := by decide +kernel
theorem dX9_isContiguous_5 : decode cX9_isContiguous 5 = .ok (.iload_n 1, 1) := by decide +kernel
theorem dX9_isContiguous_6 : decode cX9_isContiguous 6 = .ok (.if_icmp .ne 7, 3) := by decide +kernel
theorem dX9_isContiguous_9 : decode cX9_isContiguous 9 = .ok (.iconst 1, 1) := by decide +kernel
theorem dX9_isContiguous_10 : decode cX9_isContiguous 10 = .ok (.goto 4, 3) := by decide +kernel
theorem dX9_isContiguous_13 : decode cX9_isContiguous 13 = .ok (.iconst 0, 1) := by decide +kernel
theorem dX9_isContiguous_14 : decode cX9_isContiguous 14 = .ok (.ireturn, 1) := by decide +kernel
theorem dX9_imbalanceOf_0 : decode cX9_imbalanceOf 0 = .ok (.aload_n 0, 1) := by decide +kernel
theorem dX9_imbalanceOf_1 : decode cX9_imbalanceOf 1 = .ok (.iload_n 1, 1) := by decide +kernel
theorem dX9_imbalanceOf_2 : decode cX9_imbalanceOf 2 = .ok (.invokevirtual 102, 3) := by decide +kernel
theorem dX9_imbalanceOf_5 : decode cX9_imbalanceOf 5 = .ok (.aload_n 0, 1) := by decide +kernel
theorem dX9_imbalanceOf_6 : decode cX9_imbalanceOf 6 = .ok (.getfield 37, 3) := by decide +kernel
theorem dX9_imbalanceOf_9 : decode cX9_imbalanceOf 9 = .ok (.imul, 1) := by decide +kernel
theorem dX9_imbalanceOf_10 : decode cX9_imbalanceOf 10 = .ok (.aload_n 0, 1) := by decide +kernel
theorem dX9_imbalanceOf_11 : decode cX9_imbalanceOf 11 = .ok (.aload_n 0, 1) := by decide +kernel
theorem dX9_imbalanceOf_12 : decode cX9_imbalanceOf 12 = .ok (.invokevirtual 95, 3) := by decide +kernel
theorem dX9_imbalanceOf_15 : decode cX9_imbalanceOf 15 = .ok (.invokevirtual 102, 3) := by decide +kernel
theorem dX9_imbalanceOf_18 : decode cX9_imbalanceOf 18 = .ok (.isub, 1) := by decide +kernel
theorem dX9_imbalanceOf_19 : decode cX9_imbalanceOf 19 = .ok (.invokestatic 105, 3) := by decide +kernel
theorem dX9_imbalanceOf_22 : decode cX9_imbalanceOf 22 = .ok (.ireturn, 1) := by decide +kernel
theorem dX9_isBalanced_0 : decode cX9_isBalanced 0 = .ok (.bipush 100, 2) := by decide +kernel
theorem dX9_isBalanced_2 : decode cX9_isBalanced 2 = .ok (.aload_n 0, 1) := by decide +kernel
theorem dX9_isBalanced_3 : decode cX9_isBalanced 3 = .ok (.iload_n 1, 1) := by decide +kernel
theorem dX9_isBalanced_4 : decode cX9_isBalanced 4 = .ok (.invokevirtual 110, 3) := by decide +kernel
theorem dX9_isBalanced_7 : decode cX9_isBalanced 7 = .ok (.imul, 1) := by decide +kernel
theorem dX9_isBalanced_8 : decode cX9_isBalanced 8 = .ok (.aload_n 0, 1) := by decide +kernel
theorem dX9_isBalanced_9 : decode cX9_isBalanced 9 = .ok (.getfield 40, 3) := by decide +kernel
theorem dX9_isBalanced_12 : decode cX9_isBalanced 12 = .ok (.aload_n 0, 1) := by decide +kernel
theorem dX9_isBalanced_13 : decode cX9_isBalanced 13 = .ok (.aload_n 0, 1) := by decide +kernel
theorem dX9_isBalanced_14 : decode cX9_isBalanced 14 = .ok (.invokevirtual 95, 3) := by decide +kernel
theorem dX9_isBalanced_17 : decode cX9_isBalanced 17 = .ok (.invokevirtual 102, 3) := by decide +kernel
theorem dX9_isBalanced_20 : decode cX9_isBalanced 20 = .ok (.imul, 1) := by decide +kernel
theorem dX9_isBalanced_21 : decode cX9_isBalanced 21 = .ok (.if_icmp .gt 7, 3) := by decide +kernel
theorem dX9_isBalanced_24 : decode cX9_isBalanced 24 = .ok (.iconst 1, 1) := by decide +kernel
theorem dX9_isBalanced_25 : decode cX9_isBalanced 25 = .ok (.goto 4, 3) := by decide +kernel
theorem dX9_isBalanced_28 : decode cX9_isBalanced 28 = .ok (.iconst 0, 1) := by decide +kernel
theorem dX9_isBalanced_29 : decode cX9_isBalanced 29 = .ok (.ireturn, 1) := by decide +kernel
theorem dX9_splitsCores_0 : decode cX9_splitsCores 0 = .ok (.iconst 0, 1) := by decide +kernel
theorem dX9_splitsCores_1 : decode cX9_splitsCores 1 = .ok (.istore_n 2, 1) := by decide +kernel
theorem dX9_splitsCores_2 : decode cX9_splitsCores 2 = .ok (.iload_n 2, 1) := by decide +kernel
theorem dX9_splitsCores_3 : decode cX9_splitsCores 3 = .ok (.iconst 4, 1) := by decide +kernel
theorem dX9_splitsCores_4 : decode cX9_splitsCores 4 = .ok (.if_icmp .ge 33, 3) := by decide +kernel
theorem dX9_splitsCores_7 : decode cX9_splitsCores 7 = .ok (.aload_n 0, 1) := by decide +kernel
theorem dX9_splitsCores_8 : decode cX9_splitsCores 8 = .ok (.iload_n 2, 1) := by decide +kernel
theorem dX9_splitsCores_9 : decode cX9_splitsCores 9 = .ok (.invokevirtual 113, 3) := by decide +kernel
theorem dX9_splitsCores_12 : decode cX9_splitsCores 12 = .ok (.istore_n 3, 1) := by decide +kernel
theorem dX9_splitsCores_13 : decode cX9_splitsCores 13 = .ok (.iload_n 3, 1) := by decide +kernel
theorem dX9_splitsCores_14 : decode cX9_splitsCores 14 = .ok (.iload_n 1, 1) := by decide +kernel
theorem dX9_splitsCores_15 : decode cX9_splitsCores 15 = .ok (.iand, 1) := by decide +kernel
theorem dX9_splitsCores_16 : decode cX9_splitsCores 16 = .ok (.istore 4, 2) := by decide +kernel
theorem dX9_splitsCores_18 : decode cX9_splitsCores 18 = .ok (.iload 4, 2) := by decide +kernel
theorem dX9_splitsCores_20 : decode cX9_splitsCores 20 = .ok (.ifCond .eq 11, 3) := by decide +kernel
theorem dX9_splitsCores_23 : decode cX9_splitsCores 23 = .ok (.iload 4, 2) := by decide +kernel
theorem dX9_splitsCores_25 : decode cX9_splitsCores 25 = .ok (.iload_n 3, 1) := by decide +kernel
theorem dX9_splitsCores_26 : decode cX9_splitsCores 26 = .ok (.if_icmp .eq 5, 3) := by decide +kernel
theorem dX9_splitsCores_29 : decode cX9_splitsCores 29 = .ok (.iconst 1, 1) := by decide +kernel
theorem dX9_splitsCores_30 : decode cX9_splitsCores 30 = .ok (.ireturn, 1) := by decide +kernel
theorem dX9_splitsCores_31 : decode cX9_splitsCores 31 = .ok (.iinc 2 1, 3) := by decide +kernel
theorem dX9_splitsCores_34 : decode cX9_splitsCores 34 = .ok (.goto (-32), 3) := by decide +kernel
theorem dX9_splitsCores_37 : decode cX9_splitsCores 37 = .ok (.iconst 0, 1) := by decide +kernel
theorem dX9_splitsCores_38 : decode cX9_splitsCores 38 = .ok (.ireturn, 1) := by decide +kernel
theorem dX10_init_0 : decode cX10_init 0 = .ok (.aload_n 0, 1) := by decide +kernel
theorem dX10_init_1 : decode cX10_init 1 = .ok (.invokespecial 1, 3) := by decide +kernel
theorem dX10_init_4 : decode cX10_init 4 = .ok (.aload_n 0, 1) := by decide +kernel
theorem dX10_init_5 : decode cX10_init 5 = .ok (.bipush 80, 2) := by decide +kernel
theorem dX10_init_7 : decode cX10_init 7 = .ok (.newarray .char, 2) := by decide +kernel
theorem dX10_init_9 : decode cX10_init 9 = .ok (.putfield 9, 3) := by decide +kernel
theorem dX10_init_12 : decode cX10_init 12 = .ok (.aload_n 0, 1) := by decide +kernel
theorem dX10_init_13 : decode cX10_init 13 = .ok (.iconst 0, 1) := by decide +kernel
theorem dX10_init_14 : decode cX10_init 14 = .ok (.putfield 13, 3) := by decide +kernel
theorem dX10_init_17 : decode cX10_init 17 = .ok (.aload_n 0, 1) := by decide +kernel
theorem dX10_init_18 : decode cX10_init 18 = .ok (.iconst (-1), 1) := by decide +kernel
theorem dX10_init_19 : decode cX10_init 19 = .ok (.putfield 17, 3) := by decide +kernel
theorem dX10_init_22 : decode cX10_init 22 = .ok (.aload_n 0, 1) := by decide +kernel
theorem dX10_init_23 : decode cX10_init 23 = .ok (.iconst 0, 1) := by decide +kernel
theorem dX10_init_24 : decode cX10_init 24 = .ok (.putfield 20, 3) := by decide +kernel
theorem dX10_init_27 : decode cX10_init 27 = .ok (.aload_n 0, 1) := by decide +kernel
theorem dX10_init_28 : decode cX10_init 28 = .ok (.iconst 0, 1) := by decide +kernel
theorem dX10_init_29 : decode cX10_init 29 = .ok (.putfield 23, 3) := by decide +kernel
theorem dX10_init_32 : decode cX10_init 32 = .ok (.aload_n 0, 1) := by decide +kernel
theorem dX10_init_33 : decode cX10_init 33 = .ok (.iconst 0, 1) := by decide +kernel
theorem dX10_init_34 : decode cX10_init 34 = .ok (.putfield 26, 3) := by decide +kernel
theorem dX10_init_37 : decode cX10_init 37 = .ok (.aload_n 0, 1) := by decide +kernel
theorem dX10_init_38 : decode cX10_init 38 = .ok (.new 30, 3) := by decide +kernel
theorem dX10_init_41 : decode cX10_init 41 = .ok (.dup, 1) := by decide +kernel
theorem dX10_init_42 : decode cX10_init 42 = .ok (.invokespecial 32, 3) := by decide +kernel
theorem dX10_init_45 : decode cX10_init 45 = .ok (.putfield 33, 3) := by decide +kernel
theorem dX10_init_48 : decode cX10_init 48 = .ok (.aload_n 0, 1) := by decide +kernel
theorem dX10_init_49 : decode cX10_init 49 = .ok (.new 30, 3) := by decide +kernel
theorem dX10_init_52 : decode cX10_init 52 = .ok (.dup, 1) := by decide +kernel
theorem dX10_init_53 : decode cX10_init 53 = .ok (.invokespecial 32, 3) := by decide +kernel
theorem dX10_init_56 : decode cX10_init 56 = .ok (.putfield 37, 3) := by decide +kernel
theorem dX10_init_59 : decode cX10_init 59 = .ok (.aload_n 0, 1) := by decide +kernel
theorem dX10_init_60 : decode cX10_init 60 = .ok (.new 30, 3) := by decide +kernel
theorem dX10_init_63 : decode cX10_init 63 = .ok (.dup, 1) := by decide +kernel
theorem dX10_init_64 : decode cX10_init 64 = .ok (.invokespecial 32, 3) := by decide +kernel
theorem dX10_init_67 : decode cX10_init 67 = .ok (.putfield 40, 3) := by decide +kernel
theorem dX10_init_70 : decode cX10_init 70 = .ok (.aload_n 0, 1) := by decide +kernel
theorem dX10_init_71 : decode cX10_init 71 = .ok (.new 43, 3) := by decide +kernel
theorem dX10_init_74 : decode cX10_init 74 = .ok (.dup, 1) := by decide +kernel
theorem dX10_init_75 : decode cX10_init 75 = .ok (.invokespecial 45, 3) := by decide +kernel
theorem dX10_init_78 : decode cX10_init 78 = .ok (.putfield 46, 3) := by decide +kernel
theorem dX10_init_81 : decode cX10_init 81 = .ok (.aload_n 0, 1) := by decide +kernel
theorem dX10_init_82 : decode cX10_init 82 = .ok (.new 50, 3) := by decide +kernel
theorem dX10_init_85 : decode cX10_init 85 = .ok (.dup, 1) := by decide +kernel
theorem dX10_init_86 : decode cX10_init 86 = .ok (.invokespecial 52, 3) := by decide +kernel
theorem dX10_init_89 : decode cX10_init 89 = .ok (.putfield 53, 3) := by decide +kernel
theorem dX10_init_92 : decode cX10_init 92 = .ok (.aload_n 0, 1) := by decide +kernel
theorem dX10_init_93 : decode cX10_init 93 = .ok (.new 57, 3) := by decide +kernel
theorem dX10_init_96 : decode cX10_init 96 = .ok (.dup, 1) := by decide +kernel
theorem dX10_init_97 : decode cX10_init 97 = .ok (.invokespecial 59, 3) := by decide +kernel
theorem dX10_init_100 : decode cX10_init 100 = .ok (.putfield 60, 3) := by decide +kernel
theorem dX10_init_103 : decode cX10_init 103 = .ok (.aload_n 0, 1) := by decide +kernel
theorem dX10_init_104 : decode cX10_init 104 = .ok (.new 64, 3) := by decide +kernel
theorem dX10_init_107 : decode cX10_init 107 = .ok (.dup, 1) := by decide +kernel
theorem dX10_init_108 : decode cX10_init 108 = .ok (.invokespecial 66, 3) := by decide +kernel
theorem dX10_init_111 : decode cX10_init 111 = .ok (.putfield 67, 3) := by decide +kernel
theorem dX10_init_114 : decode cX10_init 114 = .ok (.aload_n 0, 1) := by decide +kernel
theorem dX10_init_115 : decode cX10_init 115 = .ok (.new 71, 3) := by decide +kernel
theorem dX10_init_118 : decode cX10_init 118 = .ok (.dup, 1) := by decide +kernel
theorem dX10_init_119 : decode cX10_init 119 = .ok (.invokespecial 73, 3) := by decide +kernel
theorem dX10_init_122 : decode cX10_init 122 = .ok (.putfield 74, 3) := by decide +kernel
theorem dX10_init_125 : decode cX10_init 125 = .ok (.aload_n 0, 1) := by decide +kernel
theorem dX10_init_126 : decode cX10_init 126 = .ok (.new 78, 3) := by decide +kernel
theorem dX10_init_129 : decode cX10_init 129 = .ok (.dup, 1) := by decide +kernel
theorem dX10_init_130 : decode cX10_init 130 = .ok (.invokespecial 80, 3) := by decide +kernel
theorem dX10_init_133 : decode cX10_init 133 = .ok (.putfield 81, 3) := by decide +kernel
theorem dX10_init_136 : decode cX10_init 136 = .ok (.aload_n 0, 1) := by decide +kernel
theorem dX10_init_137 : decode cX10_init 137 = .ok (.new 85, 3) := by decide +kernel
theorem dX10_init_140 : decode cX10_init 140 = .ok (.dup, 1) := by decide +kernel
theorem dX10_init_141 : decode cX10_init 141 = .ok (.invokespecial 87, 3) := by decide +kernel
theorem dX10_init_144 : decode cX10_init 144 = .ok (.putfield 88, 3) := by decide +kernel
theorem dX10_init_147 : decode cX10_init 147 = .ok (.aload_n 0, 1) := by decide +kernel
theorem dX10_init_148 : decode cX10_init 148 = .ok (.iconst 3, 1) := by decide +kernel
theorem dX10_init_149 : decode cX10_init 149 = .ok (.anewarray 92, 3) := by decide +kernel
theorem dX10_init_152 : decode cX10_init 152 = .ok (.putfield 94, 3) := by decide +kernel
theorem dX10_init_155 : decode cX10_init 155 = .ok (.iconst 0, 1) := by decide +kernel
theorem dX10_init_156 : decode cX10_init 156 = .ok (.istore_n 1, 1) := by decide +kernel
theorem dX10_init_157 : decode cX10_init 157 = .ok (.iload_n 1, 1) := by decide +kernel
theorem dX10_init_158 : decode cX10_init 158 = .ok (.iconst 3, 1) := by decide +kernel
theorem dX10_init_159 : decode cX10_init 159 = .ok (.if_icmp .ge 22, 3) := by decide +kernel
theorem dX10_init_162 : decode cX10_init 162 = .ok (.aload_n 0, 1) := by decide +kernel
theorem dX10_init_163 : decode cX10_init 163 = .ok (.getfield 94, 3) := by decide +kernel
theorem dX10_init_166 : decode cX10_init 166 = .ok (.iload_n 1, 1) := by decide +kernel
theorem dX10_init_167 : decode cX10_init 167 = .ok (.new 92, 3) := by decide +kernel
theorem dX10_init_170 : decode cX10_init 170 = .ok (.dup, 1) := by decide +kernel
theorem dX10_init_171 : decode cX10_init 171 = .ok (.invokespecial 98, 3) := by decide +kernel
theorem dX10_init_174 : decode cX10_init 174 = .ok (.aastore, 1) := by decide +kernel
theorem dX10_init_175 : decode cX10_init 175 = .ok (.iinc 1 1, 3) := by decide +kernel
theorem dX10_init_178 : decode cX10_init 178 = .ok (.goto (-21), 3) := by decide +kernel
theorem dX10_init_181 : decode cX10_init 181 = .ok (.return_, 1) := by decide +kernel
theorem dX10_feed_0 : decode cX10_feed 0 = .ok (.aload_n 0, 1) := by decide +kernel
theorem dX10_feed_1 : decode cX10_feed 1 = .ok (.getfield 13, 3) := by decide +kernel
theorem dX10_feed_4 : decode cX10_feed 4 = .ok (.bipush 80, 2) := by decide +kernel
theorem dX10_feed_6 : decode cX10_feed 6 = .ok (.if_icmp .lt 13, 3) := by decide +kernel
theorem dX10_feed_9 : decode cX10_feed 9 = .ok (.new 99, 3) := by decide +kernel
theorem dX10_feed_12 : decode cX10_feed 12 = .ok (.dup, 1) := by decide +kernel
theorem dX10_feed_13 : decode cX10_feed 13 = .ok (.ldc 101, 2) := by decide +kernel
theorem dX10_feed_15 : decode cX10_feed 15 = .ok (.invokespecial 103, 3) := by decide +kernel
theorem dX10_feed_18 : decode cX10_feed 18 = .ok (.athrow, 1) := by decide +kernel
theorem dX10_feed_19 : decode cX10_feed 19 = .ok (.aload_n 0, 1) := by decide +kernel
theorem dX10_feed_20 : decode cX10_feed 20 = .ok (.getfield 9, 3) := by decide +kernel
theorem dX10_feed_23 : decode cX10_feed 23 = .ok (.aload_n 0, 1) := by decide +kernel
theorem dX10_feed_24 : decode cX10_feed 24 = .ok (.getfield 13, 3) := by decide +kernel
theorem dX10_feed_27 : decode cX10_feed 27 = .ok (.iload_n 1, 1) := by decide +kernel
theorem dX10_feed_28 : decode cX10_feed 28 = .ok (.castore, 1) := by decide +kernel
theorem dX10_feed_29 : decode cX10_feed 29 = .ok (.aload_n 0, 1) := by decide +kernel
theorem dX10_feed_30 : decode cX10_feed 30 = .ok (.dup, 1) := by decide +kernel
theorem dX10_feed_31 : decode cX10_feed 31 = .ok (.getfield 13, 3) := by decide +kernel
theorem dX10_feed_34 : decode cX10_feed 34 = .ok (.iconst 1, 1) := by decide +kernel
theorem dX10_feed_35 : decode cX10_feed 35 = .ok (.iadd, 1) := by decide +kernel
theorem dX10_feed_36 : decode cX10_feed 36 = .ok (.putfield 13, 3) := by decide +kernel
theorem dX10_feed_39 : decode cX10_feed 39 = .ok (.aload_n 0, 1) := by decide +kernel
theorem dX10_feed_40 : decode cX10_feed 40 = .ok (.getfield 13, 3) := by decide +kernel
theorem dX10_feed_43 : decode cX10_feed 43 = .ok (.ireturn, 1) := by decide +kernel
theorem dX10_extend_0 : decode cX10_extend 0 = .ok (.aload_n 0, 1) := by decide +kernel
theorem dX10_extend_1 : decode cX10_extend 1 = .ok (.getfield 13, 3) := by decide +kernel
theorem dX10_extend_4 : decode cX10_extend 4 = .ok (.istore_n 1, 1) := by decide +kernel
theorem dX10_extend_5 : decode cX10_extend 5 = .ok (.aload_n 0, 1) := by decide +kernel
theorem dX10_extend_6 : decode cX10_extend 6 = .ok (.iconst 0, 1) := by decide +kernel
theorem dX10_extend_7 : decode cX10_extend 7 = .ok (.putfield 13, 3) := by decide +kernel
theorem dX10_extend_10 : decode cX10_extend 10 = .ok (.aload_n 0, 1) := by decide +kernel
theorem dX10_extend_11 : decode cX10_extend 11 = .ok (.getfield 53, 3) := by decide +kernel
theorem dX10_extend_14 : decode cX10_extend 14 = .ok (.aload_n 0, 1) := by decide +kernel
theorem dX10_extend_15 : decode cX10_extend 15 = .ok (.getfield 9, 3) := by decide +kernel
theorem dX10_extend_18 : decode cX10_extend 18 = .ok (.iload_n 1, 1) := by decide +kernel
theorem dX10_extend_19 : decode cX10_extend 19 = .ok (.invokevirtual 106, 3) := by decide +kernel
theorem dX10_extend_22 : decode cX10_extend 22 = .ok (.istore_n 2, 1) := by decide +kernel
theorem dX10_extend_23 : decode cX10_extend 23 = .ok (.iload_n 2, 1) := by decide +kernel
theorem dX10_extend_24 : decode cX10_extend 24 = .ok (.ifCond .lt 8, 3) := by decide +kernel
theorem dX10_extend_27 : decode cX10_extend 27 = .ok (.bipush (-100), 2) := by decide +kernel
theorem dX10_extend_29 : decode cX10_extend 29 = .ok (.iload_n 2, 1) := by decide +kernel
theorem dX10_extend_30 : decode cX10_extend 30 = .ok (.isub, 1) := by decide +kernel
theorem dX10_extend_31 : decode cX10_extend 31 = .ok (.ireturn, 1) := by decide +kernel
theorem dX10_extend_32 : decode cX10_extend 32 = .ok (.aload_n 0, 1) := by decide +kernel
theorem dX10_extend_33 : decode cX10_extend 33 = .ok (.getfield 37, 3) := by decide +kernel
theorem dX10_extend_36 : decode cX10_extend 36 = .ok (.aload_n 0, 1) := by decide +kernel
theorem dX10_extend_37 : decode cX10_extend 37 = .ok (.getfield 33, 3) := by decide +kernel
theorem dX10_extend_40 : decode cX10_extend 40 = .ok (.invokevirtual 110, 3) := by decide +kernel
theorem dX10_extend_43 : decode cX10_extend 43 = .ok (.aload_n 0, 1) := by decide +kernel
theorem dX10_extend_44 : decode cX10_extend 44 = .ok (.getfield 53, 3) := by decide +kernel
theorem dX10_extend_47 : decode cX10_extend 47 = .ok (.aload_n 0, 1) := by decide +kernel
theorem dX10_extend_48 : decode cX10_extend 48 = .ok (.getfield 9, 3) := by decide +kernel
theorem dX10_extend_51 : decode cX10_extend 51 = .ok (.iload_n 1, 1) := by decide +kernel
theorem dX10_extend_52 : decode cX10_extend 52 = .ok (.aload_n 0, 1) := by decide +kernel
theorem dX10_extend_53 : decode cX10_extend 53 = .ok (.getfield 37, 3) := by decide +kernel
theorem dX10_extend_56 : decode cX10_extend 56 = .ok (.invokevirtual 114, 3) := by decide +kernel
theorem dX10_extend_59 : decode cX10_extend 59 = .ok (.istore_n 3, 1) := by decide +kernel
theorem dX10_extend_60 : decode cX10_extend 60 = .ok (.iload_n 3, 1) := by decide +kernel
theorem dX10_extend_61 : decode cX10_extend 61 = .ok (.ifCond .lt 18, 3) := by decide +kernel
theorem dX10_extend_64 : decode cX10_extend 64 = .ok (.aload_n 0, 1) := by decide +kernel
theorem dX10_extend_65 : decode cX10_extend 65 = .ok (.iload_n 3, 1) := by decide +kernel
theorem dX10_extend_66 : decode cX10_extend 66 = .ok (.putfield 17, 3) := by decide +kernel
theorem dX10_extend_69 : decode cX10_extend 69 = .ok (.new 118, 3) := by decide +kernel
theorem dX10_extend_72 : decode cX10_extend 72 = .ok (.dup, 1) := by decide +kernel
theorem dX10_extend_73 : decode cX10_extend 73 = .ok (.ldc 120, 2) := by decide +kernel
theorem dX10_extend_75 : decode cX10_extend 75 = .ok (.invokespecial 122, 3) := by decide +kernel
theorem dX10_extend_78 : decode cX10_extend 78 = .ok (.athrow, 1) := by decide +kernel
theorem dX10_extend_79 : decode cX10_extend 79 = .ok (.aload_n 0, 1) := by decide +kernel
theorem dX10_extend_80 : decode cX10_extend 80 = .ok (.getfield 81, 3) := by decide +kernel
theorem dX10_extend_83 : decode cX10_extend 83 = .ok (.aload_n 0, 1) := by decide +kernel
theorem dX10_extend_84 : decode cX10_extend 84 = .ok (.getfield 33, 3) := by decide +kernel
theorem dX10_extend_87 : decode cX10_extend 87 = .ok (.invokevirtual 123, 3) := by decide +kernel
theorem dX10_extend_90 : decode cX10_extend 90 = .ok (.aload_n 0, 1) := by decide +kernel
theorem dX10_extend_91 : decode cX10_extend 91 = .ok (.getfield 33, 3) := by decide +kernel
theorem dX10_extend_94 : decode cX10_extend 94 = .ok (.aload_n 0, 1) := by decide +kernel
theorem dX10_extend_95 : decode cX10_extend 95 = .ok (.getfield 37, 3) := by decide +kernel
theorem dX10_extend_98 : decode cX10_extend 98 = .ok (.invokevirtual 110, 3) := by decide +kernel
theorem dX10_extend_101 : decode cX10_extend 101 = .ok (.aload_n 0, 1) := by decide +kernel
theorem dX10_extend_102 : decode cX10_extend 102 = .ok (.invokevirtual 126, 3) := by decide +kernel
theorem dX10_extend_105 : decode cX10_extend 105 = .ok (.aload_n 0, 1) := by decide +kernel
theorem dX10_extend_106 : decode cX10_extend 106 = .ok (.getfield 33, 3) := by decide +kernel
theorem dX10_extend_109 : decode cX10_extend 109 = .ok (.getfield 129, 3) := by decide +kernel
theorem dX10_extend_112 : decode cX10_extend 112 = .ok (.ireturn, 1) := by decide +kernel
theorem dX10_impossible_0 : decode cX10_impossible 0 = .ok (.aload_n 0, 1) := by decide +kernel
theorem dX10_impossible_1 : decode cX10_impossible 1 = .ok (.getfield 17, 3) := by decide +kernel
theorem dX10_impossible_4 : decode cX10_impossible 4 = .ok (.ifCond .ge 13, 3) := by decide +kernel
theorem dX10_impossible_7 : decode cX10_impossible 7 = .ok (.new 132, 3) := by decide +kernel
theorem dX10_impossible_10 : decode cX10_impossible 10 = .ok (.dup, 1) := by decide +kernel
theorem dX10_impossible_11 : decode cX10_impossible 11 = .ok (.ldc 134, 2) := by decide +kernel
theorem dX10_impossible_13 : decode cX10_impossible 13 = .ok (.invokespecial 136, 3) := by decide +kernel
theorem dX10_impossible_16 : decode cX10_impossible 16 = .ok (.athrow, 1) := by decide +kernel
theorem dX10_impossible_17 : decode cX10_impossible 17 = .ok (.aload_n 0, 1) := by decide +kernel
theorem dX10_impossible_18 : decode cX10_impossible 18 = .ok (.getfield 17, 3) := by decide +kernel
theorem dX10_impossible_21 : decode cX10_impossible 21 = .ok (.ireturn, 1) := by decide +kernel
theorem dX10_clearMap_0 : decode cX10_clearMap 0 = .ok (.aload_n 0, 1) := by decide +kernel
theorem dX10_clearMap_1 : decode cX10_clearMap 1 = .ok (.getfield 33, 3) := by decide +kernel
theorem dX10_clearMap_4 : decode cX10_clearMap 4 = .ok (.getfield 129, 3) := by decide +kernel
theorem dX10_clearMap_7 : decode cX10_clearMap 7 = .ok (.istore_n 1, 1) := by decide +kernel
theorem dX10_clearMap_8 : decode cX10_clearMap 8 = .ok (.aload_n 0, 1) := by decide +kernel
theorem dX10_clearMap_9 : decode cX10_clearMap 9 = .ok (.getfield 81, 3) := by decide +kernel
theorem dX10_clearMap_12 : decode cX10_clearMap 12 = .ok (.aload_n 0, 1) := by decide +kernel
theorem dX10_clearMap_13 : decode cX10_clearMap 13 = .ok (.getfield 33, 3) := by decide +kernel
theorem dX10_clearMap_16 : decode cX10_clearMap 16 = .ok (.invokevirtual 123, 3) := by decide +kernel
theorem dX10_clearMap_19 : decode cX10_clearMap 19 = .ok (.aload_n 0, 1) := by decide +kernel
theorem dX10_clearMap_20 : decode cX10_clearMap 20 = .ok (.getfield 33, 3) := by decide +kernel
theorem dX10_clearMap_23 : decode cX10_clearMap 23 = .ok (.invokevirtual 137, 3) := by decide +kernel
theorem dX10_clearMap_26 : decode cX10_clearMap 26 = .ok (.aload_n 0, 1) := by decide +kernel
theorem dX10_clearMap_27 : decode cX10_clearMap 27 = .ok (.invokevirtual 126, 3) := by decide +kernel
theorem dX10_clearMap_30 : decode cX10_clearMap 30 = .ok (.iload_n 1, 1) := by decide +kernel
theorem dX10_clearMap_31 : decode cX10_clearMap 31 = .ok (.ireturn, 1) := by decide +kernel
theorem dX10_unit_0 : decode cX10_unit 0 = .ok (.aload_n 0, 1) := by decide +kernel
theorem dX10_unit_1 : decode cX10_unit 1 = .ok (.iload_n 1, 1) := by decide +kernel
theorem dX10_unit_2 : decode cX10_unit 2 = .ok (.invokevirtual 140, 3) := by decide +kernel
theorem dX10_unit_5 : decode cX10_unit 5 = .ok (.iload_n 2, 1) := by decide +kernel
theorem dX10_unit_6 : decode cX10_unit 6 = .ok (.tableswitch 152 0 7 #[46, 56, 66, 76, 88, 98, 108, 135], 46) := by decide +kernel
theorem dX10_unit_52 : decode cX10_unit 52 = .ok (.aload_n 0, 1) := by decide +kernel
theorem dX10_unit_53 : decode cX10_unit 53 = .ok (.getfield 33, 3) := by decide +kernel
theorem dX10_unit_56 : decode cX10_unit 56 = .ok (.getfield 144, 3) := by decide +kernel
theorem dX10_unit_59 : decode cX10_unit 59 = .ok (.iload_n 1, 1) := by decide +kernel
theorem dX10_unit_60 : decode cX10_unit 60 = .ok (.iaload, 1) := by decide +kernel
theorem dX10_unit_61 : decode cX10_unit 61 = .ok (.ireturn, 1) := by decide +kernel
theorem dX10_unit_62 : decode cX10_unit 62 = .ok (.aload_n 0, 1) := by decide +kernel
theorem dX10_unit_63 : decode cX10_unit 63 = .ok (.getfield 33, 3) := by decide +kernel
theorem dX10_unit_66 : decode cX10_unit 66 = .ok (.getfield 148, 3) := by decide +kernel
theorem dX10_unit_69 : decode cX10_unit 69 = .ok (.iload_n 1, 1) := by decide +kernel
theorem dX10_unit_70 : decode cX10_unit 70 = .ok (.iaload, 1) := by decide +kernel
theorem dX10_unit_71 : decode cX10_unit 71 = .ok (.ireturn, 1) := by decide +kernel
theorem dX10_unit_72 : decode cX10_unit 72 = .ok (.aload_n 0, 1) := by decide +kernel
theorem dX10_unit_73 : decode cX10_unit 73 = .ok (.getfield 33, 3) := by decide +kernel
theorem dX10_unit_76 : decode cX10_unit 76 = .ok (.getfield 151, 3) := by decide +kernel
theorem dX10_unit_79 : decode cX10_unit 79 = .ok (.iload_n 1, 1) := by decide +kernel
theorem dX10_unit_80 : decode cX10_unit 80 = .ok (.iaload, 1) := by decide +kernel
theorem dX10_unit_81 : decode cX10_unit 81 = .ok (.ireturn, 1) := by decide +kernel
theorem dX10_unit_82 : decode cX10_unit 82 = .ok (.aload_n 0, 1) := by decide +kernel
theorem dX10_unit_83 : decode cX10_unit 83 = .ok (.getfield 33, 3) := by decide +kernel
theorem dX10_unit_86 : decode cX10_unit 86 = .ok (.getfield 154, 3) := by decide +kernel
theorem dX10_unit_89 : decode cX10_unit 89 = .ok (.iload_n 1, 1) := by decide +kernel
theorem dX10_unit_90 : decode cX10_unit 90 = .ok (.ishr, 1) := by decide +kernel
theorem dX10_unit_91 : decode cX10_unit 91 = .ok (.iconst 1, 1) := by decide +kernel
theorem dX10_unit_92 : decode cX10_unit 92 = .ok (.iand, 1) := by decide +kernel
theorem dX10_unit_93 : decode cX10_unit 93 = .ok (.ireturn, 1) := by decide +kernel
theorem dX10_unit_94 : decode cX10_unit 94 = .ok (.aload_n 0, 1) := by decide +kernel
theorem dX10_unit_95 : decode cX10_unit 95 = .ok (.getfield 33, 3) := by decide +kernel
theorem dX10_unit_98 : decode cX10_unit 98 = .ok (.getfield 157, 3) := by decide +kernel
theorem dX10_unit_101 : decode cX10_unit 101 = .ok (.iload_n 1, 1) := by decide +kernel
theorem dX10_unit_102 : decode cX10_unit 102 = .ok (.iaload, 1) := by decide +kernel
theorem dX10_unit_103 : decode cX10_unit 103 = .ok (.ireturn, 1) := by decide +kernel
theorem dX10_unit_104 : decode cX10_unit 104 = .ok (.aload_n 0, 1) := by decide +kernel
theorem dX10_unit_105 : decode cX10_unit 105 = .ok (.getfield 33, 3) := by decide +kernel
theorem dX10_unit_108 : decode cX10_unit 108 = .ok (.getfield 160, 3) := by decide +kernel
theorem dX10_unit_111 : decode cX10_unit 111 = .ok (.iload_n 1, 1) := by decide +kernel
theorem dX10_unit_112 : decode cX10_unit 112 = .ok (.iaload, 1) := by decide +kernel
theorem dX10_unit_113 : decode cX10_unit 113 = .ok (.ireturn, 1) := by decide +kernel
theorem dX10_unit_114 : decode cX10_unit 114 = .ok (.aload_n 0, 1) := by decide +kernel
theorem dX10_unit_115 : decode cX10_unit 115 = .ok (.getfield 33, 3) := by decide +kernel
theorem dX10_unit_118 : decode cX10_unit 118 = .ok (.getfield 163, 3) := by decide +kernel
theorem dX10_unit_121 : decode cX10_unit 121 = .ok (.ifCond .eq 18, 3) := by decide +kernel
theorem dX10_unit_124 : decode cX10_unit 124 = .ok (.aload_n 0, 1) := by decide +kernel
theorem dX10_unit_125 : decode cX10_unit 125 = .ok (.getfield 33, 3) := by decide +kernel
theorem dX10_unit_128 : decode cX10_unit 128 = .ok (.getfield 166, 3) := by decide +kernel
theorem dX10_unit_131 : decode cX10_unit 131 = .ok (.getfield 169, 3) := by decide +kernel
theorem dX10_unit_134 : decode cX10_unit 134 = .ok (.iload_n 1, 1) := by decide +kernel
theorem dX10_unit_135 : decode cX10_unit 135 = .ok (.iaload, 1) := by decide +kernel
theorem dX10_unit_136 : decode cX10_unit 136 = .ok (.goto 4, 3) := by decide +kernel
theorem dX10_unit_139 : decode cX10_unit 139 = .ok (.iconst (-1), 1) := by decide +kernel
theorem dX10_unit_140 : decode cX10_unit 140 = .ok (.ireturn, 1) := by decide +kernel
theorem dX10_unit_141 : decode cX10_unit 141 = .ok (.aload_n 0, 1) := by decide +kernel
theorem dX10_unit_142 : decode cX10_unit 142 = .ok (.getfield 33, 3) := by decide +kernel
theorem dX10_unit_145 : decode cX10_unit 145 = .ok (.iload_n 1, 1) := by decide +kernel
theorem dX10_unit_146 : decode cX10_unit 146 = .ok (.invokevirtual 172, 3) := by decide +kernel
theorem dX10_unit_149 : decode cX10_unit 149 = .ok (.ifCond .eq 7, 3) := by decide +kernel
theorem dX10_unit_152 : decode cX10_unit 152 = .ok (.iconst 1, 1) := by decide +kernel
theorem dX10_unit_153 : decode cX10_unit 153 = .ok (.goto 4, 3) := by decide +kernel
theorem dX10_unit_156 : decode cX10_unit 156 = .ok (.iconst 0, 1) := by decide +kernel
theorem dX10_unit_157 : decode cX10_unit 157 = .ok (.ireturn, 1) := by decide +kernel
theorem dX10_unit_158 : decode cX10_unit 158 = .ok (.new 176, 3) := by decide +kernel
theorem dX10_unit_161 : decode cX10_unit 161 = .ok (.dup, 1) := by decide +kernel
theorem dX10_unit_162 : decode cX10_unit 162 = .ok (.ldc 178, 2) := by decide +kernel
theorem dX10_unit_164 : decode cX10_unit 164 = .ok (.invokespecial 180, 3) := by decide +kernel
theorem dX10_unit_167 : decode cX10_unit 167 = .ok (.athrow, 1) := by decide +kernel
theorem dX10_border_0 : decode cX10_border 0 = .ok (.aload_n 0, 1) := by decide +kernel
theorem dX10_border_1 : decode cX10_border 1 = .ok (.iload_n 1, 1) := by decide +kernel
theorem dX10_border_2 : decode cX10_border 2 = .ok (.invokevirtual 140, 3) := by decide +kernel
theorem dX10_border_5 : decode cX10_border 5 = .ok (.aload_n 0, 1) := by decide +kernel
theorem dX10_border_6 : decode cX10_border 6 = .ok (.iload_n 2, 1) := by decide +kernel
theorem dX10_border_7 : decode cX10_border 7 = .ok (.invokevirtual 140, 3) := by decide +kernel
theorem dX10_border_10 : decode cX10_border 10 = .ok (.aload_n 0, 1) := by decide +kernel
theorem dX10_border_11 : decode cX10_border 11 = .ok (.getfield 33, 3) := by decide +kernel
theorem dX10_border_14 : decode cX10_border 14 = .ok (.iload_n 1, 1) := by decide +kernel
theorem dX10_border_15 : decode cX10_border 15 = .ok (.iload_n 2, 1) := by decide +kernel
theorem dX10_border_16 : decode cX10_border 16 = .ok (.invokevirtual 181, 3) := by decide +kernel
theorem dX10_border_19 : decode cX10_border 19 = .ok (.ireturn, 1) := by decide +kernel
theorem dX10_count_0 : decode cX10_count 0 = .ok (.iload_n 1, 1) := by decide +kernel
theorem dX10_count_1 : decode cX10_count 1 = .ok (.tableswitch 161 0 9 #[55, 63, 71, 86, 101, 109, 117, 133, 141, 156], 55) := by decide +kernel
theorem dX10_count_56 : decode cX10_count 56 = .ok (.aload_n 0, 1) := by decide +kernel
theorem dX10_count_57 : decode cX10_count 57 = .ok (.getfield 33, 3) := by decide +kernel
theorem dX10_count_60 : decode cX10_count 60 = .ok (.getfield 129, 3) := by decide +kernel
theorem dX10_count_63 : decode cX10_count 63 = .ok (.ireturn, 1) := by decide +kernel
theorem dX10_count_64 : decode cX10_count 64 = .ok (.aload_n 0, 1) := by decide +kernel
theorem dX10_count_65 : decode cX10_count 65 = .ok (.getfield 33, 3) := by decide +kernel
theorem dX10_count_68 : decode cX10_count 68 = .ok (.invokevirtual 185, 3) := by decide +kernel
theorem dX10_count_71 : decode cX10_count 71 = .ok (.ireturn, 1) := by decide +kernel
theorem dX10_count_72 : decode cX10_count 72 = .ok (.aload_n 0, 1) := by decide +kernel
theorem dX10_count_73 : decode cX10_count 73 = .ok (.getfield 33, 3) := by decide +kernel
theorem dX10_count_76 : decode cX10_count 76 = .ok (.aload_n 0, 1) := by decide +kernel
theorem dX10_count_77 : decode cX10_count 77 = .ok (.getfield 33, 3) := by decide +kernel
theorem dX10_count_80 : decode cX10_count 80 = .ok (.invokevirtual 189, 3) := by decide +kernel
theorem dX10_count_83 : decode cX10_count 83 = .ok (.invokevirtual 192, 3) := by decide +kernel
theorem dX10_count_86 : decode cX10_count 86 = .ok (.ireturn, 1) := by decide +kernel
theorem dX10_count_87 : decode cX10_count 87 = .ok (.aload_n 0, 1) := by decide +kernel
theorem dX10_count_88 : decode cX10_count 88 = .ok (.getfield 33, 3) := by decide +kernel
theorem dX10_count_91 : decode cX10_count 91 = .ok (.aload_n 0, 1) := by decide +kernel
theorem dX10_count_92 : decode cX10_count 92 = .ok (.getfield 33, 3) := by decide +kernel
theorem dX10_count_95 : decode cX10_count 95 = .ok (.invokevirtual 189, 3) := by decide +kernel
theorem dX10_count_98 : decode cX10_count 98 = .ok (.invokevirtual 196, 3) := by decide +kernel
theorem dX10_count_101 : decode cX10_count 101 = .ok (.ireturn, 1) := by decide +kernel
theorem dX10_count_102 : decode cX10_count 102 = .ok (.aload_n 0, 1) := by decide +kernel
theorem dX10_count_103 : decode cX10_count 103 = .ok (.getfield 33, 3) := by decide +kernel
theorem dX10_count_106 : decode cX10_count 106 = .ok (.getfield 199, 3) := by decide +kernel
theorem dX10_count_109 : decode cX10_count 109 = .ok (.ireturn, 1) := by decide +kernel
theorem dX10_count_110 : decode cX10_count 110 = .ok (.aload_n 0, 1) := by decide +kernel
theorem dX10_count_111 : decode cX10_count 111 = .ok (.getfield 33, 3) := by decide +kernel
theorem dX10_count_114 : decode cX10_count 114 = .ok (.getfield 202, 3) := by decide +kernel
theorem dX10_count_117 : decode cX10_count 117 = .ok (.ireturn, 1) := by decide +kernel
theorem dX10_count_118 : decode cX10_count 118 = .ok (.aload_n 0, 1) := by decide +kernel
theorem dX10_count_119 : decode cX10_count 119 = .ok (.getfield 33, 3) := by decide +kernel
theorem dX10_count_122 : decode cX10_count 122 = .ok (.getfield 163, 3) := by decide +kernel
theorem dX10_count_125 : decode cX10_count 125 = .ok (.ifCond .eq 7, 3) := by decide +kernel
theorem dX10_count_128 : decode cX10_count 128 = .ok (.iconst 1, 1) := by decide +kernel
theorem dX10_count_129 : decode cX10_count 129 = .ok (.goto 4, 3) := by decide +kernel
theorem dX10_count_132 : decode cX10_count 132 = .ok (.iconst 0, 1) := by decide +kernel
theorem dX10_count_133 : decode cX10_count 133 = .ok (.ireturn, 1) := by decide +kernel
theorem dX10_count_134 : decode cX10_count 134 = .ok (.aload_n 0, 1) := by decide +kernel
theorem dX10_count_135 : decode cX10_count 135 = .ok (.getfield 33, 3) := by decide +kernel
theorem dX10_count_138 : decode cX10_count 138 = .ok (.invokevirtual 205, 3) := by decide +kernel
theorem dX10_count_141 : decode cX10_count 141 = .ok (.ireturn, 1) := by decide +kernel
theorem dX10_count_142 : decode cX10_count 142 = .ok (.aload_n 0, 1) := by decide +kernel
theorem dX10_count_143 : decode cX10_count 143 = .ok (.getfield 33, 3) := by decide +kernel
theorem dX10_count_146 : decode cX10_count 146 = .ok (.aload_n 0, 1) := by decide +kernel
theorem dX10_count_147 : decode cX10_count 147 = .ok (.getfield 33, 3) := by decide +kernel
theorem dX10_count_150 : decode cX10_count 150 = .ok (.invokevirtual 189, 3) := by decide +kernel
theorem dX10_count_153 : decode cX10_count 153 = .ok (.invokevirtual 208, 3) := by decide +kernel
theorem dX10_count_156 : decode cX10_count 156 = .ok (.ireturn, 1) := by decide +kernel
theorem dX10_count_157 : decode cX10_count 157 = .ok (.aload_n 0, 1) := by decide +kernel
theorem dX10_count_158 : decode cX10_count 158 = .ok (.getfield 13, 3) := by decide +kernel
theorem dX10_count_161 : decode cX10_count 161 = .ok (.ireturn, 1) := by decide +kernel
theorem dX10_count_162 : decode cX10_count 162 = .ok (.new 176, 3) := by decide +kernel
theorem dX10_count_165 : decode cX10_count 165 = .ok (.dup, 1) := by decide +kernel
theorem dX10_count_166 : decode cX10_count 166 = .ok (.ldc 211, 2) := by decide +kernel
theorem dX10_count_168 : decode cX10_count 168 = .ok (.invokespecial 180, 3) := by decide +kernel
theorem dX10_count_171 : decode cX10_count 171 = .ok (.athrow, 1) := by decide +kernel
theorem dX10_setDistricts_0 : decode cX10_setDistricts 0 = .ok (.iload_n 1, 1) := by decide +kernel
theorem dX10_setDistricts_1 : decode cX10_setDistricts 1 = .ok (.iconst 2, 1) := by decide +kernel
theorem dX10_setDistricts_2 : decode cX10_setDistricts 2 = .ok (.if_icmp .lt 8, 3) := by decide +kernel
theorem dX10_setDistricts_5 : decode cX10_setDistricts 5 = .ok (.iload_n 1, 1) := by decide +kernel
theorem dX10_setDistricts_6 : decode cX10_setDistricts 6 = .ok (.iconst 4, 1) := by decide +kernel
theorem dX10_setDistricts_7 : decode cX10_setDistricts 7 = .ok (.if_icmp .le 13, 3) := by decide +kernel
theorem dX10_setDistricts_10 : decode cX10_setDistricts 10 = .ok (.new 176, 3) := by decide +kernel
theorem dX10_setDistricts_13 : decode cX10_setDistricts 13 = .ok (.dup, 1) := by decide +kernel
theorem dX10_setDistricts_14 : decode cX10_setDistricts 14 = .ok (.ldc 213, 2) := by decide +kernel
theorem dX10_setDistricts_16 : decode cX10_setDistricts 16 = .ok (.invokespecial 180, 3) := by decide +kernel
theorem dX10_setDistricts_19 : decode cX10_setDistricts 19 = .ok (.athrow, 1) := by decide +kernel
theorem dX10_setDistricts_20 : decode cX10_setDistricts 20 = .ok (.aload_n 0, 1) := by decide +kernel
theorem dX10_setDistricts_21 : decode cX10_setDistricts 21 = .ok (.getfield 33, 3) := by decide +kernel
theorem dX10_setDistricts_24 : decode cX10_setDistricts 24 = .ok (.getfield 199, 3) := by decide +kernel
theorem dX10_setDistricts_27 : decode cX10_setDistricts 27 = .ok (.istore_n 2, 1) := by decide +kernel
theorem dX10_setDistricts_28 : decode cX10_setDistricts 28 = .ok (.aload_n 0, 1) := by decide +kernel
theorem dX10_setDistricts_29 : decode cX10_setDistricts 29 = .ok (.getfield 81, 3) := by decide +kernel
theorem dX10_setDistricts_32 : decode cX10_setDistricts 32 = .ok (.aload_n 0, 1) := by decide +kernel
theorem dX10_setDistricts_33 : decode cX10_setDistricts 33 = .ok (.getfield 33, 3) := by decide +kernel
theorem dX10_setDistricts_36 : decode cX10_setDistricts 36 = .ok (.invokevirtual 123, 3) := by decide +kernel
theorem dX10_setDistricts_39 : decode cX10_setDistricts 39 = .ok (.aload_n 0, 1) := by decide +kernel
theorem dX10_setDistricts_40 : decode cX10_setDistricts 40 = .ok (.getfield 33, 3) := by decide +kernel
theorem dX10_setDistricts_43 : decode cX10_setDistricts 43 = .ok (.iload_n 1, 1) := by decide +kernel
theorem dX10_setDistricts_44 : decode cX10_setDistricts 44 = .ok (.putfield 199, 3) := by decide +kernel
theorem dX10_setDistricts_47 : decode cX10_setDistricts 47 = .ok (.aload_n 0, 1) := by decide +kernel
theorem dX10_setDistricts_48 : decode cX10_setDistricts 48 = .ok (.invokevirtual 126, 3) := by decide +kernel
theorem dX10_setDistricts_51 : decode cX10_setDistricts 51 = .ok (.iload_n 2, 1) := by decide +kernel
theorem dX10_setDistricts_52 : decode cX10_setDistricts 52 = .ok (.ireturn, 1) := by decide +kernel
theorem dX10_setTolerance_0 : decode cX10_setTolerance 0 = .ok (.iload_n 1, 1) := by decide +kernel
theorem dX10_setTolerance_1 : decode cX10_setTolerance 1 = .ok (.ifCond .lt 9, 3) := by decide +kernel
theorem dX10_setTolerance_4 : decode cX10_setTolerance 4 = .ok (.iload_n 1, 1) := by decide +kernel
theorem dX10_setTolerance_5 : decode cX10_setTolerance 5 = .ok (.bipush 99, 2) := by decide +kernel
theorem dX10_setTolerance_7 : decode cX10_setTolerance 7 = .ok (.if_icmp .le 13, 3) := by decide +kernel
theorem dX10_setTolerance_10 : decode cX10_setTolerance 10 = .ok (.new 176, 3) := by decide +kernel
theorem dX10_setTolerance_13 : decode cX10_setTolerance 13 = .ok (.dup, 1) := by decide +kernel
theorem dX10_setTolerance_14 : decode cX10_setTolerance 14 = .ok (.ldc 215, 2) := by decide +kernel
theorem dX10_setTolerance_16 : decode cX10_setTolerance 16 = .ok (.invokespecial 180, 3) := by decide +kernel
theorem dX10_setTolerance_19 : decode cX10_setTolerance 19 = .ok (.athrow, 1) := by decide +kernel
theorem dX10_setTolerance_20 : decode cX10_setTolerance 20 = .ok (.aload_n 0, 1) := by decide +kernel
theorem dX10_setTolerance_21 : decode cX10_setTolerance 21 = .ok (.getfield 33, 3) := by decide +kernel
theorem dX10_setTolerance_24 : decode cX10_setTolerance 24 = .ok (.getfield 202, 3) := by decide +kernel
theorem dX10_setTolerance_27 : decode cX10_setTolerance 27 = .ok (.istore_n 2, 1) := by decide +kernel
theorem dX10_setTolerance_28 : decode cX10_setTolerance 28 = .ok (.aload_n 0, 1) := by decide +kernel
theorem dX10_setTolerance_29 : decode cX10_setTolerance 29 = .ok (.getfield 81, 3) := by decide +kernel
theorem dX10_setTolerance_32 : decode cX10_setTolerance 32 = .ok (.aload_n 0, 1) := by decide +kernel
theorem dX10_setTolerance_33 : decode cX10_setTolerance 33 = .ok (.getfield 33, 3) := by decide +kernel
theorem dX10_setTolerance_36 : decode cX10_setTolerance 36 = .ok (.invokevirtual 123, 3) := by decide +kernel
theorem dX10_setTolerance_39 : decode cX10_setTolerance 39 = .ok (.aload_n 0, 1) := by decide +kernel
theorem dX10_setTolerance_40 : decode cX10_setTolerance 40 = .ok (.getfield 33, 3) := by decide +kernel
theorem dX10_setTolerance_43 : decode cX10_setTolerance 43 = .ok (.iload_n 1, 1) := by decide +kernel
theorem dX10_setTolerance_44 : decode cX10_setTolerance 44 = .ok (.putfield 202, 3) := by decide +kernel
theorem dX10_setTolerance_47 : decode cX10_setTolerance 47 = .ok (.aload_n 0, 1) := by decide +kernel
theorem dX10_setTolerance_48 : decode cX10_setTolerance 48 = .ok (.invokevirtual 126, 3) := by decide +kernel
theorem dX10_setTolerance_51 : decode cX10_setTolerance 51 = .ok (.iload_n 2, 1) := by decide +kernel
theorem dX10_setTolerance_52 : decode cX10_setTolerance 52 = .ok (.ireturn, 1) := by decide +kernel
theorem dX10_readPlan_0 : decode cX10_readPlan 0 = .ok (.aload_n 0, 1) := by decide +kernel
theorem dX10_readPlan_1 : decode cX10_readPlan 1 = .ok (.getfield 13, 3) := by decide +kernel
theorem dX10_readPlan_4 : decode cX10_readPlan 4 = .ok (.istore_n 1, 1) := by decide +kernel
theorem dX10_readPlan_5 : decode cX10_readPlan 5 = .ok (.aload_n 0, 1) := by decide +kernel
theorem dX10_readPlan_6 : decode cX10_readPlan 6 = .ok (.iconst 0, 1) := by decide +kernel
theorem dX10_readPlan_7 : decode cX10_readPlan 7 = .ok (.putfield 13, 3) := by decide +kernel
theorem dX10_readPlan_10 : decode cX10_readPlan 10 = .ok (.aload_n 0, 1) := by decide +kernel
theorem dX10_readPlan_11 : decode cX10_readPlan 11 = .ok (.getfield 33, 3) := by decide +kernel
theorem dX10_readPlan_14 : decode cX10_readPlan 14 = .ok (.getfield 129, 3) := by decide +kernel
theorem dX10_readPlan_17 : decode cX10_readPlan 17 = .ok (.ifCond .ne 13, 3) := by decide +kernel
theorem dX10_readPlan_20 : decode cX10_readPlan 20 = .ok (.new 99, 3) := by decide +kernel
theorem dX10_readPlan_23 : decode cX10_readPlan 23 = .ok (.dup, 1) := by decide +kernel
theorem dX10_readPlan_24 : decode cX10_readPlan 24 = .ok (.ldc 217, 2) := by decide +kernel
theorem dX10_readPlan_26 : decode cX10_readPlan 26 = .ok (.invokespecial 103, 3) := by decide +kernel
theorem dX10_readPlan_29 : decode cX10_readPlan 29 = .ok (.athrow, 1) := by decide +kernel
theorem dX10_readPlan_30 : decode cX10_readPlan 30 = .ok (.aload_n 0, 1) := by decide +kernel
theorem dX10_readPlan_31 : decode cX10_readPlan 31 = .ok (.iload_n 1, 1) := by decide +kernel
theorem dX10_readPlan_32 : decode cX10_readPlan 32 = .ok (.invokevirtual 219, 3) := by decide +kernel
theorem dX10_readPlan_35 : decode cX10_readPlan 35 = .ok (.istore_n 2, 1) := by decide +kernel
theorem dX10_readPlan_36 : decode cX10_readPlan 36 = .ok (.iload_n 2, 1) := by decide +kernel
theorem dX10_readPlan_37 : decode cX10_readPlan 37 = .ok (.ifCond .lt 8, 3) := by decide +kernel
theorem dX10_readPlan_40 : decode cX10_readPlan 40 = .ok (.bipush (-100), 2) := by decide +kernel
theorem dX10_readPlan_42 : decode cX10_readPlan 42 = .ok (.iload_n 2, 1) := by decide +kernel
theorem dX10_readPlan_43 : decode cX10_readPlan 43 = .ok (.isub, 1) := by decide +kernel
theorem dX10_readPlan_44 : decode cX10_readPlan 44 = .ok (.ireturn, 1) := by decide +kernel
theorem dX10_readPlan_45 : decode cX10_readPlan 45 = .ok (.aload_n 0, 1) := by decide +kernel
theorem dX10_readPlan_46 : decode cX10_readPlan 46 = .ok (.getfield 46, 3) := by decide +kernel
theorem dX10_readPlan_49 : decode cX10_readPlan 49 = .ok (.invokevirtual 222, 3) := by decide +kernel
theorem dX10_readPlan_52 : decode cX10_readPlan 52 = .ok (.iconst 0, 1) := by decide +kernel
theorem dX10_readPlan_53 : decode cX10_readPlan 53 = .ok (.istore_n 3, 1) := by decide +kernel
theorem dX10_readPlan_54 : decode cX10_readPlan 54 = .ok (.iload_n 3, 1) := by decide +kernel
theorem dX10_readPlan_55 : decode cX10_readPlan 55 = .ok (.aload_n 0, 1) := by decide +kernel
theorem dX10_readPlan_56 : decode cX10_readPlan 56 = .ok (.getfield 33, 3) := by decide +kernel
theorem dX10_readPlan_59 : decode cX10_readPlan 59 = .ok (.getfield 129, 3) := by decide +kernel
theorem dX10_readPlan_62 : decode cX10_readPlan 62 = .ok (.if_icmp .ge 27, 3) := by decide +kernel
theorem dX10_readPlan_65 : decode cX10_readPlan 65 = .ok (.aload_n 0, 1) := by decide +kernel
theorem dX10_readPlan_66 : decode cX10_readPlan 66 = .ok (.getfield 46, 3) := by decide +kernel
theorem dX10_readPlan_69 : decode cX10_readPlan 69 = .ok (.iload_n 3, 1) := by decide +kernel
theorem dX10_readPlan_70 : decode cX10_readPlan 70 = .ok (.aload_n 0, 1) := by decide +kernel
theorem dX10_readPlan_71 : decode cX10_readPlan 71 = .ok (.aload_n 0, 1) := by decide +kernel
theorem dX10_readPlan_72 : decode cX10_readPlan 72 = .ok (.getfield 9, 3) := by decide +kernel
theorem dX10_readPlan_75 : decode cX10_readPlan 75 = .ok (.iload_n 3, 1) := by decide +kernel
theorem dX10_readPlan_76 : decode cX10_readPlan 76 = .ok (.caload, 1) := by decide +kernel
theorem dX10_readPlan_77 : decode cX10_readPlan 77 = .ok (.invokevirtual 225, 3) := by decide +kernel
theorem dX10_readPlan_80 : decode cX10_readPlan 80 = .ok (.invokevirtual 229, 3) := by decide +kernel
theorem dX10_readPlan_83 : decode cX10_readPlan 83 = .ok (.iinc 3 1, 3) := by decide +kernel
theorem dX10_readPlan_86 : decode cX10_readPlan 86 = .ok (.goto (-32), 3) := by decide +kernel
theorem dX10_readPlan_89 : decode cX10_readPlan 89 = .ok (.aload_n 0, 1) := by decide +kernel
theorem dX10_readPlan_90 : decode cX10_readPlan 90 = .ok (.getfield 60, 3) := by decide +kernel
theorem dX10_readPlan_93 : decode cX10_readPlan 93 = .ok (.aload_n 0, 1) := by decide +kernel
theorem dX10_readPlan_94 : decode cX10_readPlan 94 = .ok (.getfield 33, 3) := by decide +kernel
theorem dX10_readPlan_97 : decode cX10_readPlan 97 = .ok (.aload_n 0, 1) := by decide +kernel
theorem dX10_readPlan_98 : decode cX10_readPlan 98 = .ok (.getfield 46, 3) := by decide +kernel
theorem dX10_readPlan_101 : decode cX10_readPlan 101 = .ok (.invokevirtual 233, 3) := by decide +kernel
theorem dX10_readPlan_104 : decode cX10_readPlan 104 = .ok (.ifCond .eq 15, 3) := by decide +kernel
theorem dX10_readPlan_107 : decode cX10_readPlan 107 = .ok (.aload_n 0, 1) := by decide +kernel
theorem dX10_readPlan_108 : decode cX10_readPlan 108 = .ok (.invokevirtual 237, 3) := by decide +kernel
theorem dX10_readPlan_111 : decode cX10_readPlan 111 = .ok (.aload_n 0, 1) := by decide +kernel
theorem dX10_readPlan_112 : decode cX10_readPlan 112 = .ok (.getfield 60, 3) := by decide +kernel
theorem dX10_readPlan_115 : decode cX10_readPlan 115 = .ok (.getfield 240, 3) := by decide +kernel
theorem dX10_readPlan_118 : decode cX10_readPlan 118 = .ok (.ireturn, 1) := by decide +kernel
theorem dX10_readPlan_119 : decode cX10_readPlan 119 = .ok (.aload_n 0, 1) := by decide +kernel
theorem dX10_readPlan_120 : decode cX10_readPlan 120 = .ok (.aload_n 0, 1) := by decide +kernel
theorem dX10_readPlan_121 : decode cX10_readPlan 121 = .ok (.getfield 46, 3) := by decide +kernel
theorem dX10_readPlan_124 : decode cX10_readPlan 124 = .ok (.invokevirtual 243, 3) := by decide +kernel
theorem dX10_readPlan_127 : decode cX10_readPlan 127 = .ok (.iconst 0, 1) := by decide +kernel
theorem dX10_readPlan_128 : decode cX10_readPlan 128 = .ok (.ireturn, 1) := by decide +kernel
theorem dX10_move_0 : decode cX10_move 0 = .ok (.aload_n 0, 1) := by decide +kernel
theorem dX10_move_1 : decode cX10_move 1 = .ok (.iload_n 1, 1) := by decide +kernel
theorem dX10_move_2 : decode cX10_move 2 = .ok (.iload_n 2, 1) := by decide +kernel
theorem dX10_move_3 : decode cX10_move 3 = .ok (.invokevirtual 247, 3) := by decide +kernel
theorem dX10_move_6 : decode cX10_move 6 = .ok (.aload_n 0, 1) := by decide +kernel
theorem dX10_move_7 : decode cX10_move 7 = .ok (.getfield 60, 3) := by decide +kernel
theorem dX10_move_10 : decode cX10_move 10 = .ok (.aload_n 0, 1) := by decide +kernel
theorem dX10_move_11 : decode cX10_move 11 = .ok (.getfield 33, 3) := by decide +kernel
theorem dX10_move_14 : decode cX10_move 14 = .ok (.iload_n 1, 1) := by decide +kernel
theorem dX10_move_15 : decode cX10_move 15 = .ok (.iload_n 2, 1) := by decide +kernel
theorem dX10_move_16 : decode cX10_move 16 = .ok (.aload_n 0, 1) := by decide +kernel
theorem dX10_move_17 : decode cX10_move 17 = .ok (.getfield 46, 3) := by decide +kernel
theorem dX10_move_20 : decode cX10_move 20 = .ok (.invokevirtual 250, 3) := by decide +kernel
theorem dX10_move_23 : decode cX10_move 23 = .ok (.ifCond .eq 17, 3) := by decide +kernel
theorem dX10_move_26 : decode cX10_move 26 = .ok (.aload_n 0, 1) := by decide +kernel
theorem dX10_move_27 : decode cX10_move 27 = .ok (.invokevirtual 237, 3) := by decide +kernel
theorem dX10_move_30 : decode cX10_move 30 = .ok (.new 118, 3) := by decide +kernel
theorem dX10_move_33 : decode cX10_move 33 = .ok (.dup, 1) := by decide +kernel
theorem dX10_move_34 : decode cX10_move 34 = .ok (.ldc 254, 2) := by decide +kernel
theorem dX10_move_36 : decode cX10_move 36 = .ok (.invokespecial 122, 3) := by decide +kernel
theorem dX10_move_39 : decode cX10_move 39 = .ok (.athrow, 1) := by decide +kernel
theorem dX10_move_40 : decode cX10_move 40 = .ok (.aload_n 0, 1) := by decide +kernel
theorem dX10_move_41 : decode cX10_move 41 = .ok (.getfield 33, 3) := by decide +kernel
theorem dX10_move_44 : decode cX10_move 44 = .ok (.getfield 166, 3) := by decide +kernel
theorem dX10_move_47 : decode cX10_move 47 = .ok (.getfield 169, 3) := by decide +kernel
theorem dX10_move_50 : decode cX10_move 50 = .ok (.iload_n 1, 1) := by decide +kernel
theorem dX10_move_51 : decode cX10_move 51 = .ok (.iaload, 1) := by decide +kernel
theorem dX10_move_52 : decode cX10_move 52 = .ok (.istore_n 3, 1) := by decide +kernel
theorem dX10_move_53 : decode cX10_move 53 = .ok (.aload_n 0, 1) := by decide +kernel
theorem dX10_move_54 : decode cX10_move 54 = .ok (.aload_n 0, 1) := by decide +kernel
theorem dX10_move_55 : decode cX10_move 55 = .ok (.getfield 46, 3) := by decide +kernel
theorem dX10_move_58 : decode cX10_move 58 = .ok (.invokevirtual 243, 3) := by decide +kernel
theorem dX10_move_61 : decode cX10_move 61 = .ok (.iload_n 3, 1) := by decide +kernel
theorem dX10_move_62 : decode cX10_move 62 = .ok (.ireturn, 1) := by decide +kernel
theorem dX10_swap_0 : decode cX10_swap 0 = .ok (.aload_n 0, 1) := by decide +kernel
theorem dX10_swap_1 : decode cX10_swap 1 = .ok (.iload_n 1, 1) := by decide +kernel
theorem dX10_swap_2 : decode cX10_swap 2 = .ok (.invokevirtual 140, 3) := by decide +kernel
theorem dX10_swap_5 : decode cX10_swap 5 = .ok (.aload_n 0, 1) := by decide +kernel
theorem dX10_swap_6 : decode cX10_swap 6 = .ok (.iload_n 2, 1) := by decide +kernel
theorem dX10_swap_7 : decode cX10_swap 7 = .ok (.invokevirtual 140, 3) := by decide +kernel
theorem dX10_swap_10 : decode cX10_swap 10 = .ok (.aload_n 0, 1) := by decide +kernel
theorem dX10_swap_11 : decode cX10_swap 11 = .ok (.invokevirtual 256, 3) := by decide +kernel
theorem dX10_swap_14 : decode cX10_swap 14 = .ok (.aload_n 0, 1) := by decide +kernel
theorem dX10_swap_15 : decode cX10_swap 15 = .ok (.getfield 33, 3) := by decide +kernel
theorem dX10_swap_18 : decode cX10_swap 18 = .ok (.getfield 166, 3) := by decide +kernel
theorem dX10_swap_21 : decode cX10_swap 21 = .ok (.getfield 169, 3) := by decide +kernel
theorem dX10_swap_24 : decode cX10_swap 24 = .ok (.iload_n 1, 1) := by decide +kernel
theorem dX10_swap_25 : decode cX10_swap 25 = .ok (.iaload, 1) := by decide +kernel
theorem dX10_swap_26 : decode cX10_swap 26 = .ok (.aload_n 0, 1) := by decide +kernel
theorem dX10_swap_27 : decode cX10_swap 27 = .ok (.getfield 33, 3) := by decide +kernel
theorem dX10_swap_30 : decode cX10_swap 30 = .ok (.getfield 166, 3) := by decide +kernel
theorem dX10_swap_33 : decode cX10_swap 33 = .ok (.getfield 169, 3) := by decide +kernel
theorem dX10_swap_36 : decode cX10_swap 36 = .ok (.iload_n 2, 1) := by decide +kernel
theorem dX10_swap_37 : decode cX10_swap 37 = .ok (.iaload, 1) := by decide +kernel
theorem dX10_swap_38 : decode cX10_swap 38 = .ok (.if_icmp .ne 14, 3) := by decide +kernel
theorem dX10_swap_41 : decode cX10_swap 41 = .ok (.new 176, 3) := by decide +kernel
theorem dX10_swap_44 : decode cX10_swap 44 = .ok (.dup, 1) := by decide +kernel
theorem dX10_swap_45 : decode cX10_swap 45 = .ok (.ldc_w 259, 3) := by decide +kernel
theorem dX10_swap_48 : decode cX10_swap 48 = .ok (.invokespecial 180, 3) := by decide +kernel
theorem dX10_swap_51 : decode cX10_swap 51 = .ok (.athrow, 1) := by decide +kernel
theorem dX10_swap_52 : decode cX10_swap 52 = .ok (.aload_n 0, 1) := by decide +kernel
theorem dX10_swap_53 : decode cX10_swap 53 = .ok (.getfield 60, 3) := by decide +kernel
theorem dX10_swap_56 : decode cX10_swap 56 = .ok (.aload_n 0, 1) := by decide +kernel
theorem dX10_swap_57 : decode cX10_swap 57 = .ok (.getfield 33, 3) := by decide +kernel
theorem dX10_swap_60 : decode cX10_swap 60 = .ok (.iload_n 1, 1) := by decide +kernel
theorem dX10_swap_61 : decode cX10_swap 61 = .ok (.iload_n 2, 1) := by decide +kernel
theorem dX10_swap_62 : decode cX10_swap 62 = .ok (.aload_n 0, 1) := by decide +kernel
theorem dX10_swap_63 : decode cX10_swap 63 = .ok (.getfield 46, 3) := by decide +kernel
theorem dX10_swap_66 : decode cX10_swap 66 = .ok (.invokevirtual 261, 3) := by decide +kernel
theorem dX10_swap_69 : decode cX10_swap 69 = .ok (.ifCond .eq 18, 3) := by decide +kernel
theorem dX10_swap_72 : decode cX10_swap 72 = .ok (.aload_n 0, 1) := by decide +kernel
theorem dX10_swap_73 : decode cX10_swap 73 = .ok (.invokevirtual 237, 3) := by decide +kernel
theorem dX10_swap_76 : decode cX10_swap 76 = .ok (.new 118, 3) := by decide +kernel
theorem dX10_swap_79 : decode cX10_swap 79 = .ok (.dup, 1) := by decide +kernel
theorem dX10_swap_80 : decode cX10_swap 80 = .ok (.ldc_w 264, 3) := by decide +kernel
theorem dX10_swap_83 : decode cX10_swap 83 = .ok (.invokespecial 122, 3) := by decide +kernel
theorem dX10_swap_86 : decode cX10_swap 86 = .ok (.athrow, 1) := by decide +kernel
theorem dX10_swap_87 : decode cX10_swap 87 = .ok (.aload_n 0, 1) := by decide +kernel
theorem dX10_swap_88 : decode cX10_swap 88 = .ok (.getfield 33, 3) := by decide +kernel
theorem dX10_swap_91 : decode cX10_swap 91 = .ok (.getfield 166, 3) := by decide +kernel
theorem dX10_swap_94 : decode cX10_swap 94 = .ok (.getfield 169, 3) := by decide +kernel
theorem dX10_swap_97 : decode cX10_swap 97 = .ok (.iload_n 1, 1) := by decide +kernel
theorem dX10_swap_98 : decode cX10_swap 98 = .ok (.iaload, 1) := by decide +kernel
theorem dX10_swap_99 : decode cX10_swap 99 = .ok (.istore_n 3, 1) := by decide +kernel
theorem dX10_swap_100 : decode cX10_swap 100 = .ok (.aload_n 0, 1) := by decide +kernel
theorem dX10_swap_101 : decode cX10_swap 101 = .ok (.aload_n 0, 1) := by decide +kernel
theorem dX10_swap_102 : decode cX10_swap 102 = .ok (.getfield 46, 3) := by decide +kernel
theorem dX10_swap_105 : decode cX10_swap 105 = .ok (.invokevirtual 243, 3) := by decide +kernel
theorem dX10_swap_108 : decode cX10_swap 108 = .ok (.iload_n 3, 1) := by decide +kernel
theorem dX10_swap_109 : decode cX10_swap 109 = .ok (.ireturn, 1) := by decide +kernel
theorem dX10_refuses_0 : decode cX10_refuses 0 = .ok (.aload_n 0, 1) := by decide +kernel
theorem dX10_refuses_1 : decode cX10_refuses 1 = .ok (.iload_n 1, 1) := by decide +kernel
theorem dX10_refuses_2 : decode cX10_refuses 2 = .ok (.iload_n 2, 1) := by decide +kernel
theorem dX10_refuses_3 : decode cX10_refuses 3 = .ok (.invokevirtual 247, 3) := by decide +kernel
theorem dX10_refuses_6 : decode cX10_refuses 6 = .ok (.aload_n 0, 1) := by decide +kernel
theorem dX10_refuses_7 : decode cX10_refuses 7 = .ok (.getfield 60, 3) := by decide +kernel
theorem dX10_refuses_10 : decode cX10_refuses 10 = .ok (.aload_n 0, 1) := by decide +kernel
theorem dX10_refuses_11 : decode cX10_refuses 11 = .ok (.getfield 33, 3) := by decide +kernel
theorem dX10_refuses_14 : decode cX10_refuses 14 = .ok (.iload_n 1, 1) := by decide +kernel
theorem dX10_refuses_15 : decode cX10_refuses 15 = .ok (.iload_n 2, 1) := by decide +kernel
theorem dX10_refuses_16 : decode cX10_refuses 16 = .ok (.aload_n 0, 1) := by decide +kernel
theorem dX10_refuses_17 : decode cX10_refuses 17 = .ok (.getfield 46, 3) := by decide +kernel
theorem dX10_refuses_20 : decode cX10_refuses 20 = .ok (.invokevirtual 250, 3) := by decide +kernel
theorem dX10_refuses_23 : decode cX10_refuses 23 = .ok (.ireturn, 1) := by decide +kernel
theorem dX10_refusal_0 : decode cX10_refusal 0 = .ok (.aload_n 0, 1) := by decide +kernel
theorem dX10_refusal_1 : decode cX10_refusal 1 = .ok (.getfield 20, 3) := by decide +kernel
theorem dX10_refusal_4 : decode cX10_refusal 4 = .ok (.ifCond .ne 14, 3) := by decide +kernel
theorem dX10_refusal_7 : decode cX10_refusal 7 = .ok (.new 132, 3) := by decide +kernel
theorem dX10_refusal_10 : decode cX10_refusal 10 = .ok (.dup, 1) := by decide +kernel
theorem dX10_refusal_11 : decode cX10_refusal 11 = .ok (.ldc_w 266, 3) := by decide +kernel
theorem dX10_refusal_14 : decode cX10_refusal 14 = .ok (.invokespecial 136, 3) := by decide +kernel
theorem dX10_refusal_17 : decode cX10_refusal 17 = .ok (.athrow, 1) := by decide +kernel
theorem dX10_refusal_18 : decode cX10_refusal 18 = .ok (.iload_n 1, 1) := by decide +kernel
theorem dX10_refusal_19 : decode cX10_refusal 19 = .ok (.ifCond .eq 10, 3) := by decide +kernel
theorem dX10_refusal_22 : decode cX10_refusal 22 = .ok (.aload_n 0, 1) := by decide +kernel
theorem dX10_refusal_23 : decode cX10_refusal 23 = .ok (.getfield 23, 3) := by decide +kernel
theorem dX10_refusal_26 : decode cX10_refusal 26 = .ok (.goto 7, 3) := by decide +kernel
theorem dX10_refusal_29 : decode cX10_refusal 29 = .ok (.aload_n 0, 1) := by decide +kernel
theorem dX10_refusal_30 : decode cX10_refusal 30 = .ok (.getfield 20, 3) := by decide +kernel
theorem dX10_refusal_33 : decode cX10_refusal 33 = .ok (.ireturn, 1) := by decide +kernel
theorem dX10_district_0 : decode cX10_district 0 = .ok (.aload_n 0, 1) := by decide +kernel
theorem dX10_district_1 : decode cX10_district 1 = .ok (.iload_n 1, 1) := by decide +kernel
theorem dX10_district_2 : decode cX10_district 2 = .ok (.invokevirtual 268, 3) := by decide +kernel
theorem dX10_district_5 : decode cX10_district 5 = .ok (.iload_n 2, 1) := by decide +kernel
theorem dX10_district_6 : decode cX10_district 6 = .ok (.ifCond .lt 9, 3) := by decide +kernel
theorem dX10_district_9 : decode cX10_district 9 = .ok (.iload_n 2, 1) := by decide +kernel
theorem dX10_district_10 : decode cX10_district 10 = .ok (.bipush 6, 2) := by decide +kernel
theorem dX10_district_12 : decode cX10_district 12 = .ok (.if_icmp .le 14, 3) := by decide +kernel
theorem dX10_district_15 : decode cX10_district 15 = .ok (.new 176, 3) := by decide +kernel
theorem dX10_district_18 : decode cX10_district 18 = .ok (.dup, 1) := by decide +kernel
theorem dX10_district_19 : decode cX10_district 19 = .ok (.ldc_w 271, 3) := by decide +kernel
theorem dX10_district_22 : decode cX10_district 22 = .ok (.invokespecial 180, 3) := by decide +kernel
theorem dX10_district_25 : decode cX10_district 25 = .ok (.athrow, 1) := by decide +kernel
theorem dX10_district_26 : decode cX10_district 26 = .ok (.aload_n 0, 1) := by decide +kernel
theorem dX10_district_27 : decode cX10_district 27 = .ok (.invokevirtual 256, 3) := by decide +kernel
theorem dX10_district_30 : decode cX10_district 30 = .ok (.aload_n 0, 1) := by decide +kernel
theorem dX10_district_31 : decode cX10_district 31 = .ok (.getfield 33, 3) := by decide +kernel
theorem dX10_district_34 : decode cX10_district 34 = .ok (.getfield 166, 3) := by decide +kernel
theorem dX10_district_37 : decode cX10_district 37 = .ok (.getfield 273, 3) := by decide +kernel
theorem dX10_district_40 : decode cX10_district 40 = .ok (.iload_n 1, 1) := by decide +kernel
theorem dX10_district_41 : decode cX10_district 41 = .ok (.iaload, 1) := by decide +kernel
theorem dX10_district_42 : decode cX10_district 42 = .ok (.istore_n 3, 1) := by decide +kernel
theorem dX10_district_43 : decode cX10_district 43 = .ok (.iload_n 2, 1) := by decide +kernel
theorem dX10_district_44 : decode cX10_district 44 = .ok (.tableswitch 83 0 5 #[40, 45, 47, 56, 65, 74], 40) := by decide +kernel
theorem dX10_district_84 : decode cX10_district 84 = .ok (.iload_n 3, 1) := by decide +kernel
theorem dX10_district_85 : decode cX10_district 85 = .ok (.invokestatic 276, 3) := by decide +kernel
theorem dX10_district_88 : decode cX10_district 88 = .ok (.ireturn, 1) := by decide +kernel
theorem dX10_district_89 : decode cX10_district 89 = .ok (.iload_n 3, 1) := by decide +kernel
theorem dX10_district_90 : decode cX10_district 90 = .ok (.ireturn, 1) := by decide +kernel
theorem dX10_district_91 : decode cX10_district 91 = .ok (.aload_n 0, 1) := by decide +kernel
theorem dX10_district_92 : decode cX10_district 92 = .ok (.getfield 33, 3) := by decide +kernel
theorem dX10_district_95 : decode cX10_district 95 = .ok (.iload_n 3, 1) := by decide +kernel
theorem dX10_district_96 : decode cX10_district 96 = .ok (.invokevirtual 192, 3) := by decide +kernel
theorem dX10_district_99 : decode cX10_district 99 = .ok (.ireturn, 1) := by decide +kernel
theorem dX10_district_100 : decode cX10_district 100 = .ok (.aload_n 0, 1) := by decide +kernel
theorem dX10_district_101 : decode cX10_district 101 = .ok (.getfield 33, 3) := by decide +kernel
theorem dX10_district_104 : decode cX10_district 104 = .ok (.iload_n 3, 1) := by decide +kernel
theorem dX10_district_105 : decode cX10_district 105 = .ok (.invokevirtual 196, 3) := by decide +kernel
theorem dX10_district_108 : decode cX10_district 108 = .ok (.ireturn, 1) := by decide +kernel
theorem dX10_district_109 : decode cX10_district 109 = .ok (.aload_n 0, 1) := by decide +kernel
theorem dX10_district_110 : decode cX10_district 110 = .ok (.getfield 33, 3) := by decide +kernel
theorem dX10_district_113 : decode cX10_district 113 = .ok (.iload_n 3, 1) := by decide +kernel
theorem dX10_district_114 : decode cX10_district 114 = .ok (.invokevirtual 281, 3) := by decide +kernel
theorem dX10_district_117 : decode cX10_district 117 = .ok (.ireturn, 1) := by decide +kernel
theorem dX10_district_118 : decode cX10_district 118 = .ok (.aload_n 0, 1) := by decide +kernel
theorem dX10_district_119 : decode cX10_district 119 = .ok (.getfield 33, 3) := by decide +kernel
theorem dX10_district_122 : decode cX10_district 122 = .ok (.iload_n 1, 1) := by decide +kernel
theorem dX10_district_123 : decode cX10_district 123 = .ok (.invokevirtual 284, 3) := by decide +kernel
theorem dX10_district_126 : decode cX10_district 126 = .ok (.ireturn, 1) := by decide +kernel
theorem dX10_district_127 : decode cX10_district 127 = .ok (.aload_n 0, 1) := by decide +kernel
theorem dX10_district_128 : decode cX10_district 128 = .ok (.getfield 33, 3) := by decide +kernel
theorem dX10_district_131 : decode cX10_district 131 = .ok (.iload_n 3, 1) := by decide +kernel
theorem dX10_district_132 : decode cX10_district 132 = .ok (.invokevirtual 208, 3) := by decide +kernel
theorem dX10_district_135 : decode cX10_district 135 = .ok (.ireturn, 1) := by decide +kernel
theorem dX10_measure_0 : decode cX10_measure 0 = .ok (.aload_n 0, 1) := by decide +kernel
theorem dX10_measure_1 : decode cX10_measure 1 = .ok (.iload_n 1, 1) := by decide +kernel
theorem dX10_measure_2 : decode cX10_measure 2 = .ok (.invokevirtual 287, 3) := by decide +kernel
theorem dX10_measure_5 : decode cX10_measure 5 = .ok (.aload_n 0, 1) := by decide +kernel
theorem dX10_measure_6 : decode cX10_measure 6 = .ok (.invokevirtual 256, 3) := by decide +kernel
theorem dX10_measure_9 : decode cX10_measure 9 = .ok (.aload_n 0, 1) := by decide +kernel
theorem dX10_measure_10 : decode cX10_measure 10 = .ok (.getfield 33, 3) := by decide +kernel
theorem dX10_measure_13 : decode cX10_measure 13 = .ok (.aload_n 0, 1) := by decide +kernel
theorem dX10_measure_14 : decode cX10_measure 14 = .ok (.getfield 33, 3) := by decide +kernel
theorem dX10_measure_17 : decode cX10_measure 17 = .ok (.getfield 166, 3) := by decide +kernel
theorem dX10_measure_20 : decode cX10_measure 20 = .ok (.iload_n 1, 1) := by decide +kernel
theorem dX10_measure_21 : decode cX10_measure 21 = .ok (.aload_n 0, 1) := by decide +kernel
theorem dX10_measure_22 : decode cX10_measure 22 = .ok (.getfield 88, 3) := by decide +kernel
theorem dX10_measure_25 : decode cX10_measure 25 = .ok (.invokestatic 290, 3) := by decide +kernel
theorem dX10_measure_28 : decode cX10_measure 28 = .ok (.iload_n 2, 1) := by decide +kernel
theorem dX10_measure_29 : decode cX10_measure 29 = .ok (.ifCond .eq 13, 3) := by decide +kernel
theorem dX10_measure_32 : decode cX10_measure 32 = .ok (.aload_n 0, 1) := by decide +kernel
theorem dX10_measure_33 : decode cX10_measure 33 = .ok (.getfield 88, 3) := by decide +kernel
theorem dX10_measure_36 : decode cX10_measure 36 = .ok (.getfield 296, 3) := by decide +kernel
theorem dX10_measure_39 : decode cX10_measure 39 = .ok (.goto 10, 3) := by decide +kernel
theorem dX10_measure_42 : decode cX10_measure 42 = .ok (.aload_n 0, 1) := by decide +kernel
theorem dX10_measure_43 : decode cX10_measure 43 = .ok (.getfield 88, 3) := by decide +kernel
theorem dX10_measure_46 : decode cX10_measure 46 = .ok (.getfield 300, 3) := by decide +kernel
theorem dX10_measure_49 : decode cX10_measure 49 = .ok (.lreturn, 1) := by decide +kernel
theorem dX10_meanCompactness_0 : decode cX10_meanCompactness 0 = .ok (.aload_n 0, 1) := by decide +kernel
theorem dX10_meanCompactness_1 : decode cX10_meanCompactness 1 = .ok (.invokevirtual 256, 3) := by decide +kernel
theorem dX10_meanCompactness_4 : decode cX10_meanCompactness 4 = .ok (.fconst 0, 1) := by decide +kernel
theorem dX10_meanCompactness_5 : decode cX10_meanCompactness 5 = .ok (.fstore_n 1, 1) := by decide +kernel
theorem dX10_meanCompactness_6 : decode cX10_meanCompactness 6 = .ok (.iconst 0, 1) := by decide +kernel
theorem dX10_meanCompactness_7 : decode cX10_meanCompactness 7 = .ok (.istore_n 2, 1) := by decide +kernel
theorem dX10_meanCompactness_8 : decode cX10_meanCompactness 8 = .ok (.iload_n 2, 1) := by decide +kernel
theorem dX10_meanCompactness_9 : decode cX10_meanCompactness 9 = .ok (.aload_n 0, 1) := by decide +kernel
theorem dX10_meanCompactness_10 : decode cX10_meanCompactness 10 = .ok (.getfield 33, 3) := by decide +kernel
theorem dX10_meanCompactness_13 : decode cX10_meanCompactness 13 = .ok (.getfield 199, 3) := by decide +kernel
theorem dX10_meanCompactness_16 : decode cX10_meanCompactness 16 = .ok (.if_icmp .ge 31, 3) := by decide +kernel
theorem dX10_meanCompactness_19 : decode cX10_meanCompactness 19 = .ok (.fload_n 1, 1) := by decide +kernel
theorem dX10_meanCompactness_20 : decode cX10_meanCompactness 20 = .ok (.aload_n 0, 1) := by decide +kernel
theorem dX10_meanCompactness_21 : decode cX10_meanCompactness 21 = .ok (.getfield 33, 3) := by decide +kernel
theorem dX10_meanCompactness_24 : decode cX10_meanCompactness 24 = .ok (.aload_n 0, 1) := by decide +kernel
theorem dX10_meanCompactness_25 : decode cX10_meanCompactness 25 = .ok (.getfield 33, 3) := by decide +kernel
theorem dX10_meanCompactness_28 : decode cX10_meanCompactness 28 = .ok (.getfield 166, 3) := by decide +kernel
theorem dX10_meanCompactness_31 : decode cX10_meanCompactness 31 = .ok (.getfield 273, 3) := by decide +kernel
theorem dX10_meanCompactness_34 : decode cX10_meanCompactness 34 = .ok (.iload_n 2, 1) := by decide +kernel
theorem dX10_meanCompactness_35 : decode cX10_meanCompactness 35 = .ok (.iaload, 1) := by decide +kernel
theorem dX10_meanCompactness_36 : decode cX10_meanCompactness 36 = .ok (.invokestatic 303, 3) := by decide +kernel
theorem dX10_meanCompactness_39 : decode cX10_meanCompactness 39 = .ok (.fadd, 1) := by decide +kernel
theorem dX10_meanCompactness_40 : decode cX10_meanCompactness 40 = .ok (.fstore_n 1, 1) := by decide +kernel
theorem dX10_meanCompactness_41 : decode cX10_meanCompactness 41 = .ok (.iinc 2 1, 3) := by decide +kernel
theorem dX10_meanCompactness_44 : decode cX10_meanCompactness 44 = .ok (.goto (-36), 3) := by decide +kernel
theorem dX10_meanCompactness_47 : decode cX10_meanCompactness 47 = .ok (.fload_n 1, 1) := by decide +kernel
theorem dX10_meanCompactness_48 : decode cX10_meanCompactness 48 = .ok (.aload_n 0, 1) := by decide +kernel
theorem dX10_meanCompactness_49 : decode cX10_meanCompactness 49 = .ok (.getfield 33, 3) := by decide +kernel
theorem dX10_meanCompactness_52 : decode cX10_meanCompactness 52 = .ok (.getfield 199, 3) := by decide +kernel
theorem dX10_meanCompactness_55 : decode cX10_meanCompactness 55 = .ok (.i2f, 1) := by decide +kernel
theorem dX10_meanCompactness_56 : decode cX10_meanCompactness 56 = .ok (.fdiv, 1) := by decide +kernel
theorem dX10_meanCompactness_57 : decode cX10_meanCompactness 57 = .ok (.freturn, 1) := by decide +kernel
theorem dX10_improve_0 : decode cX10_improve 0 = .ok (.aload_n 0, 1) := by decide +kernel
theorem dX10_improve_1 : decode cX10_improve 1 = .ok (.iload_n 1, 1) := by decide +kernel
theorem dX10_improve_2 : decode cX10_improve 2 = .ok (.invokevirtual 287, 3) := by decide +kernel
theorem dX10_improve_5 : decode cX10_improve 5 = .ok (.aload_n 0, 1) := by decide +kernel
theorem dX10_improve_6 : decode cX10_improve 6 = .ok (.invokevirtual 256, 3) := by decide +kernel
theorem dX10_improve_9 : decode cX10_improve 9 = .ok (.aload_n 0, 1) := by decide +kernel
theorem dX10_improve_10 : decode cX10_improve 10 = .ok (.getfield 81, 3) := by decide +kernel
theorem dX10_improve_13 : decode cX10_improve 13 = .ok (.aload_n 0, 1) := by decide +kernel
theorem dX10_improve_14 : decode cX10_improve 14 = .ok (.getfield 33, 3) := by decide +kernel
theorem dX10_improve_17 : decode cX10_improve 17 = .ok (.invokevirtual 123, 3) := by decide +kernel
theorem dX10_improve_20 : decode cX10_improve 20 = .ok (.iconst 0, 1) := by decide +kernel
theorem dX10_improve_21 : decode cX10_improve 21 = .ok (.istore_n 2, 1) := by decide +kernel
theorem dX10_improve_22 : decode cX10_improve 22 = .ok (.iload_n 2, 1) := by decide +kernel
theorem dX10_improve_23 : decode cX10_improve 23 = .ok (.bipush 20, 2) := by decide +kernel
theorem dX10_improve_25 : decode cX10_improve 25 = .ok (.if_icmp .ge 82, 3) := by decide +kernel
theorem dX10_improve_28 : decode cX10_improve 28 = .ok (.aload_n 0, 1) := by decide +kernel
theorem dX10_improve_29 : decode cX10_improve 29 = .ok (.getfield 67, 3) := by decide +kernel
theorem dX10_improve_32 : decode cX10_improve 32 = .ok (.aload_n 0, 1) := by decide +kernel
theorem dX10_improve_33 : decode cX10_improve 33 = .ok (.getfield 33, 3) := by decide +kernel
theorem dX10_improve_36 : decode cX10_improve 36 = .ok (.iload_n 1, 1) := by decide +kernel
theorem dX10_improve_37 : decode cX10_improve 37 = .ok (.invokevirtual 307, 3) := by decide +kernel
theorem dX10_improve_40 : decode cX10_improve 40 = .ok (.aload_n 0, 1) := by decide +kernel
theorem dX10_improve_41 : decode cX10_improve 41 = .ok (.getfield 67, 3) := by decide +kernel
theorem dX10_improve_44 : decode cX10_improve 44 = .ok (.aload_n 0, 1) := by decide +kernel
theorem dX10_improve_45 : decode cX10_improve 45 = .ok (.getfield 33, 3) := by decide +kernel
theorem dX10_improve_48 : decode cX10_improve 48 = .ok (.aload_n 0, 1) := by decide +kernel
theorem dX10_improve_49 : decode cX10_improve 49 = .ok (.getfield 60, 3) := by decide +kernel
theorem dX10_improve_52 : decode cX10_improve 52 = .ok (.invokevirtual 311, 3) := by decide +kernel
theorem dX10_improve_55 : decode cX10_improve 55 = .ok (.pop, 1) := by decide +kernel
theorem dX10_improve_56 : decode cX10_improve 56 = .ok (.aload_n 0, 1) := by decide +kernel
theorem dX10_improve_57 : decode cX10_improve 57 = .ok (.getfield 67, 3) := by decide +kernel
theorem dX10_improve_60 : decode cX10_improve 60 = .ok (.aload_n 0, 1) := by decide +kernel
theorem dX10_improve_61 : decode cX10_improve 61 = .ok (.getfield 33, 3) := by decide +kernel
theorem dX10_improve_64 : decode cX10_improve 64 = .ok (.aload_n 0, 1) := by decide +kernel
theorem dX10_improve_65 : decode cX10_improve 65 = .ok (.getfield 60, 3) := by decide +kernel
theorem dX10_improve_68 : decode cX10_improve 68 = .ok (.invokevirtual 315, 3) := by decide +kernel
theorem dX10_improve_71 : decode cX10_improve 71 = .ok (.pop, 1) := by decide +kernel
theorem dX10_improve_72 : decode cX10_improve 72 = .ok (.aload_n 0, 1) := by decide +kernel
theorem dX10_improve_73 : decode cX10_improve 73 = .ok (.getfield 67, 3) := by decide +kernel
theorem dX10_improve_76 : decode cX10_improve 76 = .ok (.getfield 318, 3) := by decide +kernel
theorem dX10_improve_79 : decode cX10_improve 79 = .ok (.ifCond .ne 5, 3) := by decide +kernel
theorem dX10_improve_82 : decode cX10_improve 82 = .ok (.iload_n 2, 1) := by decide +kernel
theorem dX10_improve_83 : decode cX10_improve 83 = .ok (.ireturn, 1) := by decide +kernel
theorem dX10_improve_84 : decode cX10_improve 84 = .ok (.aload_n 0, 1) := by decide +kernel
theorem dX10_improve_85 : decode cX10_improve 85 = .ok (.getfield 33, 3) := by decide +kernel
theorem dX10_improve_88 : decode cX10_improve 88 = .ok (.getfield 166, 3) := by decide +kernel
theorem dX10_improve_91 : decode cX10_improve 91 = .ok (.aload_n 0, 1) := by decide +kernel
theorem dX10_improve_92 : decode cX10_improve 92 = .ok (.getfield 67, 3) := by decide +kernel
theorem dX10_improve_95 : decode cX10_improve 95 = .ok (.getfield 321, 3) := by decide +kernel
theorem dX10_improve_98 : decode cX10_improve 98 = .ok (.invokevirtual 324, 3) := by decide +kernel
theorem dX10_improve_101 : decode cX10_improve 101 = .ok (.iinc 2 1, 3) := by decide +kernel
theorem dX10_improve_104 : decode cX10_improve 104 = .ok (.goto (-82), 3) := by decide +kernel
theorem dX10_improve_107 : decode cX10_improve 107 = .ok (.bipush 20, 2) := by decide +kernel
theorem dX10_improve_109 : decode cX10_improve 109 = .ok (.ireturn, 1) := by decide +kernel
theorem dX10_possible_0 : decode cX10_possible 0 = .ok (.aload_n 0, 1) := by decide +kernel
theorem dX10_possible_1 : decode cX10_possible 1 = .ok (.invokevirtual 256, 3) := by decide +kernel
theorem dX10_possible_4 : decode cX10_possible 4 = .ok (.aload_n 0, 1) := by decide +kernel
theorem dX10_possible_5 : decode cX10_possible 5 = .ok (.getfield 67, 3) := by decide +kernel
theorem dX10_possible_8 : decode cX10_possible 8 = .ok (.aload_n 0, 1) := by decide +kernel
theorem dX10_possible_9 : decode cX10_possible 9 = .ok (.getfield 33, 3) := by decide +kernel
theorem dX10_possible_12 : decode cX10_possible 12 = .ok (.iconst (-1), 1) := by decide +kernel
theorem dX10_possible_13 : decode cX10_possible 13 = .ok (.invokevirtual 307, 3) := by decide +kernel
theorem dX10_possible_16 : decode cX10_possible 16 = .ok (.iload_n 1, 1) := by decide +kernel
theorem dX10_possible_17 : decode cX10_possible 17 = .ok (.ifCond .eq 21, 3) := by decide +kernel
theorem dX10_possible_20 : decode cX10_possible 20 = .ok (.aload_n 0, 1) := by decide +kernel
theorem dX10_possible_21 : decode cX10_possible 21 = .ok (.getfield 67, 3) := by decide +kernel
theorem dX10_possible_24 : decode cX10_possible 24 = .ok (.aload_n 0, 1) := by decide +kernel
theorem dX10_possible_25 : decode cX10_possible 25 = .ok (.getfield 33, 3) := by decide +kernel
theorem dX10_possible_28 : decode cX10_possible 28 = .ok (.aload_n 0, 1) := by decide +kernel
theorem dX10_possible_29 : decode cX10_possible 29 = .ok (.getfield 60, 3) := by decide +kernel
theorem dX10_possible_32 : decode cX10_possible 32 = .ok (.invokevirtual 315, 3) := by decide +kernel
theorem dX10_possible_35 : decode cX10_possible 35 = .ok (.goto 18, 3) := by decide +kernel
theorem dX10_possible_38 : decode cX10_possible 38 = .ok (.aload_n 0, 1) := by decide +kernel
theorem dX10_possible_39 : decode cX10_possible 39 = .ok (.getfield 67, 3) := by decide +kernel
theorem dX10_possible_42 : decode cX10_possible 42 = .ok (.aload_n 0, 1) := by decide +kernel
theorem dX10_possible_43 : decode cX10_possible 43 = .ok (.getfield 33, 3) := by decide +kernel
theorem dX10_possible_46 : decode cX10_possible 46 = .ok (.aload_n 0, 1) := by decide +kernel
theorem dX10_possible_47 : decode cX10_possible 47 = .ok (.getfield 60, 3) := by decide +kernel
theorem dX10_possible_50 : decode cX10_possible 50 = .ok (.invokevirtual 311, 3) := by decide +kernel
theorem dX10_possible_53 : decode cX10_possible 53 = .ok (.ireturn, 1) := by decide +kernel
theorem dX10_plans_0 : decode cX10_plans 0 = .ok (.aload_n 0, 1) := by decide +kernel
theorem dX10_plans_1 : decode cX10_plans 1 = .ok (.invokevirtual 326, 3) := by decide +kernel
theorem dX10_plans_4 : decode cX10_plans 4 = .ok (.aload_n 0, 1) := by decide +kernel
theorem dX10_plans_5 : decode cX10_plans 5 = .ok (.getfield 74, 3) := by decide +kernel
theorem dX10_plans_8 : decode cX10_plans 8 = .ok (.aload_n 0, 1) := by decide +kernel
theorem dX10_plans_9 : decode cX10_plans 9 = .ok (.getfield 33, 3) := by decide +kernel
theorem dX10_plans_12 : decode cX10_plans 12 = .ok (.invokevirtual 329, 3) := by decide +kernel
theorem dX10_plans_15 : decode cX10_plans 15 = .ok (.ireturn, 1) := by decide +kernel
theorem dX10_counted_0 : decode cX10_counted 0 = .ok (.aload_n 0, 1) := by decide +kernel
theorem dX10_counted_1 : decode cX10_counted 1 = .ok (.invokevirtual 326, 3) := by decide +kernel
theorem dX10_counted_4 : decode cX10_counted 4 = .ok (.aload_n 0, 1) := by decide +kernel
theorem dX10_counted_5 : decode cX10_counted 5 = .ok (.getfield 74, 3) := by decide +kernel
theorem dX10_counted_8 : decode cX10_counted 8 = .ok (.aload_n 0, 1) := by decide +kernel
theorem dX10_counted_9 : decode cX10_counted 9 = .ok (.getfield 33, 3) := by decide +kernel
theorem dX10_counted_12 : decode cX10_counted 12 = .ok (.invokevirtual 333, 3) := by decide +kernel
theorem dX10_counted_15 : decode cX10_counted 15 = .ok (.ireturn, 1) := by decide +kernel
theorem dX10_planned_0 : decode cX10_planned 0 = .ok (.aload_n 0, 1) := by decide +kernel
theorem dX10_planned_1 : decode cX10_planned 1 = .ok (.invokevirtual 326, 3) := by decide +kernel
theorem dX10_planned_4 : decode cX10_planned 4 = .ok (.aload_n 0, 1) := by decide +kernel
theorem dX10_planned_5 : decode cX10_planned 5 = .ok (.iload_n 2, 1) := by decide +kernel
theorem dX10_planned_6 : decode cX10_planned 6 = .ok (.invokevirtual 140, 3) := by decide +kernel
theorem dX10_planned_9 : decode cX10_planned 9 = .ok (.aload_n 0, 1) := by decide +kernel
theorem dX10_planned_10 : decode cX10_planned 10 = .ok (.iload_n 1, 1) := by decide +kernel
theorem dX10_planned_11 : decode cX10_planned 11 = .ok (.invokevirtual 336, 3) := by decide +kernel
theorem dX10_planned_14 : decode cX10_planned 14 = .ok (.aload_n 0, 1) := by decide +kernel
theorem dX10_planned_15 : decode cX10_planned 15 = .ok (.getfield 74, 3) := by decide +kernel
theorem dX10_planned_18 : decode cX10_planned 18 = .ok (.iload_n 1, 1) := by decide +kernel
theorem dX10_planned_19 : decode cX10_planned 19 = .ok (.aload_n 0, 1) := by decide +kernel
theorem dX10_planned_20 : decode cX10_planned 20 = .ok (.getfield 33, 3) := by decide +kernel
theorem dX10_planned_23 : decode cX10_planned 23 = .ok (.aload_n 0, 1) := by decide +kernel
theorem dX10_planned_24 : decode cX10_planned 24 = .ok (.getfield 46, 3) := by decide +kernel
theorem dX10_planned_27 : decode cX10_planned 27 = .ok (.invokevirtual 339, 3) := by decide +kernel
theorem dX10_planned_30 : decode cX10_planned 30 = .ok (.aload_n 0, 1) := by decide +kernel
theorem dX10_planned_31 : decode cX10_planned 31 = .ok (.getfield 46, 3) := by decide +kernel
theorem dX10_planned_34 : decode cX10_planned 34 = .ok (.getfield 169, 3) := by decide +kernel
theorem dX10_planned_37 : decode cX10_planned 37 = .ok (.iload_n 2, 1) := by decide +kernel
theorem dX10_planned_38 : decode cX10_planned 38 = .ok (.iaload, 1) := by decide +kernel
theorem dX10_planned_39 : decode cX10_planned 39 = .ok (.ireturn, 1) := by decide +kernel
theorem dX10_best_0 : decode cX10_best 0 = .ok (.aload_n 0, 1) := by decide +kernel
theorem dX10_best_1 : decode cX10_best 1 = .ok (.iload_n 1, 1) := by decide +kernel
theorem dX10_best_2 : decode cX10_best 2 = .ok (.invokevirtual 287, 3) := by decide +kernel
theorem dX10_best_5 : decode cX10_best 5 = .ok (.aload_n 0, 1) := by decide +kernel
theorem dX10_best_6 : decode cX10_best 6 = .ok (.invokevirtual 326, 3) := by decide +kernel
theorem dX10_best_9 : decode cX10_best 9 = .ok (.aload_n 0, 1) := by decide +kernel
theorem dX10_best_10 : decode cX10_best 10 = .ok (.getfield 74, 3) := by decide +kernel
theorem dX10_best_13 : decode cX10_best 13 = .ok (.aload_n 0, 1) := by decide +kernel
theorem dX10_best_14 : decode cX10_best 14 = .ok (.getfield 33, 3) := by decide +kernel
theorem dX10_best_17 : decode cX10_best 17 = .ok (.invokevirtual 329, 3) := by decide +kernel
theorem dX10_best_20 : decode cX10_best 20 = .ok (.ifCond .ne 14, 3) := by decide +kernel
theorem dX10_best_23 : decode cX10_best 23 = .ok (.new 132, 3) := by decide +kernel
theorem dX10_best_26 : decode cX10_best 26 = .ok (.dup, 1) := by decide +kernel
theorem dX10_best_27 : decode cX10_best 27 = .ok (.ldc_w 343, 3) := by decide +kernel
theorem dX10_best_30 : decode cX10_best 30 = .ok (.invokespecial 136, 3) := by decide +kernel
theorem dX10_best_33 : decode cX10_best 33 = .ok (.athrow, 1) := by decide +kernel
theorem dX10_best_34 : decode cX10_best 34 = .ok (.aload_n 0, 1) := by decide +kernel
theorem dX10_best_35 : decode cX10_best 35 = .ok (.getfield 74, 3) := by decide +kernel
theorem dX10_best_38 : decode cX10_best 38 = .ok (.aload_n 0, 1) := by decide +kernel
theorem dX10_best_39 : decode cX10_best 39 = .ok (.getfield 33, 3) := by decide +kernel
theorem dX10_best_42 : decode cX10_best 42 = .ok (.iload_n 1, 1) := by decide +kernel
theorem dX10_best_43 : decode cX10_best 43 = .ok (.invokevirtual 345, 3) := by decide +kernel
theorem dX10_best_46 : decode cX10_best 46 = .ok (.ireturn, 1) := by decide +kernel
theorem dX10_choose_0 : decode cX10_choose 0 = .ok (.aload_n 0, 1) := by decide +kernel
theorem dX10_choose_1 : decode cX10_choose 1 = .ok (.invokevirtual 326, 3) := by decide +kernel
theorem dX10_choose_4 : decode cX10_choose 4 = .ok (.aload_n 0, 1) := by decide +kernel
theorem dX10_choose_5 : decode cX10_choose 5 = .ok (.iload_n 1, 1) := by decide +kernel
theorem dX10_choose_6 : decode cX10_choose 6 = .ok (.invokevirtual 336, 3) := by decide +kernel
theorem dX10_choose_9 : decode cX10_choose 9 = .ok (.aload_n 0, 1) := by decide +kernel
theorem dX10_choose_10 : decode cX10_choose 10 = .ok (.getfield 74, 3) := by decide +kernel
theorem dX10_choose_13 : decode cX10_choose 13 = .ok (.iload_n 1, 1) := by decide +kernel
theorem dX10_choose_14 : decode cX10_choose 14 = .ok (.aload_n 0, 1) := by decide +kernel
theorem dX10_choose_15 : decode cX10_choose 15 = .ok (.getfield 33, 3) := by decide +kernel
theorem dX10_choose_18 : decode cX10_choose 18 = .ok (.aload_n 0, 1) := by decide +kernel
theorem dX10_choose_19 : decode cX10_choose 19 = .ok (.getfield 46, 3) := by decide +kernel
theorem dX10_choose_22 : decode cX10_choose 22 = .ok (.invokevirtual 339, 3) := by decide +kernel
theorem dX10_choose_25 : decode cX10_choose 25 = .ok (.iconst 0, 1) := by decide +kernel
theorem dX10_choose_26 : decode cX10_choose 26 = .ok (.istore_n 2, 1) := by decide +kernel
theorem dX10_choose_27 : decode cX10_choose 27 = .ok (.iconst 0, 1) := by decide +kernel
theorem dX10_choose_28 : decode cX10_choose 28 = .ok (.istore_n 3, 1) := by decide +kernel
theorem dX10_choose_29 : decode cX10_choose 29 = .ok (.iload_n 3, 1) := by decide +kernel
theorem dX10_choose_30 : decode cX10_choose 30 = .ok (.aload_n 0, 1) := by decide +kernel
theorem dX10_choose_31 : decode cX10_choose 31 = .ok (.getfield 33, 3) := by decide +kernel
theorem dX10_choose_34 : decode cX10_choose 34 = .ok (.getfield 129, 3) := by decide +kernel
theorem dX10_choose_37 : decode cX10_choose 37 = .ok (.if_icmp .ge 46, 3) := by decide +kernel
theorem dX10_choose_40 : decode cX10_choose 40 = .ok (.aload_n 0, 1) := by decide +kernel
theorem dX10_choose_41 : decode cX10_choose 41 = .ok (.getfield 33, 3) := by decide +kernel
theorem dX10_choose_44 : decode cX10_choose 44 = .ok (.getfield 163, 3) := by decide +kernel
theorem dX10_choose_47 : decode cX10_choose 47 = .ok (.ifCond .eq 27, 3) := by decide +kernel
theorem dX10_choose_50 : decode cX10_choose 50 = .ok (.aload_n 0, 1) := by decide +kernel
theorem dX10_choose_51 : decode cX10_choose 51 = .ok (.getfield 33, 3) := by decide +kernel
theorem dX10_choose_54 : decode cX10_choose 54 = .ok (.getfield 166, 3) := by decide +kernel
theorem dX10_choose_57 : decode cX10_choose 57 = .ok (.getfield 169, 3) := by decide +kernel
theorem dX10_choose_60 : decode cX10_choose 60 = .ok (.iload_n 3, 1) := by decide +kernel
theorem dX10_choose_61 : decode cX10_choose 61 = .ok (.iaload, 1) := by decide +kernel
theorem dX10_choose_62 : decode cX10_choose 62 = .ok (.aload_n 0, 1) := by decide +kernel
theorem dX10_choose_63 : decode cX10_choose 63 = .ok (.getfield 46, 3) := by decide +kernel
theorem dX10_choose_66 : decode cX10_choose 66 = .ok (.getfield 169, 3) := by decide +kernel
theorem dX10_choose_69 : decode cX10_choose 69 = .ok (.iload_n 3, 1) := by decide +kernel
theorem dX10_choose_70 : decode cX10_choose 70 = .ok (.iaload, 1) := by decide +kernel
theorem dX10_choose_71 : decode cX10_choose 71 = .ok (.if_icmp .eq 6, 3) := by decide +kernel
theorem dX10_choose_74 : decode cX10_choose 74 = .ok (.iinc 2 1, 3) := by decide +kernel
theorem dX10_choose_77 : decode cX10_choose 77 = .ok (.iinc 3 1, 3) := by decide +kernel
theorem dX10_choose_80 : decode cX10_choose 80 = .ok (.goto (-51), 3) := by decide +kernel
theorem dX10_choose_83 : decode cX10_choose 83 = .ok (.aload_n 0, 1) := by decide +kernel
theorem dX10_choose_84 : decode cX10_choose 84 = .ok (.aload_n 0, 1) := by decide +kernel
theorem dX10_choose_85 : decode cX10_choose 85 = .ok (.getfield 46, 3) := by decide +kernel
theorem dX10_choose_88 : decode cX10_choose 88 = .ok (.invokevirtual 243, 3) := by decide +kernel
theorem dX10_choose_91 : decode cX10_choose 91 = .ok (.iload_n 2, 1) := by decide +kernel
theorem dX10_choose_92 : decode cX10_choose 92 = .ok (.ireturn, 1) := by decide +kernel
theorem dX10_store_0 : decode cX10_store 0 = .ok (.iload_n 1, 1) := by decide +kernel
theorem dX10_store_1 : decode cX10_store 1 = .ok (.invokestatic 349, 3) := by decide +kernel
theorem dX10_store_4 : decode cX10_store 4 = .ok (.ifCond .ne 14, 3) := by decide +kernel
theorem dX10_store_7 : decode cX10_store 7 = .ok (.new 352, 3) := by decide +kernel
theorem dX10_store_10 : decode cX10_store 10 = .ok (.dup, 1) := by decide +kernel
theorem dX10_store_11 : decode cX10_store 11 = .ok (.ldc_w 354, 3) := by decide +kernel
theorem dX10_store_14 : decode cX10_store 14 = .ok (.invokespecial 356, 3) := by decide +kernel
theorem dX10_store_17 : decode cX10_store 17 = .ok (.athrow, 1) := by decide +kernel
theorem dX10_store_18 : decode cX10_store 18 = .ok (.aload_n 0, 1) := by decide +kernel
theorem dX10_store_19 : decode cX10_store 19 = .ok (.invokevirtual 256, 3) := by decide +kernel
theorem dX10_store_22 : decode cX10_store 22 = .ok (.aload_n 0, 1) := by decide +kernel
theorem dX10_store_23 : decode cX10_store 23 = .ok (.getfield 94, 3) := by decide +kernel
theorem dX10_store_26 : decode cX10_store 26 = .ok (.iload_n 1, 1) := by decide +kernel
theorem dX10_store_27 : decode cX10_store 27 = .ok (.aaload, 1) := by decide +kernel
theorem dX10_store_28 : decode cX10_store 28 = .ok (.aload_n 0, 1) := by decide +kernel
theorem dX10_store_29 : decode cX10_store 29 = .ok (.getfield 33, 3) := by decide +kernel
theorem dX10_store_32 : decode cX10_store 32 = .ok (.iload_n 2, 1) := by decide +kernel
theorem dX10_store_33 : decode cX10_store 33 = .ok (.invokevirtual 357, 3) := by decide +kernel
theorem dX10_store_36 : decode cX10_store 36 = .ok (.aload_n 0, 1) := by decide +kernel
theorem dX10_store_37 : decode cX10_store 37 = .ok (.getfield 94, 3) := by decide +kernel
theorem dX10_store_40 : decode cX10_store 40 = .ok (.iload_n 1, 1) := by decide +kernel
theorem dX10_store_41 : decode cX10_store 41 = .ok (.aaload, 1) := by decide +kernel
theorem dX10_store_42 : decode cX10_store 42 = .ok (.getfield 361, 3) := by decide +kernel
theorem dX10_store_45 : decode cX10_store 45 = .ok (.ireturn, 1) := by decide +kernel
theorem dX10_copyRow_0 : decode cX10_copyRow 0 = .ok (.iload_n 1, 1) := by decide +kernel
theorem dX10_copyRow_1 : decode cX10_copyRow 1 = .ok (.invokestatic 349, 3) := by decide +kernel
theorem dX10_copyRow_4 : decode cX10_copyRow 4 = .ok (.ifCond .eq 10, 3) := by decide +kernel
theorem dX10_copyRow_7 : decode cX10_copyRow 7 = .ok (.iload_n 2, 1) := by decide +kernel
theorem dX10_copyRow_8 : decode cX10_copyRow 8 = .ok (.invokestatic 349, 3) := by decide +kernel
theorem dX10_copyRow_11 : decode cX10_copyRow 11 = .ok (.ifCond .ne 14, 3) := by decide +kernel
theorem dX10_copyRow_14 : decode cX10_copyRow 14 = .ok (.new 176, 3) := by decide +kernel
theorem dX10_copyRow_17 : decode cX10_copyRow 17 = .ok (.dup, 1) := by decide +kernel
theorem dX10_copyRow_18 : decode cX10_copyRow 18 = .ok (.ldc_w 354, 3) := by decide +kernel
theorem dX10_copyRow_21 : decode cX10_copyRow 21 = .ok (.invokespecial 180, 3) := by decide +kernel
theorem dX10_copyRow_24 : decode cX10_copyRow 24 = .ok (.athrow, 1) := by decide +kernel
theorem dX10_copyRow_25 : decode cX10_copyRow 25 = .ok (.aload_n 0, 1) := by decide +kernel
theorem dX10_copyRow_26 : decode cX10_copyRow 26 = .ok (.getfield 94, 3) := by decide +kernel
theorem dX10_copyRow_29 : decode cX10_copyRow 29 = .ok (.iload_n 1, 1) := by decide +kernel
theorem dX10_copyRow_30 : decode cX10_copyRow 30 = .ok (.aaload, 1) := by decide +kernel
theorem dX10_copyRow_31 : decode cX10_copyRow 31 = .ok (.astore 4, 2) := by decide +kernel
theorem dX10_copyRow_33 : decode cX10_copyRow 33 = .ok (.aload_n 0, 1) := by decide +kernel
theorem dX10_copyRow_34 : decode cX10_copyRow 34 = .ok (.getfield 94, 3) := by decide +kernel
theorem dX10_copyRow_37 : decode cX10_copyRow 37 = .ok (.iload_n 2, 1) := by decide +kernel
theorem dX10_copyRow_38 : decode cX10_copyRow 38 = .ok (.aaload, 1) := by decide +kernel
theorem dX10_copyRow_39 : decode cX10_copyRow 39 = .ok (.astore 5, 2) := by decide +kernel
theorem dX10_copyRow_41 : decode cX10_copyRow 41 = .ok (.aload 4, 2) := by decide +kernel
theorem dX10_copyRow_43 : decode cX10_copyRow 43 = .ok (.invokevirtual 364, 3) := by decide +kernel
theorem dX10_copyRow_46 : decode cX10_copyRow 46 = .ok (.ifCond .ne 11, 3) := by decide +kernel
theorem dX10_copyRow_49 : decode cX10_copyRow 49 = .ok (.aload 5, 2) := by decide +kernel
theorem dX10_copyRow_51 : decode cX10_copyRow 51 = .ok (.invokevirtual 364, 3) := by decide +kernel
theorem dX10_copyRow_54 : decode cX10_copyRow 54 = .ok (.ifCond .eq 14, 3) := by decide +kernel
theorem dX10_copyRow_57 : decode cX10_copyRow 57 = .ok (.new 132, 3) := by decide +kernel
theorem dX10_copyRow_60 : decode cX10_copyRow 60 = .ok (.dup, 1) := by decide +kernel
theorem dX10_copyRow_61 : decode cX10_copyRow 61 = .ok (.ldc_w 368, 3) := by decide +kernel
theorem dX10_copyRow_64 : decode cX10_copyRow 64 = .ok (.invokespecial 136, 3) := by decide +kernel
theorem dX10_copyRow_67 : decode cX10_copyRow 67 = .ok (.athrow, 1) := by decide +kernel
theorem dX10_copyRow_68 : decode cX10_copyRow 68 = .ok (.aload 4, 2) := by decide +kernel
theorem dX10_copyRow_70 : decode cX10_copyRow 70 = .ok (.getfield 370, 3) := by decide +kernel
theorem dX10_copyRow_73 : decode cX10_copyRow 73 = .ok (.aload 5, 2) := by decide +kernel
theorem dX10_copyRow_75 : decode cX10_copyRow 75 = .ok (.getfield 370, 3) := by decide +kernel
theorem dX10_copyRow_78 : decode cX10_copyRow 78 = .ok (.if_icmp .eq 14, 3) := by decide +kernel
theorem dX10_copyRow_81 : decode cX10_copyRow 81 = .ok (.new 118, 3) := by decide +kernel
theorem dX10_copyRow_84 : decode cX10_copyRow 84 = .ok (.dup, 1) := by decide +kernel
theorem dX10_copyRow_85 : decode cX10_copyRow 85 = .ok (.ldc_w 373, 3) := by decide +kernel
theorem dX10_copyRow_88 : decode cX10_copyRow 88 = .ok (.invokespecial 122, 3) := by decide +kernel
theorem dX10_copyRow_91 : decode cX10_copyRow 91 = .ok (.athrow, 1) := by decide +kernel
theorem dX10_copyRow_92 : decode cX10_copyRow 92 = .ok (.iload_n 3, 1) := by decide +kernel
theorem dX10_copyRow_93 : decode cX10_copyRow 93 = .ok (.ifCond .lt 21, 3) := by decide +kernel
theorem dX10_copyRow_96 : decode cX10_copyRow 96 = .ok (.iload_n 3, 1) := by decide +kernel
theorem dX10_copyRow_97 : decode cX10_copyRow 97 = .ok (.aload 4, 2) := by decide +kernel
theorem dX10_copyRow_99 : decode cX10_copyRow 99 = .ok (.getfield 361, 3) := by decide +kernel
theorem dX10_copyRow_102 : decode cX10_copyRow 102 = .ok (.if_icmp .gt 12, 3) := by decide +kernel
theorem dX10_copyRow_105 : decode cX10_copyRow 105 = .ok (.iload_n 3, 1) := by decide +kernel
theorem dX10_copyRow_106 : decode cX10_copyRow 106 = .ok (.aload 5, 2) := by decide +kernel
theorem dX10_copyRow_108 : decode cX10_copyRow 108 = .ok (.getfield 361, 3) := by decide +kernel
theorem dX10_copyRow_111 : decode cX10_copyRow 111 = .ok (.if_icmp .le 14, 3) := by decide +kernel
theorem dX10_copyRow_114 : decode cX10_copyRow 114 = .ok (.new 352, 3) := by decide +kernel
theorem dX10_copyRow_117 : decode cX10_copyRow 117 = .ok (.dup, 1) := by decide +kernel
theorem dX10_copyRow_118 : decode cX10_copyRow 118 = .ok (.ldc_w 375, 3) := by decide +kernel
theorem dX10_copyRow_121 : decode cX10_copyRow 121 = .ok (.invokespecial 356, 3) := by decide +kernel
theorem dX10_copyRow_124 : decode cX10_copyRow 124 = .ok (.athrow, 1) := by decide +kernel
theorem dX10_copyRow_125 : decode cX10_copyRow 125 = .ok (.aload 5, 2) := by decide +kernel
theorem dX10_copyRow_127 : decode cX10_copyRow 127 = .ok (.aload 4, 2) := by decide +kernel
theorem dX10_copyRow_129 : decode cX10_copyRow 129 = .ok (.iload_n 3, 1) := by decide +kernel
theorem dX10_copyRow_130 : decode cX10_copyRow 130 = .ok (.invokevirtual 377, 3) := by decide +kernel
theorem dX10_copyRow_133 : decode cX10_copyRow 133 = .ok (.aload 5, 2) := by decide +kernel
theorem dX10_copyRow_135 : decode cX10_copyRow 135 = .ok (.invokevirtual 381, 3) := by decide +kernel
theorem dX10_copyRow_138 : decode cX10_copyRow 138 = .ok (.ireturn, 1) := by decide +kernel
theorem dX10_bits_0 : decode cX10_bits 0 = .ok (.iload_n 1, 1) := by decide +kernel
theorem dX10_bits_1 : decode cX10_bits 1 = .ok (.invokestatic 349, 3) := by decide +kernel
theorem dX10_bits_4 : decode cX10_bits 4 = .ok (.ifCond .ne 14, 3) := by decide +kernel
theorem dX10_bits_7 : decode cX10_bits 7 = .ok (.new 352, 3) := by decide +kernel
theorem dX10_bits_10 : decode cX10_bits 10 = .ok (.dup, 1) := by decide +kernel
theorem dX10_bits_11 : decode cX10_bits 11 = .ok (.ldc_w 354, 3) := by decide +kernel
theorem dX10_bits_14 : decode cX10_bits 14 = .ok (.invokespecial 356, 3) := by decide +kernel
theorem dX10_bits_17 : decode cX10_bits 17 = .ok (.athrow, 1) := by decide +kernel
theorem dX10_bits_18 : decode cX10_bits 18 = .ok (.iload_n 2, 1) := by decide +kernel
theorem dX10_bits_19 : decode cX10_bits 19 = .ok (.ifCond .lt 16, 3) := by decide +kernel
theorem dX10_bits_22 : decode cX10_bits 22 = .ok (.iload_n 2, 1) := by decide +kernel
theorem dX10_bits_23 : decode cX10_bits 23 = .ok (.aload_n 0, 1) := by decide +kernel
theorem dX10_bits_24 : decode cX10_bits 24 = .ok (.getfield 94, 3) := by decide +kernel
theorem dX10_bits_27 : decode cX10_bits 27 = .ok (.iload_n 1, 1) := by decide +kernel
theorem dX10_bits_28 : decode cX10_bits 28 = .ok (.aaload, 1) := by decide +kernel
theorem dX10_bits_29 : decode cX10_bits 29 = .ok (.getfield 361, 3) := by decide +kernel
theorem dX10_bits_32 : decode cX10_bits 32 = .ok (.if_icmp .lt 14, 3) := by decide +kernel
theorem dX10_bits_35 : decode cX10_bits 35 = .ok (.new 132, 3) := by decide +kernel
theorem dX10_bits_38 : decode cX10_bits 38 = .ok (.dup, 1) := by decide +kernel
theorem dX10_bits_39 : decode cX10_bits 39 = .ok (.ldc_w 384, 3) := by decide +kernel
theorem dX10_bits_42 : decode cX10_bits 42 = .ok (.invokespecial 136, 3) := by decide +kernel
theorem dX10_bits_45 : decode cX10_bits 45 = .ok (.athrow, 1) := by decide +kernel
theorem dX10_bits_46 : decode cX10_bits 46 = .ok (.aload_n 0, 1) := by decide +kernel
theorem dX10_bits_47 : decode cX10_bits 47 = .ok (.getfield 94, 3) := by decide +kernel
theorem dX10_bits_50 : decode cX10_bits 50 = .ok (.iload_n 1, 1) := by decide +kernel
theorem dX10_bits_51 : decode cX10_bits 51 = .ok (.aaload, 1) := by decide +kernel
theorem dX10_bits_52 : decode cX10_bits 52 = .ok (.iload_n 2, 1) := by decide +kernel
theorem dX10_bits_53 : decode cX10_bits 53 = .ok (.invokevirtual 386, 3) := by decide +kernel
theorem dX10_bits_56 : decode cX10_bits 56 = .ok (.invokestatic 390, 3) := by decide +kernel
theorem dX10_bits_59 : decode cX10_bits 59 = .ok (.ireturn, 1) := by decide +kernel
theorem dX10_undo_0 : decode cX10_undo 0 = .ok (.aload_n 0, 1) := by decide +kernel
theorem dX10_undo_1 : decode cX10_undo 1 = .ok (.getfield 81, 3) := by decide +kernel
theorem dX10_undo_4 : decode cX10_undo 4 = .ok (.getfield 394, 3) := by decide +kernel
theorem dX10_undo_7 : decode cX10_undo 7 = .ok (.ifCond .ne 14, 3) := by decide +kernel
theorem dX10_undo_10 : decode cX10_undo 10 = .ok (.new 99, 3) := by decide +kernel
theorem dX10_undo_13 : decode cX10_undo 13 = .ok (.dup, 1) := by decide +kernel
theorem dX10_undo_14 : decode cX10_undo 14 = .ok (.ldc_w 395, 3) := by decide +kernel
theorem dX10_undo_17 : decode cX10_undo 17 = .ok (.invokespecial 103, 3) := by decide +kernel
theorem dX10_undo_20 : decode cX10_undo 20 = .ok (.athrow, 1) := by decide +kernel
theorem dX10_undo_21 : decode cX10_undo 21 = .ok (.aload_n 0, 1) := by decide +kernel
theorem dX10_undo_22 : decode cX10_undo 22 = .ok (.getfield 81, 3) := by decide +kernel
theorem dX10_undo_25 : decode cX10_undo 25 = .ok (.aload_n 0, 1) := by decide +kernel
theorem dX10_undo_26 : decode cX10_undo 26 = .ok (.getfield 33, 3) := by decide +kernel
theorem dX10_undo_29 : decode cX10_undo 29 = .ok (.invokevirtual 397, 3) := by decide +kernel
theorem dX10_undo_32 : decode cX10_undo 32 = .ok (.aload_n 0, 1) := by decide +kernel
theorem dX10_undo_33 : decode cX10_undo 33 = .ok (.getfield 74, 3) := by decide +kernel
theorem dX10_undo_36 : decode cX10_undo 36 = .ok (.invokevirtual 400, 3) := by decide +kernel
theorem dX10_undo_39 : decode cX10_undo 39 = .ok (.aload_n 0, 1) := by decide +kernel
theorem dX10_undo_40 : decode cX10_undo 40 = .ok (.getfield 81, 3) := by decide +kernel
theorem dX10_undo_43 : decode cX10_undo 43 = .ok (.getfield 394, 3) := by decide +kernel
theorem dX10_undo_46 : decode cX10_undo 46 = .ok (.ireturn, 1) := by decide +kernel
theorem dX10_saveSnapshot_0 : decode cX10_saveSnapshot 0 = .ok (.aload_n 0, 1) := by decide +kernel
theorem dX10_saveSnapshot_1 : decode cX10_saveSnapshot 1 = .ok (.getfield 40, 3) := by decide +kernel
theorem dX10_saveSnapshot_4 : decode cX10_saveSnapshot 4 = .ok (.aload_n 0, 1) := by decide +kernel
theorem dX10_saveSnapshot_5 : decode cX10_saveSnapshot 5 = .ok (.getfield 33, 3) := by decide +kernel
theorem dX10_saveSnapshot_8 : decode cX10_saveSnapshot 8 = .ok (.invokevirtual 110, 3) := by decide +kernel
theorem dX10_saveSnapshot_11 : decode cX10_saveSnapshot 11 = .ok (.aload_n 0, 1) := by decide +kernel
theorem dX10_saveSnapshot_12 : decode cX10_saveSnapshot 12 = .ok (.iconst 1, 1) := by decide +kernel
theorem dX10_saveSnapshot_13 : decode cX10_saveSnapshot 13 = .ok (.putfield 26, 3) := by decide +kernel
theorem dX10_saveSnapshot_16 : decode cX10_saveSnapshot 16 = .ok (.aload_n 0, 1) := by decide +kernel
theorem dX10_saveSnapshot_17 : decode cX10_saveSnapshot 17 = .ok (.getfield 33, 3) := by decide +kernel
theorem dX10_saveSnapshot_20 : decode cX10_saveSnapshot 20 = .ok (.getfield 129, 3) := by decide +kernel
theorem dX10_saveSnapshot_23 : decode cX10_saveSnapshot 23 = .ok (.ireturn, 1) := by decide +kernel
theorem dX10_restoreSnapshot_0 : decode cX10_restoreSnapshot 0 = .ok (.aload_n 0, 1) := by decide +kernel
theorem dX10_restoreSnapshot_1 : decode cX10_restoreSnapshot 1 = .ok (.getfield 26, 3) := by decide +kernel
theorem dX10_restoreSnapshot_4 : decode cX10_restoreSnapshot 4 = .ok (.ifCond .ne 14, 3) := by decide +kernel
theorem dX10_restoreSnapshot_7 : decode cX10_restoreSnapshot 7 = .ok (.new 99, 3) := by decide +kernel
theorem dX10_restoreSnapshot_10 : decode cX10_restoreSnapshot 10 = .ok (.dup, 1) := by decide +kernel
theorem dX10_restoreSnapshot_11 : decode cX10_restoreSnapshot 11 = .ok (.ldc_w 403, 3) := by decide +kernel
theorem dX10_restoreSnapshot_14 : decode cX10_restoreSnapshot 14 = .ok (.invokespecial 103, 3) := by decide +kernel
theorem dX10_restoreSnapshot_17 : decode cX10_restoreSnapshot 17 = .ok (.athrow, 1) := by decide +kernel
theorem dX10_restoreSnapshot_18 : decode cX10_restoreSnapshot 18 = .ok (.aload_n 0, 1) := by decide +kernel
theorem dX10_restoreSnapshot_19 : decode cX10_restoreSnapshot 19 = .ok (.getfield 33, 3) := by decide +kernel
theorem dX10_restoreSnapshot_22 : decode cX10_restoreSnapshot 22 = .ok (.aload_n 0, 1) := by decide +kernel
theorem dX10_restoreSnapshot_23 : decode cX10_restoreSnapshot 23 = .ok (.getfield 40, 3) := by decide +kernel
theorem dX10_restoreSnapshot_26 : decode cX10_restoreSnapshot 26 = .ok (.invokevirtual 110, 3) := by decide +kernel
theorem dX10_restoreSnapshot_29 : decode cX10_restoreSnapshot 29 = .ok (.aload_n 0, 1) := by decide +kernel
theorem dX10_restoreSnapshot_30 : decode cX10_restoreSnapshot 30 = .ok (.getfield 81, 3) := by decide +kernel
theorem dX10_restoreSnapshot_33 : decode cX10_restoreSnapshot 33 = .ok (.invokevirtual 405, 3) := by decide +kernel
theorem dX10_restoreSnapshot_36 : decode cX10_restoreSnapshot 36 = .ok (.aload_n 0, 1) := by decide +kernel
theorem dX10_restoreSnapshot_37 : decode cX10_restoreSnapshot 37 = .ok (.getfield 74, 3) := by decide +kernel
theorem dX10_restoreSnapshot_40 : decode cX10_restoreSnapshot 40 = .ok (.invokevirtual 400, 3) := by decide +kernel
theorem dX10_restoreSnapshot_43 : decode cX10_restoreSnapshot 43 = .ok (.aload_n 0, 1) := by decide +kernel
theorem dX10_restoreSnapshot_44 : decode cX10_restoreSnapshot 44 = .ok (.getfield 33, 3) := by decide +kernel
theorem dX10_restoreSnapshot_47 : decode cX10_restoreSnapshot 47 = .ok (.getfield 129, 3) := by decide +kernel
theorem dX10_restoreSnapshot_50 : decode cX10_restoreSnapshot 50 = .ok (.ireturn, 1) := by decide +kernel
theorem dX10_letter_0 : decode cX10_letter 0 = .ok (.aload_n 0, 1) := by decide +kernel
theorem dX10_letter_1 : decode cX10_letter 1 = .ok (.iload_n 1, 1) := by decide +kernel
theorem dX10_letter_2 : decode cX10_letter 2 = .ok (.invokevirtual 140, 3) := by decide +kernel
theorem dX10_letter_5 : decode cX10_letter 5 = .ok (.aload_n 0, 1) := by decide +kernel
theorem dX10_letter_6 : decode cX10_letter 6 = .ok (.invokevirtual 256, 3) := by decide +kernel
theorem dX10_letter_9 : decode cX10_letter 9 = .ok (.bipush 65, 2) := by decide +kernel
theorem dX10_letter_11 : decode cX10_letter 11 = .ok (.aload_n 0, 1) := by decide +kernel
theorem dX10_letter_12 : decode cX10_letter 12 = .ok (.getfield 33, 3) := by decide +kernel
theorem dX10_letter_15 : decode cX10_letter 15 = .ok (.getfield 166, 3) := by decide +kernel
theorem dX10_letter_18 : decode cX10_letter 18 = .ok (.getfield 169, 3) := by decide +kernel
theorem dX10_letter_21 : decode cX10_letter 21 = .ok (.iload_n 1, 1) := by decide +kernel
theorem dX10_letter_22 : decode cX10_letter 22 = .ok (.iaload, 1) := by decide +kernel
theorem dX10_letter_23 : decode cX10_letter 23 = .ok (.iadd, 1) := by decide +kernel
theorem dX10_letter_24 : decode cX10_letter 24 = .ok (.i2c, 1) := by decide +kernel
theorem dX10_letter_25 : decode cX10_letter 25 = .ok (.ireturn, 1) := by decide +kernel
theorem dX10_checkUnit_0 : decode cX10_checkUnit 0 = .ok (.iload_n 1, 1) := by decide +kernel
theorem dX10_checkUnit_1 : decode cX10_checkUnit 1 = .ok (.ifCond .lt 14, 3) := by decide +kernel
theorem dX10_checkUnit_4 : decode cX10_checkUnit 4 = .ok (.iload_n 1, 1) := by decide +kernel
theorem dX10_checkUnit_5 : decode cX10_checkUnit 5 = .ok (.aload_n 0, 1) := by decide +kernel
theorem dX10_checkUnit_6 : decode cX10_checkUnit 6 = .ok (.getfield 33, 3) := by decide +kernel
theorem dX10_checkUnit_9 : decode cX10_checkUnit 9 = .ok (.getfield 129, 3) := by decide +kernel
theorem dX10_checkUnit_12 : decode cX10_checkUnit 12 = .ok (.if_icmp .lt 14, 3) := by decide +kernel
theorem dX10_checkUnit_15 : decode cX10_checkUnit 15 = .ok (.new 352, 3) := by decide +kernel
theorem dX10_checkUnit_18 : decode cX10_checkUnit 18 = .ok (.dup, 1) := by decide +kernel
theorem dX10_checkUnit_19 : decode cX10_checkUnit 19 = .ok (.ldc_w 406, 3) := by decide +kernel
theorem dX10_checkUnit_22 : decode cX10_checkUnit 22 = .ok (.invokespecial 356, 3) := by decide +kernel
theorem dX10_checkUnit_25 : decode cX10_checkUnit 25 = .ok (.athrow, 1) := by decide +kernel
theorem dX10_checkUnit_26 : decode cX10_checkUnit 26 = .ok (.return_, 1) := by decide +kernel
theorem dX10_checkDistrict_0 : decode cX10_checkDistrict 0 = .ok (.iload_n 1, 1) := by decide +kernel
theorem dX10_checkDistrict_1 : decode cX10_checkDistrict 1 = .ok (.ifCond .lt 14, 3) := by decide +kernel
theorem dX10_checkDistrict_4 : decode cX10_checkDistrict 4 = .ok (.iload_n 1, 1) := by decide +kernel
theorem dX10_checkDistrict_5 : decode cX10_checkDistrict 5 = .ok (.aload_n 0, 1) := by decide +kernel
theorem dX10_checkDistrict_6 : decode cX10_checkDistrict 6 = .ok (.getfield 33, 3) := by decide +kernel
theorem dX10_checkDistrict_9 : decode cX10_checkDistrict 9 = .ok (.getfield 199, 3) := by decide +kernel
theorem dX10_checkDistrict_12 : decode cX10_checkDistrict 12 = .ok (.if_icmp .lt 14, 3) := by decide +kernel
theorem dX10_checkDistrict_15 : decode cX10_checkDistrict 15 = .ok (.new 352, 3) := by decide +kernel
theorem dX10_checkDistrict_18 : decode cX10_checkDistrict 18 = .ok (.dup, 1) := by decide +kernel
theorem dX10_checkDistrict_19 : decode cX10_checkDistrict 19 = .ok (.ldc_w 408, 3) := by decide +kernel
theorem dX10_checkDistrict_22 : decode cX10_checkDistrict 22 = .ok (.invokespecial 356, 3) := by decide +kernel
theorem dX10_checkDistrict_25 : decode cX10_checkDistrict 25 = .ok (.athrow, 1) := by decide +kernel
theorem dX10_checkDistrict_26 : decode cX10_checkDistrict 26 = .ok (.return_, 1) := by decide +kernel
theorem dX10_checkPlan_0 : decode cX10_checkPlan 0 = .ok (.aload_n 0, 1) := by decide +kernel
theorem dX10_checkPlan_1 : decode cX10_checkPlan 1 = .ok (.getfield 33, 3) := by decide +kernel
theorem dX10_checkPlan_4 : decode cX10_checkPlan 4 = .ok (.getfield 163, 3) := by decide +kernel
theorem dX10_checkPlan_7 : decode cX10_checkPlan 7 = .ok (.ifCond .ne 14, 3) := by decide +kernel
theorem dX10_checkPlan_10 : decode cX10_checkPlan 10 = .ok (.new 99, 3) := by decide +kernel
theorem dX10_checkPlan_13 : decode cX10_checkPlan 13 = .ok (.dup, 1) := by decide +kernel
theorem dX10_checkPlan_14 : decode cX10_checkPlan 14 = .ok (.ldc_w 410, 3) := by decide +kernel
theorem dX10_checkPlan_17 : decode cX10_checkPlan 17 = .ok (.invokespecial 103, 3) := by decide +kernel
theorem dX10_checkPlan_20 : decode cX10_checkPlan 20 = .ok (.athrow, 1) := by decide +kernel
theorem dX10_checkPlan_21 : decode cX10_checkPlan 21 = .ok (.return_, 1) := by decide +kernel
theorem dX10_checkMove_0 : decode cX10_checkMove 0 = .ok (.aload_n 0, 1) := by decide +kernel
theorem dX10_checkMove_1 : decode cX10_checkMove 1 = .ok (.iload_n 1, 1) := by decide +kernel
theorem dX10_checkMove_2 : decode cX10_checkMove 2 = .ok (.invokevirtual 140, 3) := by decide +kernel
theorem dX10_checkMove_5 : decode cX10_checkMove 5 = .ok (.aload_n 0, 1) := by decide +kernel
theorem dX10_checkMove_6 : decode cX10_checkMove 6 = .ok (.iload_n 2, 1) := by decide +kernel
theorem dX10_checkMove_7 : decode cX10_checkMove 7 = .ok (.invokevirtual 268, 3) := by decide +kernel
theorem dX10_checkMove_10 : decode cX10_checkMove 10 = .ok (.aload_n 0, 1) := by decide +kernel
theorem dX10_checkMove_11 : decode cX10_checkMove 11 = .ok (.invokevirtual 256, 3) := by decide +kernel
theorem dX10_checkMove_14 : decode cX10_checkMove 14 = .ok (.aload_n 0, 1) := by decide +kernel
theorem dX10_checkMove_15 : decode cX10_checkMove 15 = .ok (.getfield 33, 3) := by decide +kernel
theorem dX10_checkMove_18 : decode cX10_checkMove 18 = .ok (.getfield 166, 3) := by decide +kernel
theorem dX10_checkMove_21 : decode cX10_checkMove 21 = .ok (.getfield 169, 3) := by decide +kernel
theorem dX10_checkMove_24 : decode cX10_checkMove 24 = .ok (.iload_n 1, 1) := by decide +kernel
theorem dX10_checkMove_25 : decode cX10_checkMove 25 = .ok (.iaload, 1) := by decide +kernel
theorem dX10_checkMove_26 : decode cX10_checkMove 26 = .ok (.iload_n 2, 1) := by decide +kernel
theorem dX10_checkMove_27 : decode cX10_checkMove 27 = .ok (.if_icmp .ne 14, 3) := by decide +kernel
theorem dX10_checkMove_30 : decode cX10_checkMove 30 = .ok (.new 176, 3) := by decide +kernel
theorem dX10_checkMove_33 : decode cX10_checkMove 33 = .ok (.dup, 1) := by decide +kernel
theorem dX10_checkMove_34 : decode cX10_checkMove 34 = .ok (.ldc_w 412, 3) := by decide +kernel
theorem dX10_checkMove_37 : decode cX10_checkMove 37 = .ok (.invokespecial 180, 3) := by decide +kernel
theorem dX10_checkMove_40 : decode cX10_checkMove 40 = .ok (.athrow, 1) := by decide +kernel
theorem dX10_checkMove_41 : decode cX10_checkMove 41 = .ok (.return_, 1) := by decide +kernel
theorem dX10_checkMeasure_0 : decode cX10_checkMeasure 0 = .ok (.iload_n 1, 1) := by decide +kernel
theorem dX10_checkMeasure_1 : decode cX10_checkMeasure 1 = .ok (.ifCond .lt 8, 3) := by decide +kernel
theorem dX10_checkMeasure_4 : decode cX10_checkMeasure 4 = .ok (.iload_n 1, 1) := by decide +kernel
theorem dX10_checkMeasure_5 : decode cX10_checkMeasure 5 = .ok (.iconst 4, 1) := by decide +kernel
theorem dX10_checkMeasure_6 : decode cX10_checkMeasure 6 = .ok (.if_icmp .lt 14, 3) := by decide +kernel
theorem dX10_checkMeasure_9 : decode cX10_checkMeasure 9 = .ok (.new 176, 3) := by decide +kernel
theorem dX10_checkMeasure_12 : decode cX10_checkMeasure 12 = .ok (.dup, 1) := by decide +kernel
theorem dX10_checkMeasure_13 : decode cX10_checkMeasure 13 = .ok (.ldc_w 414, 3) := by decide +kernel
theorem dX10_checkMeasure_16 : decode cX10_checkMeasure 16 = .ok (.invokespecial 180, 3) := by decide +kernel
theorem dX10_checkMeasure_19 : decode cX10_checkMeasure 19 = .ok (.athrow, 1) := by decide +kernel
theorem dX10_checkMeasure_20 : decode cX10_checkMeasure 20 = .ok (.return_, 1) := by decide +kernel
theorem dX10_checkListed_0 : decode cX10_checkListed 0 = .ok (.aload_n 0, 1) := by decide +kernel
theorem dX10_checkListed_1 : decode cX10_checkListed 1 = .ok (.getfield 33, 3) := by decide +kernel
theorem dX10_checkListed_4 : decode cX10_checkListed 4 = .ok (.getfield 129, 3) := by decide +kernel
theorem dX10_checkListed_7 : decode cX10_checkListed 7 = .ok (.iconst 1, 1) := by decide +kernel
theorem dX10_checkListed_8 : decode cX10_checkListed 8 = .ok (.if_icmp .lt 15, 3) := by decide +kernel
theorem dX10_checkListed_11 : decode cX10_checkListed 11 = .ok (.aload_n 0, 1) := by decide +kernel
theorem dX10_checkListed_12 : decode cX10_checkListed 12 = .ok (.getfield 33, 3) := by decide +kernel
theorem dX10_checkListed_15 : decode cX10_checkListed 15 = .ok (.getfield 129, 3) := by decide +kernel
theorem dX10_checkListed_18 : decode cX10_checkListed 18 = .ok (.bipush 9, 2) := by decide +kernel
theorem dX10_checkListed_20 : decode cX10_checkListed 20 = .ok (.if_icmp .le 14, 3) := by decide +kernel
theorem dX10_checkListed_23 : decode cX10_checkListed 23 = .ok (.new 99, 3) := by decide +kernel
theorem dX10_checkListed_26 : decode cX10_checkListed 26 = .ok (.dup, 1) := by decide +kernel
theorem dX10_checkListed_27 : decode cX10_checkListed 27 = .ok (.ldc_w 416, 3) := by decide +kernel
theorem dX10_checkListed_30 : decode cX10_checkListed 30 = .ok (.invokespecial 103, 3) := by decide +kernel
theorem dX10_checkListed_33 : decode cX10_checkListed 33 = .ok (.athrow, 1) := by decide +kernel
theorem dX10_checkListed_34 : decode cX10_checkListed 34 = .ok (.return_, 1) := by decide +kernel
theorem dX10_checkListedPlan_0 : decode cX10_checkListedPlan 0 = .ok (.iload_n 1, 1) := by decide +kernel
theorem dX10_checkListedPlan_1 : decode cX10_checkListedPlan 1 = .ok (.ifCond .lt 18, 3) := by decide +kernel
theorem dX10_checkListedPlan_4 : decode cX10_checkListedPlan 4 = .ok (.iload_n 1, 1) := by decide +kernel
theorem dX10_checkListedPlan_5 : decode cX10_checkListedPlan 5 = .ok (.aload_n 0, 1) := by decide +kernel
theorem dX10_checkListedPlan_6 : decode cX10_checkListedPlan 6 = .ok (.getfield 74, 3) := by decide +kernel
theorem dX10_checkListedPlan_9 : decode cX10_checkListedPlan 9 = .ok (.aload_n 0, 1) := by decide +kernel
theorem dX10_checkListedPlan_10 : decode cX10_checkListedPlan 10 = .ok (.getfield 33, 3) := by decide +kernel
theorem dX10_checkListedPlan_13 : decode cX10_checkListedPlan 13 = .ok (.invokevirtual 329, 3) := by decide +kernel
theorem dX10_checkListedPlan_16 : decode cX10_checkListedPlan 16 = .ok (.if_icmp .lt 14, 3) := by decide +kernel
theorem dX10_checkListedPlan_19 : decode cX10_checkListedPlan 19 = .ok (.new 132, 3) := by decide +kernel
theorem dX10_checkListedPlan_22 : decode cX10_checkListedPlan 22 = .ok (.dup, 1) := by decide +kernel
theorem dX10_checkListedPlan_23 : decode cX10_checkListedPlan 23 = .ok (.ldc_w 418, 3) := by decide +kernel
theorem dX10_checkListedPlan_26 : decode cX10_checkListedPlan 26 = .ok (.invokespecial 136, 3) := by decide +kernel
theorem dX10_checkListedPlan_29 : decode cX10_checkListedPlan 29 = .ok (.athrow, 1) := by decide +kernel
