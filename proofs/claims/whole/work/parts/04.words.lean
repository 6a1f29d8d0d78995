/-! the words of the tables that are asked for, by their places -/
def uT : List Cond := lw_tbl.filter goodWord
theorem mU {w : Cond} (h : w ∈ lw_tbl) (g : goodWord w = true) : w ∈ uT := List.mem_filter.mpr ⟨h, g⟩
theorem mT1 {w : Cond} {i : Nat} (h : tables_1_1[i]? = some w) (g : goodWord w = true) : w ∈ uT := mU (List.mem_append_right _ (show w ∈ tables_1 from List.mem_append_left _ (List.mem_of_getElem? h))) g
theorem mT2 {w : Cond} {i : Nat} (h : tables_1_2[i]? = some w) (g : goodWord w = true) : w ∈ uT := mU (List.mem_append_right _ (show w ∈ tables_1 from List.mem_append_right _ (List.mem_append_left _ (List.mem_of_getElem? h)))) g
theorem mT3 {w : Cond} {i : Nat} (h : tables_1_3[i]? = some w) (g : goodWord w = true) : w ∈ uT := mU (List.mem_append_right _ (show w ∈ tables_1 from List.mem_append_right _ (List.mem_append_right _ (List.mem_append_left _ (List.mem_of_getElem? h))))) g
theorem mT4 {w : Cond} {i : Nat} (h : tables_1_4[i]? = some w) (g : goodWord w = true) : w ∈ uT := mU (List.mem_append_right _ (show w ∈ tables_1 from List.mem_append_right _ (List.mem_append_right _ (List.mem_append_right _ (List.mem_append_left _ (List.mem_of_getElem? h)))))) g
theorem mT5 {w : Cond} {i : Nat} (h : tables_1_5[i]? = some w) (g : goodWord w = true) : w ∈ uT := mU (List.mem_append_right _ (show w ∈ tables_1 from List.mem_append_right _ (List.mem_append_right _ (List.mem_append_right _ (List.mem_append_right _ (List.mem_append_left _ (List.mem_of_getElem? h))))))) g
theorem mT6 {w : Cond} {i : Nat} (h : tables_1_6[i]? = some w) (g : goodWord w = true) : w ∈ uT := mU (List.mem_append_right _ (show w ∈ tables_1 from List.mem_append_right _ (List.mem_append_right _ (List.mem_append_right _ (List.mem_append_right _ (List.mem_append_right _ (List.mem_append_left _ (List.mem_of_getElem? h)))))))) g
theorem mT7 {w : Cond} {i : Nat} (h : tables_1_7[i]? = some w) (g : goodWord w = true) : w ∈ uT := mU (List.mem_append_right _ (show w ∈ tables_1 from List.mem_append_right _ (List.mem_append_right _ (List.mem_append_right _ (List.mem_append_right _ (List.mem_append_right _ (List.mem_append_right _ (List.mem_of_getElem? h)))))))) g
theorem mSel {q : MethodName × Nat} (h : q ∈ lw_privs) (g : goodWord (Cond.selects q.1.cls q.1 q.1) = true) : Cond.selects q.1.cls q.1 q.1 ∈ uT := mU (List.mem_append_left _ (List.mem_map.mpr ⟨q, h, rfl⟩)) g
theorem u_ml_X10_1 : (.methodLink RX10 1 objectInit : Cond) ∈ uT := mT1 (i := 33) rfl rfl
theorem u_ml_X10_80 : (.methodLink RX10 80 yX2_init : Cond) ∈ uT := mT2 (i := 23) rfl rfl
theorem u_ml_X10_103 : (.methodLink RX10 103 ⟨"java/lang/IllegalStateException", "<init>", "(Ljava/lang/String;)V"⟩ : Cond) ∈ uT := mT2 (i := 222) rfl rfl
theorem u_ml_X10_106 : (.methodLink RX10 106 yX8_findFault : Cond) ∈ uT := mT3 (i := 16) rfl rfl
theorem u_ml_X10_110 : (.methodLink RX10 110 yX9_copyFrom : Cond) ∈ uT := mT2 (i := 169) rfl rfl
theorem u_ml_X10_114 : (.methodLink RX10 114 yX8_carryOut : Cond) ∈ uT := mT3 (i := 53) rfl rfl
theorem u_ml_X10_122 : (.methodLink RX10 122 ⟨"java/lang/UnsupportedOperationException", "<init>", "(Ljava/lang/String;)V"⟩ : Cond) ∈ uT := mT3 (i := 87) rfl rfl
theorem u_ml_X10_123 : (.methodLink RX10 123 yX2_remember : Cond) ∈ uT := mT2 (i := 122) rfl rfl
theorem u_ml_X10_126 : (.methodLink RX10 126 yX10_forgetPlans : Cond) ∈ uT := mT2 (i := 148) rfl rfl
theorem u_ml_X10_136 : (.methodLink RX10 136 ⟨"java/util/NoSuchElementException", "<init>", "(Ljava/lang/String;)V"⟩ : Cond) ∈ uT := mT3 (i := 111) rfl rfl
theorem u_ml_X10_137 : (.methodLink RX10 137 yX9_removeUnits : Cond) ∈ uT := mT2 (i := 141) rfl rfl
theorem u_ml_X10_140 : (.methodLink RX10 140 yX10_checkUnit : Cond) ∈ uT := mT3 (i := 126) rfl rfl
theorem u_ml_X10_172 : (.methodLink RX10 172 yX9_isAtEdge : Cond) ∈ uT := mT3 (i := 146) rfl rfl
theorem u_ml_X10_180 : (.methodLink RX10 180 ⟨"java/lang/IllegalArgumentException", "<init>", "(Ljava/lang/String;)V"⟩ : Cond) ∈ uT := mT3 (i := 160) rfl rfl
theorem u_ml_X10_181 : (.methodLink RX10 181 yX9_lengthBetween : Cond) ∈ uT := mT3 (i := 173) rfl rfl
theorem u_ml_X10_185 : (.methodLink RX10 185 yX9_countBorders : Cond) ∈ uT := mT3 (i := 181) rfl rfl
theorem u_ml_X10_189 : (.methodLink RX10 189 yX9_allUnits : Cond) ∈ uT := mT3 (i := 191) rfl rfl
theorem u_ml_X10_192 : (.methodLink RX10 192 yX9_populationOf : Cond) ∈ uT := mT3 (i := 195) rfl rfl
theorem u_ml_X10_196 : (.methodLink RX10 196 yX9_areaOf : Cond) ∈ uT := mT3 (i := 199) rfl rfl
theorem u_ml_X10_205 : (.methodLink RX10 205 yX9_countParts : Cond) ∈ uT := mT3 (i := 203) rfl rfl
theorem u_ml_X10_208 : (.methodLink RX10 208 yX9_countCommunities : Cond) ∈ uT := mT3 (i := 212) rfl rfl
theorem u_ml_X10_219 : (.methodLink RX10 219 yX10_findPlanFault : Cond) ∈ uT := mT4 (i := 5) rfl rfl
theorem u_ml_X10_222 : (.methodLink RX10 222 yX4_clear : Cond) ∈ uT := mT4 (i := 13) rfl rfl
theorem u_ml_X10_225 : (.methodLink RX10 225 yX10_districtOf : Cond) ∈ uT := mT4 (i := 9) rfl rfl
theorem u_ml_X10_229 : (.methodLink RX10 229 yX4_give : Cond) ∈ uT := mT4 (i := 14) rfl rfl
theorem u_ml_X10_233 : (.methodLink RX10 233 yX3_judgePlan : Cond) ∈ uT := mT4 (i := 18) rfl rfl
theorem u_ml_X10_237 : (.methodLink RX10 237 yX10_keepRefusal : Cond) ∈ uT := mT4 (i := 50) rfl rfl
theorem u_ml_X10_243 : (.methodLink RX10 243 yX10_becomePresent : Cond) ∈ uT := mT4 (i := 54) rfl rfl
theorem u_ml_X10_247 : (.methodLink RX10 247 yX10_checkMove : Cond) ∈ uT := mT4 (i := 66) rfl rfl
theorem u_ml_X10_250 : (.methodLink RX10 250 yX3_judgeMove : Cond) ∈ uT := mT4 (i := 81) rfl rfl
theorem u_ml_X10_256 : (.methodLink RX10 256 yX10_checkPlan : Cond) ∈ uT := mT4 (i := 75) rfl rfl
theorem u_ml_X10_261 : (.methodLink RX10 261 yX3_judgeSwap : Cond) ∈ uT := mT4 (i := 97) rfl rfl
theorem u_ml_X10_268 : (.methodLink RX10 268 yX10_checkDistrict : Cond) ∈ uT := mT4 (i := 70) rfl rfl
theorem u_ml_X10_276 : (.methodLink RX10 276 yJ6_bitCount_0f7a4 : Cond) ∈ uT := mT4 (i := 125) rfl rfl
theorem u_ml_X10_281 : (.methodLink RX10 281 yX9_perimeterOf : Cond) ∈ uT := mT4 (i := 126) rfl rfl
theorem u_ml_X10_284 : (.methodLink RX10 284 yX9_districtsAround : Cond) ∈ uT := mT4 (i := 134) rfl rfl
theorem u_ml_X10_287 : (.methodLink RX10 287 yX10_checkMeasure : Cond) ∈ uT := mT4 (i := 145) rfl rfl
theorem u_ml_X10_290 : (.methodLink RX10 290 yX6_weigh : Cond) ∈ uT := mT4 (i := 150) rfl rfl
theorem u_ml_X10_303 : (.methodLink RX10 303 yX6_roughCompactness : Cond) ∈ uT := mT4 (i := 191) rfl rfl
theorem u_ml_X10_307 : (.methodLink RX10 307 yX7_begin : Cond) ∈ uT := mT4 (i := 201) rfl rfl
theorem u_ml_X10_311 : (.methodLink RX10 311 yX7_tryMoves : Cond) ∈ uT := mT4 (i := 206) rfl rfl
theorem u_ml_X10_315 : (.methodLink RX10 315 yX7_trySwaps : Cond) ∈ uT := mT4 (i := 230) rfl rfl
theorem u_ml_X10_324 : (.methodLink RX10 324 yX4_copyFrom : Cond) ∈ uT := mT4 (i := 58) rfl rfl
theorem u_ml_X10_326 : (.methodLink RX10 326 yX10_checkListed : Cond) ∈ uT := mT5 (i := 9) rfl rfl
theorem u_ml_X10_329 : (.methodLink RX10 329 yX0_countPlans : Cond) ∈ uT := mT5 (i := 14) rfl rfl
theorem u_ml_X10_333 : (.methodLink RX10 333 yX0_countBySets : Cond) ∈ uT := mT5 (i := 47) rfl rfl
theorem u_ml_X10_336 : (.methodLink RX10 336 yX10_checkListedPlan : Cond) ∈ uT := mT5 (i := 61) rfl rfl
theorem u_ml_X10_339 : (.methodLink RX10 339 yX0_copyPlan : Cond) ∈ uT := mT5 (i := 66) rfl rfl
theorem u_ml_X10_345 : (.methodLink RX10 345 yX0_findBest : Cond) ∈ uT := mT5 (i := 80) rfl rfl
theorem u_ml_X10_349 : (.methodLink RX10 349 yX10_isRow : Cond) ∈ uT := mT5 (i := 102) rfl rfl
theorem u_ml_X10_356 : (.methodLink RX10 356 ⟨"java/lang/IndexOutOfBoundsException", "<init>", "(Ljava/lang/String;)V"⟩ : Cond) ∈ uT := mT3 (i := 140) rfl rfl
theorem u_ml_X10_357 : (.methodLink RX10 357 yX5_takeFrom : Cond) ∈ uT := mT5 (i := 106) rfl rfl
theorem u_ml_X10_364 : (.methodLink RX10 364 yX5_isMissing : Cond) ∈ uT := mT5 (i := 119) rfl rfl
theorem u_ml_X10_377 : (.methodLink RX10 377 yX5_takeElements : Cond) ∈ uT := mT5 (i := 126) rfl rfl
theorem u_ml_X10_381 : (.methodLink RX10 381 yX5_sum : Cond) ∈ uT := mT5 (i := 131) rfl rfl
theorem u_ml_X10_386 : (.methodLink RX10 386 yX5_element : Cond) ∈ uT := mT5 (i := 143) rfl rfl
theorem u_ml_X10_390 : (.methodLink RX10 390 yX5_bitsOf : Cond) ∈ uT := mT5 (i := 147) rfl rfl
theorem u_ml_X10_397 : (.methodLink RX10 397 yX2_giveBack : Cond) ∈ uT := mT5 (i := 159) rfl rfl
theorem u_ml_X10_400 : (.methodLink RX10 400 yX0_forget : Cond) ∈ uT := mT2 (i := 161) rfl rfl
theorem u_ml_X10_405 : (.methodLink RX10 405 yX2_forget : Cond) ∈ uT := mT5 (i := 171) rfl rfl
theorem u_ml_X10_420 : (.methodLink RX10 420 yX9_dropPlan : Cond) ∈ uT := mT2 (i := 152) rfl rfl
theorem u_ml_X0_3 : (.methodLink RX0 3 objectInit : Cond) ∈ uT := mT1 (i := 227) rfl rfl
theorem u_ml_X0_55 : (.methodLink RX0 55 yX0_findSets : Cond) ∈ uT := mT5 (i := 18) rfl rfl
theorem u_ml_X0_59 : (.methodLink RX0 59 yJ7_fill_53178 : Cond) ∈ uT := mT5 (i := 31) rfl rfl
theorem u_ml_X0_65 : (.methodLink RX0 65 yX0_listFrom : Cond) ∈ uT := mT5 (i := 32) rfl rfl
theorem u_ml_X0_69 : (.methodLink RX0 69 yX9_allUnits : Cond) ∈ uT := mT5 (i := 22) rfl rfl
theorem u_ml_X0_76 : (.methodLink RX0 76 yX0_countFrom : Cond) ∈ uT := mT5 (i := 51) rfl rfl
theorem u_ml_X0_80 : (.methodLink RX0 80 yX4_clear : Cond) ∈ uT := mT5 (i := 70) rfl rfl
theorem u_ml_X0_83 : (.methodLink RX0 83 yX4_give : Cond) ∈ uT := mT5 (i := 71) rfl rfl
theorem u_ml_X0_87 : (.methodLink RX0 87 yX0_copyPlan : Cond) ∈ uT := mT5 (i := 84) rfl rfl
theorem u_ml_X0_91 : (.methodLink RX0 91 yX6_weigh : Cond) ∈ uT := mT5 (i := 85) rfl rfl
theorem u_ml_X0_97 : (.methodLink RX0 97 yX6_isBetter : Cond) ∈ uT := mT5 (i := 86) rfl rfl
theorem u_ml_X0_101 : (.methodLink RX0 101 yX1_copyFrom : Cond) ∈ uT := mT5 (i := 87) rfl rfl
theorem u_ml_X0_105 : (.methodLink RX0 105 Lib.Math.min.name : Cond) ∈ uT := mT5 (i := 23) rfl rfl
theorem u_ml_X0_111 : (.methodLink RX0 111 yX9_isBalanced : Cond) ∈ uT := mT5 (i := 24) rfl rfl
theorem u_ml_X0_115 : (.methodLink RX0 115 yX9_splitsCores : Cond) ∈ uT := mT5 (i := 25) rfl rfl
theorem u_ml_X0_118 : (.methodLink RX0 118 yX9_isContiguous : Cond) ∈ uT := mT5 (i := 30) rfl rfl
theorem u_ml_X0_121 : (.methodLink RX0 121 yX0_keepIfLawful : Cond) ∈ uT := mT5 (i := 35) rfl rfl
theorem u_ml_X0_125 : (.methodLink RX0 125 Lib.Math.max.name : Cond) ∈ uT := mT5 (i := 39) rfl rfl
theorem u_ml_X1_1 : (.methodLink RX1 1 objectInit : Cond) ∈ uT := mT1 (i := 191) rfl rfl
theorem u_ml_X1_16 : (.methodLink RX1 16 yX1_commonDivisor : Cond) ∈ uT := mT4 (i := 163) rfl rfl
theorem u_ml_X1_20 : (.methodLink RX1 20 yJ13_compare_74951 : Cond) ∈ uT := mT4 (i := 222) rfl rfl
theorem u_ml_X2_3 : (.methodLink RX2 3 objectInit : Cond) ∈ uT := mT2 (i := 26) rfl rfl
theorem u_ml_X2_25 : (.methodLink RX2 25 yX9_copyFrom : Cond) ∈ uT := mT2 (i := 126) rfl rfl
theorem u_ml_X2_29 : (.methodLink RX2 29 Lib.Math.min.name : Cond) ∈ uT := mT2 (i := 138) rfl rfl
theorem u_ml_X3_3 : (.methodLink RX3 3 objectInit : Cond) ∈ uT := mT1 (i := 168) rfl rfl
theorem u_ml_X3_29 : (.methodLink RX3 29 yX3_tell : Cond) ∈ uT := mT4 (i := 22) rfl rfl
theorem u_ml_X3_33 : (.methodLink RX3 33 yX9_isContiguous : Cond) ∈ uT := mT4 (i := 26) rfl rfl
theorem u_ml_X3_37 : (.methodLink RX3 37 yX9_coresOf : Cond) ∈ uT := mT4 (i := 30) rfl rfl
theorem u_ml_X3_41 : (.methodLink RX3 41 yX4_splits : Cond) ∈ uT := mT4 (i := 34) rfl rfl
theorem u_ml_X3_44 : (.methodLink RX3 44 yX9_isBalanced : Cond) ∈ uT := mT4 (i := 38) rfl rfl
theorem u_ml_X3_54 : (.methodLink RX3 54 yX4_copyFrom : Cond) ∈ uT := mT4 (i := 85) rfl rfl
theorem u_ml_X3_58 : (.methodLink RX3 58 yX4_give : Cond) ∈ uT := mT4 (i := 86) rfl rfl
theorem u_ml_X3_62 : (.methodLink RX3 62 yX3_judgePlan : Cond) ∈ uT := mT4 (i := 87) rfl rfl
theorem u_ml_X4_3 : (.methodLink RX4 3 objectInit : Cond) ∈ uT := mT1 (i := 47) rfl rfl
theorem u_ml_X4_18 : (.methodLink RX4 18 yJ7_fill_53178 : Cond) ∈ uT := mT2 (i := 160) rfl rfl
theorem u_ml_X4_24 : (.methodLink RX4 24 arraycopyName : Cond) ∈ uT := mT2 (i := 137) rfl rfl
theorem u_ml_X5_3 : (.methodLink RX5 3 objectInit : Cond) ∈ uT := mT2 (i := 49) rfl rfl
theorem u_ml_X5_41 : (.methodLink RX5 41 yX9_populationOf : Cond) ∈ uT := mT5 (i := 110) rfl rfl
theorem u_ml_X5_45 : (.methodLink RX5 45 yX6_roughCompactness : Cond) ∈ uT := mT5 (i := 111) rfl rfl
theorem u_ml_X5_51 : (.methodLink RX5 51 arraycopyName : Cond) ∈ uT := mT5 (i := 130) rfl rfl
theorem u_ml_X6_9 : (.methodLink RX6 9 yX6_weighCompactness : Cond) ∈ uT := mT4 (i := 153) rfl rfl
theorem u_ml_X6_15 : (.methodLink RX6 15 yX6_cutLength : Cond) ∈ uT := mT4 (i := 166) rfl rfl
theorem u_ml_X6_19 : (.methodLink RX6 19 yX1_become : Cond) ∈ uT := mT4 (i := 159) rfl rfl
theorem u_ml_X6_25 : (.methodLink RX6 25 yX6_countSplitCommunities : Cond) ∈ uT := mT4 (i := 170) rfl rfl
theorem u_ml_X6_28 : (.methodLink RX6 28 yX6_greatestImbalance : Cond) ∈ uT := mT4 (i := 175) rfl rfl
theorem u_ml_X6_31 : (.methodLink RX6 31 yX9_allUnits : Cond) ∈ uT := mT4 (i := 182) rfl rfl
theorem u_ml_X6_37 : (.methodLink RX6 37 yX9_populationOf : Cond) ∈ uT := mT4 (i := 183) rfl rfl
theorem u_ml_X6_41 : (.methodLink RX6 41 yX1_compareWith : Cond) ∈ uT := mT4 (i := 218) rfl rfl
theorem u_ml_X6_45 : (.methodLink RX6 45 yX9_perimeterOf : Cond) ∈ uT := mT4 (i := 156) rfl rfl
theorem u_ml_X6_48 : (.methodLink RX6 48 yX9_areaOf : Cond) ∈ uT := mT4 (i := 158) rfl rfl
theorem u_ml_X6_69 : (.methodLink RX6 69 yX9_lengthBetween : Cond) ∈ uT := mT4 (i := 169) rfl rfl
theorem u_ml_X6_73 : (.methodLink RX6 73 yX9_membersOf : Cond) ∈ uT := mT4 (i := 173) rfl rfl
theorem u_ml_X6_76 : (.methodLink RX6 76 yX4_splits : Cond) ∈ uT := mT4 (i := 174) rfl rfl
theorem u_ml_X6_80 : (.methodLink RX6 80 yX9_imbalanceOf : Cond) ∈ uT := mT4 (i := 178) rfl rfl
theorem u_ml_X6_83 : (.methodLink RX6 83 Lib.Math.max.name : Cond) ∈ uT := mT4 (i := 179) rfl rfl
theorem u_ml_X7_3 : (.methodLink RX7 3 objectInit : Cond) ∈ uT := mT1 (i := 183) rfl rfl
theorem u_ml_X7_44 : (.methodLink RX7 44 yX6_weigh : Cond) ∈ uT := mT4 (i := 205) rfl rfl
theorem u_ml_X7_60 : (.methodLink RX7 60 yX3_judgeMove : Cond) ∈ uT := mT4 (i := 210) rfl rfl
theorem u_ml_X7_66 : (.methodLink RX7 66 yX7_consider : Cond) ∈ uT := mT4 (i := 211) rfl rfl
theorem u_ml_X7_70 : (.methodLink RX7 70 yX3_judgeSwap : Cond) ∈ uT := mT4 (i := 234) rfl rfl
theorem u_ml_X7_73 : (.methodLink RX7 73 yX6_isBetter : Cond) ∈ uT := mT4 (i := 215) rfl rfl
theorem u_ml_X7_77 : (.methodLink RX7 77 yX1_copyFrom : Cond) ∈ uT := mT4 (i := 225) rfl rfl
theorem u_ml_X7_81 : (.methodLink RX7 81 yX4_copyFrom : Cond) ∈ uT := mT4 (i := 229) rfl rfl
theorem u_ml_X8_3 : (.methodLink RX8 3 objectInit : Cond) ∈ uT := mT1 (i := 134) rfl rfl
theorem u_ml_X8_41 : (.methodLink RX8 41 yX8_begin : Cond) ∈ uT := mT3 (i := 20) rfl rfl
theorem u_ml_X8_45 : (.methodLink RX8 45 yX8_readStatement : Cond) ∈ uT := mT3 (i := 25) rfl rfl
theorem u_ml_X8_49 : (.methodLink RX8 49 yX8_take : Cond) ∈ uT := mT3 (i := 29) rfl rfl
theorem u_ml_X8_53 : (.methodLink RX8 53 yX8_carryOutStatement : Cond) ∈ uT := mT3 (i := 57) rfl rfl
theorem u_ml_X8_57 : (.methodLink RX8 57 Lib.Math.min.name : Cond) ∈ uT := mT3 (i := 24) rfl rfl
theorem u_ml_X8_63 : (.methodLink RX8 63 yX9_addUnit : Cond) ∈ uT := mT3 (i := 61) rfl rfl
theorem u_ml_X8_69 : (.methodLink RX8 69 yX9_setLength : Cond) ∈ uT := mT3 (i := 65) rfl rfl
theorem u_ml_X8_73 : (.methodLink RX8 73 yX9_setOuter : Cond) ∈ uT := mT3 (i := 73) rfl rfl
theorem u_ml_X8_77 : (.methodLink RX8 77 yX8_readUnit : Cond) ∈ uT := mT3 (i := 33) rfl rfl
theorem u_ml_X8_80 : (.methodLink RX8 80 yX8_readBorder : Cond) ∈ uT := mT3 (i := 45) rfl rfl
theorem u_ml_X8_83 : (.methodLink RX8 83 yX8_readOuter : Cond) ∈ uT := mT3 (i := 49) rfl rfl
theorem u_ml_X8_86 : (.methodLink RX8 86 yX8_readNumber : Cond) ∈ uT := mT3 (i := 37) rfl rfl
theorem u_ml_X8_89 : (.methodLink RX8 89 yX8_readDigit : Cond) ∈ uT := mT3 (i := 41) rfl rfl
theorem u_ml_X9_3 : (.methodLink RX9 3 objectInit : Cond) ∈ uT := mT1 (i := 41) rfl rfl
theorem u_ml_X9_54 : (.methodLink RX9 54 arraycopyName : Cond) ∈ uT := mT2 (i := 130) rfl rfl
theorem u_ml_X9_60 : (.methodLink RX9 60 yX4_copyFrom : Cond) ∈ uT := mT2 (i := 133) rfl rfl
theorem u_ml_X9_64 : (.methodLink RX9 64 yJ7_fill_53178 : Cond) ∈ uT := mT2 (i := 145) rfl rfl
theorem u_ml_X9_70 : (.methodLink RX9 70 yX4_clear : Cond) ∈ uT := mT2 (i := 156) rfl rfl
theorem u_ml_X9_73 : (.methodLink RX9 73 yX9_lengthBetween : Cond) ∈ uT := mT3 (i := 69) rfl rfl
theorem u_ml_X9_83 : (.methodLink RX9 83 yJ6_bitCount_0f7a4 : Cond) ∈ uT := mT3 (i := 185) rfl rfl
theorem u_ml_X9_89 : (.methodLink RX9 89 yX9_lengthToOutside : Cond) ∈ uT := mT4 (i := 130) rfl rfl
theorem u_ml_X9_92 : (.methodLink RX9 92 yX9_membersOf : Cond) ∈ uT := mT3 (i := 216) rfl rfl
theorem u_ml_X9_95 : (.methodLink RX9 95 yX9_allUnits : Cond) ∈ uT := mT3 (i := 207) rfl rfl
theorem u_ml_X9_99 : (.methodLink RX9 99 yX9_reach : Cond) ∈ uT := mT3 (i := 208) rfl rfl
theorem u_ml_X9_102 : (.methodLink RX9 102 yX9_populationOf : Cond) ∈ uT := mT4 (i := 46) rfl rfl
theorem u_ml_X9_105 : (.methodLink RX9 105 Lib.Math.abs.name : Cond) ∈ uT := mT4 (i := 47) rfl rfl
theorem u_ml_X9_110 : (.methodLink RX9 110 yX9_imbalanceOf : Cond) ∈ uT := mT4 (i := 42) rfl rfl
theorem u_ml_X9_113 : (.methodLink RX9 113 yX9_coresOf : Cond) ∈ uT := mT5 (i := 29) rfl rfl
theorem u_ml_L_7 : (.methodLink RL 7 yX10_feed : Cond) ∈ uT := mT2 (i := 174) rfl rfl
theorem u_ml_L_15 : (.methodLink RL 15 yX10_extend : Cond) ∈ uT := mT3 (i := 12) rfl rfl
theorem u_ml_L_21 : (.methodLink RL 21 yX10_impossible : Cond) ∈ uT := mT3 (i := 97) rfl rfl
theorem u_ml_L_26 : (.methodLink RL 26 yX10_unit : Cond) ∈ uT := mT3 (i := 122) rfl rfl
theorem u_ml_L_34 : (.methodLink RL 34 yX10_border : Cond) ∈ uT := mT3 (i := 169) rfl rfl
theorem u_ml_L_37 : (.methodLink RL 37 yX10_count : Cond) ∈ uT := mT3 (i := 177) rfl rfl
theorem u_ml_L_41 : (.methodLink RL 41 yX10_setDistricts : Cond) ∈ uT := mT3 (i := 224) rfl rfl
theorem u_ml_L_44 : (.methodLink RL 44 yX10_setTolerance : Cond) ∈ uT := mT3 (i := 232) rfl rfl
theorem u_ml_L_47 : (.methodLink RL 47 yX10_readPlan : Cond) ∈ uT := mT4 (i := 0) rfl rfl
theorem u_ml_L_50 : (.methodLink RL 50 yX10_move : Cond) ∈ uT := mT4 (i := 62) rfl rfl
theorem u_ml_L_53 : (.methodLink RL 53 yX10_swap : Cond) ∈ uT := mT4 (i := 92) rfl rfl
theorem u_ml_L_56 : (.methodLink RL 56 yX10_refuses : Cond) ∈ uT := mT4 (i := 105) rfl rfl
theorem u_ml_L_59 : (.methodLink RL 59 yX10_refusal : Cond) ∈ uT := mT4 (i := 112) rfl rfl
theorem u_ml_L_63 : (.methodLink RL 63 yX10_district : Cond) ∈ uT := mT4 (i := 120) rfl rfl
theorem u_ml_L_66 : (.methodLink RL 66 yX10_measure : Cond) ∈ uT := mT4 (i := 141) rfl rfl
theorem u_ml_L_70 : (.methodLink RL 70 yX10_meanCompactness : Cond) ∈ uT := mT4 (i := 187) rfl rfl
theorem u_ml_L_74 : (.methodLink RL 74 yX10_improve : Cond) ∈ uT := mT4 (i := 197) rfl rfl
theorem u_ml_L_77 : (.methodLink RL 77 yX10_possible : Cond) ∈ uT := mT4 (i := 238) rfl rfl
theorem u_ml_L_80 : (.methodLink RL 80 yX10_plans : Cond) ∈ uT := mT5 (i := 5) rfl rfl
theorem u_ml_L_83 : (.methodLink RL 83 yX10_counted : Cond) ∈ uT := mT5 (i := 43) rfl rfl
theorem u_ml_L_86 : (.methodLink RL 86 yX10_planned : Cond) ∈ uT := mT5 (i := 57) rfl rfl
theorem u_ml_L_89 : (.methodLink RL 89 yX10_best : Cond) ∈ uT := mT5 (i := 75) rfl rfl
theorem u_ml_L_92 : (.methodLink RL 92 yX10_choose : Cond) ∈ uT := mT5 (i := 91) rfl rfl
theorem u_ml_L_95 : (.methodLink RL 95 yX10_store : Cond) ∈ uT := mT5 (i := 98) rfl rfl
theorem u_ml_L_99 : (.methodLink RL 99 yX10_copyRow : Cond) ∈ uT := mT5 (i := 115) rfl rfl
theorem u_ml_L_103 : (.methodLink RL 103 yX10_bits : Cond) ∈ uT := mT5 (i := 138) rfl rfl
theorem u_ml_L_106 : (.methodLink RL 106 yX10_undo : Cond) ∈ uT := mT5 (i := 154) rfl rfl
theorem u_ml_L_109 : (.methodLink RL 109 yX10_restoreSnapshot : Cond) ∈ uT := mT5 (i := 166) rfl rfl
theorem u_ml_L_112 : (.methodLink RL 112 yX10_letter : Cond) ∈ uT := mT5 (i := 178) rfl rfl
theorem u_ml_L_116 : (.methodLink RL 116 yX10_init : Cond) ∈ uT := mT1 (i := 30) rfl rfl
theorem u_ml_L_119 : (.methodLink RL 119 yX11_init : Cond) ∈ uT := mT5 (i := 184) rfl rfl
theorem u_ml_L_120 : (.methodLink RL 120 yL_feed : Cond) ∈ uT := mT2 (i := 170) rfl rfl
theorem u_ml_L_125 : (.methodLink RL 125 yX11_feed : Cond) ∈ uT := mT6 (i := 31) rfl rfl
theorem u_ml_L_126 : (.methodLink RL 126 yX11_thrown : Cond) ∈ uT := mT6 (i := 27) rfl rfl
theorem u_ml_L_129 : (.methodLink RL 129 yL_extend : Cond) ∈ uT := mT3 (i := 8) rfl rfl
theorem u_ml_L_132 : (.methodLink RL 132 yX11_extend : Cond) ∈ uT := mT6 (i := 43) rfl rfl
theorem u_ml_L_133 : (.methodLink RL 133 yL_impossible : Cond) ∈ uT := mT3 (i := 93) rfl rfl
theorem u_ml_L_135 : (.methodLink RL 135 yX11_impossible : Cond) ∈ uT := mT6 (i := 86) rfl rfl
theorem u_ml_L_136 : (.methodLink RL 136 yX10_clearMap : Cond) ∈ uT := mT2 (i := 118) rfl rfl
theorem u_ml_L_139 : (.methodLink RL 139 yX11_clearMap : Cond) ∈ uT := mT6 (i := 90) rfl rfl
theorem u_ml_L_140 : (.methodLink RL 140 yL_unit : Cond) ∈ uT := mT3 (i := 117) rfl rfl
theorem u_ml_L_143 : (.methodLink RL 143 yX11_unit : Cond) ∈ uT := mT6 (i := 94) rfl rfl
theorem u_ml_L_144 : (.methodLink RL 144 yL_border : Cond) ∈ uT := mT3 (i := 166) rfl rfl
theorem u_ml_L_146 : (.methodLink RL 146 yX11_border : Cond) ∈ uT := mT6 (i := 110) rfl rfl
theorem u_ml_L_147 : (.methodLink RL 147 yL_count : Cond) ∈ uT := mT3 (i := 174) rfl rfl
theorem u_ml_L_150 : (.methodLink RL 150 yX11_count : Cond) ∈ uT := mT6 (i := 114) rfl rfl
theorem u_ml_L_151 : (.methodLink RL 151 yL_setDistricts : Cond) ∈ uT := mT3 (i := 221) rfl rfl
theorem u_ml_L_153 : (.methodLink RL 153 yX11_setDistricts : Cond) ∈ uT := mT6 (i := 134) rfl rfl
theorem u_ml_L_154 : (.methodLink RL 154 yL_setTolerance : Cond) ∈ uT := mT3 (i := 229) rfl rfl
theorem u_ml_L_156 : (.methodLink RL 156 yX11_setTolerance : Cond) ∈ uT := mT6 (i := 138) rfl rfl
theorem u_ml_L_157 : (.methodLink RL 157 yL_readPlan : Cond) ∈ uT := mT3 (i := 237) rfl rfl
theorem u_ml_L_159 : (.methodLink RL 159 yX11_readPlan : Cond) ∈ uT := mT6 (i := 142) rfl rfl
theorem u_ml_L_160 : (.methodLink RL 160 yL_move : Cond) ∈ uT := mT4 (i := 59) rfl rfl
theorem u_ml_L_162 : (.methodLink RL 162 yX11_move : Cond) ∈ uT := mT6 (i := 170) rfl rfl
theorem u_ml_L_163 : (.methodLink RL 163 yL_swap : Cond) ∈ uT := mT4 (i := 89) rfl rfl
theorem u_ml_L_165 : (.methodLink RL 165 yX11_swap : Cond) ∈ uT := mT6 (i := 190) rfl rfl
theorem u_ml_L_166 : (.methodLink RL 166 yL_refuses : Cond) ∈ uT := mT4 (i := 102) rfl rfl
theorem u_ml_L_168 : (.methodLink RL 168 yX11_refuses : Cond) ∈ uT := mT6 (i := 198) rfl rfl
theorem u_ml_L_169 : (.methodLink RL 169 yL_refusal : Cond) ∈ uT := mT4 (i := 109) rfl rfl
theorem u_ml_L_172 : (.methodLink RL 172 yX11_refusal : Cond) ∈ uT := mT6 (i := 202) rfl rfl
theorem u_ml_L_173 : (.methodLink RL 173 yL_district : Cond) ∈ uT := mT4 (i := 117) rfl rfl
theorem u_ml_L_175 : (.methodLink RL 175 yX11_district : Cond) ∈ uT := mT6 (i := 206) rfl rfl
theorem u_ml_L_176 : (.methodLink RL 176 yL_measure : Cond) ∈ uT := mT4 (i := 138) rfl rfl
theorem u_ml_L_179 : (.methodLink RL 179 yX11_measure : Cond) ∈ uT := mT6 (i := 218) rfl rfl
theorem u_ml_L_180 : (.methodLink RL 180 yL_meanCompactness : Cond) ∈ uT := mT4 (i := 184) rfl rfl
theorem u_ml_L_183 : (.methodLink RL 183 yX11_meanCompactness : Cond) ∈ uT := mT7 (i := 2) rfl rfl
theorem u_ml_L_184 : (.methodLink RL 184 yL_improve : Cond) ∈ uT := mT4 (i := 194) rfl rfl
theorem u_ml_L_186 : (.methodLink RL 186 yX11_improve : Cond) ∈ uT := mT7 (i := 10) rfl rfl
theorem u_ml_L_187 : (.methodLink RL 187 yL_possible : Cond) ∈ uT := mT4 (i := 235) rfl rfl
theorem u_ml_L_189 : (.methodLink RL 189 yX11_possible : Cond) ∈ uT := mT7 (i := 26) rfl rfl
theorem u_ml_L_190 : (.methodLink RL 190 yL_plans : Cond) ∈ uT := mT5 (i := 2) rfl rfl
theorem u_ml_L_192 : (.methodLink RL 192 yX11_plans : Cond) ∈ uT := mT7 (i := 30) rfl rfl
theorem u_ml_L_193 : (.methodLink RL 193 yL_counted : Cond) ∈ uT := mT5 (i := 40) rfl rfl
theorem u_ml_L_195 : (.methodLink RL 195 yX11_counted : Cond) ∈ uT := mT7 (i := 55) rfl rfl
theorem u_ml_L_196 : (.methodLink RL 196 yL_planned : Cond) ∈ uT := mT5 (i := 54) rfl rfl
theorem u_ml_L_198 : (.methodLink RL 198 yX11_planned : Cond) ∈ uT := mT7 (i := 59) rfl rfl
theorem u_ml_L_199 : (.methodLink RL 199 yL_best : Cond) ∈ uT := mT5 (i := 72) rfl rfl
theorem u_ml_L_201 : (.methodLink RL 201 yX11_best : Cond) ∈ uT := mT7 (i := 64) rfl rfl
theorem u_ml_L_202 : (.methodLink RL 202 yL_choose : Cond) ∈ uT := mT5 (i := 88) rfl rfl
theorem u_ml_L_204 : (.methodLink RL 204 yX11_choose : Cond) ∈ uT := mT7 (i := 68) rfl rfl
theorem u_ml_L_205 : (.methodLink RL 205 yL_store : Cond) ∈ uT := mT5 (i := 95) rfl rfl
theorem u_ml_L_207 : (.methodLink RL 207 yX11_store : Cond) ∈ uT := mT7 (i := 72) rfl rfl
theorem u_ml_L_208 : (.methodLink RL 208 yL_copyRow : Cond) ∈ uT := mT5 (i := 112) rfl rfl
theorem u_ml_L_211 : (.methodLink RL 211 yX11_copyRow : Cond) ∈ uT := mT7 (i := 79) rfl rfl
theorem u_ml_L_212 : (.methodLink RL 212 yL_bits : Cond) ∈ uT := mT5 (i := 135) rfl rfl
theorem u_ml_L_214 : (.methodLink RL 214 yX11_bits : Cond) ∈ uT := mT7 (i := 83) rfl rfl
theorem u_ml_L_215 : (.methodLink RL 215 yL_undo : Cond) ∈ uT := mT5 (i := 151) rfl rfl
theorem u_ml_L_217 : (.methodLink RL 217 yX11_undo : Cond) ∈ uT := mT7 (i := 97) rfl rfl
theorem u_ml_L_218 : (.methodLink RL 218 yX10_saveSnapshot : Cond) ∈ uT := mT2 (i := 165) rfl rfl
theorem u_ml_L_221 : (.methodLink RL 221 yX11_saveSnapshot : Cond) ∈ uT := mT7 (i := 101) rfl rfl
theorem u_ml_L_222 : (.methodLink RL 222 yL_restoreSnapshot : Cond) ∈ uT := mT5 (i := 163) rfl rfl
theorem u_ml_L_224 : (.methodLink RL 224 yX11_restoreSnapshot : Cond) ∈ uT := mT7 (i := 105) rfl rfl
theorem u_ml_L_225 : (.methodLink RL 225 yL_letter : Cond) ∈ uT := mT5 (i := 175) rfl rfl
theorem u_ml_L_227 : (.methodLink RL 227 yX11_letter : Cond) ∈ uT := mT7 (i := 109) rfl rfl
theorem u_ml_X11_1 : (.methodLink RX11 1 objectInit : Cond) ∈ uT := mT5 (i := 187) rfl rfl
theorem u_ml_X11_55 : (.methodLink RX11 55 yX11_in : Cond) ∈ uT := mT6 (i := 59) rfl rfl
theorem u_ml_X11_65 : (.methodLink RX11 65 yX11_fails : Cond) ∈ uT := mT6 (i := 35) rfl rfl
theorem u_ml_X11_69 : (.methodLink RX11 69 yX11_done : Cond) ∈ uT := mT6 (i := 39) rfl rfl
theorem u_ml_X11_75 : (.methodLink RX11 75 yX11_here : Cond) ∈ uT := mT6 (i := 51) rfl rfl
theorem u_ml_X11_82 : (.methodLink RX11 82 yX11_readsNumber : Cond) ∈ uT := mT6 (i := 55) rfl rfl
theorem u_ml_X11_86 : (.methodLink RX11 86 yX11_eats : Cond) ∈ uT := mT6 (i := 62) rfl rfl
theorem u_ml_X11_90 : (.methodLink RX11 90 yX11_isUnit : Cond) ∈ uT := mT6 (i := 74) rfl rfl
theorem u_ml_X11_93 : (.methodLink RX11 93 yX11_borderOf : Cond) ∈ uT := mT6 (i := 78) rfl rfl
theorem u_ml_X11_97 : (.methodLink RX11 97 yX11_readsStatement : Cond) ∈ uT := mT6 (i := 47) rfl rfl
theorem u_ml_X11_101 : (.methodLink RX11 101 yX11_remembers : Cond) ∈ uT := mT6 (i := 66) rfl rfl
theorem u_ml_X11_104 : (.methodLink RX11 104 yX11_does : Cond) ∈ uT := mT6 (i := 70) rfl rfl
theorem u_ml_X11_107 : (.methodLink RX11 107 yX11_changes : Cond) ∈ uT := mT6 (i := 82) rfl rfl
theorem u_ml_X11_110 : (.methodLink RX11 110 yX11_of : Cond) ∈ uT := mT6 (i := 98) rfl rfl
theorem u_ml_X11_113 : (.methodLink RX11 113 yX11_neighbors : Cond) ∈ uT := mT6 (i := 102) rfl rfl
theorem u_ml_X11_116 : (.methodLink RX11 116 yX11_districtOf : Cond) ∈ uT := mT6 (i := 106) rfl rfl
theorem u_ml_X11_119 : (.methodLink RX11 119 yX11_all : Cond) ∈ uT := mT6 (i := 118) rfl rfl
theorem u_ml_X11_122 : (.methodLink RX11 122 yX11_sum : Cond) ∈ uT := mT6 (i := 122) rfl rfl
theorem u_ml_X11_125 : (.methodLink RX11 125 yX11_reached : Cond) ∈ uT := mT6 (i := 126) rfl rfl
theorem u_ml_X11_128 : (.methodLink RX11 128 yX11_communities : Cond) ∈ uT := mT6 (i := 130) rfl rfl
theorem u_ml_X11_131 : (.methodLink RX11 131 yX11_set : Cond) ∈ uT := mT6 (i := 154) rfl rfl
theorem u_ml_X11_137 : (.methodLink RX11 137 yX11_off : Cond) ∈ uT := mT6 (i := 158) rfl rfl
theorem u_ml_X11_146 : (.methodLink RX11 146 yX11_isDistrict : Cond) ∈ uT := mT6 (i := 146) rfl rfl
theorem u_ml_X11_149 : (.methodLink RX11 149 yX11_reason : Cond) ∈ uT := mT6 (i := 150) rfl rfl
theorem u_ml_X11_152 : (.methodLink RX11 152 yX11_keepsReason : Cond) ∈ uT := mT6 (i := 162) rfl rfl
theorem u_ml_X11_155 : (.methodLink RX11 155 yX11_keeps : Cond) ∈ uT := mT6 (i := 166) rfl rfl
theorem u_ml_X11_158 : (.methodLink RX11 158 yX11_hasNeighbor : Cond) ∈ uT := mT6 (i := 186) rfl rfl
theorem u_ml_X11_161 : (.methodLink RX11 161 yX11_lacksMove : Cond) ∈ uT := mT6 (i := 174) rfl rfl
theorem u_ml_X11_164 : (.methodLink RX11 164 yX11_tells : Cond) ∈ uT := mT6 (i := 178) rfl rfl
theorem u_ml_X11_167 : (.methodLink RX11 167 yX11_moves : Cond) ∈ uT := mT6 (i := 182) rfl rfl
theorem u_ml_X11_170 : (.methodLink RX11 170 yX11_swaps : Cond) ∈ uT := mT6 (i := 194) rfl rfl
theorem u_ml_X11_173 : (.methodLink RX11 173 yX11_perimeter : Cond) ∈ uT := mT6 (i := 210) rfl rfl
theorem u_ml_X11_176 : (.methodLink RX11 176 yX11_others : Cond) ∈ uT := mT6 (i := 214) rfl rfl
theorem u_ml_X11_188 : (.methodLink RX11 188 yX11_tellCompactness : Cond) ∈ uT := mT6 (i := 226) rfl rfl
theorem u_ml_X11_192 : (.methodLink RX11 192 yX11_cutLengths : Cond) ∈ uT := mT6 (i := 231) rfl rfl
theorem u_ml_X11_195 : (.methodLink RX11 195 yX11_torn : Cond) ∈ uT := mT6 (i := 235) rfl rfl
theorem u_ml_X11_198 : (.methodLink RX11 198 yX11_divisor : Cond) ∈ uT := mT6 (i := 239) rfl rfl
theorem u_ml_X11_202 : (.methodLink RX11 202 yX11_tellMeasure : Cond) ∈ uT := mT6 (i := 222) rfl rfl
theorem u_ml_X11_205 : (.methodLink RX11 205 yX11_compactness : Cond) ∈ uT := mT7 (i := 6) rfl rfl
theorem u_ml_X11_215 : (.methodLink RX11 215 yX11_isBest : Cond) ∈ uT := mT7 (i := 18) rfl rfl
theorem u_ml_X11_218 : (.methodLink RX11 218 yX11_isBetter : Cond) ∈ uT := mT7 (i := 22) rfl rfl
theorem u_ml_X11_221 : (.methodLink RX11 221 yX11_steps : Cond) ∈ uT := mT7 (i := 14) rfl rfl
theorem u_ml_X11_224 : (.methodLink RX11 224 yX11_begins : Cond) ∈ uT := mT7 (i := 47) rfl rfl
theorem u_ml_X11_227 : (.methodLink RX11 227 yX11_goesOn : Cond) ∈ uT := mT7 (i := 51) rfl rfl
theorem u_ml_X11_231 : (.methodLink RX11 231 yX11_plansUpTo : Cond) ∈ uT := mT7 (i := 43) rfl rfl
theorem u_ml_X11_234 : (.methodLink RX11 234 yX11_isSmall : Cond) ∈ uT := mT7 (i := 34) rfl rfl
theorem u_ml_X11_237 : (.methodLink RX11 237 yX11_allPlans : Cond) ∈ uT := mT7 (i := 38) rfl rfl
theorem u_ml_X11_241 : (.methodLink RX11 241 yX11_isRow : Cond) ∈ uT := mT7 (i := 76) rfl rfl
theorem u_ml_X11_244 : (.methodLink RX11 244 yJxf58ca_floatToIntBits_5c35a : Cond) ∈ uT := mT7 (i := 87) rfl rfl
theorem u_mlq_java_lang_Exception_7 : (.methodLink "java/lang/Exception" 7 ⟨"java/lang/Throwable", "<init>", "(Ljava/lang/String;)V"⟩ : Cond) ∈ uT := mT2 (i := 231) rfl rfl
theorem u_ml_Jxf58ca_59 : (.methodLink RJxf58ca 59 yJxf58ca_isNaN_12338 : Cond) ∈ uT := mT7 (i := 90) rfl rfl
theorem u_ml_Jxf58ca_74 : (.methodLink RJxf58ca 74 ⟨"java/lang/Float", "floatToRawIntBits", "(F)I"⟩ : Cond) ∈ uT := mT7 (i := 93) rfl rfl
theorem u_mlq_java_lang_IllegalArgumentException_7 : (.methodLink "java/lang/IllegalArgumentException" 7 ⟨"java/lang/RuntimeException", "<init>", "(Ljava/lang/String;)V"⟩ : Cond) ∈ uT := mT3 (i := 163) rfl rfl
theorem u_mlq_java_lang_IllegalStateException_7 : (.methodLink "java/lang/IllegalStateException" 7 ⟨"java/lang/RuntimeException", "<init>", "(Ljava/lang/String;)V"⟩ : Cond) ∈ uT := mT2 (i := 225) rfl rfl
theorem u_mlq_java_lang_IndexOutOfBoundsException_7 : (.methodLink "java/lang/IndexOutOfBoundsException" 7 ⟨"java/lang/RuntimeException", "<init>", "(Ljava/lang/String;)V"⟩ : Cond) ∈ uT := mT3 (i := 143) rfl rfl
theorem u_mlq_java_lang_RuntimeException_7 : (.methodLink "java/lang/RuntimeException" 7 ⟨"java/lang/Exception", "<init>", "(Ljava/lang/String;)V"⟩ : Cond) ∈ uT := mT2 (i := 228) rfl rfl
theorem u_mlq_java_lang_Throwable_1 : (.methodLink "java/lang/Throwable" 1 objectInit : Cond) ∈ uT := mT2 (i := 203) rfl rfl
theorem u_mlq_java_lang_Throwable_27 : (.methodLink "java/lang/Throwable" 27 ⟨"java/lang/Throwable", "fillInStackTrace", "()Ljava/lang/Throwable;"⟩ : Cond) ∈ uT := mT2 (i := 208) rfl rfl
theorem u_mlq_java_lang_Throwable_202 : (.methodLink "java/lang/Throwable" 202 ⟨"java/lang/Throwable", "fillInStackTrace", "(I)Ljava/lang/Throwable;"⟩ : Cond) ∈ uT := mT2 (i := 216) rfl rfl
theorem u_mlq_java_lang_UnsupportedOperationException_7 : (.methodLink "java/lang/UnsupportedOperationException" 7 ⟨"java/lang/RuntimeException", "<init>", "(Ljava/lang/String;)V"⟩ : Cond) ∈ uT := mT3 (i := 90) rfl rfl
theorem u_mlq_java_util_NoSuchElementException_13 : (.methodLink "java/util/NoSuchElementException" 13 ⟨"java/lang/RuntimeException", "<init>", "(Ljava/lang/String;)V"⟩ : Cond) ∈ uT := mT3 (i := 114) rfl rfl
theorem u_fl_X10_9 : (.fieldLink RX10 9 "DistrictPlanner" "input" "[C" : Cond) ∈ uT := mT2 (i := 66) rfl rfl
theorem u_fl_X10_13 : (.fieldLink RX10 13 "DistrictPlanner" "inputLength" "I" : Cond) ∈ uT := mT2 (i := 67) rfl rfl
theorem u_fl_X10_17 : (.fieldLink RX10 17 "DistrictPlanner" "impossibleStatement" "I" : Cond) ∈ uT := mT2 (i := 68) rfl rfl
theorem u_fl_X10_20 : (.fieldLink RX10 20 "DistrictPlanner" "keptReason" "I" : Cond) ∈ uT := mT2 (i := 69) rfl rfl
theorem u_fl_X10_23 : (.fieldLink RX10 23 "DistrictPlanner" "keptDetail" "I" : Cond) ∈ uT := mT2 (i := 70) rfl rfl
theorem u_fl_X10_26 : (.fieldLink RX10 26 "DistrictPlanner" "hasSnapshot" "Z" : Cond) ∈ uT := mT2 (i := 71) rfl rfl
theorem u_fl_X10_33 : (.fieldLink RX10 33 "DistrictPlanner" "now" "LDistrictPlanner$World;" : Cond) ∈ uT := mT2 (i := 72) rfl rfl
theorem u_fl_X10_37 : (.fieldLink RX10 37 "DistrictPlanner" "draft" "LDistrictPlanner$World;" : Cond) ∈ uT := mT2 (i := 73) rfl rfl
theorem u_fl_X10_40 : (.fieldLink RX10 40 "DistrictPlanner" "snapshot" "LDistrictPlanner$World;" : Cond) ∈ uT := mT2 (i := 74) rfl rfl
theorem u_fl_X10_46 : (.fieldLink RX10 46 "DistrictPlanner" "behind" "LDistrictPlanner$Plan;" : Cond) ∈ uT := mT2 (i := 75) rfl rfl
theorem u_fl_X10_53 : (.fieldLink RX10 53 "DistrictPlanner" "reader" "LDistrictPlanner$TextReader;" : Cond) ∈ uT := mT2 (i := 76) rfl rfl
theorem u_fl_X10_60 : (.fieldLink RX10 60 "DistrictPlanner" "judge" "LDistrictPlanner$Judge;" : Cond) ∈ uT := mT2 (i := 77) rfl rfl
theorem u_fl_X10_67 : (.fieldLink RX10 67 "DistrictPlanner" "search" "LDistrictPlanner$Search;" : Cond) ∈ uT := mT2 (i := 78) rfl rfl
theorem u_fl_X10_74 : (.fieldLink RX10 74 "DistrictPlanner" "catalog" "LDistrictPlanner$Catalog;" : Cond) ∈ uT := mT2 (i := 79) rfl rfl
theorem u_fl_X10_81 : (.fieldLink RX10 81 "DistrictPlanner" "history" "LDistrictPlanner$History;" : Cond) ∈ uT := mT2 (i := 80) rfl rfl
theorem u_fl_X10_88 : (.fieldLink RX10 88 "DistrictPlanner" "value" "LDistrictPlanner$Fraction;" : Cond) ∈ uT := mT2 (i := 81) rfl rfl
theorem u_fl_X10_94 : (.fieldLink RX10 94 "DistrictPlanner" "rows" "[LDistrictPlanner$Row;" : Cond) ∈ uT := mT2 (i := 82) rfl rfl
theorem u_fl_X10_129 : (.fieldLink RX10 129 "DistrictPlanner$World" "units" "I" : Cond) ∈ uT := mT1 (i := 70) rfl rfl
theorem u_fl_X10_144 : (.fieldLink RX10 144 "DistrictPlanner$World" "population" "[I" : Cond) ∈ uT := mT1 (i := 73) rfl rfl
theorem u_fl_X10_148 : (.fieldLink RX10 148 "DistrictPlanner$World" "area" "[I" : Cond) ∈ uT := mT1 (i := 75) rfl rfl
theorem u_fl_X10_151 : (.fieldLink RX10 151 "DistrictPlanner$World" "community" "[I" : Cond) ∈ uT := mT1 (i := 77) rfl rfl
theorem u_fl_X10_154 : (.fieldLink RX10 154 "DistrictPlanner$World" "cores" "I" : Cond) ∈ uT := mT1 (i := 85) rfl rfl
theorem u_fl_X10_157 : (.fieldLink RX10 157 "DistrictPlanner$World" "outer" "[I" : Cond) ∈ uT := mT1 (i := 79) rfl rfl
theorem u_fl_X10_160 : (.fieldLink RX10 160 "DistrictPlanner$World" "neighbors" "[I" : Cond) ∈ uT := mT1 (i := 82) rfl rfl
theorem u_fl_X10_163 : (.fieldLink RX10 163 "DistrictPlanner$World" "hasPlan" "Z" : Cond) ∈ uT := mT1 (i := 96) rfl rfl
theorem u_fl_X10_166 : (.fieldLink RX10 166 "DistrictPlanner$World" "plan" "LDistrictPlanner$Plan;" : Cond) ∈ uT := mT1 (i := 101) rfl rfl
theorem u_fl_X10_169 : (.fieldLink RX10 169 "DistrictPlanner$Plan" "places" "[I" : Cond) ∈ uT := mT1 (i := 52) rfl rfl
theorem u_fl_X10_199 : (.fieldLink RX10 199 "DistrictPlanner$World" "districts" "I" : Cond) ∈ uT := mT1 (i := 92) rfl rfl
theorem u_fl_X10_202 : (.fieldLink RX10 202 "DistrictPlanner$World" "tolerance" "I" : Cond) ∈ uT := mT1 (i := 94) rfl rfl
theorem u_fl_X10_240 : (.fieldLink RX10 240 "DistrictPlanner$Judge" "reason" "I" : Cond) ∈ uT := mT1 (i := 170) rfl rfl
theorem u_fl_X10_273 : (.fieldLink RX10 273 "DistrictPlanner$Plan" "sets" "[I" : Cond) ∈ uT := mT1 (i := 59) rfl rfl
theorem u_fl_X10_296 : (.fieldLink RX10 296 "DistrictPlanner$Fraction" "bottom" "J" : Cond) ∈ uT := mT1 (i := 195) rfl rfl
theorem u_fl_X10_300 : (.fieldLink RX10 300 "DistrictPlanner$Fraction" "top" "J" : Cond) ∈ uT := mT1 (i := 193) rfl rfl
theorem u_fl_X10_318 : (.fieldLink RX10 318 "DistrictPlanner$Search" "hasFound" "Z" : Cond) ∈ uT := mT1 (i := 204) rfl rfl
theorem u_fl_X10_321 : (.fieldLink RX10 321 "DistrictPlanner$Search" "found" "LDistrictPlanner$Plan;" : Cond) ∈ uT := mT1 (i := 202) rfl rfl
theorem u_fl_X10_361 : (.fieldLink RX10 361 "DistrictPlanner$Row" "size" "I" : Cond) ∈ uT := mT2 (i := 53) rfl rfl
theorem u_fl_X10_370 : (.fieldLink RX10 370 "DistrictPlanner$Row" "isExact" "Z" : Cond) ∈ uT := mT2 (i := 55) rfl rfl
theorem u_fl_X10_394 : (.fieldLink RX10 394 "DistrictPlanner$History" "size" "I" : Cond) ∈ uT := mT2 (i := 33) rfl rfl
theorem u_fl_X10_423 : (.fieldLink RX10 423 "DistrictPlanner$Judge" "detail" "I" : Cond) ∈ uT := mT1 (i := 172) rfl rfl
theorem u_fl_X0_9 : (.fieldLink RX0 9 "DistrictPlanner$Catalog" "codes" "[I" : Cond) ∈ uT := mT1 (i := 232) rfl rfl
theorem u_fl_X0_15 : (.fieldLink RX0 15 "DistrictPlanner$Catalog" "isPossible" "[Z" : Cond) ∈ uT := mT1 (i := 233) rfl rfl
theorem u_fl_X0_19 : (.fieldLink RX0 19 "DistrictPlanner$Catalog" "sets" "[I" : Cond) ∈ uT := mT1 (i := 234) rfl rfl
theorem u_fl_X0_25 : (.fieldLink RX0 25 "DistrictPlanner$Catalog" "plan" "LDistrictPlanner$Plan;" : Cond) ∈ uT := mT1 (i := 235) rfl rfl
theorem u_fl_X0_32 : (.fieldLink RX0 32 "DistrictPlanner$Catalog" "best" "LDistrictPlanner$Fraction;" : Cond) ∈ uT := mT1 (i := 236) rfl rfl
theorem u_fl_X0_36 : (.fieldLink RX0 36 "DistrictPlanner$Catalog" "tried" "LDistrictPlanner$Fraction;" : Cond) ∈ uT := mT1 (i := 237) rfl rfl
theorem u_fl_X0_39 : (.fieldLink RX0 39 "DistrictPlanner$Catalog" "size" "I" : Cond) ∈ uT := mT1 (i := 238) rfl rfl
theorem u_fl_X0_43 : (.fieldLink RX0 43 "DistrictPlanner$Catalog" "hasSets" "Z" : Cond) ∈ uT := mT1 (i := 239) rfl rfl
theorem u_fl_X0_47 : (.fieldLink RX0 47 "DistrictPlanner$Catalog" "hasPlans" "Z" : Cond) ∈ uT := mT2 (i := 0) rfl rfl
theorem u_fl_X0_50 : (.fieldLink RX0 50 "DistrictPlanner$World" "units" "I" : Cond) ∈ uT := mT1 (i := 69) rfl rfl
theorem u_fl_X0_73 : (.fieldLink RX0 73 "DistrictPlanner$World" "districts" "I" : Cond) ∈ uT := mT1 (i := 90) rfl rfl
theorem u_fl_X1_7 : (.fieldLink RX1 7 "DistrictPlanner$Fraction" "top" "J" : Cond) ∈ uT := mT1 (i := 192) rfl rfl
theorem u_fl_X1_13 : (.fieldLink RX1 13 "DistrictPlanner$Fraction" "bottom" "J" : Cond) ∈ uT := mT1 (i := 194) rfl rfl
theorem u_fl_X2_11 : (.fieldLink RX2 11 "DistrictPlanner$History" "states" "[LDistrictPlanner$World;" : Cond) ∈ uT := mT2 (i := 30) rfl rfl
theorem u_fl_X2_17 : (.fieldLink RX2 17 "DistrictPlanner$History" "next" "I" : Cond) ∈ uT := mT2 (i := 31) rfl rfl
theorem u_fl_X2_21 : (.fieldLink RX2 21 "DistrictPlanner$History" "size" "I" : Cond) ∈ uT := mT2 (i := 32) rfl rfl
theorem u_fl_X3_9 : (.fieldLink RX3 9 "DistrictPlanner$Judge" "reason" "I" : Cond) ∈ uT := mT1 (i := 169) rfl rfl
theorem u_fl_X3_15 : (.fieldLink RX3 15 "DistrictPlanner$Judge" "detail" "I" : Cond) ∈ uT := mT1 (i := 171) rfl rfl
theorem u_fl_X3_18 : (.fieldLink RX3 18 "DistrictPlanner$World" "districts" "I" : Cond) ∈ uT := mT1 (i := 88) rfl rfl
theorem u_fl_X3_23 : (.fieldLink RX3 23 "DistrictPlanner$Plan" "sets" "[I" : Cond) ∈ uT := mT1 (i := 55) rfl rfl
theorem u_fl_X3_47 : (.fieldLink RX3 47 "DistrictPlanner$World" "neighbors" "[I" : Cond) ∈ uT := mT1 (i := 81) rfl rfl
theorem u_fl_X3_50 : (.fieldLink RX3 50 "DistrictPlanner$World" "plan" "LDistrictPlanner$Plan;" : Cond) ∈ uT := mT1 (i := 100) rfl rfl
theorem u_fl_X3_66 : (.fieldLink RX3 66 "DistrictPlanner$Plan" "places" "[I" : Cond) ∈ uT := mT1 (i := 50) rfl rfl
theorem u_fl_X4_9 : (.fieldLink RX4 9 "DistrictPlanner$Plan" "places" "[I" : Cond) ∈ uT := mT1 (i := 48) rfl rfl
theorem u_fl_X4_15 : (.fieldLink RX4 15 "DistrictPlanner$Plan" "sets" "[I" : Cond) ∈ uT := mT1 (i := 54) rfl rfl
theorem u_fl_X5_9 : (.fieldLink RX5 9 "DistrictPlanner$Row" "whole" "[I" : Cond) ∈ uT := mT2 (i := 50) rfl rfl
theorem u_fl_X5_15 : (.fieldLink RX5 15 "DistrictPlanner$Row" "rough" "[F" : Cond) ∈ uT := mT2 (i := 51) rfl rfl
theorem u_fl_X5_19 : (.fieldLink RX5 19 "DistrictPlanner$Row" "size" "I" : Cond) ∈ uT := mT2 (i := 52) rfl rfl
theorem u_fl_X5_23 : (.fieldLink RX5 23 "DistrictPlanner$Row" "isExact" "Z" : Cond) ∈ uT := mT2 (i := 54) rfl rfl
theorem u_fl_X5_27 : (.fieldLink RX5 27 "DistrictPlanner$World" "districts" "I" : Cond) ∈ uT := mT1 (i := 87) rfl rfl
theorem u_fl_X5_32 : (.fieldLink RX5 32 "DistrictPlanner$World" "plan" "LDistrictPlanner$Plan;" : Cond) ∈ uT := mT1 (i := 99) rfl rfl
theorem u_fl_X5_36 : (.fieldLink RX5 36 "DistrictPlanner$Plan" "sets" "[I" : Cond) ∈ uT := mT1 (i := 56) rfl rfl
theorem u_fl_X6_51 : (.fieldLink RX6 51 "DistrictPlanner$World" "districts" "I" : Cond) ∈ uT := mT1 (i := 91) rfl rfl
theorem u_fl_X6_55 : (.fieldLink RX6 55 "DistrictPlanner$Plan" "sets" "[I" : Cond) ∈ uT := mT1 (i := 57) rfl rfl
theorem u_fl_X6_63 : (.fieldLink RX6 63 "DistrictPlanner$World" "units" "I" : Cond) ∈ uT := mT1 (i := 71) rfl rfl
theorem u_fl_X6_66 : (.fieldLink RX6 66 "DistrictPlanner$Plan" "places" "[I" : Cond) ∈ uT := mT1 (i := 51) rfl rfl
theorem u_fl_X7_12 : (.fieldLink RX7 12 "DistrictPlanner$Search" "found" "LDistrictPlanner$Plan;" : Cond) ∈ uT := mT1 (i := 201) rfl rfl
theorem u_fl_X7_18 : (.fieldLink RX7 18 "DistrictPlanner$Search" "hasFound" "Z" : Cond) ∈ uT := mT1 (i := 203) rfl rfl
theorem u_fl_X7_22 : (.fieldLink RX7 22 "DistrictPlanner$Search" "measure" "I" : Cond) ∈ uT := mT1 (i := 205) rfl rfl
theorem u_fl_X7_26 : (.fieldLink RX7 26 "DistrictPlanner$Search" "behind" "LDistrictPlanner$Plan;" : Cond) ∈ uT := mT1 (i := 206) rfl rfl
theorem u_fl_X7_32 : (.fieldLink RX7 32 "DistrictPlanner$Search" "best" "LDistrictPlanner$Fraction;" : Cond) ∈ uT := mT1 (i := 207) rfl rfl
theorem u_fl_X7_36 : (.fieldLink RX7 36 "DistrictPlanner$Search" "tried" "LDistrictPlanner$Fraction;" : Cond) ∈ uT := mT1 (i := 208) rfl rfl
theorem u_fl_X7_39 : (.fieldLink RX7 39 "DistrictPlanner$World" "plan" "LDistrictPlanner$Plan;" : Cond) ∈ uT := mT1 (i := 98) rfl rfl
theorem u_fl_X7_50 : (.fieldLink RX7 50 "DistrictPlanner$World" "units" "I" : Cond) ∈ uT := mT1 (i := 68) rfl rfl
theorem u_fl_X7_53 : (.fieldLink RX7 53 "DistrictPlanner$World" "districts" "I" : Cond) ∈ uT := mT1 (i := 89) rfl rfl
theorem u_fl_X7_56 : (.fieldLink RX7 56 "DistrictPlanner$Plan" "places" "[I" : Cond) ∈ uT := mT1 (i := 49) rfl rfl
theorem u_fl_X8_9 : (.fieldLink RX8 9 "DistrictPlanner$TextReader" "text" "[C" : Cond) ∈ uT := mT1 (i := 135) rfl rfl
theorem u_fl_X8_15 : (.fieldLink RX8 15 "DistrictPlanner$TextReader" "length" "I" : Cond) ∈ uT := mT1 (i := 136) rfl rfl
theorem u_fl_X8_19 : (.fieldLink RX8 19 "DistrictPlanner$TextReader" "at" "I" : Cond) ∈ uT := mT1 (i := 137) rfl rfl
theorem u_fl_X8_22 : (.fieldLink RX8 22 "DistrictPlanner$TextReader" "number" "I" : Cond) ∈ uT := mT1 (i := 138) rfl rfl
theorem u_fl_X8_25 : (.fieldLink RX8 25 "DistrictPlanner$TextReader" "kind" "I" : Cond) ∈ uT := mT1 (i := 139) rfl rfl
theorem u_fl_X8_28 : (.fieldLink RX8 28 "DistrictPlanner$TextReader" "first" "I" : Cond) ∈ uT := mT1 (i := 140) rfl rfl
theorem u_fl_X8_31 : (.fieldLink RX8 31 "DistrictPlanner$TextReader" "second" "I" : Cond) ∈ uT := mT1 (i := 141) rfl rfl
theorem u_fl_X8_34 : (.fieldLink RX8 34 "DistrictPlanner$TextReader" "third" "I" : Cond) ∈ uT := mT1 (i := 142) rfl rfl
theorem u_fl_X8_37 : (.fieldLink RX8 37 "DistrictPlanner$TextReader" "isCore" "Z" : Cond) ∈ uT := mT1 (i := 143) rfl rfl
theorem u_fl_X9_9 : (.fieldLink RX9 9 "DistrictPlanner$World" "units" "I" : Cond) ∈ uT := mT1 (i := 67) rfl rfl
theorem u_fl_X9_15 : (.fieldLink RX9 15 "DistrictPlanner$World" "population" "[I" : Cond) ∈ uT := mT1 (i := 72) rfl rfl
theorem u_fl_X9_19 : (.fieldLink RX9 19 "DistrictPlanner$World" "area" "[I" : Cond) ∈ uT := mT1 (i := 74) rfl rfl
theorem u_fl_X9_22 : (.fieldLink RX9 22 "DistrictPlanner$World" "community" "[I" : Cond) ∈ uT := mT1 (i := 76) rfl rfl
theorem u_fl_X9_25 : (.fieldLink RX9 25 "DistrictPlanner$World" "outer" "[I" : Cond) ∈ uT := mT1 (i := 78) rfl rfl
theorem u_fl_X9_28 : (.fieldLink RX9 28 "DistrictPlanner$World" "neighbors" "[I" : Cond) ∈ uT := mT1 (i := 80) rfl rfl
theorem u_fl_X9_31 : (.fieldLink RX9 31 "DistrictPlanner$World" "lengths" "[I" : Cond) ∈ uT := mT1 (i := 83) rfl rfl
theorem u_fl_X9_34 : (.fieldLink RX9 34 "DistrictPlanner$World" "cores" "I" : Cond) ∈ uT := mT1 (i := 84) rfl rfl
theorem u_fl_X9_37 : (.fieldLink RX9 37 "DistrictPlanner$World" "districts" "I" : Cond) ∈ uT := mT1 (i := 86) rfl rfl
theorem u_fl_X9_40 : (.fieldLink RX9 40 "DistrictPlanner$World" "tolerance" "I" : Cond) ∈ uT := mT1 (i := 93) rfl rfl
theorem u_fl_X9_43 : (.fieldLink RX9 43 "DistrictPlanner$World" "hasPlan" "Z" : Cond) ∈ uT := mT1 (i := 95) rfl rfl
theorem u_fl_X9_50 : (.fieldLink RX9 50 "DistrictPlanner$World" "plan" "LDistrictPlanner$Plan;" : Cond) ∈ uT := mT1 (i := 97) rfl rfl
theorem u_fl_X9_77 : (.fieldLink RX9 77 "DistrictPlanner$Plan" "sets" "[I" : Cond) ∈ uT := mT1 (i := 58) rfl rfl
theorem u_fl_X9_80 : (.fieldLink RX9 80 "DistrictPlanner$Plan" "places" "[I" : Cond) ∈ uT := mT1 (i := 53) rfl rfl
theorem u_fl_X11_7 : (.fieldLink RX11 7 "DistrictPlannerModel" "g" "[I" : Cond) ∈ uT := mT5 (i := 189) rfl rfl
theorem u_fl_X11_13 : (.fieldLink RX11 13 "DistrictPlannerModel" "ahead" "[I" : Cond) ∈ uT := mT5 (i := 190) rfl rfl
theorem u_fl_X11_16 : (.fieldLink RX11 16 "DistrictPlannerModel" "history" "[I" : Cond) ∈ uT := mT5 (i := 191) rfl rfl
theorem u_fl_X11_19 : (.fieldLink RX11 19 "DistrictPlannerModel" "saved" "[I" : Cond) ∈ uT := mT5 (i := 193) rfl rfl
theorem u_fl_X11_22 : (.fieldLink RX11 22 "DistrictPlannerModel" "tape" "[C" : Cond) ∈ uT := mT5 (i := 195) rfl rfl
theorem u_fl_X11_26 : (.fieldLink RX11 26 "DistrictPlannerModel" "impossibleAt" "I" : Cond) ∈ uT := mT5 (i := 198) rfl rfl
theorem u_fl_X11_30 : (.fieldLink RX11 30 "DistrictPlannerModel" "numbers" "[I" : Cond) ∈ uT := mT5 (i := 200) rfl rfl
theorem u_fl_X11_33 : (.fieldLink RX11 33 "DistrictPlannerModel" "plan" "[I" : Cond) ∈ uT := mT5 (i := 201) rfl rfl
theorem u_fl_X11_36 : (.fieldLink RX11 36 "DistrictPlannerModel" "bestPlan" "[I" : Cond) ∈ uT := mT5 (i := 209) rfl rfl
theorem u_fl_X11_39 : (.fieldLink RX11 39 "DistrictPlannerModel" "sort" "[I" : Cond) ∈ uT := mT5 (i := 210) rfl rfl
theorem u_fl_X11_42 : (.fieldLink RX11 42 "DistrictPlannerModel" "size" "[I" : Cond) ∈ uT := mT5 (i := 211) rfl rfl
theorem u_fl_X11_45 : (.fieldLink RX11 45 "DistrictPlannerModel" "whole" "[I" : Cond) ∈ uT := mT5 (i := 212) rfl rfl
theorem u_fl_X11_48 : (.fieldLink RX11 48 "DistrictPlannerModel" "parts" "[F" : Cond) ∈ uT := mT5 (i := 213) rfl rfl
theorem u_fl_X11_52 : (.fieldLink RX11 52 "DistrictPlannerModel" "thrown" "I" : Cond) ∈ uT := mT5 (i := 188) rfl rfl
theorem u_fl_X11_59 : (.fieldLink RX11 59 "DistrictPlannerModel" "historyMany" "I" : Cond) ∈ uT := mT5 (i := 192) rfl rfl
theorem u_fl_X11_62 : (.fieldLink RX11 62 "DistrictPlannerModel" "taped" "I" : Cond) ∈ uT := mT5 (i := 196) rfl rfl
theorem u_fl_X11_72 : (.fieldLink RX11 72 "DistrictPlannerModel" "at" "I" : Cond) ∈ uT := mT5 (i := 197) rfl rfl
theorem u_fl_X11_79 : (.fieldLink RX11 79 "DistrictPlannerModel" "letter" "I" : Cond) ∈ uT := mT5 (i := 199) rfl rfl
theorem u_fl_X11_134 : (.fieldLink RX11 134 "DistrictPlannerModel" "detail" "I" : Cond) ∈ uT := mT5 (i := 202) rfl rfl
theorem u_fl_X11_140 : (.fieldLink RX11 140 "DistrictPlannerModel" "keptReason" "I" : Cond) ∈ uT := mT5 (i := 203) rfl rfl
theorem u_fl_X11_143 : (.fieldLink RX11 143 "DistrictPlannerModel" "keptDetail" "I" : Cond) ∈ uT := mT5 (i := 204) rfl rfl
theorem u_fl_X11_181 : (.fieldLink RX11 181 "DistrictPlannerModel" "above" "J" : Cond) ∈ uT := mT5 (i := 205) rfl rfl
theorem u_fl_X11_185 : (.fieldLink RX11 185 "DistrictPlannerModel" "below" "J" : Cond) ∈ uT := mT5 (i := 206) rfl rfl
theorem u_fl_X11_209 : (.fieldLink RX11 209 "DistrictPlannerModel" "bestBelow" "J" : Cond) ∈ uT := mT5 (i := 208) rfl rfl
theorem u_fl_X11_212 : (.fieldLink RX11 212 "DistrictPlannerModel" "bestAbove" "J" : Cond) ∈ uT := mT5 (i := 207) rfl rfl
theorem u_fl_X11_250 : (.fieldLink RX11 250 "DistrictPlannerModel" "hasSaved" "Z" : Cond) ∈ uT := mT5 (i := 194) rfl rfl
theorem u_cl_X10_30 : (.classLink RX10 30 RX9 : Cond) ∈ uT := mT1 (i := 36) rfl rfl
theorem u_cl_X10_43 : (.classLink RX10 43 RX4 : Cond) ∈ uT := mT1 (i := 127) rfl rfl
theorem u_cl_X10_50 : (.classLink RX10 50 RX8 : Cond) ∈ uT := mT1 (i := 129) rfl rfl
theorem u_cl_X10_57 : (.classLink RX10 57 RX3 : Cond) ∈ uT := mT1 (i := 163) rfl rfl
theorem u_cl_X10_64 : (.classLink RX10 64 RX7 : Cond) ∈ uT := mT1 (i := 178) rfl rfl
theorem u_cl_X10_71 : (.classLink RX10 71 RX0 : Cond) ∈ uT := mT1 (i := 222) rfl rfl
theorem u_cl_X10_78 : (.classLink RX10 78 RX2 : Cond) ∈ uT := mT2 (i := 21) rfl rfl
theorem u_cl_X10_85 : (.classLink RX10 85 RX1 : Cond) ∈ uT := mT2 (i := 41) rfl rfl
theorem u_cl_X10_92 : (.classLink RX10 92 RX5 : Cond) ∈ uT := mT2 (i := 43) rfl rfl
theorem u_cl_X10_99 : (.classLink RX10 99 "java/lang/IllegalStateException" : Cond) ∈ uT := mT2 (i := 178) rfl rfl
theorem u_cl_X10_118 : (.classLink RX10 118 "java/lang/UnsupportedOperationException" : Cond) ∈ uT := mT3 (i := 77) rfl rfl
theorem u_cl_X10_132 : (.classLink RX10 132 "java/util/NoSuchElementException" : Cond) ∈ uT := mT3 (i := 101) rfl rfl
theorem u_cl_X10_176 : (.classLink RX10 176 "java/lang/IllegalArgumentException" : Cond) ∈ uT := mT3 (i := 150) rfl rfl
theorem u_cl_X10_352 : (.classLink RX10 352 "java/lang/IndexOutOfBoundsException" : Cond) ∈ uT := mT3 (i := 130) rfl rfl
theorem u_cl_X0_22 : (.classLink RX0 22 RX4 : Cond) ∈ uT := mT1 (i := 228) rfl rfl
theorem u_cl_X0_29 : (.classLink RX0 29 RX1 : Cond) ∈ uT := mT1 (i := 230) rfl rfl
theorem u_cl_X2_9 : (.classLink RX2 9 RX9 : Cond) ∈ uT := mT2 (i := 27) rfl rfl
theorem u_cl_X7_9 : (.classLink RX7 9 RX4 : Cond) ∈ uT := mT1 (i := 184) rfl rfl
theorem u_cl_X7_29 : (.classLink RX7 29 RX1 : Cond) ∈ uT := mT1 (i := 186) rfl rfl
theorem u_cl_X9_47 : (.classLink RX9 47 RX4 : Cond) ∈ uT := mT1 (i := 42) rfl rfl
theorem u_cl_L_8 : (.classLink RL 8 RX10 : Cond) ∈ uT := mT1 (i := 28) rfl rfl
theorem u_cl_L_13 : (.classLink RL 13 "java/lang/IllegalStateException" : Cond) ∈ uT := mT2 (i := 173) rfl rfl
theorem u_cl_L_19 : (.classLink RL 19 "java/lang/UnsupportedOperationException" : Cond) ∈ uT := mT3 (i := 11) rfl rfl
theorem u_cl_L_24 : (.classLink RL 24 "java/util/NoSuchElementException" : Cond) ∈ uT := mT3 (i := 96) rfl rfl
theorem u_cl_L_30 : (.classLink RL 30 "java/lang/IndexOutOfBoundsException" : Cond) ∈ uT := mT3 (i := 120) rfl rfl
theorem u_cl_L_32 : (.classLink RL 32 "java/lang/IllegalArgumentException" : Cond) ∈ uT := mT3 (i := 121) rfl rfl
theorem u_cl_L_117 : (.classLink RL 117 RX11 : Cond) ∈ uT := mT5 (i := 182) rfl rfl
theorem u_k_X5_57 : (.constantFloat RX5 57 (1258291200 : UInt32) : Cond) ∈ uT := mT5 (i := 150) rfl rfl
theorem u_k_X6_61 : (.constantLong RX6 61 (16 : Int64) : Cond) ∈ uT := mT4 (i := 157) rfl rfl
theorem u_k_X11_179 : (.constantLong RX11 179 (16 : Int64) : Cond) ∈ uT := mT6 (i := 230) rfl rfl
theorem u_k_X11_230 : (.constant RX11 230 (100000 : Int32) : Cond) ∈ uT := mT7 (i := 42) rfl rfl
theorem u_k_X11_240 : (.constant RX11 240 (99999 : Int32) : Cond) ∈ uT := mT7 (i := 63) rfl rfl
theorem u_k_Jxf58ca_77 : (.constant RJxf58ca 77 (2143289344 : Int32) : Cond) ∈ uT := mT7 (i := 96) rfl rfl
theorem u_k_J6_265 : (.constant RJ6 265 (1431655765 : Int32) : Cond) ∈ uT := mT3 (i := 188) rfl rfl
theorem u_k_J6_266 : (.constant RJ6 266 (858993459 : Int32) : Cond) ∈ uT := mT3 (i := 189) rfl rfl
theorem u_k_J6_267 : (.constant RJ6 267 (252645135 : Int32) : Cond) ∈ uT := mT3 (i := 190) rfl rfl
theorem u_im_X10_init : (.instanceMethod yX10_init : Cond) ∈ uT := mT1 (i := 31) rfl rfl
theorem u_im_Object__init_ : (.instanceMethod objectInit : Cond) ∈ uT := mT1 (i := 34) rfl rfl
theorem u_im_X9_init : (.instanceMethod yX9_init : Cond) ∈ uT := mT1 (i := 39) rfl rfl
theorem u_im_X4_init : (.instanceMethod yX4_init : Cond) ∈ uT := mT1 (i := 45) rfl rfl
theorem u_im_X8_init : (.instanceMethod yX8_init : Cond) ∈ uT := mT1 (i := 132) rfl rfl
theorem u_im_X3_init : (.instanceMethod yX3_init : Cond) ∈ uT := mT1 (i := 166) rfl rfl
theorem u_im_X7_init : (.instanceMethod yX7_init : Cond) ∈ uT := mT1 (i := 181) rfl rfl
theorem u_im_X1_init : (.instanceMethod yX1_init : Cond) ∈ uT := mT1 (i := 189) rfl rfl
theorem u_im_X0_init : (.instanceMethod yX0_init : Cond) ∈ uT := mT1 (i := 225) rfl rfl
theorem u_im_X2_init : (.instanceMethod yX2_init : Cond) ∈ uT := mT2 (i := 24) rfl rfl
theorem u_im_X5_init : (.instanceMethod yX5_init : Cond) ∈ uT := mT2 (i := 47) rfl rfl
theorem u_im_X10_clearMap : (.instanceMethod yX10_clearMap : Cond) ∈ uT := mT2 (i := 119) rfl rfl
theorem u_im_X2_remember : (.instanceMethod yX2_remember : Cond) ∈ uT := mT2 (i := 123) rfl rfl
theorem u_im_X9_copyFrom : (.instanceMethod yX9_copyFrom : Cond) ∈ uT := mT2 (i := 127) rfl rfl
theorem u_im_X4_copyFrom : (.instanceMethod yX4_copyFrom : Cond) ∈ uT := mT2 (i := 134) rfl rfl
theorem u_im_X9_removeUnits : (.instanceMethod yX9_removeUnits : Cond) ∈ uT := mT2 (i := 142) rfl rfl
theorem u_im_X10_forgetPlans : (.instanceMethod yX10_forgetPlans : Cond) ∈ uT := mT2 (i := 150) rfl rfl
theorem u_im_X9_dropPlan : (.instanceMethod yX9_dropPlan : Cond) ∈ uT := mT2 (i := 153) rfl rfl
theorem u_im_X4_clear : (.instanceMethod yX4_clear : Cond) ∈ uT := mT2 (i := 157) rfl rfl
theorem u_im_X0_forget : (.instanceMethod yX0_forget : Cond) ∈ uT := mT2 (i := 162) rfl rfl
theorem u_im_X10_saveSnapshot : (.instanceMethod yX10_saveSnapshot : Cond) ∈ uT := mT2 (i := 166) rfl rfl
theorem u_im_X10_feed : (.instanceMethod yX10_feed : Cond) ∈ uT := mT2 (i := 175) rfl rfl
theorem u_im_Throwable__init_ : (.instanceMethod ⟨"java/lang/Throwable", "<init>", "()V"⟩ : Cond) ∈ uT := mT2 (i := 201) rfl rfl
theorem u_im_Throwable_fillInStackTrace : (.instanceMethod ⟨"java/lang/Throwable", "fillInStackTrace", "()Ljava/lang/Throwable;"⟩ : Cond) ∈ uT := mT2 (i := 209) rfl rfl
theorem u_im_Throwable_fillInStackTrace_b : (.instanceMethod ⟨"java/lang/Throwable", "fillInStackTrace", "(I)Ljava/lang/Throwable;"⟩ : Cond) ∈ uT := mT2 (i := 218) rfl rfl
theorem u_im_IllegalStateException__init_ : (.instanceMethod ⟨"java/lang/IllegalStateException", "<init>", "(Ljava/lang/String;)V"⟩ : Cond) ∈ uT := mT2 (i := 223) rfl rfl
theorem u_im_RuntimeException__init_ : (.instanceMethod ⟨"java/lang/RuntimeException", "<init>", "(Ljava/lang/String;)V"⟩ : Cond) ∈ uT := mT2 (i := 226) rfl rfl
theorem u_im_Exception__init_ : (.instanceMethod ⟨"java/lang/Exception", "<init>", "(Ljava/lang/String;)V"⟩ : Cond) ∈ uT := mT2 (i := 229) rfl rfl
theorem u_im_Throwable__init__b : (.instanceMethod ⟨"java/lang/Throwable", "<init>", "(Ljava/lang/String;)V"⟩ : Cond) ∈ uT := mT2 (i := 232) rfl rfl
theorem u_im_X10_extend : (.instanceMethod yX10_extend : Cond) ∈ uT := mT3 (i := 13) rfl rfl
theorem u_im_X8_findFault : (.instanceMethod yX8_findFault : Cond) ∈ uT := mT3 (i := 17) rfl rfl
theorem u_im_X8_begin : (.instanceMethod yX8_begin : Cond) ∈ uT := mT3 (i := 22) rfl rfl
theorem u_im_X8_readStatement : (.instanceMethod yX8_readStatement : Cond) ∈ uT := mT3 (i := 27) rfl rfl
theorem u_im_X8_take : (.instanceMethod yX8_take : Cond) ∈ uT := mT3 (i := 31) rfl rfl
theorem u_im_X8_readUnit : (.instanceMethod yX8_readUnit : Cond) ∈ uT := mT3 (i := 35) rfl rfl
theorem u_im_X8_readNumber : (.instanceMethod yX8_readNumber : Cond) ∈ uT := mT3 (i := 39) rfl rfl
theorem u_im_X8_readDigit : (.instanceMethod yX8_readDigit : Cond) ∈ uT := mT3 (i := 43) rfl rfl
theorem u_im_X8_readBorder : (.instanceMethod yX8_readBorder : Cond) ∈ uT := mT3 (i := 47) rfl rfl
theorem u_im_X8_readOuter : (.instanceMethod yX8_readOuter : Cond) ∈ uT := mT3 (i := 51) rfl rfl
theorem u_im_X8_carryOut : (.instanceMethod yX8_carryOut : Cond) ∈ uT := mT3 (i := 54) rfl rfl
theorem u_im_X8_carryOutStatement : (.instanceMethod yX8_carryOutStatement : Cond) ∈ uT := mT3 (i := 59) rfl rfl
theorem u_im_X9_addUnit : (.instanceMethod yX9_addUnit : Cond) ∈ uT := mT3 (i := 62) rfl rfl
theorem u_im_X9_setLength : (.instanceMethod yX9_setLength : Cond) ∈ uT := mT3 (i := 66) rfl rfl
theorem u_im_X9_lengthBetween : (.instanceMethod yX9_lengthBetween : Cond) ∈ uT := mT3 (i := 70) rfl rfl
theorem u_im_X9_setOuter : (.instanceMethod yX9_setOuter : Cond) ∈ uT := mT3 (i := 74) rfl rfl
theorem u_im_UnsupportedOperationException__init_ : (.instanceMethod ⟨"java/lang/UnsupportedOperationException", "<init>", "(Ljava/lang/String;)V"⟩ : Cond) ∈ uT := mT3 (i := 88) rfl rfl
theorem u_im_X10_impossible : (.instanceMethod yX10_impossible : Cond) ∈ uT := mT3 (i := 98) rfl rfl
theorem u_im_NoSuchElementException__init_ : (.instanceMethod ⟨"java/util/NoSuchElementException", "<init>", "(Ljava/lang/String;)V"⟩ : Cond) ∈ uT := mT3 (i := 112) rfl rfl
theorem u_im_X10_unit : (.instanceMethod yX10_unit : Cond) ∈ uT := mT3 (i := 123) rfl rfl
theorem u_im_X10_checkUnit : (.instanceMethod yX10_checkUnit : Cond) ∈ uT := mT3 (i := 128) rfl rfl
theorem u_im_IndexOutOfBoundsException__init_ : (.instanceMethod ⟨"java/lang/IndexOutOfBoundsException", "<init>", "(Ljava/lang/String;)V"⟩ : Cond) ∈ uT := mT3 (i := 141) rfl rfl
theorem u_im_X9_isAtEdge : (.instanceMethod yX9_isAtEdge : Cond) ∈ uT := mT3 (i := 147) rfl rfl
theorem u_im_IllegalArgumentException__init_ : (.instanceMethod ⟨"java/lang/IllegalArgumentException", "<init>", "(Ljava/lang/String;)V"⟩ : Cond) ∈ uT := mT3 (i := 161) rfl rfl
theorem u_im_X10_border : (.instanceMethod yX10_border : Cond) ∈ uT := mT3 (i := 170) rfl rfl
theorem u_im_X10_count : (.instanceMethod yX10_count : Cond) ∈ uT := mT3 (i := 178) rfl rfl
theorem u_im_X9_countBorders : (.instanceMethod yX9_countBorders : Cond) ∈ uT := mT3 (i := 182) rfl rfl
theorem u_im_X9_allUnits : (.instanceMethod yX9_allUnits : Cond) ∈ uT := mT3 (i := 192) rfl rfl
theorem u_im_X9_populationOf : (.instanceMethod yX9_populationOf : Cond) ∈ uT := mT3 (i := 196) rfl rfl
theorem u_im_X9_areaOf : (.instanceMethod yX9_areaOf : Cond) ∈ uT := mT3 (i := 200) rfl rfl
theorem u_im_X9_countParts : (.instanceMethod yX9_countParts : Cond) ∈ uT := mT3 (i := 204) rfl rfl
theorem u_im_X9_reach : (.instanceMethod yX9_reach : Cond) ∈ uT := mT3 (i := 210) rfl rfl
theorem u_im_X9_countCommunities : (.instanceMethod yX9_countCommunities : Cond) ∈ uT := mT3 (i := 213) rfl rfl
theorem u_im_X9_membersOf : (.instanceMethod yX9_membersOf : Cond) ∈ uT := mT3 (i := 217) rfl rfl
theorem u_im_X10_setDistricts : (.instanceMethod yX10_setDistricts : Cond) ∈ uT := mT3 (i := 225) rfl rfl
theorem u_im_X10_setTolerance : (.instanceMethod yX10_setTolerance : Cond) ∈ uT := mT3 (i := 233) rfl rfl
theorem u_im_X10_readPlan : (.instanceMethod yX10_readPlan : Cond) ∈ uT := mT4 (i := 1) rfl rfl
theorem u_im_X10_findPlanFault : (.instanceMethod yX10_findPlanFault : Cond) ∈ uT := mT4 (i := 7) rfl rfl
theorem u_im_X10_districtOf : (.instanceMethod yX10_districtOf : Cond) ∈ uT := mT4 (i := 11) rfl rfl
theorem u_im_X4_give : (.instanceMethod yX4_give : Cond) ∈ uT := mT4 (i := 15) rfl rfl
theorem u_im_X3_judgePlan : (.instanceMethod yX3_judgePlan : Cond) ∈ uT := mT4 (i := 19) rfl rfl
theorem u_im_X3_tell : (.instanceMethod yX3_tell : Cond) ∈ uT := mT4 (i := 24) rfl rfl
theorem u_im_X9_isContiguous : (.instanceMethod yX9_isContiguous : Cond) ∈ uT := mT4 (i := 27) rfl rfl
theorem u_im_X9_coresOf : (.instanceMethod yX9_coresOf : Cond) ∈ uT := mT4 (i := 31) rfl rfl
theorem u_im_X4_splits : (.instanceMethod yX4_splits : Cond) ∈ uT := mT4 (i := 35) rfl rfl
theorem u_im_X9_isBalanced : (.instanceMethod yX9_isBalanced : Cond) ∈ uT := mT4 (i := 39) rfl rfl
theorem u_im_X9_imbalanceOf : (.instanceMethod yX9_imbalanceOf : Cond) ∈ uT := mT4 (i := 43) rfl rfl
theorem u_im_X10_keepRefusal : (.instanceMethod yX10_keepRefusal : Cond) ∈ uT := mT4 (i := 52) rfl rfl
theorem u_im_X10_becomePresent : (.instanceMethod yX10_becomePresent : Cond) ∈ uT := mT4 (i := 56) rfl rfl
theorem u_im_X10_move : (.instanceMethod yX10_move : Cond) ∈ uT := mT4 (i := 63) rfl rfl
theorem u_im_X10_checkMove : (.instanceMethod yX10_checkMove : Cond) ∈ uT := mT4 (i := 68) rfl rfl
theorem u_im_X10_checkDistrict : (.instanceMethod yX10_checkDistrict : Cond) ∈ uT := mT4 (i := 72) rfl rfl
theorem u_im_X10_checkPlan : (.instanceMethod yX10_checkPlan : Cond) ∈ uT := mT4 (i := 77) rfl rfl
theorem u_im_X3_judgeMove : (.instanceMethod yX3_judgeMove : Cond) ∈ uT := mT4 (i := 82) rfl rfl
theorem u_im_X10_swap : (.instanceMethod yX10_swap : Cond) ∈ uT := mT4 (i := 93) rfl rfl
theorem u_im_X3_judgeSwap : (.instanceMethod yX3_judgeSwap : Cond) ∈ uT := mT4 (i := 98) rfl rfl
theorem u_im_X10_refuses : (.instanceMethod yX10_refuses : Cond) ∈ uT := mT4 (i := 106) rfl rfl
theorem u_im_X10_refusal : (.instanceMethod yX10_refusal : Cond) ∈ uT := mT4 (i := 113) rfl rfl
theorem u_im_X10_district : (.instanceMethod yX10_district : Cond) ∈ uT := mT4 (i := 121) rfl rfl
theorem u_im_X9_perimeterOf : (.instanceMethod yX9_perimeterOf : Cond) ∈ uT := mT4 (i := 127) rfl rfl
theorem u_im_X9_lengthToOutside : (.instanceMethod yX9_lengthToOutside : Cond) ∈ uT := mT4 (i := 132) rfl rfl
theorem u_im_X9_districtsAround : (.instanceMethod yX9_districtsAround : Cond) ∈ uT := mT4 (i := 135) rfl rfl
theorem u_im_X10_measure : (.instanceMethod yX10_measure : Cond) ∈ uT := mT4 (i := 142) rfl rfl
theorem u_im_X10_checkMeasure : (.instanceMethod yX10_checkMeasure : Cond) ∈ uT := mT4 (i := 147) rfl rfl
theorem u_im_X1_become : (.instanceMethod yX1_become : Cond) ∈ uT := mT4 (i := 160) rfl rfl
theorem u_im_X10_meanCompactness : (.instanceMethod yX10_meanCompactness : Cond) ∈ uT := mT4 (i := 188) rfl rfl
theorem u_im_X10_improve : (.instanceMethod yX10_improve : Cond) ∈ uT := mT4 (i := 198) rfl rfl
theorem u_im_X7_begin : (.instanceMethod yX7_begin : Cond) ∈ uT := mT4 (i := 202) rfl rfl
theorem u_im_X7_tryMoves : (.instanceMethod yX7_tryMoves : Cond) ∈ uT := mT4 (i := 207) rfl rfl
theorem u_im_X7_consider : (.instanceMethod yX7_consider : Cond) ∈ uT := mT4 (i := 213) rfl rfl
theorem u_im_X1_compareWith : (.instanceMethod yX1_compareWith : Cond) ∈ uT := mT4 (i := 219) rfl rfl
theorem u_im_X1_copyFrom : (.instanceMethod yX1_copyFrom : Cond) ∈ uT := mT4 (i := 226) rfl rfl
theorem u_im_X7_trySwaps : (.instanceMethod yX7_trySwaps : Cond) ∈ uT := mT4 (i := 231) rfl rfl
theorem u_im_X10_possible : (.instanceMethod yX10_possible : Cond) ∈ uT := mT4 (i := 239) rfl rfl
theorem u_im_X10_plans : (.instanceMethod yX10_plans : Cond) ∈ uT := mT5 (i := 6) rfl rfl
theorem u_im_X10_checkListed : (.instanceMethod yX10_checkListed : Cond) ∈ uT := mT5 (i := 11) rfl rfl
theorem u_im_X0_countPlans : (.instanceMethod yX0_countPlans : Cond) ∈ uT := mT5 (i := 15) rfl rfl
theorem u_im_X0_findSets : (.instanceMethod yX0_findSets : Cond) ∈ uT := mT5 (i := 20) rfl rfl
theorem u_im_X9_splitsCores : (.instanceMethod yX9_splitsCores : Cond) ∈ uT := mT5 (i := 26) rfl rfl
theorem u_im_X0_keepIfLawful : (.instanceMethod yX0_keepIfLawful : Cond) ∈ uT := mT5 (i := 37) rfl rfl
theorem u_im_X10_counted : (.instanceMethod yX10_counted : Cond) ∈ uT := mT5 (i := 44) rfl rfl
theorem u_im_X0_countBySets : (.instanceMethod yX0_countBySets : Cond) ∈ uT := mT5 (i := 48) rfl rfl
theorem u_im_X10_planned : (.instanceMethod yX10_planned : Cond) ∈ uT := mT5 (i := 58) rfl rfl
theorem u_im_X10_checkListedPlan : (.instanceMethod yX10_checkListedPlan : Cond) ∈ uT := mT5 (i := 63) rfl rfl
theorem u_im_X0_copyPlan : (.instanceMethod yX0_copyPlan : Cond) ∈ uT := mT5 (i := 67) rfl rfl
theorem u_im_X10_best : (.instanceMethod yX10_best : Cond) ∈ uT := mT5 (i := 76) rfl rfl
theorem u_im_X0_findBest : (.instanceMethod yX0_findBest : Cond) ∈ uT := mT5 (i := 81) rfl rfl
theorem u_im_X10_choose : (.instanceMethod yX10_choose : Cond) ∈ uT := mT5 (i := 92) rfl rfl
theorem u_im_X10_store : (.instanceMethod yX10_store : Cond) ∈ uT := mT5 (i := 99) rfl rfl
theorem u_im_X5_takeFrom : (.instanceMethod yX5_takeFrom : Cond) ∈ uT := mT5 (i := 107) rfl rfl
theorem u_im_X10_copyRow : (.instanceMethod yX10_copyRow : Cond) ∈ uT := mT5 (i := 116) rfl rfl
theorem u_im_X5_isMissing : (.instanceMethod yX5_isMissing : Cond) ∈ uT := mT5 (i := 120) rfl rfl
theorem u_im_X5_takeElements : (.instanceMethod yX5_takeElements : Cond) ∈ uT := mT5 (i := 127) rfl rfl
theorem u_im_X5_sum : (.instanceMethod yX5_sum : Cond) ∈ uT := mT5 (i := 132) rfl rfl
theorem u_im_X10_bits : (.instanceMethod yX10_bits : Cond) ∈ uT := mT5 (i := 139) rfl rfl
theorem u_im_X5_element : (.instanceMethod yX5_element : Cond) ∈ uT := mT5 (i := 144) rfl rfl
theorem u_im_X10_undo : (.instanceMethod yX10_undo : Cond) ∈ uT := mT5 (i := 155) rfl rfl
theorem u_im_X2_giveBack : (.instanceMethod yX2_giveBack : Cond) ∈ uT := mT5 (i := 160) rfl rfl
theorem u_im_X10_restoreSnapshot : (.instanceMethod yX10_restoreSnapshot : Cond) ∈ uT := mT5 (i := 167) rfl rfl
theorem u_im_X2_forget : (.instanceMethod yX2_forget : Cond) ∈ uT := mT5 (i := 172) rfl rfl
theorem u_im_X10_letter : (.instanceMethod yX10_letter : Cond) ∈ uT := mT5 (i := 179) rfl rfl
theorem u_im_X11_init : (.instanceMethod yX11_init : Cond) ∈ uT := mT5 (i := 185) rfl rfl
theorem u_im_X11_thrown : (.instanceMethod yX11_thrown : Cond) ∈ uT := mT6 (i := 28) rfl rfl
theorem u_im_X11_feed : (.instanceMethod yX11_feed : Cond) ∈ uT := mT6 (i := 32) rfl rfl
theorem u_im_X11_fails : (.instanceMethod yX11_fails : Cond) ∈ uT := mT6 (i := 37) rfl rfl
theorem u_im_X11_done : (.instanceMethod yX11_done : Cond) ∈ uT := mT6 (i := 41) rfl rfl
theorem u_im_X11_extend : (.instanceMethod yX11_extend : Cond) ∈ uT := mT6 (i := 44) rfl rfl
theorem u_im_X11_readsStatement : (.instanceMethod yX11_readsStatement : Cond) ∈ uT := mT6 (i := 49) rfl rfl
theorem u_im_X11_here : (.instanceMethod yX11_here : Cond) ∈ uT := mT6 (i := 53) rfl rfl
theorem u_im_X11_readsNumber : (.instanceMethod yX11_readsNumber : Cond) ∈ uT := mT6 (i := 57) rfl rfl
theorem u_im_X11_eats : (.instanceMethod yX11_eats : Cond) ∈ uT := mT6 (i := 64) rfl rfl
theorem u_im_X11_remembers : (.instanceMethod yX11_remembers : Cond) ∈ uT := mT6 (i := 68) rfl rfl
theorem u_im_X11_does : (.instanceMethod yX11_does : Cond) ∈ uT := mT6 (i := 72) rfl rfl
theorem u_im_X11_isUnit : (.instanceMethod yX11_isUnit : Cond) ∈ uT := mT6 (i := 76) rfl rfl
theorem u_im_X11_borderOf : (.instanceMethod yX11_borderOf : Cond) ∈ uT := mT6 (i := 80) rfl rfl
theorem u_im_X11_changes : (.instanceMethod yX11_changes : Cond) ∈ uT := mT6 (i := 84) rfl rfl
theorem u_im_X11_impossible : (.instanceMethod yX11_impossible : Cond) ∈ uT := mT6 (i := 87) rfl rfl
theorem u_im_X11_clearMap : (.instanceMethod yX11_clearMap : Cond) ∈ uT := mT6 (i := 91) rfl rfl
theorem u_im_X11_unit : (.instanceMethod yX11_unit : Cond) ∈ uT := mT6 (i := 95) rfl rfl
theorem u_im_X11_of : (.instanceMethod yX11_of : Cond) ∈ uT := mT6 (i := 100) rfl rfl
theorem u_im_X11_neighbors : (.instanceMethod yX11_neighbors : Cond) ∈ uT := mT6 (i := 104) rfl rfl
theorem u_im_X11_districtOf : (.instanceMethod yX11_districtOf : Cond) ∈ uT := mT6 (i := 108) rfl rfl
theorem u_im_X11_border : (.instanceMethod yX11_border : Cond) ∈ uT := mT6 (i := 111) rfl rfl
theorem u_im_X11_count : (.instanceMethod yX11_count : Cond) ∈ uT := mT6 (i := 115) rfl rfl
theorem u_im_X11_all : (.instanceMethod yX11_all : Cond) ∈ uT := mT6 (i := 120) rfl rfl
theorem u_im_X11_sum : (.instanceMethod yX11_sum : Cond) ∈ uT := mT6 (i := 124) rfl rfl
theorem u_im_X11_reached : (.instanceMethod yX11_reached : Cond) ∈ uT := mT6 (i := 128) rfl rfl
theorem u_im_X11_communities : (.instanceMethod yX11_communities : Cond) ∈ uT := mT6 (i := 132) rfl rfl
theorem u_im_X11_setDistricts : (.instanceMethod yX11_setDistricts : Cond) ∈ uT := mT6 (i := 135) rfl rfl
theorem u_im_X11_setTolerance : (.instanceMethod yX11_setTolerance : Cond) ∈ uT := mT6 (i := 139) rfl rfl
theorem u_im_X11_readPlan : (.instanceMethod yX11_readPlan : Cond) ∈ uT := mT6 (i := 143) rfl rfl
theorem u_im_X11_isDistrict : (.instanceMethod yX11_isDistrict : Cond) ∈ uT := mT6 (i := 148) rfl rfl
theorem u_im_X11_reason : (.instanceMethod yX11_reason : Cond) ∈ uT := mT6 (i := 152) rfl rfl
theorem u_im_X11_set : (.instanceMethod yX11_set : Cond) ∈ uT := mT6 (i := 156) rfl rfl
theorem u_im_X11_off : (.instanceMethod yX11_off : Cond) ∈ uT := mT6 (i := 160) rfl rfl
theorem u_im_X11_keepsReason : (.instanceMethod yX11_keepsReason : Cond) ∈ uT := mT6 (i := 164) rfl rfl
theorem u_im_X11_keeps : (.instanceMethod yX11_keeps : Cond) ∈ uT := mT6 (i := 168) rfl rfl
theorem u_im_X11_move : (.instanceMethod yX11_move : Cond) ∈ uT := mT6 (i := 171) rfl rfl
theorem u_im_X11_lacksMove : (.instanceMethod yX11_lacksMove : Cond) ∈ uT := mT6 (i := 176) rfl rfl
theorem u_im_X11_tells : (.instanceMethod yX11_tells : Cond) ∈ uT := mT6 (i := 180) rfl rfl
theorem u_im_X11_moves : (.instanceMethod yX11_moves : Cond) ∈ uT := mT6 (i := 184) rfl rfl
theorem u_im_X11_hasNeighbor : (.instanceMethod yX11_hasNeighbor : Cond) ∈ uT := mT6 (i := 188) rfl rfl
theorem u_im_X11_swap : (.instanceMethod yX11_swap : Cond) ∈ uT := mT6 (i := 191) rfl rfl
theorem u_im_X11_swaps : (.instanceMethod yX11_swaps : Cond) ∈ uT := mT6 (i := 196) rfl rfl
theorem u_im_X11_refuses : (.instanceMethod yX11_refuses : Cond) ∈ uT := mT6 (i := 199) rfl rfl
theorem u_im_X11_refusal : (.instanceMethod yX11_refusal : Cond) ∈ uT := mT6 (i := 203) rfl rfl
theorem u_im_X11_district : (.instanceMethod yX11_district : Cond) ∈ uT := mT6 (i := 207) rfl rfl
theorem u_im_X11_perimeter : (.instanceMethod yX11_perimeter : Cond) ∈ uT := mT6 (i := 212) rfl rfl
theorem u_im_X11_others : (.instanceMethod yX11_others : Cond) ∈ uT := mT6 (i := 216) rfl rfl
theorem u_im_X11_measure : (.instanceMethod yX11_measure : Cond) ∈ uT := mT6 (i := 219) rfl rfl
theorem u_im_X11_tellMeasure : (.instanceMethod yX11_tellMeasure : Cond) ∈ uT := mT6 (i := 224) rfl rfl
theorem u_im_X11_tellCompactness : (.instanceMethod yX11_tellCompactness : Cond) ∈ uT := mT6 (i := 228) rfl rfl
theorem u_im_X11_cutLengths : (.instanceMethod yX11_cutLengths : Cond) ∈ uT := mT6 (i := 233) rfl rfl
theorem u_im_X11_torn : (.instanceMethod yX11_torn : Cond) ∈ uT := mT6 (i := 237) rfl rfl
theorem u_im_X11_meanCompactness : (.instanceMethod yX11_meanCompactness : Cond) ∈ uT := mT7 (i := 3) rfl rfl
theorem u_im_X11_compactness : (.instanceMethod yX11_compactness : Cond) ∈ uT := mT7 (i := 8) rfl rfl
theorem u_im_X11_improve : (.instanceMethod yX11_improve : Cond) ∈ uT := mT7 (i := 11) rfl rfl
theorem u_im_X11_steps : (.instanceMethod yX11_steps : Cond) ∈ uT := mT7 (i := 16) rfl rfl
theorem u_im_X11_isBest : (.instanceMethod yX11_isBest : Cond) ∈ uT := mT7 (i := 20) rfl rfl
theorem u_im_X11_isBetter : (.instanceMethod yX11_isBetter : Cond) ∈ uT := mT7 (i := 24) rfl rfl
theorem u_im_X11_possible : (.instanceMethod yX11_possible : Cond) ∈ uT := mT7 (i := 27) rfl rfl
theorem u_im_X11_plans : (.instanceMethod yX11_plans : Cond) ∈ uT := mT7 (i := 31) rfl rfl
theorem u_im_X11_isSmall : (.instanceMethod yX11_isSmall : Cond) ∈ uT := mT7 (i := 36) rfl rfl
theorem u_im_X11_allPlans : (.instanceMethod yX11_allPlans : Cond) ∈ uT := mT7 (i := 40) rfl rfl
theorem u_im_X11_plansUpTo : (.instanceMethod yX11_plansUpTo : Cond) ∈ uT := mT7 (i := 45) rfl rfl
theorem u_im_X11_begins : (.instanceMethod yX11_begins : Cond) ∈ uT := mT7 (i := 49) rfl rfl
theorem u_im_X11_goesOn : (.instanceMethod yX11_goesOn : Cond) ∈ uT := mT7 (i := 53) rfl rfl
theorem u_im_X11_counted : (.instanceMethod yX11_counted : Cond) ∈ uT := mT7 (i := 56) rfl rfl
theorem u_im_X11_planned : (.instanceMethod yX11_planned : Cond) ∈ uT := mT7 (i := 60) rfl rfl
theorem u_im_X11_best : (.instanceMethod yX11_best : Cond) ∈ uT := mT7 (i := 65) rfl rfl
theorem u_im_X11_choose : (.instanceMethod yX11_choose : Cond) ∈ uT := mT7 (i := 69) rfl rfl
theorem u_im_X11_store : (.instanceMethod yX11_store : Cond) ∈ uT := mT7 (i := 73) rfl rfl
theorem u_im_X11_copyRow : (.instanceMethod yX11_copyRow : Cond) ∈ uT := mT7 (i := 80) rfl rfl
theorem u_im_X11_bits : (.instanceMethod yX11_bits : Cond) ∈ uT := mT7 (i := 84) rfl rfl
theorem u_im_X11_undo : (.instanceMethod yX11_undo : Cond) ∈ uT := mT7 (i := 98) rfl rfl
theorem u_im_X11_saveSnapshot : (.instanceMethod yX11_saveSnapshot : Cond) ∈ uT := mT7 (i := 102) rfl rfl
theorem u_im_X11_restoreSnapshot : (.instanceMethod yX11_restoreSnapshot : Cond) ∈ uT := mT7 (i := 106) rfl rfl
theorem u_im_X11_letter : (.instanceMethod yX11_letter : Cond) ∈ uT := mT7 (i := 110) rfl rfl
theorem u_st_System_arraycopy : (.static arraycopyName : Cond) ∈ uT := mT2 (i := 131) rfl rfl
theorem u_st_J9_min_7cf53 : (.static Lib.Math.min.name : Cond) ∈ uT := mT2 (i := 139) rfl rfl
theorem u_st_J7_fill_53178 : (.static yJ7_fill_53178 : Cond) ∈ uT := mT2 (i := 146) rfl rfl
theorem u_st_L_feed : (.static yL_feed : Cond) ∈ uT := mT2 (i := 171) rfl rfl
theorem u_st_L_extend : (.static yL_extend : Cond) ∈ uT := mT3 (i := 9) rfl rfl
theorem u_st_L_impossible : (.static yL_impossible : Cond) ∈ uT := mT3 (i := 94) rfl rfl
theorem u_st_L_unit : (.static yL_unit : Cond) ∈ uT := mT3 (i := 118) rfl rfl
theorem u_st_L_border : (.static yL_border : Cond) ∈ uT := mT3 (i := 167) rfl rfl
theorem u_st_L_count : (.static yL_count : Cond) ∈ uT := mT3 (i := 175) rfl rfl
theorem u_st_J6_bitCount_0f7a4 : (.static yJ6_bitCount_0f7a4 : Cond) ∈ uT := mT3 (i := 186) rfl rfl
theorem u_st_L_setDistricts : (.static yL_setDistricts : Cond) ∈ uT := mT3 (i := 222) rfl rfl
theorem u_st_L_setTolerance : (.static yL_setTolerance : Cond) ∈ uT := mT3 (i := 230) rfl rfl
theorem u_st_L_readPlan : (.static yL_readPlan : Cond) ∈ uT := mT3 (i := 238) rfl rfl
theorem u_st_J9_abs_0f7a4 : (.static Lib.Math.abs.name : Cond) ∈ uT := mT4 (i := 48) rfl rfl
theorem u_st_L_move : (.static yL_move : Cond) ∈ uT := mT4 (i := 60) rfl rfl
theorem u_st_L_swap : (.static yL_swap : Cond) ∈ uT := mT4 (i := 90) rfl rfl
theorem u_st_L_refuses : (.static yL_refuses : Cond) ∈ uT := mT4 (i := 103) rfl rfl
theorem u_st_L_refusal : (.static yL_refusal : Cond) ∈ uT := mT4 (i := 110) rfl rfl
theorem u_st_L_district : (.static yL_district : Cond) ∈ uT := mT4 (i := 118) rfl rfl
theorem u_st_L_measure : (.static yL_measure : Cond) ∈ uT := mT4 (i := 139) rfl rfl
theorem u_st_X6_weigh : (.static yX6_weigh : Cond) ∈ uT := mT4 (i := 151) rfl rfl
theorem u_st_X6_weighCompactness : (.static yX6_weighCompactness : Cond) ∈ uT := mT4 (i := 154) rfl rfl
theorem u_st_X1_commonDivisor : (.static yX1_commonDivisor : Cond) ∈ uT := mT4 (i := 164) rfl rfl
theorem u_st_X6_cutLength : (.static yX6_cutLength : Cond) ∈ uT := mT4 (i := 167) rfl rfl
theorem u_st_X6_countSplitCommunities : (.static yX6_countSplitCommunities : Cond) ∈ uT := mT4 (i := 171) rfl rfl
theorem u_st_X6_greatestImbalance : (.static yX6_greatestImbalance : Cond) ∈ uT := mT4 (i := 176) rfl rfl
theorem u_st_J9_max_7cf53 : (.static Lib.Math.max.name : Cond) ∈ uT := mT4 (i := 180) rfl rfl
theorem u_st_L_meanCompactness : (.static yL_meanCompactness : Cond) ∈ uT := mT4 (i := 185) rfl rfl
theorem u_st_X6_roughCompactness : (.static yX6_roughCompactness : Cond) ∈ uT := mT4 (i := 192) rfl rfl
theorem u_st_L_improve : (.static yL_improve : Cond) ∈ uT := mT4 (i := 195) rfl rfl
theorem u_st_X6_isBetter : (.static yX6_isBetter : Cond) ∈ uT := mT4 (i := 216) rfl rfl
theorem u_st_J13_compare_74951 : (.static yJ13_compare_74951 : Cond) ∈ uT := mT4 (i := 223) rfl rfl
theorem u_st_L_possible : (.static yL_possible : Cond) ∈ uT := mT4 (i := 236) rfl rfl
theorem u_st_L_plans : (.static yL_plans : Cond) ∈ uT := mT5 (i := 3) rfl rfl
theorem u_st_X0_listFrom : (.static yX0_listFrom : Cond) ∈ uT := mT5 (i := 33) rfl rfl
theorem u_st_L_counted : (.static yL_counted : Cond) ∈ uT := mT5 (i := 41) rfl rfl
theorem u_st_X0_countFrom : (.static yX0_countFrom : Cond) ∈ uT := mT5 (i := 52) rfl rfl
theorem u_st_L_planned : (.static yL_planned : Cond) ∈ uT := mT5 (i := 55) rfl rfl
theorem u_st_L_best : (.static yL_best : Cond) ∈ uT := mT5 (i := 73) rfl rfl
theorem u_st_L_choose : (.static yL_choose : Cond) ∈ uT := mT5 (i := 89) rfl rfl
theorem u_st_L_store : (.static yL_store : Cond) ∈ uT := mT5 (i := 96) rfl rfl
theorem u_st_X10_isRow : (.static yX10_isRow : Cond) ∈ uT := mT5 (i := 103) rfl rfl
theorem u_st_L_copyRow : (.static yL_copyRow : Cond) ∈ uT := mT5 (i := 113) rfl rfl
theorem u_st_L_bits : (.static yL_bits : Cond) ∈ uT := mT5 (i := 136) rfl rfl
theorem u_st_X5_bitsOf : (.static yX5_bitsOf : Cond) ∈ uT := mT5 (i := 148) rfl rfl
theorem u_st_L_undo : (.static yL_undo : Cond) ∈ uT := mT5 (i := 152) rfl rfl
theorem u_st_L_restoreSnapshot : (.static yL_restoreSnapshot : Cond) ∈ uT := mT5 (i := 164) rfl rfl
theorem u_st_L_letter : (.static yL_letter : Cond) ∈ uT := mT5 (i := 176) rfl rfl
theorem u_st_X11_in : (.static yX11_in : Cond) ∈ uT := mT6 (i := 60) rfl rfl
theorem u_st_X11_divisor : (.static yX11_divisor : Cond) ∈ uT := mT7 (i := 0) rfl rfl
theorem u_st_X11_isRow : (.static yX11_isRow : Cond) ∈ uT := mT7 (i := 77) rfl rfl
theorem u_st_Jxf58ca_floatToIntBits_5c35a : (.static yJxf58ca_floatToIntBits_5c35a : Cond) ∈ uT := mT7 (i := 88) rfl rfl
theorem u_st_Jxf58ca_isNaN_12338 : (.static yJxf58ca_isNaN_12338 : Cond) ∈ uT := mT7 (i := 91) rfl rfl
theorem u_st_Float_floatToRawIntBits : (.static ⟨"java/lang/Float", "floatToRawIntBits", "(F)I"⟩ : Cond) ∈ uT := mT7 (i := 94) rfl rfl
theorem u_se_X10_clearMap : (.selects RX10 yX10_clearMap yX10_clearMap : Cond) ∈ uT := mT2 (i := 120) rfl rfl
theorem u_se_X2_remember : (.selects RX2 yX2_remember yX2_remember : Cond) ∈ uT := mT2 (i := 124) rfl rfl
theorem u_se_X9_copyFrom : (.selects RX9 yX9_copyFrom yX9_copyFrom : Cond) ∈ uT := mT2 (i := 128) rfl rfl
theorem u_se_X4_copyFrom : (.selects RX4 yX4_copyFrom yX4_copyFrom : Cond) ∈ uT := mT2 (i := 135) rfl rfl
theorem u_se_X9_removeUnits : (.selects RX9 yX9_removeUnits yX9_removeUnits : Cond) ∈ uT := mT2 (i := 143) rfl rfl
theorem u_se_X9_dropPlan : (.selects RX9 yX9_dropPlan yX9_dropPlan : Cond) ∈ uT := mT2 (i := 154) rfl rfl
theorem u_se_X4_clear : (.selects RX4 yX4_clear yX4_clear : Cond) ∈ uT := mT2 (i := 158) rfl rfl
theorem u_se_X0_forget : (.selects RX0 yX0_forget yX0_forget : Cond) ∈ uT := mT2 (i := 163) rfl rfl
theorem u_se_X10_saveSnapshot : (.selects RX10 yX10_saveSnapshot yX10_saveSnapshot : Cond) ∈ uT := mT2 (i := 167) rfl rfl
theorem u_se_X10_feed : (.selects RX10 yX10_feed yX10_feed : Cond) ∈ uT := mT2 (i := 176) rfl rfl
theorem u_se_X10_extend : (.selects RX10 yX10_extend yX10_extend : Cond) ∈ uT := mT3 (i := 14) rfl rfl
theorem u_se_X8_findFault : (.selects RX8 yX8_findFault yX8_findFault : Cond) ∈ uT := mT3 (i := 18) rfl rfl
theorem u_se_X8_carryOut : (.selects RX8 yX8_carryOut yX8_carryOut : Cond) ∈ uT := mT3 (i := 55) rfl rfl
theorem u_se_X9_addUnit : (.selects RX9 yX9_addUnit yX9_addUnit : Cond) ∈ uT := mT3 (i := 63) rfl rfl
theorem u_se_X9_setLength : (.selects RX9 yX9_setLength yX9_setLength : Cond) ∈ uT := mT3 (i := 67) rfl rfl
theorem u_se_X9_lengthBetween : (.selects RX9 yX9_lengthBetween yX9_lengthBetween : Cond) ∈ uT := mT3 (i := 71) rfl rfl
theorem u_se_X9_setOuter : (.selects RX9 yX9_setOuter yX9_setOuter : Cond) ∈ uT := mT3 (i := 75) rfl rfl
theorem u_se_X10_impossible : (.selects RX10 yX10_impossible yX10_impossible : Cond) ∈ uT := mT3 (i := 99) rfl rfl
theorem u_se_X10_unit : (.selects RX10 yX10_unit yX10_unit : Cond) ∈ uT := mT3 (i := 124) rfl rfl
theorem u_se_X9_isAtEdge : (.selects RX9 yX9_isAtEdge yX9_isAtEdge : Cond) ∈ uT := mT3 (i := 148) rfl rfl
theorem u_se_X10_border : (.selects RX10 yX10_border yX10_border : Cond) ∈ uT := mT3 (i := 171) rfl rfl
theorem u_se_X10_count : (.selects RX10 yX10_count yX10_count : Cond) ∈ uT := mT3 (i := 179) rfl rfl
theorem u_se_X9_countBorders : (.selects RX9 yX9_countBorders yX9_countBorders : Cond) ∈ uT := mT3 (i := 183) rfl rfl
theorem u_se_X9_allUnits : (.selects RX9 yX9_allUnits yX9_allUnits : Cond) ∈ uT := mT3 (i := 193) rfl rfl
theorem u_se_X9_populationOf : (.selects RX9 yX9_populationOf yX9_populationOf : Cond) ∈ uT := mT3 (i := 197) rfl rfl
theorem u_se_X9_areaOf : (.selects RX9 yX9_areaOf yX9_areaOf : Cond) ∈ uT := mT3 (i := 201) rfl rfl
theorem u_se_X9_countParts : (.selects RX9 yX9_countParts yX9_countParts : Cond) ∈ uT := mT3 (i := 205) rfl rfl
theorem u_se_X9_countCommunities : (.selects RX9 yX9_countCommunities yX9_countCommunities : Cond) ∈ uT := mT3 (i := 214) rfl rfl
theorem u_se_X9_membersOf : (.selects RX9 yX9_membersOf yX9_membersOf : Cond) ∈ uT := mT3 (i := 218) rfl rfl
theorem u_se_X10_setDistricts : (.selects RX10 yX10_setDistricts yX10_setDistricts : Cond) ∈ uT := mT3 (i := 226) rfl rfl
theorem u_se_X10_setTolerance : (.selects RX10 yX10_setTolerance yX10_setTolerance : Cond) ∈ uT := mT3 (i := 234) rfl rfl
theorem u_se_X10_readPlan : (.selects RX10 yX10_readPlan yX10_readPlan : Cond) ∈ uT := mT4 (i := 2) rfl rfl
theorem u_se_X4_give : (.selects RX4 yX4_give yX4_give : Cond) ∈ uT := mT4 (i := 16) rfl rfl
theorem u_se_X3_judgePlan : (.selects RX3 yX3_judgePlan yX3_judgePlan : Cond) ∈ uT := mT4 (i := 20) rfl rfl
theorem u_se_X9_isContiguous : (.selects RX9 yX9_isContiguous yX9_isContiguous : Cond) ∈ uT := mT4 (i := 28) rfl rfl
theorem u_se_X9_coresOf : (.selects RX9 yX9_coresOf yX9_coresOf : Cond) ∈ uT := mT4 (i := 32) rfl rfl
theorem u_se_X4_splits : (.selects RX4 yX4_splits yX4_splits : Cond) ∈ uT := mT4 (i := 36) rfl rfl
theorem u_se_X9_isBalanced : (.selects RX9 yX9_isBalanced yX9_isBalanced : Cond) ∈ uT := mT4 (i := 40) rfl rfl
theorem u_se_X9_imbalanceOf : (.selects RX9 yX9_imbalanceOf yX9_imbalanceOf : Cond) ∈ uT := mT4 (i := 44) rfl rfl
theorem u_se_X10_move : (.selects RX10 yX10_move yX10_move : Cond) ∈ uT := mT4 (i := 64) rfl rfl
theorem u_se_X3_judgeMove : (.selects RX3 yX3_judgeMove yX3_judgeMove : Cond) ∈ uT := mT4 (i := 83) rfl rfl
theorem u_se_X10_swap : (.selects RX10 yX10_swap yX10_swap : Cond) ∈ uT := mT4 (i := 94) rfl rfl
theorem u_se_X3_judgeSwap : (.selects RX3 yX3_judgeSwap yX3_judgeSwap : Cond) ∈ uT := mT4 (i := 99) rfl rfl
theorem u_se_X10_refuses : (.selects RX10 yX10_refuses yX10_refuses : Cond) ∈ uT := mT4 (i := 107) rfl rfl
theorem u_se_X10_refusal : (.selects RX10 yX10_refusal yX10_refusal : Cond) ∈ uT := mT4 (i := 114) rfl rfl
theorem u_se_X10_district : (.selects RX10 yX10_district yX10_district : Cond) ∈ uT := mT4 (i := 122) rfl rfl
theorem u_se_X9_perimeterOf : (.selects RX9 yX9_perimeterOf yX9_perimeterOf : Cond) ∈ uT := mT4 (i := 128) rfl rfl
theorem u_se_X9_districtsAround : (.selects RX9 yX9_districtsAround yX9_districtsAround : Cond) ∈ uT := mT4 (i := 136) rfl rfl
theorem u_se_X10_measure : (.selects RX10 yX10_measure yX10_measure : Cond) ∈ uT := mT4 (i := 143) rfl rfl
theorem u_se_X1_become : (.selects RX1 yX1_become yX1_become : Cond) ∈ uT := mT4 (i := 161) rfl rfl
theorem u_se_X10_meanCompactness : (.selects RX10 yX10_meanCompactness yX10_meanCompactness : Cond) ∈ uT := mT4 (i := 189) rfl rfl
theorem u_se_X10_improve : (.selects RX10 yX10_improve yX10_improve : Cond) ∈ uT := mT4 (i := 199) rfl rfl
theorem u_se_X7_begin : (.selects RX7 yX7_begin yX7_begin : Cond) ∈ uT := mT4 (i := 203) rfl rfl
theorem u_se_X7_tryMoves : (.selects RX7 yX7_tryMoves yX7_tryMoves : Cond) ∈ uT := mT4 (i := 208) rfl rfl
theorem u_se_X1_compareWith : (.selects RX1 yX1_compareWith yX1_compareWith : Cond) ∈ uT := mT4 (i := 220) rfl rfl
theorem u_se_X1_copyFrom : (.selects RX1 yX1_copyFrom yX1_copyFrom : Cond) ∈ uT := mT4 (i := 227) rfl rfl
theorem u_se_X7_trySwaps : (.selects RX7 yX7_trySwaps yX7_trySwaps : Cond) ∈ uT := mT4 (i := 232) rfl rfl
theorem u_se_X10_possible : (.selects RX10 yX10_possible yX10_possible : Cond) ∈ uT := mT5 (i := 0) rfl rfl
theorem u_se_X10_plans : (.selects RX10 yX10_plans yX10_plans : Cond) ∈ uT := mT5 (i := 7) rfl rfl
theorem u_se_X0_countPlans : (.selects RX0 yX0_countPlans yX0_countPlans : Cond) ∈ uT := mT5 (i := 16) rfl rfl
theorem u_se_X9_splitsCores : (.selects RX9 yX9_splitsCores yX9_splitsCores : Cond) ∈ uT := mT5 (i := 27) rfl rfl
theorem u_se_X10_counted : (.selects RX10 yX10_counted yX10_counted : Cond) ∈ uT := mT5 (i := 45) rfl rfl
theorem u_se_X0_countBySets : (.selects RX0 yX0_countBySets yX0_countBySets : Cond) ∈ uT := mT5 (i := 49) rfl rfl
theorem u_se_X10_planned : (.selects RX10 yX10_planned yX10_planned : Cond) ∈ uT := mT5 (i := 59) rfl rfl
theorem u_se_X0_copyPlan : (.selects RX0 yX0_copyPlan yX0_copyPlan : Cond) ∈ uT := mT5 (i := 68) rfl rfl
theorem u_se_X10_best : (.selects RX10 yX10_best yX10_best : Cond) ∈ uT := mT5 (i := 77) rfl rfl
theorem u_se_X0_findBest : (.selects RX0 yX0_findBest yX0_findBest : Cond) ∈ uT := mT5 (i := 82) rfl rfl
theorem u_se_X10_choose : (.selects RX10 yX10_choose yX10_choose : Cond) ∈ uT := mT5 (i := 93) rfl rfl
theorem u_se_X10_store : (.selects RX10 yX10_store yX10_store : Cond) ∈ uT := mT5 (i := 100) rfl rfl
theorem u_se_X5_takeFrom : (.selects RX5 yX5_takeFrom yX5_takeFrom : Cond) ∈ uT := mT5 (i := 108) rfl rfl
theorem u_se_X10_copyRow : (.selects RX10 yX10_copyRow yX10_copyRow : Cond) ∈ uT := mT5 (i := 117) rfl rfl
theorem u_se_X5_isMissing : (.selects RX5 yX5_isMissing yX5_isMissing : Cond) ∈ uT := mT5 (i := 121) rfl rfl
theorem u_se_X5_takeElements : (.selects RX5 yX5_takeElements yX5_takeElements : Cond) ∈ uT := mT5 (i := 128) rfl rfl
theorem u_se_X5_sum : (.selects RX5 yX5_sum yX5_sum : Cond) ∈ uT := mT5 (i := 133) rfl rfl
theorem u_se_X10_bits : (.selects RX10 yX10_bits yX10_bits : Cond) ∈ uT := mT5 (i := 140) rfl rfl
theorem u_se_X5_element : (.selects RX5 yX5_element yX5_element : Cond) ∈ uT := mT5 (i := 145) rfl rfl
theorem u_se_X10_undo : (.selects RX10 yX10_undo yX10_undo : Cond) ∈ uT := mT5 (i := 156) rfl rfl
theorem u_se_X2_giveBack : (.selects RX2 yX2_giveBack yX2_giveBack : Cond) ∈ uT := mT5 (i := 161) rfl rfl
theorem u_se_X10_restoreSnapshot : (.selects RX10 yX10_restoreSnapshot yX10_restoreSnapshot : Cond) ∈ uT := mT5 (i := 168) rfl rfl
theorem u_se_X2_forget : (.selects RX2 yX2_forget yX2_forget : Cond) ∈ uT := mT5 (i := 173) rfl rfl
theorem u_se_X10_letter : (.selects RX10 yX10_letter yX10_letter : Cond) ∈ uT := mT5 (i := 180) rfl rfl
theorem u_se_X11_thrown : (.selects RX11 yX11_thrown yX11_thrown : Cond) ∈ uT := mT6 (i := 29) rfl rfl
theorem u_se_X11_feed : (.selects RX11 yX11_feed yX11_feed : Cond) ∈ uT := mT6 (i := 33) rfl rfl
theorem u_se_X11_extend : (.selects RX11 yX11_extend yX11_extend : Cond) ∈ uT := mT6 (i := 45) rfl rfl
theorem u_se_X11_impossible : (.selects RX11 yX11_impossible yX11_impossible : Cond) ∈ uT := mT6 (i := 88) rfl rfl
theorem u_se_X11_clearMap : (.selects RX11 yX11_clearMap yX11_clearMap : Cond) ∈ uT := mT6 (i := 92) rfl rfl
theorem u_se_X11_unit : (.selects RX11 yX11_unit yX11_unit : Cond) ∈ uT := mT6 (i := 96) rfl rfl
theorem u_se_X11_border : (.selects RX11 yX11_border yX11_border : Cond) ∈ uT := mT6 (i := 112) rfl rfl
theorem u_se_X11_count : (.selects RX11 yX11_count yX11_count : Cond) ∈ uT := mT6 (i := 116) rfl rfl
theorem u_se_X11_setDistricts : (.selects RX11 yX11_setDistricts yX11_setDistricts : Cond) ∈ uT := mT6 (i := 136) rfl rfl
theorem u_se_X11_setTolerance : (.selects RX11 yX11_setTolerance yX11_setTolerance : Cond) ∈ uT := mT6 (i := 140) rfl rfl
theorem u_se_X11_readPlan : (.selects RX11 yX11_readPlan yX11_readPlan : Cond) ∈ uT := mT6 (i := 144) rfl rfl
theorem u_se_X11_move : (.selects RX11 yX11_move yX11_move : Cond) ∈ uT := mT6 (i := 172) rfl rfl
theorem u_se_X11_swap : (.selects RX11 yX11_swap yX11_swap : Cond) ∈ uT := mT6 (i := 192) rfl rfl
theorem u_se_X11_refuses : (.selects RX11 yX11_refuses yX11_refuses : Cond) ∈ uT := mT6 (i := 200) rfl rfl
theorem u_se_X11_refusal : (.selects RX11 yX11_refusal yX11_refusal : Cond) ∈ uT := mT6 (i := 204) rfl rfl
theorem u_se_X11_district : (.selects RX11 yX11_district yX11_district : Cond) ∈ uT := mT6 (i := 208) rfl rfl
theorem u_se_X11_measure : (.selects RX11 yX11_measure yX11_measure : Cond) ∈ uT := mT6 (i := 220) rfl rfl
theorem u_se_X11_meanCompactness : (.selects RX11 yX11_meanCompactness yX11_meanCompactness : Cond) ∈ uT := mT7 (i := 4) rfl rfl
theorem u_se_X11_improve : (.selects RX11 yX11_improve yX11_improve : Cond) ∈ uT := mT7 (i := 12) rfl rfl
theorem u_se_X11_possible : (.selects RX11 yX11_possible yX11_possible : Cond) ∈ uT := mT7 (i := 28) rfl rfl
theorem u_se_X11_plans : (.selects RX11 yX11_plans yX11_plans : Cond) ∈ uT := mT7 (i := 32) rfl rfl
theorem u_se_X11_counted : (.selects RX11 yX11_counted yX11_counted : Cond) ∈ uT := mT7 (i := 57) rfl rfl
theorem u_se_X11_planned : (.selects RX11 yX11_planned yX11_planned : Cond) ∈ uT := mT7 (i := 61) rfl rfl
theorem u_se_X11_best : (.selects RX11 yX11_best yX11_best : Cond) ∈ uT := mT7 (i := 66) rfl rfl
theorem u_se_X11_choose : (.selects RX11 yX11_choose yX11_choose : Cond) ∈ uT := mT7 (i := 70) rfl rfl
theorem u_se_X11_store : (.selects RX11 yX11_store yX11_store : Cond) ∈ uT := mT7 (i := 74) rfl rfl
theorem u_se_X11_copyRow : (.selects RX11 yX11_copyRow yX11_copyRow : Cond) ∈ uT := mT7 (i := 81) rfl rfl
theorem u_se_X11_bits : (.selects RX11 yX11_bits yX11_bits : Cond) ∈ uT := mT7 (i := 85) rfl rfl
theorem u_se_X11_undo : (.selects RX11 yX11_undo yX11_undo : Cond) ∈ uT := mT7 (i := 99) rfl rfl
theorem u_se_X11_saveSnapshot : (.selects RX11 yX11_saveSnapshot yX11_saveSnapshot : Cond) ∈ uT := mT7 (i := 103) rfl rfl
theorem u_se_X11_restoreSnapshot : (.selects RX11 yX11_restoreSnapshot yX11_restoreSnapshot : Cond) ∈ uT := mT7 (i := 107) rfl rfl
theorem u_se_X11_letter : (.selects RX11 yX11_letter yX11_letter : Cond) ∈ uT := mT7 (i := 111) rfl rfl
theorem u_se_X10_forgetPlans : (.selects RX10 yX10_forgetPlans yX10_forgetPlans : Cond) ∈ uT := mSel (q := (yX10_forgetPlans, 17)) (List.mem_of_getElem? (i := 0) rfl) rfl
theorem u_se_X8_begin : (.selects RX8 yX8_begin yX8_begin : Cond) ∈ uT := mSel (q := (yX8_begin, 9)) (List.mem_of_getElem? (i := 2) rfl) rfl
theorem u_se_X8_readStatement : (.selects RX8 yX8_readStatement yX8_readStatement : Cond) ∈ uT := mSel (q := (yX8_readStatement, 9)) (List.mem_of_getElem? (i := 3) rfl) rfl
theorem u_se_X8_take : (.selects RX8 yX8_take yX8_take : Cond) ∈ uT := mSel (q := (yX8_take, 9)) (List.mem_of_getElem? (i := 4) rfl) rfl
theorem u_se_X8_readUnit : (.selects RX8 yX8_readUnit yX8_readUnit : Cond) ∈ uT := mSel (q := (yX8_readUnit, 9)) (List.mem_of_getElem? (i := 5) rfl) rfl
theorem u_se_X8_readNumber : (.selects RX8 yX8_readNumber yX8_readNumber : Cond) ∈ uT := mSel (q := (yX8_readNumber, 9)) (List.mem_of_getElem? (i := 6) rfl) rfl
theorem u_se_X8_readDigit : (.selects RX8 yX8_readDigit yX8_readDigit : Cond) ∈ uT := mSel (q := (yX8_readDigit, 9)) (List.mem_of_getElem? (i := 7) rfl) rfl
theorem u_se_X8_readBorder : (.selects RX8 yX8_readBorder yX8_readBorder : Cond) ∈ uT := mSel (q := (yX8_readBorder, 9)) (List.mem_of_getElem? (i := 8) rfl) rfl
theorem u_se_X8_readOuter : (.selects RX8 yX8_readOuter yX8_readOuter : Cond) ∈ uT := mSel (q := (yX8_readOuter, 9)) (List.mem_of_getElem? (i := 9) rfl) rfl
theorem u_se_X8_carryOutStatement : (.selects RX8 yX8_carryOutStatement yX8_carryOutStatement : Cond) ∈ uT := mSel (q := (yX8_carryOutStatement, 9)) (List.mem_of_getElem? (i := 10) rfl) rfl
theorem u_se_X10_checkUnit : (.selects RX10 yX10_checkUnit yX10_checkUnit : Cond) ∈ uT := mSel (q := (yX10_checkUnit, 17)) (List.mem_of_getElem? (i := 11) rfl) rfl
theorem u_se_X9_reach : (.selects RX9 yX9_reach yX9_reach : Cond) ∈ uT := mSel (q := (yX9_reach, 12)) (List.mem_of_getElem? (i := 12) rfl) rfl
theorem u_se_X10_findPlanFault : (.selects RX10 yX10_findPlanFault yX10_findPlanFault : Cond) ∈ uT := mSel (q := (yX10_findPlanFault, 17)) (List.mem_of_getElem? (i := 13) rfl) rfl
theorem u_se_X10_districtOf : (.selects RX10 yX10_districtOf yX10_districtOf : Cond) ∈ uT := mSel (q := (yX10_districtOf, 17)) (List.mem_of_getElem? (i := 14) rfl) rfl
theorem u_se_X3_tell : (.selects RX3 yX3_tell yX3_tell : Cond) ∈ uT := mSel (q := (yX3_tell, 2)) (List.mem_of_getElem? (i := 15) rfl) rfl
theorem u_se_X10_keepRefusal : (.selects RX10 yX10_keepRefusal yX10_keepRefusal : Cond) ∈ uT := mSel (q := (yX10_keepRefusal, 17)) (List.mem_of_getElem? (i := 16) rfl) rfl
theorem u_se_X10_becomePresent : (.selects RX10 yX10_becomePresent yX10_becomePresent : Cond) ∈ uT := mSel (q := (yX10_becomePresent, 17)) (List.mem_of_getElem? (i := 17) rfl) rfl
theorem u_se_X10_checkMove : (.selects RX10 yX10_checkMove yX10_checkMove : Cond) ∈ uT := mSel (q := (yX10_checkMove, 17)) (List.mem_of_getElem? (i := 18) rfl) rfl
theorem u_se_X10_checkDistrict : (.selects RX10 yX10_checkDistrict yX10_checkDistrict : Cond) ∈ uT := mSel (q := (yX10_checkDistrict, 17)) (List.mem_of_getElem? (i := 19) rfl) rfl
theorem u_se_X10_checkPlan : (.selects RX10 yX10_checkPlan yX10_checkPlan : Cond) ∈ uT := mSel (q := (yX10_checkPlan, 17)) (List.mem_of_getElem? (i := 20) rfl) rfl
theorem u_se_X9_lengthToOutside : (.selects RX9 yX9_lengthToOutside yX9_lengthToOutside : Cond) ∈ uT := mSel (q := (yX9_lengthToOutside, 12)) (List.mem_of_getElem? (i := 21) rfl) rfl
theorem u_se_X10_checkMeasure : (.selects RX10 yX10_checkMeasure yX10_checkMeasure : Cond) ∈ uT := mSel (q := (yX10_checkMeasure, 17)) (List.mem_of_getElem? (i := 22) rfl) rfl
theorem u_se_X7_consider : (.selects RX7 yX7_consider yX7_consider : Cond) ∈ uT := mSel (q := (yX7_consider, 6)) (List.mem_of_getElem? (i := 23) rfl) rfl
theorem u_se_X10_checkListed : (.selects RX10 yX10_checkListed yX10_checkListed : Cond) ∈ uT := mSel (q := (yX10_checkListed, 17)) (List.mem_of_getElem? (i := 24) rfl) rfl
theorem u_se_X0_findSets : (.selects RX0 yX0_findSets yX0_findSets : Cond) ∈ uT := mSel (q := (yX0_findSets, 9)) (List.mem_of_getElem? (i := 25) rfl) rfl
theorem u_se_X0_keepIfLawful : (.selects RX0 yX0_keepIfLawful yX0_keepIfLawful : Cond) ∈ uT := mSel (q := (yX0_keepIfLawful, 9)) (List.mem_of_getElem? (i := 26) rfl) rfl
theorem u_se_X10_checkListedPlan : (.selects RX10 yX10_checkListedPlan yX10_checkListedPlan : Cond) ∈ uT := mSel (q := (yX10_checkListedPlan, 17)) (List.mem_of_getElem? (i := 27) rfl) rfl
theorem u_se_X11_fails : (.selects RX11 yX11_fails yX11_fails : Cond) ∈ uT := mSel (q := (yX11_fails, 26)) (List.mem_of_getElem? (i := 28) rfl) rfl
theorem u_se_X11_done : (.selects RX11 yX11_done yX11_done : Cond) ∈ uT := mSel (q := (yX11_done, 26)) (List.mem_of_getElem? (i := 29) rfl) rfl
theorem u_se_X11_readsStatement : (.selects RX11 yX11_readsStatement yX11_readsStatement : Cond) ∈ uT := mSel (q := (yX11_readsStatement, 26)) (List.mem_of_getElem? (i := 30) rfl) rfl
theorem u_se_X11_here : (.selects RX11 yX11_here yX11_here : Cond) ∈ uT := mSel (q := (yX11_here, 26)) (List.mem_of_getElem? (i := 31) rfl) rfl
theorem u_se_X11_readsNumber : (.selects RX11 yX11_readsNumber yX11_readsNumber : Cond) ∈ uT := mSel (q := (yX11_readsNumber, 26)) (List.mem_of_getElem? (i := 32) rfl) rfl
theorem u_se_X11_eats : (.selects RX11 yX11_eats yX11_eats : Cond) ∈ uT := mSel (q := (yX11_eats, 26)) (List.mem_of_getElem? (i := 33) rfl) rfl
theorem u_se_X11_remembers : (.selects RX11 yX11_remembers yX11_remembers : Cond) ∈ uT := mSel (q := (yX11_remembers, 26)) (List.mem_of_getElem? (i := 34) rfl) rfl
theorem u_se_X11_does : (.selects RX11 yX11_does yX11_does : Cond) ∈ uT := mSel (q := (yX11_does, 26)) (List.mem_of_getElem? (i := 35) rfl) rfl
theorem u_se_X11_isUnit : (.selects RX11 yX11_isUnit yX11_isUnit : Cond) ∈ uT := mSel (q := (yX11_isUnit, 26)) (List.mem_of_getElem? (i := 36) rfl) rfl
theorem u_se_X11_borderOf : (.selects RX11 yX11_borderOf yX11_borderOf : Cond) ∈ uT := mSel (q := (yX11_borderOf, 26)) (List.mem_of_getElem? (i := 37) rfl) rfl
theorem u_se_X11_changes : (.selects RX11 yX11_changes yX11_changes : Cond) ∈ uT := mSel (q := (yX11_changes, 26)) (List.mem_of_getElem? (i := 38) rfl) rfl
theorem u_se_X11_of : (.selects RX11 yX11_of yX11_of : Cond) ∈ uT := mSel (q := (yX11_of, 26)) (List.mem_of_getElem? (i := 39) rfl) rfl
theorem u_se_X11_neighbors : (.selects RX11 yX11_neighbors yX11_neighbors : Cond) ∈ uT := mSel (q := (yX11_neighbors, 26)) (List.mem_of_getElem? (i := 40) rfl) rfl
theorem u_se_X11_districtOf : (.selects RX11 yX11_districtOf yX11_districtOf : Cond) ∈ uT := mSel (q := (yX11_districtOf, 26)) (List.mem_of_getElem? (i := 41) rfl) rfl
theorem u_se_X11_all : (.selects RX11 yX11_all yX11_all : Cond) ∈ uT := mSel (q := (yX11_all, 26)) (List.mem_of_getElem? (i := 42) rfl) rfl
theorem u_se_X11_sum : (.selects RX11 yX11_sum yX11_sum : Cond) ∈ uT := mSel (q := (yX11_sum, 26)) (List.mem_of_getElem? (i := 43) rfl) rfl
theorem u_se_X11_reached : (.selects RX11 yX11_reached yX11_reached : Cond) ∈ uT := mSel (q := (yX11_reached, 26)) (List.mem_of_getElem? (i := 44) rfl) rfl
theorem u_se_X11_communities : (.selects RX11 yX11_communities yX11_communities : Cond) ∈ uT := mSel (q := (yX11_communities, 26)) (List.mem_of_getElem? (i := 45) rfl) rfl
theorem u_se_X11_isDistrict : (.selects RX11 yX11_isDistrict yX11_isDistrict : Cond) ∈ uT := mSel (q := (yX11_isDistrict, 26)) (List.mem_of_getElem? (i := 46) rfl) rfl
theorem u_se_X11_reason : (.selects RX11 yX11_reason yX11_reason : Cond) ∈ uT := mSel (q := (yX11_reason, 26)) (List.mem_of_getElem? (i := 47) rfl) rfl
theorem u_se_X11_set : (.selects RX11 yX11_set yX11_set : Cond) ∈ uT := mSel (q := (yX11_set, 26)) (List.mem_of_getElem? (i := 48) rfl) rfl
theorem u_se_X11_off : (.selects RX11 yX11_off yX11_off : Cond) ∈ uT := mSel (q := (yX11_off, 26)) (List.mem_of_getElem? (i := 49) rfl) rfl
theorem u_se_X11_keepsReason : (.selects RX11 yX11_keepsReason yX11_keepsReason : Cond) ∈ uT := mSel (q := (yX11_keepsReason, 26)) (List.mem_of_getElem? (i := 50) rfl) rfl
theorem u_se_X11_keeps : (.selects RX11 yX11_keeps yX11_keeps : Cond) ∈ uT := mSel (q := (yX11_keeps, 26)) (List.mem_of_getElem? (i := 51) rfl) rfl
theorem u_se_X11_lacksMove : (.selects RX11 yX11_lacksMove yX11_lacksMove : Cond) ∈ uT := mSel (q := (yX11_lacksMove, 26)) (List.mem_of_getElem? (i := 52) rfl) rfl
theorem u_se_X11_tells : (.selects RX11 yX11_tells yX11_tells : Cond) ∈ uT := mSel (q := (yX11_tells, 26)) (List.mem_of_getElem? (i := 53) rfl) rfl
theorem u_se_X11_moves : (.selects RX11 yX11_moves yX11_moves : Cond) ∈ uT := mSel (q := (yX11_moves, 26)) (List.mem_of_getElem? (i := 54) rfl) rfl
theorem u_se_X11_hasNeighbor : (.selects RX11 yX11_hasNeighbor yX11_hasNeighbor : Cond) ∈ uT := mSel (q := (yX11_hasNeighbor, 26)) (List.mem_of_getElem? (i := 55) rfl) rfl
theorem u_se_X11_swaps : (.selects RX11 yX11_swaps yX11_swaps : Cond) ∈ uT := mSel (q := (yX11_swaps, 26)) (List.mem_of_getElem? (i := 56) rfl) rfl
theorem u_se_X11_perimeter : (.selects RX11 yX11_perimeter yX11_perimeter : Cond) ∈ uT := mSel (q := (yX11_perimeter, 26)) (List.mem_of_getElem? (i := 57) rfl) rfl
theorem u_se_X11_others : (.selects RX11 yX11_others yX11_others : Cond) ∈ uT := mSel (q := (yX11_others, 26)) (List.mem_of_getElem? (i := 58) rfl) rfl
theorem u_se_X11_tellMeasure : (.selects RX11 yX11_tellMeasure yX11_tellMeasure : Cond) ∈ uT := mSel (q := (yX11_tellMeasure, 26)) (List.mem_of_getElem? (i := 59) rfl) rfl
theorem u_se_X11_tellCompactness : (.selects RX11 yX11_tellCompactness yX11_tellCompactness : Cond) ∈ uT := mSel (q := (yX11_tellCompactness, 26)) (List.mem_of_getElem? (i := 60) rfl) rfl
theorem u_se_X11_cutLengths : (.selects RX11 yX11_cutLengths yX11_cutLengths : Cond) ∈ uT := mSel (q := (yX11_cutLengths, 26)) (List.mem_of_getElem? (i := 61) rfl) rfl
theorem u_se_X11_torn : (.selects RX11 yX11_torn yX11_torn : Cond) ∈ uT := mSel (q := (yX11_torn, 26)) (List.mem_of_getElem? (i := 62) rfl) rfl
theorem u_se_X11_compactness : (.selects RX11 yX11_compactness yX11_compactness : Cond) ∈ uT := mSel (q := (yX11_compactness, 26)) (List.mem_of_getElem? (i := 63) rfl) rfl
theorem u_se_X11_steps : (.selects RX11 yX11_steps yX11_steps : Cond) ∈ uT := mSel (q := (yX11_steps, 26)) (List.mem_of_getElem? (i := 64) rfl) rfl
theorem u_se_X11_isBest : (.selects RX11 yX11_isBest yX11_isBest : Cond) ∈ uT := mSel (q := (yX11_isBest, 26)) (List.mem_of_getElem? (i := 65) rfl) rfl
theorem u_se_X11_isBetter : (.selects RX11 yX11_isBetter yX11_isBetter : Cond) ∈ uT := mSel (q := (yX11_isBetter, 26)) (List.mem_of_getElem? (i := 66) rfl) rfl
theorem u_se_X11_isSmall : (.selects RX11 yX11_isSmall yX11_isSmall : Cond) ∈ uT := mSel (q := (yX11_isSmall, 26)) (List.mem_of_getElem? (i := 67) rfl) rfl
theorem u_se_X11_allPlans : (.selects RX11 yX11_allPlans yX11_allPlans : Cond) ∈ uT := mSel (q := (yX11_allPlans, 26)) (List.mem_of_getElem? (i := 68) rfl) rfl
theorem u_se_X11_plansUpTo : (.selects RX11 yX11_plansUpTo yX11_plansUpTo : Cond) ∈ uT := mSel (q := (yX11_plansUpTo, 26)) (List.mem_of_getElem? (i := 69) rfl) rfl
theorem u_se_X11_begins : (.selects RX11 yX11_begins yX11_begins : Cond) ∈ uT := mSel (q := (yX11_begins, 26)) (List.mem_of_getElem? (i := 70) rfl) rfl
theorem u_se_X11_goesOn : (.selects RX11 yX11_goesOn yX11_goesOn : Cond) ∈ uT := mSel (q := (yX11_goesOn, 26)) (List.mem_of_getElem? (i := 71) rfl) rfl
theorem u_in_L : (.initialized RL : Cond) ∈ uT := mT1 (i := 0) rfl rfl
theorem u_in_X10 : (.initialized RX10 : Cond) ∈ uT := mT1 (i := 1) rfl rfl
theorem u_in_X9 : (.initialized RX9 : Cond) ∈ uT := mT1 (i := 2) rfl rfl
theorem u_in_X4 : (.initialized RX4 : Cond) ∈ uT := mT1 (i := 3) rfl rfl
theorem u_in_X8 : (.initialized RX8 : Cond) ∈ uT := mT1 (i := 4) rfl rfl
theorem u_in_X3 : (.initialized RX3 : Cond) ∈ uT := mT1 (i := 5) rfl rfl
theorem u_in_X7 : (.initialized RX7 : Cond) ∈ uT := mT1 (i := 6) rfl rfl
theorem u_in_X1 : (.initialized RX1 : Cond) ∈ uT := mT1 (i := 7) rfl rfl
theorem u_in_X0 : (.initialized RX0 : Cond) ∈ uT := mT1 (i := 8) rfl rfl
theorem u_in_X2 : (.initialized RX2 : Cond) ∈ uT := mT1 (i := 9) rfl rfl
theorem u_in_X5 : (.initialized RX5 : Cond) ∈ uT := mT1 (i := 10) rfl rfl
theorem u_in_X11 : (.initialized RX11 : Cond) ∈ uT := mT1 (i := 11) rfl rfl
theorem u_in_java_lang_Throwable : (.initialized "java/lang/Throwable" : Cond) ∈ uT := mT1 (i := 12) rfl rfl
theorem u_in_java_lang_Exception : (.initialized "java/lang/Exception" : Cond) ∈ uT := mT1 (i := 13) rfl rfl
theorem u_in_java_lang_RuntimeException : (.initialized "java/lang/RuntimeException" : Cond) ∈ uT := mT1 (i := 14) rfl rfl
theorem u_in_java_lang_IllegalStateException : (.initialized "java/lang/IllegalStateException" : Cond) ∈ uT := mT1 (i := 15) rfl rfl
theorem u_in_J9 : (.initialized RJ9 : Cond) ∈ uT := mT1 (i := 16) rfl rfl
theorem u_in_J10 : (.initialized RJ10 : Cond) ∈ uT := mT1 (i := 17) rfl rfl
theorem u_in_java_lang_UnsupportedOperationException : (.initialized "java/lang/UnsupportedOperationException" : Cond) ∈ uT := mT1 (i := 18) rfl rfl
theorem u_in_J7 : (.initialized RJ7 : Cond) ∈ uT := mT1 (i := 19) rfl rfl
theorem u_in_java_util_NoSuchElementException : (.initialized "java/util/NoSuchElementException" : Cond) ∈ uT := mT1 (i := 20) rfl rfl
theorem u_in_java_lang_IndexOutOfBoundsException : (.initialized "java/lang/IndexOutOfBoundsException" : Cond) ∈ uT := mT1 (i := 21) rfl rfl
theorem u_in_java_lang_IllegalArgumentException : (.initialized "java/lang/IllegalArgumentException" : Cond) ∈ uT := mT1 (i := 22) rfl rfl
theorem u_in_Jxd2413 : (.initialized RJxd2413 : Cond) ∈ uT := mT1 (i := 23) rfl rfl
theorem u_in_J6 : (.initialized RJ6 : Cond) ∈ uT := mT1 (i := 24) rfl rfl
theorem u_in_X6 : (.initialized RX6 : Cond) ∈ uT := mT1 (i := 25) rfl rfl
theorem u_in_J13 : (.initialized RJ13 : Cond) ∈ uT := mT1 (i := 26) rfl rfl
theorem u_in_Jxf58ca : (.initialized RJxf58ca : Cond) ∈ uT := mT1 (i := 27) rfl rfl
theorem u_is_X10 : (.instantiable RX10 17 : Cond) ∈ uT := mT1 (i := 29) rfl rfl
theorem u_is_X9 : (.instantiable RX9 12 : Cond) ∈ uT := mT1 (i := 37) rfl rfl
theorem u_is_X4 : (.instantiable RX4 2 : Cond) ∈ uT := mT1 (i := 43) rfl rfl
theorem u_is_X8 : (.instantiable RX8 9 : Cond) ∈ uT := mT1 (i := 130) rfl rfl
theorem u_is_X3 : (.instantiable RX3 2 : Cond) ∈ uT := mT1 (i := 164) rfl rfl
theorem u_is_X7 : (.instantiable RX7 6 : Cond) ∈ uT := mT1 (i := 179) rfl rfl
theorem u_is_X1 : (.instantiable RX1 2 : Cond) ∈ uT := mT1 (i := 187) rfl rfl
theorem u_is_X0 : (.instantiable RX0 9 : Cond) ∈ uT := mT1 (i := 223) rfl rfl
theorem u_is_X2 : (.instantiable RX2 3 : Cond) ∈ uT := mT2 (i := 22) rfl rfl
theorem u_is_X5 : (.instantiable RX5 4 : Cond) ∈ uT := mT2 (i := 45) rfl rfl
theorem u_is_X11 : (.instantiable RX11 26 : Cond) ∈ uT := mT5 (i := 183) rfl rfl
theorem u_ac_char : (.arrayClass .char : Cond) ∈ uT := mT1 (i := 65) rfl rfl
theorem u_ac_int : (.arrayClass .int : Cond) ∈ uT := mT1 (i := 66) rfl rfl
theorem u_ac_boolean : (.arrayClass .boolean : Cond) ∈ uT := mT2 (i := 20) rfl rfl
theorem u_ac_float : (.arrayClass .float : Cond) ∈ uT := mT2 (i := 65) rfl rfl
theorem u_ac_byte : (.arrayClass .byte : Cond) ∈ uT := mT3 (i := 7) rfl rfl
theorem u_ac_long : (.arrayClass .long : Cond) ∈ uT := mT7 (i := 113) rfl rfl
theorem u_ac_double : (.arrayClass .double : Cond) ∈ uT := mT7 (i := 114) rfl rfl
theorem u_na_System_arraycopy : (.native arraycopyName : Cond) ∈ uT := mT2 (i := 132) rfl rfl
theorem u_na_Throwable_fillInStackTrace : (.native ⟨"java/lang/Throwable", "fillInStackTrace", "(I)Ljava/lang/Throwable;"⟩ : Cond) ∈ uT := mT2 (i := 220) rfl rfl
theorem u_na_Float_floatToRawIntBits : (.native ⟨"java/lang/Float", "floatToRawIntBits", "(F)I"⟩ : Cond) ∈ uT := mT7 (i := 95) rfl rfl
theorem u_co_X10_init : (.code yX10_init cX10_init 2 none : Cond) ∈ uT := mT1 (i := 32) rfl rfl
theorem u_co_X9_init : (.code yX9_init cX9_init 1 none : Cond) ∈ uT := mT1 (i := 40) rfl rfl
theorem u_co_X4_init : (.code yX4_init cX4_init 1 none : Cond) ∈ uT := mT1 (i := 46) rfl rfl
theorem u_co_X8_init : (.code yX8_init cX8_init 1 none : Cond) ∈ uT := mT1 (i := 133) rfl rfl
theorem u_co_X3_init : (.code yX3_init cX3_init 1 none : Cond) ∈ uT := mT1 (i := 167) rfl rfl
theorem u_co_X7_init : (.code yX7_init cX7_init 1 none : Cond) ∈ uT := mT1 (i := 182) rfl rfl
theorem u_co_X1_init : (.code yX1_init cX1_init 1 none : Cond) ∈ uT := mT1 (i := 190) rfl rfl
theorem u_co_X0_init : (.code yX0_init cX0_init 1 none : Cond) ∈ uT := mT1 (i := 226) rfl rfl
theorem u_co_X2_init : (.code yX2_init cX2_init 2 none : Cond) ∈ uT := mT2 (i := 25) rfl rfl
theorem u_co_X5_init : (.code yX5_init cX5_init 1 none : Cond) ∈ uT := mT2 (i := 48) rfl rfl
theorem u_co_X10_clearMap : (.code yX10_clearMap cX10_clearMap 2 (some .int) : Cond) ∈ uT := mT2 (i := 121) rfl rfl
theorem u_co_X2_remember : (.code yX2_remember cX2_remember 2 none : Cond) ∈ uT := mT2 (i := 125) rfl rfl
theorem u_co_X9_copyFrom : (.code yX9_copyFrom cX9_copyFrom 2 none : Cond) ∈ uT := mT2 (i := 129) rfl rfl
theorem u_co_X4_copyFrom : (.code yX4_copyFrom cX4_copyFrom 2 none : Cond) ∈ uT := mT2 (i := 136) rfl rfl
theorem u_co_J9_min_7cf53 : (.code yJ9_min_7cf53 cJ9_min_7cf53 2 (some .int) : Cond) ∈ uT := mT2 (i := 140) rfl rfl
theorem u_co_X9_removeUnits : (.code yX9_removeUnits cX9_removeUnits 1 none : Cond) ∈ uT := mT2 (i := 144) rfl rfl
theorem u_co_J7_fill_53178 : (.code yJ7_fill_53178 cJ7_fill_53178 4 none : Cond) ∈ uT := mT2 (i := 147) rfl rfl
theorem u_co_X10_forgetPlans : (.code yX10_forgetPlans cX10_forgetPlans 1 none : Cond) ∈ uT := mT2 (i := 151) rfl rfl
theorem u_co_X9_dropPlan : (.code yX9_dropPlan cX9_dropPlan 1 none : Cond) ∈ uT := mT2 (i := 155) rfl rfl
theorem u_co_X4_clear : (.code yX4_clear cX4_clear 1 none : Cond) ∈ uT := mT2 (i := 159) rfl rfl
theorem u_co_X0_forget : (.code yX0_forget cX0_forget 1 none : Cond) ∈ uT := mT2 (i := 164) rfl rfl
theorem u_co_X10_saveSnapshot : (.code yX10_saveSnapshot cX10_saveSnapshot 1 (some .int) : Cond) ∈ uT := mT2 (i := 168) rfl rfl
theorem u_co_X10_feed : (.code yX10_feed cX10_feed 2 (some .int) : Cond) ∈ uT := mT2 (i := 177) rfl rfl
theorem u_co_X10_extend : (.code yX10_extend cX10_extend 4 (some .int) : Cond) ∈ uT := mT3 (i := 15) rfl rfl
theorem u_co_X8_findFault : (.code yX8_findFault cX8_findFault 4 (some .int) : Cond) ∈ uT := mT3 (i := 19) rfl rfl
theorem u_co_X8_begin : (.code yX8_begin cX8_begin 3 none : Cond) ∈ uT := mT3 (i := 23) rfl rfl
theorem u_co_X8_readStatement : (.code yX8_readStatement cX8_readStatement 1 (some .boolean) : Cond) ∈ uT := mT3 (i := 28) rfl rfl
theorem u_co_X8_take : (.code yX8_take cX8_take 2 (some .boolean) : Cond) ∈ uT := mT3 (i := 32) rfl rfl
theorem u_co_X8_readUnit : (.code yX8_readUnit cX8_readUnit 1 (some .boolean) : Cond) ∈ uT := mT3 (i := 36) rfl rfl
theorem u_co_X8_readNumber : (.code yX8_readNumber cX8_readNumber 2 (some .boolean) : Cond) ∈ uT := mT3 (i := 40) rfl rfl
theorem u_co_X8_readDigit : (.code yX8_readDigit cX8_readDigit 1 (some .boolean) : Cond) ∈ uT := mT3 (i := 44) rfl rfl
theorem u_co_X8_readBorder : (.code yX8_readBorder cX8_readBorder 1 (some .boolean) : Cond) ∈ uT := mT3 (i := 48) rfl rfl
theorem u_co_X8_readOuter : (.code yX8_readOuter cX8_readOuter 1 (some .boolean) : Cond) ∈ uT := mT3 (i := 52) rfl rfl
theorem u_co_X8_carryOut : (.code yX8_carryOut cX8_carryOut 5 (some .int) : Cond) ∈ uT := mT3 (i := 56) rfl rfl
theorem u_co_X8_carryOutStatement : (.code yX8_carryOutStatement cX8_carryOutStatement 2 (some .boolean) : Cond) ∈ uT := mT3 (i := 60) rfl rfl
theorem u_co_X9_addUnit : (.code yX9_addUnit cX9_addUnit 5 (some .boolean) : Cond) ∈ uT := mT3 (i := 64) rfl rfl
theorem u_co_X9_setLength : (.code yX9_setLength cX9_setLength 4 (some .boolean) : Cond) ∈ uT := mT3 (i := 68) rfl rfl
theorem u_co_X9_lengthBetween : (.code yX9_lengthBetween cX9_lengthBetween 3 (some .int) : Cond) ∈ uT := mT3 (i := 72) rfl rfl
theorem u_co_X9_setOuter : (.code yX9_setOuter cX9_setOuter 3 (some .boolean) : Cond) ∈ uT := mT3 (i := 76) rfl rfl
theorem u_co_X10_impossible : (.code yX10_impossible cX10_impossible 1 (some .int) : Cond) ∈ uT := mT3 (i := 100) rfl rfl
theorem u_co_X10_unit : (.code yX10_unit cX10_unit 3 (some .int) : Cond) ∈ uT := mT3 (i := 125) rfl rfl
theorem u_co_X10_checkUnit : (.code yX10_checkUnit cX10_checkUnit 2 none : Cond) ∈ uT := mT3 (i := 129) rfl rfl
theorem u_co_X9_isAtEdge : (.code yX9_isAtEdge cX9_isAtEdge 2 (some .boolean) : Cond) ∈ uT := mT3 (i := 149) rfl rfl
theorem u_co_X10_border : (.code yX10_border cX10_border 3 (some .int) : Cond) ∈ uT := mT3 (i := 172) rfl rfl
theorem u_co_X10_count : (.code yX10_count cX10_count 2 (some .int) : Cond) ∈ uT := mT3 (i := 180) rfl rfl
theorem u_co_X9_countBorders : (.code yX9_countBorders cX9_countBorders 3 (some .int) : Cond) ∈ uT := mT3 (i := 184) rfl rfl
theorem u_co_J6_bitCount_0f7a4 : (.code yJ6_bitCount_0f7a4 cJ6_bitCount_0f7a4 1 (some .int) : Cond) ∈ uT := mT3 (i := 187) rfl rfl
theorem u_co_X9_allUnits : (.code yX9_allUnits cX9_allUnits 1 (some .int) : Cond) ∈ uT := mT3 (i := 194) rfl rfl
theorem u_co_X9_populationOf : (.code yX9_populationOf cX9_populationOf 4 (some .int) : Cond) ∈ uT := mT3 (i := 198) rfl rfl
theorem u_co_X9_areaOf : (.code yX9_areaOf cX9_areaOf 4 (some .int) : Cond) ∈ uT := mT3 (i := 202) rfl rfl
theorem u_co_X9_countParts : (.code yX9_countParts cX9_countParts 3 (some .int) : Cond) ∈ uT := mT3 (i := 206) rfl rfl
theorem u_co_X9_reach : (.code yX9_reach cX9_reach 6 (some .int) : Cond) ∈ uT := mT3 (i := 211) rfl rfl
theorem u_co_X9_countCommunities : (.code yX9_countCommunities cX9_countCommunities 4 (some .int) : Cond) ∈ uT := mT3 (i := 215) rfl rfl
theorem u_co_X9_membersOf : (.code yX9_membersOf cX9_membersOf 4 (some .int) : Cond) ∈ uT := mT3 (i := 219) rfl rfl
theorem u_co_X10_setDistricts : (.code yX10_setDistricts cX10_setDistricts 3 (some .int) : Cond) ∈ uT := mT3 (i := 227) rfl rfl
theorem u_co_X10_setTolerance : (.code yX10_setTolerance cX10_setTolerance 3 (some .int) : Cond) ∈ uT := mT3 (i := 235) rfl rfl
theorem u_co_X10_readPlan : (.code yX10_readPlan cX10_readPlan 4 (some .int) : Cond) ∈ uT := mT4 (i := 3) rfl rfl
theorem u_co_X10_findPlanFault : (.code yX10_findPlanFault cX10_findPlanFault 3 (some .int) : Cond) ∈ uT := mT4 (i := 8) rfl rfl
theorem u_co_X10_districtOf : (.code yX10_districtOf cX10_districtOf 4 (some .int) : Cond) ∈ uT := mT4 (i := 12) rfl rfl
theorem u_co_X4_give : (.code yX4_give cX4_give 3 none : Cond) ∈ uT := mT4 (i := 17) rfl rfl
theorem u_co_X3_judgePlan : (.code yX3_judgePlan cX3_judgePlan 4 (some .int) : Cond) ∈ uT := mT4 (i := 21) rfl rfl
theorem u_co_X3_tell : (.code yX3_tell cX3_tell 3 (some .int) : Cond) ∈ uT := mT4 (i := 25) rfl rfl
theorem u_co_X9_isContiguous : (.code yX9_isContiguous cX9_isContiguous 2 (some .boolean) : Cond) ∈ uT := mT4 (i := 29) rfl rfl
theorem u_co_X9_coresOf : (.code yX9_coresOf cX9_coresOf 2 (some .int) : Cond) ∈ uT := mT4 (i := 33) rfl rfl
theorem u_co_X4_splits : (.code yX4_splits cX4_splits 4 (some .boolean) : Cond) ∈ uT := mT4 (i := 37) rfl rfl
theorem u_co_X9_isBalanced : (.code yX9_isBalanced cX9_isBalanced 2 (some .boolean) : Cond) ∈ uT := mT4 (i := 41) rfl rfl
theorem u_co_X9_imbalanceOf : (.code yX9_imbalanceOf cX9_imbalanceOf 2 (some .int) : Cond) ∈ uT := mT4 (i := 45) rfl rfl
theorem u_co_J9_abs_0f7a4 : (.code yJ9_abs_0f7a4 cJ9_abs_0f7a4 1 (some .int) : Cond) ∈ uT := mT4 (i := 49) rfl rfl
theorem u_co_X10_keepRefusal : (.code yX10_keepRefusal cX10_keepRefusal 1 none : Cond) ∈ uT := mT4 (i := 53) rfl rfl
theorem u_co_X10_becomePresent : (.code yX10_becomePresent cX10_becomePresent 2 none : Cond) ∈ uT := mT4 (i := 57) rfl rfl
theorem u_co_X10_move : (.code yX10_move cX10_move 4 (some .int) : Cond) ∈ uT := mT4 (i := 65) rfl rfl
theorem u_co_X10_checkMove : (.code yX10_checkMove cX10_checkMove 3 none : Cond) ∈ uT := mT4 (i := 69) rfl rfl
theorem u_co_X10_checkDistrict : (.code yX10_checkDistrict cX10_checkDistrict 2 none : Cond) ∈ uT := mT4 (i := 73) rfl rfl
theorem u_co_X10_checkPlan : (.code yX10_checkPlan cX10_checkPlan 1 none : Cond) ∈ uT := mT4 (i := 78) rfl rfl
theorem u_co_X3_judgeMove : (.code yX3_judgeMove cX3_judgeMove 5 (some .int) : Cond) ∈ uT := mT4 (i := 84) rfl rfl
theorem u_co_X10_swap : (.code yX10_swap cX10_swap 4 (some .int) : Cond) ∈ uT := mT4 (i := 95) rfl rfl
theorem u_co_X3_judgeSwap : (.code yX3_judgeSwap cX3_judgeSwap 7 (some .int) : Cond) ∈ uT := mT4 (i := 100) rfl rfl
theorem u_co_X10_refuses : (.code yX10_refuses cX10_refuses 3 (some .int) : Cond) ∈ uT := mT4 (i := 108) rfl rfl
theorem u_co_X10_refusal : (.code yX10_refusal cX10_refusal 2 (some .int) : Cond) ∈ uT := mT4 (i := 115) rfl rfl
theorem u_co_X10_district : (.code yX10_district cX10_district 4 (some .int) : Cond) ∈ uT := mT4 (i := 123) rfl rfl
theorem u_co_X9_perimeterOf : (.code yX9_perimeterOf cX9_perimeterOf 4 (some .int) : Cond) ∈ uT := mT4 (i := 129) rfl rfl
theorem u_co_X9_lengthToOutside : (.code yX9_lengthToOutside cX9_lengthToOutside 5 (some .int) : Cond) ∈ uT := mT4 (i := 133) rfl rfl
theorem u_co_X9_districtsAround : (.code yX9_districtsAround cX9_districtsAround 5 (some .int) : Cond) ∈ uT := mT4 (i := 137) rfl rfl
theorem u_co_X10_measure : (.code yX10_measure cX10_measure 3 (some .long) : Cond) ∈ uT := mT4 (i := 144) rfl rfl
theorem u_co_X10_checkMeasure : (.code yX10_checkMeasure cX10_checkMeasure 2 none : Cond) ∈ uT := mT4 (i := 148) rfl rfl
theorem u_co_X6_weigh : (.code yX6_weigh cX6_weigh 4 none : Cond) ∈ uT := mT4 (i := 152) rfl rfl
theorem u_co_X6_weighCompactness : (.code yX6_weighCompactness cX6_weighCompactness 14 none : Cond) ∈ uT := mT4 (i := 155) rfl rfl
theorem u_co_X1_become : (.code yX1_become cX1_become 7 none : Cond) ∈ uT := mT4 (i := 162) rfl rfl
theorem u_co_X1_commonDivisor : (.code yX1_commonDivisor cX1_commonDivisor 11 (some .long) : Cond) ∈ uT := mT4 (i := 165) rfl rfl
theorem u_co_X6_cutLength : (.code yX6_cutLength cX6_cutLength 5 (some .int) : Cond) ∈ uT := mT4 (i := 168) rfl rfl
theorem u_co_X6_countSplitCommunities : (.code yX6_countSplitCommunities cX6_countSplitCommunities 4 (some .int) : Cond) ∈ uT := mT4 (i := 172) rfl rfl
theorem u_co_X6_greatestImbalance : (.code yX6_greatestImbalance cX6_greatestImbalance 4 (some .int) : Cond) ∈ uT := mT4 (i := 177) rfl rfl
theorem u_co_J9_max_7cf53 : (.code yJ9_max_7cf53 cJ9_max_7cf53 2 (some .int) : Cond) ∈ uT := mT4 (i := 181) rfl rfl
theorem u_co_X10_meanCompactness : (.code yX10_meanCompactness cX10_meanCompactness 3 (some .float) : Cond) ∈ uT := mT4 (i := 190) rfl rfl
theorem u_co_X6_roughCompactness : (.code yX6_roughCompactness cX6_roughCompactness 3 (some .float) : Cond) ∈ uT := mT4 (i := 193) rfl rfl
theorem u_co_X10_improve : (.code yX10_improve cX10_improve 3 (some .int) : Cond) ∈ uT := mT4 (i := 200) rfl rfl
theorem u_co_X7_begin : (.code yX7_begin cX7_begin 3 none : Cond) ∈ uT := mT4 (i := 204) rfl rfl
theorem u_co_X7_tryMoves : (.code yX7_tryMoves cX7_tryMoves 6 (some .int) : Cond) ∈ uT := mT4 (i := 209) rfl rfl
theorem u_co_X7_consider : (.code yX7_consider cX7_consider 2 none : Cond) ∈ uT := mT4 (i := 214) rfl rfl
theorem u_co_X6_isBetter : (.code yX6_isBetter cX6_isBetter 4 (some .boolean) : Cond) ∈ uT := mT4 (i := 217) rfl rfl
theorem u_co_X1_compareWith : (.code yX1_compareWith cX1_compareWith 2 (some .int) : Cond) ∈ uT := mT4 (i := 221) rfl rfl
theorem u_co_J13_compare_74951 : (.code yJ13_compare_74951 cJ13_compare_74951 4 (some .int) : Cond) ∈ uT := mT4 (i := 224) rfl rfl
theorem u_co_X1_copyFrom : (.code yX1_copyFrom cX1_copyFrom 2 none : Cond) ∈ uT := mT4 (i := 228) rfl rfl
theorem u_co_X7_trySwaps : (.code yX7_trySwaps cX7_trySwaps 6 (some .int) : Cond) ∈ uT := mT4 (i := 233) rfl rfl
theorem u_co_X10_possible : (.code yX10_possible cX10_possible 2 (some .int) : Cond) ∈ uT := mT5 (i := 1) rfl rfl
theorem u_co_X10_plans : (.code yX10_plans cX10_plans 1 (some .int) : Cond) ∈ uT := mT5 (i := 8) rfl rfl
theorem u_co_X10_checkListed : (.code yX10_checkListed cX10_checkListed 1 none : Cond) ∈ uT := mT5 (i := 12) rfl rfl
theorem u_co_X0_countPlans : (.code yX0_countPlans cX0_countPlans 2 (some .int) : Cond) ∈ uT := mT5 (i := 17) rfl rfl
theorem u_co_X0_findSets : (.code yX0_findSets cX0_findSets 4 none : Cond) ∈ uT := mT5 (i := 21) rfl rfl
theorem u_co_X9_splitsCores : (.code yX9_splitsCores cX9_splitsCores 5 (some .boolean) : Cond) ∈ uT := mT5 (i := 28) rfl rfl
theorem u_co_X0_listFrom : (.code yX0_listFrom cX0_listFrom 7 none : Cond) ∈ uT := mT5 (i := 34) rfl rfl
theorem u_co_X0_keepIfLawful : (.code yX0_keepIfLawful cX0_keepIfLawful 5 none : Cond) ∈ uT := mT5 (i := 38) rfl rfl
theorem u_co_X10_counted : (.code yX10_counted cX10_counted 1 (some .int) : Cond) ∈ uT := mT5 (i := 46) rfl rfl
theorem u_co_X0_countBySets : (.code yX0_countBySets cX0_countBySets 2 (some .int) : Cond) ∈ uT := mT5 (i := 50) rfl rfl
theorem u_co_X0_countFrom : (.code yX0_countFrom cX0_countFrom 8 (some .int) : Cond) ∈ uT := mT5 (i := 53) rfl rfl
theorem u_co_X10_planned : (.code yX10_planned cX10_planned 3 (some .int) : Cond) ∈ uT := mT5 (i := 60) rfl rfl
theorem u_co_X10_checkListedPlan : (.code yX10_checkListedPlan cX10_checkListedPlan 2 none : Cond) ∈ uT := mT5 (i := 64) rfl rfl
theorem u_co_X0_copyPlan : (.code yX0_copyPlan cX0_copyPlan 5 none : Cond) ∈ uT := mT5 (i := 69) rfl rfl
theorem u_co_X10_best : (.code yX10_best cX10_best 2 (some .int) : Cond) ∈ uT := mT5 (i := 78) rfl rfl
theorem u_co_X0_findBest : (.code yX0_findBest cX0_findBest 5 (some .int) : Cond) ∈ uT := mT5 (i := 83) rfl rfl
theorem u_co_X10_choose : (.code yX10_choose cX10_choose 4 (some .int) : Cond) ∈ uT := mT5 (i := 94) rfl rfl
theorem u_co_X10_store : (.code yX10_store cX10_store 3 (some .int) : Cond) ∈ uT := mT5 (i := 101) rfl rfl
theorem u_co_X10_isRow : (.code yX10_isRow cX10_isRow 1 (some .boolean) : Cond) ∈ uT := mT5 (i := 104) rfl rfl
theorem u_co_X5_takeFrom : (.code yX5_takeFrom cX5_takeFrom 5 none : Cond) ∈ uT := mT5 (i := 109) rfl rfl
theorem u_co_X10_copyRow : (.code yX10_copyRow cX10_copyRow 6 (some .int) : Cond) ∈ uT := mT5 (i := 118) rfl rfl
theorem u_co_X5_isMissing : (.code yX5_isMissing cX5_isMissing 1 (some .boolean) : Cond) ∈ uT := mT5 (i := 122) rfl rfl
theorem u_co_X5_takeElements : (.code yX5_takeElements cX5_takeElements 3 none : Cond) ∈ uT := mT5 (i := 129) rfl rfl
theorem u_co_X5_sum : (.code yX5_sum cX5_sum 3 (some .int) : Cond) ∈ uT := mT5 (i := 134) rfl rfl
theorem u_co_X10_bits : (.code yX10_bits cX10_bits 3 (some .int) : Cond) ∈ uT := mT5 (i := 141) rfl rfl
theorem u_co_X5_element : (.code yX5_element cX5_element 2 (some .float) : Cond) ∈ uT := mT5 (i := 146) rfl rfl
theorem u_co_X5_bitsOf : (.code yX5_bitsOf cX5_bitsOf 4 (some .int) : Cond) ∈ uT := mT5 (i := 149) rfl rfl
theorem u_co_X10_undo : (.code yX10_undo cX10_undo 1 (some .int) : Cond) ∈ uT := mT5 (i := 157) rfl rfl
theorem u_co_X2_giveBack : (.code yX2_giveBack cX2_giveBack 2 none : Cond) ∈ uT := mT5 (i := 162) rfl rfl
theorem u_co_X10_restoreSnapshot : (.code yX10_restoreSnapshot cX10_restoreSnapshot 1 (some .int) : Cond) ∈ uT := mT5 (i := 169) rfl rfl
theorem u_co_X2_forget : (.code yX2_forget cX2_forget 1 none : Cond) ∈ uT := mT5 (i := 174) rfl rfl
theorem u_co_X10_letter : (.code yX10_letter cX10_letter 2 (some .char) : Cond) ∈ uT := mT5 (i := 181) rfl rfl
theorem u_co_X11_init : (.code yX11_init cX11_init 1 none : Cond) ∈ uT := mT5 (i := 186) rfl rfl
theorem u_co_X11_thrown : (.code yX11_thrown cX11_thrown 1 (some .int) : Cond) ∈ uT := mT6 (i := 30) rfl rfl
theorem u_co_X11_feed : (.code yX11_feed cX11_feed 2 (some .int) : Cond) ∈ uT := mT6 (i := 34) rfl rfl
theorem u_co_X11_fails : (.code yX11_fails cX11_fails 2 (some .int) : Cond) ∈ uT := mT6 (i := 38) rfl rfl
theorem u_co_X11_done : (.code yX11_done cX11_done 2 (some .int) : Cond) ∈ uT := mT6 (i := 42) rfl rfl
theorem u_co_X11_extend : (.code yX11_extend cX11_extend 4 (some .int) : Cond) ∈ uT := mT6 (i := 46) rfl rfl
theorem u_co_X11_readsStatement : (.code yX11_readsStatement cX11_readsStatement 1 (some .boolean) : Cond) ∈ uT := mT6 (i := 50) rfl rfl
theorem u_co_X11_here : (.code yX11_here cX11_here 1 (some .int) : Cond) ∈ uT := mT6 (i := 54) rfl rfl
theorem u_co_X11_readsNumber : (.code yX11_readsNumber cX11_readsNumber 4 (some .boolean) : Cond) ∈ uT := mT6 (i := 58) rfl rfl
theorem u_co_X11_in : (.code yX11_in cX11_in 3 (some .boolean) : Cond) ∈ uT := mT6 (i := 61) rfl rfl
theorem u_co_X11_eats : (.code yX11_eats cX11_eats 3 (some .boolean) : Cond) ∈ uT := mT6 (i := 65) rfl rfl
theorem u_co_X11_remembers : (.code yX11_remembers cX11_remembers 2 none : Cond) ∈ uT := mT6 (i := 69) rfl rfl
theorem u_co_X11_does : (.code yX11_does cX11_does 2 (some .boolean) : Cond) ∈ uT := mT6 (i := 73) rfl rfl
theorem u_co_X11_isUnit : (.code yX11_isUnit cX11_isUnit 2 (some .boolean) : Cond) ∈ uT := mT6 (i := 77) rfl rfl
theorem u_co_X11_borderOf : (.code yX11_borderOf cX11_borderOf 3 (some .int) : Cond) ∈ uT := mT6 (i := 81) rfl rfl
theorem u_co_X11_changes : (.code yX11_changes cX11_changes 2 none : Cond) ∈ uT := mT6 (i := 85) rfl rfl
theorem u_co_X11_impossible : (.code yX11_impossible cX11_impossible 1 (some .int) : Cond) ∈ uT := mT6 (i := 89) rfl rfl
theorem u_co_X11_clearMap : (.code yX11_clearMap cX11_clearMap 2 (some .int) : Cond) ∈ uT := mT6 (i := 93) rfl rfl
theorem u_co_X11_unit : (.code yX11_unit cX11_unit 5 (some .int) : Cond) ∈ uT := mT6 (i := 97) rfl rfl
theorem u_co_X11_of : (.code yX11_of cX11_of 3 (some .int) : Cond) ∈ uT := mT6 (i := 101) rfl rfl
theorem u_co_X11_neighbors : (.code yX11_neighbors cX11_neighbors 4 (some .int) : Cond) ∈ uT := mT6 (i := 105) rfl rfl
theorem u_co_X11_districtOf : (.code yX11_districtOf cX11_districtOf 2 (some .int) : Cond) ∈ uT := mT6 (i := 109) rfl rfl
theorem u_co_X11_border : (.code yX11_border cX11_border 3 (some .int) : Cond) ∈ uT := mT6 (i := 113) rfl rfl
theorem u_co_X11_count : (.code yX11_count cX11_count 5 (some .int) : Cond) ∈ uT := mT6 (i := 117) rfl rfl
theorem u_co_X11_all : (.code yX11_all cX11_all 1 (some .int) : Cond) ∈ uT := mT6 (i := 121) rfl rfl
theorem u_co_X11_sum : (.code yX11_sum cX11_sum 5 (some .int) : Cond) ∈ uT := mT6 (i := 125) rfl rfl
theorem u_co_X11_reached : (.code yX11_reached cX11_reached 5 (some .int) : Cond) ∈ uT := mT6 (i := 129) rfl rfl
theorem u_co_X11_communities : (.code yX11_communities cX11_communities 5 (some .int) : Cond) ∈ uT := mT6 (i := 133) rfl rfl
theorem u_co_X11_setDistricts : (.code yX11_setDistricts cX11_setDistricts 3 (some .int) : Cond) ∈ uT := mT6 (i := 137) rfl rfl
theorem u_co_X11_setTolerance : (.code yX11_setTolerance cX11_setTolerance 3 (some .int) : Cond) ∈ uT := mT6 (i := 141) rfl rfl
theorem u_co_X11_readPlan : (.code yX11_readPlan cX11_readPlan 4 (some .int) : Cond) ∈ uT := mT6 (i := 145) rfl rfl
theorem u_co_X11_isDistrict : (.code yX11_isDistrict cX11_isDistrict 2 (some .boolean) : Cond) ∈ uT := mT6 (i := 149) rfl rfl
theorem u_co_X11_reason : (.code yX11_reason cX11_reason 4 (some .int) : Cond) ∈ uT := mT6 (i := 153) rfl rfl
theorem u_co_X11_set : (.code yX11_set cX11_set 4 (some .int) : Cond) ∈ uT := mT6 (i := 157) rfl rfl
theorem u_co_X11_off : (.code yX11_off cX11_off 3 (some .int) : Cond) ∈ uT := mT6 (i := 161) rfl rfl
theorem u_co_X11_keepsReason : (.code yX11_keepsReason cX11_keepsReason 2 (some .int) : Cond) ∈ uT := mT6 (i := 165) rfl rfl
theorem u_co_X11_keeps : (.code yX11_keeps cX11_keeps 2 none : Cond) ∈ uT := mT6 (i := 169) rfl rfl
theorem u_co_X11_move : (.code yX11_move cX11_move 6 (some .int) : Cond) ∈ uT := mT6 (i := 173) rfl rfl
theorem u_co_X11_lacksMove : (.code yX11_lacksMove cX11_lacksMove 3 (some .int) : Cond) ∈ uT := mT6 (i := 177) rfl rfl
theorem u_co_X11_tells : (.code yX11_tells cX11_tells 2 none : Cond) ∈ uT := mT6 (i := 181) rfl rfl
theorem u_co_X11_moves : (.code yX11_moves cX11_moves 3 (some .int) : Cond) ∈ uT := mT6 (i := 185) rfl rfl
theorem u_co_X11_hasNeighbor : (.code yX11_hasNeighbor cX11_hasNeighbor 5 (some .boolean) : Cond) ∈ uT := mT6 (i := 189) rfl rfl
theorem u_co_X11_swap : (.code yX11_swap cX11_swap 5 (some .int) : Cond) ∈ uT := mT6 (i := 193) rfl rfl
theorem u_co_X11_swaps : (.code yX11_swaps cX11_swaps 6 (some .int) : Cond) ∈ uT := mT6 (i := 197) rfl rfl
theorem u_co_X11_refuses : (.code yX11_refuses cX11_refuses 4 (some .int) : Cond) ∈ uT := mT6 (i := 201) rfl rfl
theorem u_co_X11_refusal : (.code yX11_refusal cX11_refusal 2 (some .int) : Cond) ∈ uT := mT6 (i := 205) rfl rfl
theorem u_co_X11_district : (.code yX11_district cX11_district 6 (some .int) : Cond) ∈ uT := mT6 (i := 209) rfl rfl
theorem u_co_X11_perimeter : (.code yX11_perimeter cX11_perimeter 5 (some .int) : Cond) ∈ uT := mT6 (i := 213) rfl rfl
theorem u_co_X11_others : (.code yX11_others cX11_others 5 (some .int) : Cond) ∈ uT := mT6 (i := 217) rfl rfl
theorem u_co_X11_measure : (.code yX11_measure cX11_measure 3 (some .long) : Cond) ∈ uT := mT6 (i := 221) rfl rfl
theorem u_co_X11_tellMeasure : (.code yX11_tellMeasure cX11_tellMeasure 7 none : Cond) ∈ uT := mT6 (i := 225) rfl rfl
theorem u_co_X11_tellCompactness : (.code yX11_tellCompactness cX11_tellCompactness 4 none : Cond) ∈ uT := mT6 (i := 229) rfl rfl
theorem u_co_X11_cutLengths : (.code yX11_cutLengths cX11_cutLengths 4 (some .int) : Cond) ∈ uT := mT6 (i := 234) rfl rfl
theorem u_co_X11_torn : (.code yX11_torn cX11_torn 5 (some .int) : Cond) ∈ uT := mT6 (i := 238) rfl rfl
theorem u_co_X11_divisor : (.code yX11_divisor cX11_divisor 10 (some .long) : Cond) ∈ uT := mT7 (i := 1) rfl rfl
theorem u_co_X11_meanCompactness : (.code yX11_meanCompactness cX11_meanCompactness 3 (some .float) : Cond) ∈ uT := mT7 (i := 5) rfl rfl
theorem u_co_X11_compactness : (.code yX11_compactness cX11_compactness 3 (some .float) : Cond) ∈ uT := mT7 (i := 9) rfl rfl
theorem u_co_X11_improve : (.code yX11_improve cX11_improve 3 (some .int) : Cond) ∈ uT := mT7 (i := 13) rfl rfl
theorem u_co_X11_steps : (.code yX11_steps cX11_steps 5 (some .boolean) : Cond) ∈ uT := mT7 (i := 17) rfl rfl
theorem u_co_X11_isBest : (.code yX11_isBest cX11_isBest 2 none : Cond) ∈ uT := mT7 (i := 21) rfl rfl
theorem u_co_X11_isBetter : (.code yX11_isBetter cX11_isBetter 6 (some .boolean) : Cond) ∈ uT := mT7 (i := 25) rfl rfl
theorem u_co_X11_possible : (.code yX11_possible cX11_possible 6 (some .int) : Cond) ∈ uT := mT7 (i := 29) rfl rfl
theorem u_co_X11_plans : (.code yX11_plans cX11_plans 1 (some .int) : Cond) ∈ uT := mT7 (i := 33) rfl rfl
theorem u_co_X11_isSmall : (.code yX11_isSmall cX11_isSmall 1 (some .boolean) : Cond) ∈ uT := mT7 (i := 37) rfl rfl
theorem u_co_X11_allPlans : (.code yX11_allPlans cX11_allPlans 1 (some .int) : Cond) ∈ uT := mT7 (i := 41) rfl rfl
theorem u_co_X11_plansUpTo : (.code yX11_plansUpTo cX11_plansUpTo 4 (some .int) : Cond) ∈ uT := mT7 (i := 46) rfl rfl
theorem u_co_X11_begins : (.code yX11_begins cX11_begins 2 none : Cond) ∈ uT := mT7 (i := 50) rfl rfl
theorem u_co_X11_goesOn : (.code yX11_goesOn cX11_goesOn 4 (some .boolean) : Cond) ∈ uT := mT7 (i := 54) rfl rfl
theorem u_co_X11_counted : (.code yX11_counted cX11_counted 1 (some .int) : Cond) ∈ uT := mT7 (i := 58) rfl rfl
theorem u_co_X11_planned : (.code yX11_planned cX11_planned 3 (some .int) : Cond) ∈ uT := mT7 (i := 62) rfl rfl
theorem u_co_X11_best : (.code yX11_best cX11_best 5 (some .int) : Cond) ∈ uT := mT7 (i := 67) rfl rfl
theorem u_co_X11_choose : (.code yX11_choose cX11_choose 4 (some .int) : Cond) ∈ uT := mT7 (i := 71) rfl rfl
theorem u_co_X11_store : (.code yX11_store cX11_store 4 (some .int) : Cond) ∈ uT := mT7 (i := 75) rfl rfl
theorem u_co_X11_isRow : (.code yX11_isRow cX11_isRow 1 (some .boolean) : Cond) ∈ uT := mT7 (i := 78) rfl rfl
theorem u_co_X11_copyRow : (.code yX11_copyRow cX11_copyRow 6 (some .int) : Cond) ∈ uT := mT7 (i := 82) rfl rfl
theorem u_co_X11_bits : (.code yX11_bits cX11_bits 3 (some .int) : Cond) ∈ uT := mT7 (i := 86) rfl rfl
theorem u_co_Jxf58ca_floatToIntBits_5c35a : (.code yJxf58ca_floatToIntBits_5c35a cJxf58ca_floatToIntBits_5c35a 1 (some .int) : Cond) ∈ uT := mT7 (i := 89) rfl rfl
theorem u_co_Jxf58ca_isNaN_12338 : (.code yJxf58ca_isNaN_12338 cJxf58ca_isNaN_12338 1 (some .boolean) : Cond) ∈ uT := mT7 (i := 92) rfl rfl
theorem u_co_X11_undo : (.code yX11_undo cX11_undo 2 (some .int) : Cond) ∈ uT := mT7 (i := 100) rfl rfl
theorem u_co_X11_saveSnapshot : (.code yX11_saveSnapshot cX11_saveSnapshot 2 (some .int) : Cond) ∈ uT := mT7 (i := 104) rfl rfl
theorem u_co_X11_restoreSnapshot : (.code yX11_restoreSnapshot cX11_restoreSnapshot 2 (some .int) : Cond) ∈ uT := mT7 (i := 108) rfl rfl
theorem u_co_X11_letter : (.code yX11_letter cX11_letter 2 (some .char) : Cond) ∈ uT := mT7 (i := 112) rfl rfl
theorem u_co_Math_max : (.code Lib.Math.max.name Lib.Math.max.code 2 (some .int) : Cond) ∈ uT := mT4 (i := 181) rfl rfl
theorem u_co_Math_min : (.code Lib.Math.min.name Lib.Math.min.code 2 (some .int) : Cond) ∈ uT := mT2 (i := 140) rfl rfl
theorem u_co_Math_abs : (.code Lib.Math.abs.name Lib.Math.abs.code 1 (some .int) : Cond) ∈ uT := mT4 (i := 49) rfl rfl
theorem u_co_Object_init : (.code objectInit ⟨#[0xb1]⟩ 1 none : Cond) ∈ uT := mT1 (i := 35) rfl rfl
theorem u_ws_X0 : ∀ w ∈ u_ws RX0 TX0 9, w ∈ uT := by
  show ∀ w ∈ [u_lay RX0 TX0 0, u_lay RX0 TX0 1, u_lay RX0 TX0 2, u_lay RX0 TX0 3, u_lay RX0 TX0 4, u_lay RX0 TX0 5, u_lay RX0 TX0 6, u_lay RX0 TX0 7, u_lay RX0 TX0 8], w ∈ uT
  exact List.forall_mem_cons.mpr ⟨mT2 (i := 1) rfl rfl, List.forall_mem_cons.mpr ⟨mT2 (i := 3) rfl rfl, List.forall_mem_cons.mpr ⟨mT2 (i := 5) rfl rfl, List.forall_mem_cons.mpr ⟨mT2 (i := 7) rfl rfl, List.forall_mem_cons.mpr ⟨mT2 (i := 9) rfl rfl, List.forall_mem_cons.mpr ⟨mT2 (i := 11) rfl rfl, List.forall_mem_cons.mpr ⟨mT2 (i := 13) rfl rfl, List.forall_mem_cons.mpr ⟨mT2 (i := 15) rfl rfl, List.forall_mem_cons.mpr ⟨mT2 (i := 17) rfl rfl, fun _ h => absurd h List.not_mem_nil⟩⟩⟩⟩⟩⟩⟩⟩⟩
theorem u_ws_X1 : ∀ w ∈ u_ws RX1 TX1 2, w ∈ uT := by
  show ∀ w ∈ [u_lay RX1 TX1 0, u_lay RX1 TX1 1], w ∈ uT
  exact List.forall_mem_cons.mpr ⟨mT1 (i := 196) rfl rfl, List.forall_mem_cons.mpr ⟨mT1 (i := 198) rfl rfl, fun _ h => absurd h List.not_mem_nil⟩⟩
theorem u_ws_X2 : ∀ w ∈ u_ws RX2 TX2 3, w ∈ uT := by
  show ∀ w ∈ [u_lay RX2 TX2 0, u_lay RX2 TX2 1, u_lay RX2 TX2 2], w ∈ uT
  exact List.forall_mem_cons.mpr ⟨mT2 (i := 34) rfl rfl, List.forall_mem_cons.mpr ⟨mT2 (i := 36) rfl rfl, List.forall_mem_cons.mpr ⟨mT2 (i := 38) rfl rfl, fun _ h => absurd h List.not_mem_nil⟩⟩⟩
theorem u_ws_X3 : ∀ w ∈ u_ws RX3 TX3 2, w ∈ uT := by
  show ∀ w ∈ [u_lay RX3 TX3 0, u_lay RX3 TX3 1], w ∈ uT
  exact List.forall_mem_cons.mpr ⟨mT1 (i := 173) rfl rfl, List.forall_mem_cons.mpr ⟨mT1 (i := 175) rfl rfl, fun _ h => absurd h List.not_mem_nil⟩⟩
theorem u_ws_X4 : ∀ w ∈ u_ws RX4 TX4 2, w ∈ uT := by
  show ∀ w ∈ [u_lay RX4 TX4 0, u_lay RX4 TX4 1], w ∈ uT
  exact List.forall_mem_cons.mpr ⟨mT1 (i := 60) rfl rfl, List.forall_mem_cons.mpr ⟨mT1 (i := 62) rfl rfl, fun _ h => absurd h List.not_mem_nil⟩⟩
theorem u_ws_X5 : ∀ w ∈ u_ws RX5 TX5 4, w ∈ uT := by
  show ∀ w ∈ [u_lay RX5 TX5 0, u_lay RX5 TX5 1, u_lay RX5 TX5 2, u_lay RX5 TX5 3], w ∈ uT
  exact List.forall_mem_cons.mpr ⟨mT2 (i := 56) rfl rfl, List.forall_mem_cons.mpr ⟨mT2 (i := 58) rfl rfl, List.forall_mem_cons.mpr ⟨mT2 (i := 60) rfl rfl, List.forall_mem_cons.mpr ⟨mT2 (i := 62) rfl rfl, fun _ h => absurd h List.not_mem_nil⟩⟩⟩⟩
theorem u_ws_X7 : ∀ w ∈ u_ws RX7 TX7 6, w ∈ uT := by
  show ∀ w ∈ [u_lay RX7 TX7 0, u_lay RX7 TX7 1, u_lay RX7 TX7 2, u_lay RX7 TX7 3, u_lay RX7 TX7 4, u_lay RX7 TX7 5], w ∈ uT
  exact List.forall_mem_cons.mpr ⟨mT1 (i := 209) rfl rfl, List.forall_mem_cons.mpr ⟨mT1 (i := 211) rfl rfl, List.forall_mem_cons.mpr ⟨mT1 (i := 213) rfl rfl, List.forall_mem_cons.mpr ⟨mT1 (i := 215) rfl rfl, List.forall_mem_cons.mpr ⟨mT1 (i := 217) rfl rfl, List.forall_mem_cons.mpr ⟨mT1 (i := 219) rfl rfl, fun _ h => absurd h List.not_mem_nil⟩⟩⟩⟩⟩⟩
theorem u_ws_X8 : ∀ w ∈ u_ws RX8 TX8 9, w ∈ uT := by
  show ∀ w ∈ [u_lay RX8 TX8 0, u_lay RX8 TX8 1, u_lay RX8 TX8 2, u_lay RX8 TX8 3, u_lay RX8 TX8 4, u_lay RX8 TX8 5, u_lay RX8 TX8 6, u_lay RX8 TX8 7, u_lay RX8 TX8 8], w ∈ uT
  exact List.forall_mem_cons.mpr ⟨mT1 (i := 144) rfl rfl, List.forall_mem_cons.mpr ⟨mT1 (i := 146) rfl rfl, List.forall_mem_cons.mpr ⟨mT1 (i := 148) rfl rfl, List.forall_mem_cons.mpr ⟨mT1 (i := 150) rfl rfl, List.forall_mem_cons.mpr ⟨mT1 (i := 152) rfl rfl, List.forall_mem_cons.mpr ⟨mT1 (i := 154) rfl rfl, List.forall_mem_cons.mpr ⟨mT1 (i := 156) rfl rfl, List.forall_mem_cons.mpr ⟨mT1 (i := 158) rfl rfl, List.forall_mem_cons.mpr ⟨mT1 (i := 160) rfl rfl, fun _ h => absurd h List.not_mem_nil⟩⟩⟩⟩⟩⟩⟩⟩⟩
theorem u_ws_X9 : ∀ w ∈ u_ws RX9 TX9 12, w ∈ uT := by
  show ∀ w ∈ [u_lay RX9 TX9 0, u_lay RX9 TX9 1, u_lay RX9 TX9 2, u_lay RX9 TX9 3, u_lay RX9 TX9 4, u_lay RX9 TX9 5, u_lay RX9 TX9 6, u_lay RX9 TX9 7, u_lay RX9 TX9 8, u_lay RX9 TX9 9, u_lay RX9 TX9 10, u_lay RX9 TX9 11], w ∈ uT
  exact List.forall_mem_cons.mpr ⟨mT1 (i := 102) rfl rfl, List.forall_mem_cons.mpr ⟨mT1 (i := 104) rfl rfl, List.forall_mem_cons.mpr ⟨mT1 (i := 106) rfl rfl, List.forall_mem_cons.mpr ⟨mT1 (i := 108) rfl rfl, List.forall_mem_cons.mpr ⟨mT1 (i := 110) rfl rfl, List.forall_mem_cons.mpr ⟨mT1 (i := 112) rfl rfl, List.forall_mem_cons.mpr ⟨mT1 (i := 114) rfl rfl, List.forall_mem_cons.mpr ⟨mT1 (i := 116) rfl rfl, List.forall_mem_cons.mpr ⟨mT1 (i := 118) rfl rfl, List.forall_mem_cons.mpr ⟨mT1 (i := 120) rfl rfl, List.forall_mem_cons.mpr ⟨mT1 (i := 122) rfl rfl, List.forall_mem_cons.mpr ⟨mT1 (i := 124) rfl rfl, fun _ h => absurd h List.not_mem_nil⟩⟩⟩⟩⟩⟩⟩⟩⟩⟩⟩⟩
theorem u_ws_X10 : ∀ w ∈ u_ws RX10 TX10 17, w ∈ uT := by
  show ∀ w ∈ [u_lay RX10 TX10 0, u_lay RX10 TX10 1, u_lay RX10 TX10 2, u_lay RX10 TX10 3, u_lay RX10 TX10 4, u_lay RX10 TX10 5, u_lay RX10 TX10 6, u_lay RX10 TX10 7, u_lay RX10 TX10 8, u_lay RX10 TX10 9, u_lay RX10 TX10 10, u_lay RX10 TX10 11, u_lay RX10 TX10 12, u_lay RX10 TX10 13, u_lay RX10 TX10 14, u_lay RX10 TX10 15, u_lay RX10 TX10 16], w ∈ uT
  exact List.forall_mem_cons.mpr ⟨mT2 (i := 83) rfl rfl, List.forall_mem_cons.mpr ⟨mT2 (i := 85) rfl rfl, List.forall_mem_cons.mpr ⟨mT2 (i := 87) rfl rfl, List.forall_mem_cons.mpr ⟨mT2 (i := 89) rfl rfl, List.forall_mem_cons.mpr ⟨mT2 (i := 91) rfl rfl, List.forall_mem_cons.mpr ⟨mT2 (i := 93) rfl rfl, List.forall_mem_cons.mpr ⟨mT2 (i := 95) rfl rfl, List.forall_mem_cons.mpr ⟨mT2 (i := 97) rfl rfl, List.forall_mem_cons.mpr ⟨mT2 (i := 99) rfl rfl, List.forall_mem_cons.mpr ⟨mT2 (i := 101) rfl rfl, List.forall_mem_cons.mpr ⟨mT2 (i := 103) rfl rfl, List.forall_mem_cons.mpr ⟨mT2 (i := 105) rfl rfl, List.forall_mem_cons.mpr ⟨mT2 (i := 107) rfl rfl, List.forall_mem_cons.mpr ⟨mT2 (i := 109) rfl rfl, List.forall_mem_cons.mpr ⟨mT2 (i := 111) rfl rfl, List.forall_mem_cons.mpr ⟨mT2 (i := 113) rfl rfl, List.forall_mem_cons.mpr ⟨mT2 (i := 115) rfl rfl, fun _ h => absurd h List.not_mem_nil⟩⟩⟩⟩⟩⟩⟩⟩⟩⟩⟩⟩⟩⟩⟩⟩⟩
theorem u_ws_X11 : ∀ w ∈ u_ws RX11 TX11 26, w ∈ uT := by
  show ∀ w ∈ [u_lay RX11 TX11 0, u_lay RX11 TX11 1, u_lay RX11 TX11 2, u_lay RX11 TX11 3, u_lay RX11 TX11 4, u_lay RX11 TX11 5, u_lay RX11 TX11 6, u_lay RX11 TX11 7, u_lay RX11 TX11 8, u_lay RX11 TX11 9, u_lay RX11 TX11 10, u_lay RX11 TX11 11, u_lay RX11 TX11 12, u_lay RX11 TX11 13, u_lay RX11 TX11 14, u_lay RX11 TX11 15, u_lay RX11 TX11 16, u_lay RX11 TX11 17, u_lay RX11 TX11 18, u_lay RX11 TX11 19, u_lay RX11 TX11 20, u_lay RX11 TX11 21, u_lay RX11 TX11 22, u_lay RX11 TX11 23, u_lay RX11 TX11 24, u_lay RX11 TX11 25], w ∈ uT
  exact List.forall_mem_cons.mpr ⟨mT5 (i := 214) rfl rfl, List.forall_mem_cons.mpr ⟨mT5 (i := 216) rfl rfl, List.forall_mem_cons.mpr ⟨mT5 (i := 218) rfl rfl, List.forall_mem_cons.mpr ⟨mT5 (i := 220) rfl rfl, List.forall_mem_cons.mpr ⟨mT5 (i := 222) rfl rfl, List.forall_mem_cons.mpr ⟨mT5 (i := 224) rfl rfl, List.forall_mem_cons.mpr ⟨mT5 (i := 226) rfl rfl, List.forall_mem_cons.mpr ⟨mT5 (i := 228) rfl rfl, List.forall_mem_cons.mpr ⟨mT5 (i := 230) rfl rfl, List.forall_mem_cons.mpr ⟨mT5 (i := 232) rfl rfl, List.forall_mem_cons.mpr ⟨mT5 (i := 234) rfl rfl, List.forall_mem_cons.mpr ⟨mT5 (i := 236) rfl rfl, List.forall_mem_cons.mpr ⟨mT5 (i := 238) rfl rfl, List.forall_mem_cons.mpr ⟨mT6 (i := 0) rfl rfl, List.forall_mem_cons.mpr ⟨mT6 (i := 2) rfl rfl, List.forall_mem_cons.mpr ⟨mT6 (i := 4) rfl rfl, List.forall_mem_cons.mpr ⟨mT6 (i := 6) rfl rfl, List.forall_mem_cons.mpr ⟨mT6 (i := 8) rfl rfl, List.forall_mem_cons.mpr ⟨mT6 (i := 10) rfl rfl, List.forall_mem_cons.mpr ⟨mT6 (i := 12) rfl rfl, List.forall_mem_cons.mpr ⟨mT6 (i := 14) rfl rfl, List.forall_mem_cons.mpr ⟨mT6 (i := 16) rfl rfl, List.forall_mem_cons.mpr ⟨mT6 (i := 18) rfl rfl, List.forall_mem_cons.mpr ⟨mT6 (i := 20) rfl rfl, List.forall_mem_cons.mpr ⟨mT6 (i := 22) rfl rfl, List.forall_mem_cons.mpr ⟨mT6 (i := 24) rfl rfl, fun _ h => absurd h List.not_mem_nil⟩⟩⟩⟩⟩⟩⟩⟩⟩⟩⟩⟩⟩⟩⟩⟩⟩⟩⟩⟩⟩⟩⟩⟩⟩⟩
