/-! METHODS: names, code; LINKS; WORLDS -/
theorem gk_T0 {w : Cond} (h : w ∈ tables_1) (g : goodWord w = true) : w ∈ gk_W := List.mem_filter.mpr ⟨List.mem_append_right _ h, g⟩
theorem gk_t1 {w : Cond} (j : Nat) (h : tables_1_1[j]? = some w) (g : goodWord w = true) : w ∈ gk_W := gk_T0 (List.mem_append_left _ (List.mem_of_getElem? h)) g
theorem gk_t2 {w : Cond} (j : Nat) (h : tables_1_2[j]? = some w) (g : goodWord w = true) : w ∈ gk_W := gk_T0 (List.mem_append_right _ (List.mem_append_left _ (List.mem_of_getElem? h))) g
theorem gk_t3 {w : Cond} (j : Nat) (h : tables_1_3[j]? = some w) (g : goodWord w = true) : w ∈ gk_W := gk_T0 (List.mem_append_right _ (List.mem_append_right _ (List.mem_append_left _ (List.mem_of_getElem? h)))) g
theorem gk_t4 {w : Cond} (j : Nat) (h : tables_1_4[j]? = some w) (g : goodWord w = true) : w ∈ gk_W := gk_T0 (List.mem_append_right _ (List.mem_append_right _ (List.mem_append_right _ (List.mem_append_left _ (List.mem_of_getElem? h))))) g
theorem gk_t5 {w : Cond} (j : Nat) (h : tables_1_5[j]? = some w) (g : goodWord w = true) : w ∈ gk_W := gk_T0 (List.mem_append_right _ (List.mem_append_right _ (List.mem_append_right _ (List.mem_append_right _ (List.mem_append_left _ (List.mem_of_getElem? h)))))) g
theorem gk_t6 {w : Cond} (j : Nat) (h : tables_1_6[j]? = some w) (g : goodWord w = true) : w ∈ gk_W := gk_T0 (List.mem_append_right _ (List.mem_append_right _ (List.mem_append_right _ (List.mem_append_right _ (List.mem_append_right _ (List.mem_append_left _ (List.mem_of_getElem? h))))))) g
theorem gk_t7 {w : Cond} (j : Nat) (h : tables_1_7[j]? = some w) (g : goodWord w = true) : w ∈ gk_W := gk_T0 (List.mem_append_right _ (List.mem_append_right _ (List.mem_append_right _ (List.mem_append_right _ (List.mem_append_right _ (List.mem_append_right _ (List.mem_of_getElem? h))))))) g
theorem gk_p1 {q : MethodName × Nat} (j : Nat) (h : lw_privs_1[j]? = some q) : Cond.selects q.1.cls q.1 q.1 ∈ gk_W := List.mem_filter.mpr ⟨List.mem_append_left _ (List.mem_map.mpr ⟨q, List.mem_append_left _ (List.mem_of_getElem? h), rfl⟩), rfl⟩
theorem gk_p2 {q : MethodName × Nat} (j : Nat) (h : lw_privs_2[j]? = some q) : Cond.selects q.1.cls q.1 q.1 ∈ gk_W := List.mem_filter.mpr ⟨List.mem_append_left _ (List.mem_map.mpr ⟨q, List.mem_append_right _ (List.mem_append_left _ (List.mem_of_getElem? h)), rfl⟩), rfl⟩
theorem gk_p3 {q : MethodName × Nat} (j : Nat) (h : lw_privs_3[j]? = some q) : Cond.selects q.1.cls q.1 q.1 ∈ gk_W := List.mem_filter.mpr ⟨List.mem_append_left _ (List.mem_map.mpr ⟨q, List.mem_append_right _ (List.mem_append_right _ (List.mem_append_left _ (List.mem_of_getElem? h))), rfl⟩), rfl⟩
theorem gk_p4 {q : MethodName × Nat} (j : Nat) (h : lw_privs_4[j]? = some q) : Cond.selects q.1.cls q.1 q.1 ∈ gk_W := List.mem_filter.mpr ⟨List.mem_append_left _ (List.mem_map.mpr ⟨q, List.mem_append_right _ (List.mem_append_right _ (List.mem_append_right _ (List.mem_append_left _ (List.mem_of_getElem? h)))), rfl⟩), rfl⟩
theorem gk_p5 {q : MethodName × Nat} (j : Nat) (h : lw_privs_5[j]? = some q) : Cond.selects q.1.cls q.1 q.1 ∈ gk_W := List.mem_filter.mpr ⟨List.mem_append_left _ (List.mem_map.mpr ⟨q, List.mem_append_right _ (List.mem_append_right _ (List.mem_append_right _ (List.mem_append_right _ (List.mem_append_left _ (List.mem_of_getElem? h))))), rfl⟩), rfl⟩
theorem gk_p6 {q : MethodName × Nat} (j : Nat) (h : lw_privs_6[j]? = some q) : Cond.selects q.1.cls q.1 q.1 ∈ gk_W := List.mem_filter.mpr ⟨List.mem_append_left _ (List.mem_map.mpr ⟨q, List.mem_append_right _ (List.mem_append_right _ (List.mem_append_right _ (List.mem_append_right _ (List.mem_append_right _ (List.mem_of_getElem? h))))), rfl⟩), rfl⟩
abbrev me_X_tower : gk_Y := (⟨"NeverInLine", "tower", "(II)I"⟩, prog_1_method_2_code, 3, some .int)
abbrev me_Plain_build : gk_Y := (⟨"NeverInLine$Plain", "build", "(IIII)I"⟩, prog_5_method_6_code, 5, some .int)
abbrev me_X_isPoint : gk_Y := (⟨"NeverInLine", "isPoint", "(I)Z"⟩, prog_1_method_41_code, 1, some .boolean)
abbrev me_X_isHeight : gk_Y := (⟨"NeverInLine", "isHeight", "(I)Z"⟩, prog_1_method_42_code, 1, some .boolean)
abbrev me_Plain_most : gk_Y := (⟨"NeverInLine$Plain", "most", "(I)I"⟩, prog_5_method_12_code, 2, some .int)
abbrev me_Plain_hasTower : gk_Y := (⟨"NeverInLine$Plain", "hasTower", "(I)Z"⟩, prog_5_method_16_code, 3, some .boolean)
abbrev me_Plain_pointOf : gk_Y := (⟨"NeverInLine$Plain", "pointOf", "(I)I"⟩, prog_5_method_4_code, 2, some .int)
abbrev me_Plain_place : gk_Y := (⟨"NeverInLine$Plain", "place", "(II)V"⟩, prog_5_method_8_code, 3, none)
abbrev me_Plain_think : gk_Y := (⟨"NeverInLine$Plain", "think", "(II)V"⟩, prog_5_method_7_code, 3, none)
abbrev me_Plain_forgetVerdicts : gk_Y := (⟨"NeverInLine$Plain", "forgetVerdicts", "()V"⟩, prog_5_method_15_code, 1, none)
abbrev me_Arrays_fillI : gk_Y := (⟨"java/util/Arrays", "fill", "([II)V"⟩, prog_16_method_103_code, 4, none)
abbrev me_X_towers : gk_Y := (⟨"NeverInLine", "towers", "(III)I"⟩, prog_1_method_3_code, 8, some .int)
abbrev me_X_isShelf : gk_Y := (⟨"NeverInLine", "isShelf", "(I)Z"⟩, prog_1_method_44_code, 1, some .boolean)
abbrev me_Shelf_isEmpty : gk_Y := (⟨"NeverInLine$Shelf", "isEmpty", "()Z"⟩, prog_8_method_2_code, 1, some .boolean)
abbrev me_Shelf_isRowOf : gk_Y := (⟨"NeverInLine$Shelf", "isRowOf", "(I)Z"⟩, prog_8_method_4_code, 2, some .boolean)
abbrev me_Shelf_isRow : gk_Y := (⟨"NeverInLine$Shelf", "isRow", "()Z"⟩, prog_8_method_3_code, 1, some .boolean)
abbrev me_Shelf_spans : gk_Y := (⟨"NeverInLine$Shelf", "spans", "(II)Z"⟩, prog_8_method_7_code, 3, some .boolean)
abbrev me_X_road : gk_Y := (⟨"NeverInLine", "road", "(II)I"⟩, prog_1_method_4_code, 3, some .int)
abbrev me_Plain_addRoad : gk_Y := (⟨"NeverInLine$Plain", "addRoad", "(II)I"⟩, prog_5_method_9_code, 3, some .int)
abbrev me_X_corner : gk_Y := (⟨"NeverInLine", "corner", "(II)I"⟩, prog_1_method_5_code, 3, some .int)
abbrev me_Plain_isRoad : gk_Y := (⟨"NeverInLine$Plain", "isRoad", "(I)Z"⟩, prog_5_method_3_code, 2, some .boolean)
abbrev me_Plain_cornerAt : gk_Y := (⟨"NeverInLine$Plain", "cornerAt", "(II)I"⟩, prog_5_method_5_code, 3, some .int)
abbrev me_Plain_addCorner : gk_Y := (⟨"NeverInLine$Plain", "addCorner", "(II)I"⟩, prog_5_method_10_code, 3, some .int)
abbrev me_X_forest : gk_Y := (⟨"NeverInLine", "forest", "(II)I"⟩, prog_1_method_6_code, 3, some .int)
abbrev me_Plain_addForest : gk_Y := (⟨"NeverInLine$Plain", "addForest", "(II)I"⟩, prog_5_method_11_code, 3, some .int)
abbrev me_X_feed : gk_Y := (⟨"NeverInLine", "feed", "(I)I"⟩, prog_1_method_7_code, 2, some .int)
abbrev me_Reader_take : gk_Y := (⟨"NeverInLine$Reader", "take", "(I)I"⟩, prog_7_method_2_code, 2, some .int)
abbrev me_X_law : gk_Y := (⟨"NeverInLine", "law", "()I"⟩, prog_1_method_8_code, 2, some .int)
abbrev me_Reader_read : gk_Y := (⟨"NeverInLine$Reader", "read", "()I"⟩, prog_7_method_4_code, 2, some .int)
abbrev me_Reader_readLine : gk_Y := (⟨"NeverInLine$Reader", "readLine", "()V"⟩, prog_7_method_5_code, 1, none)
abbrev me_Reader_readLevel : gk_Y := (⟨"NeverInLine$Reader", "readLevel", "(II)V"⟩, prog_7_method_6_code, 5, none)
abbrev me_Reader_readOperand : gk_Y := (⟨"NeverInLine$Reader", "readOperand", "(I)V"⟩, prog_7_method_7_code, 3, none)
abbrev me_Reader_next : gk_Y := (⟨"NeverInLine$Reader", "next", "()I"⟩, prog_7_method_10_code, 1, some .int)
abbrev me_Reader_readNumber : gk_Y := (⟨"NeverInLine$Reader", "readNumber", "()V"⟩, prog_7_method_9_code, 3, none)
abbrev me_Reader_draw : gk_Y := (⟨"NeverInLine$Reader", "draw", "(I)V"⟩, prog_7_method_11_code, 2, none)
abbrev me_Reader_nameOf : gk_Y := (⟨"NeverInLine$Reader", "nameOf", "(I)I"⟩, prog_7_method_12_code, 1, some .int)
abbrev me_Reader_close : gk_Y := (⟨"NeverInLine$Reader", "close", "()V"⟩, prog_7_method_8_code, 1, none)
abbrev me_Reader_levelOf : gk_Y := (⟨"NeverInLine$Reader", "levelOf", "(I)I"⟩, prog_7_method_13_code, 1, some .int)
abbrev me_Law_become : gk_Y := (⟨"NeverInLine$Law", "become", "([II)V"⟩, prog_4_method_2_code, 3, none)
abbrev me_Math_min : gk_Y := (⟨"java/lang/Math", "min", "(II)I"⟩, prog_14_method_69_code, 2, some .int)
abbrev me_Reader_empty : gk_Y := (⟨"NeverInLine$Reader", "empty", "()V"⟩, prog_7_method_3_code, 1, none)
abbrev me_X_mend : gk_Y := (⟨"NeverInLine", "mend", "(III)I"⟩, prog_1_method_9_code, 5, some .int)
abbrev me_Plain_isTower : gk_Y := (⟨"NeverInLine$Plain", "isTower", "(I)Z"⟩, prog_5_method_2_code, 2, some .boolean)
abbrev me_Plain_trait : gk_Y := (⟨"NeverInLine$Plain", "trait", "(II)I"⟩, prog_5_method_13_code, 3, some .int)
abbrev me_History_note : gk_Y := (⟨"NeverInLine$History", "note", "(IIII)V"⟩, prog_3_method_2_code, 5, none)
abbrev me_History_dropOldest : gk_Y := (⟨"NeverInLine$History", "dropOldest", "()V"⟩, prog_3_method_3_code, 1, none)
abbrev me_Plain_setTrait : gk_Y := (⟨"NeverInLine$Plain", "setTrait", "(III)V"⟩, prog_5_method_14_code, 4, none)
abbrev me_X_of : gk_Y := (⟨"NeverInLine", "of", "(II)I"⟩, prog_1_method_10_code, 3, some .int)
abbrev me_X_towerTells : gk_Y := (⟨"NeverInLine", "towerTells", "(II)I"⟩, prog_1_method_11_code, 3, some .int)
abbrev me_X_line : gk_Y := (⟨"NeverInLine", "line", "(III)I"⟩, prog_1_method_12_code, 4, some .int)
abbrev me_X_isPair : gk_Y := (⟨"NeverInLine", "isPair", "(I)Z"⟩, prog_1_method_45_code, 2, some .boolean)
abbrev me_Plain_areInLine : gk_Y := (⟨"NeverInLine$Plain", "areInLine", "(IIII)Z"⟩, prog_5_method_19_code, 7, some .boolean)
abbrev me_Plain_side : gk_Y := (⟨"NeverInLine$Plain", "side", "(IIII)I"⟩, prog_5_method_20_code, 5, some .int)
abbrev me_Plain_lineUp : gk_Y := (⟨"NeverInLine$Plain", "lineUp", "(IIIIII)Z"⟩, prog_5_method_21_code, 14, some .boolean)
abbrev me_Math_abs : gk_Y := (⟨"java/lang/Math", "abs", "(I)I"⟩, prog_14_method_59_code, 1, some .int)
abbrev me_Plain_counts : gk_Y := (⟨"NeverInLine$Plain", "counts", "(III)Z"⟩, prog_5_method_18_code, 5, some .boolean)
abbrev me_Math_max : gk_Y := (⟨"java/lang/Math", "max", "(II)I"⟩, prog_14_method_65_code, 2, some .int)
abbrev me_Law_verdict : gk_Y := (⟨"NeverInLine$Law", "verdict", "([I)I"⟩, prog_4_method_3_code, 6, some .int)
abbrev me_Law_worked : gk_Y := (⟨"NeverInLine$Law", "worked", "(III)I"⟩, prog_4_method_4_code, 3, some .int)
abbrev me_Plain_isStopped : gk_Y := (⟨"NeverInLine$Plain", "isStopped", "(IIIIII)Z"⟩, prog_5_method_22_code, 8, some .boolean)
abbrev me_Plain_cuts : gk_Y := (⟨"NeverInLine$Plain", "cuts", "(IIIIIII)Z"⟩, prog_5_method_23_code, 18, some .boolean)
abbrev me_Plain_areBothOnOneSide : gk_Y := (⟨"NeverInLine$Plain", "areBothOnOneSide", "(II)Z"⟩, prog_5_method_24_code, 2, some .boolean)
abbrev me_Plain_overlap : gk_Y := (⟨"NeverInLine$Plain", "overlap", "(IIII)Z"⟩, prog_5_method_25_code, 6, some .boolean)
abbrev me_X_guilty : gk_Y := (⟨"NeverInLine", "guilty", "(III)I"⟩, prog_1_method_13_code, 9, some .int)
abbrev me_X_isStretch : gk_Y := (⟨"NeverInLine", "isStretch", "(I)Z"⟩, prog_1_method_46_code, 2, some .boolean)
abbrev me_X_isChoice : gk_Y := (⟨"NeverInLine", "isChoice", "(II)Z"⟩, prog_1_method_43_code, 2, some .boolean)
abbrev me_Plain_guiltBetween : gk_Y := (⟨"NeverInLine$Plain", "guiltBetween", "(IIIII)I"⟩, prog_5_method_26_code, 16, some .int)
abbrev me_X_greatestDivisor : gk_Y := (⟨"NeverInLine", "greatestDivisor", "(II)I"⟩, prog_1_method_47_code, 6, some .int)
abbrev me_X_guilts : gk_Y := (⟨"NeverInLine", "guilts", "(I)I"⟩, prog_1_method_14_code, 2, some .int)
abbrev me_Plain_allGuilts : gk_Y := (⟨"NeverInLine$Plain", "allGuilts", "()I"⟩, prog_5_method_29_code, 4, some .int)
abbrev me_Plain_guiltsBetween : gk_Y := (⟨"NeverInLine$Plain", "guiltsBetween", "(IIII)I"⟩, prog_5_method_27_code, 8, some .int)
abbrev me_Plain_roadGuilts : gk_Y := (⟨"NeverInLine$Plain", "roadGuilts", "(I)I"⟩, prog_5_method_28_code, 4, some .int)
abbrev me_X_which : gk_Y := (⟨"NeverInLine", "which", "(I)I"⟩, prog_1_method_15_code, 5, some .int)
abbrev me_Plain_firstGuiltyPair : gk_Y := (⟨"NeverInLine$Plain", "firstGuiltyPair", "(II)I"⟩, prog_5_method_30_code, 5, some .int)
abbrev me_X_partOf : gk_Y := (⟨"NeverInLine", "partOf", "(IIII)I"⟩, prog_1_method_16_code, 4, some .int)
abbrev me_X_led : gk_Y := (⟨"NeverInLine", "led", "(I)I"⟩, prog_1_method_17_code, 2, some .int)
abbrev me_Plain_guiltsWith : gk_Y := (⟨"NeverInLine$Plain", "guiltsWith", "(I)I"⟩, prog_5_method_31_code, 4, some .int)
abbrev me_Plain_guiltsOfPair : gk_Y := (⟨"NeverInLine$Plain", "guiltsOfPair", "(II)I"⟩, prog_5_method_32_code, 6, some .int)
abbrev me_X_seen : gk_Y := (⟨"NeverInLine", "seen", "(I)I"⟩, prog_1_method_18_code, 2, some .int)
abbrev me_Plain_seenFrom : gk_Y := (⟨"NeverInLine$Plain", "seenFrom", "(II)I"⟩, prog_5_method_34_code, 6, some .int)
abbrev me_Plain_joinSeen : gk_Y := (⟨"NeverInLine$Plain", "joinSeen", "(IIII)I"⟩, prog_5_method_35_code, 15, some .int)
abbrev me_X_free : gk_Y := (⟨"NeverInLine", "free", "(III)I"⟩, prog_1_method_19_code, 4, some .int)
abbrev me_Planner_freeInRow : gk_Y := (⟨"NeverInLine$Planner", "freeInRow", "(IIZ)I"⟩, prog_6_method_2_code, 7, some .int)
abbrev me_Plain_isFreeFor : gk_Y := (⟨"NeverInLine$Plain", "isFreeFor", "(II)Z"⟩, prog_5_method_33_code, 6, some .boolean)
abbrev me_Plain_hasCorner : gk_Y := (⟨"NeverInLine$Plain", "hasCorner", "(I)Z"⟩, prog_5_method_17_code, 4, some .boolean)
abbrev me_X_years : gk_Y := (⟨"NeverInLine", "years", "(II)I"⟩, prog_1_method_20_code, 3, some .int)
abbrev me_Planner_settle : gk_Y := (⟨"NeverInLine$Planner", "settle", "(IZ)I"⟩, prog_6_method_3_code, 8, some .int)
abbrev me_X_fewest : gk_Y := (⟨"NeverInLine", "fewest", "()I"⟩, prog_1_method_21_code, 1, some .int)
abbrev me_Planner_findQuarrels : gk_Y := (⟨"NeverInLine$Planner", "findQuarrels", "()V"⟩, prog_6_method_5_code, 3, none)
abbrev me_Planner_leastToGo : gk_Y := (⟨"NeverInLine$Planner", "leastToGo", "(Z)I"⟩, prog_6_method_4_code, 6, some .int)
abbrev me_Planner_priceOf : gk_Y := (⟨"NeverInLine$Planner", "priceOf", "(I)I"⟩, prog_6_method_7_code, 4, some .int)
abbrev me_Integer_bitCount : gk_Y := (⟨"java/lang/Integer", "bitCount", "(I)I"⟩, prog_13_method_49_code, 1, some .int)
abbrev me_Planner_leavesPeace : gk_Y := (⟨"NeverInLine$Planner", "leavesPeace", "(I)Z"⟩, prog_6_method_6_code, 3, some .boolean)
abbrev me_X_cheapest : gk_Y := (⟨"NeverInLine", "cheapest", "(I)I"⟩, prog_1_method_22_code, 3, some .int)
abbrev me_X_moved : gk_Y := (⟨"NeverInLine", "moved", "(II)I"⟩, prog_1_method_23_code, 6, some .int)
abbrev me_Planner_target : gk_Y := (⟨"NeverInLine$Planner", "target", "(III)I"⟩, prog_6_method_8_code, 7, some .int)
abbrev me_X_bent : gk_Y := (⟨"NeverInLine", "bent", "(II)I"⟩, prog_1_method_24_code, 4, some .int)
abbrev me_Planner_bestBend : gk_Y := (⟨"NeverInLine$Planner", "bestBend", "(II)I"⟩, prog_6_method_9_code, 9, some .int)
abbrev me_X_newly : gk_Y := (⟨"NeverInLine", "newly", "(II)I"⟩, prog_1_method_25_code, 3, some .int)
abbrev me_Planner_stepsBetween : gk_Y := (⟨"NeverInLine$Planner", "stepsBetween", "(II)I"⟩, prog_6_method_10_code, 7, some .int)
abbrev me_Planner_isClear : gk_Y := (⟨"NeverInLine$Planner", "isClear", "(I)Z"⟩, prog_6_method_12_code, 4, some .boolean)
abbrev me_Planner_neighbour : gk_Y := (⟨"NeverInLine$Planner", "neighbour", "(II)I"⟩, prog_6_method_11_code, 2, some .int)
abbrev me_X_game : gk_Y := (⟨"NeverInLine", "game", "(III)I"⟩, prog_1_method_26_code, 6, some .int)
abbrev me_Game_layOut : gk_Y := (⟨"NeverInLine$Game", "layOut", "(III)V"⟩, prog_2_method_2_code, 5, none)
abbrev me_Game_pointOf : gk_Y := (⟨"NeverInLine$Game", "pointOf", "(I)I"⟩, prog_2_method_5_code, 2, some .int)
abbrev me_Game_findClashes : gk_Y := (⟨"NeverInLine$Game", "findClashes", "()V"⟩, prog_2_method_3_code, 3, none)
abbrev me_Game_firstWinner : gk_Y := (⟨"NeverInLine$Game", "firstWinner", "()I"⟩, prog_2_method_4_code, 3, some .int)
abbrev me_Game_winningCell : gk_Y := (⟨"NeverInLine$Game", "winningCell", "(I)I"⟩, prog_2_method_6_code, 4, some .int)
abbrev me_X_sight : gk_Y := (⟨"NeverInLine", "sight", "(II)I"⟩, prog_1_method_27_code, 3, some .int)
abbrev me_Walker_tell : gk_Y := (⟨"NeverInLine$Walker", "tell", "(II)I"⟩, prog_9_method_2_code, 3, some .int)
abbrev me_X_fits : gk_Y := (⟨"NeverInLine", "fits", "(II)I"⟩, prog_1_method_28_code, 3, some .int)
abbrev me_Walker_placesFor : gk_Y := (⟨"NeverInLine$Walker", "placesFor", "(IZ)I"⟩, prog_9_method_3_code, 7, some .int)
abbrev me_Walker_agrees : gk_Y := (⟨"NeverInLine$Walker", "agrees", "(I)Z"⟩, prog_9_method_4_code, 4, some .boolean)
abbrev me_X_undo : gk_Y := (⟨"NeverInLine", "undo", "()I"⟩, prog_1_method_29_code, 1, some .int)
abbrev me_History_back : gk_Y := (⟨"NeverInLine$History", "back", "()I"⟩, prog_3_method_4_code, 1, some .int)
abbrev me_X_redo : gk_Y := (⟨"NeverInLine", "redo", "()I"⟩, prog_1_method_30_code, 1, some .int)
abbrev me_History_forth : gk_Y := (⟨"NeverInLine$History", "forth", "()I"⟩, prog_3_method_5_code, 1, some .int)
abbrev me_X_body : gk_Y := (⟨"NeverInLine", "body", "(I)I"⟩, prog_1_method_31_code, 2, some .int)
abbrev me_Ways_isKind : gk_Y := (⟨"NeverInLine$Ways", "isKind", "(I)Z"⟩, prog_10_method_2_code, 1, some .boolean)
abbrev me_Ways_add : gk_Y := (⟨"NeverInLine$Ways", "add", "(I)I"⟩, prog_10_method_6_code, 2, some .int)
abbrev me_X_act : gk_Y := (⟨"NeverInLine", "act", "(III)I"⟩, prog_1_method_32_code, 4, some .int)
abbrev me_Ways_perform : gk_Y := (⟨"NeverInLine$Ways", "perform", "(III)I"⟩, prog_10_method_8_code, 4, some .int)
abbrev me_Ways_isBody : gk_Y := (⟨"NeverInLine$Ways", "isBody", "(I)Z"⟩, prog_10_method_4_code, 2, some .boolean)
abbrev me_Ways_own : gk_Y := (⟨"NeverInLine$Ways", "own", "(III)I"⟩, prog_10_method_9_code, 4, some .int)
abbrev me_Ways_from : gk_Y := (⟨"NeverInLine$Ways", "from", "(IIII)I"⟩, prog_10_method_10_code, 7, some .int)
abbrev me_Ways_run : gk_Y := (⟨"NeverInLine$Ways", "run", "(III)I"⟩, prog_10_method_11_code, 4, some .int)
abbrev me_X_trace : gk_Y := (⟨"NeverInLine", "trace", "(I)I"⟩, prog_1_method_33_code, 2, some .int)
abbrev me_Ways_traced : gk_Y := (⟨"NeverInLine$Ways", "traced", "(I)I"⟩, prog_10_method_7_code, 2, some .int)
abbrev me_X_keep : gk_Y := (⟨"NeverInLine", "keep", "(II)I"⟩, prog_1_method_34_code, 3, some .int)
abbrev me_Shelf_holdBody : gk_Y := (⟨"NeverInLine$Shelf", "holdBody", "(I)V"⟩, prog_8_method_5_code, 2, none)
abbrev me_X_row : gk_Y := (⟨"NeverInLine", "row", "(III)I"⟩, prog_1_method_35_code, 4, some .int)
abbrev me_Shelf_holdRow : gk_Y := (⟨"NeverInLine$Shelf", "holdRow", "(II)V"⟩, prog_8_method_6_code, 3, none)
abbrev me_Arrays_fillJ : gk_Y := (⟨"java/util/Arrays", "fill", "([JJ)V"⟩, prog_16_method_101_code, 5, none)
abbrev me_X_put : gk_Y := (⟨"NeverInLine", "put", "(IIJ)I"⟩, prog_1_method_36_code, 6, some .int)
abbrev me_X_cellRefusal : gk_Y := (⟨"NeverInLine", "cellRefusal", "(II)I"⟩, prog_1_method_48_code, 4, some .int)
abbrev me_Shelf_setCell : gk_Y := (⟨"NeverInLine$Shelf", "setCell", "(IJ)V"⟩, prog_8_method_8_code, 4, none)
abbrev me_Shelf_narrowed : gk_Y := (⟨"NeverInLine$Shelf", "narrowed", "(J)J"⟩, prog_8_method_9_code, 3, some .long)
abbrev me_X_element : gk_Y := (⟨"NeverInLine", "element", "(II)J"⟩, prog_1_method_37_code, 3, some .long)
abbrev me_X_shift : gk_Y := (⟨"NeverInLine", "shift", "(IIIII)I"⟩, prog_1_method_38_code, 8, some .int)
abbrev me_X_taken : gk_Y := (⟨"NeverInLine", "taken", "(II)I"⟩, prog_1_method_39_code, 5, some .int)
abbrev me_Ways_kindOf : gk_Y := (⟨"NeverInLine$Ways", "kindOf", "(I)I"⟩, prog_10_method_5_code, 2, some .int)
abbrev me_Ways_isUnder : gk_Y := (⟨"NeverInLine$Ways", "isUnder", "(II)Z"⟩, prog_10_method_3_code, 4, some .boolean)
abbrev me_X_count : gk_Y := (⟨"NeverInLine", "count", "(I)I"⟩, prog_1_method_40_code, 2, some .int)
abbrev me_M_undo : gk_Y := (⟨"NeverInLineModel", "undo", "()I"⟩, prog_12_method_4_code, 1, some .int)
abbrev me_M_redo : gk_Y := (⟨"NeverInLineModel", "redo", "()I"⟩, prog_12_method_5_code, 1, some .int)
abbrev me_M_tower : gk_Y := (⟨"NeverInLineModel", "tower", "(II)I"⟩, prog_12_method_12_code, 3, some .int)
abbrev me_M_mayStand : gk_Y := (⟨"NeverInLineModel", "mayStand", "(JJJ)Z"⟩, prog_12_method_10_code, 7, some .boolean)
abbrev me_M_within : gk_Y := (⟨"NeverInLineModel", "within", "(JJJ)Z"⟩, prog_12_method_1_code, 6, some .boolean)
abbrev me_M_isFreeOf : gk_Y := (⟨"NeverInLineModel", "isFreeOf", "(II)Z"⟩, prog_12_method_9_code, 4, some .boolean)
abbrev me_M_adds : gk_Y := (⟨"NeverInLineModel", "adds", "(IIII)V"⟩, prog_12_method_11_code, 5, none)
abbrev me_M_towers : gk_Y := (⟨"NeverInLineModel", "towers", "(III)I"⟩, prog_12_method_13_code, 7, some .int)
abbrev me_M_isShelf : gk_Y := (⟨"NeverInLineModel", "isShelf", "(I)Z"⟩, prog_12_method_102_code, 1, some .boolean)
abbrev me_M_road : gk_Y := (⟨"NeverInLineModel", "road", "(II)I"⟩, prog_12_method_14_code, 3, some .int)
abbrev me_M_isPoint : gk_Y := (⟨"NeverInLineModel", "isPoint", "(I)Z"⟩, prog_12_method_6_code, 1, some .boolean)
abbrev me_M_corner : gk_Y := (⟨"NeverInLineModel", "corner", "(II)I"⟩, prog_12_method_15_code, 3, some .int)
abbrev me_M_isRoad : gk_Y := (⟨"NeverInLineModel", "isRoad", "(I)Z"⟩, prog_12_method_8_code, 2, some .boolean)
abbrev me_M_forest : gk_Y := (⟨"NeverInLineModel", "forest", "(II)I"⟩, prog_12_method_16_code, 3, some .int)
abbrev me_M_mend : gk_Y := (⟨"NeverInLineModel", "mend", "(III)I"⟩, prog_12_method_17_code, 4, some .int)
abbrev me_M_isTower : gk_Y := (⟨"NeverInLineModel", "isTower", "(I)Z"⟩, prog_12_method_7_code, 2, some .boolean)
abbrev me_M_becomes : gk_Y := (⟨"NeverInLineModel", "becomes", "(II)I"⟩, prog_12_method_3_code, 5, some .int)
abbrev me_M_of : gk_Y := (⟨"NeverInLineModel", "of", "(II)I"⟩, prog_12_method_18_code, 3, some .int)
abbrev me_M_feed : gk_Y := (⟨"NeverInLineModel", "feed", "(I)I"⟩, prog_12_method_21_code, 2, some .int)
abbrev me_M_law : gk_Y := (⟨"NeverInLineModel", "law", "()I"⟩, prog_12_method_33_code, 4, some .int)
abbrev me_M_workOut : gk_Y := (⟨"NeverInLineModel", "workOut", "(II)I"⟩, prog_12_method_32_code, 8, some .int)
abbrev me_M_either : gk_Y := (⟨"NeverInLineModel", "either", "()I"⟩, prog_12_method_25_code, 3, some .int)
abbrev me_M_both : gk_Y := (⟨"NeverInLineModel", "both", "()I"⟩, prog_12_method_26_code, 3, some .int)
abbrev me_M_compared : gk_Y := (⟨"NeverInLineModel", "compared", "()I"⟩, prog_12_method_27_code, 4, some .int)
abbrev me_M_sums : gk_Y := (⟨"NeverInLineModel", "sums", "()I"⟩, prog_12_method_28_code, 4, some .int)
abbrev me_M_product : gk_Y := (⟨"NeverInLineModel", "product", "()I"⟩, prog_12_method_29_code, 4, some .int)
abbrev me_M_one : gk_Y := (⟨"NeverInLineModel", "one", "()I"⟩, prog_12_method_31_code, 5, some .int)
abbrev me_M_byteAt : gk_Y := (⟨"NeverInLineModel", "byteAt", "()I"⟩, prog_12_method_22_code, 1, some .int)
abbrev me_M_wrong : gk_Y := (⟨"NeverInLineModel", "wrong", "()I"⟩, prog_12_method_23_code, 1, some .int)
abbrev me_M_takes : gk_Y := (⟨"NeverInLineModel", "takes", "(I)Z"⟩, prog_12_method_24_code, 2, some .boolean)
abbrev me_M_nameOf : gk_Y := (⟨"NeverInLineModel", "nameOf", "(I)I"⟩, prog_12_method_30_code, 1, some .int)
abbrev me_M_line : gk_Y := (⟨"NeverInLineModel", "line", "(III)I"⟩, prog_12_method_46_code, 4, some .int)
abbrev me_M_areTwo : gk_Y := (⟨"NeverInLineModel", "areTwo", "(I)Z"⟩, prog_12_method_45_code, 2, some .boolean)
abbrev me_M_inLineAt : gk_Y := (⟨"NeverInLineModel", "inLineAt", "(IIII)Z"⟩, prog_12_method_44_code, 5, some .boolean)
abbrev me_M_inLine : gk_Y := (⟨"NeverInLineModel", "inLine", "(JJJIII)Z"⟩, prog_12_method_43_code, 11, some .boolean)
abbrev me_M_isBehind : gk_Y := (⟨"NeverInLineModel", "isBehind", "(JJJII)Z"⟩, prog_12_method_41_code, 17, some .boolean)
abbrev me_M_isStopped : gk_Y := (⟨"NeverInLineModel", "isStopped", "(JJJI)Z"⟩, prog_12_method_40_code, 9, some .boolean)
abbrev me_M_stops : gk_Y := (⟨"NeverInLineModel", "stops", "(IJJJJJ)Z"⟩, prog_12_method_39_code, 24, some .boolean)
abbrev me_M_liesOn : gk_Y := (⟨"NeverInLineModel", "liesOn", "(JJJJJJ)Z"⟩, prog_12_method_38_code, 13, some .boolean)
abbrev me_M_side : gk_Y := (⟨"NeverInLineModel", "side", "(JJJJJJ)J"⟩, prog_12_method_35_code, 12, some .long)
abbrev me_M_isBetween : gk_Y := (⟨"NeverInLineModel", "isBetween", "(JJJ)Z"⟩, prog_12_method_36_code, 6, some .boolean)
abbrev me_M_areUnlike : gk_Y := (⟨"NeverInLineModel", "areUnlike", "(JJ)Z"⟩, prog_12_method_37_code, 4, some .boolean)
abbrev me_M_farOf : gk_Y := (⟨"NeverInLineModel", "farOf", "(JJJI)J"⟩, prog_12_method_42_code, 12, some .long)
abbrev me_M_counts : gk_Y := (⟨"NeverInLineModel", "counts", "(III)Z"⟩, prog_12_method_34_code, 4, some .boolean)
abbrev me_M_heightOf : gk_Y := (⟨"NeverInLineModel", "heightOf", "(I)I"⟩, prog_12_method_19_code, 2, some .int)
abbrev me_M_oldOf : gk_Y := (⟨"NeverInLineModel", "oldOf", "(I)I"⟩, prog_12_method_20_code, 2, some .int)
abbrev me_M_guilty : gk_Y := (⟨"NeverInLineModel", "guilty", "(III)I"⟩, prog_12_method_53_code, 6, some .int)
abbrev me_M_isStretch : gk_Y := (⟨"NeverInLineModel", "isStretch", "(I)Z"⟩, prog_12_method_52_code, 2, some .boolean)
abbrev me_M_isGuiltyOn : gk_Y := (⟨"NeverInLineModel", "isGuiltyOn", "(IIII)Z"⟩, prog_12_method_51_code, 5, some .boolean)
abbrev me_M_cornerOf : gk_Y := (⟨"NeverInLineModel", "cornerOf", "(II)I"⟩, prog_12_method_50_code, 3, some .int)
abbrev me_M_isGuilty : gk_Y := (⟨"NeverInLineModel", "isGuilty", "(IIIII)Z"⟩, prog_12_method_49_code, 22, some .boolean)
abbrev me_M_isAlong : gk_Y := (⟨"NeverInLineModel", "isAlong", "(IIIII)Z"⟩, prog_12_method_48_code, 6, some .boolean)
abbrev me_M_common : gk_Y := (⟨"NeverInLineModel", "common", "(JJ)J"⟩, prog_12_method_47_code, 10, some .long)
abbrev me_M_guilts : gk_Y := (⟨"NeverInLineModel", "guilts", "(I)I"⟩, prog_12_method_57_code, 2, some .int)
abbrev me_M_allGuilts : gk_Y := (⟨"NeverInLineModel", "allGuilts", "()I"⟩, prog_12_method_56_code, 3, some .int)
abbrev me_M_guiltsOf : gk_Y := (⟨"NeverInLineModel", "guiltsOf", "(I)I"⟩, prog_12_method_55_code, 4, some .int)
abbrev me_M_guiltsOn : gk_Y := (⟨"NeverInLineModel", "guiltsOn", "(II)I"⟩, prog_12_method_54_code, 6, some .int)
abbrev me_M_which : gk_Y := (⟨"NeverInLineModel", "which", "(I)I"⟩, prog_12_method_59_code, 5, some .int)
abbrev me_M_firstOn : gk_Y := (⟨"NeverInLineModel", "firstOn", "(II)I"⟩, prog_12_method_58_code, 5, some .int)
abbrev me_M_led : gk_Y := (⟨"NeverInLineModel", "led", "(I)I"⟩, prog_12_method_61_code, 2, some .int)
abbrev me_M_guiltsWith : gk_Y := (⟨"NeverInLineModel", "guiltsWith", "(II)I"⟩, prog_12_method_60_code, 7, some .int)
abbrev me_M_seen : gk_Y := (⟨"NeverInLineModel", "seen", "(I)I"⟩, prog_12_method_64_code, 2, some .int)
abbrev me_M_seenFrom : gk_Y := (⟨"NeverInLineModel", "seenFrom", "(I)I"⟩, prog_12_method_63_code, 5, some .int)
abbrev me_M_isHidden : gk_Y := (⟨"NeverInLineModel", "isHidden", "(III)Z"⟩, prog_12_method_62_code, 9, some .boolean)
abbrev me_M_free : gk_Y := (⟨"NeverInLineModel", "free", "(III)I"⟩, prog_12_method_67_code, 7, some .int)
abbrev me_M_isFree : gk_Y := (⟨"NeverInLineModel", "isFree", "(IIII)Z"⟩, prog_12_method_66_code, 8, some .boolean)
abbrev me_M_isCorner : gk_Y := (⟨"NeverInLineModel", "isCorner", "(I)Z"⟩, prog_12_method_65_code, 4, some .boolean)
abbrev me_M_years : gk_Y := (⟨"NeverInLineModel", "years", "(II)I"⟩, prog_12_method_69_code, 7, some .int)
abbrev me_M_firstFree : gk_Y := (⟨"NeverInLineModel", "firstFree", "(II)I"⟩, prog_12_method_68_code, 4, some .int)
abbrev me_M_fewest : gk_Y := (⟨"NeverInLineModel", "fewest", "()I"⟩, prog_12_method_75_code, 1, some .int)
abbrev me_M_leastSet : gk_Y := (⟨"NeverInLineModel", "leastSet", "(Z)I"⟩, prog_12_method_74_code, 4, some .int)
abbrev me_M_findAgainst : gk_Y := (⟨"NeverInLineModel", "findAgainst", "()V"⟩, prog_12_method_71_code, 3, none)
abbrev me_M_areAgainst : gk_Y := (⟨"NeverInLineModel", "areAgainst", "(II)Z"⟩, prog_12_method_70_code, 5, some .boolean)
abbrev me_M_isLawfulWithout : gk_Y := (⟨"NeverInLineModel", "isLawfulWithout", "(I)Z"⟩, prog_12_method_72_code, 3, some .boolean)
abbrev me_M_priceOf : gk_Y := (⟨"NeverInLineModel", "priceOf", "(IZ)I"⟩, prog_12_method_73_code, 5, some .int)
abbrev me_M_cheapest : gk_Y := (⟨"NeverInLineModel", "cheapest", "(I)I"⟩, prog_12_method_76_code, 3, some .int)
abbrev me_M_moved : gk_Y := (⟨"NeverInLineModel", "moved", "(II)I"⟩, prog_12_method_77_code, 8, some .int)
abbrev me_M_bent : gk_Y := (⟨"NeverInLineModel", "bent", "(II)I"⟩, prog_12_method_79_code, 11, some .int)
abbrev me_M_guiltsBetween : gk_Y := (⟨"NeverInLineModel", "guiltsBetween", "(III)I"⟩, prog_12_method_78_code, 7, some .int)
abbrev me_M_newly : gk_Y := (⟨"NeverInLineModel", "newly", "(II)I"⟩, prog_12_method_82_code, 6, some .int)
abbrev me_M_seesNone : gk_Y := (⟨"NeverInLineModel", "seesNone", "(I)Z"⟩, prog_12_method_80_code, 4, some .boolean)
abbrev me_M_joins : gk_Y := (⟨"NeverInLineModel", "joins", "(III)I"⟩, prog_12_method_81_code, 4, some .int)
abbrev me_M_game : gk_Y := (⟨"NeverInLineModel", "game", "(III)I"⟩, prog_12_method_86_code, 5, some .int)
abbrev me_M_bitsOf : gk_Y := (⟨"NeverInLineModel", "bitsOf", "(I)I"⟩, prog_12_method_87_code, 3, some .int)
abbrev me_M_looksAt : gk_Y := (⟨"NeverInLineModel", "looksAt", "(I)V"⟩, prog_12_method_85_code, 5, none)
abbrev me_M_laysOut : gk_Y := (⟨"NeverInLineModel", "laysOut", "(I)I"⟩, prog_12_method_84_code, 4, some .int)
abbrev me_M_gamePoint : gk_Y := (⟨"NeverInLineModel", "gamePoint", "(I)I"⟩, prog_12_method_83_code, 2, some .int)
abbrev me_M_sight : gk_Y := (⟨"NeverInLineModel", "sight", "(II)I"⟩, prog_12_method_88_code, 3, some .int)
abbrev me_M_fits : gk_Y := (⟨"NeverInLineModel", "fits", "(II)I"⟩, prog_12_method_90_code, 7, some .int)
abbrev me_M_allSights : gk_Y := (⟨"NeverInLineModel", "allSights", "()Z"⟩, prog_12_method_89_code, 2, some .boolean)
abbrev me_M_body : gk_Y := (⟨"NeverInLineModel", "body", "(I)I"⟩, prog_12_method_93_code, 2, some .int)
abbrev me_M_act : gk_Y := (⟨"NeverInLineModel", "act", "(III)I"⟩, prog_12_method_100_code, 4, some .int)
abbrev me_M_isBody : gk_Y := (⟨"NeverInLineModel", "isBody", "(I)Z"⟩, prog_12_method_91_code, 2, some .boolean)
abbrev me_M_hidesAs : gk_Y := (⟨"NeverInLineModel", "hidesAs", "(II)I"⟩, prog_12_method_96_code, 3, some .int)
abbrev me_M_begins : gk_Y := (⟨"NeverInLineModel", "begins", "(I)V"⟩, prog_12_method_95_code, 2, none)
abbrev me_M_standsAs : gk_Y := (⟨"NeverInLineModel", "standsAs", "(II)I"⟩, prog_12_method_97_code, 4, some .int)
abbrev me_M_linesAs : gk_Y := (⟨"NeverInLineModel", "linesAs", "(II)I"⟩, prog_12_method_98_code, 4, some .int)
abbrev me_M_tellsAs : gk_Y := (⟨"NeverInLineModel", "tellsAs", "(II)I"⟩, prog_12_method_99_code, 4, some .int)
abbrev me_M_trace : gk_Y := (⟨"NeverInLineModel", "trace", "(I)I"⟩, prog_12_method_101_code, 2, some .int)
abbrev me_M_keep : gk_Y := (⟨"NeverInLineModel", "keep", "(II)I"⟩, prog_12_method_103_code, 3, some .int)
abbrev me_M_row : gk_Y := (⟨"NeverInLineModel", "row", "(III)I"⟩, prog_12_method_104_code, 5, some .int)
abbrev me_M_put : gk_Y := (⟨"NeverInLineModel", "put", "(IIJ)I"⟩, prog_12_method_107_code, 6, some .int)
abbrev me_M_refusal : gk_Y := (⟨"NeverInLineModel", "refusal", "(II)I"⟩, prog_12_method_105_code, 3, some .int)
abbrev me_M_asSort : gk_Y := (⟨"NeverInLineModel", "asSort", "(IJ)J"⟩, prog_12_method_106_code, 3, some .long)
abbrev me_M_element : gk_Y := (⟨"NeverInLineModel", "element", "(II)J"⟩, prog_12_method_108_code, 3, some .long)
abbrev me_M_shift : gk_Y := (⟨"NeverInLineModel", "shift", "(IIIII)I"⟩, prog_12_method_109_code, 7, some .int)
abbrev me_M_taken : gk_Y := (⟨"NeverInLineModel", "taken", "(II)I"⟩, prog_12_method_110_code, 4, some .int)
abbrev me_M_kindOf : gk_Y := (⟨"NeverInLineModel", "kindOf", "(I)I"⟩, prog_12_method_92_code, 2, some .int)
abbrev me_M_above : gk_Y := (⟨"NeverInLineModel", "above", "(I)I"⟩, prog_12_method_94_code, 1, some .int)
abbrev me_M_count : gk_Y := (⟨"NeverInLineModel", "count", "(I)I"⟩, prog_12_method_111_code, 2, some .int)
theorem li_L : Cond.initialized "NeverInLineLaw" ∈ gk_W := (gk_t1 0 rfl rfl)
theorem li_X : Cond.initialized "NeverInLine" ∈ gk_W := (gk_t1 1 rfl rfl)
theorem li_Law : Cond.initialized "NeverInLine$Law" ∈ gk_W := (gk_t1 2 rfl rfl)
theorem li_Reader : Cond.initialized "NeverInLine$Reader" ∈ gk_W := (gk_t1 3 rfl rfl)
theorem li_Plain : Cond.initialized "NeverInLine$Plain" ∈ gk_W := (gk_t1 4 rfl rfl)
theorem li_Planner : Cond.initialized "NeverInLine$Planner" ∈ gk_W := (gk_t1 5 rfl rfl)
theorem li_Game : Cond.initialized "NeverInLine$Game" ∈ gk_W := (gk_t1 6 rfl rfl)
theorem li_Walker : Cond.initialized "NeverInLine$Walker" ∈ gk_W := (gk_t1 7 rfl rfl)
theorem li_History : Cond.initialized "NeverInLine$History" ∈ gk_W := (gk_t1 8 rfl rfl)
theorem li_Ways : Cond.initialized "NeverInLine$Ways" ∈ gk_W := (gk_t1 9 rfl rfl)
theorem li_Shelf : Cond.initialized "NeverInLine$Shelf" ∈ gk_W := (gk_t1 10 rfl rfl)
theorem li_M : Cond.initialized "NeverInLineModel" ∈ gk_W := (gk_t1 11 rfl rfl)
theorem li_Arrays : Cond.initialized "java/util/Arrays" ∈ gk_W := (gk_t1 12 rfl rfl)
theorem li_Math : Cond.initialized "java/lang/Math" ∈ gk_W := (gk_t1 13 rfl rfl)
theorem li_java_lang_System : Cond.initialized "java/lang/System" ∈ gk_W := (gk_t1 14 rfl rfl)
theorem li_Integer : Cond.initialized "java/lang/Integer" ∈ gk_W := (gk_t1 15 rfl rfl)
theorem mc_X_tower : gk_MC me_X_tower 2 := ⟨(gk_t2 76 rfl rfl), li_X, ⟨by decide, by decide, by decide +kernel⟩, by decide, by decide⟩
theorem mc_Plain_build : gk_MC me_Plain_build 4 := ⟨(gk_t2 80 rfl rfl), li_Plain, ⟨by decide, by decide, by decide +kernel⟩, by decide, by decide⟩
theorem mc_X_isPoint : gk_MC me_X_isPoint 1 := ⟨(gk_t2 83 rfl rfl), li_X, ⟨by decide, by decide, by decide +kernel⟩, by decide, by decide⟩
theorem mc_X_isHeight : gk_MC me_X_isHeight 1 := ⟨(gk_t2 86 rfl rfl), li_X, ⟨by decide, by decide, by decide +kernel⟩, by decide, by decide⟩
theorem mc_Plain_most : gk_MC me_Plain_most 1 := ⟨(gk_t2 90 rfl rfl), li_Plain, ⟨by decide, by decide, by decide +kernel⟩, by decide, by decide⟩
theorem mc_Plain_hasTower : gk_MC me_Plain_hasTower 1 := ⟨(gk_t2 94 rfl rfl), li_Plain, ⟨by decide, by decide, by decide +kernel⟩, by decide, by decide⟩
theorem mc_Plain_pointOf : gk_MC me_Plain_pointOf 1 := ⟨(gk_t2 98 rfl rfl), li_Plain, ⟨by decide, by decide, by decide +kernel⟩, by decide, by decide⟩
theorem mc_Plain_place : gk_MC me_Plain_place 2 := ⟨(gk_t2 102 rfl rfl), li_Plain, ⟨by decide, by decide, by decide +kernel⟩, by decide, by decide⟩
theorem mc_Plain_think : gk_MC me_Plain_think 2 := ⟨(gk_t2 106 rfl rfl), li_Plain, ⟨by decide, by decide, by decide +kernel⟩, by decide, by decide⟩
theorem mc_Plain_forgetVerdicts : gk_MC me_Plain_forgetVerdicts 0 := ⟨(gk_t2 110 rfl rfl), li_Plain, ⟨by decide, by decide, by decide +kernel⟩, by decide, by decide⟩
theorem mc_Arrays_fillI : gk_MC me_Arrays_fillI 2 := ⟨(gk_t2 113 rfl rfl), li_Arrays, ⟨by decide, by decide, by decide +kernel⟩, by decide, by decide⟩
theorem mc_X_towers : gk_MC me_X_towers 3 := ⟨(gk_t2 117 rfl rfl), li_X, ⟨by decide, by decide, by decide +kernel⟩, by decide, by decide⟩
theorem mc_X_isShelf : gk_MC me_X_isShelf 1 := ⟨(gk_t2 120 rfl rfl), li_X, ⟨by decide, by decide, by decide +kernel⟩, by decide, by decide⟩
theorem mc_Shelf_isEmpty : gk_MC me_Shelf_isEmpty 0 := ⟨(gk_t2 124 rfl rfl), li_Shelf, ⟨by decide, by decide, by decide +kernel⟩, by decide, by decide⟩
theorem mc_Shelf_isRowOf : gk_MC me_Shelf_isRowOf 1 := ⟨(gk_t2 128 rfl rfl), li_Shelf, ⟨by decide, by decide, by decide +kernel⟩, by decide, by decide⟩
theorem mc_Shelf_isRow : gk_MC me_Shelf_isRow 0 := ⟨(gk_t2 132 rfl rfl), li_Shelf, ⟨by decide, by decide, by decide +kernel⟩, by decide, by decide⟩
theorem mc_Shelf_spans : gk_MC me_Shelf_spans 2 := ⟨(gk_t2 136 rfl rfl), li_Shelf, ⟨by decide, by decide, by decide +kernel⟩, by decide, by decide⟩
theorem mc_X_road : gk_MC me_X_road 2 := ⟨(gk_t2 140 rfl rfl), li_X, ⟨by decide, by decide, by decide +kernel⟩, by decide, by decide⟩
theorem mc_Plain_addRoad : gk_MC me_Plain_addRoad 2 := ⟨(gk_t2 145 rfl rfl), li_Plain, ⟨by decide, by decide, by decide +kernel⟩, by decide, by decide⟩
theorem mc_X_corner : gk_MC me_X_corner 2 := ⟨(gk_t2 149 rfl rfl), li_X, ⟨by decide, by decide, by decide +kernel⟩, by decide, by decide⟩
theorem mc_Plain_isRoad : gk_MC me_Plain_isRoad 1 := ⟨(gk_t2 153 rfl rfl), li_Plain, ⟨by decide, by decide, by decide +kernel⟩, by decide, by decide⟩
theorem mc_Plain_cornerAt : gk_MC me_Plain_cornerAt 2 := ⟨(gk_t2 157 rfl rfl), li_Plain, ⟨by decide, by decide, by decide +kernel⟩, by decide, by decide⟩
theorem mc_Plain_addCorner : gk_MC me_Plain_addCorner 2 := ⟨(gk_t2 161 rfl rfl), li_Plain, ⟨by decide, by decide, by decide +kernel⟩, by decide, by decide⟩
theorem mc_X_forest : gk_MC me_X_forest 2 := ⟨(gk_t2 165 rfl rfl), li_X, ⟨by decide, by decide, by decide +kernel⟩, by decide, by decide⟩
theorem mc_Plain_addForest : gk_MC me_Plain_addForest 2 := ⟨(gk_t2 169 rfl rfl), li_Plain, ⟨by decide, by decide, by decide +kernel⟩, by decide, by decide⟩
theorem mc_X_feed : gk_MC me_X_feed 1 := ⟨(gk_t2 173 rfl rfl), li_X, ⟨by decide, by decide, by decide +kernel⟩, by decide, by decide⟩
theorem mc_Reader_take : gk_MC me_Reader_take 1 := ⟨(gk_t2 177 rfl rfl), li_Reader, ⟨by decide, by decide, by decide +kernel⟩, by decide, by decide⟩
theorem mc_X_law : gk_MC me_X_law 0 := ⟨(gk_t2 181 rfl rfl), li_X, ⟨by decide, by decide, by decide +kernel⟩, by decide, by decide⟩
theorem mc_Reader_read : gk_MC me_Reader_read 0 := ⟨(gk_t2 185 rfl rfl), li_Reader, ⟨by decide, by decide, by decide +kernel⟩, by decide, by decide⟩
theorem mc_Reader_readLine : gk_MC me_Reader_readLine 0 := ⟨(gk_t2 189 rfl rfl), li_Reader, ⟨by decide, by decide, by decide +kernel⟩, by decide, by decide⟩
theorem mc_Reader_readLevel : gk_MC me_Reader_readLevel 2 := ⟨(gk_t2 193 rfl rfl), li_Reader, ⟨by decide, by decide, by decide +kernel⟩, by decide, by decide⟩
theorem mc_Reader_readOperand : gk_MC me_Reader_readOperand 1 := ⟨(gk_t2 197 rfl rfl), li_Reader, ⟨by decide, by decide, by decide +kernel⟩, by decide, by decide⟩
theorem mc_Reader_next : gk_MC me_Reader_next 0 := ⟨(gk_t2 201 rfl rfl), li_Reader, ⟨by decide, by decide, by decide +kernel⟩, by decide, by decide⟩
theorem mc_Reader_readNumber : gk_MC me_Reader_readNumber 0 := ⟨(gk_t2 205 rfl rfl), li_Reader, ⟨by decide, by decide, by decide +kernel⟩, by decide, by decide⟩
theorem mc_Reader_draw : gk_MC me_Reader_draw 1 := ⟨(gk_t2 209 rfl rfl), li_Reader, ⟨by decide, by decide, by decide +kernel⟩, by decide, by decide⟩
theorem mc_Reader_nameOf : gk_MC me_Reader_nameOf 1 := ⟨(gk_t2 212 rfl rfl), li_Reader, ⟨by decide, by decide, by decide +kernel⟩, by decide, by decide⟩
theorem mc_Reader_close : gk_MC me_Reader_close 0 := ⟨(gk_t2 216 rfl rfl), li_Reader, ⟨by decide, by decide, by decide +kernel⟩, by decide, by decide⟩
theorem mc_Reader_levelOf : gk_MC me_Reader_levelOf 1 := ⟨(gk_t2 219 rfl rfl), li_Reader, ⟨by decide, by decide, by decide +kernel⟩, by decide, by decide⟩
theorem mc_Law_become : gk_MC me_Law_become 2 := ⟨(gk_t2 223 rfl rfl), li_Law, ⟨by decide, by decide, by decide +kernel⟩, by decide, by decide⟩
theorem mc_Reader_empty : gk_MC me_Reader_empty 0 := ⟨(gk_t2 234 rfl rfl), li_Reader, ⟨by decide, by decide, by decide +kernel⟩, by decide, by decide⟩
theorem mc_X_mend : gk_MC me_X_mend 3 := ⟨(gk_t2 238 rfl rfl), li_X, ⟨by decide, by decide, by decide +kernel⟩, by decide, by decide⟩
theorem mc_Plain_isTower : gk_MC me_Plain_isTower 1 := ⟨(gk_t3 2 rfl rfl), li_Plain, ⟨by decide, by decide, by decide +kernel⟩, by decide, by decide⟩
theorem mc_Plain_trait : gk_MC me_Plain_trait 2 := ⟨(gk_t3 7 rfl rfl), li_Plain, ⟨by decide, by decide, by decide +kernel⟩, by decide, by decide⟩
theorem mc_History_note : gk_MC me_History_note 4 := ⟨(gk_t3 11 rfl rfl), li_History, ⟨by decide, by decide, by decide +kernel⟩, by decide, by decide⟩
theorem mc_History_dropOldest : gk_MC me_History_dropOldest 0 := ⟨(gk_t3 15 rfl rfl), li_History, ⟨by decide, by decide, by decide +kernel⟩, by decide, by decide⟩
theorem mc_Plain_setTrait : gk_MC me_Plain_setTrait 3 := ⟨(gk_t3 20 rfl rfl), li_Plain, ⟨by decide, by decide, by decide +kernel⟩, by decide, by decide⟩
theorem mc_X_of : gk_MC me_X_of 2 := ⟨(gk_t3 24 rfl rfl), li_X, ⟨by decide, by decide, by decide +kernel⟩, by decide, by decide⟩
theorem mc_X_towerTells : gk_MC me_X_towerTells 2 := ⟨(gk_t3 28 rfl rfl), li_X, ⟨by decide, by decide, by decide +kernel⟩, by decide, by decide⟩
theorem mc_X_line : gk_MC me_X_line 3 := ⟨(gk_t3 33 rfl rfl), li_X, ⟨by decide, by decide, by decide +kernel⟩, by decide, by decide⟩
theorem mc_X_isPair : gk_MC me_X_isPair 1 := ⟨(gk_t3 37 rfl rfl), li_X, ⟨by decide, by decide, by decide +kernel⟩, by decide, by decide⟩
theorem mc_Plain_areInLine : gk_MC me_Plain_areInLine 4 := ⟨(gk_t3 41 rfl rfl), li_Plain, ⟨by decide, by decide, by decide +kernel⟩, by decide, by decide⟩
theorem mc_Plain_side : gk_MC me_Plain_side 4 := ⟨(gk_t3 45 rfl rfl), li_Plain, ⟨by decide, by decide, by decide +kernel⟩, by decide, by decide⟩
theorem mc_Plain_lineUp : gk_MC me_Plain_lineUp 6 := ⟨(gk_t3 49 rfl rfl), li_Plain, ⟨by decide, by decide, by decide +kernel⟩, by decide, by decide⟩
theorem mc_Plain_counts : gk_MC me_Plain_counts 3 := ⟨(gk_t3 56 rfl rfl), li_Plain, ⟨by decide, by decide, by decide +kernel⟩, by decide, by decide⟩
theorem mc_Law_verdict : gk_MC me_Law_verdict 1 := ⟨(gk_t3 64 rfl rfl), li_Law, ⟨by decide, by decide, by decide +kernel⟩, by decide, by decide⟩
theorem mc_Law_worked : gk_MC me_Law_worked 3 := ⟨(gk_t3 67 rfl rfl), li_Law, ⟨by decide, by decide, by decide +kernel⟩, by decide, by decide⟩
theorem mc_Plain_isStopped : gk_MC me_Plain_isStopped 6 := ⟨(gk_t3 71 rfl rfl), li_Plain, ⟨by decide, by decide, by decide +kernel⟩, by decide, by decide⟩
theorem mc_Plain_cuts : gk_MC me_Plain_cuts 7 := ⟨(gk_t3 75 rfl rfl), li_Plain, ⟨by decide, by decide, by decide +kernel⟩, by decide, by decide⟩
theorem mc_Plain_areBothOnOneSide : gk_MC me_Plain_areBothOnOneSide 2 := ⟨(gk_t3 78 rfl rfl), li_Plain, ⟨by decide, by decide, by decide +kernel⟩, by decide, by decide⟩
theorem mc_Plain_overlap : gk_MC me_Plain_overlap 4 := ⟨(gk_t3 81 rfl rfl), li_Plain, ⟨by decide, by decide, by decide +kernel⟩, by decide, by decide⟩
theorem mc_X_guilty : gk_MC me_X_guilty 3 := ⟨(gk_t3 85 rfl rfl), li_X, ⟨by decide, by decide, by decide +kernel⟩, by decide, by decide⟩
theorem mc_X_isStretch : gk_MC me_X_isStretch 1 := ⟨(gk_t3 89 rfl rfl), li_X, ⟨by decide, by decide, by decide +kernel⟩, by decide, by decide⟩
theorem mc_X_isChoice : gk_MC me_X_isChoice 2 := ⟨(gk_t3 92 rfl rfl), li_X, ⟨by decide, by decide, by decide +kernel⟩, by decide, by decide⟩
theorem mc_Plain_guiltBetween : gk_MC me_Plain_guiltBetween 5 := ⟨(gk_t3 96 rfl rfl), li_Plain, ⟨by decide, by decide, by decide +kernel⟩, by decide, by decide⟩
theorem mc_X_greatestDivisor : gk_MC me_X_greatestDivisor 2 := ⟨(gk_t3 99 rfl rfl), li_X, ⟨by decide, by decide, by decide +kernel⟩, by decide, by decide⟩
theorem mc_X_guilts : gk_MC me_X_guilts 1 := ⟨(gk_t3 104 rfl rfl), li_X, ⟨by decide, by decide, by decide +kernel⟩, by decide, by decide⟩
theorem mc_Plain_allGuilts : gk_MC me_Plain_allGuilts 0 := ⟨(gk_t3 108 rfl rfl), li_Plain, ⟨by decide, by decide, by decide +kernel⟩, by decide, by decide⟩
theorem mc_Plain_guiltsBetween : gk_MC me_Plain_guiltsBetween 4 := ⟨(gk_t3 114 rfl rfl), li_Plain, ⟨by decide, by decide, by decide +kernel⟩, by decide, by decide⟩
theorem mc_Plain_roadGuilts : gk_MC me_Plain_roadGuilts 1 := ⟨(gk_t3 119 rfl rfl), li_Plain, ⟨by decide, by decide, by decide +kernel⟩, by decide, by decide⟩
theorem mc_X_which : gk_MC me_X_which 1 := ⟨(gk_t3 123 rfl rfl), li_X, ⟨by decide, by decide, by decide +kernel⟩, by decide, by decide⟩
theorem mc_Plain_firstGuiltyPair : gk_MC me_Plain_firstGuiltyPair 2 := ⟨(gk_t3 127 rfl rfl), li_Plain, ⟨by decide, by decide, by decide +kernel⟩, by decide, by decide⟩
theorem mc_X_partOf : gk_MC me_X_partOf 4 := ⟨(gk_t3 130 rfl rfl), li_X, ⟨by decide, by decide, by decide +kernel⟩, by decide, by decide⟩
theorem mc_X_led : gk_MC me_X_led 1 := ⟨(gk_t3 134 rfl rfl), li_X, ⟨by decide, by decide, by decide +kernel⟩, by decide, by decide⟩
theorem mc_Plain_guiltsWith : gk_MC me_Plain_guiltsWith 1 := ⟨(gk_t3 138 rfl rfl), li_Plain, ⟨by decide, by decide, by decide +kernel⟩, by decide, by decide⟩
theorem mc_Plain_guiltsOfPair : gk_MC me_Plain_guiltsOfPair 2 := ⟨(gk_t3 142 rfl rfl), li_Plain, ⟨by decide, by decide, by decide +kernel⟩, by decide, by decide⟩
theorem mc_X_seen : gk_MC me_X_seen 1 := ⟨(gk_t3 146 rfl rfl), li_X, ⟨by decide, by decide, by decide +kernel⟩, by decide, by decide⟩
theorem mc_Plain_seenFrom : gk_MC me_Plain_seenFrom 2 := ⟨(gk_t3 150 rfl rfl), li_Plain, ⟨by decide, by decide, by decide +kernel⟩, by decide, by decide⟩
theorem mc_Plain_joinSeen : gk_MC me_Plain_joinSeen 4 := ⟨(gk_t3 154 rfl rfl), li_Plain, ⟨by decide, by decide, by decide +kernel⟩, by decide, by decide⟩
theorem mc_X_free : gk_MC me_X_free 3 := ⟨(gk_t3 158 rfl rfl), li_X, ⟨by decide, by decide, by decide +kernel⟩, by decide, by decide⟩
theorem mc_Planner_freeInRow : gk_MC me_Planner_freeInRow 3 := ⟨(gk_t3 163 rfl rfl), li_Planner, ⟨by decide, by decide, by decide +kernel⟩, by decide, by decide⟩
theorem mc_Plain_isFreeFor : gk_MC me_Plain_isFreeFor 2 := ⟨(gk_t3 168 rfl rfl), li_Plain, ⟨by decide, by decide, by decide +kernel⟩, by decide, by decide⟩
theorem mc_Plain_hasCorner : gk_MC me_Plain_hasCorner 1 := ⟨(gk_t3 172 rfl rfl), li_Plain, ⟨by decide, by decide, by decide +kernel⟩, by decide, by decide⟩
theorem mc_X_years : gk_MC me_X_years 2 := ⟨(gk_t3 176 rfl rfl), li_X, ⟨by decide, by decide, by decide +kernel⟩, by decide, by decide⟩
theorem mc_Planner_settle : gk_MC me_Planner_settle 2 := ⟨(gk_t3 180 rfl rfl), li_Planner, ⟨by decide, by decide, by decide +kernel⟩, by decide, by decide⟩
theorem mc_X_fewest : gk_MC me_X_fewest 0 := ⟨(gk_t3 184 rfl rfl), li_X, ⟨by decide, by decide, by decide +kernel⟩, by decide, by decide⟩
theorem mc_Planner_findQuarrels : gk_MC me_Planner_findQuarrels 0 := ⟨(gk_t3 188 rfl rfl), li_Planner, ⟨by decide, by decide, by decide +kernel⟩, by decide, by decide⟩
theorem mc_Planner_leastToGo : gk_MC me_Planner_leastToGo 1 := ⟨(gk_t3 194 rfl rfl), li_Planner, ⟨by decide, by decide, by decide +kernel⟩, by decide, by decide⟩
theorem mc_Planner_priceOf : gk_MC me_Planner_priceOf 1 := ⟨(gk_t3 199 rfl rfl), li_Planner, ⟨by decide, by decide, by decide +kernel⟩, by decide, by decide⟩
theorem mc_Integer_bitCount : gk_MC me_Integer_bitCount 1 := ⟨(gk_t3 202 rfl rfl), li_Integer, ⟨by decide, by decide, by decide +kernel⟩, by decide, by decide⟩
theorem mc_Planner_leavesPeace : gk_MC me_Planner_leavesPeace 1 := ⟨(gk_t3 209 rfl rfl), li_Planner, ⟨by decide, by decide, by decide +kernel⟩, by decide, by decide⟩
theorem mc_X_cheapest : gk_MC me_X_cheapest 1 := ⟨(gk_t3 213 rfl rfl), li_X, ⟨by decide, by decide, by decide +kernel⟩, by decide, by decide⟩
theorem mc_X_moved : gk_MC me_X_moved 2 := ⟨(gk_t3 218 rfl rfl), li_X, ⟨by decide, by decide, by decide +kernel⟩, by decide, by decide⟩
theorem mc_Planner_target : gk_MC me_Planner_target 3 := ⟨(gk_t3 222 rfl rfl), li_Planner, ⟨by decide, by decide, by decide +kernel⟩, by decide, by decide⟩
theorem mc_X_bent : gk_MC me_X_bent 2 := ⟨(gk_t3 229 rfl rfl), li_X, ⟨by decide, by decide, by decide +kernel⟩, by decide, by decide⟩
theorem mc_Planner_bestBend : gk_MC me_Planner_bestBend 2 := ⟨(gk_t3 233 rfl rfl), li_Planner, ⟨by decide, by decide, by decide +kernel⟩, by decide, by decide⟩
theorem mc_X_newly : gk_MC me_X_newly 2 := ⟨(gk_t3 239 rfl rfl), li_X, ⟨by decide, by decide, by decide +kernel⟩, by decide, by decide⟩
theorem mc_Planner_stepsBetween : gk_MC me_Planner_stepsBetween 2 := ⟨(gk_t4 3 rfl rfl), li_Planner, ⟨by decide, by decide, by decide +kernel⟩, by decide, by decide⟩
theorem mc_Planner_isClear : gk_MC me_Planner_isClear 1 := ⟨(gk_t4 7 rfl rfl), li_Planner, ⟨by decide, by decide, by decide +kernel⟩, by decide, by decide⟩
theorem mc_Planner_neighbour : gk_MC me_Planner_neighbour 2 := ⟨(gk_t4 11 rfl rfl), li_Planner, ⟨by decide, by decide, by decide +kernel⟩, by decide, by decide⟩
theorem mc_X_game : gk_MC me_X_game 3 := ⟨(gk_t4 15 rfl rfl), li_X, ⟨by decide, by decide, by decide +kernel⟩, by decide, by decide⟩
theorem mc_Game_layOut : gk_MC me_Game_layOut 3 := ⟨(gk_t4 19 rfl rfl), li_Game, ⟨by decide, by decide, by decide +kernel⟩, by decide, by decide⟩
theorem mc_Game_pointOf : gk_MC me_Game_pointOf 1 := ⟨(gk_t4 26 rfl rfl), li_Game, ⟨by decide, by decide, by decide +kernel⟩, by decide, by decide⟩
theorem mc_Game_findClashes : gk_MC me_Game_findClashes 0 := ⟨(gk_t4 31 rfl rfl), li_Game, ⟨by decide, by decide, by decide +kernel⟩, by decide, by decide⟩
theorem mc_Game_firstWinner : gk_MC me_Game_firstWinner 0 := ⟨(gk_t4 37 rfl rfl), li_Game, ⟨by decide, by decide, by decide +kernel⟩, by decide, by decide⟩
theorem mc_Game_winningCell : gk_MC me_Game_winningCell 1 := ⟨(gk_t4 41 rfl rfl), li_Game, ⟨by decide, by decide, by decide +kernel⟩, by decide, by decide⟩
theorem mc_X_sight : gk_MC me_X_sight 2 := ⟨(gk_t4 46 rfl rfl), li_X, ⟨by decide, by decide, by decide +kernel⟩, by decide, by decide⟩
theorem mc_Walker_tell : gk_MC me_Walker_tell 2 := ⟨(gk_t4 50 rfl rfl), li_Walker, ⟨by decide, by decide, by decide +kernel⟩, by decide, by decide⟩
theorem mc_X_fits : gk_MC me_X_fits 2 := ⟨(gk_t4 54 rfl rfl), li_X, ⟨by decide, by decide, by decide +kernel⟩, by decide, by decide⟩
theorem mc_Walker_placesFor : gk_MC me_Walker_placesFor 2 := ⟨(gk_t4 58 rfl rfl), li_Walker, ⟨by decide, by decide, by decide +kernel⟩, by decide, by decide⟩
theorem mc_Walker_agrees : gk_MC me_Walker_agrees 1 := ⟨(gk_t4 66 rfl rfl), li_Walker, ⟨by decide, by decide, by decide +kernel⟩, by decide, by decide⟩
theorem mc_X_undo : gk_MC me_X_undo 0 := ⟨(gk_t4 71 rfl rfl), li_X, ⟨by decide, by decide, by decide +kernel⟩, by decide, by decide⟩
theorem mc_History_back : gk_MC me_History_back 0 := ⟨(gk_t4 75 rfl rfl), li_History, ⟨by decide, by decide, by decide +kernel⟩, by decide, by decide⟩
theorem mc_X_redo : gk_MC me_X_redo 0 := ⟨(gk_t4 80 rfl rfl), li_X, ⟨by decide, by decide, by decide +kernel⟩, by decide, by decide⟩
theorem mc_History_forth : gk_MC me_History_forth 0 := ⟨(gk_t4 84 rfl rfl), li_History, ⟨by decide, by decide, by decide +kernel⟩, by decide, by decide⟩
theorem mc_X_body : gk_MC me_X_body 1 := ⟨(gk_t4 88 rfl rfl), li_X, ⟨by decide, by decide, by decide +kernel⟩, by decide, by decide⟩
theorem mc_Ways_isKind : gk_MC me_Ways_isKind 1 := ⟨(gk_t4 91 rfl rfl), li_Ways, ⟨by decide, by decide, by decide +kernel⟩, by decide, by decide⟩
theorem mc_Ways_add : gk_MC me_Ways_add 1 := ⟨(gk_t4 95 rfl rfl), li_Ways, ⟨by decide, by decide, by decide +kernel⟩, by decide, by decide⟩
theorem mc_X_act : gk_MC me_X_act 3 := ⟨(gk_t4 99 rfl rfl), li_X, ⟨by decide, by decide, by decide +kernel⟩, by decide, by decide⟩
theorem mc_Ways_perform : gk_MC me_Ways_perform 3 := ⟨(gk_t4 103 rfl rfl), li_Ways, ⟨by decide, by decide, by decide +kernel⟩, by decide, by decide⟩
theorem mc_Ways_isBody : gk_MC me_Ways_isBody 1 := ⟨(gk_t4 107 rfl rfl), li_Ways, ⟨by decide, by decide, by decide +kernel⟩, by decide, by decide⟩
theorem mc_Ways_own : gk_MC me_Ways_own 3 := ⟨(gk_t4 111 rfl rfl), li_Ways, ⟨by decide, by decide, by decide +kernel⟩, by decide, by decide⟩
theorem mc_Ways_from : gk_MC me_Ways_from 4 := ⟨(gk_t4 115 rfl rfl), li_Ways, ⟨by decide, by decide, by decide +kernel⟩, by decide, by decide⟩
theorem mc_Ways_run : gk_MC me_Ways_run 3 := ⟨(gk_t4 123 rfl rfl), li_Ways, ⟨by decide, by decide, by decide +kernel⟩, by decide, by decide⟩
theorem mc_X_trace : gk_MC me_X_trace 1 := ⟨(gk_t4 127 rfl rfl), li_X, ⟨by decide, by decide, by decide +kernel⟩, by decide, by decide⟩
theorem mc_Ways_traced : gk_MC me_Ways_traced 1 := ⟨(gk_t4 131 rfl rfl), li_Ways, ⟨by decide, by decide, by decide +kernel⟩, by decide, by decide⟩
theorem mc_X_keep : gk_MC me_X_keep 2 := ⟨(gk_t4 136 rfl rfl), li_X, ⟨by decide, by decide, by decide +kernel⟩, by decide, by decide⟩
theorem mc_Shelf_holdBody : gk_MC me_Shelf_holdBody 1 := ⟨(gk_t4 141 rfl rfl), li_Shelf, ⟨by decide, by decide, by decide +kernel⟩, by decide, by decide⟩
theorem mc_X_row : gk_MC me_X_row 3 := ⟨(gk_t4 145 rfl rfl), li_X, ⟨by decide, by decide, by decide +kernel⟩, by decide, by decide⟩
theorem mc_Shelf_holdRow : gk_MC me_Shelf_holdRow 2 := ⟨(gk_t4 149 rfl rfl), li_Shelf, ⟨by decide, by decide, by decide +kernel⟩, by decide, by decide⟩
theorem mc_Arrays_fillJ : gk_MC me_Arrays_fillJ 2 := ⟨(gk_t4 152 rfl rfl), li_Arrays, ⟨by decide, by decide, by decide +kernel⟩, by decide, by decide⟩
theorem mc_X_put : gk_MC me_X_put 3 := ⟨(gk_t4 156 rfl rfl), li_X, ⟨by decide, by decide, by decide +kernel⟩, by decide, by decide⟩
theorem mc_X_cellRefusal : gk_MC me_X_cellRefusal 2 := ⟨(gk_t4 160 rfl rfl), li_X, ⟨by decide, by decide, by decide +kernel⟩, by decide, by decide⟩
theorem mc_Shelf_setCell : gk_MC me_Shelf_setCell 2 := ⟨(gk_t4 165 rfl rfl), li_Shelf, ⟨by decide, by decide, by decide +kernel⟩, by decide, by decide⟩
theorem mc_Shelf_narrowed : gk_MC me_Shelf_narrowed 1 := ⟨(gk_t4 169 rfl rfl), li_Shelf, ⟨by decide, by decide, by decide +kernel⟩, by decide, by decide⟩
theorem mc_X_element : gk_MC me_X_element 2 := ⟨(gk_t4 173 rfl rfl), li_X, ⟨by decide, by decide, by decide +kernel⟩, by decide, by decide⟩
theorem mc_X_shift : gk_MC me_X_shift 5 := ⟨(gk_t4 178 rfl rfl), li_X, ⟨by decide, by decide, by decide +kernel⟩, by decide, by decide⟩
theorem mc_X_taken : gk_MC me_X_taken 2 := ⟨(gk_t4 183 rfl rfl), li_X, ⟨by decide, by decide, by decide +kernel⟩, by decide, by decide⟩
theorem mc_Ways_kindOf : gk_MC me_Ways_kindOf 1 := ⟨(gk_t4 187 rfl rfl), li_Ways, ⟨by decide, by decide, by decide +kernel⟩, by decide, by decide⟩
theorem mc_Ways_isUnder : gk_MC me_Ways_isUnder 2 := ⟨(gk_t4 190 rfl rfl), li_Ways, ⟨by decide, by decide, by decide +kernel⟩, by decide, by decide⟩
theorem mc_X_count : gk_MC me_X_count 1 := ⟨(gk_t4 194 rfl rfl), li_X, ⟨by decide, by decide, by decide +kernel⟩, by decide, by decide⟩
theorem mc_M_undo : gk_MC me_M_undo 0 := ⟨(gk_t5 112 rfl rfl), li_M, ⟨by decide, by decide, by decide +kernel⟩, by decide, by decide⟩
theorem mc_M_redo : gk_MC me_M_redo 0 := ⟨(gk_t5 116 rfl rfl), li_M, ⟨by decide, by decide, by decide +kernel⟩, by decide, by decide⟩
theorem mc_M_tower : gk_MC me_M_tower 2 := ⟨(gk_t5 120 rfl rfl), li_M, ⟨by decide, by decide, by decide +kernel⟩, by decide, by decide⟩
theorem mc_M_mayStand : gk_MC me_M_mayStand 3 := ⟨(gk_t5 124 rfl rfl), li_M, ⟨by decide, by decide, by decide +kernel⟩, by decide, by decide⟩
theorem mc_M_within : gk_MC me_M_within 3 := ⟨(gk_t5 128 rfl rfl), li_M, ⟨by decide, by decide, by decide +kernel⟩, by decide, by decide⟩
theorem mc_M_isFreeOf : gk_MC me_M_isFreeOf 2 := ⟨(gk_t5 134 rfl rfl), li_M, ⟨by decide, by decide, by decide +kernel⟩, by decide, by decide⟩
theorem mc_M_adds : gk_MC me_M_adds 4 := ⟨(gk_t5 138 rfl rfl), li_M, ⟨by decide, by decide, by decide +kernel⟩, by decide, by decide⟩
theorem mc_M_towers : gk_MC me_M_towers 3 := ⟨(gk_t5 142 rfl rfl), li_M, ⟨by decide, by decide, by decide +kernel⟩, by decide, by decide⟩
theorem mc_M_isShelf : gk_MC me_M_isShelf 1 := ⟨(gk_t5 145 rfl rfl), li_M, ⟨by decide, by decide, by decide +kernel⟩, by decide, by decide⟩
theorem mc_M_road : gk_MC me_M_road 2 := ⟨(gk_t5 151 rfl rfl), li_M, ⟨by decide, by decide, by decide +kernel⟩, by decide, by decide⟩
theorem mc_M_isPoint : gk_MC me_M_isPoint 1 := ⟨(gk_t5 154 rfl rfl), li_M, ⟨by decide, by decide, by decide +kernel⟩, by decide, by decide⟩
theorem mc_M_corner : gk_MC me_M_corner 2 := ⟨(gk_t5 158 rfl rfl), li_M, ⟨by decide, by decide, by decide +kernel⟩, by decide, by decide⟩
theorem mc_M_isRoad : gk_MC me_M_isRoad 1 := ⟨(gk_t5 162 rfl rfl), li_M, ⟨by decide, by decide, by decide +kernel⟩, by decide, by decide⟩
theorem mc_M_forest : gk_MC me_M_forest 2 := ⟨(gk_t5 166 rfl rfl), li_M, ⟨by decide, by decide, by decide +kernel⟩, by decide, by decide⟩
theorem mc_M_mend : gk_MC me_M_mend 3 := ⟨(gk_t5 170 rfl rfl), li_M, ⟨by decide, by decide, by decide +kernel⟩, by decide, by decide⟩
theorem mc_M_isTower : gk_MC me_M_isTower 1 := ⟨(gk_t5 174 rfl rfl), li_M, ⟨by decide, by decide, by decide +kernel⟩, by decide, by decide⟩
theorem mc_M_becomes : gk_MC me_M_becomes 2 := ⟨(gk_t5 179 rfl rfl), li_M, ⟨by decide, by decide, by decide +kernel⟩, by decide, by decide⟩
theorem mc_M_of : gk_MC me_M_of 2 := ⟨(gk_t5 183 rfl rfl), li_M, ⟨by decide, by decide, by decide +kernel⟩, by decide, by decide⟩
theorem mc_M_feed : gk_MC me_M_feed 1 := ⟨(gk_t5 189 rfl rfl), li_M, ⟨by decide, by decide, by decide +kernel⟩, by decide, by decide⟩
theorem mc_M_law : gk_MC me_M_law 0 := ⟨(gk_t5 194 rfl rfl), li_M, ⟨by decide, by decide, by decide +kernel⟩, by decide, by decide⟩
theorem mc_M_workOut : gk_MC me_M_workOut 2 := ⟨(gk_t5 198 rfl rfl), li_M, ⟨by decide, by decide, by decide +kernel⟩, by decide, by decide⟩
theorem mc_M_either : gk_MC me_M_either 0 := ⟨(gk_t5 202 rfl rfl), li_M, ⟨by decide, by decide, by decide +kernel⟩, by decide, by decide⟩
theorem mc_M_both : gk_MC me_M_both 0 := ⟨(gk_t5 206 rfl rfl), li_M, ⟨by decide, by decide, by decide +kernel⟩, by decide, by decide⟩
theorem mc_M_compared : gk_MC me_M_compared 0 := ⟨(gk_t5 210 rfl rfl), li_M, ⟨by decide, by decide, by decide +kernel⟩, by decide, by decide⟩
theorem mc_M_sums : gk_MC me_M_sums 0 := ⟨(gk_t5 214 rfl rfl), li_M, ⟨by decide, by decide, by decide +kernel⟩, by decide, by decide⟩
theorem mc_M_product : gk_MC me_M_product 0 := ⟨(gk_t5 218 rfl rfl), li_M, ⟨by decide, by decide, by decide +kernel⟩, by decide, by decide⟩
theorem mc_M_one : gk_MC me_M_one 0 := ⟨(gk_t5 222 rfl rfl), li_M, ⟨by decide, by decide, by decide +kernel⟩, by decide, by decide⟩
theorem mc_M_byteAt : gk_MC me_M_byteAt 0 := ⟨(gk_t5 226 rfl rfl), li_M, ⟨by decide, by decide, by decide +kernel⟩, by decide, by decide⟩
theorem mc_M_wrong : gk_MC me_M_wrong 0 := ⟨(gk_t5 230 rfl rfl), li_M, ⟨by decide, by decide, by decide +kernel⟩, by decide, by decide⟩
theorem mc_M_takes : gk_MC me_M_takes 1 := ⟨(gk_t5 234 rfl rfl), li_M, ⟨by decide, by decide, by decide +kernel⟩, by decide, by decide⟩
theorem mc_M_nameOf : gk_MC me_M_nameOf 1 := ⟨(gk_t5 237 rfl rfl), li_M, ⟨by decide, by decide, by decide +kernel⟩, by decide, by decide⟩
theorem mc_M_line : gk_MC me_M_line 3 := ⟨(gk_t6 1 rfl rfl), li_M, ⟨by decide, by decide, by decide +kernel⟩, by decide, by decide⟩
theorem mc_M_areTwo : gk_MC me_M_areTwo 1 := ⟨(gk_t6 5 rfl rfl), li_M, ⟨by decide, by decide, by decide +kernel⟩, by decide, by decide⟩
theorem mc_M_inLineAt : gk_MC me_M_inLineAt 4 := ⟨(gk_t6 10 rfl rfl), li_M, ⟨by decide, by decide, by decide +kernel⟩, by decide, by decide⟩
theorem mc_M_inLine : gk_MC me_M_inLine 6 := ⟨(gk_t6 14 rfl rfl), li_M, ⟨by decide, by decide, by decide +kernel⟩, by decide, by decide⟩
theorem mc_M_isBehind : gk_MC me_M_isBehind 5 := ⟨(gk_t6 18 rfl rfl), li_M, ⟨by decide, by decide, by decide +kernel⟩, by decide, by decide⟩
theorem mc_M_isStopped : gk_MC me_M_isStopped 4 := ⟨(gk_t6 22 rfl rfl), li_M, ⟨by decide, by decide, by decide +kernel⟩, by decide, by decide⟩
theorem mc_M_stops : gk_MC me_M_stops 6 := ⟨(gk_t6 26 rfl rfl), li_M, ⟨by decide, by decide, by decide +kernel⟩, by decide, by decide⟩
theorem mc_M_liesOn : gk_MC me_M_liesOn 6 := ⟨(gk_t6 29 rfl rfl), li_M, ⟨by decide, by decide, by decide +kernel⟩, by decide, by decide⟩
theorem mc_M_side : gk_MC me_M_side 6 := ⟨(gk_t6 32 rfl rfl), li_M, ⟨by decide, by decide, by decide +kernel⟩, by decide, by decide⟩
theorem mc_M_isBetween : gk_MC me_M_isBetween 3 := ⟨(gk_t6 35 rfl rfl), li_M, ⟨by decide, by decide, by decide +kernel⟩, by decide, by decide⟩
theorem mc_M_areUnlike : gk_MC me_M_areUnlike 2 := ⟨(gk_t6 38 rfl rfl), li_M, ⟨by decide, by decide, by decide +kernel⟩, by decide, by decide⟩
theorem mc_M_farOf : gk_MC me_M_farOf 4 := ⟨(gk_t6 42 rfl rfl), li_M, ⟨by decide, by decide, by decide +kernel⟩, by decide, by decide⟩
theorem mc_M_counts : gk_MC me_M_counts 3 := ⟨(gk_t6 46 rfl rfl), li_M, ⟨by decide, by decide, by decide +kernel⟩, by decide, by decide⟩
theorem mc_M_heightOf : gk_MC me_M_heightOf 1 := ⟨(gk_t6 50 rfl rfl), li_M, ⟨by decide, by decide, by decide +kernel⟩, by decide, by decide⟩
theorem mc_M_oldOf : gk_MC me_M_oldOf 1 := ⟨(gk_t6 54 rfl rfl), li_M, ⟨by decide, by decide, by decide +kernel⟩, by decide, by decide⟩
theorem mc_M_guilty : gk_MC me_M_guilty 3 := ⟨(gk_t6 58 rfl rfl), li_M, ⟨by decide, by decide, by decide +kernel⟩, by decide, by decide⟩
theorem mc_M_isStretch : gk_MC me_M_isStretch 1 := ⟨(gk_t6 62 rfl rfl), li_M, ⟨by decide, by decide, by decide +kernel⟩, by decide, by decide⟩
theorem mc_M_isGuiltyOn : gk_MC me_M_isGuiltyOn 4 := ⟨(gk_t6 66 rfl rfl), li_M, ⟨by decide, by decide, by decide +kernel⟩, by decide, by decide⟩
theorem mc_M_cornerOf : gk_MC me_M_cornerOf 2 := ⟨(gk_t6 70 rfl rfl), li_M, ⟨by decide, by decide, by decide +kernel⟩, by decide, by decide⟩
theorem mc_M_isGuilty : gk_MC me_M_isGuilty 5 := ⟨(gk_t6 74 rfl rfl), li_M, ⟨by decide, by decide, by decide +kernel⟩, by decide, by decide⟩
theorem mc_M_isAlong : gk_MC me_M_isAlong 5 := ⟨(gk_t6 78 rfl rfl), li_M, ⟨by decide, by decide, by decide +kernel⟩, by decide, by decide⟩
theorem mc_M_common : gk_MC me_M_common 2 := ⟨(gk_t6 81 rfl rfl), li_M, ⟨by decide, by decide, by decide +kernel⟩, by decide, by decide⟩
theorem mc_M_guilts : gk_MC me_M_guilts 1 := ⟨(gk_t6 85 rfl rfl), li_M, ⟨by decide, by decide, by decide +kernel⟩, by decide, by decide⟩
theorem mc_M_allGuilts : gk_MC me_M_allGuilts 0 := ⟨(gk_t6 89 rfl rfl), li_M, ⟨by decide, by decide, by decide +kernel⟩, by decide, by decide⟩
theorem mc_M_guiltsOf : gk_MC me_M_guiltsOf 1 := ⟨(gk_t6 93 rfl rfl), li_M, ⟨by decide, by decide, by decide +kernel⟩, by decide, by decide⟩
theorem mc_M_guiltsOn : gk_MC me_M_guiltsOn 2 := ⟨(gk_t6 97 rfl rfl), li_M, ⟨by decide, by decide, by decide +kernel⟩, by decide, by decide⟩
theorem mc_M_which : gk_MC me_M_which 1 := ⟨(gk_t6 101 rfl rfl), li_M, ⟨by decide, by decide, by decide +kernel⟩, by decide, by decide⟩
theorem mc_M_firstOn : gk_MC me_M_firstOn 2 := ⟨(gk_t6 105 rfl rfl), li_M, ⟨by decide, by decide, by decide +kernel⟩, by decide, by decide⟩
theorem mc_M_led : gk_MC me_M_led 1 := ⟨(gk_t6 109 rfl rfl), li_M, ⟨by decide, by decide, by decide +kernel⟩, by decide, by decide⟩
theorem mc_M_guiltsWith : gk_MC me_M_guiltsWith 2 := ⟨(gk_t6 113 rfl rfl), li_M, ⟨by decide, by decide, by decide +kernel⟩, by decide, by decide⟩
theorem mc_M_seen : gk_MC me_M_seen 1 := ⟨(gk_t6 117 rfl rfl), li_M, ⟨by decide, by decide, by decide +kernel⟩, by decide, by decide⟩
theorem mc_M_seenFrom : gk_MC me_M_seenFrom 1 := ⟨(gk_t6 121 rfl rfl), li_M, ⟨by decide, by decide, by decide +kernel⟩, by decide, by decide⟩
theorem mc_M_isHidden : gk_MC me_M_isHidden 3 := ⟨(gk_t6 125 rfl rfl), li_M, ⟨by decide, by decide, by decide +kernel⟩, by decide, by decide⟩
theorem mc_M_free : gk_MC me_M_free 3 := ⟨(gk_t6 129 rfl rfl), li_M, ⟨by decide, by decide, by decide +kernel⟩, by decide, by decide⟩
theorem mc_M_isFree : gk_MC me_M_isFree 4 := ⟨(gk_t6 134 rfl rfl), li_M, ⟨by decide, by decide, by decide +kernel⟩, by decide, by decide⟩
theorem mc_M_isCorner : gk_MC me_M_isCorner 1 := ⟨(gk_t6 138 rfl rfl), li_M, ⟨by decide, by decide, by decide +kernel⟩, by decide, by decide⟩
theorem mc_M_years : gk_MC me_M_years 2 := ⟨(gk_t6 142 rfl rfl), li_M, ⟨by decide, by decide, by decide +kernel⟩, by decide, by decide⟩
theorem mc_M_firstFree : gk_MC me_M_firstFree 2 := ⟨(gk_t6 146 rfl rfl), li_M, ⟨by decide, by decide, by decide +kernel⟩, by decide, by decide⟩
theorem mc_M_fewest : gk_MC me_M_fewest 0 := ⟨(gk_t6 150 rfl rfl), li_M, ⟨by decide, by decide, by decide +kernel⟩, by decide, by decide⟩
theorem mc_M_leastSet : gk_MC me_M_leastSet 1 := ⟨(gk_t6 154 rfl rfl), li_M, ⟨by decide, by decide, by decide +kernel⟩, by decide, by decide⟩
theorem mc_M_findAgainst : gk_MC me_M_findAgainst 0 := ⟨(gk_t6 158 rfl rfl), li_M, ⟨by decide, by decide, by decide +kernel⟩, by decide, by decide⟩
theorem mc_M_areAgainst : gk_MC me_M_areAgainst 2 := ⟨(gk_t6 162 rfl rfl), li_M, ⟨by decide, by decide, by decide +kernel⟩, by decide, by decide⟩
theorem mc_M_isLawfulWithout : gk_MC me_M_isLawfulWithout 1 := ⟨(gk_t6 166 rfl rfl), li_M, ⟨by decide, by decide, by decide +kernel⟩, by decide, by decide⟩
theorem mc_M_priceOf : gk_MC me_M_priceOf 2 := ⟨(gk_t6 170 rfl rfl), li_M, ⟨by decide, by decide, by decide +kernel⟩, by decide, by decide⟩
theorem mc_M_cheapest : gk_MC me_M_cheapest 1 := ⟨(gk_t6 174 rfl rfl), li_M, ⟨by decide, by decide, by decide +kernel⟩, by decide, by decide⟩
theorem mc_M_moved : gk_MC me_M_moved 2 := ⟨(gk_t6 178 rfl rfl), li_M, ⟨by decide, by decide, by decide +kernel⟩, by decide, by decide⟩
theorem mc_M_bent : gk_MC me_M_bent 2 := ⟨(gk_t6 182 rfl rfl), li_M, ⟨by decide, by decide, by decide +kernel⟩, by decide, by decide⟩
theorem mc_M_guiltsBetween : gk_MC me_M_guiltsBetween 3 := ⟨(gk_t6 186 rfl rfl), li_M, ⟨by decide, by decide, by decide +kernel⟩, by decide, by decide⟩
theorem mc_M_newly : gk_MC me_M_newly 2 := ⟨(gk_t6 190 rfl rfl), li_M, ⟨by decide, by decide, by decide +kernel⟩, by decide, by decide⟩
theorem mc_M_seesNone : gk_MC me_M_seesNone 1 := ⟨(gk_t6 194 rfl rfl), li_M, ⟨by decide, by decide, by decide +kernel⟩, by decide, by decide⟩
theorem mc_M_joins : gk_MC me_M_joins 3 := ⟨(gk_t6 198 rfl rfl), li_M, ⟨by decide, by decide, by decide +kernel⟩, by decide, by decide⟩
theorem mc_M_game : gk_MC me_M_game 3 := ⟨(gk_t6 202 rfl rfl), li_M, ⟨by decide, by decide, by decide +kernel⟩, by decide, by decide⟩
theorem mc_M_bitsOf : gk_MC me_M_bitsOf 1 := ⟨(gk_t6 206 rfl rfl), li_M, ⟨by decide, by decide, by decide +kernel⟩, by decide, by decide⟩
theorem mc_M_looksAt : gk_MC me_M_looksAt 1 := ⟨(gk_t6 210 rfl rfl), li_M, ⟨by decide, by decide, by decide +kernel⟩, by decide, by decide⟩
theorem mc_M_laysOut : gk_MC me_M_laysOut 1 := ⟨(gk_t6 214 rfl rfl), li_M, ⟨by decide, by decide, by decide +kernel⟩, by decide, by decide⟩
theorem mc_M_gamePoint : gk_MC me_M_gamePoint 1 := ⟨(gk_t6 218 rfl rfl), li_M, ⟨by decide, by decide, by decide +kernel⟩, by decide, by decide⟩
theorem mc_M_sight : gk_MC me_M_sight 2 := ⟨(gk_t6 222 rfl rfl), li_M, ⟨by decide, by decide, by decide +kernel⟩, by decide, by decide⟩
theorem mc_M_fits : gk_MC me_M_fits 2 := ⟨(gk_t6 227 rfl rfl), li_M, ⟨by decide, by decide, by decide +kernel⟩, by decide, by decide⟩
theorem mc_M_allSights : gk_MC me_M_allSights 0 := ⟨(gk_t6 231 rfl rfl), li_M, ⟨by decide, by decide, by decide +kernel⟩, by decide, by decide⟩
theorem mc_M_body : gk_MC me_M_body 1 := ⟨(gk_t6 235 rfl rfl), li_M, ⟨by decide, by decide, by decide +kernel⟩, by decide, by decide⟩
theorem mc_M_act : gk_MC me_M_act 3 := ⟨(gk_t7 0 rfl rfl), li_M, ⟨by decide, by decide, by decide +kernel⟩, by decide, by decide⟩
theorem mc_M_isBody : gk_MC me_M_isBody 1 := ⟨(gk_t7 4 rfl rfl), li_M, ⟨by decide, by decide, by decide +kernel⟩, by decide, by decide⟩
theorem mc_M_hidesAs : gk_MC me_M_hidesAs 2 := ⟨(gk_t7 8 rfl rfl), li_M, ⟨by decide, by decide, by decide +kernel⟩, by decide, by decide⟩
theorem mc_M_begins : gk_MC me_M_begins 1 := ⟨(gk_t7 12 rfl rfl), li_M, ⟨by decide, by decide, by decide +kernel⟩, by decide, by decide⟩
theorem mc_M_standsAs : gk_MC me_M_standsAs 2 := ⟨(gk_t7 16 rfl rfl), li_M, ⟨by decide, by decide, by decide +kernel⟩, by decide, by decide⟩
theorem mc_M_linesAs : gk_MC me_M_linesAs 2 := ⟨(gk_t7 20 rfl rfl), li_M, ⟨by decide, by decide, by decide +kernel⟩, by decide, by decide⟩
theorem mc_M_tellsAs : gk_MC me_M_tellsAs 2 := ⟨(gk_t7 24 rfl rfl), li_M, ⟨by decide, by decide, by decide +kernel⟩, by decide, by decide⟩
theorem mc_M_trace : gk_MC me_M_trace 1 := ⟨(gk_t7 28 rfl rfl), li_M, ⟨by decide, by decide, by decide +kernel⟩, by decide, by decide⟩
theorem mc_M_keep : gk_MC me_M_keep 2 := ⟨(gk_t7 32 rfl rfl), li_M, ⟨by decide, by decide, by decide +kernel⟩, by decide, by decide⟩
theorem mc_M_row : gk_MC me_M_row 3 := ⟨(gk_t7 36 rfl rfl), li_M, ⟨by decide, by decide, by decide +kernel⟩, by decide, by decide⟩
theorem mc_M_put : gk_MC me_M_put 3 := ⟨(gk_t7 40 rfl rfl), li_M, ⟨by decide, by decide, by decide +kernel⟩, by decide, by decide⟩
theorem mc_M_refusal : gk_MC me_M_refusal 2 := ⟨(gk_t7 44 rfl rfl), li_M, ⟨by decide, by decide, by decide +kernel⟩, by decide, by decide⟩
theorem mc_M_asSort : gk_MC me_M_asSort 2 := ⟨(gk_t7 47 rfl rfl), li_M, ⟨by decide, by decide, by decide +kernel⟩, by decide, by decide⟩
theorem mc_M_element : gk_MC me_M_element 2 := ⟨(gk_t7 51 rfl rfl), li_M, ⟨by decide, by decide, by decide +kernel⟩, by decide, by decide⟩
theorem mc_M_shift : gk_MC me_M_shift 5 := ⟨(gk_t7 56 rfl rfl), li_M, ⟨by decide, by decide, by decide +kernel⟩, by decide, by decide⟩
theorem mc_M_taken : gk_MC me_M_taken 2 := ⟨(gk_t7 60 rfl rfl), li_M, ⟨by decide, by decide, by decide +kernel⟩, by decide, by decide⟩
theorem mc_M_kindOf : gk_MC me_M_kindOf 1 := ⟨(gk_t7 64 rfl rfl), li_M, ⟨by decide, by decide, by decide +kernel⟩, by decide, by decide⟩
theorem mc_M_above : gk_MC me_M_above 1 := ⟨(gk_t7 67 rfl rfl), li_M, ⟨by decide, by decide, by decide +kernel⟩, by decide, by decide⟩
theorem mc_M_count : gk_MC me_M_count 1 := ⟨(gk_t7 71 rfl rfl), li_M, ⟨by decide, by decide, by decide +kernel⟩, by decide, by decide⟩
theorem mi_X_tower : Cond.instanceMethod me_X_tower.1 ∈ gk_W ∧ Cond.selects me_X_tower.1.cls me_X_tower.1 me_X_tower.1 ∈ gk_W := ⟨(gk_t2 74 rfl rfl), (gk_t2 75 rfl rfl)⟩
theorem mi_Plain_build : Cond.instanceMethod me_Plain_build.1 ∈ gk_W ∧ Cond.selects me_Plain_build.1.cls me_Plain_build.1 me_Plain_build.1 ∈ gk_W := ⟨(gk_t2 78 rfl rfl), (gk_t2 79 rfl rfl)⟩
theorem mi_Plain_most : Cond.instanceMethod me_Plain_most.1 ∈ gk_W ∧ Cond.selects me_Plain_most.1.cls me_Plain_most.1 me_Plain_most.1 ∈ gk_W := ⟨(gk_t2 88 rfl rfl), (gk_t2 89 rfl rfl)⟩
theorem mi_Plain_hasTower : Cond.instanceMethod me_Plain_hasTower.1 ∈ gk_W ∧ Cond.selects me_Plain_hasTower.1.cls me_Plain_hasTower.1 me_Plain_hasTower.1 ∈ gk_W := ⟨(gk_t2 92 rfl rfl), (gk_t2 93 rfl rfl)⟩
theorem mi_Plain_pointOf : Cond.instanceMethod me_Plain_pointOf.1 ∈ gk_W ∧ Cond.selects me_Plain_pointOf.1.cls me_Plain_pointOf.1 me_Plain_pointOf.1 ∈ gk_W := ⟨(gk_t2 96 rfl rfl), (gk_t2 97 rfl rfl)⟩
theorem mi_Plain_place : Cond.instanceMethod me_Plain_place.1 ∈ gk_W ∧ Cond.selects me_Plain_place.1.cls me_Plain_place.1 me_Plain_place.1 ∈ gk_W := ⟨(gk_t2 100 rfl rfl), (gk_t2 101 rfl rfl)⟩
theorem mi_Plain_think : Cond.instanceMethod me_Plain_think.1 ∈ gk_W ∧ Cond.selects me_Plain_think.1.cls me_Plain_think.1 me_Plain_think.1 ∈ gk_W := ⟨(gk_t2 104 rfl rfl), (gk_t2 105 rfl rfl)⟩
theorem mi_Plain_forgetVerdicts : Cond.instanceMethod me_Plain_forgetVerdicts.1 ∈ gk_W ∧ Cond.selects me_Plain_forgetVerdicts.1.cls me_Plain_forgetVerdicts.1 me_Plain_forgetVerdicts.1 ∈ gk_W := ⟨(gk_t2 108 rfl rfl), (gk_t2 109 rfl rfl)⟩
theorem mi_X_towers : Cond.instanceMethod me_X_towers.1 ∈ gk_W ∧ Cond.selects me_X_towers.1.cls me_X_towers.1 me_X_towers.1 ∈ gk_W := ⟨(gk_t2 115 rfl rfl), (gk_t2 116 rfl rfl)⟩
theorem mi_Shelf_isEmpty : Cond.instanceMethod me_Shelf_isEmpty.1 ∈ gk_W ∧ Cond.selects me_Shelf_isEmpty.1.cls me_Shelf_isEmpty.1 me_Shelf_isEmpty.1 ∈ gk_W := ⟨(gk_t2 122 rfl rfl), (gk_t2 123 rfl rfl)⟩
theorem mi_Shelf_isRowOf : Cond.instanceMethod me_Shelf_isRowOf.1 ∈ gk_W ∧ Cond.selects me_Shelf_isRowOf.1.cls me_Shelf_isRowOf.1 me_Shelf_isRowOf.1 ∈ gk_W := ⟨(gk_t2 126 rfl rfl), (gk_t2 127 rfl rfl)⟩
theorem mi_Shelf_isRow : Cond.instanceMethod me_Shelf_isRow.1 ∈ gk_W ∧ Cond.selects me_Shelf_isRow.1.cls me_Shelf_isRow.1 me_Shelf_isRow.1 ∈ gk_W := ⟨(gk_t2 130 rfl rfl), (gk_t2 131 rfl rfl)⟩
theorem mi_Shelf_spans : Cond.instanceMethod me_Shelf_spans.1 ∈ gk_W ∧ Cond.selects me_Shelf_spans.1.cls me_Shelf_spans.1 me_Shelf_spans.1 ∈ gk_W := ⟨(gk_t2 134 rfl rfl), (gk_t2 135 rfl rfl)⟩
theorem mi_X_road : Cond.instanceMethod me_X_road.1 ∈ gk_W ∧ Cond.selects me_X_road.1.cls me_X_road.1 me_X_road.1 ∈ gk_W := ⟨(gk_t2 138 rfl rfl), (gk_t2 139 rfl rfl)⟩
theorem mi_Plain_addRoad : Cond.instanceMethod me_Plain_addRoad.1 ∈ gk_W ∧ Cond.selects me_Plain_addRoad.1.cls me_Plain_addRoad.1 me_Plain_addRoad.1 ∈ gk_W := ⟨(gk_t2 143 rfl rfl), (gk_t2 144 rfl rfl)⟩
theorem mi_X_corner : Cond.instanceMethod me_X_corner.1 ∈ gk_W ∧ Cond.selects me_X_corner.1.cls me_X_corner.1 me_X_corner.1 ∈ gk_W := ⟨(gk_t2 147 rfl rfl), (gk_t2 148 rfl rfl)⟩
theorem mi_Plain_isRoad : Cond.instanceMethod me_Plain_isRoad.1 ∈ gk_W ∧ Cond.selects me_Plain_isRoad.1.cls me_Plain_isRoad.1 me_Plain_isRoad.1 ∈ gk_W := ⟨(gk_t2 151 rfl rfl), (gk_t2 152 rfl rfl)⟩
theorem mi_Plain_cornerAt : Cond.instanceMethod me_Plain_cornerAt.1 ∈ gk_W ∧ Cond.selects me_Plain_cornerAt.1.cls me_Plain_cornerAt.1 me_Plain_cornerAt.1 ∈ gk_W := ⟨(gk_t2 155 rfl rfl), (gk_t2 156 rfl rfl)⟩
theorem mi_Plain_addCorner : Cond.instanceMethod me_Plain_addCorner.1 ∈ gk_W ∧ Cond.selects me_Plain_addCorner.1.cls me_Plain_addCorner.1 me_Plain_addCorner.1 ∈ gk_W := ⟨(gk_t2 159 rfl rfl), (gk_t2 160 rfl rfl)⟩
theorem mi_X_forest : Cond.instanceMethod me_X_forest.1 ∈ gk_W ∧ Cond.selects me_X_forest.1.cls me_X_forest.1 me_X_forest.1 ∈ gk_W := ⟨(gk_t2 163 rfl rfl), (gk_t2 164 rfl rfl)⟩
theorem mi_Plain_addForest : Cond.instanceMethod me_Plain_addForest.1 ∈ gk_W ∧ Cond.selects me_Plain_addForest.1.cls me_Plain_addForest.1 me_Plain_addForest.1 ∈ gk_W := ⟨(gk_t2 167 rfl rfl), (gk_t2 168 rfl rfl)⟩
theorem mi_X_feed : Cond.instanceMethod me_X_feed.1 ∈ gk_W ∧ Cond.selects me_X_feed.1.cls me_X_feed.1 me_X_feed.1 ∈ gk_W := ⟨(gk_t2 171 rfl rfl), (gk_t2 172 rfl rfl)⟩
theorem mi_Reader_take : Cond.instanceMethod me_Reader_take.1 ∈ gk_W ∧ Cond.selects me_Reader_take.1.cls me_Reader_take.1 me_Reader_take.1 ∈ gk_W := ⟨(gk_t2 175 rfl rfl), (gk_t2 176 rfl rfl)⟩
theorem mi_X_law : Cond.instanceMethod me_X_law.1 ∈ gk_W ∧ Cond.selects me_X_law.1.cls me_X_law.1 me_X_law.1 ∈ gk_W := ⟨(gk_t2 179 rfl rfl), (gk_t2 180 rfl rfl)⟩
theorem mi_Reader_read : Cond.instanceMethod me_Reader_read.1 ∈ gk_W ∧ Cond.selects me_Reader_read.1.cls me_Reader_read.1 me_Reader_read.1 ∈ gk_W := ⟨(gk_t2 183 rfl rfl), (gk_t2 184 rfl rfl)⟩
theorem mi_Reader_readLine : Cond.instanceMethod me_Reader_readLine.1 ∈ gk_W ∧ Cond.selects me_Reader_readLine.1.cls me_Reader_readLine.1 me_Reader_readLine.1 ∈ gk_W := ⟨(gk_t2 188 rfl rfl), (gk_p1 (q := (me_Reader_readLine.1, 6)) 0 rfl)⟩
theorem mi_Reader_readLevel : Cond.instanceMethod me_Reader_readLevel.1 ∈ gk_W ∧ Cond.selects me_Reader_readLevel.1.cls me_Reader_readLevel.1 me_Reader_readLevel.1 ∈ gk_W := ⟨(gk_t2 192 rfl rfl), (gk_p1 (q := (me_Reader_readLevel.1, 6)) 1 rfl)⟩
theorem mi_Reader_readOperand : Cond.instanceMethod me_Reader_readOperand.1 ∈ gk_W ∧ Cond.selects me_Reader_readOperand.1.cls me_Reader_readOperand.1 me_Reader_readOperand.1 ∈ gk_W := ⟨(gk_t2 196 rfl rfl), (gk_p1 (q := (me_Reader_readOperand.1, 6)) 2 rfl)⟩
theorem mi_Reader_next : Cond.instanceMethod me_Reader_next.1 ∈ gk_W ∧ Cond.selects me_Reader_next.1.cls me_Reader_next.1 me_Reader_next.1 ∈ gk_W := ⟨(gk_t2 200 rfl rfl), (gk_p1 (q := (me_Reader_next.1, 6)) 3 rfl)⟩
theorem mi_Reader_readNumber : Cond.instanceMethod me_Reader_readNumber.1 ∈ gk_W ∧ Cond.selects me_Reader_readNumber.1.cls me_Reader_readNumber.1 me_Reader_readNumber.1 ∈ gk_W := ⟨(gk_t2 204 rfl rfl), (gk_p1 (q := (me_Reader_readNumber.1, 6)) 4 rfl)⟩
theorem mi_Reader_draw : Cond.instanceMethod me_Reader_draw.1 ∈ gk_W ∧ Cond.selects me_Reader_draw.1.cls me_Reader_draw.1 me_Reader_draw.1 ∈ gk_W := ⟨(gk_t2 208 rfl rfl), (gk_p1 (q := (me_Reader_draw.1, 6)) 5 rfl)⟩
theorem mi_Reader_close : Cond.instanceMethod me_Reader_close.1 ∈ gk_W ∧ Cond.selects me_Reader_close.1.cls me_Reader_close.1 me_Reader_close.1 ∈ gk_W := ⟨(gk_t2 215 rfl rfl), (gk_p1 (q := (me_Reader_close.1, 6)) 6 rfl)⟩
theorem mi_Law_become : Cond.instanceMethod me_Law_become.1 ∈ gk_W ∧ Cond.selects me_Law_become.1.cls me_Law_become.1 me_Law_become.1 ∈ gk_W := ⟨(gk_t2 221 rfl rfl), (gk_t2 222 rfl rfl)⟩
theorem mi_Reader_empty : Cond.instanceMethod me_Reader_empty.1 ∈ gk_W ∧ Cond.selects me_Reader_empty.1.cls me_Reader_empty.1 me_Reader_empty.1 ∈ gk_W := ⟨(gk_t2 232 rfl rfl), (gk_t2 233 rfl rfl)⟩
theorem mi_X_mend : Cond.instanceMethod me_X_mend.1 ∈ gk_W ∧ Cond.selects me_X_mend.1.cls me_X_mend.1 me_X_mend.1 ∈ gk_W := ⟨(gk_t2 236 rfl rfl), (gk_t2 237 rfl rfl)⟩
theorem mi_Plain_isTower : Cond.instanceMethod me_Plain_isTower.1 ∈ gk_W ∧ Cond.selects me_Plain_isTower.1.cls me_Plain_isTower.1 me_Plain_isTower.1 ∈ gk_W := ⟨(gk_t3 0 rfl rfl), (gk_t3 1 rfl rfl)⟩
theorem mi_Plain_trait : Cond.instanceMethod me_Plain_trait.1 ∈ gk_W ∧ Cond.selects me_Plain_trait.1.cls me_Plain_trait.1 me_Plain_trait.1 ∈ gk_W := ⟨(gk_t3 5 rfl rfl), (gk_t3 6 rfl rfl)⟩
theorem mi_History_note : Cond.instanceMethod me_History_note.1 ∈ gk_W ∧ Cond.selects me_History_note.1.cls me_History_note.1 me_History_note.1 ∈ gk_W := ⟨(gk_t3 9 rfl rfl), (gk_t3 10 rfl rfl)⟩
theorem mi_History_dropOldest : Cond.instanceMethod me_History_dropOldest.1 ∈ gk_W ∧ Cond.selects me_History_dropOldest.1.cls me_History_dropOldest.1 me_History_dropOldest.1 ∈ gk_W := ⟨(gk_t3 14 rfl rfl), (gk_p1 (q := (me_History_dropOldest.1, 7)) 7 rfl)⟩
theorem mi_Plain_setTrait : Cond.instanceMethod me_Plain_setTrait.1 ∈ gk_W ∧ Cond.selects me_Plain_setTrait.1.cls me_Plain_setTrait.1 me_Plain_setTrait.1 ∈ gk_W := ⟨(gk_t3 18 rfl rfl), (gk_t3 19 rfl rfl)⟩
theorem mi_X_of : Cond.instanceMethod me_X_of.1 ∈ gk_W ∧ Cond.selects me_X_of.1.cls me_X_of.1 me_X_of.1 ∈ gk_W := ⟨(gk_t3 22 rfl rfl), (gk_t3 23 rfl rfl)⟩
theorem mi_X_towerTells : Cond.instanceMethod me_X_towerTells.1 ∈ gk_W ∧ Cond.selects me_X_towerTells.1.cls me_X_towerTells.1 me_X_towerTells.1 ∈ gk_W := ⟨(gk_t3 27 rfl rfl), (gk_p1 (q := (me_X_towerTells.1, 9)) 8 rfl)⟩
theorem mi_X_line : Cond.instanceMethod me_X_line.1 ∈ gk_W ∧ Cond.selects me_X_line.1.cls me_X_line.1 me_X_line.1 ∈ gk_W := ⟨(gk_t3 31 rfl rfl), (gk_t3 32 rfl rfl)⟩
theorem mi_X_isPair : Cond.instanceMethod me_X_isPair.1 ∈ gk_W ∧ Cond.selects me_X_isPair.1.cls me_X_isPair.1 me_X_isPair.1 ∈ gk_W := ⟨(gk_t3 36 rfl rfl), (gk_p1 (q := (me_X_isPair.1, 9)) 9 rfl)⟩
theorem mi_Plain_areInLine : Cond.instanceMethod me_Plain_areInLine.1 ∈ gk_W ∧ Cond.selects me_Plain_areInLine.1.cls me_Plain_areInLine.1 me_Plain_areInLine.1 ∈ gk_W := ⟨(gk_t3 39 rfl rfl), (gk_t3 40 rfl rfl)⟩
theorem mi_Plain_side : Cond.instanceMethod me_Plain_side.1 ∈ gk_W ∧ Cond.selects me_Plain_side.1.cls me_Plain_side.1 me_Plain_side.1 ∈ gk_W := ⟨(gk_t3 44 rfl rfl), (gk_p1 (q := (me_Plain_side.1, 17)) 10 rfl)⟩
theorem mi_Plain_lineUp : Cond.instanceMethod me_Plain_lineUp.1 ∈ gk_W ∧ Cond.selects me_Plain_lineUp.1.cls me_Plain_lineUp.1 me_Plain_lineUp.1 ∈ gk_W := ⟨(gk_t3 48 rfl rfl), (gk_p1 (q := (me_Plain_lineUp.1, 17)) 11 rfl)⟩
theorem mi_Plain_counts : Cond.instanceMethod me_Plain_counts.1 ∈ gk_W ∧ Cond.selects me_Plain_counts.1.cls me_Plain_counts.1 me_Plain_counts.1 ∈ gk_W := ⟨(gk_t3 55 rfl rfl), (gk_p1 (q := (me_Plain_counts.1, 17)) 12 rfl)⟩
theorem mi_Law_verdict : Cond.instanceMethod me_Law_verdict.1 ∈ gk_W ∧ Cond.selects me_Law_verdict.1.cls me_Law_verdict.1 me_Law_verdict.1 ∈ gk_W := ⟨(gk_t3 62 rfl rfl), (gk_t3 63 rfl rfl)⟩
theorem mi_Plain_isStopped : Cond.instanceMethod me_Plain_isStopped.1 ∈ gk_W ∧ Cond.selects me_Plain_isStopped.1.cls me_Plain_isStopped.1 me_Plain_isStopped.1 ∈ gk_W := ⟨(gk_t3 70 rfl rfl), (gk_p1 (q := (me_Plain_isStopped.1, 17)) 13 rfl)⟩
theorem mi_Plain_cuts : Cond.instanceMethod me_Plain_cuts.1 ∈ gk_W ∧ Cond.selects me_Plain_cuts.1.cls me_Plain_cuts.1 me_Plain_cuts.1 ∈ gk_W := ⟨(gk_t3 74 rfl rfl), (gk_p1 (q := (me_Plain_cuts.1, 17)) 14 rfl)⟩
theorem mi_X_guilty : Cond.instanceMethod me_X_guilty.1 ∈ gk_W ∧ Cond.selects me_X_guilty.1.cls me_X_guilty.1 me_X_guilty.1 ∈ gk_W := ⟨(gk_t3 83 rfl rfl), (gk_t3 84 rfl rfl)⟩
theorem mi_X_isStretch : Cond.instanceMethod me_X_isStretch.1 ∈ gk_W ∧ Cond.selects me_X_isStretch.1.cls me_X_isStretch.1 me_X_isStretch.1 ∈ gk_W := ⟨(gk_t3 88 rfl rfl), (gk_p1 (q := (me_X_isStretch.1, 9)) 15 rfl)⟩
theorem mi_Plain_guiltBetween : Cond.instanceMethod me_Plain_guiltBetween.1 ∈ gk_W ∧ Cond.selects me_Plain_guiltBetween.1.cls me_Plain_guiltBetween.1 me_Plain_guiltBetween.1 ∈ gk_W := ⟨(gk_t3 94 rfl rfl), (gk_t3 95 rfl rfl)⟩
theorem mi_X_guilts : Cond.instanceMethod me_X_guilts.1 ∈ gk_W ∧ Cond.selects me_X_guilts.1.cls me_X_guilts.1 me_X_guilts.1 ∈ gk_W := ⟨(gk_t3 102 rfl rfl), (gk_t3 103 rfl rfl)⟩
theorem mi_Plain_allGuilts : Cond.instanceMethod me_Plain_allGuilts.1 ∈ gk_W ∧ Cond.selects me_Plain_allGuilts.1.cls me_Plain_allGuilts.1 me_Plain_allGuilts.1 ∈ gk_W := ⟨(gk_t3 106 rfl rfl), (gk_t3 107 rfl rfl)⟩
theorem mi_Plain_guiltsBetween : Cond.instanceMethod me_Plain_guiltsBetween.1 ∈ gk_W ∧ Cond.selects me_Plain_guiltsBetween.1.cls me_Plain_guiltsBetween.1 me_Plain_guiltsBetween.1 ∈ gk_W := ⟨(gk_t3 112 rfl rfl), (gk_t3 113 rfl rfl)⟩
theorem mi_Plain_roadGuilts : Cond.instanceMethod me_Plain_roadGuilts.1 ∈ gk_W ∧ Cond.selects me_Plain_roadGuilts.1.cls me_Plain_roadGuilts.1 me_Plain_roadGuilts.1 ∈ gk_W := ⟨(gk_t3 117 rfl rfl), (gk_t3 118 rfl rfl)⟩
theorem mi_X_which : Cond.instanceMethod me_X_which.1 ∈ gk_W ∧ Cond.selects me_X_which.1.cls me_X_which.1 me_X_which.1 ∈ gk_W := ⟨(gk_t3 121 rfl rfl), (gk_t3 122 rfl rfl)⟩
theorem mi_Plain_firstGuiltyPair : Cond.instanceMethod me_Plain_firstGuiltyPair.1 ∈ gk_W ∧ Cond.selects me_Plain_firstGuiltyPair.1.cls me_Plain_firstGuiltyPair.1 me_Plain_firstGuiltyPair.1 ∈ gk_W := ⟨(gk_t3 125 rfl rfl), (gk_t3 126 rfl rfl)⟩
theorem mi_X_led : Cond.instanceMethod me_X_led.1 ∈ gk_W ∧ Cond.selects me_X_led.1.cls me_X_led.1 me_X_led.1 ∈ gk_W := ⟨(gk_t3 132 rfl rfl), (gk_t3 133 rfl rfl)⟩
theorem mi_Plain_guiltsWith : Cond.instanceMethod me_Plain_guiltsWith.1 ∈ gk_W ∧ Cond.selects me_Plain_guiltsWith.1.cls me_Plain_guiltsWith.1 me_Plain_guiltsWith.1 ∈ gk_W := ⟨(gk_t3 136 rfl rfl), (gk_t3 137 rfl rfl)⟩
theorem mi_Plain_guiltsOfPair : Cond.instanceMethod me_Plain_guiltsOfPair.1 ∈ gk_W ∧ Cond.selects me_Plain_guiltsOfPair.1.cls me_Plain_guiltsOfPair.1 me_Plain_guiltsOfPair.1 ∈ gk_W := ⟨(gk_t3 140 rfl rfl), (gk_t3 141 rfl rfl)⟩
theorem mi_X_seen : Cond.instanceMethod me_X_seen.1 ∈ gk_W ∧ Cond.selects me_X_seen.1.cls me_X_seen.1 me_X_seen.1 ∈ gk_W := ⟨(gk_t3 144 rfl rfl), (gk_t3 145 rfl rfl)⟩
theorem mi_Plain_seenFrom : Cond.instanceMethod me_Plain_seenFrom.1 ∈ gk_W ∧ Cond.selects me_Plain_seenFrom.1.cls me_Plain_seenFrom.1 me_Plain_seenFrom.1 ∈ gk_W := ⟨(gk_t3 148 rfl rfl), (gk_t3 149 rfl rfl)⟩
theorem mi_Plain_joinSeen : Cond.instanceMethod me_Plain_joinSeen.1 ∈ gk_W ∧ Cond.selects me_Plain_joinSeen.1.cls me_Plain_joinSeen.1 me_Plain_joinSeen.1 ∈ gk_W := ⟨(gk_t3 152 rfl rfl), (gk_t3 153 rfl rfl)⟩
theorem mi_X_free : Cond.instanceMethod me_X_free.1 ∈ gk_W ∧ Cond.selects me_X_free.1.cls me_X_free.1 me_X_free.1 ∈ gk_W := ⟨(gk_t3 156 rfl rfl), (gk_t3 157 rfl rfl)⟩
theorem mi_Planner_freeInRow : Cond.instanceMethod me_Planner_freeInRow.1 ∈ gk_W ∧ Cond.selects me_Planner_freeInRow.1.cls me_Planner_freeInRow.1 me_Planner_freeInRow.1 ∈ gk_W := ⟨(gk_t3 161 rfl rfl), (gk_t3 162 rfl rfl)⟩
theorem mi_Plain_isFreeFor : Cond.instanceMethod me_Plain_isFreeFor.1 ∈ gk_W ∧ Cond.selects me_Plain_isFreeFor.1.cls me_Plain_isFreeFor.1 me_Plain_isFreeFor.1 ∈ gk_W := ⟨(gk_t3 166 rfl rfl), (gk_t3 167 rfl rfl)⟩
theorem mi_Plain_hasCorner : Cond.instanceMethod me_Plain_hasCorner.1 ∈ gk_W ∧ Cond.selects me_Plain_hasCorner.1.cls me_Plain_hasCorner.1 me_Plain_hasCorner.1 ∈ gk_W := ⟨(gk_t3 171 rfl rfl), (gk_p2 (q := (me_Plain_hasCorner.1, 17)) 0 rfl)⟩
theorem mi_X_years : Cond.instanceMethod me_X_years.1 ∈ gk_W ∧ Cond.selects me_X_years.1.cls me_X_years.1 me_X_years.1 ∈ gk_W := ⟨(gk_t3 174 rfl rfl), (gk_t3 175 rfl rfl)⟩
theorem mi_Planner_settle : Cond.instanceMethod me_Planner_settle.1 ∈ gk_W ∧ Cond.selects me_Planner_settle.1.cls me_Planner_settle.1 me_Planner_settle.1 ∈ gk_W := ⟨(gk_t3 178 rfl rfl), (gk_t3 179 rfl rfl)⟩
theorem mi_X_fewest : Cond.instanceMethod me_X_fewest.1 ∈ gk_W ∧ Cond.selects me_X_fewest.1.cls me_X_fewest.1 me_X_fewest.1 ∈ gk_W := ⟨(gk_t3 182 rfl rfl), (gk_t3 183 rfl rfl)⟩
theorem mi_Planner_findQuarrels : Cond.instanceMethod me_Planner_findQuarrels.1 ∈ gk_W ∧ Cond.selects me_Planner_findQuarrels.1.cls me_Planner_findQuarrels.1 me_Planner_findQuarrels.1 ∈ gk_W := ⟨(gk_t3 186 rfl rfl), (gk_t3 187 rfl rfl)⟩
theorem mi_Planner_leastToGo : Cond.instanceMethod me_Planner_leastToGo.1 ∈ gk_W ∧ Cond.selects me_Planner_leastToGo.1.cls me_Planner_leastToGo.1 me_Planner_leastToGo.1 ∈ gk_W := ⟨(gk_t3 192 rfl rfl), (gk_t3 193 rfl rfl)⟩
theorem mi_Planner_priceOf : Cond.instanceMethod me_Planner_priceOf.1 ∈ gk_W ∧ Cond.selects me_Planner_priceOf.1.cls me_Planner_priceOf.1 me_Planner_priceOf.1 ∈ gk_W := ⟨(gk_t3 197 rfl rfl), (gk_t3 198 rfl rfl)⟩
theorem mi_Planner_leavesPeace : Cond.instanceMethod me_Planner_leavesPeace.1 ∈ gk_W ∧ Cond.selects me_Planner_leavesPeace.1.cls me_Planner_leavesPeace.1 me_Planner_leavesPeace.1 ∈ gk_W := ⟨(gk_t3 208 rfl rfl), (gk_p2 (q := (me_Planner_leavesPeace.1, 5)) 1 rfl)⟩
theorem mi_X_cheapest : Cond.instanceMethod me_X_cheapest.1 ∈ gk_W ∧ Cond.selects me_X_cheapest.1.cls me_X_cheapest.1 me_X_cheapest.1 ∈ gk_W := ⟨(gk_t3 211 rfl rfl), (gk_t3 212 rfl rfl)⟩
theorem mi_X_moved : Cond.instanceMethod me_X_moved.1 ∈ gk_W ∧ Cond.selects me_X_moved.1.cls me_X_moved.1 me_X_moved.1 ∈ gk_W := ⟨(gk_t3 216 rfl rfl), (gk_t3 217 rfl rfl)⟩
theorem mi_Planner_target : Cond.instanceMethod me_Planner_target.1 ∈ gk_W ∧ Cond.selects me_Planner_target.1.cls me_Planner_target.1 me_Planner_target.1 ∈ gk_W := ⟨(gk_t3 220 rfl rfl), (gk_t3 221 rfl rfl)⟩
theorem mi_X_bent : Cond.instanceMethod me_X_bent.1 ∈ gk_W ∧ Cond.selects me_X_bent.1.cls me_X_bent.1 me_X_bent.1 ∈ gk_W := ⟨(gk_t3 227 rfl rfl), (gk_t3 228 rfl rfl)⟩
theorem mi_Planner_bestBend : Cond.instanceMethod me_Planner_bestBend.1 ∈ gk_W ∧ Cond.selects me_Planner_bestBend.1.cls me_Planner_bestBend.1 me_Planner_bestBend.1 ∈ gk_W := ⟨(gk_t3 231 rfl rfl), (gk_t3 232 rfl rfl)⟩
theorem mi_X_newly : Cond.instanceMethod me_X_newly.1 ∈ gk_W ∧ Cond.selects me_X_newly.1.cls me_X_newly.1 me_X_newly.1 ∈ gk_W := ⟨(gk_t3 237 rfl rfl), (gk_t3 238 rfl rfl)⟩
theorem mi_Planner_stepsBetween : Cond.instanceMethod me_Planner_stepsBetween.1 ∈ gk_W ∧ Cond.selects me_Planner_stepsBetween.1.cls me_Planner_stepsBetween.1 me_Planner_stepsBetween.1 ∈ gk_W := ⟨(gk_t4 1 rfl rfl), (gk_t4 2 rfl rfl)⟩
theorem mi_Planner_isClear : Cond.instanceMethod me_Planner_isClear.1 ∈ gk_W ∧ Cond.selects me_Planner_isClear.1.cls me_Planner_isClear.1 me_Planner_isClear.1 ∈ gk_W := ⟨(gk_t4 6 rfl rfl), (gk_p2 (q := (me_Planner_isClear.1, 5)) 2 rfl)⟩
theorem mi_X_game : Cond.instanceMethod me_X_game.1 ∈ gk_W ∧ Cond.selects me_X_game.1.cls me_X_game.1 me_X_game.1 ∈ gk_W := ⟨(gk_t4 13 rfl rfl), (gk_t4 14 rfl rfl)⟩
theorem mi_Game_layOut : Cond.instanceMethod me_Game_layOut.1 ∈ gk_W ∧ Cond.selects me_Game_layOut.1.cls me_Game_layOut.1 me_Game_layOut.1 ∈ gk_W := ⟨(gk_t4 17 rfl rfl), (gk_t4 18 rfl rfl)⟩
theorem mi_Game_pointOf : Cond.instanceMethod me_Game_pointOf.1 ∈ gk_W ∧ Cond.selects me_Game_pointOf.1.cls me_Game_pointOf.1 me_Game_pointOf.1 ∈ gk_W := ⟨(gk_t4 25 rfl rfl), (gk_p2 (q := (me_Game_pointOf.1, 6)) 3 rfl)⟩
theorem mi_Game_findClashes : Cond.instanceMethod me_Game_findClashes.1 ∈ gk_W ∧ Cond.selects me_Game_findClashes.1.cls me_Game_findClashes.1 me_Game_findClashes.1 ∈ gk_W := ⟨(gk_t4 29 rfl rfl), (gk_t4 30 rfl rfl)⟩
theorem mi_Game_firstWinner : Cond.instanceMethod me_Game_firstWinner.1 ∈ gk_W ∧ Cond.selects me_Game_firstWinner.1.cls me_Game_firstWinner.1 me_Game_firstWinner.1 ∈ gk_W := ⟨(gk_t4 35 rfl rfl), (gk_t4 36 rfl rfl)⟩
theorem mi_Game_winningCell : Cond.instanceMethod me_Game_winningCell.1 ∈ gk_W ∧ Cond.selects me_Game_winningCell.1.cls me_Game_winningCell.1 me_Game_winningCell.1 ∈ gk_W := ⟨(gk_t4 40 rfl rfl), (gk_p2 (q := (me_Game_winningCell.1, 6)) 4 rfl)⟩
theorem mi_X_sight : Cond.instanceMethod me_X_sight.1 ∈ gk_W ∧ Cond.selects me_X_sight.1.cls me_X_sight.1 me_X_sight.1 ∈ gk_W := ⟨(gk_t4 44 rfl rfl), (gk_t4 45 rfl rfl)⟩
theorem mi_Walker_tell : Cond.instanceMethod me_Walker_tell.1 ∈ gk_W ∧ Cond.selects me_Walker_tell.1.cls me_Walker_tell.1 me_Walker_tell.1 ∈ gk_W := ⟨(gk_t4 48 rfl rfl), (gk_t4 49 rfl rfl)⟩
theorem mi_X_fits : Cond.instanceMethod me_X_fits.1 ∈ gk_W ∧ Cond.selects me_X_fits.1.cls me_X_fits.1 me_X_fits.1 ∈ gk_W := ⟨(gk_t4 52 rfl rfl), (gk_t4 53 rfl rfl)⟩
theorem mi_Walker_placesFor : Cond.instanceMethod me_Walker_placesFor.1 ∈ gk_W ∧ Cond.selects me_Walker_placesFor.1.cls me_Walker_placesFor.1 me_Walker_placesFor.1 ∈ gk_W := ⟨(gk_t4 56 rfl rfl), (gk_t4 57 rfl rfl)⟩
theorem mi_Walker_agrees : Cond.instanceMethod me_Walker_agrees.1 ∈ gk_W ∧ Cond.selects me_Walker_agrees.1.cls me_Walker_agrees.1 me_Walker_agrees.1 ∈ gk_W := ⟨(gk_t4 65 rfl rfl), (gk_p2 (q := (me_Walker_agrees.1, 5)) 5 rfl)⟩
theorem mi_X_undo : Cond.instanceMethod me_X_undo.1 ∈ gk_W ∧ Cond.selects me_X_undo.1.cls me_X_undo.1 me_X_undo.1 ∈ gk_W := ⟨(gk_t4 69 rfl rfl), (gk_t4 70 rfl rfl)⟩
theorem mi_History_back : Cond.instanceMethod me_History_back.1 ∈ gk_W ∧ Cond.selects me_History_back.1.cls me_History_back.1 me_History_back.1 ∈ gk_W := ⟨(gk_t4 73 rfl rfl), (gk_t4 74 rfl rfl)⟩
theorem mi_X_redo : Cond.instanceMethod me_X_redo.1 ∈ gk_W ∧ Cond.selects me_X_redo.1.cls me_X_redo.1 me_X_redo.1 ∈ gk_W := ⟨(gk_t4 78 rfl rfl), (gk_t4 79 rfl rfl)⟩
theorem mi_History_forth : Cond.instanceMethod me_History_forth.1 ∈ gk_W ∧ Cond.selects me_History_forth.1.cls me_History_forth.1 me_History_forth.1 ∈ gk_W := ⟨(gk_t4 82 rfl rfl), (gk_t4 83 rfl rfl)⟩
theorem mi_X_body : Cond.instanceMethod me_X_body.1 ∈ gk_W ∧ Cond.selects me_X_body.1.cls me_X_body.1 me_X_body.1 ∈ gk_W := ⟨(gk_t4 86 rfl rfl), (gk_t4 87 rfl rfl)⟩
theorem mi_Ways_add : Cond.instanceMethod me_Ways_add.1 ∈ gk_W ∧ Cond.selects me_Ways_add.1.cls me_Ways_add.1 me_Ways_add.1 ∈ gk_W := ⟨(gk_t4 93 rfl rfl), (gk_t4 94 rfl rfl)⟩
theorem mi_X_act : Cond.instanceMethod me_X_act.1 ∈ gk_W ∧ Cond.selects me_X_act.1.cls me_X_act.1 me_X_act.1 ∈ gk_W := ⟨(gk_t4 97 rfl rfl), (gk_t4 98 rfl rfl)⟩
theorem mi_Ways_perform : Cond.instanceMethod me_Ways_perform.1 ∈ gk_W ∧ Cond.selects me_Ways_perform.1.cls me_Ways_perform.1 me_Ways_perform.1 ∈ gk_W := ⟨(gk_t4 101 rfl rfl), (gk_t4 102 rfl rfl)⟩
theorem mi_Ways_isBody : Cond.instanceMethod me_Ways_isBody.1 ∈ gk_W ∧ Cond.selects me_Ways_isBody.1.cls me_Ways_isBody.1 me_Ways_isBody.1 ∈ gk_W := ⟨(gk_t4 105 rfl rfl), (gk_t4 106 rfl rfl)⟩
theorem mi_Ways_own : Cond.instanceMethod me_Ways_own.1 ∈ gk_W ∧ Cond.selects me_Ways_own.1.cls me_Ways_own.1 me_Ways_own.1 ∈ gk_W := ⟨(gk_t4 110 rfl rfl), (gk_p2 (q := (me_Ways_own.1, 5)) 6 rfl)⟩
theorem mi_Ways_from : Cond.instanceMethod me_Ways_from.1 ∈ gk_W ∧ Cond.selects me_Ways_from.1.cls me_Ways_from.1 me_Ways_from.1 ∈ gk_W := ⟨(gk_t4 114 rfl rfl), (gk_p2 (q := (me_Ways_from.1, 5)) 7 rfl)⟩
theorem mi_Ways_run : Cond.instanceMethod me_Ways_run.1 ∈ gk_W ∧ Cond.selects me_Ways_run.1.cls me_Ways_run.1 me_Ways_run.1 ∈ gk_W := ⟨(gk_t4 122 rfl rfl), (gk_p2 (q := (me_Ways_run.1, 5)) 8 rfl)⟩
theorem mi_X_trace : Cond.instanceMethod me_X_trace.1 ∈ gk_W ∧ Cond.selects me_X_trace.1.cls me_X_trace.1 me_X_trace.1 ∈ gk_W := ⟨(gk_t4 125 rfl rfl), (gk_t4 126 rfl rfl)⟩
theorem mi_Ways_traced : Cond.instanceMethod me_Ways_traced.1 ∈ gk_W ∧ Cond.selects me_Ways_traced.1.cls me_Ways_traced.1 me_Ways_traced.1 ∈ gk_W := ⟨(gk_t4 129 rfl rfl), (gk_t4 130 rfl rfl)⟩
theorem mi_X_keep : Cond.instanceMethod me_X_keep.1 ∈ gk_W ∧ Cond.selects me_X_keep.1.cls me_X_keep.1 me_X_keep.1 ∈ gk_W := ⟨(gk_t4 134 rfl rfl), (gk_t4 135 rfl rfl)⟩
theorem mi_Shelf_holdBody : Cond.instanceMethod me_Shelf_holdBody.1 ∈ gk_W ∧ Cond.selects me_Shelf_holdBody.1.cls me_Shelf_holdBody.1 me_Shelf_holdBody.1 ∈ gk_W := ⟨(gk_t4 139 rfl rfl), (gk_t4 140 rfl rfl)⟩
theorem mi_X_row : Cond.instanceMethod me_X_row.1 ∈ gk_W ∧ Cond.selects me_X_row.1.cls me_X_row.1 me_X_row.1 ∈ gk_W := ⟨(gk_t4 143 rfl rfl), (gk_t4 144 rfl rfl)⟩
theorem mi_Shelf_holdRow : Cond.instanceMethod me_Shelf_holdRow.1 ∈ gk_W ∧ Cond.selects me_Shelf_holdRow.1.cls me_Shelf_holdRow.1 me_Shelf_holdRow.1 ∈ gk_W := ⟨(gk_t4 147 rfl rfl), (gk_t4 148 rfl rfl)⟩
theorem mi_X_put : Cond.instanceMethod me_X_put.1 ∈ gk_W ∧ Cond.selects me_X_put.1.cls me_X_put.1 me_X_put.1 ∈ gk_W := ⟨(gk_t4 154 rfl rfl), (gk_t4 155 rfl rfl)⟩
theorem mi_X_cellRefusal : Cond.instanceMethod me_X_cellRefusal.1 ∈ gk_W ∧ Cond.selects me_X_cellRefusal.1.cls me_X_cellRefusal.1 me_X_cellRefusal.1 ∈ gk_W := ⟨(gk_t4 159 rfl rfl), (gk_p2 (q := (me_X_cellRefusal.1, 9)) 9 rfl)⟩
theorem mi_Shelf_setCell : Cond.instanceMethod me_Shelf_setCell.1 ∈ gk_W ∧ Cond.selects me_Shelf_setCell.1.cls me_Shelf_setCell.1 me_Shelf_setCell.1 ∈ gk_W := ⟨(gk_t4 163 rfl rfl), (gk_t4 164 rfl rfl)⟩
theorem mi_Shelf_narrowed : Cond.instanceMethod me_Shelf_narrowed.1 ∈ gk_W ∧ Cond.selects me_Shelf_narrowed.1.cls me_Shelf_narrowed.1 me_Shelf_narrowed.1 ∈ gk_W := ⟨(gk_t4 168 rfl rfl), (gk_p2 (q := (me_Shelf_narrowed.1, 4)) 10 rfl)⟩
theorem mi_X_element : Cond.instanceMethod me_X_element.1 ∈ gk_W ∧ Cond.selects me_X_element.1.cls me_X_element.1 me_X_element.1 ∈ gk_W := ⟨(gk_t4 171 rfl rfl), (gk_t4 172 rfl rfl)⟩
theorem mi_X_shift : Cond.instanceMethod me_X_shift.1 ∈ gk_W ∧ Cond.selects me_X_shift.1.cls me_X_shift.1 me_X_shift.1 ∈ gk_W := ⟨(gk_t4 176 rfl rfl), (gk_t4 177 rfl rfl)⟩
theorem mi_X_taken : Cond.instanceMethod me_X_taken.1 ∈ gk_W ∧ Cond.selects me_X_taken.1.cls me_X_taken.1 me_X_taken.1 ∈ gk_W := ⟨(gk_t4 181 rfl rfl), (gk_t4 182 rfl rfl)⟩
theorem mi_Ways_kindOf : Cond.instanceMethod me_Ways_kindOf.1 ∈ gk_W ∧ Cond.selects me_Ways_kindOf.1.cls me_Ways_kindOf.1 me_Ways_kindOf.1 ∈ gk_W := ⟨(gk_t4 185 rfl rfl), (gk_t4 186 rfl rfl)⟩
theorem mi_X_count : Cond.instanceMethod me_X_count.1 ∈ gk_W ∧ Cond.selects me_X_count.1.cls me_X_count.1 me_X_count.1 ∈ gk_W := ⟨(gk_t4 192 rfl rfl), (gk_t4 193 rfl rfl)⟩
theorem mi_M_undo : Cond.instanceMethod me_M_undo.1 ∈ gk_W ∧ Cond.selects me_M_undo.1.cls me_M_undo.1 me_M_undo.1 ∈ gk_W := ⟨(gk_t5 110 rfl rfl), (gk_t5 111 rfl rfl)⟩
theorem mi_M_redo : Cond.instanceMethod me_M_redo.1 ∈ gk_W ∧ Cond.selects me_M_redo.1.cls me_M_redo.1 me_M_redo.1 ∈ gk_W := ⟨(gk_t5 114 rfl rfl), (gk_t5 115 rfl rfl)⟩
theorem mi_M_tower : Cond.instanceMethod me_M_tower.1 ∈ gk_W ∧ Cond.selects me_M_tower.1.cls me_M_tower.1 me_M_tower.1 ∈ gk_W := ⟨(gk_t5 118 rfl rfl), (gk_t5 119 rfl rfl)⟩
theorem mi_M_mayStand : Cond.instanceMethod me_M_mayStand.1 ∈ gk_W ∧ Cond.selects me_M_mayStand.1.cls me_M_mayStand.1 me_M_mayStand.1 ∈ gk_W := ⟨(gk_t5 123 rfl rfl), (gk_p2 (q := (me_M_mayStand.1, 49)) 11 rfl)⟩
theorem mi_M_isFreeOf : Cond.instanceMethod me_M_isFreeOf.1 ∈ gk_W ∧ Cond.selects me_M_isFreeOf.1.cls me_M_isFreeOf.1 me_M_isFreeOf.1 ∈ gk_W := ⟨(gk_t5 133 rfl rfl), (gk_p2 (q := (me_M_isFreeOf.1, 49)) 12 rfl)⟩
theorem mi_M_adds : Cond.instanceMethod me_M_adds.1 ∈ gk_W ∧ Cond.selects me_M_adds.1.cls me_M_adds.1 me_M_adds.1 ∈ gk_W := ⟨(gk_t5 137 rfl rfl), (gk_p2 (q := (me_M_adds.1, 49)) 13 rfl)⟩
theorem mi_M_towers : Cond.instanceMethod me_M_towers.1 ∈ gk_W ∧ Cond.selects me_M_towers.1.cls me_M_towers.1 me_M_towers.1 ∈ gk_W := ⟨(gk_t5 140 rfl rfl), (gk_t5 141 rfl rfl)⟩
theorem mi_M_road : Cond.instanceMethod me_M_road.1 ∈ gk_W ∧ Cond.selects me_M_road.1.cls me_M_road.1 me_M_road.1 ∈ gk_W := ⟨(gk_t5 149 rfl rfl), (gk_t5 150 rfl rfl)⟩
theorem mi_M_corner : Cond.instanceMethod me_M_corner.1 ∈ gk_W ∧ Cond.selects me_M_corner.1.cls me_M_corner.1 me_M_corner.1 ∈ gk_W := ⟨(gk_t5 156 rfl rfl), (gk_t5 157 rfl rfl)⟩
theorem mi_M_isRoad : Cond.instanceMethod me_M_isRoad.1 ∈ gk_W ∧ Cond.selects me_M_isRoad.1.cls me_M_isRoad.1 me_M_isRoad.1 ∈ gk_W := ⟨(gk_t5 161 rfl rfl), (gk_p2 (q := (me_M_isRoad.1, 49)) 14 rfl)⟩
theorem mi_M_forest : Cond.instanceMethod me_M_forest.1 ∈ gk_W ∧ Cond.selects me_M_forest.1.cls me_M_forest.1 me_M_forest.1 ∈ gk_W := ⟨(gk_t5 164 rfl rfl), (gk_t5 165 rfl rfl)⟩
theorem mi_M_mend : Cond.instanceMethod me_M_mend.1 ∈ gk_W ∧ Cond.selects me_M_mend.1.cls me_M_mend.1 me_M_mend.1 ∈ gk_W := ⟨(gk_t5 168 rfl rfl), (gk_t5 169 rfl rfl)⟩
theorem mi_M_isTower : Cond.instanceMethod me_M_isTower.1 ∈ gk_W ∧ Cond.selects me_M_isTower.1.cls me_M_isTower.1 me_M_isTower.1 ∈ gk_W := ⟨(gk_t5 173 rfl rfl), (gk_p2 (q := (me_M_isTower.1, 49)) 15 rfl)⟩
theorem mi_M_becomes : Cond.instanceMethod me_M_becomes.1 ∈ gk_W ∧ Cond.selects me_M_becomes.1.cls me_M_becomes.1 me_M_becomes.1 ∈ gk_W := ⟨(gk_t5 178 rfl rfl), (gk_p3 (q := (me_M_becomes.1, 49)) 0 rfl)⟩
theorem mi_M_of : Cond.instanceMethod me_M_of.1 ∈ gk_W ∧ Cond.selects me_M_of.1.cls me_M_of.1 me_M_of.1 ∈ gk_W := ⟨(gk_t5 181 rfl rfl), (gk_t5 182 rfl rfl)⟩
theorem mi_M_feed : Cond.instanceMethod me_M_feed.1 ∈ gk_W ∧ Cond.selects me_M_feed.1.cls me_M_feed.1 me_M_feed.1 ∈ gk_W := ⟨(gk_t5 187 rfl rfl), (gk_t5 188 rfl rfl)⟩
theorem mi_M_law : Cond.instanceMethod me_M_law.1 ∈ gk_W ∧ Cond.selects me_M_law.1.cls me_M_law.1 me_M_law.1 ∈ gk_W := ⟨(gk_t5 192 rfl rfl), (gk_t5 193 rfl rfl)⟩
theorem mi_M_workOut : Cond.instanceMethod me_M_workOut.1 ∈ gk_W ∧ Cond.selects me_M_workOut.1.cls me_M_workOut.1 me_M_workOut.1 ∈ gk_W := ⟨(gk_t5 197 rfl rfl), (gk_p3 (q := (me_M_workOut.1, 49)) 1 rfl)⟩
theorem mi_M_either : Cond.instanceMethod me_M_either.1 ∈ gk_W ∧ Cond.selects me_M_either.1.cls me_M_either.1 me_M_either.1 ∈ gk_W := ⟨(gk_t5 201 rfl rfl), (gk_p3 (q := (me_M_either.1, 49)) 2 rfl)⟩
theorem mi_M_both : Cond.instanceMethod me_M_both.1 ∈ gk_W ∧ Cond.selects me_M_both.1.cls me_M_both.1 me_M_both.1 ∈ gk_W := ⟨(gk_t5 205 rfl rfl), (gk_p3 (q := (me_M_both.1, 49)) 3 rfl)⟩
theorem mi_M_compared : Cond.instanceMethod me_M_compared.1 ∈ gk_W ∧ Cond.selects me_M_compared.1.cls me_M_compared.1 me_M_compared.1 ∈ gk_W := ⟨(gk_t5 209 rfl rfl), (gk_p3 (q := (me_M_compared.1, 49)) 4 rfl)⟩
theorem mi_M_sums : Cond.instanceMethod me_M_sums.1 ∈ gk_W ∧ Cond.selects me_M_sums.1.cls me_M_sums.1 me_M_sums.1 ∈ gk_W := ⟨(gk_t5 213 rfl rfl), (gk_p3 (q := (me_M_sums.1, 49)) 5 rfl)⟩
theorem mi_M_product : Cond.instanceMethod me_M_product.1 ∈ gk_W ∧ Cond.selects me_M_product.1.cls me_M_product.1 me_M_product.1 ∈ gk_W := ⟨(gk_t5 217 rfl rfl), (gk_p3 (q := (me_M_product.1, 49)) 6 rfl)⟩
theorem mi_M_one : Cond.instanceMethod me_M_one.1 ∈ gk_W ∧ Cond.selects me_M_one.1.cls me_M_one.1 me_M_one.1 ∈ gk_W := ⟨(gk_t5 221 rfl rfl), (gk_p3 (q := (me_M_one.1, 49)) 7 rfl)⟩
theorem mi_M_byteAt : Cond.instanceMethod me_M_byteAt.1 ∈ gk_W ∧ Cond.selects me_M_byteAt.1.cls me_M_byteAt.1 me_M_byteAt.1 ∈ gk_W := ⟨(gk_t5 225 rfl rfl), (gk_p3 (q := (me_M_byteAt.1, 49)) 8 rfl)⟩
theorem mi_M_wrong : Cond.instanceMethod me_M_wrong.1 ∈ gk_W ∧ Cond.selects me_M_wrong.1.cls me_M_wrong.1 me_M_wrong.1 ∈ gk_W := ⟨(gk_t5 229 rfl rfl), (gk_p3 (q := (me_M_wrong.1, 49)) 9 rfl)⟩
theorem mi_M_takes : Cond.instanceMethod me_M_takes.1 ∈ gk_W ∧ Cond.selects me_M_takes.1.cls me_M_takes.1 me_M_takes.1 ∈ gk_W := ⟨(gk_t5 233 rfl rfl), (gk_p3 (q := (me_M_takes.1, 49)) 10 rfl)⟩
theorem mi_M_line : Cond.instanceMethod me_M_line.1 ∈ gk_W ∧ Cond.selects me_M_line.1.cls me_M_line.1 me_M_line.1 ∈ gk_W := ⟨(gk_t5 239 rfl rfl), (gk_t6 0 rfl rfl)⟩
theorem mi_M_areTwo : Cond.instanceMethod me_M_areTwo.1 ∈ gk_W ∧ Cond.selects me_M_areTwo.1.cls me_M_areTwo.1 me_M_areTwo.1 ∈ gk_W := ⟨(gk_t6 4 rfl rfl), (gk_p3 (q := (me_M_areTwo.1, 49)) 11 rfl)⟩
theorem mi_M_inLineAt : Cond.instanceMethod me_M_inLineAt.1 ∈ gk_W ∧ Cond.selects me_M_inLineAt.1.cls me_M_inLineAt.1 me_M_inLineAt.1 ∈ gk_W := ⟨(gk_t6 9 rfl rfl), (gk_p3 (q := (me_M_inLineAt.1, 49)) 12 rfl)⟩
theorem mi_M_inLine : Cond.instanceMethod me_M_inLine.1 ∈ gk_W ∧ Cond.selects me_M_inLine.1.cls me_M_inLine.1 me_M_inLine.1 ∈ gk_W := ⟨(gk_t6 13 rfl rfl), (gk_p3 (q := (me_M_inLine.1, 49)) 13 rfl)⟩
theorem mi_M_isBehind : Cond.instanceMethod me_M_isBehind.1 ∈ gk_W ∧ Cond.selects me_M_isBehind.1.cls me_M_isBehind.1 me_M_isBehind.1 ∈ gk_W := ⟨(gk_t6 17 rfl rfl), (gk_p3 (q := (me_M_isBehind.1, 49)) 14 rfl)⟩
theorem mi_M_isStopped : Cond.instanceMethod me_M_isStopped.1 ∈ gk_W ∧ Cond.selects me_M_isStopped.1.cls me_M_isStopped.1 me_M_isStopped.1 ∈ gk_W := ⟨(gk_t6 21 rfl rfl), (gk_p3 (q := (me_M_isStopped.1, 49)) 15 rfl)⟩
theorem mi_M_stops : Cond.instanceMethod me_M_stops.1 ∈ gk_W ∧ Cond.selects me_M_stops.1.cls me_M_stops.1 me_M_stops.1 ∈ gk_W := ⟨(gk_t6 25 rfl rfl), (gk_p4 (q := (me_M_stops.1, 49)) 0 rfl)⟩
theorem mi_M_farOf : Cond.instanceMethod me_M_farOf.1 ∈ gk_W ∧ Cond.selects me_M_farOf.1.cls me_M_farOf.1 me_M_farOf.1 ∈ gk_W := ⟨(gk_t6 41 rfl rfl), (gk_p4 (q := (me_M_farOf.1, 49)) 1 rfl)⟩
theorem mi_M_counts : Cond.instanceMethod me_M_counts.1 ∈ gk_W ∧ Cond.selects me_M_counts.1.cls me_M_counts.1 me_M_counts.1 ∈ gk_W := ⟨(gk_t6 45 rfl rfl), (gk_p4 (q := (me_M_counts.1, 49)) 2 rfl)⟩
theorem mi_M_heightOf : Cond.instanceMethod me_M_heightOf.1 ∈ gk_W ∧ Cond.selects me_M_heightOf.1.cls me_M_heightOf.1 me_M_heightOf.1 ∈ gk_W := ⟨(gk_t6 49 rfl rfl), (gk_p4 (q := (me_M_heightOf.1, 49)) 3 rfl)⟩
theorem mi_M_oldOf : Cond.instanceMethod me_M_oldOf.1 ∈ gk_W ∧ Cond.selects me_M_oldOf.1.cls me_M_oldOf.1 me_M_oldOf.1 ∈ gk_W := ⟨(gk_t6 53 rfl rfl), (gk_p4 (q := (me_M_oldOf.1, 49)) 4 rfl)⟩
theorem mi_M_guilty : Cond.instanceMethod me_M_guilty.1 ∈ gk_W ∧ Cond.selects me_M_guilty.1.cls me_M_guilty.1 me_M_guilty.1 ∈ gk_W := ⟨(gk_t6 56 rfl rfl), (gk_t6 57 rfl rfl)⟩
theorem mi_M_isStretch : Cond.instanceMethod me_M_isStretch.1 ∈ gk_W ∧ Cond.selects me_M_isStretch.1.cls me_M_isStretch.1 me_M_isStretch.1 ∈ gk_W := ⟨(gk_t6 61 rfl rfl), (gk_p4 (q := (me_M_isStretch.1, 49)) 5 rfl)⟩
theorem mi_M_isGuiltyOn : Cond.instanceMethod me_M_isGuiltyOn.1 ∈ gk_W ∧ Cond.selects me_M_isGuiltyOn.1.cls me_M_isGuiltyOn.1 me_M_isGuiltyOn.1 ∈ gk_W := ⟨(gk_t6 65 rfl rfl), (gk_p4 (q := (me_M_isGuiltyOn.1, 49)) 6 rfl)⟩
theorem mi_M_cornerOf : Cond.instanceMethod me_M_cornerOf.1 ∈ gk_W ∧ Cond.selects me_M_cornerOf.1.cls me_M_cornerOf.1 me_M_cornerOf.1 ∈ gk_W := ⟨(gk_t6 69 rfl rfl), (gk_p4 (q := (me_M_cornerOf.1, 49)) 7 rfl)⟩
theorem mi_M_isGuilty : Cond.instanceMethod me_M_isGuilty.1 ∈ gk_W ∧ Cond.selects me_M_isGuilty.1.cls me_M_isGuilty.1 me_M_isGuilty.1 ∈ gk_W := ⟨(gk_t6 73 rfl rfl), (gk_p4 (q := (me_M_isGuilty.1, 49)) 8 rfl)⟩
theorem mi_M_isAlong : Cond.instanceMethod me_M_isAlong.1 ∈ gk_W ∧ Cond.selects me_M_isAlong.1.cls me_M_isAlong.1 me_M_isAlong.1 ∈ gk_W := ⟨(gk_t6 77 rfl rfl), (gk_p4 (q := (me_M_isAlong.1, 49)) 9 rfl)⟩
theorem mi_M_guilts : Cond.instanceMethod me_M_guilts.1 ∈ gk_W ∧ Cond.selects me_M_guilts.1.cls me_M_guilts.1 me_M_guilts.1 ∈ gk_W := ⟨(gk_t6 83 rfl rfl), (gk_t6 84 rfl rfl)⟩
theorem mi_M_allGuilts : Cond.instanceMethod me_M_allGuilts.1 ∈ gk_W ∧ Cond.selects me_M_allGuilts.1.cls me_M_allGuilts.1 me_M_allGuilts.1 ∈ gk_W := ⟨(gk_t6 88 rfl rfl), (gk_p4 (q := (me_M_allGuilts.1, 49)) 10 rfl)⟩
theorem mi_M_guiltsOf : Cond.instanceMethod me_M_guiltsOf.1 ∈ gk_W ∧ Cond.selects me_M_guiltsOf.1.cls me_M_guiltsOf.1 me_M_guiltsOf.1 ∈ gk_W := ⟨(gk_t6 92 rfl rfl), (gk_p4 (q := (me_M_guiltsOf.1, 49)) 11 rfl)⟩
theorem mi_M_guiltsOn : Cond.instanceMethod me_M_guiltsOn.1 ∈ gk_W ∧ Cond.selects me_M_guiltsOn.1.cls me_M_guiltsOn.1 me_M_guiltsOn.1 ∈ gk_W := ⟨(gk_t6 96 rfl rfl), (gk_p4 (q := (me_M_guiltsOn.1, 49)) 12 rfl)⟩
theorem mi_M_which : Cond.instanceMethod me_M_which.1 ∈ gk_W ∧ Cond.selects me_M_which.1.cls me_M_which.1 me_M_which.1 ∈ gk_W := ⟨(gk_t6 99 rfl rfl), (gk_t6 100 rfl rfl)⟩
theorem mi_M_firstOn : Cond.instanceMethod me_M_firstOn.1 ∈ gk_W ∧ Cond.selects me_M_firstOn.1.cls me_M_firstOn.1 me_M_firstOn.1 ∈ gk_W := ⟨(gk_t6 104 rfl rfl), (gk_p4 (q := (me_M_firstOn.1, 49)) 13 rfl)⟩
theorem mi_M_led : Cond.instanceMethod me_M_led.1 ∈ gk_W ∧ Cond.selects me_M_led.1.cls me_M_led.1 me_M_led.1 ∈ gk_W := ⟨(gk_t6 107 rfl rfl), (gk_t6 108 rfl rfl)⟩
theorem mi_M_guiltsWith : Cond.instanceMethod me_M_guiltsWith.1 ∈ gk_W ∧ Cond.selects me_M_guiltsWith.1.cls me_M_guiltsWith.1 me_M_guiltsWith.1 ∈ gk_W := ⟨(gk_t6 112 rfl rfl), (gk_p4 (q := (me_M_guiltsWith.1, 49)) 14 rfl)⟩
theorem mi_M_seen : Cond.instanceMethod me_M_seen.1 ∈ gk_W ∧ Cond.selects me_M_seen.1.cls me_M_seen.1 me_M_seen.1 ∈ gk_W := ⟨(gk_t6 115 rfl rfl), (gk_t6 116 rfl rfl)⟩
theorem mi_M_seenFrom : Cond.instanceMethod me_M_seenFrom.1 ∈ gk_W ∧ Cond.selects me_M_seenFrom.1.cls me_M_seenFrom.1 me_M_seenFrom.1 ∈ gk_W := ⟨(gk_t6 120 rfl rfl), (gk_p4 (q := (me_M_seenFrom.1, 49)) 15 rfl)⟩
theorem mi_M_isHidden : Cond.instanceMethod me_M_isHidden.1 ∈ gk_W ∧ Cond.selects me_M_isHidden.1.cls me_M_isHidden.1 me_M_isHidden.1 ∈ gk_W := ⟨(gk_t6 124 rfl rfl), (gk_p5 (q := (me_M_isHidden.1, 49)) 0 rfl)⟩
theorem mi_M_free : Cond.instanceMethod me_M_free.1 ∈ gk_W ∧ Cond.selects me_M_free.1.cls me_M_free.1 me_M_free.1 ∈ gk_W := ⟨(gk_t6 127 rfl rfl), (gk_t6 128 rfl rfl)⟩
theorem mi_M_isFree : Cond.instanceMethod me_M_isFree.1 ∈ gk_W ∧ Cond.selects me_M_isFree.1.cls me_M_isFree.1 me_M_isFree.1 ∈ gk_W := ⟨(gk_t6 133 rfl rfl), (gk_p5 (q := (me_M_isFree.1, 49)) 1 rfl)⟩
theorem mi_M_isCorner : Cond.instanceMethod me_M_isCorner.1 ∈ gk_W ∧ Cond.selects me_M_isCorner.1.cls me_M_isCorner.1 me_M_isCorner.1 ∈ gk_W := ⟨(gk_t6 137 rfl rfl), (gk_p5 (q := (me_M_isCorner.1, 49)) 2 rfl)⟩
theorem mi_M_years : Cond.instanceMethod me_M_years.1 ∈ gk_W ∧ Cond.selects me_M_years.1.cls me_M_years.1 me_M_years.1 ∈ gk_W := ⟨(gk_t6 140 rfl rfl), (gk_t6 141 rfl rfl)⟩
theorem mi_M_firstFree : Cond.instanceMethod me_M_firstFree.1 ∈ gk_W ∧ Cond.selects me_M_firstFree.1.cls me_M_firstFree.1 me_M_firstFree.1 ∈ gk_W := ⟨(gk_t6 145 rfl rfl), (gk_p5 (q := (me_M_firstFree.1, 49)) 3 rfl)⟩
theorem mi_M_fewest : Cond.instanceMethod me_M_fewest.1 ∈ gk_W ∧ Cond.selects me_M_fewest.1.cls me_M_fewest.1 me_M_fewest.1 ∈ gk_W := ⟨(gk_t6 148 rfl rfl), (gk_t6 149 rfl rfl)⟩
theorem mi_M_leastSet : Cond.instanceMethod me_M_leastSet.1 ∈ gk_W ∧ Cond.selects me_M_leastSet.1.cls me_M_leastSet.1 me_M_leastSet.1 ∈ gk_W := ⟨(gk_t6 153 rfl rfl), (gk_p5 (q := (me_M_leastSet.1, 49)) 4 rfl)⟩
theorem mi_M_findAgainst : Cond.instanceMethod me_M_findAgainst.1 ∈ gk_W ∧ Cond.selects me_M_findAgainst.1.cls me_M_findAgainst.1 me_M_findAgainst.1 ∈ gk_W := ⟨(gk_t6 157 rfl rfl), (gk_p5 (q := (me_M_findAgainst.1, 49)) 5 rfl)⟩
theorem mi_M_areAgainst : Cond.instanceMethod me_M_areAgainst.1 ∈ gk_W ∧ Cond.selects me_M_areAgainst.1.cls me_M_areAgainst.1 me_M_areAgainst.1 ∈ gk_W := ⟨(gk_t6 161 rfl rfl), (gk_p5 (q := (me_M_areAgainst.1, 49)) 6 rfl)⟩
theorem mi_M_isLawfulWithout : Cond.instanceMethod me_M_isLawfulWithout.1 ∈ gk_W ∧ Cond.selects me_M_isLawfulWithout.1.cls me_M_isLawfulWithout.1 me_M_isLawfulWithout.1 ∈ gk_W := ⟨(gk_t6 165 rfl rfl), (gk_p5 (q := (me_M_isLawfulWithout.1, 49)) 7 rfl)⟩
theorem mi_M_priceOf : Cond.instanceMethod me_M_priceOf.1 ∈ gk_W ∧ Cond.selects me_M_priceOf.1.cls me_M_priceOf.1 me_M_priceOf.1 ∈ gk_W := ⟨(gk_t6 169 rfl rfl), (gk_p5 (q := (me_M_priceOf.1, 49)) 8 rfl)⟩
theorem mi_M_cheapest : Cond.instanceMethod me_M_cheapest.1 ∈ gk_W ∧ Cond.selects me_M_cheapest.1.cls me_M_cheapest.1 me_M_cheapest.1 ∈ gk_W := ⟨(gk_t6 172 rfl rfl), (gk_t6 173 rfl rfl)⟩
theorem mi_M_moved : Cond.instanceMethod me_M_moved.1 ∈ gk_W ∧ Cond.selects me_M_moved.1.cls me_M_moved.1 me_M_moved.1 ∈ gk_W := ⟨(gk_t6 176 rfl rfl), (gk_t6 177 rfl rfl)⟩
theorem mi_M_bent : Cond.instanceMethod me_M_bent.1 ∈ gk_W ∧ Cond.selects me_M_bent.1.cls me_M_bent.1 me_M_bent.1 ∈ gk_W := ⟨(gk_t6 180 rfl rfl), (gk_t6 181 rfl rfl)⟩
theorem mi_M_guiltsBetween : Cond.instanceMethod me_M_guiltsBetween.1 ∈ gk_W ∧ Cond.selects me_M_guiltsBetween.1.cls me_M_guiltsBetween.1 me_M_guiltsBetween.1 ∈ gk_W := ⟨(gk_t6 185 rfl rfl), (gk_p5 (q := (me_M_guiltsBetween.1, 49)) 9 rfl)⟩
theorem mi_M_newly : Cond.instanceMethod me_M_newly.1 ∈ gk_W ∧ Cond.selects me_M_newly.1.cls me_M_newly.1 me_M_newly.1 ∈ gk_W := ⟨(gk_t6 188 rfl rfl), (gk_t6 189 rfl rfl)⟩
theorem mi_M_seesNone : Cond.instanceMethod me_M_seesNone.1 ∈ gk_W ∧ Cond.selects me_M_seesNone.1.cls me_M_seesNone.1 me_M_seesNone.1 ∈ gk_W := ⟨(gk_t6 193 rfl rfl), (gk_p5 (q := (me_M_seesNone.1, 49)) 10 rfl)⟩
theorem mi_M_joins : Cond.instanceMethod me_M_joins.1 ∈ gk_W ∧ Cond.selects me_M_joins.1.cls me_M_joins.1 me_M_joins.1 ∈ gk_W := ⟨(gk_t6 197 rfl rfl), (gk_p5 (q := (me_M_joins.1, 49)) 11 rfl)⟩
theorem mi_M_game : Cond.instanceMethod me_M_game.1 ∈ gk_W ∧ Cond.selects me_M_game.1.cls me_M_game.1 me_M_game.1 ∈ gk_W := ⟨(gk_t6 200 rfl rfl), (gk_t6 201 rfl rfl)⟩
theorem mi_M_looksAt : Cond.instanceMethod me_M_looksAt.1 ∈ gk_W ∧ Cond.selects me_M_looksAt.1.cls me_M_looksAt.1 me_M_looksAt.1 ∈ gk_W := ⟨(gk_t6 209 rfl rfl), (gk_p5 (q := (me_M_looksAt.1, 49)) 12 rfl)⟩
theorem mi_M_laysOut : Cond.instanceMethod me_M_laysOut.1 ∈ gk_W ∧ Cond.selects me_M_laysOut.1.cls me_M_laysOut.1 me_M_laysOut.1 ∈ gk_W := ⟨(gk_t6 213 rfl rfl), (gk_p5 (q := (me_M_laysOut.1, 49)) 13 rfl)⟩
theorem mi_M_gamePoint : Cond.instanceMethod me_M_gamePoint.1 ∈ gk_W ∧ Cond.selects me_M_gamePoint.1.cls me_M_gamePoint.1 me_M_gamePoint.1 ∈ gk_W := ⟨(gk_t6 217 rfl rfl), (gk_p5 (q := (me_M_gamePoint.1, 49)) 14 rfl)⟩
theorem mi_M_sight : Cond.instanceMethod me_M_sight.1 ∈ gk_W ∧ Cond.selects me_M_sight.1.cls me_M_sight.1 me_M_sight.1 ∈ gk_W := ⟨(gk_t6 220 rfl rfl), (gk_t6 221 rfl rfl)⟩
theorem mi_M_fits : Cond.instanceMethod me_M_fits.1 ∈ gk_W ∧ Cond.selects me_M_fits.1.cls me_M_fits.1 me_M_fits.1 ∈ gk_W := ⟨(gk_t6 225 rfl rfl), (gk_t6 226 rfl rfl)⟩
theorem mi_M_allSights : Cond.instanceMethod me_M_allSights.1 ∈ gk_W ∧ Cond.selects me_M_allSights.1.cls me_M_allSights.1 me_M_allSights.1 ∈ gk_W := ⟨(gk_t6 230 rfl rfl), (gk_p5 (q := (me_M_allSights.1, 49)) 15 rfl)⟩
theorem mi_M_body : Cond.instanceMethod me_M_body.1 ∈ gk_W ∧ Cond.selects me_M_body.1.cls me_M_body.1 me_M_body.1 ∈ gk_W := ⟨(gk_t6 233 rfl rfl), (gk_t6 234 rfl rfl)⟩
theorem mi_M_act : Cond.instanceMethod me_M_act.1 ∈ gk_W ∧ Cond.selects me_M_act.1.cls me_M_act.1 me_M_act.1 ∈ gk_W := ⟨(gk_t6 238 rfl rfl), (gk_t6 239 rfl rfl)⟩
theorem mi_M_isBody : Cond.instanceMethod me_M_isBody.1 ∈ gk_W ∧ Cond.selects me_M_isBody.1.cls me_M_isBody.1 me_M_isBody.1 ∈ gk_W := ⟨(gk_t7 3 rfl rfl), (gk_p6 (q := (me_M_isBody.1, 49)) 0 rfl)⟩
theorem mi_M_hidesAs : Cond.instanceMethod me_M_hidesAs.1 ∈ gk_W ∧ Cond.selects me_M_hidesAs.1.cls me_M_hidesAs.1 me_M_hidesAs.1 ∈ gk_W := ⟨(gk_t7 7 rfl rfl), (gk_p6 (q := (me_M_hidesAs.1, 49)) 1 rfl)⟩
theorem mi_M_begins : Cond.instanceMethod me_M_begins.1 ∈ gk_W ∧ Cond.selects me_M_begins.1.cls me_M_begins.1 me_M_begins.1 ∈ gk_W := ⟨(gk_t7 11 rfl rfl), (gk_p6 (q := (me_M_begins.1, 49)) 2 rfl)⟩
theorem mi_M_standsAs : Cond.instanceMethod me_M_standsAs.1 ∈ gk_W ∧ Cond.selects me_M_standsAs.1.cls me_M_standsAs.1 me_M_standsAs.1 ∈ gk_W := ⟨(gk_t7 15 rfl rfl), (gk_p6 (q := (me_M_standsAs.1, 49)) 3 rfl)⟩
theorem mi_M_linesAs : Cond.instanceMethod me_M_linesAs.1 ∈ gk_W ∧ Cond.selects me_M_linesAs.1.cls me_M_linesAs.1 me_M_linesAs.1 ∈ gk_W := ⟨(gk_t7 19 rfl rfl), (gk_p6 (q := (me_M_linesAs.1, 49)) 4 rfl)⟩
theorem mi_M_tellsAs : Cond.instanceMethod me_M_tellsAs.1 ∈ gk_W ∧ Cond.selects me_M_tellsAs.1.cls me_M_tellsAs.1 me_M_tellsAs.1 ∈ gk_W := ⟨(gk_t7 23 rfl rfl), (gk_p6 (q := (me_M_tellsAs.1, 49)) 5 rfl)⟩
theorem mi_M_trace : Cond.instanceMethod me_M_trace.1 ∈ gk_W ∧ Cond.selects me_M_trace.1.cls me_M_trace.1 me_M_trace.1 ∈ gk_W := ⟨(gk_t7 26 rfl rfl), (gk_t7 27 rfl rfl)⟩
theorem mi_M_keep : Cond.instanceMethod me_M_keep.1 ∈ gk_W ∧ Cond.selects me_M_keep.1.cls me_M_keep.1 me_M_keep.1 ∈ gk_W := ⟨(gk_t7 30 rfl rfl), (gk_t7 31 rfl rfl)⟩
theorem mi_M_row : Cond.instanceMethod me_M_row.1 ∈ gk_W ∧ Cond.selects me_M_row.1.cls me_M_row.1 me_M_row.1 ∈ gk_W := ⟨(gk_t7 34 rfl rfl), (gk_t7 35 rfl rfl)⟩
theorem mi_M_put : Cond.instanceMethod me_M_put.1 ∈ gk_W ∧ Cond.selects me_M_put.1.cls me_M_put.1 me_M_put.1 ∈ gk_W := ⟨(gk_t7 38 rfl rfl), (gk_t7 39 rfl rfl)⟩
theorem mi_M_refusal : Cond.instanceMethod me_M_refusal.1 ∈ gk_W ∧ Cond.selects me_M_refusal.1.cls me_M_refusal.1 me_M_refusal.1 ∈ gk_W := ⟨(gk_t7 43 rfl rfl), (gk_p6 (q := (me_M_refusal.1, 49)) 6 rfl)⟩
theorem mi_M_element : Cond.instanceMethod me_M_element.1 ∈ gk_W ∧ Cond.selects me_M_element.1.cls me_M_element.1 me_M_element.1 ∈ gk_W := ⟨(gk_t7 49 rfl rfl), (gk_t7 50 rfl rfl)⟩
theorem mi_M_shift : Cond.instanceMethod me_M_shift.1 ∈ gk_W ∧ Cond.selects me_M_shift.1.cls me_M_shift.1 me_M_shift.1 ∈ gk_W := ⟨(gk_t7 54 rfl rfl), (gk_t7 55 rfl rfl)⟩
theorem mi_M_taken : Cond.instanceMethod me_M_taken.1 ∈ gk_W ∧ Cond.selects me_M_taken.1.cls me_M_taken.1 me_M_taken.1 ∈ gk_W := ⟨(gk_t7 58 rfl rfl), (gk_t7 59 rfl rfl)⟩
theorem mi_M_kindOf : Cond.instanceMethod me_M_kindOf.1 ∈ gk_W ∧ Cond.selects me_M_kindOf.1.cls me_M_kindOf.1 me_M_kindOf.1 ∈ gk_W := ⟨(gk_t7 63 rfl rfl), (gk_p6 (q := (me_M_kindOf.1, 49)) 7 rfl)⟩
theorem mi_M_count : Cond.instanceMethod me_M_count.1 ∈ gk_W ∧ Cond.selects me_M_count.1.cls me_M_count.1 me_M_count.1 ∈ gk_W := ⟨(gk_t7 69 rfl rfl), (gk_t7 70 rfl rfl)⟩
theorem mv_L_13 : gk_MV "NeverInLineLaw" 13 me_X_tower := ⟨(gk_t2 73 rfl rfl), mi_X_tower⟩
theorem mv_X_76 : gk_MV "NeverInLine" 76 me_Plain_build := ⟨(gk_t2 77 rfl rfl), mi_Plain_build⟩
theorem mn_Plain_67 : gk_MN "NeverInLine$Plain" 67 me_X_isPoint "NeverInLine" := ⟨by simp [gk_nest], (gk_t2 82 rfl rfl)⟩
theorem mn_Plain_71 : gk_MN "NeverInLine$Plain" 71 me_X_isHeight "NeverInLine" := ⟨by simp [gk_nest], (gk_t2 85 rfl rfl)⟩
theorem mv_Plain_74 : gk_MV "NeverInLine$Plain" 74 me_Plain_most := ⟨(gk_t2 87 rfl rfl), mi_Plain_most⟩
theorem mv_Plain_78 : gk_MV "NeverInLine$Plain" 78 me_Plain_hasTower := ⟨(gk_t2 91 rfl rfl), mi_Plain_hasTower⟩
theorem mv_Plain_97 : gk_MV "NeverInLine$Plain" 97 me_Plain_pointOf := ⟨(gk_t2 95 rfl rfl), mi_Plain_pointOf⟩
theorem mv_Plain_81 : gk_MV "NeverInLine$Plain" 81 me_Plain_place := ⟨(gk_t2 99 rfl rfl), mi_Plain_place⟩
theorem mv_Plain_85 : gk_MV "NeverInLine$Plain" 85 me_Plain_think := ⟨(gk_t2 103 rfl rfl), mi_Plain_think⟩
theorem mv_Plain_88 : gk_MV "NeverInLine$Plain" 88 me_Plain_forgetVerdicts := ⟨(gk_t2 107 rfl rfl), mi_Plain_forgetVerdicts⟩
theorem ms_Plain_91 : gk_MS "NeverInLine$Plain" 91 me_Arrays_fillI := ⟨(gk_t2 111 rfl rfl), (gk_t2 112 rfl rfl)⟩
theorem mv_L_18 : gk_MV "NeverInLineLaw" 18 me_X_towers := ⟨(gk_t2 114 rfl rfl), mi_X_towers⟩
theorem ms_X_80 : gk_MS "NeverInLine" 80 me_X_isShelf := ⟨(gk_t2 118 rfl rfl), (gk_t2 119 rfl rfl)⟩
theorem mv_X_84 : gk_MV "NeverInLine" 84 me_Shelf_isEmpty := ⟨(gk_t2 121 rfl rfl), mi_Shelf_isEmpty⟩
theorem mv_X_88 : gk_MV "NeverInLine" 88 me_Shelf_isRowOf := ⟨(gk_t2 125 rfl rfl), mi_Shelf_isRowOf⟩
theorem mv_Shelf_23 : gk_MV "NeverInLine$Shelf" 23 me_Shelf_isRow := ⟨(gk_t2 129 rfl rfl), mi_Shelf_isRow⟩
theorem mv_X_91 : gk_MV "NeverInLine" 91 me_Shelf_spans := ⟨(gk_t2 133 rfl rfl), mi_Shelf_spans⟩
theorem mv_L_23 : gk_MV "NeverInLineLaw" 23 me_X_road := ⟨(gk_t2 137 rfl rfl), mi_X_road⟩
theorem ms_X_99 : gk_MS "NeverInLine" 99 me_X_isPoint := ⟨(gk_t2 141 rfl rfl), (gk_t2 82 rfl rfl)⟩
theorem mv_X_102 : gk_MV "NeverInLine" 102 me_Plain_addRoad := ⟨(gk_t2 142 rfl rfl), mi_Plain_addRoad⟩
theorem mv_L_27 : gk_MV "NeverInLineLaw" 27 me_X_corner := ⟨(gk_t2 146 rfl rfl), mi_X_corner⟩
theorem mv_X_106 : gk_MV "NeverInLine" 106 me_Plain_isRoad := ⟨(gk_t2 150 rfl rfl), mi_Plain_isRoad⟩
theorem mv_X_113 : gk_MV "NeverInLine" 113 me_Plain_cornerAt := ⟨(gk_t2 154 rfl rfl), mi_Plain_cornerAt⟩
theorem mv_X_116 : gk_MV "NeverInLine" 116 me_Plain_addCorner := ⟨(gk_t2 158 rfl rfl), mi_Plain_addCorner⟩
theorem mv_L_31 : gk_MV "NeverInLineLaw" 31 me_X_forest := ⟨(gk_t2 162 rfl rfl), mi_X_forest⟩
theorem mv_X_119 : gk_MV "NeverInLine" 119 me_Plain_addForest := ⟨(gk_t2 166 rfl rfl), mi_Plain_addForest⟩
theorem mv_L_35 : gk_MV "NeverInLineLaw" 35 me_X_feed := ⟨(gk_t2 170 rfl rfl), mi_X_feed⟩
theorem mv_X_122 : gk_MV "NeverInLine" 122 me_Reader_take := ⟨(gk_t2 174 rfl rfl), mi_Reader_take⟩
theorem mv_L_40 : gk_MV "NeverInLineLaw" 40 me_X_law := ⟨(gk_t2 178 rfl rfl), mi_X_law⟩
theorem mv_X_126 : gk_MV "NeverInLine" 126 me_Reader_read := ⟨(gk_t2 182 rfl rfl), mi_Reader_read⟩
theorem mv_Reader_33 : gk_MV "NeverInLine$Reader" 33 me_Reader_readLine := ⟨(gk_t2 186 rfl rfl), mi_Reader_readLine⟩
theorem mv_Reader_40 : gk_MV "NeverInLine$Reader" 40 me_Reader_readLevel := ⟨(gk_t2 190 rfl rfl), mi_Reader_readLevel⟩
theorem mv_Reader_48 : gk_MV "NeverInLine$Reader" 48 me_Reader_readOperand := ⟨(gk_t2 194 rfl rfl), mi_Reader_readOperand⟩
theorem mv_Reader_36 : gk_MV "NeverInLine$Reader" 36 me_Reader_next := ⟨(gk_t2 198 rfl rfl), mi_Reader_next⟩
theorem mv_Reader_55 : gk_MV "NeverInLine$Reader" 55 me_Reader_readNumber := ⟨(gk_t2 202 rfl rfl), mi_Reader_readNumber⟩
theorem mv_Reader_44 : gk_MV "NeverInLine$Reader" 44 me_Reader_draw := ⟨(gk_t2 206 rfl rfl), mi_Reader_draw⟩
theorem ms_Reader_58 : gk_MS "NeverInLine$Reader" 58 me_Reader_nameOf := ⟨(gk_t2 210 rfl rfl), (gk_t2 211 rfl rfl)⟩
theorem mv_Reader_61 : gk_MV "NeverInLine$Reader" 61 me_Reader_close := ⟨(gk_t2 213 rfl rfl), mi_Reader_close⟩
theorem ms_Reader_51 : gk_MS "NeverInLine$Reader" 51 me_Reader_levelOf := ⟨(gk_t2 217 rfl rfl), (gk_t2 218 rfl rfl)⟩
theorem mv_X_137 : gk_MV "NeverInLine" 137 me_Law_become := ⟨(gk_t2 220 rfl rfl), mi_Law_become⟩
theorem ms_Law_20 : gk_MS "NeverInLine$Law" 20 me_Math_min := ⟨(gk_t2 224 rfl rfl), (gk_t2 225 rfl rfl)⟩
theorem ac_Law_26 : gk_AC "NeverInLine$Law" 26 := ⟨(gk_t2 227 rfl rfl), (gk_t2 229 rfl rfl), (gk_t2 228 rfl rfl), li_java_lang_System⟩
theorem mv_X_141 : gk_MV "NeverInLine" 141 me_Plain_forgetVerdicts := ⟨(gk_t2 230 rfl rfl), mi_Plain_forgetVerdicts⟩
theorem mv_X_144 : gk_MV "NeverInLine" 144 me_Reader_empty := ⟨(gk_t2 231 rfl rfl), mi_Reader_empty⟩
theorem mv_L_45 : gk_MV "NeverInLineLaw" 45 me_X_mend := ⟨(gk_t2 235 rfl rfl), mi_X_mend⟩
theorem mv_X_147 : gk_MV "NeverInLine" 147 me_Plain_isTower := ⟨(gk_t2 239 rfl rfl), mi_Plain_isTower⟩
theorem mv_X_150 : gk_MV "NeverInLine" 150 me_Plain_most := ⟨(gk_t3 3 rfl rfl), mi_Plain_most⟩
theorem mv_X_153 : gk_MV "NeverInLine" 153 me_Plain_trait := ⟨(gk_t3 4 rfl rfl), mi_Plain_trait⟩
theorem mv_X_156 : gk_MV "NeverInLine" 156 me_History_note := ⟨(gk_t3 8 rfl rfl), mi_History_note⟩
theorem mv_History_35 : gk_MV "NeverInLine$History" 35 me_History_dropOldest := ⟨(gk_t3 12 rfl rfl), mi_History_dropOldest⟩
theorem ac_History_38 : gk_AC "NeverInLine$History" 38 := ⟨(gk_t3 16 rfl rfl), (gk_t2 229 rfl rfl), (gk_t2 228 rfl rfl), li_java_lang_System⟩
theorem mv_X_160 : gk_MV "NeverInLine" 160 me_Plain_setTrait := ⟨(gk_t3 17 rfl rfl), mi_Plain_setTrait⟩
theorem mv_L_49 : gk_MV "NeverInLineLaw" 49 me_X_of := ⟨(gk_t3 21 rfl rfl), mi_X_of⟩
theorem mv_X_164 : gk_MV "NeverInLine" 164 me_X_towerTells := ⟨(gk_t3 25 rfl rfl), mi_X_towerTells⟩
theorem mv_X_167 : gk_MV "NeverInLine" 167 me_Plain_pointOf := ⟨(gk_t3 29 rfl rfl), mi_Plain_pointOf⟩
theorem mv_L_53 : gk_MV "NeverInLineLaw" 53 me_X_line := ⟨(gk_t3 30 rfl rfl), mi_X_line⟩
theorem mv_X_170 : gk_MV "NeverInLine" 170 me_X_isPair := ⟨(gk_t3 34 rfl rfl), mi_X_isPair⟩
theorem mv_X_173 : gk_MV "NeverInLine" 173 me_Plain_areInLine := ⟨(gk_t3 38 rfl rfl), mi_Plain_areInLine⟩
theorem mv_Plain_116 : gk_MV "NeverInLine$Plain" 116 me_Plain_side := ⟨(gk_t3 42 rfl rfl), mi_Plain_side⟩
theorem mv_Plain_120 : gk_MV "NeverInLine$Plain" 120 me_Plain_lineUp := ⟨(gk_t3 46 rfl rfl), mi_Plain_lineUp⟩
theorem ms_Plain_124 : gk_MS "NeverInLine$Plain" 124 me_Math_abs := ⟨(gk_t3 50 rfl rfl), (gk_t3 51 rfl rfl)⟩
theorem mv_Plain_127 : gk_MV "NeverInLine$Plain" 127 me_Plain_counts := ⟨(gk_t3 53 rfl rfl), mi_Plain_counts⟩
theorem ms_Plain_104 : gk_MS "NeverInLine$Plain" 104 me_Math_min := ⟨(gk_t3 57 rfl rfl), (gk_t2 225 rfl rfl)⟩
theorem ms_Plain_109 : gk_MS "NeverInLine$Plain" 109 me_Math_max := ⟨(gk_t3 58 rfl rfl), (gk_t3 59 rfl rfl)⟩
theorem mv_Plain_112 : gk_MV "NeverInLine$Plain" 112 me_Law_verdict := ⟨(gk_t3 61 rfl rfl), mi_Law_verdict⟩
theorem ms_Law_32 : gk_MS "NeverInLine$Law" 32 me_Law_worked := ⟨(gk_t3 65 rfl rfl), (gk_t3 66 rfl rfl)⟩
theorem mv_Plain_131 : gk_MV "NeverInLine$Plain" 131 me_Plain_isStopped := ⟨(gk_t3 68 rfl rfl), mi_Plain_isStopped⟩
theorem mv_Plain_134 : gk_MV "NeverInLine$Plain" 134 me_Plain_cuts := ⟨(gk_t3 72 rfl rfl), mi_Plain_cuts⟩
theorem ms_Plain_138 : gk_MS "NeverInLine$Plain" 138 me_Plain_areBothOnOneSide := ⟨(gk_t3 76 rfl rfl), (gk_t3 77 rfl rfl)⟩
theorem ms_Plain_142 : gk_MS "NeverInLine$Plain" 142 me_Plain_overlap := ⟨(gk_t3 79 rfl rfl), (gk_t3 80 rfl rfl)⟩
theorem mv_L_57 : gk_MV "NeverInLineLaw" 57 me_X_guilty := ⟨(gk_t3 82 rfl rfl), mi_X_guilty⟩
theorem mv_X_177 : gk_MV "NeverInLine" 177 me_X_isStretch := ⟨(gk_t3 86 rfl rfl), mi_X_isStretch⟩
theorem ms_X_180 : gk_MS "NeverInLine" 180 me_X_isChoice := ⟨(gk_t3 90 rfl rfl), (gk_t3 91 rfl rfl)⟩
theorem mv_X_183 : gk_MV "NeverInLine" 183 me_Plain_guiltBetween := ⟨(gk_t3 93 rfl rfl), mi_Plain_guiltBetween⟩
theorem ms_X_187 : gk_MS "NeverInLine" 187 me_X_greatestDivisor := ⟨(gk_t3 97 rfl rfl), (gk_t3 98 rfl rfl)⟩
theorem ms_X_343 : gk_MS "NeverInLine" 343 me_Math_max := ⟨(gk_t3 100 rfl rfl), (gk_t3 59 rfl rfl)⟩
theorem mv_L_61 : gk_MV "NeverInLineLaw" 61 me_X_guilts := ⟨(gk_t3 101 rfl rfl), mi_X_guilts⟩
theorem mv_X_190 : gk_MV "NeverInLine" 190 me_Plain_allGuilts := ⟨(gk_t3 105 rfl rfl), mi_Plain_allGuilts⟩
theorem mv_Plain_100 : gk_MV "NeverInLine$Plain" 100 me_Plain_cornerAt := ⟨(gk_t3 109 rfl rfl), mi_Plain_cornerAt⟩
theorem mv_Plain_151 : gk_MV "NeverInLine$Plain" 151 me_Plain_guiltsBetween := ⟨(gk_t3 111 rfl rfl), mi_Plain_guiltsBetween⟩
theorem mv_Plain_146 : gk_MV "NeverInLine$Plain" 146 me_Plain_guiltBetween := ⟨(gk_t3 115 rfl rfl), mi_Plain_guiltBetween⟩
theorem mv_X_193 : gk_MV "NeverInLine" 193 me_Plain_roadGuilts := ⟨(gk_t3 116 rfl rfl), mi_Plain_roadGuilts⟩
theorem mv_L_65 : gk_MV "NeverInLineLaw" 65 me_X_which := ⟨(gk_t3 120 rfl rfl), mi_X_which⟩
theorem mv_X_199 : gk_MV "NeverInLine" 199 me_Plain_firstGuiltyPair := ⟨(gk_t3 124 rfl rfl), mi_Plain_firstGuiltyPair⟩
theorem ms_X_202 : gk_MS "NeverInLine" 202 me_X_partOf := ⟨(gk_t3 128 rfl rfl), (gk_t3 129 rfl rfl)⟩
theorem mv_L_69 : gk_MV "NeverInLineLaw" 69 me_X_led := ⟨(gk_t3 131 rfl rfl), mi_X_led⟩
theorem mv_X_205 : gk_MV "NeverInLine" 205 me_Plain_guiltsWith := ⟨(gk_t3 135 rfl rfl), mi_Plain_guiltsWith⟩
theorem mv_Plain_154 : gk_MV "NeverInLine$Plain" 154 me_Plain_guiltsOfPair := ⟨(gk_t3 139 rfl rfl), mi_Plain_guiltsOfPair⟩
theorem mv_L_73 : gk_MV "NeverInLineLaw" 73 me_X_seen := ⟨(gk_t3 143 rfl rfl), mi_X_seen⟩
theorem mv_X_208 : gk_MV "NeverInLine" 208 me_Plain_seenFrom := ⟨(gk_t3 147 rfl rfl), mi_Plain_seenFrom⟩
theorem mv_Plain_160 : gk_MV "NeverInLine$Plain" 160 me_Plain_joinSeen := ⟨(gk_t3 151 rfl rfl), mi_Plain_joinSeen⟩
theorem mv_L_77 : gk_MV "NeverInLineLaw" 77 me_X_free := ⟨(gk_t3 155 rfl rfl), mi_X_free⟩
theorem ms_X_211 : gk_MS "NeverInLine" 211 me_X_isHeight := ⟨(gk_t3 159 rfl rfl), (gk_t2 85 rfl rfl)⟩
theorem mv_X_217 : gk_MV "NeverInLine" 217 me_Planner_freeInRow := ⟨(gk_t3 160 rfl rfl), mi_Planner_freeInRow⟩
theorem mv_Planner_34 : gk_MV "NeverInLine$Planner" 34 me_Plain_think := ⟨(gk_t3 164 rfl rfl), mi_Plain_think⟩
theorem mv_Planner_38 : gk_MV "NeverInLine$Planner" 38 me_Plain_isFreeFor := ⟨(gk_t3 165 rfl rfl), mi_Plain_isFreeFor⟩
theorem mv_Plain_157 : gk_MV "NeverInLine$Plain" 157 me_Plain_hasCorner := ⟨(gk_t3 169 rfl rfl), mi_Plain_hasCorner⟩
theorem mv_L_81 : gk_MV "NeverInLineLaw" 81 me_X_years := ⟨(gk_t3 173 rfl rfl), mi_X_years⟩
theorem mv_X_221 : gk_MV "NeverInLine" 221 me_Planner_settle := ⟨(gk_t3 177 rfl rfl), mi_Planner_settle⟩
theorem mv_L_85 : gk_MV "NeverInLineLaw" 85 me_X_fewest := ⟨(gk_t3 181 rfl rfl), mi_X_fewest⟩
theorem mv_X_225 : gk_MV "NeverInLine" 225 me_Planner_findQuarrels := ⟨(gk_t3 185 rfl rfl), mi_Planner_findQuarrels⟩
theorem ms_Planner_56 : gk_MS "NeverInLine$Planner" 56 me_Arrays_fillI := ⟨(gk_t3 189 rfl rfl), (gk_t2 112 rfl rfl)⟩
theorem mv_Planner_62 : gk_MV "NeverInLine$Planner" 62 me_Plain_guiltsOfPair := ⟨(gk_t3 190 rfl rfl), mi_Plain_guiltsOfPair⟩
theorem mv_X_228 : gk_MV "NeverInLine" 228 me_Planner_leastToGo := ⟨(gk_t3 191 rfl rfl), mi_Planner_leastToGo⟩
theorem mv_Planner_43 : gk_MV "NeverInLine$Planner" 43 me_Planner_priceOf := ⟨(gk_t3 196 rfl rfl), mi_Planner_priceOf⟩
theorem ms_Planner_47 : gk_MS "NeverInLine$Planner" 47 me_Integer_bitCount := ⟨(gk_t3 200 rfl rfl), (gk_t3 201 rfl rfl)⟩
theorem mv_Planner_52 : gk_MV "NeverInLine$Planner" 52 me_Planner_leavesPeace := ⟨(gk_t3 206 rfl rfl), mi_Planner_leavesPeace⟩
theorem mv_L_89 : gk_MV "NeverInLineLaw" 89 me_X_cheapest := ⟨(gk_t3 210 rfl rfl), mi_X_cheapest⟩
theorem mv_X_232 : gk_MV "NeverInLine" 232 me_Planner_priceOf := ⟨(gk_t3 214 rfl rfl), mi_Planner_priceOf⟩
theorem mv_L_93 : gk_MV "NeverInLineLaw" 93 me_X_moved := ⟨(gk_t3 215 rfl rfl), mi_X_moved⟩
theorem mv_X_235 : gk_MV "NeverInLine" 235 me_Planner_target := ⟨(gk_t3 219 rfl rfl), mi_Planner_target⟩
theorem mv_Planner_75 : gk_MV "NeverInLine$Planner" 75 me_Plain_pointOf := ⟨(gk_t3 223 rfl rfl), mi_Plain_pointOf⟩
theorem mv_Planner_78 : gk_MV "NeverInLine$Planner" 78 me_Plain_hasTower := ⟨(gk_t3 224 rfl rfl), mi_Plain_hasTower⟩
theorem mv_X_239 : gk_MV "NeverInLine" 239 me_Plain_place := ⟨(gk_t3 225 rfl rfl), mi_Plain_place⟩
theorem mv_L_97 : gk_MV "NeverInLineLaw" 97 me_X_bent := ⟨(gk_t3 226 rfl rfl), mi_X_bent⟩
theorem mv_X_243 : gk_MV "NeverInLine" 243 me_Planner_bestBend := ⟨(gk_t3 230 rfl rfl), mi_Planner_bestBend⟩
theorem mv_Planner_81 : gk_MV "NeverInLine$Planner" 81 me_Plain_cornerAt := ⟨(gk_t3 234 rfl rfl), mi_Plain_cornerAt⟩
theorem mv_Planner_84 : gk_MV "NeverInLine$Planner" 84 me_Plain_guiltsBetween := ⟨(gk_t3 235 rfl rfl), mi_Plain_guiltsBetween⟩
theorem mv_L_101 : gk_MV "NeverInLineLaw" 101 me_X_newly := ⟨(gk_t3 236 rfl rfl), mi_X_newly⟩
theorem mv_X_249 : gk_MV "NeverInLine" 249 me_Planner_stepsBetween := ⟨(gk_t4 0 rfl rfl), mi_Planner_stepsBetween⟩
theorem mv_Planner_88 : gk_MV "NeverInLine$Planner" 88 me_Planner_isClear := ⟨(gk_t4 4 rfl rfl), mi_Planner_isClear⟩
theorem mv_Planner_94 : gk_MV "NeverInLine$Planner" 94 me_Plain_areInLine := ⟨(gk_t4 8 rfl rfl), mi_Plain_areInLine⟩
theorem ms_Planner_91 : gk_MS "NeverInLine$Planner" 91 me_Planner_neighbour := ⟨(gk_t4 9 rfl rfl), (gk_t4 10 rfl rfl)⟩
theorem mv_L_105 : gk_MV "NeverInLineLaw" 105 me_X_game := ⟨(gk_t4 12 rfl rfl), mi_X_game⟩
theorem mv_X_252 : gk_MV "NeverInLine" 252 me_Game_layOut := ⟨(gk_t4 16 rfl rfl), mi_Game_layOut⟩
theorem ms_Game_33 : gk_MS "NeverInLine$Game" 33 me_Math_min := ⟨(gk_t4 20 rfl rfl), (gk_t2 225 rfl rfl)⟩
theorem ms_Game_39 : gk_MS "NeverInLine$Game" 39 me_Math_max := ⟨(gk_t4 21 rfl rfl), (gk_t3 59 rfl rfl)⟩
theorem mv_Game_42 : gk_MV "NeverInLine$Game" 42 me_Plain_think := ⟨(gk_t4 22 rfl rfl), mi_Plain_think⟩
theorem mv_Game_48 : gk_MV "NeverInLine$Game" 48 me_Game_pointOf := ⟨(gk_t4 23 rfl rfl), mi_Game_pointOf⟩
theorem mv_Game_52 : gk_MV "NeverInLine$Game" 52 me_Plain_isFreeFor := ⟨(gk_t4 27 rfl rfl), mi_Plain_isFreeFor⟩
theorem mv_X_255 : gk_MV "NeverInLine" 255 me_Game_findClashes := ⟨(gk_t4 28 rfl rfl), mi_Game_findClashes⟩
theorem mv_Game_56 : gk_MV "NeverInLine$Game" 56 me_Plain_place := ⟨(gk_t4 32 rfl rfl), mi_Plain_place⟩
theorem mv_Game_59 : gk_MV "NeverInLine$Game" 59 me_Plain_guiltsOfPair := ⟨(gk_t4 33 rfl rfl), mi_Plain_guiltsOfPair⟩
theorem mv_X_258 : gk_MV "NeverInLine" 258 me_Game_firstWinner := ⟨(gk_t4 34 rfl rfl), mi_Game_firstWinner⟩
theorem mv_Game_62 : gk_MV "NeverInLine$Game" 62 me_Game_winningCell := ⟨(gk_t4 38 rfl rfl), mi_Game_winningCell⟩
theorem ms_Game_68 : gk_MS "NeverInLine$Game" 68 me_Integer_bitCount := ⟨(gk_t4 42 rfl rfl), (gk_t3 201 rfl rfl)⟩
theorem mv_L_109 : gk_MV "NeverInLineLaw" 109 me_X_sight := ⟨(gk_t4 43 rfl rfl), mi_X_sight⟩
theorem mv_X_261 : gk_MV "NeverInLine" 261 me_Walker_tell := ⟨(gk_t4 47 rfl rfl), mi_Walker_tell⟩
theorem mv_L_113 : gk_MV "NeverInLineLaw" 113 me_X_fits := ⟨(gk_t4 51 rfl rfl), mi_X_fits⟩
theorem mv_X_264 : gk_MV "NeverInLine" 264 me_Walker_placesFor := ⟨(gk_t4 55 rfl rfl), mi_Walker_placesFor⟩
theorem mv_Walker_29 : gk_MV "NeverInLine$Walker" 29 me_Plain_seenFrom := ⟨(gk_t4 59 rfl rfl), mi_Plain_seenFrom⟩
theorem mv_Walker_35 : gk_MV "NeverInLine$Walker" 35 me_Plain_pointOf := ⟨(gk_t4 60 rfl rfl), mi_Plain_pointOf⟩
theorem mv_Walker_39 : gk_MV "NeverInLine$Walker" 39 me_Plain_place := ⟨(gk_t4 61 rfl rfl), mi_Plain_place⟩
theorem mv_Walker_43 : gk_MV "NeverInLine$Walker" 43 me_Plain_hasTower := ⟨(gk_t4 62 rfl rfl), mi_Plain_hasTower⟩
theorem mv_Walker_47 : gk_MV "NeverInLine$Walker" 47 me_Walker_agrees := ⟨(gk_t4 63 rfl rfl), mi_Walker_agrees⟩
theorem mv_Walker_50 : gk_MV "NeverInLine$Walker" 50 me_Plain_joinSeen := ⟨(gk_t4 67 rfl rfl), mi_Plain_joinSeen⟩
theorem mv_L_117 : gk_MV "NeverInLineLaw" 117 me_X_undo := ⟨(gk_t4 68 rfl rfl), mi_X_undo⟩
theorem mv_X_267 : gk_MV "NeverInLine" 267 me_History_back := ⟨(gk_t4 72 rfl rfl), mi_History_back⟩
theorem mv_History_44 : gk_MV "NeverInLine$History" 44 me_Plain_setTrait := ⟨(gk_t4 76 rfl rfl), mi_Plain_setTrait⟩
theorem mv_L_121 : gk_MV "NeverInLineLaw" 121 me_X_redo := ⟨(gk_t4 77 rfl rfl), mi_X_redo⟩
theorem mv_X_270 : gk_MV "NeverInLine" 270 me_History_forth := ⟨(gk_t4 81 rfl rfl), mi_History_forth⟩
theorem mv_L_125 : gk_MV "NeverInLineLaw" 125 me_X_body := ⟨(gk_t4 85 rfl rfl), mi_X_body⟩
theorem ms_X_273 : gk_MS "NeverInLine" 273 me_Ways_isKind := ⟨(gk_t4 89 rfl rfl), (gk_t4 90 rfl rfl)⟩
theorem mv_X_276 : gk_MV "NeverInLine" 276 me_Ways_add := ⟨(gk_t4 92 rfl rfl), mi_Ways_add⟩
theorem mv_L_129 : gk_MV "NeverInLineLaw" 129 me_X_act := ⟨(gk_t4 96 rfl rfl), mi_X_act⟩
theorem mv_X_279 : gk_MV "NeverInLine" 279 me_Ways_perform := ⟨(gk_t4 100 rfl rfl), mi_Ways_perform⟩
theorem mv_Ways_31 : gk_MV "NeverInLine$Ways" 31 me_Ways_isBody := ⟨(gk_t4 104 rfl rfl), mi_Ways_isBody⟩
theorem mv_Ways_41 : gk_MV "NeverInLine$Ways" 41 me_Ways_own := ⟨(gk_t4 108 rfl rfl), mi_Ways_own⟩
theorem mv_Ways_45 : gk_MV "NeverInLine$Ways" 45 me_Ways_from := ⟨(gk_t4 112 rfl rfl), mi_Ways_from⟩
theorem mv_Ways_52 : gk_MV "NeverInLine$Ways" 52 me_Ways_run := ⟨(gk_t4 120 rfl rfl), mi_Ways_run⟩
theorem mv_L_133 : gk_MV "NeverInLineLaw" 133 me_X_trace := ⟨(gk_t4 124 rfl rfl), mi_X_trace⟩
theorem mv_X_282 : gk_MV "NeverInLine" 282 me_Ways_traced := ⟨(gk_t4 128 rfl rfl), mi_Ways_traced⟩
theorem ms_Ways_35 : gk_MS "NeverInLine$Ways" 35 me_Math_min := ⟨(gk_t4 132 rfl rfl), (gk_t2 225 rfl rfl)⟩
theorem mv_L_137 : gk_MV "NeverInLineLaw" 137 me_X_keep := ⟨(gk_t4 133 rfl rfl), mi_X_keep⟩
theorem mv_X_285 : gk_MV "NeverInLine" 285 me_Ways_isBody := ⟨(gk_t4 137 rfl rfl), mi_Ways_isBody⟩
theorem mv_X_288 : gk_MV "NeverInLine" 288 me_Shelf_holdBody := ⟨(gk_t4 138 rfl rfl), mi_Shelf_holdBody⟩
theorem mv_L_141 : gk_MV "NeverInLineLaw" 141 me_X_row := ⟨(gk_t4 142 rfl rfl), mi_X_row⟩
theorem mv_X_292 : gk_MV "NeverInLine" 292 me_Shelf_holdRow := ⟨(gk_t4 146 rfl rfl), mi_Shelf_holdRow⟩
theorem ms_Shelf_27 : gk_MS "NeverInLine$Shelf" 27 me_Arrays_fillJ := ⟨(gk_t4 150 rfl rfl), (gk_t4 151 rfl rfl)⟩
theorem mv_L_147 : gk_MV "NeverInLineLaw" 147 me_X_put := ⟨(gk_t4 153 rfl rfl), mi_X_put⟩
theorem mv_X_295 : gk_MV "NeverInLine" 295 me_X_cellRefusal := ⟨(gk_t4 157 rfl rfl), mi_X_cellRefusal⟩
theorem mv_X_304 : gk_MV "NeverInLine" 304 me_Shelf_isRow := ⟨(gk_t4 161 rfl rfl), mi_Shelf_isRow⟩
theorem mv_X_298 : gk_MV "NeverInLine" 298 me_Shelf_setCell := ⟨(gk_t4 162 rfl rfl), mi_Shelf_setCell⟩
theorem mv_Shelf_33 : gk_MV "NeverInLine$Shelf" 33 me_Shelf_narrowed := ⟨(gk_t4 166 rfl rfl), mi_Shelf_narrowed⟩
theorem mv_L_152 : gk_MV "NeverInLineLaw" 152 me_X_element := ⟨(gk_t4 170 rfl rfl), mi_X_element⟩
theorem mv_L_157 : gk_MV "NeverInLineLaw" 157 me_X_shift := ⟨(gk_t4 175 rfl rfl), mi_X_shift⟩
theorem ac_X_310 : gk_AC "NeverInLine" 310 := ⟨(gk_t4 179 rfl rfl), (gk_t2 229 rfl rfl), (gk_t2 228 rfl rfl), li_java_lang_System⟩
theorem mv_L_162 : gk_MV "NeverInLineLaw" 162 me_X_taken := ⟨(gk_t4 180 rfl rfl), mi_X_taken⟩
theorem mv_X_319 : gk_MV "NeverInLine" 319 me_Ways_kindOf := ⟨(gk_t4 184 rfl rfl), mi_Ways_kindOf⟩
theorem ms_X_322 : gk_MS "NeverInLine" 322 me_Ways_isUnder := ⟨(gk_t4 188 rfl rfl), (gk_t4 189 rfl rfl)⟩
theorem mv_L_166 : gk_MV "NeverInLineLaw" 166 me_X_count := ⟨(gk_t4 191 rfl rfl), mi_X_count⟩
theorem mv_L_120 : gk_MV "NeverInLineLaw" 120 me_M_undo := ⟨(gk_t5 109 rfl rfl), mi_M_undo⟩
theorem mv_L_124 : gk_MV "NeverInLineLaw" 124 me_M_redo := ⟨(gk_t5 113 rfl rfl), mi_M_redo⟩
theorem mv_L_17 : gk_MV "NeverInLineLaw" 17 me_M_tower := ⟨(gk_t5 117 rfl rfl), mi_M_tower⟩
theorem mv_M_120 : gk_MV "NeverInLineModel" 120 me_M_mayStand := ⟨(gk_t5 121 rfl rfl), mi_M_mayStand⟩
theorem ms_M_102 : gk_MS "NeverInLineModel" 102 me_M_within := ⟨(gk_t5 126 rfl rfl), (gk_t5 127 rfl rfl)⟩
theorem mv_M_116 : gk_MV "NeverInLineModel" 116 me_M_isFreeOf := ⟨(gk_t5 131 rfl rfl), mi_M_isFreeOf⟩
theorem mv_M_123 : gk_MV "NeverInLineModel" 123 me_M_adds := ⟨(gk_t5 135 rfl rfl), mi_M_adds⟩
theorem mv_L_22 : gk_MV "NeverInLineLaw" 22 me_M_towers := ⟨(gk_t5 139 rfl rfl), mi_M_towers⟩
theorem ms_M_127 : gk_MS "NeverInLineModel" 127 me_M_isShelf := ⟨(gk_t5 143 rfl rfl), (gk_t5 144 rfl rfl)⟩
theorem mv_L_26 : gk_MV "NeverInLineLaw" 26 me_M_road := ⟨(gk_t5 148 rfl rfl), mi_M_road⟩
theorem ms_M_133 : gk_MS "NeverInLineModel" 133 me_M_isPoint := ⟨(gk_t5 152 rfl rfl), (gk_t5 153 rfl rfl)⟩
theorem mv_L_30 : gk_MV "NeverInLineLaw" 30 me_M_corner := ⟨(gk_t5 155 rfl rfl), mi_M_corner⟩
theorem mv_M_136 : gk_MV "NeverInLineModel" 136 me_M_isRoad := ⟨(gk_t5 159 rfl rfl), mi_M_isRoad⟩
theorem mv_L_34 : gk_MV "NeverInLineLaw" 34 me_M_forest := ⟨(gk_t5 163 rfl rfl), mi_M_forest⟩
theorem mv_L_48 : gk_MV "NeverInLineLaw" 48 me_M_mend := ⟨(gk_t5 167 rfl rfl), mi_M_mend⟩
theorem mv_M_142 : gk_MV "NeverInLineModel" 142 me_M_isTower := ⟨(gk_t5 171 rfl rfl), mi_M_isTower⟩
theorem mv_M_147 : gk_MV "NeverInLineModel" 147 me_M_becomes := ⟨(gk_t5 176 rfl rfl), mi_M_becomes⟩
theorem mv_L_52 : gk_MV "NeverInLineLaw" 52 me_M_of := ⟨(gk_t5 180 rfl rfl), mi_M_of⟩
theorem mv_L_39 : gk_MV "NeverInLineLaw" 39 me_M_feed := ⟨(gk_t5 186 rfl rfl), mi_M_feed⟩
theorem mv_L_44 : gk_MV "NeverInLineLaw" 44 me_M_law := ⟨(gk_t5 191 rfl rfl), mi_M_law⟩
theorem mv_M_207 : gk_MV "NeverInLineModel" 207 me_M_workOut := ⟨(gk_t5 195 rfl rfl), mi_M_workOut⟩
theorem mv_M_200 : gk_MV "NeverInLineModel" 200 me_M_either := ⟨(gk_t5 199 rfl rfl), mi_M_either⟩
theorem mv_M_176 : gk_MV "NeverInLineModel" 176 me_M_both := ⟨(gk_t5 203 rfl rfl), mi_M_both⟩
theorem mv_M_182 : gk_MV "NeverInLineModel" 182 me_M_compared := ⟨(gk_t5 207 rfl rfl), mi_M_compared⟩
theorem mv_M_185 : gk_MV "NeverInLineModel" 185 me_M_sums := ⟨(gk_t5 211 rfl rfl), mi_M_sums⟩
theorem mv_M_188 : gk_MV "NeverInLineModel" 188 me_M_product := ⟨(gk_t5 215 rfl rfl), mi_M_product⟩
theorem mv_M_191 : gk_MV "NeverInLineModel" 191 me_M_one := ⟨(gk_t5 219 rfl rfl), mi_M_one⟩
theorem mv_M_172 : gk_MV "NeverInLineModel" 172 me_M_byteAt := ⟨(gk_t5 223 rfl rfl), mi_M_byteAt⟩
theorem mv_M_197 : gk_MV "NeverInLineModel" 197 me_M_wrong := ⟨(gk_t5 227 rfl rfl), mi_M_wrong⟩
theorem mv_M_179 : gk_MV "NeverInLineModel" 179 me_M_takes := ⟨(gk_t5 231 rfl rfl), mi_M_takes⟩
theorem ms_M_203 : gk_MS "NeverInLineModel" 203 me_M_nameOf := ⟨(gk_t5 235 rfl rfl), (gk_t5 236 rfl rfl)⟩
theorem mv_L_56 : gk_MV "NeverInLineLaw" 56 me_M_line := ⟨(gk_t5 238 rfl rfl), mi_M_line⟩
theorem mv_M_255 : gk_MV "NeverInLineModel" 255 me_M_areTwo := ⟨(gk_t6 2 rfl rfl), mi_M_areTwo⟩
theorem mv_M_260 : gk_MV "NeverInLineModel" 260 me_M_inLineAt := ⟨(gk_t6 7 rfl rfl), mi_M_inLineAt⟩
theorem mv_M_251 : gk_MV "NeverInLineModel" 251 me_M_inLine := ⟨(gk_t6 11 rfl rfl), mi_M_inLine⟩
theorem mv_M_235 : gk_MV "NeverInLineModel" 235 me_M_isBehind := ⟨(gk_t6 15 rfl rfl), mi_M_isBehind⟩
theorem mv_M_239 : gk_MV "NeverInLineModel" 239 me_M_isStopped := ⟨(gk_t6 19 rfl rfl), mi_M_isStopped⟩
theorem mv_M_231 : gk_MV "NeverInLineModel" 231 me_M_stops := ⟨(gk_t6 23 rfl rfl), mi_M_stops⟩
theorem ms_M_223 : gk_MS "NeverInLineModel" 223 me_M_liesOn := ⟨(gk_t6 27 rfl rfl), (gk_t6 28 rfl rfl)⟩
theorem ms_M_216 : gk_MS "NeverInLineModel" 216 me_M_side := ⟨(gk_t6 30 rfl rfl), (gk_t6 31 rfl rfl)⟩
theorem ms_M_220 : gk_MS "NeverInLineModel" 220 me_M_isBetween := ⟨(gk_t6 33 rfl rfl), (gk_t6 34 rfl rfl)⟩
theorem ms_M_227 : gk_MS "NeverInLineModel" 227 me_M_areUnlike := ⟨(gk_t6 36 rfl rfl), (gk_t6 37 rfl rfl)⟩
theorem mv_M_243 : gk_MV "NeverInLineModel" 243 me_M_farOf := ⟨(gk_t6 39 rfl rfl), mi_M_farOf⟩
theorem mv_M_247 : gk_MV "NeverInLineModel" 247 me_M_counts := ⟨(gk_t6 43 rfl rfl), mi_M_counts⟩
theorem mv_M_210 : gk_MV "NeverInLineModel" 210 me_M_heightOf := ⟨(gk_t6 47 rfl rfl), mi_M_heightOf⟩
theorem mv_M_213 : gk_MV "NeverInLineModel" 213 me_M_oldOf := ⟨(gk_t6 51 rfl rfl), mi_M_oldOf⟩
theorem mv_L_60 : gk_MV "NeverInLineLaw" 60 me_M_guilty := ⟨(gk_t6 55 rfl rfl), mi_M_guilty⟩
theorem mv_M_281 : gk_MV "NeverInLineModel" 281 me_M_isStretch := ⟨(gk_t6 59 rfl rfl), mi_M_isStretch⟩
theorem mv_M_284 : gk_MV "NeverInLineModel" 284 me_M_isGuiltyOn := ⟨(gk_t6 63 rfl rfl), mi_M_isGuiltyOn⟩
theorem mv_M_275 : gk_MV "NeverInLineModel" 275 me_M_cornerOf := ⟨(gk_t6 67 rfl rfl), mi_M_cornerOf⟩
theorem mv_M_278 : gk_MV "NeverInLineModel" 278 me_M_isGuilty := ⟨(gk_t6 71 rfl rfl), mi_M_isGuilty⟩
theorem mv_M_271 : gk_MV "NeverInLineModel" 271 me_M_isAlong := ⟨(gk_t6 75 rfl rfl), mi_M_isAlong⟩
theorem ms_M_287 : gk_MS "NeverInLineModel" 287 me_M_common := ⟨(gk_t6 79 rfl rfl), (gk_t6 80 rfl rfl)⟩
theorem mv_L_64 : gk_MV "NeverInLineLaw" 64 me_M_guilts := ⟨(gk_t6 82 rfl rfl), mi_M_guilts⟩
theorem mv_M_297 : gk_MV "NeverInLineModel" 297 me_M_allGuilts := ⟨(gk_t6 86 rfl rfl), mi_M_allGuilts⟩
theorem mv_M_294 : gk_MV "NeverInLineModel" 294 me_M_guiltsOf := ⟨(gk_t6 90 rfl rfl), mi_M_guiltsOf⟩
theorem mv_M_291 : gk_MV "NeverInLineModel" 291 me_M_guiltsOn := ⟨(gk_t6 94 rfl rfl), mi_M_guiltsOn⟩
theorem mv_L_68 : gk_MV "NeverInLineLaw" 68 me_M_which := ⟨(gk_t6 98 rfl rfl), mi_M_which⟩
theorem mv_M_300 : gk_MV "NeverInLineModel" 300 me_M_firstOn := ⟨(gk_t6 102 rfl rfl), mi_M_firstOn⟩
theorem mv_L_72 : gk_MV "NeverInLineLaw" 72 me_M_led := ⟨(gk_t6 106 rfl rfl), mi_M_led⟩
theorem mv_M_303 : gk_MV "NeverInLineModel" 303 me_M_guiltsWith := ⟨(gk_t6 110 rfl rfl), mi_M_guiltsWith⟩
theorem mv_L_76 : gk_MV "NeverInLineLaw" 76 me_M_seen := ⟨(gk_t6 114 rfl rfl), mi_M_seen⟩
theorem mv_M_309 : gk_MV "NeverInLineModel" 309 me_M_seenFrom := ⟨(gk_t6 118 rfl rfl), mi_M_seenFrom⟩
theorem mv_M_306 : gk_MV "NeverInLineModel" 306 me_M_isHidden := ⟨(gk_t6 122 rfl rfl), mi_M_isHidden⟩
theorem mv_L_80 : gk_MV "NeverInLineLaw" 80 me_M_free := ⟨(gk_t6 126 rfl rfl), mi_M_free⟩
theorem mv_M_317 : gk_MV "NeverInLineModel" 317 me_M_isFree := ⟨(gk_t6 131 rfl rfl), mi_M_isFree⟩
theorem mv_M_312 : gk_MV "NeverInLineModel" 312 me_M_isCorner := ⟨(gk_t6 135 rfl rfl), mi_M_isCorner⟩
theorem mv_L_84 : gk_MV "NeverInLineLaw" 84 me_M_years := ⟨(gk_t6 139 rfl rfl), mi_M_years⟩
theorem mv_M_320 : gk_MV "NeverInLineModel" 320 me_M_firstFree := ⟨(gk_t6 143 rfl rfl), mi_M_firstFree⟩
theorem mv_L_88 : gk_MV "NeverInLineLaw" 88 me_M_fewest := ⟨(gk_t6 147 rfl rfl), mi_M_fewest⟩
theorem mv_M_336 : gk_MV "NeverInLineModel" 336 me_M_leastSet := ⟨(gk_t6 151 rfl rfl), mi_M_leastSet⟩
theorem mv_M_326 : gk_MV "NeverInLineModel" 326 me_M_findAgainst := ⟨(gk_t6 155 rfl rfl), mi_M_findAgainst⟩
theorem mv_M_323 : gk_MV "NeverInLineModel" 323 me_M_areAgainst := ⟨(gk_t6 159 rfl rfl), mi_M_areAgainst⟩
theorem mv_M_329 : gk_MV "NeverInLineModel" 329 me_M_isLawfulWithout := ⟨(gk_t6 163 rfl rfl), mi_M_isLawfulWithout⟩
theorem mv_M_332 : gk_MV "NeverInLineModel" 332 me_M_priceOf := ⟨(gk_t6 167 rfl rfl), mi_M_priceOf⟩
theorem mv_L_92 : gk_MV "NeverInLineLaw" 92 me_M_cheapest := ⟨(gk_t6 171 rfl rfl), mi_M_cheapest⟩
theorem mv_L_96 : gk_MV "NeverInLineLaw" 96 me_M_moved := ⟨(gk_t6 175 rfl rfl), mi_M_moved⟩
theorem mv_L_100 : gk_MV "NeverInLineLaw" 100 me_M_bent := ⟨(gk_t6 179 rfl rfl), mi_M_bent⟩
theorem mv_M_340 : gk_MV "NeverInLineModel" 340 me_M_guiltsBetween := ⟨(gk_t6 183 rfl rfl), mi_M_guiltsBetween⟩
theorem mv_L_104 : gk_MV "NeverInLineLaw" 104 me_M_newly := ⟨(gk_t6 187 rfl rfl), mi_M_newly⟩
theorem mv_M_344 : gk_MV "NeverInLineModel" 344 me_M_seesNone := ⟨(gk_t6 191 rfl rfl), mi_M_seesNone⟩
theorem mv_M_347 : gk_MV "NeverInLineModel" 347 me_M_joins := ⟨(gk_t6 195 rfl rfl), mi_M_joins⟩
theorem mv_L_108 : gk_MV "NeverInLineLaw" 108 me_M_game := ⟨(gk_t6 199 rfl rfl), mi_M_game⟩
theorem ms_M_370 : gk_MS "NeverInLineModel" 370 me_M_bitsOf := ⟨(gk_t6 204 rfl rfl), (gk_t6 205 rfl rfl)⟩
theorem mv_M_373 : gk_MV "NeverInLineModel" 373 me_M_looksAt := ⟨(gk_t6 207 rfl rfl), mi_M_looksAt⟩
theorem mv_M_365 : gk_MV "NeverInLineModel" 365 me_M_laysOut := ⟨(gk_t6 211 rfl rfl), mi_M_laysOut⟩
theorem mv_M_356 : gk_MV "NeverInLineModel" 356 me_M_gamePoint := ⟨(gk_t6 215 rfl rfl), mi_M_gamePoint⟩
theorem mv_L_112 : gk_MV "NeverInLineLaw" 112 me_M_sight := ⟨(gk_t6 219 rfl rfl), mi_M_sight⟩
theorem mv_L_116 : gk_MV "NeverInLineLaw" 116 me_M_fits := ⟨(gk_t6 224 rfl rfl), mi_M_fits⟩
theorem mv_M_382 : gk_MV "NeverInLineModel" 382 me_M_allSights := ⟨(gk_t6 228 rfl rfl), mi_M_allSights⟩
theorem mv_L_128 : gk_MV "NeverInLineLaw" 128 me_M_body := ⟨(gk_t6 232 rfl rfl), mi_M_body⟩
theorem mv_L_132 : gk_MV "NeverInLineLaw" 132 me_M_act := ⟨(gk_t6 237 rfl rfl), mi_M_act⟩
theorem mv_M_415 : gk_MV "NeverInLineModel" 415 me_M_isBody := ⟨(gk_t7 1 rfl rfl), mi_M_isBody⟩
theorem mv_M_397 : gk_MV "NeverInLineModel" 397 me_M_hidesAs := ⟨(gk_t7 5 rfl rfl), mi_M_hidesAs⟩
theorem mv_M_394 : gk_MV "NeverInLineModel" 394 me_M_begins := ⟨(gk_t7 9 rfl rfl), mi_M_begins⟩
theorem mv_M_403 : gk_MV "NeverInLineModel" 403 me_M_standsAs := ⟨(gk_t7 13 rfl rfl), mi_M_standsAs⟩
theorem mv_M_409 : gk_MV "NeverInLineModel" 409 me_M_linesAs := ⟨(gk_t7 17 rfl rfl), mi_M_linesAs⟩
theorem mv_M_412 : gk_MV "NeverInLineModel" 412 me_M_tellsAs := ⟨(gk_t7 21 rfl rfl), mi_M_tellsAs⟩
theorem mv_L_136 : gk_MV "NeverInLineLaw" 136 me_M_trace := ⟨(gk_t7 25 rfl rfl), mi_M_trace⟩
theorem mv_L_140 : gk_MV "NeverInLineLaw" 140 me_M_keep := ⟨(gk_t7 29 rfl rfl), mi_M_keep⟩
theorem mv_L_144 : gk_MV "NeverInLineLaw" 144 me_M_row := ⟨(gk_t7 33 rfl rfl), mi_M_row⟩
theorem mv_L_151 : gk_MV "NeverInLineLaw" 151 me_M_put := ⟨(gk_t7 37 rfl rfl), mi_M_put⟩
theorem mv_M_420 : gk_MV "NeverInLineModel" 420 me_M_refusal := ⟨(gk_t7 41 rfl rfl), mi_M_refusal⟩
theorem ms_M_423 : gk_MS "NeverInLineModel" 423 me_M_asSort := ⟨(gk_t7 45 rfl rfl), (gk_t7 46 rfl rfl)⟩
theorem mv_L_156 : gk_MV "NeverInLineLaw" 156 me_M_element := ⟨(gk_t7 48 rfl rfl), mi_M_element⟩
theorem mv_L_161 : gk_MV "NeverInLineLaw" 161 me_M_shift := ⟨(gk_t7 53 rfl rfl), mi_M_shift⟩
theorem mv_L_165 : gk_MV "NeverInLineLaw" 165 me_M_taken := ⟨(gk_t7 57 rfl rfl), mi_M_taken⟩
theorem mv_M_431 : gk_MV "NeverInLineModel" 431 me_M_kindOf := ⟨(gk_t7 61 rfl rfl), mi_M_kindOf⟩
theorem ms_M_434 : gk_MS "NeverInLineModel" 434 me_M_above := ⟨(gk_t7 65 rfl rfl), (gk_t7 66 rfl rfl)⟩
theorem mv_L_169 : gk_MV "NeverInLineLaw" 169 me_M_count := ⟨(gk_t7 68 rfl rfl), mi_M_count⟩
theorem cl_in0 : ∀ w ∈ u_ws "NeverInLine$Law" cl_T0 3, w ∈ gk_W := by
  have h : ∀ k, k < 3 → u_lay "NeverInLine$Law" cl_T0 k ∈ gk_W := by
    intro k hk
    match k, hk with
    | 0, _ => exact (gk_t1 33 rfl rfl)
    | 1, _ => exact (gk_t1 35 rfl rfl)
    | 2, _ => exact (gk_t1 37 rfl rfl)
    | (k + 3), hk => exact absurd hk (by omega)
  intro w hw
  obtain ⟨k, hk, rfl⟩ := List.mem_map.mp hw
  exact h k (List.mem_range.mp hk)
def cl_y0 : Nat → FieldType := fun k => match k with
  | 0 => .array .int
  | 1 => .array .int
  | _ => .int
theorem cl_ok0 : gk_CL 0 "NeverInLine$Law" cl_T0 3 := ⟨rfl, cl_in0, ⟨cl_y0, by decide +kernel⟩, by decide +kernel⟩
theorem cl_in1 : ∀ w ∈ u_ws "NeverInLine$Reader" cl_T1 6, w ∈ gk_W := by
  have h : ∀ k, k < 6 → u_lay "NeverInLine$Reader" cl_T1 k ∈ gk_W := by
    intro k hk
    match k, hk with
    | 0, _ => exact (gk_t1 56 rfl rfl)
    | 1, _ => exact (gk_t1 58 rfl rfl)
    | 2, _ => exact (gk_t1 60 rfl rfl)
    | 3, _ => exact (gk_t1 62 rfl rfl)
    | 4, _ => exact (gk_t1 64 rfl rfl)
    | 5, _ => exact (gk_t1 66 rfl rfl)
    | (k + 6), hk => exact absurd hk (by omega)
  intro w hw
  obtain ⟨k, hk, rfl⟩ := List.mem_map.mp hw
  exact h k (List.mem_range.mp hk)
def cl_y1 : Nat → FieldType := fun k => match k with
  | 0 => .array .int
  | 1 => .int
  | 2 => .int
  | 3 => .array .int
  | 4 => .int
  | _ => .int
theorem cl_ok1 : gk_CL 1 "NeverInLine$Reader" cl_T1 6 := ⟨rfl, cl_in1, ⟨cl_y1, by decide +kernel⟩, by decide +kernel⟩
theorem cl_in2 : ∀ w ∈ u_ws "NeverInLine$Plain" cl_T2 17, w ∈ gk_W := by
  have h : ∀ k, k < 17 → u_lay "NeverInLine$Plain" cl_T2 k ∈ gk_W := by
    intro k hk
    match k, hk with
    | 0, _ => exact (gk_t1 101 rfl rfl)
    | 1, _ => exact (gk_t1 103 rfl rfl)
    | 2, _ => exact (gk_t1 105 rfl rfl)
    | 3, _ => exact (gk_t1 107 rfl rfl)
    | 4, _ => exact (gk_t1 109 rfl rfl)
    | 5, _ => exact (gk_t1 111 rfl rfl)
    | 6, _ => exact (gk_t1 113 rfl rfl)
    | 7, _ => exact (gk_t1 115 rfl rfl)
    | 8, _ => exact (gk_t1 117 rfl rfl)
    | 9, _ => exact (gk_t1 119 rfl rfl)
    | 10, _ => exact (gk_t1 121 rfl rfl)
    | 11, _ => exact (gk_t1 123 rfl rfl)
    | 12, _ => exact (gk_t1 125 rfl rfl)
    | 13, _ => exact (gk_t1 127 rfl rfl)
    | 14, _ => exact (gk_t1 129 rfl rfl)
    | 15, _ => exact (gk_t1 131 rfl rfl)
    | 16, _ => exact (gk_t1 133 rfl rfl)
    | (k + 17), hk => exact absurd hk (by omega)
  intro w hw
  obtain ⟨k, hk, rfl⟩ := List.mem_map.mp hw
  exact h k (List.mem_range.mp hk)
def cl_y2 : Nat → FieldType := fun k => match k with
  | 0 => .array .int
  | 1 => .array .int
  | 2 => .array .int
  | 3 => .array .int
  | 4 => .array .int
  | 5 => .int
  | 6 => .array .int
  | 7 => .int
  | 8 => .int
  | 9 => .array .int
  | 10 => .array .int
  | 11 => .array .int
  | 12 => .array .int
  | 13 => .array .int
  | 14 => .object "NeverInLine$Law"
  | 15 => .array .int
  | _ => .array .int
theorem cl_ok2 : gk_CL 2 "NeverInLine$Plain" cl_T2 17 := ⟨rfl, cl_in2, ⟨cl_y2, by decide +kernel⟩, by decide +kernel⟩
theorem cl_in3 : ∀ w ∈ u_ws "NeverInLine$Planner" cl_T3 5, w ∈ gk_W := by
  have h : ∀ k, k < 5 → u_lay "NeverInLine$Planner" cl_T3 k ∈ gk_W := by
    intro k hk
    match k, hk with
    | 0, _ => exact (gk_t1 148 rfl rfl)
    | 1, _ => exact (gk_t1 150 rfl rfl)
    | 2, _ => exact (gk_t1 152 rfl rfl)
    | 3, _ => exact (gk_t1 154 rfl rfl)
    | 4, _ => exact (gk_t1 156 rfl rfl)
    | (k + 5), hk => exact absurd hk (by omega)
  intro w hw
  obtain ⟨k, hk, rfl⟩ := List.mem_map.mp hw
  exact h k (List.mem_range.mp hk)
def cl_y3 : Nat → FieldType := fun k => match k with
  | 0 => .object "NeverInLine$Plain"
  | 1 => .array .int
  | 2 => .array .int
  | 3 => .array .int
  | _ => .int
theorem cl_ok3 : gk_CL 3 "NeverInLine$Planner" cl_T3 5 := ⟨rfl, cl_in3, ⟨cl_y3, by decide +kernel⟩, by decide +kernel⟩
theorem cl_in4 : ∀ w ∈ u_ws "NeverInLine$Game" cl_T4 6, w ∈ gk_W := by
  have h : ∀ k, k < 6 → u_lay "NeverInLine$Game" cl_T4 k ∈ gk_W := by
    intro k hk
    match k, hk with
    | 0, _ => exact (gk_t1 171 rfl rfl)
    | 1, _ => exact (gk_t1 173 rfl rfl)
    | 2, _ => exact (gk_t1 175 rfl rfl)
    | 3, _ => exact (gk_t1 177 rfl rfl)
    | 4, _ => exact (gk_t1 179 rfl rfl)
    | 5, _ => exact (gk_t1 181 rfl rfl)
    | (k + 6), hk => exact absurd hk (by omega)
  intro w hw
  obtain ⟨k, hk, rfl⟩ := List.mem_map.mp hw
  exact h k (List.mem_range.mp hk)
def cl_y4 : Nat → FieldType := fun k => match k with
  | 0 => .object "NeverInLine$Plain"
  | 1 => .array .int
  | 2 => .array .boolean
  | 3 => .int
  | 4 => .int
  | _ => .int
theorem cl_ok4 : gk_CL 4 "NeverInLine$Game" cl_T4 6 := ⟨rfl, cl_in4, ⟨cl_y4, by decide +kernel⟩, by decide +kernel⟩
theorem cl_in5 : ∀ w ∈ u_ws "NeverInLine$Walker" cl_T5 5, w ∈ gk_W := by
  have h : ∀ k, k < 5 → u_lay "NeverInLine$Walker" cl_T5 k ∈ gk_W := by
    intro k hk
    match k, hk with
    | 0, _ => exact (gk_t1 197 rfl rfl)
    | 1, _ => exact (gk_t1 199 rfl rfl)
    | 2, _ => exact (gk_t1 201 rfl rfl)
    | 3, _ => exact (gk_t1 203 rfl rfl)
    | 4, _ => exact (gk_t1 205 rfl rfl)
    | (k + 5), hk => exact absurd hk (by omega)
  intro w hw
  obtain ⟨k, hk, rfl⟩ := List.mem_map.mp hw
  exact h k (List.mem_range.mp hk)
def cl_y5 : Nat → FieldType := fun k => match k with
  | 0 => .int
  | 1 => .object "NeverInLine$Plain"
  | 2 => .array .int
  | 3 => .array .int
  | _ => .array .int
theorem cl_ok5 : gk_CL 5 "NeverInLine$Walker" cl_T5 5 := ⟨rfl, cl_in5, ⟨cl_y5, by decide +kernel⟩, by decide +kernel⟩
theorem cl_in6 : ∀ w ∈ u_ws "NeverInLine$History" cl_T6 7, w ∈ gk_W := by
  have h : ∀ k, k < 7 → u_lay "NeverInLine$History" cl_T6 k ∈ gk_W := by
    intro k hk
    match k, hk with
    | 0, _ => exact (gk_t1 222 rfl rfl)
    | 1, _ => exact (gk_t1 224 rfl rfl)
    | 2, _ => exact (gk_t1 226 rfl rfl)
    | 3, _ => exact (gk_t1 228 rfl rfl)
    | 4, _ => exact (gk_t1 230 rfl rfl)
    | 5, _ => exact (gk_t1 232 rfl rfl)
    | 6, _ => exact (gk_t1 234 rfl rfl)
    | (k + 7), hk => exact absurd hk (by omega)
  intro w hw
  obtain ⟨k, hk, rfl⟩ := List.mem_map.mp hw
  exact h k (List.mem_range.mp hk)
def cl_y6 : Nat → FieldType := fun k => match k with
  | 0 => .int
  | 1 => .int
  | 2 => .object "NeverInLine$Plain"
  | 3 => .array .int
  | 4 => .array .int
  | 5 => .array .int
  | _ => .array .int
theorem cl_ok6 : gk_CL 6 "NeverInLine$History" cl_T6 7 := ⟨rfl, cl_in6, ⟨cl_y6, by decide +kernel⟩, by decide +kernel⟩
theorem cl_in7 : ∀ w ∈ u_ws "NeverInLine$Ways" cl_T7 5, w ∈ gk_W := by
  have h : ∀ k, k < 5 → u_lay "NeverInLine$Ways" cl_T7 k ∈ gk_W := by
    intro k hk
    match k, hk with
    | 0, _ => exact (gk_t2 10 rfl rfl)
    | 1, _ => exact (gk_t2 12 rfl rfl)
    | 2, _ => exact (gk_t2 14 rfl rfl)
    | 3, _ => exact (gk_t2 16 rfl rfl)
    | 4, _ => exact (gk_t2 18 rfl rfl)
    | (k + 5), hk => exact absurd hk (by omega)
  intro w hw
  obtain ⟨k, hk, rfl⟩ := List.mem_map.mp hw
  exact h k (List.mem_range.mp hk)
def cl_y7 : Nat → FieldType := fun k => match k with
  | 0 => .int
  | 1 => .int
  | 2 => .array .int
  | 3 => .array .int
  | _ => .int
theorem cl_ok7 : gk_CL 7 "NeverInLine$Ways" cl_T7 5 := ⟨rfl, cl_in7, ⟨cl_y7, by decide +kernel⟩, by decide +kernel⟩
theorem cl_in8 : ∀ w ∈ u_ws "NeverInLine$Shelf" cl_T8 4, w ∈ gk_W := by
  have h : ∀ k, k < 4 → u_lay "NeverInLine$Shelf" cl_T8 k ∈ gk_W := by
    intro k hk
    match k, hk with
    | 0, _ => exact (gk_t2 35 rfl rfl)
    | 1, _ => exact (gk_t2 37 rfl rfl)
    | 2, _ => exact (gk_t2 39 rfl rfl)
    | 3, _ => exact (gk_t2 41 rfl rfl)
    | (k + 4), hk => exact absurd hk (by omega)
  intro w hw
  obtain ⟨k, hk, rfl⟩ := List.mem_map.mp hw
  exact h k (List.mem_range.mp hk)
def cl_y8 : Nat → FieldType := fun k => match k with
  | 0 => .array .long
  | 1 => .int
  | 2 => .int
  | _ => .int
theorem cl_ok8 : gk_CL 8 "NeverInLine$Shelf" cl_T8 4 := ⟨rfl, cl_in8, ⟨cl_y8, by decide +kernel⟩, by decide +kernel⟩
theorem cl_in9 : ∀ w ∈ u_ws "NeverInLine" cl_T9 9, w ∈ gk_W := by
  have h : ∀ k, k < 9 → u_lay "NeverInLine" cl_T9 k ∈ gk_W := by
    intro k hk
    match k, hk with
    | 0, _ => exact (gk_t2 54 rfl rfl)
    | 1, _ => exact (gk_t2 56 rfl rfl)
    | 2, _ => exact (gk_t2 58 rfl rfl)
    | 3, _ => exact (gk_t2 60 rfl rfl)
    | 4, _ => exact (gk_t2 62 rfl rfl)
    | 5, _ => exact (gk_t2 64 rfl rfl)
    | 6, _ => exact (gk_t2 66 rfl rfl)
    | 7, _ => exact (gk_t2 68 rfl rfl)
    | 8, _ => exact (gk_t2 70 rfl rfl)
    | (k + 9), hk => exact absurd hk (by omega)
  intro w hw
  obtain ⟨k, hk, rfl⟩ := List.mem_map.mp hw
  exact h k (List.mem_range.mp hk)
def cl_y9 : Nat → FieldType := fun k => match k with
  | 0 => .object "NeverInLine$Law"
  | 1 => .object "NeverInLine$Reader"
  | 2 => .object "NeverInLine$Plain"
  | 3 => .object "NeverInLine$Planner"
  | 4 => .object "NeverInLine$Game"
  | 5 => .object "NeverInLine$Walker"
  | 6 => .object "NeverInLine$History"
  | 7 => .object "NeverInLine$Ways"
  | _ => .array (.object "NeverInLine$Shelf")
theorem cl_ok9 : gk_CL 9 "NeverInLine" cl_T9 9 := ⟨rfl, cl_in9, ⟨cl_y9, by decide +kernel⟩, by decide +kernel⟩
theorem cl_in10 : ∀ w ∈ u_ws "NeverInLineModel" cl_T10 49, w ∈ gk_W := by
  have h : ∀ k, k < 49 → u_lay "NeverInLineModel" cl_T10 k ∈ gk_W := by
    intro k hk
    match k, hk with
    | 0, _ => exact (gk_t5 10 rfl rfl)
    | 1, _ => exact (gk_t5 12 rfl rfl)
    | 2, _ => exact (gk_t5 14 rfl rfl)
    | 3, _ => exact (gk_t5 16 rfl rfl)
    | 4, _ => exact (gk_t5 18 rfl rfl)
    | 5, _ => exact (gk_t5 20 rfl rfl)
    | 6, _ => exact (gk_t5 22 rfl rfl)
    | 7, _ => exact (gk_t5 24 rfl rfl)
    | 8, _ => exact (gk_t5 26 rfl rfl)
    | 9, _ => exact (gk_t5 28 rfl rfl)
    | 10, _ => exact (gk_t5 30 rfl rfl)
    | 11, _ => exact (gk_t5 32 rfl rfl)
    | 12, _ => exact (gk_t5 34 rfl rfl)
    | 13, _ => exact (gk_t5 36 rfl rfl)
    | 14, _ => exact (gk_t5 38 rfl rfl)
    | 15, _ => exact (gk_t5 40 rfl rfl)
    | 16, _ => exact (gk_t5 42 rfl rfl)
    | 17, _ => exact (gk_t5 44 rfl rfl)
    | 18, _ => exact (gk_t5 46 rfl rfl)
    | 19, _ => exact (gk_t5 48 rfl rfl)
    | 20, _ => exact (gk_t5 50 rfl rfl)
    | 21, _ => exact (gk_t5 52 rfl rfl)
    | 22, _ => exact (gk_t5 54 rfl rfl)
    | 23, _ => exact (gk_t5 56 rfl rfl)
    | 24, _ => exact (gk_t5 58 rfl rfl)
    | 25, _ => exact (gk_t5 60 rfl rfl)
    | 26, _ => exact (gk_t5 62 rfl rfl)
    | 27, _ => exact (gk_t5 64 rfl rfl)
    | 28, _ => exact (gk_t5 66 rfl rfl)
    | 29, _ => exact (gk_t5 68 rfl rfl)
    | 30, _ => exact (gk_t5 70 rfl rfl)
    | 31, _ => exact (gk_t5 72 rfl rfl)
    | 32, _ => exact (gk_t5 74 rfl rfl)
    | 33, _ => exact (gk_t5 76 rfl rfl)
    | 34, _ => exact (gk_t5 78 rfl rfl)
    | 35, _ => exact (gk_t5 80 rfl rfl)
    | 36, _ => exact (gk_t5 82 rfl rfl)
    | 37, _ => exact (gk_t5 84 rfl rfl)
    | 38, _ => exact (gk_t5 86 rfl rfl)
    | 39, _ => exact (gk_t5 88 rfl rfl)
    | 40, _ => exact (gk_t5 90 rfl rfl)
    | 41, _ => exact (gk_t5 92 rfl rfl)
    | 42, _ => exact (gk_t5 94 rfl rfl)
    | 43, _ => exact (gk_t5 96 rfl rfl)
    | 44, _ => exact (gk_t5 98 rfl rfl)
    | 45, _ => exact (gk_t5 100 rfl rfl)
    | 46, _ => exact (gk_t5 102 rfl rfl)
    | 47, _ => exact (gk_t5 104 rfl rfl)
    | 48, _ => exact (gk_t5 106 rfl rfl)
    | (k + 49), hk => exact absurd hk (by omega)
  intro w hw
  obtain ⟨k, hk, rfl⟩ := List.mem_map.mp hw
  exact h k (List.mem_range.mp hk)
def cl_y10 : Nat → FieldType := fun k => match k with
  | 0 => .array .int
  | 1 => .array .int
  | 2 => .array .int
  | 3 => .array .int
  | 4 => .int
  | 5 => .int
  | 6 => .int
  | 7 => .array .int
  | 8 => .array .int
  | 9 => .array .int
  | 10 => .int
  | 11 => .array .int
  | 12 => .array .int
  | 13 => .int
  | 14 => .array .int
  | 15 => .array .int
  | 16 => .int
  | 17 => .array .int
  | 18 => .int
  | 19 => .int
  | 20 => .int
  | 21 => .int
  | 22 => .int
  | 23 => .int
  | 24 => .array .int
  | 25 => .long
  | 26 => .long
  | 27 => .array .int
  | 28 => .array .boolean
  | 29 => .array .int
  | 30 => .array .int
  | 31 => .array .int
  | 32 => .int
  | 33 => .int
  | 34 => .int
  | 35 => .int
  | 36 => .int
  | 37 => .array .int
  | 38 => .array .int
  | 39 => .int
  | 40 => .array .int
  | 41 => .array .int
  | 42 => .int
  | 43 => .int
  | 44 => .int
  | 45 => .array .int
  | 46 => .array .int
  | 47 => .array .long
  | _ => .array .long
theorem cl_ok10 : gk_CL 10 "NeverInLineModel" cl_T10 49 := ⟨rfl, cl_in10, ⟨cl_y10, by decide +kernel⟩, by decide +kernel⟩
theorem fl_Law_9 : gk_FL "NeverInLine$Law" 9 0 0 := ⟨_, _, _, cl_ok0, by decide, (gk_t1 30 rfl rfl)⟩
theorem fl_Law_13 : gk_FL "NeverInLine$Law" 13 0 1 := ⟨_, _, _, cl_ok0, by decide, (gk_t1 31 rfl rfl)⟩
theorem fl_Law_16 : gk_FL "NeverInLine$Law" 16 0 2 := ⟨_, _, _, cl_ok0, by decide, (gk_t1 32 rfl rfl)⟩
theorem fp_Law_16 : gk_FP "NeverInLine$Law" 16 0 2 .int := ⟨_, _, _, cl_ok0, by decide, (gk_t1 32 rfl rfl), rfl, by decide +kernel⟩
theorem fl_Reader_11 : gk_FL "NeverInLine$Reader" 11 1 0 := ⟨_, _, _, cl_ok1, by decide, (gk_t1 47 rfl rfl)⟩
theorem fl_X_130 : gk_FL "NeverInLine" 130 1 0 := ⟨_, _, _, cl_ok1, by decide, (gk_t1 48 rfl rfl)⟩
theorem fl_Reader_17 : gk_FL "NeverInLine$Reader" 17 1 1 := ⟨_, _, _, cl_ok1, by decide, (gk_t1 49 rfl rfl)⟩
theorem fp_Reader_17 : gk_FP "NeverInLine$Reader" 17 1 1 .int := ⟨_, _, _, cl_ok1, by decide, (gk_t1 49 rfl rfl), rfl, by decide +kernel⟩
theorem fl_X_133 : gk_FL "NeverInLine" 133 1 1 := ⟨_, _, _, cl_ok1, by decide, (gk_t1 50 rfl rfl)⟩
theorem fp_X_133 : gk_FP "NeverInLine" 133 1 1 .int := ⟨_, _, _, cl_ok1, by decide, (gk_t1 50 rfl rfl), rfl, by decide +kernel⟩
theorem fl_Reader_21 : gk_FL "NeverInLine$Reader" 21 1 2 := ⟨_, _, _, cl_ok1, by decide, (gk_t1 51 rfl rfl)⟩
theorem fp_Reader_21 : gk_FP "NeverInLine$Reader" 21 1 2 .int := ⟨_, _, _, cl_ok1, by decide, (gk_t1 51 rfl rfl), rfl, by decide +kernel⟩
theorem fl_X_331 : gk_FL "NeverInLine" 331 1 2 := ⟨_, _, _, cl_ok1, by decide, (gk_t1 52 rfl rfl)⟩
theorem fp_X_331 : gk_FP "NeverInLine" 331 1 2 .int := ⟨_, _, _, cl_ok1, by decide, (gk_t1 52 rfl rfl), rfl, by decide +kernel⟩
theorem fl_Reader_24 : gk_FL "NeverInLine$Reader" 24 1 3 := ⟨_, _, _, cl_ok1, by decide, (gk_t1 53 rfl rfl)⟩
theorem fl_Reader_27 : gk_FL "NeverInLine$Reader" 27 1 4 := ⟨_, _, _, cl_ok1, by decide, (gk_t1 54 rfl rfl)⟩
theorem fp_Reader_27 : gk_FP "NeverInLine$Reader" 27 1 4 .int := ⟨_, _, _, cl_ok1, by decide, (gk_t1 54 rfl rfl), rfl, by decide +kernel⟩
theorem fl_Reader_30 : gk_FL "NeverInLine$Reader" 30 1 5 := ⟨_, _, _, cl_ok1, by decide, (gk_t1 55 rfl rfl)⟩
theorem fp_Reader_30 : gk_FP "NeverInLine$Reader" 30 1 5 .int := ⟨_, _, _, cl_ok1, by decide, (gk_t1 55 rfl rfl), rfl, by decide +kernel⟩
theorem fl_Plain_11 : gk_FL "NeverInLine$Plain" 11 2 0 := ⟨_, _, _, cl_ok2, by decide, (gk_t1 75 rfl rfl)⟩
theorem fl_Planner_69 : gk_FL "NeverInLine$Planner" 69 2 0 := ⟨_, _, _, cl_ok2, by decide, (gk_t1 76 rfl rfl)⟩
theorem fl_Plain_15 : gk_FL "NeverInLine$Plain" 15 2 1 := ⟨_, _, _, cl_ok2, by decide, (gk_t1 77 rfl rfl)⟩
theorem fl_Planner_72 : gk_FL "NeverInLine$Planner" 72 2 1 := ⟨_, _, _, cl_ok2, by decide, (gk_t1 78 rfl rfl)⟩
theorem fl_Plain_18 : gk_FL "NeverInLine$Plain" 18 2 2 := ⟨_, _, _, cl_ok2, by decide, (gk_t1 79 rfl rfl)⟩
theorem fl_Plain_21 : gk_FL "NeverInLine$Plain" 21 2 3 := ⟨_, _, _, cl_ok2, by decide, (gk_t1 80 rfl rfl)⟩
theorem fl_Planner_66 : gk_FL "NeverInLine$Planner" 66 2 3 := ⟨_, _, _, cl_ok2, by decide, (gk_t1 81 rfl rfl)⟩
theorem fl_Plain_24 : gk_FL "NeverInLine$Plain" 24 2 4 := ⟨_, _, _, cl_ok2, by decide, (gk_t1 82 rfl rfl)⟩
theorem fl_Plain_27 : gk_FL "NeverInLine$Plain" 27 2 5 := ⟨_, _, _, cl_ok2, by decide, (gk_t1 83 rfl rfl)⟩
theorem fp_Plain_27 : gk_FP "NeverInLine$Plain" 27 2 5 .int := ⟨_, _, _, cl_ok2, by decide, (gk_t1 83 rfl rfl), rfl, by decide +kernel⟩
theorem fl_Planner_29 : gk_FL "NeverInLine$Planner" 29 2 5 := ⟨_, _, _, cl_ok2, by decide, (gk_t1 84 rfl rfl)⟩
theorem fp_Planner_29 : gk_FP "NeverInLine$Planner" 29 2 5 .int := ⟨_, _, _, cl_ok2, by decide, (gk_t1 84 rfl rfl), rfl, by decide +kernel⟩
theorem fl_Game_65 : gk_FL "NeverInLine$Game" 65 2 5 := ⟨_, _, _, cl_ok2, by decide, (gk_t1 85 rfl rfl)⟩
theorem fp_Game_65 : gk_FP "NeverInLine$Game" 65 2 5 .int := ⟨_, _, _, cl_ok2, by decide, (gk_t1 85 rfl rfl), rfl, by decide +kernel⟩
theorem fl_X_214 : gk_FL "NeverInLine" 214 2 5 := ⟨_, _, _, cl_ok2, by decide, (gk_t1 86 rfl rfl)⟩
theorem fp_X_214 : gk_FP "NeverInLine" 214 2 5 .int := ⟨_, _, _, cl_ok2, by decide, (gk_t1 86 rfl rfl), rfl, by decide +kernel⟩
theorem fl_Plain_31 : gk_FL "NeverInLine$Plain" 31 2 6 := ⟨_, _, _, cl_ok2, by decide, (gk_t1 87 rfl rfl)⟩
theorem fl_X_109 : gk_FL "NeverInLine" 109 2 6 := ⟨_, _, _, cl_ok2, by decide, (gk_t1 88 rfl rfl)⟩
theorem fl_Plain_34 : gk_FL "NeverInLine$Plain" 34 2 7 := ⟨_, _, _, cl_ok2, by decide, (gk_t1 89 rfl rfl)⟩
theorem fp_Plain_34 : gk_FP "NeverInLine$Plain" 34 2 7 .int := ⟨_, _, _, cl_ok2, by decide, (gk_t1 89 rfl rfl), rfl, by decide +kernel⟩
theorem fl_X_196 : gk_FL "NeverInLine" 196 2 7 := ⟨_, _, _, cl_ok2, by decide, (gk_t1 90 rfl rfl)⟩
theorem fp_X_196 : gk_FP "NeverInLine" 196 2 7 .int := ⟨_, _, _, cl_ok2, by decide, (gk_t1 90 rfl rfl), rfl, by decide +kernel⟩
theorem fl_Plain_37 : gk_FL "NeverInLine$Plain" 37 2 8 := ⟨_, _, _, cl_ok2, by decide, (gk_t1 91 rfl rfl)⟩
theorem fp_Plain_37 : gk_FP "NeverInLine$Plain" 37 2 8 .int := ⟨_, _, _, cl_ok2, by decide, (gk_t1 91 rfl rfl), rfl, by decide +kernel⟩
theorem fl_X_325 : gk_FL "NeverInLine" 325 2 8 := ⟨_, _, _, cl_ok2, by decide, (gk_t1 92 rfl rfl)⟩
theorem fp_X_325 : gk_FP "NeverInLine" 325 2 8 .int := ⟨_, _, _, cl_ok2, by decide, (gk_t1 92 rfl rfl), rfl, by decide +kernel⟩
theorem fl_Plain_40 : gk_FL "NeverInLine$Plain" 40 2 9 := ⟨_, _, _, cl_ok2, by decide, (gk_t1 93 rfl rfl)⟩
theorem fl_Plain_43 : gk_FL "NeverInLine$Plain" 43 2 10 := ⟨_, _, _, cl_ok2, by decide, (gk_t1 94 rfl rfl)⟩
theorem fl_Plain_46 : gk_FL "NeverInLine$Plain" 46 2 11 := ⟨_, _, _, cl_ok2, by decide, (gk_t1 95 rfl rfl)⟩
theorem fl_Plain_49 : gk_FL "NeverInLine$Plain" 49 2 12 := ⟨_, _, _, cl_ok2, by decide, (gk_t1 96 rfl rfl)⟩
theorem fl_Plain_52 : gk_FL "NeverInLine$Plain" 52 2 13 := ⟨_, _, _, cl_ok2, by decide, (gk_t1 97 rfl rfl)⟩
theorem fl_Plain_63 : gk_FL "NeverInLine$Plain" 63 2 14 := ⟨_, _, _, cl_ok2, by decide, (gk_t1 98 rfl rfl)⟩
theorem fl_Plain_57 : gk_FL "NeverInLine$Plain" 57 2 15 := ⟨_, _, _, cl_ok2, by decide, (gk_t1 99 rfl rfl)⟩
theorem fl_Plain_60 : gk_FL "NeverInLine$Plain" 60 2 16 := ⟨_, _, _, cl_ok2, by decide, (gk_t1 100 rfl rfl)⟩
theorem fl_Planner_25 : gk_FL "NeverInLine$Planner" 25 3 0 := ⟨_, _, _, cl_ok3, by decide, (gk_t1 142 rfl rfl)⟩
theorem fl_Planner_9 : gk_FL "NeverInLine$Planner" 9 3 1 := ⟨_, _, _, cl_ok3, by decide, (gk_t1 143 rfl rfl)⟩
theorem fl_Planner_15 : gk_FL "NeverInLine$Planner" 15 3 2 := ⟨_, _, _, cl_ok3, by decide, (gk_t1 144 rfl rfl)⟩
theorem fl_Planner_18 : gk_FL "NeverInLine$Planner" 18 3 3 := ⟨_, _, _, cl_ok3, by decide, (gk_t1 145 rfl rfl)⟩
theorem fl_Planner_21 : gk_FL "NeverInLine$Planner" 21 3 4 := ⟨_, _, _, cl_ok3, by decide, (gk_t1 146 rfl rfl)⟩
theorem fp_Planner_21 : gk_FP "NeverInLine$Planner" 21 3 4 .int := ⟨_, _, _, cl_ok3, by decide, (gk_t1 146 rfl rfl), rfl, by decide +kernel⟩
theorem fl_X_246 : gk_FL "NeverInLine" 246 3 4 := ⟨_, _, _, cl_ok3, by decide, (gk_t1 147 rfl rfl)⟩
theorem fp_X_246 : gk_FP "NeverInLine" 246 3 4 .int := ⟨_, _, _, cl_ok3, by decide, (gk_t1 147 rfl rfl), rfl, by decide +kernel⟩
theorem fl_Game_29 : gk_FL "NeverInLine$Game" 29 4 0 := ⟨_, _, _, cl_ok4, by decide, (gk_t1 165 rfl rfl)⟩
theorem fl_Game_11 : gk_FL "NeverInLine$Game" 11 4 1 := ⟨_, _, _, cl_ok4, by decide, (gk_t1 166 rfl rfl)⟩
theorem fl_Game_15 : gk_FL "NeverInLine$Game" 15 4 2 := ⟨_, _, _, cl_ok4, by decide, (gk_t1 167 rfl rfl)⟩
theorem fl_Game_19 : gk_FL "NeverInLine$Game" 19 4 3 := ⟨_, _, _, cl_ok4, by decide, (gk_t1 168 rfl rfl)⟩
theorem fp_Game_19 : gk_FP "NeverInLine$Game" 19 4 3 .int := ⟨_, _, _, cl_ok4, by decide, (gk_t1 168 rfl rfl), rfl, by decide +kernel⟩
theorem fl_Game_23 : gk_FL "NeverInLine$Game" 23 4 4 := ⟨_, _, _, cl_ok4, by decide, (gk_t1 169 rfl rfl)⟩
theorem fp_Game_23 : gk_FP "NeverInLine$Game" 23 4 4 .int := ⟨_, _, _, cl_ok4, by decide, (gk_t1 169 rfl rfl), rfl, by decide +kernel⟩
theorem fl_Game_26 : gk_FL "NeverInLine$Game" 26 4 5 := ⟨_, _, _, cl_ok4, by decide, (gk_t1 170 rfl rfl)⟩
theorem fp_Game_26 : gk_FP "NeverInLine$Game" 26 4 5 .int := ⟨_, _, _, cl_ok4, by decide, (gk_t1 170 rfl rfl), rfl, by decide +kernel⟩
theorem fl_Walker_9 : gk_FL "NeverInLine$Walker" 9 5 0 := ⟨_, _, _, cl_ok5, by decide, (gk_t1 191 rfl rfl)⟩
theorem fp_Walker_9 : gk_FP "NeverInLine$Walker" 9 5 0 .int := ⟨_, _, _, cl_ok5, by decide, (gk_t1 191 rfl rfl), rfl, by decide +kernel⟩
theorem fl_X_328 : gk_FL "NeverInLine" 328 5 0 := ⟨_, _, _, cl_ok5, by decide, (gk_t1 192 rfl rfl)⟩
theorem fp_X_328 : gk_FP "NeverInLine" 328 5 0 .int := ⟨_, _, _, cl_ok5, by decide, (gk_t1 192 rfl rfl), rfl, by decide +kernel⟩
theorem fl_Walker_25 : gk_FL "NeverInLine$Walker" 25 5 1 := ⟨_, _, _, cl_ok5, by decide, (gk_t1 193 rfl rfl)⟩
theorem fl_Walker_15 : gk_FL "NeverInLine$Walker" 15 5 2 := ⟨_, _, _, cl_ok5, by decide, (gk_t1 194 rfl rfl)⟩
theorem fl_Walker_19 : gk_FL "NeverInLine$Walker" 19 5 3 := ⟨_, _, _, cl_ok5, by decide, (gk_t1 195 rfl rfl)⟩
theorem fl_Walker_22 : gk_FL "NeverInLine$Walker" 22 5 4 := ⟨_, _, _, cl_ok5, by decide, (gk_t1 196 rfl rfl)⟩
theorem fl_History_9 : gk_FL "NeverInLine$History" 9 6 0 := ⟨_, _, _, cl_ok6, by decide, (gk_t1 214 rfl rfl)⟩
theorem fp_History_9 : gk_FP "NeverInLine$History" 9 6 0 .int := ⟨_, _, _, cl_ok6, by decide, (gk_t1 214 rfl rfl), rfl, by decide +kernel⟩
theorem fl_X_334 : gk_FL "NeverInLine" 334 6 0 := ⟨_, _, _, cl_ok6, by decide, (gk_t1 215 rfl rfl)⟩
theorem fp_X_334 : gk_FP "NeverInLine" 334 6 0 .int := ⟨_, _, _, cl_ok6, by decide, (gk_t1 215 rfl rfl), rfl, by decide +kernel⟩
theorem fl_History_15 : gk_FL "NeverInLine$History" 15 6 1 := ⟨_, _, _, cl_ok6, by decide, (gk_t1 216 rfl rfl)⟩
theorem fp_History_15 : gk_FP "NeverInLine$History" 15 6 1 .int := ⟨_, _, _, cl_ok6, by decide, (gk_t1 216 rfl rfl), rfl, by decide +kernel⟩
theorem fl_History_31 : gk_FL "NeverInLine$History" 31 6 2 := ⟨_, _, _, cl_ok6, by decide, (gk_t1 217 rfl rfl)⟩
theorem fl_History_18 : gk_FL "NeverInLine$History" 18 6 3 := ⟨_, _, _, cl_ok6, by decide, (gk_t1 218 rfl rfl)⟩
theorem fl_History_22 : gk_FL "NeverInLine$History" 22 6 4 := ⟨_, _, _, cl_ok6, by decide, (gk_t1 219 rfl rfl)⟩
theorem fl_History_25 : gk_FL "NeverInLine$History" 25 6 5 := ⟨_, _, _, cl_ok6, by decide, (gk_t1 220 rfl rfl)⟩
theorem fl_History_28 : gk_FL "NeverInLine$History" 28 6 6 := ⟨_, _, _, cl_ok6, by decide, (gk_t1 221 rfl rfl)⟩
theorem fl_Ways_9 : gk_FL "NeverInLine$Ways" 9 7 0 := ⟨_, _, _, cl_ok7, by decide, (gk_t2 3 rfl rfl)⟩
theorem fp_Ways_9 : gk_FP "NeverInLine$Ways" 9 7 0 .int := ⟨_, _, _, cl_ok7, by decide, (gk_t2 3 rfl rfl), rfl, by decide +kernel⟩
theorem fl_X_337 : gk_FL "NeverInLine" 337 7 0 := ⟨_, _, _, cl_ok7, by decide, (gk_t2 4 rfl rfl)⟩
theorem fp_X_337 : gk_FP "NeverInLine" 337 7 0 .int := ⟨_, _, _, cl_ok7, by decide, (gk_t2 4 rfl rfl), rfl, by decide +kernel⟩
theorem fl_Ways_15 : gk_FL "NeverInLine$Ways" 15 7 1 := ⟨_, _, _, cl_ok7, by decide, (gk_t2 5 rfl rfl)⟩
theorem fp_Ways_15 : gk_FP "NeverInLine$Ways" 15 7 1 .int := ⟨_, _, _, cl_ok7, by decide, (gk_t2 5 rfl rfl), rfl, by decide +kernel⟩
theorem fl_X_340 : gk_FL "NeverInLine" 340 7 1 := ⟨_, _, _, cl_ok7, by decide, (gk_t2 6 rfl rfl)⟩
theorem fp_X_340 : gk_FP "NeverInLine" 340 7 1 .int := ⟨_, _, _, cl_ok7, by decide, (gk_t2 6 rfl rfl), rfl, by decide +kernel⟩
theorem fl_Ways_18 : gk_FL "NeverInLine$Ways" 18 7 2 := ⟨_, _, _, cl_ok7, by decide, (gk_t2 7 rfl rfl)⟩
theorem fl_Ways_22 : gk_FL "NeverInLine$Ways" 22 7 3 := ⟨_, _, _, cl_ok7, by decide, (gk_t2 8 rfl rfl)⟩
theorem fl_Ways_25 : gk_FL "NeverInLine$Ways" 25 7 4 := ⟨_, _, _, cl_ok7, by decide, (gk_t2 9 rfl rfl)⟩
theorem fp_Ways_25 : gk_FP "NeverInLine$Ways" 25 7 4 .int := ⟨_, _, _, cl_ok7, by decide, (gk_t2 9 rfl rfl), rfl, by decide +kernel⟩
theorem fl_Shelf_9 : gk_FL "NeverInLine$Shelf" 9 8 0 := ⟨_, _, _, cl_ok8, by decide, (gk_t2 28 rfl rfl)⟩
theorem fl_X_95 : gk_FL "NeverInLine" 95 8 0 := ⟨_, _, _, cl_ok8, by decide, (gk_t2 29 rfl rfl)⟩
theorem fl_Shelf_13 : gk_FL "NeverInLine$Shelf" 13 8 1 := ⟨_, _, _, cl_ok8, by decide, (gk_t2 30 rfl rfl)⟩
theorem fp_Shelf_13 : gk_FP "NeverInLine$Shelf" 13 8 1 .int := ⟨_, _, _, cl_ok8, by decide, (gk_t2 30 rfl rfl), rfl, by decide +kernel⟩
theorem fl_X_316 : gk_FL "NeverInLine" 316 8 1 := ⟨_, _, _, cl_ok8, by decide, (gk_t2 31 rfl rfl)⟩
theorem fp_X_316 : gk_FP "NeverInLine" 316 8 1 .int := ⟨_, _, _, cl_ok8, by decide, (gk_t2 31 rfl rfl), rfl, by decide +kernel⟩
theorem fl_Shelf_17 : gk_FL "NeverInLine$Shelf" 17 8 2 := ⟨_, _, _, cl_ok8, by decide, (gk_t2 32 rfl rfl)⟩
theorem fp_Shelf_17 : gk_FP "NeverInLine$Shelf" 17 8 2 .int := ⟨_, _, _, cl_ok8, by decide, (gk_t2 32 rfl rfl), rfl, by decide +kernel⟩
theorem fl_X_307 : gk_FL "NeverInLine" 307 8 2 := ⟨_, _, _, cl_ok8, by decide, (gk_t2 33 rfl rfl)⟩
theorem fp_X_307 : gk_FP "NeverInLine" 307 8 2 .int := ⟨_, _, _, cl_ok8, by decide, (gk_t2 33 rfl rfl), rfl, by decide +kernel⟩
theorem fl_Shelf_20 : gk_FL "NeverInLine$Shelf" 20 8 3 := ⟨_, _, _, cl_ok8, by decide, (gk_t2 34 rfl rfl)⟩
theorem fp_Shelf_20 : gk_FP "NeverInLine$Shelf" 20 8 3 .int := ⟨_, _, _, cl_ok8, by decide, (gk_t2 34 rfl rfl), rfl, by decide +kernel⟩
theorem fl_X_10 : gk_FL "NeverInLine" 10 9 0 := ⟨_, _, _, cl_ok9, by decide, (gk_t2 45 rfl rfl)⟩
theorem fl_X_19 : gk_FL "NeverInLine" 19 9 1 := ⟨_, _, _, cl_ok9, by decide, (gk_t2 46 rfl rfl)⟩
theorem fl_X_28 : gk_FL "NeverInLine" 28 9 2 := ⟨_, _, _, cl_ok9, by decide, (gk_t2 47 rfl rfl)⟩
theorem fl_X_37 : gk_FL "NeverInLine" 37 9 3 := ⟨_, _, _, cl_ok9, by decide, (gk_t2 48 rfl rfl)⟩
theorem fl_X_44 : gk_FL "NeverInLine" 44 9 4 := ⟨_, _, _, cl_ok9, by decide, (gk_t2 49 rfl rfl)⟩
theorem fl_X_51 : gk_FL "NeverInLine" 51 9 5 := ⟨_, _, _, cl_ok9, by decide, (gk_t2 50 rfl rfl)⟩
theorem fl_X_58 : gk_FL "NeverInLine" 58 9 6 := ⟨_, _, _, cl_ok9, by decide, (gk_t2 51 rfl rfl)⟩
theorem fl_X_65 : gk_FL "NeverInLine" 65 9 7 := ⟨_, _, _, cl_ok9, by decide, (gk_t2 52 rfl rfl)⟩
theorem fl_X_71 : gk_FL "NeverInLine" 71 9 8 := ⟨_, _, _, cl_ok9, by decide, (gk_t2 53 rfl rfl)⟩
theorem lc_Plain_150 : Cond.constant "NeverInLine$Plain" 150 (1000000) ∈ gk_W := (gk_t3 110 rfl rfl)
theorem lc_Planner_42 : Cond.constant "NeverInLine$Planner" 42 (1000000) ∈ gk_W := (gk_t3 195 rfl rfl)
theorem lc_Integer_265 : Cond.constant "java/lang/Integer" 265 (1431655765) ∈ gk_W := (gk_t3 203 rfl rfl)
theorem lc_Integer_266 : Cond.constant "java/lang/Integer" 266 (858993459) ∈ gk_W := (gk_t3 204 rfl rfl)
theorem lc_Integer_267 : Cond.constant "java/lang/Integer" 267 (252645135) ∈ gk_W := (gk_t3 205 rfl rfl)
theorem fs_Ways_49 : Cond.fieldLink "NeverInLine$Ways" 49 "NeverInLine$Ways" "OWN" "[I" ∈ gk_W := (gk_t4 116 rfl rfl)
theorem fs_Ways_28 : Cond.fieldLink "NeverInLine$Ways" 28 "NeverInLine$Ways" "ABOVE" "[I" ∈ gk_W := (gk_t4 118 rfl rfl)
theorem lc_X_302 : Cond.constantLong "NeverInLine" 302 (-9223372036854775808) ∈ gk_W := (gk_t4 174 rfl rfl)
theorem fl_M_9 : gk_FL "NeverInLineModel" 9 10 0 := ⟨_, _, _, cl_ok10, by decide, (gk_t4 201 rfl rfl)⟩
theorem fl_M_13 : gk_FL "NeverInLineModel" 13 10 1 := ⟨_, _, _, cl_ok10, by decide, (gk_t4 202 rfl rfl)⟩
theorem fl_M_16 : gk_FL "NeverInLineModel" 16 10 2 := ⟨_, _, _, cl_ok10, by decide, (gk_t4 203 rfl rfl)⟩
theorem fl_M_19 : gk_FL "NeverInLineModel" 19 10 3 := ⟨_, _, _, cl_ok10, by decide, (gk_t4 204 rfl rfl)⟩
theorem fl_M_97 : gk_FL "NeverInLineModel" 97 10 4 := ⟨_, _, _, cl_ok10, by decide, (gk_t4 205 rfl rfl)⟩
theorem fp_M_97 : gk_FP "NeverInLineModel" 97 10 4 .int := ⟨_, _, _, cl_ok10, by decide, (gk_t4 205 rfl rfl), rfl, by decide +kernel⟩
theorem fl_M_94 : gk_FL "NeverInLineModel" 94 10 5 := ⟨_, _, _, cl_ok10, by decide, (gk_t4 206 rfl rfl)⟩
theorem fp_M_94 : gk_FP "NeverInLineModel" 94 10 5 .int := ⟨_, _, _, cl_ok10, by decide, (gk_t4 206 rfl rfl), rfl, by decide +kernel⟩
theorem fl_M_106 : gk_FL "NeverInLineModel" 106 10 6 := ⟨_, _, _, cl_ok10, by decide, (gk_t4 207 rfl rfl)⟩
theorem fp_M_106 : gk_FP "NeverInLineModel" 106 10 6 .int := ⟨_, _, _, cl_ok10, by decide, (gk_t4 207 rfl rfl), rfl, by decide +kernel⟩
theorem fl_M_22 : gk_FL "NeverInLineModel" 22 10 7 := ⟨_, _, _, cl_ok10, by decide, (gk_t4 208 rfl rfl)⟩
theorem fl_M_25 : gk_FL "NeverInLineModel" 25 10 8 := ⟨_, _, _, cl_ok10, by decide, (gk_t4 209 rfl rfl)⟩
theorem fl_M_28 : gk_FL "NeverInLineModel" 28 10 9 := ⟨_, _, _, cl_ok10, by decide, (gk_t4 210 rfl rfl)⟩
theorem fl_M_109 : gk_FL "NeverInLineModel" 109 10 10 := ⟨_, _, _, cl_ok10, by decide, (gk_t4 211 rfl rfl)⟩
theorem fp_M_109 : gk_FP "NeverInLineModel" 109 10 10 .int := ⟨_, _, _, cl_ok10, by decide, (gk_t4 211 rfl rfl), rfl, by decide +kernel⟩
theorem fl_M_31 : gk_FL "NeverInLineModel" 31 10 11 := ⟨_, _, _, cl_ok10, by decide, (gk_t4 212 rfl rfl)⟩
theorem fl_M_34 : gk_FL "NeverInLineModel" 34 10 12 := ⟨_, _, _, cl_ok10, by decide, (gk_t4 213 rfl rfl)⟩
theorem fl_M_139 : gk_FL "NeverInLineModel" 139 10 13 := ⟨_, _, _, cl_ok10, by decide, (gk_t4 214 rfl rfl)⟩
theorem fp_M_139 : gk_FP "NeverInLineModel" 139 10 13 .int := ⟨_, _, _, cl_ok10, by decide, (gk_t4 214 rfl rfl), rfl, by decide +kernel⟩
theorem fl_M_37 : gk_FL "NeverInLineModel" 37 10 14 := ⟨_, _, _, cl_ok10, by decide, (gk_t4 215 rfl rfl)⟩
theorem fl_M_40 : gk_FL "NeverInLineModel" 40 10 15 := ⟨_, _, _, cl_ok10, by decide, (gk_t4 216 rfl rfl)⟩
theorem fl_M_157 : gk_FL "NeverInLineModel" 157 10 16 := ⟨_, _, _, cl_ok10, by decide, (gk_t4 217 rfl rfl)⟩
theorem fp_M_157 : gk_FP "NeverInLineModel" 157 10 16 .int := ⟨_, _, _, cl_ok10, by decide, (gk_t4 217 rfl rfl), rfl, by decide +kernel⟩
theorem fl_M_43 : gk_FL "NeverInLineModel" 43 10 17 := ⟨_, _, _, cl_ok10, by decide, (gk_t4 218 rfl rfl)⟩
theorem fl_M_90 : gk_FL "NeverInLineModel" 90 10 18 := ⟨_, _, _, cl_ok10, by decide, (gk_t4 219 rfl rfl)⟩
theorem fp_M_90 : gk_FP "NeverInLineModel" 90 10 18 .int := ⟨_, _, _, cl_ok10, by decide, (gk_t4 219 rfl rfl), rfl, by decide +kernel⟩
theorem fl_M_166 : gk_FL "NeverInLineModel" 166 10 19 := ⟨_, _, _, cl_ok10, by decide, (gk_t4 220 rfl rfl)⟩
theorem fp_M_166 : gk_FP "NeverInLineModel" 166 10 19 .int := ⟨_, _, _, cl_ok10, by decide, (gk_t4 220 rfl rfl), rfl, by decide +kernel⟩
theorem fl_M_160 : gk_FL "NeverInLineModel" 160 10 20 := ⟨_, _, _, cl_ok10, by decide, (gk_t4 221 rfl rfl)⟩
theorem fp_M_160 : gk_FP "NeverInLineModel" 160 10 20 .int := ⟨_, _, _, cl_ok10, by decide, (gk_t4 221 rfl rfl), rfl, by decide +kernel⟩
theorem fl_M_163 : gk_FL "NeverInLineModel" 163 10 21 := ⟨_, _, _, cl_ok10, by decide, (gk_t4 222 rfl rfl)⟩
theorem fp_M_163 : gk_FP "NeverInLineModel" 163 10 21 .int := ⟨_, _, _, cl_ok10, by decide, (gk_t4 222 rfl rfl), rfl, by decide +kernel⟩
theorem fl_M_169 : gk_FL "NeverInLineModel" 169 10 22 := ⟨_, _, _, cl_ok10, by decide, (gk_t4 223 rfl rfl)⟩
theorem fp_M_169 : gk_FP "NeverInLineModel" 169 10 22 .int := ⟨_, _, _, cl_ok10, by decide, (gk_t4 223 rfl rfl), rfl, by decide +kernel⟩
theorem fl_M_194 : gk_FL "NeverInLineModel" 194 10 23 := ⟨_, _, _, cl_ok10, by decide, (gk_t4 224 rfl rfl)⟩
theorem fp_M_194 : gk_FP "NeverInLineModel" 194 10 23 .int := ⟨_, _, _, cl_ok10, by decide, (gk_t4 224 rfl rfl), rfl, by decide +kernel⟩
theorem fl_M_46 : gk_FL "NeverInLineModel" 46 10 24 := ⟨_, _, _, cl_ok10, by decide, (gk_t4 225 rfl rfl)⟩
theorem fl_M_264 : gk_FL "NeverInLineModel" 264 10 25 := ⟨_, _, _, cl_ok10, by decide, (gk_t4 226 rfl rfl)⟩
theorem fp_M_264 : gk_FP "NeverInLineModel" 264 10 25 .long := ⟨_, _, _, cl_ok10, by decide, (gk_t4 226 rfl rfl), rfl, by decide +kernel⟩
theorem fl_M_268 : gk_FL "NeverInLineModel" 268 10 26 := ⟨_, _, _, cl_ok10, by decide, (gk_t4 227 rfl rfl)⟩
theorem fp_M_268 : gk_FP "NeverInLineModel" 268 10 26 .long := ⟨_, _, _, cl_ok10, by decide, (gk_t4 227 rfl rfl), rfl, by decide +kernel⟩
theorem fl_M_49 : gk_FL "NeverInLineModel" 49 10 27 := ⟨_, _, _, cl_ok10, by decide, (gk_t4 228 rfl rfl)⟩
theorem fl_M_52 : gk_FL "NeverInLineModel" 52 10 28 := ⟨_, _, _, cl_ok10, by decide, (gk_t4 229 rfl rfl)⟩
theorem fl_M_56 : gk_FL "NeverInLineModel" 56 10 29 := ⟨_, _, _, cl_ok10, by decide, (gk_t4 230 rfl rfl)⟩
theorem fl_M_59 : gk_FL "NeverInLineModel" 59 10 30 := ⟨_, _, _, cl_ok10, by decide, (gk_t4 231 rfl rfl)⟩
theorem fl_M_62 : gk_FL "NeverInLineModel" 62 10 31 := ⟨_, _, _, cl_ok10, by decide, (gk_t4 232 rfl rfl)⟩
theorem fl_M_350 : gk_FL "NeverInLineModel" 350 10 32 := ⟨_, _, _, cl_ok10, by decide, (gk_t4 233 rfl rfl)⟩
theorem fp_M_350 : gk_FP "NeverInLineModel" 350 10 32 .int := ⟨_, _, _, cl_ok10, by decide, (gk_t4 233 rfl rfl), rfl, by decide +kernel⟩
theorem fl_M_353 : gk_FL "NeverInLineModel" 353 10 33 := ⟨_, _, _, cl_ok10, by decide, (gk_t4 234 rfl rfl)⟩
theorem fp_M_353 : gk_FP "NeverInLineModel" 353 10 33 .int := ⟨_, _, _, cl_ok10, by decide, (gk_t4 234 rfl rfl), rfl, by decide +kernel⟩
theorem fl_M_359 : gk_FL "NeverInLineModel" 359 10 34 := ⟨_, _, _, cl_ok10, by decide, (gk_t4 235 rfl rfl)⟩
theorem fp_M_359 : gk_FP "NeverInLineModel" 359 10 34 .int := ⟨_, _, _, cl_ok10, by decide, (gk_t4 235 rfl rfl), rfl, by decide +kernel⟩
theorem fl_M_362 : gk_FL "NeverInLineModel" 362 10 35 := ⟨_, _, _, cl_ok10, by decide, (gk_t4 236 rfl rfl)⟩
theorem fp_M_362 : gk_FP "NeverInLineModel" 362 10 35 .int := ⟨_, _, _, cl_ok10, by decide, (gk_t4 236 rfl rfl), rfl, by decide +kernel⟩
theorem fl_M_379 : gk_FL "NeverInLineModel" 379 10 36 := ⟨_, _, _, cl_ok10, by decide, (gk_t4 237 rfl rfl)⟩
theorem fp_M_379 : gk_FP "NeverInLineModel" 379 10 36 .int := ⟨_, _, _, cl_ok10, by decide, (gk_t4 237 rfl rfl), rfl, by decide +kernel⟩
theorem fl_M_65 : gk_FL "NeverInLineModel" 65 10 37 := ⟨_, _, _, cl_ok10, by decide, (gk_t4 238 rfl rfl)⟩
theorem fl_M_68 : gk_FL "NeverInLineModel" 68 10 38 := ⟨_, _, _, cl_ok10, by decide, (gk_t4 239 rfl rfl)⟩
theorem fl_M_386 : gk_FL "NeverInLineModel" 386 10 39 := ⟨_, _, _, cl_ok10, by decide, (gk_t5 0 rfl rfl)⟩
theorem fp_M_386 : gk_FP "NeverInLineModel" 386 10 39 .int := ⟨_, _, _, cl_ok10, by decide, (gk_t5 0 rfl rfl), rfl, by decide +kernel⟩
theorem fl_M_71 : gk_FL "NeverInLineModel" 71 10 40 := ⟨_, _, _, cl_ok10, by decide, (gk_t5 1 rfl rfl)⟩
theorem fl_M_74 : gk_FL "NeverInLineModel" 74 10 41 := ⟨_, _, _, cl_ok10, by decide, (gk_t5 2 rfl rfl)⟩
theorem fl_M_391 : gk_FL "NeverInLineModel" 391 10 42 := ⟨_, _, _, cl_ok10, by decide, (gk_t5 3 rfl rfl)⟩
theorem fp_M_391 : gk_FP "NeverInLineModel" 391 10 42 .int := ⟨_, _, _, cl_ok10, by decide, (gk_t5 3 rfl rfl), rfl, by decide +kernel⟩
theorem fl_M_406 : gk_FL "NeverInLineModel" 406 10 43 := ⟨_, _, _, cl_ok10, by decide, (gk_t5 4 rfl rfl)⟩
theorem fp_M_406 : gk_FP "NeverInLineModel" 406 10 43 .int := ⟨_, _, _, cl_ok10, by decide, (gk_t5 4 rfl rfl), rfl, by decide +kernel⟩
theorem fl_M_400 : gk_FL "NeverInLineModel" 400 10 44 := ⟨_, _, _, cl_ok10, by decide, (gk_t5 5 rfl rfl)⟩
theorem fp_M_400 : gk_FP "NeverInLineModel" 400 10 44 .int := ⟨_, _, _, cl_ok10, by decide, (gk_t5 5 rfl rfl), rfl, by decide +kernel⟩
theorem fl_M_77 : gk_FL "NeverInLineModel" 77 10 45 := ⟨_, _, _, cl_ok10, by decide, (gk_t5 6 rfl rfl)⟩
theorem fl_M_80 : gk_FL "NeverInLineModel" 80 10 46 := ⟨_, _, _, cl_ok10, by decide, (gk_t5 7 rfl rfl)⟩
theorem fl_M_83 : gk_FL "NeverInLineModel" 83 10 47 := ⟨_, _, _, cl_ok10, by decide, (gk_t5 8 rfl rfl)⟩
theorem fl_M_87 : gk_FL "NeverInLineModel" 87 10 48 := ⟨_, _, _, cl_ok10, by decide, (gk_t5 9 rfl rfl)⟩
theorem lc_M_100 : Cond.constantLong "NeverInLineModel" 100 (899) ∈ gk_W := (gk_t5 125 rfl rfl)
theorem lc_M_112 : Cond.constantLong "NeverInLineModel" 112 (9) ∈ gk_W := (gk_t5 129 rfl rfl)
theorem lc_M_114 : Cond.constantLong "NeverInLineModel" 114 (99) ∈ gk_W := (gk_t5 130 rfl rfl)
theorem lc_M_418 : Cond.constantLong "NeverInLineModel" 418 (5) ∈ gk_W := (gk_t5 146 rfl rfl)
theorem lc_M_131 : Cond.constantLong "NeverInLineModel" 131 (10) ∈ gk_W := (gk_t5 147 rfl rfl)
theorem lc_M_145 : Cond.constantLong "NeverInLineModel" 145 (2) ∈ gk_W := (gk_t5 175 rfl rfl)
theorem lc_M_151 : Cond.constantLong "NeverInLineModel" 151 (3) ∈ gk_W := (gk_t5 184 rfl rfl)
theorem lc_M_153 : Cond.constantLong "NeverInLineModel" 153 (20) ∈ gk_W := (gk_t5 185 rfl rfl)
theorem lc_M_155 : Cond.constantLong "NeverInLineModel" 155 (255) ∈ gk_W := (gk_t5 190 rfl rfl)
theorem lc_M_258 : Cond.constantLong "NeverInLineModel" 258 (4) ∈ gk_W := (gk_t6 6 rfl rfl)
theorem lc_M_315 : Cond.constantLong "NeverInLineModel" 315 (29) ∈ gk_W := (gk_t6 130 rfl rfl)
theorem lc_M_368 : Cond.constantLong "NeverInLineModel" 368 (39) ∈ gk_W := (gk_t6 203 rfl rfl)
theorem lc_M_377 : Cond.constantLong "NeverInLineModel" 377 (1023) ∈ gk_W := (gk_t6 223 rfl rfl)
theorem lc_M_389 : Cond.constantLong "NeverInLineModel" 389 (7) ∈ gk_W := (gk_t6 236 rfl rfl)
theorem lc_M_429 : Cond.constantLong "NeverInLineModel" 429 (-9223372036854775808) ∈ gk_W := (gk_t7 52 rfl rfl)
theorem lc_L_145 : Cond.constantLong "NeverInLineLaw" 145 (4294967295) ∈ gk_W := (gk_t7 72 rfl rfl)
def tx : gk_T := ([
  .inr (9, [.inl 1, .inl 4, .inl 7, .inl 21, .inl 25, .inl 28, .inl 32, .inl 37, .inl 40]),
  .inr (0, [.inl 2, .inl 3, .inr false]),
  .inl (0, 256, 0),
  .inl (0, 256, 0),
  .inr (1, [.inl 5, .inr false, .inr false, .inl 6, .inr false, .inr false]),
  .inl (0, 256, 0),
  .inl (0, 120, 0),
  .inr (2, [.inl 8, .inl 9, .inl 10, .inl 11, .inl 12, .inr false, .inl 13, .inr false, .inr false, .inl 14, .inl 15, .inl 16, .inl 17, .inl 18, .inl 1, .inl 19, .inl 20]),
  .inl (0, 12, 0),
  .inl (0, 12, 0),
  .inl (0, 12, 0),
  .inl (0, 12, 0),
  .inl (0, 12, 0),
  .inl (0, 4, 0),
  .inl (0, 24, 0),
  .inl (0, 8, 0),
  .inl (0, 8, 0),
  .inl (0, 8, 0),
  .inl (0, 8, 0),
  .inl (0, 6, 0),
  .inl (0, 720, 0),
  .inr (3, [.inl 7, .inl 22, .inl 23, .inl 24, .inr false]),
  .inl (0, 10, 0),
  .inl (0, 900, 0),
  .inl (0, 900, 0),
  .inr (4, [.inl 7, .inl 26, .inl 27, .inr false, .inr false, .inr false]),
  .inl (0, 9, 0),
  .inl (1, 512, 0),
  .inr (5, [.inr false, .inl 7, .inl 29, .inl 30, .inl 31]),
  .inl (0, 10, 0),
  .inl (0, 10, 0),
  .inl (0, 10, 0),
  .inr (6, [.inr false, .inr false, .inl 7, .inl 33, .inl 34, .inl 35, .inl 36]),
  .inl (0, 40, 0),
  .inl (0, 40, 0),
  .inl (0, 40, 0),
  .inl (0, 40, 0),
  .inr (7, [.inr false, .inr false, .inl 38, .inl 39, .inr false]),
  .inl (0, 50, 0),
  .inl (0, 24, 0),
  .inl (3, 6, 41),
  .inr (8, [.inl 47, .inr false, .inr false, .inr false]),
  .inr (8, [.inl 48, .inr false, .inr false, .inr false]),
  .inr (8, [.inl 49, .inr false, .inr false, .inr false]),
  .inr (8, [.inl 50, .inr false, .inr false, .inr false]),
  .inr (8, [.inl 51, .inr false, .inr false, .inr false]),
  .inr (8, [.inl 52, .inr false, .inr false, .inr false]),
  .inl (2, 60, 0),
  .inl (2, 60, 0),
  .inl (2, 60, 0),
  .inl (2, 60, 0),
  .inl (2, 60, 0),
  .inl (2, 60, 0)],
  [("NeverInLine$Ways", "ABOVE", [-1, 0, 0, 2, 1, 3, 0, 4]), ("NeverInLine$Ways", "OWN", [1, 10, 11, 2, 20, 0, 0, 0, 0, 30, 0, 0, 0, 41, 40, 0, 0, 0, 50, 0, 0, 0, 0, 60, 70, 0, 0, 0, 0, 80, 0, 81])])
def tm : gk_T := ([
  .inr (10, [.inl 1, .inl 2, .inl 3, .inl 4, .inr false, .inr false, .inr false, .inl 5, .inl 6, .inl 7, .inr false, .inl 8, .inl 9, .inr false, .inl 10, .inl 11, .inr false, .inl 12, .inr false, .inr false, .inr false, .inr false, .inr false, .inr false, .inl 13, .inr true, .inr true, .inl 14, .inl 15, .inl 16, .inl 17, .inl 18, .inr false, .inr false, .inr false, .inr false, .inr false, .inl 19, .inl 20, .inr false, .inl 21, .inl 22, .inr false, .inr false, .inr false, .inl 23, .inl 24, .inl 25, .inl 26]),
  .inl (0, 30, 0),
  .inl (0, 40, 0),
  .inl (0, 40, 0),
  .inl (0, 40, 0),
  .inl (0, 20, 0),
  .inl (0, 20, 0),
  .inl (0, 20, 0),
  .inl (0, 4, 0),
  .inl (0, 28, 0),
  .inl (0, 16, 0),
  .inl (0, 120, 0),
  .inl (0, 120, 0),
  .inl (0, 6, 0),
  .inl (0, 10, 0),
  .inl (1, 900, 0),
  .inl (0, 900, 0),
  .inl (0, 900, 0),
  .inl (0, 512, 0),
  .inl (0, 10, 0),
  .inl (0, 10, 0),
  .inl (0, 50, 0),
  .inl (0, 24, 0),
  .inl (0, 6, 0),
  .inl (0, 6, 0),
  .inl (2, 360, 0),
  .inl (2, 60, 0)],
  [])
theorem tx_sh {i : Nat} (hi : i < 6) : tx.1[41 + i]? = some (.inr (8, [.inl (47 + i), .inr false, .inr false, .inr false])) := by
  match i, hi with
  | 0, _ => rfl
  | 1, _ => rfl
  | 2, _ => rfl
  | 3, _ => rfl
  | 4, _ => rfl
  | 5, _ => rfl
  | (i + 6), hi => exact absurd hi (by omega)
theorem tx_sa {i : Nat} (hi : i < 6) : tx.1[47 + i]? = some (.inl (2, 60, 0)) := by
  match i, hi with
  | 0, _ => rfl
  | 1, _ => rfl
  | 2, _ => rfl
  | 3, _ => rfl
  | 4, _ => rfl
  | 5, _ => rfl
  | (i + 6), hi => exact absurd hi (by omega)
