def M_X0_clear : xM := (yX0_clear, cX0_clear, 1, none, { frames := 1, cells := 0, slots := 0, locals := 23 }, 0, 0)
def M_X0_find : xM := (yX0_find, cX0_find, 6, (some .int), { frames := 1, cells := 0, slots := 0, locals := 27 }, 0, 0)
def M_X0_add : xM := (yX0_add, cX0_add, 5, (some .int), { frames := 1, cells := 0, slots := 0, locals := 27 }, 0, 0)
def M_X0_slotOf : xM := (yX0_slotOf, cX0_slotOf, 8, (some .int), { frames := 0, cells := 0, slots := 0, locals := 0 }, 0, 0)
def M_X1_begin : xM := (yX1_begin, cX1_begin, 5, none, { frames := 2, cells := 0, slots := 0, locals := 51 }, 0, 0)
def M_X1_bringIn : xM := (yX1_bringIn, cX1_bringIn, 8, (some .boolean), { frames := 3, cells := 0, slots := 0, locals := 75 }, 0, 0)
def M_X1_addBlock : xM := (yX1_addBlock, cX1_addBlock, 5, (some .boolean), { frames := 2, cells := 0, slots := 0, locals := 51 }, 0, 0)
def M_X1_behind : xM := (yX1_behind, cX1_behind, 9, (some .long), { frames := 0, cells := 0, slots := 0, locals := 0 }, 0, 0)
def M_X2_forget : xM := (yX2_forget, cX2_forget, 1, none, { frames := 0, cells := 0, slots := 0, locals := 0 }, 0, 0)
def M_X2_forgetRows : xM := (yX2_forgetRows, cX2_forgetRows, 1, none, { frames := 1, cells := 0, slots := 0, locals := 23 }, 0, 0)
def M_X2_build : xM := (yX2_build, cX2_build, 6, none, { frames := 1, cells := 0, slots := 0, locals := 30 }, 0, 0)
def M_X2_buildBranch : xM := (yX2_buildBranch, cX2_buildBranch, 11, none, { frames := 0, cells := 0, slots := 0, locals := 0 }, 0, 0)
def M_X2_spread : xM := (yX2_spread, cX2_spread, 11, (some .int), { frames := 1, cells := 0, slots := 0, locals := 21 }, 0, 0)
def M_X2_countBackOrbits : xM := (yX2_countBackOrbits, cX2_countBackOrbits, 5, (some .int), { frames := 2, cells := 0, slots := 0, locals := 51 }, 0, 0)
def M_X2_markOfMove : xM := (yX2_markOfMove, cX2_markOfMove, 6, (some .int), { frames := 0, cells := 0, slots := 0, locals := 0 }, 0, 0)
def M_X2_roundsToRest : xM := (yX2_roundsToRest, cX2_roundsToRest, 8, (some .int), { frames := 2, cells := 0, slots := 0, locals := 53 }, 0, 0)
def M_X2_ringLength : xM := (yX2_ringLength, cX2_ringLength, 7, (some .int), { frames := 1, cells := 0, slots := 0, locals := 21 }, 0, 0)
def M_X2_commonDivisor : xM := (yX2_commonDivisor, cX2_commonDivisor, 11, (some .long), { frames := 1, cells := 0, slots := 0, locals := 23 }, 0, 0)
def M_X2_packed : xM := (yX2_packed, cX2_packed, 6, (some .long), { frames := 0, cells := 0, slots := 0, locals := 0 }, 0, 0)
def M_X3_restart : xM := (yX3_restart, cX3_restart, 2, none, { frames := 4, cells := 0, slots := 0, locals := 93 }, 0, 0)
def M_X3_isState : xM := (yX3_isState, cX3_isState, 2, (some .boolean), { frames := 0, cells := 0, slots := 0, locals := 0 }, 0, 0)
def M_X3_isLetter : xM := (yX3_isLetter, cX3_isLetter, 2, (some .boolean), { frames := 0, cells := 0, slots := 0, locals := 0 }, 0, 0)
def M_X3_isBack : xM := (yX3_isBack, cX3_isBack, 2, (some .boolean), { frames := 0, cells := 0, slots := 0, locals := 0 }, 0, 0)
def M_X3_canRead : xM := (yX3_canRead, cX3_canRead, 5, (some .boolean), { frames := 1, cells := 0, slots := 0, locals := 22 }, 0, 0)
def M_X3_read : xM := (yX3_read, cX3_read, 6, none, { frames := 4, cells := 0, slots := 0, locals := 93 }, 0, 0)
def M_X3_rewire : xM := (yX3_rewire, cX3_rewire, 5, none, { frames := 4, cells := 0, slots := 0, locals := 93 }, 0, 0)
def M_X3_refresh : xM := (yX3_refresh, cX3_refresh, 5, none, { frames := 3, cells := 0, slots := 0, locals := 69 }, 0, 0)
def M_X3_goals : xM := (yX3_goals, cX3_goals, 5, (some .int), { frames := 0, cells := 0, slots := 0, locals := 0 }, 0, 0)
def M_X3_writesUnlike : xM := (yX3_writesUnlike, cX3_writesUnlike, 4, (some .boolean), { frames := 0, cells := 0, slots := 0, locals := 0 }, 0, 0)
def M_X3_listMarks : xM := (yX3_listMarks, cX3_listMarks, 3, none, { frames := 2, cells := 0, slots := 0, locals := 47 }, 0, 0)
def M_X3_wireMarks : xM := (yX3_wireMarks, cX3_wireMarks, 7, none, { frames := 1, cells := 0, slots := 0, locals := 21 }, 0, 0)
def M_X3_rowLength : xM := (yX3_rowLength, cX3_rowLength, 3, (some .int), { frames := 1, cells := 0, slots := 0, locals := 23 }, 0, 0)
def M_X3_hasLetters : xM := (yX3_hasLetters, cX3_hasLetters, 4, (some .boolean), { frames := 0, cells := 0, slots := 0, locals := 0 }, 0, 0)
def M_X3_rowIndex : xM := (yX3_rowIndex, cX3_rowIndex, 5, (some .int), { frames := 0, cells := 0, slots := 0, locals := 0 }, 0, 0)
def M_X3_power : xM := (yX3_power, cX3_power, 5, (some .int), { frames := 0, cells := 0, slots := 0, locals := 0 }, 0, 0)
def M_X4_reset : xM := (yX4_reset, cX4_reset, 1, none, { frames := 2, cells := 0, slots := 0, locals := 43 }, 0, 0)
def M_X4_indexOf : xM := (yX4_indexOf, cX4_indexOf, 2, (some .int), { frames := 2, cells := 0, slots := 0, locals := 52 }, 0, 0)
def M_X4_load : xM := (yX4_load, cX4_load, 3, none, { frames := 0, cells := 0, slots := 0, locals := 0 }, 0, 0)
def M_X4_enter : xM := (yX4_enter, cX4_enter, 2, (some .int), { frames := 2, cells := 0, slots := 0, locals := 51 }, 0, 0)
def M_X4_take : xM := (yX4_take, cX4_take, 4, (some .int), { frames := 3, cells := 0, slots := 0, locals := 76 }, 0, 0)
def M_X4_followParts : xM := (yX4_followParts, cX4_followParts, 6, (some .boolean), { frames := 2, cells := 0, slots := 0, locals := 51 }, 0, 0)
def M_X4_classify : xM := (yX4_classify, cX4_classify, 3, none, { frames := 3, cells := 0, slots := 0, locals := 75 }, 0, 0)
def M_X4_refine : xM := (yX4_refine, cX4_refine, 5, none, { frames := 2, cells := 0, slots := 0, locals := 51 }, 0, 0)
def M_X4_keepRound : xM := (yX4_keepRound, cX4_keepRound, 1, none, { frames := 1, cells := 0, slots := 0, locals := 26 }, 0, 0)
def M_X4_areAlike : xM := (yX4_areAlike, cX4_areAlike, 3, (some .boolean), { frames := 0, cells := 0, slots := 0, locals := 0 }, 0, 0)
def M_X4_arePartedBy : xM := (yX4_arePartedBy, cX4_arePartedBy, 4, (some .boolean), { frames := 0, cells := 0, slots := 0, locals := 0 }, 0, 0)
def M_X4_partingRow : xM := (yX4_partingRow, cX4_partingRow, 9, (some .int), { frames := 2, cells := 0, slots := 0, locals := 47 }, 0, 0)
def M_X4_firstPartingLetter : xM := (yX4_firstPartingLetter, cX4_firstPartingLetter, 5, (some .int), { frames := 1, cells := 0, slots := 0, locals := 23 }, 0, 0)
def M_X4_firstUnlikeLetter : xM := (yX4_firstUnlikeLetter, cX4_firstUnlikeLetter, 3, (some .int), { frames := 0, cells := 0, slots := 0, locals := 0 }, 0, 0)
def M_X5_lay : xM := (yX5_lay, cX5_lay, 3, none, { frames := 1, cells := 0, slots := 0, locals := 23 }, 0, 0)
def M_X5_hasNumber : xM := (yX5_hasNumber, cX5_hasNumber, 2, (some .boolean), { frames := 0, cells := 0, slots := 0, locals := 0 }, 0, 0)
def M_X5_hasPair : xM := (yX5_hasPair, cX5_hasPair, 3, (some .boolean), { frames := 0, cells := 0, slots := 0, locals := 0 }, 0, 0)
def M_X5_write : xM := (yX5_write, cX5_write, 3, none, { frames := 0, cells := 0, slots := 0, locals := 0 }, 0, 0)
def M_X6_forget : xM := (yX6_forget, cX6_forget, 1, none, { frames := 0, cells := 0, slots := 0, locals := 0 }, 0, 0)
def M_X6_gatherWithin : xM := (yX6_gatherWithin, cX6_gatherWithin, 3, (some .int), { frames := 5, cells := 0, slots := 0, locals := 122 }, 0, 0)
def M_X6_enterWithin : xM := (yX6_enterWithin, cX6_enterWithin, 7, (some .boolean), { frames := 4, cells := 0, slots := 0, locals := 96 }, 0, 0)
def M_X6_beginWithEmpty : xM := (yX6_beginWithEmpty, cX6_beginWithEmpty, 1, none, { frames := 3, cells := 0, slots := 0, locals := 72 }, 0, 0)
def M_X6_extend : xM := (yX6_extend, cX6_extend, 5, (some .boolean), { frames := 3, cells := 0, slots := 0, locals := 72 }, 0, 0)
def M_X6_isLaw : xM := (yX6_isLaw, cX6_isLaw, 2, (some .boolean), { frames := 1, cells := 0, slots := 0, locals := 22 }, 0, 0)
def M_X6_countLaws : xM := (yX6_countLaws, cX6_countLaws, 3, (some .int), { frames := 2, cells := 0, slots := 0, locals := 43 }, 0, 0)
def M_X6_findLaw : xM := (yX6_findLaw, cX6_findLaw, 4, (some .int), { frames := 2, cells := 0, slots := 0, locals := 43 }, 0, 0)
def M_X6_gatherFallen : xM := (yX6_gatherFallen, cX6_gatherFallen, 4, (some .int), { frames := 5, cells := 0, slots := 0, locals := 127 }, 0, 0)
def M_X6_lookAtParts : xM := (yX6_lookAtParts, cX6_lookAtParts, 9, (some .boolean), { frames := 4, cells := 0, slots := 0, locals := 99 }, 0, 0)
def M_X6_addUnlike : xM := (yX6_addUnlike, cX6_addUnlike, 3, (some .boolean), { frames := 4, cells := 0, slots := 0, locals := 97 }, 0, 0)
def M_X7_empty : xM := (yX7_empty, cX7_empty, 1, none, { frames := 0, cells := 0, slots := 0, locals := 0 }, 0, 0)
def M_X7_copy : xM := (yX7_copy, cX7_copy, 2, none, { frames := 0, cells := 0, slots := 0, locals := 0 }, 0, 0)
def M_X7_mark : xM := (yX7_mark, cX7_mark, 2, (some .int), { frames := 0, cells := 0, slots := 0, locals := 0 }, 0, 0)
def M_X7_push : xM := (yX7_push, cX7_push, 2, (some .boolean), { frames := 0, cells := 0, slots := 0, locals := 0 }, 0, 0)
def M_X7_descend : xM := (yX7_descend, cX7_descend, 9, (some .int), { frames := 1, cells := 0, slots := 0, locals := 21 }, 0, 0)
def M_X8_sheet : xM := (yX8_sheet, cX8_sheet, 4, (some .int), { frames := 2, cells := 0, slots := 0, locals := 45 }, 0, 0)
def M_X8_cell : xM := (yX8_cell, cX8_cell, 4, (some .int), { frames := 1, cells := 0, slots := 0, locals := 22 }, 0, 0)
def M_X8_told : xM := (yX8_told, cX8_told, 3, (some .int), { frames := 1, cells := 0, slots := 0, locals := 21 }, 0, 0)
def M_X8_lose : xM := (yX8_lose, cX8_lose, 2, (some .int), { frames := 1, cells := 0, slots := 0, locals := 20 }, 0, 0)
def M_X8_letters : xM := (yX8_letters, cX8_letters, 3, (some .int), { frames := 5, cells := 0, slots := 0, locals := 114 }, 0, 0)
def M_X8_state : xM := (yX8_state, cX8_state, 3, (some .int), { frames := 5, cells := 0, slots := 0, locals := 118 }, 0, 0)
def M_X8_change : xM := (yX8_change, cX8_change, 6, (some .int), { frames := 5, cells := 0, slots := 0, locals := 117 }, 0, 0)
def M_X8_of : xM := (yX8_of, cX8_of, 5, (some .int), { frames := 1, cells := 0, slots := 0, locals := 21 }, 0, 0)
def M_X8_many : xM := (yX8_many, cX8_many, 2, (some .int), { frames := 0, cells := 0, slots := 0, locals := 0 }, 0, 0)
def M_X8_put : xM := (yX8_put, cX8_put, 8, (some .int), { frames := 3, cells := 0, slots := 0, locals := 70 }, 0, 0)
def M_X8_wipe : xM := (yX8_wipe, cX8_wipe, 3, (some .int), { frames := 1, cells := 0, slots := 0, locals := 20 }, 0, 0)
def M_X8_size : xM := (yX8_size, cX8_size, 2, (some .int), { frames := 1, cells := 0, slots := 0, locals := 20 }, 0, 0)
def M_X8_token : xM := (yX8_token, cX8_token, 3, (some .int), { frames := 1, cells := 0, slots := 0, locals := 21 }, 0, 0)
def M_X8_times : xM := (yX8_times, cX8_times, 4, (some .int), { frames := 3, cells := 0, slots := 0, locals := 70 }, 0, 0)
def M_X8_turn : xM := (yX8_turn, cX8_turn, 4, (some .int), { frames := 2, cells := 0, slots := 0, locals := 43 }, 0, 0)
def M_X8_act : xM := (yX8_act, cX8_act, 4, (some .int), { frames := 3, cells := 0, slots := 0, locals := 74 }, 0, 0)
def M_X8_part : xM := (yX8_part, cX8_part, 5, (some .int), { frames := 3, cells := 0, slots := 0, locals := 74 }, 0, 0)
def M_X8_same : xM := (yX8_same, cX8_same, 4, (some .int), { frames := 5, cells := 0, slots := 0, locals := 121 }, 0, 0)
def M_X8_apart : xM := (yX8_apart, cX8_apart, 4, (some .int), { frames := 5, cells := 0, slots := 0, locals := 121 }, 0, 0)
def M_X8_heap : xM := (yX8_heap, cX8_heap, 3, (some .int), { frames := 5, cells := 0, slots := 0, locals := 121 }, 0, 0)
def M_X8_least : xM := (yX8_least, cX8_least, 3, (some .int), { frames := 5, cells := 0, slots := 0, locals := 121 }, 0, 0)
def M_X8_order : xM := (yX8_order, cX8_order, 3, (some .int), { frames := 3, cells := 0, slots := 0, locals := 80 }, 0, 0)
def M_X8_orbits : xM := (yX8_orbits, cX8_orbits, 2, (some .int), { frames := 3, cells := 0, slots := 0, locals := 75 }, 0, 0)
def M_X8_orbit : xM := (yX8_orbit, cX8_orbit, 3, (some .int), { frames := 3, cells := 0, slots := 0, locals := 77 }, 0, 0)
def M_X8_far : xM := (yX8_far, cX8_far, 5, (some .int), { frames := 3, cells := 0, slots := 0, locals := 77 }, 0, 0)
def M_X8_way : xM := (yX8_way, cX8_way, 6, (some .int), { frames := 4, cells := 0, slots := 0, locals := 101 }, 0, 0)
def M_X8_reach : xM := (yX8_reach, cX8_reach, 4, (some .int), { frames := 3, cells := 0, slots := 0, locals := 77 }, 0, 0)
def M_X8_group : xM := (yX8_group, cX8_group, 4, (some .int), { frames := 4, cells := 0, slots := 0, locals := 102 }, 0, 0)
def M_X8_growth : xM := (yX8_growth, cX8_growth, 3, (some .int), { frames := 6, cells := 0, slots := 0, locals := 144 }, 0, 0)
def M_X8_laws : xM := (yX8_laws, cX8_laws, 3, (some .int), { frames := 6, cells := 0, slots := 0, locals := 144 }, 0, 0)
def M_X8_law : xM := (yX8_law, cX8_law, 6, (some .int), { frames := 6, cells := 0, slots := 0, locals := 144 }, 0, 0)
def M_X8_fall : xM := (yX8_fall, cX8_fall, 3, (some .int), { frames := 6, cells := 0, slots := 0, locals := 150 }, 0, 0)
def M_X8_fallen : xM := (yX8_fallen, cX8_fallen, 5, (some .int), { frames := 6, cells := 0, slots := 0, locals := 150 }, 0, 0)
def M_X8_isSheet : xM := (yX8_isSheet, cX8_isSheet, 1, (some .boolean), { frames := 0, cells := 0, slots := 0, locals := 0 }, 0, 0)
def M_X8_isSpot : xM := (yX8_isSpot, cX8_isSpot, 1, (some .boolean), { frames := 0, cells := 0, slots := 0, locals := 0 }, 0, 0)
def M_X8_isGoal : xM := (yX8_isGoal, cX8_isGoal, 1, (some .boolean), { frames := 0, cells := 0, slots := 0, locals := 0 }, 0, 0)
def M_X8_markOf : xM := (yX8_markOf, cX8_markOf, 1, (some .int), { frames := 0, cells := 0, slots := 0, locals := 0 }, 0, 0)
def M_X8_tokenOf : xM := (yX8_tokenOf, cX8_tokenOf, 2, (some .int), { frames := 0, cells := 0, slots := 0, locals := 0 }, 0, 0)
def M_X8_forgetAnswers : xM := (yX8_forgetAnswers, cX8_forgetAnswers, 1, none, { frames := 1, cells := 0, slots := 0, locals := 20 }, 0, 0)
def M_X8_hasLostWayBack : xM := (yX8_hasLostWayBack, cX8_hasLostWayBack, 4, (some .boolean), { frames := 1, cells := 0, slots := 0, locals := 21 }, 0, 0)
def M_X8_hasBackStates : xM := (yX8_hasBackStates, cX8_hasBackStates, 3, (some .boolean), { frames := 1, cells := 0, slots := 0, locals := 21 }, 0, 0)
def M_X8_refusalOfGiven : xM := (yX8_refusalOfGiven, cX8_refusalOfGiven, 4, (some .int), { frames := 1, cells := 0, slots := 0, locals := 21 }, 0, 0)
def M_X8_bring : xM := (yX8_bring, cX8_bring, 3, (some .int), { frames := 1, cells := 0, slots := 0, locals := 21 }, 0, 0)
def M_X8_join : xM := (yX8_join, cX8_join, 8, (some .int), { frames := 2, cells := 0, slots := 0, locals := 43 }, 0, 0)
def M_X8_walkDown : xM := (yX8_walkDown, cX8_walkDown, 6, (some .int), { frames := 2, cells := 0, slots := 0, locals := 49 }, 0, 0)
def M_X8_gather : xM := (yX8_gather, cX8_gather, 3, (some .int), { frames := 4, cells := 0, slots := 0, locals := 99 }, 0, 0)
def M_X8_levelOf : xM := (yX8_levelOf, cX8_levelOf, 3, (some .int), { frames := 2, cells := 0, slots := 0, locals := 45 }, 0, 0)
def M_X8_walkFrom : xM := (yX8_walkFrom, cX8_walkFrom, 3, (some .int), { frames := 2, cells := 0, slots := 0, locals := 55 }, 0, 0)
def M_X9_in : xM := (yX9_in, cX9_in, 6, (some .boolean), { frames := 0, cells := 0, slots := 0, locals := 0 }, 0, 0)
def M_X9_isSheet : xM := (yX9_isSheet, cX9_isSheet, 1, (some .boolean), { frames := 1, cells := 0, slots := 0, locals := 25 }, 0, 0)
def M_X9_isSpot : xM := (yX9_isSpot, cX9_isSpot, 1, (some .boolean), { frames := 1, cells := 0, slots := 0, locals := 25 }, 0, 0)
def M_X9_sheet : xM := (yX9_sheet, cX9_sheet, 5, (some .int), { frames := 2, cells := 0, slots := 0, locals := 45 }, 0, 0)
def M_X9_cell : xM := (yX9_cell, cX9_cell, 4, (some .int), { frames := 2, cells := 0, slots := 0, locals := 45 }, 0, 0)
def M_X9_told : xM := (yX9_told, cX9_told, 3, (some .int), { frames := 2, cells := 0, slots := 0, locals := 45 }, 0, 0)
def M_X9_lose : xM := (yX9_lose, cX9_lose, 2, (some .int), { frames := 2, cells := 0, slots := 0, locals := 45 }, 0, 0)
def M_X9_letters : xM := (yX9_letters, cX9_letters, 3, (some .int), { frames := 1, cells := 0, slots := 0, locals := 25 }, 0, 0)
def M_X9_state : xM := (yX9_state, cX9_state, 8, (some .int), { frames := 2, cells := 0, slots := 0, locals := 45 }, 0, 0)
def M_X9_isFair : xM := (yX9_isFair, cX9_isFair, 5, (some .boolean), { frames := 0, cells := 0, slots := 0, locals := 0 }, 0, 0)
def M_X9_isBack : xM := (yX9_isBack, cX9_isBack, 5, (some .boolean), { frames := 1, cells := 0, slots := 0, locals := 24 }, 0, 0)
def M_X9_change : xM := (yX9_change, cX9_change, 9, (some .int), { frames := 2, cells := 0, slots := 0, locals := 48 }, 0, 0)
def M_X9_of : xM := (yX9_of, cX9_of, 4, (some .int), { frames := 2, cells := 0, slots := 0, locals := 48 }, 0, 0)
def M_X9_isWhole : xM := (yX9_isWhole, cX9_isWhole, 4, (some .boolean), { frames := 0, cells := 0, slots := 0, locals := 0 }, 0, 0)
def M_X9_findTokens : xM := (yX9_findTokens, cX9_findTokens, 2, none, { frames := 2, cells := 0, slots := 0, locals := 48 }, 0, 0)
def M_X9_many : xM := (yX9_many, cX9_many, 2, (some .int), { frames := 3, cells := 0, slots := 0, locals := 69 }, 0, 0)
def M_X9_add : xM := (yX9_add, cX9_add, 4, none, { frames := 0, cells := 0, slots := 0, locals := 0 }, 0, 0)
def M_X9_copy : xM := (yX9_copy, cX9_copy, 4, none, { frames := 0, cells := 0, slots := 0, locals := 0 }, 0, 0)
def M_X9_put : xM := (yX9_put, cX9_put, 9, (some .int), { frames := 2, cells := 0, slots := 0, locals := 48 }, 0, 0)
def M_X9_wipe : xM := (yX9_wipe, cX9_wipe, 3, (some .int), { frames := 2, cells := 0, slots := 0, locals := 45 }, 0, 0)
def M_X9_size : xM := (yX9_size, cX9_size, 2, (some .int), { frames := 2, cells := 0, slots := 0, locals := 45 }, 0, 0)
def M_X9_token : xM := (yX9_token, cX9_token, 3, (some .int), { frames := 2, cells := 0, slots := 0, locals := 45 }, 0, 0)
def M_X9_times : xM := (yX9_times, cX9_times, 5, (some .int), { frames := 2, cells := 0, slots := 0, locals := 45 }, 0, 0)
def M_X9_turn : xM := (yX9_turn, cX9_turn, 5, (some .int), { frames := 2, cells := 0, slots := 0, locals := 48 }, 0, 0)
def M_X9_step : xM := (yX9_step, cX9_step, 5, none, { frames := 0, cells := 0, slots := 0, locals := 0 }, 0, 0)
def M_X9_partAt : xM := (yX9_partAt, cX9_partAt, 6, (some .int), { frames := 1, cells := 0, slots := 0, locals := 24 }, 0, 0)
def M_X9_takeRow : xM := (yX9_takeRow, cX9_takeRow, 6, (some .boolean), { frames := 0, cells := 0, slots := 0, locals := 0 }, 0, 0)
def M_X9_rowNumber : xM := (yX9_rowNumber, cX9_rowNumber, 3, (some .int), { frames := 0, cells := 0, slots := 0, locals := 0 }, 0, 0)
def M_X9_rewrite : xM := (yX9_rewrite, cX9_rewrite, 4, none, { frames := 1, cells := 0, slots := 0, locals := 24 }, 0, 0)
def M_X9_act : xM := (yX9_act, cX9_act, 4, (some .int), { frames := 2, cells := 0, slots := 0, locals := 47 }, 0, 0)
def M_X9_partAtRow : xM := (yX9_partAtRow, cX9_partAtRow, 5, none, { frames := 2, cells := 0, slots := 0, locals := 49 }, 0, 0)
def M_X9_part : xM := (yX9_part, cX9_part, 4, (some .int), { frames := 3, cells := 0, slots := 0, locals := 73 }, 0, 0)
def M_X9_findInHeap : xM := (yX9_findInHeap, cX9_findInHeap, 6, (some .int), { frames := 0, cells := 0, slots := 0, locals := 0 }, 0, 0)
def M_X9_toHeap : xM := (yX9_toHeap, cX9_toHeap, 4, (some .int), { frames := 1, cells := 0, slots := 0, locals := 25 }, 0, 0)
def M_X9_fromHeap : xM := (yX9_fromHeap, cX9_fromHeap, 4, none, { frames := 0, cells := 0, slots := 0, locals := 0 }, 0, 0)
def M_X9_grow : xM := (yX9_grow, cX9_grow, 2, (some .boolean), { frames := 2, cells := 0, slots := 0, locals := 49 }, 0, 0)
def M_X9_beginHeap : xM := (yX9_beginHeap, cX9_beginHeap, 1, none, { frames := 0, cells := 0, slots := 0, locals := 0 }, 0, 0)
def M_X9_isSameNow : xM := (yX9_isSameNow, cX9_isSameNow, 5, (some .boolean), { frames := 0, cells := 0, slots := 0, locals := 0 }, 0, 0)
def M_X9_partOnce : xM := (yX9_partOnce, cX9_partOnce, 4, (some .int), { frames := 1, cells := 0, slots := 0, locals := 24 }, 0, 0)
def M_X9_partAll : xM := (yX9_partAll, cX9_partAll, 6, (some .int), { frames := 2, cells := 0, slots := 0, locals := 47 }, 0, 0)
def M_X9_takeTwo : xM := (yX9_takeTwo, cX9_takeTwo, 4, (some .int), { frames := 3, cells := 0, slots := 0, locals := 72 }, 0, 0)
def M_X9_same : xM := (yX9_same, cX9_same, 4, (some .int), { frames := 4, cells := 0, slots := 0, locals := 95 }, 0, 0)
def M_X9_apart : xM := (yX9_apart, cX9_apart, 10, (some .int), { frames := 4, cells := 0, slots := 0, locals := 95 }, 0, 0)
def M_X9_isParted : xM := (yX9_isParted, cX9_isParted, 6, (some .boolean), { frames := 0, cells := 0, slots := 0, locals := 0 }, 0, 0)
def M_X9_heap : xM := (yX9_heap, cX9_heap, 3, (some .int), { frames := 4, cells := 0, slots := 0, locals := 95 }, 0, 0)
def M_X9_least : xM := (yX9_least, cX9_least, 3, (some .int), { frames := 4, cells := 0, slots := 0, locals := 95 }, 0, 0)
def M_X9_rowsOf : xM := (yX9_rowsOf, cX9_rowsOf, 5, (some .int), { frames := 0, cells := 0, slots := 0, locals := 0 }, 0, 0)
def M_X9_rowAt : xM := (yX9_rowAt, cX9_rowAt, 5, none, { frames := 0, cells := 0, slots := 0, locals := 0 }, 0, 0)
def M_X9_placeNow : xM := (yX9_placeNow, cX9_placeNow, 3, (some .int), { frames := 0, cells := 0, slots := 0, locals := 0 }, 0, 0)
def M_X9_findLevel : xM := (yX9_findLevel, cX9_findLevel, 4, none, { frames := 3, cells := 0, slots := 0, locals := 69 }, 0, 0)
def M_X9_isTokenBack : xM := (yX9_isTokenBack, cX9_isTokenBack, 2, (some .boolean), { frames := 2, cells := 0, slots := 0, locals := 48 }, 0, 0)
def M_X9_common : xM := (yX9_common, cX9_common, 10, (some .long), { frames := 0, cells := 0, slots := 0, locals := 0 }, 0, 0)
def M_X9_order : xM := (yX9_order, cX9_order, 10, (some .int), { frames := 3, cells := 0, slots := 0, locals := 69 }, 0, 0)
def M_X9_orbits : xM := (yX9_orbits, cX9_orbits, 6, (some .int), { frames := 4, cells := 0, slots := 0, locals := 92 }, 0, 0)
def M_X9_takeLevel : xM := (yX9_takeLevel, cX9_takeLevel, 2, (some .int), { frames := 4, cells := 0, slots := 0, locals := 92 }, 0, 0)
def M_X9_findFar : xM := (yX9_findFar, cX9_findFar, 6, none, { frames := 0, cells := 0, slots := 0, locals := 0 }, 0, 0)
def M_X9_orbit : xM := (yX9_orbit, cX9_orbit, 5, (some .int), { frames := 5, cells := 0, slots := 0, locals := 113 }, 0, 0)
def M_X9_takeRows : xM := (yX9_takeRows, cX9_takeRows, 4, (some .int), { frames := 5, cells := 0, slots := 0, locals := 113 }, 0, 0)
def M_X9_far : xM := (yX9_far, cX9_far, 4, (some .int), { frames := 6, cells := 0, slots := 0, locals := 136 }, 0, 0)
def M_X9_findFarTo : xM := (yX9_findFarTo, cX9_findFarTo, 5, none, { frames := 0, cells := 0, slots := 0, locals := 0 }, 0, 0)
def M_X9_way : xM := (yX9_way, cX9_way, 9, (some .int), { frames := 7, cells := 0, slots := 0, locals := 159 }, 0, 0)
def M_X9_reach : xM := (yX9_reach, cX9_reach, 5, (some .int), { frames := 5, cells := 0, slots := 0, locals := 113 }, 0, 0)
def M_X9_toGroup : xM := (yX9_toGroup, cX9_toGroup, 6, (some .boolean), { frames := 0, cells := 0, slots := 0, locals := 0 }, 0, 0)
def M_X9_made : xM := (yX9_made, cX9_made, 8, (some .long), { frames := 0, cells := 0, slots := 0, locals := 0 }, 0, 0)
def M_X9_group : xM := (yX9_group, cX9_group, 7, (some .int), { frames := 4, cells := 0, slots := 0, locals := 92 }, 0, 0)
def M_X9_takeShort : xM := (yX9_takeShort, cX9_takeShort, 8, (some .int), { frames := 3, cells := 0, slots := 0, locals := 69 }, 0, 0)
def M_X9_growth : xM := (yX9_growth, cX9_growth, 4, (some .int), { frames := 4, cells := 0, slots := 0, locals := 96 }, 0, 0)
def M_X9_findLaw : xM := (yX9_findLaw, cX9_findLaw, 6, (some .int), { frames := 3, cells := 0, slots := 0, locals := 72 }, 0, 0)
def M_X9_laws : xM := (yX9_laws, cX9_laws, 3, (some .int), { frames := 4, cells := 0, slots := 0, locals := 97 }, 0, 0)
def M_X9_law : xM := (yX9_law, cX9_law, 6, (some .int), { frames := 4, cells := 0, slots := 0, locals := 97 }, 0, 0)
def M_X9_falls : xM := (yX9_falls, cX9_falls, 5, (some .boolean), { frames := 3, cells := 0, slots := 0, locals := 72 }, 0, 0)
def M_X9_beginFall : xM := (yX9_beginFall, cX9_beginFall, 3, (some .boolean), { frames := 3, cells := 0, slots := 0, locals := 72 }, 0, 0)
def M_X9_fallsAll : xM := (yX9_fallsAll, cX9_fallsAll, 6, (some .boolean), { frames := 4, cells := 0, slots := 0, locals := 96 }, 0, 0)
def M_X9_fall : xM := (yX9_fall, cX9_fall, 2, (some .int), { frames := 5, cells := 0, slots := 0, locals := 121 }, 0, 0)
def M_X9_fallen : xM := (yX9_fallen, cX9_fallen, 5, (some .int), { frames := 6, cells := 0, slots := 0, locals := 142 }, 0, 0)
def M_J9_max_7cf53 : xM := (yJ9_max_7cf53, cJ9_max_7cf53, 2, (some .int), { frames := 0, cells := 0, slots := 0, locals := 0 }, 0, 0)
def M_J9_max_f86c9 : xM := (yJ9_max_f86c9, cJ9_max_f86c9, 4, (some .long), { frames := 0, cells := 0, slots := 0, locals := 0 }, 0, 0)
def M_J9_min_7cf53 : xM := (yJ9_min_7cf53, cJ9_min_7cf53, 2, (some .int), { frames := 0, cells := 0, slots := 0, locals := 0 }, 0, 0)
def M_J7_fill_53178 : xM := (yJ7_fill_53178, cJ7_fill_53178, 4, none, { frames := 0, cells := 0, slots := 0, locals := 0 }, 0, 0)
def xcf (F' : xM) (n : Nat) : Prop := Cond.code F'.1 F'.2.1 F'.2.2.1 F'.2.2.2.1 ∈ xw ∧ Cond.initialized F'.1.cls ∈ xw ∧ (F'.1.cls ≠ "java/lang/invoke/MethodHandle" ∧ F'.1.cls ≠ "java/lang/invoke/VarHandle" ∧ (parseMethodDescriptor F'.1.desc).map (fun d => d.parameters.length) = some n) ∧ F'.2.2.2.2.1.cells = 0 ∧ F'.2.2.2.2.1.slots = 0
def xcfV (F' : xM) (n : Nat) : Prop := xcf F' n ∧ Cond.instanceMethod F'.1 ∈ xw ∧ Cond.selects F'.1.cls F'.1 F'.1 ∈ xw
def xcfS (F' : xM) (n : Nat) : Prop := xcf F' n ∧ Cond.static F'.1 ∈ xw
abbrev xrm (F F' : xM) : Prop := (F'.2.2.2.2.1.frames + 1 ≤ F.2.2.2.2.1.frames ∧ 8 + (F'.2.2.1 + 11) + F'.2.2.2.2.1.locals ≤ F.2.2.2.2.1.locals) ∧ F.2.2.2.2.2.1 ≤ F.2.2.2.2.1.cells ∧ F.2.2.2.2.2.2 ≤ F.2.2.2.2.1.slots
theorem xcb_of {F F' : xM} {n : Nat} (h : xcf F' n) (hR : xrm F F') : xcb F F' n := ⟨h.1, h.2.1, h.2.2.1, hR.1, h.2.2.2.1, h.2.2.2.2, hR.2.1, hR.2.2⟩
theorem xcv_of {F F' : xM} {ix n : Nat} (h : xcfV F' n) (hl : Cond.methodLink F.1.cls ix F'.1 ∈ xw) (hR : xrm F F') : xcv F F' ix n := ⟨xcb_of h.1 hR, hl, h.2.1, h.2.2⟩
theorem xcs_of {F F' : xM} {ix n : Nat} (h : xcfS F' n) (hl : Cond.methodLink F.1.cls ix F'.1 ∈ xw) (hR : xrm F F') : xcs F F' ix n := ⟨xcb_of h.1 hR, hl, h.2⟩
theorem wi_8 : Cond.initialized RX8 ∈ xw := xt 1 (by decide +kernel) rfl
theorem wi_7 : Cond.initialized RX7 ∈ xw := xt 2 (by decide +kernel) rfl
theorem wi_3 : Cond.initialized RX3 ∈ xw := xt 3 (by decide +kernel) rfl
theorem wi_2 : Cond.initialized RX2 ∈ xw := xt 4 (by decide +kernel) rfl
theorem wi_1 : Cond.initialized RX1 ∈ xw := xt 5 (by decide +kernel) rfl
theorem wi_0 : Cond.initialized RX0 ∈ xw := xt 6 (by decide +kernel) rfl
theorem wi_4 : Cond.initialized RX4 ∈ xw := xt 7 (by decide +kernel) rfl
theorem wi_6 : Cond.initialized RX6 ∈ xw := xt 8 (by decide +kernel) rfl
theorem wi_5 : Cond.initialized RX5 ∈ xw := xt 9 (by decide +kernel) rfl
theorem wi_9 : Cond.initialized RX9 ∈ xw := xt 10 (by decide +kernel) rfl
theorem wi_J7 : Cond.initialized RJ7 ∈ xw := xt 11 (by decide +kernel) rfl
theorem wi_J9 : Cond.initialized RJ9 ∈ xw := xt 13 (by decide +kernel) rfl
theorem cf_X0_clear : xcfV M_X0_clear 0 := ⟨⟨xt 565 (by decide +kernel) rfl, wi_0, ⟨by decide, by decide, by decide +kernel⟩, rfl, rfl⟩, xt 563 (by decide +kernel) rfl, xt 564 (by decide +kernel) rfl⟩
theorem cf_X0_find : xcfV M_X0_find 2 := ⟨⟨xt 612 (by decide +kernel) rfl, wi_0, ⟨by decide, by decide, by decide +kernel⟩, rfl, rfl⟩, xt 610 (by decide +kernel) rfl, xt 611 (by decide +kernel) rfl⟩
theorem cf_X0_add : xcfV M_X0_add 2 := ⟨⟨xt 575 (by decide +kernel) rfl, wi_0, ⟨by decide, by decide, by decide +kernel⟩, rfl, rfl⟩, xt 573 (by decide +kernel) rfl, xt 574 (by decide +kernel) rfl⟩
theorem cf_X0_slotOf : xcfV M_X0_slotOf 2 := ⟨⟨xt 579 (by decide +kernel) rfl, wi_0, ⟨by decide, by decide, by decide +kernel⟩, rfl, rfl⟩, xt 578 (by decide +kernel) rfl, xp (by decide +kernel) rfl⟩
theorem cf_X1_begin : xcfV M_X1_begin 1 := ⟨⟨xt 740 (by decide +kernel) rfl, wi_1, ⟨by decide, by decide, by decide +kernel⟩, rfl, rfl⟩, xt 738 (by decide +kernel) rfl, xt 739 (by decide +kernel) rfl⟩
theorem cf_X1_bringIn : xcfV M_X1_bringIn 1 := ⟨⟨xt 750 (by decide +kernel) rfl, wi_1, ⟨by decide, by decide, by decide +kernel⟩, rfl, rfl⟩, xt 748 (by decide +kernel) rfl, xt 749 (by decide +kernel) rfl⟩
theorem cf_X1_addBlock : xcfV M_X1_addBlock 2 := ⟨⟨xt 761 (by decide +kernel) rfl, wi_1, ⟨by decide, by decide, by decide +kernel⟩, rfl, rfl⟩, xt 760 (by decide +kernel) rfl, xp (by decide +kernel) rfl⟩
theorem cf_X1_behind : xcfV M_X1_behind 2 := ⟨⟨xt 756 (by decide +kernel) rfl, wi_1, ⟨by decide, by decide, by decide +kernel⟩, rfl, rfl⟩, xt 755 (by decide +kernel) rfl, xp (by decide +kernel) rfl⟩
theorem cf_X2_forget : xcfV M_X2_forget 0 := ⟨⟨xt 404 (by decide +kernel) rfl, wi_2, ⟨by decide, by decide, by decide +kernel⟩, rfl, rfl⟩, xt 402 (by decide +kernel) rfl, xt 403 (by decide +kernel) rfl⟩
theorem cf_X2_forgetRows : xcfV M_X2_forgetRows 0 := ⟨⟨xt 668 (by decide +kernel) rfl, wi_2, ⟨by decide, by decide, by decide +kernel⟩, rfl, rfl⟩, xt 666 (by decide +kernel) rfl, xt 667 (by decide +kernel) rfl⟩
theorem cf_X2_build : xcfV M_X2_build 2 := ⟨⟨xt 656 (by decide +kernel) rfl, wi_2, ⟨by decide, by decide, by decide +kernel⟩, rfl, rfl⟩, xt 654 (by decide +kernel) rfl, xt 655 (by decide +kernel) rfl⟩
theorem cf_X2_buildBranch : xcfV M_X2_buildBranch 4 := ⟨⟨xt 660 (by decide +kernel) rfl, wi_2, ⟨by decide, by decide, by decide +kernel⟩, rfl, rfl⟩, xt 659 (by decide +kernel) rfl, xp (by decide +kernel) rfl⟩
theorem cf_X2_spread : xcfV M_X2_spread 4 := ⟨⟨xt 696 (by decide +kernel) rfl, wi_2, ⟨by decide, by decide, by decide +kernel⟩, rfl, rfl⟩, xt 694 (by decide +kernel) rfl, xt 695 (by decide +kernel) rfl⟩
theorem cf_X2_countBackOrbits : xcfV M_X2_countBackOrbits 2 := ⟨⟨xt 692 (by decide +kernel) rfl, wi_2, ⟨by decide, by decide, by decide +kernel⟩, rfl, rfl⟩, xt 690 (by decide +kernel) rfl, xt 691 (by decide +kernel) rfl⟩
theorem cf_X2_markOfMove : xcfV M_X2_markOfMove 3 := ⟨⟨xt 728 (by decide +kernel) rfl, wi_2, ⟨by decide, by decide, by decide +kernel⟩, rfl, rfl⟩, xt 726 (by decide +kernel) rfl, xt 727 (by decide +kernel) rfl⟩
theorem cf_X2_roundsToRest : xcfV M_X2_roundsToRest 2 := ⟨⟨xt 664 (by decide +kernel) rfl, wi_2, ⟨by decide, by decide, by decide +kernel⟩, rfl, rfl⟩, xt 662 (by decide +kernel) rfl, xt 663 (by decide +kernel) rfl⟩
theorem cf_X2_ringLength : xcfV M_X2_ringLength 3 := ⟨⟨xt 673 (by decide +kernel) rfl, wi_2, ⟨by decide, by decide, by decide +kernel⟩, rfl, rfl⟩, xt 672 (by decide +kernel) rfl, xp (by decide +kernel) rfl⟩
theorem cf_X2_commonDivisor : xcfS M_X2_commonDivisor 2 := ⟨⟨xt 680 (by decide +kernel) rfl, wi_2, ⟨by decide, by decide, by decide +kernel⟩, rfl, rfl⟩, xt 679 (by decide +kernel) rfl⟩
theorem cf_X2_packed : xcfV M_X2_packed 2 := ⟨⟨xt 746 (by decide +kernel) rfl, wi_2, ⟨by decide, by decide, by decide +kernel⟩, rfl, rfl⟩, xt 744 (by decide +kernel) rfl, xt 745 (by decide +kernel) rfl⟩
theorem cf_X3_restart : xcfV M_X3_restart 1 := ⟨⟨xt 372 (by decide +kernel) rfl, wi_3, ⟨by decide, by decide, by decide +kernel⟩, rfl, rfl⟩, xt 370 (by decide +kernel) rfl, xt 371 (by decide +kernel) rfl⟩
theorem cf_X3_isState : xcfV M_X3_isState 1 := ⟨⟨xt 443 (by decide +kernel) rfl, wi_3, ⟨by decide, by decide, by decide +kernel⟩, rfl, rfl⟩, xt 441 (by decide +kernel) rfl, xt 442 (by decide +kernel) rfl⟩
theorem cf_X3_isLetter : xcfV M_X3_isLetter 1 := ⟨⟨xt 428 (by decide +kernel) rfl, wi_3, ⟨by decide, by decide, by decide +kernel⟩, rfl, rfl⟩, xt 426 (by decide +kernel) rfl, xt 427 (by decide +kernel) rfl⟩
theorem cf_X3_isBack : xcfV M_X3_isBack 1 := ⟨⟨xt 392 (by decide +kernel) rfl, wi_3, ⟨by decide, by decide, by decide +kernel⟩, rfl, rfl⟩, xt 390 (by decide +kernel) rfl, xt 391 (by decide +kernel) rfl⟩
theorem cf_X3_canRead : xcfV M_X3_canRead 2 := ⟨⟨xt 420 (by decide +kernel) rfl, wi_3, ⟨by decide, by decide, by decide +kernel⟩, rfl, rfl⟩, xt 418 (by decide +kernel) rfl, xt 419 (by decide +kernel) rfl⟩
theorem cf_X3_read : xcfV M_X3_read 2 := ⟨⟨xt 435 (by decide +kernel) rfl, wi_3, ⟨by decide, by decide, by decide +kernel⟩, rfl, rfl⟩, xt 433 (by decide +kernel) rfl, xt 434 (by decide +kernel) rfl⟩
theorem cf_X3_rewire : xcfV M_X3_rewire 4 := ⟨⟨xt 449 (by decide +kernel) rfl, wi_3, ⟨by decide, by decide, by decide +kernel⟩, rfl, rfl⟩, xt 447 (by decide +kernel) rfl, xt 448 (by decide +kernel) rfl⟩
theorem cf_X3_refresh : xcfV M_X3_refresh 0 := ⟨⟨xt 376 (by decide +kernel) rfl, wi_3, ⟨by decide, by decide, by decide +kernel⟩, rfl, rfl⟩, xt 375 (by decide +kernel) rfl, xp (by decide +kernel) rfl⟩
theorem cf_X3_goals : xcfV M_X3_goals 1 := ⟨⟨xt 380 (by decide +kernel) rfl, wi_3, ⟨by decide, by decide, by decide +kernel⟩, rfl, rfl⟩, xt 379 (by decide +kernel) rfl, xp (by decide +kernel) rfl⟩
theorem cf_X3_writesUnlike : xcfV M_X3_writesUnlike 1 := ⟨⟨xt 384 (by decide +kernel) rfl, wi_3, ⟨by decide, by decide, by decide +kernel⟩, rfl, rfl⟩, xt 383 (by decide +kernel) rfl, xp (by decide +kernel) rfl⟩
theorem cf_X3_listMarks : xcfV M_X3_listMarks 0 := ⟨⟨xt 388 (by decide +kernel) rfl, wi_3, ⟨by decide, by decide, by decide +kernel⟩, rfl, rfl⟩, xt 387 (by decide +kernel) rfl, xp (by decide +kernel) rfl⟩
theorem cf_X3_wireMarks : xcfV M_X3_wireMarks 2 := ⟨⟨xt 396 (by decide +kernel) rfl, wi_3, ⟨by decide, by decide, by decide +kernel⟩, rfl, rfl⟩, xt 395 (by decide +kernel) rfl, xp (by decide +kernel) rfl⟩
theorem cf_X3_rowLength : xcfV M_X3_rowLength 1 := ⟨⟨xt 531 (by decide +kernel) rfl, wi_3, ⟨by decide, by decide, by decide +kernel⟩, rfl, rfl⟩, xt 529 (by decide +kernel) rfl, xt 530 (by decide +kernel) rfl⟩
theorem cf_X3_hasLetters : xcfV M_X3_hasLetters 2 := ⟨⟨xt 535 (by decide +kernel) rfl, wi_3, ⟨by decide, by decide, by decide +kernel⟩, rfl, rfl⟩, xt 534 (by decide +kernel) rfl, xp (by decide +kernel) rfl⟩
theorem cf_X3_rowIndex : xcfV M_X3_rowIndex 2 := ⟨⟨xt 714 (by decide +kernel) rfl, wi_3, ⟨by decide, by decide, by decide +kernel⟩, rfl, rfl⟩, xt 712 (by decide +kernel) rfl, xt 713 (by decide +kernel) rfl⟩
theorem cf_X3_power : xcfV M_X3_power 2 := ⟨⟨xt 652 (by decide +kernel) rfl, wi_3, ⟨by decide, by decide, by decide +kernel⟩, rfl, rfl⟩, xt 650 (by decide +kernel) rfl, xt 651 (by decide +kernel) rfl⟩
theorem cf_X4_reset : xcfV M_X4_reset 0 := ⟨⟨xt 561 (by decide +kernel) rfl, wi_4, ⟨by decide, by decide, by decide +kernel⟩, rfl, rfl⟩, xt 559 (by decide +kernel) rfl, xt 560 (by decide +kernel) rfl⟩
theorem cf_X4_indexOf : xcfV M_X4_indexOf 1 := ⟨⟨xt 608 (by decide +kernel) rfl, wi_4, ⟨by decide, by decide, by decide +kernel⟩, rfl, rfl⟩, xt 606 (by decide +kernel) rfl, xt 607 (by decide +kernel) rfl⟩
theorem cf_X4_load : xcfV M_X4_load 2 := ⟨⟨xt 588 (by decide +kernel) rfl, wi_4, ⟨by decide, by decide, by decide +kernel⟩, rfl, rfl⟩, xt 586 (by decide +kernel) rfl, xt 587 (by decide +kernel) rfl⟩
theorem cf_X4_enter : xcfV M_X4_enter 1 := ⟨⟨xt 783 (by decide +kernel) rfl, wi_4, ⟨by decide, by decide, by decide +kernel⟩, rfl, rfl⟩, xt 781 (by decide +kernel) rfl, xt 782 (by decide +kernel) rfl⟩
theorem cf_X4_take : xcfV M_X4_take 2 := ⟨⟨xt 571 (by decide +kernel) rfl, wi_4, ⟨by decide, by decide, by decide +kernel⟩, rfl, rfl⟩, xt 569 (by decide +kernel) rfl, xt 570 (by decide +kernel) rfl⟩
theorem cf_X4_followParts : xcfV M_X4_followParts 1 := ⟨⟨xt 584 (by decide +kernel) rfl, wi_4, ⟨by decide, by decide, by decide +kernel⟩, rfl, rfl⟩, xt 582 (by decide +kernel) rfl, xt 583 (by decide +kernel) rfl⟩
theorem cf_X4_classify : xcfV M_X4_classify 0 := ⟨⟨xt 593 (by decide +kernel) rfl, wi_4, ⟨by decide, by decide, by decide +kernel⟩, rfl, rfl⟩, xt 591 (by decide +kernel) rfl, xt 592 (by decide +kernel) rfl⟩
theorem cf_X4_refine : xcfV M_X4_refine 0 := ⟨⟨xt 604 (by decide +kernel) rfl, wi_4, ⟨by decide, by decide, by decide +kernel⟩, rfl, rfl⟩, xt 603 (by decide +kernel) rfl, xp (by decide +kernel) rfl⟩
theorem cf_X4_keepRound : xcfV M_X4_keepRound 0 := ⟨⟨xt 597 (by decide +kernel) rfl, wi_4, ⟨by decide, by decide, by decide +kernel⟩, rfl, rfl⟩, xt 596 (by decide +kernel) rfl, xp (by decide +kernel) rfl⟩
theorem cf_X4_areAlike : xcfV M_X4_areAlike 2 := ⟨⟨xt 616 (by decide +kernel) rfl, wi_4, ⟨by decide, by decide, by decide +kernel⟩, rfl, rfl⟩, xt 614 (by decide +kernel) rfl, xt 615 (by decide +kernel) rfl⟩
theorem cf_X4_arePartedBy : xcfV M_X4_arePartedBy 3 := ⟨⟨xt 628 (by decide +kernel) rfl, wi_4, ⟨by decide, by decide, by decide +kernel⟩, rfl, rfl⟩, xt 627 (by decide +kernel) rfl, xp (by decide +kernel) rfl⟩
theorem cf_X4_partingRow : xcfV M_X4_partingRow 2 := ⟨⟨xt 624 (by decide +kernel) rfl, wi_4, ⟨by decide, by decide, by decide +kernel⟩, rfl, rfl⟩, xt 622 (by decide +kernel) rfl, xt 623 (by decide +kernel) rfl⟩
theorem cf_X4_firstPartingLetter : xcfV M_X4_firstPartingLetter 3 := ⟨⟨xt 632 (by decide +kernel) rfl, wi_4, ⟨by decide, by decide, by decide +kernel⟩, rfl, rfl⟩, xt 631 (by decide +kernel) rfl, xp (by decide +kernel) rfl⟩
theorem cf_X4_firstUnlikeLetter : xcfV M_X4_firstUnlikeLetter 1 := ⟨⟨xt 636 (by decide +kernel) rfl, wi_4, ⟨by decide, by decide, by decide +kernel⟩, rfl, rfl⟩, xt 635 (by decide +kernel) rfl, xp (by decide +kernel) rfl⟩
theorem cf_X5_lay : xcfV M_X5_lay 2 := ⟨⟨xt 340 (by decide +kernel) rfl, wi_5, ⟨by decide, by decide, by decide +kernel⟩, rfl, rfl⟩, xt 338 (by decide +kernel) rfl, xt 339 (by decide +kernel) rfl⟩
theorem cf_X5_hasNumber : xcfV M_X5_hasNumber 1 := ⟨⟨xt 351 (by decide +kernel) rfl, wi_5, ⟨by decide, by decide, by decide +kernel⟩, rfl, rfl⟩, xt 349 (by decide +kernel) rfl, xt 350 (by decide +kernel) rfl⟩
theorem cf_X5_hasPair : xcfV M_X5_hasPair 2 := ⟨⟨xt 424 (by decide +kernel) rfl, wi_5, ⟨by decide, by decide, by decide +kernel⟩, rfl, rfl⟩, xt 422 (by decide +kernel) rfl, xt 423 (by decide +kernel) rfl⟩
theorem cf_X5_write : xcfV M_X5_write 2 := ⟨⟨xt 355 (by decide +kernel) rfl, wi_5, ⟨by decide, by decide, by decide +kernel⟩, rfl, rfl⟩, xt 353 (by decide +kernel) rfl, xt 354 (by decide +kernel) rfl⟩
theorem cf_X6_forget : xcfV M_X6_forget 0 := ⟨⟨xt 408 (by decide +kernel) rfl, wi_6, ⟨by decide, by decide, by decide +kernel⟩, rfl, rfl⟩, xt 406 (by decide +kernel) rfl, xt 407 (by decide +kernel) rfl⟩
theorem cf_X6_gatherWithin : xcfV M_X6_gatherWithin 2 := ⟨⟨xt 769 (by decide +kernel) rfl, wi_6, ⟨by decide, by decide, by decide +kernel⟩, rfl, rfl⟩, xt 767 (by decide +kernel) rfl, xt 768 (by decide +kernel) rfl⟩
theorem cf_X6_enterWithin : xcfV M_X6_enterWithin 2 := ⟨⟨xt 773 (by decide +kernel) rfl, wi_6, ⟨by decide, by decide, by decide +kernel⟩, rfl, rfl⟩, xt 772 (by decide +kernel) rfl, xp (by decide +kernel) rfl⟩
theorem cf_X6_beginWithEmpty : xcfV M_X6_beginWithEmpty 0 := ⟨⟨xt 777 (by decide +kernel) rfl, wi_6, ⟨by decide, by decide, by decide +kernel⟩, rfl, rfl⟩, xt 776 (by decide +kernel) rfl, xp (by decide +kernel) rfl⟩
theorem cf_X6_extend : xcfV M_X6_extend 2 := ⟨⟨xt 787 (by decide +kernel) rfl, wi_6, ⟨by decide, by decide, by decide +kernel⟩, rfl, rfl⟩, xt 786 (by decide +kernel) rfl, xp (by decide +kernel) rfl⟩
theorem cf_X6_isLaw : xcfV M_X6_isLaw 1 := ⟨⟨xt 803 (by decide +kernel) rfl, wi_6, ⟨by decide, by decide, by decide +kernel⟩, rfl, rfl⟩, xt 802 (by decide +kernel) rfl, xp (by decide +kernel) rfl⟩
theorem cf_X6_countLaws : xcfV M_X6_countLaws 0 := ⟨⟨xt 799 (by decide +kernel) rfl, wi_6, ⟨by decide, by decide, by decide +kernel⟩, rfl, rfl⟩, xt 797 (by decide +kernel) rfl, xt 798 (by decide +kernel) rfl⟩
theorem cf_X6_findLaw : xcfV M_X6_findLaw 1 := ⟨⟨xt 812 (by decide +kernel) rfl, wi_6, ⟨by decide, by decide, by decide +kernel⟩, rfl, rfl⟩, xt 810 (by decide +kernel) rfl, xt 811 (by decide +kernel) rfl⟩
theorem cf_X6_gatherFallen : xcfV M_X6_gatherFallen 2 := ⟨⟨xt 821 (by decide +kernel) rfl, wi_6, ⟨by decide, by decide, by decide +kernel⟩, rfl, rfl⟩, xt 819 (by decide +kernel) rfl, xt 820 (by decide +kernel) rfl⟩
theorem cf_X6_lookAtParts : xcfV M_X6_lookAtParts 3 := ⟨⟨xt 828 (by decide +kernel) rfl, wi_6, ⟨by decide, by decide, by decide +kernel⟩, rfl, rfl⟩, xt 827 (by decide +kernel) rfl, xp (by decide +kernel) rfl⟩
theorem cf_X6_addUnlike : xcfV M_X6_addUnlike 0 := ⟨⟨xt 835 (by decide +kernel) rfl, wi_6, ⟨by decide, by decide, by decide +kernel⟩, rfl, rfl⟩, xt 834 (by decide +kernel) rfl, xp (by decide +kernel) rfl⟩
theorem cf_X7_empty : xcfV M_X7_empty 0 := ⟨⟨xt 412 (by decide +kernel) rfl, wi_7, ⟨by decide, by decide, by decide +kernel⟩, rfl, rfl⟩, xt 410 (by decide +kernel) rfl, xt 411 (by decide +kernel) rfl⟩
theorem cf_X7_copy : xcfV M_X7_copy 1 := ⟨⟨xt 492 (by decide +kernel) rfl, wi_7, ⟨by decide, by decide, by decide +kernel⟩, rfl, rfl⟩, xt 490 (by decide +kernel) rfl, xt 491 (by decide +kernel) rfl⟩
theorem cf_X7_mark : xcfV M_X7_mark 1 := ⟨⟨xt 457 (by decide +kernel) rfl, wi_7, ⟨by decide, by decide, by decide +kernel⟩, rfl, rfl⟩, xt 455 (by decide +kernel) rfl, xt 456 (by decide +kernel) rfl⟩
theorem cf_X7_push : xcfV M_X7_push 1 := ⟨⟨xt 484 (by decide +kernel) rfl, wi_7, ⟨by decide, by decide, by decide +kernel⟩, rfl, rfl⟩, xt 482 (by decide +kernel) rfl, xt 483 (by decide +kernel) rfl⟩
theorem cf_X7_descend : xcfV M_X7_descend 2 := ⟨⟨xt 543 (by decide +kernel) rfl, wi_7, ⟨by decide, by decide, by decide +kernel⟩, rfl, rfl⟩, xt 541 (by decide +kernel) rfl, xt 542 (by decide +kernel) rfl⟩
theorem cf_X8_sheet : xcfV M_X8_sheet 3 := ⟨⟨xt 333 (by decide +kernel) rfl, wi_8, ⟨by decide, by decide, by decide +kernel⟩, rfl, rfl⟩, xt 331 (by decide +kernel) rfl, xt 332 (by decide +kernel) rfl⟩
theorem cf_X8_cell : xcfV M_X8_cell 3 := ⟨⟨xt 347 (by decide +kernel) rfl, wi_8, ⟨by decide, by decide, by decide +kernel⟩, rfl, rfl⟩, xt 345 (by decide +kernel) rfl, xt 346 (by decide +kernel) rfl⟩
theorem cf_X8_told : xcfV M_X8_told 2 := ⟨⟨xt 359 (by decide +kernel) rfl, wi_8, ⟨by decide, by decide, by decide +kernel⟩, rfl, rfl⟩, xt 357 (by decide +kernel) rfl, xt 358 (by decide +kernel) rfl⟩
theorem cf_X8_lose : xcfV M_X8_lose 1 := ⟨⟨xt 364 (by decide +kernel) rfl, wi_8, ⟨by decide, by decide, by decide +kernel⟩, rfl, rfl⟩, xt 362 (by decide +kernel) rfl, xt 363 (by decide +kernel) rfl⟩
theorem cf_X8_letters : xcfV M_X8_letters 1 := ⟨⟨xt 368 (by decide +kernel) rfl, wi_8, ⟨by decide, by decide, by decide +kernel⟩, rfl, rfl⟩, xt 366 (by decide +kernel) rfl, xt 367 (by decide +kernel) rfl⟩
theorem cf_X8_state : xcfV M_X8_state 2 := ⟨⟨xt 416 (by decide +kernel) rfl, wi_8, ⟨by decide, by decide, by decide +kernel⟩, rfl, rfl⟩, xt 414 (by decide +kernel) rfl, xt 415 (by decide +kernel) rfl⟩
theorem cf_X8_change : xcfV M_X8_change 4 := ⟨⟨xt 439 (by decide +kernel) rfl, wi_8, ⟨by decide, by decide, by decide +kernel⟩, rfl, rfl⟩, xt 437 (by decide +kernel) rfl, xt 438 (by decide +kernel) rfl⟩
theorem cf_X8_of : xcfV M_X8_of 3 := ⟨⟨xt 462 (by decide +kernel) rfl, wi_8, ⟨by decide, by decide, by decide +kernel⟩, rfl, rfl⟩, xt 460 (by decide +kernel) rfl, xt 461 (by decide +kernel) rfl⟩
theorem cf_X8_many : xcfV M_X8_many 1 := ⟨⟨xt 466 (by decide +kernel) rfl, wi_8, ⟨by decide, by decide, by decide +kernel⟩, rfl, rfl⟩, xt 464 (by decide +kernel) rfl, xt 465 (by decide +kernel) rfl⟩
theorem cf_X8_put : xcfV M_X8_put 5 := ⟨⟨xt 470 (by decide +kernel) rfl, wi_8, ⟨by decide, by decide, by decide +kernel⟩, rfl, rfl⟩, xt 468 (by decide +kernel) rfl, xt 469 (by decide +kernel) rfl⟩
theorem cf_X8_wipe : xcfV M_X8_wipe 1 := ⟨⟨xt 500 (by decide +kernel) rfl, wi_8, ⟨by decide, by decide, by decide +kernel⟩, rfl, rfl⟩, xt 498 (by decide +kernel) rfl, xt 499 (by decide +kernel) rfl⟩
theorem cf_X8_size : xcfV M_X8_size 1 := ⟨⟨xt 504 (by decide +kernel) rfl, wi_8, ⟨by decide, by decide, by decide +kernel⟩, rfl, rfl⟩, xt 502 (by decide +kernel) rfl, xt 503 (by decide +kernel) rfl⟩
theorem cf_X8_token : xcfV M_X8_token 2 := ⟨⟨xt 508 (by decide +kernel) rfl, wi_8, ⟨by decide, by decide, by decide +kernel⟩, rfl, rfl⟩, xt 506 (by decide +kernel) rfl, xt 507 (by decide +kernel) rfl⟩
theorem cf_X8_times : xcfV M_X8_times 3 := ⟨⟨xt 515 (by decide +kernel) rfl, wi_8, ⟨by decide, by decide, by decide +kernel⟩, rfl, rfl⟩, xt 513 (by decide +kernel) rfl, xt 514 (by decide +kernel) rfl⟩
theorem cf_X8_turn : xcfV M_X8_turn 2 := ⟨⟨xt 519 (by decide +kernel) rfl, wi_8, ⟨by decide, by decide, by decide +kernel⟩, rfl, rfl⟩, xt 517 (by decide +kernel) rfl, xt 518 (by decide +kernel) rfl⟩
theorem cf_X8_act : xcfV M_X8_act 2 := ⟨⟨xt 527 (by decide +kernel) rfl, wi_8, ⟨by decide, by decide, by decide +kernel⟩, rfl, rfl⟩, xt 525 (by decide +kernel) rfl, xt 526 (by decide +kernel) rfl⟩
theorem cf_X8_part : xcfV M_X8_part 3 := ⟨⟨xt 549 (by decide +kernel) rfl, wi_8, ⟨by decide, by decide, by decide +kernel⟩, rfl, rfl⟩, xt 547 (by decide +kernel) rfl, xt 548 (by decide +kernel) rfl⟩
theorem cf_X8_same : xcfV M_X8_same 2 := ⟨⟨xt 553 (by decide +kernel) rfl, wi_8, ⟨by decide, by decide, by decide +kernel⟩, rfl, rfl⟩, xt 551 (by decide +kernel) rfl, xt 552 (by decide +kernel) rfl⟩
theorem cf_X8_apart : xcfV M_X8_apart 2 := ⟨⟨xt 620 (by decide +kernel) rfl, wi_8, ⟨by decide, by decide, by decide +kernel⟩, rfl, rfl⟩, xt 618 (by decide +kernel) rfl, xt 619 (by decide +kernel) rfl⟩
theorem cf_X8_heap : xcfV M_X8_heap 1 := ⟨⟨xt 640 (by decide +kernel) rfl, wi_8, ⟨by decide, by decide, by decide +kernel⟩, rfl, rfl⟩, xt 638 (by decide +kernel) rfl, xt 639 (by decide +kernel) rfl⟩
theorem cf_X8_least : xcfV M_X8_least 1 := ⟨⟨xt 644 (by decide +kernel) rfl, wi_8, ⟨by decide, by decide, by decide +kernel⟩, rfl, rfl⟩, xt 642 (by decide +kernel) rfl, xt 643 (by decide +kernel) rfl⟩
theorem cf_X8_order : xcfV M_X8_order 2 := ⟨⟨xt 648 (by decide +kernel) rfl, wi_8, ⟨by decide, by decide, by decide +kernel⟩, rfl, rfl⟩, xt 646 (by decide +kernel) rfl, xt 647 (by decide +kernel) rfl⟩
theorem cf_X8_orbits : xcfV M_X8_orbits 1 := ⟨⟨xt 688 (by decide +kernel) rfl, wi_8, ⟨by decide, by decide, by decide +kernel⟩, rfl, rfl⟩, xt 686 (by decide +kernel) rfl, xt 687 (by decide +kernel) rfl⟩
theorem cf_X8_orbit : xcfV M_X8_orbit 1 := ⟨⟨xt 701 (by decide +kernel) rfl, wi_8, ⟨by decide, by decide, by decide +kernel⟩, rfl, rfl⟩, xt 699 (by decide +kernel) rfl, xt 700 (by decide +kernel) rfl⟩
theorem cf_X8_far : xcfV M_X8_far 2 := ⟨⟨xt 719 (by decide +kernel) rfl, wi_8, ⟨by decide, by decide, by decide +kernel⟩, rfl, rfl⟩, xt 717 (by decide +kernel) rfl, xt 718 (by decide +kernel) rfl⟩
theorem cf_X8_way : xcfV M_X8_way 3 := ⟨⟨xt 723 (by decide +kernel) rfl, wi_8, ⟨by decide, by decide, by decide +kernel⟩, rfl, rfl⟩, xt 721 (by decide +kernel) rfl, xt 722 (by decide +kernel) rfl⟩
theorem cf_X8_reach : xcfV M_X8_reach 1 := ⟨⟨xt 732 (by decide +kernel) rfl, wi_8, ⟨by decide, by decide, by decide +kernel⟩, rfl, rfl⟩, xt 730 (by decide +kernel) rfl, xt 731 (by decide +kernel) rfl⟩
theorem cf_X8_group : xcfV M_X8_group 1 := ⟨⟨xt 736 (by decide +kernel) rfl, wi_8, ⟨by decide, by decide, by decide +kernel⟩, rfl, rfl⟩, xt 734 (by decide +kernel) rfl, xt 735 (by decide +kernel) rfl⟩
theorem cf_X8_growth : xcfV M_X8_growth 1 := ⟨⟨xt 765 (by decide +kernel) rfl, wi_8, ⟨by decide, by decide, by decide +kernel⟩, rfl, rfl⟩, xt 763 (by decide +kernel) rfl, xt 764 (by decide +kernel) rfl⟩
theorem cf_X8_laws : xcfV M_X8_laws 1 := ⟨⟨xt 795 (by decide +kernel) rfl, wi_8, ⟨by decide, by decide, by decide +kernel⟩, rfl, rfl⟩, xt 793 (by decide +kernel) rfl, xt 794 (by decide +kernel) rfl⟩
theorem cf_X8_law : xcfV M_X8_law 3 := ⟨⟨xt 808 (by decide +kernel) rfl, wi_8, ⟨by decide, by decide, by decide +kernel⟩, rfl, rfl⟩, xt 806 (by decide +kernel) rfl, xt 807 (by decide +kernel) rfl⟩
theorem cf_X8_fall : xcfV M_X8_fall 1 := ⟨⟨xt 817 (by decide +kernel) rfl, wi_8, ⟨by decide, by decide, by decide +kernel⟩, rfl, rfl⟩, xt 815 (by decide +kernel) rfl, xt 816 (by decide +kernel) rfl⟩
theorem cf_X8_fallen : xcfV M_X8_fallen 3 := ⟨⟨xt 840 (by decide +kernel) rfl, wi_8, ⟨by decide, by decide, by decide +kernel⟩, rfl, rfl⟩, xt 838 (by decide +kernel) rfl, xt 839 (by decide +kernel) rfl⟩
theorem cf_X8_isSheet : xcfS M_X8_isSheet 1 := ⟨⟨xt 336 (by decide +kernel) rfl, wi_8, ⟨by decide, by decide, by decide +kernel⟩, rfl, rfl⟩, xt 335 (by decide +kernel) rfl⟩
theorem cf_X8_isSpot : xcfS M_X8_isSpot 1 := ⟨⟨xt 473 (by decide +kernel) rfl, wi_8, ⟨by decide, by decide, by decide +kernel⟩, rfl, rfl⟩, xt 472 (by decide +kernel) rfl⟩
theorem cf_X8_isGoal : xcfS M_X8_isGoal 1 := ⟨⟨xt 431 (by decide +kernel) rfl, wi_8, ⟨by decide, by decide, by decide +kernel⟩, rfl, rfl⟩, xt 430 (by decide +kernel) rfl⟩
theorem cf_X8_markOf : xcfS M_X8_markOf 1 := ⟨⟨xt 480 (by decide +kernel) rfl, wi_8, ⟨by decide, by decide, by decide +kernel⟩, rfl, rfl⟩, xt 479 (by decide +kernel) rfl⟩
theorem cf_X8_tokenOf : xcfS M_X8_tokenOf 1 := ⟨⟨xt 511 (by decide +kernel) rfl, wi_8, ⟨by decide, by decide, by decide +kernel⟩, rfl, rfl⟩, xt 510 (by decide +kernel) rfl⟩
theorem cf_X8_forgetAnswers : xcfV M_X8_forgetAnswers 0 := ⟨⟨xt 400 (by decide +kernel) rfl, wi_8, ⟨by decide, by decide, by decide +kernel⟩, rfl, rfl⟩, xt 399 (by decide +kernel) rfl, xp (by decide +kernel) rfl⟩
theorem cf_X8_hasLostWayBack : xcfV M_X8_hasLostWayBack 1 := ⟨⟨xt 453 (by decide +kernel) rfl, wi_8, ⟨by decide, by decide, by decide +kernel⟩, rfl, rfl⟩, xt 452 (by decide +kernel) rfl, xp (by decide +kernel) rfl⟩
theorem cf_X8_hasBackStates : xcfV M_X8_hasBackStates 1 := ⟨⟨xt 523 (by decide +kernel) rfl, wi_8, ⟨by decide, by decide, by decide +kernel⟩, rfl, rfl⟩, xt 522 (by decide +kernel) rfl, xp (by decide +kernel) rfl⟩
theorem cf_X8_refusalOfGiven : xcfV M_X8_refusalOfGiven 0 := ⟨⟨xt 477 (by decide +kernel) rfl, wi_8, ⟨by decide, by decide, by decide +kernel⟩, rfl, rfl⟩, xt 476 (by decide +kernel) rfl, xp (by decide +kernel) rfl⟩
theorem cf_X8_bring : xcfV M_X8_bring 2 := ⟨⟨xt 496 (by decide +kernel) rfl, wi_8, ⟨by decide, by decide, by decide +kernel⟩, rfl, rfl⟩, xt 495 (by decide +kernel) rfl, xp (by decide +kernel) rfl⟩
theorem cf_X8_join : xcfV M_X8_join 3 := ⟨⟨xt 488 (by decide +kernel) rfl, wi_8, ⟨by decide, by decide, by decide +kernel⟩, rfl, rfl⟩, xt 487 (by decide +kernel) rfl, xp (by decide +kernel) rfl⟩
theorem cf_X8_walkDown : xcfV M_X8_walkDown 3 := ⟨⟨xt 539 (by decide +kernel) rfl, wi_8, ⟨by decide, by decide, by decide +kernel⟩, rfl, rfl⟩, xt 538 (by decide +kernel) rfl, xp (by decide +kernel) rfl⟩
theorem cf_X8_gather : xcfV M_X8_gather 2 := ⟨⟨xt 557 (by decide +kernel) rfl, wi_8, ⟨by decide, by decide, by decide +kernel⟩, rfl, rfl⟩, xt 556 (by decide +kernel) rfl, xp (by decide +kernel) rfl⟩
theorem cf_X8_levelOf : xcfV M_X8_levelOf 1 := ⟨⟨xt 705 (by decide +kernel) rfl, wi_8, ⟨by decide, by decide, by decide +kernel⟩, rfl, rfl⟩, xt 704 (by decide +kernel) rfl, xp (by decide +kernel) rfl⟩
theorem cf_X8_walkFrom : xcfV M_X8_walkFrom 2 := ⟨⟨xt 709 (by decide +kernel) rfl, wi_8, ⟨by decide, by decide, by decide +kernel⟩, rfl, rfl⟩, xt 708 (by decide +kernel) rfl, xp (by decide +kernel) rfl⟩
theorem cf_X9_in : xcfS M_X9_in 3 := ⟨⟨xt 985 (by decide +kernel) rfl, wi_9, ⟨by decide, by decide, by decide +kernel⟩, rfl, rfl⟩, xt 984 (by decide +kernel) rfl⟩
theorem cf_X9_isSheet : xcfS M_X9_isSheet 1 := ⟨⟨xt 981 (by decide +kernel) rfl, wi_9, ⟨by decide, by decide, by decide +kernel⟩, rfl, rfl⟩, xt 980 (by decide +kernel) rfl⟩
theorem cf_X9_isSpot : xcfS M_X9_isSpot 1 := ⟨⟨xt 1045 (by decide +kernel) rfl, wi_9, ⟨by decide, by decide, by decide +kernel⟩, rfl, rfl⟩, xt 1044 (by decide +kernel) rfl⟩
theorem cf_X9_sheet : xcfV M_X9_sheet 3 := ⟨⟨xt 978 (by decide +kernel) rfl, wi_9, ⟨by decide, by decide, by decide +kernel⟩, rfl, rfl⟩, xt 976 (by decide +kernel) rfl, xt 977 (by decide +kernel) rfl⟩
theorem cf_X9_cell : xcfV M_X9_cell 3 := ⟨⟨xt 990 (by decide +kernel) rfl, wi_9, ⟨by decide, by decide, by decide +kernel⟩, rfl, rfl⟩, xt 988 (by decide +kernel) rfl, xt 989 (by decide +kernel) rfl⟩
theorem cf_X9_told : xcfV M_X9_told 2 := ⟨⟨xt 994 (by decide +kernel) rfl, wi_9, ⟨by decide, by decide, by decide +kernel⟩, rfl, rfl⟩, xt 992 (by decide +kernel) rfl, xt 993 (by decide +kernel) rfl⟩
theorem cf_X9_lose : xcfV M_X9_lose 1 := ⟨⟨xt 999 (by decide +kernel) rfl, wi_9, ⟨by decide, by decide, by decide +kernel⟩, rfl, rfl⟩, xt 997 (by decide +kernel) rfl, xt 998 (by decide +kernel) rfl⟩
theorem cf_X9_letters : xcfV M_X9_letters 1 := ⟨⟨xt 1003 (by decide +kernel) rfl, wi_9, ⟨by decide, by decide, by decide +kernel⟩, rfl, rfl⟩, xt 1001 (by decide +kernel) rfl, xt 1002 (by decide +kernel) rfl⟩
theorem cf_X9_state : xcfV M_X9_state 2 := ⟨⟨xt 1008 (by decide +kernel) rfl, wi_9, ⟨by decide, by decide, by decide +kernel⟩, rfl, rfl⟩, xt 1006 (by decide +kernel) rfl, xt 1007 (by decide +kernel) rfl⟩
theorem cf_X9_isFair : xcfV M_X9_isFair 1 := ⟨⟨xt 1022 (by decide +kernel) rfl, wi_9, ⟨by decide, by decide, by decide +kernel⟩, rfl, rfl⟩, xt 1021 (by decide +kernel) rfl, xp (by decide +kernel) rfl⟩
theorem cf_X9_isBack : xcfV M_X9_isBack 1 := ⟨⟨xt 1018 (by decide +kernel) rfl, wi_9, ⟨by decide, by decide, by decide +kernel⟩, rfl, rfl⟩, xt 1017 (by decide +kernel) rfl, xp (by decide +kernel) rfl⟩
theorem cf_X9_change : xcfV M_X9_change 4 := ⟨⟨xt 1014 (by decide +kernel) rfl, wi_9, ⟨by decide, by decide, by decide +kernel⟩, rfl, rfl⟩, xt 1012 (by decide +kernel) rfl, xt 1013 (by decide +kernel) rfl⟩
theorem cf_X9_of : xcfV M_X9_of 3 := ⟨⟨xt 1026 (by decide +kernel) rfl, wi_9, ⟨by decide, by decide, by decide +kernel⟩, rfl, rfl⟩, xt 1024 (by decide +kernel) rfl, xt 1025 (by decide +kernel) rfl⟩
theorem cf_X9_isWhole : xcfV M_X9_isWhole 0 := ⟨⟨xt 1038 (by decide +kernel) rfl, wi_9, ⟨by decide, by decide, by decide +kernel⟩, rfl, rfl⟩, xt 1037 (by decide +kernel) rfl, xp (by decide +kernel) rfl⟩
theorem cf_X9_findTokens : xcfV M_X9_findTokens 0 := ⟨⟨xt 1034 (by decide +kernel) rfl, wi_9, ⟨by decide, by decide, by decide +kernel⟩, rfl, rfl⟩, xt 1033 (by decide +kernel) rfl, xp (by decide +kernel) rfl⟩
theorem cf_X9_many : xcfV M_X9_many 1 := ⟨⟨xt 1030 (by decide +kernel) rfl, wi_9, ⟨by decide, by decide, by decide +kernel⟩, rfl, rfl⟩, xt 1028 (by decide +kernel) rfl, xt 1029 (by decide +kernel) rfl⟩
theorem cf_X9_add : xcfV M_X9_add 2 := ⟨⟨xt 1053 (by decide +kernel) rfl, wi_9, ⟨by decide, by decide, by decide +kernel⟩, rfl, rfl⟩, xt 1052 (by decide +kernel) rfl, xp (by decide +kernel) rfl⟩
theorem cf_X9_copy : xcfV M_X9_copy 2 := ⟨⟨xt 1049 (by decide +kernel) rfl, wi_9, ⟨by decide, by decide, by decide +kernel⟩, rfl, rfl⟩, xt 1048 (by decide +kernel) rfl, xp (by decide +kernel) rfl⟩
theorem cf_X9_put : xcfV M_X9_put 5 := ⟨⟨xt 1042 (by decide +kernel) rfl, wi_9, ⟨by decide, by decide, by decide +kernel⟩, rfl, rfl⟩, xt 1040 (by decide +kernel) rfl, xt 1041 (by decide +kernel) rfl⟩
theorem cf_X9_wipe : xcfV M_X9_wipe 1 := ⟨⟨xt 1057 (by decide +kernel) rfl, wi_9, ⟨by decide, by decide, by decide +kernel⟩, rfl, rfl⟩, xt 1055 (by decide +kernel) rfl, xt 1056 (by decide +kernel) rfl⟩
theorem cf_X9_size : xcfV M_X9_size 1 := ⟨⟨xt 1061 (by decide +kernel) rfl, wi_9, ⟨by decide, by decide, by decide +kernel⟩, rfl, rfl⟩, xt 1059 (by decide +kernel) rfl, xt 1060 (by decide +kernel) rfl⟩
theorem cf_X9_token : xcfV M_X9_token 2 := ⟨⟨xt 1065 (by decide +kernel) rfl, wi_9, ⟨by decide, by decide, by decide +kernel⟩, rfl, rfl⟩, xt 1063 (by decide +kernel) rfl, xt 1064 (by decide +kernel) rfl⟩
theorem cf_X9_times : xcfV M_X9_times 3 := ⟨⟨xt 1069 (by decide +kernel) rfl, wi_9, ⟨by decide, by decide, by decide +kernel⟩, rfl, rfl⟩, xt 1067 (by decide +kernel) rfl, xt 1068 (by decide +kernel) rfl⟩
theorem cf_X9_turn : xcfV M_X9_turn 2 := ⟨⟨xt 1073 (by decide +kernel) rfl, wi_9, ⟨by decide, by decide, by decide +kernel⟩, rfl, rfl⟩, xt 1071 (by decide +kernel) rfl, xt 1072 (by decide +kernel) rfl⟩
theorem cf_X9_step : xcfV M_X9_step 2 := ⟨⟨xt 1089 (by decide +kernel) rfl, wi_9, ⟨by decide, by decide, by decide +kernel⟩, rfl, rfl⟩, xt 1088 (by decide +kernel) rfl, xp (by decide +kernel) rfl⟩
theorem cf_X9_partAt : xcfV M_X9_partAt 3 := ⟨⟨xt 1105 (by decide +kernel) rfl, wi_9, ⟨by decide, by decide, by decide +kernel⟩, rfl, rfl⟩, xt 1104 (by decide +kernel) rfl, xp (by decide +kernel) rfl⟩
theorem cf_X9_takeRow : xcfV M_X9_takeRow 2 := ⟨⟨xt 1081 (by decide +kernel) rfl, wi_9, ⟨by decide, by decide, by decide +kernel⟩, rfl, rfl⟩, xt 1080 (by decide +kernel) rfl, xp (by decide +kernel) rfl⟩
theorem cf_X9_rowNumber : xcfV M_X9_rowNumber 0 := ⟨⟨xt 1093 (by decide +kernel) rfl, wi_9, ⟨by decide, by decide, by decide +kernel⟩, rfl, rfl⟩, xt 1092 (by decide +kernel) rfl, xp (by decide +kernel) rfl⟩
theorem cf_X9_rewrite : xcfV M_X9_rewrite 1 := ⟨⟨xt 1085 (by decide +kernel) rfl, wi_9, ⟨by decide, by decide, by decide +kernel⟩, rfl, rfl⟩, xt 1084 (by decide +kernel) rfl, xp (by decide +kernel) rfl⟩
theorem cf_X9_act : xcfV M_X9_act 2 := ⟨⟨xt 1077 (by decide +kernel) rfl, wi_9, ⟨by decide, by decide, by decide +kernel⟩, rfl, rfl⟩, xt 1075 (by decide +kernel) rfl, xt 1076 (by decide +kernel) rfl⟩
theorem cf_X9_partAtRow : xcfV M_X9_partAtRow 2 := ⟨⟨xt 1101 (by decide +kernel) rfl, wi_9, ⟨by decide, by decide, by decide +kernel⟩, rfl, rfl⟩, xt 1100 (by decide +kernel) rfl, xp (by decide +kernel) rfl⟩
theorem cf_X9_part : xcfV M_X9_part 3 := ⟨⟨xt 1097 (by decide +kernel) rfl, wi_9, ⟨by decide, by decide, by decide +kernel⟩, rfl, rfl⟩, xt 1095 (by decide +kernel) rfl, xt 1096 (by decide +kernel) rfl⟩
theorem cf_X9_findInHeap : xcfV M_X9_findInHeap 1 := ⟨⟨xt 1125 (by decide +kernel) rfl, wi_9, ⟨by decide, by decide, by decide +kernel⟩, rfl, rfl⟩, xt 1124 (by decide +kernel) rfl, xp (by decide +kernel) rfl⟩
theorem cf_X9_toHeap : xcfV M_X9_toHeap 1 := ⟨⟨xt 1121 (by decide +kernel) rfl, wi_9, ⟨by decide, by decide, by decide +kernel⟩, rfl, rfl⟩, xt 1120 (by decide +kernel) rfl, xp (by decide +kernel) rfl⟩
theorem cf_X9_fromHeap : xcfV M_X9_fromHeap 2 := ⟨⟨xt 1133 (by decide +kernel) rfl, wi_9, ⟨by decide, by decide, by decide +kernel⟩, rfl, rfl⟩, xt 1132 (by decide +kernel) rfl, xp (by decide +kernel) rfl⟩
theorem cf_X9_grow : xcfV M_X9_grow 0 := ⟨⟨xt 1129 (by decide +kernel) rfl, wi_9, ⟨by decide, by decide, by decide +kernel⟩, rfl, rfl⟩, xt 1128 (by decide +kernel) rfl, xp (by decide +kernel) rfl⟩
theorem cf_X9_beginHeap : xcfV M_X9_beginHeap 0 := ⟨⟨xt 1117 (by decide +kernel) rfl, wi_9, ⟨by decide, by decide, by decide +kernel⟩, rfl, rfl⟩, xt 1116 (by decide +kernel) rfl, xp (by decide +kernel) rfl⟩
theorem cf_X9_isSameNow : xcfV M_X9_isSameNow 2 := ⟨⟨xt 1145 (by decide +kernel) rfl, wi_9, ⟨by decide, by decide, by decide +kernel⟩, rfl, rfl⟩, xt 1144 (by decide +kernel) rfl, xp (by decide +kernel) rfl⟩
theorem cf_X9_partOnce : xcfV M_X9_partOnce 0 := ⟨⟨xt 1141 (by decide +kernel) rfl, wi_9, ⟨by decide, by decide, by decide +kernel⟩, rfl, rfl⟩, xt 1140 (by decide +kernel) rfl, xp (by decide +kernel) rfl⟩
theorem cf_X9_partAll : xcfV M_X9_partAll 0 := ⟨⟨xt 1137 (by decide +kernel) rfl, wi_9, ⟨by decide, by decide, by decide +kernel⟩, rfl, rfl⟩, xt 1136 (by decide +kernel) rfl, xp (by decide +kernel) rfl⟩
theorem cf_X9_takeTwo : xcfV M_X9_takeTwo 2 := ⟨⟨xt 1113 (by decide +kernel) rfl, wi_9, ⟨by decide, by decide, by decide +kernel⟩, rfl, rfl⟩, xt 1112 (by decide +kernel) rfl, xp (by decide +kernel) rfl⟩
theorem cf_X9_same : xcfV M_X9_same 2 := ⟨⟨xt 1109 (by decide +kernel) rfl, wi_9, ⟨by decide, by decide, by decide +kernel⟩, rfl, rfl⟩, xt 1107 (by decide +kernel) rfl, xt 1108 (by decide +kernel) rfl⟩
theorem cf_X9_apart : xcfV M_X9_apart 2 := ⟨⟨xt 1149 (by decide +kernel) rfl, wi_9, ⟨by decide, by decide, by decide +kernel⟩, rfl, rfl⟩, xt 1147 (by decide +kernel) rfl, xt 1148 (by decide +kernel) rfl⟩
theorem cf_X9_isParted : xcfV M_X9_isParted 4 := ⟨⟨xt 1153 (by decide +kernel) rfl, wi_9, ⟨by decide, by decide, by decide +kernel⟩, rfl, rfl⟩, xt 1152 (by decide +kernel) rfl, xp (by decide +kernel) rfl⟩
theorem cf_X9_heap : xcfV M_X9_heap 1 := ⟨⟨xt 1157 (by decide +kernel) rfl, wi_9, ⟨by decide, by decide, by decide +kernel⟩, rfl, rfl⟩, xt 1155 (by decide +kernel) rfl, xt 1156 (by decide +kernel) rfl⟩
theorem cf_X9_least : xcfV M_X9_least 1 := ⟨⟨xt 1161 (by decide +kernel) rfl, wi_9, ⟨by decide, by decide, by decide +kernel⟩, rfl, rfl⟩, xt 1159 (by decide +kernel) rfl, xt 1160 (by decide +kernel) rfl⟩
theorem cf_X9_rowsOf : xcfV M_X9_rowsOf 2 := ⟨⟨xt 1169 (by decide +kernel) rfl, wi_9, ⟨by decide, by decide, by decide +kernel⟩, rfl, rfl⟩, xt 1168 (by decide +kernel) rfl, xp (by decide +kernel) rfl⟩
theorem cf_X9_rowAt : xcfV M_X9_rowAt 2 := ⟨⟨xt 1177 (by decide +kernel) rfl, wi_9, ⟨by decide, by decide, by decide +kernel⟩, rfl, rfl⟩, xt 1176 (by decide +kernel) rfl, xp (by decide +kernel) rfl⟩
theorem cf_X9_placeNow : xcfV M_X9_placeNow 0 := ⟨⟨xt 1181 (by decide +kernel) rfl, wi_9, ⟨by decide, by decide, by decide +kernel⟩, rfl, rfl⟩, xt 1180 (by decide +kernel) rfl, xp (by decide +kernel) rfl⟩
theorem cf_X9_findLevel : xcfV M_X9_findLevel 1 := ⟨⟨xt 1193 (by decide +kernel) rfl, wi_9, ⟨by decide, by decide, by decide +kernel⟩, rfl, rfl⟩, xt 1192 (by decide +kernel) rfl, xp (by decide +kernel) rfl⟩
theorem cf_X9_isTokenBack : xcfV M_X9_isTokenBack 1 := ⟨⟨xt 1173 (by decide +kernel) rfl, wi_9, ⟨by decide, by decide, by decide +kernel⟩, rfl, rfl⟩, xt 1172 (by decide +kernel) rfl, xp (by decide +kernel) rfl⟩
theorem cf_X9_common : xcfS M_X9_common 2 := ⟨⟨xt 1184 (by decide +kernel) rfl, wi_9, ⟨by decide, by decide, by decide +kernel⟩, rfl, rfl⟩, xt 1183 (by decide +kernel) rfl⟩
theorem cf_X9_order : xcfV M_X9_order 2 := ⟨⟨xt 1165 (by decide +kernel) rfl, wi_9, ⟨by decide, by decide, by decide +kernel⟩, rfl, rfl⟩, xt 1163 (by decide +kernel) rfl, xt 1164 (by decide +kernel) rfl⟩
theorem cf_X9_orbits : xcfV M_X9_orbits 1 := ⟨⟨xt 1189 (by decide +kernel) rfl, wi_9, ⟨by decide, by decide, by decide +kernel⟩, rfl, rfl⟩, xt 1187 (by decide +kernel) rfl, xt 1188 (by decide +kernel) rfl⟩
theorem cf_X9_takeLevel : xcfV M_X9_takeLevel 1 := ⟨⟨xt 1202 (by decide +kernel) rfl, wi_9, ⟨by decide, by decide, by decide +kernel⟩, rfl, rfl⟩, xt 1201 (by decide +kernel) rfl, xp (by decide +kernel) rfl⟩
theorem cf_X9_findFar : xcfV M_X9_findFar 1 := ⟨⟨xt 1206 (by decide +kernel) rfl, wi_9, ⟨by decide, by decide, by decide +kernel⟩, rfl, rfl⟩, xt 1205 (by decide +kernel) rfl, xp (by decide +kernel) rfl⟩
theorem cf_X9_orbit : xcfV M_X9_orbit 1 := ⟨⟨xt 1198 (by decide +kernel) rfl, wi_9, ⟨by decide, by decide, by decide +kernel⟩, rfl, rfl⟩, xt 1196 (by decide +kernel) rfl, xt 1197 (by decide +kernel) rfl⟩
theorem cf_X9_takeRows : xcfV M_X9_takeRows 2 := ⟨⟨xt 1214 (by decide +kernel) rfl, wi_9, ⟨by decide, by decide, by decide +kernel⟩, rfl, rfl⟩, xt 1213 (by decide +kernel) rfl, xp (by decide +kernel) rfl⟩
theorem cf_X9_far : xcfV M_X9_far 2 := ⟨⟨xt 1210 (by decide +kernel) rfl, wi_9, ⟨by decide, by decide, by decide +kernel⟩, rfl, rfl⟩, xt 1208 (by decide +kernel) rfl, xt 1209 (by decide +kernel) rfl⟩
theorem cf_X9_findFarTo : xcfV M_X9_findFarTo 1 := ⟨⟨xt 1223 (by decide +kernel) rfl, wi_9, ⟨by decide, by decide, by decide +kernel⟩, rfl, rfl⟩, xt 1222 (by decide +kernel) rfl, xp (by decide +kernel) rfl⟩
theorem cf_X9_way : xcfV M_X9_way 3 := ⟨⟨xt 1218 (by decide +kernel) rfl, wi_9, ⟨by decide, by decide, by decide +kernel⟩, rfl, rfl⟩, xt 1216 (by decide +kernel) rfl, xt 1217 (by decide +kernel) rfl⟩
theorem cf_X9_reach : xcfV M_X9_reach 1 := ⟨⟨xt 1227 (by decide +kernel) rfl, wi_9, ⟨by decide, by decide, by decide +kernel⟩, rfl, rfl⟩, xt 1225 (by decide +kernel) rfl, xt 1226 (by decide +kernel) rfl⟩
theorem cf_X9_toGroup : xcfV M_X9_toGroup 1 := ⟨⟨xt 1236 (by decide +kernel) rfl, wi_9, ⟨by decide, by decide, by decide +kernel⟩, rfl, rfl⟩, xt 1235 (by decide +kernel) rfl, xp (by decide +kernel) rfl⟩
theorem cf_X9_made : xcfV M_X9_made 2 := ⟨⟨xt 1241 (by decide +kernel) rfl, wi_9, ⟨by decide, by decide, by decide +kernel⟩, rfl, rfl⟩, xt 1240 (by decide +kernel) rfl, xp (by decide +kernel) rfl⟩
theorem cf_X9_group : xcfV M_X9_group 1 := ⟨⟨xt 1232 (by decide +kernel) rfl, wi_9, ⟨by decide, by decide, by decide +kernel⟩, rfl, rfl⟩, xt 1230 (by decide +kernel) rfl, xt 1231 (by decide +kernel) rfl⟩
theorem cf_X9_takeShort : xcfV M_X9_takeShort 1 := ⟨⟨xt 1250 (by decide +kernel) rfl, wi_9, ⟨by decide, by decide, by decide +kernel⟩, rfl, rfl⟩, xt 1249 (by decide +kernel) rfl, xp (by decide +kernel) rfl⟩
theorem cf_X9_growth : xcfV M_X9_growth 1 := ⟨⟨xt 1246 (by decide +kernel) rfl, wi_9, ⟨by decide, by decide, by decide +kernel⟩, rfl, rfl⟩, xt 1244 (by decide +kernel) rfl, xt 1245 (by decide +kernel) rfl⟩
theorem cf_X9_findLaw : xcfV M_X9_findLaw 1 := ⟨⟨xt 1259 (by decide +kernel) rfl, wi_9, ⟨by decide, by decide, by decide +kernel⟩, rfl, rfl⟩, xt 1258 (by decide +kernel) rfl, xp (by decide +kernel) rfl⟩
theorem cf_X9_laws : xcfV M_X9_laws 1 := ⟨⟨xt 1255 (by decide +kernel) rfl, wi_9, ⟨by decide, by decide, by decide +kernel⟩, rfl, rfl⟩, xt 1253 (by decide +kernel) rfl, xt 1254 (by decide +kernel) rfl⟩
theorem cf_X9_law : xcfV M_X9_law 3 := ⟨⟨xt 1263 (by decide +kernel) rfl, wi_9, ⟨by decide, by decide, by decide +kernel⟩, rfl, rfl⟩, xt 1261 (by decide +kernel) rfl, xt 1262 (by decide +kernel) rfl⟩
theorem cf_X9_falls : xcfV M_X9_falls 1 := ⟨⟨xt 1279 (by decide +kernel) rfl, wi_9, ⟨by decide, by decide, by decide +kernel⟩, rfl, rfl⟩, xt 1278 (by decide +kernel) rfl, xp (by decide +kernel) rfl⟩
theorem cf_X9_beginFall : xcfV M_X9_beginFall 0 := ⟨⟨xt 1271 (by decide +kernel) rfl, wi_9, ⟨by decide, by decide, by decide +kernel⟩, rfl, rfl⟩, xt 1270 (by decide +kernel) rfl, xp (by decide +kernel) rfl⟩
theorem cf_X9_fallsAll : xcfV M_X9_fallsAll 1 := ⟨⟨xt 1275 (by decide +kernel) rfl, wi_9, ⟨by decide, by decide, by decide +kernel⟩, rfl, rfl⟩, xt 1274 (by decide +kernel) rfl, xp (by decide +kernel) rfl⟩
theorem cf_X9_fall : xcfV M_X9_fall 1 := ⟨⟨xt 1267 (by decide +kernel) rfl, wi_9, ⟨by decide, by decide, by decide +kernel⟩, rfl, rfl⟩, xt 1265 (by decide +kernel) rfl, xt 1266 (by decide +kernel) rfl⟩
theorem cf_X9_fallen : xcfV M_X9_fallen 3 := ⟨⟨xt 1283 (by decide +kernel) rfl, wi_9, ⟨by decide, by decide, by decide +kernel⟩, rfl, rfl⟩, xt 1281 (by decide +kernel) rfl, xt 1282 (by decide +kernel) rfl⟩
theorem cf_J9_max_7cf53 : xcfS M_J9_max_7cf53 2 := ⟨⟨xt 677 (by decide +kernel) rfl, wi_J9, ⟨by decide, by decide, by decide +kernel⟩, rfl, rfl⟩, xt 676 (by decide +kernel) rfl⟩
theorem cf_J9_max_f86c9 : xcfS M_J9_max_f86c9 2 := ⟨⟨xt 683 (by decide +kernel) rfl, wi_J9, ⟨by decide, by decide, by decide +kernel⟩, rfl, rfl⟩, xt 682 (by decide +kernel) rfl⟩
theorem cf_J9_min_7cf53 : xcfS M_J9_min_7cf53 2 := ⟨⟨xt 824 (by decide +kernel) rfl, wi_J9, ⟨by decide, by decide, by decide +kernel⟩, rfl, rfl⟩, xt 823 (by decide +kernel) rfl⟩
theorem cf_J7_fill_53178 : xcfS M_J7_fill_53178 2 := ⟨⟨xt 343 (by decide +kernel) rfl, wi_J7, ⟨by decide, by decide, by decide +kernel⟩, rfl, rfl⟩, xt 342 (by decide +kernel) rfl⟩
theorem ml_8_66 : Cond.methodLink RX8 66 yX8_isSheet ∈ xw := xt 334 (by decide +kernel) rfl
theorem ml_8_70 : Cond.methodLink RX8 70 yX5_lay ∈ xw := xt 337 (by decide +kernel) rfl
theorem ml_5_15 : Cond.methodLink RX5 15 yJ7_fill_53178 ∈ xw := xt 341 (by decide +kernel) rfl
theorem ml_8_78 : Cond.methodLink RX8 78 yX5_hasNumber ∈ xw := xt 348 (by decide +kernel) rfl
theorem ml_8_81 : Cond.methodLink RX8 81 yX5_write ∈ xw := xt 352 (by decide +kernel) rfl
theorem ml_8_88 : Cond.methodLink RX8 88 yX3_restart ∈ xw := xt 369 (by decide +kernel) rfl
theorem ml_3_44 : Cond.methodLink RX3 44 yX3_refresh ∈ xw := xt 373 (by decide +kernel) rfl
theorem ml_3_63 : Cond.methodLink RX3 63 yX3_goals ∈ xw := xt 377 (by decide +kernel) rfl
theorem ml_3_67 : Cond.methodLink RX3 67 yX3_writesUnlike ∈ xw := xt 381 (by decide +kernel) rfl
theorem ml_3_70 : Cond.methodLink RX3 70 yX3_listMarks ∈ xw := xt 385 (by decide +kernel) rfl
theorem ml_3_73 : Cond.methodLink RX3 73 yX3_isBack ∈ xw := xt 389 (by decide +kernel) rfl
theorem ml_3_76 : Cond.methodLink RX3 76 yX3_wireMarks ∈ xw := xt 393 (by decide +kernel) rfl
theorem ml_8_92 : Cond.methodLink RX8 92 yX8_forgetAnswers ∈ xw := xt 397 (by decide +kernel) rfl
theorem ml_8_293 : Cond.methodLink RX8 293 yX2_forget ∈ xw := xt 401 (by decide +kernel) rfl
theorem ml_8_296 : Cond.methodLink RX8 296 yX6_forget ∈ xw := xt 405 (by decide +kernel) rfl
theorem ml_8_95 : Cond.methodLink RX8 95 yX7_empty ∈ xw := xt 409 (by decide +kernel) rfl
theorem ml_8_98 : Cond.methodLink RX8 98 yX3_canRead ∈ xw := xt 417 (by decide +kernel) rfl
theorem ml_3_47 : Cond.methodLink RX3 47 yX5_hasPair ∈ xw := xt 421 (by decide +kernel) rfl
theorem ml_3_56 : Cond.methodLink RX3 56 yX3_isLetter ∈ xw := xt 425 (by decide +kernel) rfl
theorem ml_8_106 : Cond.methodLink RX8 106 yX3_read ∈ xw := xt 432 (by decide +kernel) rfl
theorem ml_8_110 : Cond.methodLink RX8 110 yX3_isState ∈ xw := xt 440 (by decide +kernel) rfl
theorem ml_8_113 : Cond.methodLink RX8 113 yX3_isLetter ∈ xw := xt 444 (by decide +kernel) rfl
theorem ml_8_116 : Cond.methodLink RX8 116 yX8_isGoal ∈ xw := xt 445 (by decide +kernel) rfl
theorem ml_8_119 : Cond.methodLink RX8 119 yX3_rewire ∈ xw := xt 446 (by decide +kernel) rfl
theorem ml_8_123 : Cond.methodLink RX8 123 yX8_hasLostWayBack ∈ xw := xt 450 (by decide +kernel) rfl
theorem ml_8_166 : Cond.methodLink RX8 166 yX7_mark ∈ xw := xt 454 (by decide +kernel) rfl
theorem ml_8_127 : Cond.methodLink RX8 127 yX3_isBack ∈ xw := xt 458 (by decide +kernel) rfl
theorem ml_8_145 : Cond.methodLink RX8 145 yX8_isSpot ∈ xw := xt 471 (by decide +kernel) rfl
theorem ml_8_148 : Cond.methodLink RX8 148 yX8_refusalOfGiven ∈ xw := xt 474 (by decide +kernel) rfl
theorem ml_8_152 : Cond.methodLink RX8 152 yX8_markOf ∈ xw := xt 478 (by decide +kernel) rfl
theorem ml_8_156 : Cond.methodLink RX8 156 yX7_push ∈ xw := xt 481 (by decide +kernel) rfl
theorem ml_8_159 : Cond.methodLink RX8 159 yX8_join ∈ xw := xt 485 (by decide +kernel) rfl
theorem ml_8_182 : Cond.methodLink RX8 182 yX7_copy ∈ xw := xt 489 (by decide +kernel) rfl
theorem ml_8_175 : Cond.methodLink RX8 175 yX8_bring ∈ xw := xt 493 (by decide +kernel) rfl
theorem ml_8_169 : Cond.methodLink RX8 169 yX8_tokenOf ∈ xw := xt 509 (by decide +kernel) rfl
theorem ml_8_172 : Cond.methodLink RX8 172 yX8_hasBackStates ∈ xw := xt 520 (by decide +kernel) rfl
theorem ml_8_179 : Cond.methodLink RX8 179 yX3_rowLength ∈ xw := xt 528 (by decide +kernel) rfl
theorem ml_3_80 : Cond.methodLink RX3 80 yX3_hasLetters ∈ xw := xt 532 (by decide +kernel) rfl
theorem ml_8_186 : Cond.methodLink RX8 186 yX8_walkDown ∈ xw := xt 536 (by decide +kernel) rfl
theorem ml_8_301 : Cond.methodLink RX8 301 yX7_descend ∈ xw := xt 540 (by decide +kernel) rfl
theorem ml_7_19 : Cond.methodLink RX7 19 yX7_empty ∈ xw := xt 544 (by decide +kernel) rfl
theorem ml_7_31 : Cond.methodLink RX7 31 yX7_push ∈ xw := xt 545 (by decide +kernel) rfl
theorem ml_8_190 : Cond.methodLink RX8 190 yX8_gather ∈ xw := xt 554 (by decide +kernel) rfl
theorem ml_8_304 : Cond.methodLink RX8 304 yX4_reset ∈ xw := xt 558 (by decide +kernel) rfl
theorem ml_4_62 : Cond.methodLink RX4 62 yX0_clear ∈ xw := xt 562 (by decide +kernel) rfl
theorem ml_0_28 : Cond.methodLink RX0 28 yJ7_fill_53178 ∈ xw := xt 567 (by decide +kernel) rfl
theorem ml_8_307 : Cond.methodLink RX8 307 yX4_take ∈ xw := xt 568 (by decide +kernel) rfl
theorem ml_4_83 : Cond.methodLink RX4 83 yX0_add ∈ xw := xt 572 (by decide +kernel) rfl
theorem ml_0_34 : Cond.methodLink RX0 34 yX0_slotOf ∈ xw := xt 576 (by decide +kernel) rfl
theorem ml_4_86 : Cond.methodLink RX4 86 yX4_followParts ∈ xw := xt 581 (by decide +kernel) rfl
theorem ml_4_96 : Cond.methodLink RX4 96 yX4_load ∈ xw := xt 585 (by decide +kernel) rfl
theorem ml_4_100 : Cond.methodLink RX4 100 yX7_descend ∈ xw := xt 589 (by decide +kernel) rfl
theorem ml_8_194 : Cond.methodLink RX8 194 yX4_classify ∈ xw := xt 590 (by decide +kernel) rfl
theorem ml_4_104 : Cond.methodLink RX4 104 yX4_keepRound ∈ xw := xt 594 (by decide +kernel) rfl
theorem ml_4_107 : Cond.methodLink RX4 107 yX4_refine ∈ xw := xt 601 (by decide +kernel) rfl
theorem ml_8_197 : Cond.methodLink RX8 197 yX4_indexOf ∈ xw := xt 605 (by decide +kernel) rfl
theorem ml_4_72 : Cond.methodLink RX4 72 yX0_find ∈ xw := xt 609 (by decide +kernel) rfl
theorem ml_8_201 : Cond.methodLink RX8 201 yX4_areAlike ∈ xw := xt 613 (by decide +kernel) rfl
theorem ml_8_205 : Cond.methodLink RX8 205 yX4_partingRow ∈ xw := xt 621 (by decide +kernel) rfl
theorem ml_4_116 : Cond.methodLink RX4 116 yX4_arePartedBy ∈ xw := xt 625 (by decide +kernel) rfl
theorem ml_4_120 : Cond.methodLink RX4 120 yX4_firstPartingLetter ∈ xw := xt 629 (by decide +kernel) rfl
theorem ml_4_124 : Cond.methodLink RX4 124 yX4_firstUnlikeLetter ∈ xw := xt 633 (by decide +kernel) rfl
theorem ml_8_220 : Cond.methodLink RX8 220 yX3_power ∈ xw := xt 649 (by decide +kernel) rfl
theorem ml_8_223 : Cond.methodLink RX8 223 yX2_build ∈ xw := xt 653 (by decide +kernel) rfl
theorem ml_2_54 : Cond.methodLink RX2 54 yX2_buildBranch ∈ xw := xt 657 (by decide +kernel) rfl
theorem ml_8_227 : Cond.methodLink RX8 227 yX2_roundsToRest ∈ xw := xt 661 (by decide +kernel) rfl
theorem ml_2_68 : Cond.methodLink RX2 68 yX2_forgetRows ∈ xw := xt 665 (by decide +kernel) rfl
theorem ml_2_37 : Cond.methodLink RX2 37 yJ7_fill_53178 ∈ xw := xt 669 (by decide +kernel) rfl
theorem ml_2_75 : Cond.methodLink RX2 75 yX2_ringLength ∈ xw := xt 670 (by decide +kernel) rfl
theorem ml_2_90 : Cond.methodLink RX2 90 yX7_mark ∈ xw := xt 674 (by decide +kernel) rfl
theorem ml_2_94 : Cond.methodLink RX2 94 yJ9_max_7cf53 ∈ xw := xt 675 (by decide +kernel) rfl
theorem ml_2_79 : Cond.methodLink RX2 79 yX2_commonDivisor ∈ xw := xt 678 (by decide +kernel) rfl
theorem ml_2_100 : Cond.methodLink RX2 100 yJ9_max_f86c9 ∈ xw := xt 681 (by decide +kernel) rfl
theorem ml_8_230 : Cond.methodLink RX8 230 yX2_countBackOrbits ∈ xw := xt 689 (by decide +kernel) rfl
theorem ml_2_71 : Cond.methodLink RX2 71 yX2_spread ∈ xw := xt 693 (by decide +kernel) rfl
theorem ml_2_64 : Cond.methodLink RX2 64 yX3_isBack ∈ xw := xt 697 (by decide +kernel) rfl
theorem ml_8_234 : Cond.methodLink RX8 234 yX8_levelOf ∈ xw := xt 702 (by decide +kernel) rfl
theorem ml_8_237 : Cond.methodLink RX8 237 yX8_walkFrom ∈ xw := xt 706 (by decide +kernel) rfl
theorem ml_8_311 : Cond.methodLink RX8 311 yX2_forgetRows ∈ xw := xt 710 (by decide +kernel) rfl
theorem ml_8_243 : Cond.methodLink RX8 243 yX3_rowIndex ∈ xw := xt 711 (by decide +kernel) rfl
theorem ml_8_314 : Cond.methodLink RX8 314 yX2_spread ∈ xw := xt 715 (by decide +kernel) rfl
theorem ml_8_246 : Cond.methodLink RX8 246 yX8_far ∈ xw := xt 724 (by decide +kernel) rfl
theorem ml_8_249 : Cond.methodLink RX8 249 yX2_markOfMove ∈ xw := xt 725 (by decide +kernel) rfl
theorem ml_8_256 : Cond.methodLink RX8 256 yX1_begin ∈ xw := xt 737 (by decide +kernel) rfl
theorem ml_1_31 : Cond.methodLink RX1 31 yX0_clear ∈ xw := xt 741 (by decide +kernel) rfl
theorem ml_1_34 : Cond.methodLink RX1 34 yX0_add ∈ xw := xt 742 (by decide +kernel) rfl
theorem ml_8_259 : Cond.methodLink RX8 259 yX2_packed ∈ xw := xt 743 (by decide +kernel) rfl
theorem ml_8_263 : Cond.methodLink RX8 263 yX1_bringIn ∈ xw := xt 747 (by decide +kernel) rfl
theorem ml_1_38 : Cond.methodLink RX1 38 yX0_find ∈ xw := xt 751 (by decide +kernel) rfl
theorem ml_1_44 : Cond.methodLink RX1 44 yJ9_max_7cf53 ∈ xw := xt 752 (by decide +kernel) rfl
theorem ml_1_53 : Cond.methodLink RX1 53 yX1_behind ∈ xw := xt 753 (by decide +kernel) rfl
theorem ml_1_57 : Cond.methodLink RX1 57 yX1_addBlock ∈ xw := xt 758 (by decide +kernel) rfl
theorem ml_8_270 : Cond.methodLink RX8 270 yX6_gatherWithin ∈ xw := xt 766 (by decide +kernel) rfl
theorem ml_6_57 : Cond.methodLink RX6 57 yX6_enterWithin ∈ xw := xt 770 (by decide +kernel) rfl
theorem ml_6_68 : Cond.methodLink RX6 68 yX6_beginWithEmpty ∈ xw := xt 774 (by decide +kernel) rfl
theorem ml_6_83 : Cond.methodLink RX6 83 yX4_reset ∈ xw := xt 778 (by decide +kernel) rfl
theorem ml_6_86 : Cond.methodLink RX6 86 yX7_empty ∈ xw := xt 779 (by decide +kernel) rfl
theorem ml_6_89 : Cond.methodLink RX6 89 yX4_enter ∈ xw := xt 780 (by decide +kernel) rfl
theorem ml_6_80 : Cond.methodLink RX6 80 yX6_extend ∈ xw := xt 784 (by decide +kernel) rfl
theorem ml_6_96 : Cond.methodLink RX6 96 yX4_load ∈ xw := xt 788 (by decide +kernel) rfl
theorem ml_6_106 : Cond.methodLink RX6 106 yX7_push ∈ xw := xt 789 (by decide +kernel) rfl
theorem ml_6_61 : Cond.methodLink RX6 61 yX4_followParts ∈ xw := xt 790 (by decide +kernel) rfl
theorem ml_6_65 : Cond.methodLink RX6 65 yX4_classify ∈ xw := xt 791 (by decide +kernel) rfl
theorem ml_8_274 : Cond.methodLink RX8 274 yX6_countLaws ∈ xw := xt 796 (by decide +kernel) rfl
theorem ml_6_114 : Cond.methodLink RX6 114 yX6_isLaw ∈ xw := xt 800 (by decide +kernel) rfl
theorem ml_6_110 : Cond.methodLink RX6 110 yX4_areAlike ∈ xw := xt 804 (by decide +kernel) rfl
theorem ml_8_277 : Cond.methodLink RX8 277 yX6_findLaw ∈ xw := xt 809 (by decide +kernel) rfl
theorem ml_8_280 : Cond.methodLink RX8 280 yX4_load ∈ xw := xt 813 (by decide +kernel) rfl
theorem ml_8_284 : Cond.methodLink RX8 284 yX6_gatherFallen ∈ xw := xt 818 (by decide +kernel) rfl
theorem ml_6_117 : Cond.methodLink RX6 117 yJ9_min_7cf53 ∈ xw := xt 822 (by decide +kernel) rfl
theorem ml_6_123 : Cond.methodLink RX6 123 yX6_lookAtParts ∈ xw := xt 825 (by decide +kernel) rfl
theorem ml_6_134 : Cond.methodLink RX6 134 yX7_copy ∈ xw := xt 829 (by decide +kernel) rfl
theorem ml_6_138 : Cond.methodLink RX6 138 yX7_descend ∈ xw := xt 830 (by decide +kernel) rfl
theorem ml_6_142 : Cond.methodLink RX6 142 yX4_take ∈ xw := xt 831 (by decide +kernel) rfl
theorem ml_6_127 : Cond.methodLink RX6 127 yX6_addUnlike ∈ xw := xt 832 (by decide +kernel) rfl
theorem ml_6_146 : Cond.methodLink RX6 146 yJ7_fill_53178 ∈ xw := xt 836 (by decide +kernel) rfl
theorem ml_9_105 : Cond.methodLink RX9 105 yX9_isSheet ∈ xw := xt 979 (by decide +kernel) rfl
theorem ml_9_99 : Cond.methodLink RX9 99 yX9_in ∈ xw := xt 983 (by decide +kernel) rfl
theorem ml_9_124 : Cond.methodLink RX9 124 yX9_isBack ∈ xw := xt 1015 (by decide +kernel) rfl
theorem ml_9_121 : Cond.methodLink RX9 121 yX9_isFair ∈ xw := xt 1019 (by decide +kernel) rfl
theorem ml_9_130 : Cond.methodLink RX9 130 yX9_findTokens ∈ xw := xt 1031 (by decide +kernel) rfl
theorem ml_9_133 : Cond.methodLink RX9 133 yX9_isWhole ∈ xw := xt 1035 (by decide +kernel) rfl
theorem ml_9_137 : Cond.methodLink RX9 137 yX9_isSpot ∈ xw := xt 1043 (by decide +kernel) rfl
theorem ml_9_140 : Cond.methodLink RX9 140 yX9_copy ∈ xw := xt 1046 (by decide +kernel) rfl
theorem ml_9_144 : Cond.methodLink RX9 144 yX9_add ∈ xw := xt 1050 (by decide +kernel) rfl
theorem ml_9_159 : Cond.methodLink RX9 159 yX9_takeRow ∈ xw := xt 1078 (by decide +kernel) rfl
theorem ml_9_163 : Cond.methodLink RX9 163 yX9_rewrite ∈ xw := xt 1082 (by decide +kernel) rfl
theorem ml_9_153 : Cond.methodLink RX9 153 yX9_step ∈ xw := xt 1086 (by decide +kernel) rfl
theorem ml_9_167 : Cond.methodLink RX9 167 yX9_rowNumber ∈ xw := xt 1090 (by decide +kernel) rfl
theorem ml_9_175 : Cond.methodLink RX9 175 yX9_partAtRow ∈ xw := xt 1098 (by decide +kernel) rfl
theorem ml_9_171 : Cond.methodLink RX9 171 yX9_partAt ∈ xw := xt 1102 (by decide +kernel) rfl
theorem ml_9_215 : Cond.methodLink RX9 215 yX9_takeTwo ∈ xw := xt 1110 (by decide +kernel) rfl
theorem ml_9_200 : Cond.methodLink RX9 200 yX9_beginHeap ∈ xw := xt 1114 (by decide +kernel) rfl
theorem ml_9_191 : Cond.methodLink RX9 191 yX9_toHeap ∈ xw := xt 1118 (by decide +kernel) rfl
theorem ml_9_181 : Cond.methodLink RX9 181 yX9_findInHeap ∈ xw := xt 1122 (by decide +kernel) rfl
theorem ml_9_209 : Cond.methodLink RX9 209 yX9_grow ∈ xw := xt 1126 (by decide +kernel) rfl
theorem ml_9_188 : Cond.methodLink RX9 188 yX9_fromHeap ∈ xw := xt 1130 (by decide +kernel) rfl
theorem ml_9_212 : Cond.methodLink RX9 212 yX9_partAll ∈ xw := xt 1134 (by decide +kernel) rfl
theorem ml_9_197 : Cond.methodLink RX9 197 yX9_partOnce ∈ xw := xt 1138 (by decide +kernel) rfl
theorem ml_9_194 : Cond.methodLink RX9 194 yX9_isSameNow ∈ xw := xt 1142 (by decide +kernel) rfl
theorem ml_9_219 : Cond.methodLink RX9 219 yX9_isParted ∈ xw := xt 1150 (by decide +kernel) rfl
theorem ml_9_223 : Cond.methodLink RX9 223 yX9_rowsOf ∈ xw := xt 1166 (by decide +kernel) rfl
theorem ml_9_235 : Cond.methodLink RX9 235 yX9_isTokenBack ∈ xw := xt 1170 (by decide +kernel) rfl
theorem ml_9_229 : Cond.methodLink RX9 229 yX9_rowAt ∈ xw := xt 1174 (by decide +kernel) rfl
theorem ml_9_232 : Cond.methodLink RX9 232 yX9_placeNow ∈ xw := xt 1178 (by decide +kernel) rfl
theorem ml_9_238 : Cond.methodLink RX9 238 yX9_common ∈ xw := xt 1182 (by decide +kernel) rfl
theorem ml_9_244 : Cond.methodLink RX9 244 yX9_findLevel ∈ xw := xt 1190 (by decide +kernel) rfl
theorem ml_9_247 : Cond.methodLink RX9 247 yJ9_min_7cf53 ∈ xw := xt 1194 (by decide +kernel) rfl
theorem ml_9_255 : Cond.methodLink RX9 255 yX9_takeLevel ∈ xw := xt 1199 (by decide +kernel) rfl
theorem ml_9_258 : Cond.methodLink RX9 258 yX9_findFar ∈ xw := xt 1203 (by decide +kernel) rfl
theorem ml_9_264 : Cond.methodLink RX9 264 yX9_takeRows ∈ xw := xt 1211 (by decide +kernel) rfl
theorem ml_9_267 : Cond.methodLink RX9 267 yX9_far ∈ xw := xt 1219 (by decide +kernel) rfl
theorem ml_9_270 : Cond.methodLink RX9 270 yX9_findFarTo ∈ xw := xt 1220 (by decide +kernel) rfl
theorem ml_9_273 : Cond.methodLink RX9 273 yJ9_max_7cf53 ∈ xw := xt 1228 (by decide +kernel) rfl
theorem ml_9_283 : Cond.methodLink RX9 283 yX9_toGroup ∈ xw := xt 1233 (by decide +kernel) rfl
theorem ml_9_287 : Cond.methodLink RX9 287 yX9_made ∈ xw := xt 1238 (by decide +kernel) rfl
theorem ml_9_293 : Cond.methodLink RX9 293 yX9_takeShort ∈ xw := xt 1247 (by decide +kernel) rfl
theorem ml_9_296 : Cond.methodLink RX9 296 yX9_findLaw ∈ xw := xt 1256 (by decide +kernel) rfl
theorem ml_9_305 : Cond.methodLink RX9 305 yX9_beginFall ∈ xw := xt 1268 (by decide +kernel) rfl
theorem ml_9_308 : Cond.methodLink RX9 308 yX9_fallsAll ∈ xw := xt 1272 (by decide +kernel) rfl
theorem ml_9_302 : Cond.methodLink RX9 302 yX9_falls ∈ xw := xt 1276 (by decide +kernel) rfl
theorem ml_9_311 : Cond.methodLink RX9 311 yX9_fall ∈ xw := xt 1284 (by decide +kernel) rfl
theorem fk_7_9 : xlk RX7 9 7 0 := ⟨_, rfl, by decide, xt 31 (by decide +kernel) rfl⟩
theorem fp_7_9 : xlp RX7 9 7 0 .long := ⟨_, rfl, by decide, xt 31 (by decide +kernel) rfl, rfl, by decide +kernel⟩
theorem fk_4_65 : xlk RX4 65 7 0 := ⟨_, rfl, by decide, xt 32 (by decide +kernel) rfl⟩
theorem fp_4_65 : xlp RX4 65 7 0 .long := ⟨_, rfl, by decide, xt 32 (by decide +kernel) rfl, rfl, by decide +kernel⟩
theorem fk_8_297 : xlk RX8 297 7 0 := ⟨_, rfl, by decide, xt 33 (by decide +kernel) rfl⟩
theorem fp_8_297 : xlp RX8 297 7 0 .long := ⟨_, rfl, by decide, xt 33 (by decide +kernel) rfl, rfl, by decide +kernel⟩
theorem fk_7_15 : xlk RX7 15 7 1 := ⟨_, rfl, by decide, xt 34 (by decide +kernel) rfl⟩
theorem fp_7_15 : xlp RX7 15 7 1 .int := ⟨_, rfl, by decide, xt 34 (by decide +kernel) rfl, rfl, by decide +kernel⟩
theorem fk_4_69 : xlk RX4 69 7 1 := ⟨_, rfl, by decide, xt 35 (by decide +kernel) rfl⟩
theorem fp_4_69 : xlp RX4 69 7 1 .int := ⟨_, rfl, by decide, xt 35 (by decide +kernel) rfl, rfl, by decide +kernel⟩
theorem fk_6_100 : xlk RX6 100 7 1 := ⟨_, rfl, by decide, xt 36 (by decide +kernel) rfl⟩
theorem fp_6_100 : xlp RX6 100 7 1 .int := ⟨_, rfl, by decide, xt 36 (by decide +kernel) rfl, rfl, by decide +kernel⟩
theorem fk_2_85 : xlk RX2 85 7 1 := ⟨_, rfl, by decide, xt 37 (by decide +kernel) rfl⟩
theorem fp_2_85 : xlp RX2 85 7 1 .int := ⟨_, rfl, by decide, xt 37 (by decide +kernel) rfl, rfl, by decide +kernel⟩
theorem fk_8_163 : xlk RX8 163 7 1 := ⟨_, rfl, by decide, xt 38 (by decide +kernel) rfl⟩
theorem fp_8_163 : xlp RX8 163 7 1 .int := ⟨_, rfl, by decide, xt 38 (by decide +kernel) rfl, rfl, by decide +kernel⟩
theorem fk_3_9 : xlk RX3 9 3 0 := ⟨_, rfl, by decide, xt 51 (by decide +kernel) rfl⟩
theorem fk_8_130 : xlk RX8 130 3 0 := ⟨_, rfl, by decide, xt 52 (by decide +kernel) rfl⟩
theorem fk_3_15 : xlk RX3 15 3 1 := ⟨_, rfl, by decide, xt 53 (by decide +kernel) rfl⟩
theorem fk_8_133 : xlk RX8 133 3 1 := ⟨_, rfl, by decide, xt 54 (by decide +kernel) rfl⟩
theorem fk_3_18 : xlk RX3 18 3 2 := ⟨_, rfl, by decide, xt 55 (by decide +kernel) rfl⟩
theorem fk_2_58 : xlk RX2 58 3 2 := ⟨_, rfl, by decide, xt 56 (by decide +kernel) rfl⟩
theorem fk_7_22 : xlk RX7 22 3 2 := ⟨_, rfl, by decide, xt 57 (by decide +kernel) rfl⟩
theorem fk_3_21 : xlk RX3 21 3 3 := ⟨_, rfl, by decide, xt 58 (by decide +kernel) rfl⟩
theorem fk_2_61 : xlk RX2 61 3 3 := ⟨_, rfl, by decide, xt 59 (by decide +kernel) rfl⟩
theorem fk_7_28 : xlk RX7 28 3 3 := ⟨_, rfl, by decide, xt 60 (by decide +kernel) rfl⟩
theorem fk_3_24 : xlk RX3 24 3 4 := ⟨_, rfl, by decide, xt 61 (by decide +kernel) rfl⟩
theorem fk_2_51 : xlk RX2 51 3 4 := ⟨_, rfl, by decide, xt 62 (by decide +kernel) rfl⟩
theorem fk_6_103 : xlk RX6 103 3 4 := ⟨_, rfl, by decide, xt 63 (by decide +kernel) rfl⟩
theorem fk_3_27 : xlk RX3 27 3 5 := ⟨_, rfl, by decide, xt 64 (by decide +kernel) rfl⟩
theorem fp_3_27 : xlp RX3 27 3 5 .int := ⟨_, rfl, by decide, xt 64 (by decide +kernel) rfl, rfl, by decide +kernel⟩
theorem fk_2_48 : xlk RX2 48 3 5 := ⟨_, rfl, by decide, xt 65 (by decide +kernel) rfl⟩
theorem fp_2_48 : xlp RX2 48 3 5 .int := ⟨_, rfl, by decide, xt 65 (by decide +kernel) rfl, rfl, by decide +kernel⟩
theorem fk_6_93 : xlk RX6 93 3 5 := ⟨_, rfl, by decide, xt 66 (by decide +kernel) rfl⟩
theorem fp_6_93 : xlp RX6 93 3 5 .int := ⟨_, rfl, by decide, xt 66 (by decide +kernel) rfl, rfl, by decide +kernel⟩
theorem fk_8_142 : xlk RX8 142 3 5 := ⟨_, rfl, by decide, xt 67 (by decide +kernel) rfl⟩
theorem fp_8_142 : xlp RX8 142 3 5 .int := ⟨_, rfl, by decide, xt 67 (by decide +kernel) rfl, rfl, by decide +kernel⟩
theorem fk_3_31 : xlk RX3 31 3 6 := ⟨_, rfl, by decide, xt 68 (by decide +kernel) rfl⟩
theorem fp_3_31 : xlp RX3 31 3 6 .int := ⟨_, rfl, by decide, xt 68 (by decide +kernel) rfl, rfl, by decide +kernel⟩
theorem fk_2_43 : xlk RX2 43 3 6 := ⟨_, rfl, by decide, xt 69 (by decide +kernel) rfl⟩
theorem fp_2_43 : xlp RX2 43 3 6 .int := ⟨_, rfl, by decide, xt 69 (by decide +kernel) rfl, rfl, by decide +kernel⟩
theorem fk_4_90 : xlk RX4 90 3 6 := ⟨_, rfl, by decide, xt 70 (by decide +kernel) rfl⟩
theorem fp_4_90 : xlp RX4 90 3 6 .int := ⟨_, rfl, by decide, xt 70 (by decide +kernel) rfl, rfl, by decide +kernel⟩
theorem fk_8_136 : xlk RX8 136 3 6 := ⟨_, rfl, by decide, xt 71 (by decide +kernel) rfl⟩
theorem fp_8_136 : xlp RX8 136 3 6 .int := ⟨_, rfl, by decide, xt 71 (by decide +kernel) rfl, rfl, by decide +kernel⟩
theorem fk_6_131 : xlk RX6 131 3 6 := ⟨_, rfl, by decide, xt 72 (by decide +kernel) rfl⟩
theorem fp_6_131 : xlp RX6 131 3 6 .int := ⟨_, rfl, by decide, xt 72 (by decide +kernel) rfl, rfl, by decide +kernel⟩
theorem fk_3_34 : xlk RX3 34 3 7 := ⟨_, rfl, by decide, xt 73 (by decide +kernel) rfl⟩
theorem fp_3_34 : xlp RX3 34 3 7 .int := ⟨_, rfl, by decide, xt 73 (by decide +kernel) rfl, rfl, by decide +kernel⟩
theorem fk_8_102 : xlk RX8 102 3 7 := ⟨_, rfl, by decide, xt 74 (by decide +kernel) rfl⟩
theorem fp_8_102 : xlp RX8 102 3 7 .int := ⟨_, rfl, by decide, xt 74 (by decide +kernel) rfl, rfl, by decide +kernel⟩
theorem fk_3_37 : xlk RX3 37 3 8 := ⟨_, rfl, by decide, xt 75 (by decide +kernel) rfl⟩
theorem fp_3_37 : xlp RX3 37 3 8 .int := ⟨_, rfl, by decide, xt 75 (by decide +kernel) rfl, rfl, by decide +kernel⟩
theorem fk_3_40 : xlk RX3 40 3 9 := ⟨_, rfl, by decide, xt 76 (by decide +kernel) rfl⟩
theorem fp_3_40 : xlp RX3 40 3 9 .boolean := ⟨_, rfl, by decide, xt 76 (by decide +kernel) rfl, rfl, by decide +kernel⟩
theorem fk_6_52 : xlk RX6 52 3 9 := ⟨_, rfl, by decide, xt 77 (by decide +kernel) rfl⟩
theorem fp_6_52 : xlp RX6 52 3 9 .boolean := ⟨_, rfl, by decide, xt 77 (by decide +kernel) rfl, rfl, by decide +kernel⟩
theorem fk_8_139 : xlk RX8 139 3 9 := ⟨_, rfl, by decide, xt 78 (by decide +kernel) rfl⟩
theorem fp_8_139 : xlp RX8 139 3 9 .boolean := ⟨_, rfl, by decide, xt 78 (by decide +kernel) rfl, rfl, by decide +kernel⟩
theorem fk_2_11 : xlk RX2 11 2 0 := ⟨_, rfl, by decide, xt 106 (by decide +kernel) rfl⟩
theorem fk_2_15 : xlk RX2 15 2 1 := ⟨_, rfl, by decide, xt 107 (by decide +kernel) rfl⟩
theorem fk_2_18 : xlk RX2 18 2 2 := ⟨_, rfl, by decide, xt 108 (by decide +kernel) rfl⟩
theorem fk_2_21 : xlk RX2 21 2 3 := ⟨_, rfl, by decide, xt 109 (by decide +kernel) rfl⟩
theorem fk_8_240 : xlk RX8 240 2 3 := ⟨_, rfl, by decide, xt 110 (by decide +kernel) rfl⟩
theorem fk_2_24 : xlk RX2 24 2 4 := ⟨_, rfl, by decide, xt 111 (by decide +kernel) rfl⟩
theorem fk_8_253 : xlk RX8 253 2 4 := ⟨_, rfl, by decide, xt 112 (by decide +kernel) rfl⟩
theorem fk_2_27 : xlk RX2 27 2 5 := ⟨_, rfl, by decide, xt 113 (by decide +kernel) rfl⟩
theorem fk_2_30 : xlk RX2 30 2 6 := ⟨_, rfl, by decide, xt 114 (by decide +kernel) rfl⟩
theorem fk_2_33 : xlk RX2 33 2 7 := ⟨_, rfl, by decide, xt 115 (by decide +kernel) rfl⟩
theorem fp_2_33 : xlp RX2 33 2 7 .int := ⟨_, rfl, by decide, xt 115 (by decide +kernel) rfl, rfl, by decide +kernel⟩
theorem fk_0_16 : xlk RX0 16 0 0 := ⟨_, rfl, by decide, xt 145 (by decide +kernel) rfl⟩
theorem fk_1_50 : xlk RX1 50 0 0 := ⟨_, rfl, by decide, xt 146 (by decide +kernel) rfl⟩
theorem fk_4_76 : xlk RX4 76 0 0 := ⟨_, rfl, by decide, xt 147 (by decide +kernel) rfl⟩
theorem fk_0_20 : xlk RX0 20 0 1 := ⟨_, rfl, by decide, xt 148 (by decide +kernel) rfl⟩
theorem fk_4_80 : xlk RX4 80 0 1 := ⟨_, rfl, by decide, xt 149 (by decide +kernel) rfl⟩
theorem fk_0_24 : xlk RX0 24 0 2 := ⟨_, rfl, by decide, xt 150 (by decide +kernel) rfl⟩
theorem fk_0_9 : xlk RX0 9 0 3 := ⟨_, rfl, by decide, xt 151 (by decide +kernel) rfl⟩
theorem fp_0_9 : xlp RX0 9 0 3 .int := ⟨_, rfl, by decide, xt 151 (by decide +kernel) rfl, rfl, by decide +kernel⟩
theorem fk_1_41 : xlk RX1 41 0 3 := ⟨_, rfl, by decide, xt 152 (by decide +kernel) rfl⟩
theorem fp_1_41 : xlp RX1 41 0 3 .int := ⟨_, rfl, by decide, xt 152 (by decide +kernel) rfl, rfl, by decide +kernel⟩
theorem fk_6_75 : xlk RX6 75 0 3 := ⟨_, rfl, by decide, xt 153 (by decide +kernel) rfl⟩
theorem fp_6_75 : xlp RX6 75 0 3 .int := ⟨_, rfl, by decide, xt 153 (by decide +kernel) rfl, rfl, by decide +kernel⟩
theorem fk_4_93 : xlk RX4 93 0 3 := ⟨_, rfl, by decide, xt 154 (by decide +kernel) rfl⟩
theorem fp_4_93 : xlp RX4 93 0 3 .int := ⟨_, rfl, by decide, xt 154 (by decide +kernel) rfl, rfl, by decide +kernel⟩
theorem fk_8_212 : xlk RX8 212 0 3 := ⟨_, rfl, by decide, xt 155 (by decide +kernel) rfl⟩
theorem fp_8_212 : xlp RX8 212 0 3 .int := ⟨_, rfl, by decide, xt 155 (by decide +kernel) rfl, rfl, by decide +kernel⟩
theorem fk_0_13 : xlk RX0 13 0 4 := ⟨_, rfl, by decide, xt 156 (by decide +kernel) rfl⟩
theorem fp_0_13 : xlp RX0 13 0 4 .int := ⟨_, rfl, by decide, xt 156 (by decide +kernel) rfl, rfl, by decide +kernel⟩
theorem fk_1_14 : xlk RX1 14 1 0 := ⟨_, rfl, by decide, xt 169 (by decide +kernel) rfl⟩
theorem fk_8_267 : xlk RX8 267 1 0 := ⟨_, rfl, by decide, xt 170 (by decide +kernel) rfl⟩
theorem fk_1_20 : xlk RX1 20 1 1 := ⟨_, rfl, by decide, xt 171 (by decide +kernel) rfl⟩
theorem fk_1_24 : xlk RX1 24 1 2 := ⟨_, rfl, by decide, xt 172 (by decide +kernel) rfl⟩
theorem fp_1_24 : xlp RX1 24 1 2 .int := ⟨_, rfl, by decide, xt 172 (by decide +kernel) rfl, rfl, by decide +kernel⟩
theorem fk_1_28 : xlk RX1 28 1 3 := ⟨_, rfl, by decide, xt 173 (by decide +kernel) rfl⟩
theorem fp_1_28 : xlp RX1 28 1 3 .int := ⟨_, rfl, by decide, xt 173 (by decide +kernel) rfl, rfl, by decide +kernel⟩
theorem fk_4_14 : xlk RX4 14 4 0 := ⟨_, rfl, by decide, xt 193 (by decide +kernel) rfl⟩
theorem fk_6_71 : xlk RX6 71 4 0 := ⟨_, rfl, by decide, xt 194 (by decide +kernel) rfl⟩
theorem fk_8_208 : xlk RX8 208 4 0 := ⟨_, rfl, by decide, xt 195 (by decide +kernel) rfl⟩
theorem fk_4_20 : xlk RX4 20 4 1 := ⟨_, rfl, by decide, xt 196 (by decide +kernel) rfl⟩
theorem fk_4_23 : xlk RX4 23 4 2 := ⟨_, rfl, by decide, xt 197 (by decide +kernel) rfl⟩
theorem fk_4_27 : xlk RX4 27 4 3 := ⟨_, rfl, by decide, xt 198 (by decide +kernel) rfl⟩
theorem fk_4_30 : xlk RX4 30 4 4 := ⟨_, rfl, by decide, xt 199 (by decide +kernel) rfl⟩
theorem fk_6_152 : xlk RX6 152 4 4 := ⟨_, rfl, by decide, xt 200 (by decide +kernel) rfl⟩
theorem fk_4_33 : xlk RX4 33 4 5 := ⟨_, rfl, by decide, xt 201 (by decide +kernel) rfl⟩
theorem fk_4_36 : xlk RX4 36 4 6 := ⟨_, rfl, by decide, xt 202 (by decide +kernel) rfl⟩
theorem fk_4_42 : xlk RX4 42 4 7 := ⟨_, rfl, by decide, xt 203 (by decide +kernel) rfl⟩
theorem fk_4_46 : xlk RX4 46 4 8 := ⟨_, rfl, by decide, xt 204 (by decide +kernel) rfl⟩
theorem fp_4_46 : xlp RX4 46 4 8 .int := ⟨_, rfl, by decide, xt 204 (by decide +kernel) rfl, rfl, by decide +kernel⟩
theorem fk_4_50 : xlk RX4 50 4 9 := ⟨_, rfl, by decide, xt 205 (by decide +kernel) rfl⟩
theorem fp_4_50 : xlp RX4 50 4 9 .int := ⟨_, rfl, by decide, xt 205 (by decide +kernel) rfl, rfl, by decide +kernel⟩
theorem fk_4_53 : xlk RX4 53 4 10 := ⟨_, rfl, by decide, xt 206 (by decide +kernel) rfl⟩
theorem fp_4_53 : xlp RX4 53 4 10 .int := ⟨_, rfl, by decide, xt 206 (by decide +kernel) rfl, rfl, by decide +kernel⟩
theorem fk_4_56 : xlk RX4 56 4 11 := ⟨_, rfl, by decide, xt 207 (by decide +kernel) rfl⟩
theorem fp_4_56 : xlp RX4 56 4 11 .int := ⟨_, rfl, by decide, xt 207 (by decide +kernel) rfl, rfl, by decide +kernel⟩
theorem fk_8_217 : xlk RX8 217 4 11 := ⟨_, rfl, by decide, xt 208 (by decide +kernel) rfl⟩
theorem fp_8_217 : xlp RX8 217 4 11 .int := ⟨_, rfl, by decide, xt 208 (by decide +kernel) rfl, rfl, by decide +kernel⟩
theorem fk_4_59 : xlk RX4 59 4 12 := ⟨_, rfl, by decide, xt 209 (by decide +kernel) rfl⟩
theorem fp_4_59 : xlp RX4 59 4 12 .int := ⟨_, rfl, by decide, xt 209 (by decide +kernel) rfl, rfl, by decide +kernel⟩
theorem fk_6_12 : xlk RX6 12 6 0 := ⟨_, rfl, by decide, xt 247 (by decide +kernel) rfl⟩
theorem fk_8_273 : xlk RX8 273 6 0 := ⟨_, rfl, by decide, xt 248 (by decide +kernel) rfl⟩
theorem fk_6_21 : xlk RX6 21 6 1 := ⟨_, rfl, by decide, xt 249 (by decide +kernel) rfl⟩
theorem fk_6_25 : xlk RX6 25 6 2 := ⟨_, rfl, by decide, xt 250 (by decide +kernel) rfl⟩
theorem fk_6_28 : xlk RX6 28 6 3 := ⟨_, rfl, by decide, xt 251 (by decide +kernel) rfl⟩
theorem fk_8_290 : xlk RX8 290 6 3 := ⟨_, rfl, by decide, xt 252 (by decide +kernel) rfl⟩
theorem fk_6_32 : xlk RX6 32 6 4 := ⟨_, rfl, by decide, xt 253 (by decide +kernel) rfl⟩
theorem fk_6_35 : xlk RX6 35 6 5 := ⟨_, rfl, by decide, xt 254 (by decide +kernel) rfl⟩
theorem fk_6_38 : xlk RX6 38 6 6 := ⟨_, rfl, by decide, xt 255 (by decide +kernel) rfl⟩
theorem fp_6_38 : xlp RX6 38 6 6 .int := ⟨_, rfl, by decide, xt 255 (by decide +kernel) rfl, rfl, by decide +kernel⟩
theorem fk_8_287 : xlk RX8 287 6 6 := ⟨_, rfl, by decide, xt 256 (by decide +kernel) rfl⟩
theorem fp_8_287 : xlp RX8 287 6 6 .int := ⟨_, rfl, by decide, xt 256 (by decide +kernel) rfl, rfl, by decide +kernel⟩
theorem fk_6_42 : xlk RX6 42 6 7 := ⟨_, rfl, by decide, xt 257 (by decide +kernel) rfl⟩
theorem fp_6_42 : xlp RX6 42 6 7 .int := ⟨_, rfl, by decide, xt 257 (by decide +kernel) rfl, rfl, by decide +kernel⟩
theorem fk_6_45 : xlk RX6 45 6 8 := ⟨_, rfl, by decide, xt 258 (by decide +kernel) rfl⟩
theorem fp_6_45 : xlp RX6 45 6 8 .int := ⟨_, rfl, by decide, xt 258 (by decide +kernel) rfl, rfl, by decide +kernel⟩
theorem fk_6_48 : xlk RX6 48 6 9 := ⟨_, rfl, by decide, xt 259 (by decide +kernel) rfl⟩
theorem fp_6_48 : xlp RX6 48 6 9 .boolean := ⟨_, rfl, by decide, xt 259 (by decide +kernel) rfl, rfl, by decide +kernel⟩
theorem fk_5_9 : xlk RX5 9 5 0 := ⟨_, rfl, by decide, xt 286 (by decide +kernel) rfl⟩
theorem fk_8_85 : xlk RX8 85 5 0 := ⟨_, rfl, by decide, xt 287 (by decide +kernel) rfl⟩
theorem fk_3_53 : xlk RX3 53 5 0 := ⟨_, rfl, by decide, xt 288 (by decide +kernel) rfl⟩
theorem fk_5_21 : xlk RX5 21 5 1 := ⟨_, rfl, by decide, xt 289 (by decide +kernel) rfl⟩
theorem fp_5_21 : xlp RX5 21 5 1 .boolean := ⟨_, rfl, by decide, xt 289 (by decide +kernel) rfl, rfl, by decide +kernel⟩
theorem fk_8_74 : xlk RX8 74 5 1 := ⟨_, rfl, by decide, xt 290 (by decide +kernel) rfl⟩
theorem fp_8_74 : xlp RX8 74 5 1 .boolean := ⟨_, rfl, by decide, xt 290 (by decide +kernel) rfl, rfl, by decide +kernel⟩
theorem fk_5_25 : xlk RX5 25 5 2 := ⟨_, rfl, by decide, xt 291 (by decide +kernel) rfl⟩
theorem fp_5_25 : xlp RX5 25 5 2 .int := ⟨_, rfl, by decide, xt 291 (by decide +kernel) rfl, rfl, by decide +kernel⟩
theorem fk_5_29 : xlk RX5 29 5 3 := ⟨_, rfl, by decide, xt 292 (by decide +kernel) rfl⟩
theorem fp_5_29 : xlp RX5 29 5 3 .int := ⟨_, rfl, by decide, xt 292 (by decide +kernel) rfl, rfl, by decide +kernel⟩
theorem fk_8_11 : xlk RX8 11 8 0 := ⟨_, rfl, by decide, xt 302 (by decide +kernel) rfl⟩
theorem fk_8_17 : xlk RX8 17 8 1 := ⟨_, rfl, by decide, xt 303 (by decide +kernel) rfl⟩
theorem fk_8_21 : xlk RX8 21 8 2 := ⟨_, rfl, by decide, xt 304 (by decide +kernel) rfl⟩
theorem fk_8_26 : xlk RX8 26 8 3 := ⟨_, rfl, by decide, xt 305 (by decide +kernel) rfl⟩
theorem fk_8_33 : xlk RX8 33 8 4 := ⟨_, rfl, by decide, xt 306 (by decide +kernel) rfl⟩
theorem fk_8_40 : xlk RX8 40 8 5 := ⟨_, rfl, by decide, xt 307 (by decide +kernel) rfl⟩
theorem fk_8_47 : xlk RX8 47 8 6 := ⟨_, rfl, by decide, xt 308 (by decide +kernel) rfl⟩
theorem fk_8_54 : xlk RX8 54 8 7 := ⟨_, rfl, by decide, xt 309 (by decide +kernel) rfl⟩
theorem fk_8_61 : xlk RX8 61 8 8 := ⟨_, rfl, by decide, xt 310 (by decide +kernel) rfl⟩
theorem fk_9_7 : xlk RX9 7 9 0 := ⟨_, rfl, by decide, xt 847 (by decide +kernel) rfl⟩
theorem fk_9_13 : xlk RX9 13 9 1 := ⟨_, rfl, by decide, xt 848 (by decide +kernel) rfl⟩
theorem fk_9_16 : xlk RX9 16 9 2 := ⟨_, rfl, by decide, xt 849 (by decide +kernel) rfl⟩
theorem fk_9_19 : xlk RX9 19 9 3 := ⟨_, rfl, by decide, xt 850 (by decide +kernel) rfl⟩
theorem fp_9_19 : xlp RX9 19 9 3 .int := ⟨_, rfl, by decide, xt 850 (by decide +kernel) rfl, rfl, by decide +kernel⟩
theorem fk_9_116 : xlk RX9 116 9 4 := ⟨_, rfl, by decide, xt 851 (by decide +kernel) rfl⟩
theorem fp_9_116 : xlp RX9 116 9 4 .int := ⟨_, rfl, by decide, xt 851 (by decide +kernel) rfl, rfl, by decide +kernel⟩
theorem fk_9_23 : xlk RX9 23 9 5 := ⟨_, rfl, by decide, xt 852 (by decide +kernel) rfl⟩
theorem fk_9_26 : xlk RX9 26 9 6 := ⟨_, rfl, by decide, xt 853 (by decide +kernel) rfl⟩
theorem fk_9_29 : xlk RX9 29 9 7 := ⟨_, rfl, by decide, xt 854 (by decide +kernel) rfl⟩
theorem fk_9_32 : xlk RX9 32 9 8 := ⟨_, rfl, by decide, xt 855 (by decide +kernel) rfl⟩
theorem fk_9_35 : xlk RX9 35 9 9 := ⟨_, rfl, by decide, xt 856 (by decide +kernel) rfl⟩
theorem fk_9_39 : xlk RX9 39 9 10 := ⟨_, rfl, by decide, xt 857 (by decide +kernel) rfl⟩
theorem fk_9_127 : xlk RX9 127 9 11 := ⟨_, rfl, by decide, xt 858 (by decide +kernel) rfl⟩
theorem fp_9_127 : xlp RX9 127 9 11 .int := ⟨_, rfl, by decide, xt 858 (by decide +kernel) rfl, rfl, by decide +kernel⟩
theorem fk_9_42 : xlk RX9 42 9 12 := ⟨_, rfl, by decide, xt 859 (by decide +kernel) rfl⟩
theorem fk_9_147 : xlk RX9 147 9 13 := ⟨_, rfl, by decide, xt 860 (by decide +kernel) rfl⟩
theorem fp_9_147 : xlp RX9 147 9 13 .int := ⟨_, rfl, by decide, xt 860 (by decide +kernel) rfl, rfl, by decide +kernel⟩
theorem fk_9_150 : xlk RX9 150 9 14 := ⟨_, rfl, by decide, xt 861 (by decide +kernel) rfl⟩
theorem fp_9_150 : xlp RX9 150 9 14 .int := ⟨_, rfl, by decide, xt 861 (by decide +kernel) rfl, rfl, by decide +kernel⟩
theorem fk_9_45 : xlk RX9 45 9 15 := ⟨_, rfl, by decide, xt 862 (by decide +kernel) rfl⟩
theorem fk_9_156 : xlk RX9 156 9 16 := ⟨_, rfl, by decide, xt 863 (by decide +kernel) rfl⟩
theorem fp_9_156 : xlp RX9 156 9 16 .int := ⟨_, rfl, by decide, xt 863 (by decide +kernel) rfl, rfl, by decide +kernel⟩
theorem fk_9_48 : xlk RX9 48 9 17 := ⟨_, rfl, by decide, xt 864 (by decide +kernel) rfl⟩
theorem fk_9_51 : xlk RX9 51 9 18 := ⟨_, rfl, by decide, xt 865 (by decide +kernel) rfl⟩
theorem fk_9_54 : xlk RX9 54 9 19 := ⟨_, rfl, by decide, xt 866 (by decide +kernel) rfl⟩
theorem fk_9_57 : xlk RX9 57 9 20 := ⟨_, rfl, by decide, xt 867 (by decide +kernel) rfl⟩
theorem fk_9_178 : xlk RX9 178 9 21 := ⟨_, rfl, by decide, xt 868 (by decide +kernel) rfl⟩
theorem fp_9_178 : xlp RX9 178 9 21 .int := ⟨_, rfl, by decide, xt 868 (by decide +kernel) rfl, rfl, by decide +kernel⟩
theorem fk_9_185 : xlk RX9 185 9 22 := ⟨_, rfl, by decide, xt 869 (by decide +kernel) rfl⟩
theorem fp_9_185 : xlp RX9 185 9 22 .int := ⟨_, rfl, by decide, xt 869 (by decide +kernel) rfl, rfl, by decide +kernel⟩
theorem fk_9_60 : xlk RX9 60 9 23 := ⟨_, rfl, by decide, xt 870 (by decide +kernel) rfl⟩
theorem fk_9_63 : xlk RX9 63 9 24 := ⟨_, rfl, by decide, xt 871 (by decide +kernel) rfl⟩
theorem fk_9_66 : xlk RX9 66 9 25 := ⟨_, rfl, by decide, xt 872 (by decide +kernel) rfl⟩
theorem fk_9_203 : xlk RX9 203 9 26 := ⟨_, rfl, by decide, xt 873 (by decide +kernel) rfl⟩
theorem fp_9_203 : xlp RX9 203 9 26 .int := ⟨_, rfl, by decide, xt 873 (by decide +kernel) rfl, rfl, by decide +kernel⟩
theorem fk_9_206 : xlk RX9 206 9 27 := ⟨_, rfl, by decide, xt 874 (by decide +kernel) rfl⟩
theorem fp_9_206 : xlp RX9 206 9 27 .int := ⟨_, rfl, by decide, xt 874 (by decide +kernel) rfl, rfl, by decide +kernel⟩
theorem fk_9_226 : xlk RX9 226 9 28 := ⟨_, rfl, by decide, xt 875 (by decide +kernel) rfl⟩
theorem fp_9_226 : xlp RX9 226 9 28 .int := ⟨_, rfl, by decide, xt 875 (by decide +kernel) rfl, rfl, by decide +kernel⟩
theorem fk_9_69 : xlk RX9 69 9 29 := ⟨_, rfl, by decide, xt 876 (by decide +kernel) rfl⟩
theorem fk_9_72 : xlk RX9 72 9 30 := ⟨_, rfl, by decide, xt 877 (by decide +kernel) rfl⟩
theorem fk_9_75 : xlk RX9 75 9 31 := ⟨_, rfl, by decide, xt 878 (by decide +kernel) rfl⟩
theorem fk_9_78 : xlk RX9 78 9 32 := ⟨_, rfl, by decide, xt 879 (by decide +kernel) rfl⟩
theorem fk_9_252 : xlk RX9 252 9 33 := ⟨_, rfl, by decide, xt 880 (by decide +kernel) rfl⟩
theorem fp_9_252 : xlp RX9 252 9 33 .int := ⟨_, rfl, by decide, xt 880 (by decide +kernel) rfl, rfl, by decide +kernel⟩
theorem fk_9_261 : xlk RX9 261 9 34 := ⟨_, rfl, by decide, xt 881 (by decide +kernel) rfl⟩
theorem fp_9_261 : xlp RX9 261 9 34 .int := ⟨_, rfl, by decide, xt 881 (by decide +kernel) rfl, rfl, by decide +kernel⟩
theorem fk_9_81 : xlk RX9 81 9 35 := ⟨_, rfl, by decide, xt 882 (by decide +kernel) rfl⟩
theorem fk_9_84 : xlk RX9 84 9 36 := ⟨_, rfl, by decide, xt 883 (by decide +kernel) rfl⟩
theorem fk_9_88 : xlk RX9 88 9 37 := ⟨_, rfl, by decide, xt 884 (by decide +kernel) rfl⟩
theorem fk_9_278 : xlk RX9 278 9 38 := ⟨_, rfl, by decide, xt 885 (by decide +kernel) rfl⟩
theorem fp_9_278 : xlp RX9 278 9 38 .int := ⟨_, rfl, by decide, xt 885 (by decide +kernel) rfl, rfl, by decide +kernel⟩
theorem fk_9_91 : xlk RX9 91 9 39 := ⟨_, rfl, by decide, xt 886 (by decide +kernel) rfl⟩
theorem fk_9_94 : xlk RX9 94 9 40 := ⟨_, rfl, by decide, xt 887 (by decide +kernel) rfl⟩
theorem fk_9_299 : xlk RX9 299 9 41 := ⟨_, rfl, by decide, xt 888 (by decide +kernel) rfl⟩
theorem fp_9_299 : xlp RX9 299 9 41 .int := ⟨_, rfl, by decide, xt 888 (by decide +kernel) rfl, rfl, by decide +kernel⟩
theorem cs_8_84 : Cond.constant RX8 84 (-2147483648) ∈ xw := xt 360 (by decide +kernel) rfl
theorem cs_0_27 : Cond.constant RX0 27 (500000) ∈ xw := xt 566 (by decide +kernel) rfl
theorem cs_0_38 : Cond.constantLong RX0 38 (-7046029254386353131) ∈ xw := xt 580 (by decide +kernel) rfl
theorem cs_2_83 : Cond.constantLong RX2 83 (1000000) ∈ xw := xt 684 (by decide +kernel) rfl
theorem cs_1_61 : Cond.constantLong RX1 61 (15) ∈ xw := xt 757 (by decide +kernel) rfl
theorem cs_9_97 : Cond.constantLong RX9 97 (3) ∈ xw := xt 982 (by decide +kernel) rfl
theorem cs_9_109 : Cond.constantLong RX9 109 (2) ∈ xw := xt 986 (by decide +kernel) rfl
theorem cs_9_113 : Cond.constant RX9 113 (-2147483648) ∈ xw := xt 995 (by decide +kernel) rfl
theorem cs_9_114 : Cond.constantLong RX9 114 (4) ∈ xw := xt 1004 (by decide +kernel) rfl
theorem cs_9_119 : Cond.constantLong RX9 119 (-1) ∈ xw := xt 1009 (by decide +kernel) rfl
theorem cs_9_103 : Cond.constantLong RX9 103 (7) ∈ xw := xt 1010 (by decide +kernel) rfl
theorem cs_9_242 : Cond.constantLong RX9 242 (1000000) ∈ xw := xt 1185 (by decide +kernel) rfl
theorem cs_9_276 : Cond.constantLong RX9 276 (-7046029254386353131) ∈ xw := xt 1237 (by decide +kernel) rfl
theorem cs_9_281 : Cond.constantLong RX9 281 (15) ∈ xw := xt 1242 (by decide +kernel) rfl
theorem cs_9_291 : Cond.constantLong RX9 291 (5) ∈ xw := xt 1251 (by decide +kernel) rfl
theorem bi_m8 : (Int8.ofInt (-8)).toInt32 = (-8 : Int32) := by decide
theorem bi_m7 : (Int8.ofInt (-7)).toInt32 = (-7 : Int32) := by decide
theorem bi_m6 : (Int8.ofInt (-6)).toInt32 = (-6 : Int32) := by decide
theorem bi_m5 : (Int8.ofInt (-5)).toInt32 = (-5 : Int32) := by decide
theorem bi_m4 : (Int8.ofInt (-4)).toInt32 = (-4 : Int32) := by decide
theorem bi_m3 : (Int8.ofInt (-3)).toInt32 = (-3 : Int32) := by decide
theorem bi_m2 : (Int8.ofInt (-2)).toInt32 = (-2 : Int32) := by decide
theorem bi_8 : (Int8.ofInt (8)).toInt32 = (8 : Int32) := by decide
theorem bi_9 : (Int8.ofInt (9)).toInt32 = (9 : Int32) := by decide
theorem bi_10 : (Int8.ofInt (10)).toInt32 = (10 : Int32) := by decide
theorem bi_11 : (Int8.ofInt (11)).toInt32 = (11 : Int32) := by decide
theorem bi_12 : (Int8.ofInt (12)).toInt32 = (12 : Int32) := by decide
theorem bi_14 : (Int8.ofInt (14)).toInt32 = (14 : Int32) := by decide
theorem bi_15 : (Int8.ofInt (15)).toInt32 = (15 : Int32) := by decide
theorem bi_16 : (Int8.ofInt (16)).toInt32 = (16 : Int32) := by decide
theorem bi_20 : (Int8.ofInt (20)).toInt32 = (20 : Int32) := by decide
theorem bi_32 : (Int8.ofInt (32)).toInt32 = (32 : Int32) := by decide
theorem bi_34 : (Int8.ofInt (34)).toInt32 = (34 : Int32) := by decide
theorem bi_40 : (Int8.ofInt (40)).toInt32 = (40 : Int32) := by decide
theorem bi_51 : (Int8.ofInt (51)).toInt32 = (51 : Int32) := by decide
theorem bi_64 : (Int8.ofInt (64)).toInt32 = (64 : Int32) := by decide
theorem bi_100 : (Int8.ofInt (100)).toInt32 = (100 : Int32) := by decide
theorem si_160 : (Int16.ofInt (160)).toInt32 = (160 : Int32) := by decide
theorem si_200 : (Int16.ofInt (200)).toInt32 = (200 : Int32) := by decide
theorem si_201 : (Int16.ofInt (201)).toInt32 = (201 : Int32) := by decide
theorem si_256 : (Int16.ofInt (256)).toInt32 = (256 : Int32) := by decide
theorem si_408 : (Int16.ofInt (408)).toInt32 = (408 : Int32) := by decide
theorem si_512 : (Int16.ofInt (512)).toInt32 = (512 : Int32) := by decide
theorem si_800 : (Int16.ofInt (800)).toInt32 = (800 : Int32) := by decide
theorem si_804 : (Int16.ofInt (804)).toInt32 = (804 : Int32) := by decide
theorem si_2800 : (Int16.ofInt (2800)).toInt32 = (2800 : Int32) := by decide
theorem si_3000 : (Int16.ofInt (3000)).toInt32 = (3000 : Int32) := by decide
theorem si_3001 : (Int16.ofInt (3001)).toInt32 = (3001 : Int32) := by decide
theorem si_3015 : (Int16.ofInt (3015)).toInt32 = (3015 : Int32) := by decide
theorem si_3216 : (Int16.ofInt (3216)).toInt32 = (3216 : Int32) := by decide
theorem si_4095 : (Int16.ofInt (4095)).toInt32 = (4095 : Int32) := by decide
theorem si_4096 : (Int16.ofInt (4096)).toInt32 = (4096 : Int32) := by decide
theorem si_8192 : (Int16.ofInt (8192)).toInt32 = (8192 : Int32) := by decide
theorem ii_m1 : Int32.ofInt (-1) = (-1 : Int32) := by decide
theorem ii_1 : Int32.ofInt (1) = (1 : Int32) := by decide
