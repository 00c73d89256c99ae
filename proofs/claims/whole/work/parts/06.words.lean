theorem in_t1 {w : Cond} (h : w ∈ tables_1_1) : w ∈ tables_1 := List.mem_append_left _ h
theorem in_t2 {w : Cond} (h : w ∈ tables_1_2) : w ∈ tables_1 := List.mem_append_right _ (List.mem_append_left _ h)
theorem in_t3 {w : Cond} (h : w ∈ tables_1_3) : w ∈ tables_1 := List.mem_append_right _ (List.mem_append_right _ (List.mem_append_left _ h))
theorem in_t4 {w : Cond} (h : w ∈ tables_1_4) : w ∈ tables_1 := List.mem_append_right _ (List.mem_append_right _ (List.mem_append_right _ (List.mem_append_left _ h)))
theorem in_t5 {w : Cond} (h : w ∈ tables_1_5) : w ∈ tables_1 := List.mem_append_right _ (List.mem_append_right _ (List.mem_append_right _ (List.mem_append_right _ (List.mem_append_left _ h))))
theorem in_t6 {w : Cond} (h : w ∈ tables_1_6) : w ∈ tables_1 := List.mem_append_right _ (List.mem_append_right _ (List.mem_append_right _ (List.mem_append_right _ (List.mem_append_right _ (List.mem_append_left _ h)))))
theorem in_t7 {w : Cond} (h : w ∈ tables_1_7) : w ∈ tables_1 := List.mem_append_right _ (List.mem_append_right _ (List.mem_append_right _ (List.mem_append_right _ (List.mem_append_right _ (List.mem_append_right _ (List.mem_append_left _ h))))))
theorem in_t8 {w : Cond} (h : w ∈ tables_1_8) : w ∈ tables_1 := List.mem_append_right _ (List.mem_append_right _ (List.mem_append_right _ (List.mem_append_right _ (List.mem_append_right _ (List.mem_append_right _ (List.mem_append_right _ (h)))))))
def gLeast (j : Nat) : Int32 := [0, 1, 0, 1, 1, 0].getD j 0
def gGreat (j : Nat) : Int32 := [9, 8, 3, 8, 16, 99].getD j 0
abbrev M_X11_feed : MI := (yX11_feed, cX11_feed, 7, some .int)
abbrev M_X10_signsOf : MI := (yX10_signsOf, cX10_signsOf, 3, some .int)
abbrev M_X10_put : MI := (yX10_put, cX10_put, 4, none)
abbrev M_X11_end : MI := (yX11_end, cX11_end, 2, some .boolean)
abbrev M_X10_cutTo : MI := (yX10_cutTo, cX10_cutTo, 2, some .boolean)
abbrev M_X11_fault : MI := (yX11_fault, cX11_fault, 2, some .int)
abbrev M_X11_isSort : MI := (yX11_isSort, cX11_isSort, 1, some .boolean)
abbrev M_X11_within : MI := (yX11_within, cX11_within, 3, some .boolean)
abbrev M_X11_faultOf : MI := (yX11_faultOf, cX11_faultOf, 2, some .int)
abbrev M_X8_readFrom : MI := (yX8_readFrom, cX8_readFrom, 4, some .int)
abbrev M_X10_start : MI := (yX10_start, cX10_start, 1, none)
abbrev M_X10_next : MI := (yX10_next, cX10_next, 1, some .int)
abbrev M_X10_here : MI := (yX10_here, cX10_here, 1, some .int)
abbrev M_X10_digit : MI := (yX10_digit, cX10_digit, 2, some .int)
abbrev M_X10_step : MI := (yX10_step, cX10_step, 1, none)
abbrev M_X8_putLast : MI := (yX8_putLast, cX8_putLast, 3, none)
abbrev M_X10_take : MI := (yX10_take, cX10_take, 2, some .boolean)
abbrev M_X6_readLaw : MI := (yX6_readLaw, cX6_readLaw, 2, some .int)
abbrev M_X6_clause : MI := (yX6_clause, cX6_clause, 2, some .boolean)
abbrev M_X6_atom : MI := (yX6_atom, cX6_atom, 3, some .boolean)
abbrev M_X6_chain : MI := (yX6_chain, cX6_chain, 6, some .boolean)
abbrev M_X6_part : MI := (yX6_part, cX6_part, 4, some .boolean)
abbrev M_X6_unit : MI := (yX6_unit, cX6_unit, 5, some .boolean)
abbrev M_X6_makeSign : MI := (yX6_makeSign, cX6_makeSign, 2, none)
abbrev M_X6_make : MI := (yX6_make, cX6_make, 2, none)
abbrev M_X6_number : MI := (yX6_number, cX6_number, 3, some .boolean)
abbrev M_X6_goesDeeper : MI := (yX6_goesDeeper, cX6_goesDeeper, 2, some .boolean)
abbrev M_X6_joins : MI := (yX6_joins, cX6_joins, 2, some .boolean)
abbrev M_X6_compares : MI := (yX6_compares, cX6_compares, 1, some .boolean)
abbrev M_X3_readFrom : MI := (yX3_readFrom, cX3_readFrom, 6, some .int)
abbrev M_X3_turnOf : MI := (yX3_turnOf, cX3_turnOf, 1, some .int)
abbrev M_X3_putRun : MI := (yX3_putRun, cX3_putRun, 7, some .int)
abbrev M_X11_text : MI := (yX11_text, cX11_text, 3, some .int)
abbrev M_X11_keep : MI := (yX11_keep, cX11_keep, 3, some .int)
abbrev M_X3_keep : MI := (yX3_keep, cX3_keep, 1, some .int)
abbrev M_X4_learn : MI := (yX4_learn, cX4_learn, 4, none)
abbrev M_X3_has : MI := (yX3_has, cX3_has, 2, some .boolean)
abbrev M_X4_weigh : MI := (yX4_weigh, cX4_weigh, 5, none)
abbrev M_X3_lengthOf : MI := (yX3_lengthOf, cX3_lengthOf, 2, some .int)
abbrev M_X3_turn : MI := (yX3_turn, cX3_turn, 3, some .int)
abbrev M_X7_weightOf : MI := (yX7_weightOf, cX7_weightOf, 7, some .int)
abbrev M_X7_worth : MI := (yX7_worth, cX7_worth, 10, some .int)
abbrev M_X7_doStep : MI := (yX7_doStep, cX7_doStep, 3, none)
abbrev M_X7_pop : MI := (yX7_pop, cX7_pop, 1, some .int)
abbrev M_X7_joined : MI := (yX7_joined, cX7_joined, 3, some .int)
abbrev M_X7_held : MI := (yX7_held, cX7_held, 3, some .int)
abbrev M_X7_push : MI := (yX7_push, cX7_push, 2, none)
abbrev M_X4_greatestOf : MI := (yX4_greatestOf, cX4_greatestOf, 6, some .int)
abbrev M_X4_powerOf : MI := (yX4_powerOf, cX4_powerOf, 5, some .int)
abbrev M_X4_addMeeting : MI := (yX4_addMeeting, cX4_addMeeting, 12, none)
abbrev M_X4_power : MI := (yX4_power, cX4_power, 1, some .int)
abbrev M_X8_keep : MI := (yX8_keep, cX8_keep, 1, some .int)
abbrev M_X7_keep : MI := (yX7_keep, cX7_keep, 4, some .int)
abbrev M_X11_rest : MI := (yX11_rest, cX11_rest, 3, some .int)
abbrev M_X8_has : MI := (yX8_has, cX8_has, 2, some .boolean)
abbrev M_X8_number : MI := (yX8_number, cX8_number, 3, some .int)
abbrev M_X8_lengthOf : MI := (yX8_lengthOf, cX8_lengthOf, 2, some .int)
abbrev M_X11_weight : MI := (yX11_weight, cX11_weight, 4, some .int)
abbrev M_X7_hasOrNone : MI := (yX7_hasOrNone, cX7_hasOrNone, 2, some .boolean)
abbrev M_X11_comes : MI := (yX11_comes, cX11_comes, 8, some .int)
abbrev M_X11_lobes : MI := (yX11_lobes, cX11_lobes, 4, some .int)
abbrev M_X4_peak : MI := (yX4_peak, cX4_peak, 2, some .int)
abbrev M_X4_side : MI := (yX4_side, cX4_side, 4, some .int)
abbrev M_X4_sides : MI := (yX4_sides, cX4_sides, 4, some .int)
abbrev M_X4_leak : MI := (yX4_leak, cX4_leak, 4, some .int)
abbrev M_X4_loss : MI := (yX4_loss, cX4_loss, 7, some .int)
abbrev M_X11_hinder : MI := (yX11_hinder, cX11_hinder, 3, some .int)
abbrev M_X4_hindrance : MI := (yX4_hindrance, cX4_hindrance, 3, some .int)
abbrev M_X11_friends : MI := (yX11_friends, cX11_friends, 2, some .int)
abbrev M_X4_mostFriends : MI := (yX4_mostFriends, cX4_mostFriends, 4, some .int)
abbrev M_J6_bitCount_0f7a4 : MI := (yJ6_bitCount_0f7a4, cJ6_bitCount_0f7a4, 1, some .int)
abbrev M_X4_areFriends : MI := (yX4_areFriends, cX4_areFriends, 6, some .boolean)
abbrev M_X11_best : MI := (yX11_best, cX11_best, 3, some .int)
abbrev M_X1_codeOf : MI := (yX1_codeOf, cX1_codeOf, 3, some .int)
abbrev M_X1_findCode : MI := (yX1_findCode, cX1_findCode, 3, none)
abbrev M_X1_tryCode : MI := (yX1_tryCode, cX1_tryCode, 8, none)
abbrev M_X1_keepIn : MI := (yX1_keepIn, cX1_keepIn, 4, none)
abbrev M_X11_filter : MI := (yX11_filter, cX11_filter, 3, some .int)
abbrev M_X1_filterOf : MI := (yX1_filterOf, cX1_filterOf, 3, some .int)
abbrev M_X1_findFilter : MI := (yX1_findFilter, cX1_findFilter, 4, none)
abbrev M_X1_tryFilter : MI := (yX1_tryFilter, cX1_tryFilter, 7, none)
abbrev M_X1_tellFilter : MI := (yX1_tellFilter, cX1_tellFilter, 7, some .int)
abbrev M_X11_set : MI := (yX11_set, cX11_set, 3, some .boolean)
abbrev M_X11_seen : MI := (yX11_seen, cX11_seen, 3, some .int)
abbrev M_X8_sees : MI := (yX8_sees, cX8_sees, 3, some .boolean)
abbrev M_X8_seeing : MI := (yX8_seeing, cX8_seeing, 5, some .int)
abbrev M_X8_isSeenBy : MI := (yX8_isSeenBy, cX8_isSeenBy, 3, some .boolean)
abbrev M_X8_remainder : MI := (yX8_remainder, cX8_remainder, 2, some .int)
abbrev M_X11_map : MI := (yX11_map, cX11_map, 4, some .int)
abbrev M_X8_firstUnseen : MI := (yX8_firstUnseen, cX8_firstUnseen, 4, some .int)
abbrev M_X8_seenTo : MI := (yX8_seenTo, cX8_seenTo, 5, some .int)
abbrev M_X11_choice : MI := (yX11_choice, cX11_choice, 5, some .int)
abbrev M_X8_choose : MI := (yX8_choose, cX8_choose, 6, none)
abbrev M_J7_fill_53178 : MI := (yJ7_fill_53178, cJ7_fill_53178, 4, none)
abbrev M_X8_seenByChoice : MI := (yX8_seenByChoice, cX8_seenByChoice, 4, some .int)
abbrev M_X8_prefer : MI := (yX8_prefer, cX8_prefer, 3, none)
abbrev M_X11_read : MI := (yX11_read, cX11_read, 3, some .boolean)
abbrev M_X8_putReading : MI := (yX8_putReading, cX8_putReading, 3, some .boolean)
abbrev M_X11_unfold : MI := (yX11_unfold, cX11_unfold, 6, some .int)
abbrev M_X8_readingsFit : MI := (yX8_readingsFit, cX8_readingsFit, 3, some .boolean)
abbrev M_X8_unfolded : MI := (yX8_unfolded, cX8_unfolded, 8, some .int)
abbrev M_X8_manyToldOff : MI := (yX8_manyToldOff, cX8_manyToldOff, 8, some .int)
abbrev M_X11_ghosts : MI := (yX11_ghosts, cX11_ghosts, 5, some .int)
abbrev M_X8_ghostsOf : MI := (yX8_ghostsOf, cX8_ghostsOf, 7, some .int)
abbrev M_X8_isGhost : MI := (yX8_isGhost, cX8_isGhost, 8, some .boolean)
abbrev M_X11_cell : MI := (yX11_cell, cX11_cell, 2, some .int)
abbrev M_X2_isValue : MI := (yX2_isValue, cX2_isValue, 1, some .boolean)
abbrev M_X2_size : MI := (yX2_size, cX2_size, 1, some .int)
abbrev M_X2_add : MI := (yX2_add, cX2_add, 3, some .int)
abbrev M_X2_startAct : MI := (yX2_startAct, cX2_startAct, 4, none)
abbrev M_X2_resize : MI := (yX2_resize, cX2_resize, 2, none)
abbrev M_X2_write : MI := (yX2_write, cX2_write, 3, none)
abbrev M_X11_change : MI := (yX11_change, cX11_change, 3, some .boolean)
abbrev M_X2_has : MI := (yX2_has, cX2_has, 2, some .boolean)
abbrev M_X2_put : MI := (yX2_put, cX2_put, 3, none)
abbrev M_X11_draw : MI := (yX11_draw, cX11_draw, 5, some .boolean)
abbrev M_X2_drawAll : MI := (yX2_drawAll, cX2_drawAll, 8, none)
abbrev M_X11_at : MI := (yX11_at, cX11_at, 2, some .int)
abbrev M_X2_value : MI := (yX2_value, cX2_value, 2, some .int)
abbrev M_X11_undo : MI := (yX11_undo, cX11_undo, 2, some .int)
abbrev M_X2_goBack : MI := (yX2_goBack, cX2_goBack, 1, some .int)
abbrev M_X2_goOn : MI := (yX2_goOn, cX2_goOn, 1, some .int)
abbrev M_X11_found : MI := (yX11_found, cX11_found, 2, some .int)
abbrev M_X5_findingAt : MI := (yX5_findingAt, cX5_findingAt, 3, some .int)
abbrev M_X5_openWindow : MI := (yX5_openWindow, cX5_openWindow, 5, none)
abbrev M_X5_sortIn : MI := (yX5_sortIn, cX5_sortIn, 4, none)
abbrev M_X11_alarms : MI := (yX11_alarms, cX11_alarms, 1, some .int)
abbrev M_X5_manyFound : MI := (yX5_manyFound, cX5_manyFound, 3, some .int)
abbrev M_X11_share : MI := (yX11_share, cX11_share, 6, some .long)
abbrev M_X9_areBounds : MI := (yX9_areBounds, cX9_areBounds, 3, some .boolean)
abbrev M_X9_learn : MI := (yX9_learn, cX9_learn, 9, none)
abbrev M_X9_power : MI := (yX9_power, cX9_power, 5, some .long)
abbrev M_X9_rowsUpTo : MI := (yX9_rowsUpTo, cX9_rowsUpTo, 7, some .long)
abbrev M_X9_choices : MI := (yX9_choices, cX9_choices, 5, some .long)
abbrev M_X9_partsAbove : MI := (yX9_partsAbove, cX9_partsAbove, 2, some .long)
abbrev M_X9_rowsAbove : MI := (yX9_rowsAbove, cX9_rowsAbove, 6, some .long)
abbrev M_X11_beam : MI := (yX11_beam, cX11_beam, 4, some .int)
abbrev M_X0_add : MI := (yX0_add, cX0_add, 5, some .int)
abbrev M_X0_dueAt : MI := (yX0_dueAt, cX0_dueAt, 3, some .int)
abbrev M_X0_beamAt : MI := (yX0_beamAt, cX0_beamAt, 3, some .int)
abbrev M_X11_plan : MI := (yX11_plan, cX11_plan, 3, some .int)
abbrev M_X0_bestSet : MI := (yX0_bestSet, cX0_bestSet, 3, some .int)
abbrev M_X0_worthOf : MI := (yX0_worthOf, cX0_worthOf, 4, some .int)
abbrev M_X0_canBeDone : MI := (yX0_canBeDone, cX0_canBeDone, 5, some .boolean)
abbrev M_X11_like : MI := (yX11_like, cX11_like, 3, some .int)
abbrev M_X3_areLike : MI := (yX3_areLike, cX3_areLike, 4, some .boolean)
abbrev M_X3_isTurned : MI := (yX3_isTurned, cX3_isTurned, 11, some .boolean)
abbrev M_X11_partners : MI := (yX11_partners, cX11_partners, 3, some .int)
abbrev M_X4_sideTogether : MI := (yX4_sideTogether, cX4_sideTogether, 5, some .int)
abbrev M_X4_powerTogether : MI := (yX4_powerTogether, cX4_powerTogether, 4, some .int)
abbrev M_X11_cancel : MI := (yX11_cancel, cX11_cancel, 3, some .int)
abbrev M_X11_stagger : MI := (yX11_stagger, cX11_stagger, 6, some .int)
abbrev M_X8_staggerBest : MI := (yX8_staggerBest, cX8_staggerBest, 6, none)
abbrev M_X8_tellSeenWays : MI := (yX8_tellSeenWays, cX8_tellSeenWays, 6, none)
abbrev M_J7_fill_d0a16 : MI := (yJ7_fill_d0a16, cJ7_fill_d0a16, 5, none)
abbrev M_X8_staggerBehind : MI := (yX8_staggerBehind, cX8_staggerBehind, 7, none)
abbrev M_X8_seenByThree : MI := (yX8_seenByThree, cX8_seenByThree, 12, some .int)
abbrev M_X8_waysOf : MI := (yX8_waysOf, cX8_waysOf, 4, some .long)
abbrev M_J13_bitCount_95d88 : MI := (yJ13_bitCount_95d88, cJ13_bitCount_95d88, 2, some .int)
abbrev M_X11_factor : MI := (yX11_factor, cX11_factor, 5, some .int)
abbrev M_X9_leastFactor : MI := (yX9_leastFactor, cX9_leastFactor, 3, some .int)
abbrev M_X11_heaps : MI := (yX11_heaps, cX11_heaps, 2, some .int)
abbrev M_X5_heapsOf : MI := (yX5_heapsOf, cX5_heapsOf, 7, some .int)
abbrev M_X11_image : MI := (yX11_image, cX11_image, 1, some .int)
abbrev M_X2_keepImage : MI := (yX2_keepImage, cX2_keepImage, 2, some .int)
abbrev M_X11_back : MI := (yX11_back, cX11_back, 1, some .int)
abbrev M_X2_putImageBack : MI := (yX2_putImageBack, cX2_putImageBack, 2, some .int)
abbrev M_X11_count : MI := (yX11_count, cX11_count, 2, some .int)
abbrev M_X12_thrown : MI := (yX12_thrown, cX12_thrown, 1, some .int)
abbrev M_X12_feed : MI := (yX12_feed, cX12_feed, 9, some .int)
abbrev M_X12_byteOf : MI := (yX12_byteOf, cX12_byteOf, 7, some .int)
abbrev M_X12_end : MI := (yX12_end, cX12_end, 2, some .boolean)
abbrev M_X12_fault : MI := (yX12_fault, cX12_fault, 2, some .int)
abbrev M_X12_readRests : MI := (yX12_readRests, cX12_readRests, 3, some .int)
abbrev M_X12_atEnd : MI := (yX12_atEnd, cX12_atEnd, 1, some .int)
abbrev M_X12_look : MI := (yX12_look, cX12_look, 1, some .int)
abbrev M_X12_here : MI := (yX12_here, cX12_here, 1, some .int)
abbrev M_X12_bad : MI := (yX12_bad, cX12_bad, 1, none)
abbrev M_X12_number : MI := (yX12_number, cX12_number, 3, some .int)
abbrev M_X12_isDigit : MI := (yX12_isDigit, cX12_isDigit, 1, some .boolean)
abbrev M_X12_readLaw : MI := (yX12_readLaw, cX12_readLaw, 2, some .int)
abbrev M_X12_open : MI := (yX12_open, cX12_open, 2, none)
abbrev M_X12_clause : MI := (yX12_clause, cX12_clause, 3, none)
abbrev M_X12_atom : MI := (yX12_atom, cX12_atom, 2, none)
abbrev M_X12_sum : MI := (yX12_sum, cX12_sum, 2, none)
abbrev M_X12_term : MI := (yX12_term, cX12_term, 2, none)
abbrev M_X12_letterOf : MI := (yX12_letterOf, cX12_letterOf, 1, some .int)
abbrev M_X12_opens : MI := (yX12_opens, cX12_opens, 1, none)
abbrev M_X12_closes : MI := (yX12_closes, cX12_closes, 2, none)
abbrev M_X12_put : MI := (yX12_put, cX12_put, 3, none)
abbrev M_X12_plainNumber : MI := (yX12_plainNumber, cX12_plainNumber, 3, some .int)
abbrev M_X12_compare : MI := (yX12_compare, cX12_compare, 2, none)
abbrev M_X12_isSign : MI := (yX12_isSign, cX12_isSign, 1, some .boolean)
abbrev M_X12_condition : MI := (yX12_condition, cX12_condition, 1, none)
abbrev M_X12_goOnAnd : MI := (yX12_goOnAnd, cX12_goOnAnd, 1, none)
abbrev M_X12_goOnOr : MI := (yX12_goOnOr, cX12_goOnOr, 1, none)
abbrev M_X12_unit : MI := (yX12_unit, cX12_unit, 2, none)
abbrev M_X12_readCode : MI := (yX12_readCode, cX12_readCode, 5, some .int)
abbrev M_X12_turnOf : MI := (yX12_turnOf, cX12_turnOf, 1, some .int)
abbrev M_X12_in : MI := (yX12_in, cX12_in, 3, some .boolean)
abbrev M_X12_text : MI := (yX12_text, cX12_text, 2, some .int)
abbrev M_X12_sign : MI := (yX12_sign, cX12_sign, 4, some .int)
abbrev M_X12_isCode : MI := (yX12_isCode, cX12_isCode, 2, some .boolean)
abbrev M_X12_rest : MI := (yX12_rest, cX12_rest, 3, some .int)
abbrev M_X12_isSet : MI := (yX12_isSet, cX12_isSet, 2, some .boolean)
abbrev M_X12_weight : MI := (yX12_weight, cX12_weight, 4, some .int)
abbrev M_X12_isLaw : MI := (yX12_isLaw, cX12_isLaw, 2, some .boolean)
abbrev M_X12_weightOf : MI := (yX12_weightOf, cX12_weightOf, 5, some .int)
abbrev M_X12_partOf : MI := (yX12_partOf, cX12_partOf, 3, some .int)
abbrev M_X12_worthOf : MI := (yX12_worthOf, cX12_worthOf, 3, some .int)
abbrev M_X12_workOut : MI := (yX12_workOut, cX12_workOut, 6, some .int)
abbrev M_X12_worked : MI := (yX12_worked, cX12_worked, 5, some .int)
abbrev M_X12_bounded : MI := (yX12_bounded, cX12_bounded, 2, some .int)
abbrev M_X12_comes : MI := (yX12_comes, cX12_comes, 7, some .int)
abbrev M_X12_lay : MI := (yX12_lay, cX12_lay, 4, none)
abbrev M_X12_sum_ : MI := (yX12_sum_, cX12_sum_, 8, none)
abbrev M_X12_lobes : MI := (yX12_lobes, cX12_lobes, 4, some .int)
abbrev M_X12_lobesOf : MI := (yX12_lobesOf, cX12_lobesOf, 5, none)
abbrev M_X12_hinder : MI := (yX12_hinder, cX12_hinder, 3, some .int)
abbrev M_X12_hinderOf : MI := (yX12_hinderOf, cX12_hinderOf, 5, some .int)
abbrev M_X12_friends : MI := (yX12_friends, cX12_friends, 4, some .int)
abbrev M_X12_areFriends : MI := (yX12_areFriends, cX12_areFriends, 5, some .boolean)
abbrev M_X12_has : MI := (yX12_has, cX12_has, 2, some .boolean)
abbrev M_X12_best : MI := (yX12_best, cX12_best, 12, some .int)
abbrev M_X12_alikeAt : MI := (yX12_alikeAt, cX12_alikeAt, 5, some .int)
abbrev M_X12_filter : MI := (yX12_filter, cX12_filter, 11, some .int)
abbrev M_X12_set : MI := (yX12_set, cX12_set, 3, some .boolean)
abbrev M_X12_seen : MI := (yX12_seen, cX12_seen, 3, some .int)
abbrev M_X12_isSeen : MI := (yX12_isSeen, cX12_isSeen, 6, some .boolean)
abbrev M_X12_map : MI := (yX12_map, cX12_map, 5, some .int)
abbrev M_X12_seenTo : MI := (yX12_seenTo, cX12_seenTo, 6, some .int)
abbrev M_X12_choice : MI := (yX12_choice, cX12_choice, 9, some .int)
abbrev M_X12_read : MI := (yX12_read, cX12_read, 3, some .boolean)
abbrev M_X12_unfold : MI := (yX12_unfold, cX12_unfold, 9, some .int)
abbrev M_X12_areReadings : MI := (yX12_areReadings, cX12_areReadings, 3, some .boolean)
abbrev M_X12_offs : MI := (yX12_offs, cX12_offs, 8, some .int)
abbrev M_X12_ghosts : MI := (yX12_ghosts, cX12_ghosts, 7, some .int)
abbrev M_X12_isGhost : MI := (yX12_isGhost, cX12_isGhost, 7, some .boolean)
abbrev M_X12_cell : MI := (yX12_cell, cX12_cell, 2, some .int)
abbrev M_X12_isLevel : MI := (yX12_isLevel, cX12_isLevel, 1, some .boolean)
abbrev M_X12_act : MI := (yX12_act, cX12_act, 1, none)
abbrev M_X12_putBy : MI := (yX12_putBy, cX12_putBy, 2, none)
abbrev M_X12_copy : MI := (yX12_copy, cX12_copy, 5, none)
abbrev M_X12_change : MI := (yX12_change, cX12_change, 3, some .boolean)
abbrev M_X12_isCell : MI := (yX12_isCell, cX12_isCell, 2, some .boolean)
abbrev M_X12_draw : MI := (yX12_draw, cX12_draw, 8, some .boolean)
abbrev M_X12_at : MI := (yX12_at, cX12_at, 2, some .int)
abbrev M_X12_undo : MI := (yX12_undo, cX12_undo, 2, some .int)
abbrev M_X12_found : MI := (yX12_found, cX12_found, 2, some .int)
abbrev M_X12_windowOf : MI := (yX12_windowOf, cX12_windowOf, 5, some .int)
abbrev M_X12_alarms : MI := (yX12_alarms, cX12_alarms, 3, some .int)
abbrev M_X12_share : MI := (yX12_share, cX12_share, 11, some .long)
abbrev M_X12_power : MI := (yX12_power, cX12_power, 6, some .long)
abbrev M_X12_upTo : MI := (yX12_upTo, cX12_upTo, 7, some .long)
abbrev M_X12_choose : MI := (yX12_choose, cX12_choose, 5, some .long)
abbrev M_X12_beam : MI := (yX12_beam, cX12_beam, 4, some .int)
abbrev M_X12_plan : MI := (yX12_plan, cX12_plan, 7, some .int)
abbrev M_X12_areDone : MI := (yX12_areDone, cX12_areDone, 5, some .boolean)
abbrev M_X12_isDue : MI := (yX12_isDue, cX12_isDue, 4, some .boolean)
abbrev M_X12_like : MI := (yX12_like, cX12_like, 6, some .int)
abbrev M_X12_areAlike : MI := (yX12_areAlike, cX12_areAlike, 7, some .boolean)
abbrev M_X12_turned : MI := (yX12_turned, cX12_turned, 8, some .int)
abbrev M_X12_partners : MI := (yX12_partners, cX12_partners, 7, some .int)
abbrev M_X12_cancel : MI := (yX12_cancel, cX12_cancel, 7, some .int)
abbrev M_X12_stagger : MI := (yX12_stagger, cX12_stagger, 13, some .int)
abbrev M_X12_seenBy : MI := (yX12_seenBy, cX12_seenBy, 8, some .int)
abbrev M_X12_factor : MI := (yX12_factor, cX12_factor, 6, some .int)
abbrev M_X12_heaps : MI := (yX12_heaps, cX12_heaps, 7, some .int)
abbrev M_X12_image : MI := (yX12_image, cX12_image, 1, some .int)
abbrev M_X12_back : MI := (yX12_back, cX12_back, 1, some .int)
abbrev M_X12_count : MI := (yX12_count, cX12_count, 2, some .int)
abbrev M_X11_sign : MI := (yX11_sign, cX11_sign, 3, some .int)
theorem w_0 : Cond.code M_X10_signsOf.1 M_X10_signsOf.2.1 M_X10_signsOf.2.2.1 M_X10_signsOf.2.2.2 ∈ WL := wl_of (List.mem_append_right _ (in_t2 (List.mem_of_getElem? (i := 103) rfl))) rfl
theorem w_1 : Cond.initialized RX10 ∈ WL := wl_of (List.mem_append_right _ (in_t1 (List.mem_of_getElem? (i := 2) rfl))) rfl
theorem w_2 : Cond.static yX10_signsOf ∈ WL := wl_of (List.mem_append_right _ (in_t2 (List.mem_of_getElem? (i := 102) rfl))) rfl
theorem cv_X10_signsOf : CalS M_X10_signsOf 1 := ⟨w_2, w_1, w_0, by decide +kernel, by decide⟩
theorem w_3 : Cond.methodLink RX11 100 yX10_signsOf ∈ WL := wl_of (List.mem_append_right _ (in_t2 (List.mem_of_getElem? (i := 101) rfl))) rfl
theorem w_4 : Cond.fieldLink RX11 16 "PulseParts" "tape" "LPulseParts$Tape;" ∈ WL := wl_of (List.mem_append_right _ (in_t2 (List.mem_of_getElem? (i := 60) rfl))) rfl
theorem w_5 : Cond.fieldLink RX10 15 "PulseParts$Tape" "size" "I" ∈ WL := wl_of (List.mem_append_right _ (in_t1 (List.mem_of_getElem? (i := 38) rfl))) rfl
theorem w_6 : Cond.fieldLink RX10 11 "PulseParts$Tape" "bytes" "[I" ∈ WL := wl_of (List.mem_append_right _ (in_t1 (List.mem_of_getElem? (i := 36) rfl))) rfl
theorem w_7 : Cond.code M_X10_put.1 M_X10_put.2.1 M_X10_put.2.2.1 M_X10_put.2.2.2 ∈ WL := wl_of (List.mem_append_right _ (in_t2 (List.mem_of_getElem? (i := 107) rfl))) rfl
theorem w_8 : Cond.instanceMethod yX10_put ∈ WL := wl_of (List.mem_append_right _ (in_t2 (List.mem_of_getElem? (i := 105) rfl))) rfl
theorem w_9 : Cond.selects yX10_put.cls yX10_put yX10_put ∈ WL := wl_of (List.mem_append_right _ (in_t2 (List.mem_of_getElem? (i := 106) rfl))) rfl
theorem cv_X10_put : CalV M_X10_put 1 10 := ⟨w_8, w_9, w_1, w_7, by decide +kernel, by decide, ⟨TX10, 3, rfl⟩, ⟨_, _, rfl⟩⟩
theorem w_10 : Cond.methodLink RX11 108 yX10_put ∈ WL := wl_of (List.mem_append_right _ (in_t2 (List.mem_of_getElem? (i := 104) rfl))) rfl
theorem w_11 : Cond.code M_X10_cutTo.1 M_X10_cutTo.2.1 M_X10_cutTo.2.2.1 M_X10_cutTo.2.2.2 ∈ WL := wl_of (List.mem_append_right _ (in_t2 (List.mem_of_getElem? (i := 115) rfl))) rfl
theorem w_12 : Cond.instanceMethod yX10_cutTo ∈ WL := wl_of (List.mem_append_right _ (in_t2 (List.mem_of_getElem? (i := 113) rfl))) rfl
theorem w_13 : Cond.selects yX10_cutTo.cls yX10_cutTo yX10_cutTo ∈ WL := wl_of (List.mem_append_right _ (in_t2 (List.mem_of_getElem? (i := 114) rfl))) rfl
theorem cv_X10_cutTo : CalV M_X10_cutTo 1 10 := ⟨w_12, w_13, w_1, w_11, by decide +kernel, by decide, ⟨TX10, 3, rfl⟩, ⟨_, _, rfl⟩⟩
theorem w_14 : Cond.methodLink RX11 112 yX10_cutTo ∈ WL := wl_of (List.mem_append_right _ (in_t2 (List.mem_of_getElem? (i := 112) rfl))) rfl
theorem w_15 : Cond.code M_X11_within.1 M_X11_within.2.1 M_X11_within.2.2.1 M_X11_within.2.2.2 ∈ WL := wl_of (List.mem_append_right _ (in_t2 (List.mem_of_getElem? (i := 125) rfl))) rfl
theorem w_16 : Cond.initialized RX11 ∈ WL := wl_of (List.mem_append_right _ (in_t1 (List.mem_of_getElem? (i := 1) rfl))) rfl
theorem w_17 : Cond.static yX11_within ∈ WL := wl_of (List.mem_append_right _ (in_t2 (List.mem_of_getElem? (i := 124) rfl))) rfl
theorem cv_X11_within : CalS M_X11_within 3 := ⟨w_17, w_16, w_15, by decide +kernel, by decide⟩
theorem w_18 : Cond.methodLink RX11 125 yX11_within ∈ WL := wl_of (List.mem_append_right _ (in_t2 (List.mem_of_getElem? (i := 123) rfl))) rfl
theorem w_19 : Cond.code M_X11_isSort.1 M_X11_isSort.2.1 M_X11_isSort.2.2.1 M_X11_isSort.2.2.2 ∈ WL := wl_of (List.mem_append_right _ (in_t2 (List.mem_of_getElem? (i := 122) rfl))) rfl
theorem w_20 : Cond.static yX11_isSort ∈ WL := wl_of (List.mem_append_right _ (in_t2 (List.mem_of_getElem? (i := 121) rfl))) rfl
theorem cv_X11_isSort : CalS M_X11_isSort 1 := ⟨w_20, w_16, w_19, by decide +kernel, by decide⟩
theorem w_21 : Cond.methodLink RX11 116 yX11_isSort ∈ WL := wl_of (List.mem_append_right _ (in_t2 (List.mem_of_getElem? (i := 120) rfl))) rfl
theorem w_22 : Cond.fieldLink RX11 66 "PulseParts" "sets" "LPulseParts$Rests;" ∈ WL := wl_of (List.mem_append_right _ (in_t2 (List.mem_of_getElem? (i := 66) rfl))) rfl
theorem w_23 : Cond.fieldLink RX10 19 "PulseParts$Tape" "place" "I" ∈ WL := wl_of (List.mem_append_right _ (in_t1 (List.mem_of_getElem? (i := 40) rfl))) rfl
theorem w_24 : Cond.code M_X10_start.1 M_X10_start.2.1 M_X10_start.2.2.1 M_X10_start.2.2.2 ∈ WL := wl_of (List.mem_append_right _ (in_t2 (List.mem_of_getElem? (i := 137) rfl))) rfl
theorem w_25 : Cond.instanceMethod yX10_start ∈ WL := wl_of (List.mem_append_right _ (in_t2 (List.mem_of_getElem? (i := 135) rfl))) rfl
theorem w_26 : Cond.selects yX10_start.cls yX10_start yX10_start ∈ WL := wl_of (List.mem_append_right _ (in_t2 (List.mem_of_getElem? (i := 136) rfl))) rfl
theorem cv_X10_start : CalV M_X10_start 0 10 := ⟨w_25, w_26, w_1, w_24, by decide +kernel, by decide, ⟨TX10, 3, rfl⟩, ⟨_, _, rfl⟩⟩
theorem w_27 : Cond.methodLink RX8 45 yX10_start ∈ WL := wl_of (List.mem_append_right _ (in_t2 (List.mem_of_getElem? (i := 227) rfl))) rfl
theorem w_28 : Cond.code M_X10_here.1 M_X10_here.2.1 M_X10_here.2.2.1 M_X10_here.2.2.2 ∈ WL := wl_of (List.mem_append_right _ (in_t2 (List.mem_of_getElem? (i := 145) rfl))) rfl
theorem w_29 : Cond.instanceMethod yX10_here ∈ WL := wl_of (List.mem_append_right _ (in_t2 (List.mem_of_getElem? (i := 143) rfl))) rfl
theorem w_30 : Cond.selects yX10_here.cls yX10_here yX10_here ∈ WL := wl_of (List.mem_append_right _ (in_t2 (List.mem_of_getElem? (i := 144) rfl))) rfl
theorem cv_X10_here : CalV M_X10_here 0 10 := ⟨w_29, w_30, w_1, w_28, by decide +kernel, by decide, ⟨TX10, 3, rfl⟩, ⟨_, _, rfl⟩⟩
theorem w_31 : Cond.methodLink RX10 22 yX10_here ∈ WL := wl_of (List.mem_append_right _ (in_t2 (List.mem_of_getElem? (i := 142) rfl))) rfl
theorem w_32 : Cond.code M_X10_next.1 M_X10_next.2.1 M_X10_next.2.2.1 M_X10_next.2.2.2 ∈ WL := wl_of (List.mem_append_right _ (in_t2 (List.mem_of_getElem? (i := 141) rfl))) rfl
theorem w_33 : Cond.instanceMethod yX10_next ∈ WL := wl_of (List.mem_append_right _ (in_t2 (List.mem_of_getElem? (i := 139) rfl))) rfl
theorem w_34 : Cond.selects yX10_next.cls yX10_next yX10_next ∈ WL := wl_of (List.mem_append_right _ (in_t2 (List.mem_of_getElem? (i := 140) rfl))) rfl
theorem cv_X10_next : CalV M_X10_next 0 10 := ⟨w_33, w_34, w_1, w_32, by decide +kernel, by decide, ⟨TX10, 3, rfl⟩, ⟨_, _, rfl⟩⟩
theorem w_35 : Cond.methodLink RX8 50 yX10_next ∈ WL := wl_of (List.mem_append_right _ (in_t2 (List.mem_of_getElem? (i := 228) rfl))) rfl
theorem w_36 : Cond.code M_X10_digit.1 M_X10_digit.2.1 M_X10_digit.2.2.1 M_X10_digit.2.2.2 ∈ WL := wl_of (List.mem_append_right _ (in_t2 (List.mem_of_getElem? (i := 156) rfl))) rfl
theorem w_37 : Cond.instanceMethod yX10_digit ∈ WL := wl_of (List.mem_append_right _ (in_t2 (List.mem_of_getElem? (i := 154) rfl))) rfl
theorem w_38 : Cond.selects yX10_digit.cls yX10_digit yX10_digit ∈ WL := wl_of (List.mem_append_right _ (in_t2 (List.mem_of_getElem? (i := 155) rfl))) rfl
theorem cv_X10_digit : CalV M_X10_digit 0 10 := ⟨w_37, w_38, w_1, w_36, by decide +kernel, by decide, ⟨TX10, 3, rfl⟩, ⟨_, _, rfl⟩⟩
theorem w_39 : Cond.methodLink RX8 54 yX10_digit ∈ WL := wl_of (List.mem_append_right _ (in_t2 (List.mem_of_getElem? (i := 229) rfl))) rfl
theorem w_40 : Cond.code M_X10_step.1 M_X10_step.2.1 M_X10_step.2.2.1 M_X10_step.2.2.2 ∈ WL := wl_of (List.mem_append_right _ (in_t2 (List.mem_of_getElem? (i := 152) rfl))) rfl
theorem w_41 : Cond.instanceMethod yX10_step ∈ WL := wl_of (List.mem_append_right _ (in_t2 (List.mem_of_getElem? (i := 150) rfl))) rfl
theorem w_42 : Cond.selects yX10_step.cls yX10_step yX10_step ∈ WL := wl_of (List.mem_append_right _ (in_t2 (List.mem_of_getElem? (i := 151) rfl))) rfl
theorem cv_X10_step : CalV M_X10_step 0 10 := ⟨w_41, w_42, w_1, w_40, by decide +kernel, by decide, ⟨TX10, 3, rfl⟩, ⟨_, _, rfl⟩⟩
theorem w_43 : Cond.methodLink RX8 60 yX10_step ∈ WL := wl_of (List.mem_append_right _ (in_t2 (List.mem_of_getElem? (i := 230) rfl))) rfl
theorem w_44 : Cond.fieldLink RX8 37 "PulseParts$Rests" "many" "I" ∈ WL := wl_of (List.mem_append_right _ (in_t1 (List.mem_of_getElem? (i := 186) rfl))) rfl
theorem w_45 : Cond.fieldLink RX8 18 "PulseParts$Rests" "lengths" "[I" ∈ WL := wl_of (List.mem_append_right _ (in_t1 (List.mem_of_getElem? (i := 182) rfl))) rfl
theorem w_46 : Cond.fieldLink RX8 15 "PulseParts$Rests" "numbers" "[I" ∈ WL := wl_of (List.mem_append_right _ (in_t1 (List.mem_of_getElem? (i := 181) rfl))) rfl
theorem w_47 : Cond.code M_X8_putLast.1 M_X8_putLast.2.1 M_X8_putLast.2.2.1 M_X8_putLast.2.2.2 ∈ WL := wl_of (List.mem_append_right _ (in_t2 (List.mem_of_getElem? (i := 234) rfl))) rfl
theorem w_48 : Cond.initialized RX8 ∈ WL := wl_of (List.mem_append_right _ (in_t1 (List.mem_of_getElem? (i := 9) rfl))) rfl
theorem w_49 : Cond.instanceMethod yX8_putLast ∈ WL := wl_of (List.mem_append_right _ (in_t2 (List.mem_of_getElem? (i := 233) rfl))) rfl
theorem w_50 : Cond.selects yX8_putLast.cls yX8_putLast yX8_putLast ∈ WL := wl_of (List.mem_append_left _ (List.mem_map.mpr ⟨(yX8_putLast, 9), List.mem_of_getElem? (i := 11) (by decide +kernel), rfl⟩)) rfl
theorem cv_X8_putLast : CalV M_X8_putLast 2 8 := ⟨w_49, w_50, w_48, w_47, by decide +kernel, by decide, ⟨TX8, 9, rfl⟩, ⟨_, _, rfl⟩⟩
theorem w_51 : Cond.methodLink RX8 63 yX8_putLast ∈ WL := wl_of (List.mem_append_right _ (in_t2 (List.mem_of_getElem? (i := 231) rfl))) rfl
theorem w_52 : Cond.methodLink RX10 26 yX10_next ∈ WL := wl_of (List.mem_append_right _ (in_t2 (List.mem_of_getElem? (i := 180) rfl))) rfl
theorem w_53 : Cond.methodLink RX10 29 yX10_step ∈ WL := wl_of (List.mem_append_right _ (in_t2 (List.mem_of_getElem? (i := 181) rfl))) rfl
theorem w_54 : Cond.code M_X10_take.1 M_X10_take.2.1 M_X10_take.2.2.1 M_X10_take.2.2.2 ∈ WL := wl_of (List.mem_append_right _ (in_t2 (List.mem_of_getElem? (i := 179) rfl))) rfl
theorem w_55 : Cond.instanceMethod yX10_take ∈ WL := wl_of (List.mem_append_right _ (in_t2 (List.mem_of_getElem? (i := 177) rfl))) rfl
theorem w_56 : Cond.selects yX10_take.cls yX10_take yX10_take ∈ WL := wl_of (List.mem_append_right _ (in_t2 (List.mem_of_getElem? (i := 178) rfl))) rfl
theorem cv_X10_take : CalV M_X10_take 1 10 := ⟨w_55, w_56, w_1, w_54, by decide +kernel, by decide, ⟨TX10, 3, rfl⟩, ⟨_, _, rfl⟩⟩
theorem w_57 : Cond.methodLink RX8 67 yX10_take ∈ WL := wl_of (List.mem_append_right _ (in_t2 (List.mem_of_getElem? (i := 235) rfl))) rfl
theorem w_58 : Cond.code M_X8_readFrom.1 M_X8_readFrom.2.1 M_X8_readFrom.2.2.1 M_X8_readFrom.2.2.2 ∈ WL := wl_of (List.mem_append_right _ (in_t2 (List.mem_of_getElem? (i := 226) rfl))) rfl
theorem w_59 : Cond.instanceMethod yX8_readFrom ∈ WL := wl_of (List.mem_append_right _ (in_t2 (List.mem_of_getElem? (i := 224) rfl))) rfl
theorem w_60 : Cond.selects yX8_readFrom.cls yX8_readFrom yX8_readFrom ∈ WL := wl_of (List.mem_append_right _ (in_t2 (List.mem_of_getElem? (i := 225) rfl))) rfl
theorem cv_X8_readFrom : CalV M_X8_readFrom 1 8 := ⟨w_59, w_60, w_48, w_58, by decide +kernel, by decide, ⟨TX8, 9, rfl⟩, ⟨_, _, rfl⟩⟩
theorem w_61 : Cond.methodLink RX11 137 yX8_readFrom ∈ WL := wl_of (List.mem_append_right _ (in_t2 (List.mem_of_getElem? (i := 223) rfl))) rfl
theorem w_62 : Cond.fieldLink RX11 32 "PulseParts" "lawReader" "LPulseParts$LawReader;" ∈ WL := wl_of (List.mem_append_right _ (in_t2 (List.mem_of_getElem? (i := 62) rfl))) rfl
theorem w_63 : Cond.fieldLink RX6 21 "PulseParts$LawReader" "made" "I" ∈ WL := wl_of (List.mem_append_right _ (in_t1 (List.mem_of_getElem? (i := 79) rfl))) rfl
theorem w_64 : Cond.fieldLink RX6 9 "PulseParts$LawReader" "tape" "LPulseParts$Tape;" ∈ WL := wl_of (List.mem_append_right _ (in_t1 (List.mem_of_getElem? (i := 76) rfl))) rfl
theorem w_65 : Cond.methodLink RX6 25 yX10_start ∈ WL := wl_of (List.mem_append_right _ (in_t2 (List.mem_of_getElem? (i := 171) rfl))) rfl
theorem w_66 : Cond.methodLink RX6 39 yX10_next ∈ WL := wl_of (List.mem_append_right _ (in_t2 (List.mem_of_getElem? (i := 182) rfl))) rfl
theorem w_67 : Cond.methodLink RX6 35 yX10_take ∈ WL := wl_of (List.mem_append_right _ (in_t2 (List.mem_of_getElem? (i := 176) rfl))) rfl
theorem w_68 : Cond.methodLink RX6 61 yX10_step ∈ WL := wl_of (List.mem_append_right _ (in_t2 (List.mem_of_getElem? (i := 199) rfl))) rfl
theorem w_69 : Cond.fieldLink RX6 17 "PulseParts$LawReader" "steps" "[I" ∈ WL := wl_of (List.mem_append_right _ (in_t1 (List.mem_of_getElem? (i := 77) rfl))) rfl
theorem w_70 : Cond.code M_X6_make.1 M_X6_make.2.1 M_X6_make.2.2.1 M_X6_make.2.2.2 ∈ WL := wl_of (List.mem_append_right _ (in_t2 (List.mem_of_getElem? (i := 207) rfl))) rfl
theorem w_71 : Cond.initialized RX6 ∈ WL := wl_of (List.mem_append_right _ (in_t1 (List.mem_of_getElem? (i := 4) rfl))) rfl
theorem w_72 : Cond.instanceMethod yX6_make ∈ WL := wl_of (List.mem_append_right _ (in_t2 (List.mem_of_getElem? (i := 206) rfl))) rfl
theorem w_73 : Cond.selects yX6_make.cls yX6_make yX6_make ∈ WL := wl_of (List.mem_append_left _ (List.mem_map.mpr ⟨(yX6_make, 3), List.mem_of_getElem? (i := 8) (by decide +kernel), rfl⟩)) rfl
theorem cv_X6_make : CalV M_X6_make 1 6 := ⟨w_72, w_73, w_71, w_70, by decide +kernel, by decide, ⟨TX6, 3, rfl⟩, ⟨_, _, rfl⟩⟩
theorem w_74 : Cond.methodLink RX6 80 yX6_make ∈ WL := wl_of (List.mem_append_right _ (in_t2 (List.mem_of_getElem? (i := 204) rfl))) rfl
theorem w_75 : Cond.code M_X6_makeSign.1 M_X6_makeSign.2.1 M_X6_makeSign.2.2.1 M_X6_makeSign.2.2.2 ∈ WL := wl_of (List.mem_append_right _ (in_t2 (List.mem_of_getElem? (i := 203) rfl))) rfl
theorem w_76 : Cond.instanceMethod yX6_makeSign ∈ WL := wl_of (List.mem_append_right _ (in_t2 (List.mem_of_getElem? (i := 202) rfl))) rfl
theorem w_77 : Cond.selects yX6_makeSign.cls yX6_makeSign yX6_makeSign ∈ WL := wl_of (List.mem_append_left _ (List.mem_map.mpr ⟨(yX6_makeSign, 3), List.mem_of_getElem? (i := 7) (by decide +kernel), rfl⟩)) rfl
theorem cv_X6_makeSign : CalV M_X6_makeSign 1 6 := ⟨w_76, w_77, w_71, w_75, by decide +kernel, by decide, ⟨TX6, 3, rfl⟩, ⟨_, _, rfl⟩⟩
theorem w_78 : Cond.methodLink RX6 50 yX6_makeSign ∈ WL := wl_of (List.mem_append_right _ (in_t2 (List.mem_of_getElem? (i := 200) rfl))) rfl
theorem w_79 : Cond.methodLink RX6 77 yX10_digit ∈ WL := wl_of (List.mem_append_right _ (in_t2 (List.mem_of_getElem? (i := 219) rfl))) rfl
theorem w_80 : Cond.code M_X6_number.1 M_X6_number.2.1 M_X6_number.2.2.1 M_X6_number.2.2.2 ∈ WL := wl_of (List.mem_append_right _ (in_t2 (List.mem_of_getElem? (i := 218) rfl))) rfl
theorem w_81 : Cond.instanceMethod yX6_number ∈ WL := wl_of (List.mem_append_right _ (in_t2 (List.mem_of_getElem? (i := 217) rfl))) rfl
theorem w_82 : Cond.selects yX6_number.cls yX6_number yX6_number ∈ WL := wl_of (List.mem_append_left _ (List.mem_map.mpr ⟨(yX6_number, 3), List.mem_of_getElem? (i := 10) (by decide +kernel), rfl⟩)) rfl
theorem cv_X6_number : CalV M_X6_number 0 6 := ⟨w_81, w_82, w_71, w_80, by decide +kernel, by decide, ⟨TX6, 3, rfl⟩, ⟨_, _, rfl⟩⟩
theorem w_83 : Cond.methodLink RX6 74 yX6_number ∈ WL := wl_of (List.mem_append_right _ (in_t2 (List.mem_of_getElem? (i := 215) rfl))) rfl
theorem w_84 : Cond.code M_X6_goesDeeper.1 M_X6_goesDeeper.2.1 M_X6_goesDeeper.2.2.1 M_X6_goesDeeper.2.2.2 ∈ WL := wl_of (List.mem_append_right _ (in_t2 (List.mem_of_getElem? (i := 198) rfl))) rfl
theorem w_85 : Cond.instanceMethod yX6_goesDeeper ∈ WL := wl_of (List.mem_append_right _ (in_t2 (List.mem_of_getElem? (i := 197) rfl))) rfl
theorem w_86 : Cond.selects yX6_goesDeeper.cls yX6_goesDeeper yX6_goesDeeper ∈ WL := wl_of (List.mem_append_left _ (List.mem_map.mpr ⟨(yX6_goesDeeper, 3), List.mem_of_getElem? (i := 6) (by decide +kernel), rfl⟩)) rfl
theorem cv_X6_goesDeeper : CalV M_X6_goesDeeper 1 6 := ⟨w_85, w_86, w_71, w_84, by decide +kernel, by decide, ⟨TX6, 3, rfl⟩, ⟨_, _, rfl⟩⟩
theorem w_87 : Cond.methodLink RX6 71 yX6_goesDeeper ∈ WL := wl_of (List.mem_append_right _ (in_t2 (List.mem_of_getElem? (i := 195) rfl))) rfl
theorem w_88 : Cond.code M_X6_chain.1 M_X6_chain.2.1 M_X6_chain.2.2.1 M_X6_chain.2.2.2 ∈ WL := wl_of (List.mem_append_right _ (in_t2 (List.mem_of_getElem? (i := 186) rfl))) rfl
theorem w_89 : Cond.instanceMethod yX6_chain ∈ WL := wl_of (List.mem_append_right _ (in_t2 (List.mem_of_getElem? (i := 185) rfl))) rfl
theorem w_90 : Cond.selects yX6_chain.cls yX6_chain yX6_chain ∈ WL := wl_of (List.mem_append_left _ (List.mem_map.mpr ⟨(yX6_chain, 3), List.mem_of_getElem? (i := 3) (by decide +kernel), rfl⟩)) rfl
theorem cv_X6_chain : CalV M_X6_chain 3 6 := ⟨w_89, w_90, w_71, w_88, by decide +kernel, by decide, ⟨TX6, 3, rfl⟩, ⟨_, _, rfl⟩⟩
theorem w_91 : Cond.methodLink RX6 43 yX6_chain ∈ WL := wl_of (List.mem_append_right _ (in_t2 (List.mem_of_getElem? (i := 183) rfl))) rfl
theorem w_92 : Cond.code M_X6_part.1 M_X6_part.2.1 M_X6_part.2.2.1 M_X6_part.2.2.2 ∈ WL := wl_of (List.mem_append_right _ (in_t2 (List.mem_of_getElem? (i := 190) rfl))) rfl
theorem w_93 : Cond.instanceMethod yX6_part ∈ WL := wl_of (List.mem_append_right _ (in_t2 (List.mem_of_getElem? (i := 189) rfl))) rfl
theorem w_94 : Cond.selects yX6_part.cls yX6_part yX6_part ∈ WL := wl_of (List.mem_append_left _ (List.mem_map.mpr ⟨(yX6_part, 3), List.mem_of_getElem? (i := 4) (by decide +kernel), rfl⟩)) rfl
theorem cv_X6_part : CalV M_X6_part 3 6 := ⟨w_93, w_94, w_71, w_92, by decide +kernel, by decide, ⟨TX6, 3, rfl⟩, ⟨_, _, rfl⟩⟩
theorem w_95 : Cond.methodLink RX6 54 yX6_part ∈ WL := wl_of (List.mem_append_right _ (in_t2 (List.mem_of_getElem? (i := 187) rfl))) rfl
theorem w_96 : Cond.code M_X6_joins.1 M_X6_joins.2.1 M_X6_joins.2.2.1 M_X6_joins.2.2.2 ∈ WL := wl_of (List.mem_append_right _ (in_t2 (List.mem_of_getElem? (i := 222) rfl))) rfl
theorem w_97 : Cond.static yX6_joins ∈ WL := wl_of (List.mem_append_right _ (in_t2 (List.mem_of_getElem? (i := 221) rfl))) rfl
theorem cv_X6_joins : CalS M_X6_joins 2 := ⟨w_97, w_71, w_96, by decide +kernel, by decide⟩
theorem w_98 : Cond.methodLink RX6 57 yX6_joins ∈ WL := wl_of (List.mem_append_right _ (in_t2 (List.mem_of_getElem? (i := 220) rfl))) rfl
theorem w_99 : Cond.code M_X6_atom.1 M_X6_atom.2.1 M_X6_atom.2.2.1 M_X6_atom.2.2.2 ∈ WL := wl_of (List.mem_append_right _ (in_t2 (List.mem_of_getElem? (i := 214) rfl))) rfl
theorem w_100 : Cond.instanceMethod yX6_atom ∈ WL := wl_of (List.mem_append_right _ (in_t2 (List.mem_of_getElem? (i := 213) rfl))) rfl
theorem w_101 : Cond.selects yX6_atom.cls yX6_atom yX6_atom ∈ WL := wl_of (List.mem_append_left _ (List.mem_map.mpr ⟨(yX6_atom, 3), List.mem_of_getElem? (i := 9) (by decide +kernel), rfl⟩)) rfl
theorem cv_X6_atom : CalV M_X6_atom 1 6 := ⟨w_100, w_101, w_71, w_99, by decide +kernel, by decide, ⟨TX6, 3, rfl⟩, ⟨_, _, rfl⟩⟩
theorem w_102 : Cond.methodLink RX6 68 yX6_atom ∈ WL := wl_of (List.mem_append_right _ (in_t2 (List.mem_of_getElem? (i := 211) rfl))) rfl
theorem w_103 : Cond.code M_X6_unit.1 M_X6_unit.2.1 M_X6_unit.2.2.1 M_X6_unit.2.2.2 ∈ WL := wl_of (List.mem_append_right _ (in_t2 (List.mem_of_getElem? (i := 194) rfl))) rfl
theorem w_104 : Cond.instanceMethod yX6_unit ∈ WL := wl_of (List.mem_append_right _ (in_t2 (List.mem_of_getElem? (i := 193) rfl))) rfl
theorem w_105 : Cond.selects yX6_unit.cls yX6_unit yX6_unit ∈ WL := wl_of (List.mem_append_left _ (List.mem_map.mpr ⟨(yX6_unit, 3), List.mem_of_getElem? (i := 5) (by decide +kernel), rfl⟩)) rfl
theorem cv_X6_unit : CalV M_X6_unit 2 6 := ⟨w_104, w_105, w_71, w_103, by decide +kernel, by decide, ⟨TX6, 3, rfl⟩, ⟨_, _, rfl⟩⟩
theorem w_106 : Cond.methodLink RX6 64 yX6_unit ∈ WL := wl_of (List.mem_append_right _ (in_t2 (List.mem_of_getElem? (i := 191) rfl))) rfl
theorem w_107 : Cond.code M_X6_compares.1 M_X6_compares.2.1 M_X6_compares.2.2.1 M_X6_compares.2.2.2 ∈ WL := wl_of (List.mem_append_right _ (in_t2 (List.mem_of_getElem? (i := 210) rfl))) rfl
theorem w_108 : Cond.static yX6_compares ∈ WL := wl_of (List.mem_append_right _ (in_t2 (List.mem_of_getElem? (i := 209) rfl))) rfl
theorem cv_X6_compares : CalS M_X6_compares 1 := ⟨w_108, w_71, w_107, by decide +kernel, by decide⟩
theorem w_109 : Cond.methodLink RX6 47 yX6_compares ∈ WL := wl_of (List.mem_append_right _ (in_t2 (List.mem_of_getElem? (i := 208) rfl))) rfl
theorem w_110 : Cond.code M_X6_clause.1 M_X6_clause.2.1 M_X6_clause.2.2.1 M_X6_clause.2.2.2 ∈ WL := wl_of (List.mem_append_right _ (in_t2 (List.mem_of_getElem? (i := 175) rfl))) rfl
theorem w_111 : Cond.instanceMethod yX6_clause ∈ WL := wl_of (List.mem_append_right _ (in_t2 (List.mem_of_getElem? (i := 174) rfl))) rfl
theorem w_112 : Cond.selects yX6_clause.cls yX6_clause yX6_clause ∈ WL := wl_of (List.mem_append_left _ (List.mem_map.mpr ⟨(yX6_clause, 3), List.mem_of_getElem? (i := 2) (by decide +kernel), rfl⟩)) rfl
theorem cv_X6_clause : CalV M_X6_clause 0 6 := ⟨w_111, w_112, w_71, w_110, by decide +kernel, by decide, ⟨TX6, 3, rfl⟩, ⟨_, _, rfl⟩⟩
theorem w_113 : Cond.methodLink RX6 28 yX6_clause ∈ WL := wl_of (List.mem_append_right _ (in_t2 (List.mem_of_getElem? (i := 172) rfl))) rfl
theorem w_114 : Cond.code M_X6_readLaw.1 M_X6_readLaw.2.1 M_X6_readLaw.2.2.1 M_X6_readLaw.2.2.2 ∈ WL := wl_of (List.mem_append_right _ (in_t2 (List.mem_of_getElem? (i := 170) rfl))) rfl
theorem w_115 : Cond.instanceMethod yX6_readLaw ∈ WL := wl_of (List.mem_append_right _ (in_t2 (List.mem_of_getElem? (i := 168) rfl))) rfl
theorem w_116 : Cond.selects yX6_readLaw.cls yX6_readLaw yX6_readLaw ∈ WL := wl_of (List.mem_append_right _ (in_t2 (List.mem_of_getElem? (i := 169) rfl))) rfl
theorem cv_X6_readLaw : CalV M_X6_readLaw 0 6 := ⟨w_115, w_116, w_71, w_114, by decide +kernel, by decide, ⟨TX6, 3, rfl⟩, ⟨_, _, rfl⟩⟩
theorem w_117 : Cond.methodLink RX11 133 yX6_readLaw ∈ WL := wl_of (List.mem_append_right _ (in_t2 (List.mem_of_getElem? (i := 167) rfl))) rfl
theorem w_118 : Cond.fieldLink RX11 23 "PulseParts" "codes" "LPulseParts$Codes;" ∈ WL := wl_of (List.mem_append_right _ (in_t2 (List.mem_of_getElem? (i := 61) rfl))) rfl
theorem w_119 : Cond.methodLink RX3 26 yX10_start ∈ WL := wl_of (List.mem_append_right _ (in_t2 (List.mem_of_getElem? (i := 134) rfl))) rfl
theorem w_120 : Cond.fieldLink RX3 18 "PulseParts$Codes" "many" "I" ∈ WL := wl_of (List.mem_append_right _ (in_t1 (List.mem_of_getElem? (i := 60) rfl))) rfl
theorem w_121 : Cond.fieldLink RX3 15 "PulseParts$Codes" "lengths" "[I" ∈ WL := wl_of (List.mem_append_right _ (in_t1 (List.mem_of_getElem? (i := 59) rfl))) rfl
theorem w_122 : Cond.methodLink RX3 31 yX10_next ∈ WL := wl_of (List.mem_append_right _ (in_t2 (List.mem_of_getElem? (i := 138) rfl))) rfl
theorem w_123 : Cond.code M_X3_turnOf.1 M_X3_turnOf.2.1 M_X3_turnOf.2.2.1 M_X3_turnOf.2.2.2 ∈ WL := wl_of (List.mem_append_right _ (in_t2 (List.mem_of_getElem? (i := 148) rfl))) rfl
theorem w_124 : Cond.initialized RX3 ∈ WL := wl_of (List.mem_append_right _ (in_t1 (List.mem_of_getElem? (i := 3) rfl))) rfl
theorem w_125 : Cond.static yX3_turnOf ∈ WL := wl_of (List.mem_append_right _ (in_t2 (List.mem_of_getElem? (i := 147) rfl))) rfl
theorem cv_X3_turnOf : CalS M_X3_turnOf 1 := ⟨w_125, w_124, w_123, by decide +kernel, by decide⟩
theorem w_126 : Cond.methodLink RX3 35 yX3_turnOf ∈ WL := wl_of (List.mem_append_right _ (in_t2 (List.mem_of_getElem? (i := 146) rfl))) rfl
theorem w_127 : Cond.methodLink RX3 42 yX10_step ∈ WL := wl_of (List.mem_append_right _ (in_t2 (List.mem_of_getElem? (i := 149) rfl))) rfl
theorem w_128 : Cond.methodLink RX3 45 yX10_digit ∈ WL := wl_of (List.mem_append_right _ (in_t2 (List.mem_of_getElem? (i := 153) rfl))) rfl
theorem w_129 : Cond.methodLink RX3 48 Lib.Math.max.name ∈ WL := wl_of (List.mem_append_right _ (in_t2 (List.mem_of_getElem? (i := 157) rfl))) rfl
theorem w_130 : Cond.static Lib.Math.max.name ∈ WL := wl_of (List.mem_append_right _ (in_t2 (List.mem_of_getElem? (i := 158) rfl))) rfl
theorem w_131 : Cond.initialized RJ9 ∈ WL := wl_of (List.mem_append_right _ (in_t1 (List.mem_of_getElem? (i := 15) rfl))) rfl
theorem w_132 : Cond.code Lib.Math.max.name Lib.Math.max.code 2 (some .int) ∈ WL := wl_of (List.mem_append_right _ (in_t2 (List.mem_of_getElem? (i := 159) rfl))) rfl
theorem w_133 : Cond.methodLink RX3 58 Lib.Math.min.name ∈ WL := wl_of (List.mem_append_right _ (in_t2 (List.mem_of_getElem? (i := 164) rfl))) rfl
theorem w_134 : Cond.static Lib.Math.min.name ∈ WL := wl_of (List.mem_append_right _ (in_t2 (List.mem_of_getElem? (i := 165) rfl))) rfl
theorem w_135 : Cond.code Lib.Math.min.name Lib.Math.min.code 2 (some .int) ∈ WL := wl_of (List.mem_append_right _ (in_t2 (List.mem_of_getElem? (i := 166) rfl))) rfl
theorem w_136 : Cond.fieldLink RX3 11 "PulseParts$Codes" "turns" "[I" ∈ WL := wl_of (List.mem_append_right _ (in_t1 (List.mem_of_getElem? (i := 57) rfl))) rfl
theorem w_137 : Cond.code M_X3_putRun.1 M_X3_putRun.2.1 M_X3_putRun.2.2.1 M_X3_putRun.2.2.2 ∈ WL := wl_of (List.mem_append_right _ (in_t2 (List.mem_of_getElem? (i := 163) rfl))) rfl
theorem w_138 : Cond.instanceMethod yX3_putRun ∈ WL := wl_of (List.mem_append_right _ (in_t2 (List.mem_of_getElem? (i := 162) rfl))) rfl
theorem w_139 : Cond.selects yX3_putRun.cls yX3_putRun yX3_putRun ∈ WL := wl_of (List.mem_append_left _ (List.mem_map.mpr ⟨(yX3_putRun, 3), List.mem_of_getElem? (i := 1) (by decide +kernel), rfl⟩)) rfl
theorem cv_X3_putRun : CalV M_X3_putRun 3 3 := ⟨w_138, w_139, w_124, w_137, by decide +kernel, by decide, ⟨TX3, 3, rfl⟩, ⟨_, _, rfl⟩⟩
theorem w_140 : Cond.methodLink RX3 54 yX3_putRun ∈ WL := wl_of (List.mem_append_right _ (in_t2 (List.mem_of_getElem? (i := 160) rfl))) rfl
theorem w_141 : Cond.code M_X3_readFrom.1 M_X3_readFrom.2.1 M_X3_readFrom.2.2.1 M_X3_readFrom.2.2.2 ∈ WL := wl_of (List.mem_append_right _ (in_t2 (List.mem_of_getElem? (i := 133) rfl))) rfl
theorem w_142 : Cond.instanceMethod yX3_readFrom ∈ WL := wl_of (List.mem_append_right _ (in_t2 (List.mem_of_getElem? (i := 131) rfl))) rfl
theorem w_143 : Cond.selects yX3_readFrom.cls yX3_readFrom yX3_readFrom ∈ WL := wl_of (List.mem_append_right _ (in_t2 (List.mem_of_getElem? (i := 132) rfl))) rfl
theorem cv_X3_readFrom : CalV M_X3_readFrom 1 3 := ⟨w_142, w_143, w_124, w_141, by decide +kernel, by decide, ⟨TX3, 3, rfl⟩, ⟨_, _, rfl⟩⟩
theorem w_144 : Cond.methodLink RX11 129 yX3_readFrom ∈ WL := wl_of (List.mem_append_right _ (in_t2 (List.mem_of_getElem? (i := 130) rfl))) rfl
theorem w_145 : Cond.code M_X11_faultOf.1 M_X11_faultOf.2.1 M_X11_faultOf.2.2.1 M_X11_faultOf.2.2.2 ∈ WL := wl_of (List.mem_append_right _ (in_t2 (List.mem_of_getElem? (i := 129) rfl))) rfl
theorem w_146 : Cond.instanceMethod yX11_faultOf ∈ WL := wl_of (List.mem_append_right _ (in_t2 (List.mem_of_getElem? (i := 128) rfl))) rfl
theorem w_147 : Cond.selects yX11_faultOf.cls yX11_faultOf yX11_faultOf ∈ WL := wl_of (List.mem_append_left _ (List.mem_map.mpr ⟨(yX11_faultOf, 12), List.mem_of_getElem? (i := 0) (by decide +kernel), rfl⟩)) rfl
theorem cv_X11_faultOf : CalV M_X11_faultOf 1 11 := ⟨w_146, w_147, w_16, w_145, by decide +kernel, by decide, ⟨TX11, 12, rfl⟩, ⟨_, _, rfl⟩⟩
theorem w_148 : Cond.methodLink RX11 119 yX11_faultOf ∈ WL := wl_of (List.mem_append_right _ (in_t2 (List.mem_of_getElem? (i := 126) rfl))) rfl
theorem w_149 : Cond.code M_X3_keep.1 M_X3_keep.2.1 M_X3_keep.2.2.1 M_X3_keep.2.2.2 ∈ WL := wl_of (List.mem_append_right _ (in_t3 (List.mem_of_getElem? (i := 16) rfl))) rfl
theorem w_150 : Cond.instanceMethod yX3_keep ∈ WL := wl_of (List.mem_append_right _ (in_t3 (List.mem_of_getElem? (i := 14) rfl))) rfl
theorem w_151 : Cond.selects yX3_keep.cls yX3_keep yX3_keep ∈ WL := wl_of (List.mem_append_right _ (in_t3 (List.mem_of_getElem? (i := 15) rfl))) rfl
theorem cv_X3_keep : CalV M_X3_keep 0 3 := ⟨w_150, w_151, w_124, w_149, by decide +kernel, by decide, ⟨TX3, 3, rfl⟩, ⟨_, _, rfl⟩⟩
theorem w_152 : Cond.methodLink RX11 143 yX3_keep ∈ WL := wl_of (List.mem_append_right _ (in_t3 (List.mem_of_getElem? (i := 13) rfl))) rfl
theorem w_153 : Cond.fieldLink RX11 48 "PulseParts" "echoes" "LPulseParts$Echoes;" ∈ WL := wl_of (List.mem_append_right _ (in_t2 (List.mem_of_getElem? (i := 64) rfl))) rfl
theorem w_154 : Cond.fieldLink RX4 9 "PulseParts$Echoes" "codes" "LPulseParts$Codes;" ∈ WL := wl_of (List.mem_append_right _ (in_t1 (List.mem_of_getElem? (i := 117) rfl))) rfl
theorem w_155 : Cond.code M_X3_has.1 M_X3_has.2.1 M_X3_has.2.2.1 M_X3_has.2.2.2 ∈ WL := wl_of (List.mem_append_right _ (in_t3 (List.mem_of_getElem? (i := 24) rfl))) rfl
theorem w_156 : Cond.instanceMethod yX3_has ∈ WL := wl_of (List.mem_append_right _ (in_t3 (List.mem_of_getElem? (i := 22) rfl))) rfl
theorem w_157 : Cond.selects yX3_has.cls yX3_has yX3_has ∈ WL := wl_of (List.mem_append_right _ (in_t3 (List.mem_of_getElem? (i := 23) rfl))) rfl
theorem cv_X3_has : CalV M_X3_has 1 3 := ⟨w_156, w_157, w_124, w_155, by decide +kernel, by decide, ⟨TX3, 3, rfl⟩, ⟨_, _, rfl⟩⟩
theorem w_158 : Cond.methodLink RX4 42 yX3_has ∈ WL := wl_of (List.mem_append_right _ (in_t3 (List.mem_of_getElem? (i := 21) rfl))) rfl
theorem w_159 : Cond.code M_X3_lengthOf.1 M_X3_lengthOf.2.1 M_X3_lengthOf.2.2.1 M_X3_lengthOf.2.2.2 ∈ WL := wl_of (List.mem_append_right _ (in_t3 (List.mem_of_getElem? (i := 32) rfl))) rfl
theorem w_160 : Cond.instanceMethod yX3_lengthOf ∈ WL := wl_of (List.mem_append_right _ (in_t3 (List.mem_of_getElem? (i := 30) rfl))) rfl
theorem w_161 : Cond.selects yX3_lengthOf.cls yX3_lengthOf yX3_lengthOf ∈ WL := wl_of (List.mem_append_right _ (in_t3 (List.mem_of_getElem? (i := 31) rfl))) rfl
theorem cv_X3_lengthOf : CalV M_X3_lengthOf 1 3 := ⟨w_160, w_161, w_124, w_159, by decide +kernel, by decide, ⟨TX3, 3, rfl⟩, ⟨_, _, rfl⟩⟩
theorem w_162 : Cond.methodLink RX4 28 yX3_lengthOf ∈ WL := wl_of (List.mem_append_right _ (in_t3 (List.mem_of_getElem? (i := 29) rfl))) rfl
theorem w_163 : Cond.fieldLink RX4 21 "PulseParts$Echoes" "weights" "[I" ∈ WL := wl_of (List.mem_append_right _ (in_t1 (List.mem_of_getElem? (i := 119) rfl))) rfl
theorem w_164 : Cond.fieldLink RX4 15 "PulseParts$Echoes" "laws" "LPulseParts$Laws;" ∈ WL := wl_of (List.mem_append_right _ (in_t1 (List.mem_of_getElem? (i := 118) rfl))) rfl
theorem w_165 : Cond.methodLink RX3 22 yX3_has ∈ WL := wl_of (List.mem_append_right _ (in_t3 (List.mem_of_getElem? (i := 37) rfl))) rfl
theorem w_166 : Cond.code M_X3_turn.1 M_X3_turn.2.1 M_X3_turn.2.2.1 M_X3_turn.2.2.2 ∈ WL := wl_of (List.mem_append_right _ (in_t3 (List.mem_of_getElem? (i := 36) rfl))) rfl
theorem w_167 : Cond.instanceMethod yX3_turn ∈ WL := wl_of (List.mem_append_right _ (in_t3 (List.mem_of_getElem? (i := 34) rfl))) rfl
theorem w_168 : Cond.selects yX3_turn.cls yX3_turn yX3_turn ∈ WL := wl_of (List.mem_append_right _ (in_t3 (List.mem_of_getElem? (i := 35) rfl))) rfl
theorem cv_X3_turn : CalV M_X3_turn 2 3 := ⟨w_167, w_168, w_124, w_166, by decide +kernel, by decide, ⟨TX3, 3, rfl⟩, ⟨_, _, rfl⟩⟩
theorem w_169 : Cond.methodLink RX4 32 yX3_turn ∈ WL := wl_of (List.mem_append_right _ (in_t3 (List.mem_of_getElem? (i := 33) rfl))) rfl
theorem w_170 : Cond.fieldLink RX7 23 "PulseParts$Laws" "many" "I" ∈ WL := wl_of (List.mem_append_right _ (in_t1 (List.mem_of_getElem? (i := 98) rfl))) rfl
theorem w_171 : Cond.fieldLink RX7 47 "PulseParts$Laws" "top" "I" ∈ WL := wl_of (List.mem_append_right _ (in_t1 (List.mem_of_getElem? (i := 97) rfl))) rfl
theorem w_172 : Cond.fieldLink RX7 13 "PulseParts$Laws" "steps" "[I" ∈ WL := wl_of (List.mem_append_right _ (in_t1 (List.mem_of_getElem? (i := 94) rfl))) rfl
theorem w_173 : Cond.fieldLink RX7 20 "PulseParts$Laws" "stack" "[I" ∈ WL := wl_of (List.mem_append_right _ (in_t1 (List.mem_of_getElem? (i := 96) rfl))) rfl
theorem w_174 : Cond.code M_X7_pop.1 M_X7_pop.2.1 M_X7_pop.2.2.1 M_X7_pop.2.2.2 ∈ WL := wl_of (List.mem_append_right _ (in_t3 (List.mem_of_getElem? (i := 53) rfl))) rfl
theorem w_175 : Cond.initialized RX7 ∈ WL := wl_of (List.mem_append_right _ (in_t1 (List.mem_of_getElem? (i := 5) rfl))) rfl
theorem w_176 : Cond.instanceMethod yX7_pop ∈ WL := wl_of (List.mem_append_right _ (in_t3 (List.mem_of_getElem? (i := 52) rfl))) rfl
theorem w_177 : Cond.selects yX7_pop.cls yX7_pop yX7_pop ∈ WL := wl_of (List.mem_append_left _ (List.mem_map.mpr ⟨(yX7_pop, 5), List.mem_of_getElem? (i := 15) (by decide +kernel), rfl⟩)) rfl
theorem cv_X7_pop : CalV M_X7_pop 0 7 := ⟨w_176, w_177, w_175, w_174, by decide +kernel, by decide, ⟨TX7, 5, rfl⟩, ⟨_, _, rfl⟩⟩
theorem w_178 : Cond.methodLink RX7 54 yX7_pop ∈ WL := wl_of (List.mem_append_right _ (in_t3 (List.mem_of_getElem? (i := 50) rfl))) rfl
theorem w_179 : Cond.constant RX7 65 (1000000) ∈ WL := wl_of (List.mem_append_right _ (in_t3 (List.mem_of_getElem? (i := 61) rfl))) rfl
theorem w_180 : Cond.methodLink RX7 66 Lib.MathLoose.min_long.x ∈ WL := wl_of (List.mem_append_right _ (in_t3 (List.mem_of_getElem? (i := 65) rfl))) rfl
theorem w_181 : Cond.static Lib.MathLoose.min_long.x ∈ WL := wl_of (List.mem_append_right _ (in_t3 (List.mem_of_getElem? (i := 66) rfl))) rfl
theorem w_182 : Cond.code Lib.MathLoose.min_long.x Lib.MathLoose.min_long.code 4 (some .long) ∈ WL := wl_of (List.mem_append_right _ (in_t3 (List.mem_of_getElem? (i := 67) rfl))) rfl
theorem w_183 : Cond.methodLink RX7 69 Lib.MathLoose.max_long.x ∈ WL := wl_of (List.mem_append_right _ (in_t3 (List.mem_of_getElem? (i := 68) rfl))) rfl
theorem w_184 : Cond.static Lib.MathLoose.max_long.x ∈ WL := wl_of (List.mem_append_right _ (in_t3 (List.mem_of_getElem? (i := 69) rfl))) rfl
theorem w_185 : Cond.code Lib.MathLoose.max_long.x Lib.MathLoose.max_long.code 4 (some .long) ∈ WL := wl_of (List.mem_append_right _ (in_t3 (List.mem_of_getElem? (i := 70) rfl))) rfl
theorem w_186 : Cond.code M_X7_held.1 M_X7_held.2.1 M_X7_held.2.2.1 M_X7_held.2.2.2 ∈ WL := wl_of (List.mem_append_right _ (in_t3 (List.mem_of_getElem? (i := 64) rfl))) rfl
theorem w_187 : Cond.static yX7_held ∈ WL := wl_of (List.mem_append_right _ (in_t3 (List.mem_of_getElem? (i := 63) rfl))) rfl
theorem cv_X7_held : CalS M_X7_held 2 := ⟨w_187, w_175, w_186, by decide +kernel, by decide⟩
theorem w_188 : Cond.methodLink RX7 43 yX7_held ∈ WL := wl_of (List.mem_append_right _ (in_t3 (List.mem_of_getElem? (i := 62) rfl))) rfl
theorem w_189 : Cond.code M_X7_joined.1 M_X7_joined.2.1 M_X7_joined.2.2.1 M_X7_joined.2.2.2 ∈ WL := wl_of (List.mem_append_right _ (in_t3 (List.mem_of_getElem? (i := 60) rfl))) rfl
theorem w_190 : Cond.static yX7_joined ∈ WL := wl_of (List.mem_append_right _ (in_t3 (List.mem_of_getElem? (i := 59) rfl))) rfl
theorem cv_X7_joined : CalS M_X7_joined 3 := ⟨w_190, w_175, w_189, by decide +kernel, by decide⟩
theorem w_191 : Cond.methodLink RX7 61 yX7_joined ∈ WL := wl_of (List.mem_append_right _ (in_t3 (List.mem_of_getElem? (i := 58) rfl))) rfl
theorem w_192 : Cond.code M_X7_push.1 M_X7_push.2.1 M_X7_push.2.2.1 M_X7_push.2.2.2 ∈ WL := wl_of (List.mem_append_right _ (in_t3 (List.mem_of_getElem? (i := 49) rfl))) rfl
theorem w_193 : Cond.instanceMethod yX7_push ∈ WL := wl_of (List.mem_append_right _ (in_t3 (List.mem_of_getElem? (i := 48) rfl))) rfl
theorem w_194 : Cond.selects yX7_push.cls yX7_push yX7_push ∈ WL := wl_of (List.mem_append_left _ (List.mem_map.mpr ⟨(yX7_push, 5), List.mem_of_getElem? (i := 14) (by decide +kernel), rfl⟩)) rfl
theorem cv_X7_push : CalV M_X7_push 1 7 := ⟨w_193, w_194, w_175, w_192, by decide +kernel, by decide, ⟨TX7, 5, rfl⟩, ⟨_, _, rfl⟩⟩
theorem w_195 : Cond.methodLink RX7 50 yX7_push ∈ WL := wl_of (List.mem_append_right _ (in_t3 (List.mem_of_getElem? (i := 46) rfl))) rfl
theorem w_196 : Cond.code M_X7_doStep.1 M_X7_doStep.2.1 M_X7_doStep.2.2.1 M_X7_doStep.2.2.2 ∈ WL := wl_of (List.mem_append_right _ (in_t3 (List.mem_of_getElem? (i := 57) rfl))) rfl
theorem w_197 : Cond.instanceMethod yX7_doStep ∈ WL := wl_of (List.mem_append_right _ (in_t3 (List.mem_of_getElem? (i := 56) rfl))) rfl
theorem w_198 : Cond.selects yX7_doStep.cls yX7_doStep yX7_doStep ∈ WL := wl_of (List.mem_append_left _ (List.mem_map.mpr ⟨(yX7_doStep, 5), List.mem_of_getElem? (i := 16) (by decide +kernel), rfl⟩)) rfl
theorem cv_X7_doStep : CalV M_X7_doStep 1 7 := ⟨w_197, w_198, w_175, w_196, by decide +kernel, by decide, ⟨TX7, 5, rfl⟩, ⟨_, _, rfl⟩⟩
theorem w_199 : Cond.methodLink RX7 58 yX7_doStep ∈ WL := wl_of (List.mem_append_right _ (in_t3 (List.mem_of_getElem? (i := 54) rfl))) rfl
theorem w_200 : Cond.fieldLink RX7 17 "PulseParts$Laws" "lengths" "[I" ∈ WL := wl_of (List.mem_append_right _ (in_t1 (List.mem_of_getElem? (i := 95) rfl))) rfl
theorem w_201 : Cond.methodLink RX7 32 Lib.Math.min.name ∈ WL := wl_of (List.mem_append_right _ (in_t3 (List.mem_of_getElem? (i := 8) rfl))) rfl
theorem w_202 : Cond.code M_X7_worth.1 M_X7_worth.2.1 M_X7_worth.2.2.1 M_X7_worth.2.2.2 ∈ WL := wl_of (List.mem_append_right _ (in_t3 (List.mem_of_getElem? (i := 45) rfl))) rfl
theorem w_203 : Cond.instanceMethod yX7_worth ∈ WL := wl_of (List.mem_append_right _ (in_t3 (List.mem_of_getElem? (i := 44) rfl))) rfl
theorem w_204 : Cond.selects yX7_worth.cls yX7_worth yX7_worth ∈ WL := wl_of (List.mem_append_left _ (List.mem_map.mpr ⟨(yX7_worth, 5), List.mem_of_getElem? (i := 13) (by decide +kernel), rfl⟩)) rfl
theorem cv_X7_worth : CalV M_X7_worth 5 7 := ⟨w_203, w_204, w_175, w_202, by decide +kernel, by decide, ⟨TX7, 5, rfl⟩, ⟨_, _, rfl⟩⟩
theorem w_205 : Cond.methodLink RX7 39 yX7_worth ∈ WL := wl_of (List.mem_append_right _ (in_t3 (List.mem_of_getElem? (i := 42) rfl))) rfl
theorem w_206 : Cond.code M_X7_weightOf.1 M_X7_weightOf.2.1 M_X7_weightOf.2.2.1 M_X7_weightOf.2.2.2 ∈ WL := wl_of (List.mem_append_right _ (in_t3 (List.mem_of_getElem? (i := 41) rfl))) rfl
theorem w_207 : Cond.instanceMethod yX7_weightOf ∈ WL := wl_of (List.mem_append_right _ (in_t3 (List.mem_of_getElem? (i := 39) rfl))) rfl
theorem w_208 : Cond.selects yX7_weightOf.cls yX7_weightOf yX7_weightOf ∈ WL := wl_of (List.mem_append_right _ (in_t3 (List.mem_of_getElem? (i := 40) rfl))) rfl
theorem cv_X7_weightOf : CalV M_X7_weightOf 4 7 := ⟨w_207, w_208, w_175, w_206, by decide +kernel, by decide, ⟨TX7, 5, rfl⟩, ⟨_, _, rfl⟩⟩
theorem w_209 : Cond.methodLink RX4 36 yX7_weightOf ∈ WL := wl_of (List.mem_append_right _ (in_t3 (List.mem_of_getElem? (i := 38) rfl))) rfl
theorem w_210 : Cond.code M_X4_weigh.1 M_X4_weigh.2.1 M_X4_weigh.2.2.1 M_X4_weigh.2.2.2 ∈ WL := wl_of (List.mem_append_right _ (in_t3 (List.mem_of_getElem? (i := 28) rfl))) rfl
theorem w_211 : Cond.initialized RX4 ∈ WL := wl_of (List.mem_append_right _ (in_t1 (List.mem_of_getElem? (i := 6) rfl))) rfl
theorem w_212 : Cond.instanceMethod yX4_weigh ∈ WL := wl_of (List.mem_append_right _ (in_t3 (List.mem_of_getElem? (i := 26) rfl))) rfl
theorem w_213 : Cond.selects yX4_weigh.cls yX4_weigh yX4_weigh ∈ WL := wl_of (List.mem_append_right _ (in_t3 (List.mem_of_getElem? (i := 27) rfl))) rfl
theorem cv_X4_weigh : CalV M_X4_weigh 2 4 := ⟨w_212, w_213, w_211, w_210, by decide +kernel, by decide, ⟨TX4, 6, rfl⟩, ⟨_, _, rfl⟩⟩
theorem w_214 : Cond.methodLink RX4 81 yX4_weigh ∈ WL := wl_of (List.mem_append_right _ (in_t3 (List.mem_of_getElem? (i := 25) rfl))) rfl
theorem w_215 : Cond.fieldLink RX4 57 "PulseParts$Echoes" "real" "I" ∈ WL := wl_of (List.mem_append_right _ (in_t1 (List.mem_of_getElem? (i := 122) rfl))) rfl
theorem w_216 : Cond.fieldLink RX4 61 "PulseParts$Echoes" "imaginary" "I" ∈ WL := wl_of (List.mem_append_right _ (in_t1 (List.mem_of_getElem? (i := 124) rfl))) rfl
theorem w_217 : Cond.methodLink RX4 49 Lib.Math.max.name ∈ WL := wl_of (List.mem_append_right _ (in_t3 (List.mem_of_getElem? (i := 83) rfl))) rfl
theorem w_218 : Cond.methodLink RX4 54 Lib.Math.min.name ∈ WL := wl_of (List.mem_append_right _ (in_t3 (List.mem_of_getElem? (i := 84) rfl))) rfl
theorem w_219 : Cond.code M_X4_addMeeting.1 M_X4_addMeeting.2.1 M_X4_addMeeting.2.2.1 M_X4_addMeeting.2.2.2 ∈ WL := wl_of (List.mem_append_right _ (in_t3 (List.mem_of_getElem? (i := 82) rfl))) rfl
theorem w_220 : Cond.instanceMethod yX4_addMeeting ∈ WL := wl_of (List.mem_append_right _ (in_t3 (List.mem_of_getElem? (i := 81) rfl))) rfl
theorem w_221 : Cond.selects yX4_addMeeting.cls yX4_addMeeting yX4_addMeeting ∈ WL := wl_of (List.mem_append_left _ (List.mem_map.mpr ⟨(yX4_addMeeting, 6), List.mem_of_getElem? (i := 18) (by decide +kernel), rfl⟩)) rfl
theorem cv_X4_addMeeting : CalV M_X4_addMeeting 4 4 := ⟨w_220, w_221, w_211, w_219, by decide +kernel, by decide, ⟨TX4, 6, rfl⟩, ⟨_, _, rfl⟩⟩
theorem w_222 : Cond.methodLink RX4 64 yX4_addMeeting ∈ WL := wl_of (List.mem_append_right _ (in_t3 (List.mem_of_getElem? (i := 79) rfl))) rfl
theorem w_223 : Cond.code M_X4_power.1 M_X4_power.2.1 M_X4_power.2.2.1 M_X4_power.2.2.2 ∈ WL := wl_of (List.mem_append_right _ (in_t3 (List.mem_of_getElem? (i := 88) rfl))) rfl
theorem w_224 : Cond.instanceMethod yX4_power ∈ WL := wl_of (List.mem_append_right _ (in_t3 (List.mem_of_getElem? (i := 87) rfl))) rfl
theorem w_225 : Cond.selects yX4_power.cls yX4_power yX4_power ∈ WL := wl_of (List.mem_append_left _ (List.mem_map.mpr ⟨(yX4_power, 6), List.mem_of_getElem? (i := 19) (by decide +kernel), rfl⟩)) rfl
theorem cv_X4_power : CalV M_X4_power 0 4 := ⟨w_224, w_225, w_211, w_223, by decide +kernel, by decide, ⟨TX4, 6, rfl⟩, ⟨_, _, rfl⟩⟩
theorem w_226 : Cond.methodLink RX4 68 yX4_power ∈ WL := wl_of (List.mem_append_right _ (in_t3 (List.mem_of_getElem? (i := 85) rfl))) rfl
theorem w_227 : Cond.code M_X4_powerOf.1 M_X4_powerOf.2.1 M_X4_powerOf.2.2.1 M_X4_powerOf.2.2.2 ∈ WL := wl_of (List.mem_append_right _ (in_t3 (List.mem_of_getElem? (i := 78) rfl))) rfl
theorem w_228 : Cond.instanceMethod yX4_powerOf ∈ WL := wl_of (List.mem_append_right _ (in_t3 (List.mem_of_getElem? (i := 76) rfl))) rfl
theorem w_229 : Cond.selects yX4_powerOf.cls yX4_powerOf yX4_powerOf ∈ WL := wl_of (List.mem_append_right _ (in_t3 (List.mem_of_getElem? (i := 77) rfl))) rfl
theorem cv_X4_powerOf : CalV M_X4_powerOf 4 4 := ⟨w_228, w_229, w_211, w_227, by decide +kernel, by decide, ⟨TX4, 6, rfl⟩, ⟨_, _, rfl⟩⟩
theorem w_230 : Cond.methodLink RX4 72 yX4_powerOf ∈ WL := wl_of (List.mem_append_right _ (in_t3 (List.mem_of_getElem? (i := 75) rfl))) rfl
theorem w_231 : Cond.code M_X4_greatestOf.1 M_X4_greatestOf.2.1 M_X4_greatestOf.2.2.1 M_X4_greatestOf.2.2.2 ∈ WL := wl_of (List.mem_append_right _ (in_t3 (List.mem_of_getElem? (i := 74) rfl))) rfl
theorem w_232 : Cond.instanceMethod yX4_greatestOf ∈ WL := wl_of (List.mem_append_right _ (in_t3 (List.mem_of_getElem? (i := 73) rfl))) rfl
theorem w_233 : Cond.selects yX4_greatestOf.cls yX4_greatestOf yX4_greatestOf ∈ WL := wl_of (List.mem_append_left _ (List.mem_map.mpr ⟨(yX4_greatestOf, 6), List.mem_of_getElem? (i := 17) (by decide +kernel), rfl⟩)) rfl
theorem cv_X4_greatestOf : CalV M_X4_greatestOf 3 4 := ⟨w_232, w_233, w_211, w_231, by decide +kernel, by decide, ⟨TX4, 6, rfl⟩, ⟨_, _, rfl⟩⟩
theorem w_234 : Cond.methodLink RX4 75 yX4_greatestOf ∈ WL := wl_of (List.mem_append_right _ (in_t3 (List.mem_of_getElem? (i := 71) rfl))) rfl
theorem w_235 : Cond.fieldLink RX4 25 "PulseParts$Echoes" "hindrances" "[I" ∈ WL := wl_of (List.mem_append_right _ (in_t1 (List.mem_of_getElem? (i := 121) rfl))) rfl
theorem w_236 : Cond.code M_X4_learn.1 M_X4_learn.2.1 M_X4_learn.2.2.1 M_X4_learn.2.2.2 ∈ WL := wl_of (List.mem_append_right _ (in_t3 (List.mem_of_getElem? (i := 20) rfl))) rfl
theorem w_237 : Cond.instanceMethod yX4_learn ∈ WL := wl_of (List.mem_append_right _ (in_t3 (List.mem_of_getElem? (i := 18) rfl))) rfl
theorem w_238 : Cond.selects yX4_learn.cls yX4_learn yX4_learn ∈ WL := wl_of (List.mem_append_right _ (in_t3 (List.mem_of_getElem? (i := 19) rfl))) rfl
theorem cv_X4_learn : CalV M_X4_learn 1 4 := ⟨w_237, w_238, w_211, w_236, by decide +kernel, by decide, ⟨TX4, 6, rfl⟩, ⟨_, _, rfl⟩⟩
theorem w_239 : Cond.methodLink RX11 144 yX4_learn ∈ WL := wl_of (List.mem_append_right _ (in_t3 (List.mem_of_getElem? (i := 17) rfl))) rfl
theorem w_240 : Cond.code M_X8_keep.1 M_X8_keep.2.1 M_X8_keep.2.2.1 M_X8_keep.2.2.2 ∈ WL := wl_of (List.mem_append_right _ (in_t3 (List.mem_of_getElem? (i := 12) rfl))) rfl
theorem w_241 : Cond.instanceMethod yX8_keep ∈ WL := wl_of (List.mem_append_right _ (in_t3 (List.mem_of_getElem? (i := 10) rfl))) rfl
theorem w_242 : Cond.selects yX8_keep.cls yX8_keep yX8_keep ∈ WL := wl_of (List.mem_append_right _ (in_t3 (List.mem_of_getElem? (i := 11) rfl))) rfl
theorem cv_X8_keep : CalV M_X8_keep 0 8 := ⟨w_241, w_242, w_48, w_240, by decide +kernel, by decide, ⟨TX8, 9, rfl⟩, ⟨_, _, rfl⟩⟩
theorem w_243 : Cond.methodLink RX11 141 yX8_keep ∈ WL := wl_of (List.mem_append_right _ (in_t3 (List.mem_of_getElem? (i := 9) rfl))) rfl
theorem w_244 : Cond.fieldLink RX11 39 "PulseParts" "laws" "LPulseParts$Laws;" ∈ WL := wl_of (List.mem_append_right _ (in_t2 (List.mem_of_getElem? (i := 63) rfl))) rfl
theorem w_245 : Cond.code M_X7_keep.1 M_X7_keep.2.1 M_X7_keep.2.2.1 M_X7_keep.2.2.2 ∈ WL := wl_of (List.mem_append_right _ (in_t3 (List.mem_of_getElem? (i := 7) rfl))) rfl
theorem w_246 : Cond.instanceMethod yX7_keep ∈ WL := wl_of (List.mem_append_right _ (in_t3 (List.mem_of_getElem? (i := 5) rfl))) rfl
theorem w_247 : Cond.selects yX7_keep.cls yX7_keep yX7_keep ∈ WL := wl_of (List.mem_append_right _ (in_t3 (List.mem_of_getElem? (i := 6) rfl))) rfl
theorem cv_X7_keep : CalV M_X7_keep 1 7 := ⟨w_246, w_247, w_175, w_245, by decide +kernel, by decide, ⟨TX7, 5, rfl⟩, ⟨_, _, rfl⟩⟩
theorem w_248 : Cond.methodLink RX11 138 yX7_keep ∈ WL := wl_of (List.mem_append_right _ (in_t3 (List.mem_of_getElem? (i := 4) rfl))) rfl
theorem w_249 : Cond.code M_X11_keep.1 M_X11_keep.2.1 M_X11_keep.2.2.1 M_X11_keep.2.2.2 ∈ WL := wl_of (List.mem_append_right _ (in_t3 (List.mem_of_getElem? (i := 3) rfl))) rfl
theorem w_250 : Cond.instanceMethod yX11_keep ∈ WL := wl_of (List.mem_append_right _ (in_t3 (List.mem_of_getElem? (i := 2) rfl))) rfl
theorem w_251 : Cond.selects yX11_keep.cls yX11_keep yX11_keep ∈ WL := wl_of (List.mem_append_left _ (List.mem_map.mpr ⟨(yX11_keep, 12), List.mem_of_getElem? (i := 12) (by decide +kernel), rfl⟩)) rfl
theorem cv_X11_keep : CalV M_X11_keep 1 11 := ⟨w_250, w_251, w_16, w_249, by decide +kernel, by decide, ⟨TX11, 12, rfl⟩, ⟨_, _, rfl⟩⟩
theorem w_252 : Cond.methodLink RX11 122 yX11_keep ∈ WL := wl_of (List.mem_append_right _ (in_t3 (List.mem_of_getElem? (i := 0) rfl))) rfl
theorem w_253 : Cond.code M_X8_has.1 M_X8_has.2.1 M_X8_has.2.2.1 M_X8_has.2.2.2 ∈ WL := wl_of (List.mem_append_right _ (in_t3 (List.mem_of_getElem? (i := 96) rfl))) rfl
theorem w_254 : Cond.instanceMethod yX8_has ∈ WL := wl_of (List.mem_append_right _ (in_t3 (List.mem_of_getElem? (i := 94) rfl))) rfl
theorem w_255 : Cond.selects yX8_has.cls yX8_has yX8_has ∈ WL := wl_of (List.mem_append_right _ (in_t3 (List.mem_of_getElem? (i := 95) rfl))) rfl
theorem cv_X8_has : CalV M_X8_has 1 8 := ⟨w_254, w_255, w_48, w_253, by decide +kernel, by decide, ⟨TX8, 9, rfl⟩, ⟨_, _, rfl⟩⟩
theorem w_256 : Cond.methodLink RX11 160 yX8_has ∈ WL := wl_of (List.mem_append_right _ (in_t3 (List.mem_of_getElem? (i := 93) rfl))) rfl
theorem w_257 : Cond.methodLink RX8 41 yX8_has ∈ WL := wl_of (List.mem_append_right _ (in_t3 (List.mem_of_getElem? (i := 105) rfl))) rfl
theorem w_258 : Cond.code M_X8_number.1 M_X8_number.2.1 M_X8_number.2.2.1 M_X8_number.2.2.2 ∈ WL := wl_of (List.mem_append_right _ (in_t3 (List.mem_of_getElem? (i := 104) rfl))) rfl
theorem w_259 : Cond.instanceMethod yX8_number ∈ WL := wl_of (List.mem_append_right _ (in_t3 (List.mem_of_getElem? (i := 102) rfl))) rfl
theorem w_260 : Cond.selects yX8_number.cls yX8_number yX8_number ∈ WL := wl_of (List.mem_append_right _ (in_t3 (List.mem_of_getElem? (i := 103) rfl))) rfl
theorem cv_X8_number : CalV M_X8_number 2 8 := ⟨w_259, w_260, w_48, w_258, by decide +kernel, by decide, ⟨TX8, 9, rfl⟩, ⟨_, _, rfl⟩⟩
theorem w_261 : Cond.methodLink RX11 162 yX8_number ∈ WL := wl_of (List.mem_append_right _ (in_t3 (List.mem_of_getElem? (i := 101) rfl))) rfl
theorem w_262 : Cond.code M_X8_lengthOf.1 M_X8_lengthOf.2.1 M_X8_lengthOf.2.2.1 M_X8_lengthOf.2.2.2 ∈ WL := wl_of (List.mem_append_right _ (in_t3 (List.mem_of_getElem? (i := 100) rfl))) rfl
theorem w_263 : Cond.instanceMethod yX8_lengthOf ∈ WL := wl_of (List.mem_append_right _ (in_t3 (List.mem_of_getElem? (i := 98) rfl))) rfl
theorem w_264 : Cond.selects yX8_lengthOf.cls yX8_lengthOf yX8_lengthOf ∈ WL := wl_of (List.mem_append_right _ (in_t3 (List.mem_of_getElem? (i := 99) rfl))) rfl
theorem cv_X8_lengthOf : CalV M_X8_lengthOf 1 8 := ⟨w_263, w_264, w_48, w_262, by decide +kernel, by decide, ⟨TX8, 9, rfl⟩, ⟨_, _, rfl⟩⟩
theorem w_265 : Cond.methodLink RX11 161 yX8_lengthOf ∈ WL := wl_of (List.mem_append_right _ (in_t3 (List.mem_of_getElem? (i := 97) rfl))) rfl
theorem w_266 : Cond.methodLink RX11 147 yX3_has ∈ WL := wl_of (List.mem_append_right _ (in_t3 (List.mem_of_getElem? (i := 110) rfl))) rfl
theorem w_267 : Cond.constant RX11 168 (-1000000) ∈ WL := wl_of (List.mem_append_right _ (in_t3 (List.mem_of_getElem? (i := 116) rfl))) rfl
theorem w_268 : Cond.code M_X7_hasOrNone.1 M_X7_hasOrNone.2.1 M_X7_hasOrNone.2.2.1 M_X7_hasOrNone.2.2.2 ∈ WL := wl_of (List.mem_append_right _ (in_t3 (List.mem_of_getElem? (i := 114) rfl))) rfl
theorem w_269 : Cond.instanceMethod yX7_hasOrNone ∈ WL := wl_of (List.mem_append_right _ (in_t3 (List.mem_of_getElem? (i := 112) rfl))) rfl
theorem w_270 : Cond.selects yX7_hasOrNone.cls yX7_hasOrNone yX7_hasOrNone ∈ WL := wl_of (List.mem_append_right _ (in_t3 (List.mem_of_getElem? (i := 113) rfl))) rfl
theorem cv_X7_hasOrNone : CalV M_X7_hasOrNone 1 7 := ⟨w_269, w_270, w_175, w_268, by decide +kernel, by decide, ⟨TX7, 5, rfl⟩, ⟨_, _, rfl⟩⟩
theorem w_271 : Cond.methodLink RX11 165 yX7_hasOrNone ∈ WL := wl_of (List.mem_append_right _ (in_t3 (List.mem_of_getElem? (i := 111) rfl))) rfl
theorem w_272 : Cond.methodLink RX11 150 yX3_lengthOf ∈ WL := wl_of (List.mem_append_right _ (in_t3 (List.mem_of_getElem? (i := 115) rfl))) rfl
theorem w_273 : Cond.methodLink RX11 156 yX3_turn ∈ WL := wl_of (List.mem_append_right _ (in_t3 (List.mem_of_getElem? (i := 117) rfl))) rfl
theorem w_274 : Cond.methodLink RX11 169 yX7_weightOf ∈ WL := wl_of (List.mem_append_right _ (in_t3 (List.mem_of_getElem? (i := 118) rfl))) rfl
theorem w_275 : Cond.methodLink RX11 173 yX4_weigh ∈ WL := wl_of (List.mem_append_right _ (in_t3 (List.mem_of_getElem? (i := 123) rfl))) rfl
theorem w_276 : Cond.methodLink RX11 177 yX4_powerOf ∈ WL := wl_of (List.mem_append_right _ (in_t3 (List.mem_of_getElem? (i := 124) rfl))) rfl
theorem w_277 : Cond.code M_X4_peak.1 M_X4_peak.2.1 M_X4_peak.2.2.1 M_X4_peak.2.2.2 ∈ WL := wl_of (List.mem_append_right _ (in_t3 (List.mem_of_getElem? (i := 132) rfl))) rfl
theorem w_278 : Cond.instanceMethod yX4_peak ∈ WL := wl_of (List.mem_append_right _ (in_t3 (List.mem_of_getElem? (i := 130) rfl))) rfl
theorem w_279 : Cond.selects yX4_peak.cls yX4_peak yX4_peak ∈ WL := wl_of (List.mem_append_right _ (in_t3 (List.mem_of_getElem? (i := 131) rfl))) rfl
theorem cv_X4_peak : CalV M_X4_peak 1 4 := ⟨w_278, w_279, w_211, w_277, by decide +kernel, by decide, ⟨TX4, 6, rfl⟩, ⟨_, _, rfl⟩⟩
theorem w_280 : Cond.methodLink RX11 186 yX4_peak ∈ WL := wl_of (List.mem_append_right _ (in_t3 (List.mem_of_getElem? (i := 129) rfl))) rfl
theorem w_281 : Cond.code M_X4_side.1 M_X4_side.2.1 M_X4_side.2.2.1 M_X4_side.2.2.2 ∈ WL := wl_of (List.mem_append_right _ (in_t3 (List.mem_of_getElem? (i := 136) rfl))) rfl
theorem w_282 : Cond.instanceMethod yX4_side ∈ WL := wl_of (List.mem_append_right _ (in_t3 (List.mem_of_getElem? (i := 134) rfl))) rfl
theorem w_283 : Cond.selects yX4_side.cls yX4_side yX4_side ∈ WL := wl_of (List.mem_append_right _ (in_t3 (List.mem_of_getElem? (i := 135) rfl))) rfl
theorem cv_X4_side : CalV M_X4_side 1 4 := ⟨w_282, w_283, w_211, w_281, by decide +kernel, by decide, ⟨TX4, 6, rfl⟩, ⟨_, _, rfl⟩⟩
theorem w_284 : Cond.methodLink RX11 189 yX4_side ∈ WL := wl_of (List.mem_append_right _ (in_t3 (List.mem_of_getElem? (i := 133) rfl))) rfl
theorem w_285 : Cond.code M_X4_sides.1 M_X4_sides.2.1 M_X4_sides.2.2.1 M_X4_sides.2.2.2 ∈ WL := wl_of (List.mem_append_right _ (in_t3 (List.mem_of_getElem? (i := 140) rfl))) rfl
theorem w_286 : Cond.instanceMethod yX4_sides ∈ WL := wl_of (List.mem_append_right _ (in_t3 (List.mem_of_getElem? (i := 138) rfl))) rfl
theorem w_287 : Cond.selects yX4_sides.cls yX4_sides yX4_sides ∈ WL := wl_of (List.mem_append_right _ (in_t3 (List.mem_of_getElem? (i := 139) rfl))) rfl
theorem cv_X4_sides : CalV M_X4_sides 1 4 := ⟨w_286, w_287, w_211, w_285, by decide +kernel, by decide, ⟨TX4, 6, rfl⟩, ⟨_, _, rfl⟩⟩
theorem w_288 : Cond.methodLink RX11 192 yX4_sides ∈ WL := wl_of (List.mem_append_right _ (in_t3 (List.mem_of_getElem? (i := 137) rfl))) rfl
theorem w_289 : Cond.code M_X4_leak.1 M_X4_leak.2.1 M_X4_leak.2.2.1 M_X4_leak.2.2.2 ∈ WL := wl_of (List.mem_append_right _ (in_t3 (List.mem_of_getElem? (i := 144) rfl))) rfl
theorem w_290 : Cond.instanceMethod yX4_leak ∈ WL := wl_of (List.mem_append_right _ (in_t3 (List.mem_of_getElem? (i := 142) rfl))) rfl
theorem w_291 : Cond.selects yX4_leak.cls yX4_leak yX4_leak ∈ WL := wl_of (List.mem_append_right _ (in_t3 (List.mem_of_getElem? (i := 143) rfl))) rfl
theorem cv_X4_leak : CalV M_X4_leak 1 4 := ⟨w_290, w_291, w_211, w_289, by decide +kernel, by decide, ⟨TX4, 6, rfl⟩, ⟨_, _, rfl⟩⟩
theorem w_292 : Cond.methodLink RX11 195 yX4_leak ∈ WL := wl_of (List.mem_append_right _ (in_t3 (List.mem_of_getElem? (i := 141) rfl))) rfl
theorem w_293 : Cond.constantLong RX4 79 (1000000) ∈ WL := wl_of (List.mem_append_right _ (in_t3 (List.mem_of_getElem? (i := 149) rfl))) rfl
theorem w_294 : Cond.code M_X4_loss.1 M_X4_loss.2.1 M_X4_loss.2.2.1 M_X4_loss.2.2.2 ∈ WL := wl_of (List.mem_append_right _ (in_t3 (List.mem_of_getElem? (i := 148) rfl))) rfl
theorem w_295 : Cond.instanceMethod yX4_loss ∈ WL := wl_of (List.mem_append_right _ (in_t3 (List.mem_of_getElem? (i := 146) rfl))) rfl
theorem w_296 : Cond.selects yX4_loss.cls yX4_loss yX4_loss ∈ WL := wl_of (List.mem_append_right _ (in_t3 (List.mem_of_getElem? (i := 147) rfl))) rfl
theorem cv_X4_loss : CalV M_X4_loss 2 4 := ⟨w_295, w_296, w_211, w_294, by decide +kernel, by decide, ⟨TX4, 6, rfl⟩, ⟨_, _, rfl⟩⟩
theorem w_297 : Cond.methodLink RX11 198 yX4_loss ∈ WL := wl_of (List.mem_append_right _ (in_t3 (List.mem_of_getElem? (i := 145) rfl))) rfl
theorem w_298 : Cond.code M_X4_hindrance.1 M_X4_hindrance.2.1 M_X4_hindrance.2.2.1 M_X4_hindrance.2.2.2 ∈ WL := wl_of (List.mem_append_right _ (in_t3 (List.mem_of_getElem? (i := 157) rfl))) rfl
theorem w_299 : Cond.instanceMethod yX4_hindrance ∈ WL := wl_of (List.mem_append_right _ (in_t3 (List.mem_of_getElem? (i := 155) rfl))) rfl
theorem w_300 : Cond.selects yX4_hindrance.cls yX4_hindrance yX4_hindrance ∈ WL := wl_of (List.mem_append_right _ (in_t3 (List.mem_of_getElem? (i := 156) rfl))) rfl
theorem cv_X4_hindrance : CalV M_X4_hindrance 2 4 := ⟨w_299, w_300, w_211, w_298, by decide +kernel, by decide, ⟨TX4, 6, rfl⟩, ⟨_, _, rfl⟩⟩
theorem w_301 : Cond.methodLink RX11 201 yX4_hindrance ∈ WL := wl_of (List.mem_append_right _ (in_t3 (List.mem_of_getElem? (i := 154) rfl))) rfl
theorem w_302 : Cond.constant RJ6 265 (1431655765) ∈ WL := wl_of (List.mem_append_right _ (in_t3 (List.mem_of_getElem? (i := 169) rfl))) rfl
theorem w_303 : Cond.constant RJ6 266 (858993459) ∈ WL := wl_of (List.mem_append_right _ (in_t3 (List.mem_of_getElem? (i := 170) rfl))) rfl
theorem w_304 : Cond.constant RJ6 267 (252645135) ∈ WL := wl_of (List.mem_append_right _ (in_t3 (List.mem_of_getElem? (i := 171) rfl))) rfl
theorem w_305 : Cond.code M_J6_bitCount_0f7a4.1 M_J6_bitCount_0f7a4.2.1 M_J6_bitCount_0f7a4.2.2.1 M_J6_bitCount_0f7a4.2.2.2 ∈ WL := wl_of (List.mem_append_right _ (in_t3 (List.mem_of_getElem? (i := 168) rfl))) rfl
theorem w_306 : Cond.initialized RJ6 ∈ WL := wl_of (List.mem_append_right _ (in_t1 (List.mem_of_getElem? (i := 20) rfl))) rfl
theorem w_307 : Cond.static yJ6_bitCount_0f7a4 ∈ WL := wl_of (List.mem_append_right _ (in_t3 (List.mem_of_getElem? (i := 167) rfl))) rfl
theorem cv_J6_bitCount_0f7a4 : CalS M_J6_bitCount_0f7a4 1 := ⟨w_307, w_306, w_305, by decide +kernel, by decide⟩
theorem w_308 : Cond.methodLink RX4 88 yJ6_bitCount_0f7a4 ∈ WL := wl_of (List.mem_append_right _ (in_t3 (List.mem_of_getElem? (i := 166) rfl))) rfl
theorem w_309 : Cond.methodLink RX4 97 yX4_hindrance ∈ WL := wl_of (List.mem_append_right _ (in_t3 (List.mem_of_getElem? (i := 176) rfl))) rfl
theorem w_310 : Cond.code M_X4_areFriends.1 M_X4_areFriends.2.1 M_X4_areFriends.2.2.1 M_X4_areFriends.2.2.2 ∈ WL := wl_of (List.mem_append_right _ (in_t3 (List.mem_of_getElem? (i := 175) rfl))) rfl
theorem w_311 : Cond.instanceMethod yX4_areFriends ∈ WL := wl_of (List.mem_append_right _ (in_t3 (List.mem_of_getElem? (i := 174) rfl))) rfl
theorem w_312 : Cond.selects yX4_areFriends.cls yX4_areFriends yX4_areFriends ∈ WL := wl_of (List.mem_append_left _ (List.mem_map.mpr ⟨(yX4_areFriends, 6), List.mem_of_getElem? (i := 20) (by decide +kernel), rfl⟩)) rfl
theorem cv_X4_areFriends : CalV M_X4_areFriends 2 4 := ⟨w_311, w_312, w_211, w_310, by decide +kernel, by decide, ⟨TX4, 6, rfl⟩, ⟨_, _, rfl⟩⟩
theorem w_313 : Cond.methodLink RX4 93 yX4_areFriends ∈ WL := wl_of (List.mem_append_right _ (in_t3 (List.mem_of_getElem? (i := 172) rfl))) rfl
theorem w_314 : Cond.code M_X4_mostFriends.1 M_X4_mostFriends.2.1 M_X4_mostFriends.2.2.1 M_X4_mostFriends.2.2.2 ∈ WL := wl_of (List.mem_append_right _ (in_t3 (List.mem_of_getElem? (i := 165) rfl))) rfl
theorem w_315 : Cond.instanceMethod yX4_mostFriends ∈ WL := wl_of (List.mem_append_right _ (in_t3 (List.mem_of_getElem? (i := 163) rfl))) rfl
theorem w_316 : Cond.selects yX4_mostFriends.cls yX4_mostFriends yX4_mostFriends ∈ WL := wl_of (List.mem_append_right _ (in_t3 (List.mem_of_getElem? (i := 164) rfl))) rfl
theorem cv_X4_mostFriends : CalV M_X4_mostFriends 1 4 := ⟨w_315, w_316, w_211, w_314, by decide +kernel, by decide, ⟨TX4, 6, rfl⟩, ⟨_, _, rfl⟩⟩
theorem w_317 : Cond.methodLink RX11 207 yX4_mostFriends ∈ WL := wl_of (List.mem_append_right _ (in_t3 (List.mem_of_getElem? (i := 162) rfl))) rfl
theorem w_318 : Cond.fieldLink RX11 57 "PulseParts" "bests" "LPulseParts$Bests;" ∈ WL := wl_of (List.mem_append_right _ (in_t2 (List.mem_of_getElem? (i := 65) rfl))) rfl
theorem w_319 : Cond.fieldLink RX1 19 "PulseParts$Bests" "bestCodes" "[I" ∈ WL := wl_of (List.mem_append_right _ (in_t1 (List.mem_of_getElem? (i := 150) rfl))) rfl
theorem w_320 : Cond.constant RX1 61 (1000000) ∈ WL := wl_of (List.mem_append_right _ (in_t3 (List.mem_of_getElem? (i := 189) rfl))) rfl
theorem w_321 : Cond.fieldLink RX1 52 "PulseParts$Bests" "side" "I" ∈ WL := wl_of (List.mem_append_right _ (in_t1 (List.mem_of_getElem? (i := 153) rfl))) rfl
theorem w_322 : Cond.fieldLink RX1 58 "PulseParts$Bests" "manyOrLoss" "I" ∈ WL := wl_of (List.mem_append_right _ (in_t1 (List.mem_of_getElem? (i := 155) rfl))) rfl
theorem w_323 : Cond.fieldLink RX1 55 "PulseParts$Bests" "sidesOrPeak" "I" ∈ WL := wl_of (List.mem_append_right _ (in_t1 (List.mem_of_getElem? (i := 154) rfl))) rfl
theorem w_324 : Cond.fieldLink RX1 48 "PulseParts$Bests" "number" "I" ∈ WL := wl_of (List.mem_append_right _ (in_t1 (List.mem_of_getElem? (i := 152) rfl))) rfl
theorem w_325 : Cond.methodLink RX1 66 yJ6_bitCount_0f7a4 ∈ WL := wl_of (List.mem_append_right _ (in_t3 (List.mem_of_getElem? (i := 194) rfl))) rfl
theorem w_326 : Cond.methodLink RX1 72 Lib.Math.max.name ∈ WL := wl_of (List.mem_append_right _ (in_t3 (List.mem_of_getElem? (i := 195) rfl))) rfl
theorem w_327 : Cond.code M_X1_tryCode.1 M_X1_tryCode.2.1 M_X1_tryCode.2.2.1 M_X1_tryCode.2.2.2 ∈ WL := wl_of (List.mem_append_right _ (in_t3 (List.mem_of_getElem? (i := 193) rfl))) rfl
theorem w_328 : Cond.initialized RX1 ∈ WL := wl_of (List.mem_append_right _ (in_t1 (List.mem_of_getElem? (i := 7) rfl))) rfl
theorem w_329 : Cond.instanceMethod yX1_tryCode ∈ WL := wl_of (List.mem_append_right _ (in_t3 (List.mem_of_getElem? (i := 192) rfl))) rfl
theorem w_330 : Cond.selects yX1_tryCode.cls yX1_tryCode yX1_tryCode ∈ WL := wl_of (List.mem_append_left _ (List.mem_map.mpr ⟨(yX1_tryCode, 8), List.mem_of_getElem? (i := 22) (by decide +kernel), rfl⟩)) rfl
theorem cv_X1_tryCode : CalV M_X1_tryCode 2 1 := ⟨w_329, w_330, w_328, w_327, by decide +kernel, by decide, ⟨TX1, 8, rfl⟩, ⟨_, _, rfl⟩⟩
theorem w_331 : Cond.methodLink RX1 62 yX1_tryCode ∈ WL := wl_of (List.mem_append_right _ (in_t3 (List.mem_of_getElem? (i := 190) rfl))) rfl
theorem w_332 : Cond.code M_X1_findCode.1 M_X1_findCode.2.1 M_X1_findCode.2.2.1 M_X1_findCode.2.2.2 ∈ WL := wl_of (List.mem_append_right _ (in_t3 (List.mem_of_getElem? (i := 188) rfl))) rfl
theorem w_333 : Cond.instanceMethod yX1_findCode ∈ WL := wl_of (List.mem_append_right _ (in_t3 (List.mem_of_getElem? (i := 187) rfl))) rfl
theorem w_334 : Cond.selects yX1_findCode.cls yX1_findCode yX1_findCode ∈ WL := wl_of (List.mem_append_left _ (List.mem_map.mpr ⟨(yX1_findCode, 8), List.mem_of_getElem? (i := 21) (by decide +kernel), rfl⟩)) rfl
theorem cv_X1_findCode : CalV M_X1_findCode 1 1 := ⟨w_333, w_334, w_328, w_332, by decide +kernel, by decide, ⟨TX1, 8, rfl⟩, ⟨_, _, rfl⟩⟩
theorem w_335 : Cond.methodLink RX1 34 yX1_findCode ∈ WL := wl_of (List.mem_append_right _ (in_t3 (List.mem_of_getElem? (i := 185) rfl))) rfl
theorem w_336 : Cond.code M_X1_keepIn.1 M_X1_keepIn.2.1 M_X1_keepIn.2.2.1 M_X1_keepIn.2.2.2 ∈ WL := wl_of (List.mem_append_right _ (in_t3 (List.mem_of_getElem? (i := 199) rfl))) rfl
theorem w_337 : Cond.instanceMethod yX1_keepIn ∈ WL := wl_of (List.mem_append_right _ (in_t3 (List.mem_of_getElem? (i := 198) rfl))) rfl
theorem w_338 : Cond.selects yX1_keepIn.cls yX1_keepIn yX1_keepIn ∈ WL := wl_of (List.mem_append_left _ (List.mem_map.mpr ⟨(yX1_keepIn, 8), List.mem_of_getElem? (i := 23) (by decide +kernel), rfl⟩)) rfl
theorem cv_X1_keepIn : CalV M_X1_keepIn 2 1 := ⟨w_337, w_338, w_328, w_336, by decide +kernel, by decide, ⟨TX1, 8, rfl⟩, ⟨_, _, rfl⟩⟩
theorem w_339 : Cond.methodLink RX1 38 yX1_keepIn ∈ WL := wl_of (List.mem_append_right _ (in_t3 (List.mem_of_getElem? (i := 196) rfl))) rfl
theorem w_340 : Cond.code M_X1_codeOf.1 M_X1_codeOf.2.1 M_X1_codeOf.2.2.1 M_X1_codeOf.2.2.2 ∈ WL := wl_of (List.mem_append_right _ (in_t3 (List.mem_of_getElem? (i := 184) rfl))) rfl
theorem w_341 : Cond.instanceMethod yX1_codeOf ∈ WL := wl_of (List.mem_append_right _ (in_t3 (List.mem_of_getElem? (i := 182) rfl))) rfl
theorem w_342 : Cond.selects yX1_codeOf.cls yX1_codeOf yX1_codeOf ∈ WL := wl_of (List.mem_append_right _ (in_t3 (List.mem_of_getElem? (i := 183) rfl))) rfl
theorem cv_X1_codeOf : CalV M_X1_codeOf 2 1 := ⟨w_341, w_342, w_328, w_340, by decide +kernel, by decide, ⟨TX1, 8, rfl⟩, ⟨_, _, rfl⟩⟩
theorem w_343 : Cond.methodLink RX11 210 yX1_codeOf ∈ WL := wl_of (List.mem_append_right _ (in_t3 (List.mem_of_getElem? (i := 181) rfl))) rfl
theorem w_344 : Cond.fieldLink RX1 9 "PulseParts$Bests" "codes" "LPulseParts$Codes;" ∈ WL := wl_of (List.mem_append_right _ (in_t1 (List.mem_of_getElem? (i := 148) rfl))) rfl
theorem w_345 : Cond.methodLink RX1 41 yX3_has ∈ WL := wl_of (List.mem_append_right _ (in_t3 (List.mem_of_getElem? (i := 208) rfl))) rfl
theorem w_346 : Cond.fieldLink RX1 25 "PulseParts$Bests" "bestFilters" "[I" ∈ WL := wl_of (List.mem_append_right _ (in_t1 (List.mem_of_getElem? (i := 151) rfl))) rfl
theorem w_347 : Cond.methodLink RX1 78 yX3_lengthOf ∈ WL := wl_of (List.mem_append_right _ (in_t3 (List.mem_of_getElem? (i := 213) rfl))) rfl
theorem w_348 : Cond.methodLink RX1 96 Lib.Math.min.name ∈ WL := wl_of (List.mem_append_right _ (in_t3 (List.mem_of_getElem? (i := 222) rfl))) rfl
theorem w_349 : Cond.fieldLink RX1 15 "PulseParts$Bests" "echoes" "LPulseParts$Echoes;" ∈ WL := wl_of (List.mem_append_right _ (in_t1 (List.mem_of_getElem? (i := 149) rfl))) rfl
theorem w_350 : Cond.code M_X1_tellFilter.1 M_X1_tellFilter.2.1 M_X1_tellFilter.2.2.1 M_X1_tellFilter.2.2.2 ∈ WL := wl_of (List.mem_append_right _ (in_t3 (List.mem_of_getElem? (i := 221) rfl))) rfl
theorem w_351 : Cond.instanceMethod yX1_tellFilter ∈ WL := wl_of (List.mem_append_right _ (in_t3 (List.mem_of_getElem? (i := 220) rfl))) rfl
theorem w_352 : Cond.selects yX1_tellFilter.cls yX1_tellFilter yX1_tellFilter ∈ WL := wl_of (List.mem_append_left _ (List.mem_map.mpr ⟨(yX1_tellFilter, 8), List.mem_of_getElem? (i := 26) (by decide +kernel), rfl⟩)) rfl
theorem cv_X1_tellFilter : CalV M_X1_tellFilter 2 1 := ⟨w_351, w_352, w_328, w_350, by decide +kernel, by decide, ⟨TX1, 8, rfl⟩, ⟨_, _, rfl⟩⟩
theorem w_353 : Cond.methodLink RX1 84 yX1_tellFilter ∈ WL := wl_of (List.mem_append_right _ (in_t3 (List.mem_of_getElem? (i := 218) rfl))) rfl
theorem w_354 : Cond.methodLink RX1 93 yX4_loss ∈ WL := wl_of (List.mem_append_right _ (in_t3 (List.mem_of_getElem? (i := 224) rfl))) rfl
theorem w_355 : Cond.methodLink RX1 87 yX4_powerOf ∈ WL := wl_of (List.mem_append_right _ (in_t3 (List.mem_of_getElem? (i := 223) rfl))) rfl
theorem w_356 : Cond.code M_X1_tryFilter.1 M_X1_tryFilter.2.1 M_X1_tryFilter.2.2.1 M_X1_tryFilter.2.2.2 ∈ WL := wl_of (List.mem_append_right _ (in_t3 (List.mem_of_getElem? (i := 217) rfl))) rfl
theorem w_357 : Cond.instanceMethod yX1_tryFilter ∈ WL := wl_of (List.mem_append_right _ (in_t3 (List.mem_of_getElem? (i := 216) rfl))) rfl
theorem w_358 : Cond.selects yX1_tryFilter.cls yX1_tryFilter yX1_tryFilter ∈ WL := wl_of (List.mem_append_left _ (List.mem_map.mpr ⟨(yX1_tryFilter, 8), List.mem_of_getElem? (i := 25) (by decide +kernel), rfl⟩)) rfl
theorem cv_X1_tryFilter : CalV M_X1_tryFilter 2 1 := ⟨w_357, w_358, w_328, w_356, by decide +kernel, by decide, ⟨TX1, 8, rfl⟩, ⟨_, _, rfl⟩⟩
theorem w_359 : Cond.methodLink RX1 81 yX1_tryFilter ∈ WL := wl_of (List.mem_append_right _ (in_t3 (List.mem_of_getElem? (i := 214) rfl))) rfl
theorem w_360 : Cond.code M_X1_findFilter.1 M_X1_findFilter.2.1 M_X1_findFilter.2.2.1 M_X1_findFilter.2.2.2 ∈ WL := wl_of (List.mem_append_right _ (in_t3 (List.mem_of_getElem? (i := 212) rfl))) rfl
theorem w_361 : Cond.instanceMethod yX1_findFilter ∈ WL := wl_of (List.mem_append_right _ (in_t3 (List.mem_of_getElem? (i := 211) rfl))) rfl
theorem w_362 : Cond.selects yX1_findFilter.cls yX1_findFilter yX1_findFilter ∈ WL := wl_of (List.mem_append_left _ (List.mem_map.mpr ⟨(yX1_findFilter, 8), List.mem_of_getElem? (i := 24) (by decide +kernel), rfl⟩)) rfl
theorem cv_X1_findFilter : CalV M_X1_findFilter 1 1 := ⟨w_361, w_362, w_328, w_360, by decide +kernel, by decide, ⟨TX1, 8, rfl⟩, ⟨_, _, rfl⟩⟩
theorem w_363 : Cond.methodLink RX1 45 yX1_findFilter ∈ WL := wl_of (List.mem_append_right _ (in_t3 (List.mem_of_getElem? (i := 209) rfl))) rfl
theorem w_364 : Cond.code M_X1_filterOf.1 M_X1_filterOf.2.1 M_X1_filterOf.2.2.1 M_X1_filterOf.2.2.2 ∈ WL := wl_of (List.mem_append_right _ (in_t3 (List.mem_of_getElem? (i := 207) rfl))) rfl
theorem w_365 : Cond.instanceMethod yX1_filterOf ∈ WL := wl_of (List.mem_append_right _ (in_t3 (List.mem_of_getElem? (i := 205) rfl))) rfl
theorem w_366 : Cond.selects yX1_filterOf.cls yX1_filterOf yX1_filterOf ∈ WL := wl_of (List.mem_append_right _ (in_t3 (List.mem_of_getElem? (i := 206) rfl))) rfl
theorem cv_X1_filterOf : CalV M_X1_filterOf 2 1 := ⟨w_365, w_366, w_328, w_364, by decide +kernel, by decide, ⟨TX1, 8, rfl⟩, ⟨_, _, rfl⟩⟩
theorem w_367 : Cond.methodLink RX11 213 yX1_filterOf ∈ WL := wl_of (List.mem_append_right _ (in_t3 (List.mem_of_getElem? (i := 204) rfl))) rfl
theorem w_368 : Cond.fieldLink RX11 216 "PulseParts" "LEAST_SETTINGS" "[I" ∈ WL := wl_of (List.mem_append_right _ (in_t3 (List.mem_of_getElem? (i := 229) rfl))) rfl
theorem w_369 : Cond.fieldLink RX11 219 "PulseParts" "GREATEST_SETTINGS" "[I" ∈ WL := wl_of (List.mem_append_right _ (in_t3 (List.mem_of_getElem? (i := 231) rfl))) rfl
theorem w_370 : Cond.fieldLink RX11 7 "PulseParts" "settings" "[I" ∈ WL := wl_of (List.mem_append_right _ (in_t2 (List.mem_of_getElem? (i := 71) rfl))) rfl
theorem w_371 : Cond.methodLink RX8 74 yX8_lengthOf ∈ WL := wl_of (List.mem_append_right _ (in_t4 (List.mem_of_getElem? (i := 5) rfl))) rfl
theorem w_372 : Cond.methodLink RX8 78 yX8_number ∈ WL := wl_of (List.mem_append_right _ (in_t4 (List.mem_of_getElem? (i := 6) rfl))) rfl
theorem w_373 : Cond.code M_X8_remainder.1 M_X8_remainder.2.1 M_X8_remainder.2.2.1 M_X8_remainder.2.2.2 ∈ WL := wl_of (List.mem_append_right _ (in_t4 (List.mem_of_getElem? (i := 13) rfl))) rfl
theorem w_374 : Cond.static yX8_remainder ∈ WL := wl_of (List.mem_append_right _ (in_t4 (List.mem_of_getElem? (i := 12) rfl))) rfl
theorem cv_X8_remainder : CalS M_X8_remainder 2 := ⟨w_374, w_48, w_373, by decide +kernel, by decide⟩
theorem w_375 : Cond.methodLink RX8 70 yX8_remainder ∈ WL := wl_of (List.mem_append_right _ (in_t4 (List.mem_of_getElem? (i := 11) rfl))) rfl
theorem w_376 : Cond.fieldLink RX8 9 "PulseParts$Rests" "settings" "[I" ∈ WL := wl_of (List.mem_append_right _ (in_t1 (List.mem_of_getElem? (i := 180) rfl))) rfl
theorem w_377 : Cond.code M_X8_isSeenBy.1 M_X8_isSeenBy.2.1 M_X8_isSeenBy.2.2.1 M_X8_isSeenBy.2.2.2 ∈ WL := wl_of (List.mem_append_right _ (in_t4 (List.mem_of_getElem? (i := 10) rfl))) rfl
theorem w_378 : Cond.instanceMethod yX8_isSeenBy ∈ WL := wl_of (List.mem_append_right _ (in_t4 (List.mem_of_getElem? (i := 9) rfl))) rfl
theorem w_379 : Cond.selects yX8_isSeenBy.cls yX8_isSeenBy yX8_isSeenBy ∈ WL := wl_of (List.mem_append_left _ (List.mem_map.mpr ⟨(yX8_isSeenBy, 9), List.mem_of_getElem? (i := 28) (by decide +kernel), rfl⟩)) rfl
theorem cv_X8_isSeenBy : CalV M_X8_isSeenBy 2 8 := ⟨w_378, w_379, w_48, w_377, by decide +kernel, by decide, ⟨TX8, 9, rfl⟩, ⟨_, _, rfl⟩⟩
theorem w_380 : Cond.methodLink RX8 81 yX8_isSeenBy ∈ WL := wl_of (List.mem_append_right _ (in_t4 (List.mem_of_getElem? (i := 7) rfl))) rfl
theorem w_381 : Cond.code M_X8_seeing.1 M_X8_seeing.2.1 M_X8_seeing.2.2.1 M_X8_seeing.2.2.2 ∈ WL := wl_of (List.mem_append_right _ (in_t4 (List.mem_of_getElem? (i := 4) rfl))) rfl
theorem w_382 : Cond.instanceMethod yX8_seeing ∈ WL := wl_of (List.mem_append_right _ (in_t4 (List.mem_of_getElem? (i := 3) rfl))) rfl
theorem w_383 : Cond.selects yX8_seeing.cls yX8_seeing yX8_seeing ∈ WL := wl_of (List.mem_append_left _ (List.mem_map.mpr ⟨(yX8_seeing, 9), List.mem_of_getElem? (i := 27) (by decide +kernel), rfl⟩)) rfl
theorem cv_X8_seeing : CalV M_X8_seeing 2 8 := ⟨w_382, w_383, w_48, w_381, by decide +kernel, by decide, ⟨TX8, 9, rfl⟩, ⟨_, _, rfl⟩⟩
theorem w_384 : Cond.methodLink RX8 85 yX8_seeing ∈ WL := wl_of (List.mem_append_right _ (in_t4 (List.mem_of_getElem? (i := 1) rfl))) rfl
theorem w_385 : Cond.methodLink RX8 88 yJ6_bitCount_0f7a4 ∈ WL := wl_of (List.mem_append_right _ (in_t4 (List.mem_of_getElem? (i := 14) rfl))) rfl
theorem w_386 : Cond.code M_X8_sees.1 M_X8_sees.2.1 M_X8_sees.2.2.1 M_X8_sees.2.2.2 ∈ WL := wl_of (List.mem_append_right _ (in_t4 (List.mem_of_getElem? (i := 0) rfl))) rfl
theorem w_387 : Cond.instanceMethod yX8_sees ∈ WL := wl_of (List.mem_append_right _ (in_t3 (List.mem_of_getElem? (i := 238) rfl))) rfl
theorem w_388 : Cond.selects yX8_sees.cls yX8_sees yX8_sees ∈ WL := wl_of (List.mem_append_right _ (in_t3 (List.mem_of_getElem? (i := 239) rfl))) rfl
theorem cv_X8_sees : CalV M_X8_sees 2 8 := ⟨w_387, w_388, w_48, w_386, by decide +kernel, by decide, ⟨TX8, 9, rfl⟩, ⟨_, _, rfl⟩⟩
theorem w_389 : Cond.methodLink RX11 222 yX8_sees ∈ WL := wl_of (List.mem_append_right _ (in_t3 (List.mem_of_getElem? (i := 237) rfl))) rfl
theorem w_390 : Cond.methodLink RX8 93 yX8_sees ∈ WL := wl_of (List.mem_append_right _ (in_t4 (List.mem_of_getElem? (i := 23) rfl))) rfl
theorem w_391 : Cond.code M_X8_firstUnseen.1 M_X8_firstUnseen.2.1 M_X8_firstUnseen.2.2.1 M_X8_firstUnseen.2.2.2 ∈ WL := wl_of (List.mem_append_right _ (in_t4 (List.mem_of_getElem? (i := 27) rfl))) rfl
theorem w_392 : Cond.instanceMethod yX8_firstUnseen ∈ WL := wl_of (List.mem_append_right _ (in_t4 (List.mem_of_getElem? (i := 25) rfl))) rfl
theorem w_393 : Cond.selects yX8_firstUnseen.cls yX8_firstUnseen yX8_firstUnseen ∈ WL := wl_of (List.mem_append_right _ (in_t4 (List.mem_of_getElem? (i := 26) rfl))) rfl
theorem cv_X8_firstUnseen : CalV M_X8_firstUnseen 2 8 := ⟨w_392, w_393, w_48, w_391, by decide +kernel, by decide, ⟨TX8, 9, rfl⟩, ⟨_, _, rfl⟩⟩
theorem w_394 : Cond.methodLink RX11 229 yX8_firstUnseen ∈ WL := wl_of (List.mem_append_right _ (in_t4 (List.mem_of_getElem? (i := 24) rfl))) rfl
theorem w_395 : Cond.code M_X8_seenTo.1 M_X8_seenTo.2.1 M_X8_seenTo.2.2.1 M_X8_seenTo.2.2.2 ∈ WL := wl_of (List.mem_append_right _ (in_t4 (List.mem_of_getElem? (i := 22) rfl))) rfl
theorem w_396 : Cond.instanceMethod yX8_seenTo ∈ WL := wl_of (List.mem_append_right _ (in_t4 (List.mem_of_getElem? (i := 20) rfl))) rfl
theorem w_397 : Cond.selects yX8_seenTo.cls yX8_seenTo yX8_seenTo ∈ WL := wl_of (List.mem_append_right _ (in_t4 (List.mem_of_getElem? (i := 21) rfl))) rfl
theorem cv_X8_seenTo : CalV M_X8_seenTo 2 8 := ⟨w_396, w_397, w_48, w_395, by decide +kernel, by decide, ⟨TX8, 9, rfl⟩, ⟨_, _, rfl⟩⟩
theorem w_398 : Cond.methodLink RX11 226 yX8_seenTo ∈ WL := wl_of (List.mem_append_right _ (in_t4 (List.mem_of_getElem? (i := 19) rfl))) rfl
theorem w_399 : Cond.fieldLink RX8 24 "PulseParts$Rests" "seenByBits" "[I" ∈ WL := wl_of (List.mem_append_right _ (in_t1 (List.mem_of_getElem? (i := 184) rfl))) rfl
theorem w_400 : Cond.code M_J7_fill_53178.1 M_J7_fill_53178.2.1 M_J7_fill_53178.2.2.1 M_J7_fill_53178.2.2.2 ∈ WL := wl_of (List.mem_append_right _ (in_t1 (List.mem_of_getElem? (i := 147) rfl))) rfl
theorem w_401 : Cond.initialized RJ7 ∈ WL := wl_of (List.mem_append_right _ (in_t1 (List.mem_of_getElem? (i := 8) rfl))) rfl
theorem w_402 : Cond.static yJ7_fill_53178 ∈ WL := wl_of (List.mem_append_right _ (in_t1 (List.mem_of_getElem? (i := 146) rfl))) rfl
theorem cv_J7_fill_53178 : CalS M_J7_fill_53178 2 := ⟨w_402, w_401, w_400, by decide +kernel, by decide⟩
theorem w_403 : Cond.methodLink RX8 31 yJ7_fill_53178 ∈ WL := wl_of (List.mem_append_right _ (in_t1 (List.mem_of_getElem? (i := 179) rfl))) rfl
theorem w_404 : Cond.fieldLink RX8 96 "PulseParts$Rests" "chosen" "I" ∈ WL := wl_of (List.mem_append_right _ (in_t1 (List.mem_of_getElem? (i := 188) rfl))) rfl
theorem w_405 : Cond.fieldLink RX8 99 "PulseParts$Rests" "chosenSees" "I" ∈ WL := wl_of (List.mem_append_right _ (in_t1 (List.mem_of_getElem? (i := 190) rfl))) rfl
theorem w_406 : Cond.code M_X8_seenByChoice.1 M_X8_seenByChoice.2.1 M_X8_seenByChoice.2.2.1 M_X8_seenByChoice.2.2.2 ∈ WL := wl_of (List.mem_append_right _ (in_t4 (List.mem_of_getElem? (i := 39) rfl))) rfl
theorem w_407 : Cond.instanceMethod yX8_seenByChoice ∈ WL := wl_of (List.mem_append_right _ (in_t4 (List.mem_of_getElem? (i := 38) rfl))) rfl
theorem w_408 : Cond.selects yX8_seenByChoice.cls yX8_seenByChoice yX8_seenByChoice ∈ WL := wl_of (List.mem_append_left _ (List.mem_map.mpr ⟨(yX8_seenByChoice, 9), List.mem_of_getElem? (i := 29) (by decide +kernel), rfl⟩)) rfl
theorem cv_X8_seenByChoice : CalV M_X8_seenByChoice 1 8 := ⟨w_407, w_408, w_48, w_406, by decide +kernel, by decide, ⟨TX8, 9, rfl⟩, ⟨_, _, rfl⟩⟩
theorem w_409 : Cond.methodLink RX8 102 yX8_seenByChoice ∈ WL := wl_of (List.mem_append_right _ (in_t4 (List.mem_of_getElem? (i := 36) rfl))) rfl
theorem w_410 : Cond.code M_X8_prefer.1 M_X8_prefer.2.1 M_X8_prefer.2.2.1 M_X8_prefer.2.2.2 ∈ WL := wl_of (List.mem_append_right _ (in_t4 (List.mem_of_getElem? (i := 43) rfl))) rfl
theorem w_411 : Cond.instanceMethod yX8_prefer ∈ WL := wl_of (List.mem_append_right _ (in_t4 (List.mem_of_getElem? (i := 42) rfl))) rfl
theorem w_412 : Cond.selects yX8_prefer.cls yX8_prefer yX8_prefer ∈ WL := wl_of (List.mem_append_left _ (List.mem_map.mpr ⟨(yX8_prefer, 9), List.mem_of_getElem? (i := 30) (by decide +kernel), rfl⟩)) rfl
theorem cv_X8_prefer : CalV M_X8_prefer 2 8 := ⟨w_411, w_412, w_48, w_410, by decide +kernel, by decide, ⟨TX8, 9, rfl⟩, ⟨_, _, rfl⟩⟩
theorem w_413 : Cond.methodLink RX8 105 yX8_prefer ∈ WL := wl_of (List.mem_append_right _ (in_t4 (List.mem_of_getElem? (i := 40) rfl))) rfl
theorem w_414 : Cond.code M_X8_choose.1 M_X8_choose.2.1 M_X8_choose.2.2.1 M_X8_choose.2.2.2 ∈ WL := wl_of (List.mem_append_right _ (in_t4 (List.mem_of_getElem? (i := 35) rfl))) rfl
theorem w_415 : Cond.instanceMethod yX8_choose ∈ WL := wl_of (List.mem_append_right _ (in_t4 (List.mem_of_getElem? (i := 33) rfl))) rfl
theorem w_416 : Cond.selects yX8_choose.cls yX8_choose yX8_choose ∈ WL := wl_of (List.mem_append_right _ (in_t4 (List.mem_of_getElem? (i := 34) rfl))) rfl
theorem cv_X8_choose : CalV M_X8_choose 3 8 := ⟨w_415, w_416, w_48, w_414, by decide +kernel, by decide, ⟨TX8, 9, rfl⟩, ⟨_, _, rfl⟩⟩
theorem w_417 : Cond.methodLink RX11 232 yX8_choose ∈ WL := wl_of (List.mem_append_right _ (in_t4 (List.mem_of_getElem? (i := 32) rfl))) rfl
theorem w_418 : Cond.fieldLink RX8 21 "PulseParts$Rests" "readings" "[I" ∈ WL := wl_of (List.mem_append_right _ (in_t1 (List.mem_of_getElem? (i := 183) rfl))) rfl
theorem w_419 : Cond.code M_X8_putReading.1 M_X8_putReading.2.1 M_X8_putReading.2.2.1 M_X8_putReading.2.2.2 ∈ WL := wl_of (List.mem_append_right _ (in_t4 (List.mem_of_getElem? (i := 51) rfl))) rfl
theorem w_420 : Cond.instanceMethod yX8_putReading ∈ WL := wl_of (List.mem_append_right _ (in_t4 (List.mem_of_getElem? (i := 49) rfl))) rfl
theorem w_421 : Cond.selects yX8_putReading.cls yX8_putReading yX8_putReading ∈ WL := wl_of (List.mem_append_right _ (in_t4 (List.mem_of_getElem? (i := 50) rfl))) rfl
theorem cv_X8_putReading : CalV M_X8_putReading 2 8 := ⟨w_420, w_421, w_48, w_419, by decide +kernel, by decide, ⟨TX8, 9, rfl⟩, ⟨_, _, rfl⟩⟩
theorem w_422 : Cond.methodLink RX11 242 yX8_putReading ∈ WL := wl_of (List.mem_append_right _ (in_t4 (List.mem_of_getElem? (i := 48) rfl))) rfl
theorem w_423 : Cond.code M_X8_readingsFit.1 M_X8_readingsFit.2.1 M_X8_readingsFit.2.2.1 M_X8_readingsFit.2.2.2 ∈ WL := wl_of (List.mem_append_right _ (in_t4 (List.mem_of_getElem? (i := 59) rfl))) rfl
theorem w_424 : Cond.instanceMethod yX8_readingsFit ∈ WL := wl_of (List.mem_append_right _ (in_t4 (List.mem_of_getElem? (i := 57) rfl))) rfl
theorem w_425 : Cond.selects yX8_readingsFit.cls yX8_readingsFit yX8_readingsFit ∈ WL := wl_of (List.mem_append_right _ (in_t4 (List.mem_of_getElem? (i := 58) rfl))) rfl
theorem cv_X8_readingsFit : CalV M_X8_readingsFit 1 8 := ⟨w_424, w_425, w_48, w_423, by decide +kernel, by decide, ⟨TX8, 9, rfl⟩, ⟨_, _, rfl⟩⟩
theorem w_426 : Cond.methodLink RX11 245 yX8_readingsFit ∈ WL := wl_of (List.mem_append_right _ (in_t4 (List.mem_of_getElem? (i := 56) rfl))) rfl
theorem w_427 : Cond.methodLink RX8 112 Lib.Math.abs.name ∈ WL := wl_of (List.mem_append_right _ (in_t4 (List.mem_of_getElem? (i := 68) rfl))) rfl
theorem w_428 : Cond.static Lib.Math.abs.name ∈ WL := wl_of (List.mem_append_right _ (in_t4 (List.mem_of_getElem? (i := 69) rfl))) rfl
theorem w_429 : Cond.code Lib.Math.abs.name Lib.Math.abs.code 1 (some .int) ∈ WL := wl_of (List.mem_append_right _ (in_t4 (List.mem_of_getElem? (i := 70) rfl))) rfl
theorem w_430 : Cond.methodLink RX8 117 Lib.Math.min.name ∈ WL := wl_of (List.mem_append_right _ (in_t4 (List.mem_of_getElem? (i := 71) rfl))) rfl
theorem w_431 : Cond.code M_X8_manyToldOff.1 M_X8_manyToldOff.2.1 M_X8_manyToldOff.2.2.1 M_X8_manyToldOff.2.2.2 ∈ WL := wl_of (List.mem_append_right _ (in_t4 (List.mem_of_getElem? (i := 67) rfl))) rfl
theorem w_432 : Cond.instanceMethod yX8_manyToldOff ∈ WL := wl_of (List.mem_append_right _ (in_t4 (List.mem_of_getElem? (i := 66) rfl))) rfl
theorem w_433 : Cond.selects yX8_manyToldOff.cls yX8_manyToldOff yX8_manyToldOff ∈ WL := wl_of (List.mem_append_left _ (List.mem_map.mpr ⟨(yX8_manyToldOff, 9), List.mem_of_getElem? (i := 31) (by decide +kernel), rfl⟩)) rfl
theorem cv_X8_manyToldOff : CalV M_X8_manyToldOff 3 8 := ⟨w_432, w_433, w_48, w_431, by decide +kernel, by decide, ⟨TX8, 9, rfl⟩, ⟨_, _, rfl⟩⟩
theorem w_434 : Cond.methodLink RX8 108 yX8_manyToldOff ∈ WL := wl_of (List.mem_append_right _ (in_t4 (List.mem_of_getElem? (i := 64) rfl))) rfl
theorem w_435 : Cond.code M_X8_unfolded.1 M_X8_unfolded.2.1 M_X8_unfolded.2.2.1 M_X8_unfolded.2.2.2 ∈ WL := wl_of (List.mem_append_right _ (in_t4 (List.mem_of_getElem? (i := 63) rfl))) rfl
theorem w_436 : Cond.instanceMethod yX8_unfolded ∈ WL := wl_of (List.mem_append_right _ (in_t4 (List.mem_of_getElem? (i := 61) rfl))) rfl
theorem w_437 : Cond.selects yX8_unfolded.cls yX8_unfolded yX8_unfolded ∈ WL := wl_of (List.mem_append_right _ (in_t4 (List.mem_of_getElem? (i := 62) rfl))) rfl
theorem cv_X8_unfolded : CalV M_X8_unfolded 5 8 := ⟨w_436, w_437, w_48, w_435, by decide +kernel, by decide, ⟨TX8, 9, rfl⟩, ⟨_, _, rfl⟩⟩
theorem w_438 : Cond.methodLink RX11 248 yX8_unfolded ∈ WL := wl_of (List.mem_append_right _ (in_t4 (List.mem_of_getElem? (i := 60) rfl))) rfl
theorem w_439 : Cond.code M_X8_isGhost.1 M_X8_isGhost.2.1 M_X8_isGhost.2.2.1 M_X8_isGhost.2.2.2 ∈ WL := wl_of (List.mem_append_right _ (in_t4 (List.mem_of_getElem? (i := 83) rfl))) rfl
theorem w_440 : Cond.instanceMethod yX8_isGhost ∈ WL := wl_of (List.mem_append_right _ (in_t4 (List.mem_of_getElem? (i := 82) rfl))) rfl
theorem w_441 : Cond.selects yX8_isGhost.cls yX8_isGhost yX8_isGhost ∈ WL := wl_of (List.mem_append_left _ (List.mem_map.mpr ⟨(yX8_isGhost, 9), List.mem_of_getElem? (i := 32) (by decide +kernel), rfl⟩)) rfl
theorem cv_X8_isGhost : CalV M_X8_isGhost 4 8 := ⟨w_440, w_441, w_48, w_439, by decide +kernel, by decide, ⟨TX8, 9, rfl⟩, ⟨_, _, rfl⟩⟩
theorem w_442 : Cond.methodLink RX8 120 yX8_isGhost ∈ WL := wl_of (List.mem_append_right _ (in_t4 (List.mem_of_getElem? (i := 80) rfl))) rfl
theorem w_443 : Cond.code M_X8_ghostsOf.1 M_X8_ghostsOf.2.1 M_X8_ghostsOf.2.2.1 M_X8_ghostsOf.2.2.2 ∈ WL := wl_of (List.mem_append_right _ (in_t4 (List.mem_of_getElem? (i := 79) rfl))) rfl
theorem w_444 : Cond.instanceMethod yX8_ghostsOf ∈ WL := wl_of (List.mem_append_right _ (in_t4 (List.mem_of_getElem? (i := 77) rfl))) rfl
theorem w_445 : Cond.selects yX8_ghostsOf.cls yX8_ghostsOf yX8_ghostsOf ∈ WL := wl_of (List.mem_append_right _ (in_t4 (List.mem_of_getElem? (i := 78) rfl))) rfl
theorem cv_X8_ghostsOf : CalV M_X8_ghostsOf 4 8 := ⟨w_444, w_445, w_48, w_443, by decide +kernel, by decide, ⟨TX8, 9, rfl⟩, ⟨_, _, rfl⟩⟩
theorem w_446 : Cond.methodLink RX11 252 yX8_ghostsOf ∈ WL := wl_of (List.mem_append_right _ (in_t4 (List.mem_of_getElem? (i := 76) rfl))) rfl
theorem w_447 : Cond.code M_X2_isValue.1 M_X2_isValue.2.1 M_X2_isValue.2.2.1 M_X2_isValue.2.2.2 ∈ WL := wl_of (List.mem_append_right _ (in_t4 (List.mem_of_getElem? (i := 90) rfl))) rfl
theorem w_448 : Cond.initialized RX2 ∈ WL := wl_of (List.mem_append_right _ (in_t1 (List.mem_of_getElem? (i := 10) rfl))) rfl
theorem w_449 : Cond.static yX2_isValue ∈ WL := wl_of (List.mem_append_right _ (in_t4 (List.mem_of_getElem? (i := 89) rfl))) rfl
theorem cv_X2_isValue : CalS M_X2_isValue 1 := ⟨w_449, w_448, w_447, by decide +kernel, by decide⟩
theorem w_450 : Cond.methodLink RX11 255 yX2_isValue ∈ WL := wl_of (List.mem_append_right _ (in_t4 (List.mem_of_getElem? (i := 88) rfl))) rfl
theorem w_451 : Cond.fieldLink RX11 73 "PulseParts" "cells" "LPulseParts$Cells;" ∈ WL := wl_of (List.mem_append_right _ (in_t2 (List.mem_of_getElem? (i := 67) rfl))) rfl
theorem w_452 : Cond.fieldLink RX2 25 "PulseParts$Cells" "now" "I" ∈ WL := wl_of (List.mem_append_right _ (in_t1 (List.mem_of_getElem? (i := 222) rfl))) rfl
theorem w_453 : Cond.fieldLink RX2 15 "PulseParts$Cells" "sizes" "[I" ∈ WL := wl_of (List.mem_append_right _ (in_t1 (List.mem_of_getElem? (i := 219) rfl))) rfl
theorem w_454 : Cond.code M_X2_size.1 M_X2_size.2.1 M_X2_size.2.2.1 M_X2_size.2.2.2 ∈ WL := wl_of (List.mem_append_right _ (in_t4 (List.mem_of_getElem? (i := 94) rfl))) rfl
theorem w_455 : Cond.instanceMethod yX2_size ∈ WL := wl_of (List.mem_append_right _ (in_t4 (List.mem_of_getElem? (i := 92) rfl))) rfl
theorem w_456 : Cond.selects yX2_size.cls yX2_size yX2_size ∈ WL := wl_of (List.mem_append_right _ (in_t4 (List.mem_of_getElem? (i := 93) rfl))) rfl
theorem cv_X2_size : CalV M_X2_size 0 2 := ⟨w_455, w_456, w_448, w_454, by decide +kernel, by decide, ⟨TX2, 7, rfl⟩, ⟨_, _, rfl⟩⟩
theorem w_457 : Cond.methodLink RX11 258 yX2_size ∈ WL := wl_of (List.mem_append_right _ (in_t4 (List.mem_of_getElem? (i := 91) rfl))) rfl
theorem w_458 : Cond.methodLink RX2 28 yX2_size ∈ WL := wl_of (List.mem_append_right _ (in_t4 (List.mem_of_getElem? (i := 99) rfl))) rfl
theorem w_459 : Cond.code M_X2_resize.1 M_X2_resize.2.1 M_X2_resize.2.2.1 M_X2_resize.2.2.2 ∈ WL := wl_of (List.mem_append_right _ (in_t4 (List.mem_of_getElem? (i := 107) rfl))) rfl
theorem w_460 : Cond.instanceMethod yX2_resize ∈ WL := wl_of (List.mem_append_right _ (in_t4 (List.mem_of_getElem? (i := 106) rfl))) rfl
theorem w_461 : Cond.selects yX2_resize.cls yX2_resize yX2_resize ∈ WL := wl_of (List.mem_append_left _ (List.mem_map.mpr ⟨(yX2_resize, 7), List.mem_of_getElem? (i := 34) (by decide +kernel), rfl⟩)) rfl
theorem cv_X2_resize : CalV M_X2_resize 1 2 := ⟨w_460, w_461, w_448, w_459, by decide +kernel, by decide, ⟨TX2, 7, rfl⟩, ⟨_, _, rfl⟩⟩
theorem w_462 : Cond.methodLink RX2 35 yX2_resize ∈ WL := wl_of (List.mem_append_right _ (in_t4 (List.mem_of_getElem? (i := 104) rfl))) rfl
theorem w_463 : Cond.fieldLink RX2 55 "PulseParts$Cells" "undoable" "I" ∈ WL := wl_of (List.mem_append_right _ (in_t1 (List.mem_of_getElem? (i := 223) rfl))) rfl
theorem w_464 : Cond.methodLink RX2 58 Lib.Math.min.name ∈ WL := wl_of (List.mem_append_right _ (in_t4 (List.mem_of_getElem? (i := 112) rfl))) rfl
theorem w_465 : Cond.fieldLink RX2 64 "PulseParts$Cells" "undone" "I" ∈ WL := wl_of (List.mem_append_right _ (in_t1 (List.mem_of_getElem? (i := 225) rfl))) rfl
theorem w_466 : Cond.fieldLink RX2 11 "PulseParts$Cells" "states" "[I" ∈ WL := wl_of (List.mem_append_right _ (in_t1 (List.mem_of_getElem? (i := 218) rfl))) rfl
theorem w_467 : Cond.code M_X2_write.1 M_X2_write.2.1 M_X2_write.2.2.1 M_X2_write.2.2.2 ∈ WL := wl_of (List.mem_append_right _ (in_t4 (List.mem_of_getElem? (i := 111) rfl))) rfl
theorem w_468 : Cond.instanceMethod yX2_write ∈ WL := wl_of (List.mem_append_right _ (in_t4 (List.mem_of_getElem? (i := 110) rfl))) rfl
theorem w_469 : Cond.selects yX2_write.cls yX2_write yX2_write ∈ WL := wl_of (List.mem_append_left _ (List.mem_map.mpr ⟨(yX2_write, 7), List.mem_of_getElem? (i := 35) (by decide +kernel), rfl⟩)) rfl
theorem cv_X2_write : CalV M_X2_write 2 2 := ⟨w_468, w_469, w_448, w_467, by decide +kernel, by decide, ⟨TX2, 7, rfl⟩, ⟨_, _, rfl⟩⟩
theorem w_470 : Cond.methodLink RX2 39 yX2_write ∈ WL := wl_of (List.mem_append_right _ (in_t4 (List.mem_of_getElem? (i := 108) rfl))) rfl
theorem w_471 : Cond.code M_X2_startAct.1 M_X2_startAct.2.1 M_X2_startAct.2.2.1 M_X2_startAct.2.2.2 ∈ WL := wl_of (List.mem_append_right _ (in_t4 (List.mem_of_getElem? (i := 103) rfl))) rfl
theorem w_472 : Cond.instanceMethod yX2_startAct ∈ WL := wl_of (List.mem_append_right _ (in_t4 (List.mem_of_getElem? (i := 102) rfl))) rfl
theorem w_473 : Cond.selects yX2_startAct.cls yX2_startAct yX2_startAct ∈ WL := wl_of (List.mem_append_left _ (List.mem_map.mpr ⟨(yX2_startAct, 7), List.mem_of_getElem? (i := 33) (by decide +kernel), rfl⟩)) rfl
theorem cv_X2_startAct : CalV M_X2_startAct 0 2 := ⟨w_472, w_473, w_448, w_471, by decide +kernel, by decide, ⟨TX2, 7, rfl⟩, ⟨_, _, rfl⟩⟩
theorem w_474 : Cond.methodLink RX2 32 yX2_startAct ∈ WL := wl_of (List.mem_append_right _ (in_t4 (List.mem_of_getElem? (i := 100) rfl))) rfl
theorem w_475 : Cond.code M_X2_add.1 M_X2_add.2.1 M_X2_add.2.2.1 M_X2_add.2.2.2 ∈ WL := wl_of (List.mem_append_right _ (in_t4 (List.mem_of_getElem? (i := 98) rfl))) rfl
theorem w_476 : Cond.instanceMethod yX2_add ∈ WL := wl_of (List.mem_append_right _ (in_t4 (List.mem_of_getElem? (i := 96) rfl))) rfl
theorem w_477 : Cond.selects yX2_add.cls yX2_add yX2_add ∈ WL := wl_of (List.mem_append_right _ (in_t4 (List.mem_of_getElem? (i := 97) rfl))) rfl
theorem cv_X2_add : CalV M_X2_add 1 2 := ⟨w_476, w_477, w_448, w_475, by decide +kernel, by decide, ⟨TX2, 7, rfl⟩, ⟨_, _, rfl⟩⟩
theorem w_478 : Cond.methodLink RX11 260 yX2_add ∈ WL := wl_of (List.mem_append_right _ (in_t4 (List.mem_of_getElem? (i := 95) rfl))) rfl
theorem w_479 : Cond.code M_X2_has.1 M_X2_has.2.1 M_X2_has.2.2.1 M_X2_has.2.2.2 ∈ WL := wl_of (List.mem_append_right _ (in_t4 (List.mem_of_getElem? (i := 120) rfl))) rfl
theorem w_480 : Cond.instanceMethod yX2_has ∈ WL := wl_of (List.mem_append_right _ (in_t4 (List.mem_of_getElem? (i := 118) rfl))) rfl
theorem w_481 : Cond.selects yX2_has.cls yX2_has yX2_has ∈ WL := wl_of (List.mem_append_right _ (in_t4 (List.mem_of_getElem? (i := 119) rfl))) rfl
theorem cv_X2_has : CalV M_X2_has 1 2 := ⟨w_480, w_481, w_448, w_479, by decide +kernel, by decide, ⟨TX2, 7, rfl⟩, ⟨_, _, rfl⟩⟩
theorem w_482 : Cond.methodLink RX11 263 yX2_has ∈ WL := wl_of (List.mem_append_right _ (in_t4 (List.mem_of_getElem? (i := 117) rfl))) rfl
theorem w_483 : Cond.methodLink RX2 43 yX2_has ∈ WL := wl_of (List.mem_append_right _ (in_t4 (List.mem_of_getElem? (i := 125) rfl))) rfl
theorem w_484 : Cond.code M_X2_put.1 M_X2_put.2.1 M_X2_put.2.2.1 M_X2_put.2.2.2 ∈ WL := wl_of (List.mem_append_right _ (in_t4 (List.mem_of_getElem? (i := 124) rfl))) rfl
theorem w_485 : Cond.instanceMethod yX2_put ∈ WL := wl_of (List.mem_append_right _ (in_t4 (List.mem_of_getElem? (i := 122) rfl))) rfl
theorem w_486 : Cond.selects yX2_put.cls yX2_put yX2_put ∈ WL := wl_of (List.mem_append_right _ (in_t4 (List.mem_of_getElem? (i := 123) rfl))) rfl
theorem cv_X2_put : CalV M_X2_put 2 2 := ⟨w_485, w_486, w_448, w_484, by decide +kernel, by decide, ⟨TX2, 7, rfl⟩, ⟨_, _, rfl⟩⟩
theorem w_487 : Cond.methodLink RX11 264 yX2_put ∈ WL := wl_of (List.mem_append_right _ (in_t4 (List.mem_of_getElem? (i := 121) rfl))) rfl
theorem w_488 : Cond.constantLong RX2 47 (6364136223846793005) ∈ WL := wl_of (List.mem_append_right _ (in_t4 (List.mem_of_getElem? (i := 134) rfl))) rfl
theorem w_489 : Cond.constantLong RX2 49 (1442695040888963407) ∈ WL := wl_of (List.mem_append_right _ (in_t4 (List.mem_of_getElem? (i := 135) rfl))) rfl
theorem w_490 : Cond.code M_X2_drawAll.1 M_X2_drawAll.2.1 M_X2_drawAll.2.2.1 M_X2_drawAll.2.2.2 ∈ WL := wl_of (List.mem_append_right _ (in_t4 (List.mem_of_getElem? (i := 133) rfl))) rfl
theorem w_491 : Cond.instanceMethod yX2_drawAll ∈ WL := wl_of (List.mem_append_right _ (in_t4 (List.mem_of_getElem? (i := 131) rfl))) rfl
theorem w_492 : Cond.selects yX2_drawAll.cls yX2_drawAll yX2_drawAll ∈ WL := wl_of (List.mem_append_right _ (in_t4 (List.mem_of_getElem? (i := 132) rfl))) rfl
theorem cv_X2_drawAll : CalV M_X2_drawAll 3 2 := ⟨w_491, w_492, w_448, w_490, by decide +kernel, by decide, ⟨TX2, 7, rfl⟩, ⟨_, _, rfl⟩⟩
theorem w_493 : Cond.methodLink RX11 266 yX2_drawAll ∈ WL := wl_of (List.mem_append_right _ (in_t4 (List.mem_of_getElem? (i := 130) rfl))) rfl
theorem w_494 : Cond.code M_X2_value.1 M_X2_value.2.1 M_X2_value.2.2.1 M_X2_value.2.2.2 ∈ WL := wl_of (List.mem_append_right _ (in_t4 (List.mem_of_getElem? (i := 143) rfl))) rfl
theorem w_495 : Cond.instanceMethod yX2_value ∈ WL := wl_of (List.mem_append_right _ (in_t4 (List.mem_of_getElem? (i := 141) rfl))) rfl
theorem w_496 : Cond.selects yX2_value.cls yX2_value yX2_value ∈ WL := wl_of (List.mem_append_right _ (in_t4 (List.mem_of_getElem? (i := 142) rfl))) rfl
theorem cv_X2_value : CalV M_X2_value 1 2 := ⟨w_495, w_496, w_448, w_494, by decide +kernel, by decide, ⟨TX2, 7, rfl⟩, ⟨_, _, rfl⟩⟩
theorem w_497 : Cond.methodLink RX11 270 yX2_value ∈ WL := wl_of (List.mem_append_right _ (in_t4 (List.mem_of_getElem? (i := 140) rfl))) rfl
theorem w_498 : Cond.code M_X2_goBack.1 M_X2_goBack.2.1 M_X2_goBack.2.2.1 M_X2_goBack.2.2.2 ∈ WL := wl_of (List.mem_append_right _ (in_t4 (List.mem_of_getElem? (i := 155) rfl))) rfl
theorem w_499 : Cond.instanceMethod yX2_goBack ∈ WL := wl_of (List.mem_append_right _ (in_t4 (List.mem_of_getElem? (i := 153) rfl))) rfl
theorem w_500 : Cond.selects yX2_goBack.cls yX2_goBack yX2_goBack ∈ WL := wl_of (List.mem_append_right _ (in_t4 (List.mem_of_getElem? (i := 154) rfl))) rfl
theorem cv_X2_goBack : CalV M_X2_goBack 0 2 := ⟨w_499, w_500, w_448, w_498, by decide +kernel, by decide, ⟨TX2, 7, rfl⟩, ⟨_, _, rfl⟩⟩
theorem w_501 : Cond.methodLink RX11 276 yX2_goBack ∈ WL := wl_of (List.mem_append_right _ (in_t4 (List.mem_of_getElem? (i := 152) rfl))) rfl
theorem w_502 : Cond.code M_X2_goOn.1 M_X2_goOn.2.1 M_X2_goOn.2.2.1 M_X2_goOn.2.2.2 ∈ WL := wl_of (List.mem_append_right _ (in_t4 (List.mem_of_getElem? (i := 151) rfl))) rfl
theorem w_503 : Cond.instanceMethod yX2_goOn ∈ WL := wl_of (List.mem_append_right _ (in_t4 (List.mem_of_getElem? (i := 149) rfl))) rfl
theorem w_504 : Cond.selects yX2_goOn.cls yX2_goOn yX2_goOn ∈ WL := wl_of (List.mem_append_right _ (in_t4 (List.mem_of_getElem? (i := 150) rfl))) rfl
theorem cv_X2_goOn : CalV M_X2_goOn 0 2 := ⟨w_503, w_504, w_448, w_502, by decide +kernel, by decide, ⟨TX2, 7, rfl⟩, ⟨_, _, rfl⟩⟩
theorem w_505 : Cond.methodLink RX11 273 yX2_goOn ∈ WL := wl_of (List.mem_append_right _ (in_t4 (List.mem_of_getElem? (i := 148) rfl))) rfl
theorem w_506 : Cond.fieldLink RX11 82 "PulseParts" "finder" "LPulseParts$Finder;" ∈ WL := wl_of (List.mem_append_right _ (in_t2 (List.mem_of_getElem? (i := 68) rfl))) rfl
theorem w_507 : Cond.fieldLink RX5 15 "PulseParts$Finder" "settings" "[I" ∈ WL := wl_of (List.mem_append_right _ (in_t2 (List.mem_of_getElem? (i := 9) rfl))) rfl
theorem w_508 : Cond.fieldLink RX5 26 "PulseParts$Finder" "width" "I" ∈ WL := wl_of (List.mem_append_right _ (in_t2 (List.mem_of_getElem? (i := 11) rfl))) rfl
theorem w_509 : Cond.fieldLink RX5 9 "PulseParts$Finder" "cells" "LPulseParts$Cells;" ∈ WL := wl_of (List.mem_append_right _ (in_t2 (List.mem_of_getElem? (i := 8) rfl))) rfl
theorem w_510 : Cond.methodLink RX5 40 yX2_has ∈ WL := wl_of (List.mem_append_right _ (in_t4 (List.mem_of_getElem? (i := 172) rfl))) rfl
theorem w_511 : Cond.methodLink RX5 31 yX2_value ∈ WL := wl_of (List.mem_append_right _ (in_t4 (List.mem_of_getElem? (i := 173) rfl))) rfl
theorem w_512 : Cond.fieldLink RX5 19 "PulseParts$Finder" "window" "[I" ∈ WL := wl_of (List.mem_append_right _ (in_t2 (List.mem_of_getElem? (i := 10) rfl))) rfl
theorem w_513 : Cond.code M_X5_sortIn.1 M_X5_sortIn.2.1 M_X5_sortIn.2.2.1 M_X5_sortIn.2.2.2 ∈ WL := wl_of (List.mem_append_right _ (in_t4 (List.mem_of_getElem? (i := 171) rfl))) rfl
theorem w_514 : Cond.initialized RX5 ∈ WL := wl_of (List.mem_append_right _ (in_t1 (List.mem_of_getElem? (i := 11) rfl))) rfl
theorem w_515 : Cond.instanceMethod yX5_sortIn ∈ WL := wl_of (List.mem_append_right _ (in_t4 (List.mem_of_getElem? (i := 170) rfl))) rfl
theorem w_516 : Cond.selects yX5_sortIn.cls yX5_sortIn yX5_sortIn ∈ WL := wl_of (List.mem_append_left _ (List.mem_map.mpr ⟨(yX5_sortIn, 4), List.mem_of_getElem? (i := 37) (by decide +kernel), rfl⟩)) rfl
theorem cv_X5_sortIn : CalV M_X5_sortIn 1 5 := ⟨w_515, w_516, w_514, w_513, by decide +kernel, by decide, ⟨TX5, 4, rfl⟩, ⟨_, _, rfl⟩⟩
theorem w_517 : Cond.methodLink RX5 37 yX5_sortIn ∈ WL := wl_of (List.mem_append_right _ (in_t4 (List.mem_of_getElem? (i := 168) rfl))) rfl
theorem w_518 : Cond.code M_X5_openWindow.1 M_X5_openWindow.2.1 M_X5_openWindow.2.2.1 M_X5_openWindow.2.2.2 ∈ WL := wl_of (List.mem_append_right _ (in_t4 (List.mem_of_getElem? (i := 167) rfl))) rfl
theorem w_519 : Cond.instanceMethod yX5_openWindow ∈ WL := wl_of (List.mem_append_right _ (in_t4 (List.mem_of_getElem? (i := 166) rfl))) rfl
theorem w_520 : Cond.selects yX5_openWindow.cls yX5_openWindow yX5_openWindow ∈ WL := wl_of (List.mem_append_left _ (List.mem_map.mpr ⟨(yX5_openWindow, 4), List.mem_of_getElem? (i := 36) (by decide +kernel), rfl⟩)) rfl
theorem cv_X5_openWindow : CalV M_X5_openWindow 1 5 := ⟨w_519, w_520, w_514, w_518, by decide +kernel, by decide, ⟨TX5, 4, rfl⟩, ⟨_, _, rfl⟩⟩
theorem w_521 : Cond.methodLink RX5 22 yX5_openWindow ∈ WL := wl_of (List.mem_append_right _ (in_t4 (List.mem_of_getElem? (i := 164) rfl))) rfl
theorem w_522 : Cond.constant RX5 30 (-1000000) ∈ WL := wl_of (List.mem_append_right _ (in_t4 (List.mem_of_getElem? (i := 174) rfl))) rfl
theorem w_523 : Cond.code M_X5_findingAt.1 M_X5_findingAt.2.1 M_X5_findingAt.2.2.1 M_X5_findingAt.2.2.2 ∈ WL := wl_of (List.mem_append_right _ (in_t4 (List.mem_of_getElem? (i := 163) rfl))) rfl
theorem w_524 : Cond.instanceMethod yX5_findingAt ∈ WL := wl_of (List.mem_append_right _ (in_t4 (List.mem_of_getElem? (i := 161) rfl))) rfl
theorem w_525 : Cond.selects yX5_findingAt.cls yX5_findingAt yX5_findingAt ∈ WL := wl_of (List.mem_append_right _ (in_t4 (List.mem_of_getElem? (i := 162) rfl))) rfl
theorem cv_X5_findingAt : CalV M_X5_findingAt 1 5 := ⟨w_524, w_525, w_514, w_523, by decide +kernel, by decide, ⟨TX5, 4, rfl⟩, ⟨_, _, rfl⟩⟩
theorem w_526 : Cond.methodLink RX11 279 yX5_findingAt ∈ WL := wl_of (List.mem_append_right _ (in_t4 (List.mem_of_getElem? (i := 160) rfl))) rfl
theorem w_527 : Cond.methodLink RX5 44 yX2_size ∈ WL := wl_of (List.mem_append_right _ (in_t4 (List.mem_of_getElem? (i := 183) rfl))) rfl
theorem w_528 : Cond.methodLink RX5 48 yX5_findingAt ∈ WL := wl_of (List.mem_append_right _ (in_t4 (List.mem_of_getElem? (i := 184) rfl))) rfl
theorem w_529 : Cond.code M_X5_manyFound.1 M_X5_manyFound.2.1 M_X5_manyFound.2.2.1 M_X5_manyFound.2.2.2 ∈ WL := wl_of (List.mem_append_right _ (in_t4 (List.mem_of_getElem? (i := 182) rfl))) rfl
theorem w_530 : Cond.instanceMethod yX5_manyFound ∈ WL := wl_of (List.mem_append_right _ (in_t4 (List.mem_of_getElem? (i := 180) rfl))) rfl
theorem w_531 : Cond.selects yX5_manyFound.cls yX5_manyFound yX5_manyFound ∈ WL := wl_of (List.mem_append_right _ (in_t4 (List.mem_of_getElem? (i := 181) rfl))) rfl
theorem cv_X5_manyFound : CalV M_X5_manyFound 0 5 := ⟨w_530, w_531, w_514, w_529, by decide +kernel, by decide, ⟨TX5, 4, rfl⟩, ⟨_, _, rfl⟩⟩
theorem w_532 : Cond.methodLink RX11 282 yX5_manyFound ∈ WL := wl_of (List.mem_append_right _ (in_t4 (List.mem_of_getElem? (i := 179) rfl))) rfl
theorem w_533 : Cond.code M_X9_areBounds.1 M_X9_areBounds.2.1 M_X9_areBounds.2.2.1 M_X9_areBounds.2.2.2 ∈ WL := wl_of (List.mem_append_right _ (in_t4 (List.mem_of_getElem? (i := 191) rfl))) rfl
theorem w_534 : Cond.initialized RX9 ∈ WL := wl_of (List.mem_append_right _ (in_t1 (List.mem_of_getElem? (i := 12) rfl))) rfl
theorem w_535 : Cond.static yX9_areBounds ∈ WL := wl_of (List.mem_append_right _ (in_t4 (List.mem_of_getElem? (i := 190) rfl))) rfl
theorem cv_X9_areBounds : CalS M_X9_areBounds 3 := ⟨w_535, w_534, w_533, by decide +kernel, by decide⟩
theorem w_536 : Cond.methodLink RX11 285 yX9_areBounds ∈ WL := wl_of (List.mem_append_right _ (in_t4 (List.mem_of_getElem? (i := 189) rfl))) rfl
theorem w_537 : Cond.constantLong RX11 288 (-1) ∈ WL := wl_of (List.mem_append_right _ (in_t4 (List.mem_of_getElem? (i := 193) rfl))) rfl
theorem w_538 : Cond.fieldLink RX11 89 "PulseParts" "shares" "LPulseParts$Shares;" ∈ WL := wl_of (List.mem_append_right _ (in_t2 (List.mem_of_getElem? (i := 69) rfl))) rfl
theorem w_539 : Cond.methodLink RX9 19 Lib.Math.min.name ∈ WL := wl_of (List.mem_append_right _ (in_t4 (List.mem_of_getElem? (i := 198) rfl))) rfl
theorem w_540 : Cond.fieldLink RX9 25 "PulseParts$Shares" "levels" "I" ∈ WL := wl_of (List.mem_append_right _ (in_t2 (List.mem_of_getElem? (i := 28) rfl))) rfl
theorem w_541 : Cond.code M_X9_power.1 M_X9_power.2.1 M_X9_power.2.2.1 M_X9_power.2.2.2 ∈ WL := wl_of (List.mem_append_right _ (in_t4 (List.mem_of_getElem? (i := 201) rfl))) rfl
theorem w_542 : Cond.static yX9_power ∈ WL := wl_of (List.mem_append_right _ (in_t4 (List.mem_of_getElem? (i := 200) rfl))) rfl
theorem cv_X9_power : CalS M_X9_power 2 := ⟨w_542, w_534, w_541, by decide +kernel, by decide⟩
theorem w_543 : Cond.methodLink RX9 29 yX9_power ∈ WL := wl_of (List.mem_append_right _ (in_t4 (List.mem_of_getElem? (i := 199) rfl))) rfl
theorem w_544 : Cond.fieldLink RX9 33 "PulseParts$Shares" "allRows" "J" ∈ WL := wl_of (List.mem_append_right _ (in_t2 (List.mem_of_getElem? (i := 29) rfl))) rfl
theorem w_545 : Cond.code M_X9_choices.1 M_X9_choices.2.1 M_X9_choices.2.2.1 M_X9_choices.2.2.2 ∈ WL := wl_of (List.mem_append_right _ (in_t4 (List.mem_of_getElem? (i := 208) rfl))) rfl
theorem w_546 : Cond.static yX9_choices ∈ WL := wl_of (List.mem_append_right _ (in_t4 (List.mem_of_getElem? (i := 207) rfl))) rfl
theorem cv_X9_choices : CalS M_X9_choices 2 := ⟨w_546, w_534, w_545, by decide +kernel, by decide⟩
theorem w_547 : Cond.methodLink RX9 41 yX9_choices ∈ WL := wl_of (List.mem_append_right _ (in_t4 (List.mem_of_getElem? (i := 206) rfl))) rfl
theorem w_548 : Cond.code M_X9_rowsUpTo.1 M_X9_rowsUpTo.2.1 M_X9_rowsUpTo.2.2.1 M_X9_rowsUpTo.2.2.2 ∈ WL := wl_of (List.mem_append_right _ (in_t4 (List.mem_of_getElem? (i := 205) rfl))) rfl
theorem w_549 : Cond.instanceMethod yX9_rowsUpTo ∈ WL := wl_of (List.mem_append_right _ (in_t4 (List.mem_of_getElem? (i := 204) rfl))) rfl
theorem w_550 : Cond.selects yX9_rowsUpTo.cls yX9_rowsUpTo yX9_rowsUpTo ∈ WL := wl_of (List.mem_append_left _ (List.mem_map.mpr ⟨(yX9_rowsUpTo, 3), List.mem_of_getElem? (i := 38) (by decide +kernel), rfl⟩)) rfl
theorem cv_X9_rowsUpTo : CalV M_X9_rowsUpTo 3 9 := ⟨w_549, w_550, w_534, w_548, by decide +kernel, by decide, ⟨TX9, 3, rfl⟩, ⟨_, _, rfl⟩⟩
theorem w_551 : Cond.methodLink RX9 37 yX9_rowsUpTo ∈ WL := wl_of (List.mem_append_right _ (in_t4 (List.mem_of_getElem? (i := 202) rfl))) rfl
theorem w_552 : Cond.fieldLink RX9 11 "PulseParts$Shares" "rowsByLevel" "[J" ∈ WL := wl_of (List.mem_append_right _ (in_t2 (List.mem_of_getElem? (i := 27) rfl))) rfl
theorem w_553 : Cond.code M_X9_learn.1 M_X9_learn.2.1 M_X9_learn.2.2.1 M_X9_learn.2.2.2 ∈ WL := wl_of (List.mem_append_right _ (in_t4 (List.mem_of_getElem? (i := 197) rfl))) rfl
theorem w_554 : Cond.instanceMethod yX9_learn ∈ WL := wl_of (List.mem_append_right _ (in_t4 (List.mem_of_getElem? (i := 195) rfl))) rfl
theorem w_555 : Cond.selects yX9_learn.cls yX9_learn yX9_learn ∈ WL := wl_of (List.mem_append_right _ (in_t4 (List.mem_of_getElem? (i := 196) rfl))) rfl
theorem cv_X9_learn : CalV M_X9_learn 3 9 := ⟨w_554, w_555, w_534, w_553, by decide +kernel, by decide, ⟨TX9, 3, rfl⟩, ⟨_, _, rfl⟩⟩
theorem w_556 : Cond.methodLink RX11 290 yX9_learn ∈ WL := wl_of (List.mem_append_right _ (in_t4 (List.mem_of_getElem? (i := 194) rfl))) rfl
theorem w_557 : Cond.constantLong RX9 47 (1000000) ∈ WL := wl_of (List.mem_append_right _ (in_t4 (List.mem_of_getElem? (i := 218) rfl))) rfl
theorem w_558 : Cond.methodLink RX9 44 Lib.Math.max.name ∈ WL := wl_of (List.mem_append_right _ (in_t4 (List.mem_of_getElem? (i := 213) rfl))) rfl
theorem w_559 : Cond.code M_X9_rowsAbove.1 M_X9_rowsAbove.2.1 M_X9_rowsAbove.2.2.1 M_X9_rowsAbove.2.2.2 ∈ WL := wl_of (List.mem_append_right _ (in_t4 (List.mem_of_getElem? (i := 212) rfl))) rfl
theorem w_560 : Cond.instanceMethod yX9_rowsAbove ∈ WL := wl_of (List.mem_append_right _ (in_t4 (List.mem_of_getElem? (i := 210) rfl))) rfl
theorem w_561 : Cond.selects yX9_rowsAbove.cls yX9_rowsAbove yX9_rowsAbove ∈ WL := wl_of (List.mem_append_right _ (in_t4 (List.mem_of_getElem? (i := 211) rfl))) rfl
theorem cv_X9_rowsAbove : CalV M_X9_rowsAbove 1 9 := ⟨w_560, w_561, w_534, w_559, by decide +kernel, by decide, ⟨TX9, 3, rfl⟩, ⟨_, _, rfl⟩⟩
theorem w_562 : Cond.methodLink RX9 49 yX9_rowsAbove ∈ WL := wl_of (List.mem_append_right _ (in_t4 (List.mem_of_getElem? (i := 219) rfl))) rfl
theorem w_563 : Cond.code M_X9_partsAbove.1 M_X9_partsAbove.2.1 M_X9_partsAbove.2.2.1 M_X9_partsAbove.2.2.2 ∈ WL := wl_of (List.mem_append_right _ (in_t4 (List.mem_of_getElem? (i := 217) rfl))) rfl
theorem w_564 : Cond.instanceMethod yX9_partsAbove ∈ WL := wl_of (List.mem_append_right _ (in_t4 (List.mem_of_getElem? (i := 215) rfl))) rfl
theorem w_565 : Cond.selects yX9_partsAbove.cls yX9_partsAbove yX9_partsAbove ∈ WL := wl_of (List.mem_append_right _ (in_t4 (List.mem_of_getElem? (i := 216) rfl))) rfl
theorem cv_X9_partsAbove : CalV M_X9_partsAbove 1 9 := ⟨w_564, w_565, w_534, w_563, by decide +kernel, by decide, ⟨TX9, 3, rfl⟩, ⟨_, _, rfl⟩⟩
theorem w_566 : Cond.methodLink RX11 296 yX9_partsAbove ∈ WL := wl_of (List.mem_append_right _ (in_t4 (List.mem_of_getElem? (i := 214) rfl))) rfl
theorem w_567 : Cond.methodLink RX11 292 yX9_rowsAbove ∈ WL := wl_of (List.mem_append_right _ (in_t4 (List.mem_of_getElem? (i := 209) rfl))) rfl
theorem w_568 : Cond.fieldLink RX11 96 "PulseParts" "beams" "LPulseParts$Beams;" ∈ WL := wl_of (List.mem_append_right _ (in_t2 (List.mem_of_getElem? (i := 70) rfl))) rfl
theorem w_569 : Cond.fieldLink RX0 24 "PulseParts$Beams" "many" "I" ∈ WL := wl_of (List.mem_append_right _ (in_t2 (List.mem_of_getElem? (i := 47) rfl))) rfl
theorem w_570 : Cond.fieldLink RX0 11 "PulseParts$Beams" "times" "[I" ∈ WL := wl_of (List.mem_append_right _ (in_t2 (List.mem_of_getElem? (i := 43) rfl))) rfl
theorem w_571 : Cond.fieldLink RX0 15 "PulseParts$Beams" "dues" "[I" ∈ WL := wl_of (List.mem_append_right _ (in_t2 (List.mem_of_getElem? (i := 44) rfl))) rfl
theorem w_572 : Cond.fieldLink RX0 18 "PulseParts$Beams" "worths" "[I" ∈ WL := wl_of (List.mem_append_right _ (in_t2 (List.mem_of_getElem? (i := 45) rfl))) rfl
theorem w_573 : Cond.fieldLink RX0 21 "PulseParts$Beams" "byDue" "[I" ∈ WL := wl_of (List.mem_append_right _ (in_t2 (List.mem_of_getElem? (i := 46) rfl))) rfl
theorem w_574 : Cond.code M_X0_beamAt.1 M_X0_beamAt.2.1 M_X0_beamAt.2.2.1 M_X0_beamAt.2.2.2 ∈ WL := wl_of (List.mem_append_right _ (in_t4 (List.mem_of_getElem? (i := 235) rfl))) rfl
theorem w_575 : Cond.initialized RX0 ∈ WL := wl_of (List.mem_append_right _ (in_t1 (List.mem_of_getElem? (i := 13) rfl))) rfl
theorem w_576 : Cond.instanceMethod yX0_beamAt ∈ WL := wl_of (List.mem_append_right _ (in_t4 (List.mem_of_getElem? (i := 234) rfl))) rfl
theorem w_577 : Cond.selects yX0_beamAt.cls yX0_beamAt yX0_beamAt ∈ WL := wl_of (List.mem_append_left _ (List.mem_map.mpr ⟨(yX0_beamAt, 5), List.mem_of_getElem? (i := 40) (by decide +kernel), rfl⟩)) rfl
theorem cv_X0_beamAt : CalV M_X0_beamAt 1 0 := ⟨w_576, w_577, w_575, w_574, by decide +kernel, by decide, ⟨TX0, 5, rfl⟩, ⟨_, _, rfl⟩⟩
theorem w_578 : Cond.methodLink RX0 32 yX0_beamAt ∈ WL := wl_of (List.mem_append_right _ (in_t4 (List.mem_of_getElem? (i := 232) rfl))) rfl
theorem w_579 : Cond.code M_X0_dueAt.1 M_X0_dueAt.2.1 M_X0_dueAt.2.2.1 M_X0_dueAt.2.2.2 ∈ WL := wl_of (List.mem_append_right _ (in_t4 (List.mem_of_getElem? (i := 231) rfl))) rfl
theorem w_580 : Cond.instanceMethod yX0_dueAt ∈ WL := wl_of (List.mem_append_right _ (in_t4 (List.mem_of_getElem? (i := 230) rfl))) rfl
theorem w_581 : Cond.selects yX0_dueAt.cls yX0_dueAt yX0_dueAt ∈ WL := wl_of (List.mem_append_left _ (List.mem_map.mpr ⟨(yX0_dueAt, 5), List.mem_of_getElem? (i := 39) (by decide +kernel), rfl⟩)) rfl
theorem cv_X0_dueAt : CalV M_X0_dueAt 1 0 := ⟨w_580, w_581, w_575, w_579, by decide +kernel, by decide, ⟨TX0, 5, rfl⟩, ⟨_, _, rfl⟩⟩
theorem w_582 : Cond.methodLink RX0 28 yX0_dueAt ∈ WL := wl_of (List.mem_append_right _ (in_t4 (List.mem_of_getElem? (i := 228) rfl))) rfl
theorem w_583 : Cond.code M_X0_add.1 M_X0_add.2.1 M_X0_add.2.2.1 M_X0_add.2.2.2 ∈ WL := wl_of (List.mem_append_right _ (in_t4 (List.mem_of_getElem? (i := 227) rfl))) rfl
theorem w_584 : Cond.instanceMethod yX0_add ∈ WL := wl_of (List.mem_append_right _ (in_t4 (List.mem_of_getElem? (i := 225) rfl))) rfl
theorem w_585 : Cond.selects yX0_add.cls yX0_add yX0_add ∈ WL := wl_of (List.mem_append_right _ (in_t4 (List.mem_of_getElem? (i := 226) rfl))) rfl
theorem cv_X0_add : CalV M_X0_add 3 0 := ⟨w_584, w_585, w_575, w_583, by decide +kernel, by decide, ⟨TX0, 5, rfl⟩, ⟨_, _, rfl⟩⟩
theorem w_586 : Cond.methodLink RX11 299 yX0_add ∈ WL := wl_of (List.mem_append_right _ (in_t4 (List.mem_of_getElem? (i := 224) rfl))) rfl
theorem w_587 : Cond.code M_X0_worthOf.1 M_X0_worthOf.2.1 M_X0_worthOf.2.2.1 M_X0_worthOf.2.2.2 ∈ WL := wl_of (List.mem_append_right _ (in_t5 (List.mem_of_getElem? (i := 7) rfl))) rfl
theorem w_588 : Cond.instanceMethod yX0_worthOf ∈ WL := wl_of (List.mem_append_right _ (in_t5 (List.mem_of_getElem? (i := 5) rfl))) rfl
theorem w_589 : Cond.selects yX0_worthOf.cls yX0_worthOf yX0_worthOf ∈ WL := wl_of (List.mem_append_right _ (in_t5 (List.mem_of_getElem? (i := 6) rfl))) rfl
theorem cv_X0_worthOf : CalV M_X0_worthOf 1 0 := ⟨w_588, w_589, w_575, w_587, by decide +kernel, by decide, ⟨TX0, 5, rfl⟩, ⟨_, _, rfl⟩⟩
theorem w_590 : Cond.methodLink RX0 35 yX0_worthOf ∈ WL := wl_of (List.mem_append_right _ (in_t5 (List.mem_of_getElem? (i := 4) rfl))) rfl
theorem w_591 : Cond.code M_X0_canBeDone.1 M_X0_canBeDone.2.1 M_X0_canBeDone.2.2.1 M_X0_canBeDone.2.2.2 ∈ WL := wl_of (List.mem_append_right _ (in_t5 (List.mem_of_getElem? (i := 11) rfl))) rfl
theorem w_592 : Cond.instanceMethod yX0_canBeDone ∈ WL := wl_of (List.mem_append_right _ (in_t5 (List.mem_of_getElem? (i := 10) rfl))) rfl
theorem w_593 : Cond.selects yX0_canBeDone.cls yX0_canBeDone yX0_canBeDone ∈ WL := wl_of (List.mem_append_left _ (List.mem_map.mpr ⟨(yX0_canBeDone, 5), List.mem_of_getElem? (i := 41) (by decide +kernel), rfl⟩)) rfl
theorem cv_X0_canBeDone : CalV M_X0_canBeDone 1 0 := ⟨w_592, w_593, w_575, w_591, by decide +kernel, by decide, ⟨TX0, 5, rfl⟩, ⟨_, _, rfl⟩⟩
theorem w_594 : Cond.methodLink RX0 38 yX0_canBeDone ∈ WL := wl_of (List.mem_append_right _ (in_t5 (List.mem_of_getElem? (i := 8) rfl))) rfl
theorem w_595 : Cond.code M_X0_bestSet.1 M_X0_bestSet.2.1 M_X0_bestSet.2.2.1 M_X0_bestSet.2.2.2 ∈ WL := wl_of (List.mem_append_right _ (in_t5 (List.mem_of_getElem? (i := 3) rfl))) rfl
theorem w_596 : Cond.instanceMethod yX0_bestSet ∈ WL := wl_of (List.mem_append_right _ (in_t5 (List.mem_of_getElem? (i := 1) rfl))) rfl
theorem w_597 : Cond.selects yX0_bestSet.cls yX0_bestSet yX0_bestSet ∈ WL := wl_of (List.mem_append_right _ (in_t5 (List.mem_of_getElem? (i := 2) rfl))) rfl
theorem cv_X0_bestSet : CalV M_X0_bestSet 0 0 := ⟨w_596, w_597, w_575, w_595, by decide +kernel, by decide, ⟨TX0, 5, rfl⟩, ⟨_, _, rfl⟩⟩
theorem w_598 : Cond.methodLink RX11 303 yX0_bestSet ∈ WL := wl_of (List.mem_append_right _ (in_t5 (List.mem_of_getElem? (i := 0) rfl))) rfl
theorem w_599 : Cond.methodLink RX11 306 yX0_worthOf ∈ WL := wl_of (List.mem_append_right _ (in_t5 (List.mem_of_getElem? (i := 12) rfl))) rfl
theorem w_600 : Cond.methodLink RX3 61 yX3_lengthOf ∈ WL := wl_of (List.mem_append_right _ (in_t5 (List.mem_of_getElem? (i := 21) rfl))) rfl
theorem w_601 : Cond.methodLink RX3 68 yX3_turn ∈ WL := wl_of (List.mem_append_right _ (in_t5 (List.mem_of_getElem? (i := 26) rfl))) rfl
theorem w_602 : Cond.code M_X3_isTurned.1 M_X3_isTurned.2.1 M_X3_isTurned.2.2.1 M_X3_isTurned.2.2.2 ∈ WL := wl_of (List.mem_append_right _ (in_t5 (List.mem_of_getElem? (i := 25) rfl))) rfl
theorem w_603 : Cond.instanceMethod yX3_isTurned ∈ WL := wl_of (List.mem_append_right _ (in_t5 (List.mem_of_getElem? (i := 24) rfl))) rfl
theorem w_604 : Cond.selects yX3_isTurned.cls yX3_isTurned yX3_isTurned ∈ WL := wl_of (List.mem_append_left _ (List.mem_map.mpr ⟨(yX3_isTurned, 3), List.mem_of_getElem? (i := 42) (by decide +kernel), rfl⟩)) rfl
theorem cv_X3_isTurned : CalV M_X3_isTurned 5 3 := ⟨w_603, w_604, w_124, w_602, by decide +kernel, by decide, ⟨TX3, 3, rfl⟩, ⟨_, _, rfl⟩⟩
theorem w_605 : Cond.methodLink RX3 64 yX3_isTurned ∈ WL := wl_of (List.mem_append_right _ (in_t5 (List.mem_of_getElem? (i := 22) rfl))) rfl
theorem w_606 : Cond.code M_X3_areLike.1 M_X3_areLike.2.1 M_X3_areLike.2.2.1 M_X3_areLike.2.2.2 ∈ WL := wl_of (List.mem_append_right _ (in_t5 (List.mem_of_getElem? (i := 20) rfl))) rfl
theorem w_607 : Cond.instanceMethod yX3_areLike ∈ WL := wl_of (List.mem_append_right _ (in_t5 (List.mem_of_getElem? (i := 18) rfl))) rfl
theorem w_608 : Cond.selects yX3_areLike.cls yX3_areLike yX3_areLike ∈ WL := wl_of (List.mem_append_right _ (in_t5 (List.mem_of_getElem? (i := 19) rfl))) rfl
theorem cv_X3_areLike : CalV M_X3_areLike 2 3 := ⟨w_607, w_608, w_124, w_606, by decide +kernel, by decide, ⟨TX3, 3, rfl⟩, ⟨_, _, rfl⟩⟩
theorem w_609 : Cond.methodLink RX11 309 yX3_areLike ∈ WL := wl_of (List.mem_append_right _ (in_t5 (List.mem_of_getElem? (i := 17) rfl))) rfl
theorem w_610 : Cond.code M_X4_powerTogether.1 M_X4_powerTogether.2.1 M_X4_powerTogether.2.2.1 M_X4_powerTogether.2.2.2 ∈ WL := wl_of (List.mem_append_right _ (in_t5 (List.mem_of_getElem? (i := 38) rfl))) rfl
theorem w_611 : Cond.instanceMethod yX4_powerTogether ∈ WL := wl_of (List.mem_append_right _ (in_t5 (List.mem_of_getElem? (i := 37) rfl))) rfl
theorem w_612 : Cond.selects yX4_powerTogether.cls yX4_powerTogether yX4_powerTogether ∈ WL := wl_of (List.mem_append_left _ (List.mem_map.mpr ⟨(yX4_powerTogether, 6), List.mem_of_getElem? (i := 43) (by decide +kernel), rfl⟩)) rfl
theorem cv_X4_powerTogether : CalV M_X4_powerTogether 3 4 := ⟨w_611, w_612, w_211, w_610, by decide +kernel, by decide, ⟨TX4, 6, rfl⟩, ⟨_, _, rfl⟩⟩
theorem w_613 : Cond.methodLink RX4 100 yX4_powerTogether ∈ WL := wl_of (List.mem_append_right _ (in_t5 (List.mem_of_getElem? (i := 35) rfl))) rfl
theorem w_614 : Cond.code M_X4_sideTogether.1 M_X4_sideTogether.2.1 M_X4_sideTogether.2.2.1 M_X4_sideTogether.2.2.2 ∈ WL := wl_of (List.mem_append_right _ (in_t5 (List.mem_of_getElem? (i := 34) rfl))) rfl
theorem w_615 : Cond.instanceMethod yX4_sideTogether ∈ WL := wl_of (List.mem_append_right _ (in_t5 (List.mem_of_getElem? (i := 32) rfl))) rfl
theorem w_616 : Cond.selects yX4_sideTogether.cls yX4_sideTogether yX4_sideTogether ∈ WL := wl_of (List.mem_append_right _ (in_t5 (List.mem_of_getElem? (i := 33) rfl))) rfl
theorem cv_X4_sideTogether : CalV M_X4_sideTogether 2 4 := ⟨w_615, w_616, w_211, w_614, by decide +kernel, by decide, ⟨TX4, 6, rfl⟩, ⟨_, _, rfl⟩⟩
theorem w_617 : Cond.methodLink RX11 312 yX4_sideTogether ∈ WL := wl_of (List.mem_append_right _ (in_t5 (List.mem_of_getElem? (i := 31) rfl))) rfl
theorem w_618 : Cond.fieldLink RX8 27 "PulseParts$Rests" "seenWays" "[J" ∈ WL := wl_of (List.mem_append_right _ (in_t1 (List.mem_of_getElem? (i := 185) rfl))) rfl
theorem w_619 : Cond.code M_J7_fill_d0a16.1 M_J7_fill_d0a16.2.1 M_J7_fill_d0a16.2.2.1 M_J7_fill_d0a16.2.2.2 ∈ WL := wl_of (List.mem_append_right _ (in_t5 (List.mem_of_getElem? (i := 57) rfl))) rfl
theorem w_620 : Cond.static yJ7_fill_d0a16 ∈ WL := wl_of (List.mem_append_right _ (in_t5 (List.mem_of_getElem? (i := 56) rfl))) rfl
theorem cv_J7_fill_d0a16 : CalS M_J7_fill_d0a16 2 := ⟨w_620, w_401, w_619, by decide +kernel, by decide⟩
theorem w_621 : Cond.methodLink RX8 134 yJ7_fill_d0a16 ∈ WL := wl_of (List.mem_append_right _ (in_t5 (List.mem_of_getElem? (i := 55) rfl))) rfl
theorem w_622 : Cond.methodLink RX8 137 Lib.Math.max.name ∈ WL := wl_of (List.mem_append_right _ (in_t5 (List.mem_of_getElem? (i := 58) rfl))) rfl
theorem w_623 : Cond.code M_X8_tellSeenWays.1 M_X8_tellSeenWays.2.1 M_X8_tellSeenWays.2.2.1 M_X8_tellSeenWays.2.2.2 ∈ WL := wl_of (List.mem_append_right _ (in_t5 (List.mem_of_getElem? (i := 54) rfl))) rfl
theorem w_624 : Cond.instanceMethod yX8_tellSeenWays ∈ WL := wl_of (List.mem_append_right _ (in_t5 (List.mem_of_getElem? (i := 53) rfl))) rfl
theorem w_625 : Cond.selects yX8_tellSeenWays.cls yX8_tellSeenWays yX8_tellSeenWays ∈ WL := wl_of (List.mem_append_left _ (List.mem_map.mpr ⟨(yX8_tellSeenWays, 9), List.mem_of_getElem? (i := 44) (by decide +kernel), rfl⟩)) rfl
theorem cv_X8_tellSeenWays : CalV M_X8_tellSeenWays 3 8 := ⟨w_624, w_625, w_48, w_623, by decide +kernel, by decide, ⟨TX8, 9, rfl⟩, ⟨_, _, rfl⟩⟩
theorem w_626 : Cond.methodLink RX8 124 yX8_tellSeenWays ∈ WL := wl_of (List.mem_append_right _ (in_t5 (List.mem_of_getElem? (i := 51) rfl))) rfl
theorem w_627 : Cond.code M_X8_waysOf.1 M_X8_waysOf.2.1 M_X8_waysOf.2.2.1 M_X8_waysOf.2.2.2 ∈ WL := wl_of (List.mem_append_right _ (in_t5 (List.mem_of_getElem? (i := 66) rfl))) rfl
theorem w_628 : Cond.instanceMethod yX8_waysOf ∈ WL := wl_of (List.mem_append_right _ (in_t5 (List.mem_of_getElem? (i := 65) rfl))) rfl
theorem w_629 : Cond.selects yX8_waysOf.cls yX8_waysOf yX8_waysOf ∈ WL := wl_of (List.mem_append_left _ (List.mem_map.mpr ⟨(yX8_waysOf, 9), List.mem_of_getElem? (i := 46) (by decide +kernel), rfl⟩)) rfl
theorem cv_X8_waysOf : CalV M_X8_waysOf 2 8 := ⟨w_628, w_629, w_48, w_627, by decide +kernel, by decide, ⟨TX8, 9, rfl⟩, ⟨_, _, rfl⟩⟩
theorem w_630 : Cond.methodLink RX8 140 yX8_waysOf ∈ WL := wl_of (List.mem_append_right _ (in_t5 (List.mem_of_getElem? (i := 63) rfl))) rfl
theorem w_631 : Cond.constantLong RJ13 314 (6148914691236517205) ∈ WL := wl_of (List.mem_append_right _ (in_t5 (List.mem_of_getElem? (i := 70) rfl))) rfl
theorem w_632 : Cond.constantLong RJ13 316 (3689348814741910323) ∈ WL := wl_of (List.mem_append_right _ (in_t5 (List.mem_of_getElem? (i := 71) rfl))) rfl
theorem w_633 : Cond.constantLong RJ13 318 (1085102592571150095) ∈ WL := wl_of (List.mem_append_right _ (in_t5 (List.mem_of_getElem? (i := 72) rfl))) rfl
theorem w_634 : Cond.code M_J13_bitCount_95d88.1 M_J13_bitCount_95d88.2.1 M_J13_bitCount_95d88.2.2.1 M_J13_bitCount_95d88.2.2.2 ∈ WL := wl_of (List.mem_append_right _ (in_t5 (List.mem_of_getElem? (i := 69) rfl))) rfl
theorem w_635 : Cond.initialized RJ13 ∈ WL := wl_of (List.mem_append_right _ (in_t1 (List.mem_of_getElem? (i := 21) rfl))) rfl
theorem w_636 : Cond.static yJ13_bitCount_95d88 ∈ WL := wl_of (List.mem_append_right _ (in_t5 (List.mem_of_getElem? (i := 68) rfl))) rfl
theorem cv_J13_bitCount_95d88 : CalS M_J13_bitCount_95d88 1 := ⟨w_636, w_635, w_634, by decide +kernel, by decide⟩
theorem w_637 : Cond.methodLink RX8 144 yJ13_bitCount_95d88 ∈ WL := wl_of (List.mem_append_right _ (in_t5 (List.mem_of_getElem? (i := 67) rfl))) rfl
theorem w_638 : Cond.code M_X8_seenByThree.1 M_X8_seenByThree.2.1 M_X8_seenByThree.2.2.1 M_X8_seenByThree.2.2.2 ∈ WL := wl_of (List.mem_append_right _ (in_t5 (List.mem_of_getElem? (i := 62) rfl))) rfl
theorem w_639 : Cond.instanceMethod yX8_seenByThree ∈ WL := wl_of (List.mem_append_right _ (in_t5 (List.mem_of_getElem? (i := 61) rfl))) rfl
theorem w_640 : Cond.selects yX8_seenByThree.cls yX8_seenByThree yX8_seenByThree ∈ WL := wl_of (List.mem_append_left _ (List.mem_map.mpr ⟨(yX8_seenByThree, 9), List.mem_of_getElem? (i := 45) (by decide +kernel), rfl⟩)) rfl
theorem cv_X8_seenByThree : CalV M_X8_seenByThree 3 8 := ⟨w_639, w_640, w_48, w_638, by decide +kernel, by decide, ⟨TX8, 9, rfl⟩, ⟨_, _, rfl⟩⟩
theorem w_641 : Cond.methodLink RX8 128 yX8_seenByThree ∈ WL := wl_of (List.mem_append_right _ (in_t5 (List.mem_of_getElem? (i := 59) rfl))) rfl
theorem w_642 : Cond.code M_X8_staggerBehind.1 M_X8_staggerBehind.2.1 M_X8_staggerBehind.2.2.1 M_X8_staggerBehind.2.2.2 ∈ WL := wl_of (List.mem_append_right _ (in_t5 (List.mem_of_getElem? (i := 76) rfl))) rfl
theorem w_643 : Cond.instanceMethod yX8_staggerBehind ∈ WL := wl_of (List.mem_append_right _ (in_t5 (List.mem_of_getElem? (i := 75) rfl))) rfl
theorem w_644 : Cond.selects yX8_staggerBehind.cls yX8_staggerBehind yX8_staggerBehind ∈ WL := wl_of (List.mem_append_left _ (List.mem_map.mpr ⟨(yX8_staggerBehind, 9), List.mem_of_getElem? (i := 47) (by decide +kernel), rfl⟩)) rfl
theorem cv_X8_staggerBehind : CalV M_X8_staggerBehind 3 8 := ⟨w_643, w_644, w_48, w_642, by decide +kernel, by decide, ⟨TX8, 9, rfl⟩, ⟨_, _, rfl⟩⟩
theorem w_645 : Cond.methodLink RX8 131 yX8_staggerBehind ∈ WL := wl_of (List.mem_append_right _ (in_t5 (List.mem_of_getElem? (i := 73) rfl))) rfl
theorem w_646 : Cond.code M_X8_staggerBest.1 M_X8_staggerBest.2.1 M_X8_staggerBest.2.2.1 M_X8_staggerBest.2.2.2 ∈ WL := wl_of (List.mem_append_right _ (in_t5 (List.mem_of_getElem? (i := 50) rfl))) rfl
theorem w_647 : Cond.instanceMethod yX8_staggerBest ∈ WL := wl_of (List.mem_append_right _ (in_t5 (List.mem_of_getElem? (i := 48) rfl))) rfl
theorem w_648 : Cond.selects yX8_staggerBest.cls yX8_staggerBest yX8_staggerBest ∈ WL := wl_of (List.mem_append_right _ (in_t5 (List.mem_of_getElem? (i := 49) rfl))) rfl
theorem cv_X8_staggerBest : CalV M_X8_staggerBest 4 8 := ⟨w_647, w_648, w_48, w_646, by decide +kernel, by decide, ⟨TX8, 9, rfl⟩, ⟨_, _, rfl⟩⟩
theorem w_649 : Cond.methodLink RX11 315 yX8_staggerBest ∈ WL := wl_of (List.mem_append_right _ (in_t5 (List.mem_of_getElem? (i := 47) rfl))) rfl
theorem w_650 : Cond.constantLong RX11 319 (1000000) ∈ WL := wl_of (List.mem_append_right _ (in_t5 (List.mem_of_getElem? (i := 81) rfl))) rfl
theorem w_651 : Cond.methodLink RX9 53 yX9_partsAbove ∈ WL := wl_of (List.mem_append_right _ (in_t5 (List.mem_of_getElem? (i := 86) rfl))) rfl
theorem w_652 : Cond.code M_X9_leastFactor.1 M_X9_leastFactor.2.1 M_X9_leastFactor.2.2.1 M_X9_leastFactor.2.2.2 ∈ WL := wl_of (List.mem_append_right _ (in_t5 (List.mem_of_getElem? (i := 85) rfl))) rfl
theorem w_653 : Cond.instanceMethod yX9_leastFactor ∈ WL := wl_of (List.mem_append_right _ (in_t5 (List.mem_of_getElem? (i := 83) rfl))) rfl
theorem w_654 : Cond.selects yX9_leastFactor.cls yX9_leastFactor yX9_leastFactor ∈ WL := wl_of (List.mem_append_right _ (in_t5 (List.mem_of_getElem? (i := 84) rfl))) rfl
theorem cv_X9_leastFactor : CalV M_X9_leastFactor 1 9 := ⟨w_653, w_654, w_534, w_652, by decide +kernel, by decide, ⟨TX9, 3, rfl⟩, ⟨_, _, rfl⟩⟩
theorem w_655 : Cond.methodLink RX11 321 yX9_leastFactor ∈ WL := wl_of (List.mem_append_right _ (in_t5 (List.mem_of_getElem? (i := 82) rfl))) rfl
theorem w_656 : Cond.code M_X5_heapsOf.1 M_X5_heapsOf.2.1 M_X5_heapsOf.2.2.1 M_X5_heapsOf.2.2.2 ∈ WL := wl_of (List.mem_append_right _ (in_t5 (List.mem_of_getElem? (i := 94) rfl))) rfl
theorem w_657 : Cond.instanceMethod yX5_heapsOf ∈ WL := wl_of (List.mem_append_right _ (in_t5 (List.mem_of_getElem? (i := 92) rfl))) rfl
theorem w_658 : Cond.selects yX5_heapsOf.cls yX5_heapsOf yX5_heapsOf ∈ WL := wl_of (List.mem_append_right _ (in_t5 (List.mem_of_getElem? (i := 93) rfl))) rfl
theorem cv_X5_heapsOf : CalV M_X5_heapsOf 1 5 := ⟨w_657, w_658, w_514, w_656, by decide +kernel, by decide, ⟨TX5, 4, rfl⟩, ⟨_, _, rfl⟩⟩
theorem w_659 : Cond.methodLink RX11 324 yX5_heapsOf ∈ WL := wl_of (List.mem_append_right _ (in_t5 (List.mem_of_getElem? (i := 91) rfl))) rfl
theorem w_660 : Cond.fieldLink RX2 21 "PulseParts$Cells" "imageSize" "I" ∈ WL := wl_of (List.mem_append_right _ (in_t1 (List.mem_of_getElem? (i := 221) rfl))) rfl
theorem w_661 : Cond.fieldLink RX2 18 "PulseParts$Cells" "image" "[I" ∈ WL := wl_of (List.mem_append_right _ (in_t1 (List.mem_of_getElem? (i := 220) rfl))) rfl
theorem w_662 : Cond.methodLink RX2 51 yX2_value ∈ WL := wl_of (List.mem_append_right _ (in_t5 (List.mem_of_getElem? (i := 103) rfl))) rfl
theorem w_663 : Cond.code M_X2_keepImage.1 M_X2_keepImage.2.1 M_X2_keepImage.2.2.1 M_X2_keepImage.2.2.2 ∈ WL := wl_of (List.mem_append_right _ (in_t5 (List.mem_of_getElem? (i := 102) rfl))) rfl
theorem w_664 : Cond.instanceMethod yX2_keepImage ∈ WL := wl_of (List.mem_append_right _ (in_t5 (List.mem_of_getElem? (i := 100) rfl))) rfl
theorem w_665 : Cond.selects yX2_keepImage.cls yX2_keepImage yX2_keepImage ∈ WL := wl_of (List.mem_append_right _ (in_t5 (List.mem_of_getElem? (i := 101) rfl))) rfl
theorem cv_X2_keepImage : CalV M_X2_keepImage 0 2 := ⟨w_664, w_665, w_448, w_663, by decide +kernel, by decide, ⟨TX2, 7, rfl⟩, ⟨_, _, rfl⟩⟩
theorem w_666 : Cond.methodLink RX11 327 yX2_keepImage ∈ WL := wl_of (List.mem_append_right _ (in_t5 (List.mem_of_getElem? (i := 99) rfl))) rfl
theorem w_667 : Cond.code M_X2_putImageBack.1 M_X2_putImageBack.2.1 M_X2_putImageBack.2.2.1 M_X2_putImageBack.2.2.2 ∈ WL := wl_of (List.mem_append_right _ (in_t5 (List.mem_of_getElem? (i := 111) rfl))) rfl
theorem w_668 : Cond.instanceMethod yX2_putImageBack ∈ WL := wl_of (List.mem_append_right _ (in_t5 (List.mem_of_getElem? (i := 109) rfl))) rfl
theorem w_669 : Cond.selects yX2_putImageBack.cls yX2_putImageBack yX2_putImageBack ∈ WL := wl_of (List.mem_append_right _ (in_t5 (List.mem_of_getElem? (i := 110) rfl))) rfl
theorem cv_X2_putImageBack : CalV M_X2_putImageBack 0 2 := ⟨w_668, w_669, w_448, w_667, by decide +kernel, by decide, ⟨TX2, 7, rfl⟩, ⟨_, _, rfl⟩⟩
theorem w_670 : Cond.methodLink RX11 330 yX2_putImageBack ∈ WL := wl_of (List.mem_append_right _ (in_t5 (List.mem_of_getElem? (i := 108) rfl))) rfl
theorem w_671 : Cond.fieldLink RX12 101 "PulsePartsModel" "thrown" "I" ∈ WL := wl_of (List.mem_append_right _ (in_t5 (List.mem_of_getElem? (i := 191) rfl))) rfl
theorem w_672 : Cond.fieldLink RX12 108 "PulsePartsModel" "size" "I" ∈ WL := wl_of (List.mem_append_right _ (in_t5 (List.mem_of_getElem? (i := 193) rfl))) rfl
theorem w_673 : Cond.code M_X12_byteOf.1 M_X12_byteOf.2.1 M_X12_byteOf.2.2.1 M_X12_byteOf.2.2.2 ∈ WL := wl_of (List.mem_append_right _ (in_t6 (List.mem_of_getElem? (i := 115) rfl))) rfl
theorem w_674 : Cond.initialized RX12 ∈ WL := wl_of (List.mem_append_right _ (in_t1 (List.mem_of_getElem? (i := 14) rfl))) rfl
theorem w_675 : Cond.static yX12_byteOf ∈ WL := wl_of (List.mem_append_right _ (in_t6 (List.mem_of_getElem? (i := 114) rfl))) rfl
theorem cv_X12_byteOf : CalS M_X12_byteOf 6 := ⟨w_675, w_674, w_673, by decide +kernel, by decide⟩
theorem w_676 : Cond.methodLink RX12 104 yX12_byteOf ∈ WL := wl_of (List.mem_append_right _ (in_t6 (List.mem_of_getElem? (i := 113) rfl))) rfl
theorem w_677 : Cond.fieldLink RX12 9 "PulsePartsModel" "tape" "[I" ∈ WL := wl_of (List.mem_append_right _ (in_t5 (List.mem_of_getElem? (i := 192) rfl))) rfl
theorem w_678 : Cond.fieldLink RX12 111 "PulsePartsModel" "at" "I" ∈ WL := wl_of (List.mem_append_right _ (in_t5 (List.mem_of_getElem? (i := 194) rfl))) rfl
theorem w_679 : Cond.fieldLink RX12 118 "PulsePartsModel" "wrong" "I" ∈ WL := wl_of (List.mem_append_right _ (in_t5 (List.mem_of_getElem? (i := 195) rfl))) rfl
theorem w_680 : Cond.fieldLink RX12 49 "PulsePartsModel" "restMany" "[I" ∈ WL := wl_of (List.mem_append_right _ (in_t5 (List.mem_of_getElem? (i := 211) rfl))) rfl
theorem w_681 : Cond.code M_X12_here.1 M_X12_here.2.1 M_X12_here.2.2.1 M_X12_here.2.2.2 ∈ WL := wl_of (List.mem_append_right _ (in_t6 (List.mem_of_getElem? (i := 135) rfl))) rfl
theorem w_682 : Cond.instanceMethod yX12_here ∈ WL := wl_of (List.mem_append_right _ (in_t6 (List.mem_of_getElem? (i := 134) rfl))) rfl
theorem w_683 : Cond.selects yX12_here.cls yX12_here yX12_here ∈ WL := wl_of (List.mem_append_left _ (List.mem_map.mpr ⟨(yX12_here, 51), List.mem_of_getElem? (i := 51) (by decide +kernel), rfl⟩)) rfl
theorem cv_X12_here : CalV M_X12_here 0 12 := ⟨w_682, w_683, w_674, w_681, by decide +kernel, by decide, ⟨TX12, 51, rfl⟩, ⟨_, _, rfl⟩⟩
theorem w_684 : Cond.methodLink RX12 114 yX12_here ∈ WL := wl_of (List.mem_append_right _ (in_t6 (List.mem_of_getElem? (i := 132) rfl))) rfl
theorem w_685 : Cond.code M_X12_look.1 M_X12_look.2.1 M_X12_look.2.2.1 M_X12_look.2.2.2 ∈ WL := wl_of (List.mem_append_right _ (in_t6 (List.mem_of_getElem? (i := 131) rfl))) rfl
theorem w_686 : Cond.instanceMethod yX12_look ∈ WL := wl_of (List.mem_append_right _ (in_t6 (List.mem_of_getElem? (i := 130) rfl))) rfl
theorem w_687 : Cond.selects yX12_look.cls yX12_look yX12_look ∈ WL := wl_of (List.mem_append_left _ (List.mem_map.mpr ⟨(yX12_look, 51), List.mem_of_getElem? (i := 50) (by decide +kernel), rfl⟩)) rfl
theorem cv_X12_look : CalV M_X12_look 0 12 := ⟨w_686, w_687, w_674, w_685, by decide +kernel, by decide, ⟨TX12, 51, rfl⟩, ⟨_, _, rfl⟩⟩
theorem w_688 : Cond.methodLink RX12 130 yX12_look ∈ WL := wl_of (List.mem_append_right _ (in_t6 (List.mem_of_getElem? (i := 128) rfl))) rfl
theorem w_689 : Cond.code M_X12_bad.1 M_X12_bad.2.1 M_X12_bad.2.2.1 M_X12_bad.2.2.2 ∈ WL := wl_of (List.mem_append_right _ (in_t6 (List.mem_of_getElem? (i := 142) rfl))) rfl
theorem w_690 : Cond.instanceMethod yX12_bad ∈ WL := wl_of (List.mem_append_right _ (in_t6 (List.mem_of_getElem? (i := 141) rfl))) rfl
theorem w_691 : Cond.selects yX12_bad.cls yX12_bad yX12_bad ∈ WL := wl_of (List.mem_append_left _ (List.mem_map.mpr ⟨(yX12_bad, 51), List.mem_of_getElem? (i := 52) (by decide +kernel), rfl⟩)) rfl
theorem cv_X12_bad : CalV M_X12_bad 0 12 := ⟨w_690, w_691, w_674, w_689, by decide +kernel, by decide, ⟨TX12, 51, rfl⟩, ⟨_, _, rfl⟩⟩
theorem w_692 : Cond.methodLink RX12 127 yX12_bad ∈ WL := wl_of (List.mem_append_right _ (in_t6 (List.mem_of_getElem? (i := 139) rfl))) rfl
theorem w_693 : Cond.code M_X12_atEnd.1 M_X12_atEnd.2.1 M_X12_atEnd.2.2.1 M_X12_atEnd.2.2.2 ∈ WL := wl_of (List.mem_append_right _ (in_t6 (List.mem_of_getElem? (i := 149) rfl))) rfl
theorem w_694 : Cond.instanceMethod yX12_atEnd ∈ WL := wl_of (List.mem_append_right _ (in_t6 (List.mem_of_getElem? (i := 148) rfl))) rfl
theorem w_695 : Cond.selects yX12_atEnd.cls yX12_atEnd yX12_atEnd ∈ WL := wl_of (List.mem_append_left _ (List.mem_map.mpr ⟨(yX12_atEnd, 51), List.mem_of_getElem? (i := 53) (by decide +kernel), rfl⟩)) rfl
theorem cv_X12_atEnd : CalV M_X12_atEnd 0 12 := ⟨w_694, w_695, w_674, w_693, by decide +kernel, by decide, ⟨TX12, 51, rfl⟩, ⟨_, _, rfl⟩⟩
theorem w_696 : Cond.methodLink RX12 188 yX12_atEnd ∈ WL := wl_of (List.mem_append_right _ (in_t6 (List.mem_of_getElem? (i := 146) rfl))) rfl
theorem w_697 : Cond.fieldLink RX12 46 "PulsePartsModel" "restAt" "[I" ∈ WL := wl_of (List.mem_append_right _ (in_t5 (List.mem_of_getElem? (i := 210) rfl))) rfl
theorem w_698 : Cond.code M_X12_isDigit.1 M_X12_isDigit.2.1 M_X12_isDigit.2.2.1 M_X12_isDigit.2.2.2 ∈ WL := wl_of (List.mem_append_right _ (in_t6 (List.mem_of_getElem? (i := 196) rfl))) rfl
theorem w_699 : Cond.static yX12_isDigit ∈ WL := wl_of (List.mem_append_right _ (in_t6 (List.mem_of_getElem? (i := 195) rfl))) rfl
theorem cv_X12_isDigit : CalS M_X12_isDigit 1 := ⟨w_699, w_674, w_698, by decide +kernel, by decide⟩
theorem w_700 : Cond.methodLink RX12 133 yX12_isDigit ∈ WL := wl_of (List.mem_append_right _ (in_t6 (List.mem_of_getElem? (i := 194) rfl))) rfl
theorem w_701 : Cond.code M_X12_number.1 M_X12_number.2.1 M_X12_number.2.2.1 M_X12_number.2.2.2 ∈ WL := wl_of (List.mem_append_right _ (in_t6 (List.mem_of_getElem? (i := 226) rfl))) rfl
theorem w_702 : Cond.instanceMethod yX12_number ∈ WL := wl_of (List.mem_append_right _ (in_t6 (List.mem_of_getElem? (i := 225) rfl))) rfl
theorem w_703 : Cond.selects yX12_number.cls yX12_number yX12_number ∈ WL := wl_of (List.mem_append_left _ (List.mem_map.mpr ⟨(yX12_number, 51), List.mem_of_getElem? (i := 70) (by decide +kernel), rfl⟩)) rfl
theorem cv_X12_number : CalV M_X12_number 0 12 := ⟨w_702, w_703, w_674, w_701, by decide +kernel, by decide, ⟨TX12, 51, rfl⟩, ⟨_, _, rfl⟩⟩
theorem w_704 : Cond.methodLink RX12 223 yX12_number ∈ WL := wl_of (List.mem_append_right _ (in_t6 (List.mem_of_getElem? (i := 223) rfl))) rfl
theorem w_705 : Cond.code M_X12_readRests.1 M_X12_readRests.2.1 M_X12_readRests.2.2.1 M_X12_readRests.2.2.2 ∈ WL := wl_of (List.mem_append_right _ (in_t6 (List.mem_of_getElem? (i := 222) rfl))) rfl
theorem w_706 : Cond.instanceMethod yX12_readRests ∈ WL := wl_of (List.mem_append_right _ (in_t6 (List.mem_of_getElem? (i := 221) rfl))) rfl
theorem w_707 : Cond.selects yX12_readRests.cls yX12_readRests yX12_readRests ∈ WL := wl_of (List.mem_append_left _ (List.mem_map.mpr ⟨(yX12_readRests, 51), List.mem_of_getElem? (i := 69) (by decide +kernel), rfl⟩)) rfl
theorem cv_X12_readRests : CalV M_X12_readRests 1 12 := ⟨w_706, w_707, w_674, w_705, by decide +kernel, by decide, ⟨TX12, 51, rfl⟩, ⟨_, _, rfl⟩⟩
theorem w_708 : Cond.methodLink RX12 232 yX12_readRests ∈ WL := wl_of (List.mem_append_right _ (in_t6 (List.mem_of_getElem? (i := 219) rfl))) rfl
theorem w_709 : Cond.fieldLink RX12 121 "PulsePartsModel" "text" "I" ∈ WL := wl_of (List.mem_append_right _ (in_t5 (List.mem_of_getElem? (i := 205) rfl))) rfl
theorem w_710 : Cond.fieldLink RX12 124 "PulsePartsModel" "deep" "I" ∈ WL := wl_of (List.mem_append_right _ (in_t5 (List.mem_of_getElem? (i := 196) rfl))) rfl
theorem w_711 : Cond.fieldLink RX12 19 "PulsePartsModel" "codes" "[I" ∈ WL := wl_of (List.mem_append_right _ (in_t5 (List.mem_of_getElem? (i := 199) rfl))) rfl
theorem w_712 : Cond.fieldLink RX12 22 "PulsePartsModel" "clauses" "[I" ∈ WL := wl_of (List.mem_append_right _ (in_t5 (List.mem_of_getElem? (i := 200) rfl))) rfl
theorem w_713 : Cond.code M_X12_open.1 M_X12_open.2.1 M_X12_open.2.2.1 M_X12_open.2.2.2 ∈ WL := wl_of (List.mem_append_right _ (in_t6 (List.mem_of_getElem? (i := 157) rfl))) rfl
theorem w_714 : Cond.instanceMethod yX12_open ∈ WL := wl_of (List.mem_append_right _ (in_t6 (List.mem_of_getElem? (i := 156) rfl))) rfl
theorem w_715 : Cond.selects yX12_open.cls yX12_open yX12_open ∈ WL := wl_of (List.mem_append_left _ (List.mem_map.mpr ⟨(yX12_open, 51), List.mem_of_getElem? (i := 55) (by decide +kernel), rfl⟩)) rfl
theorem cv_X12_open : CalV M_X12_open 1 12 := ⟨w_714, w_715, w_674, w_713, by decide +kernel, by decide, ⟨TX12, 51, rfl⟩, ⟨_, _, rfl⟩⟩
theorem w_716 : Cond.methodLink RX12 182 yX12_open ∈ WL := wl_of (List.mem_append_right _ (in_t6 (List.mem_of_getElem? (i := 154) rfl))) rfl
theorem w_717 : Cond.fieldLink RX12 25 "PulsePartsModel" "testFrom" "[I" ∈ WL := wl_of (List.mem_append_right _ (in_t5 (List.mem_of_getElem? (i := 201) rfl))) rfl
theorem w_718 : Cond.code M_X12_letterOf.1 M_X12_letterOf.2.1 M_X12_letterOf.2.2.1 M_X12_letterOf.2.2.2 ∈ WL := wl_of (List.mem_append_right _ (in_t6 (List.mem_of_getElem? (i := 203) rfl))) rfl
theorem w_719 : Cond.static yX12_letterOf ∈ WL := wl_of (List.mem_append_right _ (in_t6 (List.mem_of_getElem? (i := 202) rfl))) rfl
theorem cv_X12_letterOf : CalS M_X12_letterOf 1 := ⟨w_719, w_674, w_718, by decide +kernel, by decide⟩
theorem w_720 : Cond.methodLink RX12 144 yX12_letterOf ∈ WL := wl_of (List.mem_append_right _ (in_t6 (List.mem_of_getElem? (i := 201) rfl))) rfl
theorem w_721 : Cond.code M_X12_opens.1 M_X12_opens.2.1 M_X12_opens.2.2.1 M_X12_opens.2.2.2 ∈ WL := wl_of (List.mem_append_right _ (in_t6 (List.mem_of_getElem? (i := 173) rfl))) rfl
theorem w_722 : Cond.instanceMethod yX12_opens ∈ WL := wl_of (List.mem_append_right _ (in_t6 (List.mem_of_getElem? (i := 172) rfl))) rfl
theorem w_723 : Cond.selects yX12_opens.cls yX12_opens yX12_opens ∈ WL := wl_of (List.mem_append_left _ (List.mem_map.mpr ⟨(yX12_opens, 51), List.mem_of_getElem? (i := 59) (by decide +kernel), rfl⟩)) rfl
theorem cv_X12_opens : CalV M_X12_opens 0 12 := ⟨w_722, w_723, w_674, w_721, by decide +kernel, by decide, ⟨TX12, 51, rfl⟩, ⟨_, _, rfl⟩⟩
theorem w_724 : Cond.methodLink RX12 148 yX12_opens ∈ WL := wl_of (List.mem_append_right _ (in_t6 (List.mem_of_getElem? (i := 170) rfl))) rfl
theorem w_725 : Cond.code M_X12_sum.1 M_X12_sum.2.1 M_X12_sum.2.2.1 M_X12_sum.2.2.2 ∈ WL := wl_of (List.mem_append_right _ (in_t6 (List.mem_of_getElem? (i := 185) rfl))) rfl
theorem w_726 : Cond.instanceMethod yX12_sum ∈ WL := wl_of (List.mem_append_right _ (in_t6 (List.mem_of_getElem? (i := 184) rfl))) rfl
theorem w_727 : Cond.selects yX12_sum.cls yX12_sum yX12_sum ∈ WL := wl_of (List.mem_append_left _ (List.mem_map.mpr ⟨(yX12_sum, 51), List.mem_of_getElem? (i := 62) (by decide +kernel), rfl⟩)) rfl
theorem cv_X12_sum : CalV M_X12_sum 0 12 := ⟨w_726, w_727, w_674, w_725, by decide +kernel, by decide, ⟨TX12, 51, rfl⟩, ⟨_, _, rfl⟩⟩
theorem w_728 : Cond.methodLink RX12 151 yX12_sum ∈ WL := wl_of (List.mem_append_right _ (in_t6 (List.mem_of_getElem? (i := 182) rfl))) rfl
theorem w_729 : Cond.code M_X12_closes.1 M_X12_closes.2.1 M_X12_closes.2.2.1 M_X12_closes.2.2.2 ∈ WL := wl_of (List.mem_append_right _ (in_t6 (List.mem_of_getElem? (i := 181) rfl))) rfl
theorem w_730 : Cond.instanceMethod yX12_closes ∈ WL := wl_of (List.mem_append_right _ (in_t6 (List.mem_of_getElem? (i := 180) rfl))) rfl
theorem w_731 : Cond.selects yX12_closes.cls yX12_closes yX12_closes ∈ WL := wl_of (List.mem_append_left _ (List.mem_map.mpr ⟨(yX12_closes, 51), List.mem_of_getElem? (i := 61) (by decide +kernel), rfl⟩)) rfl
theorem cv_X12_closes : CalV M_X12_closes 1 12 := ⟨w_730, w_731, w_674, w_729, by decide +kernel, by decide, ⟨TX12, 51, rfl⟩, ⟨_, _, rfl⟩⟩
theorem w_732 : Cond.methodLink RX12 154 yX12_closes ∈ WL := wl_of (List.mem_append_right _ (in_t6 (List.mem_of_getElem? (i := 178) rfl))) rfl
theorem w_733 : Cond.fieldLink RX12 13 "PulsePartsModel" "code" "[I" ∈ WL := wl_of (List.mem_append_right _ (in_t5 (List.mem_of_getElem? (i := 197) rfl))) rfl
theorem w_734 : Cond.fieldLink RX12 16 "PulsePartsModel" "value" "[I" ∈ WL := wl_of (List.mem_append_right _ (in_t5 (List.mem_of_getElem? (i := 198) rfl))) rfl
theorem w_735 : Cond.code M_X12_put.1 M_X12_put.2.1 M_X12_put.2.2.1 M_X12_put.2.2.2 ∈ WL := wl_of (List.mem_append_right _ (in_t6 (List.mem_of_getElem? (i := 177) rfl))) rfl
theorem w_736 : Cond.instanceMethod yX12_put ∈ WL := wl_of (List.mem_append_right _ (in_t6 (List.mem_of_getElem? (i := 176) rfl))) rfl
theorem w_737 : Cond.selects yX12_put.cls yX12_put yX12_put ∈ WL := wl_of (List.mem_append_left _ (List.mem_map.mpr ⟨(yX12_put, 51), List.mem_of_getElem? (i := 60) (by decide +kernel), rfl⟩)) rfl
theorem cv_X12_put : CalV M_X12_put 2 12 := ⟨w_736, w_737, w_674, w_735, by decide +kernel, by decide, ⟨TX12, 51, rfl⟩, ⟨_, _, rfl⟩⟩
theorem w_738 : Cond.methodLink RX12 140 yX12_put ∈ WL := wl_of (List.mem_append_right _ (in_t6 (List.mem_of_getElem? (i := 174) rfl))) rfl
theorem w_739 : Cond.code M_X12_plainNumber.1 M_X12_plainNumber.2.1 M_X12_plainNumber.2.2.1 M_X12_plainNumber.2.2.2 ∈ WL := wl_of (List.mem_append_right _ (in_t6 (List.mem_of_getElem? (i := 200) rfl))) rfl
theorem w_740 : Cond.instanceMethod yX12_plainNumber ∈ WL := wl_of (List.mem_append_right _ (in_t6 (List.mem_of_getElem? (i := 199) rfl))) rfl
theorem w_741 : Cond.selects yX12_plainNumber.cls yX12_plainNumber yX12_plainNumber ∈ WL := wl_of (List.mem_append_left _ (List.mem_map.mpr ⟨(yX12_plainNumber, 51), List.mem_of_getElem? (i := 65) (by decide +kernel), rfl⟩)) rfl
theorem cv_X12_plainNumber : CalV M_X12_plainNumber 0 12 := ⟨w_740, w_741, w_674, w_739, by decide +kernel, by decide, ⟨TX12, 51, rfl⟩, ⟨_, _, rfl⟩⟩
theorem w_742 : Cond.methodLink RX12 137 yX12_plainNumber ∈ WL := wl_of (List.mem_append_right _ (in_t6 (List.mem_of_getElem? (i := 197) rfl))) rfl
theorem w_743 : Cond.code M_X12_term.1 M_X12_term.2.1 M_X12_term.2.2.1 M_X12_term.2.2.2 ∈ WL := wl_of (List.mem_append_right _ (in_t6 (List.mem_of_getElem? (i := 189) rfl))) rfl
theorem w_744 : Cond.instanceMethod yX12_term ∈ WL := wl_of (List.mem_append_right _ (in_t6 (List.mem_of_getElem? (i := 188) rfl))) rfl
theorem w_745 : Cond.selects yX12_term.cls yX12_term yX12_term ∈ WL := wl_of (List.mem_append_left _ (List.mem_map.mpr ⟨(yX12_term, 51), List.mem_of_getElem? (i := 63) (by decide +kernel), rfl⟩)) rfl
theorem cv_X12_term : CalV M_X12_term 0 12 := ⟨w_744, w_745, w_674, w_743, by decide +kernel, by decide, ⟨TX12, 51, rfl⟩, ⟨_, _, rfl⟩⟩
theorem w_746 : Cond.methodLink RX12 161 yX12_term ∈ WL := wl_of (List.mem_append_right _ (in_t6 (List.mem_of_getElem? (i := 186) rfl))) rfl
theorem w_747 : Cond.code M_X12_atom.1 M_X12_atom.2.1 M_X12_atom.2.2.1 M_X12_atom.2.2.2 ∈ WL := wl_of (List.mem_append_right _ (in_t6 (List.mem_of_getElem? (i := 193) rfl))) rfl
theorem w_748 : Cond.instanceMethod yX12_atom ∈ WL := wl_of (List.mem_append_right _ (in_t6 (List.mem_of_getElem? (i := 192) rfl))) rfl
theorem w_749 : Cond.selects yX12_atom.cls yX12_atom yX12_atom ∈ WL := wl_of (List.mem_append_left _ (List.mem_map.mpr ⟨(yX12_atom, 51), List.mem_of_getElem? (i := 64) (by decide +kernel), rfl⟩)) rfl
theorem cv_X12_atom : CalV M_X12_atom 0 12 := ⟨w_748, w_749, w_674, w_747, by decide +kernel, by decide, ⟨TX12, 51, rfl⟩, ⟨_, _, rfl⟩⟩
theorem w_750 : Cond.methodLink RX12 158 yX12_atom ∈ WL := wl_of (List.mem_append_right _ (in_t6 (List.mem_of_getElem? (i := 190) rfl))) rfl
theorem w_751 : Cond.fieldLink RX12 28 "PulsePartsModel" "sumFrom" "[I" ∈ WL := wl_of (List.mem_append_right _ (in_t5 (List.mem_of_getElem? (i := 202) rfl))) rfl
theorem w_752 : Cond.fieldLink RX12 31 "PulsePartsModel" "sumTo" "[I" ∈ WL := wl_of (List.mem_append_right _ (in_t5 (List.mem_of_getElem? (i := 203) rfl))) rfl
theorem w_753 : Cond.code M_X12_isSign.1 M_X12_isSign.2.1 M_X12_isSign.2.2.1 M_X12_isSign.2.2.2 ∈ WL := wl_of (List.mem_append_right _ (in_t6 (List.mem_of_getElem? (i := 210) rfl))) rfl
theorem w_754 : Cond.static yX12_isSign ∈ WL := wl_of (List.mem_append_right _ (in_t6 (List.mem_of_getElem? (i := 209) rfl))) rfl
theorem cv_X12_isSign : CalS M_X12_isSign 1 := ⟨w_754, w_674, w_753, by decide +kernel, by decide⟩
theorem w_755 : Cond.methodLink RX12 164 yX12_isSign ∈ WL := wl_of (List.mem_append_right _ (in_t6 (List.mem_of_getElem? (i := 208) rfl))) rfl
theorem w_756 : Cond.code M_X12_compare.1 M_X12_compare.2.1 M_X12_compare.2.2.1 M_X12_compare.2.2.2 ∈ WL := wl_of (List.mem_append_right _ (in_t6 (List.mem_of_getElem? (i := 207) rfl))) rfl
theorem w_757 : Cond.instanceMethod yX12_compare ∈ WL := wl_of (List.mem_append_right _ (in_t6 (List.mem_of_getElem? (i := 206) rfl))) rfl
theorem w_758 : Cond.selects yX12_compare.cls yX12_compare yX12_compare ∈ WL := wl_of (List.mem_append_left _ (List.mem_map.mpr ⟨(yX12_compare, 51), List.mem_of_getElem? (i := 66) (by decide +kernel), rfl⟩)) rfl
theorem cv_X12_compare : CalV M_X12_compare 0 12 := ⟨w_757, w_758, w_674, w_756, by decide +kernel, by decide, ⟨TX12, 51, rfl⟩, ⟨_, _, rfl⟩⟩
theorem w_759 : Cond.methodLink RX12 173 yX12_compare ∈ WL := wl_of (List.mem_append_right _ (in_t6 (List.mem_of_getElem? (i := 204) rfl))) rfl
theorem w_760 : Cond.code M_X12_unit.1 M_X12_unit.2.1 M_X12_unit.2.2.1 M_X12_unit.2.2.2 ∈ WL := wl_of (List.mem_append_right _ (in_t6 (List.mem_of_getElem? (i := 169) rfl))) rfl
theorem w_761 : Cond.instanceMethod yX12_unit ∈ WL := wl_of (List.mem_append_right _ (in_t6 (List.mem_of_getElem? (i := 168) rfl))) rfl
theorem w_762 : Cond.selects yX12_unit.cls yX12_unit yX12_unit ∈ WL := wl_of (List.mem_append_left _ (List.mem_map.mpr ⟨(yX12_unit, 51), List.mem_of_getElem? (i := 58) (by decide +kernel), rfl⟩)) rfl
theorem cv_X12_unit : CalV M_X12_unit 0 12 := ⟨w_761, w_762, w_674, w_760, by decide +kernel, by decide, ⟨TX12, 51, rfl⟩, ⟨_, _, rfl⟩⟩
theorem w_763 : Cond.methodLink RX12 167 yX12_unit ∈ WL := wl_of (List.mem_append_right _ (in_t6 (List.mem_of_getElem? (i := 166) rfl))) rfl
theorem w_764 : Cond.code M_X12_goOnAnd.1 M_X12_goOnAnd.2.1 M_X12_goOnAnd.2.2.1 M_X12_goOnAnd.2.2.2 ∈ WL := wl_of (List.mem_append_right _ (in_t6 (List.mem_of_getElem? (i := 214) rfl))) rfl
theorem w_765 : Cond.instanceMethod yX12_goOnAnd ∈ WL := wl_of (List.mem_append_right _ (in_t6 (List.mem_of_getElem? (i := 213) rfl))) rfl
theorem w_766 : Cond.selects yX12_goOnAnd.cls yX12_goOnAnd yX12_goOnAnd ∈ WL := wl_of (List.mem_append_left _ (List.mem_map.mpr ⟨(yX12_goOnAnd, 51), List.mem_of_getElem? (i := 67) (by decide +kernel), rfl⟩)) rfl
theorem cv_X12_goOnAnd : CalV M_X12_goOnAnd 0 12 := ⟨w_765, w_766, w_674, w_764, by decide +kernel, by decide, ⟨TX12, 51, rfl⟩, ⟨_, _, rfl⟩⟩
theorem w_767 : Cond.methodLink RX12 176 yX12_goOnAnd ∈ WL := wl_of (List.mem_append_right _ (in_t6 (List.mem_of_getElem? (i := 211) rfl))) rfl
theorem w_768 : Cond.code M_X12_goOnOr.1 M_X12_goOnOr.2.1 M_X12_goOnOr.2.2.1 M_X12_goOnOr.2.2.2 ∈ WL := wl_of (List.mem_append_right _ (in_t6 (List.mem_of_getElem? (i := 218) rfl))) rfl
theorem w_769 : Cond.instanceMethod yX12_goOnOr ∈ WL := wl_of (List.mem_append_right _ (in_t6 (List.mem_of_getElem? (i := 217) rfl))) rfl
theorem w_770 : Cond.selects yX12_goOnOr.cls yX12_goOnOr yX12_goOnOr ∈ WL := wl_of (List.mem_append_left _ (List.mem_map.mpr ⟨(yX12_goOnOr, 51), List.mem_of_getElem? (i := 68) (by decide +kernel), rfl⟩)) rfl
theorem cv_X12_goOnOr : CalV M_X12_goOnOr 0 12 := ⟨w_769, w_770, w_674, w_768, by decide +kernel, by decide, ⟨TX12, 51, rfl⟩, ⟨_, _, rfl⟩⟩
theorem w_771 : Cond.methodLink RX12 179 yX12_goOnOr ∈ WL := wl_of (List.mem_append_right _ (in_t6 (List.mem_of_getElem? (i := 215) rfl))) rfl
theorem w_772 : Cond.code M_X12_condition.1 M_X12_condition.2.1 M_X12_condition.2.2.1 M_X12_condition.2.2.2 ∈ WL := wl_of (List.mem_append_right _ (in_t6 (List.mem_of_getElem? (i := 165) rfl))) rfl
theorem w_773 : Cond.instanceMethod yX12_condition ∈ WL := wl_of (List.mem_append_right _ (in_t6 (List.mem_of_getElem? (i := 164) rfl))) rfl
theorem w_774 : Cond.selects yX12_condition.cls yX12_condition yX12_condition ∈ WL := wl_of (List.mem_append_left _ (List.mem_map.mpr ⟨(yX12_condition, 51), List.mem_of_getElem? (i := 57) (by decide +kernel), rfl⟩)) rfl
theorem cv_X12_condition : CalV M_X12_condition 0 12 := ⟨w_773, w_774, w_674, w_772, by decide +kernel, by decide, ⟨TX12, 51, rfl⟩, ⟨_, _, rfl⟩⟩
theorem w_775 : Cond.methodLink RX12 170 yX12_condition ∈ WL := wl_of (List.mem_append_right _ (in_t6 (List.mem_of_getElem? (i := 162) rfl))) rfl
theorem w_776 : Cond.code M_X12_clause.1 M_X12_clause.2.1 M_X12_clause.2.2.1 M_X12_clause.2.2.2 ∈ WL := wl_of (List.mem_append_right _ (in_t6 (List.mem_of_getElem? (i := 161) rfl))) rfl
theorem w_777 : Cond.instanceMethod yX12_clause ∈ WL := wl_of (List.mem_append_right _ (in_t6 (List.mem_of_getElem? (i := 160) rfl))) rfl
theorem w_778 : Cond.selects yX12_clause.cls yX12_clause yX12_clause ∈ WL := wl_of (List.mem_append_left _ (List.mem_map.mpr ⟨(yX12_clause, 51), List.mem_of_getElem? (i := 56) (by decide +kernel), rfl⟩)) rfl
theorem cv_X12_clause : CalV M_X12_clause 0 12 := ⟨w_777, w_778, w_674, w_776, by decide +kernel, by decide, ⟨TX12, 51, rfl⟩, ⟨_, _, rfl⟩⟩
theorem w_779 : Cond.methodLink RX12 185 yX12_clause ∈ WL := wl_of (List.mem_append_right _ (in_t6 (List.mem_of_getElem? (i := 158) rfl))) rfl
theorem w_780 : Cond.code M_X12_readLaw.1 M_X12_readLaw.2.1 M_X12_readLaw.2.2.1 M_X12_readLaw.2.2.2 ∈ WL := wl_of (List.mem_append_right _ (in_t6 (List.mem_of_getElem? (i := 153) rfl))) rfl
theorem w_781 : Cond.instanceMethod yX12_readLaw ∈ WL := wl_of (List.mem_append_right _ (in_t6 (List.mem_of_getElem? (i := 152) rfl))) rfl
theorem w_782 : Cond.selects yX12_readLaw.cls yX12_readLaw yX12_readLaw ∈ WL := wl_of (List.mem_append_left _ (List.mem_map.mpr ⟨(yX12_readLaw, 51), List.mem_of_getElem? (i := 54) (by decide +kernel), rfl⟩)) rfl
theorem cv_X12_readLaw : CalV M_X12_readLaw 1 12 := ⟨w_781, w_782, w_674, w_780, by decide +kernel, by decide, ⟨TX12, 51, rfl⟩, ⟨_, _, rfl⟩⟩
theorem w_783 : Cond.methodLink RX12 229 yX12_readLaw ∈ WL := wl_of (List.mem_append_right _ (in_t6 (List.mem_of_getElem? (i := 150) rfl))) rfl
theorem w_784 : Cond.fieldLink RX12 43 "PulsePartsModel" "lengths" "[I" ∈ WL := wl_of (List.mem_append_right _ (in_t5 (List.mem_of_getElem? (i := 209) rfl))) rfl
theorem w_785 : Cond.code M_X12_turnOf.1 M_X12_turnOf.2.1 M_X12_turnOf.2.2.1 M_X12_turnOf.2.2.2 ∈ WL := wl_of (List.mem_append_right _ (in_t6 (List.mem_of_getElem? (i := 138) rfl))) rfl
theorem w_786 : Cond.static yX12_turnOf ∈ WL := wl_of (List.mem_append_right _ (in_t6 (List.mem_of_getElem? (i := 137) rfl))) rfl
theorem cv_X12_turnOf : CalS M_X12_turnOf 1 := ⟨w_786, w_674, w_785, by decide +kernel, by decide⟩
theorem w_787 : Cond.methodLink RX12 216 yX12_turnOf ∈ WL := wl_of (List.mem_append_right _ (in_t6 (List.mem_of_getElem? (i := 136) rfl))) rfl
theorem w_788 : Cond.code M_X12_in.1 M_X12_in.2.1 M_X12_in.2.2.1 M_X12_in.2.2.2 ∈ WL := wl_of (List.mem_append_right _ (in_t6 (List.mem_of_getElem? (i := 145) rfl))) rfl
theorem w_789 : Cond.static yX12_in ∈ WL := wl_of (List.mem_append_right _ (in_t6 (List.mem_of_getElem? (i := 144) rfl))) rfl
theorem cv_X12_in : CalS M_X12_in 3 := ⟨w_789, w_674, w_788, by decide +kernel, by decide⟩
theorem w_790 : Cond.methodLink RX12 219 yX12_in ∈ WL := wl_of (List.mem_append_right _ (in_t6 (List.mem_of_getElem? (i := 143) rfl))) rfl
theorem w_791 : Cond.fieldLink RX12 40 "PulsePartsModel" "signs" "[I" ∈ WL := wl_of (List.mem_append_right _ (in_t5 (List.mem_of_getElem? (i := 208) rfl))) rfl
theorem w_792 : Cond.code M_X12_readCode.1 M_X12_readCode.2.1 M_X12_readCode.2.2.1 M_X12_readCode.2.2.2 ∈ WL := wl_of (List.mem_append_right _ (in_t6 (List.mem_of_getElem? (i := 127) rfl))) rfl
theorem w_793 : Cond.instanceMethod yX12_readCode ∈ WL := wl_of (List.mem_append_right _ (in_t6 (List.mem_of_getElem? (i := 126) rfl))) rfl
theorem w_794 : Cond.selects yX12_readCode.cls yX12_readCode yX12_readCode ∈ WL := wl_of (List.mem_append_left _ (List.mem_map.mpr ⟨(yX12_readCode, 51), List.mem_of_getElem? (i := 49) (by decide +kernel), rfl⟩)) rfl
theorem cv_X12_readCode : CalV M_X12_readCode 1 12 := ⟨w_793, w_794, w_674, w_792, by decide +kernel, by decide, ⟨TX12, 51, rfl⟩, ⟨_, _, rfl⟩⟩
theorem w_795 : Cond.methodLink RX12 226 yX12_readCode ∈ WL := wl_of (List.mem_append_right _ (in_t6 (List.mem_of_getElem? (i := 124) rfl))) rfl
theorem w_796 : Cond.fieldLink RX12 241 "PulsePartsModel" "sets" "I" ∈ WL := wl_of (List.mem_append_right _ (in_t5 (List.mem_of_getElem? (i := 213) rfl))) rfl
theorem w_797 : Cond.fieldLink RX12 238 "PulsePartsModel" "laws" "I" ∈ WL := wl_of (List.mem_append_right _ (in_t5 (List.mem_of_getElem? (i := 204) rfl))) rfl
theorem w_798 : Cond.fieldLink RX12 235 "PulsePartsModel" "codeMany" "I" ∈ WL := wl_of (List.mem_append_right _ (in_t5 (List.mem_of_getElem? (i := 212) rfl))) rfl
theorem w_799 : Cond.code M_X12_isCode.1 M_X12_isCode.2.1 M_X12_isCode.2.2.1 M_X12_isCode.2.2.2 ∈ WL := wl_of (List.mem_append_right _ (in_t6 (List.mem_of_getElem? (i := 238) rfl))) rfl
theorem w_800 : Cond.instanceMethod yX12_isCode ∈ WL := wl_of (List.mem_append_right _ (in_t6 (List.mem_of_getElem? (i := 237) rfl))) rfl
theorem w_801 : Cond.selects yX12_isCode.cls yX12_isCode yX12_isCode ∈ WL := wl_of (List.mem_append_left _ (List.mem_map.mpr ⟨(yX12_isCode, 51), List.mem_of_getElem? (i := 71) (by decide +kernel), rfl⟩)) rfl
theorem cv_X12_isCode : CalV M_X12_isCode 1 12 := ⟨w_800, w_801, w_674, w_799, by decide +kernel, by decide, ⟨TX12, 51, rfl⟩, ⟨_, _, rfl⟩⟩
theorem w_802 : Cond.methodLink RX12 244 yX12_isCode ∈ WL := wl_of (List.mem_append_right _ (in_t6 (List.mem_of_getElem? (i := 235) rfl))) rfl
theorem w_803 : Cond.code M_X12_isSet.1 M_X12_isSet.2.1 M_X12_isSet.2.2.1 M_X12_isSet.2.2.2 ∈ WL := wl_of (List.mem_append_right _ (in_t7 (List.mem_of_getElem? (i := 6) rfl))) rfl
theorem w_804 : Cond.instanceMethod yX12_isSet ∈ WL := wl_of (List.mem_append_right _ (in_t7 (List.mem_of_getElem? (i := 5) rfl))) rfl
theorem w_805 : Cond.selects yX12_isSet.cls yX12_isSet yX12_isSet ∈ WL := wl_of (List.mem_append_left _ (List.mem_map.mpr ⟨(yX12_isSet, 51), List.mem_of_getElem? (i := 72) (by decide +kernel), rfl⟩)) rfl
theorem cv_X12_isSet : CalV M_X12_isSet 1 12 := ⟨w_804, w_805, w_674, w_803, by decide +kernel, by decide, ⟨TX12, 51, rfl⟩, ⟨_, _, rfl⟩⟩
theorem w_806 : Cond.methodLink RX12 247 yX12_isSet ∈ WL := wl_of (List.mem_append_right _ (in_t7 (List.mem_of_getElem? (i := 3) rfl))) rfl
theorem w_807 : Cond.constant RX12 268 (-1000000) ∈ WL := wl_of (List.mem_append_right _ (in_t7 (List.mem_of_getElem? (i := 42) rfl))) rfl
theorem w_808 : Cond.code M_X12_isLaw.1 M_X12_isLaw.2.1 M_X12_isLaw.2.2.1 M_X12_isLaw.2.2.2 ∈ WL := wl_of (List.mem_append_right _ (in_t7 (List.mem_of_getElem? (i := 14) rfl))) rfl
theorem w_809 : Cond.instanceMethod yX12_isLaw ∈ WL := wl_of (List.mem_append_right _ (in_t7 (List.mem_of_getElem? (i := 13) rfl))) rfl
theorem w_810 : Cond.selects yX12_isLaw.cls yX12_isLaw yX12_isLaw ∈ WL := wl_of (List.mem_append_left _ (List.mem_map.mpr ⟨(yX12_isLaw, 51), List.mem_of_getElem? (i := 73) (by decide +kernel), rfl⟩)) rfl
theorem cv_X12_isLaw : CalV M_X12_isLaw 1 12 := ⟨w_809, w_810, w_674, w_808, by decide +kernel, by decide, ⟨TX12, 51, rfl⟩, ⟨_, _, rfl⟩⟩
theorem w_811 : Cond.methodLink RX12 262 yX12_isLaw ∈ WL := wl_of (List.mem_append_right _ (in_t7 (List.mem_of_getElem? (i := 11) rfl))) rfl
theorem w_812 : Cond.fieldLink RX12 34 "PulsePartsModel" "letters" "[I" ∈ WL := wl_of (List.mem_append_right _ (in_t5 (List.mem_of_getElem? (i := 206) rfl))) rfl
theorem w_813 : Cond.code M_X12_partOf.1 M_X12_partOf.2.1 M_X12_partOf.2.2.1 M_X12_partOf.2.2.2 ∈ WL := wl_of (List.mem_append_right _ (in_t7 (List.mem_of_getElem? (i := 21) rfl))) rfl
theorem w_814 : Cond.static yX12_partOf ∈ WL := wl_of (List.mem_append_right _ (in_t7 (List.mem_of_getElem? (i := 20) rfl))) rfl
theorem cv_X12_partOf : CalS M_X12_partOf 2 := ⟨w_814, w_674, w_813, by decide +kernel, by decide⟩
theorem w_815 : Cond.methodLink RX12 250 yX12_partOf ∈ WL := wl_of (List.mem_append_right _ (in_t7 (List.mem_of_getElem? (i := 19) rfl))) rfl
theorem w_816 : Cond.fieldLink RX12 37 "PulsePartsModel" "stack" "[I" ∈ WL := wl_of (List.mem_append_right _ (in_t5 (List.mem_of_getElem? (i := 207) rfl))) rfl
theorem w_817 : Cond.constantLong RX12 191 (-1000000) ∈ WL := wl_of (List.mem_append_right _ (in_t7 (List.mem_of_getElem? (i := 36) rfl))) rfl
theorem w_818 : Cond.constantLong RX12 193 (1000000) ∈ WL := wl_of (List.mem_append_right _ (in_t7 (List.mem_of_getElem? (i := 37) rfl))) rfl
theorem w_819 : Cond.methodLink RX12 195 Lib.MathLoose.min_long.x ∈ WL := wl_of (List.mem_append_right _ (in_t7 (List.mem_of_getElem? (i := 38) rfl))) rfl
theorem w_820 : Cond.methodLink RX12 201 Lib.MathLoose.max_long.x ∈ WL := wl_of (List.mem_append_right _ (in_t7 (List.mem_of_getElem? (i := 39) rfl))) rfl
theorem w_821 : Cond.code M_X12_bounded.1 M_X12_bounded.2.1 M_X12_bounded.2.2.1 M_X12_bounded.2.2.2 ∈ WL := wl_of (List.mem_append_right _ (in_t7 (List.mem_of_getElem? (i := 35) rfl))) rfl
theorem w_822 : Cond.static yX12_bounded ∈ WL := wl_of (List.mem_append_right _ (in_t7 (List.mem_of_getElem? (i := 34) rfl))) rfl
theorem cv_X12_bounded : CalS M_X12_bounded 1 := ⟨w_822, w_674, w_821, by decide +kernel, by decide⟩
theorem w_823 : Cond.methodLink RX12 204 yX12_bounded ∈ WL := wl_of (List.mem_append_right _ (in_t7 (List.mem_of_getElem? (i := 33) rfl))) rfl
theorem w_824 : Cond.code M_X12_worked.1 M_X12_worked.2.1 M_X12_worked.2.2.1 M_X12_worked.2.2.2 ∈ WL := wl_of (List.mem_append_right _ (in_t7 (List.mem_of_getElem? (i := 32) rfl))) rfl
theorem w_825 : Cond.static yX12_worked ∈ WL := wl_of (List.mem_append_right _ (in_t7 (List.mem_of_getElem? (i := 31) rfl))) rfl
theorem cv_X12_worked : CalS M_X12_worked 3 := ⟨w_825, w_674, w_824, by decide +kernel, by decide⟩
theorem w_826 : Cond.methodLink RX12 208 yX12_worked ∈ WL := wl_of (List.mem_append_right _ (in_t7 (List.mem_of_getElem? (i := 30) rfl))) rfl
theorem w_827 : Cond.code M_X12_workOut.1 M_X12_workOut.2.1 M_X12_workOut.2.2.1 M_X12_workOut.2.2.2 ∈ WL := wl_of (List.mem_append_right _ (in_t7 (List.mem_of_getElem? (i := 29) rfl))) rfl
theorem w_828 : Cond.instanceMethod yX12_workOut ∈ WL := wl_of (List.mem_append_right _ (in_t7 (List.mem_of_getElem? (i := 28) rfl))) rfl
theorem w_829 : Cond.selects yX12_workOut.cls yX12_workOut yX12_workOut ∈ WL := wl_of (List.mem_append_left _ (List.mem_map.mpr ⟨(yX12_workOut, 51), List.mem_of_getElem? (i := 76) (by decide +kernel), rfl⟩)) rfl
theorem cv_X12_workOut : CalV M_X12_workOut 3 12 := ⟨w_828, w_829, w_674, w_827, by decide +kernel, by decide, ⟨TX12, 51, rfl⟩, ⟨_, _, rfl⟩⟩
theorem w_830 : Cond.methodLink RX12 212 yX12_workOut ∈ WL := wl_of (List.mem_append_right _ (in_t7 (List.mem_of_getElem? (i := 26) rfl))) rfl
theorem w_831 : Cond.code M_X12_worthOf.1 M_X12_worthOf.2.1 M_X12_worthOf.2.2.1 M_X12_worthOf.2.2.2 ∈ WL := wl_of (List.mem_append_right _ (in_t7 (List.mem_of_getElem? (i := 25) rfl))) rfl
theorem w_832 : Cond.instanceMethod yX12_worthOf ∈ WL := wl_of (List.mem_append_right _ (in_t7 (List.mem_of_getElem? (i := 24) rfl))) rfl
theorem w_833 : Cond.selects yX12_worthOf.cls yX12_worthOf yX12_worthOf ∈ WL := wl_of (List.mem_append_left _ (List.mem_map.mpr ⟨(yX12_worthOf, 51), List.mem_of_getElem? (i := 75) (by decide +kernel), rfl⟩)) rfl
theorem cv_X12_worthOf : CalV M_X12_worthOf 1 12 := ⟨w_832, w_833, w_674, w_831, by decide +kernel, by decide, ⟨TX12, 51, rfl⟩, ⟨_, _, rfl⟩⟩
theorem w_834 : Cond.methodLink RX12 254 yX12_worthOf ∈ WL := wl_of (List.mem_append_right _ (in_t7 (List.mem_of_getElem? (i := 22) rfl))) rfl
theorem w_835 : Cond.methodLink RX12 257 Lib.Math.min.name ∈ WL := wl_of (List.mem_append_right _ (in_t7 (List.mem_of_getElem? (i := 40) rfl))) rfl
theorem w_836 : Cond.methodLink RX12 260 Lib.Math.max.name ∈ WL := wl_of (List.mem_append_right _ (in_t7 (List.mem_of_getElem? (i := 41) rfl))) rfl
theorem w_837 : Cond.code M_X12_weightOf.1 M_X12_weightOf.2.1 M_X12_weightOf.2.2.1 M_X12_weightOf.2.2.2 ∈ WL := wl_of (List.mem_append_right _ (in_t7 (List.mem_of_getElem? (i := 18) rfl))) rfl
theorem w_838 : Cond.instanceMethod yX12_weightOf ∈ WL := wl_of (List.mem_append_right _ (in_t7 (List.mem_of_getElem? (i := 17) rfl))) rfl
theorem w_839 : Cond.selects yX12_weightOf.cls yX12_weightOf yX12_weightOf ∈ WL := wl_of (List.mem_append_left _ (List.mem_map.mpr ⟨(yX12_weightOf, 51), List.mem_of_getElem? (i := 74) (by decide +kernel), rfl⟩)) rfl
theorem cv_X12_weightOf : CalV M_X12_weightOf 3 12 := ⟨w_838, w_839, w_674, w_837, by decide +kernel, by decide, ⟨TX12, 51, rfl⟩, ⟨_, _, rfl⟩⟩
theorem w_840 : Cond.methodLink RX12 265 yX12_weightOf ∈ WL := wl_of (List.mem_append_right _ (in_t7 (List.mem_of_getElem? (i := 15) rfl))) rfl
theorem w_841 : Cond.fieldLink RX12 52 "PulsePartsModel" "weights" "[I" ∈ WL := wl_of (List.mem_append_right _ (in_t5 (List.mem_of_getElem? (i := 214) rfl))) rfl
theorem w_842 : Cond.code M_X12_lay.1 M_X12_lay.2.1 M_X12_lay.2.2.1 M_X12_lay.2.2.2 ∈ WL := wl_of (List.mem_append_right _ (in_t7 (List.mem_of_getElem? (i := 50) rfl))) rfl
theorem w_843 : Cond.instanceMethod yX12_lay ∈ WL := wl_of (List.mem_append_right _ (in_t7 (List.mem_of_getElem? (i := 49) rfl))) rfl
theorem w_844 : Cond.selects yX12_lay.cls yX12_lay yX12_lay ∈ WL := wl_of (List.mem_append_left _ (List.mem_map.mpr ⟨(yX12_lay, 51), List.mem_of_getElem? (i := 77) (by decide +kernel), rfl⟩)) rfl
theorem cv_X12_lay : CalV M_X12_lay 2 12 := ⟨w_843, w_844, w_674, w_842, by decide +kernel, by decide, ⟨TX12, 51, rfl⟩, ⟨_, _, rfl⟩⟩
theorem w_845 : Cond.methodLink RX12 278 yX12_lay ∈ WL := wl_of (List.mem_append_right _ (in_t7 (List.mem_of_getElem? (i := 47) rfl))) rfl
theorem w_846 : Cond.fieldLink RX12 269 "PulsePartsModel" "real" "I" ∈ WL := wl_of (List.mem_append_right _ (in_t5 (List.mem_of_getElem? (i := 215) rfl))) rfl
theorem w_847 : Cond.fieldLink RX12 272 "PulsePartsModel" "other" "I" ∈ WL := wl_of (List.mem_append_right _ (in_t5 (List.mem_of_getElem? (i := 216) rfl))) rfl
theorem w_848 : Cond.fieldLink RX12 275 "PulsePartsModel" "power" "I" ∈ WL := wl_of (List.mem_append_right _ (in_t5 (List.mem_of_getElem? (i := 217) rfl))) rfl
theorem w_849 : Cond.code M_X12_sum_.1 M_X12_sum_.2.1 M_X12_sum_.2.2.1 M_X12_sum_.2.2.2 ∈ WL := wl_of (List.mem_append_right _ (in_t7 (List.mem_of_getElem? (i := 54) rfl))) rfl
theorem w_850 : Cond.instanceMethod yX12_sum_ ∈ WL := wl_of (List.mem_append_right _ (in_t7 (List.mem_of_getElem? (i := 53) rfl))) rfl
theorem w_851 : Cond.selects yX12_sum_.cls yX12_sum_ yX12_sum_ ∈ WL := wl_of (List.mem_append_left _ (List.mem_map.mpr ⟨(yX12_sum_, 51), List.mem_of_getElem? (i := 78) (by decide +kernel), rfl⟩)) rfl
theorem cv_X12_sum_ : CalV M_X12_sum_ 4 12 := ⟨w_850, w_851, w_674, w_849, by decide +kernel, by decide, ⟨TX12, 51, rfl⟩, ⟨_, _, rfl⟩⟩
theorem w_852 : Cond.methodLink RX12 281 yX12_sum_ ∈ WL := wl_of (List.mem_append_right _ (in_t7 (List.mem_of_getElem? (i := 51) rfl))) rfl
theorem w_853 : Cond.fieldLink RX12 284 "PulsePartsModel" "side" "I" ∈ WL := wl_of (List.mem_append_right _ (in_t5 (List.mem_of_getElem? (i := 219) rfl))) rfl
theorem w_854 : Cond.fieldLink RX12 287 "PulsePartsModel" "sides" "I" ∈ WL := wl_of (List.mem_append_right _ (in_t5 (List.mem_of_getElem? (i := 220) rfl))) rfl
theorem w_855 : Cond.fieldLink RX12 290 "PulsePartsModel" "leak" "I" ∈ WL := wl_of (List.mem_append_right _ (in_t5 (List.mem_of_getElem? (i := 221) rfl))) rfl
theorem w_856 : Cond.fieldLink RX12 293 "PulsePartsModel" "peak" "I" ∈ WL := wl_of (List.mem_append_right _ (in_t5 (List.mem_of_getElem? (i := 218) rfl))) rfl
theorem w_857 : Cond.fieldLink RX12 296 "PulsePartsModel" "loss" "I" ∈ WL := wl_of (List.mem_append_right _ (in_t5 (List.mem_of_getElem? (i := 222) rfl))) rfl
theorem w_858 : Cond.code M_X12_lobesOf.1 M_X12_lobesOf.2.1 M_X12_lobesOf.2.2.1 M_X12_lobesOf.2.2.2 ∈ WL := wl_of (List.mem_append_right _ (in_t7 (List.mem_of_getElem? (i := 62) rfl))) rfl
theorem w_859 : Cond.instanceMethod yX12_lobesOf ∈ WL := wl_of (List.mem_append_right _ (in_t7 (List.mem_of_getElem? (i := 61) rfl))) rfl
theorem w_860 : Cond.selects yX12_lobesOf.cls yX12_lobesOf yX12_lobesOf ∈ WL := wl_of (List.mem_append_left _ (List.mem_map.mpr ⟨(yX12_lobesOf, 51), List.mem_of_getElem? (i := 79) (by decide +kernel), rfl⟩)) rfl
theorem cv_X12_lobesOf : CalV M_X12_lobesOf 1 12 := ⟨w_859, w_860, w_674, w_858, by decide +kernel, by decide, ⟨TX12, 51, rfl⟩, ⟨_, _, rfl⟩⟩
theorem w_861 : Cond.methodLink RX12 299 yX12_lobesOf ∈ WL := wl_of (List.mem_append_right _ (in_t7 (List.mem_of_getElem? (i := 59) rfl))) rfl
theorem w_862 : Cond.code M_X12_hinderOf.1 M_X12_hinderOf.2.1 M_X12_hinderOf.2.2.1 M_X12_hinderOf.2.2.2 ∈ WL := wl_of (List.mem_append_right _ (in_t7 (List.mem_of_getElem? (i := 70) rfl))) rfl
theorem w_863 : Cond.instanceMethod yX12_hinderOf ∈ WL := wl_of (List.mem_append_right _ (in_t7 (List.mem_of_getElem? (i := 69) rfl))) rfl
theorem w_864 : Cond.selects yX12_hinderOf.cls yX12_hinderOf yX12_hinderOf ∈ WL := wl_of (List.mem_append_left _ (List.mem_map.mpr ⟨(yX12_hinderOf, 51), List.mem_of_getElem? (i := 80) (by decide +kernel), rfl⟩)) rfl
theorem cv_X12_hinderOf : CalV M_X12_hinderOf 2 12 := ⟨w_863, w_864, w_674, w_862, by decide +kernel, by decide, ⟨TX12, 51, rfl⟩, ⟨_, _, rfl⟩⟩
theorem w_865 : Cond.methodLink RX12 302 yX12_hinderOf ∈ WL := wl_of (List.mem_append_right _ (in_t7 (List.mem_of_getElem? (i := 67) rfl))) rfl
theorem w_866 : Cond.methodLink RX12 305 yJ6_bitCount_0f7a4 ∈ WL := wl_of (List.mem_append_right _ (in_t7 (List.mem_of_getElem? (i := 75) rfl))) rfl
theorem w_867 : Cond.code M_X12_has.1 M_X12_has.2.1 M_X12_has.2.2.1 M_X12_has.2.2.2 ∈ WL := wl_of (List.mem_append_right _ (in_t7 (List.mem_of_getElem? (i := 82) rfl))) rfl
theorem w_868 : Cond.static yX12_has ∈ WL := wl_of (List.mem_append_right _ (in_t7 (List.mem_of_getElem? (i := 81) rfl))) rfl
theorem cv_X12_has : CalS M_X12_has 2 := ⟨w_868, w_674, w_867, by decide +kernel, by decide⟩
theorem w_869 : Cond.methodLink RX12 314 yX12_has ∈ WL := wl_of (List.mem_append_right _ (in_t7 (List.mem_of_getElem? (i := 80) rfl))) rfl
theorem w_870 : Cond.code M_X12_areFriends.1 M_X12_areFriends.2.1 M_X12_areFriends.2.2.1 M_X12_areFriends.2.2.2 ∈ WL := wl_of (List.mem_append_right _ (in_t7 (List.mem_of_getElem? (i := 79) rfl))) rfl
theorem w_871 : Cond.instanceMethod yX12_areFriends ∈ WL := wl_of (List.mem_append_right _ (in_t7 (List.mem_of_getElem? (i := 78) rfl))) rfl
theorem w_872 : Cond.selects yX12_areFriends.cls yX12_areFriends yX12_areFriends ∈ WL := wl_of (List.mem_append_left _ (List.mem_map.mpr ⟨(yX12_areFriends, 51), List.mem_of_getElem? (i := 81) (by decide +kernel), rfl⟩)) rfl
theorem cv_X12_areFriends : CalV M_X12_areFriends 2 12 := ⟨w_871, w_872, w_674, w_870, by decide +kernel, by decide, ⟨TX12, 51, rfl⟩, ⟨_, _, rfl⟩⟩
theorem w_873 : Cond.methodLink RX12 310 yX12_areFriends ∈ WL := wl_of (List.mem_append_right _ (in_t7 (List.mem_of_getElem? (i := 76) rfl))) rfl
theorem w_874 : Cond.code M_X12_alikeAt.1 M_X12_alikeAt.2.1 M_X12_alikeAt.2.2.1 M_X12_alikeAt.2.2.2 ∈ WL := wl_of (List.mem_append_right _ (in_t7 (List.mem_of_getElem? (i := 89) rfl))) rfl
theorem w_875 : Cond.static yX12_alikeAt ∈ WL := wl_of (List.mem_append_right _ (in_t7 (List.mem_of_getElem? (i := 88) rfl))) rfl
theorem cv_X12_alikeAt : CalS M_X12_alikeAt 3 := ⟨w_875, w_674, w_874, by decide +kernel, by decide⟩
theorem w_876 : Cond.methodLink RX12 317 yX12_alikeAt ∈ WL := wl_of (List.mem_append_right _ (in_t7 (List.mem_of_getElem? (i := 87) rfl))) rfl
theorem w_877 : Cond.fieldLink RX12 55 "PulsePartsModel" "blind" "I" ∈ WL := wl_of (List.mem_append_right _ (in_t5 (List.mem_of_getElem? (i := 223) rfl))) rfl
theorem w_878 : Cond.fieldLink RX12 59 "PulsePartsModel" "need" "I" ∈ WL := wl_of (List.mem_append_right _ (in_t5 (List.mem_of_getElem? (i := 224) rfl))) rfl
theorem w_879 : Cond.fieldLink RX12 62 "PulsePartsModel" "guard" "I" ∈ WL := wl_of (List.mem_append_right _ (in_t5 (List.mem_of_getElem? (i := 225) rfl))) rfl
theorem w_880 : Cond.fieldLink RX12 65 "PulsePartsModel" "sideCells" "I" ∈ WL := wl_of (List.mem_append_right _ (in_t5 (List.mem_of_getElem? (i := 226) rfl))) rfl
theorem w_881 : Cond.fieldLink RX12 68 "PulsePartsModel" "order" "I" ∈ WL := wl_of (List.mem_append_right _ (in_t5 (List.mem_of_getElem? (i := 227) rfl))) rfl
theorem w_882 : Cond.fieldLink RX12 71 "PulsePartsModel" "factor" "I" ∈ WL := wl_of (List.mem_append_right _ (in_t5 (List.mem_of_getElem? (i := 228) rfl))) rfl
theorem w_883 : Cond.code M_X12_isSeen.1 M_X12_isSeen.2.1 M_X12_isSeen.2.2.1 M_X12_isSeen.2.2.2 ∈ WL := wl_of (List.mem_append_right _ (in_t7 (List.mem_of_getElem? (i := 105) rfl))) rfl
theorem w_884 : Cond.instanceMethod yX12_isSeen ∈ WL := wl_of (List.mem_append_right _ (in_t7 (List.mem_of_getElem? (i := 104) rfl))) rfl
theorem w_885 : Cond.selects yX12_isSeen.cls yX12_isSeen yX12_isSeen ∈ WL := wl_of (List.mem_append_left _ (List.mem_map.mpr ⟨(yX12_isSeen, 51), List.mem_of_getElem? (i := 82) (by decide +kernel), rfl⟩)) rfl
theorem cv_X12_isSeen : CalV M_X12_isSeen 3 12 := ⟨w_884, w_885, w_674, w_883, by decide +kernel, by decide, ⟨TX12, 51, rfl⟩, ⟨_, _, rfl⟩⟩
theorem w_886 : Cond.methodLink RX12 320 yX12_isSeen ∈ WL := wl_of (List.mem_append_right _ (in_t7 (List.mem_of_getElem? (i := 102) rfl))) rfl
theorem w_887 : Cond.code M_X12_seenTo.1 M_X12_seenTo.2.1 M_X12_seenTo.2.2.1 M_X12_seenTo.2.2.2 ∈ WL := wl_of (List.mem_append_right _ (in_t7 (List.mem_of_getElem? (i := 113) rfl))) rfl
theorem w_888 : Cond.instanceMethod yX12_seenTo ∈ WL := wl_of (List.mem_append_right _ (in_t7 (List.mem_of_getElem? (i := 112) rfl))) rfl
theorem w_889 : Cond.selects yX12_seenTo.cls yX12_seenTo yX12_seenTo ∈ WL := wl_of (List.mem_append_left _ (List.mem_map.mpr ⟨(yX12_seenTo, 51), List.mem_of_getElem? (i := 83) (by decide +kernel), rfl⟩)) rfl
theorem cv_X12_seenTo : CalV M_X12_seenTo 3 12 := ⟨w_888, w_889, w_674, w_887, by decide +kernel, by decide, ⟨TX12, 51, rfl⟩, ⟨_, _, rfl⟩⟩
theorem w_890 : Cond.methodLink RX12 323 yX12_seenTo ∈ WL := wl_of (List.mem_append_right _ (in_t7 (List.mem_of_getElem? (i := 110) rfl))) rfl
theorem w_891 : Cond.fieldLink RX12 74 "PulsePartsModel" "readings" "[I" ∈ WL := wl_of (List.mem_append_right _ (in_t5 (List.mem_of_getElem? (i := 229) rfl))) rfl
theorem w_892 : Cond.code M_X12_areReadings.1 M_X12_areReadings.2.1 M_X12_areReadings.2.2.1 M_X12_areReadings.2.2.2 ∈ WL := wl_of (List.mem_append_right _ (in_t7 (List.mem_of_getElem? (i := 129) rfl))) rfl
theorem w_893 : Cond.instanceMethod yX12_areReadings ∈ WL := wl_of (List.mem_append_right _ (in_t7 (List.mem_of_getElem? (i := 128) rfl))) rfl
theorem w_894 : Cond.selects yX12_areReadings.cls yX12_areReadings yX12_areReadings ∈ WL := wl_of (List.mem_append_left _ (List.mem_map.mpr ⟨(yX12_areReadings, 51), List.mem_of_getElem? (i := 84) (by decide +kernel), rfl⟩)) rfl
theorem cv_X12_areReadings : CalV M_X12_areReadings 1 12 := ⟨w_893, w_894, w_674, w_892, by decide +kernel, by decide, ⟨TX12, 51, rfl⟩, ⟨_, _, rfl⟩⟩
theorem w_895 : Cond.methodLink RX12 329 yX12_areReadings ∈ WL := wl_of (List.mem_append_right _ (in_t7 (List.mem_of_getElem? (i := 126) rfl))) rfl
theorem w_896 : Cond.methodLink RX12 326 Lib.Math.abs.name ∈ WL := wl_of (List.mem_append_right _ (in_t7 (List.mem_of_getElem? (i := 134) rfl))) rfl
theorem w_897 : Cond.code M_X12_offs.1 M_X12_offs.2.1 M_X12_offs.2.2.1 M_X12_offs.2.2.2 ∈ WL := wl_of (List.mem_append_right _ (in_t7 (List.mem_of_getElem? (i := 133) rfl))) rfl
theorem w_898 : Cond.instanceMethod yX12_offs ∈ WL := wl_of (List.mem_append_right _ (in_t7 (List.mem_of_getElem? (i := 132) rfl))) rfl
theorem w_899 : Cond.selects yX12_offs.cls yX12_offs yX12_offs ∈ WL := wl_of (List.mem_append_left _ (List.mem_map.mpr ⟨(yX12_offs, 51), List.mem_of_getElem? (i := 85) (by decide +kernel), rfl⟩)) rfl
theorem cv_X12_offs : CalV M_X12_offs 3 12 := ⟨w_898, w_899, w_674, w_897, by decide +kernel, by decide, ⟨TX12, 51, rfl⟩, ⟨_, _, rfl⟩⟩
theorem w_900 : Cond.methodLink RX12 332 yX12_offs ∈ WL := wl_of (List.mem_append_right _ (in_t7 (List.mem_of_getElem? (i := 130) rfl))) rfl
theorem w_901 : Cond.code M_X12_isGhost.1 M_X12_isGhost.2.1 M_X12_isGhost.2.2.1 M_X12_isGhost.2.2.2 ∈ WL := wl_of (List.mem_append_right _ (in_t7 (List.mem_of_getElem? (i := 142) rfl))) rfl
theorem w_902 : Cond.instanceMethod yX12_isGhost ∈ WL := wl_of (List.mem_append_right _ (in_t7 (List.mem_of_getElem? (i := 141) rfl))) rfl
theorem w_903 : Cond.selects yX12_isGhost.cls yX12_isGhost yX12_isGhost ∈ WL := wl_of (List.mem_append_left _ (List.mem_map.mpr ⟨(yX12_isGhost, 51), List.mem_of_getElem? (i := 86) (by decide +kernel), rfl⟩)) rfl
theorem cv_X12_isGhost : CalV M_X12_isGhost 4 12 := ⟨w_902, w_903, w_674, w_901, by decide +kernel, by decide, ⟨TX12, 51, rfl⟩, ⟨_, _, rfl⟩⟩
theorem w_904 : Cond.methodLink RX12 335 yX12_isGhost ∈ WL := wl_of (List.mem_append_right _ (in_t7 (List.mem_of_getElem? (i := 139) rfl))) rfl
theorem w_905 : Cond.code M_X12_isLevel.1 M_X12_isLevel.2.1 M_X12_isLevel.2.2.1 M_X12_isLevel.2.2.2 ∈ WL := wl_of (List.mem_append_right _ (in_t7 (List.mem_of_getElem? (i := 149) rfl))) rfl
theorem w_906 : Cond.static yX12_isLevel ∈ WL := wl_of (List.mem_append_right _ (in_t7 (List.mem_of_getElem? (i := 148) rfl))) rfl
theorem cv_X12_isLevel : CalS M_X12_isLevel 1 := ⟨w_906, w_674, w_905, by decide +kernel, by decide⟩
theorem w_907 : Cond.methodLink RX12 352 yX12_isLevel ∈ WL := wl_of (List.mem_append_right _ (in_t7 (List.mem_of_getElem? (i := 147) rfl))) rfl
theorem w_908 : Cond.fieldLink RX12 77 "PulsePartsModel" "now" "[I" ∈ WL := wl_of (List.mem_append_right _ (in_t5 (List.mem_of_getElem? (i := 230) rfl))) rfl
theorem w_909 : Cond.fieldLink RX12 339 "PulsePartsModel" "undoMany" "I" ∈ WL := wl_of (List.mem_append_right _ (in_t5 (List.mem_of_getElem? (i := 234) rfl))) rfl
theorem w_910 : Cond.fieldLink RX12 80 "PulsePartsModel" "undone" "[I" ∈ WL := wl_of (List.mem_append_right _ (in_t5 (List.mem_of_getElem? (i := 231) rfl))) rfl
theorem w_911 : Cond.code M_X12_copy.1 M_X12_copy.2.1 M_X12_copy.2.2.1 M_X12_copy.2.2.2 ∈ WL := wl_of (List.mem_append_right _ (in_t7 (List.mem_of_getElem? (i := 160) rfl))) rfl
theorem w_912 : Cond.static yX12_copy ∈ WL := wl_of (List.mem_append_right _ (in_t7 (List.mem_of_getElem? (i := 159) rfl))) rfl
theorem cv_X12_copy : CalS M_X12_copy 4 := ⟨w_912, w_674, w_911, by decide +kernel, by decide⟩
theorem w_913 : Cond.methodLink RX12 342 yX12_copy ∈ WL := wl_of (List.mem_append_right _ (in_t7 (List.mem_of_getElem? (i := 158) rfl))) rfl
theorem w_914 : Cond.code M_X12_putBy.1 M_X12_putBy.2.1 M_X12_putBy.2.2.1 M_X12_putBy.2.2.2 ∈ WL := wl_of (List.mem_append_right _ (in_t7 (List.mem_of_getElem? (i := 157) rfl))) rfl
theorem w_915 : Cond.instanceMethod yX12_putBy ∈ WL := wl_of (List.mem_append_right _ (in_t7 (List.mem_of_getElem? (i := 156) rfl))) rfl
theorem w_916 : Cond.selects yX12_putBy.cls yX12_putBy yX12_putBy ∈ WL := wl_of (List.mem_append_left _ (List.mem_map.mpr ⟨(yX12_putBy, 51), List.mem_of_getElem? (i := 88) (by decide +kernel), rfl⟩)) rfl
theorem cv_X12_putBy : CalV M_X12_putBy 0 12 := ⟨w_915, w_916, w_674, w_914, by decide +kernel, by decide, ⟨TX12, 51, rfl⟩, ⟨_, _, rfl⟩⟩
theorem w_917 : Cond.methodLink RX12 346 yX12_putBy ∈ WL := wl_of (List.mem_append_right _ (in_t7 (List.mem_of_getElem? (i := 154) rfl))) rfl
theorem w_918 : Cond.fieldLink RX12 349 "PulsePartsModel" "againMany" "I" ∈ WL := wl_of (List.mem_append_right _ (in_t5 (List.mem_of_getElem? (i := 235) rfl))) rfl
theorem w_919 : Cond.code M_X12_act.1 M_X12_act.2.1 M_X12_act.2.2.1 M_X12_act.2.2.2 ∈ WL := wl_of (List.mem_append_right _ (in_t7 (List.mem_of_getElem? (i := 153) rfl))) rfl
theorem w_920 : Cond.instanceMethod yX12_act ∈ WL := wl_of (List.mem_append_right _ (in_t7 (List.mem_of_getElem? (i := 152) rfl))) rfl
theorem w_921 : Cond.selects yX12_act.cls yX12_act yX12_act ∈ WL := wl_of (List.mem_append_left _ (List.mem_map.mpr ⟨(yX12_act, 51), List.mem_of_getElem? (i := 87) (by decide +kernel), rfl⟩)) rfl
theorem cv_X12_act : CalV M_X12_act 0 12 := ⟨w_920, w_921, w_674, w_919, by decide +kernel, by decide, ⟨TX12, 51, rfl⟩, ⟨_, _, rfl⟩⟩
theorem w_922 : Cond.methodLink RX12 355 yX12_act ∈ WL := wl_of (List.mem_append_right _ (in_t7 (List.mem_of_getElem? (i := 150) rfl))) rfl
theorem w_923 : Cond.code M_X12_isCell.1 M_X12_isCell.2.1 M_X12_isCell.2.2.1 M_X12_isCell.2.2.2 ∈ WL := wl_of (List.mem_append_right _ (in_t7 (List.mem_of_getElem? (i := 168) rfl))) rfl
theorem w_924 : Cond.instanceMethod yX12_isCell ∈ WL := wl_of (List.mem_append_right _ (in_t7 (List.mem_of_getElem? (i := 167) rfl))) rfl
theorem w_925 : Cond.selects yX12_isCell.cls yX12_isCell yX12_isCell ∈ WL := wl_of (List.mem_append_left _ (List.mem_map.mpr ⟨(yX12_isCell, 51), List.mem_of_getElem? (i := 89) (by decide +kernel), rfl⟩)) rfl
theorem cv_X12_isCell : CalV M_X12_isCell 1 12 := ⟨w_924, w_925, w_674, w_923, by decide +kernel, by decide, ⟨TX12, 51, rfl⟩, ⟨_, _, rfl⟩⟩
theorem w_926 : Cond.methodLink RX12 358 yX12_isCell ∈ WL := wl_of (List.mem_append_right _ (in_t7 (List.mem_of_getElem? (i := 165) rfl))) rfl
theorem w_927 : Cond.constantLong RX12 361 (6364136223846793005) ∈ WL := wl_of (List.mem_append_right _ (in_t7 (List.mem_of_getElem? (i := 173) rfl))) rfl
theorem w_928 : Cond.constantLong RX12 363 (1442695040888963407) ∈ WL := wl_of (List.mem_append_right _ (in_t7 (List.mem_of_getElem? (i := 174) rfl))) rfl
theorem w_929 : Cond.fieldLink RX12 83 "PulsePartsModel" "again" "[I" ∈ WL := wl_of (List.mem_append_right _ (in_t5 (List.mem_of_getElem? (i := 232) rfl))) rfl
theorem w_930 : Cond.fieldLink RX12 89 "PulsePartsModel" "window" "[I" ∈ WL := wl_of (List.mem_append_right _ (in_t5 (List.mem_of_getElem? (i := 237) rfl))) rfl
theorem w_931 : Cond.code M_X12_windowOf.1 M_X12_windowOf.2.1 M_X12_windowOf.2.2.1 M_X12_windowOf.2.2.2 ∈ WL := wl_of (List.mem_append_right _ (in_t7 (List.mem_of_getElem? (i := 190) rfl))) rfl
theorem w_932 : Cond.instanceMethod yX12_windowOf ∈ WL := wl_of (List.mem_append_right _ (in_t7 (List.mem_of_getElem? (i := 189) rfl))) rfl
theorem w_933 : Cond.selects yX12_windowOf.cls yX12_windowOf yX12_windowOf ∈ WL := wl_of (List.mem_append_left _ (List.mem_map.mpr ⟨(yX12_windowOf, 51), List.mem_of_getElem? (i := 90) (by decide +kernel), rfl⟩)) rfl
theorem cv_X12_windowOf : CalV M_X12_windowOf 1 12 := ⟨w_932, w_933, w_674, w_931, by decide +kernel, by decide, ⟨TX12, 51, rfl⟩, ⟨_, _, rfl⟩⟩
theorem w_934 : Cond.methodLink RX12 365 yX12_windowOf ∈ WL := wl_of (List.mem_append_right _ (in_t7 (List.mem_of_getElem? (i := 187) rfl))) rfl
theorem w_935 : Cond.code M_X12_found.1 M_X12_found.2.1 M_X12_found.2.2.1 M_X12_found.2.2.2 ∈ WL := wl_of (List.mem_append_right _ (in_t7 (List.mem_of_getElem? (i := 186) rfl))) rfl
theorem w_936 : Cond.instanceMethod yX12_found ∈ WL := wl_of (List.mem_append_right _ (in_t7 (List.mem_of_getElem? (i := 184) rfl))) rfl
theorem w_937 : Cond.selects yX12_found.cls yX12_found yX12_found ∈ WL := wl_of (List.mem_append_right _ (in_t7 (List.mem_of_getElem? (i := 185) rfl))) rfl
theorem cv_X12_found : CalV M_X12_found 1 12 := ⟨w_936, w_937, w_674, w_935, by decide +kernel, by decide, ⟨TX12, 51, rfl⟩, ⟨_, _, rfl⟩⟩
theorem w_938 : Cond.methodLink RX12 368 yX12_found ∈ WL := wl_of (List.mem_append_right _ (in_t7 (List.mem_of_getElem? (i := 195) rfl))) rfl
theorem w_939 : Cond.constantLong RX12 378 (-1) ∈ WL := wl_of (List.mem_append_right _ (in_t7 (List.mem_of_getElem? (i := 200) rfl))) rfl
theorem w_940 : Cond.code M_X12_power.1 M_X12_power.2.1 M_X12_power.2.2.1 M_X12_power.2.2.2 ∈ WL := wl_of (List.mem_append_right _ (in_t7 (List.mem_of_getElem? (i := 209) rfl))) rfl
theorem w_941 : Cond.static yX12_power ∈ WL := wl_of (List.mem_append_right _ (in_t7 (List.mem_of_getElem? (i := 208) rfl))) rfl
theorem cv_X12_power : CalS M_X12_power 2 := ⟨w_941, w_674, w_940, by decide +kernel, by decide⟩
theorem w_942 : Cond.methodLink RX12 375 yX12_power ∈ WL := wl_of (List.mem_append_right _ (in_t7 (List.mem_of_getElem? (i := 207) rfl))) rfl
theorem w_943 : Cond.code M_X12_choose.1 M_X12_choose.2.1 M_X12_choose.2.2.1 M_X12_choose.2.2.2 ∈ WL := wl_of (List.mem_append_right _ (in_t7 (List.mem_of_getElem? (i := 206) rfl))) rfl
theorem w_944 : Cond.static yX12_choose ∈ WL := wl_of (List.mem_append_right _ (in_t7 (List.mem_of_getElem? (i := 205) rfl))) rfl
theorem cv_X12_choose : CalS M_X12_choose 2 := ⟨w_944, w_674, w_943, by decide +kernel, by decide⟩
theorem w_945 : Cond.methodLink RX12 371 yX12_choose ∈ WL := wl_of (List.mem_append_right _ (in_t7 (List.mem_of_getElem? (i := 204) rfl))) rfl
theorem w_946 : Cond.code M_X12_upTo.1 M_X12_upTo.2.1 M_X12_upTo.2.2.1 M_X12_upTo.2.2.2 ∈ WL := wl_of (List.mem_append_right _ (in_t7 (List.mem_of_getElem? (i := 203) rfl))) rfl
theorem w_947 : Cond.static yX12_upTo ∈ WL := wl_of (List.mem_append_right _ (in_t7 (List.mem_of_getElem? (i := 202) rfl))) rfl
theorem cv_X12_upTo : CalS M_X12_upTo 4 := ⟨w_947, w_674, w_946, by decide +kernel, by decide⟩
theorem w_948 : Cond.methodLink RX12 380 yX12_upTo ∈ WL := wl_of (List.mem_append_right _ (in_t7 (List.mem_of_getElem? (i := 201) rfl))) rfl
theorem w_949 : Cond.fieldLink RX12 384 "PulsePartsModel" "beams" "I" ∈ WL := wl_of (List.mem_append_right _ (in_t6 (List.mem_of_getElem? (i := 1) rfl))) rfl
theorem w_950 : Cond.fieldLink RX12 92 "PulsePartsModel" "times" "[I" ∈ WL := wl_of (List.mem_append_right _ (in_t5 (List.mem_of_getElem? (i := 238) rfl))) rfl
theorem w_951 : Cond.fieldLink RX12 95 "PulsePartsModel" "dues" "[I" ∈ WL := wl_of (List.mem_append_right _ (in_t5 (List.mem_of_getElem? (i := 239) rfl))) rfl
theorem w_952 : Cond.fieldLink RX12 98 "PulsePartsModel" "worths" "[I" ∈ WL := wl_of (List.mem_append_right _ (in_t6 (List.mem_of_getElem? (i := 0) rfl))) rfl
theorem w_953 : Cond.code M_X12_isDue.1 M_X12_isDue.2.1 M_X12_isDue.2.2.1 M_X12_isDue.2.2.2 ∈ WL := wl_of (List.mem_append_right _ (in_t7 (List.mem_of_getElem? (i := 225) rfl))) rfl
theorem w_954 : Cond.instanceMethod yX12_isDue ∈ WL := wl_of (List.mem_append_right _ (in_t7 (List.mem_of_getElem? (i := 224) rfl))) rfl
theorem w_955 : Cond.selects yX12_isDue.cls yX12_isDue yX12_isDue ∈ WL := wl_of (List.mem_append_left _ (List.mem_map.mpr ⟨(yX12_isDue, 51), List.mem_of_getElem? (i := 92) (by decide +kernel), rfl⟩)) rfl
theorem cv_X12_isDue : CalV M_X12_isDue 2 12 := ⟨w_954, w_955, w_674, w_953, by decide +kernel, by decide, ⟨TX12, 51, rfl⟩, ⟨_, _, rfl⟩⟩
theorem w_956 : Cond.methodLink RX12 387 yX12_isDue ∈ WL := wl_of (List.mem_append_right _ (in_t7 (List.mem_of_getElem? (i := 222) rfl))) rfl
theorem w_957 : Cond.code M_X12_areDone.1 M_X12_areDone.2.1 M_X12_areDone.2.2.1 M_X12_areDone.2.2.2 ∈ WL := wl_of (List.mem_append_right _ (in_t7 (List.mem_of_getElem? (i := 221) rfl))) rfl
theorem w_958 : Cond.instanceMethod yX12_areDone ∈ WL := wl_of (List.mem_append_right _ (in_t7 (List.mem_of_getElem? (i := 220) rfl))) rfl
theorem w_959 : Cond.selects yX12_areDone.cls yX12_areDone yX12_areDone ∈ WL := wl_of (List.mem_append_left _ (List.mem_map.mpr ⟨(yX12_areDone, 51), List.mem_of_getElem? (i := 91) (by decide +kernel), rfl⟩)) rfl
theorem cv_X12_areDone : CalV M_X12_areDone 1 12 := ⟨w_958, w_959, w_674, w_957, by decide +kernel, by decide, ⟨TX12, 51, rfl⟩, ⟨_, _, rfl⟩⟩
theorem w_960 : Cond.methodLink RX12 390 yX12_areDone ∈ WL := wl_of (List.mem_append_right _ (in_t7 (List.mem_of_getElem? (i := 218) rfl))) rfl
theorem w_961 : Cond.code M_X12_turned.1 M_X12_turned.2.1 M_X12_turned.2.2.1 M_X12_turned.2.2.2 ∈ WL := wl_of (List.mem_append_right _ (in_t7 (List.mem_of_getElem? (i := 237) rfl))) rfl
theorem w_962 : Cond.instanceMethod yX12_turned ∈ WL := wl_of (List.mem_append_right _ (in_t7 (List.mem_of_getElem? (i := 236) rfl))) rfl
theorem w_963 : Cond.selects yX12_turned.cls yX12_turned yX12_turned ∈ WL := wl_of (List.mem_append_left _ (List.mem_map.mpr ⟨(yX12_turned, 51), List.mem_of_getElem? (i := 94) (by decide +kernel), rfl⟩)) rfl
theorem cv_X12_turned : CalV M_X12_turned 6 12 := ⟨w_962, w_963, w_674, w_961, by decide +kernel, by decide, ⟨TX12, 51, rfl⟩, ⟨_, _, rfl⟩⟩
theorem w_964 : Cond.methodLink RX12 393 yX12_turned ∈ WL := wl_of (List.mem_append_right _ (in_t7 (List.mem_of_getElem? (i := 234) rfl))) rfl
theorem w_965 : Cond.code M_X12_areAlike.1 M_X12_areAlike.2.1 M_X12_areAlike.2.2.1 M_X12_areAlike.2.2.2 ∈ WL := wl_of (List.mem_append_right _ (in_t7 (List.mem_of_getElem? (i := 233) rfl))) rfl
theorem w_966 : Cond.instanceMethod yX12_areAlike ∈ WL := wl_of (List.mem_append_right _ (in_t7 (List.mem_of_getElem? (i := 232) rfl))) rfl
theorem w_967 : Cond.selects yX12_areAlike.cls yX12_areAlike yX12_areAlike ∈ WL := wl_of (List.mem_append_left _ (List.mem_map.mpr ⟨(yX12_areAlike, 51), List.mem_of_getElem? (i := 93) (by decide +kernel), rfl⟩)) rfl
theorem cv_X12_areAlike : CalV M_X12_areAlike 5 12 := ⟨w_966, w_967, w_674, w_965, by decide +kernel, by decide, ⟨TX12, 51, rfl⟩, ⟨_, _, rfl⟩⟩
theorem w_968 : Cond.methodLink RX12 397 yX12_areAlike ∈ WL := wl_of (List.mem_append_right _ (in_t7 (List.mem_of_getElem? (i := 230) rfl))) rfl
theorem w_969 : Cond.code M_X12_seenBy.1 M_X12_seenBy.2.1 M_X12_seenBy.2.2.1 M_X12_seenBy.2.2.2 ∈ WL := wl_of (List.mem_append_right _ (in_t8 (List.mem_of_getElem? (i := 13) rfl))) rfl
theorem w_970 : Cond.instanceMethod yX12_seenBy ∈ WL := wl_of (List.mem_append_right _ (in_t8 (List.mem_of_getElem? (i := 12) rfl))) rfl
theorem w_971 : Cond.selects yX12_seenBy.cls yX12_seenBy yX12_seenBy ∈ WL := wl_of (List.mem_append_left _ (List.mem_map.mpr ⟨(yX12_seenBy, 51), List.mem_of_getElem? (i := 95) (by decide +kernel), rfl⟩)) rfl
theorem cv_X12_seenBy : CalV M_X12_seenBy 4 12 := ⟨w_970, w_971, w_674, w_969, by decide +kernel, by decide, ⟨TX12, 51, rfl⟩, ⟨_, _, rfl⟩⟩
theorem w_972 : Cond.methodLink RX12 401 yX12_seenBy ∈ WL := wl_of (List.mem_append_right _ (in_t8 (List.mem_of_getElem? (i := 10) rfl))) rfl
theorem w_973 : Cond.code M_X12_share.1 M_X12_share.2.1 M_X12_share.2.2.1 M_X12_share.2.2.2 ∈ WL := wl_of (List.mem_append_right _ (in_t7 (List.mem_of_getElem? (i := 199) rfl))) rfl
theorem w_974 : Cond.instanceMethod yX12_share ∈ WL := wl_of (List.mem_append_right _ (in_t7 (List.mem_of_getElem? (i := 197) rfl))) rfl
theorem w_975 : Cond.selects yX12_share.cls yX12_share yX12_share ∈ WL := wl_of (List.mem_append_right _ (in_t7 (List.mem_of_getElem? (i := 198) rfl))) rfl
theorem cv_X12_share : CalV M_X12_share 5 12 := ⟨w_974, w_975, w_674, w_973, by decide +kernel, by decide, ⟨TX12, 51, rfl⟩, ⟨_, _, rfl⟩⟩
theorem w_976 : Cond.methodLink RX12 405 yX12_share ∈ WL := wl_of (List.mem_append_right _ (in_t8 (List.mem_of_getElem? (i := 18) rfl))) rfl
theorem w_977 : Cond.constant RX12 409 (1000000) ∈ WL := wl_of (List.mem_append_right _ (in_t8 (List.mem_of_getElem? (i := 19) rfl))) rfl
theorem w_978 : Cond.fieldLink RX12 86 "PulsePartsModel" "image" "[I" ∈ WL := wl_of (List.mem_append_right _ (in_t5 (List.mem_of_getElem? (i := 233) rfl))) rfl
theorem w_979 : Cond.fieldLink RX12 410 "PulsePartsModel" "hasImage" "Z" ∈ WL := wl_of (List.mem_append_right _ (in_t5 (List.mem_of_getElem? (i := 236) rfl))) rfl
theorem w_980 : Cond.code M_X11_feed.1 M_X11_feed.2.1 M_X11_feed.2.2.1 M_X11_feed.2.2.2 ∈ WL := wl_of (List.mem_append_right _ (in_t2 (List.mem_of_getElem? (i := 100) rfl))) rfl
theorem w_981 : Cond.instanceMethod yX11_feed ∈ WL := wl_of (List.mem_append_right _ (in_t2 (List.mem_of_getElem? (i := 98) rfl))) rfl
theorem w_982 : Cond.selects yX11_feed.cls yX11_feed yX11_feed ∈ WL := wl_of (List.mem_append_right _ (in_t2 (List.mem_of_getElem? (i := 99) rfl))) rfl
theorem cv_X11_feed : CalV M_X11_feed 5 11 := ⟨w_981, w_982, w_16, w_980, by decide +kernel, by decide, ⟨TX11, 12, rfl⟩, ⟨_, _, rfl⟩⟩
theorem w_983 : Cond.methodLink RL 19 yX11_feed ∈ WL := wl_of (List.mem_append_right _ (in_t2 (List.mem_of_getElem? (i := 97) rfl))) rfl
theorem w_984 : Cond.code M_X12_feed.1 M_X12_feed.2.1 M_X12_feed.2.2.1 M_X12_feed.2.2.2 ∈ WL := wl_of (List.mem_append_right _ (in_t6 (List.mem_of_getElem? (i := 112) rfl))) rfl
theorem w_985 : Cond.instanceMethod yX12_feed ∈ WL := wl_of (List.mem_append_right _ (in_t6 (List.mem_of_getElem? (i := 110) rfl))) rfl
theorem w_986 : Cond.selects yX12_feed.cls yX12_feed yX12_feed ∈ WL := wl_of (List.mem_append_right _ (in_t6 (List.mem_of_getElem? (i := 111) rfl))) rfl
theorem cv_X12_feed : CalV M_X12_feed 5 12 := ⟨w_985, w_986, w_674, w_984, by decide +kernel, by decide, ⟨TX12, 51, rfl⟩, ⟨_, _, rfl⟩⟩
theorem w_987 : Cond.methodLink RL 23 yX12_feed ∈ WL := wl_of (List.mem_append_right _ (in_t6 (List.mem_of_getElem? (i := 109) rfl))) rfl
theorem w_988 : Cond.code M_X11_end.1 M_X11_end.2.1 M_X11_end.2.2.1 M_X11_end.2.2.2 ∈ WL := wl_of (List.mem_append_right _ (in_t2 (List.mem_of_getElem? (i := 111) rfl))) rfl
theorem w_989 : Cond.instanceMethod yX11_end ∈ WL := wl_of (List.mem_append_right _ (in_t2 (List.mem_of_getElem? (i := 109) rfl))) rfl
theorem w_990 : Cond.selects yX11_end.cls yX11_end yX11_end ∈ WL := wl_of (List.mem_append_right _ (in_t2 (List.mem_of_getElem? (i := 110) rfl))) rfl
theorem cv_X11_end : CalV M_X11_end 1 11 := ⟨w_989, w_990, w_16, w_988, by decide +kernel, by decide, ⟨TX11, 12, rfl⟩, ⟨_, _, rfl⟩⟩
theorem w_991 : Cond.methodLink RL 24 yX11_end ∈ WL := wl_of (List.mem_append_right _ (in_t2 (List.mem_of_getElem? (i := 108) rfl))) rfl
theorem w_992 : Cond.code M_X12_end.1 M_X12_end.2.1 M_X12_end.2.2.1 M_X12_end.2.2.2 ∈ WL := wl_of (List.mem_append_right _ (in_t6 (List.mem_of_getElem? (i := 119) rfl))) rfl
theorem w_993 : Cond.instanceMethod yX12_end ∈ WL := wl_of (List.mem_append_right _ (in_t6 (List.mem_of_getElem? (i := 117) rfl))) rfl
theorem w_994 : Cond.selects yX12_end.cls yX12_end yX12_end ∈ WL := wl_of (List.mem_append_right _ (in_t6 (List.mem_of_getElem? (i := 118) rfl))) rfl
theorem cv_X12_end : CalV M_X12_end 1 12 := ⟨w_993, w_994, w_674, w_992, by decide +kernel, by decide, ⟨TX12, 51, rfl⟩, ⟨_, _, rfl⟩⟩
theorem w_995 : Cond.methodLink RL 28 yX12_end ∈ WL := wl_of (List.mem_append_right _ (in_t6 (List.mem_of_getElem? (i := 116) rfl))) rfl
theorem w_996 : Cond.code M_X11_fault.1 M_X11_fault.2.1 M_X11_fault.2.2.1 M_X11_fault.2.2.2 ∈ WL := wl_of (List.mem_append_right _ (in_t2 (List.mem_of_getElem? (i := 119) rfl))) rfl
theorem w_997 : Cond.instanceMethod yX11_fault ∈ WL := wl_of (List.mem_append_right _ (in_t2 (List.mem_of_getElem? (i := 117) rfl))) rfl
theorem w_998 : Cond.selects yX11_fault.cls yX11_fault yX11_fault ∈ WL := wl_of (List.mem_append_right _ (in_t2 (List.mem_of_getElem? (i := 118) rfl))) rfl
theorem cv_X11_fault : CalV M_X11_fault 1 11 := ⟨w_997, w_998, w_16, w_996, by decide +kernel, by decide, ⟨TX11, 12, rfl⟩, ⟨_, _, rfl⟩⟩
theorem w_999 : Cond.methodLink RL 29 yX11_fault ∈ WL := wl_of (List.mem_append_right _ (in_t2 (List.mem_of_getElem? (i := 116) rfl))) rfl
theorem w_1000 : Cond.code M_X12_fault.1 M_X12_fault.2.1 M_X12_fault.2.2.1 M_X12_fault.2.2.2 ∈ WL := wl_of (List.mem_append_right _ (in_t6 (List.mem_of_getElem? (i := 123) rfl))) rfl
theorem w_1001 : Cond.instanceMethod yX12_fault ∈ WL := wl_of (List.mem_append_right _ (in_t6 (List.mem_of_getElem? (i := 121) rfl))) rfl
theorem w_1002 : Cond.selects yX12_fault.cls yX12_fault yX12_fault ∈ WL := wl_of (List.mem_append_right _ (in_t6 (List.mem_of_getElem? (i := 122) rfl))) rfl
theorem cv_X12_fault : CalV M_X12_fault 1 12 := ⟨w_1001, w_1002, w_674, w_1000, by decide +kernel, by decide, ⟨TX12, 51, rfl⟩, ⟨_, _, rfl⟩⟩
theorem w_1003 : Cond.methodLink RL 33 yX12_fault ∈ WL := wl_of (List.mem_append_right _ (in_t6 (List.mem_of_getElem? (i := 120) rfl))) rfl
theorem w_1004 : Cond.code M_X11_text.1 M_X11_text.2.1 M_X11_text.2.2.1 M_X11_text.2.2.2 ∈ WL := wl_of (List.mem_append_right _ (in_t2 (List.mem_of_getElem? (i := 239) rfl))) rfl
theorem w_1005 : Cond.instanceMethod yX11_text ∈ WL := wl_of (List.mem_append_right _ (in_t2 (List.mem_of_getElem? (i := 237) rfl))) rfl
theorem w_1006 : Cond.selects yX11_text.cls yX11_text yX11_text ∈ WL := wl_of (List.mem_append_right _ (in_t2 (List.mem_of_getElem? (i := 238) rfl))) rfl
theorem cv_X11_text : CalV M_X11_text 1 11 := ⟨w_1005, w_1006, w_16, w_1004, by decide +kernel, by decide, ⟨TX11, 12, rfl⟩, ⟨_, _, rfl⟩⟩
theorem w_1007 : Cond.methodLink RL 34 yX11_text ∈ WL := wl_of (List.mem_append_right _ (in_t2 (List.mem_of_getElem? (i := 236) rfl))) rfl
theorem w_1008 : Cond.code M_X12_text.1 M_X12_text.2.1 M_X12_text.2.2.1 M_X12_text.2.2.2 ∈ WL := wl_of (List.mem_append_right _ (in_t6 (List.mem_of_getElem? (i := 230) rfl))) rfl
theorem w_1009 : Cond.instanceMethod yX12_text ∈ WL := wl_of (List.mem_append_right _ (in_t6 (List.mem_of_getElem? (i := 228) rfl))) rfl
theorem w_1010 : Cond.selects yX12_text.cls yX12_text yX12_text ∈ WL := wl_of (List.mem_append_right _ (in_t6 (List.mem_of_getElem? (i := 229) rfl))) rfl
theorem cv_X12_text : CalV M_X12_text 1 12 := ⟨w_1009, w_1010, w_674, w_1008, by decide +kernel, by decide, ⟨TX12, 51, rfl⟩, ⟨_, _, rfl⟩⟩
theorem w_1011 : Cond.methodLink RL 37 yX12_text ∈ WL := wl_of (List.mem_append_right _ (in_t6 (List.mem_of_getElem? (i := 227) rfl))) rfl
theorem w_1012 : Cond.code M_X12_sign.1 M_X12_sign.2.1 M_X12_sign.2.2.1 M_X12_sign.2.2.2 ∈ WL := wl_of (List.mem_append_right _ (in_t6 (List.mem_of_getElem? (i := 234) rfl))) rfl
theorem w_1013 : Cond.instanceMethod yX12_sign ∈ WL := wl_of (List.mem_append_right _ (in_t6 (List.mem_of_getElem? (i := 232) rfl))) rfl
theorem w_1014 : Cond.selects yX12_sign.cls yX12_sign yX12_sign ∈ WL := wl_of (List.mem_append_right _ (in_t6 (List.mem_of_getElem? (i := 233) rfl))) rfl
theorem cv_X12_sign : CalV M_X12_sign 2 12 := ⟨w_1013, w_1014, w_674, w_1012, by decide +kernel, by decide, ⟨TX12, 51, rfl⟩, ⟨_, _, rfl⟩⟩
theorem w_1015 : Cond.methodLink RL 43 yX12_sign ∈ WL := wl_of (List.mem_append_right _ (in_t6 (List.mem_of_getElem? (i := 231) rfl))) rfl
theorem w_1016 : Cond.code M_X12_thrown.1 M_X12_thrown.2.1 M_X12_thrown.2.2.1 M_X12_thrown.2.2.2 ∈ WL := wl_of (List.mem_append_right _ (in_t6 (List.mem_of_getElem? (i := 108) rfl))) rfl
theorem w_1017 : Cond.instanceMethod yX12_thrown ∈ WL := wl_of (List.mem_append_right _ (in_t6 (List.mem_of_getElem? (i := 106) rfl))) rfl
theorem w_1018 : Cond.selects yX12_thrown.cls yX12_thrown yX12_thrown ∈ WL := wl_of (List.mem_append_right _ (in_t6 (List.mem_of_getElem? (i := 107) rfl))) rfl
theorem cv_X12_thrown : CalV M_X12_thrown 0 12 := ⟨w_1017, w_1018, w_674, w_1016, by decide +kernel, by decide, ⟨TX12, 51, rfl⟩, ⟨_, _, rfl⟩⟩
theorem w_1019 : Cond.methodLink RL 44 yX12_thrown ∈ WL := wl_of (List.mem_append_right _ (in_t6 (List.mem_of_getElem? (i := 105) rfl))) rfl
theorem w_1020 : Cond.code M_X11_rest.1 M_X11_rest.2.1 M_X11_rest.2.2.1 M_X11_rest.2.2.2 ∈ WL := wl_of (List.mem_append_right _ (in_t3 (List.mem_of_getElem? (i := 92) rfl))) rfl
theorem w_1021 : Cond.instanceMethod yX11_rest ∈ WL := wl_of (List.mem_append_right _ (in_t3 (List.mem_of_getElem? (i := 90) rfl))) rfl
theorem w_1022 : Cond.selects yX11_rest.cls yX11_rest yX11_rest ∈ WL := wl_of (List.mem_append_right _ (in_t3 (List.mem_of_getElem? (i := 91) rfl))) rfl
theorem cv_X11_rest : CalV M_X11_rest 2 11 := ⟨w_1021, w_1022, w_16, w_1020, by decide +kernel, by decide, ⟨TX11, 12, rfl⟩, ⟨_, _, rfl⟩⟩
theorem w_1023 : Cond.methodLink RL 48 yX11_rest ∈ WL := wl_of (List.mem_append_right _ (in_t3 (List.mem_of_getElem? (i := 89) rfl))) rfl
theorem w_1024 : Cond.code M_X12_rest.1 M_X12_rest.2.1 M_X12_rest.2.2.1 M_X12_rest.2.2.2 ∈ WL := wl_of (List.mem_append_right _ (in_t7 (List.mem_of_getElem? (i := 2) rfl))) rfl
theorem w_1025 : Cond.instanceMethod yX12_rest ∈ WL := wl_of (List.mem_append_right _ (in_t7 (List.mem_of_getElem? (i := 0) rfl))) rfl
theorem w_1026 : Cond.selects yX12_rest.cls yX12_rest yX12_rest ∈ WL := wl_of (List.mem_append_right _ (in_t7 (List.mem_of_getElem? (i := 1) rfl))) rfl
theorem cv_X12_rest : CalV M_X12_rest 2 12 := ⟨w_1025, w_1026, w_674, w_1024, by decide +kernel, by decide, ⟨TX12, 51, rfl⟩, ⟨_, _, rfl⟩⟩
theorem w_1027 : Cond.methodLink RL 51 yX12_rest ∈ WL := wl_of (List.mem_append_right _ (in_t6 (List.mem_of_getElem? (i := 239) rfl))) rfl
theorem w_1028 : Cond.code M_X11_weight.1 M_X11_weight.2.1 M_X11_weight.2.2.1 M_X11_weight.2.2.2 ∈ WL := wl_of (List.mem_append_right _ (in_t3 (List.mem_of_getElem? (i := 109) rfl))) rfl
theorem w_1029 : Cond.instanceMethod yX11_weight ∈ WL := wl_of (List.mem_append_right _ (in_t3 (List.mem_of_getElem? (i := 107) rfl))) rfl
theorem w_1030 : Cond.selects yX11_weight.cls yX11_weight yX11_weight ∈ WL := wl_of (List.mem_append_right _ (in_t3 (List.mem_of_getElem? (i := 108) rfl))) rfl
theorem cv_X11_weight : CalV M_X11_weight 3 11 := ⟨w_1029, w_1030, w_16, w_1028, by decide +kernel, by decide, ⟨TX11, 12, rfl⟩, ⟨_, _, rfl⟩⟩
theorem w_1031 : Cond.methodLink RL 52 yX11_weight ∈ WL := wl_of (List.mem_append_right _ (in_t3 (List.mem_of_getElem? (i := 106) rfl))) rfl
theorem w_1032 : Cond.code M_X12_weight.1 M_X12_weight.2.1 M_X12_weight.2.2.1 M_X12_weight.2.2.2 ∈ WL := wl_of (List.mem_append_right _ (in_t7 (List.mem_of_getElem? (i := 10) rfl))) rfl
theorem w_1033 : Cond.instanceMethod yX12_weight ∈ WL := wl_of (List.mem_append_right _ (in_t7 (List.mem_of_getElem? (i := 8) rfl))) rfl
theorem w_1034 : Cond.selects yX12_weight.cls yX12_weight yX12_weight ∈ WL := wl_of (List.mem_append_right _ (in_t7 (List.mem_of_getElem? (i := 9) rfl))) rfl
theorem cv_X12_weight : CalV M_X12_weight 3 12 := ⟨w_1033, w_1034, w_674, w_1032, by decide +kernel, by decide, ⟨TX12, 51, rfl⟩, ⟨_, _, rfl⟩⟩
theorem w_1035 : Cond.methodLink RL 56 yX12_weight ∈ WL := wl_of (List.mem_append_right _ (in_t7 (List.mem_of_getElem? (i := 7) rfl))) rfl
theorem w_1036 : Cond.code M_X11_comes.1 M_X11_comes.2.1 M_X11_comes.2.2.1 M_X11_comes.2.2.2 ∈ WL := wl_of (List.mem_append_right _ (in_t3 (List.mem_of_getElem? (i := 122) rfl))) rfl
theorem w_1037 : Cond.instanceMethod yX11_comes ∈ WL := wl_of (List.mem_append_right _ (in_t3 (List.mem_of_getElem? (i := 120) rfl))) rfl
theorem w_1038 : Cond.selects yX11_comes.cls yX11_comes yX11_comes ∈ WL := wl_of (List.mem_append_right _ (in_t3 (List.mem_of_getElem? (i := 121) rfl))) rfl
theorem cv_X11_comes : CalV M_X11_comes 6 11 := ⟨w_1037, w_1038, w_16, w_1036, by decide +kernel, by decide, ⟨TX11, 12, rfl⟩, ⟨_, _, rfl⟩⟩
theorem w_1039 : Cond.methodLink RL 57 yX11_comes ∈ WL := wl_of (List.mem_append_right _ (in_t3 (List.mem_of_getElem? (i := 119) rfl))) rfl
theorem w_1040 : Cond.code M_X12_comes.1 M_X12_comes.2.1 M_X12_comes.2.2.1 M_X12_comes.2.2.2 ∈ WL := wl_of (List.mem_append_right _ (in_t7 (List.mem_of_getElem? (i := 46) rfl))) rfl
theorem w_1041 : Cond.instanceMethod yX12_comes ∈ WL := wl_of (List.mem_append_right _ (in_t7 (List.mem_of_getElem? (i := 44) rfl))) rfl
theorem w_1042 : Cond.selects yX12_comes.cls yX12_comes yX12_comes ∈ WL := wl_of (List.mem_append_right _ (in_t7 (List.mem_of_getElem? (i := 45) rfl))) rfl
theorem cv_X12_comes : CalV M_X12_comes 6 12 := ⟨w_1041, w_1042, w_674, w_1040, by decide +kernel, by decide, ⟨TX12, 51, rfl⟩, ⟨_, _, rfl⟩⟩
theorem w_1043 : Cond.methodLink RL 61 yX12_comes ∈ WL := wl_of (List.mem_append_right _ (in_t7 (List.mem_of_getElem? (i := 43) rfl))) rfl
theorem w_1044 : Cond.code M_X11_lobes.1 M_X11_lobes.2.1 M_X11_lobes.2.2.1 M_X11_lobes.2.2.2 ∈ WL := wl_of (List.mem_append_right _ (in_t3 (List.mem_of_getElem? (i := 128) rfl))) rfl
theorem w_1045 : Cond.instanceMethod yX11_lobes ∈ WL := wl_of (List.mem_append_right _ (in_t3 (List.mem_of_getElem? (i := 126) rfl))) rfl
theorem w_1046 : Cond.selects yX11_lobes.cls yX11_lobes yX11_lobes ∈ WL := wl_of (List.mem_append_right _ (in_t3 (List.mem_of_getElem? (i := 127) rfl))) rfl
theorem cv_X11_lobes : CalV M_X11_lobes 3 11 := ⟨w_1045, w_1046, w_16, w_1044, by decide +kernel, by decide, ⟨TX11, 12, rfl⟩, ⟨_, _, rfl⟩⟩
theorem w_1047 : Cond.methodLink RL 62 yX11_lobes ∈ WL := wl_of (List.mem_append_right _ (in_t3 (List.mem_of_getElem? (i := 125) rfl))) rfl
theorem w_1048 : Cond.code M_X12_lobes.1 M_X12_lobes.2.1 M_X12_lobes.2.2.1 M_X12_lobes.2.2.2 ∈ WL := wl_of (List.mem_append_right _ (in_t7 (List.mem_of_getElem? (i := 58) rfl))) rfl
theorem w_1049 : Cond.instanceMethod yX12_lobes ∈ WL := wl_of (List.mem_append_right _ (in_t7 (List.mem_of_getElem? (i := 56) rfl))) rfl
theorem w_1050 : Cond.selects yX12_lobes.cls yX12_lobes yX12_lobes ∈ WL := wl_of (List.mem_append_right _ (in_t7 (List.mem_of_getElem? (i := 57) rfl))) rfl
theorem cv_X12_lobes : CalV M_X12_lobes 3 12 := ⟨w_1049, w_1050, w_674, w_1048, by decide +kernel, by decide, ⟨TX12, 51, rfl⟩, ⟨_, _, rfl⟩⟩
theorem w_1051 : Cond.methodLink RL 65 yX12_lobes ∈ WL := wl_of (List.mem_append_right _ (in_t7 (List.mem_of_getElem? (i := 55) rfl))) rfl
theorem w_1052 : Cond.code M_X11_hinder.1 M_X11_hinder.2.1 M_X11_hinder.2.2.1 M_X11_hinder.2.2.2 ∈ WL := wl_of (List.mem_append_right _ (in_t3 (List.mem_of_getElem? (i := 153) rfl))) rfl
theorem w_1053 : Cond.instanceMethod yX11_hinder ∈ WL := wl_of (List.mem_append_right _ (in_t3 (List.mem_of_getElem? (i := 151) rfl))) rfl
theorem w_1054 : Cond.selects yX11_hinder.cls yX11_hinder yX11_hinder ∈ WL := wl_of (List.mem_append_right _ (in_t3 (List.mem_of_getElem? (i := 152) rfl))) rfl
theorem cv_X11_hinder : CalV M_X11_hinder 2 11 := ⟨w_1053, w_1054, w_16, w_1052, by decide +kernel, by decide, ⟨TX11, 12, rfl⟩, ⟨_, _, rfl⟩⟩
theorem w_1055 : Cond.methodLink RL 66 yX11_hinder ∈ WL := wl_of (List.mem_append_right _ (in_t3 (List.mem_of_getElem? (i := 150) rfl))) rfl
theorem w_1056 : Cond.code M_X12_hinder.1 M_X12_hinder.2.1 M_X12_hinder.2.2.1 M_X12_hinder.2.2.2 ∈ WL := wl_of (List.mem_append_right _ (in_t7 (List.mem_of_getElem? (i := 66) rfl))) rfl
theorem w_1057 : Cond.instanceMethod yX12_hinder ∈ WL := wl_of (List.mem_append_right _ (in_t7 (List.mem_of_getElem? (i := 64) rfl))) rfl
theorem w_1058 : Cond.selects yX12_hinder.cls yX12_hinder yX12_hinder ∈ WL := wl_of (List.mem_append_right _ (in_t7 (List.mem_of_getElem? (i := 65) rfl))) rfl
theorem cv_X12_hinder : CalV M_X12_hinder 2 12 := ⟨w_1057, w_1058, w_674, w_1056, by decide +kernel, by decide, ⟨TX12, 51, rfl⟩, ⟨_, _, rfl⟩⟩
theorem w_1059 : Cond.methodLink RL 69 yX12_hinder ∈ WL := wl_of (List.mem_append_right _ (in_t7 (List.mem_of_getElem? (i := 63) rfl))) rfl
theorem w_1060 : Cond.code M_X11_friends.1 M_X11_friends.2.1 M_X11_friends.2.2.1 M_X11_friends.2.2.2 ∈ WL := wl_of (List.mem_append_right _ (in_t3 (List.mem_of_getElem? (i := 161) rfl))) rfl
theorem w_1061 : Cond.instanceMethod yX11_friends ∈ WL := wl_of (List.mem_append_right _ (in_t3 (List.mem_of_getElem? (i := 159) rfl))) rfl
theorem w_1062 : Cond.selects yX11_friends.cls yX11_friends yX11_friends ∈ WL := wl_of (List.mem_append_right _ (in_t3 (List.mem_of_getElem? (i := 160) rfl))) rfl
theorem cv_X11_friends : CalV M_X11_friends 1 11 := ⟨w_1061, w_1062, w_16, w_1060, by decide +kernel, by decide, ⟨TX11, 12, rfl⟩, ⟨_, _, rfl⟩⟩
theorem w_1063 : Cond.methodLink RL 70 yX11_friends ∈ WL := wl_of (List.mem_append_right _ (in_t3 (List.mem_of_getElem? (i := 158) rfl))) rfl
theorem w_1064 : Cond.code M_X12_friends.1 M_X12_friends.2.1 M_X12_friends.2.2.1 M_X12_friends.2.2.2 ∈ WL := wl_of (List.mem_append_right _ (in_t7 (List.mem_of_getElem? (i := 74) rfl))) rfl
theorem w_1065 : Cond.instanceMethod yX12_friends ∈ WL := wl_of (List.mem_append_right _ (in_t7 (List.mem_of_getElem? (i := 72) rfl))) rfl
theorem w_1066 : Cond.selects yX12_friends.cls yX12_friends yX12_friends ∈ WL := wl_of (List.mem_append_right _ (in_t7 (List.mem_of_getElem? (i := 73) rfl))) rfl
theorem cv_X12_friends : CalV M_X12_friends 1 12 := ⟨w_1065, w_1066, w_674, w_1064, by decide +kernel, by decide, ⟨TX12, 51, rfl⟩, ⟨_, _, rfl⟩⟩
theorem w_1067 : Cond.methodLink RL 73 yX12_friends ∈ WL := wl_of (List.mem_append_right _ (in_t7 (List.mem_of_getElem? (i := 71) rfl))) rfl
theorem w_1068 : Cond.code M_X11_best.1 M_X11_best.2.1 M_X11_best.2.2.1 M_X11_best.2.2.2 ∈ WL := wl_of (List.mem_append_right _ (in_t3 (List.mem_of_getElem? (i := 180) rfl))) rfl
theorem w_1069 : Cond.instanceMethod yX11_best ∈ WL := wl_of (List.mem_append_right _ (in_t3 (List.mem_of_getElem? (i := 178) rfl))) rfl
theorem w_1070 : Cond.selects yX11_best.cls yX11_best yX11_best ∈ WL := wl_of (List.mem_append_right _ (in_t3 (List.mem_of_getElem? (i := 179) rfl))) rfl
theorem cv_X11_best : CalV M_X11_best 2 11 := ⟨w_1069, w_1070, w_16, w_1068, by decide +kernel, by decide, ⟨TX11, 12, rfl⟩, ⟨_, _, rfl⟩⟩
theorem w_1071 : Cond.methodLink RL 74 yX11_best ∈ WL := wl_of (List.mem_append_right _ (in_t3 (List.mem_of_getElem? (i := 177) rfl))) rfl
theorem w_1072 : Cond.code M_X12_best.1 M_X12_best.2.1 M_X12_best.2.2.1 M_X12_best.2.2.2 ∈ WL := wl_of (List.mem_append_right _ (in_t7 (List.mem_of_getElem? (i := 86) rfl))) rfl
theorem w_1073 : Cond.instanceMethod yX12_best ∈ WL := wl_of (List.mem_append_right _ (in_t7 (List.mem_of_getElem? (i := 84) rfl))) rfl
theorem w_1074 : Cond.selects yX12_best.cls yX12_best yX12_best ∈ WL := wl_of (List.mem_append_right _ (in_t7 (List.mem_of_getElem? (i := 85) rfl))) rfl
theorem cv_X12_best : CalV M_X12_best 2 12 := ⟨w_1073, w_1074, w_674, w_1072, by decide +kernel, by decide, ⟨TX12, 51, rfl⟩, ⟨_, _, rfl⟩⟩
theorem w_1075 : Cond.methodLink RL 77 yX12_best ∈ WL := wl_of (List.mem_append_right _ (in_t7 (List.mem_of_getElem? (i := 83) rfl))) rfl
theorem w_1076 : Cond.code M_X11_filter.1 M_X11_filter.2.1 M_X11_filter.2.2.1 M_X11_filter.2.2.2 ∈ WL := wl_of (List.mem_append_right _ (in_t3 (List.mem_of_getElem? (i := 203) rfl))) rfl
theorem w_1077 : Cond.instanceMethod yX11_filter ∈ WL := wl_of (List.mem_append_right _ (in_t3 (List.mem_of_getElem? (i := 201) rfl))) rfl
theorem w_1078 : Cond.selects yX11_filter.cls yX11_filter yX11_filter ∈ WL := wl_of (List.mem_append_right _ (in_t3 (List.mem_of_getElem? (i := 202) rfl))) rfl
theorem cv_X11_filter : CalV M_X11_filter 2 11 := ⟨w_1077, w_1078, w_16, w_1076, by decide +kernel, by decide, ⟨TX11, 12, rfl⟩, ⟨_, _, rfl⟩⟩
theorem w_1079 : Cond.methodLink RL 78 yX11_filter ∈ WL := wl_of (List.mem_append_right _ (in_t3 (List.mem_of_getElem? (i := 200) rfl))) rfl
theorem w_1080 : Cond.code M_X12_filter.1 M_X12_filter.2.1 M_X12_filter.2.2.1 M_X12_filter.2.2.2 ∈ WL := wl_of (List.mem_append_right _ (in_t7 (List.mem_of_getElem? (i := 93) rfl))) rfl
theorem w_1081 : Cond.instanceMethod yX12_filter ∈ WL := wl_of (List.mem_append_right _ (in_t7 (List.mem_of_getElem? (i := 91) rfl))) rfl
theorem w_1082 : Cond.selects yX12_filter.cls yX12_filter yX12_filter ∈ WL := wl_of (List.mem_append_right _ (in_t7 (List.mem_of_getElem? (i := 92) rfl))) rfl
theorem cv_X12_filter : CalV M_X12_filter 2 12 := ⟨w_1081, w_1082, w_674, w_1080, by decide +kernel, by decide, ⟨TX12, 51, rfl⟩, ⟨_, _, rfl⟩⟩
theorem w_1083 : Cond.methodLink RL 81 yX12_filter ∈ WL := wl_of (List.mem_append_right _ (in_t7 (List.mem_of_getElem? (i := 90) rfl))) rfl
theorem w_1084 : Cond.code M_X11_set.1 M_X11_set.2.1 M_X11_set.2.2.1 M_X11_set.2.2.2 ∈ WL := wl_of (List.mem_append_right _ (in_t3 (List.mem_of_getElem? (i := 228) rfl))) rfl
theorem w_1085 : Cond.instanceMethod yX11_set ∈ WL := wl_of (List.mem_append_right _ (in_t3 (List.mem_of_getElem? (i := 226) rfl))) rfl
theorem w_1086 : Cond.selects yX11_set.cls yX11_set yX11_set ∈ WL := wl_of (List.mem_append_right _ (in_t3 (List.mem_of_getElem? (i := 227) rfl))) rfl
theorem cv_X11_set : CalV M_X11_set 2 11 := ⟨w_1085, w_1086, w_16, w_1084, by decide +kernel, by decide, ⟨TX11, 12, rfl⟩, ⟨_, _, rfl⟩⟩
theorem w_1087 : Cond.methodLink RL 82 yX11_set ∈ WL := wl_of (List.mem_append_right _ (in_t3 (List.mem_of_getElem? (i := 225) rfl))) rfl
theorem w_1088 : Cond.code M_X12_set.1 M_X12_set.2.1 M_X12_set.2.2.1 M_X12_set.2.2.2 ∈ WL := wl_of (List.mem_append_right _ (in_t7 (List.mem_of_getElem? (i := 97) rfl))) rfl
theorem w_1089 : Cond.instanceMethod yX12_set ∈ WL := wl_of (List.mem_append_right _ (in_t7 (List.mem_of_getElem? (i := 95) rfl))) rfl
theorem w_1090 : Cond.selects yX12_set.cls yX12_set yX12_set ∈ WL := wl_of (List.mem_append_right _ (in_t7 (List.mem_of_getElem? (i := 96) rfl))) rfl
theorem cv_X12_set : CalV M_X12_set 2 12 := ⟨w_1089, w_1090, w_674, w_1088, by decide +kernel, by decide, ⟨TX12, 51, rfl⟩, ⟨_, _, rfl⟩⟩
theorem w_1091 : Cond.methodLink RL 86 yX12_set ∈ WL := wl_of (List.mem_append_right _ (in_t7 (List.mem_of_getElem? (i := 94) rfl))) rfl
theorem w_1092 : Cond.code M_X11_seen.1 M_X11_seen.2.1 M_X11_seen.2.2.1 M_X11_seen.2.2.2 ∈ WL := wl_of (List.mem_append_right _ (in_t3 (List.mem_of_getElem? (i := 236) rfl))) rfl
theorem w_1093 : Cond.instanceMethod yX11_seen ∈ WL := wl_of (List.mem_append_right _ (in_t3 (List.mem_of_getElem? (i := 234) rfl))) rfl
theorem w_1094 : Cond.selects yX11_seen.cls yX11_seen yX11_seen ∈ WL := wl_of (List.mem_append_right _ (in_t3 (List.mem_of_getElem? (i := 235) rfl))) rfl
theorem cv_X11_seen : CalV M_X11_seen 2 11 := ⟨w_1093, w_1094, w_16, w_1092, by decide +kernel, by decide, ⟨TX11, 12, rfl⟩, ⟨_, _, rfl⟩⟩
theorem w_1095 : Cond.methodLink RL 87 yX11_seen ∈ WL := wl_of (List.mem_append_right _ (in_t3 (List.mem_of_getElem? (i := 233) rfl))) rfl
theorem w_1096 : Cond.code M_X12_seen.1 M_X12_seen.2.1 M_X12_seen.2.2.1 M_X12_seen.2.2.2 ∈ WL := wl_of (List.mem_append_right _ (in_t7 (List.mem_of_getElem? (i := 101) rfl))) rfl
theorem w_1097 : Cond.instanceMethod yX12_seen ∈ WL := wl_of (List.mem_append_right _ (in_t7 (List.mem_of_getElem? (i := 99) rfl))) rfl
theorem w_1098 : Cond.selects yX12_seen.cls yX12_seen yX12_seen ∈ WL := wl_of (List.mem_append_right _ (in_t7 (List.mem_of_getElem? (i := 100) rfl))) rfl
theorem cv_X12_seen : CalV M_X12_seen 2 12 := ⟨w_1097, w_1098, w_674, w_1096, by decide +kernel, by decide, ⟨TX12, 51, rfl⟩, ⟨_, _, rfl⟩⟩
theorem w_1099 : Cond.methodLink RL 90 yX12_seen ∈ WL := wl_of (List.mem_append_right _ (in_t7 (List.mem_of_getElem? (i := 98) rfl))) rfl
theorem w_1100 : Cond.code M_X11_map.1 M_X11_map.2.1 M_X11_map.2.2.1 M_X11_map.2.2.2 ∈ WL := wl_of (List.mem_append_right _ (in_t4 (List.mem_of_getElem? (i := 18) rfl))) rfl
theorem w_1101 : Cond.instanceMethod yX11_map ∈ WL := wl_of (List.mem_append_right _ (in_t4 (List.mem_of_getElem? (i := 16) rfl))) rfl
theorem w_1102 : Cond.selects yX11_map.cls yX11_map yX11_map ∈ WL := wl_of (List.mem_append_right _ (in_t4 (List.mem_of_getElem? (i := 17) rfl))) rfl
theorem cv_X11_map : CalV M_X11_map 3 11 := ⟨w_1101, w_1102, w_16, w_1100, by decide +kernel, by decide, ⟨TX11, 12, rfl⟩, ⟨_, _, rfl⟩⟩
theorem w_1103 : Cond.methodLink RL 91 yX11_map ∈ WL := wl_of (List.mem_append_right _ (in_t4 (List.mem_of_getElem? (i := 15) rfl))) rfl
theorem w_1104 : Cond.code M_X12_map.1 M_X12_map.2.1 M_X12_map.2.2.1 M_X12_map.2.2.2 ∈ WL := wl_of (List.mem_append_right _ (in_t7 (List.mem_of_getElem? (i := 109) rfl))) rfl
theorem w_1105 : Cond.instanceMethod yX12_map ∈ WL := wl_of (List.mem_append_right _ (in_t7 (List.mem_of_getElem? (i := 107) rfl))) rfl
theorem w_1106 : Cond.selects yX12_map.cls yX12_map yX12_map ∈ WL := wl_of (List.mem_append_right _ (in_t7 (List.mem_of_getElem? (i := 108) rfl))) rfl
theorem cv_X12_map : CalV M_X12_map 3 12 := ⟨w_1105, w_1106, w_674, w_1104, by decide +kernel, by decide, ⟨TX12, 51, rfl⟩, ⟨_, _, rfl⟩⟩
theorem w_1107 : Cond.methodLink RL 94 yX12_map ∈ WL := wl_of (List.mem_append_right _ (in_t7 (List.mem_of_getElem? (i := 106) rfl))) rfl
theorem w_1108 : Cond.code M_X11_choice.1 M_X11_choice.2.1 M_X11_choice.2.2.1 M_X11_choice.2.2.2 ∈ WL := wl_of (List.mem_append_right _ (in_t4 (List.mem_of_getElem? (i := 31) rfl))) rfl
theorem w_1109 : Cond.instanceMethod yX11_choice ∈ WL := wl_of (List.mem_append_right _ (in_t4 (List.mem_of_getElem? (i := 29) rfl))) rfl
theorem w_1110 : Cond.selects yX11_choice.cls yX11_choice yX11_choice ∈ WL := wl_of (List.mem_append_right _ (in_t4 (List.mem_of_getElem? (i := 30) rfl))) rfl
theorem cv_X11_choice : CalV M_X11_choice 4 11 := ⟨w_1109, w_1110, w_16, w_1108, by decide +kernel, by decide, ⟨TX11, 12, rfl⟩, ⟨_, _, rfl⟩⟩
theorem w_1111 : Cond.methodLink RL 95 yX11_choice ∈ WL := wl_of (List.mem_append_right _ (in_t4 (List.mem_of_getElem? (i := 28) rfl))) rfl
theorem w_1112 : Cond.code M_X12_choice.1 M_X12_choice.2.1 M_X12_choice.2.2.1 M_X12_choice.2.2.2 ∈ WL := wl_of (List.mem_append_right _ (in_t7 (List.mem_of_getElem? (i := 117) rfl))) rfl
theorem w_1113 : Cond.instanceMethod yX12_choice ∈ WL := wl_of (List.mem_append_right _ (in_t7 (List.mem_of_getElem? (i := 115) rfl))) rfl
theorem w_1114 : Cond.selects yX12_choice.cls yX12_choice yX12_choice ∈ WL := wl_of (List.mem_append_right _ (in_t7 (List.mem_of_getElem? (i := 116) rfl))) rfl
theorem cv_X12_choice : CalV M_X12_choice 4 12 := ⟨w_1113, w_1114, w_674, w_1112, by decide +kernel, by decide, ⟨TX12, 51, rfl⟩, ⟨_, _, rfl⟩⟩
theorem w_1115 : Cond.methodLink RL 99 yX12_choice ∈ WL := wl_of (List.mem_append_right _ (in_t7 (List.mem_of_getElem? (i := 114) rfl))) rfl
theorem w_1116 : Cond.code M_X11_read.1 M_X11_read.2.1 M_X11_read.2.2.1 M_X11_read.2.2.2 ∈ WL := wl_of (List.mem_append_right _ (in_t4 (List.mem_of_getElem? (i := 47) rfl))) rfl
theorem w_1117 : Cond.instanceMethod yX11_read ∈ WL := wl_of (List.mem_append_right _ (in_t4 (List.mem_of_getElem? (i := 45) rfl))) rfl
theorem w_1118 : Cond.selects yX11_read.cls yX11_read yX11_read ∈ WL := wl_of (List.mem_append_right _ (in_t4 (List.mem_of_getElem? (i := 46) rfl))) rfl
theorem cv_X11_read : CalV M_X11_read 2 11 := ⟨w_1117, w_1118, w_16, w_1116, by decide +kernel, by decide, ⟨TX11, 12, rfl⟩, ⟨_, _, rfl⟩⟩
theorem w_1119 : Cond.methodLink RL 100 yX11_read ∈ WL := wl_of (List.mem_append_right _ (in_t4 (List.mem_of_getElem? (i := 44) rfl))) rfl
theorem w_1120 : Cond.code M_X12_read.1 M_X12_read.2.1 M_X12_read.2.2.1 M_X12_read.2.2.2 ∈ WL := wl_of (List.mem_append_right _ (in_t7 (List.mem_of_getElem? (i := 121) rfl))) rfl
theorem w_1121 : Cond.instanceMethod yX12_read ∈ WL := wl_of (List.mem_append_right _ (in_t7 (List.mem_of_getElem? (i := 119) rfl))) rfl
theorem w_1122 : Cond.selects yX12_read.cls yX12_read yX12_read ∈ WL := wl_of (List.mem_append_right _ (in_t7 (List.mem_of_getElem? (i := 120) rfl))) rfl
theorem cv_X12_read : CalV M_X12_read 2 12 := ⟨w_1121, w_1122, w_674, w_1120, by decide +kernel, by decide, ⟨TX12, 51, rfl⟩, ⟨_, _, rfl⟩⟩
theorem w_1123 : Cond.methodLink RL 103 yX12_read ∈ WL := wl_of (List.mem_append_right _ (in_t7 (List.mem_of_getElem? (i := 118) rfl))) rfl
theorem w_1124 : Cond.code M_X11_unfold.1 M_X11_unfold.2.1 M_X11_unfold.2.2.1 M_X11_unfold.2.2.2 ∈ WL := wl_of (List.mem_append_right _ (in_t4 (List.mem_of_getElem? (i := 55) rfl))) rfl
theorem w_1125 : Cond.instanceMethod yX11_unfold ∈ WL := wl_of (List.mem_append_right _ (in_t4 (List.mem_of_getElem? (i := 53) rfl))) rfl
theorem w_1126 : Cond.selects yX11_unfold.cls yX11_unfold yX11_unfold ∈ WL := wl_of (List.mem_append_right _ (in_t4 (List.mem_of_getElem? (i := 54) rfl))) rfl
theorem cv_X11_unfold : CalV M_X11_unfold 5 11 := ⟨w_1125, w_1126, w_16, w_1124, by decide +kernel, by decide, ⟨TX11, 12, rfl⟩, ⟨_, _, rfl⟩⟩
theorem w_1127 : Cond.methodLink RL 104 yX11_unfold ∈ WL := wl_of (List.mem_append_right _ (in_t4 (List.mem_of_getElem? (i := 52) rfl))) rfl
theorem w_1128 : Cond.code M_X12_unfold.1 M_X12_unfold.2.1 M_X12_unfold.2.2.1 M_X12_unfold.2.2.2 ∈ WL := wl_of (List.mem_append_right _ (in_t7 (List.mem_of_getElem? (i := 125) rfl))) rfl
theorem w_1129 : Cond.instanceMethod yX12_unfold ∈ WL := wl_of (List.mem_append_right _ (in_t7 (List.mem_of_getElem? (i := 123) rfl))) rfl
theorem w_1130 : Cond.selects yX12_unfold.cls yX12_unfold yX12_unfold ∈ WL := wl_of (List.mem_append_right _ (in_t7 (List.mem_of_getElem? (i := 124) rfl))) rfl
theorem cv_X12_unfold : CalV M_X12_unfold 5 12 := ⟨w_1129, w_1130, w_674, w_1128, by decide +kernel, by decide, ⟨TX12, 51, rfl⟩, ⟨_, _, rfl⟩⟩
theorem w_1131 : Cond.methodLink RL 107 yX12_unfold ∈ WL := wl_of (List.mem_append_right _ (in_t7 (List.mem_of_getElem? (i := 122) rfl))) rfl
theorem w_1132 : Cond.code M_X11_ghosts.1 M_X11_ghosts.2.1 M_X11_ghosts.2.2.1 M_X11_ghosts.2.2.2 ∈ WL := wl_of (List.mem_append_right _ (in_t4 (List.mem_of_getElem? (i := 75) rfl))) rfl
theorem w_1133 : Cond.instanceMethod yX11_ghosts ∈ WL := wl_of (List.mem_append_right _ (in_t4 (List.mem_of_getElem? (i := 73) rfl))) rfl
theorem w_1134 : Cond.selects yX11_ghosts.cls yX11_ghosts yX11_ghosts ∈ WL := wl_of (List.mem_append_right _ (in_t4 (List.mem_of_getElem? (i := 74) rfl))) rfl
theorem cv_X11_ghosts : CalV M_X11_ghosts 4 11 := ⟨w_1133, w_1134, w_16, w_1132, by decide +kernel, by decide, ⟨TX11, 12, rfl⟩, ⟨_, _, rfl⟩⟩
theorem w_1135 : Cond.methodLink RL 108 yX11_ghosts ∈ WL := wl_of (List.mem_append_right _ (in_t4 (List.mem_of_getElem? (i := 72) rfl))) rfl
theorem w_1136 : Cond.code M_X12_ghosts.1 M_X12_ghosts.2.1 M_X12_ghosts.2.2.1 M_X12_ghosts.2.2.2 ∈ WL := wl_of (List.mem_append_right _ (in_t7 (List.mem_of_getElem? (i := 138) rfl))) rfl
theorem w_1137 : Cond.instanceMethod yX12_ghosts ∈ WL := wl_of (List.mem_append_right _ (in_t7 (List.mem_of_getElem? (i := 136) rfl))) rfl
theorem w_1138 : Cond.selects yX12_ghosts.cls yX12_ghosts yX12_ghosts ∈ WL := wl_of (List.mem_append_right _ (in_t7 (List.mem_of_getElem? (i := 137) rfl))) rfl
theorem cv_X12_ghosts : CalV M_X12_ghosts 4 12 := ⟨w_1137, w_1138, w_674, w_1136, by decide +kernel, by decide, ⟨TX12, 51, rfl⟩, ⟨_, _, rfl⟩⟩
theorem w_1139 : Cond.methodLink RL 111 yX12_ghosts ∈ WL := wl_of (List.mem_append_right _ (in_t7 (List.mem_of_getElem? (i := 135) rfl))) rfl
theorem w_1140 : Cond.code M_X11_cell.1 M_X11_cell.2.1 M_X11_cell.2.2.1 M_X11_cell.2.2.2 ∈ WL := wl_of (List.mem_append_right _ (in_t4 (List.mem_of_getElem? (i := 87) rfl))) rfl
theorem w_1141 : Cond.instanceMethod yX11_cell ∈ WL := wl_of (List.mem_append_right _ (in_t4 (List.mem_of_getElem? (i := 85) rfl))) rfl
theorem w_1142 : Cond.selects yX11_cell.cls yX11_cell yX11_cell ∈ WL := wl_of (List.mem_append_right _ (in_t4 (List.mem_of_getElem? (i := 86) rfl))) rfl
theorem cv_X11_cell : CalV M_X11_cell 1 11 := ⟨w_1141, w_1142, w_16, w_1140, by decide +kernel, by decide, ⟨TX11, 12, rfl⟩, ⟨_, _, rfl⟩⟩
theorem w_1143 : Cond.methodLink RL 112 yX11_cell ∈ WL := wl_of (List.mem_append_right _ (in_t4 (List.mem_of_getElem? (i := 84) rfl))) rfl
theorem w_1144 : Cond.code M_X12_cell.1 M_X12_cell.2.1 M_X12_cell.2.2.1 M_X12_cell.2.2.2 ∈ WL := wl_of (List.mem_append_right _ (in_t7 (List.mem_of_getElem? (i := 146) rfl))) rfl
theorem w_1145 : Cond.instanceMethod yX12_cell ∈ WL := wl_of (List.mem_append_right _ (in_t7 (List.mem_of_getElem? (i := 144) rfl))) rfl
theorem w_1146 : Cond.selects yX12_cell.cls yX12_cell yX12_cell ∈ WL := wl_of (List.mem_append_right _ (in_t7 (List.mem_of_getElem? (i := 145) rfl))) rfl
theorem cv_X12_cell : CalV M_X12_cell 1 12 := ⟨w_1145, w_1146, w_674, w_1144, by decide +kernel, by decide, ⟨TX12, 51, rfl⟩, ⟨_, _, rfl⟩⟩
theorem w_1147 : Cond.methodLink RL 115 yX12_cell ∈ WL := wl_of (List.mem_append_right _ (in_t7 (List.mem_of_getElem? (i := 143) rfl))) rfl
theorem w_1148 : Cond.code M_X11_change.1 M_X11_change.2.1 M_X11_change.2.2.1 M_X11_change.2.2.2 ∈ WL := wl_of (List.mem_append_right _ (in_t4 (List.mem_of_getElem? (i := 116) rfl))) rfl
theorem w_1149 : Cond.instanceMethod yX11_change ∈ WL := wl_of (List.mem_append_right _ (in_t4 (List.mem_of_getElem? (i := 114) rfl))) rfl
theorem w_1150 : Cond.selects yX11_change.cls yX11_change yX11_change ∈ WL := wl_of (List.mem_append_right _ (in_t4 (List.mem_of_getElem? (i := 115) rfl))) rfl
theorem cv_X11_change : CalV M_X11_change 2 11 := ⟨w_1149, w_1150, w_16, w_1148, by decide +kernel, by decide, ⟨TX11, 12, rfl⟩, ⟨_, _, rfl⟩⟩
theorem w_1151 : Cond.methodLink RL 116 yX11_change ∈ WL := wl_of (List.mem_append_right _ (in_t4 (List.mem_of_getElem? (i := 113) rfl))) rfl
theorem w_1152 : Cond.code M_X12_change.1 M_X12_change.2.1 M_X12_change.2.2.1 M_X12_change.2.2.2 ∈ WL := wl_of (List.mem_append_right _ (in_t7 (List.mem_of_getElem? (i := 164) rfl))) rfl
theorem w_1153 : Cond.instanceMethod yX12_change ∈ WL := wl_of (List.mem_append_right _ (in_t7 (List.mem_of_getElem? (i := 162) rfl))) rfl
theorem w_1154 : Cond.selects yX12_change.cls yX12_change yX12_change ∈ WL := wl_of (List.mem_append_right _ (in_t7 (List.mem_of_getElem? (i := 163) rfl))) rfl
theorem cv_X12_change : CalV M_X12_change 2 12 := ⟨w_1153, w_1154, w_674, w_1152, by decide +kernel, by decide, ⟨TX12, 51, rfl⟩, ⟨_, _, rfl⟩⟩
theorem w_1155 : Cond.methodLink RL 119 yX12_change ∈ WL := wl_of (List.mem_append_right _ (in_t7 (List.mem_of_getElem? (i := 161) rfl))) rfl
theorem w_1156 : Cond.constantLong RL 120 (4294967295) ∈ WL := wl_of (List.mem_append_right _ (in_t8 (List.mem_of_getElem? (i := 36) rfl))) rfl
theorem w_1157 : Cond.code M_X11_draw.1 M_X11_draw.2.1 M_X11_draw.2.2.1 M_X11_draw.2.2.2 ∈ WL := wl_of (List.mem_append_right _ (in_t4 (List.mem_of_getElem? (i := 129) rfl))) rfl
theorem w_1158 : Cond.instanceMethod yX11_draw ∈ WL := wl_of (List.mem_append_right _ (in_t4 (List.mem_of_getElem? (i := 127) rfl))) rfl
theorem w_1159 : Cond.selects yX11_draw.cls yX11_draw yX11_draw ∈ WL := wl_of (List.mem_append_right _ (in_t4 (List.mem_of_getElem? (i := 128) rfl))) rfl
theorem cv_X11_draw : CalV M_X11_draw 3 11 := ⟨w_1158, w_1159, w_16, w_1157, by decide +kernel, by decide, ⟨TX11, 12, rfl⟩, ⟨_, _, rfl⟩⟩
theorem w_1160 : Cond.methodLink RL 122 yX11_draw ∈ WL := wl_of (List.mem_append_right _ (in_t4 (List.mem_of_getElem? (i := 126) rfl))) rfl
theorem w_1161 : Cond.code M_X12_draw.1 M_X12_draw.2.1 M_X12_draw.2.2.1 M_X12_draw.2.2.2 ∈ WL := wl_of (List.mem_append_right _ (in_t7 (List.mem_of_getElem? (i := 172) rfl))) rfl
theorem w_1162 : Cond.instanceMethod yX12_draw ∈ WL := wl_of (List.mem_append_right _ (in_t7 (List.mem_of_getElem? (i := 170) rfl))) rfl
theorem w_1163 : Cond.selects yX12_draw.cls yX12_draw yX12_draw ∈ WL := wl_of (List.mem_append_right _ (in_t7 (List.mem_of_getElem? (i := 171) rfl))) rfl
theorem cv_X12_draw : CalV M_X12_draw 3 12 := ⟨w_1162, w_1163, w_674, w_1161, by decide +kernel, by decide, ⟨TX12, 51, rfl⟩, ⟨_, _, rfl⟩⟩
theorem w_1164 : Cond.methodLink RL 126 yX12_draw ∈ WL := wl_of (List.mem_append_right _ (in_t7 (List.mem_of_getElem? (i := 169) rfl))) rfl
theorem w_1165 : Cond.code M_X11_at.1 M_X11_at.2.1 M_X11_at.2.2.1 M_X11_at.2.2.2 ∈ WL := wl_of (List.mem_append_right _ (in_t4 (List.mem_of_getElem? (i := 139) rfl))) rfl
theorem w_1166 : Cond.instanceMethod yX11_at ∈ WL := wl_of (List.mem_append_right _ (in_t4 (List.mem_of_getElem? (i := 137) rfl))) rfl
theorem w_1167 : Cond.selects yX11_at.cls yX11_at yX11_at ∈ WL := wl_of (List.mem_append_right _ (in_t4 (List.mem_of_getElem? (i := 138) rfl))) rfl
theorem cv_X11_at : CalV M_X11_at 1 11 := ⟨w_1166, w_1167, w_16, w_1165, by decide +kernel, by decide, ⟨TX11, 12, rfl⟩, ⟨_, _, rfl⟩⟩
theorem w_1168 : Cond.methodLink RL 127 yX11_at ∈ WL := wl_of (List.mem_append_right _ (in_t4 (List.mem_of_getElem? (i := 136) rfl))) rfl
theorem w_1169 : Cond.code M_X12_at.1 M_X12_at.2.1 M_X12_at.2.2.1 M_X12_at.2.2.2 ∈ WL := wl_of (List.mem_append_right _ (in_t7 (List.mem_of_getElem? (i := 178) rfl))) rfl
theorem w_1170 : Cond.instanceMethod yX12_at ∈ WL := wl_of (List.mem_append_right _ (in_t7 (List.mem_of_getElem? (i := 176) rfl))) rfl
theorem w_1171 : Cond.selects yX12_at.cls yX12_at yX12_at ∈ WL := wl_of (List.mem_append_right _ (in_t7 (List.mem_of_getElem? (i := 177) rfl))) rfl
theorem cv_X12_at : CalV M_X12_at 1 12 := ⟨w_1170, w_1171, w_674, w_1169, by decide +kernel, by decide, ⟨TX12, 51, rfl⟩, ⟨_, _, rfl⟩⟩
theorem w_1172 : Cond.methodLink RL 130 yX12_at ∈ WL := wl_of (List.mem_append_right _ (in_t7 (List.mem_of_getElem? (i := 175) rfl))) rfl
theorem w_1173 : Cond.code M_X11_undo.1 M_X11_undo.2.1 M_X11_undo.2.2.1 M_X11_undo.2.2.2 ∈ WL := wl_of (List.mem_append_right _ (in_t4 (List.mem_of_getElem? (i := 147) rfl))) rfl
theorem w_1174 : Cond.instanceMethod yX11_undo ∈ WL := wl_of (List.mem_append_right _ (in_t4 (List.mem_of_getElem? (i := 145) rfl))) rfl
theorem w_1175 : Cond.selects yX11_undo.cls yX11_undo yX11_undo ∈ WL := wl_of (List.mem_append_right _ (in_t4 (List.mem_of_getElem? (i := 146) rfl))) rfl
theorem cv_X11_undo : CalV M_X11_undo 1 11 := ⟨w_1174, w_1175, w_16, w_1173, by decide +kernel, by decide, ⟨TX11, 12, rfl⟩, ⟨_, _, rfl⟩⟩
theorem w_1176 : Cond.methodLink RL 131 yX11_undo ∈ WL := wl_of (List.mem_append_right _ (in_t4 (List.mem_of_getElem? (i := 144) rfl))) rfl
theorem w_1177 : Cond.code M_X12_undo.1 M_X12_undo.2.1 M_X12_undo.2.2.1 M_X12_undo.2.2.2 ∈ WL := wl_of (List.mem_append_right _ (in_t7 (List.mem_of_getElem? (i := 182) rfl))) rfl
theorem w_1178 : Cond.instanceMethod yX12_undo ∈ WL := wl_of (List.mem_append_right _ (in_t7 (List.mem_of_getElem? (i := 180) rfl))) rfl
theorem w_1179 : Cond.selects yX12_undo.cls yX12_undo yX12_undo ∈ WL := wl_of (List.mem_append_right _ (in_t7 (List.mem_of_getElem? (i := 181) rfl))) rfl
theorem cv_X12_undo : CalV M_X12_undo 1 12 := ⟨w_1178, w_1179, w_674, w_1177, by decide +kernel, by decide, ⟨TX12, 51, rfl⟩, ⟨_, _, rfl⟩⟩
theorem w_1180 : Cond.methodLink RL 135 yX12_undo ∈ WL := wl_of (List.mem_append_right _ (in_t7 (List.mem_of_getElem? (i := 179) rfl))) rfl
theorem w_1181 : Cond.code M_X11_found.1 M_X11_found.2.1 M_X11_found.2.2.1 M_X11_found.2.2.2 ∈ WL := wl_of (List.mem_append_right _ (in_t4 (List.mem_of_getElem? (i := 159) rfl))) rfl
theorem w_1182 : Cond.instanceMethod yX11_found ∈ WL := wl_of (List.mem_append_right _ (in_t4 (List.mem_of_getElem? (i := 157) rfl))) rfl
theorem w_1183 : Cond.selects yX11_found.cls yX11_found yX11_found ∈ WL := wl_of (List.mem_append_right _ (in_t4 (List.mem_of_getElem? (i := 158) rfl))) rfl
theorem cv_X11_found : CalV M_X11_found 1 11 := ⟨w_1182, w_1183, w_16, w_1181, by decide +kernel, by decide, ⟨TX11, 12, rfl⟩, ⟨_, _, rfl⟩⟩
theorem w_1184 : Cond.methodLink RL 136 yX11_found ∈ WL := wl_of (List.mem_append_right _ (in_t4 (List.mem_of_getElem? (i := 156) rfl))) rfl
theorem w_1185 : Cond.methodLink RL 139 yX12_found ∈ WL := wl_of (List.mem_append_right _ (in_t7 (List.mem_of_getElem? (i := 183) rfl))) rfl
theorem w_1186 : Cond.code M_X11_alarms.1 M_X11_alarms.2.1 M_X11_alarms.2.2.1 M_X11_alarms.2.2.2 ∈ WL := wl_of (List.mem_append_right _ (in_t4 (List.mem_of_getElem? (i := 178) rfl))) rfl
theorem w_1187 : Cond.instanceMethod yX11_alarms ∈ WL := wl_of (List.mem_append_right _ (in_t4 (List.mem_of_getElem? (i := 176) rfl))) rfl
theorem w_1188 : Cond.selects yX11_alarms.cls yX11_alarms yX11_alarms ∈ WL := wl_of (List.mem_append_right _ (in_t4 (List.mem_of_getElem? (i := 177) rfl))) rfl
theorem cv_X11_alarms : CalV M_X11_alarms 0 11 := ⟨w_1187, w_1188, w_16, w_1186, by decide +kernel, by decide, ⟨TX11, 12, rfl⟩, ⟨_, _, rfl⟩⟩
theorem w_1189 : Cond.methodLink RL 140 yX11_alarms ∈ WL := wl_of (List.mem_append_right _ (in_t4 (List.mem_of_getElem? (i := 175) rfl))) rfl
theorem w_1190 : Cond.code M_X12_alarms.1 M_X12_alarms.2.1 M_X12_alarms.2.2.1 M_X12_alarms.2.2.2 ∈ WL := wl_of (List.mem_append_right _ (in_t7 (List.mem_of_getElem? (i := 194) rfl))) rfl
theorem w_1191 : Cond.instanceMethod yX12_alarms ∈ WL := wl_of (List.mem_append_right _ (in_t7 (List.mem_of_getElem? (i := 192) rfl))) rfl
theorem w_1192 : Cond.selects yX12_alarms.cls yX12_alarms yX12_alarms ∈ WL := wl_of (List.mem_append_right _ (in_t7 (List.mem_of_getElem? (i := 193) rfl))) rfl
theorem cv_X12_alarms : CalV M_X12_alarms 0 12 := ⟨w_1191, w_1192, w_674, w_1190, by decide +kernel, by decide, ⟨TX12, 51, rfl⟩, ⟨_, _, rfl⟩⟩
theorem w_1193 : Cond.methodLink RL 143 yX12_alarms ∈ WL := wl_of (List.mem_append_right _ (in_t7 (List.mem_of_getElem? (i := 191) rfl))) rfl
theorem w_1194 : Cond.code M_X11_share.1 M_X11_share.2.1 M_X11_share.2.2.1 M_X11_share.2.2.2 ∈ WL := wl_of (List.mem_append_right _ (in_t4 (List.mem_of_getElem? (i := 188) rfl))) rfl
theorem w_1195 : Cond.instanceMethod yX11_share ∈ WL := wl_of (List.mem_append_right _ (in_t4 (List.mem_of_getElem? (i := 186) rfl))) rfl
theorem w_1196 : Cond.selects yX11_share.cls yX11_share yX11_share ∈ WL := wl_of (List.mem_append_right _ (in_t4 (List.mem_of_getElem? (i := 187) rfl))) rfl
theorem cv_X11_share : CalV M_X11_share 5 11 := ⟨w_1195, w_1196, w_16, w_1194, by decide +kernel, by decide, ⟨TX11, 12, rfl⟩, ⟨_, _, rfl⟩⟩
theorem w_1197 : Cond.methodLink RL 144 yX11_share ∈ WL := wl_of (List.mem_append_right _ (in_t4 (List.mem_of_getElem? (i := 185) rfl))) rfl
theorem w_1198 : Cond.methodLink RL 148 yX12_share ∈ WL := wl_of (List.mem_append_right _ (in_t7 (List.mem_of_getElem? (i := 196) rfl))) rfl
theorem w_1199 : Cond.code M_X11_beam.1 M_X11_beam.2.1 M_X11_beam.2.2.1 M_X11_beam.2.2.2 ∈ WL := wl_of (List.mem_append_right _ (in_t4 (List.mem_of_getElem? (i := 223) rfl))) rfl
theorem w_1200 : Cond.instanceMethod yX11_beam ∈ WL := wl_of (List.mem_append_right _ (in_t4 (List.mem_of_getElem? (i := 221) rfl))) rfl
theorem w_1201 : Cond.selects yX11_beam.cls yX11_beam yX11_beam ∈ WL := wl_of (List.mem_append_right _ (in_t4 (List.mem_of_getElem? (i := 222) rfl))) rfl
theorem cv_X11_beam : CalV M_X11_beam 3 11 := ⟨w_1200, w_1201, w_16, w_1199, by decide +kernel, by decide, ⟨TX11, 12, rfl⟩, ⟨_, _, rfl⟩⟩
theorem w_1202 : Cond.methodLink RL 149 yX11_beam ∈ WL := wl_of (List.mem_append_right _ (in_t4 (List.mem_of_getElem? (i := 220) rfl))) rfl
theorem w_1203 : Cond.code M_X12_beam.1 M_X12_beam.2.1 M_X12_beam.2.2.1 M_X12_beam.2.2.2 ∈ WL := wl_of (List.mem_append_right _ (in_t7 (List.mem_of_getElem? (i := 213) rfl))) rfl
theorem w_1204 : Cond.instanceMethod yX12_beam ∈ WL := wl_of (List.mem_append_right _ (in_t7 (List.mem_of_getElem? (i := 211) rfl))) rfl
theorem w_1205 : Cond.selects yX12_beam.cls yX12_beam yX12_beam ∈ WL := wl_of (List.mem_append_right _ (in_t7 (List.mem_of_getElem? (i := 212) rfl))) rfl
theorem cv_X12_beam : CalV M_X12_beam 3 12 := ⟨w_1204, w_1205, w_674, w_1203, by decide +kernel, by decide, ⟨TX12, 51, rfl⟩, ⟨_, _, rfl⟩⟩
theorem w_1206 : Cond.methodLink RL 152 yX12_beam ∈ WL := wl_of (List.mem_append_right _ (in_t7 (List.mem_of_getElem? (i := 210) rfl))) rfl
theorem w_1207 : Cond.code M_X11_plan.1 M_X11_plan.2.1 M_X11_plan.2.2.1 M_X11_plan.2.2.2 ∈ WL := wl_of (List.mem_append_right _ (in_t4 (List.mem_of_getElem? (i := 239) rfl))) rfl
theorem w_1208 : Cond.instanceMethod yX11_plan ∈ WL := wl_of (List.mem_append_right _ (in_t4 (List.mem_of_getElem? (i := 237) rfl))) rfl
theorem w_1209 : Cond.selects yX11_plan.cls yX11_plan yX11_plan ∈ WL := wl_of (List.mem_append_right _ (in_t4 (List.mem_of_getElem? (i := 238) rfl))) rfl
theorem cv_X11_plan : CalV M_X11_plan 1 11 := ⟨w_1208, w_1209, w_16, w_1207, by decide +kernel, by decide, ⟨TX11, 12, rfl⟩, ⟨_, _, rfl⟩⟩
theorem w_1210 : Cond.methodLink RL 153 yX11_plan ∈ WL := wl_of (List.mem_append_right _ (in_t4 (List.mem_of_getElem? (i := 236) rfl))) rfl
theorem w_1211 : Cond.code M_X12_plan.1 M_X12_plan.2.1 M_X12_plan.2.2.1 M_X12_plan.2.2.2 ∈ WL := wl_of (List.mem_append_right _ (in_t7 (List.mem_of_getElem? (i := 217) rfl))) rfl
theorem w_1212 : Cond.instanceMethod yX12_plan ∈ WL := wl_of (List.mem_append_right _ (in_t7 (List.mem_of_getElem? (i := 215) rfl))) rfl
theorem w_1213 : Cond.selects yX12_plan.cls yX12_plan yX12_plan ∈ WL := wl_of (List.mem_append_right _ (in_t7 (List.mem_of_getElem? (i := 216) rfl))) rfl
theorem cv_X12_plan : CalV M_X12_plan 1 12 := ⟨w_1212, w_1213, w_674, w_1211, by decide +kernel, by decide, ⟨TX12, 51, rfl⟩, ⟨_, _, rfl⟩⟩
theorem w_1214 : Cond.methodLink RL 156 yX12_plan ∈ WL := wl_of (List.mem_append_right _ (in_t7 (List.mem_of_getElem? (i := 214) rfl))) rfl
theorem w_1215 : Cond.code M_X11_like.1 M_X11_like.2.1 M_X11_like.2.2.1 M_X11_like.2.2.2 ∈ WL := wl_of (List.mem_append_right _ (in_t5 (List.mem_of_getElem? (i := 16) rfl))) rfl
theorem w_1216 : Cond.instanceMethod yX11_like ∈ WL := wl_of (List.mem_append_right _ (in_t5 (List.mem_of_getElem? (i := 14) rfl))) rfl
theorem w_1217 : Cond.selects yX11_like.cls yX11_like yX11_like ∈ WL := wl_of (List.mem_append_right _ (in_t5 (List.mem_of_getElem? (i := 15) rfl))) rfl
theorem cv_X11_like : CalV M_X11_like 2 11 := ⟨w_1216, w_1217, w_16, w_1215, by decide +kernel, by decide, ⟨TX11, 12, rfl⟩, ⟨_, _, rfl⟩⟩
theorem w_1218 : Cond.methodLink RL 157 yX11_like ∈ WL := wl_of (List.mem_append_right _ (in_t5 (List.mem_of_getElem? (i := 13) rfl))) rfl
theorem w_1219 : Cond.code M_X12_like.1 M_X12_like.2.1 M_X12_like.2.2.1 M_X12_like.2.2.2 ∈ WL := wl_of (List.mem_append_right _ (in_t7 (List.mem_of_getElem? (i := 229) rfl))) rfl
theorem w_1220 : Cond.instanceMethod yX12_like ∈ WL := wl_of (List.mem_append_right _ (in_t7 (List.mem_of_getElem? (i := 227) rfl))) rfl
theorem w_1221 : Cond.selects yX12_like.cls yX12_like yX12_like ∈ WL := wl_of (List.mem_append_right _ (in_t7 (List.mem_of_getElem? (i := 228) rfl))) rfl
theorem cv_X12_like : CalV M_X12_like 2 12 := ⟨w_1220, w_1221, w_674, w_1219, by decide +kernel, by decide, ⟨TX12, 51, rfl⟩, ⟨_, _, rfl⟩⟩
theorem w_1222 : Cond.methodLink RL 160 yX12_like ∈ WL := wl_of (List.mem_append_right _ (in_t7 (List.mem_of_getElem? (i := 226) rfl))) rfl
theorem w_1223 : Cond.code M_X11_partners.1 M_X11_partners.2.1 M_X11_partners.2.2.1 M_X11_partners.2.2.2 ∈ WL := wl_of (List.mem_append_right _ (in_t5 (List.mem_of_getElem? (i := 30) rfl))) rfl
theorem w_1224 : Cond.instanceMethod yX11_partners ∈ WL := wl_of (List.mem_append_right _ (in_t5 (List.mem_of_getElem? (i := 28) rfl))) rfl
theorem w_1225 : Cond.selects yX11_partners.cls yX11_partners yX11_partners ∈ WL := wl_of (List.mem_append_right _ (in_t5 (List.mem_of_getElem? (i := 29) rfl))) rfl
theorem cv_X11_partners : CalV M_X11_partners 2 11 := ⟨w_1224, w_1225, w_16, w_1223, by decide +kernel, by decide, ⟨TX11, 12, rfl⟩, ⟨_, _, rfl⟩⟩
theorem w_1226 : Cond.methodLink RL 161 yX11_partners ∈ WL := wl_of (List.mem_append_right _ (in_t5 (List.mem_of_getElem? (i := 27) rfl))) rfl
theorem w_1227 : Cond.code M_X12_partners.1 M_X12_partners.2.1 M_X12_partners.2.2.1 M_X12_partners.2.2.2 ∈ WL := wl_of (List.mem_append_right _ (in_t8 (List.mem_of_getElem? (i := 1) rfl))) rfl
theorem w_1228 : Cond.instanceMethod yX12_partners ∈ WL := wl_of (List.mem_append_right _ (in_t7 (List.mem_of_getElem? (i := 239) rfl))) rfl
theorem w_1229 : Cond.selects yX12_partners.cls yX12_partners yX12_partners ∈ WL := wl_of (List.mem_append_right _ (in_t8 (List.mem_of_getElem? (i := 0) rfl))) rfl
theorem cv_X12_partners : CalV M_X12_partners 2 12 := ⟨w_1228, w_1229, w_674, w_1227, by decide +kernel, by decide, ⟨TX12, 51, rfl⟩, ⟨_, _, rfl⟩⟩
theorem w_1230 : Cond.methodLink RL 164 yX12_partners ∈ WL := wl_of (List.mem_append_right _ (in_t7 (List.mem_of_getElem? (i := 238) rfl))) rfl
theorem w_1231 : Cond.code M_X11_cancel.1 M_X11_cancel.2.1 M_X11_cancel.2.2.1 M_X11_cancel.2.2.2 ∈ WL := wl_of (List.mem_append_right _ (in_t5 (List.mem_of_getElem? (i := 42) rfl))) rfl
theorem w_1232 : Cond.instanceMethod yX11_cancel ∈ WL := wl_of (List.mem_append_right _ (in_t5 (List.mem_of_getElem? (i := 40) rfl))) rfl
theorem w_1233 : Cond.selects yX11_cancel.cls yX11_cancel yX11_cancel ∈ WL := wl_of (List.mem_append_right _ (in_t5 (List.mem_of_getElem? (i := 41) rfl))) rfl
theorem cv_X11_cancel : CalV M_X11_cancel 2 11 := ⟨w_1232, w_1233, w_16, w_1231, by decide +kernel, by decide, ⟨TX11, 12, rfl⟩, ⟨_, _, rfl⟩⟩
theorem w_1234 : Cond.methodLink RL 165 yX11_cancel ∈ WL := wl_of (List.mem_append_right _ (in_t5 (List.mem_of_getElem? (i := 39) rfl))) rfl
theorem w_1235 : Cond.code M_X12_cancel.1 M_X12_cancel.2.1 M_X12_cancel.2.2.1 M_X12_cancel.2.2.2 ∈ WL := wl_of (List.mem_append_right _ (in_t8 (List.mem_of_getElem? (i := 5) rfl))) rfl
theorem w_1236 : Cond.instanceMethod yX12_cancel ∈ WL := wl_of (List.mem_append_right _ (in_t8 (List.mem_of_getElem? (i := 3) rfl))) rfl
theorem w_1237 : Cond.selects yX12_cancel.cls yX12_cancel yX12_cancel ∈ WL := wl_of (List.mem_append_right _ (in_t8 (List.mem_of_getElem? (i := 4) rfl))) rfl
theorem cv_X12_cancel : CalV M_X12_cancel 2 12 := ⟨w_1236, w_1237, w_674, w_1235, by decide +kernel, by decide, ⟨TX12, 51, rfl⟩, ⟨_, _, rfl⟩⟩
theorem w_1238 : Cond.methodLink RL 168 yX12_cancel ∈ WL := wl_of (List.mem_append_right _ (in_t8 (List.mem_of_getElem? (i := 2) rfl))) rfl
theorem w_1239 : Cond.code M_X11_stagger.1 M_X11_stagger.2.1 M_X11_stagger.2.2.1 M_X11_stagger.2.2.2 ∈ WL := wl_of (List.mem_append_right _ (in_t5 (List.mem_of_getElem? (i := 46) rfl))) rfl
theorem w_1240 : Cond.instanceMethod yX11_stagger ∈ WL := wl_of (List.mem_append_right _ (in_t5 (List.mem_of_getElem? (i := 44) rfl))) rfl
theorem w_1241 : Cond.selects yX11_stagger.cls yX11_stagger yX11_stagger ∈ WL := wl_of (List.mem_append_right _ (in_t5 (List.mem_of_getElem? (i := 45) rfl))) rfl
theorem cv_X11_stagger : CalV M_X11_stagger 5 11 := ⟨w_1240, w_1241, w_16, w_1239, by decide +kernel, by decide, ⟨TX11, 12, rfl⟩, ⟨_, _, rfl⟩⟩
theorem w_1242 : Cond.methodLink RL 169 yX11_stagger ∈ WL := wl_of (List.mem_append_right _ (in_t5 (List.mem_of_getElem? (i := 43) rfl))) rfl
theorem w_1243 : Cond.code M_X12_stagger.1 M_X12_stagger.2.1 M_X12_stagger.2.2.1 M_X12_stagger.2.2.2 ∈ WL := wl_of (List.mem_append_right _ (in_t8 (List.mem_of_getElem? (i := 9) rfl))) rfl
theorem w_1244 : Cond.instanceMethod yX12_stagger ∈ WL := wl_of (List.mem_append_right _ (in_t8 (List.mem_of_getElem? (i := 7) rfl))) rfl
theorem w_1245 : Cond.selects yX12_stagger.cls yX12_stagger yX12_stagger ∈ WL := wl_of (List.mem_append_right _ (in_t8 (List.mem_of_getElem? (i := 8) rfl))) rfl
theorem cv_X12_stagger : CalV M_X12_stagger 5 12 := ⟨w_1244, w_1245, w_674, w_1243, by decide +kernel, by decide, ⟨TX12, 51, rfl⟩, ⟨_, _, rfl⟩⟩
theorem w_1246 : Cond.methodLink RL 172 yX12_stagger ∈ WL := wl_of (List.mem_append_right _ (in_t8 (List.mem_of_getElem? (i := 6) rfl))) rfl
theorem w_1247 : Cond.code M_X11_factor.1 M_X11_factor.2.1 M_X11_factor.2.2.1 M_X11_factor.2.2.2 ∈ WL := wl_of (List.mem_append_right _ (in_t5 (List.mem_of_getElem? (i := 80) rfl))) rfl
theorem w_1248 : Cond.instanceMethod yX11_factor ∈ WL := wl_of (List.mem_append_right _ (in_t5 (List.mem_of_getElem? (i := 78) rfl))) rfl
theorem w_1249 : Cond.selects yX11_factor.cls yX11_factor yX11_factor ∈ WL := wl_of (List.mem_append_right _ (in_t5 (List.mem_of_getElem? (i := 79) rfl))) rfl
theorem cv_X11_factor : CalV M_X11_factor 4 11 := ⟨w_1248, w_1249, w_16, w_1247, by decide +kernel, by decide, ⟨TX11, 12, rfl⟩, ⟨_, _, rfl⟩⟩
theorem w_1250 : Cond.methodLink RL 173 yX11_factor ∈ WL := wl_of (List.mem_append_right _ (in_t5 (List.mem_of_getElem? (i := 77) rfl))) rfl
theorem w_1251 : Cond.code M_X12_factor.1 M_X12_factor.2.1 M_X12_factor.2.2.1 M_X12_factor.2.2.2 ∈ WL := wl_of (List.mem_append_right _ (in_t8 (List.mem_of_getElem? (i := 17) rfl))) rfl
theorem w_1252 : Cond.instanceMethod yX12_factor ∈ WL := wl_of (List.mem_append_right _ (in_t8 (List.mem_of_getElem? (i := 15) rfl))) rfl
theorem w_1253 : Cond.selects yX12_factor.cls yX12_factor yX12_factor ∈ WL := wl_of (List.mem_append_right _ (in_t8 (List.mem_of_getElem? (i := 16) rfl))) rfl
theorem cv_X12_factor : CalV M_X12_factor 4 12 := ⟨w_1252, w_1253, w_674, w_1251, by decide +kernel, by decide, ⟨TX12, 51, rfl⟩, ⟨_, _, rfl⟩⟩
theorem w_1254 : Cond.methodLink RL 176 yX12_factor ∈ WL := wl_of (List.mem_append_right _ (in_t8 (List.mem_of_getElem? (i := 14) rfl))) rfl
theorem w_1255 : Cond.code M_X11_heaps.1 M_X11_heaps.2.1 M_X11_heaps.2.2.1 M_X11_heaps.2.2.2 ∈ WL := wl_of (List.mem_append_right _ (in_t5 (List.mem_of_getElem? (i := 90) rfl))) rfl
theorem w_1256 : Cond.instanceMethod yX11_heaps ∈ WL := wl_of (List.mem_append_right _ (in_t5 (List.mem_of_getElem? (i := 88) rfl))) rfl
theorem w_1257 : Cond.selects yX11_heaps.cls yX11_heaps yX11_heaps ∈ WL := wl_of (List.mem_append_right _ (in_t5 (List.mem_of_getElem? (i := 89) rfl))) rfl
theorem cv_X11_heaps : CalV M_X11_heaps 1 11 := ⟨w_1256, w_1257, w_16, w_1255, by decide +kernel, by decide, ⟨TX11, 12, rfl⟩, ⟨_, _, rfl⟩⟩
theorem w_1258 : Cond.methodLink RL 177 yX11_heaps ∈ WL := wl_of (List.mem_append_right _ (in_t5 (List.mem_of_getElem? (i := 87) rfl))) rfl
theorem w_1259 : Cond.code M_X12_heaps.1 M_X12_heaps.2.1 M_X12_heaps.2.2.1 M_X12_heaps.2.2.2 ∈ WL := wl_of (List.mem_append_right _ (in_t8 (List.mem_of_getElem? (i := 23) rfl))) rfl
theorem w_1260 : Cond.instanceMethod yX12_heaps ∈ WL := wl_of (List.mem_append_right _ (in_t8 (List.mem_of_getElem? (i := 21) rfl))) rfl
theorem w_1261 : Cond.selects yX12_heaps.cls yX12_heaps yX12_heaps ∈ WL := wl_of (List.mem_append_right _ (in_t8 (List.mem_of_getElem? (i := 22) rfl))) rfl
theorem cv_X12_heaps : CalV M_X12_heaps 1 12 := ⟨w_1260, w_1261, w_674, w_1259, by decide +kernel, by decide, ⟨TX12, 51, rfl⟩, ⟨_, _, rfl⟩⟩
theorem w_1262 : Cond.methodLink RL 180 yX12_heaps ∈ WL := wl_of (List.mem_append_right _ (in_t8 (List.mem_of_getElem? (i := 20) rfl))) rfl
theorem w_1263 : Cond.code M_X11_image.1 M_X11_image.2.1 M_X11_image.2.2.1 M_X11_image.2.2.2 ∈ WL := wl_of (List.mem_append_right _ (in_t5 (List.mem_of_getElem? (i := 98) rfl))) rfl
theorem w_1264 : Cond.instanceMethod yX11_image ∈ WL := wl_of (List.mem_append_right _ (in_t5 (List.mem_of_getElem? (i := 96) rfl))) rfl
theorem w_1265 : Cond.selects yX11_image.cls yX11_image yX11_image ∈ WL := wl_of (List.mem_append_right _ (in_t5 (List.mem_of_getElem? (i := 97) rfl))) rfl
theorem cv_X11_image : CalV M_X11_image 0 11 := ⟨w_1264, w_1265, w_16, w_1263, by decide +kernel, by decide, ⟨TX11, 12, rfl⟩, ⟨_, _, rfl⟩⟩
theorem w_1266 : Cond.methodLink RL 181 yX11_image ∈ WL := wl_of (List.mem_append_right _ (in_t5 (List.mem_of_getElem? (i := 95) rfl))) rfl
theorem w_1267 : Cond.code M_X12_image.1 M_X12_image.2.1 M_X12_image.2.2.1 M_X12_image.2.2.2 ∈ WL := wl_of (List.mem_append_right _ (in_t8 (List.mem_of_getElem? (i := 27) rfl))) rfl
theorem w_1268 : Cond.instanceMethod yX12_image ∈ WL := wl_of (List.mem_append_right _ (in_t8 (List.mem_of_getElem? (i := 25) rfl))) rfl
theorem w_1269 : Cond.selects yX12_image.cls yX12_image yX12_image ∈ WL := wl_of (List.mem_append_right _ (in_t8 (List.mem_of_getElem? (i := 26) rfl))) rfl
theorem cv_X12_image : CalV M_X12_image 0 12 := ⟨w_1268, w_1269, w_674, w_1267, by decide +kernel, by decide, ⟨TX12, 51, rfl⟩, ⟨_, _, rfl⟩⟩
theorem w_1270 : Cond.methodLink RL 184 yX12_image ∈ WL := wl_of (List.mem_append_right _ (in_t8 (List.mem_of_getElem? (i := 24) rfl))) rfl
theorem w_1271 : Cond.code M_X11_back.1 M_X11_back.2.1 M_X11_back.2.2.1 M_X11_back.2.2.2 ∈ WL := wl_of (List.mem_append_right _ (in_t5 (List.mem_of_getElem? (i := 107) rfl))) rfl
theorem w_1272 : Cond.instanceMethod yX11_back ∈ WL := wl_of (List.mem_append_right _ (in_t5 (List.mem_of_getElem? (i := 105) rfl))) rfl
theorem w_1273 : Cond.selects yX11_back.cls yX11_back yX11_back ∈ WL := wl_of (List.mem_append_right _ (in_t5 (List.mem_of_getElem? (i := 106) rfl))) rfl
theorem cv_X11_back : CalV M_X11_back 0 11 := ⟨w_1272, w_1273, w_16, w_1271, by decide +kernel, by decide, ⟨TX11, 12, rfl⟩, ⟨_, _, rfl⟩⟩
theorem w_1274 : Cond.methodLink RL 185 yX11_back ∈ WL := wl_of (List.mem_append_right _ (in_t5 (List.mem_of_getElem? (i := 104) rfl))) rfl
theorem w_1275 : Cond.code M_X12_back.1 M_X12_back.2.1 M_X12_back.2.2.1 M_X12_back.2.2.2 ∈ WL := wl_of (List.mem_append_right _ (in_t8 (List.mem_of_getElem? (i := 31) rfl))) rfl
theorem w_1276 : Cond.instanceMethod yX12_back ∈ WL := wl_of (List.mem_append_right _ (in_t8 (List.mem_of_getElem? (i := 29) rfl))) rfl
theorem w_1277 : Cond.selects yX12_back.cls yX12_back yX12_back ∈ WL := wl_of (List.mem_append_right _ (in_t8 (List.mem_of_getElem? (i := 30) rfl))) rfl
theorem cv_X12_back : CalV M_X12_back 0 12 := ⟨w_1276, w_1277, w_674, w_1275, by decide +kernel, by decide, ⟨TX12, 51, rfl⟩, ⟨_, _, rfl⟩⟩
theorem w_1278 : Cond.methodLink RL 188 yX12_back ∈ WL := wl_of (List.mem_append_right _ (in_t8 (List.mem_of_getElem? (i := 28) rfl))) rfl
theorem w_1279 : Cond.code M_X11_count.1 M_X11_count.2.1 M_X11_count.2.2.1 M_X11_count.2.2.2 ∈ WL := wl_of (List.mem_append_right _ (in_t5 (List.mem_of_getElem? (i := 115) rfl))) rfl
theorem w_1280 : Cond.instanceMethod yX11_count ∈ WL := wl_of (List.mem_append_right _ (in_t5 (List.mem_of_getElem? (i := 113) rfl))) rfl
theorem w_1281 : Cond.selects yX11_count.cls yX11_count yX11_count ∈ WL := wl_of (List.mem_append_right _ (in_t5 (List.mem_of_getElem? (i := 114) rfl))) rfl
theorem cv_X11_count : CalV M_X11_count 1 11 := ⟨w_1280, w_1281, w_16, w_1279, by decide +kernel, by decide, ⟨TX11, 12, rfl⟩, ⟨_, _, rfl⟩⟩
theorem w_1282 : Cond.methodLink RL 189 yX11_count ∈ WL := wl_of (List.mem_append_right _ (in_t5 (List.mem_of_getElem? (i := 112) rfl))) rfl
theorem w_1283 : Cond.code M_X12_count.1 M_X12_count.2.1 M_X12_count.2.2.1 M_X12_count.2.2.2 ∈ WL := wl_of (List.mem_append_right _ (in_t8 (List.mem_of_getElem? (i := 35) rfl))) rfl
theorem w_1284 : Cond.instanceMethod yX12_count ∈ WL := wl_of (List.mem_append_right _ (in_t8 (List.mem_of_getElem? (i := 33) rfl))) rfl
theorem w_1285 : Cond.selects yX12_count.cls yX12_count yX12_count ∈ WL := wl_of (List.mem_append_right _ (in_t8 (List.mem_of_getElem? (i := 34) rfl))) rfl
theorem cv_X12_count : CalV M_X12_count 1 12 := ⟨w_1284, w_1285, w_674, w_1283, by decide +kernel, by decide, ⟨TX12, 51, rfl⟩, ⟨_, _, rfl⟩⟩
theorem w_1286 : Cond.methodLink RL 192 yX12_count ∈ WL := wl_of (List.mem_append_right _ (in_t8 (List.mem_of_getElem? (i := 32) rfl))) rfl
theorem w_1287 : Cond.laysFinal RX0 "PulseParts$Beams" "times" "[I" ∈ WL := wl_of (List.mem_append_right _ (in_t2 (List.mem_of_getElem? (i := 49) rfl))) rfl
theorem w_1288 : Cond.laysFinal RX0 "PulseParts$Beams" "dues" "[I" ∈ WL := wl_of (List.mem_append_right _ (in_t2 (List.mem_of_getElem? (i := 51) rfl))) rfl
theorem w_1289 : Cond.laysFinal RX0 "PulseParts$Beams" "worths" "[I" ∈ WL := wl_of (List.mem_append_right _ (in_t2 (List.mem_of_getElem? (i := 53) rfl))) rfl
theorem w_1290 : Cond.laysFinal RX0 "PulseParts$Beams" "byDue" "[I" ∈ WL := wl_of (List.mem_append_right _ (in_t2 (List.mem_of_getElem? (i := 55) rfl))) rfl
theorem w_1291 : Cond.lays RX0 "PulseParts$Beams" "many" "I" ∈ WL := wl_of (List.mem_append_right _ (in_t2 (List.mem_of_getElem? (i := 57) rfl))) rfl
theorem w_1292 : Cond.laysFinal RX1 "PulseParts$Bests" "codes" "LPulseParts$Codes;" ∈ WL := wl_of (List.mem_append_right _ (in_t1 (List.mem_of_getElem? (i := 156) rfl))) rfl
theorem w_1293 : Cond.laysFinal RX1 "PulseParts$Bests" "echoes" "LPulseParts$Echoes;" ∈ WL := wl_of (List.mem_append_right _ (in_t1 (List.mem_of_getElem? (i := 158) rfl))) rfl
theorem w_1294 : Cond.laysFinal RX1 "PulseParts$Bests" "bestCodes" "[I" ∈ WL := wl_of (List.mem_append_right _ (in_t1 (List.mem_of_getElem? (i := 160) rfl))) rfl
theorem w_1295 : Cond.laysFinal RX1 "PulseParts$Bests" "bestFilters" "[I" ∈ WL := wl_of (List.mem_append_right _ (in_t1 (List.mem_of_getElem? (i := 162) rfl))) rfl
theorem w_1296 : Cond.lays RX1 "PulseParts$Bests" "number" "I" ∈ WL := wl_of (List.mem_append_right _ (in_t1 (List.mem_of_getElem? (i := 164) rfl))) rfl
theorem w_1297 : Cond.lays RX1 "PulseParts$Bests" "side" "I" ∈ WL := wl_of (List.mem_append_right _ (in_t1 (List.mem_of_getElem? (i := 166) rfl))) rfl
theorem w_1298 : Cond.lays RX1 "PulseParts$Bests" "sidesOrPeak" "I" ∈ WL := wl_of (List.mem_append_right _ (in_t1 (List.mem_of_getElem? (i := 168) rfl))) rfl
theorem w_1299 : Cond.lays RX1 "PulseParts$Bests" "manyOrLoss" "I" ∈ WL := wl_of (List.mem_append_right _ (in_t1 (List.mem_of_getElem? (i := 170) rfl))) rfl
theorem w_1300 : Cond.laysFinal RX2 "PulseParts$Cells" "states" "[I" ∈ WL := wl_of (List.mem_append_right _ (in_t1 (List.mem_of_getElem? (i := 227) rfl))) rfl
theorem w_1301 : Cond.laysFinal RX2 "PulseParts$Cells" "sizes" "[I" ∈ WL := wl_of (List.mem_append_right _ (in_t1 (List.mem_of_getElem? (i := 229) rfl))) rfl
theorem w_1302 : Cond.laysFinal RX2 "PulseParts$Cells" "image" "[I" ∈ WL := wl_of (List.mem_append_right _ (in_t1 (List.mem_of_getElem? (i := 231) rfl))) rfl
theorem w_1303 : Cond.lays RX2 "PulseParts$Cells" "imageSize" "I" ∈ WL := wl_of (List.mem_append_right _ (in_t1 (List.mem_of_getElem? (i := 233) rfl))) rfl
theorem w_1304 : Cond.lays RX2 "PulseParts$Cells" "now" "I" ∈ WL := wl_of (List.mem_append_right _ (in_t1 (List.mem_of_getElem? (i := 235) rfl))) rfl
theorem w_1305 : Cond.lays RX2 "PulseParts$Cells" "undoable" "I" ∈ WL := wl_of (List.mem_append_right _ (in_t1 (List.mem_of_getElem? (i := 237) rfl))) rfl
theorem w_1306 : Cond.lays RX2 "PulseParts$Cells" "undone" "I" ∈ WL := wl_of (List.mem_append_right _ (in_t1 (List.mem_of_getElem? (i := 239) rfl))) rfl
theorem w_1307 : Cond.laysFinal RX3 "PulseParts$Codes" "turns" "[I" ∈ WL := wl_of (List.mem_append_right _ (in_t1 (List.mem_of_getElem? (i := 63) rfl))) rfl
theorem w_1308 : Cond.laysFinal RX3 "PulseParts$Codes" "lengths" "[I" ∈ WL := wl_of (List.mem_append_right _ (in_t1 (List.mem_of_getElem? (i := 65) rfl))) rfl
theorem w_1309 : Cond.lays RX3 "PulseParts$Codes" "many" "I" ∈ WL := wl_of (List.mem_append_right _ (in_t1 (List.mem_of_getElem? (i := 67) rfl))) rfl
theorem w_1310 : Cond.laysFinal RX4 "PulseParts$Echoes" "codes" "LPulseParts$Codes;" ∈ WL := wl_of (List.mem_append_right _ (in_t1 (List.mem_of_getElem? (i := 126) rfl))) rfl
theorem w_1311 : Cond.laysFinal RX4 "PulseParts$Echoes" "laws" "LPulseParts$Laws;" ∈ WL := wl_of (List.mem_append_right _ (in_t1 (List.mem_of_getElem? (i := 128) rfl))) rfl
theorem w_1312 : Cond.laysFinal RX4 "PulseParts$Echoes" "weights" "[I" ∈ WL := wl_of (List.mem_append_right _ (in_t1 (List.mem_of_getElem? (i := 130) rfl))) rfl
theorem w_1313 : Cond.laysFinal RX4 "PulseParts$Echoes" "hindrances" "[I" ∈ WL := wl_of (List.mem_append_right _ (in_t1 (List.mem_of_getElem? (i := 132) rfl))) rfl
theorem w_1314 : Cond.lays RX4 "PulseParts$Echoes" "real" "I" ∈ WL := wl_of (List.mem_append_right _ (in_t1 (List.mem_of_getElem? (i := 134) rfl))) rfl
theorem w_1315 : Cond.lays RX4 "PulseParts$Echoes" "imaginary" "I" ∈ WL := wl_of (List.mem_append_right _ (in_t1 (List.mem_of_getElem? (i := 136) rfl))) rfl
theorem w_1316 : Cond.laysFinal RX5 "PulseParts$Finder" "cells" "LPulseParts$Cells;" ∈ WL := wl_of (List.mem_append_right _ (in_t2 (List.mem_of_getElem? (i := 12) rfl))) rfl
theorem w_1317 : Cond.laysFinal RX5 "PulseParts$Finder" "settings" "[I" ∈ WL := wl_of (List.mem_append_right _ (in_t2 (List.mem_of_getElem? (i := 14) rfl))) rfl
theorem w_1318 : Cond.laysFinal RX5 "PulseParts$Finder" "window" "[I" ∈ WL := wl_of (List.mem_append_right _ (in_t2 (List.mem_of_getElem? (i := 16) rfl))) rfl
theorem w_1319 : Cond.lays RX5 "PulseParts$Finder" "width" "I" ∈ WL := wl_of (List.mem_append_right _ (in_t2 (List.mem_of_getElem? (i := 18) rfl))) rfl
theorem w_1320 : Cond.laysFinal RX6 "PulseParts$LawReader" "tape" "LPulseParts$Tape;" ∈ WL := wl_of (List.mem_append_right _ (in_t1 (List.mem_of_getElem? (i := 81) rfl))) rfl
theorem w_1321 : Cond.laysFinal RX6 "PulseParts$LawReader" "steps" "[I" ∈ WL := wl_of (List.mem_append_right _ (in_t1 (List.mem_of_getElem? (i := 83) rfl))) rfl
theorem w_1322 : Cond.lays RX6 "PulseParts$LawReader" "made" "I" ∈ WL := wl_of (List.mem_append_right _ (in_t1 (List.mem_of_getElem? (i := 85) rfl))) rfl
theorem w_1323 : Cond.laysFinal RX7 "PulseParts$Laws" "steps" "[I" ∈ WL := wl_of (List.mem_append_right _ (in_t1 (List.mem_of_getElem? (i := 100) rfl))) rfl
theorem w_1324 : Cond.laysFinal RX7 "PulseParts$Laws" "lengths" "[I" ∈ WL := wl_of (List.mem_append_right _ (in_t1 (List.mem_of_getElem? (i := 102) rfl))) rfl
theorem w_1325 : Cond.laysFinal RX7 "PulseParts$Laws" "stack" "[I" ∈ WL := wl_of (List.mem_append_right _ (in_t1 (List.mem_of_getElem? (i := 104) rfl))) rfl
theorem w_1326 : Cond.lays RX7 "PulseParts$Laws" "top" "I" ∈ WL := wl_of (List.mem_append_right _ (in_t1 (List.mem_of_getElem? (i := 106) rfl))) rfl
theorem w_1327 : Cond.lays RX7 "PulseParts$Laws" "many" "I" ∈ WL := wl_of (List.mem_append_right _ (in_t1 (List.mem_of_getElem? (i := 108) rfl))) rfl
theorem w_1328 : Cond.laysFinal RX8 "PulseParts$Rests" "settings" "[I" ∈ WL := wl_of (List.mem_append_right _ (in_t1 (List.mem_of_getElem? (i := 192) rfl))) rfl
theorem w_1329 : Cond.laysFinal RX8 "PulseParts$Rests" "numbers" "[I" ∈ WL := wl_of (List.mem_append_right _ (in_t1 (List.mem_of_getElem? (i := 194) rfl))) rfl
theorem w_1330 : Cond.laysFinal RX8 "PulseParts$Rests" "lengths" "[I" ∈ WL := wl_of (List.mem_append_right _ (in_t1 (List.mem_of_getElem? (i := 196) rfl))) rfl
theorem w_1331 : Cond.laysFinal RX8 "PulseParts$Rests" "readings" "[I" ∈ WL := wl_of (List.mem_append_right _ (in_t1 (List.mem_of_getElem? (i := 198) rfl))) rfl
theorem w_1332 : Cond.laysFinal RX8 "PulseParts$Rests" "seenByBits" "[I" ∈ WL := wl_of (List.mem_append_right _ (in_t1 (List.mem_of_getElem? (i := 200) rfl))) rfl
theorem w_1333 : Cond.laysFinal RX8 "PulseParts$Rests" "seenWays" "[J" ∈ WL := wl_of (List.mem_append_right _ (in_t1 (List.mem_of_getElem? (i := 202) rfl))) rfl
theorem w_1334 : Cond.lays RX8 "PulseParts$Rests" "many" "I" ∈ WL := wl_of (List.mem_append_right _ (in_t1 (List.mem_of_getElem? (i := 204) rfl))) rfl
theorem w_1335 : Cond.lays RX8 "PulseParts$Rests" "chosen" "I" ∈ WL := wl_of (List.mem_append_right _ (in_t1 (List.mem_of_getElem? (i := 206) rfl))) rfl
theorem w_1336 : Cond.lays RX8 "PulseParts$Rests" "chosenSees" "I" ∈ WL := wl_of (List.mem_append_right _ (in_t1 (List.mem_of_getElem? (i := 208) rfl))) rfl
theorem w_1337 : Cond.laysFinal RX9 "PulseParts$Shares" "rowsByLevel" "[J" ∈ WL := wl_of (List.mem_append_right _ (in_t2 (List.mem_of_getElem? (i := 30) rfl))) rfl
theorem w_1338 : Cond.lays RX9 "PulseParts$Shares" "levels" "I" ∈ WL := wl_of (List.mem_append_right _ (in_t2 (List.mem_of_getElem? (i := 32) rfl))) rfl
theorem w_1339 : Cond.lays RX9 "PulseParts$Shares" "allRows" "J" ∈ WL := wl_of (List.mem_append_right _ (in_t2 (List.mem_of_getElem? (i := 34) rfl))) rfl
theorem w_1340 : Cond.laysFinal RX10 "PulseParts$Tape" "bytes" "[I" ∈ WL := wl_of (List.mem_append_right _ (in_t1 (List.mem_of_getElem? (i := 43) rfl))) rfl
theorem w_1341 : Cond.lays RX10 "PulseParts$Tape" "size" "I" ∈ WL := wl_of (List.mem_append_right _ (in_t1 (List.mem_of_getElem? (i := 45) rfl))) rfl
theorem w_1342 : Cond.lays RX10 "PulseParts$Tape" "place" "I" ∈ WL := wl_of (List.mem_append_right _ (in_t1 (List.mem_of_getElem? (i := 47) rfl))) rfl
theorem w_1343 : Cond.laysFinal RX11 "PulseParts" "tape" "LPulseParts$Tape;" ∈ WL := wl_of (List.mem_append_right _ (in_t2 (List.mem_of_getElem? (i := 72) rfl))) rfl
theorem w_1344 : Cond.laysFinal RX11 "PulseParts" "codes" "LPulseParts$Codes;" ∈ WL := wl_of (List.mem_append_right _ (in_t2 (List.mem_of_getElem? (i := 74) rfl))) rfl
theorem w_1345 : Cond.laysFinal RX11 "PulseParts" "lawReader" "LPulseParts$LawReader;" ∈ WL := wl_of (List.mem_append_right _ (in_t2 (List.mem_of_getElem? (i := 76) rfl))) rfl
theorem w_1346 : Cond.laysFinal RX11 "PulseParts" "laws" "LPulseParts$Laws;" ∈ WL := wl_of (List.mem_append_right _ (in_t2 (List.mem_of_getElem? (i := 78) rfl))) rfl
theorem w_1347 : Cond.laysFinal RX11 "PulseParts" "echoes" "LPulseParts$Echoes;" ∈ WL := wl_of (List.mem_append_right _ (in_t2 (List.mem_of_getElem? (i := 80) rfl))) rfl
theorem w_1348 : Cond.laysFinal RX11 "PulseParts" "bests" "LPulseParts$Bests;" ∈ WL := wl_of (List.mem_append_right _ (in_t2 (List.mem_of_getElem? (i := 82) rfl))) rfl
theorem w_1349 : Cond.laysFinal RX11 "PulseParts" "sets" "LPulseParts$Rests;" ∈ WL := wl_of (List.mem_append_right _ (in_t2 (List.mem_of_getElem? (i := 84) rfl))) rfl
theorem w_1350 : Cond.laysFinal RX11 "PulseParts" "cells" "LPulseParts$Cells;" ∈ WL := wl_of (List.mem_append_right _ (in_t2 (List.mem_of_getElem? (i := 86) rfl))) rfl
theorem w_1351 : Cond.laysFinal RX11 "PulseParts" "finder" "LPulseParts$Finder;" ∈ WL := wl_of (List.mem_append_right _ (in_t2 (List.mem_of_getElem? (i := 88) rfl))) rfl
theorem w_1352 : Cond.laysFinal RX11 "PulseParts" "shares" "LPulseParts$Shares;" ∈ WL := wl_of (List.mem_append_right _ (in_t2 (List.mem_of_getElem? (i := 90) rfl))) rfl
theorem w_1353 : Cond.laysFinal RX11 "PulseParts" "beams" "LPulseParts$Beams;" ∈ WL := wl_of (List.mem_append_right _ (in_t2 (List.mem_of_getElem? (i := 92) rfl))) rfl
theorem w_1354 : Cond.laysFinal RX11 "PulseParts" "settings" "[I" ∈ WL := wl_of (List.mem_append_right _ (in_t2 (List.mem_of_getElem? (i := 94) rfl))) rfl
theorem w_1355 : Cond.lays RX12 "PulsePartsModel" "thrown" "I" ∈ WL := wl_of (List.mem_append_right _ (in_t6 (List.mem_of_getElem? (i := 2) rfl))) rfl
theorem w_1356 : Cond.laysFinal RX12 "PulsePartsModel" "tape" "[I" ∈ WL := wl_of (List.mem_append_right _ (in_t6 (List.mem_of_getElem? (i := 4) rfl))) rfl
theorem w_1357 : Cond.lays RX12 "PulsePartsModel" "size" "I" ∈ WL := wl_of (List.mem_append_right _ (in_t6 (List.mem_of_getElem? (i := 6) rfl))) rfl
theorem w_1358 : Cond.lays RX12 "PulsePartsModel" "at" "I" ∈ WL := wl_of (List.mem_append_right _ (in_t6 (List.mem_of_getElem? (i := 8) rfl))) rfl
theorem w_1359 : Cond.lays RX12 "PulsePartsModel" "wrong" "I" ∈ WL := wl_of (List.mem_append_right _ (in_t6 (List.mem_of_getElem? (i := 10) rfl))) rfl
theorem w_1360 : Cond.lays RX12 "PulsePartsModel" "deep" "I" ∈ WL := wl_of (List.mem_append_right _ (in_t6 (List.mem_of_getElem? (i := 12) rfl))) rfl
theorem w_1361 : Cond.laysFinal RX12 "PulsePartsModel" "code" "[I" ∈ WL := wl_of (List.mem_append_right _ (in_t6 (List.mem_of_getElem? (i := 14) rfl))) rfl
theorem w_1362 : Cond.laysFinal RX12 "PulsePartsModel" "value" "[I" ∈ WL := wl_of (List.mem_append_right _ (in_t6 (List.mem_of_getElem? (i := 16) rfl))) rfl
theorem w_1363 : Cond.laysFinal RX12 "PulsePartsModel" "codes" "[I" ∈ WL := wl_of (List.mem_append_right _ (in_t6 (List.mem_of_getElem? (i := 18) rfl))) rfl
theorem w_1364 : Cond.laysFinal RX12 "PulsePartsModel" "clauses" "[I" ∈ WL := wl_of (List.mem_append_right _ (in_t6 (List.mem_of_getElem? (i := 20) rfl))) rfl
theorem w_1365 : Cond.laysFinal RX12 "PulsePartsModel" "testFrom" "[I" ∈ WL := wl_of (List.mem_append_right _ (in_t6 (List.mem_of_getElem? (i := 22) rfl))) rfl
theorem w_1366 : Cond.laysFinal RX12 "PulsePartsModel" "sumFrom" "[I" ∈ WL := wl_of (List.mem_append_right _ (in_t6 (List.mem_of_getElem? (i := 24) rfl))) rfl
theorem w_1367 : Cond.laysFinal RX12 "PulsePartsModel" "sumTo" "[I" ∈ WL := wl_of (List.mem_append_right _ (in_t6 (List.mem_of_getElem? (i := 26) rfl))) rfl
theorem w_1368 : Cond.lays RX12 "PulsePartsModel" "laws" "I" ∈ WL := wl_of (List.mem_append_right _ (in_t6 (List.mem_of_getElem? (i := 28) rfl))) rfl
theorem w_1369 : Cond.lays RX12 "PulsePartsModel" "text" "I" ∈ WL := wl_of (List.mem_append_right _ (in_t6 (List.mem_of_getElem? (i := 30) rfl))) rfl
theorem w_1370 : Cond.laysFinal RX12 "PulsePartsModel" "letters" "[I" ∈ WL := wl_of (List.mem_append_right _ (in_t6 (List.mem_of_getElem? (i := 32) rfl))) rfl
theorem w_1371 : Cond.laysFinal RX12 "PulsePartsModel" "stack" "[I" ∈ WL := wl_of (List.mem_append_right _ (in_t6 (List.mem_of_getElem? (i := 34) rfl))) rfl
theorem w_1372 : Cond.laysFinal RX12 "PulsePartsModel" "signs" "[I" ∈ WL := wl_of (List.mem_append_right _ (in_t6 (List.mem_of_getElem? (i := 36) rfl))) rfl
theorem w_1373 : Cond.laysFinal RX12 "PulsePartsModel" "lengths" "[I" ∈ WL := wl_of (List.mem_append_right _ (in_t6 (List.mem_of_getElem? (i := 38) rfl))) rfl
theorem w_1374 : Cond.laysFinal RX12 "PulsePartsModel" "restAt" "[I" ∈ WL := wl_of (List.mem_append_right _ (in_t6 (List.mem_of_getElem? (i := 40) rfl))) rfl
theorem w_1375 : Cond.laysFinal RX12 "PulsePartsModel" "restMany" "[I" ∈ WL := wl_of (List.mem_append_right _ (in_t6 (List.mem_of_getElem? (i := 42) rfl))) rfl
theorem w_1376 : Cond.lays RX12 "PulsePartsModel" "codeMany" "I" ∈ WL := wl_of (List.mem_append_right _ (in_t6 (List.mem_of_getElem? (i := 44) rfl))) rfl
theorem w_1377 : Cond.lays RX12 "PulsePartsModel" "sets" "I" ∈ WL := wl_of (List.mem_append_right _ (in_t6 (List.mem_of_getElem? (i := 46) rfl))) rfl
theorem w_1378 : Cond.laysFinal RX12 "PulsePartsModel" "weights" "[I" ∈ WL := wl_of (List.mem_append_right _ (in_t6 (List.mem_of_getElem? (i := 48) rfl))) rfl
theorem w_1379 : Cond.lays RX12 "PulsePartsModel" "real" "I" ∈ WL := wl_of (List.mem_append_right _ (in_t6 (List.mem_of_getElem? (i := 50) rfl))) rfl
theorem w_1380 : Cond.lays RX12 "PulsePartsModel" "other" "I" ∈ WL := wl_of (List.mem_append_right _ (in_t6 (List.mem_of_getElem? (i := 52) rfl))) rfl
theorem w_1381 : Cond.lays RX12 "PulsePartsModel" "power" "I" ∈ WL := wl_of (List.mem_append_right _ (in_t6 (List.mem_of_getElem? (i := 54) rfl))) rfl
theorem w_1382 : Cond.lays RX12 "PulsePartsModel" "peak" "I" ∈ WL := wl_of (List.mem_append_right _ (in_t6 (List.mem_of_getElem? (i := 56) rfl))) rfl
theorem w_1383 : Cond.lays RX12 "PulsePartsModel" "side" "I" ∈ WL := wl_of (List.mem_append_right _ (in_t6 (List.mem_of_getElem? (i := 58) rfl))) rfl
theorem w_1384 : Cond.lays RX12 "PulsePartsModel" "sides" "I" ∈ WL := wl_of (List.mem_append_right _ (in_t6 (List.mem_of_getElem? (i := 60) rfl))) rfl
theorem w_1385 : Cond.lays RX12 "PulsePartsModel" "leak" "I" ∈ WL := wl_of (List.mem_append_right _ (in_t6 (List.mem_of_getElem? (i := 62) rfl))) rfl
theorem w_1386 : Cond.lays RX12 "PulsePartsModel" "loss" "I" ∈ WL := wl_of (List.mem_append_right _ (in_t6 (List.mem_of_getElem? (i := 64) rfl))) rfl
theorem w_1387 : Cond.lays RX12 "PulsePartsModel" "blind" "I" ∈ WL := wl_of (List.mem_append_right _ (in_t6 (List.mem_of_getElem? (i := 66) rfl))) rfl
theorem w_1388 : Cond.lays RX12 "PulsePartsModel" "need" "I" ∈ WL := wl_of (List.mem_append_right _ (in_t6 (List.mem_of_getElem? (i := 68) rfl))) rfl
theorem w_1389 : Cond.lays RX12 "PulsePartsModel" "guard" "I" ∈ WL := wl_of (List.mem_append_right _ (in_t6 (List.mem_of_getElem? (i := 70) rfl))) rfl
theorem w_1390 : Cond.lays RX12 "PulsePartsModel" "sideCells" "I" ∈ WL := wl_of (List.mem_append_right _ (in_t6 (List.mem_of_getElem? (i := 72) rfl))) rfl
theorem w_1391 : Cond.lays RX12 "PulsePartsModel" "order" "I" ∈ WL := wl_of (List.mem_append_right _ (in_t6 (List.mem_of_getElem? (i := 74) rfl))) rfl
theorem w_1392 : Cond.lays RX12 "PulsePartsModel" "factor" "I" ∈ WL := wl_of (List.mem_append_right _ (in_t6 (List.mem_of_getElem? (i := 76) rfl))) rfl
theorem w_1393 : Cond.laysFinal RX12 "PulsePartsModel" "readings" "[I" ∈ WL := wl_of (List.mem_append_right _ (in_t6 (List.mem_of_getElem? (i := 78) rfl))) rfl
theorem w_1394 : Cond.laysFinal RX12 "PulsePartsModel" "now" "[I" ∈ WL := wl_of (List.mem_append_right _ (in_t6 (List.mem_of_getElem? (i := 80) rfl))) rfl
theorem w_1395 : Cond.laysFinal RX12 "PulsePartsModel" "undone" "[I" ∈ WL := wl_of (List.mem_append_right _ (in_t6 (List.mem_of_getElem? (i := 82) rfl))) rfl
theorem w_1396 : Cond.laysFinal RX12 "PulsePartsModel" "again" "[I" ∈ WL := wl_of (List.mem_append_right _ (in_t6 (List.mem_of_getElem? (i := 84) rfl))) rfl
theorem w_1397 : Cond.laysFinal RX12 "PulsePartsModel" "image" "[I" ∈ WL := wl_of (List.mem_append_right _ (in_t6 (List.mem_of_getElem? (i := 86) rfl))) rfl
theorem w_1398 : Cond.lays RX12 "PulsePartsModel" "undoMany" "I" ∈ WL := wl_of (List.mem_append_right _ (in_t6 (List.mem_of_getElem? (i := 88) rfl))) rfl
theorem w_1399 : Cond.lays RX12 "PulsePartsModel" "againMany" "I" ∈ WL := wl_of (List.mem_append_right _ (in_t6 (List.mem_of_getElem? (i := 90) rfl))) rfl
theorem w_1400 : Cond.lays RX12 "PulsePartsModel" "hasImage" "Z" ∈ WL := wl_of (List.mem_append_right _ (in_t6 (List.mem_of_getElem? (i := 92) rfl))) rfl
theorem w_1401 : Cond.laysFinal RX12 "PulsePartsModel" "window" "[I" ∈ WL := wl_of (List.mem_append_right _ (in_t6 (List.mem_of_getElem? (i := 94) rfl))) rfl
theorem w_1402 : Cond.laysFinal RX12 "PulsePartsModel" "times" "[I" ∈ WL := wl_of (List.mem_append_right _ (in_t6 (List.mem_of_getElem? (i := 96) rfl))) rfl
theorem w_1403 : Cond.laysFinal RX12 "PulsePartsModel" "dues" "[I" ∈ WL := wl_of (List.mem_append_right _ (in_t6 (List.mem_of_getElem? (i := 98) rfl))) rfl
theorem w_1404 : Cond.laysFinal RX12 "PulsePartsModel" "worths" "[I" ∈ WL := wl_of (List.mem_append_right _ (in_t6 (List.mem_of_getElem? (i := 100) rfl))) rfl
theorem w_1405 : Cond.lays RX12 "PulsePartsModel" "beams" "I" ∈ WL := wl_of (List.mem_append_right _ (in_t6 (List.mem_of_getElem? (i := 102) rfl))) rfl
theorem inW0 : ∀ w ∈ u_ws RX0 TX0 5, w ∈ WL := fun w h => by
  obtain ⟨k, hk, rfl⟩ := List.mem_map.mp h
  have hk := List.mem_range.mp hk
  match k, hk with
  | 0, _ => exact w_1287
  | 1, _ => exact w_1288
  | 2, _ => exact w_1289
  | 3, _ => exact w_1290
  | 4, _ => exact w_1291
  | k + 5, h9 => exact absurd h9 (by omega)
theorem inW1 : ∀ w ∈ u_ws RX1 TX1 8, w ∈ WL := fun w h => by
  obtain ⟨k, hk, rfl⟩ := List.mem_map.mp h
  have hk := List.mem_range.mp hk
  match k, hk with
  | 0, _ => exact w_1292
  | 1, _ => exact w_1293
  | 2, _ => exact w_1294
  | 3, _ => exact w_1295
  | 4, _ => exact w_1296
  | 5, _ => exact w_1297
  | 6, _ => exact w_1298
  | 7, _ => exact w_1299
  | k + 8, h9 => exact absurd h9 (by omega)
theorem inW2 : ∀ w ∈ u_ws RX2 TX2 7, w ∈ WL := fun w h => by
  obtain ⟨k, hk, rfl⟩ := List.mem_map.mp h
  have hk := List.mem_range.mp hk
  match k, hk with
  | 0, _ => exact w_1300
  | 1, _ => exact w_1301
  | 2, _ => exact w_1302
  | 3, _ => exact w_1303
  | 4, _ => exact w_1304
  | 5, _ => exact w_1305
  | 6, _ => exact w_1306
  | k + 7, h9 => exact absurd h9 (by omega)
theorem inW3 : ∀ w ∈ u_ws RX3 TX3 3, w ∈ WL := fun w h => by
  obtain ⟨k, hk, rfl⟩ := List.mem_map.mp h
  have hk := List.mem_range.mp hk
  match k, hk with
  | 0, _ => exact w_1307
  | 1, _ => exact w_1308
  | 2, _ => exact w_1309
  | k + 3, h9 => exact absurd h9 (by omega)
theorem inW4 : ∀ w ∈ u_ws RX4 TX4 6, w ∈ WL := fun w h => by
  obtain ⟨k, hk, rfl⟩ := List.mem_map.mp h
  have hk := List.mem_range.mp hk
  match k, hk with
  | 0, _ => exact w_1310
  | 1, _ => exact w_1311
  | 2, _ => exact w_1312
  | 3, _ => exact w_1313
  | 4, _ => exact w_1314
  | 5, _ => exact w_1315
  | k + 6, h9 => exact absurd h9 (by omega)
theorem inW5 : ∀ w ∈ u_ws RX5 TX5 4, w ∈ WL := fun w h => by
  obtain ⟨k, hk, rfl⟩ := List.mem_map.mp h
  have hk := List.mem_range.mp hk
  match k, hk with
  | 0, _ => exact w_1316
  | 1, _ => exact w_1317
  | 2, _ => exact w_1318
  | 3, _ => exact w_1319
  | k + 4, h9 => exact absurd h9 (by omega)
theorem inW6 : ∀ w ∈ u_ws RX6 TX6 3, w ∈ WL := fun w h => by
  obtain ⟨k, hk, rfl⟩ := List.mem_map.mp h
  have hk := List.mem_range.mp hk
  match k, hk with
  | 0, _ => exact w_1320
  | 1, _ => exact w_1321
  | 2, _ => exact w_1322
  | k + 3, h9 => exact absurd h9 (by omega)
theorem inW7 : ∀ w ∈ u_ws RX7 TX7 5, w ∈ WL := fun w h => by
  obtain ⟨k, hk, rfl⟩ := List.mem_map.mp h
  have hk := List.mem_range.mp hk
  match k, hk with
  | 0, _ => exact w_1323
  | 1, _ => exact w_1324
  | 2, _ => exact w_1325
  | 3, _ => exact w_1326
  | 4, _ => exact w_1327
  | k + 5, h9 => exact absurd h9 (by omega)
theorem inW8 : ∀ w ∈ u_ws RX8 TX8 9, w ∈ WL := fun w h => by
  obtain ⟨k, hk, rfl⟩ := List.mem_map.mp h
  have hk := List.mem_range.mp hk
  match k, hk with
  | 0, _ => exact w_1328
  | 1, _ => exact w_1329
  | 2, _ => exact w_1330
  | 3, _ => exact w_1331
  | 4, _ => exact w_1332
  | 5, _ => exact w_1333
  | 6, _ => exact w_1334
  | 7, _ => exact w_1335
  | 8, _ => exact w_1336
  | k + 9, h9 => exact absurd h9 (by omega)
theorem inW9 : ∀ w ∈ u_ws RX9 TX9 3, w ∈ WL := fun w h => by
  obtain ⟨k, hk, rfl⟩ := List.mem_map.mp h
  have hk := List.mem_range.mp hk
  match k, hk with
  | 0, _ => exact w_1337
  | 1, _ => exact w_1338
  | 2, _ => exact w_1339
  | k + 3, h9 => exact absurd h9 (by omega)
theorem inW10 : ∀ w ∈ u_ws RX10 TX10 3, w ∈ WL := fun w h => by
  obtain ⟨k, hk, rfl⟩ := List.mem_map.mp h
  have hk := List.mem_range.mp hk
  match k, hk with
  | 0, _ => exact w_1340
  | 1, _ => exact w_1341
  | 2, _ => exact w_1342
  | k + 3, h9 => exact absurd h9 (by omega)
theorem inW11 : ∀ w ∈ u_ws RX11 TX11 12, w ∈ WL := fun w h => by
  obtain ⟨k, hk, rfl⟩ := List.mem_map.mp h
  have hk := List.mem_range.mp hk
  match k, hk with
  | 0, _ => exact w_1343
  | 1, _ => exact w_1344
  | 2, _ => exact w_1345
  | 3, _ => exact w_1346
  | 4, _ => exact w_1347
  | 5, _ => exact w_1348
  | 6, _ => exact w_1349
  | 7, _ => exact w_1350
  | 8, _ => exact w_1351
  | 9, _ => exact w_1352
  | 10, _ => exact w_1353
  | 11, _ => exact w_1354
  | k + 12, h9 => exact absurd h9 (by omega)
theorem inW12 : ∀ w ∈ u_ws RX12 TX12 51, w ∈ WL := fun w h => by
  obtain ⟨k, hk, rfl⟩ := List.mem_map.mp h
  have hk := List.mem_range.mp hk
  match k, hk with
  | 0, _ => exact w_1355
  | 1, _ => exact w_1356
  | 2, _ => exact w_1357
  | 3, _ => exact w_1358
  | 4, _ => exact w_1359
  | 5, _ => exact w_1360
  | 6, _ => exact w_1361
  | 7, _ => exact w_1362
  | 8, _ => exact w_1363
  | 9, _ => exact w_1364
  | 10, _ => exact w_1365
  | 11, _ => exact w_1366
  | 12, _ => exact w_1367
  | 13, _ => exact w_1368
  | 14, _ => exact w_1369
  | 15, _ => exact w_1370
  | 16, _ => exact w_1371
  | 17, _ => exact w_1372
  | 18, _ => exact w_1373
  | 19, _ => exact w_1374
  | 20, _ => exact w_1375
  | 21, _ => exact w_1376
  | 22, _ => exact w_1377
  | 23, _ => exact w_1378
  | 24, _ => exact w_1379
  | 25, _ => exact w_1380
  | 26, _ => exact w_1381
  | 27, _ => exact w_1382
  | 28, _ => exact w_1383
  | 29, _ => exact w_1384
  | 30, _ => exact w_1385
  | 31, _ => exact w_1386
  | 32, _ => exact w_1387
  | 33, _ => exact w_1388
  | 34, _ => exact w_1389
  | 35, _ => exact w_1390
  | 36, _ => exact w_1391
  | 37, _ => exact w_1392
  | 38, _ => exact w_1393
  | 39, _ => exact w_1394
  | 40, _ => exact w_1395
  | 41, _ => exact w_1396
  | 42, _ => exact w_1397
  | 43, _ => exact w_1398
  | 44, _ => exact w_1399
  | 45, _ => exact w_1400
  | 46, _ => exact w_1401
  | 47, _ => exact w_1402
  | 48, _ => exact w_1403
  | 49, _ => exact w_1404
  | 50, _ => exact w_1405
  | k + 51, h9 => exact absurd h9 (by omega)
theorem k_iconst_0 : Int32.ofInt (0) = 0 := by decide +kernel
theorem k_bipush_24 : (Int8.ofInt (24)).toInt32 = 24 := by decide +kernel
theorem k_sipush_255 : (Int16.ofInt (255)).toInt32 = 255 := by decide +kernel
theorem k_iconst_m8 : Int32.ofInt (-8) = (-8 : Int32) := by decide +kernel
theorem k_iconst_1 : Int32.ofInt (1) = 1 := by decide +kernel
theorem k_bipush_120 : (Int8.ofInt (120)).toInt32 = 120 := by decide +kernel
theorem kK_14 : K0[14]? = some (0, 120, []) := rfl
theorem k_iconst_m1 : Int32.ofInt (-1) = (-1 : Int32) := by decide +kernel
theorem k_iconst_2 : Int32.ofInt (2) = 2 := by decide +kernel
theorem k_bipush_m2 : (Int8.ofInt (-2)).toInt32 = (-2 : Int32) := by decide +kernel
theorem k_bipush_8 : (Int8.ofInt (8)).toInt32 = 8 := by decide +kernel
theorem k_bipush_32 : (Int8.ofInt (32)).toInt32 = 32 := by decide +kernel
theorem k_bipush_48 : (Int8.ofInt (48)).toInt32 = 48 := by decide +kernel
theorem k_bipush_57 : (Int8.ofInt (57)).toInt32 = 57 := by decide +kernel
theorem kK_26 : K0[26]? = some (0, 7, []) := rfl
theorem kK_25 : K0[25]? = some (0, 56, []) := rfl
theorem k_bipush_7 : (Int8.ofInt (7)).toInt32 = 7 := by decide +kernel
theorem k_bipush_44 : (Int8.ofInt (44)).toInt32 = 44 := by decide +kernel
theorem k_bipush_10 : (Int8.ofInt (10)).toInt32 = 10 := by decide +kernel
theorem k_bipush_121 : (Int8.ofInt (121)).toInt32 = 121 := by decide +kernel
theorem k_bipush_58 : (Int8.ofInt (58)).toInt32 = 58 := by decide +kernel
theorem k_bipush_33 : (Int8.ofInt (33)).toInt32 = 33 := by decide +kernel
theorem k_bipush_91 : (Int8.ofInt (91)).toInt32 = 91 := by decide +kernel
theorem k_bipush_107 : (Int8.ofInt (107)).toInt32 = 107 := by decide +kernel
theorem kK_17 : K0[17]? = some (0, 120, []) := rfl
theorem k_bipush_110 : (Int8.ofInt (110)).toInt32 = 110 := by decide +kernel
theorem k_bipush_97 : (Int8.ofInt (97)).toInt32 = 97 := by decide +kernel
theorem k_bipush_98 : (Int8.ofInt (98)).toInt32 = 98 := by decide +kernel
theorem k_iconst_4 : Int32.ofInt (4) = 4 := by decide +kernel
theorem k_bipush_6 : (Int8.ofInt (6)).toInt32 = 6 := by decide +kernel
theorem k_bipush_93 : (Int8.ofInt (93)).toInt32 = 93 := by decide +kernel
theorem k_bipush_42 : (Int8.ofInt (42)).toInt32 = 42 := by decide +kernel
theorem k_bipush_47 : (Int8.ofInt (47)).toInt32 = 47 := by decide +kernel
theorem k_bipush_124 : (Int8.ofInt (124)).toInt32 = 124 := by decide +kernel
theorem k_bipush_38 : (Int8.ofInt (38)).toInt32 = 38 := by decide +kernel
theorem k_bipush_43 : (Int8.ofInt (43)).toInt32 = 43 := by decide +kernel
theorem k_bipush_45 : (Int8.ofInt (45)).toInt32 = 45 := by decide +kernel
theorem k_iconst_3 : Int32.ofInt (3) = 3 := by decide +kernel
theorem k_bipush_61 : (Int8.ofInt (61)).toInt32 = 61 := by decide +kernel
theorem k_bipush_60 : (Int8.ofInt (60)).toInt32 = 60 := by decide +kernel
theorem k_bipush_62 : (Int8.ofInt (62)).toInt32 = 62 := by decide +kernel
theorem k_bipush_40 : (Int8.ofInt (40)).toInt32 = 40 := by decide +kernel
theorem k_bipush_41 : (Int8.ofInt (41)).toInt32 = 41 := by decide +kernel
theorem k_bipush_63 : (Int8.ofInt (63)).toInt32 = 63 := by decide +kernel
theorem k_bipush_59 : (Int8.ofInt (59)).toInt32 = 59 := by decide +kernel
theorem kK_16 : K0[16]? = some (0, 9, []) := rfl
theorem kK_15 : K0[15]? = some (0, 216, []) := rfl
theorem kK_21 : K0[21]? = some (0, 24, []) := rfl
theorem kK_18 : K0[18]? = some (0, 720, []) := rfl
theorem kK_20 : K0[20]? = some (0, 120, []) := rfl
theorem k_bipush_m33 : (Int8.ofInt (-33)).toInt32 = (-33 : Int32) := by decide +kernel
theorem kK_19 : K0[19]? = some (0, 6, []) := rfl
theorem k_bipush_9 : (Int8.ofInt (9)).toInt32 = 9 := by decide +kernel
theorem kK_22 : K0[22]? = some (0, 64, []) := rfl
theorem k_bipush_m23 : (Int8.ofInt (-23)).toInt32 = (-23 : Int32) := by decide +kernel
theorem k_bipush_23 : (Int8.ofInt (23)).toInt32 = 23 := by decide +kernel
theorem k_bipush_16 : (Int8.ofInt (16)).toInt32 = 16 := by decide +kernel
theorem k_bipush_12 : (Int8.ofInt (12)).toInt32 = 12 := by decide +kernel
theorem kK_23 : K0[23]? = some (0, 52, []) := rfl
theorem kK_24 : K0[24]? = some (0, 32, []) := rfl
theorem k_iconst_5 : Int32.ofInt (5) = 5 := by decide +kernel
theorem kK_13 : K0[13]? = some (0, 6, []) := rfl
theorem k_sipush_999 : (Int16.ofInt (999)).toInt32 = 999 := by decide +kernel
theorem kK_28 : K0[28]? = some (0, 256, []) := rfl
theorem kK_27 : K0[27]? = some (0, 8, []) := rfl
theorem k_bipush_31 : (Int8.ofInt (31)).toInt32 = 31 := by decide +kernel
theorem kK_31 : K0[31]? = some (0, 31, []) := rfl
theorem k_bipush_30 : (Int8.ofInt (30)).toInt32 = 30 := by decide +kernel
theorem kK_30 : K0[30]? = some (0, 1240, []) := rfl
theorem k_sipush_1000 : (Int16.ofInt (1000)).toInt32 = 1000 := by decide +kernel
theorem kK_33 : K0[33]? = some (0, 16, []) := rfl
theorem k_bipush_99 : (Int8.ofInt (99)).toInt32 = 99 := by decide +kernel
theorem kK_34 : K0[34]? = some (1, 9, []) := rfl
theorem k_bipush_20 : (Int8.ofInt (20)).toInt32 = 20 := by decide +kernel
theorem kK_35 : K0[35]? = some (0, 8, []) := rfl
theorem kK_36 : K0[36]? = some (0, 8, []) := rfl
theorem kK_37 : K0[37]? = some (0, 8, []) := rfl
theorem kK_38 : K0[38]? = some (0, 8, []) := rfl
theorem k_sipush_300 : (Int16.ofInt (300)).toInt32 = 300 := by decide +kernel
theorem kK_29 : K0[29]? = some (1, 155, []) := rfl
theorem k_bipush_100 : (Int8.ofInt (100)).toInt32 = 100 := by decide +kernel
theorem k_bipush_127 : (Int8.ofInt (127)).toInt32 = 127 := by decide +kernel
theorem kK_32 : K0[32]? = some (0, 40, []) := rfl
theorem kK_39 : K0[39]? = some (0, 120, []) := rfl
theorem kK_52 : K0[52]? = some (0, 7, []) := rfl
theorem kK_51 : K0[51]? = some (0, 56, []) := rfl
theorem kK_42 : K0[42]? = some (0, 7, []) := rfl
theorem kK_43 : K0[43]? = some (0, 7, []) := rfl
theorem k_bipush_90 : (Int8.ofInt (90)).toInt32 = 90 := by decide +kernel
theorem kK_44 : K0[44]? = some (0, 630, []) := rfl
theorem k_sipush_260 : (Int16.ofInt (260)).toInt32 = 260 := by decide +kernel
theorem kK_40 : K0[40]? = some (0, 1820, []) := rfl
theorem kK_41 : K0[41]? = some (0, 1820, []) := rfl
theorem kK_45 : K0[45]? = some (0, 630, []) := rfl
theorem kK_46 : K0[46]? = some (0, 630, []) := rfl
theorem k_bipush_11 : (Int8.ofInt (11)).toInt32 = 11 := by decide +kernel
theorem kK_50 : K0[50]? = some (0, 9, []) := rfl
theorem k_bipush_105 : (Int8.ofInt (105)).toInt32 = 105 := by decide +kernel
theorem k_bipush_106 : (Int8.ofInt (106)).toInt32 = 106 := by decide +kernel
theorem k_bipush_49 : (Int8.ofInt (49)).toInt32 = 49 := by decide +kernel
theorem kK_49 : K0[49]? = some (0, 216, []) := rfl
theorem kK_47 : K0[47]? = some (0, 4, []) := rfl
theorem k_bipush_m9 : (Int8.ofInt (-9)).toInt32 = (-9 : Int32) := by decide +kernel
theorem kK_48 : K0[48]? = some (0, 80, []) := rfl
theorem kK_53 : K0[53]? = some (0, 24, []) := rfl
theorem kK_54 : K0[54]? = some (0, 8, []) := rfl
theorem kK_55 : K0[55]? = some (0, 41, []) := rfl
theorem kK_56 : K0[56]? = some (0, 1230, []) := rfl
theorem k_bipush_29 : (Int8.ofInt (29)).toInt32 = 29 := by decide +kernel
theorem kK_57 : K0[57]? = some (0, 1230, []) := rfl
theorem kK_59 : K0[59]? = some (0, 16, []) := rfl
theorem kK_60 : K0[60]? = some (0, 8, []) := rfl
theorem kK_61 : K0[61]? = some (0, 8, []) := rfl
theorem kK_62 : K0[62]? = some (0, 8, []) := rfl
theorem k_sipush_10000 : (Int16.ofInt (10000)).toInt32 = 10000 := by decide +kernel
theorem kK_58 : K0[58]? = some (0, 41, []) := rfl
theorem k_iconst_7 : Int32.ofInt (7) = 7 := by decide +kernel
theorem kK_63 : K0[63]? = some (1, 1, []) := rfl
