abbrev M_X0_has : MD := (yX0_has, cX0_has, 2, some .boolean)
abbrev M_X0_gather : MD := (yX0_gather, cX0_gather, 6, none)
abbrev M_X1_open : MD := (yX1_open, cX1_open, 3, none)
abbrev M_X1_receives : MD := (yX1_receives, cX1_receives, 2, some .boolean)
abbrev M_X1_takesBack : MD := (yX1_takesBack, cX1_takesBack, 2, none)
abbrev M_X1_changePlaces : MD := (yX1_changePlaces, cX1_changePlaces, 3, none)
abbrev M_X1_ownWearers : MD := (yX1_ownWearers, cX1_ownWearers, 3, some .int)
abbrev M_X1_visitsHome : MD := (yX1_visitsHome, cX1_visitsHome, 3, some .int)
abbrev M_X1_firstAstray : MD := (yX1_firstAstray, cX1_firstAstray, 2, some .int)
abbrev M_X1_mostTaken : MD := (yX1_mostTaken, cX1_mostTaken, 3, some .int)
abbrev M_X1_fooling : MD := (yX1_fooling, cX1_fooling, 5, some .int)
abbrev M_X2_add : MD := (yX2_add, cX2_add, 4, some .int)
abbrev M_X2_reachBeyond : MD := (yX2_reachBeyond, cX2_reachBeyond, 3, some .boolean)
abbrev M_X2_areSo : MD := (yX2_areSo, cX2_areSo, 4, some .boolean)
abbrev M_X3_isNothing : MD := (yX3_isNothing, cX3_isNothing, 1, some .boolean)
abbrev M_X3_renew : MD := (yX3_renew, cX3_renew, 4, none)
abbrev M_X3_hasCells : MD := (yX3_hasCells, cX3_hasCells, 3, some .boolean)
abbrev M_X3_faultOfCells : MD := (yX3_faultOfCells, cX3_faultOfCells, 4, some .int)
abbrev M_X4_court : MD := (yX4_court, cX4_court, 7, some .int)
abbrev M_X4_ofHead : MD := (yX4_ofHead, cX4_ofHead, 3, some .int)
abbrev M_X4_wear : MD := (yX4_wear, cX4_wear, 4, some .int)
abbrev M_X4_knows : MD := (yX4_knows, cX4_knows, 4, some .int)
abbrev M_X4_visits : MD := (yX4_visits, cX4_visits, 8, some .int)
abbrev M_X4_plan : MD := (yX4_plan, cX4_plan, 4, some .int)
abbrev M_X4_reading : MD := (yX4_reading, cX4_reading, 4, some .int)
abbrev M_X4_back : MD := (yX4_back, cX4_back, 2, some .int)
abbrev M_X4_who : MD := (yX4_who, cX4_who, 9, some .int)
abbrev M_X4_kinds : MD := (yX4_kinds, cX4_kinds, 9, some .int)
abbrev M_X4_wears : MD := (yX4_wears, cX4_wears, 9, some .int)
abbrev M_X4_odds : MD := (yX4_odds, cX4_odds, 8, some .long)
abbrev M_X4_sheet : MD := (yX4_sheet, cX4_sheet, 5, some .int)
abbrev M_X4_lose : MD := (yX4_lose, cX4_lose, 3, some .int)
abbrev M_X4_put : MD := (yX4_put, cX4_put, 5, some .int)
abbrev M_X4_cell : MD := (yX4_cell, cX4_cell, 5, some .long)
abbrev M_X4_copy : MD := (yX4_copy, cX4_copy, 7, some .int)
abbrev M_X4_tell : MD := (yX4_tell, cX4_tell, 2, some .int)
abbrev M_X4_greet : MD := (yX4_greet, cX4_greet, 2, some .int)
abbrev M_X4_as : MD := (yX4_as, cX4_as, 3, some .int)
abbrev M_X4_trace : MD := (yX4_trace, cX4_trace, 1, some .int)
abbrev M_X4_fault : MD := (yX4_fault, cX4_fault, 1, some .int)
abbrev M_X4_many : MD := (yX4_many, cX4_many, 2, some .int)
abbrev M_X4_noted : MD := (yX4_noted, cX4_noted, 2, some .int)
abbrev M_X4_troubleOfCells : MD := (yX4_troubleOfCells, cX4_troubleOfCells, 5, some .int)
abbrev M_X4_troubleOfVisits : MD := (yX4_troubleOfVisits, cX4_troubleOfVisits, 7, some .int)
abbrev M_X4_troubleOfOne : MD := (yX4_troubleOfOne, cX4_troubleOfOne, 6, some .int)
abbrev M_X4_troubleOfNew : MD := (yX4_troubleOfNew, cX4_troubleOfNew, 4, some .int)
abbrev M_X4_troubleOfPut : MD := (yX4_troubleOfPut, cX4_troubleOfPut, 3, some .int)
abbrev M_X4_troubleOfCopy : MD := (yX4_troubleOfCopy, cX4_troubleOfCopy, 6, some .int)
abbrev M_X4_answerOfKind : MD := (yX4_answerOfKind, cX4_answerOfKind, 3, some .int)
abbrev M_X4_isSheet : MD := (yX4_isSheet, cX4_isSheet, 1, some .boolean)
abbrev M_X4_isLane : MD := (yX4_isLane, cX4_isLane, 1, some .boolean)
abbrev M_X4_isQuestion : MD := (yX4_isQuestion, cX4_isQuestion, 1, some .boolean)
abbrev M_X4_firstFault : MD := (yX4_firstFault, cX4_firstFault, 4, some .int)
abbrev M_X4_goesOn : MD := (yX4_goesOn, cX4_goesOn, 2, some .boolean)
abbrev M_X4_kindOfLetter : MD := (yX4_kindOfLetter, cX4_kindOfLetter, 1, some .int)
abbrev M_X4_lasting : MD := (yX4_lasting, cX4_lasting, 3, some .int)
abbrev M_X4_takeRow : MD := (yX4_takeRow, cX4_takeRow, 6, some .boolean)
abbrev M_X4_firstWrong : MD := (yX4_firstWrong, cX4_firstWrong, 2, some .int)
abbrev M_X4_answerOfHall : MD := (yX4_answerOfHall, cX4_answerOfHall, 2, some .int)
abbrev M_X4_answerOfHead : MD := (yX4_answerOfHead, cX4_answerOfHead, 3, some .int)
abbrev M_X4_bitIfAllSo : MD := (yX4_bitIfAllSo, cX4_bitIfAllSo, 2, some .int)
abbrev M_X4_allSo : MD := (yX4_allSo, cX4_allSo, 2, some .boolean)
abbrev M_X4_rowsTo : MD := (yX4_rowsTo, cX4_rowsTo, 6, some .int)
abbrev M_X4_greatestDivisor : MD := (yX4_greatestDivisor, cX4_greatestDivisor, 6, some .int)
abbrev M_X4_leaveTrace : MD := (yX4_leaveTrace, cX4_leaveTrace, 2, none)
abbrev M_X4_headsTelling : MD := (yX4_headsTelling, cX4_headsTelling, 2, some .int)
abbrev M_X4_lordsTelling : MD := (yX4_lordsTelling, cX4_lordsTelling, 2, some .int)
abbrev M_X4_spysTelling : MD := (yX4_spysTelling, cX4_spysTelling, 3, some .int)
abbrev M_X4_cut : MD := (yX4_cut, cX4_cut, 2, some .int)
abbrev M_X5_fails : MD := (yX5_fails, cX5_fails, 2, some .int)
abbrev M_X5_lost : MD := (yX5_lost, cX5_lost, 2, some .long)
abbrev M_X5_within : MD := (yX5_within, cX5_within, 3, some .boolean)
abbrev M_X5_isSheet : MD := (yX5_isSheet, cX5_isSheet, 1, some .boolean)
abbrev M_X5_isSort : MD := (yX5_isSort, cX5_isSort, 1, some .boolean)
abbrev M_X5_against : MD := (yX5_against, cX5_against, 5, some .int)
abbrev M_X5_isHead : MD := (yX5_isHead, cX5_isHead, 2, some .boolean)
abbrev M_X5_digit : MD := (yX5_digit, cX5_digit, 4, some .int)
abbrev M_X5_isSign : MD := (yX5_isSign, cX5_isSign, 3, some .boolean)
abbrev M_X5_court : MD := (yX5_court, cX5_court, 8, some .int)
abbrev M_X5_readCourt : MD := (yX5_readCourt, cX5_readCourt, 2, some .boolean)
abbrev M_X5_readHead : MD := (yX5_readHead, cX5_readHead, 4, some .boolean)
abbrev M_X5_lasts : MD := (yX5_lasts, cX5_lasts, 3, some .int)
abbrev M_X5_ofHead : MD := (yX5_ofHead, cX5_ofHead, 3, some .int)
abbrev M_X5_wear : MD := (yX5_wear, cX5_wear, 4, some .int)
abbrev M_X5_knows : MD := (yX5_knows, cX5_knows, 4, some .int)
abbrev M_X5_begin : MD := (yX5_begin, cX5_begin, 2, none)
abbrev M_X5_change : MD := (yX5_change, cX5_change, 3, none)
abbrev M_X5_visit : MD := (yX5_visit, cX5_visit, 2, some .boolean)
abbrev M_X5_layVisits : MD := (yX5_layVisits, cX5_layVisits, 7, some .int)
abbrev M_X5_isRow : MD := (yX5_isRow, cX5_isRow, 2, some .boolean)
abbrev M_X5_go : MD := (yX5_go, cX5_go, 2, some .int)
abbrev M_X5_isWhat : MD := (yX5_isWhat, cX5_isWhat, 1, some .boolean)
abbrev M_X5_visits : MD := (yX5_visits, cX5_visits, 8, some .int)
abbrev M_X5_tellVisits : MD := (yX5_tellVisits, cX5_tellVisits, 3, some .int)
abbrev M_X5_atHome : MD := (yX5_atHome, cX5_atHome, 3, some .int)
abbrev M_X5_firstAway : MD := (yX5_firstAway, cX5_firstAway, 2, some .int)
abbrev M_X5_home : MD := (yX5_home, cX5_home, 2, some .int)
abbrev M_X5_worn : MD := (yX5_worn, cX5_worn, 3, some .int)
abbrev M_X5_fooled : MD := (yX5_fooled, cX5_fooled, 4, some .int)
abbrev M_X5_layRow : MD := (yX5_layRow, cX5_layRow, 5, none)
abbrev M_X5_findPlan : MD := (yX5_findPlan, cX5_findPlan, 6, none)
abbrev M_X5_plan : MD := (yX5_plan, cX5_plan, 4, some .int)
abbrev M_X5_reading : MD := (yX5_reading, cX5_reading, 4, some .int)
abbrev M_X5_back : MD := (yX5_back, cX5_back, 2, some .int)
abbrev M_X5_areSoBehind : MD := (yX5_areSoBehind, cX5_areSoBehind, 3, some .boolean)
abbrev M_X5_areSo : MD := (yX5_areSo, cX5_areSo, 3, some .boolean)
abbrev M_X5_who : MD := (yX5_who, cX5_who, 9, some .int)
abbrev M_X5_lay : MD := (yX5_lay, cX5_lay, 6, some .int)
abbrev M_X5_kinds : MD := (yX5_kinds, cX5_kinds, 10, some .int)
abbrev M_X5_wears : MD := (yX5_wears, cX5_wears, 10, some .int)
abbrev M_X5_inLeastTerms : MD := (yX5_inLeastTerms, cX5_inLeastTerms, 11, some .long)
abbrev M_X5_odds : MD := (yX5_odds, cX5_odds, 8, some .long)
abbrev M_X5_sheet : MD := (yX5_sheet, cX5_sheet, 5, some .int)
abbrev M_X5_lose : MD := (yX5_lose, cX5_lose, 3, some .int)
abbrev M_X5_put : MD := (yX5_put, cX5_put, 4, some .int)
abbrev M_X5_cell : MD := (yX5_cell, cX5_cell, 4, some .long)
abbrev M_X5_copy : MD := (yX5_copy, cX5_copy, 10, some .int)
abbrev M_X5_begins : MD := (yX5_begins, cX5_begins, 2, none)
abbrev M_X5_tell : MD := (yX5_tell, cX5_tell, 3, some .int)
abbrev M_X5_greet : MD := (yX5_greet, cX5_greet, 2, some .int)
abbrev M_X5_as : MD := (yX5_as, cX5_as, 3, some .int)
abbrev M_X5_trace : MD := (yX5_trace, cX5_trace, 1, some .int)
abbrev M_X5_fault : MD := (yX5_fault, cX5_fault, 1, some .int)
abbrev M_X5_many : MD := (yX5_many, cX5_many, 2, some .int)
theorem rok2 (d : Nat) : 1 ≤ (rmD (d + 1)).frames ∧ 40 ≤ (rmD (d + 1)).locals ∧ 0 ≤ (rmD (d + 1)).cells ∧ 0 ≤ (rmD (d + 1)).slots := ⟨by show 1 ≤ d + 1; omega, by show 40 ≤ 40 * (d + 1); omega, Nat.zero_le _, Nat.zero_le _⟩
theorem rok1 (d : Nat) : 1 ≤ (rmD (d + 1)).frames ∧ 40 ≤ (rmD (d + 1)).locals := ⟨by show 1 ≤ d + 1; omega, by show 40 ≤ 40 * (d + 1); omega⟩
set_option maxRecDepth 20000 in
theorem fl_X0_21 : FL RX0 21 0 3 := ⟨RX0, TX0, 4, 100, rfl, by decide, Or.inl ⟨by decide +kernel, rfl⟩⟩
set_option maxRecDepth 20000 in
theorem fl_X0_9 : FL RX0 9 0 0 := ⟨RX0, TX0, 4, 91, rfl, by decide, Or.inl ⟨by decide +kernel, rfl⟩⟩
set_option maxRecDepth 20000 in
theorem fl_X0_31 : FL RX0 31 3 0 := ⟨RX3, TX3, 3, 71, rfl, by decide, Or.inr ⟨by decide +kernel, rfl⟩⟩
set_option maxRecDepth 20000 in
theorem ml_X0_36 : MS1 RX0 36 M_X4_kindOfLetter 1 := ⟨227, 228, Or.inr ⟨by decide +kernel, rfl⟩, ⟨by decide +kernel, rfl⟩, ⟨47, 229, ⟨by decide +kernel, rfl⟩, ⟨by decide +kernel, rfl⟩, by decide +kernel, by decide⟩⟩
set_option maxRecDepth 20000 in
theorem fl_X0_15 : FL RX0 15 0 1 := ⟨RX0, TX0, 4, 94, rfl, by decide, Or.inl ⟨by decide +kernel, rfl⟩⟩
set_option maxRecDepth 20000 in
theorem fl_X0_18 : FL RX0 18 0 2 := ⟨RX0, TX0, 4, 97, rfl, by decide, Or.inl ⟨by decide +kernel, rfl⟩⟩
set_option maxRecDepth 20000 in
theorem fl_X1_25 : FL RX1 25 0 3 := ⟨RX0, TX0, 4, 99, rfl, by decide, Or.inr ⟨by decide +kernel, rfl⟩⟩
set_option maxRecDepth 20000 in
theorem fl_X1_30 : FL RX1 30 1 3 := ⟨RX1, TX1, 5, 124, rfl, by decide, Or.inl ⟨by decide +kernel, rfl⟩⟩
set_option maxRecDepth 20000 in
theorem fl_X1_21 : FL RX1 21 1 4 := ⟨RX1, TX1, 5, 126, rfl, by decide, Or.inl ⟨by decide +kernel, rfl⟩⟩
set_option maxRecDepth 20000 in
theorem fl_X1_9 : FL RX1 9 1 0 := ⟨RX1, TX1, 5, 117, rfl, by decide, Or.inl ⟨by decide +kernel, rfl⟩⟩
set_option maxRecDepth 20000 in
theorem fl_X1_15 : FL RX1 15 1 1 := ⟨RX1, TX1, 5, 120, rfl, by decide, Or.inl ⟨by decide +kernel, rfl⟩⟩
set_option maxRecDepth 20000 in
theorem fl_X1_18 : FL RX1 18 1 2 := ⟨RX1, TX1, 5, 122, rfl, by decide, Or.inl ⟨by decide +kernel, rfl⟩⟩
set_option maxRecDepth 20000 in
theorem fl_X1_33 : FL RX1 33 0 0 := ⟨RX0, TX0, 4, 92, rfl, by decide, Or.inr ⟨by decide +kernel, rfl⟩⟩
set_option maxRecDepth 20000 in
theorem fl_X1_36 : FL RX1 36 0 1 := ⟨RX0, TX0, 4, 95, rfl, by decide, Or.inr ⟨by decide +kernel, rfl⟩⟩
set_option maxRecDepth 20000 in
theorem ml_X1_39 : MS1 RX1 39 M_X4_lasting 2 := ⟨272, 239, Or.inr ⟨by decide +kernel, rfl⟩, ⟨by decide +kernel, rfl⟩, ⟨47, 240, ⟨by decide +kernel, rfl⟩, ⟨by decide +kernel, rfl⟩, by decide +kernel, by decide⟩⟩
set_option maxRecDepth 20000 in
theorem ml_X1_43 : MV1 RX1 43 M_X1_changePlaces 1 := ⟨277, 279, 5, ⟨by decide +kernel, rfl⟩, ⟨by decide +kernel, rfl⟩, ⟨by decide +kernel, rfl⟩, ⟨50, 280, ⟨by decide +kernel, rfl⟩, ⟨by decide +kernel, rfl⟩, by decide +kernel, by decide⟩⟩
set_option maxRecDepth 20000 in
theorem ml_X1_47 : MV1 RX1 47 M_X1_firstAstray 0 := ⟨293, 295, 7, ⟨by decide +kernel, rfl⟩, ⟨by decide +kernel, rfl⟩, ⟨by decide +kernel, rfl⟩, ⟨50, 296, ⟨by decide +kernel, rfl⟩, ⟨by decide +kernel, rfl⟩, by decide +kernel, by decide⟩⟩
set_option maxRecDepth 20000 in
theorem fl_X2_9 : FL RX2 9 2 0 := ⟨RX2, TX2, 4, 145, rfl, by decide, Or.inl ⟨by decide +kernel, rfl⟩⟩
set_option maxRecDepth 20000 in
theorem fl_X2_21 : FL RX2 21 2 3 := ⟨RX2, TX2, 4, 148, rfl, by decide, Or.inl ⟨by decide +kernel, rfl⟩⟩
set_option maxRecDepth 20000 in
theorem fl_X2_15 : FL RX2 15 2 1 := ⟨RX2, TX2, 4, 146, rfl, by decide, Or.inl ⟨by decide +kernel, rfl⟩⟩
set_option maxRecDepth 20000 in
theorem fl_X2_18 : FL RX2 18 2 2 := ⟨RX2, TX2, 4, 147, rfl, by decide, Or.inl ⟨by decide +kernel, rfl⟩⟩
set_option maxRecDepth 20000 in
theorem fl_X2_25 : FL RX2 25 1 0 := ⟨RX1, TX1, 5, 118, rfl, by decide, Or.inr ⟨by decide +kernel, rfl⟩⟩
set_option maxRecDepth 20000 in
theorem fl_X3_15 : FL RX3 15 3 2 := ⟨RX3, TX3, 3, 75, rfl, by decide, Or.inl ⟨by decide +kernel, rfl⟩⟩
set_option maxRecDepth 20000 in
theorem fl_X3_19 : FL RX3 19 3 1 := ⟨RX3, TX3, 3, 73, rfl, by decide, Or.inl ⟨by decide +kernel, rfl⟩⟩
set_option maxRecDepth 20000 in
theorem fl_X3_9 : FL RX3 9 3 0 := ⟨RX3, TX3, 3, 70, rfl, by decide, Or.inl ⟨by decide +kernel, rfl⟩⟩
set_option maxRecDepth 20000 in
theorem ml_X3_22 : MV1 RX3 22 M_X3_isNothing 0 := ⟨202, 203, 204, ⟨by decide +kernel, rfl⟩, ⟨by decide +kernel, rfl⟩, ⟨by decide +kernel, rfl⟩, ⟨48, 205, ⟨by decide +kernel, rfl⟩, ⟨by decide +kernel, rfl⟩, by decide +kernel, by decide⟩⟩
set_option maxRecDepth 20000 in
theorem ml_X3_26 : MV1 RX3 26 M_X3_hasCells 2 := ⟨206, 207, 208, ⟨by decide +kernel, rfl⟩, ⟨by decide +kernel, rfl⟩, ⟨by decide +kernel, rfl⟩, ⟨48, 209, ⟨by decide +kernel, rfl⟩, ⟨by decide +kernel, rfl⟩, by decide +kernel, by decide⟩⟩
set_option maxRecDepth 20000 in
theorem ml_X4_43 : MV1 RX4 43 M_X4_troubleOfCells 4 := ⟨188, 190, 0, ⟨by decide +kernel, rfl⟩, ⟨by decide +kernel, rfl⟩, ⟨by decide +kernel, rfl⟩, ⟨47, 191, ⟨by decide +kernel, rfl⟩, ⟨by decide +kernel, rfl⟩, by decide +kernel, by decide⟩⟩
set_option maxRecDepth 20000 in
theorem ml_X4_47 : MV1 RX4 47 M_X4_noted 1 := ⟨210, 212, 1, ⟨by decide +kernel, rfl⟩, ⟨by decide +kernel, rfl⟩, ⟨by decide +kernel, rfl⟩, ⟨47, 213, ⟨by decide +kernel, rfl⟩, ⟨by decide +kernel, rfl⟩, by decide +kernel, by decide⟩⟩
set_option maxRecDepth 20000 in
theorem fl_X4_13 : FL RX4 13 4 0 := ⟨RX4, TX4, 8, 159, rfl, by decide, Or.inl ⟨by decide +kernel, rfl⟩⟩
set_option maxRecDepth 20000 in
theorem ml_X4_51 : MS1 RX4 51 M_X4_firstFault 3 := ⟨214, 215, Or.inl ⟨by decide +kernel, rfl⟩, ⟨by decide +kernel, rfl⟩, ⟨47, 216, ⟨by decide +kernel, rfl⟩, ⟨by decide +kernel, rfl⟩, by decide +kernel, by decide⟩⟩
set_option maxRecDepth 20000 in
theorem fl_X4_21 : FL RX4 21 4 1 := ⟨RX4, TX4, 8, 160, rfl, by decide, Or.inl ⟨by decide +kernel, rfl⟩⟩
set_option maxRecDepth 20000 in
theorem ml_X4_55 : MV1 RX4 55 M_X0_gather 3 := ⟨220, 221, 222, ⟨by decide +kernel, rfl⟩, ⟨by decide +kernel, rfl⟩, ⟨by decide +kernel, rfl⟩, ⟨49, 223, ⟨by decide +kernel, rfl⟩, ⟨by decide +kernel, rfl⟩, by decide +kernel, by decide⟩⟩
set_option maxRecDepth 20000 in
theorem fl_X4_35 : FL RX4 35 4 3 := ⟨RX4, TX4, 8, 162, rfl, by decide, Or.inl ⟨by decide +kernel, rfl⟩⟩
set_option maxRecDepth 20000 in
theorem fl_X4_59 : FL RX4 59 2 3 := ⟨RX2, TX2, 4, 149, rfl, by decide, Or.inr ⟨by decide +kernel, rfl⟩⟩
set_option maxRecDepth 20000 in
theorem fl_X4_63 : FL RX4 63 0 3 := ⟨RX0, TX0, 4, 101, rfl, by decide, Or.inr ⟨by decide +kernel, rfl⟩⟩
set_option maxRecDepth 20000 in
theorem ml_X4_64 : MV1 RX4 64 M_X0_has 1 := ⟨234, 235, 236, ⟨by decide +kernel, rfl⟩, ⟨by decide +kernel, rfl⟩, ⟨by decide +kernel, rfl⟩, ⟨49, 237, ⟨by decide +kernel, rfl⟩, ⟨by decide +kernel, rfl⟩, by decide +kernel, by decide⟩⟩
set_option maxRecDepth 20000 in
theorem fl_X4_68 : FL RX4 68 0 0 := ⟨RX0, TX0, 4, 93, rfl, by decide, Or.inr ⟨by decide +kernel, rfl⟩⟩
set_option maxRecDepth 20000 in
theorem fl_X4_71 : FL RX4 71 0 1 := ⟨RX0, TX0, 4, 96, rfl, by decide, Or.inr ⟨by decide +kernel, rfl⟩⟩
set_option maxRecDepth 20000 in
theorem fl_X4_74 : FL RX4 74 0 2 := ⟨RX0, TX0, 4, 98, rfl, by decide, Or.inr ⟨by decide +kernel, rfl⟩⟩
set_option maxRecDepth 20000 in
theorem ml_X4_77 : MS1 RX4 77 M_X4_lasting 2 := ⟨238, 239, Or.inl ⟨by decide +kernel, rfl⟩, ⟨by decide +kernel, rfl⟩, ⟨47, 240, ⟨by decide +kernel, rfl⟩, ⟨by decide +kernel, rfl⟩, by decide +kernel, by decide⟩⟩
set_option maxRecDepth 20000 in
theorem ml_X4_81 : MS1 RX4 81 M_X4_isQuestion 1 := ⟨253, 254, Or.inl ⟨by decide +kernel, rfl⟩, ⟨by decide +kernel, rfl⟩, ⟨47, 255, ⟨by decide +kernel, rfl⟩, ⟨by decide +kernel, rfl⟩, by decide +kernel, by decide⟩⟩
set_option maxRecDepth 20000 in
theorem ml_X4_84 : MV1 RX4 84 M_X4_troubleOfVisits 5 := ⟨256, 258, 2, ⟨by decide +kernel, rfl⟩, ⟨by decide +kernel, rfl⟩, ⟨by decide +kernel, rfl⟩, ⟨47, 259, ⟨by decide +kernel, rfl⟩, ⟨by decide +kernel, rfl⟩, by decide +kernel, by decide⟩⟩
set_option maxRecDepth 20000 in
theorem ml_X4_88 : MV1 RX4 88 M_X4_firstWrong 0 := ⟨264, 266, 4, ⟨by decide +kernel, rfl⟩, ⟨by decide +kernel, rfl⟩, ⟨by decide +kernel, rfl⟩, ⟨47, 267, ⟨by decide +kernel, rfl⟩, ⟨by decide +kernel, rfl⟩, by decide +kernel, by decide⟩⟩
set_option maxRecDepth 20000 in
theorem ml_X4_95 : MV1 RX4 95 M_X4_answerOfHead 2 := ⟨301, 303, 8, ⟨by decide +kernel, rfl⟩, ⟨by decide +kernel, rfl⟩, ⟨by decide +kernel, rfl⟩, ⟨47, 304, ⟨by decide +kernel, rfl⟩, ⟨by decide +kernel, rfl⟩, by decide +kernel, by decide⟩⟩
set_option maxRecDepth 20000 in
theorem ml_X4_92 : MV1 RX4 92 M_X4_answerOfHall 1 := ⟨281, 283, 6, ⟨by decide +kernel, rfl⟩, ⟨by decide +kernel, rfl⟩, ⟨by decide +kernel, rfl⟩, ⟨47, 284, ⟨by decide +kernel, rfl⟩, ⟨by decide +kernel, rfl⟩, by decide +kernel, by decide⟩⟩
set_option maxRecDepth 20000 in
theorem ml_X4_98 : MV1 RX4 98 M_X2_add 3 := ⟨317, 318, 319, ⟨by decide +kernel, rfl⟩, ⟨by decide +kernel, rfl⟩, ⟨by decide +kernel, rfl⟩, ⟨51, 320, ⟨by decide +kernel, rfl⟩, ⟨by decide +kernel, rfl⟩, by decide +kernel, by decide⟩⟩
set_option maxRecDepth 20000 in
theorem fl_X4_39 : FL RX4 39 4 4 := ⟨RX4, TX4, 8, 163, rfl, by decide, Or.inl ⟨by decide +kernel, rfl⟩⟩
set_option maxRecDepth 20000 in
theorem fl_X4_28 : FL RX4 28 4 2 := ⟨RX4, TX4, 8, 161, rfl, by decide, Or.inl ⟨by decide +kernel, rfl⟩⟩
set_option maxRecDepth 20000 in
theorem ml_X4_102 : MV1 RX4 102 M_X1_open 1 := ⟨268, 269, 270, ⟨by decide +kernel, rfl⟩, ⟨by decide +kernel, rfl⟩, ⟨by decide +kernel, rfl⟩, ⟨50, 271, ⟨by decide +kernel, rfl⟩, ⟨by decide +kernel, rfl⟩, by decide +kernel, by decide⟩⟩
set_option maxRecDepth 20000 in
theorem ml_X4_106 : MV1 RX4 106 M_X4_bitIfAllSo 1 := ⟨329, 331, 9, ⟨by decide +kernel, rfl⟩, ⟨by decide +kernel, rfl⟩, ⟨by decide +kernel, rfl⟩, ⟨47, 332, ⟨by decide +kernel, rfl⟩, ⟨by decide +kernel, rfl⟩, by decide +kernel, by decide⟩⟩
set_option maxRecDepth 20000 in
theorem ml_X4_109 : MV1 RX4 109 M_X4_troubleOfOne 5 := ⟨349, 351, 11, ⟨by decide +kernel, rfl⟩, ⟨by decide +kernel, rfl⟩, ⟨by decide +kernel, rfl⟩, ⟨47, 352, ⟨by decide +kernel, rfl⟩, ⟨by decide +kernel, rfl⟩, by decide +kernel, by decide⟩⟩
set_option maxRecDepth 20000 in
theorem fl_X4_113 : FL RX4 113 1 2 := ⟨RX1, TX1, 5, 123, rfl, by decide, Or.inr ⟨by decide +kernel, rfl⟩⟩
set_option maxRecDepth 20000 in
theorem ml_X4_118 : MS1 RX4 118 M_X4_rowsTo 4 := ⟨362, 363, Or.inl ⟨by decide +kernel, rfl⟩, ⟨by decide +kernel, rfl⟩, ⟨47, 364, ⟨by decide +kernel, rfl⟩, ⟨by decide +kernel, rfl⟩, by decide +kernel, by decide⟩⟩
set_option maxRecDepth 20000 in
theorem ml_X4_122 : MS1 RX4 122 M_X4_greatestDivisor 2 := ⟨369, 370, Or.inl ⟨by decide +kernel, rfl⟩, ⟨by decide +kernel, rfl⟩, ⟨47, 371, ⟨by decide +kernel, rfl⟩, ⟨by decide +kernel, rfl⟩, by decide +kernel, by decide⟩⟩
set_option maxRecDepth 20000 in
theorem ml_X4_125 : MV1 RX4 125 M_X4_troubleOfNew 3 := ⟨379, 381, 12, ⟨by decide +kernel, rfl⟩, ⟨by decide +kernel, rfl⟩, ⟨by decide +kernel, rfl⟩, ⟨47, 382, ⟨by decide +kernel, rfl⟩, ⟨by decide +kernel, rfl⟩, by decide +kernel, by decide⟩⟩
set_option maxRecDepth 20000 in
theorem ml_X4_128 : MV1 RX4 128 M_X3_renew 2 := ⟨383, 384, 385, ⟨by decide +kernel, rfl⟩, ⟨by decide +kernel, rfl⟩, ⟨by decide +kernel, rfl⟩, ⟨48, 386, ⟨by decide +kernel, rfl⟩, ⟨by decide +kernel, rfl⟩, by decide +kernel, by decide⟩⟩
set_option maxRecDepth 20000 in
theorem ml_X4_132 : MS1 RX4 132 M_X4_isSheet 1 := ⟨192, 193, Or.inl ⟨by decide +kernel, rfl⟩, ⟨by decide +kernel, rfl⟩, ⟨47, 194, ⟨by decide +kernel, rfl⟩, ⟨by decide +kernel, rfl⟩, by decide +kernel, by decide⟩⟩
set_option maxRecDepth 20000 in
theorem ml_X4_135 : MV1 RX4 135 M_X3_isNothing 0 := ⟨391, 203, 204, ⟨by decide +kernel, rfl⟩, ⟨by decide +kernel, rfl⟩, ⟨by decide +kernel, rfl⟩, ⟨48, 205, ⟨by decide +kernel, rfl⟩, ⟨by decide +kernel, rfl⟩, by decide +kernel, by decide⟩⟩
set_option maxRecDepth 20000 in
theorem fl_X4_139 : FL RX4 139 3 2 := ⟨RX3, TX3, 3, 76, rfl, by decide, Or.inr ⟨by decide +kernel, rfl⟩⟩
set_option maxRecDepth 20000 in
theorem ml_X4_142 : MV1 RX4 142 M_X4_troubleOfPut 2 := ⟨396, 398, 13, ⟨by decide +kernel, rfl⟩, ⟨by decide +kernel, rfl⟩, ⟨by decide +kernel, rfl⟩, ⟨47, 399, ⟨by decide +kernel, rfl⟩, ⟨by decide +kernel, rfl⟩, by decide +kernel, by decide⟩⟩
set_option maxRecDepth 20000 in
theorem fl_X4_145 : FL RX4 145 3 0 := ⟨RX3, TX3, 3, 72, rfl, by decide, Or.inr ⟨by decide +kernel, rfl⟩⟩
set_option maxRecDepth 20000 in
theorem fl_X4_148 : FL RX4 148 3 1 := ⟨RX3, TX3, 3, 74, rfl, by decide, Or.inr ⟨by decide +kernel, rfl⟩⟩
set_option maxRecDepth 20000 in
theorem ml_X4_151 : MS1 RX4 151 M_X4_cut 2 := ⟨401, 402, Or.inl ⟨by decide +kernel, rfl⟩, ⟨by decide +kernel, rfl⟩, ⟨47, 403, ⟨by decide +kernel, rfl⟩, ⟨by decide +kernel, rfl⟩, by decide +kernel, by decide⟩⟩
set_option maxRecDepth 20000 in
theorem ml_X4_154 : MV1 RX4 154 M_X4_troubleOfCopy 5 := ⟨412, 414, 14, ⟨by decide +kernel, rfl⟩, ⟨by decide +kernel, rfl⟩, ⟨by decide +kernel, rfl⟩, ⟨47, 415, ⟨by decide +kernel, rfl⟩, ⟨by decide +kernel, rfl⟩, by decide +kernel, by decide⟩⟩
set_option maxRecDepth 20000 in
theorem ml_X4_166 : MV1 RX4 166 M_X4_lordsTelling 1 := ⟨431, 433, 17, ⟨by decide +kernel, rfl⟩, ⟨by decide +kernel, rfl⟩, ⟨by decide +kernel, rfl⟩, ⟨47, 434, ⟨by decide +kernel, rfl⟩, ⟨by decide +kernel, rfl⟩, by decide +kernel, by decide⟩⟩
set_option maxRecDepth 20000 in
theorem ml_X4_163 : MV1 RX4 163 M_X4_spysTelling 1 := ⟨423, 425, 15, ⟨by decide +kernel, rfl⟩, ⟨by decide +kernel, rfl⟩, ⟨by decide +kernel, rfl⟩, ⟨47, 426, ⟨by decide +kernel, rfl⟩, ⟨by decide +kernel, rfl⟩, by decide +kernel, by decide⟩⟩
set_option maxRecDepth 20000 in
theorem ml_X4_169 : MV1 RX4 169 M_X4_headsTelling 1 := ⟨435, 437, 18, ⟨by decide +kernel, rfl⟩, ⟨by decide +kernel, rfl⟩, ⟨by decide +kernel, rfl⟩, ⟨47, 438, ⟨by decide +kernel, rfl⟩, ⟨by decide +kernel, rfl⟩, by decide +kernel, by decide⟩⟩
set_option maxRecDepth 20000 in
theorem ml_X4_172 : MV1 RX4 172 M_X4_leaveTrace 1 := ⟨427, 429, 16, ⟨by decide +kernel, rfl⟩, ⟨by decide +kernel, rfl⟩, ⟨by decide +kernel, rfl⟩, ⟨47, 430, ⟨by decide +kernel, rfl⟩, ⟨by decide +kernel, rfl⟩, by decide +kernel, by decide⟩⟩
set_option maxRecDepth 20000 in
theorem ml_X4_176 : MV1 RX4 176 M_X4_answerOfKind 2 := ⟨447, 449, 19, ⟨by decide +kernel, rfl⟩, ⟨by decide +kernel, rfl⟩, ⟨by decide +kernel, rfl⟩, ⟨47, 450, ⟨by decide +kernel, rfl⟩, ⟨by decide +kernel, rfl⟩, by decide +kernel, by decide⟩⟩
set_option maxRecDepth 20000 in
theorem fl_X4_179 : FL RX4 179 4 6 := ⟨RX4, TX4, 8, 165, rfl, by decide, Or.inl ⟨by decide +kernel, rfl⟩⟩
set_option maxRecDepth 20000 in
theorem fl_X4_182 : FL RX4 182 4 7 := ⟨RX4, TX4, 8, 166, rfl, by decide, Or.inl ⟨by decide +kernel, rfl⟩⟩
set_option maxRecDepth 20000 in
theorem ml_X4_185 : MS1 RX4 185 M_X4_isLane 1 := ⟨195, 196, Or.inl ⟨by decide +kernel, rfl⟩, ⟨by decide +kernel, rfl⟩, ⟨47, 197, ⟨by decide +kernel, rfl⟩, ⟨by decide +kernel, rfl⟩, by decide +kernel, by decide⟩⟩
set_option maxRecDepth 20000 in
theorem ml_X4_188 : MV1 RX4 188 M_X3_faultOfCells 3 := ⟨198, 199, 200, ⟨by decide +kernel, rfl⟩, ⟨by decide +kernel, rfl⟩, ⟨by decide +kernel, rfl⟩, ⟨48, 201, ⟨by decide +kernel, rfl⟩, ⟨by decide +kernel, rfl⟩, by decide +kernel, by decide⟩⟩
set_option maxRecDepth 20000 in
theorem ml_X4_191 : MV1 RX4 191 M_X4_takeRow 3 := ⟨260, 262, 3, ⟨by decide +kernel, rfl⟩, ⟨by decide +kernel, rfl⟩, ⟨by decide +kernel, rfl⟩, ⟨47, 263, ⟨by decide +kernel, rfl⟩, ⟨by decide +kernel, rfl⟩, by decide +kernel, by decide⟩⟩
set_option maxRecDepth 20000 in
theorem ml_X4_195 : MV1 RX4 195 M_X3_hasCells 2 := ⟨400, 207, 208, ⟨by decide +kernel, rfl⟩, ⟨by decide +kernel, rfl⟩, ⟨by decide +kernel, rfl⟩, ⟨48, 209, ⟨by decide +kernel, rfl⟩, ⟨by decide +kernel, rfl⟩, by decide +kernel, by decide⟩⟩
set_option maxRecDepth 20000 in
theorem ml_X4_199 : MS1 RX4 199 M_X4_goesOn 2 := ⟨217, 218, Or.inl ⟨by decide +kernel, rfl⟩, ⟨by decide +kernel, rfl⟩, ⟨47, 219, ⟨by decide +kernel, rfl⟩, ⟨by decide +kernel, rfl⟩, by decide +kernel, by decide⟩⟩
set_option maxRecDepth 20000 in
theorem fl_X4_202 : FL RX4 202 4 5 := ⟨RX4, TX4, 8, 164, rfl, by decide, Or.inl ⟨by decide +kernel, rfl⟩⟩
set_option maxRecDepth 20000 in
theorem ml_X4_205 : MV1 RX4 205 M_X1_receives 1 := ⟨273, 274, 275, ⟨by decide +kernel, rfl⟩, ⟨by decide +kernel, rfl⟩, ⟨by decide +kernel, rfl⟩, ⟨50, 276, ⟨by decide +kernel, rfl⟩, ⟨by decide +kernel, rfl⟩, by decide +kernel, by decide⟩⟩
set_option maxRecDepth 20000 in
theorem ml_X4_208 : MV1 RX4 208 M_X1_ownWearers 0 := ⟨285, 286, 287, ⟨by decide +kernel, rfl⟩, ⟨by decide +kernel, rfl⟩, ⟨by decide +kernel, rfl⟩, ⟨50, 288, ⟨by decide +kernel, rfl⟩, ⟨by decide +kernel, rfl⟩, by decide +kernel, by decide⟩⟩
set_option maxRecDepth 20000 in
theorem ml_X4_217 : MV1 RX4 217 M_X1_mostTaken 0 := ⟨297, 298, 299, ⟨by decide +kernel, rfl⟩, ⟨by decide +kernel, rfl⟩, ⟨by decide +kernel, rfl⟩, ⟨50, 300, ⟨by decide +kernel, rfl⟩, ⟨by decide +kernel, rfl⟩, by decide +kernel, by decide⟩⟩
set_option maxRecDepth 20000 in
theorem ml_X4_211 : MV1 RX4 211 M_X1_visitsHome 0 := ⟨289, 290, 291, ⟨by decide +kernel, rfl⟩, ⟨by decide +kernel, rfl⟩, ⟨by decide +kernel, rfl⟩, ⟨50, 292, ⟨by decide +kernel, rfl⟩, ⟨by decide +kernel, rfl⟩, by decide +kernel, by decide⟩⟩
set_option maxRecDepth 20000 in
theorem fl_X4_214 : FL RX4 214 1 4 := ⟨RX1, TX1, 5, 127, rfl, by decide, Or.inr ⟨by decide +kernel, rfl⟩⟩
set_option maxRecDepth 20000 in
theorem fl_X4_220 : FL RX4 220 1 0 := ⟨RX1, TX1, 5, 119, rfl, by decide, Or.inr ⟨by decide +kernel, rfl⟩⟩
set_option maxRecDepth 20000 in
theorem fl_X4_223 : FL RX4 223 1 1 := ⟨RX1, TX1, 5, 121, rfl, by decide, Or.inr ⟨by decide +kernel, rfl⟩⟩
set_option maxRecDepth 20000 in
theorem ml_X4_226 : MV1 RX4 226 M_X1_fooling 2 := ⟨305, 306, 307, ⟨by decide +kernel, rfl⟩, ⟨by decide +kernel, rfl⟩, ⟨by decide +kernel, rfl⟩, ⟨50, 308, ⟨by decide +kernel, rfl⟩, ⟨by decide +kernel, rfl⟩, by decide +kernel, by decide⟩⟩
set_option maxRecDepth 20000 in
theorem ml_X4_229 : MV1 RX4 229 M_X4_allSo 0 := ⟨333, 335, 10, ⟨by decide +kernel, rfl⟩, ⟨by decide +kernel, rfl⟩, ⟨by decide +kernel, rfl⟩, ⟨47, 336, ⟨by decide +kernel, rfl⟩, ⟨by decide +kernel, rfl⟩, by decide +kernel, by decide⟩⟩
set_option maxRecDepth 20000 in
theorem ml_X4_232 : MV1 RX4 232 M_X2_reachBeyond 1 := ⟨337, 338, 339, ⟨by decide +kernel, rfl⟩, ⟨by decide +kernel, rfl⟩, ⟨by decide +kernel, rfl⟩, ⟨51, 340, ⟨by decide +kernel, rfl⟩, ⟨by decide +kernel, rfl⟩, by decide +kernel, by decide⟩⟩
set_option maxRecDepth 20000 in
theorem ml_X4_235 : MV1 RX4 235 M_X2_areSo 2 := ⟨341, 342, 343, ⟨by decide +kernel, rfl⟩, ⟨by decide +kernel, rfl⟩, ⟨by decide +kernel, rfl⟩, ⟨51, 344, ⟨by decide +kernel, rfl⟩, ⟨by decide +kernel, rfl⟩, by decide +kernel, by decide⟩⟩
set_option maxRecDepth 20000 in
theorem fl_X4_239 : FL RX4 239 1 3 := ⟨RX1, TX1, 5, 125, rfl, by decide, Or.inr ⟨by decide +kernel, rfl⟩⟩
set_option maxRecDepth 20000 in
theorem ml_X4_241 : MV1 RX4 241 M_X1_takesBack 1 := ⟨365, 366, 367, ⟨by decide +kernel, rfl⟩, ⟨by decide +kernel, rfl⟩, ⟨by decide +kernel, rfl⟩, ⟨50, 368, ⟨by decide +kernel, rfl⟩, ⟨by decide +kernel, rfl⟩, by decide +kernel, by decide⟩⟩
set_option maxRecDepth 20000 in
theorem fl_X5_49 : FL RX5 49 5 0 := ⟨RX5, TX5, 22, 469, rfl, by decide, Or.inl ⟨by decide +kernel, rfl⟩⟩
set_option maxRecDepth 20000 in
theorem ml_X5_55 : MS1 RX5 55 M_X5_within 3 := ⟨543, 544, Or.inl ⟨by decide +kernel, rfl⟩, ⟨by decide +kernel, rfl⟩, ⟨52, 545, ⟨by decide +kernel, rfl⟩, ⟨by decide +kernel, rfl⟩, by decide +kernel, by decide⟩⟩
set_option maxRecDepth 20000 in
theorem fl_X5_9 : FL RX5 9 5 2 := ⟨RX5, TX5, 22, 471, rfl, by decide, Or.inl ⟨by decide +kernel, rfl⟩⟩
set_option maxRecDepth 20000 in
theorem fl_X5_13 : FL RX5 13 5 3 := ⟨RX5, TX5, 22, 472, rfl, by decide, Or.inl ⟨by decide +kernel, rfl⟩⟩
set_option maxRecDepth 20000 in
theorem fl_X5_59 : FL RX5 59 5 5 := ⟨RX5, TX5, 22, 474, rfl, by decide, Or.inl ⟨by decide +kernel, rfl⟩⟩
set_option maxRecDepth 20000 in
theorem fl_X5_62 : FL RX5 62 5 9 := ⟨RX5, TX5, 22, 478, rfl, by decide, Or.inl ⟨by decide +kernel, rfl⟩⟩
set_option maxRecDepth 20000 in
theorem fl_X5_16 : FL RX5 16 5 4 := ⟨RX5, TX5, 22, 473, rfl, by decide, Or.inl ⟨by decide +kernel, rfl⟩⟩
set_option maxRecDepth 20000 in
theorem ml_X5_65 : MS1 RX5 65 M_X5_isSheet 1 := ⟨540, 541, Or.inl ⟨by decide +kernel, rfl⟩, ⟨by decide +kernel, rfl⟩, ⟨52, 542, ⟨by decide +kernel, rfl⟩, ⟨by decide +kernel, rfl⟩, by decide +kernel, by decide⟩⟩
set_option maxRecDepth 20000 in
theorem ml_X5_69 : MS1 RX5 69 M_X5_isSort 1 := ⟨546, 547, Or.inl ⟨by decide +kernel, rfl⟩, ⟨by decide +kernel, rfl⟩, ⟨52, 548, ⟨by decide +kernel, rfl⟩, ⟨by decide +kernel, rfl⟩, by decide +kernel, by decide⟩⟩
set_option maxRecDepth 20000 in
theorem ml_X5_72 : MV1 RX5 72 M_X5_against 4 := ⟨549, 551, 20, ⟨by decide +kernel, rfl⟩, ⟨by decide +kernel, rfl⟩, ⟨by decide +kernel, rfl⟩, ⟨52, 552, ⟨by decide +kernel, rfl⟩, ⟨by decide +kernel, rfl⟩, by decide +kernel, by decide⟩⟩
set_option maxRecDepth 20000 in
theorem ml_X5_80 : MV1 RX5 80 M_X5_readCourt 1 := ⟨557, 559, 22, ⟨by decide +kernel, rfl⟩, ⟨by decide +kernel, rfl⟩, ⟨by decide +kernel, rfl⟩, ⟨52, 560, ⟨by decide +kernel, rfl⟩, ⟨by decide +kernel, rfl⟩, by decide +kernel, by decide⟩⟩
set_option maxRecDepth 20000 in
theorem fl_X5_83 : FL RX5 83 5 10 := ⟨RX5, TX5, 22, 479, rfl, by decide, Or.inl ⟨by decide +kernel, rfl⟩⟩
set_option maxRecDepth 20000 in
theorem ml_X5_76 : MV1 RX5 76 M_X5_fails 1 := ⟨553, 555, 21, ⟨by decide +kernel, rfl⟩, ⟨by decide +kernel, rfl⟩, ⟨by decide +kernel, rfl⟩, ⟨52, 556, ⟨by decide +kernel, rfl⟩, ⟨by decide +kernel, rfl⟩, by decide +kernel, by decide⟩⟩
set_option maxRecDepth 20000 in
theorem fl_X5_86 : FL RX5 86 5 18 := ⟨RX5, TX5, 22, 487, rfl, by decide, Or.inl ⟨by decide +kernel, rfl⟩⟩
set_option maxRecDepth 20000 in
theorem fl_X5_19 : FL RX5 19 5 6 := ⟨RX5, TX5, 22, 475, rfl, by decide, Or.inl ⟨by decide +kernel, rfl⟩⟩
set_option maxRecDepth 20000 in
theorem fl_X5_28 : FL RX5 28 5 11 := ⟨RX5, TX5, 22, 480, rfl, by decide, Or.inl ⟨by decide +kernel, rfl⟩⟩
set_option maxRecDepth 20000 in
theorem fl_X5_22 : FL RX5 22 5 7 := ⟨RX5, TX5, 22, 476, rfl, by decide, Or.inl ⟨by decide +kernel, rfl⟩⟩
set_option maxRecDepth 20000 in
theorem fl_X5_25 : FL RX5 25 5 8 := ⟨RX5, TX5, 22, 477, rfl, by decide, Or.inl ⟨by decide +kernel, rfl⟩⟩
set_option maxRecDepth 20000 in
theorem ml_X5_89 : MV1 RX5 89 M_X5_isSign 2 := ⟨561, 563, 23, ⟨by decide +kernel, rfl⟩, ⟨by decide +kernel, rfl⟩, ⟨by decide +kernel, rfl⟩, ⟨52, 564, ⟨by decide +kernel, rfl⟩, ⟨by decide +kernel, rfl⟩, by decide +kernel, by decide⟩⟩
set_option maxRecDepth 20000 in
theorem ml_X5_93 : MV1 RX5 93 M_X5_readHead 1 := ⟨565, 567, 24, ⟨by decide +kernel, rfl⟩, ⟨by decide +kernel, rfl⟩, ⟨by decide +kernel, rfl⟩, ⟨52, 568, ⟨by decide +kernel, rfl⟩, ⟨by decide +kernel, rfl⟩, by decide +kernel, by decide⟩⟩
set_option maxRecDepth 20000 in
theorem ml_X5_96 : MV1 RX5 96 M_X5_digit 3 := ⟨569, 571, 25, ⟨by decide +kernel, rfl⟩, ⟨by decide +kernel, rfl⟩, ⟨by decide +kernel, rfl⟩, ⟨52, 572, ⟨by decide +kernel, rfl⟩, ⟨by decide +kernel, rfl⟩, by decide +kernel, by decide⟩⟩
set_option maxRecDepth 20000 in
theorem ml_X5_100 : MV1 RX5 100 M_X5_isHead 1 := ⟨577, 579, 26, ⟨by decide +kernel, rfl⟩, ⟨by decide +kernel, rfl⟩, ⟨by decide +kernel, rfl⟩, ⟨52, 580, ⟨by decide +kernel, rfl⟩, ⟨by decide +kernel, rfl⟩, by decide +kernel, by decide⟩⟩
set_option maxRecDepth 20000 in
theorem ml_X5_103 : MV1 RX5 103 M_X5_lasts 1 := ⟨581, 583, 27, ⟨by decide +kernel, rfl⟩, ⟨by decide +kernel, rfl⟩, ⟨by decide +kernel, rfl⟩, ⟨52, 584, ⟨by decide +kernel, rfl⟩, ⟨by decide +kernel, rfl⟩, by decide +kernel, by decide⟩⟩
set_option maxRecDepth 20000 in
theorem fl_X5_106 : FL RX5 106 5 14 := ⟨RX5, TX5, 22, 483, rfl, by decide, Or.inl ⟨by decide +kernel, rfl⟩⟩
set_option maxRecDepth 20000 in
theorem fl_X5_31 : FL RX5 31 5 12 := ⟨RX5, TX5, 22, 481, rfl, by decide, Or.inl ⟨by decide +kernel, rfl⟩⟩
set_option maxRecDepth 20000 in
theorem fl_X5_34 : FL RX5 34 5 13 := ⟨RX5, TX5, 22, 482, rfl, by decide, Or.inl ⟨by decide +kernel, rfl⟩⟩
set_option maxRecDepth 20000 in
theorem ml_X5_109 : MV1 RX5 109 M_X5_change 1 := ⟨619, 621, 32, ⟨by decide +kernel, rfl⟩, ⟨by decide +kernel, rfl⟩, ⟨by decide +kernel, rfl⟩, ⟨52, 622, ⟨by decide +kernel, rfl⟩, ⟨by decide +kernel, rfl⟩, by decide +kernel, by decide⟩⟩
set_option maxRecDepth 20000 in
theorem fl_X5_113 : FL RX5 113 5 15 := ⟨RX5, TX5, 22, 484, rfl, by decide, Or.inl ⟨by decide +kernel, rfl⟩⟩
set_option maxRecDepth 20000 in
theorem fl_X5_37 : FL RX5 37 5 16 := ⟨RX5, TX5, 22, 485, rfl, by decide, Or.inl ⟨by decide +kernel, rfl⟩⟩
set_option maxRecDepth 20000 in
theorem ml_X5_116 : MV1 RX5 116 M_X5_begin 0 := ⟨611, 613, 30, ⟨by decide +kernel, rfl⟩, ⟨by decide +kernel, rfl⟩, ⟨by decide +kernel, rfl⟩, ⟨52, 614, ⟨by decide +kernel, rfl⟩, ⟨by decide +kernel, rfl⟩, by decide +kernel, by decide⟩⟩
set_option maxRecDepth 20000 in
theorem ml_X5_119 : MV1 RX5 119 M_X5_visit 1 := ⟨615, 617, 31, ⟨by decide +kernel, rfl⟩, ⟨by decide +kernel, rfl⟩, ⟨by decide +kernel, rfl⟩, ⟨52, 618, ⟨by decide +kernel, rfl⟩, ⟨by decide +kernel, rfl⟩, by decide +kernel, by decide⟩⟩
set_option maxRecDepth 20000 in
theorem ml_X5_122 : MS1 RX5 122 M_X5_isRow 2 := ⟨597, 598, Or.inl ⟨by decide +kernel, rfl⟩, ⟨by decide +kernel, rfl⟩, ⟨52, 599, ⟨by decide +kernel, rfl⟩, ⟨by decide +kernel, rfl⟩, by decide +kernel, by decide⟩⟩
set_option maxRecDepth 20000 in
theorem ml_X5_125 : MS1 RX5 125 M_X5_isWhat 1 := ⟨600, 601, Or.inl ⟨by decide +kernel, rfl⟩, ⟨by decide +kernel, rfl⟩, ⟨52, 602, ⟨by decide +kernel, rfl⟩, ⟨by decide +kernel, rfl⟩, by decide +kernel, by decide⟩⟩
set_option maxRecDepth 20000 in
theorem ml_X5_128 : MV1 RX5 128 M_X5_layVisits 4 := ⟨603, 605, 28, ⟨by decide +kernel, rfl⟩, ⟨by decide +kernel, rfl⟩, ⟨by decide +kernel, rfl⟩, ⟨52, 606, ⟨by decide +kernel, rfl⟩, ⟨by decide +kernel, rfl⟩, by decide +kernel, by decide⟩⟩
set_option maxRecDepth 20000 in
theorem ml_X5_131 : MV1 RX5 131 M_X5_go 0 := ⟨607, 609, 29, ⟨by decide +kernel, rfl⟩, ⟨by decide +kernel, rfl⟩, ⟨by decide +kernel, rfl⟩, ⟨52, 610, ⟨by decide +kernel, rfl⟩, ⟨by decide +kernel, rfl⟩, by decide +kernel, by decide⟩⟩
set_option maxRecDepth 20000 in
theorem ml_X5_135 : MV1 RX5 135 M_X5_tellVisits 1 := ⟨623, 625, 33, ⟨by decide +kernel, rfl⟩, ⟨by decide +kernel, rfl⟩, ⟨by decide +kernel, rfl⟩, ⟨52, 626, ⟨by decide +kernel, rfl⟩, ⟨by decide +kernel, rfl⟩, by decide +kernel, by decide⟩⟩
set_option maxRecDepth 20000 in
theorem ml_X5_138 : MV1 RX5 138 M_X5_atHome 0 := ⟨627, 629, 34, ⟨by decide +kernel, rfl⟩, ⟨by decide +kernel, rfl⟩, ⟨by decide +kernel, rfl⟩, ⟨52, 630, ⟨by decide +kernel, rfl⟩, ⟨by decide +kernel, rfl⟩, by decide +kernel, by decide⟩⟩
set_option maxRecDepth 20000 in
theorem ml_X5_147 : MV1 RX5 147 M_X5_fooled 1 := ⟨643, 645, 38, ⟨by decide +kernel, rfl⟩, ⟨by decide +kernel, rfl⟩, ⟨by decide +kernel, rfl⟩, ⟨52, 646, ⟨by decide +kernel, rfl⟩, ⟨by decide +kernel, rfl⟩, by decide +kernel, by decide⟩⟩
set_option maxRecDepth 20000 in
theorem ml_X5_141 : MV1 RX5 141 M_X5_home 0 := ⟨631, 633, 35, ⟨by decide +kernel, rfl⟩, ⟨by decide +kernel, rfl⟩, ⟨by decide +kernel, rfl⟩, ⟨52, 634, ⟨by decide +kernel, rfl⟩, ⟨by decide +kernel, rfl⟩, by decide +kernel, by decide⟩⟩
set_option maxRecDepth 20000 in
theorem ml_X5_144 : MV1 RX5 144 M_X5_worn 0 := ⟨639, 641, 37, ⟨by decide +kernel, rfl⟩, ⟨by decide +kernel, rfl⟩, ⟨by decide +kernel, rfl⟩, ⟨52, 642, ⟨by decide +kernel, rfl⟩, ⟨by decide +kernel, rfl⟩, by decide +kernel, by decide⟩⟩
set_option maxRecDepth 20000 in
theorem ml_X5_150 : MV1 RX5 150 M_X5_firstAway 0 := ⟨635, 637, 36, ⟨by decide +kernel, rfl⟩, ⟨by decide +kernel, rfl⟩, ⟨by decide +kernel, rfl⟩, ⟨52, 638, ⟨by decide +kernel, rfl⟩, ⟨by decide +kernel, rfl⟩, by decide +kernel, by decide⟩⟩
set_option maxRecDepth 20000 in
theorem fl_X5_153 : FL RX5 153 5 17 := ⟨RX5, TX5, 22, 486, rfl, by decide, Or.inl ⟨by decide +kernel, rfl⟩⟩
set_option maxRecDepth 20000 in
theorem ml_X5_156 : MV1 RX5 156 M_X5_layRow 2 := ⟨655, 657, 40, ⟨by decide +kernel, rfl⟩, ⟨by decide +kernel, rfl⟩, ⟨by decide +kernel, rfl⟩, ⟨52, 658, ⟨by decide +kernel, rfl⟩, ⟨by decide +kernel, rfl⟩, by decide +kernel, by decide⟩⟩
set_option maxRecDepth 20000 in
theorem ml_X5_160 : MV1 RX5 160 M_X5_findPlan 2 := ⟨651, 653, 39, ⟨by decide +kernel, rfl⟩, ⟨by decide +kernel, rfl⟩, ⟨by decide +kernel, rfl⟩, ⟨52, 654, ⟨by decide +kernel, rfl⟩, ⟨by decide +kernel, rfl⟩, by decide +kernel, by decide⟩⟩
set_option maxRecDepth 20000 in
theorem fl_X5_40 : FL RX5 40 5 19 := ⟨RX5, TX5, 22, 488, rfl, by decide, Or.inl ⟨by decide +kernel, rfl⟩⟩
set_option maxRecDepth 20000 in
theorem fl_X5_43 : FL RX5 43 5 20 := ⟨RX5, TX5, 22, 489, rfl, by decide, Or.inl ⟨by decide +kernel, rfl⟩⟩
set_option maxRecDepth 20000 in
theorem fl_X5_46 : FL RX5 46 5 21 := ⟨RX5, TX5, 22, 490, rfl, by decide, Or.inl ⟨by decide +kernel, rfl⟩⟩
set_option maxRecDepth 20000 in
theorem ml_X5_163 : MV1 RX5 163 M_X5_areSoBehind 1 := ⟨675, 677, 42, ⟨by decide +kernel, rfl⟩, ⟨by decide +kernel, rfl⟩, ⟨by decide +kernel, rfl⟩, ⟨52, 678, ⟨by decide +kernel, rfl⟩, ⟨by decide +kernel, rfl⟩, by decide +kernel, by decide⟩⟩
set_option maxRecDepth 20000 in
theorem ml_X5_166 : MV1 RX5 166 M_X5_areSo 0 := ⟨671, 673, 41, ⟨by decide +kernel, rfl⟩, ⟨by decide +kernel, rfl⟩, ⟨by decide +kernel, rfl⟩, ⟨52, 674, ⟨by decide +kernel, rfl⟩, ⟨by decide +kernel, rfl⟩, by decide +kernel, by decide⟩⟩
set_option maxRecDepth 20000 in
theorem ml_X5_170 : MV1 RX5 170 M_X5_lay 5 := ⟨683, 685, 43, ⟨by decide +kernel, rfl⟩, ⟨by decide +kernel, rfl⟩, ⟨by decide +kernel, rfl⟩, ⟨52, 686, ⟨by decide +kernel, rfl⟩, ⟨by decide +kernel, rfl⟩, by decide +kernel, by decide⟩⟩
set_option maxRecDepth 20000 in
theorem ml_X5_174 : MS1 RX5 174 M_X5_inLeastTerms 3 := ⟨696, 697, Or.inl ⟨by decide +kernel, rfl⟩, ⟨by decide +kernel, rfl⟩, ⟨52, 698, ⟨by decide +kernel, rfl⟩, ⟨by decide +kernel, rfl⟩, by decide +kernel, by decide⟩⟩
set_option maxRecDepth 20000 in
theorem ml_X5_178 : MV1 RX5 178 M_X5_lost 1 := ⟨715, 717, 44, ⟨by decide +kernel, rfl⟩, ⟨by decide +kernel, rfl⟩, ⟨by decide +kernel, rfl⟩, ⟨52, 718, ⟨by decide +kernel, rfl⟩, ⟨by decide +kernel, rfl⟩, by decide +kernel, by decide⟩⟩
set_option maxRecDepth 20000 in
theorem fl_X5_182 : FL RX5 182 5 1 := ⟨RX5, TX5, 22, 470, rfl, by decide, Or.inl ⟨by decide +kernel, rfl⟩⟩
set_option maxRecDepth 20000 in
theorem ml_X5_185 : MV1 RX5 185 M_X5_begins 1 := ⟨727, 729, 45, ⟨by decide +kernel, rfl⟩, ⟨by decide +kernel, rfl⟩, ⟨by decide +kernel, rfl⟩, ⟨52, 730, ⟨by decide +kernel, rfl⟩, ⟨by decide +kernel, rfl⟩, by decide +kernel, by decide⟩⟩
