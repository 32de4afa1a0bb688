/-! ===== the methods by their numbers ===== -/
def BP : List ((Nat → List MI) × (Nat → Nat) × Nat) := [(BX1_init, PX1_init, 1), (BX1_reads, PX1_reads, 7), (BX1_take, PX1_take, 6), (BX1_line, PX1_line, 11), (BX1_order, PX1_order, 11), (BX1_chain, PX1_chain, 5), (BX1_joinsAt, PX1_joinsAt, 19), (BX1_part, PX1_part, 5), (BX1_single, PX1_single, 17), (BX1_value, PX1_value, 19), (BX3_init, PX3_init, 1), (BX3_begin, PX3_begin, 3), (BX3_copy, PX3_copy, 3), (BX3_hourOfHearing, PX3_hourOfHearing, 1), (BX3_knows, PX3_knows, 3), (BX3_hears, PX3_hears, 4), (BX3_knowersOf, PX3_knowersOf, 7), (BX3_knownBy, PX3_knownBy, 5), (BX3_knownByAll, PX3_knownByAll, 3), (BX3_walkersOn, PX3_walkersOn, 5), (BX3_walkersWith, PX3_walkersWith, 5), (BX3_tally, PX3_tally, 10), (BX3_passHours, PX3_passHours, 3), (BX3_giveOrders, PX3_giveOrders, 8), (BX3_carryOut, PX3_carryOut, 7), (BX3_loseWalkers, PX3_loseWalkers, 4), (BX3_keepWalker, PX3_keepWalker, 1), (BX3_beginRumours, PX3_beginRumours, 4), (BX3_moveWalkers, PX3_moveWalkers, 5), (BX3_sendWalkers, PX3_sendWalkers, 6), (BX3_sendFrom, PX3_sendFrom, 4), (BX4_init, PX4_init, 1), (BX4_look, PX4_look, 3), (BX4_lookAt, PX4_lookAt, 11), (BX4_lookAtRoad, PX4_lookAtRoad, 3), (BX4_lookAtRumour, PX4_lookAtRumour, 2), (BX4_countOrder, PX4_countOrder, 2), (BX4_note, PX4_note, 2), (BX4_tellNew, PX4_tellNew, 4), (BX4_find, PX4_find, 2), (BX4_indexOf, PX4_indexOf, 4), (BX4_numberOf, PX4_numberOf, 3), (BX5_init, PX5_init, 1), (BX5_clear, PX5_clear, 1), (BX5_addCode, PX5_addCode, 2), (BX5_codeAt, PX5_codeAt, 3), (BX5_addRoad, PX5_addRoad, 2), (BX5_addRumour, PX5_addRumour, 2), (BX5_addOrder, PX5_addOrder, 2), (BX5_kindOfOrder, PX5_kindOfOrder, 1), (BX5_targetOfOrder, PX5_targetOfOrder, 1), (BX6_init, PX6_init, 1), (BX6_reckon, PX6_reckon, 8), (BX6_push, PX6_push, 2), (BX6_pop, PX6_pop, 2), (BX6_joined, PX6_joined, 12), (BX6_holds, PX6_holds, 23), (BX6_fact, PX6_fact, 17), (BX7_init, PX7_init, 1), (BX7_begin, PX7_begin, 3), (BX7_copy, PX7_copy, 1), (BX7_shape, PX7_shape, 1), (BX7_forgetWays, PX7_forgetWays, 3), (BX7_addWounds, PX7_addWounds, 4), (BX7_takeWound, PX7_takeWound, 4), (BX7_isOpen, PX7_isOpen, 3), (BX7_openRoads, PX7_openRoads, 5), (BX7_lengthOfOpen, PX7_lengthOfOpen, 5), (BX7_leadsTo, PX7_leadsTo, 4), (BX7_otherEnd, PX7_otherEnd, 3), (BX7_openAt, PX7_openAt, 5), (BX7_between, PX7_between, 6), (BX7_fillRow, PX7_fillRow, 11), (BX7_partOf, PX7_partOf, 3), (BX7_farthestFrom, PX7_farthestFrom, 3), (BX7_nextTavern, PX7_nextTavern, 11), (BX7_lengthAround, PX7_lengthAround, 3), (BX7_isSpan, PX7_isSpan, 3), (BX7_spansWith, PX7_spansWith, 5), (BX7_isInNet, PX7_isInNet, 1), (BX7_lengthOfNet, PX7_lengthOfNet, 1), (BX7_parts, PX7_parts, 1), (BX7_substituteFor, PX7_substituteFor, 7), (BX7_layNet, PX7_layNet, 9), (BX7_joinGroups, PX7_joinGroups, 4), (BX7_sortOpen, PX7_sortOpen, 6), (BX8_init, PX8_init, 3), (BX8_has, PX8_has, 3), (BX8_kindOf, PX8_kindOf, 3), (BX8_placeOf, PX8_placeOf, 3), (BX8_valueOf, PX8_valueOf, 3), (BX8_spellingOf, PX8_spellingOf, 3), (BX8_setValue, PX8_setValue, 2), (BX8_setKind, PX8_setKind, 2), (BX8_read, PX8_read, 10), (BX8_behindBlanks, PX8_behindBlanks, 4), (BX8_endOfToken, PX8_endOfToken, 9), (BX8_kindBetween, PX8_kindBetween, 8), (BX8_kindSpelt, PX8_kindSpelt, 4), (BX8_isSpelt, PX8_isSpelt, 4), (BX8_numberBetween, PX8_numberBetween, 3), (BX8_spellingBetween, PX8_spellingBetween, 5), (BX8_isLetter, PX8_isLetter, 3), (BX8_isDigit, PX8_isDigit, 3), (BX9_init, PX9_init, 1), (BX9_feed, PX9_feed, 2), (BX9_append, PX9_append, 3), (BX9_trim, PX9_trim, 3), (BX9_teach, PX9_teach, 3), (BX9_errorAt, PX9_errorAt, 1), (BX9_count, PX9_count, 3), (BX9_countOf, PX9_countOf, 8), (BX9_tavern, PX9_tavern, 3), (BX9_tavernFact, PX9_tavernFact, 5), (BX9_road, PX9_road, 3), (BX9_roadFact, PX9_roadFact, 16), (BX9_rumour, PX9_rumour, 3), (BX9_rumourFact, PX9_rumourFact, 5), (BX9_since, PX9_since, 3), (BX9_isTavern, PX9_isTavern, 3), (BX9_isRoad, PX9_isRoad, 3), (BX9_isRumour, PX9_isRumour, 3), (BX9_far, PX9_far, 3), (BX9_step, PX9_step, 3), (BX9_detour, PX9_detour, 2), (BX9_replace, PX9_replace, 2), (BX9_hurt, PX9_hurt, 4), (BX9_mend, PX9_mend, 3), (BX9_tell, PX9_tell, 4), (BX9_setMiles, PX9_setMiles, 4), (BX9_pass, PX9_pass, 3), (BX9_until, PX9_until, 5), (BX9_foresee, PX9_foresee, 5), (BX9_advise, PX9_advise, 7), (BX9_knowersBehind, PX9_knowersBehind, 2), (BX9_best, PX9_best, 6), (BX9_mean, PX9_mean, 3), (BX9_digest, PX9_digest, 7), (BX9_digestTaverns, PX9_digestTaverns, 7), (BX9_digestRoads, PX9_digestRoads, 5), (BX10_init, PX10_init, 1), (BX11_init, PX11_init, 1), (BX11_copy, PX11_copy, 1), (BX11_become, PX11_become, 1), (BX11_isOpen, PX11_isOpen, 3), (BX11_length, PX11_length, 1), (BX11_knows, PX11_knows, 3), (BX11_hear, PX11_hear, 2), (BX11_keep, PX11_keep, 1), (BX12_init, PX12_init, 1), (BX12_thrown, PX12_thrown, 1), (BX12_no, PX12_no, 1), (BX12_isIn, PX12_isIn, 3), (BX12_is, PX12_is, 1), (BX12_isLetter, PX12_isLetter, 3), (BX12_isDigit, PX12_isDigit, 3), (BX12_byteAt, PX12_byteAt, 3), (BX12_lengthAt, PX12_lengthAt, 6), (BX12_kindAt, PX12_kindAt, 13), (BX12_wordAt, PX12_wordAt, 6), (BX12_cut, PX12_cut, 8), (BX12_eat, PX12_eat, 2), (BX12_eatIn, PX12_eatIn, 2), (BX12_goDown, PX12_goDown, 3), (BX12_isList, PX12_isList, 3), (BX12_isNumber, PX12_isNumber, 3), (BX12_isName, PX12_isName, 3), (BX12_isWhen, PX12_isWhen, 3), (BX12_isLine, PX12_isLine, 14), (BX12_isTest, PX12_isTest, 2), (BX12_isBoth, PX12_isBoth, 2), (BX12_isSingle, PX12_isSingle, 13), (BX12_isSum, PX12_isSum, 2), (BX12_isProduct, PX12_isProduct, 2), (BX12_isValue, PX12_isValue, 13), (BX12_number, PX12_number, 3), (BX12_areSame, PX12_areSame, 7), (BX12_find, PX12_find, 4), (BX12_most, PX12_most, 4), (BX12_isSort, PX12_isSort, 4), (BX12_errorOfNew, PX12_errorOfNew, 3), (BX12_sortOf, PX12_sortOf, 7), (BX12_errorOfName, PX12_errorOfName, 10), (BX12_errorOfNumber, PX12_errorOfNumber, 7), (BX12_errorOfOrder, PX12_errorOfOrder, 2), (BX12_errorOf, PX12_errorOf, 7), (BX12_read, PX12_read, 6), (BX12_goesBy, PX12_goesBy, 2), (BX12_test, PX12_test, 3), (BX12_both, PX12_both, 3), (BX12_named, PX12_named, 1), (BX12_single, PX12_single, 20), (BX12_sum, PX12_sum, 5), (BX12_product, PX12_product, 6), (BX12_value, PX12_value, 12), (BX12_isUsed, PX12_isUsed, 3), (BX12_look, PX12_look, 7), (BX12_reaches, PX12_reaches, 3), (BX12_far, PX12_far, 1), (BX12_part, PX12_part, 13), (BX12_nextOfNet, PX12_nextOfNet, 5), (BX12_net, PX12_net, 11), (BX12_detourOf, PX12_detourOf, 1), (BX12_isSpan, PX12_isSpan, 3), (BX12_replaceOf, PX12_replaceOf, 5), (BX12_heard, PX12_heard, 5), (BX12_hurtBy, PX12_hurtBy, 3), (BX12_mended, PX12_mended, 5), (BX12_hushed, PX12_hushed, 3), (BX12_isCarriedOut, PX12_isCarriedOut, 4), (BX12_lose, PX12_lose, 5), (BX12_travel, PX12_travel, 5), (BX12_setOut, PX12_setOut, 7), (BX12_hourOn, PX12_hourOn, 13), (BX12_hoursOn, PX12_hoursOn, 3), (BX12_spans, PX12_spans, 5), (BX12_counted, PX12_counted, 22), (BX12_feed, PX12_feed, 4), (BX12_trim, PX12_trim, 2), (BX12_fill, PX12_fill, 3), (BX12_begin, PX12_begin, 1), (BX12_teach, PX12_teach, 2), (BX12_errorAt, PX12_errorAt, 1), (BX12_count, PX12_count, 3), (BX12_tavernTold, PX12_tavernTold, 16), (BX12_tavern, PX12_tavern, 3), (BX12_travellersOn, PX12_travellersOn, 5), (BX12_roadTold, PX12_roadTold, 16), (BX12_road, PX12_road, 3), (BX12_rumourTold, PX12_rumourTold, 9), (BX12_rumour, PX12_rumour, 3), (BX12_since, PX12_since, 3), (BX12_far_, PX12_far_, 3), (BX12_stepTold, PX12_stepTold, 9), (BX12_step, PX12_step, 3), (BX12_detour, PX12_detour, 3), (BX12_replace, PX12_replace, 3), (BX12_hurt, PX12_hurt, 3), (BX12_mend, PX12_mend, 4), (BX12_tell, PX12_tell, 5), (BX12_setMiles, PX12_setMiles, 3), (BX12_pass, PX12_pass, 2), (BX12_untilAll, PX12_untilAll, 4), (BX12_until, PX12_until, 3), (BX12_foresee, PX12_foresee, 3), (BX12_adviseTold, PX12_adviseTold, 6), (BX12_advise, PX12_advise, 4), (BX12_best, PX12_best, 6), (BX12_mean, PX12_mean, 9), (BX12_digest, PX12_digest, 17), (BL_feed, PL_feed, 3), (BL_trim, PL_trim, 3), (BL_count, PL_count, 3), (BL_tavern, PL_tavern, 3), (BL_road, PL_road, 3), (BL_rumour, PL_rumour, 3), (BL_since, PL_since, 3), (BL_far, PL_far, 3), (BL_step, PL_step, 3), (BL_detour, PL_detour, 3), (BL_replace, PL_replace, 3), (BL_hurt, PL_hurt, 4), (BL_mend, PL_mend, 4), (BL_tell, PL_tell, 4), (BL_setMiles, PL_setMiles, 4), (BL_pass, PL_pass, 3), (BL_until, PL_until, 3), (BL_foresee, PL_foresee, 4), (BL_advise, PL_advise, 4), (BL_law, PL_law, 68), (BJ0_length_8abf5, PJ0_length_8abf5, 1), (BJ0_charAt_5068e, PJ0_charAt_5068e, 2), (BJ0_indexOf_0f7a4, PJ0_indexOf_0f7a4, 1), (BJ0_indexOf_7cf53, PJ0_indexOf_7cf53, 3), (BJ0_coder_7d493, PJ0_coder_7d493, 3), (BJ0_isLatin1_aae02, PJ0_isLatin1_aae02, 3), (BJ0_checkIndex_df160, PJ0_checkIndex_df160, 1), (BJ1_charAt_3b067, PJ1_charAt_3b067, 1), (BJ1_canEncode_9a6ad, PJ1_canEncode_9a6ad, 3), (BJ1_indexOf_4cfef, PJ1_indexOf_4cfef, 3), (BJ1_indexOfChar_4cfef, PJ1_indexOfChar_4cfef, 4), (BJ3_checkIndex_8e157, PJ3_checkIndex_8e157, 3), (BJ7_fill_53178, PJ7_fill_53178, 3), (BJx29ce0_ordinal_8abf5, PJx29ce0_ordinal_8abf5, 1), (BX3_has, PX3_has, 3), (BX7_has, PX7_has, 3), (BX7_lengthOf, PX7_lengthOf, 3), (BX7_woundsOf, PX7_woundsOf, 3)]
def bp (m : Nat) : (Nat → List MI) × (Nat → Nat) × Nat := BP.getD m (fun _ => [], fun _ => 0, 0)
def METH (m : Nat) : MM := ((bp m).1, (mInf m).2.2.2.1, (mInf m).2.2.1)
abbrev mX1_init : Nat := 0
theorem MX1_init : METH 0 = (BX1_init, 2, 1) := rfl
abbrev mX1_reads : Nat := 1
theorem MX1_reads : METH 1 = (BX1_reads, 4, 1) := rfl
abbrev mX1_take : Nat := 2
theorem MX1_take : METH 2 = (BX1_take, 3, 1) := rfl
abbrev mX1_line : Nat := 3
theorem MX1_line : METH 3 = (BX1_line, 1, 1) := rfl
abbrev mX1_order : Nat := 4
theorem MX1_order : METH 4 = (BX1_order, 5, 1) := rfl
abbrev mX1_chain : Nat := 5
theorem MX1_chain : METH 5 = (BX1_chain, 6, 1) := rfl
abbrev mX1_joinsAt : Nat := 6
theorem MX1_joinsAt : METH 6 = (BX1_joinsAt, 2, 1) := rfl
abbrev mX1_part : Nat := 7
theorem MX1_part : METH 7 = (BX1_part, 3, 1) := rfl
abbrev mX1_single : Nat := 8
theorem MX1_single : METH 8 = (BX1_single, 4, 1) := rfl
abbrev mX1_value : Nat := 9
theorem MX1_value : METH 9 = (BX1_value, 4, 1) := rfl
abbrev mX3_init : Nat := 10
theorem MX3_init : METH 10 = (BX3_init, 2, 3) := rfl
abbrev mX3_begin : Nat := 11
theorem MX3_begin : METH 11 = (BX3_begin, 3, 3) := rfl
abbrev mX3_copy : Nat := 12
theorem MX3_copy : METH 12 = (BX3_copy, 3, 3) := rfl
abbrev mX3_hourOfHearing : Nat := 13
theorem MX3_hourOfHearing : METH 13 = (BX3_hourOfHearing, 3, 3) := rfl
abbrev mX3_knows : Nat := 14
theorem MX3_knows : METH 14 = (BX3_knows, 3, 3) := rfl
abbrev mX3_hears : Nat := 15
theorem MX3_hears : METH 15 = (BX3_hears, 4, 3) := rfl
abbrev mX3_knowersOf : Nat := 16
theorem MX3_knowersOf : METH 16 = (BX3_knowersOf, 5, 3) := rfl
abbrev mX3_knownBy : Nat := 17
theorem MX3_knownBy : METH 17 = (BX3_knownBy, 4, 3) := rfl
abbrev mX3_knownByAll : Nat := 18
theorem MX3_knownByAll : METH 18 = (BX3_knownByAll, 3, 3) := rfl
abbrev mX3_walkersOn : Nat := 19
theorem MX3_walkersOn : METH 19 = (BX3_walkersOn, 4, 3) := rfl
abbrev mX3_walkersWith : Nat := 20
theorem MX3_walkersWith : METH 20 = (BX3_walkersWith, 4, 3) := rfl
abbrev mX3_tally : Nat := 21
theorem MX3_tally : METH 21 = (BX3_tally, 2, 3) := rfl
abbrev mX3_passHours : Nat := 22
theorem MX3_passHours : METH 22 = (BX3_passHours, 4, 3) := rfl
abbrev mX3_giveOrders : Nat := 23
theorem MX3_giveOrders : METH 23 = (BX3_giveOrders, 4, 3) := rfl
abbrev mX3_carryOut : Nat := 24
theorem MX3_carryOut : METH 24 = (BX3_carryOut, 5, 3) := rfl
abbrev mX3_loseWalkers : Nat := 25
theorem MX3_loseWalkers : METH 25 = (BX3_loseWalkers, 3, 3) := rfl
abbrev mX3_keepWalker : Nat := 26
theorem MX3_keepWalker : METH 26 = (BX3_keepWalker, 3, 3) := rfl
abbrev mX3_beginRumours : Nat := 27
theorem MX3_beginRumours : METH 27 = (BX3_beginRumours, 3, 3) := rfl
abbrev mX3_moveWalkers : Nat := 28
theorem MX3_moveWalkers : METH 28 = (BX3_moveWalkers, 4, 3) := rfl
abbrev mX3_sendWalkers : Nat := 29
theorem MX3_sendWalkers : METH 29 = (BX3_sendWalkers, 4, 3) := rfl
abbrev mX3_sendFrom : Nat := 30
theorem MX3_sendFrom : METH 30 = (BX3_sendFrom, 4, 3) := rfl
abbrev mX4_init : Nat := 31
theorem MX4_init : METH 31 = (BX4_init, 2, 4) := rfl
abbrev mX4_look : Nat := 32
theorem MX4_look : METH 32 = (BX4_look, 3, 4) := rfl
abbrev mX4_lookAt : Nat := 33
theorem MX4_lookAt : METH 33 = (BX4_lookAt, 2, 4) := rfl
abbrev mX4_lookAtRoad : Nat := 34
theorem MX4_lookAtRoad : METH 34 = (BX4_lookAtRoad, 5, 4) := rfl
abbrev mX4_lookAtRumour : Nat := 35
theorem MX4_lookAtRumour : METH 35 = (BX4_lookAtRumour, 4, 4) := rfl
abbrev mX4_countOrder : Nat := 36
theorem MX4_countOrder : METH 36 = (BX4_countOrder, 2, 4) := rfl
abbrev mX4_note : Nat := 37
theorem MX4_note : METH 37 = (BX4_note, 3, 4) := rfl
abbrev mX4_tellNew : Nat := 38
theorem MX4_tellNew : METH 38 = (BX4_tellNew, 5, 4) := rfl
abbrev mX4_find : Nat := 39
theorem MX4_find : METH 39 = (BX4_find, 4, 4) := rfl
abbrev mX4_indexOf : Nat := 40
theorem MX4_indexOf : METH 40 = (BX4_indexOf, 5, 4) := rfl
abbrev mX4_numberOf : Nat := 41
theorem MX4_numberOf : METH 41 = (BX4_numberOf, 5, 4) := rfl
abbrev mX5_init : Nat := 42
theorem MX5_init : METH 42 = (BX5_init, 1, 5) := rfl
abbrev mX5_clear : Nat := 43
theorem MX5_clear : METH 43 = (BX5_clear, 1, 5) := rfl
abbrev mX5_addCode : Nat := 44
theorem MX5_addCode : METH 44 = (BX5_addCode, 2, 5) := rfl
abbrev mX5_codeAt : Nat := 45
theorem MX5_codeAt : METH 45 = (BX5_codeAt, 2, 5) := rfl
abbrev mX5_addRoad : Nat := 46
theorem MX5_addRoad : METH 46 = (BX5_addRoad, 4, 5) := rfl
abbrev mX5_addRumour : Nat := 47
theorem MX5_addRumour : METH 47 = (BX5_addRumour, 3, 5) := rfl
abbrev mX5_addOrder : Nat := 48
theorem MX5_addOrder : METH 48 = (BX5_addOrder, 4, 5) := rfl
abbrev mX5_kindOfOrder : Nat := 49
theorem MX5_kindOfOrder : METH 49 = (BX5_kindOfOrder, 2, 5) := rfl
abbrev mX5_targetOfOrder : Nat := 50
theorem MX5_targetOfOrder : METH 50 = (BX5_targetOfOrder, 2, 5) := rfl
abbrev mX6_init : Nat := 51
theorem MX6_init : METH 51 = (BX6_init, 1, 6) := rfl
abbrev mX6_reckon : Nat := 52
theorem MX6_reckon : METH 52 = (BX6_reckon, 9, 6) := rfl
abbrev mX6_push : Nat := 53
theorem MX6_push : METH 53 = (BX6_push, 2, 6) := rfl
abbrev mX6_pop : Nat := 54
theorem MX6_pop : METH 54 = (BX6_pop, 1, 6) := rfl
abbrev mX6_joined : Nat := 55
theorem MX6_joined : METH 55 = (BX6_joined, 3, 6) := rfl
abbrev mX6_holds : Nat := 56
theorem MX6_holds : METH 56 = (BX6_holds, 3, 6) := rfl
abbrev mX6_fact : Nat := 57
theorem MX6_fact : METH 57 = (BX6_fact, 5, 6) := rfl
abbrev mX7_init : Nat := 58
theorem MX7_init : METH 58 = (BX7_init, 1, 7) := rfl
abbrev mX7_begin : Nat := 59
theorem MX7_begin : METH 59 = (BX7_begin, 3, 7) := rfl
abbrev mX7_copy : Nat := 60
theorem MX7_copy : METH 60 = (BX7_copy, 2, 7) := rfl
abbrev mX7_shape : Nat := 61
theorem MX7_shape : METH 61 = (BX7_shape, 4, 7) := rfl
abbrev mX7_forgetWays : Nat := 62
theorem MX7_forgetWays : METH 62 = (BX7_forgetWays, 2, 7) := rfl
abbrev mX7_addWounds : Nat := 63
theorem MX7_addWounds : METH 63 = (BX7_addWounds, 4, 7) := rfl
abbrev mX7_takeWound : Nat := 64
theorem MX7_takeWound : METH 64 = (BX7_takeWound, 3, 7) := rfl
abbrev mX7_isOpen : Nat := 65
theorem MX7_isOpen : METH 65 = (BX7_isOpen, 2, 7) := rfl
abbrev mX7_openRoads : Nat := 66
theorem MX7_openRoads : METH 66 = (BX7_openRoads, 3, 7) := rfl
abbrev mX7_lengthOfOpen : Nat := 67
theorem MX7_lengthOfOpen : METH 67 = (BX7_lengthOfOpen, 3, 7) := rfl
abbrev mX7_leadsTo : Nat := 68
theorem MX7_leadsTo : METH 68 = (BX7_leadsTo, 3, 7) := rfl
abbrev mX7_otherEnd : Nat := 69
theorem MX7_otherEnd : METH 69 = (BX7_otherEnd, 3, 7) := rfl
abbrev mX7_openAt : Nat := 70
theorem MX7_openAt : METH 70 = (BX7_openAt, 4, 7) := rfl
abbrev mX7_between : Nat := 71
theorem MX7_between : METH 71 = (BX7_between, 4, 7) := rfl
abbrev mX7_fillRow : Nat := 72
theorem MX7_fillRow : METH 72 = (BX7_fillRow, 9, 7) := rfl
abbrev mX7_partOf : Nat := 73
theorem MX7_partOf : METH 73 = (BX7_partOf, 3, 7) := rfl
abbrev mX7_farthestFrom : Nat := 74
theorem MX7_farthestFrom : METH 74 = (BX7_farthestFrom, 4, 7) := rfl
abbrev mX7_nextTavern : Nat := 75
theorem MX7_nextTavern : METH 75 = (BX7_nextTavern, 8, 7) := rfl
abbrev mX7_lengthAround : Nat := 76
theorem MX7_lengthAround : METH 76 = (BX7_lengthAround, 3, 7) := rfl
abbrev mX7_isSpan : Nat := 77
theorem MX7_isSpan : METH 77 = (BX7_isSpan, 2, 7) := rfl
abbrev mX7_spansWith : Nat := 78
theorem MX7_spansWith : METH 78 = (BX7_spansWith, 4, 7) := rfl
abbrev mX7_isInNet : Nat := 79
theorem MX7_isInNet : METH 79 = (BX7_isInNet, 2, 7) := rfl
abbrev mX7_lengthOfNet : Nat := 80
theorem MX7_lengthOfNet : METH 80 = (BX7_lengthOfNet, 1, 7) := rfl
abbrev mX7_parts : Nat := 81
theorem MX7_parts : METH 81 = (BX7_parts, 1, 7) := rfl
abbrev mX7_substituteFor : Nat := 82
theorem MX7_substituteFor : METH 82 = (BX7_substituteFor, 3, 7) := rfl
abbrev mX7_layNet : Nat := 83
theorem MX7_layNet : METH 83 = (BX7_layNet, 5, 7) := rfl
abbrev mX7_joinGroups : Nat := 84
theorem MX7_joinGroups : METH 84 = (BX7_joinGroups, 4, 7) := rfl
abbrev mX7_sortOpen : Nat := 85
theorem MX7_sortOpen : METH 85 = (BX7_sortOpen, 5, 7) := rfl
abbrev mX8_init : Nat := 86
theorem MX8_init : METH 86 = (BX8_init, 2, 8) := rfl
abbrev mX8_has : Nat := 87
theorem MX8_has : METH 87 = (BX8_has, 2, 8) := rfl
abbrev mX8_kindOf : Nat := 88
theorem MX8_kindOf : METH 88 = (BX8_kindOf, 2, 8) := rfl
abbrev mX8_placeOf : Nat := 89
theorem MX8_placeOf : METH 89 = (BX8_placeOf, 2, 8) := rfl
abbrev mX8_valueOf : Nat := 90
theorem MX8_valueOf : METH 90 = (BX8_valueOf, 2, 8) := rfl
abbrev mX8_spellingOf : Nat := 91
theorem MX8_spellingOf : METH 91 = (BX8_spellingOf, 2, 8) := rfl
abbrev mX8_setValue : Nat := 92
theorem MX8_setValue : METH 92 = (BX8_setValue, 3, 8) := rfl
abbrev mX8_setKind : Nat := 93
theorem MX8_setKind : METH 93 = (BX8_setKind, 3, 8) := rfl
abbrev mX8_read : Nat := 94
theorem MX8_read : METH 94 = (BX8_read, 8, 8) := rfl
abbrev mX8_behindBlanks : Nat := 95
theorem MX8_behindBlanks : METH 95 = (BX8_behindBlanks, 4, 8) := rfl
abbrev mX8_endOfToken : Nat := 96
theorem MX8_endOfToken : METH 96 = (BX8_endOfToken, 4, 8) := rfl
abbrev mX8_kindBetween : Nat := 97
theorem MX8_kindBetween : METH 97 = (BX8_kindBetween, 3, 8) := rfl
abbrev mX8_kindSpelt : Nat := 98
theorem MX8_kindSpelt : METH 98 = (BX8_kindSpelt, 8, 8) := rfl
abbrev mX8_isSpelt : Nat := 99
theorem MX8_isSpelt : METH 99 = (BX8_isSpelt, 4, 8) := rfl
abbrev mX8_numberBetween : Nat := 100
theorem MX8_numberBetween : METH 100 = (BX8_numberBetween, 5, 8) := rfl
abbrev mX8_spellingBetween : Nat := 101
theorem MX8_spellingBetween : METH 101 = (BX8_spellingBetween, 7, 8) := rfl
abbrev mX8_isLetter : Nat := 102
theorem MX8_isLetter : METH 102 = (BX8_isLetter, 1, 8) := rfl
abbrev mX8_isDigit : Nat := 103
theorem MX8_isDigit : METH 103 = (BX8_isDigit, 1, 8) := rfl
abbrev mX9_init : Nat := 104
theorem MX9_init : METH 104 = (BX9_init, 1, 9) := rfl
abbrev mX9_feed : Nat := 105
theorem MX9_feed : METH 105 = (BX9_feed, 6, 9) := rfl
abbrev mX9_append : Nat := 106
theorem MX9_append : METH 106 = (BX9_append, 3, 9) := rfl
abbrev mX9_trim : Nat := 107
theorem MX9_trim : METH 107 = (BX9_trim, 2, 9) := rfl
abbrev mX9_teach : Nat := 108
theorem MX9_teach : METH 108 = (BX9_teach, 3, 9) := rfl
abbrev mX9_errorAt : Nat := 109
theorem MX9_errorAt : METH 109 = (BX9_errorAt, 1, 9) := rfl
abbrev mX9_count : Nat := 110
theorem MX9_count : METH 110 = (BX9_count, 2, 9) := rfl
abbrev mX9_countOf : Nat := 111
theorem MX9_countOf : METH 111 = (BX9_countOf, 2, 9) := rfl
abbrev mX9_tavern : Nat := 112
theorem MX9_tavern : METH 112 = (BX9_tavern, 3, 9) := rfl
abbrev mX9_tavernFact : Nat := 113
theorem MX9_tavernFact : METH 113 = (BX9_tavernFact, 3, 9) := rfl
abbrev mX9_road : Nat := 114
theorem MX9_road : METH 114 = (BX9_road, 3, 9) := rfl
abbrev mX9_roadFact : Nat := 115
theorem MX9_roadFact : METH 115 = (BX9_roadFact, 4, 9) := rfl
abbrev mX9_rumour : Nat := 116
theorem MX9_rumour : METH 116 = (BX9_rumour, 3, 9) := rfl
abbrev mX9_rumourFact : Nat := 117
theorem MX9_rumourFact : METH 117 = (BX9_rumourFact, 3, 9) := rfl
abbrev mX9_since : Nat := 118
theorem MX9_since : METH 118 = (BX9_since, 3, 9) := rfl
abbrev mX9_isTavern : Nat := 119
theorem MX9_isTavern : METH 119 = (BX9_isTavern, 2, 9) := rfl
abbrev mX9_isRoad : Nat := 120
theorem MX9_isRoad : METH 120 = (BX9_isRoad, 2, 9) := rfl
abbrev mX9_isRumour : Nat := 121
theorem MX9_isRumour : METH 121 = (BX9_isRumour, 2, 9) := rfl
abbrev mX9_far : Nat := 122
theorem MX9_far : METH 122 = (BX9_far, 3, 9) := rfl
abbrev mX9_step : Nat := 123
theorem MX9_step : METH 123 = (BX9_step, 3, 9) := rfl
abbrev mX9_detour : Nat := 124
theorem MX9_detour : METH 124 = (BX9_detour, 2, 9) := rfl
abbrev mX9_replace : Nat := 125
theorem MX9_replace : METH 125 = (BX9_replace, 2, 9) := rfl
abbrev mX9_hurt : Nat := 126
theorem MX9_hurt : METH 126 = (BX9_hurt, 3, 9) := rfl
abbrev mX9_mend : Nat := 127
theorem MX9_mend : METH 127 = (BX9_mend, 2, 9) := rfl
abbrev mX9_tell : Nat := 128
theorem MX9_tell : METH 128 = (BX9_tell, 3, 9) := rfl
abbrev mX9_setMiles : Nat := 129
theorem MX9_setMiles : METH 129 = (BX9_setMiles, 4, 9) := rfl
abbrev mX9_pass : Nat := 130
theorem MX9_pass : METH 130 = (BX9_pass, 2, 9) := rfl
abbrev mX9_until : Nat := 131
theorem MX9_until : METH 131 = (BX9_until, 3, 9) := rfl
abbrev mX9_foresee : Nat := 132
theorem MX9_foresee : METH 132 = (BX9_foresee, 3, 9) := rfl
abbrev mX9_advise : Nat := 133
theorem MX9_advise : METH 133 = (BX9_advise, 7, 9) := rfl
abbrev mX9_knowersBehind : Nat := 134
theorem MX9_knowersBehind : METH 134 = (BX9_knowersBehind, 4, 9) := rfl
abbrev mX9_best : Nat := 135
theorem MX9_best : METH 135 = (BX9_best, 9, 9) := rfl
abbrev mX9_mean : Nat := 136
theorem MX9_mean : METH 136 = (BX9_mean, 3, 9) := rfl
abbrev mX9_digest : Nat := 137
theorem MX9_digest : METH 137 = (BX9_digest, 5, 9) := rfl
abbrev mX9_digestTaverns : Nat := 138
theorem MX9_digestTaverns : METH 138 = (BX9_digestTaverns, 7, 9) := rfl
abbrev mX9_digestRoads : Nat := 139
theorem MX9_digestRoads : METH 139 = (BX9_digestRoads, 7, 9) := rfl
abbrev mX10_init : Nat := 140
theorem MX10_init : METH 140 = (BX10_init, 1, 10) := rfl
abbrev mX11_init : Nat := 141
theorem MX11_init : METH 141 = (BX11_init, 1, 11) := rfl
abbrev mX11_copy : Nat := 142
theorem MX11_copy : METH 142 = (BX11_copy, 2, 11) := rfl
abbrev mX11_become : Nat := 143
theorem MX11_become : METH 143 = (BX11_become, 2, 11) := rfl
abbrev mX11_isOpen : Nat := 144
theorem MX11_isOpen : METH 144 = (BX11_isOpen, 2, 11) := rfl
abbrev mX11_length : Nat := 145
theorem MX11_length : METH 145 = (BX11_length, 2, 11) := rfl
abbrev mX11_knows : Nat := 146
theorem MX11_knows : METH 146 = (BX11_knows, 3, 11) := rfl
abbrev mX11_hear : Nat := 147
theorem MX11_hear : METH 147 = (BX11_hear, 3, 11) := rfl
abbrev mX11_keep : Nat := 148
theorem MX11_keep : METH 148 = (BX11_keep, 3, 11) := rfl
abbrev mX12_init : Nat := 149
theorem MX12_init : METH 149 = (BX12_init, 1, 12) := rfl
abbrev mX12_thrown : Nat := 150
theorem MX12_thrown : METH 150 = (BX12_thrown, 1, 12) := rfl
abbrev mX12_no : Nat := 151
theorem MX12_no : METH 151 = (BX12_no, 2, 12) := rfl
abbrev mX12_isIn : Nat := 152
theorem MX12_isIn : METH 152 = (BX12_isIn, 3, 12) := rfl
abbrev mX12_is : Nat := 153
theorem MX12_is : METH 153 = (BX12_is, 3, 12) := rfl
abbrev mX12_isLetter : Nat := 154
theorem MX12_isLetter : METH 154 = (BX12_isLetter, 1, 12) := rfl
abbrev mX12_isDigit : Nat := 155
theorem MX12_isDigit : METH 155 = (BX12_isDigit, 1, 12) := rfl
abbrev mX12_byteAt : Nat := 156
theorem MX12_byteAt : METH 156 = (BX12_byteAt, 2, 12) := rfl
abbrev mX12_lengthAt : Nat := 157
theorem MX12_lengthAt : METH 157 = (BX12_lengthAt, 4, 12) := rfl
abbrev mX12_kindAt : Nat := 158
theorem MX12_kindAt : METH 158 = (BX12_kindAt, 5, 12) := rfl
abbrev mX12_wordAt : Nat := 159
theorem MX12_wordAt : METH 159 = (BX12_wordAt, 5, 12) := rfl
abbrev mX12_cut : Nat := 160
theorem MX12_cut : METH 160 = (BX12_cut, 4, 12) := rfl
abbrev mX12_eat : Nat := 161
theorem MX12_eat : METH 161 = (BX12_eat, 3, 12) := rfl
abbrev mX12_eatIn : Nat := 162
theorem MX12_eatIn : METH 162 = (BX12_eatIn, 4, 12) := rfl
abbrev mX12_goDown : Nat := 163
theorem MX12_goDown : METH 163 = (BX12_goDown, 3, 12) := rfl
abbrev mX12_isList : Nat := 164
theorem MX12_isList : METH 164 = (BX12_isList, 2, 12) := rfl
abbrev mX12_isNumber : Nat := 165
theorem MX12_isNumber : METH 165 = (BX12_isNumber, 3, 12) := rfl
abbrev mX12_isName : Nat := 166
theorem MX12_isName : METH 166 = (BX12_isName, 3, 12) := rfl
abbrev mX12_isWhen : Nat := 167
theorem MX12_isWhen : METH 167 = (BX12_isWhen, 2, 12) := rfl
abbrev mX12_isLine : Nat := 168
theorem MX12_isLine : METH 168 = (BX12_isLine, 2, 12) := rfl
abbrev mX12_isTest : Nat := 169
theorem MX12_isTest : METH 169 = (BX12_isTest, 2, 12) := rfl
abbrev mX12_isBoth : Nat := 170
theorem MX12_isBoth : METH 170 = (BX12_isBoth, 2, 12) := rfl
abbrev mX12_isSingle : Nat := 171
theorem MX12_isSingle : METH 171 = (BX12_isSingle, 2, 12) := rfl
abbrev mX12_isSum : Nat := 172
theorem MX12_isSum : METH 172 = (BX12_isSum, 2, 12) := rfl
abbrev mX12_isProduct : Nat := 173
theorem MX12_isProduct : METH 173 = (BX12_isProduct, 2, 12) := rfl
abbrev mX12_isValue : Nat := 174
theorem MX12_isValue : METH 174 = (BX12_isValue, 3, 12) := rfl
abbrev mX12_number : Nat := 175
theorem MX12_number : METH 175 = (BX12_number, 5, 12) := rfl
abbrev mX12_areSame : Nat := 176
theorem MX12_areSame : METH 176 = (BX12_areSame, 6, 12) := rfl
abbrev mX12_find : Nat := 177
theorem MX12_find : METH 177 = (BX12_find, 5, 12) := rfl
abbrev mX12_most : Nat := 178
theorem MX12_most : METH 178 = (BX12_most, 1, 12) := rfl
abbrev mX12_isSort : Nat := 179
theorem MX12_isSort : METH 179 = (BX12_isSort, 1, 12) := rfl
abbrev mX12_errorOfNew : Nat := 180
theorem MX12_errorOfNew : METH 180 = (BX12_errorOfNew, 4, 12) := rfl
abbrev mX12_sortOf : Nat := 181
theorem MX12_sortOf : METH 181 = (BX12_sortOf, 2, 12) := rfl
abbrev mX12_errorOfName : Nat := 182
theorem MX12_errorOfName : METH 182 = (BX12_errorOfName, 6, 12) := rfl
abbrev mX12_errorOfNumber : Nat := 183
theorem MX12_errorOfNumber : METH 183 = (BX12_errorOfNumber, 4, 12) := rfl
abbrev mX12_errorOfOrder : Nat := 184
theorem MX12_errorOfOrder : METH 184 = (BX12_errorOfOrder, 3, 12) := rfl
abbrev mX12_errorOf : Nat := 185
theorem MX12_errorOf : METH 185 = (BX12_errorOf, 3, 12) := rfl
abbrev mX12_read : Nat := 186
theorem MX12_read : METH 186 = (BX12_read, 4, 12) := rfl
abbrev mX12_goesBy : Nat := 187
theorem MX12_goesBy : METH 187 = (BX12_goesBy, 2, 12) := rfl
abbrev mX12_test : Nat := 188
theorem MX12_test : METH 188 = (BX12_test, 2, 12) := rfl
abbrev mX12_both : Nat := 189
theorem MX12_both : METH 189 = (BX12_both, 2, 12) := rfl
abbrev mX12_named : Nat := 190
theorem MX12_named : METH 190 = (BX12_named, 2, 12) := rfl
abbrev mX12_single : Nat := 191
theorem MX12_single : METH 191 = (BX12_single, 4, 12) := rfl
abbrev mX12_sum : Nat := 192
theorem MX12_sum : METH 192 = (BX12_sum, 4, 12) := rfl
abbrev mX12_product : Nat := 193
theorem MX12_product : METH 193 = (BX12_product, 4, 12) := rfl
abbrev mX12_value : Nat := 194
theorem MX12_value : METH 194 = (BX12_value, 4, 12) := rfl
abbrev mX12_isUsed : Nat := 195
theorem MX12_isUsed : METH 195 = (BX12_isUsed, 3, 12) := rfl
abbrev mX12_look : Nat := 196
theorem MX12_look : METH 196 = (BX12_look, 7, 12) := rfl
abbrev mX12_reaches : Nat := 197
theorem MX12_reaches : METH 197 = (BX12_reaches, 4, 12) := rfl
abbrev mX12_far : Nat := 198
theorem MX12_far : METH 198 = (BX12_far, 4, 12) := rfl
abbrev mX12_part : Nat := 199
theorem MX12_part : METH 199 = (BX12_part, 6, 12) := rfl
abbrev mX12_nextOfNet : Nat := 200
theorem MX12_nextOfNet : METH 200 = (BX12_nextOfNet, 4, 12) := rfl
abbrev mX12_net : Nat := 201
theorem MX12_net : METH 201 = (BX12_net, 7, 12) := rfl
abbrev mX12_detourOf : Nat := 202
theorem MX12_detourOf : METH 202 = (BX12_detourOf, 4, 12) := rfl
abbrev mX12_isSpan : Nat := 203
theorem MX12_isSpan : METH 203 = (BX12_isSpan, 3, 12) := rfl
abbrev mX12_replaceOf : Nat := 204
theorem MX12_replaceOf : METH 204 = (BX12_replaceOf, 4, 12) := rfl
abbrev mX12_heard : Nat := 205
theorem MX12_heard : METH 205 = (BX12_heard, 5, 12) := rfl
abbrev mX12_hurtBy : Nat := 206
theorem MX12_hurtBy : METH 206 = (BX12_hurtBy, 5, 12) := rfl
abbrev mX12_mended : Nat := 207
theorem MX12_mended : METH 207 = (BX12_mended, 4, 12) := rfl
abbrev mX12_hushed : Nat := 208
theorem MX12_hushed : METH 208 = (BX12_hushed, 4, 12) := rfl
abbrev mX12_isCarriedOut : Nat := 209
theorem MX12_isCarriedOut : METH 209 = (BX12_isCarriedOut, 4, 12) := rfl
abbrev mX12_lose : Nat := 210
theorem MX12_lose : METH 210 = (BX12_lose, 4, 12) := rfl
abbrev mX12_travel : Nat := 211
theorem MX12_travel : METH 211 = (BX12_travel, 4, 12) := rfl
abbrev mX12_setOut : Nat := 212
theorem MX12_setOut : METH 212 = (BX12_setOut, 6, 12) := rfl
abbrev mX12_hourOn : Nat := 213
theorem MX12_hourOn : METH 213 = (BX12_hourOn, 4, 12) := rfl
abbrev mX12_hoursOn : Nat := 214
theorem MX12_hoursOn : METH 214 = (BX12_hoursOn, 4, 12) := rfl
abbrev mX12_spans : Nat := 215
theorem MX12_spans : METH 215 = (BX12_spans, 5, 12) := rfl
abbrev mX12_counted : Nat := 216
theorem MX12_counted : METH 216 = (BX12_counted, 5, 12) := rfl
abbrev mX12_feed : Nat := 217
theorem MX12_feed : METH 217 = (BX12_feed, 8, 12) := rfl
abbrev mX12_trim : Nat := 218
theorem MX12_trim : METH 218 = (BX12_trim, 2, 12) := rfl
abbrev mX12_fill : Nat := 219
theorem MX12_fill : METH 219 = (BX12_fill, 3, 12) := rfl
abbrev mX12_begin : Nat := 220
theorem MX12_begin : METH 220 = (BX12_begin, 1, 12) := rfl
abbrev mX12_teach : Nat := 221
theorem MX12_teach : METH 221 = (BX12_teach, 3, 12) := rfl
abbrev mX12_errorAt : Nat := 222
theorem MX12_errorAt : METH 222 = (BX12_errorAt, 1, 12) := rfl
abbrev mX12_count : Nat := 223
theorem MX12_count : METH 223 = (BX12_count, 2, 12) := rfl
abbrev mX12_tavernTold : Nat := 224
theorem MX12_tavernTold : METH 224 = (BX12_tavernTold, 5, 12) := rfl
abbrev mX12_tavern : Nat := 225
theorem MX12_tavern : METH 225 = (BX12_tavern, 3, 12) := rfl
abbrev mX12_travellersOn : Nat := 226
theorem MX12_travellersOn : METH 226 = (BX12_travellersOn, 4, 12) := rfl
abbrev mX12_roadTold : Nat := 227
theorem MX12_roadTold : METH 227 = (BX12_roadTold, 3, 12) := rfl
abbrev mX12_road : Nat := 228
theorem MX12_road : METH 228 = (BX12_road, 3, 12) := rfl
abbrev mX12_rumourTold : Nat := 229
theorem MX12_rumourTold : METH 229 = (BX12_rumourTold, 5, 12) := rfl
abbrev mX12_rumour : Nat := 230
theorem MX12_rumour : METH 230 = (BX12_rumour, 3, 12) := rfl
abbrev mX12_since : Nat := 231
theorem MX12_since : METH 231 = (BX12_since, 3, 12) := rfl
abbrev mX12_far_ : Nat := 232
theorem MX12_far_ : METH 232 = (BX12_far_, 3, 12) := rfl
abbrev mX12_stepTold : Nat := 233
theorem MX12_stepTold : METH 233 = (BX12_stepTold, 6, 12) := rfl
abbrev mX12_step : Nat := 234
theorem MX12_step : METH 234 = (BX12_step, 3, 12) := rfl
abbrev mX12_detour : Nat := 235
theorem MX12_detour : METH 235 = (BX12_detour, 2, 12) := rfl
abbrev mX12_replace : Nat := 236
theorem MX12_replace : METH 236 = (BX12_replace, 2, 12) := rfl
abbrev mX12_hurt : Nat := 237
theorem MX12_hurt : METH 237 = (BX12_hurt, 3, 12) := rfl
abbrev mX12_mend : Nat := 238
theorem MX12_mend : METH 238 = (BX12_mend, 2, 12) := rfl
abbrev mX12_tell : Nat := 239
theorem MX12_tell : METH 239 = (BX12_tell, 3, 12) := rfl
abbrev mX12_setMiles : Nat := 240
theorem MX12_setMiles : METH 240 = (BX12_setMiles, 4, 12) := rfl
abbrev mX12_pass : Nat := 241
theorem MX12_pass : METH 241 = (BX12_pass, 3, 12) := rfl
abbrev mX12_untilAll : Nat := 242
theorem MX12_untilAll : METH 242 = (BX12_untilAll, 3, 12) := rfl
abbrev mX12_until : Nat := 243
theorem MX12_until : METH 243 = (BX12_until, 2, 12) := rfl
abbrev mX12_foresee : Nat := 244
theorem MX12_foresee : METH 244 = (BX12_foresee, 3, 12) := rfl
abbrev mX12_adviseTold : Nat := 245
theorem MX12_adviseTold : METH 245 = (BX12_adviseTold, 7, 12) := rfl
abbrev mX12_advise : Nat := 246
theorem MX12_advise : METH 246 = (BX12_advise, 3, 12) := rfl
abbrev mX12_best : Nat := 247
theorem MX12_best : METH 247 = (BX12_best, 7, 12) := rfl
abbrev mX12_mean : Nat := 248
theorem MX12_mean : METH 248 = (BX12_mean, 4, 12) := rfl
abbrev mX12_digest : Nat := 249
theorem MX12_digest : METH 249 = (BX12_digest, 5, 12) := rfl
abbrev mL_feed : Nat := 250
theorem ML_feed : METH 250 = (BL_feed, 8, 13) := rfl
abbrev mL_trim : Nat := 251
theorem ML_trim : METH 251 = (BL_trim, 4, 13) := rfl
abbrev mL_count : Nat := 252
theorem ML_count : METH 252 = (BL_count, 4, 13) := rfl
abbrev mL_tavern : Nat := 253
theorem ML_tavern : METH 253 = (BL_tavern, 5, 13) := rfl
abbrev mL_road : Nat := 254
theorem ML_road : METH 254 = (BL_road, 5, 13) := rfl
abbrev mL_rumour : Nat := 255
theorem ML_rumour : METH 255 = (BL_rumour, 5, 13) := rfl
abbrev mL_since : Nat := 256
theorem ML_since : METH 256 = (BL_since, 5, 13) := rfl
abbrev mL_far : Nat := 257
theorem ML_far : METH 257 = (BL_far, 5, 13) := rfl
abbrev mL_step : Nat := 258
theorem ML_step : METH 258 = (BL_step, 5, 13) := rfl
abbrev mL_detour : Nat := 259
theorem ML_detour : METH 259 = (BL_detour, 4, 13) := rfl
abbrev mL_replace : Nat := 260
theorem ML_replace : METH 260 = (BL_replace, 4, 13) := rfl
abbrev mL_hurt : Nat := 261
theorem ML_hurt : METH 261 = (BL_hurt, 5, 13) := rfl
abbrev mL_mend : Nat := 262
theorem ML_mend : METH 262 = (BL_mend, 4, 13) := rfl
abbrev mL_tell : Nat := 263
theorem ML_tell : METH 263 = (BL_tell, 5, 13) := rfl
abbrev mL_setMiles : Nat := 264
theorem ML_setMiles : METH 264 = (BL_setMiles, 5, 13) := rfl
abbrev mL_pass : Nat := 265
theorem ML_pass : METH 265 = (BL_pass, 4, 13) := rfl
abbrev mL_until : Nat := 266
theorem ML_until : METH 266 = (BL_until, 4, 13) := rfl
abbrev mL_foresee : Nat := 267
theorem ML_foresee : METH 267 = (BL_foresee, 5, 13) := rfl
abbrev mL_advise : Nat := 268
theorem ML_advise : METH 268 = (BL_advise, 5, 13) := rfl
abbrev mL_law : Nat := 269
theorem ML_law : METH 269 = (BL_law, 9, 13) := rfl
abbrev mJ0_length_8abf5 : Nat := 270
theorem MJ0_length_8abf5 : METH 270 = (BJ0_length_8abf5, 1, 14) := rfl
abbrev mJ0_charAt_5068e : Nat := 271
theorem MJ0_charAt_5068e : METH 271 = (BJ0_charAt_5068e, 2, 14) := rfl
abbrev mJ0_indexOf_0f7a4 : Nat := 272
theorem MJ0_indexOf_0f7a4 : METH 272 = (BJ0_indexOf_0f7a4, 2, 14) := rfl
abbrev mJ0_indexOf_7cf53 : Nat := 273
theorem MJ0_indexOf_7cf53 : METH 273 = (BJ0_indexOf_7cf53, 3, 14) := rfl
abbrev mJ0_coder_7d493 : Nat := 274
theorem MJ0_coder_7d493 : METH 274 = (BJ0_coder_7d493, 1, 14) := rfl
abbrev mJ0_isLatin1_aae02 : Nat := 275
theorem MJ0_isLatin1_aae02 : METH 275 = (BJ0_isLatin1_aae02, 1, 14) := rfl
abbrev mJ0_checkIndex_df160 : Nat := 276
theorem MJ0_checkIndex_df160 : METH 276 = (BJ0_checkIndex_df160, 2, 14) := rfl
abbrev mJ1_charAt_3b067 : Nat := 277
theorem MJ1_charAt_3b067 : METH 277 = (BJ1_charAt_3b067, 2, 15) := rfl
abbrev mJ1_canEncode_9a6ad : Nat := 278
theorem MJ1_canEncode_9a6ad : METH 278 = (BJ1_canEncode_9a6ad, 1, 15) := rfl
abbrev mJ1_indexOf_4cfef : Nat := 279
theorem MJ1_indexOf_4cfef : METH 279 = (BJ1_indexOf_4cfef, 4, 15) := rfl
abbrev mJ1_indexOfChar_4cfef : Nat := 280
theorem MJ1_indexOfChar_4cfef : METH 280 = (BJ1_indexOfChar_4cfef, 6, 15) := rfl
abbrev mJ3_checkIndex_8e157 : Nat := 281
theorem MJ3_checkIndex_8e157 : METH 281 = (BJ3_checkIndex_8e157, 3, 16) := rfl
abbrev mJ7_fill_53178 : Nat := 282
theorem MJ7_fill_53178 : METH 282 = (BJ7_fill_53178, 4, 17) := rfl
abbrev mJx29ce0_ordinal_8abf5 : Nat := 283
theorem MJx29ce0_ordinal_8abf5 : METH 283 = (BJx29ce0_ordinal_8abf5, 1, 18) := rfl
abbrev mX3_has : Nat := 284
theorem MX3_has : METH 284 = (BX3_has, 3, 3) := rfl
abbrev mX7_has : Nat := 285
theorem MX7_has : METH 285 = (BX7_has, 2, 7) := rfl
abbrev mX7_lengthOf : Nat := 286
theorem MX7_lengthOf : METH 286 = (BX7_lengthOf, 2, 7) := rfl
abbrev mX7_woundsOf : Nat := 287
theorem MX7_woundsOf : METH 287 = (BX7_woundsOf, 2, 7) := rfl
