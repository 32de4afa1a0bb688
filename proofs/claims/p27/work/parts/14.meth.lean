/-! ===== the methods by their numbers ===== -/
def BP : List ((Nat → List MI) × (Nat → Nat) × Nat) := [(BX1_init, PX1_init, 1), (BX1_reads, PX1_reads, 7), (BX1_take, PX1_take, 6), (BX1_line, PX1_line, 11), (BX1_order, PX1_order, 11), (BX1_chain, PX1_chain, 5), (BX1_joinsAt, PX1_joinsAt, 19), (BX1_part, PX1_part, 5), (BX1_single, PX1_single, 17), (BX1_value, PX1_value, 19), (BX3_init, PX3_init, 1), (BX3_begin, PX3_begin, 3), (BX3_copy, PX3_copy, 3), (BX3_hourOfHearing, PX3_hourOfHearing, 1), (BX3_knows, PX3_knows, 3), (BX3_hears, PX3_hears, 4), (BX3_knowersOf, PX3_knowersOf, 7), (BX3_knownBy, PX3_knownBy, 5), (BX3_knownByAll, PX3_knownByAll, 3), (BX3_walkersOn, PX3_walkersOn, 5), (BX3_walkersWith, PX3_walkersWith, 5), (BX3_tally, PX3_tally, 10), (BX3_passHours, PX3_passHours, 3), (BX3_giveOrders, PX3_giveOrders, 8), (BX3_carryOut, PX3_carryOut, 7), (BX3_loseWalkers, PX3_loseWalkers, 4), (BX3_keepWalker, PX3_keepWalker, 1), (BX3_beginRumours, PX3_beginRumours, 4), (BX3_moveWalkers, PX3_moveWalkers, 5), (BX3_sendWalkers, PX3_sendWalkers, 6), (BX3_sendFrom, PX3_sendFrom, 4), (BX4_init, PX4_init, 1), (BX4_look, PX4_look, 3), (BX4_lookAt, PX4_lookAt, 11), (BX4_lookAtRoad, PX4_lookAtRoad, 3), (BX4_lookAtRumour, PX4_lookAtRumour, 2), (BX4_countOrder, PX4_countOrder, 2), (BX4_note, PX4_note, 2), (BX4_tellNew, PX4_tellNew, 4), (BX4_find, PX4_find, 2), (BX4_indexOf, PX4_indexOf, 4), (BX4_numberOf, PX4_numberOf, 3), (BX5_init, PX5_init, 1), (BX5_clear, PX5_clear, 1), (BX5_addCode, PX5_addCode, 2), (BX5_codeAt, PX5_codeAt, 3), (BX5_addRoad, PX5_addRoad, 2), (BX5_addRumour, PX5_addRumour, 2), (BX5_addOrder, PX5_addOrder, 2), (BX5_kindOfOrder, PX5_kindOfOrder, 1), (BX5_targetOfOrder, PX5_targetOfOrder, 1), (BX6_init, PX6_init, 1), (BX6_reckon, PX6_reckon, 8), (BX6_push, PX6_push, 2), (BX6_pop, PX6_pop, 2), (BX6_joined, PX6_joined, 12), (BX6_holds, PX6_holds, 23), (BX6_fact, PX6_fact, 17), (BX7_init, PX7_init, 1), (BX7_begin, PX7_begin, 3), (BX7_copy, PX7_copy, 1), (BX7_shape, PX7_shape, 1), (BX7_forgetWays, PX7_forgetWays, 3), (BX7_addWounds, PX7_addWounds, 4), (BX7_takeWound, PX7_takeWound, 4), (BX7_isOpen, PX7_isOpen, 3), (BX7_openRoads, PX7_openRoads, 5), (BX7_lengthOfOpen, PX7_lengthOfOpen, 5), (BX7_leadsTo, PX7_leadsTo, 4), (BX7_otherEnd, PX7_otherEnd, 3), (BX7_openAt, PX7_openAt, 5), (BX7_between, PX7_between, 6), (BX7_fillRow, PX7_fillRow, 11), (BX7_partOf, PX7_partOf, 3), (BX7_farthestFrom, PX7_farthestFrom, 3), (BX7_nextTavern, PX7_nextTavern, 11), (BX7_lengthAround, PX7_lengthAround, 3), (BX7_isSpan, PX7_isSpan, 3), (BX7_spansWith, PX7_spansWith, 5), (BX7_isInNet, PX7_isInNet, 1), (BX7_lengthOfNet, PX7_lengthOfNet, 1), (BX7_parts, PX7_parts, 1), (BX7_substituteFor, PX7_substituteFor, 7), (BX7_layNet, PX7_layNet, 9), (BX7_joinGroups, PX7_joinGroups, 4), (BX7_sortOpen, PX7_sortOpen, 6), (BX8_init, PX8_init, 3), (BX8_has, PX8_has, 3), (BX8_kindOf, PX8_kindOf, 3), (BX8_placeOf, PX8_placeOf, 3), (BX8_valueOf, PX8_valueOf, 3), (BX8_spellingOf, PX8_spellingOf, 3), (BX8_setValue, PX8_setValue, 2), (BX8_setKind, PX8_setKind, 2), (BX8_read, PX8_read, 10), (BX8_behindBlanks, PX8_behindBlanks, 4), (BX8_endOfToken, PX8_endOfToken, 9), (BX8_kindBetween, PX8_kindBetween, 8), (BX8_kindSpelt, PX8_kindSpelt, 4), (BX8_isSpelt, PX8_isSpelt, 4), (BX8_numberBetween, PX8_numberBetween, 3), (BX8_spellingBetween, PX8_spellingBetween, 5), (BX8_isLetter, PX8_isLetter, 3), (BX8_isDigit, PX8_isDigit, 3), (BX9_init, PX9_init, 1), (BX9_feed, PX9_feed, 2), (BX9_append, PX9_append, 3), (BX9_trim, PX9_trim, 3), (BX9_teach, PX9_teach, 3), (BX10_init, PX10_init, 1), (BX9_count, PX9_count, 3), (BX9_countOf, PX9_countOf, 8), (BX9_tavern, PX9_tavern, 3), (BX9_tavernFact, PX9_tavernFact, 5), (BX9_road, PX9_road, 3), (BX9_roadFact, PX9_roadFact, 16), (BX9_rumour, PX9_rumour, 3), (BX9_rumourFact, PX9_rumourFact, 5), (BX9_since, PX9_since, 3), (BX9_isTavern, PX9_isTavern, 3), (BX9_isRoad, PX9_isRoad, 3), (BX9_isRumour, PX9_isRumour, 3), (BX9_far, PX9_far, 3), (BX9_step, PX9_step, 3), (BX9_detour, PX9_detour, 2), (BX9_replace, PX9_replace, 2), (BX9_hurt, PX9_hurt, 4), (BX9_mend, PX9_mend, 3), (BX9_tell, PX9_tell, 4), (BX9_setMiles, PX9_setMiles, 4), (BX9_pass, PX9_pass, 3), (BX10_isOpen, PX10_isOpen, 3), (BX9_foresee, PX9_foresee, 5), (BX10_length, PX10_length, 1), (BX10_ways, PX10_ways, 17), (BX9_best, PX9_best, 6), (BX9_mean, PX9_mean, 3), (BX9_digest, PX9_digest, 7), (BX9_digestTaverns, PX9_digestTaverns, 7), (BX9_digestRoads, PX9_digestRoads, 5), (BX10_far, PX10_far, 3), (BX10_parts, PX10_parts, 7), (BX10_net, PX10_net, 19), (BX10_lengthOf, PX10_lengthOf, 5), (BX10_detour, PX10_detour, 3), (BX10_isSpan, PX10_isSpan, 3), (BX10_heard, PX10_heard, 5), (BX10_all, PX10_all, 3), (BX10_sum, PX10_sum, 9), (BX10_holds, PX10_holds, 27), (BX10_carries, PX10_carries, 9), (BX10_hears, PX10_hears, 2), (BX10_pass, PX10_pass, 28), (BX10_counts, PX10_counts, 9), (BX10_isSame, PX10_isSame, 53), (BL_below, PL_below, 1), (BL_cell, PL_cell, 3), (BL_taught, PL_taught, 7), (BL_sum, PL_sum, 9), (BL_when, PL_when, 10), (BL_list, PL_list, 22), (BL_act, PL_act, 31), (BL_leads, PL_leads, 8), (BJ0_getBytes_840e7, PJ0_getBytes_840e7, 3), (BJ0_init_81219, PJ0_init_81219, 1), (BJ0_init_db425, PJ0_init_db425, 4), (BJ15_checkIndex_7cf53, PJ15_checkIndex_7cf53, 1), (BJ4_append_15ec4, PJ4_append_15ec4, 1), (BJ4_append_bf812, PJ4_append_bf812, 1), (BJ4_init_da8c8, PJ4_init_da8c8, 1), (BJ4_toString_0e30d, PJ4_toString_0e30d, 1), (BJ5_append_c97b9, PJ5_append_c97b9, 3), (BJ5_append_cf1ce, PJ5_append_cf1ce, 2), (BJ5_ensureCapacityInternal_d00df, PJ5_ensureCapacityInternal_d00df, 2), (BJ5_getValue_6d5f1, PJ5_getValue_6d5f1, 1), (BJ5_inflateIfNeededFor_a7421, PJ5_inflateIfNeededFor_a7421, 2), (BJ5_init_d00df, PJ5_init_d00df, 3), (BJ5_isLatin1_aae02, PJ5_isLatin1_aae02, 3), (BJ5_length_8abf5, PJ5_length_8abf5, 1), (BJ5_newCapacity_0f7a4, PJ5_newCapacity_0f7a4, 2), (BJ5_putStringAt_47b60, PJ5_putStringAt_47b60, 1), (BJ6_getChars_ba4f3, PJ6_getChars_ba4f3, 7), (BJ6_stringSize_0f7a4, PJ6_stringSize_0f7a4, 5), (BJ7_checkLength_df160, PJ7_checkLength_df160, 2), (BJ7_copyOfRangeByte_39247, PJ7_copyOfRangeByte_39247, 1), (BJ7_copyOfRange_39247, PJ7_copyOfRange_39247, 3), (BJ7_copyOf_1904c, PJ7_copyOf_1904c, 1), (BJ7_copyOf_6403c, PJ7_copyOf_6403c, 3), (BJ7_copyOf_9075b, PJ7_copyOf_9075b, 2), (BJ8_newLength_cabcc, PJ8_newLength_cabcc, 2), (BJx35411_checkForComodification_da8c8, PJx35411_checkForComodification_da8c8, 2), (BJx35411_hasNext_aae02, PJx35411_hasNext_aae02, 3), (BJx35411_init_45d68, PJx35411_init_45d68, 1), (BJx35411_next_0502b, PJx35411_next_0502b, 3), (BJx4a65c_add_72be8, PJx4a65c_add_72be8, 2), (BJx4a65c_add_9ea2d, PJx4a65c_add_9ea2d, 1), (BJx4a65c_elementData_915e3, PJx4a65c_elementData_915e3, 1), (BJx4a65c_fastRemove_b59b0, PJx4a65c_fastRemove_b59b0, 2), (BJx4a65c_get_915e3, PJx4a65c_get_915e3, 1), (BJx4a65c_grow_92f84, PJx4a65c_grow_92f84, 3), (BJx4a65c_grow_d5877, PJx4a65c_grow_d5877, 1), (BJx4a65c_init_da8c8, PJx4a65c_init_da8c8, 1), (BJx4a65c_iterator_32c93, PJx4a65c_iterator_32c93, 1), (BJx4a65c_remove_915e3, PJx4a65c_remove_915e3, 1), (BJx4a65c_size_8abf5, PJx4a65c_size_8abf5, 1), (BJxa1e45_init_da8c8, PJxa1e45_init_da8c8, 1), (BJxc12de_init_da8c8, PJxc12de_init_da8c8, 1), (BJ4_length_8abf5, PJ4_length_8abf5, 1), (BJ0_coder_7d493, PJ0_coder_7d493, 3), (BJ0_coder_7d493, PJ0_coder_7d493, 3), (BJ0_coder_7d493, PJ0_coder_7d493, 3), (BJ0_coder_7d493, PJ0_coder_7d493, 3), (BJ0_coder_7d493, PJ0_coder_7d493, 3), (BJ0_coder_7d493, PJ0_coder_7d493, 3), (BJ0_coder_7d493, PJ0_coder_7d493, 3), (BJ0_coder_7d493, PJ0_coder_7d493, 3), (BJ0_coder_7d493, PJ0_coder_7d493, 3), (BJ0_coder_7d493, PJ0_coder_7d493, 3), (BJ0_coder_7d493, PJ0_coder_7d493, 3), (BJ0_coder_7d493, PJ0_coder_7d493, 3), (BJ0_coder_7d493, PJ0_coder_7d493, 3), (BJ0_coder_7d493, PJ0_coder_7d493, 3), (BJ0_coder_7d493, PJ0_coder_7d493, 3), (BJ0_coder_7d493, PJ0_coder_7d493, 3), (BJ0_coder_7d493, PJ0_coder_7d493, 3), (BJ0_coder_7d493, PJ0_coder_7d493, 3), (BJ0_coder_7d493, PJ0_coder_7d493, 3), (BJ0_coder_7d493, PJ0_coder_7d493, 3), (BJ0_coder_7d493, PJ0_coder_7d493, 3), (BJ0_coder_7d493, PJ0_coder_7d493, 3), (BJ0_coder_7d493, PJ0_coder_7d493, 3), (BJ0_coder_7d493, PJ0_coder_7d493, 3), (BJ0_coder_7d493, PJ0_coder_7d493, 3), (BJ0_coder_7d493, PJ0_coder_7d493, 3), (BJ0_coder_7d493, PJ0_coder_7d493, 3), (BJ0_coder_7d493, PJ0_coder_7d493, 3), (BJ0_coder_7d493, PJ0_coder_7d493, 3), (BJ0_coder_7d493, PJ0_coder_7d493, 3), (BJ0_coder_7d493, PJ0_coder_7d493, 3), (BJ0_coder_7d493, PJ0_coder_7d493, 3), (BJ0_coder_7d493, PJ0_coder_7d493, 3), (BJ0_coder_7d493, PJ0_coder_7d493, 3), (BJ0_coder_7d493, PJ0_coder_7d493, 3), (BJ0_coder_7d493, PJ0_coder_7d493, 3), (BJ0_coder_7d493, PJ0_coder_7d493, 3), (BJ0_coder_7d493, PJ0_coder_7d493, 3), (BJ0_coder_7d493, PJ0_coder_7d493, 3), (BJ0_coder_7d493, PJ0_coder_7d493, 3), (BJ0_coder_7d493, PJ0_coder_7d493, 3), (BJ0_coder_7d493, PJ0_coder_7d493, 3), (BJ0_coder_7d493, PJ0_coder_7d493, 3), (BJ0_coder_7d493, PJ0_coder_7d493, 3), (BJ0_coder_7d493, PJ0_coder_7d493, 3), (BJ0_coder_7d493, PJ0_coder_7d493, 3), (BJ0_coder_7d493, PJ0_coder_7d493, 3), (BJ0_coder_7d493, PJ0_coder_7d493, 3), (BJ0_coder_7d493, PJ0_coder_7d493, 3), (BJ0_coder_7d493, PJ0_coder_7d493, 3), (BJ0_coder_7d493, PJ0_coder_7d493, 3), (BJ0_coder_7d493, PJ0_coder_7d493, 3), (BJ0_coder_7d493, PJ0_coder_7d493, 3), (BJ0_coder_7d493, PJ0_coder_7d493, 3), (BJ0_coder_7d493, PJ0_coder_7d493, 3), (BJ0_coder_7d493, PJ0_coder_7d493, 3), (BJ0_coder_7d493, PJ0_coder_7d493, 3), (BJ0_coder_7d493, PJ0_coder_7d493, 3), (BJ0_coder_7d493, PJ0_coder_7d493, 3), (BJ0_coder_7d493, PJ0_coder_7d493, 3), (BJ0_coder_7d493, PJ0_coder_7d493, 3), (BL_law, PL_law, 84), (BJ0_length_8abf5, PJ0_length_8abf5, 1), (BJ0_charAt_5068e, PJ0_charAt_5068e, 2), (BJ0_coder_7d493, PJ0_coder_7d493, 3), (BJ0_coder_7d493, PJ0_coder_7d493, 3), (BJ0_coder_7d493, PJ0_coder_7d493, 3), (BJ0_isLatin1_aae02, PJ0_isLatin1_aae02, 3), (BJ0_checkIndex_df160, PJ0_checkIndex_df160, 1), (BJ1_charAt_3b067, PJ1_charAt_3b067, 1), (BJ0_coder_7d493, PJ0_coder_7d493, 3), (BJ0_coder_7d493, PJ0_coder_7d493, 3), (BJ0_coder_7d493, PJ0_coder_7d493, 3), (BJ3_checkIndex_8e157, PJ3_checkIndex_8e157, 3), (BJ7_fill_53178, PJ7_fill_53178, 3), (BJx29ce0_ordinal_8abf5, PJx29ce0_ordinal_8abf5, 1), (BX3_has, PX3_has, 3), (BX7_has, PX7_has, 3), (BX7_lengthOf, PX7_lengthOf, 3), (BX7_woundsOf, PX7_woundsOf, 3)]
def bp (m : Nat) : (Nat → List MI) × (Nat → Nat) × Nat := BP.getD m (fun _ => [], fun _ => 0, 0)
def METH (m : Nat) : MM := ((bp m).1, (mInf m).2.2.2.1, (mInf m).2.2.1)
abbrev mX1_init : Nat := 0
theorem MX1_init : METH 0 = (BX1_init, 2, 1) := rfl
abbrev mX1_reads : Nat := 1
theorem MX1_reads : METH 1 = (BX1_reads, 4, 1) := rfl
abbrev mX1_take : Nat := 2
theorem MX1_take : METH 2 = (BX1_take, 3, 1) := rfl
abbrev mX1_line : Nat := 3
theorem MX1_line : METH 3 = (BX1_line, 1, 1) := rfl
abbrev mX1_order : Nat := 4
theorem MX1_order : METH 4 = (BX1_order, 5, 1) := rfl
abbrev mX1_chain : Nat := 5
theorem MX1_chain : METH 5 = (BX1_chain, 6, 1) := rfl
abbrev mX1_joinsAt : Nat := 6
theorem MX1_joinsAt : METH 6 = (BX1_joinsAt, 2, 1) := rfl
abbrev mX1_part : Nat := 7
theorem MX1_part : METH 7 = (BX1_part, 3, 1) := rfl
abbrev mX1_single : Nat := 8
theorem MX1_single : METH 8 = (BX1_single, 4, 1) := rfl
abbrev mX1_value : Nat := 9
theorem MX1_value : METH 9 = (BX1_value, 4, 1) := rfl
abbrev mX3_init : Nat := 10
theorem MX3_init : METH 10 = (BX3_init, 2, 3) := rfl
abbrev mX3_begin : Nat := 11
theorem MX3_begin : METH 11 = (BX3_begin, 3, 3) := rfl
abbrev mX3_copy : Nat := 12
theorem MX3_copy : METH 12 = (BX3_copy, 3, 3) := rfl
abbrev mX3_hourOfHearing : Nat := 13
theorem MX3_hourOfHearing : METH 13 = (BX3_hourOfHearing, 3, 3) := rfl
abbrev mX3_knows : Nat := 14
theorem MX3_knows : METH 14 = (BX3_knows, 3, 3) := rfl
abbrev mX3_hears : Nat := 15
theorem MX3_hears : METH 15 = (BX3_hears, 4, 3) := rfl
abbrev mX3_knowersOf : Nat := 16
theorem MX3_knowersOf : METH 16 = (BX3_knowersOf, 5, 3) := rfl
abbrev mX3_knownBy : Nat := 17
theorem MX3_knownBy : METH 17 = (BX3_knownBy, 4, 3) := rfl
abbrev mX3_knownByAll : Nat := 18
theorem MX3_knownByAll : METH 18 = (BX3_knownByAll, 3, 3) := rfl
abbrev mX3_walkersOn : Nat := 19
theorem MX3_walkersOn : METH 19 = (BX3_walkersOn, 4, 3) := rfl
abbrev mX3_walkersWith : Nat := 20
theorem MX3_walkersWith : METH 20 = (BX3_walkersWith, 4, 3) := rfl
abbrev mX3_tally : Nat := 21
theorem MX3_tally : METH 21 = (BX3_tally, 2, 3) := rfl
abbrev mX3_passHours : Nat := 22
theorem MX3_passHours : METH 22 = (BX3_passHours, 4, 3) := rfl
abbrev mX3_giveOrders : Nat := 23
theorem MX3_giveOrders : METH 23 = (BX3_giveOrders, 4, 3) := rfl
abbrev mX3_carryOut : Nat := 24
theorem MX3_carryOut : METH 24 = (BX3_carryOut, 5, 3) := rfl
abbrev mX3_loseWalkers : Nat := 25
theorem MX3_loseWalkers : METH 25 = (BX3_loseWalkers, 3, 3) := rfl
abbrev mX3_keepWalker : Nat := 26
theorem MX3_keepWalker : METH 26 = (BX3_keepWalker, 3, 3) := rfl
abbrev mX3_beginRumours : Nat := 27
theorem MX3_beginRumours : METH 27 = (BX3_beginRumours, 3, 3) := rfl
abbrev mX3_moveWalkers : Nat := 28
theorem MX3_moveWalkers : METH 28 = (BX3_moveWalkers, 4, 3) := rfl
abbrev mX3_sendWalkers : Nat := 29
theorem MX3_sendWalkers : METH 29 = (BX3_sendWalkers, 4, 3) := rfl
abbrev mX3_sendFrom : Nat := 30
theorem MX3_sendFrom : METH 30 = (BX3_sendFrom, 4, 3) := rfl
abbrev mX4_init : Nat := 31
theorem MX4_init : METH 31 = (BX4_init, 2, 4) := rfl
abbrev mX4_look : Nat := 32
theorem MX4_look : METH 32 = (BX4_look, 3, 4) := rfl
abbrev mX4_lookAt : Nat := 33
theorem MX4_lookAt : METH 33 = (BX4_lookAt, 2, 4) := rfl
abbrev mX4_lookAtRoad : Nat := 34
theorem MX4_lookAtRoad : METH 34 = (BX4_lookAtRoad, 5, 4) := rfl
abbrev mX4_lookAtRumour : Nat := 35
theorem MX4_lookAtRumour : METH 35 = (BX4_lookAtRumour, 4, 4) := rfl
abbrev mX4_countOrder : Nat := 36
theorem MX4_countOrder : METH 36 = (BX4_countOrder, 2, 4) := rfl
abbrev mX4_note : Nat := 37
theorem MX4_note : METH 37 = (BX4_note, 3, 4) := rfl
abbrev mX4_tellNew : Nat := 38
theorem MX4_tellNew : METH 38 = (BX4_tellNew, 5, 4) := rfl
abbrev mX4_find : Nat := 39
theorem MX4_find : METH 39 = (BX4_find, 4, 4) := rfl
abbrev mX4_indexOf : Nat := 40
theorem MX4_indexOf : METH 40 = (BX4_indexOf, 5, 4) := rfl
abbrev mX4_numberOf : Nat := 41
theorem MX4_numberOf : METH 41 = (BX4_numberOf, 5, 4) := rfl
abbrev mX5_init : Nat := 42
theorem MX5_init : METH 42 = (BX5_init, 1, 5) := rfl
abbrev mX5_clear : Nat := 43
theorem MX5_clear : METH 43 = (BX5_clear, 1, 5) := rfl
abbrev mX5_addCode : Nat := 44
theorem MX5_addCode : METH 44 = (BX5_addCode, 2, 5) := rfl
abbrev mX5_codeAt : Nat := 45
theorem MX5_codeAt : METH 45 = (BX5_codeAt, 2, 5) := rfl
abbrev mX5_addRoad : Nat := 46
theorem MX5_addRoad : METH 46 = (BX5_addRoad, 4, 5) := rfl
abbrev mX5_addRumour : Nat := 47
theorem MX5_addRumour : METH 47 = (BX5_addRumour, 3, 5) := rfl
abbrev mX5_addOrder : Nat := 48
theorem MX5_addOrder : METH 48 = (BX5_addOrder, 4, 5) := rfl
abbrev mX5_kindOfOrder : Nat := 49
theorem MX5_kindOfOrder : METH 49 = (BX5_kindOfOrder, 2, 5) := rfl
abbrev mX5_targetOfOrder : Nat := 50
theorem MX5_targetOfOrder : METH 50 = (BX5_targetOfOrder, 2, 5) := rfl
abbrev mX6_init : Nat := 51
theorem MX6_init : METH 51 = (BX6_init, 1, 6) := rfl
abbrev mX6_reckon : Nat := 52
theorem MX6_reckon : METH 52 = (BX6_reckon, 9, 6) := rfl
abbrev mX6_push : Nat := 53
theorem MX6_push : METH 53 = (BX6_push, 2, 6) := rfl
abbrev mX6_pop : Nat := 54
theorem MX6_pop : METH 54 = (BX6_pop, 1, 6) := rfl
abbrev mX6_joined : Nat := 55
theorem MX6_joined : METH 55 = (BX6_joined, 3, 6) := rfl
abbrev mX6_holds : Nat := 56
theorem MX6_holds : METH 56 = (BX6_holds, 3, 6) := rfl
abbrev mX6_fact : Nat := 57
theorem MX6_fact : METH 57 = (BX6_fact, 5, 6) := rfl
abbrev mX7_init : Nat := 58
theorem MX7_init : METH 58 = (BX7_init, 1, 7) := rfl
abbrev mX7_begin : Nat := 59
theorem MX7_begin : METH 59 = (BX7_begin, 3, 7) := rfl
abbrev mX7_copy : Nat := 60
theorem MX7_copy : METH 60 = (BX7_copy, 2, 7) := rfl
abbrev mX7_shape : Nat := 61
theorem MX7_shape : METH 61 = (BX7_shape, 4, 7) := rfl
abbrev mX7_forgetWays : Nat := 62
theorem MX7_forgetWays : METH 62 = (BX7_forgetWays, 2, 7) := rfl
abbrev mX7_addWounds : Nat := 63
theorem MX7_addWounds : METH 63 = (BX7_addWounds, 4, 7) := rfl
abbrev mX7_takeWound : Nat := 64
theorem MX7_takeWound : METH 64 = (BX7_takeWound, 3, 7) := rfl
abbrev mX7_isOpen : Nat := 65
theorem MX7_isOpen : METH 65 = (BX7_isOpen, 2, 7) := rfl
abbrev mX7_openRoads : Nat := 66
theorem MX7_openRoads : METH 66 = (BX7_openRoads, 3, 7) := rfl
abbrev mX7_lengthOfOpen : Nat := 67
theorem MX7_lengthOfOpen : METH 67 = (BX7_lengthOfOpen, 3, 7) := rfl
abbrev mX7_leadsTo : Nat := 68
theorem MX7_leadsTo : METH 68 = (BX7_leadsTo, 3, 7) := rfl
abbrev mX7_otherEnd : Nat := 69
theorem MX7_otherEnd : METH 69 = (BX7_otherEnd, 3, 7) := rfl
abbrev mX7_openAt : Nat := 70
theorem MX7_openAt : METH 70 = (BX7_openAt, 4, 7) := rfl
abbrev mX7_between : Nat := 71
theorem MX7_between : METH 71 = (BX7_between, 4, 7) := rfl
abbrev mX7_fillRow : Nat := 72
theorem MX7_fillRow : METH 72 = (BX7_fillRow, 9, 7) := rfl
abbrev mX7_partOf : Nat := 73
theorem MX7_partOf : METH 73 = (BX7_partOf, 3, 7) := rfl
abbrev mX7_farthestFrom : Nat := 74
theorem MX7_farthestFrom : METH 74 = (BX7_farthestFrom, 4, 7) := rfl
abbrev mX7_nextTavern : Nat := 75
theorem MX7_nextTavern : METH 75 = (BX7_nextTavern, 8, 7) := rfl
abbrev mX7_lengthAround : Nat := 76
theorem MX7_lengthAround : METH 76 = (BX7_lengthAround, 3, 7) := rfl
abbrev mX7_isSpan : Nat := 77
theorem MX7_isSpan : METH 77 = (BX7_isSpan, 2, 7) := rfl
abbrev mX7_spansWith : Nat := 78
theorem MX7_spansWith : METH 78 = (BX7_spansWith, 4, 7) := rfl
abbrev mX7_isInNet : Nat := 79
theorem MX7_isInNet : METH 79 = (BX7_isInNet, 2, 7) := rfl
abbrev mX7_lengthOfNet : Nat := 80
theorem MX7_lengthOfNet : METH 80 = (BX7_lengthOfNet, 1, 7) := rfl
abbrev mX7_parts : Nat := 81
theorem MX7_parts : METH 81 = (BX7_parts, 1, 7) := rfl
abbrev mX7_substituteFor : Nat := 82
theorem MX7_substituteFor : METH 82 = (BX7_substituteFor, 3, 7) := rfl
abbrev mX7_layNet : Nat := 83
theorem MX7_layNet : METH 83 = (BX7_layNet, 5, 7) := rfl
abbrev mX7_joinGroups : Nat := 84
theorem MX7_joinGroups : METH 84 = (BX7_joinGroups, 4, 7) := rfl
abbrev mX7_sortOpen : Nat := 85
theorem MX7_sortOpen : METH 85 = (BX7_sortOpen, 5, 7) := rfl
abbrev mX8_init : Nat := 86
theorem MX8_init : METH 86 = (BX8_init, 2, 8) := rfl
abbrev mX8_has : Nat := 87
theorem MX8_has : METH 87 = (BX8_has, 2, 8) := rfl
abbrev mX8_kindOf : Nat := 88
theorem MX8_kindOf : METH 88 = (BX8_kindOf, 2, 8) := rfl
abbrev mX8_placeOf : Nat := 89
theorem MX8_placeOf : METH 89 = (BX8_placeOf, 2, 8) := rfl
abbrev mX8_valueOf : Nat := 90
theorem MX8_valueOf : METH 90 = (BX8_valueOf, 2, 8) := rfl
abbrev mX8_spellingOf : Nat := 91
theorem MX8_spellingOf : METH 91 = (BX8_spellingOf, 2, 8) := rfl
abbrev mX8_setValue : Nat := 92
theorem MX8_setValue : METH 92 = (BX8_setValue, 3, 8) := rfl
abbrev mX8_setKind : Nat := 93
theorem MX8_setKind : METH 93 = (BX8_setKind, 3, 8) := rfl
abbrev mX8_read : Nat := 94
theorem MX8_read : METH 94 = (BX8_read, 8, 8) := rfl
abbrev mX8_behindBlanks : Nat := 95
theorem MX8_behindBlanks : METH 95 = (BX8_behindBlanks, 4, 8) := rfl
abbrev mX8_endOfToken : Nat := 96
theorem MX8_endOfToken : METH 96 = (BX8_endOfToken, 4, 8) := rfl
abbrev mX8_kindBetween : Nat := 97
theorem MX8_kindBetween : METH 97 = (BX8_kindBetween, 3, 8) := rfl
abbrev mX8_kindSpelt : Nat := 98
theorem MX8_kindSpelt : METH 98 = (BX8_kindSpelt, 8, 8) := rfl
abbrev mX8_isSpelt : Nat := 99
theorem MX8_isSpelt : METH 99 = (BX8_isSpelt, 4, 8) := rfl
abbrev mX8_numberBetween : Nat := 100
theorem MX8_numberBetween : METH 100 = (BX8_numberBetween, 5, 8) := rfl
abbrev mX8_spellingBetween : Nat := 101
theorem MX8_spellingBetween : METH 101 = (BX8_spellingBetween, 7, 8) := rfl
abbrev mX8_isLetter : Nat := 102
theorem MX8_isLetter : METH 102 = (BX8_isLetter, 1, 8) := rfl
abbrev mX8_isDigit : Nat := 103
theorem MX8_isDigit : METH 103 = (BX8_isDigit, 1, 8) := rfl
abbrev mX9_init : Nat := 104
theorem MX9_init : METH 104 = (BX9_init, 1, 9) := rfl
abbrev mX9_feed : Nat := 105
theorem MX9_feed : METH 105 = (BX9_feed, 6, 9) := rfl
abbrev mX9_append : Nat := 106
theorem MX9_append : METH 106 = (BX9_append, 3, 9) := rfl
abbrev mX9_trim : Nat := 107
theorem MX9_trim : METH 107 = (BX9_trim, 2, 9) := rfl
abbrev mX9_teach : Nat := 108
theorem MX9_teach : METH 108 = (BX9_teach, 3, 9) := rfl
abbrev mX10_init : Nat := 109
theorem MX10_init : METH 109 = (BX10_init, 1, 10) := rfl
abbrev mX9_count : Nat := 110
theorem MX9_count : METH 110 = (BX9_count, 2, 9) := rfl
abbrev mX9_countOf : Nat := 111
theorem MX9_countOf : METH 111 = (BX9_countOf, 2, 9) := rfl
abbrev mX9_tavern : Nat := 112
theorem MX9_tavern : METH 112 = (BX9_tavern, 3, 9) := rfl
abbrev mX9_tavernFact : Nat := 113
theorem MX9_tavernFact : METH 113 = (BX9_tavernFact, 3, 9) := rfl
abbrev mX9_road : Nat := 114
theorem MX9_road : METH 114 = (BX9_road, 3, 9) := rfl
abbrev mX9_roadFact : Nat := 115
theorem MX9_roadFact : METH 115 = (BX9_roadFact, 4, 9) := rfl
abbrev mX9_rumour : Nat := 116
theorem MX9_rumour : METH 116 = (BX9_rumour, 3, 9) := rfl
abbrev mX9_rumourFact : Nat := 117
theorem MX9_rumourFact : METH 117 = (BX9_rumourFact, 3, 9) := rfl
abbrev mX9_since : Nat := 118
theorem MX9_since : METH 118 = (BX9_since, 3, 9) := rfl
abbrev mX9_isTavern : Nat := 119
theorem MX9_isTavern : METH 119 = (BX9_isTavern, 2, 9) := rfl
abbrev mX9_isRoad : Nat := 120
theorem MX9_isRoad : METH 120 = (BX9_isRoad, 2, 9) := rfl
abbrev mX9_isRumour : Nat := 121
theorem MX9_isRumour : METH 121 = (BX9_isRumour, 2, 9) := rfl
abbrev mX9_far : Nat := 122
theorem MX9_far : METH 122 = (BX9_far, 3, 9) := rfl
abbrev mX9_step : Nat := 123
theorem MX9_step : METH 123 = (BX9_step, 3, 9) := rfl
abbrev mX9_detour : Nat := 124
theorem MX9_detour : METH 124 = (BX9_detour, 2, 9) := rfl
abbrev mX9_replace : Nat := 125
theorem MX9_replace : METH 125 = (BX9_replace, 2, 9) := rfl
abbrev mX9_hurt : Nat := 126
theorem MX9_hurt : METH 126 = (BX9_hurt, 3, 9) := rfl
abbrev mX9_mend : Nat := 127
theorem MX9_mend : METH 127 = (BX9_mend, 2, 9) := rfl
abbrev mX9_tell : Nat := 128
theorem MX9_tell : METH 128 = (BX9_tell, 3, 9) := rfl
abbrev mX9_setMiles : Nat := 129
theorem MX9_setMiles : METH 129 = (BX9_setMiles, 4, 9) := rfl
abbrev mX9_pass : Nat := 130
theorem MX9_pass : METH 130 = (BX9_pass, 2, 9) := rfl
abbrev mX10_isOpen : Nat := 131
theorem MX10_isOpen : METH 131 = (BX10_isOpen, 2, 10) := rfl
abbrev mX9_foresee : Nat := 132
theorem MX9_foresee : METH 132 = (BX9_foresee, 3, 9) := rfl
abbrev mX10_length : Nat := 133
theorem MX10_length : METH 133 = (BX10_length, 2, 10) := rfl
abbrev mX10_ways : Nat := 134
theorem MX10_ways : METH 134 = (BX10_ways, 6, 10) := rfl
abbrev mX9_best : Nat := 135
theorem MX9_best : METH 135 = (BX9_best, 9, 9) := rfl
abbrev mX9_mean : Nat := 136
theorem MX9_mean : METH 136 = (BX9_mean, 3, 9) := rfl
abbrev mX9_digest : Nat := 137
theorem MX9_digest : METH 137 = (BX9_digest, 5, 9) := rfl
abbrev mX9_digestTaverns : Nat := 138
theorem MX9_digestTaverns : METH 138 = (BX9_digestTaverns, 7, 9) := rfl
abbrev mX9_digestRoads : Nat := 139
theorem MX9_digestRoads : METH 139 = (BX9_digestRoads, 7, 9) := rfl
abbrev mX10_far : Nat := 140
theorem MX10_far : METH 140 = (BX10_far, 4, 10) := rfl
abbrev mX10_parts : Nat := 141
theorem MX10_parts : METH 141 = (BX10_parts, 5, 10) := rfl
abbrev mX10_net : Nat := 142
theorem MX10_net : METH 142 = (BX10_net, 9, 10) := rfl
abbrev mX10_lengthOf : Nat := 143
theorem MX10_lengthOf : METH 143 = (BX10_lengthOf, 4, 10) := rfl
abbrev mX10_detour : Nat := 144
theorem MX10_detour : METH 144 = (BX10_detour, 3, 10) := rfl
abbrev mX10_isSpan : Nat := 145
theorem MX10_isSpan : METH 145 = (BX10_isSpan, 2, 10) := rfl
abbrev mX10_heard : Nat := 146
theorem MX10_heard : METH 146 = (BX10_heard, 7, 10) := rfl
abbrev mX10_all : Nat := 147
theorem MX10_all : METH 147 = (BX10_all, 3, 10) := rfl
abbrev mX10_sum : Nat := 148
theorem MX10_sum : METH 148 = (BX10_sum, 3, 10) := rfl
abbrev mX10_holds : Nat := 149
theorem MX10_holds : METH 149 = (BX10_holds, 3, 10) := rfl
abbrev mX10_carries : Nat := 150
theorem MX10_carries : METH 150 = (BX10_carries, 4, 10) := rfl
abbrev mX10_hears : Nat := 151
theorem MX10_hears : METH 151 = (BX10_hears, 3, 10) := rfl
abbrev mX10_pass : Nat := 152
theorem MX10_pass : METH 152 = (BX10_pass, 8, 10) := rfl
abbrev mX10_counts : Nat := 153
theorem MX10_counts : METH 153 = (BX10_counts, 5, 10) := rfl
abbrev mX10_isSame : Nat := 154
theorem MX10_isSame : METH 154 = (BX10_isSame, 10, 10) := rfl
abbrev mL_below : Nat := 155
theorem ML_below : METH 155 = (BL_below, 2, 13) := rfl
abbrev mL_cell : Nat := 156
theorem ML_cell : METH 156 = (BL_cell, 2, 13) := rfl
abbrev mL_taught : Nat := 157
theorem ML_taught : METH 157 = (BL_taught, 5, 13) := rfl
abbrev mL_sum : Nat := 158
theorem ML_sum : METH 158 = (BL_sum, 2, 13) := rfl
abbrev mL_when : Nat := 159
theorem ML_when : METH 159 = (BL_when, 3, 13) := rfl
abbrev mL_list : Nat := 160
theorem ML_list : METH 160 = (BL_list, 8, 13) := rfl
abbrev mL_act : Nat := 161
theorem ML_act : METH 161 = (BL_act, 9, 13) := rfl
abbrev mL_leads : Nat := 162
theorem ML_leads : METH 162 = (BL_leads, 6, 13) := rfl
abbrev mJ0_getBytes_840e7 : Nat := 163
theorem MJ0_getBytes_840e7 : METH 163 = (BJ0_getBytes_840e7, 4, 14) := rfl
abbrev mJ0_init_81219 : Nat := 164
theorem MJ0_init_81219 : METH 164 = (BJ0_init_81219, 2, 14) := rfl
abbrev mJ0_init_db425 : Nat := 165
theorem MJ0_init_db425 : METH 165 = (BJ0_init_db425, 5, 14) := rfl
abbrev mJ15_checkIndex_7cf53 : Nat := 166
theorem MJ15_checkIndex_7cf53 : METH 166 = (BJ15_checkIndex_7cf53, 2, 23) := rfl
abbrev mJ4_append_15ec4 : Nat := 167
theorem MJ4_append_15ec4 : METH 167 = (BJ4_append_15ec4, 2, 11) := rfl
abbrev mJ4_append_bf812 : Nat := 168
theorem MJ4_append_bf812 : METH 168 = (BJ4_append_bf812, 2, 11) := rfl
abbrev mJ4_init_da8c8 : Nat := 169
theorem MJ4_init_da8c8 : METH 169 = (BJ4_init_da8c8, 1, 11) := rfl
abbrev mJ4_toString_0e30d : Nat := 170
theorem MJ4_toString_0e30d : METH 170 = (BJ4_toString_0e30d, 1, 11) := rfl
abbrev mJ5_append_c97b9 : Nat := 171
theorem MJ5_append_c97b9 : METH 171 = (BJ5_append_c97b9, 4, 20) := rfl
abbrev mJ5_append_cf1ce : Nat := 172
theorem MJ5_append_cf1ce : METH 172 = (BJ5_append_cf1ce, 3, 20) := rfl
abbrev mJ5_ensureCapacityInternal_d00df : Nat := 173
theorem MJ5_ensureCapacityInternal_d00df : METH 173 = (BJ5_ensureCapacityInternal_d00df, 3, 20) := rfl
abbrev mJ5_getValue_6d5f1 : Nat := 174
theorem MJ5_getValue_6d5f1 : METH 174 = (BJ5_getValue_6d5f1, 1, 20) := rfl
abbrev mJ5_inflateIfNeededFor_a7421 : Nat := 175
theorem MJ5_inflateIfNeededFor_a7421 : METH 175 = (BJ5_inflateIfNeededFor_a7421, 2, 20) := rfl
abbrev mJ5_init_d00df : Nat := 176
theorem MJ5_init_d00df : METH 176 = (BJ5_init_d00df, 2, 20) := rfl
abbrev mJ5_isLatin1_aae02 : Nat := 177
theorem MJ5_isLatin1_aae02 : METH 177 = (BJ5_isLatin1_aae02, 1, 20) := rfl
abbrev mJ5_length_8abf5 : Nat := 178
theorem MJ5_length_8abf5 : METH 178 = (BJ5_length_8abf5, 1, 20) := rfl
abbrev mJ5_newCapacity_0f7a4 : Nat := 179
theorem MJ5_newCapacity_0f7a4 : METH 179 = (BJ5_newCapacity_0f7a4, 6, 20) := rfl
abbrev mJ5_putStringAt_47b60 : Nat := 180
theorem MJ5_putStringAt_47b60 : METH 180 = (BJ5_putStringAt_47b60, 3, 20) := rfl
abbrev mJ6_getChars_ba4f3 : Nat := 181
theorem MJ6_getChars_ba4f3 : METH 181 = (BJ6_getChars_ba4f3, 7, 21) := rfl
abbrev mJ6_stringSize_0f7a4 : Nat := 182
theorem MJ6_stringSize_0f7a4 : METH 182 = (BJ6_stringSize_0f7a4, 4, 21) := rfl
abbrev mJ7_checkLength_df160 : Nat := 183
theorem MJ7_checkLength_df160 : METH 183 = (BJ7_checkLength_df160, 2, 17) := rfl
abbrev mJ7_copyOfRangeByte_39247 : Nat := 184
theorem MJ7_copyOfRangeByte_39247 : METH 184 = (BJ7_copyOfRangeByte_39247, 5, 17) := rfl
abbrev mJ7_copyOfRange_39247 : Nat := 185
theorem MJ7_copyOfRange_39247 : METH 185 = (BJ7_copyOfRange_39247, 3, 17) := rfl
abbrev mJ7_copyOf_1904c : Nat := 186
theorem MJ7_copyOf_1904c : METH 186 = (BJ7_copyOf_1904c, 2, 17) := rfl
abbrev mJ7_copyOf_6403c : Nat := 187
theorem MJ7_copyOf_6403c : METH 187 = (BJ7_copyOf_6403c, 4, 17) := rfl
abbrev mJ7_copyOf_9075b : Nat := 188
theorem MJ7_copyOf_9075b : METH 188 = (BJ7_copyOf_9075b, 3, 17) := rfl
abbrev mJ8_newLength_cabcc : Nat := 189
theorem MJ8_newLength_cabcc : METH 189 = (BJ8_newLength_cabcc, 4, 22) := rfl
abbrev mJx35411_checkForComodification_da8c8 : Nat := 190
theorem MJx35411_checkForComodification_da8c8 : METH 190 = (BJx35411_checkForComodification_da8c8, 1, 0) := rfl
abbrev mJx35411_hasNext_aae02 : Nat := 191
theorem MJx35411_hasNext_aae02 : METH 191 = (BJx35411_hasNext_aae02, 1, 0) := rfl
abbrev mJx35411_init_45d68 : Nat := 192
theorem MJx35411_init_45d68 : METH 192 = (BJx35411_init_45d68, 2, 0) := rfl
abbrev mJx35411_next_0502b : Nat := 193
theorem MJx35411_next_0502b : METH 193 = (BJx35411_next_0502b, 3, 0) := rfl
abbrev mJx4a65c_add_72be8 : Nat := 194
theorem MJx4a65c_add_72be8 : METH 194 = (BJx4a65c_add_72be8, 4, 12) := rfl
abbrev mJx4a65c_add_9ea2d : Nat := 195
theorem MJx4a65c_add_9ea2d : METH 195 = (BJx4a65c_add_9ea2d, 2, 12) := rfl
abbrev mJx4a65c_elementData_915e3 : Nat := 196
theorem MJx4a65c_elementData_915e3 : METH 196 = (BJx4a65c_elementData_915e3, 2, 12) := rfl
abbrev mJx4a65c_fastRemove_b59b0 : Nat := 197
theorem MJx4a65c_fastRemove_b59b0 : METH 197 = (BJx4a65c_fastRemove_b59b0, 4, 12) := rfl
abbrev mJx4a65c_get_915e3 : Nat := 198
theorem MJx4a65c_get_915e3 : METH 198 = (BJx4a65c_get_915e3, 2, 12) := rfl
abbrev mJx4a65c_grow_92f84 : Nat := 199
theorem MJx4a65c_grow_92f84 : METH 199 = (BJx4a65c_grow_92f84, 4, 12) := rfl
abbrev mJx4a65c_grow_d5877 : Nat := 200
theorem MJx4a65c_grow_d5877 : METH 200 = (BJx4a65c_grow_d5877, 1, 12) := rfl
abbrev mJx4a65c_init_da8c8 : Nat := 201
theorem MJx4a65c_init_da8c8 : METH 201 = (BJx4a65c_init_da8c8, 1, 12) := rfl
abbrev mJx4a65c_iterator_32c93 : Nat := 202
theorem MJx4a65c_iterator_32c93 : METH 202 = (BJx4a65c_iterator_32c93, 1, 12) := rfl
abbrev mJx4a65c_remove_915e3 : Nat := 203
theorem MJx4a65c_remove_915e3 : METH 203 = (BJx4a65c_remove_915e3, 4, 12) := rfl
abbrev mJx4a65c_size_8abf5 : Nat := 204
theorem MJx4a65c_size_8abf5 : METH 204 = (BJx4a65c_size_8abf5, 1, 12) := rfl
abbrev mJxa1e45_init_da8c8 : Nat := 205
theorem MJxa1e45_init_da8c8 : METH 205 = (BJxa1e45_init_da8c8, 1, 25) := rfl
abbrev mJxc12de_init_da8c8 : Nat := 206
theorem MJxc12de_init_da8c8 : METH 206 = (BJxc12de_init_da8c8, 1, 24) := rfl
abbrev mJ4_length_8abf5 : Nat := 207
theorem MJ4_length_8abf5 : METH 207 = (BJ4_length_8abf5, 1, 11) := rfl
abbrev mJ0_coder_7d493 : Nat := 274
theorem MJ0_coder_7d493 : METH 274 = (BJ0_coder_7d493, 1, 14) := rfl
abbrev mL_law : Nat := 269
theorem ML_law : METH 269 = (BL_law, 26, 13) := rfl
abbrev mJ0_length_8abf5 : Nat := 270
theorem MJ0_length_8abf5 : METH 270 = (BJ0_length_8abf5, 1, 14) := rfl
abbrev mJ0_charAt_5068e : Nat := 271
theorem MJ0_charAt_5068e : METH 271 = (BJ0_charAt_5068e, 2, 14) := rfl
abbrev mJ0_isLatin1_aae02 : Nat := 275
theorem MJ0_isLatin1_aae02 : METH 275 = (BJ0_isLatin1_aae02, 1, 14) := rfl
abbrev mJ0_checkIndex_df160 : Nat := 276
theorem MJ0_checkIndex_df160 : METH 276 = (BJ0_checkIndex_df160, 2, 14) := rfl
abbrev mJ1_charAt_3b067 : Nat := 277
theorem MJ1_charAt_3b067 : METH 277 = (BJ1_charAt_3b067, 2, 15) := rfl
abbrev mJ3_checkIndex_8e157 : Nat := 281
theorem MJ3_checkIndex_8e157 : METH 281 = (BJ3_checkIndex_8e157, 3, 16) := rfl
abbrev mJ7_fill_53178 : Nat := 282
theorem MJ7_fill_53178 : METH 282 = (BJ7_fill_53178, 4, 17) := rfl
abbrev mJx29ce0_ordinal_8abf5 : Nat := 283
theorem MJx29ce0_ordinal_8abf5 : METH 283 = (BJx29ce0_ordinal_8abf5, 1, 18) := rfl
abbrev mX3_has : Nat := 284
theorem MX3_has : METH 284 = (BX3_has, 3, 3) := rfl
abbrev mX7_has : Nat := 285
theorem MX7_has : METH 285 = (BX7_has, 2, 7) := rfl
abbrev mX7_lengthOf : Nat := 286
theorem MX7_lengthOf : METH 286 = (BX7_lengthOf, 2, 7) := rfl
abbrev mX7_woundsOf : Nat := 287
theorem MX7_woundsOf : METH 287 = (BX7_woundsOf, 2, 7) := rfl
